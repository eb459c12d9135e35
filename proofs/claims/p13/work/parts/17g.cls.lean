theorem k_2_49 : (Jvm.Cond.fieldLink "StaveHouse$Performance" (83 : Nat) "StaveHouse$Event" "count" "I") ∈ wAll := wA_2 (j := 49) rfl rfl
theorem k_2_22 : (Jvm.Cond.fieldLink "StaveHouse$Performance" (109 : Nat) "StaveHouse$Event" "place" "J") ∈ wAll := wA_2 (j := 22) rfl rfl
theorem k_2_25 : (Jvm.Cond.fieldLink "StaveHouse$Performance" (121 : Nat) "StaveHouse$Event" "length" "J") ∈ wAll := wA_2 (j := 25) rfl rfl
theorem k_6_126 : (Jvm.Cond.methodLink "StaveHouse$Performance" (113 : Nat) ({ cls := "StaveHouse$Performance", name := "tick", desc := "(J)I" } : Jvm.MethodName)) ∈ wAll := wA_6 (j := 126) rfl rfl
theorem k_6_127 : (Jvm.Cond.static ({ cls := "StaveHouse$Performance", name := "tick", desc := "(J)I" } : Jvm.MethodName)) ∈ wAll := wA_6 (j := 127) rfl rfl
theorem k_1_20 : (Jvm.Cond.initialized "StaveHouse$Performance") ∈ wAll := wA_1 (j := 20) rfl rfl
theorem k_6_128 : (Jvm.Cond.code ({ cls := "StaveHouse$Performance", name := "tick", desc := "(J)I" } : Jvm.MethodName) prog_7_method_4_code (2 : Nat) (Option.some Jvm.ClassFile.FieldType.int)) ∈ wAll := wA_6 (j := 128) rfl rfl
theorem k_6_121 : (Jvm.Cond.methodLink "StaveHouse$Performance" (88 : Nat) ({ cls := "StaveHouse$Part", name := "isTiedFrom", desc := "(II)Z" } : Jvm.MethodName)) ∈ wAll := wA_6 (j := 121) rfl rfl
theorem k_6_180 : (Jvm.Cond.methodLink "StaveHouse" (187 : Nat) ({ cls := "StaveHouse", name := "eventAt", desc := "(III)LStaveHouse$Event;" } : Jvm.MethodName)) ∈ wAll := wA_6 (j := 180) rfl rfl
theorem k_6_182 : (Jvm.Cond.instanceMethod ({ cls := "StaveHouse", name := "eventAt", desc := "(III)LStaveHouse$Event;" } : Jvm.MethodName)) ∈ wAll := wA_6 (j := 182) rfl rfl
theorem ks_78 : (Jvm.Cond.selects "StaveHouse" ({ cls := "StaveHouse", name := "eventAt", desc := "(III)LStaveHouse$Event;" } : Jvm.MethodName) ({ cls := "StaveHouse", name := "eventAt", desc := "(III)LStaveHouse$Event;" } : Jvm.MethodName)) ∈ wAll := wA_s (j := 78) rfl rfl
theorem k_6_183 : (Jvm.Cond.code ({ cls := "StaveHouse", name := "eventAt", desc := "(III)LStaveHouse$Event;" } : Jvm.MethodName) prog_1_method_8_code (5 : Nat) (Option.some (Jvm.ClassFile.FieldType.object "StaveHouse$Event"))) ∈ wAll := wA_6 (j := 183) rfl rfl
theorem k_2_52 : (Jvm.Cond.fieldLink "StaveHouse" (206 : Nat) "StaveHouse$Event" "count" "I") ∈ wAll := wA_2 (j := 52) rfl rfl
theorem k_2_62 : (Jvm.Cond.fieldLink "StaveHouse" (219 : Nat) "StaveHouse$Event" "steps" "[I") ∈ wAll := wA_2 (j := 62) rfl rfl
theorem k_2_68 : (Jvm.Cond.fieldLink "StaveHouse" (222 : Nat) "StaveHouse$Event" "alterations" "[I") ∈ wAll := wA_2 (j := 68) rfl rfl
theorem k_4_150 : (Jvm.Cond.fieldLink "StaveHouse" (180 : Nat) "StaveHouse$Part" "noteCount" "I") ∈ wAll := wA_4 (j := 150) rfl rfl
theorem k_4_144 : (Jvm.Cond.fieldLink "StaveHouse" (233 : Nat) "StaveHouse$Part" "notes" "[[I") ∈ wAll := wA_4 (j := 144) rfl rfl
theorem k_4_147 : (Jvm.Cond.fieldLink "StaveHouse" (229 : Nat) "StaveHouse$Part" "notePlaces" "[J") ∈ wAll := wA_4 (j := 147) rfl rfl
theorem k_6_192 : (Jvm.Cond.methodLink "StaveHouse" (201 : Nat) ({ cls := "StaveHouse", name := "below", desc := "(J)J" } : Jvm.MethodName)) ∈ wAll := wA_6 (j := 192) rfl rfl
theorem k_6_193 : (Jvm.Cond.static ({ cls := "StaveHouse", name := "below", desc := "(J)J" } : Jvm.MethodName)) ∈ wAll := wA_6 (j := 193) rfl rfl
theorem k_6_194 : (Jvm.Cond.code ({ cls := "StaveHouse", name := "below", desc := "(J)J" } : Jvm.MethodName) prog_1_method_36_code (4 : Nat) (Option.some Jvm.ClassFile.FieldType.long)) ∈ wAll := wA_6 (j := 194) rfl rfl
theorem k_6_229 : (Jvm.Cond.fieldLink "StaveHouse$Layout" (43 : Nat) "StaveHouse$Layout" "nexts" "[I") ∈ wAll := wA_6 (j := 229) rfl rfl
theorem k_2_193 : (Jvm.Cond.fieldLink "StaveHouse$Layout" (95 : Nat) "StaveHouse$Piece" "partCount" "I") ∈ wAll := wA_2 (j := 193) rfl rfl
theorem k_2_188 : (Jvm.Cond.fieldLink "StaveHouse$Layout" (98 : Nat) "StaveHouse$Piece" "parts" "[LStaveHouse$Part;") ∈ wAll := wA_2 (j := 188) rfl rfl
theorem k_6_227 : (Jvm.Cond.fieldLink "StaveHouse$Layout" (37 : Nat) "StaveHouse$Layout" "best" "[J") ∈ wAll := wA_6 (j := 227) rfl rfl
theorem k_2_225 : (Jvm.Cond.fieldLink "StaveHouse" (159 : Nat) "StaveHouse$Piece" "layout" "LStaveHouse$Layout;") ∈ wAll := wA_2 (j := 225) rfl rfl
theorem k_7_165 : (Jvm.Cond.methodLink "StaveHouse$Performance" (226 : Nat) ({ cls := "StaveHouse$Performance", name := "putMeta", desc := "(LStaveHouse$ByteRow;II)V" } : Jvm.MethodName)) ∈ wAll := wA_7 (j := 165) rfl rfl
theorem k_7_166 : (Jvm.Cond.static ({ cls := "StaveHouse$Performance", name := "putMeta", desc := "(LStaveHouse$ByteRow;II)V" } : Jvm.MethodName)) ∈ wAll := wA_7 (j := 166) rfl rfl
theorem k_7_167 : (Jvm.Cond.code ({ cls := "StaveHouse$Performance", name := "putMeta", desc := "(LStaveHouse$ByteRow;II)V" } : Jvm.MethodName) prog_7_method_20_code (3 : Nat) (Option.none : Option Jvm.ClassFile.FieldType)) ∈ wAll := wA_7 (j := 167) rfl rfl
theorem k_1_47 : (Jvm.Cond.fieldLink "StaveHouse$Performance" (223 : Nat) "StaveHouse$ByteRow" "size" "I") ∈ wAll := wA_1 (j := 47) rfl rfl
theorem k_7_191 : (Jvm.Cond.methodLink "StaveHouse$Performance" (273 : Nat) ({ cls := "StaveHouse$Performance", name := "strokeTold", desc := "(II)I" } : Jvm.MethodName)) ∈ wAll := wA_7 (j := 191) rfl rfl
theorem k_7_113 : (Jvm.Cond.instanceMethod ({ cls := "StaveHouse$Performance", name := "strokeTold", desc := "(II)I" } : Jvm.MethodName)) ∈ wAll := wA_7 (j := 113) rfl rfl
theorem k_7_114 : (Jvm.Cond.selects "StaveHouse$Performance" ({ cls := "StaveHouse$Performance", name := "strokeTold", desc := "(II)I" } : Jvm.MethodName) ({ cls := "StaveHouse$Performance", name := "strokeTold", desc := "(II)I" } : Jvm.MethodName)) ∈ wAll := wA_7 (j := 114) rfl rfl
theorem k_7_115 : (Jvm.Cond.code ({ cls := "StaveHouse$Performance", name := "strokeTold", desc := "(II)I" } : Jvm.MethodName) prog_7_method_15_code (5 : Nat) (Option.some Jvm.ClassFile.FieldType.int)) ∈ wAll := wA_7 (j := 115) rfl rfl
theorem k_7_228 : (Jvm.Cond.fieldLink "StaveHouse$SoundFile" (23 : Nat) "StaveHouse$SoundFile" "row" "LStaveHouse$ByteRow;") ∈ wAll := wA_7 (j := 228) rfl rfl
theorem k_8_57 : (Jvm.Cond.methodLink "StaveHouse$SoundFile" (87 : Nat) ({ cls := "StaveHouse$ByteRow", name := "at", desc := "(I)I" } : Jvm.MethodName)) ∈ wAll := wA_8 (j := 57) rfl rfl
theorem k_6_35 : (Jvm.Cond.methodLink "StaveHouse$Study" (123 : Nat) ({ cls := "StaveHouse$Study", name := "consonance", desc := "(IIII)I" } : Jvm.MethodName)) ∈ wAll := wA_6 (j := 35) rfl rfl
theorem k_6_36 : (Jvm.Cond.static ({ cls := "StaveHouse$Study", name := "consonance", desc := "(IIII)I" } : Jvm.MethodName)) ∈ wAll := wA_6 (j := 36) rfl rfl
theorem k_6_37 : (Jvm.Cond.code ({ cls := "StaveHouse$Study", name := "consonance", desc := "(IIII)I" } : Jvm.MethodName) prog_11_method_10_code (7 : Nat) (Option.some Jvm.ClassFile.FieldType.int)) ∈ wAll := wA_6 (j := 37) rfl rfl
theorem k_6_131 : (Jvm.Cond.methodLink "StaveHouse$Performance" (124 : Nat) ({ cls := "StaveHouse$Event", name := "tone", desc := "(I)I" } : Jvm.MethodName)) ∈ wAll := wA_6 (j := 131) rfl rfl
theorem k_6_22 : (Jvm.Cond.instanceMethod ({ cls := "StaveHouse$Event", name := "tone", desc := "(I)I" } : Jvm.MethodName)) ∈ wAll := wA_6 (j := 22) rfl rfl
theorem k_6_23 : (Jvm.Cond.selects "StaveHouse$Event" ({ cls := "StaveHouse$Event", name := "tone", desc := "(I)I" } : Jvm.MethodName) ({ cls := "StaveHouse$Event", name := "tone", desc := "(I)I" } : Jvm.MethodName)) ∈ wAll := wA_6 (j := 23) rfl rfl
theorem k_6_24 : (Jvm.Cond.code ({ cls := "StaveHouse$Event", name := "tone", desc := "(I)I" } : Jvm.MethodName) prog_3_method_4_code (2 : Nat) (Option.some Jvm.ClassFile.FieldType.int)) ∈ wAll := wA_6 (j := 24) rfl rfl
theorem k_6_139 : (Jvm.Cond.methodLink "StaveHouse$Performance" (105 : Nat) ({ cls := "StaveHouse$Performance", name := "force", desc := "(LStaveHouse$Event;)I" } : Jvm.MethodName)) ∈ wAll := wA_6 (j := 139) rfl rfl
theorem k_6_140 : (Jvm.Cond.static ({ cls := "StaveHouse$Performance", name := "force", desc := "(LStaveHouse$Event;)I" } : Jvm.MethodName)) ∈ wAll := wA_6 (j := 140) rfl rfl
theorem k_6_141 : (Jvm.Cond.code ({ cls := "StaveHouse$Performance", name := "force", desc := "(LStaveHouse$Event;)I" } : Jvm.MethodName) prog_7_method_5_code (1 : Nat) (Option.some Jvm.ClassFile.FieldType.int)) ∈ wAll := wA_6 (j := 141) rfl rfl
theorem k_6_146 : (Jvm.Cond.methodLink "StaveHouse$Performance" (117 : Nat) ({ cls := "StaveHouse$Performance", name := "lastTied", desc := "(LStaveHouse$Part;II)I" } : Jvm.MethodName)) ∈ wAll := wA_6 (j := 146) rfl rfl
theorem k_6_147 : (Jvm.Cond.static ({ cls := "StaveHouse$Performance", name := "lastTied", desc := "(LStaveHouse$Part;II)I" } : Jvm.MethodName)) ∈ wAll := wA_6 (j := 147) rfl rfl
theorem k_6_148 : (Jvm.Cond.code ({ cls := "StaveHouse$Performance", name := "lastTied", desc := "(LStaveHouse$Part;II)I" } : Jvm.MethodName) prog_7_method_8_code (6 : Nat) (Option.some Jvm.ClassFile.FieldType.int)) ∈ wAll := wA_6 (j := 148) rfl rfl
theorem k_6_150 : (Jvm.Cond.methodLink "StaveHouse$Performance" (127 : Nat) ({ cls := "StaveHouse$Performance", name := "sounded", desc := "(LStaveHouse$Event;I)I" } : Jvm.MethodName)) ∈ wAll := wA_6 (j := 150) rfl rfl
theorem k_6_151 : (Jvm.Cond.static ({ cls := "StaveHouse$Performance", name := "sounded", desc := "(LStaveHouse$Event;I)I" } : Jvm.MethodName)) ∈ wAll := wA_6 (j := 151) rfl rfl
theorem k_6_152 : (Jvm.Cond.code ({ cls := "StaveHouse$Performance", name := "sounded", desc := "(LStaveHouse$Event;I)I" } : Jvm.MethodName) prog_7_method_9_code (2 : Nat) (Option.some Jvm.ClassFile.FieldType.int)) ∈ wAll := wA_6 (j := 152) rfl rfl
theorem k_6_135 : (Jvm.Cond.methodLink "StaveHouse$Performance" (131 : Nat) ({ cls := "StaveHouse$Performance", name := "addSound", desc := "(IIILStaveHouse$Event;II)V" } : Jvm.MethodName)) ∈ wAll := wA_6 (j := 135) rfl rfl
theorem k_6_137 : (Jvm.Cond.instanceMethod ({ cls := "StaveHouse$Performance", name := "addSound", desc := "(IIILStaveHouse$Event;II)V" } : Jvm.MethodName)) ∈ wAll := wA_6 (j := 137) rfl rfl
theorem ks_75 : (Jvm.Cond.selects "StaveHouse$Performance" ({ cls := "StaveHouse$Performance", name := "addSound", desc := "(IIILStaveHouse$Event;II)V" } : Jvm.MethodName) ({ cls := "StaveHouse$Performance", name := "addSound", desc := "(IIILStaveHouse$Event;II)V" } : Jvm.MethodName)) ∈ wAll := wA_s (j := 75) rfl rfl
theorem k_6_138 : (Jvm.Cond.code ({ cls := "StaveHouse$Performance", name := "addSound", desc := "(IIILStaveHouse$Event;II)V" } : Jvm.MethodName) prog_7_method_6_code (7 : Nat) (Option.none : Option Jvm.ClassFile.FieldType)) ∈ wAll := wA_6 (j := 138) rfl rfl
theorem k_4_119 : (Jvm.Cond.fieldLink "StaveHouse" (174 : Nat) "StaveHouse$Part" "clef" "I") ∈ wAll := wA_4 (j := 119) rfl rfl
theorem k_4_122 : (Jvm.Cond.fieldLink "StaveHouse" (177 : Nat) "StaveHouse$Part" "number" "I") ∈ wAll := wA_4 (j := 122) rfl rfl
theorem k_6_200 : (Jvm.Cond.methodLink "StaveHouse" (225 : Nat) ({ cls := "StaveHouse$Event", name := "tone", desc := "(I)I" } : Jvm.MethodName)) ∈ wAll := wA_6 (j := 200) rfl rfl
theorem k_6_185 : (Jvm.Cond.methodLink "StaveHouse" (198 : Nat) ({ cls := "StaveHouse", name := "above", desc := "(J)J" } : Jvm.MethodName)) ∈ wAll := wA_6 (j := 185) rfl rfl
theorem k_6_186 : (Jvm.Cond.static ({ cls := "StaveHouse", name := "above", desc := "(J)J" } : Jvm.MethodName)) ∈ wAll := wA_6 (j := 186) rfl rfl
theorem k_6_187 : (Jvm.Cond.code ({ cls := "StaveHouse", name := "above", desc := "(J)J" } : Jvm.MethodName) prog_1_method_35_code (4 : Nat) (Option.some Jvm.ClassFile.FieldType.long)) ∈ wAll := wA_6 (j := 187) rfl rfl
theorem k_7_35 : (Jvm.Cond.methodLink "StaveHouse$Layout" (102 : Nat) ({ cls := "StaveHouse$Layout", name := "beginsIn", desc := "(LStaveHouse$Part;II)Z" } : Jvm.MethodName)) ∈ wAll := wA_7 (j := 35) rfl rfl
theorem k_7_36 : (Jvm.Cond.static ({ cls := "StaveHouse$Layout", name := "beginsIn", desc := "(LStaveHouse$Part;II)Z" } : Jvm.MethodName)) ∈ wAll := wA_7 (j := 36) rfl rfl
theorem k_7_37 : (Jvm.Cond.code ({ cls := "StaveHouse$Layout", name := "beginsIn", desc := "(LStaveHouse$Part;II)Z" } : Jvm.MethodName) prog_4_method_6_code (3 : Nat) (Option.some Jvm.ClassFile.FieldType.boolean)) ∈ wAll := wA_7 (j := 37) rfl rfl
theorem k_4_146 : (Jvm.Cond.fieldLink "StaveHouse$Layout" (106 : Nat) "StaveHouse$Part" "notePlaces" "[J") ∈ wAll := wA_4 (j := 146) rfl rfl
theorem k_7_54 : (Jvm.Cond.constantLong "StaveHouse$Layout" (138 : Nat) (1152921504606846976 : Int64)) ∈ wAll := wA_7 (j := 54) rfl rfl
theorem k_7_55 : (Jvm.Cond.methodLink "StaveHouse$Layout" (140 : Nat) ({ cls := "StaveHouse$Layout", name := "price", desc := "(JJZ)J" } : Jvm.MethodName)) ∈ wAll := wA_7 (j := 55) rfl rfl
theorem k_7_56 : (Jvm.Cond.static ({ cls := "StaveHouse$Layout", name := "price", desc := "(JJZ)J" } : Jvm.MethodName)) ∈ wAll := wA_7 (j := 56) rfl rfl
theorem k_7_57 : (Jvm.Cond.code ({ cls := "StaveHouse$Layout", name := "price", desc := "(JJZ)J" } : Jvm.MethodName) prog_4_method_11_code (5 : Nat) (Option.some Jvm.ClassFile.FieldType.long)) ∈ wAll := wA_7 (j := 57) rfl rfl
theorem k_6_228 : (Jvm.Cond.fieldLink "StaveHouse$Layout" (40 : Nat) "StaveHouse$Layout" "breaks" "[I") ∈ wAll := wA_6 (j := 228) rfl rfl
theorem k_7_71 : (Jvm.Cond.methodLink "StaveHouse" (242 : Nat) ({ cls := "StaveHouse$Layout", name := "tell", desc := "(II)J" } : Jvm.MethodName)) ∈ wAll := wA_7 (j := 71) rfl rfl
theorem k_7_72 : (Jvm.Cond.instanceMethod ({ cls := "StaveHouse$Layout", name := "tell", desc := "(II)J" } : Jvm.MethodName)) ∈ wAll := wA_7 (j := 72) rfl rfl
theorem k_7_73 : (Jvm.Cond.selects "StaveHouse$Layout" ({ cls := "StaveHouse$Layout", name := "tell", desc := "(II)J" } : Jvm.MethodName) ({ cls := "StaveHouse$Layout", name := "tell", desc := "(II)J" } : Jvm.MethodName)) ∈ wAll := wA_7 (j := 73) rfl rfl
theorem k_7_74 : (Jvm.Cond.code ({ cls := "StaveHouse$Layout", name := "tell", desc := "(II)J" } : Jvm.MethodName) prog_4_method_13_code (3 : Nat) (Option.some Jvm.ClassFile.FieldType.long)) ∈ wAll := wA_7 (j := 74) rfl rfl
theorem k_7_79 : (Jvm.Cond.methodLink "StaveHouse" (246 : Nat) ({ cls := "StaveHouse$Layout", name := "columnX", desc := "(IJ)I" } : Jvm.MethodName)) ∈ wAll := wA_7 (j := 79) rfl rfl
theorem k_7_80 : (Jvm.Cond.instanceMethod ({ cls := "StaveHouse$Layout", name := "columnX", desc := "(IJ)I" } : Jvm.MethodName)) ∈ wAll := wA_7 (j := 80) rfl rfl
theorem k_7_81 : (Jvm.Cond.selects "StaveHouse$Layout" ({ cls := "StaveHouse$Layout", name := "columnX", desc := "(IJ)I" } : Jvm.MethodName) ({ cls := "StaveHouse$Layout", name := "columnX", desc := "(IJ)I" } : Jvm.MethodName)) ∈ wAll := wA_7 (j := 81) rfl rfl
theorem k_7_82 : (Jvm.Cond.code ({ cls := "StaveHouse$Layout", name := "columnX", desc := "(IJ)I" } : Jvm.MethodName) prog_4_method_14_code (5 : Nat) (Option.some Jvm.ClassFile.FieldType.int)) ∈ wAll := wA_7 (j := 82) rfl rfl
theorem k_7_100 : (Jvm.Cond.methodLink "StaveHouse$Performance" (180 : Nat) ({ cls := "StaveHouse$Performance", name := "merge", desc := "(III)V" } : Jvm.MethodName)) ∈ wAll := wA_7 (j := 100) rfl rfl
theorem k_7_102 : (Jvm.Cond.instanceMethod ({ cls := "StaveHouse$Performance", name := "merge", desc := "(III)V" } : Jvm.MethodName)) ∈ wAll := wA_7 (j := 102) rfl rfl
theorem ks_88 : (Jvm.Cond.selects "StaveHouse$Performance" ({ cls := "StaveHouse$Performance", name := "merge", desc := "(III)V" } : Jvm.MethodName) ({ cls := "StaveHouse$Performance", name := "merge", desc := "(III)V" } : Jvm.MethodName)) ∈ wAll := wA_s (j := 88) rfl rfl
theorem k_7_103 : (Jvm.Cond.code ({ cls := "StaveHouse$Performance", name := "merge", desc := "(III)V" } : Jvm.MethodName) prog_7_method_14_code (8 : Nat) (Option.none : Option Jvm.ClassFile.FieldType)) ∈ wAll := wA_7 (j := 103) rfl rfl
theorem k_7_112 : (Jvm.Cond.methodLink "StaveHouse" (260 : Nat) ({ cls := "StaveHouse$Performance", name := "strokeTold", desc := "(II)I" } : Jvm.MethodName)) ∈ wAll := wA_7 (j := 112) rfl rfl
theorem k_7_179 : (Jvm.Cond.methodLink "StaveHouse$Performance" (230 : Nat) ({ cls := "StaveHouse$ByteRow", name := "setWide", desc := "(II)V" } : Jvm.MethodName)) ∈ wAll := wA_7 (j := 179) rfl rfl
theorem k_7_180 : (Jvm.Cond.instanceMethod ({ cls := "StaveHouse$ByteRow", name := "setWide", desc := "(II)V" } : Jvm.MethodName)) ∈ wAll := wA_7 (j := 180) rfl rfl
theorem k_7_181 : (Jvm.Cond.selects "StaveHouse$ByteRow" ({ cls := "StaveHouse$ByteRow", name := "setWide", desc := "(II)V" } : Jvm.MethodName) ({ cls := "StaveHouse$ByteRow", name := "setWide", desc := "(II)V" } : Jvm.MethodName)) ∈ wAll := wA_7 (j := 181) rfl rfl
theorem k_7_182 : (Jvm.Cond.code ({ cls := "StaveHouse$ByteRow", name := "setWide", desc := "(II)V" } : Jvm.MethodName) prog_2_method_9_code (4 : Nat) (Option.none : Option Jvm.ClassFile.FieldType)) ∈ wAll := wA_7 (j := 182) rfl rfl
theorem k_7_192 : (Jvm.Cond.methodLink "StaveHouse$Performance" (276 : Nat) ({ cls := "StaveHouse$ByteRow", name := "putDelta", desc := "(I)V" } : Jvm.MethodName)) ∈ wAll := wA_7 (j := 192) rfl rfl
theorem k_7_193 : (Jvm.Cond.instanceMethod ({ cls := "StaveHouse$ByteRow", name := "putDelta", desc := "(I)V" } : Jvm.MethodName)) ∈ wAll := wA_7 (j := 193) rfl rfl
theorem k_7_194 : (Jvm.Cond.selects "StaveHouse$ByteRow" ({ cls := "StaveHouse$ByteRow", name := "putDelta", desc := "(I)V" } : Jvm.MethodName) ({ cls := "StaveHouse$ByteRow", name := "putDelta", desc := "(I)V" } : Jvm.MethodName)) ∈ wAll := wA_7 (j := 194) rfl rfl
theorem k_7_195 : (Jvm.Cond.code ({ cls := "StaveHouse$ByteRow", name := "putDelta", desc := "(I)V" } : Jvm.MethodName) prog_2_method_8_code (3 : Nat) (Option.none : Option Jvm.ClassFile.FieldType)) ∈ wAll := wA_7 (j := 195) rfl rfl
theorem W_prog_3_method_4_code_0 : chW prog_3_method_4_code 0 [42, 180, 0, 9, 27, 46, 184, 0, 25, 42, 180, 0, 15, 27, 46, 96, 172] := chW_of (by decide +kernel)
theorem W_prog_11_method_9_code_0 : chW prog_11_method_9_code 0 [42, 180, 0, 27, 28, 46, 2, 159, 0, 13, 42, 180, 0, 27, 29, 46, 2, 160, 0, 5, 3, 172, 42, 180, 0, 33, 28, 46, 2, 159, 0, 17, 42, 180, 0, 33] := chW_of (by decide +kernel)
theorem W_prog_11_method_9_code_32 : chW prog_11_method_9_code 32 [42, 180, 0, 33, 29, 46, 2, 159, 0, 7, 4, 167, 0, 4, 3, 54, 4, 27, 7, 160, 0, 44, 42, 180, 0, 27, 29, 46, 42, 180, 0, 27, 28, 46, 164, 0] := chW_of (by decide +kernel)
theorem W_prog_11_method_9_code_64 : chW prog_11_method_9_code 64 [28, 46, 164, 0, 27, 21, 4, 153, 0, 18, 42, 180, 0, 33, 29, 46, 42, 180, 0, 33, 28, 46, 163, 0, 7, 4, 167, 0, 4, 3, 172, 42, 180, 0, 27, 28] := chW_of (by decide +kernel)
theorem W_prog_11_method_9_code_96 : chW prog_11_method_9_code 96 [180, 0, 27, 28, 46, 42, 180, 0, 33, 28, 46, 164, 0, 22, 42, 180, 0, 27, 29, 46, 42, 180, 0, 33, 29, 46, 164, 0, 7, 4, 167, 0, 4, 3, 54, 5] := chW_of (by decide +kernel)
theorem W_prog_11_method_9_code_128 : chW prog_11_method_9_code 128 [4, 3, 54, 5, 42, 180, 0, 27, 28, 46, 42, 180, 0, 33, 28, 46, 162, 0, 22, 42, 180, 0, 27, 29, 46, 42, 180, 0, 33, 29, 46, 162, 0, 7, 4, 167] := chW_of (by decide +kernel)
theorem W_prog_11_method_9_code_160 : chW prog_11_method_9_code 160 [0, 7, 4, 167, 0, 4, 3, 54, 6, 21, 4, 153, 0, 31, 42, 180, 0, 36, 28, 51, 153, 0, 22, 42, 180, 0, 36, 29, 51, 153, 0, 13, 21, 5, 154, 0] := chW_of (by decide +kernel)
theorem W_prog_11_method_9_code_192 : chW prog_11_method_9_code 192 [21, 5, 154, 0, 10, 21, 6, 154, 0, 5, 3, 172, 42, 180, 0, 23, 28, 46, 42, 180, 0, 27, 28, 46, 42, 180, 0, 23, 29, 46, 42, 180, 0, 27, 29, 46] := chW_of (by decide +kernel)
theorem W_prog_11_method_9_code_224 : chW prog_11_method_9_code 224 [0, 27, 29, 46, 184, 0, 123, 54, 7, 42, 180, 0, 30, 28, 46, 42, 180, 0, 33, 28, 46, 42, 180, 0, 30, 29, 46, 42, 180, 0, 33, 29, 46, 184, 0, 123] := chW_of (by decide +kernel)
theorem W_prog_7_method_6_code_0 : chW prog_7_method_6_code 0 [42, 180, 0, 36, 17, 7, 208, 161, 0, 9, 42, 4, 181, 0, 40, 177, 42, 180, 0, 23, 3, 50, 42, 180, 0, 36, 27, 79, 42, 180, 0, 23, 4, 50, 42, 180] := chW_of (by decide +kernel)
theorem W_prog_7_method_6_code_32 : chW prog_7_method_6_code 32 [4, 50, 42, 180, 0, 36, 28, 79, 42, 180, 0, 23, 5, 50, 42, 180, 0, 36, 29, 79, 42, 180, 0, 23, 6, 50, 42, 180, 0, 36, 25, 4, 184, 0, 105, 79] := chW_of (by decide +kernel)
theorem W_prog_7_method_6_code_64 : chW prog_7_method_6_code 64 [184, 0, 105, 79, 42, 180, 0, 23, 7, 50, 42, 180, 0, 36, 21, 5, 79, 42, 180, 0, 23, 8, 50, 42, 180, 0, 36, 21, 6, 79, 42, 89, 180, 0, 36, 4] := chW_of (by decide +kernel)
theorem W_prog_7_method_7_code_0 : chW prog_7_method_7_code 0 [43, 180, 0, 73, 29, 50, 58, 4, 25, 4, 180, 0, 109, 184, 0, 113, 54, 5, 3, 54, 6, 21, 6, 25, 4, 180, 0, 83, 162, 0, 84, 43, 29, 21, 6, 182] := chW_of (by decide +kernel)
theorem W_prog_7_method_7_code_96 : chW prog_7_method_7_code 96 [7, 21, 8, 184, 0, 127, 96, 182, 0, 131, 132, 6, 1, 167, 255, 168, 177] := chW_of (by decide +kernel)
theorem W_prog_7_method_7_code_32 : chW prog_7_method_7_code 32 [29, 21, 6, 182, 0, 88, 154, 0, 68, 43, 180, 0, 73, 43, 29, 21, 6, 184, 0, 117, 50, 58, 7, 25, 7, 180, 0, 109, 25, 7, 180, 0, 121, 97, 184, 0] := chW_of (by decide +kernel)
theorem W_prog_1_method_11_code_0 : chW prog_1_method_11_code 0 [42, 27, 28, 182, 0, 101, 58, 4, 25, 4, 199, 0, 5, 2, 172, 29, 170, 0, 0, 0, 0, 0, 0, 56, 0, 0, 0, 0, 0, 0, 0, 3, 0, 0, 0, 32] := chW_of (by decide +kernel)
theorem W_prog_1_method_35_code_0 : chW prog_1_method_35_code 0 [30, 20, 1, 79, 184, 1, 81, 65, 32, 9, 148, 154, 0, 7, 30, 167, 0, 6, 30, 32, 109, 173] := chW_of (by decide +kernel)
theorem W_prog_1_method_14_code_0 : chW prog_1_method_14_code 0 [42, 27, 28, 29, 182, 0, 187, 58, 6, 25, 6, 198, 0, 18, 21, 4, 155, 0, 13, 21, 4, 25, 6, 180, 0, 206, 161, 0, 6, 18, 218, 172, 21, 5, 170, 0] := chW_of (by decide +kernel)
theorem W_prog_1_method_14_code_32 : chW prog_1_method_14_code 32 [21, 5, 170, 0, 0, 0, 0, 52, 0, 0, 0, 0, 0, 0, 0, 2, 0, 0, 0, 26, 0, 0, 0, 35, 0, 0, 0, 44, 25, 6, 180, 0, 219, 21, 4, 46] := chW_of (by decide +kernel)
theorem d_1_14_34 : decode prog_1_method_14_code 34 = .ok (.tableswitch 52 0 2 #[26, 35, 44], 26) := by decide +kernel
theorem W_prog_1_method_14_code_64 : chW prog_1_method_14_code 64 [219, 21, 4, 46, 172, 25, 6, 180, 0, 222, 21, 4, 46, 172, 25, 6, 21, 4, 182, 0, 225, 172, 18, 218, 172] := chW_of (by decide +kernel)
theorem W_prog_1_method_15_code_0 : chW prog_1_method_15_code 0 [42, 27, 28, 182, 0, 101, 58, 5, 25, 5, 198, 0, 28, 29, 155, 0, 24, 29, 25, 5, 180, 0, 180, 162, 0, 15, 21, 4, 155, 0, 10, 21, 4, 16, 12, 161] := chW_of (by decide +kernel)
theorem W_prog_1_method_15_code_32 : chW prog_1_method_15_code 32 [4, 16, 12, 161, 0, 7, 20, 0, 191, 173, 21, 4, 5, 160, 0, 14, 25, 5, 180, 0, 229, 29, 47, 184, 0, 198, 173, 21, 4, 6, 160, 0, 16, 25, 5, 180] := chW_of (by decide +kernel)
theorem W_prog_1_method_15_code_64 : chW prog_1_method_15_code 64 [16, 25, 5, 180, 0, 229, 29, 47, 184, 0, 201, 167, 0, 14, 25, 5, 180, 0, 233, 21, 4, 50, 29, 46, 133, 173] := chW_of (by decide +kernel)
theorem W_prog_4_method_5_code_0 : chW prog_4_method_5_code 0 [20, 0, 118, 66, 3, 54, 5, 21, 5, 43, 180, 0, 95, 162, 0, 72, 43, 180, 0, 98, 21, 5, 50, 58, 6, 25, 6, 42, 180, 0, 43, 21, 5, 46, 28, 184] := chW_of (by decide +kernel)
theorem W_prog_4_method_5_code_64 : chW prog_4_method_5_code 64 [17, 25, 6, 180, 0, 106, 42, 180, 0, 43, 21, 5, 46, 47, 66, 132, 5, 1, 167, 255, 181, 33, 173] := chW_of (by decide +kernel)
theorem W_prog_4_method_5_code_32 : chW prog_4_method_5_code 32 [5, 46, 28, 184, 0, 102, 153, 0, 41, 33, 9, 148, 155, 0, 21, 25, 6, 180, 0, 106, 42, 180, 0, 43, 21, 5, 46, 47, 33, 148, 156, 0, 17, 25, 6, 180] := chW_of (by decide +kernel)
theorem W_prog_4_method_10_code_0 : chW prog_4_method_10_code 0 [42, 180, 0, 37, 28, 9, 80, 28, 4, 100, 54, 4, 21, 4, 155, 0, 137, 43, 21, 4, 184, 0, 134, 54, 5, 42, 180, 0, 37, 21, 4, 20, 0, 138, 80, 21] := chW_of (by decide +kernel)
theorem W_prog_4_method_10_code_128 : chW prog_4_method_10_code 128 [7, 80, 42, 180, 0, 40, 21, 4, 21, 6, 79, 132, 6, 1, 167, 255, 155, 132, 4, 255, 167, 255, 120, 177] := chW_of (by decide +kernel)
theorem W_prog_1_method_17_code_0 : chW prog_1_method_17_code 0 [42, 27, 182, 0, 97, 58, 4, 25, 4, 198, 0, 11, 25, 4, 180, 0, 159, 199, 0, 7, 20, 0, 191, 173, 25, 4, 180, 0, 159, 28, 29, 182, 0, 242, 173] := chW_of (by decide +kernel)
theorem W_prog_1_method_18_code_0 : chW prog_1_method_18_code 0 [42, 27, 28, 182, 0, 101, 58, 4, 42, 27, 182, 0, 97, 58, 5, 25, 4, 198, 0, 29, 25, 5, 198, 0, 24, 25, 5, 180, 0, 159, 198, 0, 16, 29, 155, 0] := chW_of (by decide +kernel)
theorem W_prog_1_method_18_code_32 : chW prog_1_method_18_code 32 [16, 29, 155, 0, 12, 29, 25, 4, 180, 0, 180, 161, 0, 5, 2, 172, 25, 5, 180, 0, 159, 25, 4, 180, 0, 233, 4, 50, 29, 46, 25, 4, 180, 0, 229, 29] := chW_of (by decide +kernel)
theorem W_prog_1_method_18_code_64 : chW prog_1_method_18_code 64 [180, 0, 229, 29, 47, 182, 0, 246, 172] := chW_of (by decide +kernel)
theorem W_prog_7_method_13_code_0 : chW prog_7_method_13_code 0 [5, 42, 180, 0, 36, 104, 60, 4, 61, 28, 27, 162, 0, 65, 3, 62, 29, 27, 162, 0, 33, 42, 29, 29, 28, 96, 27, 184, 0, 99, 29, 5, 28, 104, 96, 27] := chW_of (by decide +kernel)
theorem W_prog_7_method_13_code_64 : chW prog_7_method_13_code 64 [42, 45, 181, 0, 26, 28, 5, 104, 61, 167, 255, 192, 177] := chW_of (by decide +kernel)
theorem W_prog_7_method_13_code_32 : chW prog_7_method_13_code 32 [28, 104, 96, 27, 184, 0, 99, 182, 0, 180, 29, 5, 28, 104, 96, 62, 167, 255, 224, 42, 180, 0, 30, 78, 42, 42, 180, 0, 26, 181, 0, 30, 42, 45, 181, 0] := chW_of (by decide +kernel)
theorem W_prog_1_method_20_code_0 : chW prog_1_method_20_code 0 [42, 27, 182, 1, 0, 58, 4, 25, 4, 199, 0, 7, 2, 167, 0, 10, 25, 4, 28, 29, 182, 1, 4, 172] := chW_of (by decide +kernel)
theorem W_prog_7_method_19_code_0 : chW prog_7_method_19_code 0 [42, 16, 47, 3, 184, 0, 226, 42, 27, 7, 100, 42, 180, 0, 223, 27, 100, 182, 0, 230, 177] := chW_of (by decide +kernel)
theorem W_prog_7_method_23_code_0 : chW prog_7_method_23_code 0 [3, 62, 3, 54, 4, 3, 54, 5, 21, 5, 5, 42, 180, 0, 36, 104, 162, 0, 80, 42, 21, 5, 4, 182, 1, 17, 27, 160, 0, 63, 44, 42, 21, 5, 3, 182] := chW_of (by decide +kernel)
theorem W_prog_7_method_23_code_96 : chW prog_7_method_23_code 96 [177] := chW_of (by decide +kernel)
theorem W_prog_7_method_23_code_32 : chW prog_7_method_23_code 32 [21, 5, 3, 182, 1, 17, 29, 100, 182, 1, 20, 42, 21, 5, 3, 182, 1, 17, 62, 21, 4, 154, 0, 12, 44, 17, 0, 144, 27, 96, 182, 0, 233, 4, 54, 4] := chW_of (by decide +kernel)
theorem W_prog_10_method_5_code_0 : chW prog_10_method_5_code 0 [42, 180, 0, 27, 42, 180, 0, 36, 162, 0, 10, 42, 180, 0, 23, 199, 0, 14, 42, 5, 42, 180, 0, 36, 182, 0, 83, 3, 172, 42, 89, 180, 0, 27, 4, 96] := chW_of (by decide +kernel)
theorem W_prog_10_method_5_code_32 : chW prog_10_method_5_code 32 [0, 27, 4, 96, 181, 0, 27, 42, 180, 0, 23, 42, 180, 0, 27, 4, 100, 182, 0, 87, 172] := chW_of (by decide +kernel)
theorem W_prog_11_method_9_code_256 : chW prog_11_method_9_code 256 [46, 184, 0, 123, 54, 8, 27, 6, 162, 0, 21, 21, 7, 27, 160, 0, 13, 21, 8, 27, 160, 0, 7, 4, 167, 0, 4, 3, 172, 42, 180, 0, 27, 29, 46, 42] := chW_of (by decide +kernel)
theorem W_prog_11_method_9_code_288 : chW prog_11_method_9_code 288 [27, 29, 46, 42, 180, 0, 27, 28, 46, 164, 0, 7, 29, 167, 0, 4, 28, 54, 9, 21, 7, 153, 0, 36, 21, 7, 21, 8, 159, 0, 29, 42, 180, 0, 23, 21] := chW_of (by decide +kernel)
theorem W_prog_11_method_9_code_320 : chW prog_11_method_9_code 320 [180, 0, 23, 21, 9, 46, 42, 180, 0, 30, 21, 9, 46, 100, 184, 0, 127, 5, 164, 0, 7, 4, 167, 0, 4, 3, 172] := chW_of (by decide +kernel)
theorem W_prog_7_method_6_code_96 : chW prog_7_method_6_code 96 [180, 0, 36, 4, 96, 181, 0, 36, 177] := chW_of (by decide +kernel)
theorem W_prog_7_method_7_code_64 : chW prog_7_method_7_code 64 [121, 97, 184, 0, 113, 21, 5, 100, 54, 8, 21, 8, 158, 0, 30, 42, 28, 29, 25, 4, 21, 6, 182, 0, 124, 25, 4, 21, 5, 21, 5, 25, 7, 21, 8, 184] := chW_of (by decide +kernel)
theorem d_7_7_106 : decode prog_7_method_7_code 106 = .ok (.iinc 6 1, 3) := D_132 W_prog_7_method_7_code_96 10 rfl rfl rfl
theorem d_1_11_16 : decode prog_1_method_11_code 16 = .ok (.tableswitch 56 0 3 #[32, 38, 44, 50], 32) := by decide +kernel
theorem W_prog_1_method_11_code_32 : chW prog_1_method_11_code 32 [0, 0, 0, 32, 0, 0, 0, 38, 0, 0, 0, 44, 0, 0, 0, 50, 25, 4, 180, 0, 174, 172, 25, 4, 180, 0, 177, 172, 25, 4, 180, 0, 105, 172, 25, 4] := chW_of (by decide +kernel)
theorem W_prog_1_method_11_code_64 : chW prog_1_method_11_code 64 [105, 172, 25, 4, 180, 0, 180, 172, 2, 172] := chW_of (by decide +kernel)
theorem d_4_5_79 : decode prog_4_method_5_code 79 = .ok (.iinc 5 1, 3) := D_132 W_prog_4_method_5_code_64 15 rfl rfl rfl
theorem W_prog_4_method_10_code_32 : chW prog_4_method_10_code 32 [0, 138, 80, 21, 4, 4, 96, 54, 6, 21, 6, 28, 163, 0, 101, 21, 5, 42, 180, 0, 25, 21, 6, 4, 100, 46, 96, 54, 5, 21, 5, 29, 164, 0, 15, 21] := chW_of (by decide +kernel)
theorem W_prog_4_method_10_code_64 : chW prog_4_method_10_code 64 [164, 0, 15, 21, 6, 21, 4, 4, 96, 164, 0, 6, 167, 0, 69, 29, 133, 21, 5, 133, 21, 6, 28, 160, 0, 7, 4, 167, 0, 4, 3, 184, 0, 140, 42, 180] := chW_of (by decide +kernel)
theorem d_4_10_145 : decode prog_4_method_10_code 145 = .ok (.iinc 4 (-1), 3) := D_132 W_prog_4_method_10_code_128 17 rfl rfl rfl
theorem W_prog_4_method_10_code_96 : chW prog_4_method_10_code 96 [0, 140, 42, 180, 0, 37, 21, 6, 47, 97, 55, 7, 22, 7, 42, 180, 0, 37, 21, 4, 47, 148, 157, 0, 21, 42, 180, 0, 37, 21, 4, 22, 7, 80, 42, 180] := chW_of (by decide +kernel)
theorem d_4_10_139 : decode prog_4_method_10_code 139 = .ok (.iinc 6 1, 3) := D_132 W_prog_4_method_10_code_128 11 rfl rfl rfl
theorem W_prog_1_method_17_code_32 : chW prog_1_method_17_code 32 [0, 242, 173] := chW_of (by decide +kernel)
theorem W_prog_7_method_23_code_64 : chW prog_7_method_23_code 64 [233, 4, 54, 4, 44, 42, 21, 5, 5, 182, 1, 17, 182, 0, 233, 44, 42, 21, 5, 6, 182, 1, 17, 182, 0, 233, 132, 5, 1, 167, 255, 171, 177] := chW_of (by decide +kernel)
theorem d_7_23_90 : decode prog_7_method_23_code 90 = .ok (.iinc 5 1, 3) := D_132 W_prog_7_method_23_code_64 26 rfl rfl rfl
abbrev Q_Event_tone (K : zK) (D : va_G) (ca : Nat → ClassId) (ad : Nat → Int → Nat → Nat) (L : List Nat) (r : Int) (F : zF) (B : zB) (A : Nat → Prop) : Array Value → State → Outcome → State → Prop := va_Qi (S := Unit) (fun p _ => p = iI r) (fun _ => zPo D ca ad lnC K.2 L F B A) A
def f_Event_tone (K : zK) (l0 : Int) (l1 : Int) (F : zF) (B : zB) : zO := if 0 ≤ l0 ∧ l0 < K.2 1 then if 0 ≤ l1 ∧ l1 < 6 then zbind (f_S_naturalTone K (B 1 l0 12 l1) F B) (fun r3 F3 B3 => some (r3 + (B3 1 l0 13 l1), F3, B3)) else none else none
set_option maxHeartbeats 4000000 in
set_option maxRecDepth 100000 in
theorem c_Event_tone {l : Launch} {D : va_G} {ca : Nat → ClassId} {ad : Nat → Int → Nat → Nat} {L : List Nat} {aS vS : Nat → Nat} {sz : Nat} {K : zK}  {l0 : Int} {l1 : Int} {F F9 : zF} {B B9 : zB} {r : Int} (hf : f_Event_tone K l0 l1 F B = some (r, F9, B9)) : Met l ({ cls := "StaveHouse$Event", name := "tone", desc := "(I)I" } : Jvm.MethodName) (Cond.code ({ cls := "StaveHouse$Event", name := "tone", desc := "(I)I" } : Jvm.MethodName) prog_3_method_4_code 2 (Option.some Jvm.ClassFile.FieldType.int) :: wAll) ({ frames := 2, cells := 0, slots := 0, locals := 42 } : Room) (va_Pc [.ref (ad 1 l0 0), .int (iI l1)] (zPre D ca ad lnC K.2 L aS vS F B sz)) (Q_Event_tone K D ca ad L r F9 B9 (zA L sz)) 0 0 (zA L sz) := by
  refine zMet (Qc := Q_Event_tone K D ca ad L r F9 B9) (lv := [(0, .ref (ad 1 l0 0)), (1, .int (iI l1))]) (by decide) (Nat.le_of_ble_eq_true rfl) rfl (fun A p e s m below meth c ls X hZ hS hl => ?_)
  obtain ⟨hx, hb, hr, hml, hown, hts, hlk, hK, hA, hL, hX⟩ := id X
  replace hf : (if 0 ≤ l0 ∧ l0 < K.2 1 then if 0 ≤ l1 ∧ l1 < 6 then zbind (f_S_naturalTone K (B 1 l0 12 l1) F B) (fun r3 F3 B3 => some (r3 + (B3 1 l0 13 l1), F3, B3)) else none else none) = some (r, F9, B9) := hf
  refine lv_aload_n hx hb (D_42 W_prog_3_method_4_code_0 0 rfl rfl) rfl (lv_at hl 0 rfl) ?_
  obtain ⟨g1, hf⟩ := gif hf
  refine zget (ci := 1) (C := RX1) (T := TX1) (v := .ref (ad 1 l0 (12 + 1))) (k := 12) hx hb hts inW_1 hown hK hZ g1.1 g1.2 rfl (by decide) k_2_57 rfl (D_180 W_prog_3_method_4_code_0 1 rfl rfl rfl) ?_
  refine lv_iload_n hx hb (D_27 W_prog_3_method_4_code_0 4 rfl rfl) rfl (lv_at hl 1 rfl) ?_
  obtain ⟨g2, hf⟩ := gif hf
  refine zald (ci := 1) (k := 12) hx hb hK rfl hZ g1.1 g1.2 rfl (Nat.le_of_ble_eq_true rfl) g2.1 g2.2 (D_46 W_prog_3_method_4_code_0 5 rfl rfl) ?_
  obtain ⟨r3, F3, B3, hc3, hf⟩ := gbind hf
  refine va_calli (va_runSN (As := [.int (iI (B 1 l0 12 l1))]) (rest := []) ⟨hx, hb, hml, hown, hts⟩ (c_S_naturalTone (l := l) hc3) ⟨va_cnB 1 hts (gdC k_4_64) rfl rfl rfl (hX.1 _ (List.mem_of_getElem? (i := 19) rfl) :) (hts _ k_1_1) (by decide +kernel) ⟨Nat.le_of_ble_eq_true rfl, Nat.le_of_ble_eq_true rfl⟩, hts _ k_4_63, trivial⟩ (zPS X hZ hS [.int (iI (B 1 l0 12 l1))]) rfl rfl hl.1 rfl (lv_room (Nat.le_of_ble_eq_true rfl)) (D_184 W_prog_3_method_4_code_0 6 rfl rfl rfl) ⟨Nat.le_of_ble_eq_true rfl, Nat.le_of_ble_eq_true rfl⟩) hS (fun q _ h => zAin X hS q h) (zAin X hS) (fun p3 u3 t3 H3 locs3 ht3 hv3 hw3 hB3 hz3 hk3 hS3 => ?_)
  have hZ3 := zBack X ht3 hB3
  subst hw3
  refine lv_aload_n hx hb (D_42 W_prog_3_method_4_code_0 9 rfl rfl) rfl (lv_at hl 0 rfl) ?_
  refine zget (ci := 1) (C := RX1) (T := TX1) (v := .ref (ad 1 l0 (13 + 1))) (k := 13) hx hb hts inW_1 hown hK hZ3 g1.1 g1.2 rfl (by decide) k_2_63 rfl (D_180 W_prog_3_method_4_code_0 10 rfl rfl rfl) ?_
  refine lv_iload_n hx hb (D_27 W_prog_3_method_4_code_0 13 rfl rfl) rfl (lv_at hl 1 rfl) ?_
  refine zald (ci := 1) (k := 13) hx hb hK rfl hZ3 g1.1 g1.2 rfl (Nat.le_of_ble_eq_true rfl) g2.1 g2.2 (D_46 W_prog_3_method_4_code_0 14 rfl rfl) ?_
  refine zadd hx hb (D_96 W_prog_3_method_4_code_0 15 rfl rfl) ?_
  cases hf
  exact W.iret hx hb hr (fun t ht hW => ⟨⟨_, (), rfl, rfl, by rw [ht]; exact hZ3, va_K.moved hW.alike hK⟩, hS3.F ht⟩) hS3.2.2 (D_172 W_prog_3_method_4_code_0 16 rfl rfl) hlk

abbrev Q_Study_isFaultOfTwo (K : zK) (D : va_G) (ca : Nat → ClassId) (ad : Nat → Int → Nat → Nat) (L : List Nat) (r : Int) (F : zF) (B : zB) (A : Nat → Prop) : Array Value → State → Outcome → State → Prop := va_Qi (S := Unit) (fun p _ => p = iI r) (fun _ => zPo D ca ad lnC K.2 L F B A) A
def f_Study_isFaultOfTwo_346 (K : zK) (s0 : Int) (F : zF) (B : zB) : zO := if (s0 = 0 ∨ s0 = 1) then some (s0, F, B) else none
set_option maxHeartbeats 4000000 in
set_option maxRecDepth 100000 in
theorem b_Study_isFaultOfTwo_346 {D : va_G} {ca : Nat → ClassId} {ad : Nat → Int → Nat → Nat} {L : List Nat} {aS vS : Nat → Nat} {A : Nat → Prop} {p : Program} {l : Launch} {e : Env} {s : State} {m : MethodId} {args : Array Value} {below : List Frame} {meth : Method} {c : Code} {K : zK} {r : Int} {F9 : zF} {B9 : zB} (X : zX D ca L aS vS A p s m args meth c prog_11_method_9_code 10 (Option.some Jvm.ClassFile.FieldType.boolean) "StaveHouse$Study") {s0 : Int} {F : zF} {B : zB} {H : Heap} {locs : List Loc} {ls : Array Slot} (hf : f_Study_isFaultOfTwo_346 K s0 F B = some (r, F9, B9)) (hZ : zH D ca ad lnC K.2 L F B A H) (hS : va_S A s.heap H locs) (hl : lv_has ls 10 []) : W p l e ({ frames := 2, cells := 0, slots := 0, locals := 48 } : Room) s m args below meth c H locs 0 0 (MQ below (Q_Study_isFaultOfTwo K D ca ad L r F9 B9 A) args s 0 0 A) (F0 m 346 ls [.int (iI s0)]) := by
  obtain ⟨hx, hb, hr, hml, hown, hts, hlk, hK, hA, hL, hX⟩ := id X
  replace hf : (if (s0 = 0 ∨ s0 = 1) then some (s0, F, B) else none) = some (r, F9, B9) := hf
  obtain ⟨g83, hf⟩ := gif hf
  cases hf
  exact W.zret hx hb hr (zbool g83) (fun t ht hW => ⟨⟨_, (), rfl, rfl, by rw [ht]; exact hZ, va_K.moved hW.alike hK⟩, hS.F ht⟩) hS.2.2 (D_172 W_prog_11_method_9_code_320 26 rfl rfl) hlk

def f_Study_isFaultOfTwo_345 (K : zK)  (F : zF) (B : zB) : zO := f_Study_isFaultOfTwo_346 K 0 F B
set_option maxHeartbeats 4000000 in
set_option maxRecDepth 100000 in
theorem b_Study_isFaultOfTwo_345 {D : va_G} {ca : Nat → ClassId} {ad : Nat → Int → Nat → Nat} {L : List Nat} {aS vS : Nat → Nat} {A : Nat → Prop} {p : Program} {l : Launch} {e : Env} {s : State} {m : MethodId} {args : Array Value} {below : List Frame} {meth : Method} {c : Code} {K : zK} {r : Int} {F9 : zF} {B9 : zB} (X : zX D ca L aS vS A p s m args meth c prog_11_method_9_code 10 (Option.some Jvm.ClassFile.FieldType.boolean) "StaveHouse$Study")  {F : zF} {B : zB} {H : Heap} {locs : List Loc} {ls : Array Slot} (hf : f_Study_isFaultOfTwo_345 K  F B = some (r, F9, B9)) (hZ : zH D ca ad lnC K.2 L F B A H) (hS : va_S A s.heap H locs) (hl : lv_has ls 10 []) : W p l e ({ frames := 2, cells := 0, slots := 0, locals := 48 } : Room) s m args below meth c H locs 0 0 (MQ below (Q_Study_isFaultOfTwo K D ca ad L r F9 B9 A) args s 0 0 A) (F0 m 345 ls []) := by
  obtain ⟨hx, hb, hr, hml, hown, hts, hlk, hK, hA, hL, hX⟩ := id X
  replace hf : (f_Study_isFaultOfTwo_346 K 0 F B) = some (r, F9, B9) := hf
  refine lv_iconst (v := iI 0) hx hb (D_3 W_prog_11_method_9_code_320 25 rfl rfl) rfl ?_
  exact b_Study_isFaultOfTwo_346 X hf hZ hS (lv_sub hl [] rfl)

def f_Study_isFaultOfTwo_305 (K : zK) (l8 : Int) (l7 : Int) (l0 : Int) (s0 : Int) (F : zF) (B : zB) : zO := if r32 l7 then (if l7 = 0 then f_Study_isFaultOfTwo_345 K F B else if r32 l8 then (if l7 = l8 then f_Study_isFaultOfTwo_345 K F B else if 0 ≤ l0 ∧ l0 < K.2 9 then if 0 ≤ s0 ∧ s0 < 4 then if r32 ((B 9 l0 5 s0) - (B 9 l0 7 s0)) then if r32 (zabs ((B 9 l0 5 s0) - (B 9 l0 7 s0))) then (if (zabs ((B 9 l0 5 s0) - (B 9 l0 7 s0))) ≤ 2 then f_Study_isFaultOfTwo_345 K F B else f_Study_isFaultOfTwo_346 K 1 F B) else none else none else none else none) else none) else none
set_option maxHeartbeats 4000000 in
set_option maxRecDepth 100000 in
theorem b_Study_isFaultOfTwo_305 {D : va_G} {ca : Nat → ClassId} {ad : Nat → Int → Nat → Nat} {L : List Nat} {aS vS : Nat → Nat} {A : Nat → Prop} {p : Program} {l : Launch} {e : Env} {s : State} {m : MethodId} {args : Array Value} {below : List Frame} {meth : Method} {c : Code} {K : zK} {r : Int} {F9 : zF} {B9 : zB} (X : zX D ca L aS vS A p s m args meth c prog_11_method_9_code 10 (Option.some Jvm.ClassFile.FieldType.boolean) "StaveHouse$Study") {l8 : Int} {l7 : Int} {l0 : Int} {s0 : Int} {F : zF} {B : zB} {H : Heap} {locs : List Loc} {ls : Array Slot} (hf : f_Study_isFaultOfTwo_305 K l8 l7 l0 s0 F B = some (r, F9, B9)) (hZ : zH D ca ad lnC K.2 L F B A H) (hS : va_S A s.heap H locs) (hl : lv_has ls 10 [(8, .int (iI l8)), (7, .int (iI l7)), (0, .ref (ad 9 l0 0))]) : W p l e ({ frames := 2, cells := 0, slots := 0, locals := 48 } : Room) s m args below meth c H locs 0 0 (MQ below (Q_Study_isFaultOfTwo K D ca ad L r F9 B9 A) args s 0 0 A) (F0 m 305 ls [.int (iI s0)]) := by
  obtain ⟨hx, hb, hr, hml, hown, hts, hlk, hK, hA, hL, hX⟩ := id X
  replace hf : (if r32 l7 then (if l7 = 0 then f_Study_isFaultOfTwo_345 K F B else if r32 l8 then (if l7 = l8 then f_Study_isFaultOfTwo_345 K F B else if 0 ≤ l0 ∧ l0 < K.2 9 then if 0 ≤ s0 ∧ s0 < 4 then if r32 ((B 9 l0 5 s0) - (B 9 l0 7 s0)) then if r32 (zabs ((B 9 l0 5 s0) - (B 9 l0 7 s0))) then (if (zabs ((B 9 l0 5 s0) - (B 9 l0 7 s0))) ≤ 2 then f_Study_isFaultOfTwo_345 K F B else f_Study_isFaultOfTwo_346 K 1 F B) else none else none else none else none) else none) else none) = some (r, F9, B9) := hf
  refine lv_istore (lv' := [(9, .int (iI s0)), (8, .int (iI l8)), (7, .int (iI l7)), (0, .ref (ad 9 l0 0))]) hx hb (D_54 W_prog_11_method_9_code_288 17 rfl rfl) hl (by decide) rfl (fun ls hl => ?_)
  refine lv_iload hx hb (D_21 W_prog_11_method_9_code_288 19 rfl rfl) (lv_at hl 2 rfl) ?_
  obtain ⟨g74, hf⟩ := gif hf
  refine z0eq (tgt := 345) hx hb g74 (D_153 W_prog_11_method_9_code_288 21 rfl rfl rfl) (by decide) (fun h75 => ?_) (fun h75 => ?_)
  · replace hf := gpos hf h75
    exact b_Study_isFaultOfTwo_345 X hf hZ hS (lv_sub hl [] rfl)
  · replace hf := gneg hf h75
    refine lv_iload hx hb (D_21 W_prog_11_method_9_code_288 24 rfl rfl) (lv_at hl 2 rfl) ?_
    refine lv_iload hx hb (D_21 W_prog_11_method_9_code_288 26 rfl rfl) (lv_at hl 1 rfl) ?_
    obtain ⟨g76, hf⟩ := gif hf
    refine zeq (tgt := 345) hx hb g74 g76 (D_159 W_prog_11_method_9_code_288 28 rfl rfl rfl) (by decide) (fun h77 => ?_) (fun h77 => ?_)
    · replace hf := gpos hf h77
      exact b_Study_isFaultOfTwo_345 X hf hZ hS (lv_sub hl [] rfl)
    · replace hf := gneg hf h77
      refine lv_aload_n hx hb (D_42 W_prog_11_method_9_code_288 31 rfl rfl) rfl (lv_at hl 3 rfl) ?_
      obtain ⟨g78, hf⟩ := gif hf
      refine zget (ci := 9) (C := RX9) (T := TX9) (v := .ref (ad 9 l0 (5 + 1))) (k := 5) hx hb hts inW_9 hown hK hZ g78.1 g78.2 rfl (by decide) k_5_206 rfl (D_180 W_prog_11_method_9_code_320 0 rfl rfl rfl) ?_
      refine lv_iload hx hb (D_21 W_prog_11_method_9_code_320 3 rfl rfl) (lv_at hl 0 rfl) ?_
      obtain ⟨g79, hf⟩ := gif hf
      refine zald (ci := 9) (k := 5) hx hb hK rfl hZ g78.1 g78.2 rfl (Nat.le_of_ble_eq_true rfl) g79.1 g79.2 (D_46 W_prog_11_method_9_code_320 5 rfl rfl) ?_
      refine lv_aload_n hx hb (D_42 W_prog_11_method_9_code_320 6 rfl rfl) rfl (lv_at hl 3 rfl) ?_
      refine zget (ci := 9) (C := RX9) (T := TX9) (v := .ref (ad 9 l0 (7 + 1))) (k := 7) hx hb hts inW_9 hown hK hZ g78.1 g78.2 rfl (by decide) k_5_208 rfl (D_180 W_prog_11_method_9_code_320 7 rfl rfl rfl) ?_
      refine lv_iload hx hb (D_21 W_prog_11_method_9_code_320 10 rfl rfl) (lv_at hl 0 rfl) ?_
      refine zald (ci := 9) (k := 7) hx hb hK rfl hZ g78.1 g78.2 rfl (Nat.le_of_ble_eq_true rfl) g79.1 g79.2 (D_46 W_prog_11_method_9_code_320 12 rfl rfl) ?_
      refine zsub hx hb (D_100 W_prog_11_method_9_code_320 13 rfl rfl) ?_
      obtain ⟨g80, hf⟩ := gif hf
      refine va_mabs hx hb (by rw [hml]; exact hl.1.symm) hown (hts _ k_6_39) (hts _ k_4_229) (hts _ k_1_3) (hts _ k_4_230) (Nat.le_of_ble_eq_true rfl) (Nat.le_of_ble_eq_true rfl) (Nat.le_of_ble_eq_true rfl) (Nat.le_of_ble_eq_true rfl) (D_184 W_prog_11_method_9_code_320 14 rfl rfl rfl) ?_
      rw [zabs_e g80]
      refine lv_iconst (v := iI 2) hx hb (D_5 W_prog_11_method_9_code_320 17 rfl rfl) rfl ?_
      obtain ⟨g81, hf⟩ := gif hf
      refine zle (tgt := 345) hx hb g81 (by decide) (D_164 W_prog_11_method_9_code_320 18 rfl rfl rfl) (by decide) (fun h82 => ?_) (fun h82 => ?_)
      · replace hf := gpos hf h82
        exact b_Study_isFaultOfTwo_345 X hf hZ hS (lv_sub hl [] rfl)
      · replace hf := gneg hf h82
        refine lv_iconst (v := iI 1) hx hb (D_4 W_prog_11_method_9_code_320 21 rfl rfl) rfl ?_
        refine lv_goto (tgt := 346) hx hb (D_167 W_prog_11_method_9_code_320 22 rfl rfl rfl) (by decide) ?_
        exact b_Study_isFaultOfTwo_346 X hf hZ hS (lv_sub hl [] rfl)

def f_Study_isFaultOfTwo_284 (K : zK) (s0 : Int) (F : zF) (B : zB) : zO := if (s0 = 0 ∨ s0 = 1) then some (s0, F, B) else none
set_option maxHeartbeats 4000000 in
set_option maxRecDepth 100000 in
theorem b_Study_isFaultOfTwo_284 {D : va_G} {ca : Nat → ClassId} {ad : Nat → Int → Nat → Nat} {L : List Nat} {aS vS : Nat → Nat} {A : Nat → Prop} {p : Program} {l : Launch} {e : Env} {s : State} {m : MethodId} {args : Array Value} {below : List Frame} {meth : Method} {c : Code} {K : zK} {r : Int} {F9 : zF} {B9 : zB} (X : zX D ca L aS vS A p s m args meth c prog_11_method_9_code 10 (Option.some Jvm.ClassFile.FieldType.boolean) "StaveHouse$Study") {s0 : Int} {F : zF} {B : zB} {H : Heap} {locs : List Loc} {ls : Array Slot} (hf : f_Study_isFaultOfTwo_284 K s0 F B = some (r, F9, B9)) (hZ : zH D ca ad lnC K.2 L F B A H) (hS : va_S A s.heap H locs) (hl : lv_has ls 10 []) : W p l e ({ frames := 2, cells := 0, slots := 0, locals := 48 } : Room) s m args below meth c H locs 0 0 (MQ below (Q_Study_isFaultOfTwo K D ca ad L r F9 B9 A) args s 0 0 A) (F0 m 284 ls [.int (iI s0)]) := by
  obtain ⟨hx, hb, hr, hml, hown, hts, hlk, hK, hA, hL, hX⟩ := id X
  replace hf : (if (s0 = 0 ∨ s0 = 1) then some (s0, F, B) else none) = some (r, F9, B9) := hf
  obtain ⟨g73, hf⟩ := gif hf
  cases hf
  exact W.zret hx hb hr (zbool g73) (fun t ht hW => ⟨⟨_, (), rfl, rfl, by rw [ht]; exact hZ, va_K.moved hW.alike hK⟩, hS.F ht⟩) hS.2.2 (D_172 W_prog_11_method_9_code_256 28 rfl rfl) hlk

def f_Study_isFaultOfTwo_283 (K : zK)  (F : zF) (B : zB) : zO := f_Study_isFaultOfTwo_284 K 0 F B
set_option maxHeartbeats 4000000 in
set_option maxRecDepth 100000 in
theorem b_Study_isFaultOfTwo_283 {D : va_G} {ca : Nat → ClassId} {ad : Nat → Int → Nat → Nat} {L : List Nat} {aS vS : Nat → Nat} {A : Nat → Prop} {p : Program} {l : Launch} {e : Env} {s : State} {m : MethodId} {args : Array Value} {below : List Frame} {meth : Method} {c : Code} {K : zK} {r : Int} {F9 : zF} {B9 : zB} (X : zX D ca L aS vS A p s m args meth c prog_11_method_9_code 10 (Option.some Jvm.ClassFile.FieldType.boolean) "StaveHouse$Study")  {F : zF} {B : zB} {H : Heap} {locs : List Loc} {ls : Array Slot} (hf : f_Study_isFaultOfTwo_283 K  F B = some (r, F9, B9)) (hZ : zH D ca ad lnC K.2 L F B A H) (hS : va_S A s.heap H locs) (hl : lv_has ls 10 []) : W p l e ({ frames := 2, cells := 0, slots := 0, locals := 48 } : Room) s m args below meth c H locs 0 0 (MQ below (Q_Study_isFaultOfTwo K D ca ad L r F9 B9 A) args s 0 0 A) (F0 m 283 ls []) := by
  obtain ⟨hx, hb, hr, hml, hown, hts, hlk, hK, hA, hL, hX⟩ := id X
  replace hf : (f_Study_isFaultOfTwo_284 K 0 F B) = some (r, F9, B9) := hf
  refine lv_iconst (v := iI 0) hx hb (D_3 W_prog_11_method_9_code_256 27 rfl rfl) rfl ?_
  exact b_Study_isFaultOfTwo_284 X hf hZ hS (lv_sub hl [] rfl)

def f_Study_isFaultOfTwo_204 (K : zK) (l0 : Int) (l1 : Int) (l2 : Int) (l3 : Int) (F : zF) (B : zB) : zO := if 0 ≤ l0 ∧ l0 < K.2 9 then if 0 ≤ l2 ∧ l2 < 4 then if 0 ≤ l3 ∧ l3 < 4 then zbind (f_Study_consonance K (B 9 l0 5 l2) (B 9 l0 6 l2) (B 9 l0 5 l3) (B 9 l0 6 l3) F B) (fun r61 F61 B61 => zbind (f_Study_consonance K (B61 9 l0 7 l2) (B61 9 l0 8 l2) (B61 9 l0 7 l3) (B61 9 l0 8 l3) F61 B61) (fun r62 F62 B62 => if r32 l1 then (if 3 ≤ l1 then if r32 (B62 9 l0 6 l3) then if r32 (B62 9 l0 6 l2) then (if (B62 9 l0 6 l3) ≤ (B62 9 l0 6 l2) then f_Study_isFaultOfTwo_305 K r62 r61 l0 l2 F62 B62 else f_Study_isFaultOfTwo_305 K r62 r61 l0 l3 F62 B62) else none else none else if r32 r61 then (if r61 = l1 then if r32 r62 then (if r62 = l1 then f_Study_isFaultOfTwo_284 K 1 F62 B62 else f_Study_isFaultOfTwo_283 K F62 B62) else none else f_Study_isFaultOfTwo_283 K F62 B62) else none) else none)) else none else none else none
set_option maxHeartbeats 4000000 in
set_option maxRecDepth 100000 in
theorem b_Study_isFaultOfTwo_204 {D : va_G} {ca : Nat → ClassId} {ad : Nat → Int → Nat → Nat} {L : List Nat} {aS vS : Nat → Nat} {A : Nat → Prop} {p : Program} {l : Launch} {e : Env} {s : State} {m : MethodId} {args : Array Value} {below : List Frame} {meth : Method} {c : Code} {K : zK} {r : Int} {F9 : zF} {B9 : zB} (X : zX D ca L aS vS A p s m args meth c prog_11_method_9_code 10 (Option.some Jvm.ClassFile.FieldType.boolean) "StaveHouse$Study") {l0 : Int} {l1 : Int} {l2 : Int} {l3 : Int} {F : zF} {B : zB} {H : Heap} {locs : List Loc} {ls : Array Slot} (hf : f_Study_isFaultOfTwo_204 K l0 l1 l2 l3 F B = some (r, F9, B9)) (hZ : zH D ca ad lnC K.2 L F B A H) (hS : va_S A s.heap H locs) (hl : lv_has ls 10 [(0, .ref (ad 9 l0 0)), (1, .int (iI l1)), (2, .int (iI l2)), (3, .int (iI l3))]) : W p l e ({ frames := 2, cells := 0, slots := 0, locals := 48 } : Room) s m args below meth c H locs 0 0 (MQ below (Q_Study_isFaultOfTwo K D ca ad L r F9 B9 A) args s 0 0 A) (F0 m 204 ls []) := by
  obtain ⟨hx, hb, hr, hml, hown, hts, hlk, hK, hA, hL, hX⟩ := id X
  replace hf : (if 0 ≤ l0 ∧ l0 < K.2 9 then if 0 ≤ l2 ∧ l2 < 4 then if 0 ≤ l3 ∧ l3 < 4 then zbind (f_Study_consonance K (B 9 l0 5 l2) (B 9 l0 6 l2) (B 9 l0 5 l3) (B 9 l0 6 l3) F B) (fun r61 F61 B61 => zbind (f_Study_consonance K (B61 9 l0 7 l2) (B61 9 l0 8 l2) (B61 9 l0 7 l3) (B61 9 l0 8 l3) F61 B61) (fun r62 F62 B62 => if r32 l1 then (if 3 ≤ l1 then if r32 (B62 9 l0 6 l3) then if r32 (B62 9 l0 6 l2) then (if (B62 9 l0 6 l3) ≤ (B62 9 l0 6 l2) then f_Study_isFaultOfTwo_305 K r62 r61 l0 l2 F62 B62 else f_Study_isFaultOfTwo_305 K r62 r61 l0 l3 F62 B62) else none else none else if r32 r61 then (if r61 = l1 then if r32 r62 then (if r62 = l1 then f_Study_isFaultOfTwo_284 K 1 F62 B62 else f_Study_isFaultOfTwo_283 K F62 B62) else none else f_Study_isFaultOfTwo_283 K F62 B62) else none) else none)) else none else none else none) = some (r, F9, B9) := hf
  refine lv_aload_n hx hb (D_42 W_prog_11_method_9_code_192 12 rfl rfl) rfl (lv_at hl 0 rfl) ?_
  obtain ⟨g58, hf⟩ := gif hf
  refine zget (ci := 9) (C := RX9) (T := TX9) (v := .ref (ad 9 l0 (5 + 1))) (k := 5) hx hb hts inW_9 hown hK hZ g58.1 g58.2 rfl (by decide) k_5_206 rfl (D_180 W_prog_11_method_9_code_192 13 rfl rfl rfl) ?_
  refine lv_iload_n hx hb (D_28 W_prog_11_method_9_code_192 16 rfl rfl) rfl (lv_at hl 2 rfl) ?_
  obtain ⟨g59, hf⟩ := gif hf
  refine zald (ci := 9) (k := 5) hx hb hK rfl hZ g58.1 g58.2 rfl (Nat.le_of_ble_eq_true rfl) g59.1 g59.2 (D_46 W_prog_11_method_9_code_192 17 rfl rfl) ?_
  refine lv_aload_n hx hb (D_42 W_prog_11_method_9_code_192 18 rfl rfl) rfl (lv_at hl 0 rfl) ?_
  refine zget (ci := 9) (C := RX9) (T := TX9) (v := .ref (ad 9 l0 (6 + 1))) (k := 6) hx hb hts inW_9 hown hK hZ g58.1 g58.2 rfl (by decide) k_5_207 rfl (D_180 W_prog_11_method_9_code_192 19 rfl rfl rfl) ?_
  refine lv_iload_n hx hb (D_28 W_prog_11_method_9_code_192 22 rfl rfl) rfl (lv_at hl 2 rfl) ?_
  refine zald (ci := 9) (k := 6) hx hb hK rfl hZ g58.1 g58.2 rfl (Nat.le_of_ble_eq_true rfl) g59.1 g59.2 (D_46 W_prog_11_method_9_code_192 23 rfl rfl) ?_
  refine lv_aload_n hx hb (D_42 W_prog_11_method_9_code_192 24 rfl rfl) rfl (lv_at hl 0 rfl) ?_
  refine zget (ci := 9) (C := RX9) (T := TX9) (v := .ref (ad 9 l0 (5 + 1))) (k := 5) hx hb hts inW_9 hown hK hZ g58.1 g58.2 rfl (by decide) k_5_206 rfl (D_180 W_prog_11_method_9_code_192 25 rfl rfl rfl) ?_
  refine lv_iload_n hx hb (D_29 W_prog_11_method_9_code_192 28 rfl rfl) rfl (lv_at hl 3 rfl) ?_
  obtain ⟨g60, hf⟩ := gif hf
  refine zald (ci := 9) (k := 5) hx hb hK rfl hZ g58.1 g58.2 rfl (Nat.le_of_ble_eq_true rfl) g60.1 g60.2 (D_46 W_prog_11_method_9_code_192 29 rfl rfl) ?_
  refine lv_aload_n hx hb (D_42 W_prog_11_method_9_code_192 30 rfl rfl) rfl (lv_at hl 0 rfl) ?_
  refine zget (ci := 9) (C := RX9) (T := TX9) (v := .ref (ad 9 l0 (6 + 1))) (k := 6) hx hb hts inW_9 hown hK hZ g58.1 g58.2 rfl (by decide) k_5_207 rfl (D_180 W_prog_11_method_9_code_192 31 rfl rfl rfl) ?_
  refine lv_iload_n hx hb (D_29 W_prog_11_method_9_code_224 2 rfl rfl) rfl (lv_at hl 3 rfl) ?_
  refine zald (ci := 9) (k := 6) hx hb hK rfl hZ g58.1 g58.2 rfl (Nat.le_of_ble_eq_true rfl) g60.1 g60.2 (D_46 W_prog_11_method_9_code_224 3 rfl rfl) ?_
  obtain ⟨r61, F61, B61, hc61, hf⟩ := gbind hf
  refine va_calli (va_runS (As := [.int (iI (B 9 l0 5 l2)), .int (iI (B 9 l0 6 l2)), .int (iI (B 9 l0 5 l3)), .int (iI (B 9 l0 6 l3))]) (rest := []) ⟨hx, hb, hml, hown, hts⟩ (c_Study_consonance (l := l) hc61) (va_cwS 4 hts (gdS k_6_35 k_6_36 k_1_19 k_6_37) rfl rfl rfl (by decide +kernel) ⟨Nat.le_of_ble_eq_true rfl, Nat.le_of_ble_eq_true rfl⟩) (zPS X hZ hS [.int (iI (B 9 l0 5 l2)), .int (iI (B 9 l0 6 l2)), .int (iI (B 9 l0 5 l3)), .int (iI (B 9 l0 6 l3))]) rfl rfl hl.1 rfl (lv_room (Nat.le_of_ble_eq_true rfl)) (D_184 W_prog_11_method_9_code_224 4 rfl rfl rfl) ⟨Nat.le_of_ble_eq_true rfl, Nat.le_of_ble_eq_true rfl⟩) hS (fun q _ h => zAin X hS q h) (zAin X hS) (fun p61 u61 t61 H61 locs61 ht61 hv61 hw61 hB61 hz61 hk61 hS61 => ?_)
  have hZ61 := zBack X ht61 hB61
  subst hw61
  refine lv_istore (lv' := [(7, .int (iI r61)), (0, .ref (ad 9 l0 0)), (1, .int (iI l1)), (2, .int (iI l2)), (3, .int (iI l3))]) hx hb (D_54 W_prog_11_method_9_code_224 7 rfl rfl) hl (by decide) rfl (fun ls hl => ?_)
  refine lv_aload_n hx hb (D_42 W_prog_11_method_9_code_224 9 rfl rfl) rfl (lv_at hl 1 rfl) ?_
  refine zget (ci := 9) (C := RX9) (T := TX9) (v := .ref (ad 9 l0 (7 + 1))) (k := 7) hx hb hts inW_9 hown hK hZ61 g58.1 g58.2 rfl (by decide) k_5_208 rfl (D_180 W_prog_11_method_9_code_224 10 rfl rfl rfl) ?_
  refine lv_iload_n hx hb (D_28 W_prog_11_method_9_code_224 13 rfl rfl) rfl (lv_at hl 3 rfl) ?_
  refine zald (ci := 9) (k := 7) hx hb hK rfl hZ61 g58.1 g58.2 rfl (Nat.le_of_ble_eq_true rfl) g59.1 g59.2 (D_46 W_prog_11_method_9_code_224 14 rfl rfl) ?_
  refine lv_aload_n hx hb (D_42 W_prog_11_method_9_code_224 15 rfl rfl) rfl (lv_at hl 1 rfl) ?_
  refine zget (ci := 9) (C := RX9) (T := TX9) (v := .ref (ad 9 l0 (8 + 1))) (k := 8) hx hb hts inW_9 hown hK hZ61 g58.1 g58.2 rfl (by decide) k_5_209 rfl (D_180 W_prog_11_method_9_code_224 16 rfl rfl rfl) ?_
  refine lv_iload_n hx hb (D_28 W_prog_11_method_9_code_224 19 rfl rfl) rfl (lv_at hl 3 rfl) ?_
  refine zald (ci := 9) (k := 8) hx hb hK rfl hZ61 g58.1 g58.2 rfl (Nat.le_of_ble_eq_true rfl) g59.1 g59.2 (D_46 W_prog_11_method_9_code_224 20 rfl rfl) ?_
  refine lv_aload_n hx hb (D_42 W_prog_11_method_9_code_224 21 rfl rfl) rfl (lv_at hl 1 rfl) ?_
  refine zget (ci := 9) (C := RX9) (T := TX9) (v := .ref (ad 9 l0 (7 + 1))) (k := 7) hx hb hts inW_9 hown hK hZ61 g58.1 g58.2 rfl (by decide) k_5_208 rfl (D_180 W_prog_11_method_9_code_224 22 rfl rfl rfl) ?_
  refine lv_iload_n hx hb (D_29 W_prog_11_method_9_code_224 25 rfl rfl) rfl (lv_at hl 4 rfl) ?_
  refine zald (ci := 9) (k := 7) hx hb hK rfl hZ61 g58.1 g58.2 rfl (Nat.le_of_ble_eq_true rfl) g60.1 g60.2 (D_46 W_prog_11_method_9_code_224 26 rfl rfl) ?_
  refine lv_aload_n hx hb (D_42 W_prog_11_method_9_code_224 27 rfl rfl) rfl (lv_at hl 1 rfl) ?_
  refine zget (ci := 9) (C := RX9) (T := TX9) (v := .ref (ad 9 l0 (8 + 1))) (k := 8) hx hb hts inW_9 hown hK hZ61 g58.1 g58.2 rfl (by decide) k_5_209 rfl (D_180 W_prog_11_method_9_code_224 28 rfl rfl rfl) ?_
  refine lv_iload_n hx hb (D_29 W_prog_11_method_9_code_224 31 rfl rfl) rfl (lv_at hl 4 rfl) ?_
  refine zald (ci := 9) (k := 8) hx hb hK rfl hZ61 g58.1 g58.2 rfl (Nat.le_of_ble_eq_true rfl) g60.1 g60.2 (D_46 W_prog_11_method_9_code_256 0 rfl rfl) ?_
  obtain ⟨r62, F62, B62, hc62, hf⟩ := gbind hf
  refine va_calli (va_runS (As := [.int (iI (B61 9 l0 7 l2)), .int (iI (B61 9 l0 8 l2)), .int (iI (B61 9 l0 7 l3)), .int (iI (B61 9 l0 8 l3))]) (rest := []) ⟨hx, hb, hml, hown, hts⟩ (c_Study_consonance (l := l) hc62) (va_cwS 4 hts (gdS k_6_35 k_6_36 k_1_19 k_6_37) rfl rfl rfl (by decide +kernel) ⟨Nat.le_of_ble_eq_true rfl, Nat.le_of_ble_eq_true rfl⟩) (zPS X hZ61 hS61 [.int (iI (B61 9 l0 7 l2)), .int (iI (B61 9 l0 8 l2)), .int (iI (B61 9 l0 7 l3)), .int (iI (B61 9 l0 8 l3))]) rfl rfl hl.1 rfl (lv_room (Nat.le_of_ble_eq_true rfl)) (D_184 W_prog_11_method_9_code_256 1 rfl rfl rfl) ⟨Nat.le_of_ble_eq_true rfl, Nat.le_of_ble_eq_true rfl⟩) hS61 (fun q _ h => zAin X hS61 q h) (zAin X hS61) (fun p62 u62 t62 H62 locs62 ht62 hv62 hw62 hB62 hz62 hk62 hS62 => ?_)
  have hZ62 := zBack X ht62 hB62
  subst hw62
  refine lv_istore (lv' := [(8, .int (iI r62)), (7, .int (iI r61)), (0, .ref (ad 9 l0 0)), (1, .int (iI l1)), (2, .int (iI l2)), (3, .int (iI l3))]) hx hb (D_54 W_prog_11_method_9_code_256 4 rfl rfl) hl (by decide) rfl (fun ls hl => ?_)
  refine lv_iload_n hx hb (D_27 W_prog_11_method_9_code_256 6 rfl rfl) rfl (lv_at hl 3 rfl) ?_
  refine lv_iconst (v := iI 3) hx hb (D_6 W_prog_11_method_9_code_256 7 rfl rfl) rfl ?_
  obtain ⟨g63, hf⟩ := gif hf
  refine zge (tgt := 285) hx hb g63 (by decide) (D_162 W_prog_11_method_9_code_256 8 rfl rfl rfl) (by decide) (fun h65 => ?_) (fun h65 => ?_)
  · replace hf := gpos hf h65
    refine lv_aload_n hx hb (D_42 W_prog_11_method_9_code_256 29 rfl rfl) rfl (lv_at hl 2 rfl) ?_
    refine zget (ci := 9) (C := RX9) (T := TX9) (v := .ref (ad 9 l0 (6 + 1))) (k := 6) hx hb hts inW_9 hown hK hZ62 g58.1 g58.2 rfl (by decide) k_5_207 rfl (D_180 W_prog_11_method_9_code_256 30 rfl rfl rfl) ?_
    refine lv_iload_n hx hb (D_29 W_prog_11_method_9_code_288 1 rfl rfl) rfl (lv_at hl 5 rfl) ?_
    refine zald (ci := 9) (k := 6) hx hb hK rfl hZ62 g58.1 g58.2 rfl (Nat.le_of_ble_eq_true rfl) g60.1 g60.2 (D_46 W_prog_11_method_9_code_288 2 rfl rfl) ?_
    refine lv_aload_n hx hb (D_42 W_prog_11_method_9_code_288 3 rfl rfl) rfl (lv_at hl 2 rfl) ?_
    refine zget (ci := 9) (C := RX9) (T := TX9) (v := .ref (ad 9 l0 (6 + 1))) (k := 6) hx hb hts inW_9 hown hK hZ62 g58.1 g58.2 rfl (by decide) k_5_207 rfl (D_180 W_prog_11_method_9_code_288 4 rfl rfl rfl) ?_
    refine lv_iload_n hx hb (D_28 W_prog_11_method_9_code_288 7 rfl rfl) rfl (lv_at hl 4 rfl) ?_
    refine zald (ci := 9) (k := 6) hx hb hK rfl hZ62 g58.1 g58.2 rfl (Nat.le_of_ble_eq_true rfl) g59.1 g59.2 (D_46 W_prog_11_method_9_code_288 8 rfl rfl) ?_
    obtain ⟨g66, hf⟩ := gif hf
    obtain ⟨g67, hf⟩ := gif hf
    refine zle (tgt := 304) hx hb g66 g67 (D_164 W_prog_11_method_9_code_288 9 rfl rfl rfl) (by decide) (fun h68 => ?_) (fun h68 => ?_)
    · replace hf := gpos hf h68
      refine lv_iload_n hx hb (D_28 W_prog_11_method_9_code_288 16 rfl rfl) rfl (lv_at hl 4 rfl) ?_
      exact b_Study_isFaultOfTwo_305 X hf hZ62 hS62 (lv_sub hl [0, 1, 2] rfl)
    · replace hf := gneg hf h68
      refine lv_iload_n hx hb (D_29 W_prog_11_method_9_code_288 12 rfl rfl) rfl (lv_at hl 5 rfl) ?_
      refine lv_goto (tgt := 305) hx hb (D_167 W_prog_11_method_9_code_288 13 rfl rfl rfl) (by decide) ?_
      exact b_Study_isFaultOfTwo_305 X hf hZ62 hS62 (lv_sub hl [0, 1, 2] rfl)
  · replace hf := gneg hf h65
    refine lv_iload hx hb (D_21 W_prog_11_method_9_code_256 11 rfl rfl) (lv_at hl 1 rfl) ?_
    refine lv_iload_n hx hb (D_27 W_prog_11_method_9_code_256 13 rfl rfl) rfl (lv_at hl 3 rfl) ?_
    obtain ⟨g69, hf⟩ := gif hf
    refine zne (tgt := 283) hx hb g69 g63 (D_160 W_prog_11_method_9_code_256 14 rfl rfl rfl) (by decide) (fun h70 => ?_) (fun h70 => ?_)
    · replace hf := gneg hf h70
      exact b_Study_isFaultOfTwo_283 X hf hZ62 hS62 (lv_sub hl [] rfl)
    · replace hf := gpos hf h70
      refine lv_iload hx hb (D_21 W_prog_11_method_9_code_256 17 rfl rfl) (lv_at hl 0 rfl) ?_
      refine lv_iload_n hx hb (D_27 W_prog_11_method_9_code_256 19 rfl rfl) rfl (lv_at hl 3 rfl) ?_
      obtain ⟨g71, hf⟩ := gif hf
      refine zne (tgt := 283) hx hb g71 g63 (D_160 W_prog_11_method_9_code_256 20 rfl rfl rfl) (by decide) (fun h72 => ?_) (fun h72 => ?_)
      · replace hf := gneg hf h72
        exact b_Study_isFaultOfTwo_283 X hf hZ62 hS62 (lv_sub hl [] rfl)
      · replace hf := gpos hf h72
        refine lv_iconst (v := iI 1) hx hb (D_4 W_prog_11_method_9_code_256 23 rfl rfl) rfl ?_
        refine lv_goto (tgt := 284) hx hb (D_167 W_prog_11_method_9_code_256 24 rfl rfl rfl) (by decide) ?_
        exact b_Study_isFaultOfTwo_284 X hf hZ62 hS62 (lv_sub hl [] rfl)

def f_Study_isFaultOfTwo_202 (K : zK)  (F : zF) (B : zB) : zO := some (0, F, B)
set_option maxHeartbeats 4000000 in
set_option maxRecDepth 100000 in
theorem b_Study_isFaultOfTwo_202 {D : va_G} {ca : Nat → ClassId} {ad : Nat → Int → Nat → Nat} {L : List Nat} {aS vS : Nat → Nat} {A : Nat → Prop} {p : Program} {l : Launch} {e : Env} {s : State} {m : MethodId} {args : Array Value} {below : List Frame} {meth : Method} {c : Code} {K : zK} {r : Int} {F9 : zF} {B9 : zB} (X : zX D ca L aS vS A p s m args meth c prog_11_method_9_code 10 (Option.some Jvm.ClassFile.FieldType.boolean) "StaveHouse$Study")  {F : zF} {B : zB} {H : Heap} {locs : List Loc} {ls : Array Slot} (hf : f_Study_isFaultOfTwo_202 K  F B = some (r, F9, B9)) (hZ : zH D ca ad lnC K.2 L F B A H) (hS : va_S A s.heap H locs) (hl : lv_has ls 10 []) : W p l e ({ frames := 2, cells := 0, slots := 0, locals := 48 } : Room) s m args below meth c H locs 0 0 (MQ below (Q_Study_isFaultOfTwo K D ca ad L r F9 B9 A) args s 0 0 A) (F0 m 202 ls []) := by
  obtain ⟨hx, hb, hr, hml, hown, hts, hlk, hK, hA, hL, hX⟩ := id X
  replace hf : (some (0, F, B)) = some (r, F9, B9) := hf
  refine lv_iconst (v := iI 0) hx hb (D_3 W_prog_11_method_9_code_192 10 rfl rfl) rfl ?_
  cases hf
  exact W.zret hx hb hr rfl (fun t ht hW => ⟨⟨_, (), rfl, rfl, by rw [ht]; exact hZ, va_K.moved hW.alike hK⟩, hS.F ht⟩) hS.2.2 (D_172 W_prog_11_method_9_code_192 11 rfl rfl) hlk

def f_Study_isFaultOfTwo_167 (K : zK) (l5 : Int) (l4 : Int) (l0 : Int) (l1 : Int) (l2 : Int) (l3 : Int) (s0 : Int) (F : zF) (B : zB) : zO := if r32 l4 then (if l4 = 0 then f_Study_isFaultOfTwo_202 K F B else if 0 ≤ l0 ∧ l0 < K.2 9 then if 0 ≤ l2 ∧ l2 < 4 then if r32 (B 9 l0 9 l2) then (if (B 9 l0 9 l2) = 0 then f_Study_isFaultOfTwo_202 K F B else if 0 ≤ l3 ∧ l3 < 4 then if r32 (B 9 l0 9 l3) then (if (B 9 l0 9 l3) = 0 then f_Study_isFaultOfTwo_202 K F B else if r32 l5 then (if l5 = 0 then if r32 s0 then (if s0 = 0 then f_Study_isFaultOfTwo_202 K F B else f_Study_isFaultOfTwo_204 K l0 l1 l2 l3 F B) else none else f_Study_isFaultOfTwo_204 K l0 l1 l2 l3 F B) else none) else none else none) else none else none else none) else none
set_option maxHeartbeats 4000000 in
set_option maxRecDepth 100000 in
theorem b_Study_isFaultOfTwo_167 {D : va_G} {ca : Nat → ClassId} {ad : Nat → Int → Nat → Nat} {L : List Nat} {aS vS : Nat → Nat} {A : Nat → Prop} {p : Program} {l : Launch} {e : Env} {s : State} {m : MethodId} {args : Array Value} {below : List Frame} {meth : Method} {c : Code} {K : zK} {r : Int} {F9 : zF} {B9 : zB} (X : zX D ca L aS vS A p s m args meth c prog_11_method_9_code 10 (Option.some Jvm.ClassFile.FieldType.boolean) "StaveHouse$Study") {l5 : Int} {l4 : Int} {l0 : Int} {l1 : Int} {l2 : Int} {l3 : Int} {s0 : Int} {F : zF} {B : zB} {H : Heap} {locs : List Loc} {ls : Array Slot} (hf : f_Study_isFaultOfTwo_167 K l5 l4 l0 l1 l2 l3 s0 F B = some (r, F9, B9)) (hZ : zH D ca ad lnC K.2 L F B A H) (hS : va_S A s.heap H locs) (hl : lv_has ls 10 [(5, .int (iI l5)), (4, .int (iI l4)), (0, .ref (ad 9 l0 0)), (1, .int (iI l1)), (2, .int (iI l2)), (3, .int (iI l3))]) : W p l e ({ frames := 2, cells := 0, slots := 0, locals := 48 } : Room) s m args below meth c H locs 0 0 (MQ below (Q_Study_isFaultOfTwo K D ca ad L r F9 B9 A) args s 0 0 A) (F0 m 167 ls [.int (iI s0)]) := by
  obtain ⟨hx, hb, hr, hml, hown, hts, hlk, hK, hA, hL, hX⟩ := id X
  replace hf : (if r32 l4 then (if l4 = 0 then f_Study_isFaultOfTwo_202 K F B else if 0 ≤ l0 ∧ l0 < K.2 9 then if 0 ≤ l2 ∧ l2 < 4 then if r32 (B 9 l0 9 l2) then (if (B 9 l0 9 l2) = 0 then f_Study_isFaultOfTwo_202 K F B else if 0 ≤ l3 ∧ l3 < 4 then if r32 (B 9 l0 9 l3) then (if (B 9 l0 9 l3) = 0 then f_Study_isFaultOfTwo_202 K F B else if r32 l5 then (if l5 = 0 then if r32 s0 then (if s0 = 0 then f_Study_isFaultOfTwo_202 K F B else f_Study_isFaultOfTwo_204 K l0 l1 l2 l3 F B) else none else f_Study_isFaultOfTwo_204 K l0 l1 l2 l3 F B) else none) else none else none) else none else none else none) else none) = some (r, F9, B9) := hf
  refine lv_istore (lv' := [(6, .int (iI s0)), (5, .int (iI l5)), (4, .int (iI l4)), (0, .ref (ad 9 l0 0)), (1, .int (iI l1)), (2, .int (iI l2)), (3, .int (iI l3))]) hx hb (D_54 W_prog_11_method_9_code_160 7 rfl rfl) hl (by decide) rfl (fun ls hl => ?_)
  refine lv_iload hx hb (D_21 W_prog_11_method_9_code_160 9 rfl rfl) (lv_at hl 2 rfl) ?_
  obtain ⟨g45, hf⟩ := gif hf
  refine z0eq (tgt := 202) hx hb g45 (D_153 W_prog_11_method_9_code_160 11 rfl rfl rfl) (by decide) (fun h46 => ?_) (fun h46 => ?_)
  · replace hf := gpos hf h46
    exact b_Study_isFaultOfTwo_202 X hf hZ hS (lv_sub hl [] rfl)
  · replace hf := gneg hf h46
    refine lv_aload_n hx hb (D_42 W_prog_11_method_9_code_160 14 rfl rfl) rfl (lv_at hl 3 rfl) ?_
    obtain ⟨g47, hf⟩ := gif hf
    refine zget (ci := 9) (C := RX9) (T := TX9) (v := .ref (ad 9 l0 (9 + 1))) (k := 9) hx hb hts inW_9 hown hK hZ g47.1 g47.2 rfl (by decide) k_5_210 rfl (D_180 W_prog_11_method_9_code_160 15 rfl rfl rfl) ?_
    refine lv_iload_n hx hb (D_28 W_prog_11_method_9_code_160 18 rfl rfl) rfl (lv_at hl 5 rfl) ?_
    obtain ⟨g48, hf⟩ := gif hf
    refine zzald (ci := 9) (k := 9) hx hb hK rfl hZ g47.1 g47.2 rfl (Nat.le_of_ble_eq_true rfl) g48.1 g48.2 (D_51 W_prog_11_method_9_code_160 19 rfl rfl) ?_
    obtain ⟨g49, hf⟩ := gif hf
    refine z0eq (tgt := 202) hx hb g49 (D_153 W_prog_11_method_9_code_160 20 rfl rfl rfl) (by decide) (fun h50 => ?_) (fun h50 => ?_)
    · replace hf := gpos hf h50
      exact b_Study_isFaultOfTwo_202 X hf hZ hS (lv_sub hl [] rfl)
    · replace hf := gneg hf h50
      refine lv_aload_n hx hb (D_42 W_prog_11_method_9_code_160 23 rfl rfl) rfl (lv_at hl 3 rfl) ?_
      refine zget (ci := 9) (C := RX9) (T := TX9) (v := .ref (ad 9 l0 (9 + 1))) (k := 9) hx hb hts inW_9 hown hK hZ g47.1 g47.2 rfl (by decide) k_5_210 rfl (D_180 W_prog_11_method_9_code_160 24 rfl rfl rfl) ?_
      refine lv_iload_n hx hb (D_29 W_prog_11_method_9_code_160 27 rfl rfl) rfl (lv_at hl 6 rfl) ?_
      obtain ⟨g51, hf⟩ := gif hf
      refine zzald (ci := 9) (k := 9) hx hb hK rfl hZ g47.1 g47.2 rfl (Nat.le_of_ble_eq_true rfl) g51.1 g51.2 (D_51 W_prog_11_method_9_code_160 28 rfl rfl) ?_
      obtain ⟨g52, hf⟩ := gif hf
      refine z0eq (tgt := 202) hx hb g52 (D_153 W_prog_11_method_9_code_160 29 rfl rfl rfl) (by decide) (fun h53 => ?_) (fun h53 => ?_)
      · replace hf := gpos hf h53
        exact b_Study_isFaultOfTwo_202 X hf hZ hS (lv_sub hl [] rfl)
      · replace hf := gneg hf h53
        refine lv_iload hx hb (D_21 W_prog_11_method_9_code_192 0 rfl rfl) (lv_at hl 1 rfl) ?_
        obtain ⟨g54, hf⟩ := gif hf
        refine z0ne (tgt := 204) hx hb g54 (D_154 W_prog_11_method_9_code_192 2 rfl rfl rfl) (by decide) (fun h55 => ?_) (fun h55 => ?_)
        · replace hf := gneg hf h55
          exact b_Study_isFaultOfTwo_204 X hf hZ hS (lv_sub hl [3, 4, 5, 6] rfl)
        · replace hf := gpos hf h55
          refine lv_iload hx hb (D_21 W_prog_11_method_9_code_192 5 rfl rfl) (lv_at hl 0 rfl) ?_
          obtain ⟨g56, hf⟩ := gif hf
          refine z0ne (tgt := 204) hx hb g56 (D_154 W_prog_11_method_9_code_192 7 rfl rfl rfl) (by decide) (fun h57 => ?_) (fun h57 => ?_)
          · replace hf := gneg hf h57
            exact b_Study_isFaultOfTwo_204 X hf hZ hS (lv_sub hl [3, 4, 5, 6] rfl)
          · replace hf := gpos hf h57
            exact b_Study_isFaultOfTwo_202 X hf hZ hS (lv_sub hl [] rfl)

def f_Study_isFaultOfTwo_166 (K : zK) (l5 : Int) (l4 : Int) (l0 : Int) (l1 : Int) (l2 : Int) (l3 : Int) (F : zF) (B : zB) : zO := f_Study_isFaultOfTwo_167 K l5 l4 l0 l1 l2 l3 0 F B
set_option maxHeartbeats 4000000 in
set_option maxRecDepth 100000 in
theorem b_Study_isFaultOfTwo_166 {D : va_G} {ca : Nat → ClassId} {ad : Nat → Int → Nat → Nat} {L : List Nat} {aS vS : Nat → Nat} {A : Nat → Prop} {p : Program} {l : Launch} {e : Env} {s : State} {m : MethodId} {args : Array Value} {below : List Frame} {meth : Method} {c : Code} {K : zK} {r : Int} {F9 : zF} {B9 : zB} (X : zX D ca L aS vS A p s m args meth c prog_11_method_9_code 10 (Option.some Jvm.ClassFile.FieldType.boolean) "StaveHouse$Study") {l5 : Int} {l4 : Int} {l0 : Int} {l1 : Int} {l2 : Int} {l3 : Int} {F : zF} {B : zB} {H : Heap} {locs : List Loc} {ls : Array Slot} (hf : f_Study_isFaultOfTwo_166 K l5 l4 l0 l1 l2 l3 F B = some (r, F9, B9)) (hZ : zH D ca ad lnC K.2 L F B A H) (hS : va_S A s.heap H locs) (hl : lv_has ls 10 [(5, .int (iI l5)), (4, .int (iI l4)), (0, .ref (ad 9 l0 0)), (1, .int (iI l1)), (2, .int (iI l2)), (3, .int (iI l3))]) : W p l e ({ frames := 2, cells := 0, slots := 0, locals := 48 } : Room) s m args below meth c H locs 0 0 (MQ below (Q_Study_isFaultOfTwo K D ca ad L r F9 B9 A) args s 0 0 A) (F0 m 166 ls []) := by
  obtain ⟨hx, hb, hr, hml, hown, hts, hlk, hK, hA, hL, hX⟩ := id X
  replace hf : (f_Study_isFaultOfTwo_167 K l5 l4 l0 l1 l2 l3 0 F B) = some (r, F9, B9) := hf
  refine lv_iconst (v := iI 0) hx hb (D_3 W_prog_11_method_9_code_160 6 rfl rfl) rfl ?_
  exact b_Study_isFaultOfTwo_167 X hf hZ hS (lv_sub hl [0, 1, 2, 3, 4, 5] rfl)

def f_Study_isFaultOfTwo_130 (K : zK) (l4 : Int) (l0 : Int) (l1 : Int) (l2 : Int) (l3 : Int) (s0 : Int) (F : zF) (B : zB) : zO := if 0 ≤ l0 ∧ l0 < K.2 9 then if 0 ≤ l2 ∧ l2 < 4 then if r32 (B 9 l0 6 l2) then if r32 (B 9 l0 8 l2) then (if (B 9 l0 8 l2) ≤ (B 9 l0 6 l2) then f_Study_isFaultOfTwo_166 K s0 l4 l0 l1 l2 l3 F B else if 0 ≤ l3 ∧ l3 < 4 then if r32 (B 9 l0 6 l3) then if r32 (B 9 l0 8 l3) then (if (B 9 l0 8 l3) ≤ (B 9 l0 6 l3) then f_Study_isFaultOfTwo_166 K s0 l4 l0 l1 l2 l3 F B else f_Study_isFaultOfTwo_167 K s0 l4 l0 l1 l2 l3 1 F B) else none else none else none) else none else none else none else none
set_option maxHeartbeats 4000000 in
set_option maxRecDepth 100000 in
theorem b_Study_isFaultOfTwo_130 {D : va_G} {ca : Nat → ClassId} {ad : Nat → Int → Nat → Nat} {L : List Nat} {aS vS : Nat → Nat} {A : Nat → Prop} {p : Program} {l : Launch} {e : Env} {s : State} {m : MethodId} {args : Array Value} {below : List Frame} {meth : Method} {c : Code} {K : zK} {r : Int} {F9 : zF} {B9 : zB} (X : zX D ca L aS vS A p s m args meth c prog_11_method_9_code 10 (Option.some Jvm.ClassFile.FieldType.boolean) "StaveHouse$Study") {l4 : Int} {l0 : Int} {l1 : Int} {l2 : Int} {l3 : Int} {s0 : Int} {F : zF} {B : zB} {H : Heap} {locs : List Loc} {ls : Array Slot} (hf : f_Study_isFaultOfTwo_130 K l4 l0 l1 l2 l3 s0 F B = some (r, F9, B9)) (hZ : zH D ca ad lnC K.2 L F B A H) (hS : va_S A s.heap H locs) (hl : lv_has ls 10 [(4, .int (iI l4)), (0, .ref (ad 9 l0 0)), (1, .int (iI l1)), (2, .int (iI l2)), (3, .int (iI l3))]) : W p l e ({ frames := 2, cells := 0, slots := 0, locals := 48 } : Room) s m args below meth c H locs 0 0 (MQ below (Q_Study_isFaultOfTwo K D ca ad L r F9 B9 A) args s 0 0 A) (F0 m 130 ls [.int (iI s0)]) := by
  obtain ⟨hx, hb, hr, hml, hown, hts, hlk, hK, hA, hL, hX⟩ := id X
  replace hf : (if 0 ≤ l0 ∧ l0 < K.2 9 then if 0 ≤ l2 ∧ l2 < 4 then if r32 (B 9 l0 6 l2) then if r32 (B 9 l0 8 l2) then (if (B 9 l0 8 l2) ≤ (B 9 l0 6 l2) then f_Study_isFaultOfTwo_166 K s0 l4 l0 l1 l2 l3 F B else if 0 ≤ l3 ∧ l3 < 4 then if r32 (B 9 l0 6 l3) then if r32 (B 9 l0 8 l3) then (if (B 9 l0 8 l3) ≤ (B 9 l0 6 l3) then f_Study_isFaultOfTwo_166 K s0 l4 l0 l1 l2 l3 F B else f_Study_isFaultOfTwo_167 K s0 l4 l0 l1 l2 l3 1 F B) else none else none else none) else none else none else none else none) = some (r, F9, B9) := hf
  refine lv_istore (lv' := [(5, .int (iI s0)), (4, .int (iI l4)), (0, .ref (ad 9 l0 0)), (1, .int (iI l1)), (2, .int (iI l2)), (3, .int (iI l3))]) hx hb (D_54 W_prog_11_method_9_code_128 2 rfl rfl) hl (by decide) rfl (fun ls hl => ?_)
  refine lv_aload_n hx hb (D_42 W_prog_11_method_9_code_128 4 rfl rfl) rfl (lv_at hl 2 rfl) ?_
  obtain ⟨g36, hf⟩ := gif hf
  refine zget (ci := 9) (C := RX9) (T := TX9) (v := .ref (ad 9 l0 (6 + 1))) (k := 6) hx hb hts inW_9 hown hK hZ g36.1 g36.2 rfl (by decide) k_5_207 rfl (D_180 W_prog_11_method_9_code_128 5 rfl rfl rfl) ?_
  refine lv_iload_n hx hb (D_28 W_prog_11_method_9_code_128 8 rfl rfl) rfl (lv_at hl 4 rfl) ?_
  obtain ⟨g37, hf⟩ := gif hf
  refine zald (ci := 9) (k := 6) hx hb hK rfl hZ g36.1 g36.2 rfl (Nat.le_of_ble_eq_true rfl) g37.1 g37.2 (D_46 W_prog_11_method_9_code_128 9 rfl rfl) ?_
  refine lv_aload_n hx hb (D_42 W_prog_11_method_9_code_128 10 rfl rfl) rfl (lv_at hl 2 rfl) ?_
  refine zget (ci := 9) (C := RX9) (T := TX9) (v := .ref (ad 9 l0 (8 + 1))) (k := 8) hx hb hts inW_9 hown hK hZ g36.1 g36.2 rfl (by decide) k_5_209 rfl (D_180 W_prog_11_method_9_code_128 11 rfl rfl rfl) ?_
  refine lv_iload_n hx hb (D_28 W_prog_11_method_9_code_128 14 rfl rfl) rfl (lv_at hl 4 rfl) ?_
  refine zald (ci := 9) (k := 8) hx hb hK rfl hZ g36.1 g36.2 rfl (Nat.le_of_ble_eq_true rfl) g37.1 g37.2 (D_46 W_prog_11_method_9_code_128 15 rfl rfl) ?_
  obtain ⟨g38, hf⟩ := gif hf
  obtain ⟨g39, hf⟩ := gif hf
  refine zge (tgt := 166) hx hb g38 g39 (D_162 W_prog_11_method_9_code_128 16 rfl rfl rfl) (by decide) (fun h40 => ?_) (fun h40 => ?_)
  · replace hf := gpos hf h40
    exact b_Study_isFaultOfTwo_166 X hf hZ hS (lv_sub hl [0, 1, 2, 3, 4, 5] rfl)
  · replace hf := gneg hf h40
    refine lv_aload_n hx hb (D_42 W_prog_11_method_9_code_128 19 rfl rfl) rfl (lv_at hl 2 rfl) ?_
    refine zget (ci := 9) (C := RX9) (T := TX9) (v := .ref (ad 9 l0 (6 + 1))) (k := 6) hx hb hts inW_9 hown hK hZ g36.1 g36.2 rfl (by decide) k_5_207 rfl (D_180 W_prog_11_method_9_code_128 20 rfl rfl rfl) ?_
    refine lv_iload_n hx hb (D_29 W_prog_11_method_9_code_128 23 rfl rfl) rfl (lv_at hl 5 rfl) ?_
    obtain ⟨g41, hf⟩ := gif hf
    refine zald (ci := 9) (k := 6) hx hb hK rfl hZ g36.1 g36.2 rfl (Nat.le_of_ble_eq_true rfl) g41.1 g41.2 (D_46 W_prog_11_method_9_code_128 24 rfl rfl) ?_
    refine lv_aload_n hx hb (D_42 W_prog_11_method_9_code_128 25 rfl rfl) rfl (lv_at hl 2 rfl) ?_
    refine zget (ci := 9) (C := RX9) (T := TX9) (v := .ref (ad 9 l0 (8 + 1))) (k := 8) hx hb hts inW_9 hown hK hZ g36.1 g36.2 rfl (by decide) k_5_209 rfl (D_180 W_prog_11_method_9_code_128 26 rfl rfl rfl) ?_
    refine lv_iload_n hx hb (D_29 W_prog_11_method_9_code_128 29 rfl rfl) rfl (lv_at hl 5 rfl) ?_
    refine zald (ci := 9) (k := 8) hx hb hK rfl hZ g36.1 g36.2 rfl (Nat.le_of_ble_eq_true rfl) g41.1 g41.2 (D_46 W_prog_11_method_9_code_128 30 rfl rfl) ?_
    obtain ⟨g42, hf⟩ := gif hf
    obtain ⟨g43, hf⟩ := gif hf
    refine zge (tgt := 166) hx hb g42 g43 (D_162 W_prog_11_method_9_code_128 31 rfl rfl rfl) (by decide) (fun h44 => ?_) (fun h44 => ?_)
    · replace hf := gpos hf h44
      exact b_Study_isFaultOfTwo_166 X hf hZ hS (lv_sub hl [0, 1, 2, 3, 4, 5] rfl)
    · replace hf := gneg hf h44
      refine lv_iconst (v := iI 1) hx hb (D_4 W_prog_11_method_9_code_160 2 rfl rfl) rfl ?_
      refine lv_goto (tgt := 167) hx hb (D_167 W_prog_11_method_9_code_160 3 rfl rfl rfl) (by decide) ?_
      exact b_Study_isFaultOfTwo_167 X hf hZ hS (lv_sub hl [0, 1, 2, 3, 4, 5] rfl)

def f_Study_isFaultOfTwo_129 (K : zK) (l4 : Int) (l0 : Int) (l1 : Int) (l2 : Int) (l3 : Int) (F : zF) (B : zB) : zO := f_Study_isFaultOfTwo_130 K l4 l0 l1 l2 l3 0 F B
set_option maxHeartbeats 4000000 in
set_option maxRecDepth 100000 in
theorem b_Study_isFaultOfTwo_129 {D : va_G} {ca : Nat → ClassId} {ad : Nat → Int → Nat → Nat} {L : List Nat} {aS vS : Nat → Nat} {A : Nat → Prop} {p : Program} {l : Launch} {e : Env} {s : State} {m : MethodId} {args : Array Value} {below : List Frame} {meth : Method} {c : Code} {K : zK} {r : Int} {F9 : zF} {B9 : zB} (X : zX D ca L aS vS A p s m args meth c prog_11_method_9_code 10 (Option.some Jvm.ClassFile.FieldType.boolean) "StaveHouse$Study") {l4 : Int} {l0 : Int} {l1 : Int} {l2 : Int} {l3 : Int} {F : zF} {B : zB} {H : Heap} {locs : List Loc} {ls : Array Slot} (hf : f_Study_isFaultOfTwo_129 K l4 l0 l1 l2 l3 F B = some (r, F9, B9)) (hZ : zH D ca ad lnC K.2 L F B A H) (hS : va_S A s.heap H locs) (hl : lv_has ls 10 [(4, .int (iI l4)), (0, .ref (ad 9 l0 0)), (1, .int (iI l1)), (2, .int (iI l2)), (3, .int (iI l3))]) : W p l e ({ frames := 2, cells := 0, slots := 0, locals := 48 } : Room) s m args below meth c H locs 0 0 (MQ below (Q_Study_isFaultOfTwo K D ca ad L r F9 B9 A) args s 0 0 A) (F0 m 129 ls []) := by
  obtain ⟨hx, hb, hr, hml, hown, hts, hlk, hK, hA, hL, hX⟩ := id X
  replace hf : (f_Study_isFaultOfTwo_130 K l4 l0 l1 l2 l3 0 F B) = some (r, F9, B9) := hf
  refine lv_iconst (v := iI 0) hx hb (D_3 W_prog_11_method_9_code_128 1 rfl rfl) rfl ?_
  exact b_Study_isFaultOfTwo_130 X hf hZ hS (lv_sub hl [0, 1, 2, 3, 4] rfl)

def f_Study_isFaultOfTwo_94 (K : zK) (s0 : Int) (F : zF) (B : zB) : zO := if (s0 = 0 ∨ s0 = 1) then some (s0, F, B) else none
set_option maxHeartbeats 4000000 in
set_option maxRecDepth 100000 in
theorem b_Study_isFaultOfTwo_94 {D : va_G} {ca : Nat → ClassId} {ad : Nat → Int → Nat → Nat} {L : List Nat} {aS vS : Nat → Nat} {A : Nat → Prop} {p : Program} {l : Launch} {e : Env} {s : State} {m : MethodId} {args : Array Value} {below : List Frame} {meth : Method} {c : Code} {K : zK} {r : Int} {F9 : zF} {B9 : zB} (X : zX D ca L aS vS A p s m args meth c prog_11_method_9_code 10 (Option.some Jvm.ClassFile.FieldType.boolean) "StaveHouse$Study") {s0 : Int} {F : zF} {B : zB} {H : Heap} {locs : List Loc} {ls : Array Slot} (hf : f_Study_isFaultOfTwo_94 K s0 F B = some (r, F9, B9)) (hZ : zH D ca ad lnC K.2 L F B A H) (hS : va_S A s.heap H locs) (hl : lv_has ls 10 []) : W p l e ({ frames := 2, cells := 0, slots := 0, locals := 48 } : Room) s m args below meth c H locs 0 0 (MQ below (Q_Study_isFaultOfTwo K D ca ad L r F9 B9 A) args s 0 0 A) (F0 m 94 ls [.int (iI s0)]) := by
  obtain ⟨hx, hb, hr, hml, hown, hts, hlk, hK, hA, hL, hX⟩ := id X
  replace hf : (if (s0 = 0 ∨ s0 = 1) then some (s0, F, B) else none) = some (r, F9, B9) := hf
  obtain ⟨g35, hf⟩ := gif hf
  cases hf
  exact W.zret hx hb hr (zbool g35) (fun t ht hW => ⟨⟨_, (), rfl, rfl, by rw [ht]; exact hZ, va_K.moved hW.alike hK⟩, hS.F ht⟩) hS.2.2 (D_172 W_prog_11_method_9_code_64 30 rfl rfl) hlk

def f_Study_isFaultOfTwo_93 (K : zK)  (F : zF) (B : zB) : zO := f_Study_isFaultOfTwo_94 K 0 F B
set_option maxHeartbeats 4000000 in
set_option maxRecDepth 100000 in
theorem b_Study_isFaultOfTwo_93 {D : va_G} {ca : Nat → ClassId} {ad : Nat → Int → Nat → Nat} {L : List Nat} {aS vS : Nat → Nat} {A : Nat → Prop} {p : Program} {l : Launch} {e : Env} {s : State} {m : MethodId} {args : Array Value} {below : List Frame} {meth : Method} {c : Code} {K : zK} {r : Int} {F9 : zF} {B9 : zB} (X : zX D ca L aS vS A p s m args meth c prog_11_method_9_code 10 (Option.some Jvm.ClassFile.FieldType.boolean) "StaveHouse$Study")  {F : zF} {B : zB} {H : Heap} {locs : List Loc} {ls : Array Slot} (hf : f_Study_isFaultOfTwo_93 K  F B = some (r, F9, B9)) (hZ : zH D ca ad lnC K.2 L F B A H) (hS : va_S A s.heap H locs) (hl : lv_has ls 10 []) : W p l e ({ frames := 2, cells := 0, slots := 0, locals := 48 } : Room) s m args below meth c H locs 0 0 (MQ below (Q_Study_isFaultOfTwo K D ca ad L r F9 B9 A) args s 0 0 A) (F0 m 93 ls []) := by
  obtain ⟨hx, hb, hr, hml, hown, hts, hlk, hK, hA, hL, hX⟩ := id X
  replace hf : (f_Study_isFaultOfTwo_94 K 0 F B) = some (r, F9, B9) := hf
  refine lv_iconst (v := iI 0) hx hb (D_3 W_prog_11_method_9_code_64 29 rfl rfl) rfl ?_
  exact b_Study_isFaultOfTwo_94 X hf hZ hS (lv_sub hl [] rfl)

def f_Study_isFaultOfTwo_89 (K : zK)  (F : zF) (B : zB) : zO := f_Study_isFaultOfTwo_94 K 1 F B
set_option maxHeartbeats 4000000 in
set_option maxRecDepth 100000 in
theorem b_Study_isFaultOfTwo_89 {D : va_G} {ca : Nat → ClassId} {ad : Nat → Int → Nat → Nat} {L : List Nat} {aS vS : Nat → Nat} {A : Nat → Prop} {p : Program} {l : Launch} {e : Env} {s : State} {m : MethodId} {args : Array Value} {below : List Frame} {meth : Method} {c : Code} {K : zK} {r : Int} {F9 : zF} {B9 : zB} (X : zX D ca L aS vS A p s m args meth c prog_11_method_9_code 10 (Option.some Jvm.ClassFile.FieldType.boolean) "StaveHouse$Study")  {F : zF} {B : zB} {H : Heap} {locs : List Loc} {ls : Array Slot} (hf : f_Study_isFaultOfTwo_89 K  F B = some (r, F9, B9)) (hZ : zH D ca ad lnC K.2 L F B A H) (hS : va_S A s.heap H locs) (hl : lv_has ls 10 []) : W p l e ({ frames := 2, cells := 0, slots := 0, locals := 48 } : Room) s m args below meth c H locs 0 0 (MQ below (Q_Study_isFaultOfTwo K D ca ad L r F9 B9 A) args s 0 0 A) (F0 m 89 ls []) := by
  obtain ⟨hx, hb, hr, hml, hown, hts, hlk, hK, hA, hL, hX⟩ := id X
  replace hf : (f_Study_isFaultOfTwo_94 K 1 F B) = some (r, F9, B9) := hf
  refine lv_iconst (v := iI 1) hx hb (D_4 W_prog_11_method_9_code_64 25 rfl rfl) rfl ?_
  refine lv_goto (tgt := 94) hx hb (D_167 W_prog_11_method_9_code_64 26 rfl rfl rfl) (by decide) ?_
  exact b_Study_isFaultOfTwo_94 X hf hZ hS (lv_sub hl [] rfl)

def f_Study_isFaultOfTwo_47 (K : zK) (l0 : Int) (l1 : Int) (l2 : Int) (l3 : Int) (s0 : Int) (F : zF) (B : zB) : zO := if r32 l1 then (if l1 = 4 then if 0 ≤ l0 ∧ l0 < K.2 9 then if 0 ≤ l3 ∧ l3 < 4 then if 0 ≤ l2 ∧ l2 < 4 then if r32 (B 9 l0 6 l3) then if r32 (B 9 l0 6 l2) then (if (B 9 l0 6 l3) ≤ (B 9 l0 6 l2) then f_Study_isFaultOfTwo_93 K F B else if r32 s0 then (if s0 = 0 then f_Study_isFaultOfTwo_89 K F B else if r32 (B 9 l0 8 l3) then if r32 (B 9 l0 8 l2) then (if (B 9 l0 8 l2) < (B 9 l0 8 l3) then f_Study_isFaultOfTwo_93 K F B else f_Study_isFaultOfTwo_89 K F B) else none else none) else none) else none else none else none else none else none else if 0 ≤ l0 ∧ l0 < K.2 9 then if 0 ≤ l2 ∧ l2 < 4 then if r32 (B 9 l0 6 l2) then if r32 (B 9 l0 8 l2) then (if (B 9 l0 6 l2) ≤ (B 9 l0 8 l2) then f_Study_isFaultOfTwo_129 K s0 l0 l1 l2 l3 F B else if 0 ≤ l3 ∧ l3 < 4 then if r32 (B 9 l0 6 l3) then if r32 (B 9 l0 8 l3) then (if (B 9 l0 6 l3) ≤ (B 9 l0 8 l3) then f_Study_isFaultOfTwo_129 K s0 l0 l1 l2 l3 F B else f_Study_isFaultOfTwo_130 K s0 l0 l1 l2 l3 1 F B) else none else none else none) else none else none else none else none) else none
set_option maxHeartbeats 4000000 in
set_option maxRecDepth 100000 in
theorem b_Study_isFaultOfTwo_47 {D : va_G} {ca : Nat → ClassId} {ad : Nat → Int → Nat → Nat} {L : List Nat} {aS vS : Nat → Nat} {A : Nat → Prop} {p : Program} {l : Launch} {e : Env} {s : State} {m : MethodId} {args : Array Value} {below : List Frame} {meth : Method} {c : Code} {K : zK} {r : Int} {F9 : zF} {B9 : zB} (X : zX D ca L aS vS A p s m args meth c prog_11_method_9_code 10 (Option.some Jvm.ClassFile.FieldType.boolean) "StaveHouse$Study") {l0 : Int} {l1 : Int} {l2 : Int} {l3 : Int} {s0 : Int} {F : zF} {B : zB} {H : Heap} {locs : List Loc} {ls : Array Slot} (hf : f_Study_isFaultOfTwo_47 K l0 l1 l2 l3 s0 F B = some (r, F9, B9)) (hZ : zH D ca ad lnC K.2 L F B A H) (hS : va_S A s.heap H locs) (hl : lv_has ls 10 [(0, .ref (ad 9 l0 0)), (1, .int (iI l1)), (2, .int (iI l2)), (3, .int (iI l3))]) : W p l e ({ frames := 2, cells := 0, slots := 0, locals := 48 } : Room) s m args below meth c H locs 0 0 (MQ below (Q_Study_isFaultOfTwo K D ca ad L r F9 B9 A) args s 0 0 A) (F0 m 47 ls [.int (iI s0)]) := by
  obtain ⟨hx, hb, hr, hml, hown, hts, hlk, hK, hA, hL, hX⟩ := id X
  replace hf : (if r32 l1 then (if l1 = 4 then if 0 ≤ l0 ∧ l0 < K.2 9 then if 0 ≤ l3 ∧ l3 < 4 then if 0 ≤ l2 ∧ l2 < 4 then if r32 (B 9 l0 6 l3) then if r32 (B 9 l0 6 l2) then (if (B 9 l0 6 l3) ≤ (B 9 l0 6 l2) then f_Study_isFaultOfTwo_93 K F B else if r32 s0 then (if s0 = 0 then f_Study_isFaultOfTwo_89 K F B else if r32 (B 9 l0 8 l3) then if r32 (B 9 l0 8 l2) then (if (B 9 l0 8 l2) < (B 9 l0 8 l3) then f_Study_isFaultOfTwo_93 K F B else f_Study_isFaultOfTwo_89 K F B) else none else none) else none) else none else none else none else none else none else if 0 ≤ l0 ∧ l0 < K.2 9 then if 0 ≤ l2 ∧ l2 < 4 then if r32 (B 9 l0 6 l2) then if r32 (B 9 l0 8 l2) then (if (B 9 l0 6 l2) ≤ (B 9 l0 8 l2) then f_Study_isFaultOfTwo_129 K s0 l0 l1 l2 l3 F B else if 0 ≤ l3 ∧ l3 < 4 then if r32 (B 9 l0 6 l3) then if r32 (B 9 l0 8 l3) then (if (B 9 l0 6 l3) ≤ (B 9 l0 8 l3) then f_Study_isFaultOfTwo_129 K s0 l0 l1 l2 l3 F B else f_Study_isFaultOfTwo_130 K s0 l0 l1 l2 l3 1 F B) else none else none else none) else none else none else none else none) else none) = some (r, F9, B9) := hf
  refine lv_istore (lv' := [(4, .int (iI s0)), (0, .ref (ad 9 l0 0)), (1, .int (iI l1)), (2, .int (iI l2)), (3, .int (iI l3))]) hx hb (D_54 W_prog_11_method_9_code_32 15 rfl rfl) hl (by decide) rfl (fun ls hl => ?_)
  refine lv_iload_n hx hb (D_27 W_prog_11_method_9_code_32 17 rfl rfl) rfl (lv_at hl 2 rfl) ?_
  refine lv_iconst (v := iI 4) hx hb (D_7 W_prog_11_method_9_code_32 18 rfl rfl) rfl ?_
  obtain ⟨g12, hf⟩ := gif hf
  refine zne (tgt := 95) hx hb g12 (by decide) (D_160 W_prog_11_method_9_code_32 19 rfl rfl rfl) (by decide) (fun h13 => ?_) (fun h13 => ?_)
  · replace hf := gneg hf h13
    refine lv_aload_n hx hb (D_42 W_prog_11_method_9_code_64 31 rfl rfl) rfl (lv_at hl 1 rfl) ?_
    obtain ⟨g14, hf⟩ := gif hf
    refine zget (ci := 9) (C := RX9) (T := TX9) (v := .ref (ad 9 l0 (6 + 1))) (k := 6) hx hb hts inW_9 hown hK hZ g14.1 g14.2 rfl (by decide) k_5_207 rfl (D_180 W_prog_11_method_9_code_96 0 rfl rfl rfl) ?_
    refine lv_iload_n hx hb (D_28 W_prog_11_method_9_code_96 3 rfl rfl) rfl (lv_at hl 3 rfl) ?_
    obtain ⟨g15, hf⟩ := gif hf
    refine zald (ci := 9) (k := 6) hx hb hK rfl hZ g14.1 g14.2 rfl (Nat.le_of_ble_eq_true rfl) g15.1 g15.2 (D_46 W_prog_11_method_9_code_96 4 rfl rfl) ?_
    refine lv_aload_n hx hb (D_42 W_prog_11_method_9_code_96 5 rfl rfl) rfl (lv_at hl 1 rfl) ?_
    refine zget (ci := 9) (C := RX9) (T := TX9) (v := .ref (ad 9 l0 (8 + 1))) (k := 8) hx hb hts inW_9 hown hK hZ g14.1 g14.2 rfl (by decide) k_5_209 rfl (D_180 W_prog_11_method_9_code_96 6 rfl rfl rfl) ?_
    refine lv_iload_n hx hb (D_28 W_prog_11_method_9_code_96 9 rfl rfl) rfl (lv_at hl 3 rfl) ?_
    refine zald (ci := 9) (k := 8) hx hb hK rfl hZ g14.1 g14.2 rfl (Nat.le_of_ble_eq_true rfl) g15.1 g15.2 (D_46 W_prog_11_method_9_code_96 10 rfl rfl) ?_
    obtain ⟨g16, hf⟩ := gif hf
    obtain ⟨g17, hf⟩ := gif hf
    refine zle (tgt := 129) hx hb g16 g17 (D_164 W_prog_11_method_9_code_96 11 rfl rfl rfl) (by decide) (fun h18 => ?_) (fun h18 => ?_)
    · replace hf := gpos hf h18
      exact b_Study_isFaultOfTwo_129 X hf hZ hS (lv_sub hl [0, 1, 2, 3, 4] rfl)
    · replace hf := gneg hf h18
      refine lv_aload_n hx hb (D_42 W_prog_11_method_9_code_96 14 rfl rfl) rfl (lv_at hl 1 rfl) ?_
      refine zget (ci := 9) (C := RX9) (T := TX9) (v := .ref (ad 9 l0 (6 + 1))) (k := 6) hx hb hts inW_9 hown hK hZ g14.1 g14.2 rfl (by decide) k_5_207 rfl (D_180 W_prog_11_method_9_code_96 15 rfl rfl rfl) ?_
      refine lv_iload_n hx hb (D_29 W_prog_11_method_9_code_96 18 rfl rfl) rfl (lv_at hl 4 rfl) ?_
      obtain ⟨g19, hf⟩ := gif hf
      refine zald (ci := 9) (k := 6) hx hb hK rfl hZ g14.1 g14.2 rfl (Nat.le_of_ble_eq_true rfl) g19.1 g19.2 (D_46 W_prog_11_method_9_code_96 19 rfl rfl) ?_
      refine lv_aload_n hx hb (D_42 W_prog_11_method_9_code_96 20 rfl rfl) rfl (lv_at hl 1 rfl) ?_
      refine zget (ci := 9) (C := RX9) (T := TX9) (v := .ref (ad 9 l0 (8 + 1))) (k := 8) hx hb hts inW_9 hown hK hZ g14.1 g14.2 rfl (by decide) k_5_209 rfl (D_180 W_prog_11_method_9_code_96 21 rfl rfl rfl) ?_
      refine lv_iload_n hx hb (D_29 W_prog_11_method_9_code_96 24 rfl rfl) rfl (lv_at hl 4 rfl) ?_
      refine zald (ci := 9) (k := 8) hx hb hK rfl hZ g14.1 g14.2 rfl (Nat.le_of_ble_eq_true rfl) g19.1 g19.2 (D_46 W_prog_11_method_9_code_96 25 rfl rfl) ?_
      obtain ⟨g20, hf⟩ := gif hf
      obtain ⟨g21, hf⟩ := gif hf
      refine zle (tgt := 129) hx hb g20 g21 (D_164 W_prog_11_method_9_code_96 26 rfl rfl rfl) (by decide) (fun h22 => ?_) (fun h22 => ?_)
      · replace hf := gpos hf h22
        exact b_Study_isFaultOfTwo_129 X hf hZ hS (lv_sub hl [0, 1, 2, 3, 4] rfl)
      · replace hf := gneg hf h22
        refine lv_iconst (v := iI 1) hx hb (D_4 W_prog_11_method_9_code_96 29 rfl rfl) rfl ?_
        refine lv_goto (tgt := 130) hx hb (D_167 W_prog_11_method_9_code_96 30 rfl rfl rfl) (by decide) ?_
        exact b_Study_isFaultOfTwo_130 X hf hZ hS (lv_sub hl [0, 1, 2, 3, 4] rfl)
  · replace hf := gpos hf h13
    refine lv_aload_n hx hb (D_42 W_prog_11_method_9_code_32 22 rfl rfl) rfl (lv_at hl 1 rfl) ?_
    obtain ⟨g23, hf⟩ := gif hf
    refine zget (ci := 9) (C := RX9) (T := TX9) (v := .ref (ad 9 l0 (6 + 1))) (k := 6) hx hb hts inW_9 hown hK hZ g23.1 g23.2 rfl (by decide) k_5_207 rfl (D_180 W_prog_11_method_9_code_32 23 rfl rfl rfl) ?_
    refine lv_iload_n hx hb (D_29 W_prog_11_method_9_code_32 26 rfl rfl) rfl (lv_at hl 4 rfl) ?_
    obtain ⟨g24, hf⟩ := gif hf
    refine zald (ci := 9) (k := 6) hx hb hK rfl hZ g23.1 g23.2 rfl (Nat.le_of_ble_eq_true rfl) g24.1 g24.2 (D_46 W_prog_11_method_9_code_32 27 rfl rfl) ?_
    refine lv_aload_n hx hb (D_42 W_prog_11_method_9_code_32 28 rfl rfl) rfl (lv_at hl 1 rfl) ?_
    refine zget (ci := 9) (C := RX9) (T := TX9) (v := .ref (ad 9 l0 (6 + 1))) (k := 6) hx hb hts inW_9 hown hK hZ g23.1 g23.2 rfl (by decide) k_5_207 rfl (D_180 W_prog_11_method_9_code_32 29 rfl rfl rfl) ?_
    refine lv_iload_n hx hb (D_28 W_prog_11_method_9_code_64 0 rfl rfl) rfl (lv_at hl 3 rfl) ?_
    obtain ⟨g25, hf⟩ := gif hf
    refine zald (ci := 9) (k := 6) hx hb hK rfl hZ g23.1 g23.2 rfl (Nat.le_of_ble_eq_true rfl) g25.1 g25.2 (D_46 W_prog_11_method_9_code_64 1 rfl rfl) ?_
    obtain ⟨g26, hf⟩ := gif hf
    obtain ⟨g27, hf⟩ := gif hf
    refine zle (tgt := 93) hx hb g26 g27 (D_164 W_prog_11_method_9_code_64 2 rfl rfl rfl) (by decide) (fun h28 => ?_) (fun h28 => ?_)
    · replace hf := gpos hf h28
      exact b_Study_isFaultOfTwo_93 X hf hZ hS (lv_sub hl [] rfl)
    · replace hf := gneg hf h28
      refine lv_iload hx hb (D_21 W_prog_11_method_9_code_64 5 rfl rfl) (lv_at hl 0 rfl) ?_
      obtain ⟨g29, hf⟩ := gif hf
      refine z0eq (tgt := 89) hx hb g29 (D_153 W_prog_11_method_9_code_64 7 rfl rfl rfl) (by decide) (fun h30 => ?_) (fun h30 => ?_)
      · replace hf := gpos hf h30
        exact b_Study_isFaultOfTwo_89 X hf hZ hS (lv_sub hl [] rfl)
      · replace hf := gneg hf h30
        refine lv_aload_n hx hb (D_42 W_prog_11_method_9_code_64 10 rfl rfl) rfl (lv_at hl 1 rfl) ?_
        refine zget (ci := 9) (C := RX9) (T := TX9) (v := .ref (ad 9 l0 (8 + 1))) (k := 8) hx hb hts inW_9 hown hK hZ g23.1 g23.2 rfl (by decide) k_5_209 rfl (D_180 W_prog_11_method_9_code_64 11 rfl rfl rfl) ?_
        refine lv_iload_n hx hb (D_29 W_prog_11_method_9_code_64 14 rfl rfl) rfl (lv_at hl 4 rfl) ?_
        refine zald (ci := 9) (k := 8) hx hb hK rfl hZ g23.1 g23.2 rfl (Nat.le_of_ble_eq_true rfl) g24.1 g24.2 (D_46 W_prog_11_method_9_code_64 15 rfl rfl) ?_
        refine lv_aload_n hx hb (D_42 W_prog_11_method_9_code_64 16 rfl rfl) rfl (lv_at hl 1 rfl) ?_
        refine zget (ci := 9) (C := RX9) (T := TX9) (v := .ref (ad 9 l0 (8 + 1))) (k := 8) hx hb hts inW_9 hown hK hZ g23.1 g23.2 rfl (by decide) k_5_209 rfl (D_180 W_prog_11_method_9_code_64 17 rfl rfl rfl) ?_
        refine lv_iload_n hx hb (D_28 W_prog_11_method_9_code_64 20 rfl rfl) rfl (lv_at hl 3 rfl) ?_
        refine zald (ci := 9) (k := 8) hx hb hK rfl hZ g23.1 g23.2 rfl (Nat.le_of_ble_eq_true rfl) g25.1 g25.2 (D_46 W_prog_11_method_9_code_64 21 rfl rfl) ?_
        obtain ⟨g31, hf⟩ := gif hf
        obtain ⟨g33, hf⟩ := gif hf
        refine zgt (tgt := 93) hx hb g31 g33 (D_163 W_prog_11_method_9_code_64 22 rfl rfl rfl) (by decide) (fun h34 => ?_) (fun h34 => ?_)
        · replace hf := gpos hf h34
          exact b_Study_isFaultOfTwo_93 X hf hZ hS (lv_sub hl [] rfl)
        · replace hf := gneg hf h34
          exact b_Study_isFaultOfTwo_89 X hf hZ hS (lv_sub hl [] rfl)

def f_Study_isFaultOfTwo_46 (K : zK) (l0 : Int) (l1 : Int) (l2 : Int) (l3 : Int) (F : zF) (B : zB) : zO := f_Study_isFaultOfTwo_47 K l0 l1 l2 l3 0 F B
set_option maxHeartbeats 4000000 in
set_option maxRecDepth 100000 in
theorem b_Study_isFaultOfTwo_46 {D : va_G} {ca : Nat → ClassId} {ad : Nat → Int → Nat → Nat} {L : List Nat} {aS vS : Nat → Nat} {A : Nat → Prop} {p : Program} {l : Launch} {e : Env} {s : State} {m : MethodId} {args : Array Value} {below : List Frame} {meth : Method} {c : Code} {K : zK} {r : Int} {F9 : zF} {B9 : zB} (X : zX D ca L aS vS A p s m args meth c prog_11_method_9_code 10 (Option.some Jvm.ClassFile.FieldType.boolean) "StaveHouse$Study") {l0 : Int} {l1 : Int} {l2 : Int} {l3 : Int} {F : zF} {B : zB} {H : Heap} {locs : List Loc} {ls : Array Slot} (hf : f_Study_isFaultOfTwo_46 K l0 l1 l2 l3 F B = some (r, F9, B9)) (hZ : zH D ca ad lnC K.2 L F B A H) (hS : va_S A s.heap H locs) (hl : lv_has ls 10 [(0, .ref (ad 9 l0 0)), (1, .int (iI l1)), (2, .int (iI l2)), (3, .int (iI l3))]) : W p l e ({ frames := 2, cells := 0, slots := 0, locals := 48 } : Room) s m args below meth c H locs 0 0 (MQ below (Q_Study_isFaultOfTwo K D ca ad L r F9 B9 A) args s 0 0 A) (F0 m 46 ls []) := by
  obtain ⟨hx, hb, hr, hml, hown, hts, hlk, hK, hA, hL, hX⟩ := id X
  replace hf : (f_Study_isFaultOfTwo_47 K l0 l1 l2 l3 0 F B) = some (r, F9, B9) := hf
  refine lv_iconst (v := iI 0) hx hb (D_3 W_prog_11_method_9_code_32 14 rfl rfl) rfl ?_
  exact b_Study_isFaultOfTwo_47 X hf hZ hS (lv_sub hl [0, 1, 2, 3] rfl)

def f_Study_isFaultOfTwo_20 (K : zK)  (F : zF) (B : zB) : zO := some (0, F, B)
set_option maxHeartbeats 4000000 in
set_option maxRecDepth 100000 in
theorem b_Study_isFaultOfTwo_20 {D : va_G} {ca : Nat → ClassId} {ad : Nat → Int → Nat → Nat} {L : List Nat} {aS vS : Nat → Nat} {A : Nat → Prop} {p : Program} {l : Launch} {e : Env} {s : State} {m : MethodId} {args : Array Value} {below : List Frame} {meth : Method} {c : Code} {K : zK} {r : Int} {F9 : zF} {B9 : zB} (X : zX D ca L aS vS A p s m args meth c prog_11_method_9_code 10 (Option.some Jvm.ClassFile.FieldType.boolean) "StaveHouse$Study")  {F : zF} {B : zB} {H : Heap} {locs : List Loc} {ls : Array Slot} (hf : f_Study_isFaultOfTwo_20 K  F B = some (r, F9, B9)) (hZ : zH D ca ad lnC K.2 L F B A H) (hS : va_S A s.heap H locs) (hl : lv_has ls 10 []) : W p l e ({ frames := 2, cells := 0, slots := 0, locals := 48 } : Room) s m args below meth c H locs 0 0 (MQ below (Q_Study_isFaultOfTwo K D ca ad L r F9 B9 A) args s 0 0 A) (F0 m 20 ls []) := by
  obtain ⟨hx, hb, hr, hml, hown, hts, hlk, hK, hA, hL, hX⟩ := id X
  replace hf : (some (0, F, B)) = some (r, F9, B9) := hf
  refine lv_iconst (v := iI 0) hx hb (D_3 W_prog_11_method_9_code_0 20 rfl rfl) rfl ?_
  cases hf
  exact W.zret hx hb hr rfl (fun t ht hW => ⟨⟨_, (), rfl, rfl, by rw [ht]; exact hZ, va_K.moved hW.alike hK⟩, hS.F ht⟩) hS.2.2 (D_172 W_prog_11_method_9_code_0 21 rfl rfl) hlk

def f_Study_isFaultOfTwo (K : zK) (l0 : Int) (l1 : Int) (l2 : Int) (l3 : Int) (F : zF) (B : zB) : zO := if 0 ≤ l0 ∧ l0 < K.2 9 then if 0 ≤ l2 ∧ l2 < 4 then if r32 (B 9 l0 6 l2) then (if (B 9 l0 6 l2) = (-1) then f_Study_isFaultOfTwo_20 K F B else if 0 ≤ l3 ∧ l3 < 4 then if r32 (B 9 l0 6 l3) then (if (B 9 l0 6 l3) = (-1) then f_Study_isFaultOfTwo_20 K F B else if r32 (B 9 l0 8 l2) then (if (B 9 l0 8 l2) = (-1) then f_Study_isFaultOfTwo_46 K l0 l1 l2 l3 F B else if r32 (B 9 l0 8 l3) then (if (B 9 l0 8 l3) = (-1) then f_Study_isFaultOfTwo_46 K l0 l1 l2 l3 F B else f_Study_isFaultOfTwo_47 K l0 l1 l2 l3 1 F B) else none) else none) else none else none) else none else none else none
set_option maxHeartbeats 4000000 in
set_option maxRecDepth 100000 in
theorem c_Study_isFaultOfTwo {l : Launch} {D : va_G} {ca : Nat → ClassId} {ad : Nat → Int → Nat → Nat} {L : List Nat} {aS vS : Nat → Nat} {sz : Nat} {K : zK}  {l0 : Int} {l1 : Int} {l2 : Int} {l3 : Int} {F F9 : zF} {B B9 : zB} {r : Int} (hf : f_Study_isFaultOfTwo K l0 l1 l2 l3 F B = some (r, F9, B9)) : Met l ({ cls := "StaveHouse$Study", name := "isFaultOfTwo", desc := "(III)Z" } : Jvm.MethodName) (Cond.code ({ cls := "StaveHouse$Study", name := "isFaultOfTwo", desc := "(III)Z" } : Jvm.MethodName) prog_11_method_9_code 10 (Option.some Jvm.ClassFile.FieldType.boolean) :: wAll) ({ frames := 2, cells := 0, slots := 0, locals := 48 } : Room) (va_Pc [.ref (ad 9 l0 0), .int (iI l1), .int (iI l2), .int (iI l3)] (zPre D ca ad lnC K.2 L aS vS F B sz)) (Q_Study_isFaultOfTwo K D ca ad L r F9 B9 (zA L sz)) 0 0 (zA L sz) := by
  refine zMet (Qc := Q_Study_isFaultOfTwo K D ca ad L r F9 B9) (lv := [(0, .ref (ad 9 l0 0)), (1, .int (iI l1)), (2, .int (iI l2)), (3, .int (iI l3))]) (by decide) (Nat.le_of_ble_eq_true rfl) rfl (fun A p e s m below meth c ls X hZ hS hl => ?_)
  obtain ⟨hx, hb, hr, hml, hown, hts, hlk, hK, hA, hL, hX⟩ := id X
  replace hf : (if 0 ≤ l0 ∧ l0 < K.2 9 then if 0 ≤ l2 ∧ l2 < 4 then if r32 (B 9 l0 6 l2) then (if (B 9 l0 6 l2) = (-1) then f_Study_isFaultOfTwo_20 K F B else if 0 ≤ l3 ∧ l3 < 4 then if r32 (B 9 l0 6 l3) then (if (B 9 l0 6 l3) = (-1) then f_Study_isFaultOfTwo_20 K F B else if r32 (B 9 l0 8 l2) then (if (B 9 l0 8 l2) = (-1) then f_Study_isFaultOfTwo_46 K l0 l1 l2 l3 F B else if r32 (B 9 l0 8 l3) then (if (B 9 l0 8 l3) = (-1) then f_Study_isFaultOfTwo_46 K l0 l1 l2 l3 F B else f_Study_isFaultOfTwo_47 K l0 l1 l2 l3 1 F B) else none) else none) else none else none) else none else none else none) = some (r, F9, B9) := hf
  refine lv_aload_n hx hb (D_42 W_prog_11_method_9_code_0 0 rfl rfl) rfl (lv_at hl 0 rfl) ?_
  obtain ⟨g1, hf⟩ := gif hf
  refine zget (ci := 9) (C := RX9) (T := TX9) (v := .ref (ad 9 l0 (6 + 1))) (k := 6) hx hb hts inW_9 hown hK hZ g1.1 g1.2 rfl (by decide) k_5_207 rfl (D_180 W_prog_11_method_9_code_0 1 rfl rfl rfl) ?_
  refine lv_iload_n hx hb (D_28 W_prog_11_method_9_code_0 4 rfl rfl) rfl (lv_at hl 2 rfl) ?_
  obtain ⟨g2, hf⟩ := gif hf
  refine zald (ci := 9) (k := 6) hx hb hK rfl hZ g1.1 g1.2 rfl (Nat.le_of_ble_eq_true rfl) g2.1 g2.2 (D_46 W_prog_11_method_9_code_0 5 rfl rfl) ?_
  refine lv_iconst (v := iI (-1)) hx hb (D_2 W_prog_11_method_9_code_0 6 rfl rfl) rfl ?_
  obtain ⟨g3, hf⟩ := gif hf
  refine zeq (tgt := 20) hx hb g3 (by decide) (D_159 W_prog_11_method_9_code_0 7 rfl rfl rfl) (by decide) (fun h4 => ?_) (fun h4 => ?_)
  · replace hf := gpos hf h4
    exact b_Study_isFaultOfTwo_20 X hf hZ hS (lv_sub hl [] rfl)
  · replace hf := gneg hf h4
    refine lv_aload_n hx hb (D_42 W_prog_11_method_9_code_0 10 rfl rfl) rfl (lv_at hl 0 rfl) ?_
    refine zget (ci := 9) (C := RX9) (T := TX9) (v := .ref (ad 9 l0 (6 + 1))) (k := 6) hx hb hts inW_9 hown hK hZ g1.1 g1.2 rfl (by decide) k_5_207 rfl (D_180 W_prog_11_method_9_code_0 11 rfl rfl rfl) ?_
    refine lv_iload_n hx hb (D_29 W_prog_11_method_9_code_0 14 rfl rfl) rfl (lv_at hl 3 rfl) ?_
    obtain ⟨g5, hf⟩ := gif hf
    refine zald (ci := 9) (k := 6) hx hb hK rfl hZ g1.1 g1.2 rfl (Nat.le_of_ble_eq_true rfl) g5.1 g5.2 (D_46 W_prog_11_method_9_code_0 15 rfl rfl) ?_
    refine lv_iconst (v := iI (-1)) hx hb (D_2 W_prog_11_method_9_code_0 16 rfl rfl) rfl ?_
    obtain ⟨g6, hf⟩ := gif hf
    refine zne (tgt := 22) hx hb g6 (by decide) (D_160 W_prog_11_method_9_code_0 17 rfl rfl rfl) (by decide) (fun h7 => ?_) (fun h7 => ?_)
    · replace hf := gneg hf h7
      refine lv_aload_n hx hb (D_42 W_prog_11_method_9_code_0 22 rfl rfl) rfl (lv_at hl 0 rfl) ?_
      refine zget (ci := 9) (C := RX9) (T := TX9) (v := .ref (ad 9 l0 (8 + 1))) (k := 8) hx hb hts inW_9 hown hK hZ g1.1 g1.2 rfl (by decide) k_5_209 rfl (D_180 W_prog_11_method_9_code_0 23 rfl rfl rfl) ?_
      refine lv_iload_n hx hb (D_28 W_prog_11_method_9_code_0 26 rfl rfl) rfl (lv_at hl 2 rfl) ?_
      refine zald (ci := 9) (k := 8) hx hb hK rfl hZ g1.1 g1.2 rfl (Nat.le_of_ble_eq_true rfl) g2.1 g2.2 (D_46 W_prog_11_method_9_code_0 27 rfl rfl) ?_
      refine lv_iconst (v := iI (-1)) hx hb (D_2 W_prog_11_method_9_code_0 28 rfl rfl) rfl ?_
      obtain ⟨g8, hf⟩ := gif hf
      refine zeq (tgt := 46) hx hb g8 (by decide) (D_159 W_prog_11_method_9_code_0 29 rfl rfl rfl) (by decide) (fun h9 => ?_) (fun h9 => ?_)
      · replace hf := gpos hf h9
        exact b_Study_isFaultOfTwo_46 X hf hZ hS (lv_sub hl [0, 1, 2, 3] rfl)
      · replace hf := gneg hf h9
        refine lv_aload_n hx hb (D_42 W_prog_11_method_9_code_32 0 rfl rfl) rfl (lv_at hl 0 rfl) ?_
        refine zget (ci := 9) (C := RX9) (T := TX9) (v := .ref (ad 9 l0 (8 + 1))) (k := 8) hx hb hts inW_9 hown hK hZ g1.1 g1.2 rfl (by decide) k_5_209 rfl (D_180 W_prog_11_method_9_code_32 1 rfl rfl rfl) ?_
        refine lv_iload_n hx hb (D_29 W_prog_11_method_9_code_32 4 rfl rfl) rfl (lv_at hl 3 rfl) ?_
        refine zald (ci := 9) (k := 8) hx hb hK rfl hZ g1.1 g1.2 rfl (Nat.le_of_ble_eq_true rfl) g5.1 g5.2 (D_46 W_prog_11_method_9_code_32 5 rfl rfl) ?_
        refine lv_iconst (v := iI (-1)) hx hb (D_2 W_prog_11_method_9_code_32 6 rfl rfl) rfl ?_
        obtain ⟨g10, hf⟩ := gif hf
        refine zeq (tgt := 46) hx hb g10 (by decide) (D_159 W_prog_11_method_9_code_32 7 rfl rfl rfl) (by decide) (fun h11 => ?_) (fun h11 => ?_)
        · replace hf := gpos hf h11
          exact b_Study_isFaultOfTwo_46 X hf hZ hS (lv_sub hl [0, 1, 2, 3] rfl)
        · replace hf := gneg hf h11
          refine lv_iconst (v := iI 1) hx hb (D_4 W_prog_11_method_9_code_32 10 rfl rfl) rfl ?_
          refine lv_goto (tgt := 47) hx hb (D_167 W_prog_11_method_9_code_32 11 rfl rfl rfl) (by decide) ?_
          exact b_Study_isFaultOfTwo_47 X hf hZ hS (lv_sub hl [0, 1, 2, 3] rfl)
    · replace hf := gpos hf h7
      exact b_Study_isFaultOfTwo_20 X hf hZ hS (lv_sub hl [] rfl)

abbrev Q_Performance_addSound (K : zK) (D : va_G) (ca : Nat → ClassId) (ad : Nat → Int → Nat → Nat) (L : List Nat) (r : Int) (F : zF) (B : zB) (A : Nat → Prop) : Array Value → State → Outcome → State → Prop := va_Qv (S := Unit) (fun _ => True) (fun _ => zPo D ca ad lnC K.2 L F B A) A
def f_Performance_addSound (K : zK) (l0 : Int) (l1 : Int) (l2 : Int) (l3 : Int) (l4 : Int) (l5 : Int) (l6 : Int) (F : zF) (B : zB) : zO := if 0 ≤ l0 ∧ l0 < K.2 5 then if r32 (F 5 l0 0) then (if (F 5 l0 0) < 2000 then if 0 ≤ (F 5 l0 0) ∧ (F 5 l0 0) < 2000 then zbind (f_Performance_force K l4 F (zup4 (zup4 (zup4 B 5 l0 340 (F 5 l0 0) l1) 5 l0 341 (F 5 l0 0) l2) 5 l0 342 (F 5 l0 0) l3)) (fun r8 F8 B8 => if 0 ≤ (F8 5 l0 0) ∧ (F8 5 l0 0) < 2000 then some (0, (zup3 F8 5 l0 0 ((F8 5 l0 0) + 1)), (zup4 (zup4 (zup4 B8 5 l0 343 (F 5 l0 0) r8) 5 l0 344 (F8 5 l0 0) l5) 5 l0 345 (F8 5 l0 0) l6)) else none) else none else some (0, (zup3 F 5 l0 1 1), B)) else none else none
set_option maxHeartbeats 4000000 in
set_option maxRecDepth 100000 in
theorem c_Performance_addSound {l : Launch} {D : va_G} {ca : Nat → ClassId} {ad : Nat → Int → Nat → Nat} {L : List Nat} {aS vS : Nat → Nat} {sz : Nat} {K : zK}  {l0 : Int} {l1 : Int} {l2 : Int} {l3 : Int} {l4 : Int} {l5 : Int} {l6 : Int} {F F9 : zF} {B B9 : zB} {r : Int} (hf : f_Performance_addSound K l0 l1 l2 l3 l4 l5 l6 F B = some (r, F9, B9)) : Met l ({ cls := "StaveHouse$Performance", name := "addSound", desc := "(IIILStaveHouse$Event;II)V" } : Jvm.MethodName) (Cond.code ({ cls := "StaveHouse$Performance", name := "addSound", desc := "(IIILStaveHouse$Event;II)V" } : Jvm.MethodName) prog_7_method_6_code 7 (Option.none : Option Jvm.ClassFile.FieldType) :: wAll) ({ frames := 2, cells := 0, slots := 0, locals := 41 } : Room) (va_Pc [.ref (ad 5 l0 0), .int (iI l1), .int (iI l2), .int (iI l3), .ref (ad 1 l4 0), .int (iI l5), .int (iI l6)] (zPre D ca ad lnC K.2 L aS vS F B sz)) (Q_Performance_addSound K D ca ad L r F9 B9 (zA L sz)) 0 0 (zA L sz) := by
  refine zMet (Qc := Q_Performance_addSound K D ca ad L r F9 B9) (lv := [(0, .ref (ad 5 l0 0)), (1, .int (iI l1)), (2, .int (iI l2)), (3, .int (iI l3)), (4, .ref (ad 1 l4 0)), (5, .int (iI l5)), (6, .int (iI l6))]) (by decide) (Nat.le_of_ble_eq_true rfl) rfl (fun A p e s m below meth c ls X hZ hS hl => ?_)
  obtain ⟨hx, hb, hr, hml, hown, hts, hlk, hK, hA, hL, hX⟩ := id X
  replace hf : (if 0 ≤ l0 ∧ l0 < K.2 5 then if r32 (F 5 l0 0) then (if (F 5 l0 0) < 2000 then if 0 ≤ (F 5 l0 0) ∧ (F 5 l0 0) < 2000 then zbind (f_Performance_force K l4 F (zup4 (zup4 (zup4 B 5 l0 340 (F 5 l0 0) l1) 5 l0 341 (F 5 l0 0) l2) 5 l0 342 (F 5 l0 0) l3)) (fun r8 F8 B8 => if 0 ≤ (F8 5 l0 0) ∧ (F8 5 l0 0) < 2000 then some (0, (zup3 F8 5 l0 0 ((F8 5 l0 0) + 1)), (zup4 (zup4 (zup4 B8 5 l0 343 (F 5 l0 0) r8) 5 l0 344 (F8 5 l0 0) l5) 5 l0 345 (F8 5 l0 0) l6)) else none) else none else some (0, (zup3 F 5 l0 1 1), B)) else none else none) = some (r, F9, B9) := hf
  refine lv_aload_n hx hb (D_42 W_prog_7_method_6_code_0 0 rfl rfl) rfl (lv_at hl 0 rfl) ?_
  obtain ⟨g1, hf⟩ := gif hf
  refine zget (ci := 5) (C := RX5) (T := TX5) (v := .int (iI (F 5 l0 0))) (k := 0) hx hb hts inW_5 hown hK hZ g1.1 g1.2 rfl (by decide) k_6_63 rfl (D_180 W_prog_7_method_6_code_0 1 rfl rfl rfl) ?_
  refine lv_sipush (v := iI 2000) hx hb (D_17 W_prog_7_method_6_code_0 4 rfl rfl rfl) (by decide) ?_
  obtain ⟨g2, hf⟩ := gif hf
  refine zlt (tgt := 16) hx hb g2 (by decide) (D_161 W_prog_7_method_6_code_0 7 rfl rfl rfl) (by decide) (fun h3 => ?_) (fun h3 => ?_)
  · replace hf := gpos hf h3
    refine lv_aload_n hx hb (D_42 W_prog_7_method_6_code_0 16 rfl rfl) rfl (lv_at hl 0 rfl) ?_
    refine zget (ci := 5) (C := RX5) (T := TX5) (v := .ref (ad 5 l0 (7 + 1))) (k := 7) hx hb hts inW_5 hown hK hZ g1.1 g1.2 rfl (by decide) k_6_76 rfl (D_180 W_prog_7_method_6_code_0 17 rfl rfl rfl) ?_
    refine lv_iconst (v := iI 0) hx hb (D_3 W_prog_7_method_6_code_0 20 rfl rfl) rfl ?_
    refine zaldQ (t := 0) (ci := 5) (k := 7) hx hb hK rfl hZ g1.1 g1.2 rfl (Nat.le_of_ble_eq_true rfl) (by decide) (by decide) (D_50 W_prog_7_method_6_code_0 21 rfl rfl) ?_
    refine W.eq (g2 := F0 m 22 ls [.ref (ad 5 l0 (340 + 1))]) rfl ?_
    refine lv_aload_n hx hb (D_42 W_prog_7_method_6_code_0 22 rfl rfl) rfl (lv_at hl 0 rfl) ?_
    refine zget (ci := 5) (C := RX5) (T := TX5) (v := .int (iI (F 5 l0 0))) (k := 0) hx hb hts inW_5 hown hK hZ g1.1 g1.2 rfl (by decide) k_6_63 rfl (D_180 W_prog_7_method_6_code_0 23 rfl rfl rfl) ?_
    refine lv_iload_n hx hb (D_27 W_prog_7_method_6_code_0 26 rfl rfl) rfl (lv_at hl 1 rfl) ?_
    obtain ⟨g4, hf⟩ := gif hf
    refine zast (ci := 5) (k := 340) hx hb hK rfl hZ hS g1.1 g1.2 rfl (Nat.le_of_ble_eq_true rfl) g4.1 g4.2 (D_79 W_prog_7_method_6_code_0 27 rfl rfl) (fun H5 locs5 hZ5 hS5 => ?_)
    refine lv_aload_n hx hb (D_42 W_prog_7_method_6_code_0 28 rfl rfl) rfl (lv_at hl 0 rfl) ?_
    refine zget (ci := 5) (C := RX5) (T := TX5) (v := .ref (ad 5 l0 (7 + 1))) (k := 7) hx hb hts inW_5 hown hK hZ5 g1.1 g1.2 rfl (by decide) k_6_76 rfl (D_180 W_prog_7_method_6_code_0 29 rfl rfl rfl) ?_
    refine lv_iconst (v := iI 1) hx hb (D_4 W_prog_7_method_6_code_32 0 rfl rfl) rfl ?_
    refine zaldQ (t := 0) (ci := 5) (k := 7) hx hb hK rfl hZ5 g1.1 g1.2 rfl (Nat.le_of_ble_eq_true rfl) (by decide) (by decide) (D_50 W_prog_7_method_6_code_32 1 rfl rfl) ?_
    refine W.eq (g2 := F0 m 34 ls [.ref (ad 5 l0 (341 + 1))]) rfl ?_
    refine lv_aload_n hx hb (D_42 W_prog_7_method_6_code_32 2 rfl rfl) rfl (lv_at hl 0 rfl) ?_
    refine zget (ci := 5) (C := RX5) (T := TX5) (v := .int (iI (F 5 l0 0))) (k := 0) hx hb hts inW_5 hown hK hZ5 g1.1 g1.2 rfl (by decide) k_6_63 rfl (D_180 W_prog_7_method_6_code_32 3 rfl rfl rfl) ?_
    refine lv_iload_n hx hb (D_28 W_prog_7_method_6_code_32 6 rfl rfl) rfl (lv_at hl 2 rfl) ?_
    refine zast (ci := 5) (k := 341) hx hb hK rfl hZ5 hS5 g1.1 g1.2 rfl (Nat.le_of_ble_eq_true rfl) g4.1 g4.2 (D_79 W_prog_7_method_6_code_32 7 rfl rfl) (fun H6 locs6 hZ6 hS6 => ?_)
    refine lv_aload_n hx hb (D_42 W_prog_7_method_6_code_32 8 rfl rfl) rfl (lv_at hl 0 rfl) ?_
    refine zget (ci := 5) (C := RX5) (T := TX5) (v := .ref (ad 5 l0 (7 + 1))) (k := 7) hx hb hts inW_5 hown hK hZ6 g1.1 g1.2 rfl (by decide) k_6_76 rfl (D_180 W_prog_7_method_6_code_32 9 rfl rfl rfl) ?_
    refine lv_iconst (v := iI 2) hx hb (D_5 W_prog_7_method_6_code_32 12 rfl rfl) rfl ?_
    refine zaldQ (t := 0) (ci := 5) (k := 7) hx hb hK rfl hZ6 g1.1 g1.2 rfl (Nat.le_of_ble_eq_true rfl) (by decide) (by decide) (D_50 W_prog_7_method_6_code_32 13 rfl rfl) ?_
    refine W.eq (g2 := F0 m 46 ls [.ref (ad 5 l0 (342 + 1))]) rfl ?_
    refine lv_aload_n hx hb (D_42 W_prog_7_method_6_code_32 14 rfl rfl) rfl (lv_at hl 0 rfl) ?_
    refine zget (ci := 5) (C := RX5) (T := TX5) (v := .int (iI (F 5 l0 0))) (k := 0) hx hb hts inW_5 hown hK hZ6 g1.1 g1.2 rfl (by decide) k_6_63 rfl (D_180 W_prog_7_method_6_code_32 15 rfl rfl rfl) ?_
    refine lv_iload_n hx hb (D_29 W_prog_7_method_6_code_32 18 rfl rfl) rfl (lv_at hl 3 rfl) ?_
    refine zast (ci := 5) (k := 342) hx hb hK rfl hZ6 hS6 g1.1 g1.2 rfl (Nat.le_of_ble_eq_true rfl) g4.1 g4.2 (D_79 W_prog_7_method_6_code_32 19 rfl rfl) (fun H7 locs7 hZ7 hS7 => ?_)
    refine lv_aload_n hx hb (D_42 W_prog_7_method_6_code_32 20 rfl rfl) rfl (lv_at hl 0 rfl) ?_
    refine zget (ci := 5) (C := RX5) (T := TX5) (v := .ref (ad 5 l0 (7 + 1))) (k := 7) hx hb hts inW_5 hown hK hZ7 g1.1 g1.2 rfl (by decide) k_6_76 rfl (D_180 W_prog_7_method_6_code_32 21 rfl rfl rfl) ?_
    refine lv_iconst (v := iI 3) hx hb (D_6 W_prog_7_method_6_code_32 24 rfl rfl) rfl ?_
    refine zaldQ (t := 0) (ci := 5) (k := 7) hx hb hK rfl hZ7 g1.1 g1.2 rfl (Nat.le_of_ble_eq_true rfl) (by decide) (by decide) (D_50 W_prog_7_method_6_code_32 25 rfl rfl) ?_
    refine W.eq (g2 := F0 m 58 ls [.ref (ad 5 l0 (343 + 1))]) rfl ?_
    refine lv_aload_n hx hb (D_42 W_prog_7_method_6_code_32 26 rfl rfl) rfl (lv_at hl 0 rfl) ?_
    refine zget (ci := 5) (C := RX5) (T := TX5) (v := .int (iI (F 5 l0 0))) (k := 0) hx hb hts inW_5 hown hK hZ7 g1.1 g1.2 rfl (by decide) k_6_63 rfl (D_180 W_prog_7_method_6_code_32 27 rfl rfl rfl) ?_
    refine lv_aload hx hb (D_25 W_prog_7_method_6_code_32 30 rfl rfl) (lv_at hl 4 rfl) ?_
    obtain ⟨r8, F8, B8, hc8, hf⟩ := gbind hf
    refine va_calli (va_runS (As := [.ref (ad 1 l4 0)]) (rest := [.int (iI (F 5 l0 0)), .ref (ad 5 l0 (343 + 1))]) ⟨hx, hb, hml, hown, hts⟩ (c_Performance_force (l := l) hc8) (va_cwS 1 hts (gdS k_6_139 k_6_140 k_1_20 k_6_141) rfl rfl rfl (by decide +kernel) ⟨Nat.le_of_ble_eq_true rfl, Nat.le_of_ble_eq_true rfl⟩) (zPS X hZ7 hS7 [.ref (ad 1 l4 0)]) rfl rfl hl.1 rfl (lv_room (Nat.le_of_ble_eq_true rfl)) (D_184 W_prog_7_method_6_code_64 0 rfl rfl rfl) ⟨Nat.le_of_ble_eq_true rfl, Nat.le_of_ble_eq_true rfl⟩) hS7 (fun q _ h => zAin X hS7 q h) (zAin X hS7) (fun p8 u8 t8 H8 locs8 ht8 hv8 hw8 hB8 hz8 hk8 hS8 => ?_)
    have hZ8 := zBack X ht8 hB8
    subst hw8
    refine zast (ci := 5) (k := 343) hx hb hK rfl hZ8 hS8 g1.1 g1.2 rfl (Nat.le_of_ble_eq_true rfl) g4.1 g4.2 (D_79 W_prog_7_method_6_code_64 3 rfl rfl) (fun H9 locs9 hZ9 hS9 => ?_)
    refine lv_aload_n hx hb (D_42 W_prog_7_method_6_code_64 4 rfl rfl) rfl (lv_at hl 0 rfl) ?_
    refine zget (ci := 5) (C := RX5) (T := TX5) (v := .ref (ad 5 l0 (7 + 1))) (k := 7) hx hb hts inW_5 hown hK hZ9 g1.1 g1.2 rfl (by decide) k_6_76 rfl (D_180 W_prog_7_method_6_code_64 5 rfl rfl rfl) ?_
    refine lv_iconst (v := iI 4) hx hb (D_7 W_prog_7_method_6_code_64 8 rfl rfl) rfl ?_
    refine zaldQ (t := 0) (ci := 5) (k := 7) hx hb hK rfl hZ9 g1.1 g1.2 rfl (Nat.le_of_ble_eq_true rfl) (by decide) (by decide) (D_50 W_prog_7_method_6_code_64 9 rfl rfl) ?_
    refine W.eq (g2 := F0 m 74 ls [.ref (ad 5 l0 (344 + 1))]) rfl ?_
    refine lv_aload_n hx hb (D_42 W_prog_7_method_6_code_64 10 rfl rfl) rfl (lv_at hl 0 rfl) ?_
    refine zget (ci := 5) (C := RX5) (T := TX5) (v := .int (iI (F8 5 l0 0))) (k := 0) hx hb hts inW_5 hown hK hZ9 g1.1 g1.2 rfl (by decide) k_6_63 rfl (D_180 W_prog_7_method_6_code_64 11 rfl rfl rfl) ?_
    refine lv_iload hx hb (D_21 W_prog_7_method_6_code_64 14 rfl rfl) (lv_at hl 5 rfl) ?_
    obtain ⟨g10, hf⟩ := gif hf
    refine zast (ci := 5) (k := 344) hx hb hK rfl hZ9 hS9 g1.1 g1.2 rfl (Nat.le_of_ble_eq_true rfl) g10.1 g10.2 (D_79 W_prog_7_method_6_code_64 16 rfl rfl) (fun H11 locs11 hZ11 hS11 => ?_)
    refine lv_aload_n hx hb (D_42 W_prog_7_method_6_code_64 17 rfl rfl) rfl (lv_at hl 0 rfl) ?_
    refine zget (ci := 5) (C := RX5) (T := TX5) (v := .ref (ad 5 l0 (7 + 1))) (k := 7) hx hb hts inW_5 hown hK hZ11 g1.1 g1.2 rfl (by decide) k_6_76 rfl (D_180 W_prog_7_method_6_code_64 18 rfl rfl rfl) ?_
    refine lv_iconst (v := iI 5) hx hb (D_8 W_prog_7_method_6_code_64 21 rfl rfl) rfl ?_
    refine zaldQ (t := 0) (ci := 5) (k := 7) hx hb hK rfl hZ11 g1.1 g1.2 rfl (Nat.le_of_ble_eq_true rfl) (by decide) (by decide) (D_50 W_prog_7_method_6_code_64 22 rfl rfl) ?_
    refine W.eq (g2 := F0 m 87 ls [.ref (ad 5 l0 (345 + 1))]) rfl ?_
    refine lv_aload_n hx hb (D_42 W_prog_7_method_6_code_64 23 rfl rfl) rfl (lv_at hl 0 rfl) ?_
    refine zget (ci := 5) (C := RX5) (T := TX5) (v := .int (iI (F8 5 l0 0))) (k := 0) hx hb hts inW_5 hown hK hZ11 g1.1 g1.2 rfl (by decide) k_6_63 rfl (D_180 W_prog_7_method_6_code_64 24 rfl rfl rfl) ?_
    refine lv_iload hx hb (D_21 W_prog_7_method_6_code_64 27 rfl rfl) (lv_at hl 6 rfl) ?_
    refine zast (ci := 5) (k := 345) hx hb hK rfl hZ11 hS11 g1.1 g1.2 rfl (Nat.le_of_ble_eq_true rfl) g10.1 g10.2 (D_79 W_prog_7_method_6_code_64 29 rfl rfl) (fun H12 locs12 hZ12 hS12 => ?_)
    refine lv_aload_n hx hb (D_42 W_prog_7_method_6_code_64 30 rfl rfl) rfl (lv_at hl 0 rfl) ?_
    refine lv_dup hx hb (D_89 W_prog_7_method_6_code_64 31 rfl rfl) rfl ?_
    refine zget (ci := 5) (C := RX5) (T := TX5) (v := .int (iI (F8 5 l0 0))) (k := 0) hx hb hts inW_5 hown hK hZ12 g1.1 g1.2 rfl (by decide) k_6_63 rfl (D_180 W_prog_7_method_6_code_96 0 rfl rfl rfl) ?_
    refine lv_iconst (v := iI 1) hx hb (D_4 W_prog_7_method_6_code_96 3 rfl rfl) rfl ?_
    refine zadd hx hb (D_96 W_prog_7_method_6_code_96 4 rfl rfl) ?_
    refine zput (ci := 5) (C := RX5) (T := TX5) (k := 0) (v := ((F8 5 l0 0) + 1)) (w := .int (iI ((F8 5 l0 0) + 1))) hx hb hts inW_5 tyX5 tyX5_ok nmX5 hown hK hZ12 hS12 g1.1 g1.2 rfl (by decide) k_6_63 rfl (fun G h => congrArg (fun q => Value.int (iI q)) h) rfl rfl (zno (by decide)) (D_181 W_prog_7_method_6_code_96 5 rfl rfl rfl) (fun H13 locs13 hZ13 hS13 => ?_)
    cases hf
    exact W.vret hx hb hr (fun t ht hW => ⟨⟨(), rfl, trivial, by rw [ht]; exact hZ13, va_K.moved hW.alike hK⟩, hS13.F ht⟩) hS13.2.2 (D_177 W_prog_7_method_6_code_96 8 rfl rfl) hlk
  · replace hf := gneg hf h3
    refine lv_aload_n hx hb (D_42 W_prog_7_method_6_code_0 10 rfl rfl) rfl (lv_at hl 0 rfl) ?_
    refine lv_iconst (v := iI 1) hx hb (D_4 W_prog_7_method_6_code_0 11 rfl rfl) rfl ?_
    refine zput (ci := 5) (C := RX5) (T := TX5) (k := 1) (v := 1) (w := .int (iI 1)) hx hb hts inW_5 tyX5 tyX5_ok nmX5 hown hK hZ hS g1.1 g1.2 rfl (by decide) k_6_65 rfl (fun G h => congrArg (fun q => Value.int (iI q)) h) rfl rfl (zno (by decide)) (D_181 W_prog_7_method_6_code_0 12 rfl rfl rfl) (fun H14 locs14 hZ14 hS14 => ?_)
    cases hf
    exact W.vret hx hb hr (fun t ht hW => ⟨⟨(), rfl, trivial, by rw [ht]; exact hZ14, va_K.moved hW.alike hK⟩, hS14.F ht⟩) hS14.2.2 (D_177 W_prog_7_method_6_code_0 15 rfl rfl) hlk

abbrev Q_Performance_soundAll (K : zK) (D : va_G) (ca : Nat → ClassId) (ad : Nat → Int → Nat → Nat) (L : List Nat) (r : Int) (F : zF) (B : zB) (A : Nat → Prop) : Array Value → State → Outcome → State → Prop := va_Qv (S := Unit) (fun _ => True) (fun _ => zPo D ca ad lnC K.2 L F B A) A
def f_Performance_soundAll_106 (rec21 : Int → Int → Int → Int → Int → Int → Int → zF → zB → zO) (K : zK) (l6 : Int) (l5 : Int) (l4 : Int) (l0 : Int) (l1 : Int) (l2 : Int) (l3 : Int) (F : zF) (B : zB) : zO := rec21 (l6 + 1) l5 l4 l0 l1 l2 l3 F B
set_option maxHeartbeats 4000000 in
set_option maxRecDepth 100000 in
theorem b_Performance_soundAll_106 {D : va_G} {ca : Nat → ClassId} {ad : Nat → Int → Nat → Nat} {L : List Nat} {aS vS : Nat → Nat} {A : Nat → Prop} {p : Program} {l : Launch} {e : Env} {s : State} {m : MethodId} {args : Array Value} {below : List Frame} {meth : Method} {c : Code} {K : zK} {r : Int} {F9 : zF} {B9 : zB} (X : zX D ca L aS vS A p s m args meth c prog_7_method_7_code 9 (Option.none : Option Jvm.ClassFile.FieldType) "StaveHouse$Performance") {rec21 : Int → Int → Int → Int → Int → Int → Int → zF → zB → zO} (hrec21 : ∀ {l6 : Int} {l5 : Int} {l4 : Int} {l0 : Int} {l1 : Int} {l2 : Int} {l3 : Int} {F : zF} {B : zB} {H : Heap} {locs : List Loc} {ls : Array Slot}, rec21 l6 l5 l4 l0 l1 l2 l3 F B = some (r, F9, B9) → zH D ca ad lnC K.2 L F B A H → va_S A s.heap H locs → lv_has ls 9 [(6, .int (iI l6)), (5, .int (iI l5)), (4, va_rf (zrf ad 1 l4)), (0, .ref (ad 5 l0 0)), (1, .ref (ad 4 l1 0)), (2, .int (iI l2)), (3, .int (iI l3))] → W p l e ({ frames := 3, cells := 0, slots := 0, locals := 67 } : Room) s m args below meth c H locs 0 0 (MQ below (Q_Performance_soundAll K D ca ad L r F9 B9 A) args s 0 0 A) (F0 m 21 ls [])) {l6 : Int} {l5 : Int} {l4 : Int} {l0 : Int} {l1 : Int} {l2 : Int} {l3 : Int} {F : zF} {B : zB} {H : Heap} {locs : List Loc} {ls : Array Slot} (hf : f_Performance_soundAll_106 rec21 K l6 l5 l4 l0 l1 l2 l3 F B = some (r, F9, B9)) (hZ : zH D ca ad lnC K.2 L F B A H) (hS : va_S A s.heap H locs) (hl : lv_has ls 9 [(6, .int (iI l6)), (5, .int (iI l5)), (4, va_rf (zrf ad 1 l4)), (0, .ref (ad 5 l0 0)), (1, .ref (ad 4 l1 0)), (2, .int (iI l2)), (3, .int (iI l3))]) : W p l e ({ frames := 3, cells := 0, slots := 0, locals := 67 } : Room) s m args below meth c H locs 0 0 (MQ below (Q_Performance_soundAll K D ca ad L r F9 B9 A) args s 0 0 A) (F0 m 106 ls []) := by
  obtain ⟨hx, hb, hr, hml, hown, hts, hlk, hK, hA, hL, hX⟩ := id X
  replace hf : (rec21 (l6 + 1) l5 l4 l0 l1 l2 l3 F B) = some (r, F9, B9) := hf
  refine lv_iinc (v := iI (l6 + 1)) (lv' := [(6, .int (iI (l6 + 1))), (5, .int (iI l5)), (4, va_rf (zrf ad 1 l4)), (0, .ref (ad 5 l0 0)), (1, .ref (ad 4 l1 0)), (2, .int (iI l2)), (3, .int (iI l3))]) hx hb d_7_7_106 hl (k := 0) rfl (iI_add _ 1) (by decide) rfl (fun ls hl => ?_)
  refine lv_goto (tgt := 21) hx hb (D_167 W_prog_7_method_7_code_96 13 rfl rfl rfl) (by decide) ?_
  exact hrec21 hf hZ hS (lv_sub hl [0, 1, 2, 3, 4, 5, 6] rfl)

def f_Performance_soundAll_21 (K : zK) : Nat → Int → Int → Int → Int → Int → Int → Int → zF → zB → zO
  | 0, _, _, _, _, _, _, _, _, _ => none
  | n + 1, l6, l5, l4, l0, l1, l2, l3, F, B => if 0 ≤ l4 ∧ l4 < K.2 1 then if r32 l6 then if r32 (F 1 l4 10) then (if (F 1 l4 10) ≤ l6 then some (0, F, B) else if 0 ≤ l1 ∧ l1 < K.2 4 then zbind (f_Part_isTiedFrom K l1 l3 l6 F B) (fun r10 F10 B10 => if r32 r10 then (if r10 = 0 then zbind (f_Performance_lastTied K l1 l3 l6 F10 B10) (fun r13 F13 B13 => if 0 ≤ r13 ∧ r13 < 200 then if 0 ≤ (B13 4 l1 5 r13) ∧ (B13 4 l1 5 r13) < K.2 1 then zbind (f_Performance_tick K ((F13 1 (B13 4 l1 5 r13) 0) + (F13 1 (B13 4 l1 5 r13) 1)) F13 B13) (fun r16 F16 B16 => if r32 (r16 - l5) then (if (r16 - l5) ≤ 0 then f_Performance_soundAll_106 (f_Performance_soundAll_21 K n) K l6 l5 l4 l0 l1 l2 l3 F16 B16 else zbind (f_Event_tone K l4 l6 F16 B16) (fun r19 F19 B19 => zbind (f_Performance_sounded K (B13 4 l1 5 r13) (r16 - l5) F19 B19) (fun r20 F20 B20 => if 0 ≤ l0 ∧ l0 < K.2 5 then zbind (f_Performance_addSound K l0 l2 l3 r19 l4 l5 (l5 + r20) F20 B20) (fun r22 F22 B22 => f_Performance_soundAll_106 (f_Performance_soundAll_21 K n) K l6 l5 l4 l0 l1 l2 l3 F22 B22) else none))) else none) else none else none) else f_Performance_soundAll_106 (f_Performance_soundAll_21 K n) K l6 l5 l4 l0 l1 l2 l3 F10 B10) else none) else none) else none else none else none
set_option maxHeartbeats 4000000 in
set_option maxRecDepth 100000 in
theorem b_Performance_soundAll_21 {D : va_G} {ca : Nat → ClassId} {ad : Nat → Int → Nat → Nat} {L : List Nat} {aS vS : Nat → Nat} {A : Nat → Prop} {p : Program} {l : Launch} {e : Env} {s : State} {m : MethodId} {args : Array Value} {below : List Frame} {meth : Method} {c : Code} {K : zK} {r : Int} {F9 : zF} {B9 : zB} (X : zX D ca L aS vS A p s m args meth c prog_7_method_7_code 9 (Option.none : Option Jvm.ClassFile.FieldType) "StaveHouse$Performance") : ∀ {n : Nat} {l6 : Int} {l5 : Int} {l4 : Int} {l0 : Int} {l1 : Int} {l2 : Int} {l3 : Int} {F : zF} {B : zB} {H : Heap} {locs : List Loc} {ls : Array Slot}, f_Performance_soundAll_21 K n l6 l5 l4 l0 l1 l2 l3 F B = some (r, F9, B9) → zH D ca ad lnC K.2 L F B A H → va_S A s.heap H locs → lv_has ls 9 [(6, .int (iI l6)), (5, .int (iI l5)), (4, va_rf (zrf ad 1 l4)), (0, .ref (ad 5 l0 0)), (1, .ref (ad 4 l1 0)), (2, .int (iI l2)), (3, .int (iI l3))] → W p l e ({ frames := 3, cells := 0, slots := 0, locals := 67 } : Room) s m args below meth c H locs 0 0 (MQ below (Q_Performance_soundAll K D ca ad L r F9 B9 A) args s 0 0 A) (F0 m 21 ls []) := by
  obtain ⟨hx, hb, hr, hml, hown, hts, hlk, hK, hA, hL, hX⟩ := id X
  intro n
  induction n with
  | zero =>
    intros
    rename_i hf _ _ _
    cases hf
  | succ n ih =>
    intro l6 l5 l4 l0 l1 l2 l3 F B H locs ls hf hZ hS hl
    replace hf : (if 0 ≤ l4 ∧ l4 < K.2 1 then if r32 l6 then if r32 (F 1 l4 10) then (if (F 1 l4 10) ≤ l6 then some (0, F, B) else if 0 ≤ l1 ∧ l1 < K.2 4 then zbind (f_Part_isTiedFrom K l1 l3 l6 F B) (fun r10 F10 B10 => if r32 r10 then (if r10 = 0 then zbind (f_Performance_lastTied K l1 l3 l6 F10 B10) (fun r13 F13 B13 => if 0 ≤ r13 ∧ r13 < 200 then if 0 ≤ (B13 4 l1 5 r13) ∧ (B13 4 l1 5 r13) < K.2 1 then zbind (f_Performance_tick K ((F13 1 (B13 4 l1 5 r13) 0) + (F13 1 (B13 4 l1 5 r13) 1)) F13 B13) (fun r16 F16 B16 => if r32 (r16 - l5) then (if (r16 - l5) ≤ 0 then f_Performance_soundAll_106 (f_Performance_soundAll_21 K n) K l6 l5 l4 l0 l1 l2 l3 F16 B16 else zbind (f_Event_tone K l4 l6 F16 B16) (fun r19 F19 B19 => zbind (f_Performance_sounded K (B13 4 l1 5 r13) (r16 - l5) F19 B19) (fun r20 F20 B20 => if 0 ≤ l0 ∧ l0 < K.2 5 then zbind (f_Performance_addSound K l0 l2 l3 r19 l4 l5 (l5 + r20) F20 B20) (fun r22 F22 B22 => f_Performance_soundAll_106 (f_Performance_soundAll_21 K n) K l6 l5 l4 l0 l1 l2 l3 F22 B22) else none))) else none) else none else none) else f_Performance_soundAll_106 (f_Performance_soundAll_21 K n) K l6 l5 l4 l0 l1 l2 l3 F10 B10) else none) else none) else none else none else none) = some (r, F9, B9) := hf
    refine lv_iload hx hb (D_21 W_prog_7_method_7_code_0 21 rfl rfl) (lv_at hl 0 rfl) ?_
    refine zaload hx hb (D_25 W_prog_7_method_7_code_0 23 rfl rfl) (lv_at hl 2 rfl) ?_
    obtain ⟨g5, hf⟩ := gif hf
    refine zunrf g5.1 ?_
    refine zget (ci := 1) (C := RX1) (T := TX1) (v := .int (iI (F 1 l4 10))) (k := 10) hx hb hts inW_1 hown hK hZ g5.1 g5.2 rfl (by decide) k_2_49 rfl (D_180 W_prog_7_method_7_code_0 25 rfl rfl rfl) ?_
    obtain ⟨g6, hf⟩ := gif hf
    obtain ⟨g7, hf⟩ := gif hf
    refine zge (tgt := 112) hx hb g6 g7 (D_162 W_prog_7_method_7_code_0 28 rfl rfl rfl) (by decide) (fun h8 => ?_) (fun h8 => ?_)
    · replace hf := gpos hf h8
      cases hf
      exact W.vret hx hb hr (fun t ht hW => ⟨⟨(), rfl, trivial, by rw [ht]; exact hZ, va_K.moved hW.alike hK⟩, hS.F ht⟩) hS.2.2 (D_177 W_prog_7_method_7_code_96 16 rfl rfl) hlk
    · replace hf := gneg hf h8
      refine lv_aload_n hx hb (D_43 W_prog_7_method_7_code_0 31 rfl rfl) rfl (lv_at hl 4 rfl) ?_
      refine lv_iload_n hx hb (D_29 W_prog_7_method_7_code_32 0 rfl rfl) rfl (lv_at hl 6 rfl) ?_
      refine lv_iload hx hb (D_21 W_prog_7_method_7_code_32 1 rfl rfl) (lv_at hl 0 rfl) ?_
      obtain ⟨g9, hf⟩ := gif hf
      obtain ⟨r10, F10, B10, hc10, hf⟩ := gbind hf
      refine va_calli (va_runV (As := [.int (iI l3), .int (iI l6)]) (rest := []) ⟨hx, hb, hml, hown, hts⟩ (c_Part_isTiedFrom (l := l) hc10) (cwV 2 hts (gdV k_6_121 k_5_126 k_5_127 k_1_18 k_5_128) rfl rfl rfl (by decide +kernel) ⟨Nat.le_of_ble_eq_true rfl, Nat.le_of_ble_eq_true rfl⟩) (zPV X hZ hS (ci := 4) g9.1 g9.2 (r := (RX4, TX4, 13)) rfl [.int (iI l3), .int (iI l6)]) rfl rfl hl.1 rfl (lv_room (Nat.le_of_ble_eq_true rfl)) (D_182 W_prog_7_method_7_code_32 3 rfl rfl rfl) ⟨Nat.le_of_ble_eq_true rfl, Nat.le_of_ble_eq_true rfl⟩) hS (fun q _ h => zAin X hS q h) (zAin X hS) (fun p10 u10 t10 H10 locs10 ht10 hv10 hw10 hB10 hz10 hk10 hS10 => ?_)
      have hZ10 := zBack X ht10 hB10
      subst hw10
      obtain ⟨g11, hf⟩ := gif hf
      refine z0ne (tgt := 106) hx hb g11 (D_154 W_prog_7_method_7_code_32 6 rfl rfl rfl) (by decide) (fun h12 => ?_) (fun h12 => ?_)
      · replace hf := gneg hf h12
        exact b_Performance_soundAll_106 X ih hf hZ10 hS10 (lv_sub hl [0, 1, 2, 3, 4, 5, 6] rfl)
      · replace hf := gpos hf h12
        refine lv_aload_n hx hb (D_43 W_prog_7_method_7_code_32 9 rfl rfl) rfl (lv_at hl 4 rfl) ?_
        refine zget (ci := 4) (C := RX4) (T := TX4) (v := .ref (ad 4 l1 (5 + 1))) (k := 5) hx hb hts inW_4 hown hK hZ10 g9.1 g9.2 rfl (by decide) k_4_131 rfl (D_180 W_prog_7_method_7_code_32 10 rfl rfl rfl) ?_
        refine lv_aload_n hx hb (D_43 W_prog_7_method_7_code_32 13 rfl rfl) rfl (lv_at hl 4 rfl) ?_
        refine lv_iload_n hx hb (D_29 W_prog_7_method_7_code_32 14 rfl rfl) rfl (lv_at hl 6 rfl) ?_
        refine lv_iload hx hb (D_21 W_prog_7_method_7_code_32 15 rfl rfl) (lv_at hl 0 rfl) ?_
        obtain ⟨r13, F13, B13, hc13, hf⟩ := gbind hf
        refine va_calli (va_runS (As := [.ref (ad 4 l1 0), .int (iI l3), .int (iI l6)]) (rest := [.ref (ad 4 l1 (5 + 1))]) ⟨hx, hb, hml, hown, hts⟩ (c_Performance_lastTied (l := l) hc13) (va_cwS 3 hts (gdS k_6_146 k_6_147 k_1_20 k_6_148) rfl rfl rfl (by decide +kernel) ⟨Nat.le_of_ble_eq_true rfl, Nat.le_of_ble_eq_true rfl⟩) (zPS X hZ10 hS10 [.ref (ad 4 l1 0), .int (iI l3), .int (iI l6)]) rfl rfl hl.1 rfl (lv_room (Nat.le_of_ble_eq_true rfl)) (D_184 W_prog_7_method_7_code_32 17 rfl rfl rfl) ⟨Nat.le_of_ble_eq_true rfl, Nat.le_of_ble_eq_true rfl⟩) hS10 (fun q _ h => zAin X hS10 q h) (zAin X hS10) (fun p13 u13 t13 H13 locs13 ht13 hv13 hw13 hB13 hz13 hk13 hS13 => ?_)
        have hZ13 := zBack X ht13 hB13
        subst hw13
        obtain ⟨g14, hf⟩ := gif hf
        refine zaldR (t := 1) (x := 7) (ci := 4) (k := 5) hx hb hK rfl rfl hZ13 g9.1 g9.2 rfl (Nat.le_of_ble_eq_true rfl) g14.1 g14.2 (D_50 W_prog_7_method_7_code_32 20 rfl rfl) ?_
        refine zastore (lv' := [(6, .int (iI l6)), (5, .int (iI l5)), (4, va_rf (zrf ad 1 l4)), (0, .ref (ad 5 l0 0)), (1, .ref (ad 4 l1 0)), (2, .int (iI l2)), (3, .int (iI l3))]) hx hb (D_58 W_prog_7_method_7_code_32 21 rfl rfl) hl (by decide) (fun _ _ => rfl) (fun ls hl => ?_)
        refine zaload hx hb (D_25 W_prog_7_method_7_code_32 23 rfl rfl) (lv_at hl 0 rfl) ?_
        obtain ⟨g15, hf⟩ := gif hf
        refine zunrf g15.1 ?_
        refine zget (ci := 1) (C := RX1) (T := TX1) (v := .long (lI (F13 1 (B13 4 l1 5 r13) 0))) (k := 0) hx hb hts inW_1 hown hK hZ13 g15.1 g15.2 rfl (by decide) k_2_22 rfl (D_180 W_prog_7_method_7_code_32 25 rfl rfl rfl) ?_
        refine zaload hx hb (D_25 W_prog_7_method_7_code_32 28 rfl rfl) (lv_at hl 0 rfl) ?_
        refine zunrf g15.1 ?_
        refine zget (ci := 1) (C := RX1) (T := TX1) (v := .long (lI (F13 1 (B13 4 l1 5 r13) 1))) (k := 1) hx hb hts inW_1 hown hK hZ13 g15.1 g15.2 rfl (by decide) k_2_25 rfl (D_180 W_prog_7_method_7_code_32 30 rfl rfl rfl) ?_
        refine zladd hx hb (D_97 W_prog_7_method_7_code_64 1 rfl rfl) ?_
        obtain ⟨r16, F16, B16, hc16, hf⟩ := gbind hf
        refine va_calli (va_runS (As := [.long (lI ((F13 1 (B13 4 l1 5 r13) 0) + (F13 1 (B13 4 l1 5 r13) 1)))]) (rest := []) ⟨hx, hb, hml, hown, hts⟩ (c_Performance_tick (l := l) hc16) (va_cwS 1 hts (gdS k_6_126 k_6_127 k_1_20 k_6_128) rfl rfl rfl (by decide +kernel) ⟨Nat.le_of_ble_eq_true rfl, Nat.le_of_ble_eq_true rfl⟩) (zPS X hZ13 hS13 [.long (lI ((F13 1 (B13 4 l1 5 r13) 0) + (F13 1 (B13 4 l1 5 r13) 1)))]) rfl rfl hl.1 rfl (lv_room (Nat.le_of_ble_eq_true rfl)) (D_184 W_prog_7_method_7_code_64 2 rfl rfl rfl) ⟨Nat.le_of_ble_eq_true rfl, Nat.le_of_ble_eq_true rfl⟩) hS13 (fun q _ h => zAin X hS13 q h) (zAin X hS13) (fun p16 u16 t16 H16 locs16 ht16 hv16 hw16 hB16 hz16 hk16 hS16 => ?_)
        have hZ16 := zBack X ht16 hB16
        subst hw16
        refine lv_iload hx hb (D_21 W_prog_7_method_7_code_64 5 rfl rfl) (lv_at hl 2 rfl) ?_
        refine zsub hx hb (D_100 W_prog_7_method_7_code_64 7 rfl rfl) ?_
        refine lv_istore (lv' := [(8, .int (iI (r16 - l5))), (7, va_rf (zrf ad 1 (B13 4 l1 5 r13))), (6, .int (iI l6)), (5, .int (iI l5)), (4, va_rf (zrf ad 1 l4)), (0, .ref (ad 5 l0 0)), (1, .ref (ad 4 l1 0)), (2, .int (iI l2)), (3, .int (iI l3))]) hx hb (D_54 W_prog_7_method_7_code_64 8 rfl rfl) hl (by decide) (by cases zrf ad 1 (B13 4 l1 5 r13) <;> rfl) (fun ls hl => ?_)
        refine lv_iload hx hb (D_21 W_prog_7_method_7_code_64 10 rfl rfl) (lv_at hl 0 rfl) ?_
        obtain ⟨g17, hf⟩ := gif hf
        refine z0le (tgt := 106) hx hb g17 (D_158 W_prog_7_method_7_code_64 12 rfl rfl rfl) (by decide) (fun h18 => ?_) (fun h18 => ?_)
        · replace hf := gpos hf h18
          exact b_Performance_soundAll_106 X ih hf hZ16 hS16 (lv_sub hl [2, 3, 4, 5, 6, 7, 8] rfl)
        · replace hf := gneg hf h18
          refine lv_aload_n hx hb (D_42 W_prog_7_method_7_code_64 15 rfl rfl) rfl (lv_at hl 5 rfl) ?_
          refine lv_iload_n hx hb (D_28 W_prog_7_method_7_code_64 16 rfl rfl) rfl (lv_at hl 7 rfl) ?_
          refine lv_iload_n hx hb (D_29 W_prog_7_method_7_code_64 17 rfl rfl) rfl (lv_at hl 8 rfl) ?_
          refine zaload hx hb (D_25 W_prog_7_method_7_code_64 18 rfl rfl) (lv_at hl 4 rfl) ?_
          refine lv_iload hx hb (D_21 W_prog_7_method_7_code_64 20 rfl rfl) (lv_at hl 2 rfl) ?_
          refine W.eq (g2 := F0 m 86 ls [.int (iI l6), .ref (ad 1 l4 0), .int (iI l3), .int (iI l2), .ref (ad 5 l0 0)]) (by rw [zrf_pos (ad := ad) (t := 1) g5.1]; try rfl) ?_
          obtain ⟨r19, F19, B19, hc19, hf⟩ := gbind hf
          refine va_calli (va_runV (As := [.int (iI l6)]) (rest := [.int (iI l3), .int (iI l2), .ref (ad 5 l0 0)]) ⟨hx, hb, hml, hown, hts⟩ (c_Event_tone (l := l) hc19) (cwV 1 hts (gdV k_6_131 k_6_22 k_6_23 k_1_8 k_6_24) rfl rfl rfl (by decide +kernel) ⟨Nat.le_of_ble_eq_true rfl, Nat.le_of_ble_eq_true rfl⟩) (zPV X hZ16 hS16 (ci := 1) g5.1 g5.2 (r := (RX1, TX1, 14)) rfl [.int (iI l6)]) rfl rfl hl.1 rfl (lv_room (Nat.le_of_ble_eq_true rfl)) (D_182 W_prog_7_method_7_code_64 22 rfl rfl rfl) ⟨Nat.le_of_ble_eq_true rfl, Nat.le_of_ble_eq_true rfl⟩) hS16 (fun q _ h => zAin X hS16 q h) (zAin X hS16) (fun p19 u19 t19 H19 locs19 ht19 hv19 hw19 hB19 hz19 hk19 hS19 => ?_)
          have hZ19 := zBack X ht19 hB19
          subst hw19
          refine zaload hx hb (D_25 W_prog_7_method_7_code_64 25 rfl rfl) (lv_at hl 4 rfl) ?_
          refine lv_iload hx hb (D_21 W_prog_7_method_7_code_64 27 rfl rfl) (lv_at hl 3 rfl) ?_
          refine lv_iload hx hb (D_21 W_prog_7_method_7_code_64 29 rfl rfl) (lv_at hl 3 rfl) ?_
          refine zaload hx hb (D_25 W_prog_7_method_7_code_64 31 rfl rfl) (lv_at hl 1 rfl) ?_
          refine lv_iload hx hb (D_21 W_prog_7_method_7_code_96 1 rfl rfl) (lv_at hl 0 rfl) ?_
          refine W.eq (g2 := F0 m 99 ls [.int (iI (r16 - l5)), va_rf (zrf ad 1 (B13 4 l1 5 r13)), .int (iI l5), .int (iI l5), .ref (ad 1 l4 0), .int (iI r19), .int (iI l3), .int (iI l2), .ref (ad 5 l0 0)]) (by rw [zrf_pos (ad := ad) (t := 1) g5.1]; try rfl) ?_
          refine W.eq (g2 := F0 m 99 ls [.int (iI (r16 - l5)), .ref (ad 1 (B13 4 l1 5 r13) 0), .int (iI l5), .int (iI l5), .ref (ad 1 l4 0), .int (iI r19), .int (iI l3), .int (iI l2), .ref (ad 5 l0 0)]) (by rw [zrf_pos (ad := ad) (t := 1) g15.1]; try rfl) ?_
          obtain ⟨r20, F20, B20, hc20, hf⟩ := gbind hf
          refine va_calli (va_runS (As := [.ref (ad 1 (B13 4 l1 5 r13) 0), .int (iI (r16 - l5))]) (rest := [.int (iI l5), .int (iI l5), .ref (ad 1 l4 0), .int (iI r19), .int (iI l3), .int (iI l2), .ref (ad 5 l0 0)]) ⟨hx, hb, hml, hown, hts⟩ (c_Performance_sounded (l := l) hc20) (va_cwS 2 hts (gdS k_6_150 k_6_151 k_1_20 k_6_152) rfl rfl rfl (by decide +kernel) ⟨Nat.le_of_ble_eq_true rfl, Nat.le_of_ble_eq_true rfl⟩) (zPS X hZ19 hS19 [.ref (ad 1 (B13 4 l1 5 r13) 0), .int (iI (r16 - l5))]) rfl rfl hl.1 rfl (lv_room (Nat.le_of_ble_eq_true rfl)) (D_184 W_prog_7_method_7_code_96 3 rfl rfl rfl) ⟨Nat.le_of_ble_eq_true rfl, Nat.le_of_ble_eq_true rfl⟩) hS19 (fun q _ h => zAin X hS19 q h) (zAin X hS19) (fun p20 u20 t20 H20 locs20 ht20 hv20 hw20 hB20 hz20 hk20 hS20 => ?_)
          have hZ20 := zBack X ht20 hB20
          subst hw20
          refine zadd hx hb (D_96 W_prog_7_method_7_code_96 6 rfl rfl) ?_
          obtain ⟨g21, hf⟩ := gif hf
          obtain ⟨r22, F22, B22, hc22, hf⟩ := gbind hf
          refine va_callv (va_runV (As := [.int (iI l2), .int (iI l3), .int (iI r19), .ref (ad 1 l4 0), .int (iI l5), .int (iI (l5 + r20))]) (rest := []) ⟨hx, hb, hml, hown, hts⟩ (c_Performance_addSound (l := l) hc22) (cwV 6 hts (gdV k_6_135 k_6_137 ks_75 k_1_20 k_6_138) rfl rfl rfl (by decide +kernel) ⟨Nat.le_of_ble_eq_true rfl, Nat.le_of_ble_eq_true rfl⟩) (zPV X hZ20 hS20 (ci := 5) g21.1 g21.2 (r := (RX5, TX5, 14)) rfl [.int (iI l2), .int (iI l3), .int (iI r19), .ref (ad 1 l4 0), .int (iI l5), .int (iI (l5 + r20))]) rfl rfl hl.1 rfl (lv_room (Nat.le_of_ble_eq_true rfl)) (D_182 W_prog_7_method_7_code_96 7 rfl rfl rfl) ⟨Nat.le_of_ble_eq_true rfl, Nat.le_of_ble_eq_true rfl⟩) hS20 (fun q _ h => zAin X hS20 q h) (zAin X hS20) (fun u22 t22 H22 locs22 ht22 hv22 hw22 hB22 hz22 hk22 hS22 => ?_)
          have hZ22 := zBack X ht22 hB22
          exact b_Performance_soundAll_106 X ih hf hZ22 hS22 (lv_sub hl [2, 3, 4, 5, 6, 7, 8] rfl)

def f_Performance_soundAll (K : zK) (l0 : Int) (l1 : Int) (l2 : Int) (l3 : Int) (F : zF) (B : zB) : zO := if 0 ≤ l1 ∧ l1 < K.2 4 then if 0 ≤ l3 ∧ l3 < 200 then if 0 ≤ (B 4 l1 5 l3) ∧ (B 4 l1 5 l3) < K.2 1 then zbind (f_Performance_tick K (F 1 (B 4 l1 5 l3) 0) F B) (fun r4 F4 B4 => f_Performance_soundAll_21 K K.1 0 r4 (B 4 l1 5 l3) l0 l1 l2 l3 F4 B4) else none else none else none
set_option maxHeartbeats 4000000 in
set_option maxRecDepth 100000 in
theorem c_Performance_soundAll {l : Launch} {D : va_G} {ca : Nat → ClassId} {ad : Nat → Int → Nat → Nat} {L : List Nat} {aS vS : Nat → Nat} {sz : Nat} {K : zK}  {l0 : Int} {l1 : Int} {l2 : Int} {l3 : Int} {F F9 : zF} {B B9 : zB} {r : Int} (hf : f_Performance_soundAll K l0 l1 l2 l3 F B = some (r, F9, B9)) : Met l ({ cls := "StaveHouse$Performance", name := "soundAll", desc := "(LStaveHouse$Part;II)V" } : Jvm.MethodName) (Cond.code ({ cls := "StaveHouse$Performance", name := "soundAll", desc := "(LStaveHouse$Part;II)V" } : Jvm.MethodName) prog_7_method_7_code 9 (Option.none : Option Jvm.ClassFile.FieldType) :: wAll) ({ frames := 3, cells := 0, slots := 0, locals := 67 } : Room) (va_Pc [.ref (ad 5 l0 0), .ref (ad 4 l1 0), .int (iI l2), .int (iI l3)] (zPre D ca ad lnC K.2 L aS vS F B sz)) (Q_Performance_soundAll K D ca ad L r F9 B9 (zA L sz)) 0 0 (zA L sz) := by
  refine zMet (Qc := Q_Performance_soundAll K D ca ad L r F9 B9) (lv := [(0, .ref (ad 5 l0 0)), (1, .ref (ad 4 l1 0)), (2, .int (iI l2)), (3, .int (iI l3))]) (by decide) (Nat.le_of_ble_eq_true rfl) rfl (fun A p e s m below meth c ls X hZ hS hl => ?_)
  obtain ⟨hx, hb, hr, hml, hown, hts, hlk, hK, hA, hL, hX⟩ := id X
  replace hf : (if 0 ≤ l1 ∧ l1 < K.2 4 then if 0 ≤ l3 ∧ l3 < 200 then if 0 ≤ (B 4 l1 5 l3) ∧ (B 4 l1 5 l3) < K.2 1 then zbind (f_Performance_tick K (F 1 (B 4 l1 5 l3) 0) F B) (fun r4 F4 B4 => f_Performance_soundAll_21 K K.1 0 r4 (B 4 l1 5 l3) l0 l1 l2 l3 F4 B4) else none else none else none) = some (r, F9, B9) := hf
  refine lv_aload_n hx hb (D_43 W_prog_7_method_7_code_0 0 rfl rfl) rfl (lv_at hl 1 rfl) ?_
  obtain ⟨g1, hf⟩ := gif hf
  refine zget (ci := 4) (C := RX4) (T := TX4) (v := .ref (ad 4 l1 (5 + 1))) (k := 5) hx hb hts inW_4 hown hK hZ g1.1 g1.2 rfl (by decide) k_4_131 rfl (D_180 W_prog_7_method_7_code_0 1 rfl rfl rfl) ?_
  refine lv_iload_n hx hb (D_29 W_prog_7_method_7_code_0 4 rfl rfl) rfl (lv_at hl 3 rfl) ?_
  obtain ⟨g2, hf⟩ := gif hf
  refine zaldR (t := 1) (x := 7) (ci := 4) (k := 5) hx hb hK rfl rfl hZ g1.1 g1.2 rfl (Nat.le_of_ble_eq_true rfl) g2.1 g2.2 (D_50 W_prog_7_method_7_code_0 5 rfl rfl) ?_
  refine zastore (lv' := [(0, .ref (ad 5 l0 0)), (1, .ref (ad 4 l1 0)), (2, .int (iI l2)), (3, .int (iI l3))]) hx hb (D_58 W_prog_7_method_7_code_0 6 rfl rfl) hl (by decide) (fun _ _ => rfl) (fun ls hl => ?_)
  refine zaload hx hb (D_25 W_prog_7_method_7_code_0 8 rfl rfl) (lv_at hl 0 rfl) ?_
  obtain ⟨g3, hf⟩ := gif hf
  refine zunrf g3.1 ?_
  refine zget (ci := 1) (C := RX1) (T := TX1) (v := .long (lI (F 1 (B 4 l1 5 l3) 0))) (k := 0) hx hb hts inW_1 hown hK hZ g3.1 g3.2 rfl (by decide) k_2_22 rfl (D_180 W_prog_7_method_7_code_0 10 rfl rfl rfl) ?_
  obtain ⟨r4, F4, B4, hc4, hf⟩ := gbind hf
  refine va_calli (va_runS (As := [.long (lI (F 1 (B 4 l1 5 l3) 0))]) (rest := []) ⟨hx, hb, hml, hown, hts⟩ (c_Performance_tick (l := l) hc4) (va_cwS 1 hts (gdS k_6_126 k_6_127 k_1_20 k_6_128) rfl rfl rfl (by decide +kernel) ⟨Nat.le_of_ble_eq_true rfl, Nat.le_of_ble_eq_true rfl⟩) (zPS X hZ hS [.long (lI (F 1 (B 4 l1 5 l3) 0))]) rfl rfl hl.1 rfl (lv_room (Nat.le_of_ble_eq_true rfl)) (D_184 W_prog_7_method_7_code_0 13 rfl rfl rfl) ⟨Nat.le_of_ble_eq_true rfl, Nat.le_of_ble_eq_true rfl⟩) hS (fun q _ h => zAin X hS q h) (zAin X hS) (fun p4 u4 t4 H4 locs4 ht4 hv4 hw4 hB4 hz4 hk4 hS4 => ?_)
  have hZ4 := zBack X ht4 hB4
  subst hw4
  refine lv_istore (lv' := [(5, .int (iI r4)), (4, va_rf (zrf ad 1 (B 4 l1 5 l3))), (0, .ref (ad 5 l0 0)), (1, .ref (ad 4 l1 0)), (2, .int (iI l2)), (3, .int (iI l3))]) hx hb (D_54 W_prog_7_method_7_code_0 16 rfl rfl) hl (by decide) (by cases zrf ad 1 (B 4 l1 5 l3) <;> rfl) (fun ls hl => ?_)
  refine lv_iconst (v := iI 0) hx hb (D_3 W_prog_7_method_7_code_0 18 rfl rfl) rfl ?_
  refine lv_istore (lv' := [(6, .int (iI 0)), (5, .int (iI r4)), (4, va_rf (zrf ad 1 (B 4 l1 5 l3))), (0, .ref (ad 5 l0 0)), (1, .ref (ad 4 l1 0)), (2, .int (iI l2)), (3, .int (iI l3))]) hx hb (D_54 W_prog_7_method_7_code_0 19 rfl rfl) hl (by decide) rfl (fun ls hl => ?_)
  exact b_Performance_soundAll_21 X hf hZ4 hS4 (lv_sub hl [0, 1, 2, 3, 4, 5, 6] rfl)

abbrev Q_S_voice (K : zK) (D : va_G) (ca : Nat → ClassId) (ad : Nat → Int → Nat → Nat) (L : List Nat) (r : Int) (F : zF) (B : zB) (A : Nat → Prop) : Array Value → State → Outcome → State → Prop := va_Qi (S := Unit) (fun p _ => p = iI r) (fun _ => zPo D ca ad lnC K.2 L F B A) A
def f_S_voice (K : zK) (l0 : Int) (l1 : Int) (l2 : Int) (l3 : Int) (F : zF) (B : zB) : zO := if 0 ≤ l0 ∧ l0 < K.2 12 then zbind (f_S_partAt K l0 l1 l2 F B) (fun r2 F2 B2 => (if r2 < 0 then some ((-1), F2, B2) else if r32 l3 then (if l3 = 0 then if 0 ≤ r2 ∧ r2 < K.2 4 then some (F2 4 r2 1, F2, B2) else none else (if l3 = 1 then if 0 ≤ r2 ∧ r2 < K.2 4 then some (F2 4 r2 2, F2, B2) else none else (if l3 = 2 then if 0 ≤ r2 ∧ r2 < K.2 4 then some (F2 4 r2 6, F2, B2) else none else (if l3 = 3 then if 0 ≤ r2 ∧ r2 < K.2 4 then some (F2 4 r2 10, F2, B2) else none else some ((-1), F2, B2))))) else none)) else none
set_option maxHeartbeats 4000000 in
set_option maxRecDepth 100000 in
theorem c_S_voice {l : Launch} {D : va_G} {ca : Nat → ClassId} {ad : Nat → Int → Nat → Nat} {L : List Nat} {aS vS : Nat → Nat} {sz : Nat} {K : zK}  {l0 : Int} {l1 : Int} {l2 : Int} {l3 : Int} {F F9 : zF} {B B9 : zB} {r : Int} (hf : f_S_voice K l0 l1 l2 l3 F B = some (r, F9, B9)) : Met l ({ cls := "StaveHouse", name := "voice", desc := "(III)I" } : Jvm.MethodName) (Cond.code ({ cls := "StaveHouse", name := "voice", desc := "(III)I" } : Jvm.MethodName) prog_1_method_11_code 5 (Option.some Jvm.ClassFile.FieldType.int) :: wAll) ({ frames := 2, cells := 0, slots := 0, locals := 44 } : Room) (va_Pc [.ref (ad 12 l0 0), .int (iI l1), .int (iI l2), .int (iI l3)] (zPre D ca ad lnC K.2 L aS vS F B sz)) (Q_S_voice K D ca ad L r F9 B9 (zA L sz)) 0 0 (zA L sz) := by
  refine zMet (Qc := Q_S_voice K D ca ad L r F9 B9) (lv := [(0, .ref (ad 12 l0 0)), (1, .int (iI l1)), (2, .int (iI l2)), (3, .int (iI l3))]) (by decide) (Nat.le_of_ble_eq_true rfl) rfl (fun A p e s m below meth c ls X hZ hS hl => ?_)
  obtain ⟨hx, hb, hr, hml, hown, hts, hlk, hK, hA, hL, hX⟩ := id X
  replace hf : (if 0 ≤ l0 ∧ l0 < K.2 12 then zbind (f_S_partAt K l0 l1 l2 F B) (fun r2 F2 B2 => (if r2 < 0 then some ((-1), F2, B2) else if r32 l3 then (if l3 = 0 then if 0 ≤ r2 ∧ r2 < K.2 4 then some (F2 4 r2 1, F2, B2) else none else (if l3 = 1 then if 0 ≤ r2 ∧ r2 < K.2 4 then some (F2 4 r2 2, F2, B2) else none else (if l3 = 2 then if 0 ≤ r2 ∧ r2 < K.2 4 then some (F2 4 r2 6, F2, B2) else none else (if l3 = 3 then if 0 ≤ r2 ∧ r2 < K.2 4 then some (F2 4 r2 10, F2, B2) else none else some ((-1), F2, B2))))) else none)) else none) = some (r, F9, B9) := hf
  refine lv_aload_n hx hb (D_42 W_prog_1_method_11_code_0 0 rfl rfl) rfl (lv_at hl 0 rfl) ?_
  refine lv_iload_n hx hb (D_27 W_prog_1_method_11_code_0 1 rfl rfl) rfl (lv_at hl 1 rfl) ?_
  refine lv_iload_n hx hb (D_28 W_prog_1_method_11_code_0 2 rfl rfl) rfl (lv_at hl 2 rfl) ?_
  obtain ⟨g1, hf⟩ := gif hf
  obtain ⟨r2, F2, B2, hc2, hf⟩ := gbind hf
  refine va_callq (va_runV (As := [.int (iI l1), .int (iI l2)]) (rest := []) ⟨hx, hb, hml, hown, hts⟩ (c_S_partAt (l := l) hc2) (cwV 2 hts (gdV k_6_168 k_6_170 ks_77 k_1_1 k_6_171) rfl rfl rfl (by decide +kernel) ⟨Nat.le_of_ble_eq_true rfl, Nat.le_of_ble_eq_true rfl⟩) (zPV X hZ hS (ci := 12) g1.1 g1.2 (r := (RX12, TX12, 10)) rfl [.int (iI l1), .int (iI l2)]) rfl rfl hl.1 rfl (lv_room (Nat.le_of_ble_eq_true rfl)) (D_182 W_prog_1_method_11_code_0 3 rfl rfl rfl) ⟨Nat.le_of_ble_eq_true rfl, Nat.le_of_ble_eq_true rfl⟩) hS (fun q _ h => zAin X hS q h) (zAin X hS) (fun p2 u2 t2 H2 locs2 ht2 hv2 hw2 hB2 hz2 hk2 hS2 => ?_)
  have hZ2 := zBack X ht2 hB2
  subst hw2
  refine zastore (lv' := [(0, .ref (ad 12 l0 0)), (1, .int (iI l1)), (2, .int (iI l2)), (3, .int (iI l3))]) hx hb (D_58 W_prog_1_method_11_code_0 6 rfl rfl) hl (by decide) (fun _ _ => rfl) (fun ls hl => ?_)
  refine zaload hx hb (D_25 W_prog_1_method_11_code_0 8 rfl rfl) (lv_at hl 0 rfl) ?_
  refine zifnonnull (tgt := 15) hx hb (D_199 W_prog_1_method_11_code_0 10 rfl rfl rfl) (by decide) (fun h3 => ?_) (fun h3 => ?_)
  · replace hf := gneg hf h3
    refine lv_iload_n hx hb (D_29 W_prog_1_method_11_code_0 15 rfl rfl) rfl (lv_at hl 4 rfl) ?_
    obtain ⟨g4, hf⟩ := gif hf
    by_cases h5 : l3 = 0
    · replace hf := gpos hf h5
      refine lv_tableIn (off := 32) (tgt := 48) hx hb d_1_11_16 (by rw [iI_to g4, h5]; decide) (by rw [iI_to g4, h5]; decide) (by rw [iI_to g4, h5]; rfl) (by decide) ?_
      refine zaload hx hb (D_25 W_prog_1_method_11_code_32 16 rfl rfl) (lv_at hl 0 rfl) ?_
      obtain ⟨g6, hf⟩ := gif hf
      refine zunrf g6.1 ?_
      refine zget (ci := 4) (C := RX4) (T := TX4) (v := .int (iI (F2 4 r2 1))) (k := 1) hx hb hts inW_4 hown hK hZ2 g6.1 g6.2 rfl (by decide) k_4_119 rfl (D_180 W_prog_1_method_11_code_32 18 rfl rfl rfl) ?_
      cases hf
      exact W.iret hx hb hr (fun t ht hW => ⟨⟨_, (), rfl, rfl, by rw [ht]; exact hZ2, va_K.moved hW.alike hK⟩, hS2.F ht⟩) hS2.2.2 (D_172 W_prog_1_method_11_code_32 21 rfl rfl) hlk
    replace hf := gneg hf h5
    by_cases h7 : l3 = 1
    · replace hf := gpos hf h7
      refine lv_tableIn (off := 38) (tgt := 54) hx hb d_1_11_16 (by rw [iI_to g4, h7]; decide) (by rw [iI_to g4, h7]; decide) (by rw [iI_to g4, h7]; rfl) (by decide) ?_
      refine zaload hx hb (D_25 W_prog_1_method_11_code_32 22 rfl rfl) (lv_at hl 0 rfl) ?_
      obtain ⟨g8, hf⟩ := gif hf
      refine zunrf g8.1 ?_
      refine zget (ci := 4) (C := RX4) (T := TX4) (v := .int (iI (F2 4 r2 2))) (k := 2) hx hb hts inW_4 hown hK hZ2 g8.1 g8.2 rfl (by decide) k_4_122 rfl (D_180 W_prog_1_method_11_code_32 24 rfl rfl rfl) ?_
      cases hf
      exact W.iret hx hb hr (fun t ht hW => ⟨⟨_, (), rfl, rfl, by rw [ht]; exact hZ2, va_K.moved hW.alike hK⟩, hS2.F ht⟩) hS2.2.2 (D_172 W_prog_1_method_11_code_32 27 rfl rfl) hlk
    replace hf := gneg hf h7
    by_cases h9 : l3 = 2
    · replace hf := gpos hf h9
      refine lv_tableIn (off := 44) (tgt := 60) hx hb d_1_11_16 (by rw [iI_to g4, h9]; decide) (by rw [iI_to g4, h9]; decide) (by rw [iI_to g4, h9]; rfl) (by decide) ?_
      refine zaload hx hb (D_25 W_prog_1_method_11_code_32 28 rfl rfl) (lv_at hl 0 rfl) ?_
      obtain ⟨g10, hf⟩ := gif hf
      refine zunrf g10.1 ?_
      refine zget (ci := 4) (C := RX4) (T := TX4) (v := .int (iI (F2 4 r2 6))) (k := 6) hx hb hts inW_4 hown hK hZ2 g10.1 g10.2 rfl (by decide) k_4_138 rfl (D_180 W_prog_1_method_11_code_32 30 rfl rfl rfl) ?_
      cases hf
      exact W.iret hx hb hr (fun t ht hW => ⟨⟨_, (), rfl, rfl, by rw [ht]; exact hZ2, va_K.moved hW.alike hK⟩, hS2.F ht⟩) hS2.2.2 (D_172 W_prog_1_method_11_code_64 1 rfl rfl) hlk
    replace hf := gneg hf h9
    by_cases h11 : l3 = 3
    · replace hf := gpos hf h11
      refine lv_tableIn (off := 50) (tgt := 66) hx hb d_1_11_16 (by rw [iI_to g4, h11]; decide) (by rw [iI_to g4, h11]; decide) (by rw [iI_to g4, h11]; rfl) (by decide) ?_
      refine zaload hx hb (D_25 W_prog_1_method_11_code_64 2 rfl rfl) (lv_at hl 0 rfl) ?_
      obtain ⟨g12, hf⟩ := gif hf
      refine zunrf g12.1 ?_
      refine zget (ci := 4) (C := RX4) (T := TX4) (v := .int (iI (F2 4 r2 10))) (k := 10) hx hb hts inW_4 hown hK hZ2 g12.1 g12.2 rfl (by decide) k_4_150 rfl (D_180 W_prog_1_method_11_code_64 4 rfl rfl rfl) ?_
      cases hf
      exact W.iret hx hb hr (fun t ht hW => ⟨⟨_, (), rfl, rfl, by rw [ht]; exact hZ2, va_K.moved hW.alike hK⟩, hS2.F ht⟩) hS2.2.2 (D_172 W_prog_1_method_11_code_64 7 rfl rfl) hlk
    replace hf := gneg hf h11
    refine lv_tableOut (tgt := 72) hx hb d_1_11_16 (by rw [iI_to g4]; omega) (by decide) ?_
    refine lv_iconst (v := iI (-1)) hx hb (D_2 W_prog_1_method_11_code_64 8 rfl rfl) rfl ?_
    cases hf
    exact W.iret hx hb hr (fun t ht hW => ⟨⟨_, (), rfl, rfl, by rw [ht]; exact hZ2, va_K.moved hW.alike hK⟩, hS2.F ht⟩) hS2.2.2 (D_172 W_prog_1_method_11_code_64 9 rfl rfl) hlk
  · replace hf := gpos hf h3
    refine lv_iconst (v := iI (-1)) hx hb (D_2 W_prog_1_method_11_code_0 13 rfl rfl) rfl ?_
    cases hf
    exact W.iret hx hb hr (fun t ht hW => ⟨⟨_, (), rfl, rfl, by rw [ht]; exact hZ2, va_K.moved hW.alike hK⟩, hS2.F ht⟩) hS2.2.2 (D_172 W_prog_1_method_11_code_0 14 rfl rfl) hlk

abbrev Q_S_above (K : zK) (D : va_G) (ca : Nat → ClassId) (ad : Nat → Int → Nat → Nat) (L : List Nat) (r : Int) (F : zF) (B : zB) (A : Nat → Prop) : Array Value → State → Outcome → State → Prop := va_Ql (S := Unit) (fun p _ => p = lI r) (fun _ => zPo D ca ad lnC K.2 L F B A) A
def f_S_above_21 (K : zK) (s0 : Int) (F : zF) (B : zB) : zO := some (s0, F, B)
set_option maxHeartbeats 4000000 in
set_option maxRecDepth 100000 in
theorem b_S_above_21 {D : va_G} {ca : Nat → ClassId} {ad : Nat → Int → Nat → Nat} {L : List Nat} {aS vS : Nat → Nat} {A : Nat → Prop} {p : Program} {l : Launch} {e : Env} {s : State} {m : MethodId} {args : Array Value} {below : List Frame} {meth : Method} {c : Code} {K : zK} {r : Int} {F9 : zF} {B9 : zB} (X : zX D ca L aS vS A p s m args meth c prog_1_method_35_code 4 (Option.some Jvm.ClassFile.FieldType.long) "StaveHouse") {s0 : Int} {F : zF} {B : zB} {H : Heap} {locs : List Loc} {ls : Array Slot} (hf : f_S_above_21 K s0 F B = some (r, F9, B9)) (hZ : zH D ca ad lnC K.2 L F B A H) (hS : va_S A s.heap H locs) (hl : lv_has ls 4 []) : W p l e ({ frames := 1, cells := 0, slots := 0, locals := 30 } : Room) s m args below meth c H locs 0 0 (MQ below (Q_S_above K D ca ad L r F9 B9 A) args s 0 0 A) (F0 m 21 ls [.long (lI s0)]) := by
  obtain ⟨hx, hb, hr, hml, hown, hts, hlk, hK, hA, hL, hX⟩ := id X
  replace hf : (some (s0, F, B)) = some (r, F9, B9) := hf
  cases hf
  exact W.lret hx hb hr (fun t ht hW => ⟨⟨_, (), rfl, rfl, by rw [ht]; exact hZ, va_K.moved hW.alike hK⟩, hS.F ht⟩) hS.2.2 (D_173 W_prog_1_method_35_code_0 21 rfl rfl) hlk

def f_S_above (K : zK) (l0 : Int) (F : zF) (B : zB) : zO := zbind (f_S_gcd K l0 812851200 F B) (fun r1 F1 B1 => if r64 r1 then (if (zcmp r1 0) = 0 then f_S_above_21 K l0 F1 B1 else if ¬ lI r1 = 0 then f_S_above_21 K (zldv l0 r1) F1 B1 else none) else none)
set_option maxHeartbeats 4000000 in
set_option maxRecDepth 100000 in
theorem c_S_above {l : Launch} {D : va_G} {ca : Nat → ClassId} {ad : Nat → Int → Nat → Nat} {L : List Nat} {aS vS : Nat → Nat} {sz : Nat} {K : zK}  {l0 : Int} {F F9 : zF} {B B9 : zB} {r : Int} (hf : f_S_above K l0 F B = some (r, F9, B9)) : Met l ({ cls := "StaveHouse", name := "above", desc := "(J)J" } : Jvm.MethodName) (Cond.code ({ cls := "StaveHouse", name := "above", desc := "(J)J" } : Jvm.MethodName) prog_1_method_35_code 4 (Option.some Jvm.ClassFile.FieldType.long) :: wAll) ({ frames := 1, cells := 0, slots := 0, locals := 30 } : Room) (va_Pc [.long (lI l0)] (zPre D ca ad lnC K.2 L aS vS F B sz)) (Q_S_above K D ca ad L r F9 B9 (zA L sz)) 0 0 (zA L sz) := by
  refine zMet (Qc := Q_S_above K D ca ad L r F9 B9) (lv := [(0, .long (lI l0))]) (by decide) (Nat.le_of_ble_eq_true rfl) rfl (fun A p e s m below meth c ls X hZ hS hl => ?_)
  obtain ⟨hx, hb, hr, hml, hown, hts, hlk, hK, hA, hL, hX⟩ := id X
  replace hf : (zbind (f_S_gcd K l0 812851200 F B) (fun r1 F1 B1 => if r64 r1 then (if (zcmp r1 0) = 0 then f_S_above_21 K l0 F1 B1 else if ¬ lI r1 = 0 then f_S_above_21 K (zldv l0 r1) F1 B1 else none) else none)) = some (r, F9, B9) := hf
  refine lv_lload_n hx hb (D_30 W_prog_1_method_35_code_0 0 rfl rfl) rfl (lv_at hl 0 rfl) ?_
  refine lv_ldc2 hx hb hown (hts _ k_6_188) (D_20 W_prog_1_method_35_code_0 1 rfl rfl rfl) ?_
  refine W.eq (g2 := F0 m 4 ls [.long (lI 812851200), .long (lI l0)]) rfl ?_
  obtain ⟨r1, F1, B1, hc1, hf⟩ := gbind hf
  refine va_calll (va_runS (As := [.long (lI l0), .long (lI 812851200)]) (rest := []) ⟨hx, hb, hml, hown, hts⟩ (c_S_gcd (l := l) hc1) (va_cwS 2 hts (gdS k_6_189 k_6_190 k_1_1 k_6_191) rfl rfl rfl (by decide +kernel) ⟨Nat.le_of_ble_eq_true rfl, Nat.le_of_ble_eq_true rfl⟩) (zPS X hZ hS [.long (lI l0), .long (lI 812851200)]) rfl rfl hl.1 rfl (lv_room (Nat.le_of_ble_eq_true rfl)) (D_184 W_prog_1_method_35_code_0 4 rfl rfl rfl) ⟨Nat.le_of_ble_eq_true rfl, Nat.le_of_ble_eq_true rfl⟩) hS (fun q _ h => zAin X hS q h) (zAin X hS) (fun p1 u1 t1 H1 locs1 ht1 hv1 hw1 hB1 hz1 hk1 hS1 => ?_)
  have hZ1 := zBack X ht1 hB1
  subst hw1
  refine lv_lstore_n (lv' := [(2, .long (lI r1)), (0, .long (lI l0))]) hx hb (D_65 W_prog_1_method_35_code_0 7 rfl rfl) rfl hl (by decide) rfl (fun ls hl => ?_)
  refine lv_lload_n hx hb (D_32 W_prog_1_method_35_code_0 8 rfl rfl) rfl (lv_at hl 0 rfl) ?_
  refine lv_lconst (v := lI 0) hx hb (D_9 W_prog_1_method_35_code_0 9 rfl rfl) (by decide) ?_
  obtain ⟨g2, hf⟩ := gif hf
  refine zcmp_r hx hb g2 (by decide) (D_148 W_prog_1_method_35_code_0 10 rfl rfl) ?_
  refine z0ne (tgt := 18) hx hb zcmp_32 (D_154 W_prog_1_method_35_code_0 11 rfl rfl rfl) (by decide) (fun h3 => ?_) (fun h3 => ?_)
  · replace hf := gneg hf h3
    refine lv_lload_n hx hb (D_30 W_prog_1_method_35_code_0 18 rfl rfl) rfl (lv_at hl 1 rfl) ?_
    refine lv_lload_n hx hb (D_32 W_prog_1_method_35_code_0 19 rfl rfl) rfl (lv_at hl 0 rfl) ?_
    obtain ⟨g4, hf⟩ := gif hf
    refine zldv_r hx hb g4 (D_109 W_prog_1_method_35_code_0 20 rfl rfl) ?_
    exact b_S_above_21 X hf hZ1 hS1 (lv_sub hl [] rfl)
  · replace hf := gpos hf h3
    refine lv_lload_n hx hb (D_30 W_prog_1_method_35_code_0 14 rfl rfl) rfl (lv_at hl 1 rfl) ?_
    refine lv_goto (tgt := 21) hx hb (D_167 W_prog_1_method_35_code_0 15 rfl rfl rfl) (by decide) ?_
    exact b_S_above_21 X hf hZ1 hS1 (lv_sub hl [] rfl)

abbrev Q_S_pitch (K : zK) (D : va_G) (ca : Nat → ClassId) (ad : Nat → Int → Nat → Nat) (L : List Nat) (r : Int) (F : zF) (B : zB) (A : Nat → Prop) : Array Value → State → Outcome → State → Prop := va_Qi (S := Unit) (fun p _ => p = iI r) (fun _ => zPo D ca ad lnC K.2 L F B A) A
def f_S_pitch_29 (K : zK)  (F : zF) (B : zB) : zO := some ((-2147483648), F, B)
set_option maxHeartbeats 4000000 in
set_option maxRecDepth 100000 in
theorem b_S_pitch_29 {D : va_G} {ca : Nat → ClassId} {ad : Nat → Int → Nat → Nat} {L : List Nat} {aS vS : Nat → Nat} {A : Nat → Prop} {p : Program} {l : Launch} {e : Env} {s : State} {m : MethodId} {args : Array Value} {below : List Frame} {meth : Method} {c : Code} {K : zK} {r : Int} {F9 : zF} {B9 : zB} (X : zX D ca L aS vS A p s m args meth c prog_1_method_14_code 7 (Option.some Jvm.ClassFile.FieldType.int) "StaveHouse")  {F : zF} {B : zB} {H : Heap} {locs : List Loc} {ls : Array Slot} (hf : f_S_pitch_29 K  F B = some (r, F9, B9)) (hZ : zH D ca ad lnC K.2 L F B A H) (hS : va_S A s.heap H locs) (hl : lv_has ls 7 []) : W p l e ({ frames := 3, cells := 0, slots := 0, locals := 68 } : Room) s m args below meth c H locs 0 0 (MQ below (Q_S_pitch K D ca ad L r F9 B9 A) args s 0 0 A) (F0 m 29 ls []) := by
  obtain ⟨hx, hb, hr, hml, hown, hts, hlk, hK, hA, hL, hX⟩ := id X
  replace hf : (some ((-2147483648), F, B)) = some (r, F9, B9) := hf
  refine lv_ldc hx hb hown (hts _ k_6_199) (D_18 W_prog_1_method_14_code_0 29 rfl rfl) ?_
  refine W.eq (g2 := F0 m 31 ls [.int (iI (-2147483648))]) rfl ?_
  cases hf
  exact W.iret hx hb hr (fun t ht hW => ⟨⟨_, (), rfl, rfl, by rw [ht]; exact hZ, va_K.moved hW.alike hK⟩, hS.F ht⟩) hS.2.2 (D_172 W_prog_1_method_14_code_0 31 rfl rfl) hlk

def f_S_pitch (K : zK) (l0 : Int) (l1 : Int) (l2 : Int) (l3 : Int) (l4 : Int) (l5 : Int) (F : zF) (B : zB) : zO := if 0 ≤ l0 ∧ l0 < K.2 12 then zbind (f_S_eventAt K l0 l1 l2 l3 F B) (fun r2 F2 B2 => (if r2 < 0 then f_S_pitch_29 K F2 B2 else if r32 l4 then (if l4 < 0 then f_S_pitch_29 K F2 B2 else if 0 ≤ r2 ∧ r2 < K.2 1 then if r32 (F2 1 r2 10) then (if l4 < (F2 1 r2 10) then if r32 l5 then (if l5 = 0 then if 0 ≤ l4 ∧ l4 < 6 then some (B2 1 r2 12 l4, F2, B2) else none else (if l5 = 1 then if 0 ≤ l4 ∧ l4 < 6 then some (B2 1 r2 13 l4, F2, B2) else none else (if l5 = 2 then zbind (f_Event_tone K r2 l4 F2 B2) (fun r15 F15 B15 => some (r15, F15, B15)) else some ((-2147483648), F2, B2)))) else none else f_S_pitch_29 K F2 B2) else none else none) else none)) else none
set_option maxHeartbeats 4000000 in
set_option maxRecDepth 100000 in
theorem c_S_pitch {l : Launch} {D : va_G} {ca : Nat → ClassId} {ad : Nat → Int → Nat → Nat} {L : List Nat} {aS vS : Nat → Nat} {sz : Nat} {K : zK}  {l0 : Int} {l1 : Int} {l2 : Int} {l3 : Int} {l4 : Int} {l5 : Int} {F F9 : zF} {B B9 : zB} {r : Int} (hf : f_S_pitch K l0 l1 l2 l3 l4 l5 F B = some (r, F9, B9)) : Met l ({ cls := "StaveHouse", name := "pitch", desc := "(IIIII)I" } : Jvm.MethodName) (Cond.code ({ cls := "StaveHouse", name := "pitch", desc := "(IIIII)I" } : Jvm.MethodName) prog_1_method_14_code 7 (Option.some Jvm.ClassFile.FieldType.int) :: wAll) ({ frames := 3, cells := 0, slots := 0, locals := 68 } : Room) (va_Pc [.ref (ad 12 l0 0), .int (iI l1), .int (iI l2), .int (iI l3), .int (iI l4), .int (iI l5)] (zPre D ca ad lnC K.2 L aS vS F B sz)) (Q_S_pitch K D ca ad L r F9 B9 (zA L sz)) 0 0 (zA L sz) := by
  refine zMet (Qc := Q_S_pitch K D ca ad L r F9 B9) (lv := [(0, .ref (ad 12 l0 0)), (1, .int (iI l1)), (2, .int (iI l2)), (3, .int (iI l3)), (4, .int (iI l4)), (5, .int (iI l5))]) (by decide) (Nat.le_of_ble_eq_true rfl) rfl (fun A p e s m below meth c ls X hZ hS hl => ?_)
  obtain ⟨hx, hb, hr, hml, hown, hts, hlk, hK, hA, hL, hX⟩ := id X
  replace hf : (if 0 ≤ l0 ∧ l0 < K.2 12 then zbind (f_S_eventAt K l0 l1 l2 l3 F B) (fun r2 F2 B2 => (if r2 < 0 then f_S_pitch_29 K F2 B2 else if r32 l4 then (if l4 < 0 then f_S_pitch_29 K F2 B2 else if 0 ≤ r2 ∧ r2 < K.2 1 then if r32 (F2 1 r2 10) then (if l4 < (F2 1 r2 10) then if r32 l5 then (if l5 = 0 then if 0 ≤ l4 ∧ l4 < 6 then some (B2 1 r2 12 l4, F2, B2) else none else (if l5 = 1 then if 0 ≤ l4 ∧ l4 < 6 then some (B2 1 r2 13 l4, F2, B2) else none else (if l5 = 2 then zbind (f_Event_tone K r2 l4 F2 B2) (fun r15 F15 B15 => some (r15, F15, B15)) else some ((-2147483648), F2, B2)))) else none else f_S_pitch_29 K F2 B2) else none else none) else none)) else none) = some (r, F9, B9) := hf
  refine lv_aload_n hx hb (D_42 W_prog_1_method_14_code_0 0 rfl rfl) rfl (lv_at hl 0 rfl) ?_
  refine lv_iload_n hx hb (D_27 W_prog_1_method_14_code_0 1 rfl rfl) rfl (lv_at hl 1 rfl) ?_
  refine lv_iload_n hx hb (D_28 W_prog_1_method_14_code_0 2 rfl rfl) rfl (lv_at hl 2 rfl) ?_
  refine lv_iload_n hx hb (D_29 W_prog_1_method_14_code_0 3 rfl rfl) rfl (lv_at hl 3 rfl) ?_
  obtain ⟨g1, hf⟩ := gif hf
  obtain ⟨r2, F2, B2, hc2, hf⟩ := gbind hf
  refine va_callq (va_runV (As := [.int (iI l1), .int (iI l2), .int (iI l3)]) (rest := []) ⟨hx, hb, hml, hown, hts⟩ (c_S_eventAt (l := l) hc2) (cwV 3 hts (gdV k_6_180 k_6_182 ks_78 k_1_1 k_6_183) rfl rfl rfl (by decide +kernel) ⟨Nat.le_of_ble_eq_true rfl, Nat.le_of_ble_eq_true rfl⟩) (zPV X hZ hS (ci := 12) g1.1 g1.2 (r := (RX12, TX12, 10)) rfl [.int (iI l1), .int (iI l2), .int (iI l3)]) rfl rfl hl.1 rfl (lv_room (Nat.le_of_ble_eq_true rfl)) (D_182 W_prog_1_method_14_code_0 4 rfl rfl rfl) ⟨Nat.le_of_ble_eq_true rfl, Nat.le_of_ble_eq_true rfl⟩) hS (fun q _ h => zAin X hS q h) (zAin X hS) (fun p2 u2 t2 H2 locs2 ht2 hv2 hw2 hB2 hz2 hk2 hS2 => ?_)
  have hZ2 := zBack X ht2 hB2
  subst hw2
  refine zastore (lv' := [(0, .ref (ad 12 l0 0)), (1, .int (iI l1)), (2, .int (iI l2)), (3, .int (iI l3)), (4, .int (iI l4)), (5, .int (iI l5))]) hx hb (D_58 W_prog_1_method_14_code_0 7 rfl rfl) hl (by decide) (fun _ _ => rfl) (fun ls hl => ?_)
  refine zaload hx hb (D_25 W_prog_1_method_14_code_0 9 rfl rfl) (lv_at hl 0 rfl) ?_
  refine zifnull (tgt := 29) hx hb (D_198 W_prog_1_method_14_code_0 11 rfl rfl rfl) (by decide) (fun h3 => ?_) (fun h3 => ?_)
  · replace hf := gpos hf h3
    exact b_S_pitch_29 X hf hZ2 hS2 (lv_sub hl [] rfl)
  · replace hf := gneg hf h3
    refine lv_iload hx hb (D_21 W_prog_1_method_14_code_0 14 rfl rfl) (lv_at hl 5 rfl) ?_
    obtain ⟨g4, hf⟩ := gif hf
    refine z0lt (tgt := 29) hx hb g4 (D_155 W_prog_1_method_14_code_0 16 rfl rfl rfl) (by decide) (fun h5 => ?_) (fun h5 => ?_)
    · replace hf := gpos hf h5
      exact b_S_pitch_29 X hf hZ2 hS2 (lv_sub hl [] rfl)
    · replace hf := gneg hf h5
      refine lv_iload hx hb (D_21 W_prog_1_method_14_code_0 19 rfl rfl) (lv_at hl 5 rfl) ?_
      refine zaload hx hb (D_25 W_prog_1_method_14_code_0 21 rfl rfl) (lv_at hl 0 rfl) ?_
      obtain ⟨g6, hf⟩ := gif hf
      refine zunrf g6.1 ?_
      refine zget (ci := 1) (C := RX1) (T := TX1) (v := .int (iI (F2 1 r2 10))) (k := 10) hx hb hts inW_1 hown hK hZ2 g6.1 g6.2 rfl (by decide) k_2_52 rfl (D_180 W_prog_1_method_14_code_0 23 rfl rfl rfl) ?_
      obtain ⟨g7, hf⟩ := gif hf
      refine zlt (tgt := 32) hx hb g4 g7 (D_161 W_prog_1_method_14_code_0 26 rfl rfl rfl) (by decide) (fun h8 => ?_) (fun h8 => ?_)
      · replace hf := gpos hf h8
        refine lv_iload hx hb (D_21 W_prog_1_method_14_code_32 0 rfl rfl) (lv_at hl 6 rfl) ?_
        obtain ⟨g9, hf⟩ := gif hf
        by_cases h10 : l5 = 0
        · replace hf := gpos hf h10
          refine lv_tableIn (off := 26) (tgt := 60) hx hb d_1_14_34 (by rw [iI_to g9, h10]; decide) (by rw [iI_to g9, h10]; decide) (by rw [iI_to g9, h10]; rfl) (by decide) ?_
          refine zaload hx hb (D_25 W_prog_1_method_14_code_32 28 rfl rfl) (lv_at hl 0 rfl) ?_
          refine zunrf g6.1 ?_
          refine zget (ci := 1) (C := RX1) (T := TX1) (v := .ref (ad 1 r2 (12 + 1))) (k := 12) hx hb hts inW_1 hown hK hZ2 g6.1 g6.2 rfl (by decide) k_2_62 rfl (D_180 W_prog_1_method_14_code_32 30 rfl rfl rfl) ?_
          refine lv_iload hx hb (D_21 W_prog_1_method_14_code_64 1 rfl rfl) (lv_at hl 5 rfl) ?_
          obtain ⟨g11, hf⟩ := gif hf
          refine zald (ci := 1) (k := 12) hx hb hK rfl hZ2 g6.1 g6.2 rfl (Nat.le_of_ble_eq_true rfl) g11.1 g11.2 (D_46 W_prog_1_method_14_code_64 3 rfl rfl) ?_
          cases hf
          exact W.iret hx hb hr (fun t ht hW => ⟨⟨_, (), rfl, rfl, by rw [ht]; exact hZ2, va_K.moved hW.alike hK⟩, hS2.F ht⟩) hS2.2.2 (D_172 W_prog_1_method_14_code_64 4 rfl rfl) hlk
        replace hf := gneg hf h10
        by_cases h12 : l5 = 1
        · replace hf := gpos hf h12
          refine lv_tableIn (off := 35) (tgt := 69) hx hb d_1_14_34 (by rw [iI_to g9, h12]; decide) (by rw [iI_to g9, h12]; decide) (by rw [iI_to g9, h12]; rfl) (by decide) ?_
          refine zaload hx hb (D_25 W_prog_1_method_14_code_64 5 rfl rfl) (lv_at hl 0 rfl) ?_
          refine zunrf g6.1 ?_
          refine zget (ci := 1) (C := RX1) (T := TX1) (v := .ref (ad 1 r2 (13 + 1))) (k := 13) hx hb hts inW_1 hown hK hZ2 g6.1 g6.2 rfl (by decide) k_2_68 rfl (D_180 W_prog_1_method_14_code_64 7 rfl rfl rfl) ?_
          refine lv_iload hx hb (D_21 W_prog_1_method_14_code_64 10 rfl rfl) (lv_at hl 5 rfl) ?_
          obtain ⟨g13, hf⟩ := gif hf
          refine zald (ci := 1) (k := 13) hx hb hK rfl hZ2 g6.1 g6.2 rfl (Nat.le_of_ble_eq_true rfl) g13.1 g13.2 (D_46 W_prog_1_method_14_code_64 12 rfl rfl) ?_
          cases hf
          exact W.iret hx hb hr (fun t ht hW => ⟨⟨_, (), rfl, rfl, by rw [ht]; exact hZ2, va_K.moved hW.alike hK⟩, hS2.F ht⟩) hS2.2.2 (D_172 W_prog_1_method_14_code_64 13 rfl rfl) hlk
        replace hf := gneg hf h12
        by_cases h14 : l5 = 2
        · replace hf := gpos hf h14
          refine lv_tableIn (off := 44) (tgt := 78) hx hb d_1_14_34 (by rw [iI_to g9, h14]; decide) (by rw [iI_to g9, h14]; decide) (by rw [iI_to g9, h14]; rfl) (by decide) ?_
          refine zaload hx hb (D_25 W_prog_1_method_14_code_64 14 rfl rfl) (lv_at hl 0 rfl) ?_
          refine lv_iload hx hb (D_21 W_prog_1_method_14_code_64 16 rfl rfl) (lv_at hl 5 rfl) ?_
          refine W.eq (g2 := F0 m 82 ls [.int (iI l4), .ref (ad 1 r2 0)]) (by rw [zrf_pos (ad := ad) (t := 1) g6.1]; try rfl) ?_
          obtain ⟨r15, F15, B15, hc15, hf⟩ := gbind hf
          refine va_calli (va_runV (As := [.int (iI l4)]) (rest := []) ⟨hx, hb, hml, hown, hts⟩ (c_Event_tone (l := l) hc15) (cwV 1 hts (gdV k_6_200 k_6_22 k_6_23 k_1_8 k_6_24) rfl rfl rfl (by decide +kernel) ⟨Nat.le_of_ble_eq_true rfl, Nat.le_of_ble_eq_true rfl⟩) (zPV X hZ2 hS2 (ci := 1) g6.1 g6.2 (r := (RX1, TX1, 14)) rfl [.int (iI l4)]) rfl rfl hl.1 rfl (lv_room (Nat.le_of_ble_eq_true rfl)) (D_182 W_prog_1_method_14_code_64 18 rfl rfl rfl) ⟨Nat.le_of_ble_eq_true rfl, Nat.le_of_ble_eq_true rfl⟩) hS2 (fun q _ h => zAin X hS2 q h) (zAin X hS2) (fun p15 u15 t15 H15 locs15 ht15 hv15 hw15 hB15 hz15 hk15 hS15 => ?_)
          have hZ15 := zBack X ht15 hB15
          subst hw15
          cases hf
          exact W.iret hx hb hr (fun t ht hW => ⟨⟨_, (), rfl, rfl, by rw [ht]; exact hZ15, va_K.moved hW.alike hK⟩, hS15.F ht⟩) hS15.2.2 (D_172 W_prog_1_method_14_code_64 21 rfl rfl) hlk
        replace hf := gneg hf h14
        refine lv_tableOut (tgt := 86) hx hb d_1_14_34 (by rw [iI_to g9]; omega) (by decide) ?_
        refine lv_ldc hx hb hown (hts _ k_6_199) (D_18 W_prog_1_method_14_code_64 22 rfl rfl) ?_
        refine W.eq (g2 := F0 m 88 ls [.int (iI (-2147483648))]) rfl ?_
        cases hf
        exact W.iret hx hb hr (fun t ht hW => ⟨⟨_, (), rfl, rfl, by rw [ht]; exact hZ2, va_K.moved hW.alike hK⟩, hS2.F ht⟩) hS2.2.2 (D_172 W_prog_1_method_14_code_64 24 rfl rfl) hlk
      · replace hf := gneg hf h8
        exact b_S_pitch_29 X hf hZ2 hS2 (lv_sub hl [] rfl)

abbrev Q_S_note (K : zK) (D : va_G) (ca : Nat → ClassId) (ad : Nat → Int → Nat → Nat) (L : List Nat) (r : Int) (F : zF) (B : zB) (A : Nat → Prop) : Array Value → State → Outcome → State → Prop := va_Ql (S := Unit) (fun p _ => p = lI r) (fun _ => zPo D ca ad lnC K.2 L F B A) A
def f_S_note_89 (K : zK) (s0 : Int) (F : zF) (B : zB) : zO := some (s0, F, B)
set_option maxHeartbeats 4000000 in
set_option maxRecDepth 100000 in
theorem b_S_note_89 {D : va_G} {ca : Nat → ClassId} {ad : Nat → Int → Nat → Nat} {L : List Nat} {aS vS : Nat → Nat} {A : Nat → Prop} {p : Program} {l : Launch} {e : Env} {s : State} {m : MethodId} {args : Array Value} {below : List Frame} {meth : Method} {c : Code} {K : zK} {r : Int} {F9 : zF} {B9 : zB} (X : zX D ca L aS vS A p s m args meth c prog_1_method_15_code 6 (Option.some Jvm.ClassFile.FieldType.long) "StaveHouse") {s0 : Int} {F : zF} {B : zB} {H : Heap} {locs : List Loc} {ls : Array Slot} (hf : f_S_note_89 K s0 F B = some (r, F9, B9)) (hZ : zH D ca ad lnC K.2 L F B A H) (hS : va_S A s.heap H locs) (hl : lv_has ls 6 []) : W p l e ({ frames := 2, cells := 0, slots := 0, locals := 53 } : Room) s m args below meth c H locs 0 0 (MQ below (Q_S_note K D ca ad L r F9 B9 A) args s 0 0 A) (F0 m 89 ls [.long (lI s0)]) := by
  obtain ⟨hx, hb, hr, hml, hown, hts, hlk, hK, hA, hL, hX⟩ := id X
  replace hf : (some (s0, F, B)) = some (r, F9, B9) := hf
  cases hf
  exact W.lret hx hb hr (fun t ht hW => ⟨⟨_, (), rfl, rfl, by rw [ht]; exact hZ, va_K.moved hW.alike hK⟩, hS.F ht⟩) hS.2.2 (D_173 W_prog_1_method_15_code_64 25 rfl rfl) hlk

def f_S_note_38 (K : zK)  (F : zF) (B : zB) : zO := some ((-1), F, B)
set_option maxHeartbeats 4000000 in
set_option maxRecDepth 100000 in
theorem b_S_note_38 {D : va_G} {ca : Nat → ClassId} {ad : Nat → Int → Nat → Nat} {L : List Nat} {aS vS : Nat → Nat} {A : Nat → Prop} {p : Program} {l : Launch} {e : Env} {s : State} {m : MethodId} {args : Array Value} {below : List Frame} {meth : Method} {c : Code} {K : zK} {r : Int} {F9 : zF} {B9 : zB} (X : zX D ca L aS vS A p s m args meth c prog_1_method_15_code 6 (Option.some Jvm.ClassFile.FieldType.long) "StaveHouse")  {F : zF} {B : zB} {H : Heap} {locs : List Loc} {ls : Array Slot} (hf : f_S_note_38 K  F B = some (r, F9, B9)) (hZ : zH D ca ad lnC K.2 L F B A H) (hS : va_S A s.heap H locs) (hl : lv_has ls 6 []) : W p l e ({ frames := 2, cells := 0, slots := 0, locals := 53 } : Room) s m args below meth c H locs 0 0 (MQ below (Q_S_note K D ca ad L r F9 B9 A) args s 0 0 A) (F0 m 38 ls []) := by
  obtain ⟨hx, hb, hr, hml, hown, hts, hlk, hK, hA, hL, hX⟩ := id X
  replace hf : (some ((-1), F, B)) = some (r, F9, B9) := hf
  refine lv_ldc2 hx hb hown (hts _ k_6_184) (D_20 W_prog_1_method_15_code_32 6 rfl rfl rfl) ?_
  refine W.eq (g2 := F0 m 41 ls [.long (lI (-1))]) rfl ?_
  cases hf
  exact W.lret hx hb hr (fun t ht hW => ⟨⟨_, (), rfl, rfl, by rw [ht]; exact hZ, va_K.moved hW.alike hK⟩, hS.F ht⟩) hS.2.2 (D_173 W_prog_1_method_15_code_32 9 rfl rfl) hlk

def f_S_note (K : zK) (l0 : Int) (l1 : Int) (l2 : Int) (l3 : Int) (l4 : Int) (F : zF) (B : zB) : zO := if 0 ≤ l0 ∧ l0 < K.2 12 then zbind (f_S_partAt K l0 l1 l2 F B) (fun r2 F2 B2 => (if r2 < 0 then f_S_note_38 K F2 B2 else if r32 l3 then (if l3 < 0 then f_S_note_38 K F2 B2 else if 0 ≤ r2 ∧ r2 < K.2 4 then if r32 (F2 4 r2 10) then (if (F2 4 r2 10) ≤ l3 then f_S_note_38 K F2 B2 else if r32 l4 then (if l4 < 0 then f_S_note_38 K F2 B2 else (if l4 < 12 then (if l4 = 2 then if 0 ≤ l3 ∧ l3 < 800 then zbind (f_S_above K (B2 4 r2 9 l3) F2 B2) (fun r20 F20 B20 => some (r20, F20, B20)) else none else (if l4 = 3 then if 0 ≤ l3 ∧ l3 < 800 then zbind (f_S_below K (B2 4 r2 9 l3) F2 B2) (fun r18 F18 B18 => f_S_note_89 K r18 F18 B18) else none else if 0 ≤ l4 ∧ l4 < 12 then if 0 ≤ l3 ∧ l3 < 800 then if r32 (B2 4 r2 (360 + l4.toNat) l3) then f_S_note_89 K (B2 4 r2 (360 + l4.toNat) l3) F2 B2 else none else none else none)) else f_S_note_38 K F2 B2)) else none) else none else none) else none)) else none
set_option maxHeartbeats 4000000 in
set_option maxRecDepth 100000 in
theorem c_S_note {l : Launch} {D : va_G} {ca : Nat → ClassId} {ad : Nat → Int → Nat → Nat} {L : List Nat} {aS vS : Nat → Nat} {sz : Nat} {K : zK}  {l0 : Int} {l1 : Int} {l2 : Int} {l3 : Int} {l4 : Int} {F F9 : zF} {B B9 : zB} {r : Int} (hf : f_S_note K l0 l1 l2 l3 l4 F B = some (r, F9, B9)) : Met l ({ cls := "StaveHouse", name := "note", desc := "(IIII)J" } : Jvm.MethodName) (Cond.code ({ cls := "StaveHouse", name := "note", desc := "(IIII)J" } : Jvm.MethodName) prog_1_method_15_code 6 (Option.some Jvm.ClassFile.FieldType.long) :: wAll) ({ frames := 2, cells := 0, slots := 0, locals := 53 } : Room) (va_Pc [.ref (ad 12 l0 0), .int (iI l1), .int (iI l2), .int (iI l3), .int (iI l4)] (zPre D ca ad lnC K.2 L aS vS F B sz)) (Q_S_note K D ca ad L r F9 B9 (zA L sz)) 0 0 (zA L sz) := by
  refine zMet (Qc := Q_S_note K D ca ad L r F9 B9) (lv := [(0, .ref (ad 12 l0 0)), (1, .int (iI l1)), (2, .int (iI l2)), (3, .int (iI l3)), (4, .int (iI l4))]) (by decide) (Nat.le_of_ble_eq_true rfl) rfl (fun A p e s m below meth c ls X hZ hS hl => ?_)
  obtain ⟨hx, hb, hr, hml, hown, hts, hlk, hK, hA, hL, hX⟩ := id X
  replace hf : (if 0 ≤ l0 ∧ l0 < K.2 12 then zbind (f_S_partAt K l0 l1 l2 F B) (fun r2 F2 B2 => (if r2 < 0 then f_S_note_38 K F2 B2 else if r32 l3 then (if l3 < 0 then f_S_note_38 K F2 B2 else if 0 ≤ r2 ∧ r2 < K.2 4 then if r32 (F2 4 r2 10) then (if (F2 4 r2 10) ≤ l3 then f_S_note_38 K F2 B2 else if r32 l4 then (if l4 < 0 then f_S_note_38 K F2 B2 else (if l4 < 12 then (if l4 = 2 then if 0 ≤ l3 ∧ l3 < 800 then zbind (f_S_above K (B2 4 r2 9 l3) F2 B2) (fun r20 F20 B20 => some (r20, F20, B20)) else none else (if l4 = 3 then if 0 ≤ l3 ∧ l3 < 800 then zbind (f_S_below K (B2 4 r2 9 l3) F2 B2) (fun r18 F18 B18 => f_S_note_89 K r18 F18 B18) else none else if 0 ≤ l4 ∧ l4 < 12 then if 0 ≤ l3 ∧ l3 < 800 then if r32 (B2 4 r2 (360 + l4.toNat) l3) then f_S_note_89 K (B2 4 r2 (360 + l4.toNat) l3) F2 B2 else none else none else none)) else f_S_note_38 K F2 B2)) else none) else none else none) else none)) else none) = some (r, F9, B9) := hf
  refine lv_aload_n hx hb (D_42 W_prog_1_method_15_code_0 0 rfl rfl) rfl (lv_at hl 0 rfl) ?_
  refine lv_iload_n hx hb (D_27 W_prog_1_method_15_code_0 1 rfl rfl) rfl (lv_at hl 1 rfl) ?_
  refine lv_iload_n hx hb (D_28 W_prog_1_method_15_code_0 2 rfl rfl) rfl (lv_at hl 2 rfl) ?_
  obtain ⟨g1, hf⟩ := gif hf
  obtain ⟨r2, F2, B2, hc2, hf⟩ := gbind hf
  refine va_callq (va_runV (As := [.int (iI l1), .int (iI l2)]) (rest := []) ⟨hx, hb, hml, hown, hts⟩ (c_S_partAt (l := l) hc2) (cwV 2 hts (gdV k_6_168 k_6_170 ks_77 k_1_1 k_6_171) rfl rfl rfl (by decide +kernel) ⟨Nat.le_of_ble_eq_true rfl, Nat.le_of_ble_eq_true rfl⟩) (zPV X hZ hS (ci := 12) g1.1 g1.2 (r := (RX12, TX12, 10)) rfl [.int (iI l1), .int (iI l2)]) rfl rfl hl.1 rfl (lv_room (Nat.le_of_ble_eq_true rfl)) (D_182 W_prog_1_method_15_code_0 3 rfl rfl rfl) ⟨Nat.le_of_ble_eq_true rfl, Nat.le_of_ble_eq_true rfl⟩) hS (fun q _ h => zAin X hS q h) (zAin X hS) (fun p2 u2 t2 H2 locs2 ht2 hv2 hw2 hB2 hz2 hk2 hS2 => ?_)
  have hZ2 := zBack X ht2 hB2
  subst hw2
  refine zastore (lv' := [(0, .ref (ad 12 l0 0)), (1, .int (iI l1)), (2, .int (iI l2)), (3, .int (iI l3)), (4, .int (iI l4))]) hx hb (D_58 W_prog_1_method_15_code_0 6 rfl rfl) hl (by decide) (fun _ _ => rfl) (fun ls hl => ?_)
  refine zaload hx hb (D_25 W_prog_1_method_15_code_0 8 rfl rfl) (lv_at hl 0 rfl) ?_
  refine zifnull (tgt := 38) hx hb (D_198 W_prog_1_method_15_code_0 10 rfl rfl rfl) (by decide) (fun h3 => ?_) (fun h3 => ?_)
  · replace hf := gpos hf h3
    exact b_S_note_38 X hf hZ2 hS2 (lv_sub hl [] rfl)
  · replace hf := gneg hf h3
    refine lv_iload_n hx hb (D_29 W_prog_1_method_15_code_0 13 rfl rfl) rfl (lv_at hl 4 rfl) ?_
    obtain ⟨g4, hf⟩ := gif hf
    refine z0lt (tgt := 38) hx hb g4 (D_155 W_prog_1_method_15_code_0 14 rfl rfl rfl) (by decide) (fun h5 => ?_) (fun h5 => ?_)
    · replace hf := gpos hf h5
      exact b_S_note_38 X hf hZ2 hS2 (lv_sub hl [] rfl)
    · replace hf := gneg hf h5
      refine lv_iload_n hx hb (D_29 W_prog_1_method_15_code_0 17 rfl rfl) rfl (lv_at hl 4 rfl) ?_
      refine zaload hx hb (D_25 W_prog_1_method_15_code_0 18 rfl rfl) (lv_at hl 0 rfl) ?_
      obtain ⟨g6, hf⟩ := gif hf
      refine zunrf g6.1 ?_
      refine zget (ci := 4) (C := RX4) (T := TX4) (v := .int (iI (F2 4 r2 10))) (k := 10) hx hb hts inW_4 hown hK hZ2 g6.1 g6.2 rfl (by decide) k_4_150 rfl (D_180 W_prog_1_method_15_code_0 20 rfl rfl rfl) ?_
      obtain ⟨g7, hf⟩ := gif hf
      refine zge (tgt := 38) hx hb g4 g7 (D_162 W_prog_1_method_15_code_0 23 rfl rfl rfl) (by decide) (fun h8 => ?_) (fun h8 => ?_)
      · replace hf := gpos hf h8
        exact b_S_note_38 X hf hZ2 hS2 (lv_sub hl [] rfl)
      · replace hf := gneg hf h8
        refine lv_iload hx hb (D_21 W_prog_1_method_15_code_0 26 rfl rfl) (lv_at hl 5 rfl) ?_
        obtain ⟨g9, hf⟩ := gif hf
        refine z0lt (tgt := 38) hx hb g9 (D_155 W_prog_1_method_15_code_0 28 rfl rfl rfl) (by decide) (fun h10 => ?_) (fun h10 => ?_)
        · replace hf := gpos hf h10
          exact b_S_note_38 X hf hZ2 hS2 (lv_sub hl [] rfl)
        · replace hf := gneg hf h10
          refine lv_iload hx hb (D_21 W_prog_1_method_15_code_0 31 rfl rfl) (lv_at hl 5 rfl) ?_
          refine lv_bipush (v := iI 12) hx hb (D_16 W_prog_1_method_15_code_32 1 rfl rfl rfl) (by decide) ?_
          refine zlt (tgt := 42) hx hb g9 (by decide) (D_161 W_prog_1_method_15_code_32 3 rfl rfl rfl) (by decide) (fun h11 => ?_) (fun h11 => ?_)
          · replace hf := gpos hf h11
            refine lv_iload hx hb (D_21 W_prog_1_method_15_code_32 10 rfl rfl) (lv_at hl 5 rfl) ?_
            refine lv_iconst (v := iI 2) hx hb (D_5 W_prog_1_method_15_code_32 12 rfl rfl) rfl ?_
            refine zne (tgt := 59) hx hb g9 (by decide) (D_160 W_prog_1_method_15_code_32 13 rfl rfl rfl) (by decide) (fun h12 => ?_) (fun h12 => ?_)
            · replace hf := gneg hf h12
              refine lv_iload hx hb (D_21 W_prog_1_method_15_code_32 27 rfl rfl) (lv_at hl 5 rfl) ?_
              refine lv_iconst (v := iI 3) hx hb (D_6 W_prog_1_method_15_code_32 29 rfl rfl) rfl ?_
              refine zne (tgt := 78) hx hb g9 (by decide) (D_160 W_prog_1_method_15_code_32 30 rfl rfl rfl) (by decide) (fun h13 => ?_) (fun h13 => ?_)
              · replace hf := gneg hf h13
                refine zaload hx hb (D_25 W_prog_1_method_15_code_64 14 rfl rfl) (lv_at hl 0 rfl) ?_
                refine zunrf g6.1 ?_
                refine zget (ci := 4) (C := RX4) (T := TX4) (v := .ref (ad 4 r2 (8 + 1))) (k := 8) hx hb hts inW_4 hown hK hZ2 g6.1 g6.2 rfl (by decide) k_4_144 rfl (D_180 W_prog_1_method_15_code_64 16 rfl rfl rfl) ?_
                refine lv_iload hx hb (D_21 W_prog_1_method_15_code_64 19 rfl rfl) (lv_at hl 5 rfl) ?_
                obtain ⟨g14, hf⟩ := gif hf
                refine zaldQ (t := 0) (ci := 4) (k := 8) hx hb hK rfl hZ2 g6.1 g6.2 rfl (Nat.le_of_ble_eq_true rfl) g14.1 g14.2 (D_50 W_prog_1_method_15_code_64 21 rfl rfl) ?_
                refine W.eq (g2 := F0 m 86 ls [.ref (ad 4 r2 (360 + l4.toNat + 1))]) rfl ?_
                refine lv_iload_n hx hb (D_29 W_prog_1_method_15_code_64 22 rfl rfl) rfl (lv_at hl 4 rfl) ?_
                obtain ⟨g15, hf⟩ := gif hf
                refine zald (ci := 4) (k := (360 + l4.toNat)) hx hb hK rfl hZ2 g6.1 g6.2 (zkq (c := 4) (b := 360) (n := 12) (t := 0) (by decide) g14.1 g14.2) (lnq_le (c := 4) (b := 360) (n := 12) (m := 800) (by decide) (by decide) (by decide) g14.1 g14.2) g15.1 (lnq_lt (c := 4) (b := 360) (n := 12) (m := 800) (by decide) (by decide) g14.1 g14.2 g15.2) (D_46 W_prog_1_method_15_code_64 23 rfl rfl) ?_
                obtain ⟨g16, hf⟩ := gif hf
                refine zi2l hx hb g16 (D_133 W_prog_1_method_15_code_64 24 rfl rfl) ?_
                exact b_S_note_89 X hf hZ2 hS2 (lv_sub hl [] rfl)
              · replace hf := gpos hf h13
                refine zaload hx hb (D_25 W_prog_1_method_15_code_64 1 rfl rfl) (lv_at hl 0 rfl) ?_
                refine zunrf g6.1 ?_
                refine zget (ci := 4) (C := RX4) (T := TX4) (v := .ref (ad 4 r2 (9 + 1))) (k := 9) hx hb hts inW_4 hown hK hZ2 g6.1 g6.2 rfl (by decide) k_4_147 rfl (D_180 W_prog_1_method_15_code_64 3 rfl rfl rfl) ?_
                refine lv_iload_n hx hb (D_29 W_prog_1_method_15_code_64 6 rfl rfl) rfl (lv_at hl 4 rfl) ?_
                obtain ⟨g17, hf⟩ := gif hf
                refine zlald (ci := 4) (k := 9) hx hb hK rfl hZ2 g6.1 g6.2 rfl (Nat.le_of_ble_eq_true rfl) g17.1 g17.2 (D_47 W_prog_1_method_15_code_64 7 rfl rfl) ?_
                obtain ⟨r18, F18, B18, hc18, hf⟩ := gbind hf
                refine va_calll (va_runS (As := [.long (lI (B2 4 r2 9 l3))]) (rest := []) ⟨hx, hb, hml, hown, hts⟩ (c_S_below (l := l) hc18) (va_cwS 1 hts (gdS k_6_192 k_6_193 k_1_1 k_6_194) rfl rfl rfl (by decide +kernel) ⟨Nat.le_of_ble_eq_true rfl, Nat.le_of_ble_eq_true rfl⟩) (zPS X hZ2 hS2 [.long (lI (B2 4 r2 9 l3))]) rfl rfl hl.1 rfl (lv_room (Nat.le_of_ble_eq_true rfl)) (D_184 W_prog_1_method_15_code_64 8 rfl rfl rfl) ⟨Nat.le_of_ble_eq_true rfl, Nat.le_of_ble_eq_true rfl⟩) hS2 (fun q _ h => zAin X hS2 q h) (zAin X hS2) (fun p18 u18 t18 H18 locs18 ht18 hv18 hw18 hB18 hz18 hk18 hS18 => ?_)
                have hZ18 := zBack X ht18 hB18
                subst hw18
                refine lv_goto (tgt := 89) hx hb (D_167 W_prog_1_method_15_code_64 11 rfl rfl rfl) (by decide) ?_
                exact b_S_note_89 X hf hZ18 hS18 (lv_sub hl [] rfl)
            · replace hf := gpos hf h12
              refine zaload hx hb (D_25 W_prog_1_method_15_code_32 16 rfl rfl) (lv_at hl 0 rfl) ?_
              refine zunrf g6.1 ?_
              refine zget (ci := 4) (C := RX4) (T := TX4) (v := .ref (ad 4 r2 (9 + 1))) (k := 9) hx hb hts inW_4 hown hK hZ2 g6.1 g6.2 rfl (by decide) k_4_147 rfl (D_180 W_prog_1_method_15_code_32 18 rfl rfl rfl) ?_
              refine lv_iload_n hx hb (D_29 W_prog_1_method_15_code_32 21 rfl rfl) rfl (lv_at hl 4 rfl) ?_
              obtain ⟨g19, hf⟩ := gif hf
              refine zlald (ci := 4) (k := 9) hx hb hK rfl hZ2 g6.1 g6.2 rfl (Nat.le_of_ble_eq_true rfl) g19.1 g19.2 (D_47 W_prog_1_method_15_code_32 22 rfl rfl) ?_
              obtain ⟨r20, F20, B20, hc20, hf⟩ := gbind hf
              refine va_calll (va_runS (As := [.long (lI (B2 4 r2 9 l3))]) (rest := []) ⟨hx, hb, hml, hown, hts⟩ (c_S_above (l := l) hc20) (va_cwS 1 hts (gdS k_6_185 k_6_186 k_1_1 k_6_187) rfl rfl rfl (by decide +kernel) ⟨Nat.le_of_ble_eq_true rfl, Nat.le_of_ble_eq_true rfl⟩) (zPS X hZ2 hS2 [.long (lI (B2 4 r2 9 l3))]) rfl rfl hl.1 rfl (lv_room (Nat.le_of_ble_eq_true rfl)) (D_184 W_prog_1_method_15_code_32 23 rfl rfl rfl) ⟨Nat.le_of_ble_eq_true rfl, Nat.le_of_ble_eq_true rfl⟩) hS2 (fun q _ h => zAin X hS2 q h) (zAin X hS2) (fun p20 u20 t20 H20 locs20 ht20 hv20 hw20 hB20 hz20 hk20 hS20 => ?_)
              have hZ20 := zBack X ht20 hB20
              subst hw20
              cases hf
              exact W.lret hx hb hr (fun t ht hW => ⟨⟨_, (), rfl, rfl, by rw [ht]; exact hZ20, va_K.moved hW.alike hK⟩, hS20.F ht⟩) hS20.2.2 (D_173 W_prog_1_method_15_code_32 26 rfl rfl) hlk
          · replace hf := gneg hf h11
            exact b_S_note_38 X hf hZ2 hS2 (lv_sub hl [] rfl)

abbrev Q_Layout_nextPlace (K : zK) (D : va_G) (ca : Nat → ClassId) (ad : Nat → Int → Nat → Nat) (L : List Nat) (r : Int) (F : zF) (B : zB) (A : Nat → Prop) : Array Value → State → Outcome → State → Prop := va_Ql (S := Unit) (fun p _ => p = lI r) (fun _ => zPo D ca ad lnC K.2 L F B A) A
def f_Layout_nextPlace_79 (rec7 : Int → Int → Int → Int → Int → zF → zB → zO) (K : zK) (l5 : Int) (l3 : Int) (l0 : Int) (l1 : Int) (l2 : Int) (F : zF) (B : zB) : zO := rec7 (l5 + 1) l3 l0 l1 l2 F B
set_option maxHeartbeats 4000000 in
set_option maxRecDepth 100000 in
theorem b_Layout_nextPlace_79 {D : va_G} {ca : Nat → ClassId} {ad : Nat → Int → Nat → Nat} {L : List Nat} {aS vS : Nat → Nat} {A : Nat → Prop} {p : Program} {l : Launch} {e : Env} {s : State} {m : MethodId} {args : Array Value} {below : List Frame} {meth : Method} {c : Code} {K : zK} {r : Int} {F9 : zF} {B9 : zB} (X : zX D ca L aS vS A p s m args meth c prog_4_method_5_code 7 (Option.some Jvm.ClassFile.FieldType.long) "StaveHouse$Layout") {rec7 : Int → Int → Int → Int → Int → zF → zB → zO} (hrec7 : ∀ {l5 : Int} {l3 : Int} {l0 : Int} {l1 : Int} {l2 : Int} {F : zF} {B : zB} {H : Heap} {locs : List Loc} {ls : Array Slot}, rec7 l5 l3 l0 l1 l2 F B = some (r, F9, B9) → zH D ca ad lnC K.2 L F B A H → va_S A s.heap H locs → lv_has ls 7 [(5, .int (iI l5)), (3, .long (lI l3)), (0, .ref (ad 2 l0 0)), (1, .ref (ad 6 l1 0)), (2, .int (iI l2))] → W p l e ({ frames := 1, cells := 0, slots := 0, locals := 22 } : Room) s m args below meth c H locs 0 0 (MQ below (Q_Layout_nextPlace K D ca ad L r F9 B9 A) args s 0 0 A) (F0 m 7 ls [])) {l5 : Int} {l3 : Int} {l0 : Int} {l1 : Int} {l2 : Int} {F : zF} {B : zB} {H : Heap} {locs : List Loc} {ls : Array Slot} (hf : f_Layout_nextPlace_79 rec7 K l5 l3 l0 l1 l2 F B = some (r, F9, B9)) (hZ : zH D ca ad lnC K.2 L F B A H) (hS : va_S A s.heap H locs) (hl : lv_has ls 7 [(5, .int (iI l5)), (3, .long (lI l3)), (0, .ref (ad 2 l0 0)), (1, .ref (ad 6 l1 0)), (2, .int (iI l2))]) : W p l e ({ frames := 1, cells := 0, slots := 0, locals := 22 } : Room) s m args below meth c H locs 0 0 (MQ below (Q_Layout_nextPlace K D ca ad L r F9 B9 A) args s 0 0 A) (F0 m 79 ls []) := by
  obtain ⟨hx, hb, hr, hml, hown, hts, hlk, hK, hA, hL, hX⟩ := id X
  replace hf : (rec7 (l5 + 1) l3 l0 l1 l2 F B) = some (r, F9, B9) := hf
  refine lv_iinc (v := iI (l5 + 1)) (lv' := [(5, .int (iI (l5 + 1))), (3, .long (lI l3)), (0, .ref (ad 2 l0 0)), (1, .ref (ad 6 l1 0)), (2, .int (iI l2))]) hx hb d_4_5_79 hl (k := 0) rfl (iI_add _ 1) (by decide) rfl (fun ls hl => ?_)
  refine lv_goto (tgt := 7) hx hb (D_167 W_prog_4_method_5_code_64 18 rfl rfl rfl) (by decide) ?_
  exact hrec7 hf hZ hS (lv_sub hl [0, 1, 2, 3, 4] rfl)

def f_Layout_nextPlace_65 (rec7 : Int → Int → Int → Int → Int → zF → zB → zO) (K : zK) (l6 : Int) (l5 : Int) (l0 : Int) (l1 : Int) (l2 : Int) (F : zF) (B : zB) : zO := if 0 ≤ l6 ∧ l6 < K.2 4 then if 0 ≤ l0 ∧ l0 < K.2 2 then if 0 ≤ l5 ∧ l5 < 4 then if 0 ≤ (B 2 l0 12 l5) ∧ (B 2 l0 12 l5) < 800 then f_Layout_nextPlace_79 rec7 K l5 (B 4 l6 9 (B 2 l0 12 l5)) l0 l1 l2 F B else none else none else none else none
set_option maxHeartbeats 4000000 in
set_option maxRecDepth 100000 in
theorem b_Layout_nextPlace_65 {D : va_G} {ca : Nat → ClassId} {ad : Nat → Int → Nat → Nat} {L : List Nat} {aS vS : Nat → Nat} {A : Nat → Prop} {p : Program} {l : Launch} {e : Env} {s : State} {m : MethodId} {args : Array Value} {below : List Frame} {meth : Method} {c : Code} {K : zK} {r : Int} {F9 : zF} {B9 : zB} (X : zX D ca L aS vS A p s m args meth c prog_4_method_5_code 7 (Option.some Jvm.ClassFile.FieldType.long) "StaveHouse$Layout") {rec7 : Int → Int → Int → Int → Int → zF → zB → zO} (hrec7 : ∀ {l5 : Int} {l3 : Int} {l0 : Int} {l1 : Int} {l2 : Int} {F : zF} {B : zB} {H : Heap} {locs : List Loc} {ls : Array Slot}, rec7 l5 l3 l0 l1 l2 F B = some (r, F9, B9) → zH D ca ad lnC K.2 L F B A H → va_S A s.heap H locs → lv_has ls 7 [(5, .int (iI l5)), (3, .long (lI l3)), (0, .ref (ad 2 l0 0)), (1, .ref (ad 6 l1 0)), (2, .int (iI l2))] → W p l e ({ frames := 1, cells := 0, slots := 0, locals := 22 } : Room) s m args below meth c H locs 0 0 (MQ below (Q_Layout_nextPlace K D ca ad L r F9 B9 A) args s 0 0 A) (F0 m 7 ls [])) {l6 : Int} {l5 : Int} {l0 : Int} {l1 : Int} {l2 : Int} {F : zF} {B : zB} {H : Heap} {locs : List Loc} {ls : Array Slot} (hf : f_Layout_nextPlace_65 rec7 K l6 l5 l0 l1 l2 F B = some (r, F9, B9)) (hZ : zH D ca ad lnC K.2 L F B A H) (hS : va_S A s.heap H locs) (hl : lv_has ls 7 [(6, va_rf (zrf ad 4 l6)), (5, .int (iI l5)), (0, .ref (ad 2 l0 0)), (1, .ref (ad 6 l1 0)), (2, .int (iI l2))]) : W p l e ({ frames := 1, cells := 0, slots := 0, locals := 22 } : Room) s m args below meth c H locs 0 0 (MQ below (Q_Layout_nextPlace K D ca ad L r F9 B9 A) args s 0 0 A) (F0 m 65 ls []) := by
  obtain ⟨hx, hb, hr, hml, hown, hts, hlk, hK, hA, hL, hX⟩ := id X
  replace hf : (if 0 ≤ l6 ∧ l6 < K.2 4 then if 0 ≤ l0 ∧ l0 < K.2 2 then if 0 ≤ l5 ∧ l5 < 4 then if 0 ≤ (B 2 l0 12 l5) ∧ (B 2 l0 12 l5) < 800 then f_Layout_nextPlace_79 rec7 K l5 (B 4 l6 9 (B 2 l0 12 l5)) l0 l1 l2 F B else none else none else none else none) = some (r, F9, B9) := hf
  refine zaload hx hb (D_25 W_prog_4_method_5_code_64 1 rfl rfl) (lv_at hl 0 rfl) ?_
  obtain ⟨g16, hf⟩ := gif hf
  refine zunrf g16.1 ?_
  refine zget (ci := 4) (C := RX4) (T := TX4) (v := .ref (ad 4 l6 (9 + 1))) (k := 9) hx hb hts inW_4 hown hK hZ g16.1 g16.2 rfl (by decide) k_4_146 rfl (D_180 W_prog_4_method_5_code_64 3 rfl rfl rfl) ?_
  refine lv_aload_n hx hb (D_42 W_prog_4_method_5_code_64 6 rfl rfl) rfl (lv_at hl 2 rfl) ?_
  obtain ⟨g17, hf⟩ := gif hf
  refine zget (ci := 2) (C := RX2) (T := TX2) (v := .ref (ad 2 l0 (12 + 1))) (k := 12) hx hb hts inW_2 hown hK hZ g17.1 g17.2 rfl (by decide) k_6_229 rfl (D_180 W_prog_4_method_5_code_64 7 rfl rfl rfl) ?_
  refine lv_iload hx hb (D_21 W_prog_4_method_5_code_64 10 rfl rfl) (lv_at hl 1 rfl) ?_
  obtain ⟨g18, hf⟩ := gif hf
  refine zald (ci := 2) (k := 12) hx hb hK rfl hZ g17.1 g17.2 rfl (Nat.le_of_ble_eq_true rfl) g18.1 g18.2 (D_46 W_prog_4_method_5_code_64 12 rfl rfl) ?_
  obtain ⟨g19, hf⟩ := gif hf
  refine zlald (ci := 4) (k := 9) hx hb hK rfl hZ g16.1 g16.2 rfl (Nat.le_of_ble_eq_true rfl) g19.1 g19.2 (D_47 W_prog_4_method_5_code_64 13 rfl rfl) ?_
  refine lv_lstore_n (lv' := [(3, .long (lI (B 4 l6 9 (B 2 l0 12 l5)))), (6, va_rf (zrf ad 4 l6)), (5, .int (iI l5)), (0, .ref (ad 2 l0 0)), (1, .ref (ad 6 l1 0)), (2, .int (iI l2))]) hx hb (D_66 W_prog_4_method_5_code_64 14 rfl rfl) rfl hl (by decide) rfl (fun ls hl => ?_)
  exact b_Layout_nextPlace_79 X hrec7 hf hZ hS (lv_sub hl [2, 0, 3, 4, 5] rfl)

def f_Layout_nextPlace_7 (K : zK) : Nat → Int → Int → Int → Int → Int → zF → zB → zO
  | 0, _, _, _, _, _, _, _ => none
  | n + 1, l5, l3, l0, l1, l2, F, B => if 0 ≤ l1 ∧ l1 < K.2 6 then if r32 l5 then if r32 (F 6 l1 1) then (if (F 6 l1 1) ≤ l5 then some (l3, F, B) else if 0 ≤ l5 ∧ l5 < 4 then if 0 ≤ l0 ∧ l0 < K.2 2 then if 0 ≤ (B 6 l1 0 l5) ∧ (B 6 l1 0 l5) < K.2 4 then zbind (f_Layout_beginsIn K (B 6 l1 0 l5) (B 2 l0 12 l5) l2 F B) (fun r8 F8 B8 => if r32 r8 then (if r8 = 0 then f_Layout_nextPlace_79 (f_Layout_nextPlace_7 K n) K l5 l3 l0 l1 l2 F8 B8 else if r64 l3 then (if (zcmp l3 0) < 0 then f_Layout_nextPlace_65 (f_Layout_nextPlace_7 K n) K (B 6 l1 0 l5) l5 l0 l1 l2 F8 B8 else if 0 ≤ (B8 2 l0 12 l5) ∧ (B8 2 l0 12 l5) < 800 then if r64 (B8 4 (B 6 l1 0 l5) 9 (B8 2 l0 12 l5)) then (if 0 ≤ (zcmp (B8 4 (B 6 l1 0 l5) 9 (B8 2 l0 12 l5)) l3) then f_Layout_nextPlace_79 (f_Layout_nextPlace_7 K n) K l5 l3 l0 l1 l2 F8 B8 else f_Layout_nextPlace_65 (f_Layout_nextPlace_7 K n) K (B 6 l1 0 l5) l5 l0 l1 l2 F8 B8) else none else none) else none) else none) else none else none else none) else none else none else none
set_option maxHeartbeats 4000000 in
set_option maxRecDepth 100000 in
theorem b_Layout_nextPlace_7 {D : va_G} {ca : Nat → ClassId} {ad : Nat → Int → Nat → Nat} {L : List Nat} {aS vS : Nat → Nat} {A : Nat → Prop} {p : Program} {l : Launch} {e : Env} {s : State} {m : MethodId} {args : Array Value} {below : List Frame} {meth : Method} {c : Code} {K : zK} {r : Int} {F9 : zF} {B9 : zB} (X : zX D ca L aS vS A p s m args meth c prog_4_method_5_code 7 (Option.some Jvm.ClassFile.FieldType.long) "StaveHouse$Layout") : ∀ {n : Nat} {l5 : Int} {l3 : Int} {l0 : Int} {l1 : Int} {l2 : Int} {F : zF} {B : zB} {H : Heap} {locs : List Loc} {ls : Array Slot}, f_Layout_nextPlace_7 K n l5 l3 l0 l1 l2 F B = some (r, F9, B9) → zH D ca ad lnC K.2 L F B A H → va_S A s.heap H locs → lv_has ls 7 [(5, .int (iI l5)), (3, .long (lI l3)), (0, .ref (ad 2 l0 0)), (1, .ref (ad 6 l1 0)), (2, .int (iI l2))] → W p l e ({ frames := 1, cells := 0, slots := 0, locals := 22 } : Room) s m args below meth c H locs 0 0 (MQ below (Q_Layout_nextPlace K D ca ad L r F9 B9 A) args s 0 0 A) (F0 m 7 ls []) := by
  obtain ⟨hx, hb, hr, hml, hown, hts, hlk, hK, hA, hL, hX⟩ := id X
  intro n
  induction n with
  | zero =>
    intros
    rename_i hf _ _ _
    cases hf
  | succ n ih =>
    intro l5 l3 l0 l1 l2 F B H locs ls hf hZ hS hl
    replace hf : (if 0 ≤ l1 ∧ l1 < K.2 6 then if r32 l5 then if r32 (F 6 l1 1) then (if (F 6 l1 1) ≤ l5 then some (l3, F, B) else if 0 ≤ l5 ∧ l5 < 4 then if 0 ≤ l0 ∧ l0 < K.2 2 then if 0 ≤ (B 6 l1 0 l5) ∧ (B 6 l1 0 l5) < K.2 4 then zbind (f_Layout_beginsIn K (B 6 l1 0 l5) (B 2 l0 12 l5) l2 F B) (fun r8 F8 B8 => if r32 r8 then (if r8 = 0 then f_Layout_nextPlace_79 (f_Layout_nextPlace_7 K n) K l5 l3 l0 l1 l2 F8 B8 else if r64 l3 then (if (zcmp l3 0) < 0 then f_Layout_nextPlace_65 (f_Layout_nextPlace_7 K n) K (B 6 l1 0 l5) l5 l0 l1 l2 F8 B8 else if 0 ≤ (B8 2 l0 12 l5) ∧ (B8 2 l0 12 l5) < 800 then if r64 (B8 4 (B 6 l1 0 l5) 9 (B8 2 l0 12 l5)) then (if 0 ≤ (zcmp (B8 4 (B 6 l1 0 l5) 9 (B8 2 l0 12 l5)) l3) then f_Layout_nextPlace_79 (f_Layout_nextPlace_7 K n) K l5 l3 l0 l1 l2 F8 B8 else f_Layout_nextPlace_65 (f_Layout_nextPlace_7 K n) K (B 6 l1 0 l5) l5 l0 l1 l2 F8 B8) else none else none) else none) else none) else none else none else none) else none else none else none) = some (r, F9, B9) := hf
    refine lv_iload hx hb (D_21 W_prog_4_method_5_code_0 7 rfl rfl) (lv_at hl 0 rfl) ?_
    refine lv_aload_n hx hb (D_43 W_prog_4_method_5_code_0 9 rfl rfl) rfl (lv_at hl 3 rfl) ?_
    obtain ⟨g1, hf⟩ := gif hf
    refine zget (ci := 6) (C := RX6) (T := TX6) (v := .int (iI (F 6 l1 1))) (k := 1) hx hb hts inW_6 hown hK hZ g1.1 g1.2 rfl (by decide) k_2_193 rfl (D_180 W_prog_4_method_5_code_0 10 rfl rfl rfl) ?_
    obtain ⟨g2, hf⟩ := gif hf
    obtain ⟨g3, hf⟩ := gif hf
    refine zge (tgt := 85) hx hb g2 g3 (D_162 W_prog_4_method_5_code_0 13 rfl rfl rfl) (by decide) (fun h4 => ?_) (fun h4 => ?_)
    · replace hf := gpos hf h4
      refine lv_lload_n hx hb (D_33 W_prog_4_method_5_code_64 21 rfl rfl) rfl (lv_at hl 1 rfl) ?_
      cases hf
      exact W.lret hx hb hr (fun t ht hW => ⟨⟨_, (), rfl, rfl, by rw [ht]; exact hZ, va_K.moved hW.alike hK⟩, hS.F ht⟩) hS.2.2 (D_173 W_prog_4_method_5_code_64 22 rfl rfl) hlk
    · replace hf := gneg hf h4
      refine lv_aload_n hx hb (D_43 W_prog_4_method_5_code_0 16 rfl rfl) rfl (lv_at hl 3 rfl) ?_
      refine zget (ci := 6) (C := RX6) (T := TX6) (v := .ref (ad 6 l1 (0 + 1))) (k := 0) hx hb hts inW_6 hown hK hZ g1.1 g1.2 rfl (by decide) k_2_188 rfl (D_180 W_prog_4_method_5_code_0 17 rfl rfl rfl) ?_
      refine lv_iload hx hb (D_21 W_prog_4_method_5_code_0 20 rfl rfl) (lv_at hl 0 rfl) ?_
      obtain ⟨g5, hf⟩ := gif hf
      refine zaldR (t := 4) (x := 6) (ci := 6) (k := 0) hx hb hK rfl rfl hZ g1.1 g1.2 rfl (Nat.le_of_ble_eq_true rfl) g5.1 g5.2 (D_50 W_prog_4_method_5_code_0 22 rfl rfl) ?_
      refine zastore (lv' := [(5, .int (iI l5)), (3, .long (lI l3)), (0, .ref (ad 2 l0 0)), (1, .ref (ad 6 l1 0)), (2, .int (iI l2))]) hx hb (D_58 W_prog_4_method_5_code_0 23 rfl rfl) hl (by decide) (fun _ _ => rfl) (fun ls hl => ?_)
      refine zaload hx hb (D_25 W_prog_4_method_5_code_0 25 rfl rfl) (lv_at hl 0 rfl) ?_
      refine lv_aload_n hx hb (D_42 W_prog_4_method_5_code_0 27 rfl rfl) rfl (lv_at hl 3 rfl) ?_
      obtain ⟨g6, hf⟩ := gif hf
      refine zget (ci := 2) (C := RX2) (T := TX2) (v := .ref (ad 2 l0 (12 + 1))) (k := 12) hx hb hts inW_2 hown hK hZ g6.1 g6.2 rfl (by decide) k_6_229 rfl (D_180 W_prog_4_method_5_code_0 28 rfl rfl rfl) ?_
      refine lv_iload hx hb (D_21 W_prog_4_method_5_code_0 31 rfl rfl) (lv_at hl 1 rfl) ?_
      refine zald (ci := 2) (k := 12) hx hb hK rfl hZ g6.1 g6.2 rfl (Nat.le_of_ble_eq_true rfl) g5.1 g5.2 (D_46 W_prog_4_method_5_code_32 1 rfl rfl) ?_
      refine lv_iload_n hx hb (D_28 W_prog_4_method_5_code_32 2 rfl rfl) rfl (lv_at hl 5 rfl) ?_
      obtain ⟨g7, hf⟩ := gif hf
      refine W.eq (g2 := F0 m 35 ls [.int (iI l2), .int (iI (B 2 l0 12 l5)), .ref (ad 4 (B 6 l1 0 l5) 0)]) (by rw [zrf_pos (ad := ad) (t := 4) g7.1]; try rfl) ?_
      obtain ⟨r8, F8, B8, hc8, hf⟩ := gbind hf
      refine va_calli (va_runS (As := [.ref (ad 4 (B 6 l1 0 l5) 0), .int (iI (B 2 l0 12 l5)), .int (iI l2)]) (rest := []) ⟨hx, hb, hml, hown, hts⟩ (c_Layout_beginsIn (l := l) hc8) (va_cwS 3 hts (gdS k_7_35 k_7_36 k_1_21 k_7_37) rfl rfl rfl (by decide +kernel) ⟨Nat.le_of_ble_eq_true rfl, Nat.le_of_ble_eq_true rfl⟩) (zPS X hZ hS [.ref (ad 4 (B 6 l1 0 l5) 0), .int (iI (B 2 l0 12 l5)), .int (iI l2)]) rfl rfl hl.1 rfl (lv_room (Nat.le_of_ble_eq_true rfl)) (D_184 W_prog_4_method_5_code_32 3 rfl rfl rfl) ⟨Nat.le_of_ble_eq_true rfl, Nat.le_of_ble_eq_true rfl⟩) hS (fun q _ h => zAin X hS q h) (zAin X hS) (fun p8 u8 t8 H8 locs8 ht8 hv8 hw8 hB8 hz8 hk8 hS8 => ?_)
      have hZ8 := zBack X ht8 hB8
      subst hw8
      obtain ⟨g9, hf⟩ := gif hf
      refine z0eq (tgt := 79) hx hb g9 (D_153 W_prog_4_method_5_code_32 6 rfl rfl rfl) (by decide) (fun h10 => ?_) (fun h10 => ?_)
      · replace hf := gpos hf h10
        exact b_Layout_nextPlace_79 X ih hf hZ8 hS8 (lv_sub hl [1, 2, 3, 4, 5] rfl)
      · replace hf := gneg hf h10
        refine lv_lload_n hx hb (D_33 W_prog_4_method_5_code_32 9 rfl rfl) rfl (lv_at hl 2 rfl) ?_
        refine lv_lconst (v := lI 0) hx hb (D_9 W_prog_4_method_5_code_32 10 rfl rfl) (by decide) ?_
        obtain ⟨g11, hf⟩ := gif hf
        refine zcmp_r hx hb g11 (by decide) (D_148 W_prog_4_method_5_code_32 11 rfl rfl) ?_
        refine z0lt (tgt := 65) hx hb zcmp_32 (D_155 W_prog_4_method_5_code_32 12 rfl rfl rfl) (by decide) (fun h12 => ?_) (fun h12 => ?_)
        · replace hf := gpos hf h12
          exact b_Layout_nextPlace_65 X ih hf hZ8 hS8 (lv_sub hl [0, 1, 3, 4, 5] rfl)
        · replace hf := gneg hf h12
          refine zaload hx hb (D_25 W_prog_4_method_5_code_32 15 rfl rfl) (lv_at hl 0 rfl) ?_
          refine zunrf g7.1 ?_
          refine zget (ci := 4) (C := RX4) (T := TX4) (v := .ref (ad 4 (B 6 l1 0 l5) (9 + 1))) (k := 9) hx hb hts inW_4 hown hK hZ8 g7.1 g7.2 rfl (by decide) k_4_146 rfl (D_180 W_prog_4_method_5_code_32 17 rfl rfl rfl) ?_
          refine lv_aload_n hx hb (D_42 W_prog_4_method_5_code_32 20 rfl rfl) rfl (lv_at hl 3 rfl) ?_
          refine zget (ci := 2) (C := RX2) (T := TX2) (v := .ref (ad 2 l0 (12 + 1))) (k := 12) hx hb hts inW_2 hown hK hZ8 g6.1 g6.2 rfl (by decide) k_6_229 rfl (D_180 W_prog_4_method_5_code_32 21 rfl rfl rfl) ?_
          refine lv_iload hx hb (D_21 W_prog_4_method_5_code_32 24 rfl rfl) (lv_at hl 1 rfl) ?_
          refine zald (ci := 2) (k := 12) hx hb hK rfl hZ8 g6.1 g6.2 rfl (Nat.le_of_ble_eq_true rfl) g5.1 g5.2 (D_46 W_prog_4_method_5_code_32 26 rfl rfl) ?_
          obtain ⟨g13, hf⟩ := gif hf
          refine zlald (ci := 4) (k := 9) hx hb hK rfl hZ8 g7.1 g7.2 rfl (Nat.le_of_ble_eq_true rfl) g13.1 g13.2 (D_47 W_prog_4_method_5_code_32 27 rfl rfl) ?_
          refine lv_lload_n hx hb (D_33 W_prog_4_method_5_code_32 28 rfl rfl) rfl (lv_at hl 2 rfl) ?_
          obtain ⟨g14, hf⟩ := gif hf
          refine zcmp_r hx hb g14 g11 (D_148 W_prog_4_method_5_code_32 29 rfl rfl) ?_
          refine z0ge (tgt := 79) hx hb zcmp_32 (D_156 W_prog_4_method_5_code_32 30 rfl rfl rfl) (by decide) (fun h15 => ?_) (fun h15 => ?_)
          · replace hf := gpos hf h15
            exact b_Layout_nextPlace_79 X ih hf hZ8 hS8 (lv_sub hl [1, 2, 3, 4, 5] rfl)
          · replace hf := gneg hf h15
            exact b_Layout_nextPlace_65 X ih hf hZ8 hS8 (lv_sub hl [0, 1, 3, 4, 5] rfl)

def f_Layout_nextPlace (K : zK) (l0 : Int) (l1 : Int) (l2 : Int) (F : zF) (B : zB) : zO := f_Layout_nextPlace_7 K K.1 0 (-1) l0 l1 l2 F B
set_option maxHeartbeats 4000000 in
set_option maxRecDepth 100000 in
theorem c_Layout_nextPlace {l : Launch} {D : va_G} {ca : Nat → ClassId} {ad : Nat → Int → Nat → Nat} {L : List Nat} {aS vS : Nat → Nat} {sz : Nat} {K : zK}  {l0 : Int} {l1 : Int} {l2 : Int} {F F9 : zF} {B B9 : zB} {r : Int} (hf : f_Layout_nextPlace K l0 l1 l2 F B = some (r, F9, B9)) : Met l ({ cls := "StaveHouse$Layout", name := "nextPlace", desc := "(LStaveHouse$Piece;I)J" } : Jvm.MethodName) (Cond.code ({ cls := "StaveHouse$Layout", name := "nextPlace", desc := "(LStaveHouse$Piece;I)J" } : Jvm.MethodName) prog_4_method_5_code 7 (Option.some Jvm.ClassFile.FieldType.long) :: wAll) ({ frames := 1, cells := 0, slots := 0, locals := 22 } : Room) (va_Pc [.ref (ad 2 l0 0), .ref (ad 6 l1 0), .int (iI l2)] (zPre D ca ad lnC K.2 L aS vS F B sz)) (Q_Layout_nextPlace K D ca ad L r F9 B9 (zA L sz)) 0 0 (zA L sz) := by
  refine zMet (Qc := Q_Layout_nextPlace K D ca ad L r F9 B9) (lv := [(0, .ref (ad 2 l0 0)), (1, .ref (ad 6 l1 0)), (2, .int (iI l2))]) (by decide) (Nat.le_of_ble_eq_true rfl) rfl (fun A p e s m below meth c ls X hZ hS hl => ?_)
  obtain ⟨hx, hb, hr, hml, hown, hts, hlk, hK, hA, hL, hX⟩ := id X
  replace hf : (f_Layout_nextPlace_7 K K.1 0 (-1) l0 l1 l2 F B) = some (r, F9, B9) := hf
  refine lv_ldc2 hx hb hown (hts _ k_7_34) (D_20 W_prog_4_method_5_code_0 0 rfl rfl rfl) ?_
  refine W.eq (g2 := F0 m 3 ls [.long (lI (-1))]) rfl ?_
  refine lv_lstore_n (lv' := [(3, .long (lI (-1))), (0, .ref (ad 2 l0 0)), (1, .ref (ad 6 l1 0)), (2, .int (iI l2))]) hx hb (D_66 W_prog_4_method_5_code_0 3 rfl rfl) rfl hl (by decide) rfl (fun ls hl => ?_)
  refine lv_iconst (v := iI 0) hx hb (D_3 W_prog_4_method_5_code_0 4 rfl rfl) rfl ?_
  refine lv_istore (lv' := [(5, .int (iI 0)), (3, .long (lI (-1))), (0, .ref (ad 2 l0 0)), (1, .ref (ad 6 l1 0)), (2, .int (iI l2))]) hx hb (D_54 W_prog_4_method_5_code_0 5 rfl rfl) hl (by decide) rfl (fun ls hl => ?_)
  exact b_Layout_nextPlace_7 X hf hZ hS (lv_sub hl [0, 1, 2, 3, 4] rfl)

abbrev Q_Layout_choose (K : zK) (D : va_G) (ca : Nat → ClassId) (ad : Nat → Int → Nat → Nat) (L : List Nat) (r : Int) (F : zF) (B : zB) (A : Nat → Prop) : Array Value → State → Outcome → State → Prop := va_Qv (S := Unit) (fun _ => True) (fun _ => zPo D ca ad lnC K.2 L F B A) A
def f_Layout_choose_145 (rec12 : Int → Int → Int → Int → Int → zF → zB → zO) (K : zK) (l4 : Int) (l0 : Int) (l1 : Int) (l2 : Int) (l3 : Int) (F : zF) (B : zB) : zO := rec12 (l4 - 1) l0 l1 l2 l3 F B
set_option maxHeartbeats 4000000 in
set_option maxRecDepth 100000 in
theorem b_Layout_choose_145 {D : va_G} {ca : Nat → ClassId} {ad : Nat → Int → Nat → Nat} {L : List Nat} {aS vS : Nat → Nat} {A : Nat → Prop} {p : Program} {l : Launch} {e : Env} {s : State} {m : MethodId} {args : Array Value} {below : List Frame} {meth : Method} {c : Code} {K : zK} {r : Int} {F9 : zF} {B9 : zB} (X : zX D ca L aS vS A p s m args meth c prog_4_method_10_code 9 (Option.none : Option Jvm.ClassFile.FieldType) "StaveHouse$Layout") {rec12 : Int → Int → Int → Int → Int → zF → zB → zO} (hrec12 : ∀ {l4 : Int} {l0 : Int} {l1 : Int} {l2 : Int} {l3 : Int} {F : zF} {B : zB} {H : Heap} {locs : List Loc} {ls : Array Slot}, rec12 l4 l0 l1 l2 l3 F B = some (r, F9, B9) → zH D ca ad lnC K.2 L F B A H → va_S A s.heap H locs → lv_has ls 9 [(4, .int (iI l4)), (0, .ref (ad 2 l0 0)), (1, .ref (ad 6 l1 0)), (2, .int (iI l2)), (3, .int (iI l3))] → W p l e ({ frames := 2, cells := 0, slots := 0, locals := 36 } : Room) s m args below meth c H locs 0 0 (MQ below (Q_Layout_choose K D ca ad L r F9 B9 A) args s 0 0 A) (F0 m 12 ls [])) {l4 : Int} {l0 : Int} {l1 : Int} {l2 : Int} {l3 : Int} {F : zF} {B : zB} {H : Heap} {locs : List Loc} {ls : Array Slot} (hf : f_Layout_choose_145 rec12 K l4 l0 l1 l2 l3 F B = some (r, F9, B9)) (hZ : zH D ca ad lnC K.2 L F B A H) (hS : va_S A s.heap H locs) (hl : lv_has ls 9 [(4, .int (iI l4)), (0, .ref (ad 2 l0 0)), (1, .ref (ad 6 l1 0)), (2, .int (iI l2)), (3, .int (iI l3))]) : W p l e ({ frames := 2, cells := 0, slots := 0, locals := 36 } : Room) s m args below meth c H locs 0 0 (MQ below (Q_Layout_choose K D ca ad L r F9 B9 A) args s 0 0 A) (F0 m 145 ls []) := by
  obtain ⟨hx, hb, hr, hml, hown, hts, hlk, hK, hA, hL, hX⟩ := id X
  replace hf : (rec12 (l4 - 1) l0 l1 l2 l3 F B) = some (r, F9, B9) := hf
  refine lv_iinc (v := iI (l4 - 1)) (lv' := [(4, .int (iI (l4 - 1))), (0, .ref (ad 2 l0 0)), (1, .ref (ad 6 l1 0)), (2, .int (iI l2)), (3, .int (iI l3))]) hx hb d_4_10_145 hl (k := 0) rfl (by rw [show Int32.ofInt (-1) = iI (-1) from rfl, iI_add]; congr 1) (by decide) rfl (fun ls hl => ?_)
  refine lv_goto (tgt := 12) hx hb (D_167 W_prog_4_method_10_code_128 20 rfl rfl rfl) (by decide) ?_
  exact hrec12 hf hZ hS (lv_sub hl [0, 1, 2, 3, 4] rfl)

def f_Layout_choose_139 (rec12 : Int → Int → Int → Int → Int → zF → zB → zO) (rec41 : Int → Int → Int → Int → Int → Int → Int → zF → zB → zO) (K : zK) (l5 : Int) (l6 : Int) (l4 : Int) (l0 : Int) (l1 : Int) (l2 : Int) (l3 : Int) (F : zF) (B : zB) : zO := rec41 (l6 + 1) l5 l4 l0 l1 l2 l3 F B
set_option maxHeartbeats 4000000 in
set_option maxRecDepth 100000 in
theorem b_Layout_choose_139 {D : va_G} {ca : Nat → ClassId} {ad : Nat → Int → Nat → Nat} {L : List Nat} {aS vS : Nat → Nat} {A : Nat → Prop} {p : Program} {l : Launch} {e : Env} {s : State} {m : MethodId} {args : Array Value} {below : List Frame} {meth : Method} {c : Code} {K : zK} {r : Int} {F9 : zF} {B9 : zB} (X : zX D ca L aS vS A p s m args meth c prog_4_method_10_code 9 (Option.none : Option Jvm.ClassFile.FieldType) "StaveHouse$Layout") {rec12 : Int → Int → Int → Int → Int → zF → zB → zO} {rec41 : Int → Int → Int → Int → Int → Int → Int → zF → zB → zO} (hrec12 : ∀ {l4 : Int} {l0 : Int} {l1 : Int} {l2 : Int} {l3 : Int} {F : zF} {B : zB} {H : Heap} {locs : List Loc} {ls : Array Slot}, rec12 l4 l0 l1 l2 l3 F B = some (r, F9, B9) → zH D ca ad lnC K.2 L F B A H → va_S A s.heap H locs → lv_has ls 9 [(4, .int (iI l4)), (0, .ref (ad 2 l0 0)), (1, .ref (ad 6 l1 0)), (2, .int (iI l2)), (3, .int (iI l3))] → W p l e ({ frames := 2, cells := 0, slots := 0, locals := 36 } : Room) s m args below meth c H locs 0 0 (MQ below (Q_Layout_choose K D ca ad L r F9 B9 A) args s 0 0 A) (F0 m 12 ls [])) (hrec41 : ∀ {l6 : Int} {l5 : Int} {l4 : Int} {l0 : Int} {l1 : Int} {l2 : Int} {l3 : Int} {F : zF} {B : zB} {H : Heap} {locs : List Loc} {ls : Array Slot}, rec41 l6 l5 l4 l0 l1 l2 l3 F B = some (r, F9, B9) → zH D ca ad lnC K.2 L F B A H → va_S A s.heap H locs → lv_has ls 9 [(6, .int (iI l6)), (5, .int (iI l5)), (4, .int (iI l4)), (0, .ref (ad 2 l0 0)), (1, .ref (ad 6 l1 0)), (2, .int (iI l2)), (3, .int (iI l3))] → W p l e ({ frames := 2, cells := 0, slots := 0, locals := 36 } : Room) s m args below meth c H locs 0 0 (MQ below (Q_Layout_choose K D ca ad L r F9 B9 A) args s 0 0 A) (F0 m 41 ls [])) {l5 : Int} {l6 : Int} {l4 : Int} {l0 : Int} {l1 : Int} {l2 : Int} {l3 : Int} {F : zF} {B : zB} {H : Heap} {locs : List Loc} {ls : Array Slot} (hf : f_Layout_choose_139 rec12 rec41 K l5 l6 l4 l0 l1 l2 l3 F B = some (r, F9, B9)) (hZ : zH D ca ad lnC K.2 L F B A H) (hS : va_S A s.heap H locs) (hl : lv_has ls 9 [(5, .int (iI l5)), (6, .int (iI l6)), (4, .int (iI l4)), (0, .ref (ad 2 l0 0)), (1, .ref (ad 6 l1 0)), (2, .int (iI l2)), (3, .int (iI l3))]) : W p l e ({ frames := 2, cells := 0, slots := 0, locals := 36 } : Room) s m args below meth c H locs 0 0 (MQ below (Q_Layout_choose K D ca ad L r F9 B9 A) args s 0 0 A) (F0 m 139 ls []) := by
  obtain ⟨hx, hb, hr, hml, hown, hts, hlk, hK, hA, hL, hX⟩ := id X
  replace hf : (rec41 (l6 + 1) l5 l4 l0 l1 l2 l3 F B) = some (r, F9, B9) := hf
  refine lv_iinc (v := iI (l6 + 1)) (lv' := [(6, .int (iI (l6 + 1))), (5, .int (iI l5)), (4, .int (iI l4)), (0, .ref (ad 2 l0 0)), (1, .ref (ad 6 l1 0)), (2, .int (iI l2)), (3, .int (iI l3))]) hx hb d_4_10_139 hl (k := 1) rfl (iI_add _ 1) (by decide) rfl (fun ls hl => ?_)
  refine lv_goto (tgt := 41) hx hb (D_167 W_prog_4_method_10_code_128 14 rfl rfl rfl) (by decide) ?_
  exact hrec41 hf hZ hS (lv_sub hl [0, 1, 2, 3, 4, 5, 6] rfl)

def f_Layout_choose_95 (rec12 : Int → Int → Int → Int → Int → zF → zB → zO) (rec41 : Int → Int → Int → Int → Int → Int → Int → zF → zB → zO) (K : zK) (l5 : Int) (l6 : Int) (l4 : Int) (l0 : Int) (l1 : Int) (l2 : Int) (l3 : Int) (s0 : Int) (s1 : Int) (s2 : Int) (F : zF) (B : zB) : zO := zbind (f_Layout_price K s0 s1 s2 F B) (fun r25 F25 B25 => if 0 ≤ l0 ∧ l0 < K.2 2 then if 0 ≤ l6 ∧ l6 < 101 then if 0 ≤ l4 ∧ l4 < 101 then if r64 (r25 + (B25 2 l0 10 l6)) then if r64 (B25 2 l0 10 l4) then (if 0 < (zcmp (r25 + (B25 2 l0 10 l6)) (B25 2 l0 10 l4)) then f_Layout_choose_139 rec12 rec41 K l5 l6 l4 l0 l1 l2 l3 F25 B25 else f_Layout_choose_139 rec12 rec41 K l5 l6 l4 l0 l1 l2 l3 F25 (zup4 (zup4 B25 2 l0 10 l4 (r25 + (B25 2 l0 10 l6))) 2 l0 11 l4 l6)) else none else none else none else none else none)
set_option maxHeartbeats 4000000 in
set_option maxRecDepth 100000 in
theorem b_Layout_choose_95 {D : va_G} {ca : Nat → ClassId} {ad : Nat → Int → Nat → Nat} {L : List Nat} {aS vS : Nat → Nat} {A : Nat → Prop} {p : Program} {l : Launch} {e : Env} {s : State} {m : MethodId} {args : Array Value} {below : List Frame} {meth : Method} {c : Code} {K : zK} {r : Int} {F9 : zF} {B9 : zB} (X : zX D ca L aS vS A p s m args meth c prog_4_method_10_code 9 (Option.none : Option Jvm.ClassFile.FieldType) "StaveHouse$Layout") {rec12 : Int → Int → Int → Int → Int → zF → zB → zO} {rec41 : Int → Int → Int → Int → Int → Int → Int → zF → zB → zO} (hrec12 : ∀ {l4 : Int} {l0 : Int} {l1 : Int} {l2 : Int} {l3 : Int} {F : zF} {B : zB} {H : Heap} {locs : List Loc} {ls : Array Slot}, rec12 l4 l0 l1 l2 l3 F B = some (r, F9, B9) → zH D ca ad lnC K.2 L F B A H → va_S A s.heap H locs → lv_has ls 9 [(4, .int (iI l4)), (0, .ref (ad 2 l0 0)), (1, .ref (ad 6 l1 0)), (2, .int (iI l2)), (3, .int (iI l3))] → W p l e ({ frames := 2, cells := 0, slots := 0, locals := 36 } : Room) s m args below meth c H locs 0 0 (MQ below (Q_Layout_choose K D ca ad L r F9 B9 A) args s 0 0 A) (F0 m 12 ls [])) (hrec41 : ∀ {l6 : Int} {l5 : Int} {l4 : Int} {l0 : Int} {l1 : Int} {l2 : Int} {l3 : Int} {F : zF} {B : zB} {H : Heap} {locs : List Loc} {ls : Array Slot}, rec41 l6 l5 l4 l0 l1 l2 l3 F B = some (r, F9, B9) → zH D ca ad lnC K.2 L F B A H → va_S A s.heap H locs → lv_has ls 9 [(6, .int (iI l6)), (5, .int (iI l5)), (4, .int (iI l4)), (0, .ref (ad 2 l0 0)), (1, .ref (ad 6 l1 0)), (2, .int (iI l2)), (3, .int (iI l3))] → W p l e ({ frames := 2, cells := 0, slots := 0, locals := 36 } : Room) s m args below meth c H locs 0 0 (MQ below (Q_Layout_choose K D ca ad L r F9 B9 A) args s 0 0 A) (F0 m 41 ls [])) {l5 : Int} {l6 : Int} {l4 : Int} {l0 : Int} {l1 : Int} {l2 : Int} {l3 : Int} {s0 : Int} {s1 : Int} {s2 : Int} {F : zF} {B : zB} {H : Heap} {locs : List Loc} {ls : Array Slot} (hf : f_Layout_choose_95 rec12 rec41 K l5 l6 l4 l0 l1 l2 l3 s0 s1 s2 F B = some (r, F9, B9)) (hZ : zH D ca ad lnC K.2 L F B A H) (hS : va_S A s.heap H locs) (hl : lv_has ls 9 [(5, .int (iI l5)), (6, .int (iI l6)), (4, .int (iI l4)), (0, .ref (ad 2 l0 0)), (1, .ref (ad 6 l1 0)), (2, .int (iI l2)), (3, .int (iI l3))]) : W p l e ({ frames := 2, cells := 0, slots := 0, locals := 36 } : Room) s m args below meth c H locs 0 0 (MQ below (Q_Layout_choose K D ca ad L r F9 B9 A) args s 0 0 A) (F0 m 95 ls [.int (iI s2), .long (lI s1), .long (lI s0)]) := by
  obtain ⟨hx, hb, hr, hml, hown, hts, hlk, hK, hA, hL, hX⟩ := id X
  replace hf : (zbind (f_Layout_price K s0 s1 s2 F B) (fun r25 F25 B25 => if 0 ≤ l0 ∧ l0 < K.2 2 then if 0 ≤ l6 ∧ l6 < 101 then if 0 ≤ l4 ∧ l4 < 101 then if r64 (r25 + (B25 2 l0 10 l6)) then if r64 (B25 2 l0 10 l4) then (if 0 < (zcmp (r25 + (B25 2 l0 10 l6)) (B25 2 l0 10 l4)) then f_Layout_choose_139 rec12 rec41 K l5 l6 l4 l0 l1 l2 l3 F25 B25 else f_Layout_choose_139 rec12 rec41 K l5 l6 l4 l0 l1 l2 l3 F25 (zup4 (zup4 B25 2 l0 10 l4 (r25 + (B25 2 l0 10 l6))) 2 l0 11 l4 l6)) else none else none else none else none else none)) = some (r, F9, B9) := hf
  obtain ⟨r25, F25, B25, hc25, hf⟩ := gbind hf
  refine va_calll (va_runS (As := [.long (lI s0), .long (lI s1), .int (iI s2)]) (rest := []) ⟨hx, hb, hml, hown, hts⟩ (c_Layout_price (l := l) hc25) (va_cwS 3 hts (gdS k_7_55 k_7_56 k_1_21 k_7_57) rfl rfl rfl (by decide +kernel) ⟨Nat.le_of_ble_eq_true rfl, Nat.le_of_ble_eq_true rfl⟩) (zPS X hZ hS [.long (lI s0), .long (lI s1), .int (iI s2)]) rfl rfl hl.1 rfl (lv_room (Nat.le_of_ble_eq_true rfl)) (D_184 W_prog_4_method_10_code_64 31 rfl rfl rfl) ⟨Nat.le_of_ble_eq_true rfl, Nat.le_of_ble_eq_true rfl⟩) hS (fun q _ h => zAin X hS q h) (zAin X hS) (fun p25 u25 t25 H25 locs25 ht25 hv25 hw25 hB25 hz25 hk25 hS25 => ?_)
  have hZ25 := zBack X ht25 hB25
  subst hw25
  refine lv_aload_n hx hb (D_42 W_prog_4_method_10_code_96 2 rfl rfl) rfl (lv_at hl 3 rfl) ?_
  obtain ⟨g26, hf⟩ := gif hf
  refine zget (ci := 2) (C := RX2) (T := TX2) (v := .ref (ad 2 l0 (10 + 1))) (k := 10) hx hb hts inW_2 hown hK hZ25 g26.1 g26.2 rfl (by decide) k_6_227 rfl (D_180 W_prog_4_method_10_code_96 3 rfl rfl rfl) ?_
  refine lv_iload hx hb (D_21 W_prog_4_method_10_code_96 6 rfl rfl) (lv_at hl 1 rfl) ?_
  obtain ⟨g27, hf⟩ := gif hf
  refine zlald (ci := 2) (k := 10) hx hb hK rfl hZ25 g26.1 g26.2 rfl (Nat.le_of_ble_eq_true rfl) g27.1 g27.2 (D_47 W_prog_4_method_10_code_96 8 rfl rfl) ?_
  refine zladd hx hb (D_97 W_prog_4_method_10_code_96 9 rfl rfl) ?_
  refine lv_lstore (lv' := [(7, .long (lI (r25 + (B25 2 l0 10 l6)))), (5, .int (iI l5)), (6, .int (iI l6)), (4, .int (iI l4)), (0, .ref (ad 2 l0 0)), (1, .ref (ad 6 l1 0)), (2, .int (iI l2)), (3, .int (iI l3))]) hx hb (D_55 W_prog_4_method_10_code_96 10 rfl rfl) hl (by decide) rfl (fun ls hl => ?_)
  refine lv_lload hx hb (D_22 W_prog_4_method_10_code_96 12 rfl rfl) (lv_at hl 0 rfl) ?_
  refine lv_aload_n hx hb (D_42 W_prog_4_method_10_code_96 14 rfl rfl) rfl (lv_at hl 4 rfl) ?_
  refine zget (ci := 2) (C := RX2) (T := TX2) (v := .ref (ad 2 l0 (10 + 1))) (k := 10) hx hb hts inW_2 hown hK hZ25 g26.1 g26.2 rfl (by decide) k_6_227 rfl (D_180 W_prog_4_method_10_code_96 15 rfl rfl rfl) ?_
  refine lv_iload hx hb (D_21 W_prog_4_method_10_code_96 18 rfl rfl) (lv_at hl 3 rfl) ?_
  obtain ⟨g28, hf⟩ := gif hf
  refine zlald (ci := 2) (k := 10) hx hb hK rfl hZ25 g26.1 g26.2 rfl (Nat.le_of_ble_eq_true rfl) g28.1 g28.2 (D_47 W_prog_4_method_10_code_96 20 rfl rfl) ?_
  obtain ⟨g29, hf⟩ := gif hf
  obtain ⟨g30, hf⟩ := gif hf
  refine zcmp_r hx hb g29 g30 (D_148 W_prog_4_method_10_code_96 21 rfl rfl) ?_
  refine z0gt (tgt := 139) hx hb zcmp_32 (D_157 W_prog_4_method_10_code_96 22 rfl rfl rfl) (by decide) (fun h31 => ?_) (fun h31 => ?_)
  · replace hf := gpos hf h31
    exact b_Layout_choose_139 X hrec12 hrec41 hf hZ25 hS25 (lv_sub hl [1, 2, 3, 4, 5, 6, 7] rfl)
  · replace hf := gneg hf h31
    refine lv_aload_n hx hb (D_42 W_prog_4_method_10_code_96 25 rfl rfl) rfl (lv_at hl 4 rfl) ?_
    refine zget (ci := 2) (C := RX2) (T := TX2) (v := .ref (ad 2 l0 (10 + 1))) (k := 10) hx hb hts inW_2 hown hK hZ25 g26.1 g26.2 rfl (by decide) k_6_227 rfl (D_180 W_prog_4_method_10_code_96 26 rfl rfl rfl) ?_
    refine lv_iload hx hb (D_21 W_prog_4_method_10_code_96 29 rfl rfl) (lv_at hl 3 rfl) ?_
    refine lv_lload hx hb (D_22 W_prog_4_method_10_code_96 31 rfl rfl) (lv_at hl 0 rfl) ?_
    refine zlast (ci := 2) (k := 10) hx hb hK rfl hZ25 hS25 g26.1 g26.2 rfl (Nat.le_of_ble_eq_true rfl) g28.1 g28.2 (D_80 W_prog_4_method_10_code_128 1 rfl rfl) (fun H33 locs33 hZ33 hS33 => ?_)
    refine lv_aload_n hx hb (D_42 W_prog_4_method_10_code_128 2 rfl rfl) rfl (lv_at hl 4 rfl) ?_
    refine zget (ci := 2) (C := RX2) (T := TX2) (v := .ref (ad 2 l0 (11 + 1))) (k := 11) hx hb hts inW_2 hown hK hZ33 g26.1 g26.2 rfl (by decide) k_6_228 rfl (D_180 W_prog_4_method_10_code_128 3 rfl rfl rfl) ?_
    refine lv_iload hx hb (D_21 W_prog_4_method_10_code_128 6 rfl rfl) (lv_at hl 3 rfl) ?_
    refine lv_iload hx hb (D_21 W_prog_4_method_10_code_128 8 rfl rfl) (lv_at hl 2 rfl) ?_
    refine zast (ci := 2) (k := 11) hx hb hK rfl hZ33 hS33 g26.1 g26.2 rfl (Nat.le_of_ble_eq_true rfl) g28.1 g28.2 (D_79 W_prog_4_method_10_code_128 10 rfl rfl) (fun H34 locs34 hZ34 hS34 => ?_)
    exact b_Layout_choose_139 X hrec12 hrec41 hf hZ34 hS34 (lv_sub hl [1, 2, 3, 4, 5, 6, 7] rfl)

def f_Layout_choose_79 (rec12 : Int → Int → Int → Int → Int → zF → zB → zO) (rec41 : Int → Int → Int → Int → Int → Int → Int → zF → zB → zO) (K : zK) (l5 : Int) (l6 : Int) (l4 : Int) (l0 : Int) (l1 : Int) (l2 : Int) (l3 : Int) (F : zF) (B : zB) : zO := if r32 l3 then if r32 l5 then if r32 l6 then if r32 l2 then (if l6 = l2 then f_Layout_choose_95 rec12 rec41 K l5 l6 l4 l0 l1 l2 l3 l3 l5 1 F B else f_Layout_choose_95 rec12 rec41 K l5 l6 l4 l0 l1 l2 l3 l3 l5 0 F B) else none else none else none else none
set_option maxHeartbeats 4000000 in
set_option maxRecDepth 100000 in
theorem b_Layout_choose_79 {D : va_G} {ca : Nat → ClassId} {ad : Nat → Int → Nat → Nat} {L : List Nat} {aS vS : Nat → Nat} {A : Nat → Prop} {p : Program} {l : Launch} {e : Env} {s : State} {m : MethodId} {args : Array Value} {below : List Frame} {meth : Method} {c : Code} {K : zK} {r : Int} {F9 : zF} {B9 : zB} (X : zX D ca L aS vS A p s m args meth c prog_4_method_10_code 9 (Option.none : Option Jvm.ClassFile.FieldType) "StaveHouse$Layout") {rec12 : Int → Int → Int → Int → Int → zF → zB → zO} {rec41 : Int → Int → Int → Int → Int → Int → Int → zF → zB → zO} (hrec12 : ∀ {l4 : Int} {l0 : Int} {l1 : Int} {l2 : Int} {l3 : Int} {F : zF} {B : zB} {H : Heap} {locs : List Loc} {ls : Array Slot}, rec12 l4 l0 l1 l2 l3 F B = some (r, F9, B9) → zH D ca ad lnC K.2 L F B A H → va_S A s.heap H locs → lv_has ls 9 [(4, .int (iI l4)), (0, .ref (ad 2 l0 0)), (1, .ref (ad 6 l1 0)), (2, .int (iI l2)), (3, .int (iI l3))] → W p l e ({ frames := 2, cells := 0, slots := 0, locals := 36 } : Room) s m args below meth c H locs 0 0 (MQ below (Q_Layout_choose K D ca ad L r F9 B9 A) args s 0 0 A) (F0 m 12 ls [])) (hrec41 : ∀ {l6 : Int} {l5 : Int} {l4 : Int} {l0 : Int} {l1 : Int} {l2 : Int} {l3 : Int} {F : zF} {B : zB} {H : Heap} {locs : List Loc} {ls : Array Slot}, rec41 l6 l5 l4 l0 l1 l2 l3 F B = some (r, F9, B9) → zH D ca ad lnC K.2 L F B A H → va_S A s.heap H locs → lv_has ls 9 [(6, .int (iI l6)), (5, .int (iI l5)), (4, .int (iI l4)), (0, .ref (ad 2 l0 0)), (1, .ref (ad 6 l1 0)), (2, .int (iI l2)), (3, .int (iI l3))] → W p l e ({ frames := 2, cells := 0, slots := 0, locals := 36 } : Room) s m args below meth c H locs 0 0 (MQ below (Q_Layout_choose K D ca ad L r F9 B9 A) args s 0 0 A) (F0 m 41 ls [])) {l5 : Int} {l6 : Int} {l4 : Int} {l0 : Int} {l1 : Int} {l2 : Int} {l3 : Int} {F : zF} {B : zB} {H : Heap} {locs : List Loc} {ls : Array Slot} (hf : f_Layout_choose_79 rec12 rec41 K l5 l6 l4 l0 l1 l2 l3 F B = some (r, F9, B9)) (hZ : zH D ca ad lnC K.2 L F B A H) (hS : va_S A s.heap H locs) (hl : lv_has ls 9 [(5, .int (iI l5)), (6, .int (iI l6)), (4, .int (iI l4)), (0, .ref (ad 2 l0 0)), (1, .ref (ad 6 l1 0)), (2, .int (iI l2)), (3, .int (iI l3))]) : W p l e ({ frames := 2, cells := 0, slots := 0, locals := 36 } : Room) s m args below meth c H locs 0 0 (MQ below (Q_Layout_choose K D ca ad L r F9 B9 A) args s 0 0 A) (F0 m 79 ls []) := by
  obtain ⟨hx, hb, hr, hml, hown, hts, hlk, hK, hA, hL, hX⟩ := id X
  replace hf : (if r32 l3 then if r32 l5 then if r32 l6 then if r32 l2 then (if l6 = l2 then f_Layout_choose_95 rec12 rec41 K l5 l6 l4 l0 l1 l2 l3 l3 l5 1 F B else f_Layout_choose_95 rec12 rec41 K l5 l6 l4 l0 l1 l2 l3 l3 l5 0 F B) else none else none else none else none) = some (r, F9, B9) := hf
  refine lv_iload_n hx hb (D_29 W_prog_4_method_10_code_64 15 rfl rfl) rfl (lv_at hl 6 rfl) ?_
  obtain ⟨g20, hf⟩ := gif hf
  refine zi2l hx hb g20 (D_133 W_prog_4_method_10_code_64 16 rfl rfl) ?_
  refine lv_iload hx hb (D_21 W_prog_4_method_10_code_64 17 rfl rfl) (lv_at hl 0 rfl) ?_
  obtain ⟨g21, hf⟩ := gif hf
  refine zi2l hx hb g21 (D_133 W_prog_4_method_10_code_64 19 rfl rfl) ?_
  refine lv_iload hx hb (D_21 W_prog_4_method_10_code_64 20 rfl rfl) (lv_at hl 1 rfl) ?_
  refine lv_iload_n hx hb (D_28 W_prog_4_method_10_code_64 22 rfl rfl) rfl (lv_at hl 5 rfl) ?_
  obtain ⟨g22, hf⟩ := gif hf
  obtain ⟨g23, hf⟩ := gif hf
  refine zne (tgt := 94) hx hb g22 g23 (D_160 W_prog_4_method_10_code_64 23 rfl rfl rfl) (by decide) (fun h24 => ?_) (fun h24 => ?_)
  · replace hf := gneg hf h24
    refine lv_iconst (v := iI 0) hx hb (D_3 W_prog_4_method_10_code_64 30 rfl rfl) rfl ?_
    exact b_Layout_choose_95 X hrec12 hrec41 hf hZ hS (lv_sub hl [0, 1, 2, 3, 4, 5, 6] rfl)
  · replace hf := gpos hf h24
    refine lv_iconst (v := iI 1) hx hb (D_4 W_prog_4_method_10_code_64 26 rfl rfl) rfl ?_
    refine lv_goto (tgt := 95) hx hb (D_167 W_prog_4_method_10_code_64 27 rfl rfl rfl) (by decide) ?_
    exact b_Layout_choose_95 X hrec12 hrec41 hf hZ hS (lv_sub hl [0, 1, 2, 3, 4, 5, 6] rfl)

def f_Layout_choose_41 (rec12 : Int → Int → Int → Int → Int → zF → zB → zO) (K : zK) : Nat → Int → Int → Int → Int → Int → Int → Int → zF → zB → zO
  | 0, _, _, _, _, _, _, _, _, _ => none
  | n + 1, l6, l5, l4, l0, l1, l2, l3, F, B => if r32 l6 then if r32 l2 then (if l2 < l6 then f_Layout_choose_145 rec12 K l4 l0 l1 l2 l3 F B else if 0 ≤ l0 ∧ l0 < K.2 2 then if 0 ≤ (l6 - 1) ∧ (l6 - 1) < 100 then if r32 (l5 + (B 2 l0 6 (l6 - 1))) then if r32 l3 then (if (l5 + (B 2 l0 6 (l6 - 1))) ≤ l3 then f_Layout_choose_79 rec12 (f_Layout_choose_41 rec12 K n) K (l5 + (B 2 l0 6 (l6 - 1))) l6 l4 l0 l1 l2 l3 F B else if r32 (l4 + 1) then (if l6 ≤ (l4 + 1) then f_Layout_choose_79 rec12 (f_Layout_choose_41 rec12 K n) K (l5 + (B 2 l0 6 (l6 - 1))) l6 l4 l0 l1 l2 l3 F B else f_Layout_choose_145 rec12 K l4 l0 l1 l2 l3 F B) else none) else none else none else none else none) else none else none
set_option maxHeartbeats 4000000 in
set_option maxRecDepth 100000 in
theorem b_Layout_choose_41 {D : va_G} {ca : Nat → ClassId} {ad : Nat → Int → Nat → Nat} {L : List Nat} {aS vS : Nat → Nat} {A : Nat → Prop} {p : Program} {l : Launch} {e : Env} {s : State} {m : MethodId} {args : Array Value} {below : List Frame} {meth : Method} {c : Code} {K : zK} {r : Int} {F9 : zF} {B9 : zB} (X : zX D ca L aS vS A p s m args meth c prog_4_method_10_code 9 (Option.none : Option Jvm.ClassFile.FieldType) "StaveHouse$Layout") {rec12 : Int → Int → Int → Int → Int → zF → zB → zO} (hrec12 : ∀ {l4 : Int} {l0 : Int} {l1 : Int} {l2 : Int} {l3 : Int} {F : zF} {B : zB} {H : Heap} {locs : List Loc} {ls : Array Slot}, rec12 l4 l0 l1 l2 l3 F B = some (r, F9, B9) → zH D ca ad lnC K.2 L F B A H → va_S A s.heap H locs → lv_has ls 9 [(4, .int (iI l4)), (0, .ref (ad 2 l0 0)), (1, .ref (ad 6 l1 0)), (2, .int (iI l2)), (3, .int (iI l3))] → W p l e ({ frames := 2, cells := 0, slots := 0, locals := 36 } : Room) s m args below meth c H locs 0 0 (MQ below (Q_Layout_choose K D ca ad L r F9 B9 A) args s 0 0 A) (F0 m 12 ls [])) : ∀ {n : Nat} {l6 : Int} {l5 : Int} {l4 : Int} {l0 : Int} {l1 : Int} {l2 : Int} {l3 : Int} {F : zF} {B : zB} {H : Heap} {locs : List Loc} {ls : Array Slot}, f_Layout_choose_41 rec12 K n l6 l5 l4 l0 l1 l2 l3 F B = some (r, F9, B9) → zH D ca ad lnC K.2 L F B A H → va_S A s.heap H locs → lv_has ls 9 [(6, .int (iI l6)), (5, .int (iI l5)), (4, .int (iI l4)), (0, .ref (ad 2 l0 0)), (1, .ref (ad 6 l1 0)), (2, .int (iI l2)), (3, .int (iI l3))] → W p l e ({ frames := 2, cells := 0, slots := 0, locals := 36 } : Room) s m args below meth c H locs 0 0 (MQ below (Q_Layout_choose K D ca ad L r F9 B9 A) args s 0 0 A) (F0 m 41 ls []) := by
  obtain ⟨hx, hb, hr, hml, hown, hts, hlk, hK, hA, hL, hX⟩ := id X
  intro n
  induction n with
  | zero =>
    intros
    rename_i hf _ _ _
    cases hf
  | succ n ih =>
    intro l6 l5 l4 l0 l1 l2 l3 F B H locs ls hf hZ hS hl
    replace hf : (if r32 l6 then if r32 l2 then (if l2 < l6 then f_Layout_choose_145 rec12 K l4 l0 l1 l2 l3 F B else if 0 ≤ l0 ∧ l0 < K.2 2 then if 0 ≤ (l6 - 1) ∧ (l6 - 1) < 100 then if r32 (l5 + (B 2 l0 6 (l6 - 1))) then if r32 l3 then (if (l5 + (B 2 l0 6 (l6 - 1))) ≤ l3 then f_Layout_choose_79 rec12 (f_Layout_choose_41 rec12 K n) K (l5 + (B 2 l0 6 (l6 - 1))) l6 l4 l0 l1 l2 l3 F B else if r32 (l4 + 1) then (if l6 ≤ (l4 + 1) then f_Layout_choose_79 rec12 (f_Layout_choose_41 rec12 K n) K (l5 + (B 2 l0 6 (l6 - 1))) l6 l4 l0 l1 l2 l3 F B else f_Layout_choose_145 rec12 K l4 l0 l1 l2 l3 F B) else none) else none else none else none else none) else none else none) = some (r, F9, B9) := hf
    refine lv_iload hx hb (D_21 W_prog_4_method_10_code_32 9 rfl rfl) (lv_at hl 0 rfl) ?_
    refine lv_iload_n hx hb (D_28 W_prog_4_method_10_code_32 11 rfl rfl) rfl (lv_at hl 5 rfl) ?_
    obtain ⟨g10, hf⟩ := gif hf
    obtain ⟨g11, hf⟩ := gif hf
    refine zgt (tgt := 145) hx hb g10 g11 (D_163 W_prog_4_method_10_code_32 12 rfl rfl rfl) (by decide) (fun h12 => ?_) (fun h12 => ?_)
    · replace hf := gpos hf h12
      exact b_Layout_choose_145 X hrec12 hf hZ hS (lv_sub hl [2, 3, 4, 5, 6] rfl)
    · replace hf := gneg hf h12
      refine lv_iload hx hb (D_21 W_prog_4_method_10_code_32 15 rfl rfl) (lv_at hl 1 rfl) ?_
      refine lv_aload_n hx hb (D_42 W_prog_4_method_10_code_32 17 rfl rfl) rfl (lv_at hl 3 rfl) ?_
      obtain ⟨g13, hf⟩ := gif hf
      refine zget (ci := 2) (C := RX2) (T := TX2) (v := .ref (ad 2 l0 (6 + 1))) (k := 6) hx hb hts inW_2 hown hK hZ g13.1 g13.2 rfl (by decide) k_6_223 rfl (D_180 W_prog_4_method_10_code_32 18 rfl rfl rfl) ?_
      refine lv_iload hx hb (D_21 W_prog_4_method_10_code_32 21 rfl rfl) (lv_at hl 0 rfl) ?_
      refine lv_iconst (v := iI 1) hx hb (D_4 W_prog_4_method_10_code_32 23 rfl rfl) rfl ?_
      refine zsub hx hb (D_100 W_prog_4_method_10_code_32 24 rfl rfl) ?_
      obtain ⟨g14, hf⟩ := gif hf
      refine zald (ci := 2) (k := 6) hx hb hK rfl hZ g13.1 g13.2 rfl (Nat.le_of_ble_eq_true rfl) g14.1 g14.2 (D_46 W_prog_4_method_10_code_32 25 rfl rfl) ?_
      refine zadd hx hb (D_96 W_prog_4_method_10_code_32 26 rfl rfl) ?_
      refine lv_istore (lv' := [(5, .int (iI (l5 + (B 2 l0 6 (l6 - 1))))), (6, .int (iI l6)), (4, .int (iI l4)), (0, .ref (ad 2 l0 0)), (1, .ref (ad 6 l1 0)), (2, .int (iI l2)), (3, .int (iI l3))]) hx hb (D_54 W_prog_4_method_10_code_32 27 rfl rfl) hl (by decide) rfl (fun ls hl => ?_)
      refine lv_iload hx hb (D_21 W_prog_4_method_10_code_32 29 rfl rfl) (lv_at hl 0 rfl) ?_
      refine lv_iload_n hx hb (D_29 W_prog_4_method_10_code_32 31 rfl rfl) rfl (lv_at hl 6 rfl) ?_
      obtain ⟨g15, hf⟩ := gif hf
      obtain ⟨g16, hf⟩ := gif hf
      refine zle (tgt := 79) hx hb g15 g16 (D_164 W_prog_4_method_10_code_64 0 rfl rfl rfl) (by decide) (fun h17 => ?_) (fun h17 => ?_)
      · replace hf := gpos hf h17
        exact b_Layout_choose_79 X hrec12 ih hf hZ hS (lv_sub hl [0, 1, 2, 3, 4, 5, 6] rfl)
      · replace hf := gneg hf h17
        refine lv_iload hx hb (D_21 W_prog_4_method_10_code_64 3 rfl rfl) (lv_at hl 1 rfl) ?_
        refine lv_iload hx hb (D_21 W_prog_4_method_10_code_64 5 rfl rfl) (lv_at hl 2 rfl) ?_
        refine lv_iconst (v := iI 1) hx hb (D_4 W_prog_4_method_10_code_64 7 rfl rfl) rfl ?_
        refine zadd hx hb (D_96 W_prog_4_method_10_code_64 8 rfl rfl) ?_
        obtain ⟨g18, hf⟩ := gif hf
        refine zle (tgt := 79) hx hb g10 g18 (D_164 W_prog_4_method_10_code_64 9 rfl rfl rfl) (by decide) (fun h19 => ?_) (fun h19 => ?_)
        · replace hf := gpos hf h19
          exact b_Layout_choose_79 X hrec12 ih hf hZ hS (lv_sub hl [0, 1, 2, 3, 4, 5, 6] rfl)
        · replace hf := gneg hf h19
          refine lv_goto (tgt := 145) hx hb (D_167 W_prog_4_method_10_code_64 12 rfl rfl rfl) (by decide) ?_
          exact b_Layout_choose_145 X hrec12 hf hZ hS (lv_sub hl [2, 3, 4, 5, 6] rfl)

def f_Layout_choose_12 (K : zK) : Nat → Int → Int → Int → Int → Int → zF → zB → zO
  | 0, _, _, _, _, _, _, _ => none
  | n + 1, l4, l0, l1, l2, l3, F, B => if r32 l4 then (if l4 < 0 then some (0, F, B) else zbind (f_Layout_lead K l1 l4 F B) (fun r6 F6 B6 => if 0 ≤ l0 ∧ l0 < K.2 2 then if 0 ≤ l4 ∧ l4 < 101 then f_Layout_choose_41 (f_Layout_choose_12 K n) K K.1 (l4 + 1) r6 l4 l0 l1 l2 l3 F6 (zup4 B6 2 l0 10 l4 1152921504606846976) else none else none)) else none
set_option maxHeartbeats 4000000 in
set_option maxRecDepth 100000 in
theorem b_Layout_choose_12 {D : va_G} {ca : Nat → ClassId} {ad : Nat → Int → Nat → Nat} {L : List Nat} {aS vS : Nat → Nat} {A : Nat → Prop} {p : Program} {l : Launch} {e : Env} {s : State} {m : MethodId} {args : Array Value} {below : List Frame} {meth : Method} {c : Code} {K : zK} {r : Int} {F9 : zF} {B9 : zB} (X : zX D ca L aS vS A p s m args meth c prog_4_method_10_code 9 (Option.none : Option Jvm.ClassFile.FieldType) "StaveHouse$Layout") : ∀ {n : Nat} {l4 : Int} {l0 : Int} {l1 : Int} {l2 : Int} {l3 : Int} {F : zF} {B : zB} {H : Heap} {locs : List Loc} {ls : Array Slot}, f_Layout_choose_12 K n l4 l0 l1 l2 l3 F B = some (r, F9, B9) → zH D ca ad lnC K.2 L F B A H → va_S A s.heap H locs → lv_has ls 9 [(4, .int (iI l4)), (0, .ref (ad 2 l0 0)), (1, .ref (ad 6 l1 0)), (2, .int (iI l2)), (3, .int (iI l3))] → W p l e ({ frames := 2, cells := 0, slots := 0, locals := 36 } : Room) s m args below meth c H locs 0 0 (MQ below (Q_Layout_choose K D ca ad L r F9 B9 A) args s 0 0 A) (F0 m 12 ls []) := by
  obtain ⟨hx, hb, hr, hml, hown, hts, hlk, hK, hA, hL, hX⟩ := id X
  intro n
  induction n with
  | zero =>
    intros
    rename_i hf _ _ _
    cases hf
  | succ n ih =>
    intro l4 l0 l1 l2 l3 F B H locs ls hf hZ hS hl
    replace hf : (if r32 l4 then (if l4 < 0 then some (0, F, B) else zbind (f_Layout_lead K l1 l4 F B) (fun r6 F6 B6 => if 0 ≤ l0 ∧ l0 < K.2 2 then if 0 ≤ l4 ∧ l4 < 101 then f_Layout_choose_41 (f_Layout_choose_12 K n) K K.1 (l4 + 1) r6 l4 l0 l1 l2 l3 F6 (zup4 B6 2 l0 10 l4 1152921504606846976) else none else none)) else none) = some (r, F9, B9) := hf
    refine lv_iload hx hb (D_21 W_prog_4_method_10_code_0 12 rfl rfl) (lv_at hl 0 rfl) ?_
    obtain ⟨g4, hf⟩ := gif hf
    refine z0lt (tgt := 151) hx hb g4 (D_155 W_prog_4_method_10_code_0 14 rfl rfl rfl) (by decide) (fun h5 => ?_) (fun h5 => ?_)
    · replace hf := gpos hf h5
      cases hf
      exact W.vret hx hb hr (fun t ht hW => ⟨⟨(), rfl, trivial, by rw [ht]; exact hZ, va_K.moved hW.alike hK⟩, hS.F ht⟩) hS.2.2 (D_177 W_prog_4_method_10_code_128 23 rfl rfl) hlk
    · replace hf := gneg hf h5
      refine lv_aload_n hx hb (D_43 W_prog_4_method_10_code_0 17 rfl rfl) rfl (lv_at hl 2 rfl) ?_
      refine lv_iload hx hb (D_21 W_prog_4_method_10_code_0 18 rfl rfl) (lv_at hl 0 rfl) ?_
      obtain ⟨r6, F6, B6, hc6, hf⟩ := gbind hf
      refine va_calli (va_runS (As := [.ref (ad 6 l1 0), .int (iI l4)]) (rest := []) ⟨hx, hb, hml, hown, hts⟩ (c_Layout_lead (l := l) hc6) (va_cwS 2 hts (gdS k_7_50 k_7_51 k_1_21 k_7_52) rfl rfl rfl (by decide +kernel) ⟨Nat.le_of_ble_eq_true rfl, Nat.le_of_ble_eq_true rfl⟩) (zPS X hZ hS [.ref (ad 6 l1 0), .int (iI l4)]) rfl rfl hl.1 rfl (lv_room (Nat.le_of_ble_eq_true rfl)) (D_184 W_prog_4_method_10_code_0 20 rfl rfl rfl) ⟨Nat.le_of_ble_eq_true rfl, Nat.le_of_ble_eq_true rfl⟩) hS (fun q _ h => zAin X hS q h) (zAin X hS) (fun p6 u6 t6 H6 locs6 ht6 hv6 hw6 hB6 hz6 hk6 hS6 => ?_)
      have hZ6 := zBack X ht6 hB6
      subst hw6
      refine lv_istore (lv' := [(5, .int (iI r6)), (4, .int (iI l4)), (0, .ref (ad 2 l0 0)), (1, .ref (ad 6 l1 0)), (2, .int (iI l2)), (3, .int (iI l3))]) hx hb (D_54 W_prog_4_method_10_code_0 23 rfl rfl) hl (by decide) rfl (fun ls hl => ?_)
      refine lv_aload_n hx hb (D_42 W_prog_4_method_10_code_0 25 rfl rfl) rfl (lv_at hl 2 rfl) ?_
      obtain ⟨g7, hf⟩ := gif hf
      refine zget (ci := 2) (C := RX2) (T := TX2) (v := .ref (ad 2 l0 (10 + 1))) (k := 10) hx hb hts inW_2 hown hK hZ6 g7.1 g7.2 rfl (by decide) k_6_227 rfl (D_180 W_prog_4_method_10_code_0 26 rfl rfl rfl) ?_
      refine lv_iload hx hb (D_21 W_prog_4_method_10_code_0 29 rfl rfl) (lv_at hl 1 rfl) ?_
      refine lv_ldc2 hx hb hown (hts _ k_7_54) (D_20 W_prog_4_method_10_code_0 31 rfl rfl rfl) ?_
      refine W.eq (g2 := F0 m 34 ls [.long (lI 1152921504606846976), .int (iI l4), .ref (ad 2 l0 (10 + 1))]) rfl ?_
      obtain ⟨g8, hf⟩ := gif hf
      refine zlast (ci := 2) (k := 10) hx hb hK rfl hZ6 hS6 g7.1 g7.2 rfl (Nat.le_of_ble_eq_true rfl) g8.1 g8.2 (D_80 W_prog_4_method_10_code_32 2 rfl rfl) (fun H9 locs9 hZ9 hS9 => ?_)
      refine lv_iload hx hb (D_21 W_prog_4_method_10_code_32 3 rfl rfl) (lv_at hl 1 rfl) ?_
      refine lv_iconst (v := iI 1) hx hb (D_4 W_prog_4_method_10_code_32 5 rfl rfl) rfl ?_
      refine zadd hx hb (D_96 W_prog_4_method_10_code_32 6 rfl rfl) ?_
      refine lv_istore (lv' := [(6, .int (iI (l4 + 1))), (5, .int (iI r6)), (4, .int (iI l4)), (0, .ref (ad 2 l0 0)), (1, .ref (ad 6 l1 0)), (2, .int (iI l2)), (3, .int (iI l3))]) hx hb (D_54 W_prog_4_method_10_code_32 7 rfl rfl) hl (by decide) rfl (fun ls hl => ?_)
      exact b_Layout_choose_41 X ih hf hZ9 hS9 (lv_sub hl [0, 1, 2, 3, 4, 5, 6] rfl)

def f_Layout_choose (K : zK) (l0 : Int) (l1 : Int) (l2 : Int) (l3 : Int) (F : zF) (B : zB) : zO := if 0 ≤ l0 ∧ l0 < K.2 2 then if 0 ≤ l2 ∧ l2 < 101 then f_Layout_choose_12 K K.1 (l2 - 1) l0 l1 l2 l3 F (zup4 B 2 l0 10 l2 0) else none else none
set_option maxHeartbeats 4000000 in
set_option maxRecDepth 100000 in
theorem c_Layout_choose {l : Launch} {D : va_G} {ca : Nat → ClassId} {ad : Nat → Int → Nat → Nat} {L : List Nat} {aS vS : Nat → Nat} {sz : Nat} {K : zK}  {l0 : Int} {l1 : Int} {l2 : Int} {l3 : Int} {F F9 : zF} {B B9 : zB} {r : Int} (hf : f_Layout_choose K l0 l1 l2 l3 F B = some (r, F9, B9)) : Met l ({ cls := "StaveHouse$Layout", name := "choose", desc := "(LStaveHouse$Piece;II)V" } : Jvm.MethodName) (Cond.code ({ cls := "StaveHouse$Layout", name := "choose", desc := "(LStaveHouse$Piece;II)V" } : Jvm.MethodName) prog_4_method_10_code 9 (Option.none : Option Jvm.ClassFile.FieldType) :: wAll) ({ frames := 2, cells := 0, slots := 0, locals := 36 } : Room) (va_Pc [.ref (ad 2 l0 0), .ref (ad 6 l1 0), .int (iI l2), .int (iI l3)] (zPre D ca ad lnC K.2 L aS vS F B sz)) (Q_Layout_choose K D ca ad L r F9 B9 (zA L sz)) 0 0 (zA L sz) := by
  refine zMet (Qc := Q_Layout_choose K D ca ad L r F9 B9) (lv := [(0, .ref (ad 2 l0 0)), (1, .ref (ad 6 l1 0)), (2, .int (iI l2)), (3, .int (iI l3))]) (by decide) (Nat.le_of_ble_eq_true rfl) rfl (fun A p e s m below meth c ls X hZ hS hl => ?_)
  obtain ⟨hx, hb, hr, hml, hown, hts, hlk, hK, hA, hL, hX⟩ := id X
  replace hf : (if 0 ≤ l0 ∧ l0 < K.2 2 then if 0 ≤ l2 ∧ l2 < 101 then f_Layout_choose_12 K K.1 (l2 - 1) l0 l1 l2 l3 F (zup4 B 2 l0 10 l2 0) else none else none) = some (r, F9, B9) := hf
  refine lv_aload_n hx hb (D_42 W_prog_4_method_10_code_0 0 rfl rfl) rfl (lv_at hl 0 rfl) ?_
  obtain ⟨g1, hf⟩ := gif hf
  refine zget (ci := 2) (C := RX2) (T := TX2) (v := .ref (ad 2 l0 (10 + 1))) (k := 10) hx hb hts inW_2 hown hK hZ g1.1 g1.2 rfl (by decide) k_6_227 rfl (D_180 W_prog_4_method_10_code_0 1 rfl rfl rfl) ?_
  refine lv_iload_n hx hb (D_28 W_prog_4_method_10_code_0 4 rfl rfl) rfl (lv_at hl 2 rfl) ?_
  refine lv_lconst (v := lI 0) hx hb (D_9 W_prog_4_method_10_code_0 5 rfl rfl) (by decide) ?_
  obtain ⟨g2, hf⟩ := gif hf
  refine zlast (ci := 2) (k := 10) hx hb hK rfl hZ hS g1.1 g1.2 rfl (Nat.le_of_ble_eq_true rfl) g2.1 g2.2 (D_80 W_prog_4_method_10_code_0 6 rfl rfl) (fun H3 locs3 hZ3 hS3 => ?_)
  refine lv_iload_n hx hb (D_28 W_prog_4_method_10_code_0 7 rfl rfl) rfl (lv_at hl 2 rfl) ?_
  refine lv_iconst (v := iI 1) hx hb (D_4 W_prog_4_method_10_code_0 8 rfl rfl) rfl ?_
  refine zsub hx hb (D_100 W_prog_4_method_10_code_0 9 rfl rfl) ?_
  refine lv_istore (lv' := [(4, .int (iI (l2 - 1))), (0, .ref (ad 2 l0 0)), (1, .ref (ad 6 l1 0)), (2, .int (iI l2)), (3, .int (iI l3))]) hx hb (D_54 W_prog_4_method_10_code_0 10 rfl rfl) hl (by decide) rfl (fun ls hl => ?_)
  exact b_Layout_choose_12 X hf hZ3 hS3 (lv_sub hl [0, 1, 2, 3, 4] rfl)

abbrev Q_S_line (K : zK) (D : va_G) (ca : Nat → ClassId) (ad : Nat → Int → Nat → Nat) (L : List Nat) (r : Int) (F : zF) (B : zB) (A : Nat → Prop) : Array Value → State → Outcome → State → Prop := va_Ql (S := Unit) (fun p _ => p = lI r) (fun _ => zPo D ca ad lnC K.2 L F B A) A
def f_S_line_20 (K : zK)  (F : zF) (B : zB) : zO := some ((-1), F, B)
set_option maxHeartbeats 4000000 in
set_option maxRecDepth 100000 in
theorem b_S_line_20 {D : va_G} {ca : Nat → ClassId} {ad : Nat → Int → Nat → Nat} {L : List Nat} {aS vS : Nat → Nat} {A : Nat → Prop} {p : Program} {l : Launch} {e : Env} {s : State} {m : MethodId} {args : Array Value} {below : List Frame} {meth : Method} {c : Code} {K : zK} {r : Int} {F9 : zF} {B9 : zB} (X : zX D ca L aS vS A p s m args meth c prog_1_method_17_code 5 (Option.some Jvm.ClassFile.FieldType.long) "StaveHouse")  {F : zF} {B : zB} {H : Heap} {locs : List Loc} {ls : Array Slot} (hf : f_S_line_20 K  F B = some (r, F9, B9)) (hZ : zH D ca ad lnC K.2 L F B A H) (hS : va_S A s.heap H locs) (hl : lv_has ls 5 []) : W p l e ({ frames := 1, cells := 0, slots := 0, locals := 22 } : Room) s m args below meth c H locs 0 0 (MQ below (Q_S_line K D ca ad L r F9 B9 A) args s 0 0 A) (F0 m 20 ls []) := by
  obtain ⟨hx, hb, hr, hml, hown, hts, hlk, hK, hA, hL, hX⟩ := id X
  replace hf : (some ((-1), F, B)) = some (r, F9, B9) := hf
  refine lv_ldc2 hx hb hown (hts _ k_6_184) (D_20 W_prog_1_method_17_code_0 20 rfl rfl rfl) ?_
  refine W.eq (g2 := F0 m 23 ls [.long (lI (-1))]) rfl ?_
  cases hf
  exact W.lret hx hb hr (fun t ht hW => ⟨⟨_, (), rfl, rfl, by rw [ht]; exact hZ, va_K.moved hW.alike hK⟩, hS.F ht⟩) hS.2.2 (D_173 W_prog_1_method_17_code_0 23 rfl rfl) hlk

def f_S_line (K : zK) (l0 : Int) (l1 : Int) (l2 : Int) (l3 : Int) (F : zF) (B : zB) : zO := if 0 ≤ l0 ∧ l0 < K.2 12 then zbind (f_S_pieceAt K l0 l1 F B) (fun r2 F2 B2 => (if r2 < 0 then f_S_line_20 K F2 B2 else if 0 ≤ r2 ∧ r2 < K.2 6 then (if (F2 6 r2 8) < 0 then f_S_line_20 K F2 B2 else if 0 ≤ (F2 6 r2 8) ∧ (F2 6 r2 8) < K.2 2 then zbind (f_Layout_tell K (F2 6 r2 8) l2 l3 F2 B2) (fun r7 F7 B7 => some (r7, F7, B7)) else none) else none)) else none
set_option maxHeartbeats 4000000 in
set_option maxRecDepth 100000 in
theorem c_S_line {l : Launch} {D : va_G} {ca : Nat → ClassId} {ad : Nat → Int → Nat → Nat} {L : List Nat} {aS vS : Nat → Nat} {sz : Nat} {K : zK}  {l0 : Int} {l1 : Int} {l2 : Int} {l3 : Int} {F F9 : zF} {B B9 : zB} {r : Int} (hf : f_S_line K l0 l1 l2 l3 F B = some (r, F9, B9)) : Met l ({ cls := "StaveHouse", name := "line", desc := "(III)J" } : Jvm.MethodName) (Cond.code ({ cls := "StaveHouse", name := "line", desc := "(III)J" } : Jvm.MethodName) prog_1_method_17_code 5 (Option.some Jvm.ClassFile.FieldType.long) :: wAll) ({ frames := 1, cells := 0, slots := 0, locals := 22 } : Room) (va_Pc [.ref (ad 12 l0 0), .int (iI l1), .int (iI l2), .int (iI l3)] (zPre D ca ad lnC K.2 L aS vS F B sz)) (Q_S_line K D ca ad L r F9 B9 (zA L sz)) 0 0 (zA L sz) := by
  refine zMet (Qc := Q_S_line K D ca ad L r F9 B9) (lv := [(0, .ref (ad 12 l0 0)), (1, .int (iI l1)), (2, .int (iI l2)), (3, .int (iI l3))]) (by decide) (Nat.le_of_ble_eq_true rfl) rfl (fun A p e s m below meth c ls X hZ hS hl => ?_)
  obtain ⟨hx, hb, hr, hml, hown, hts, hlk, hK, hA, hL, hX⟩ := id X
  replace hf : (if 0 ≤ l0 ∧ l0 < K.2 12 then zbind (f_S_pieceAt K l0 l1 F B) (fun r2 F2 B2 => (if r2 < 0 then f_S_line_20 K F2 B2 else if 0 ≤ r2 ∧ r2 < K.2 6 then (if (F2 6 r2 8) < 0 then f_S_line_20 K F2 B2 else if 0 ≤ (F2 6 r2 8) ∧ (F2 6 r2 8) < K.2 2 then zbind (f_Layout_tell K (F2 6 r2 8) l2 l3 F2 B2) (fun r7 F7 B7 => some (r7, F7, B7)) else none) else none)) else none) = some (r, F9, B9) := hf
  refine lv_aload_n hx hb (D_42 W_prog_1_method_17_code_0 0 rfl rfl) rfl (lv_at hl 0 rfl) ?_
  refine lv_iload_n hx hb (D_27 W_prog_1_method_17_code_0 1 rfl rfl) rfl (lv_at hl 1 rfl) ?_
  obtain ⟨g1, hf⟩ := gif hf
  obtain ⟨r2, F2, B2, hc2, hf⟩ := gbind hf
  refine va_callq (va_runV (As := [.int (iI l1)]) (rest := []) ⟨hx, hb, hml, hown, hts⟩ (c_S_pieceAt (l := l) hc2) (cwV 1 hts (gdV k_5_182 k_5_184 ks_65 k_1_1 k_5_185) rfl rfl rfl (by decide +kernel) ⟨Nat.le_of_ble_eq_true rfl, Nat.le_of_ble_eq_true rfl⟩) (zPV X hZ hS (ci := 12) g1.1 g1.2 (r := (RX12, TX12, 10)) rfl [.int (iI l1)]) rfl rfl hl.1 rfl (lv_room (Nat.le_of_ble_eq_true rfl)) (D_182 W_prog_1_method_17_code_0 2 rfl rfl rfl) ⟨Nat.le_of_ble_eq_true rfl, Nat.le_of_ble_eq_true rfl⟩) hS (fun q _ h => zAin X hS q h) (zAin X hS) (fun p2 u2 t2 H2 locs2 ht2 hv2 hw2 hB2 hz2 hk2 hS2 => ?_)
  have hZ2 := zBack X ht2 hB2
  subst hw2
  refine zastore (lv' := [(0, .ref (ad 12 l0 0)), (1, .int (iI l1)), (2, .int (iI l2)), (3, .int (iI l3))]) hx hb (D_58 W_prog_1_method_17_code_0 5 rfl rfl) hl (by decide) (fun _ _ => rfl) (fun ls hl => ?_)
  refine zaload hx hb (D_25 W_prog_1_method_17_code_0 7 rfl rfl) (lv_at hl 0 rfl) ?_
  refine zifnull (tgt := 20) hx hb (D_198 W_prog_1_method_17_code_0 9 rfl rfl rfl) (by decide) (fun h3 => ?_) (fun h3 => ?_)
  · replace hf := gpos hf h3
    exact b_S_line_20 X hf hZ2 hS2 (lv_sub hl [] rfl)
  · replace hf := gneg hf h3
    refine zaload hx hb (D_25 W_prog_1_method_17_code_0 12 rfl rfl) (lv_at hl 0 rfl) ?_
    obtain ⟨g4, hf⟩ := gif hf
    refine zunrf g4.1 ?_
    refine zget (ci := 6) (C := RX6) (T := TX6) (v := va_rf (zrf ad 2 (F2 6 r2 8))) (k := 8) hx hb hts inW_6 hown hK hZ2 g4.1 g4.2 rfl (by decide) k_2_225 rfl (D_180 W_prog_1_method_17_code_0 14 rfl rfl rfl) ?_
    refine zifnonnull (tgt := 24) hx hb (D_199 W_prog_1_method_17_code_0 17 rfl rfl rfl) (by decide) (fun h5 => ?_) (fun h5 => ?_)
    · replace hf := gneg hf h5
      refine zaload hx hb (D_25 W_prog_1_method_17_code_0 24 rfl rfl) (lv_at hl 0 rfl) ?_
      refine zunrf g4.1 ?_
      refine zget (ci := 6) (C := RX6) (T := TX6) (v := va_rf (zrf ad 2 (F2 6 r2 8))) (k := 8) hx hb hts inW_6 hown hK hZ2 g4.1 g4.2 rfl (by decide) k_2_225 rfl (D_180 W_prog_1_method_17_code_0 26 rfl rfl rfl) ?_
      refine lv_iload_n hx hb (D_28 W_prog_1_method_17_code_0 29 rfl rfl) rfl (lv_at hl 3 rfl) ?_
      refine lv_iload_n hx hb (D_29 W_prog_1_method_17_code_0 30 rfl rfl) rfl (lv_at hl 4 rfl) ?_
      obtain ⟨g6, hf⟩ := gif hf
      refine W.eq (g2 := F0 m 31 ls [.int (iI l3), .int (iI l2), .ref (ad 2 (F2 6 r2 8) 0)]) (by rw [zrf_pos (ad := ad) (t := 2) g6.1]; try rfl) ?_
      obtain ⟨r7, F7, B7, hc7, hf⟩ := gbind hf
      refine va_calll (va_runV (As := [.int (iI l2), .int (iI l3)]) (rest := []) ⟨hx, hb, hml, hown, hts⟩ (c_Layout_tell (l := l) hc7) (cwV 2 hts (gdV k_7_71 k_7_72 k_7_73 k_1_21 k_7_74) rfl rfl rfl (by decide +kernel) ⟨Nat.le_of_ble_eq_true rfl, Nat.le_of_ble_eq_true rfl⟩) (zPV X hZ2 hS2 (ci := 2) g6.1 g6.2 (r := (RX2, TX2, 13)) rfl [.int (iI l2), .int (iI l3)]) rfl rfl hl.1 rfl (lv_room (Nat.le_of_ble_eq_true rfl)) (D_182 W_prog_1_method_17_code_0 31 rfl rfl rfl) ⟨Nat.le_of_ble_eq_true rfl, Nat.le_of_ble_eq_true rfl⟩) hS2 (fun q _ h => zAin X hS2 q h) (zAin X hS2) (fun p7 u7 t7 H7 locs7 ht7 hv7 hw7 hB7 hz7 hk7 hS7 => ?_)
      have hZ7 := zBack X ht7 hB7
      subst hw7
      cases hf
      exact W.lret hx hb hr (fun t ht hW => ⟨⟨_, (), rfl, rfl, by rw [ht]; exact hZ7, va_K.moved hW.alike hK⟩, hS7.F ht⟩) hS7.2.2 (D_173 W_prog_1_method_17_code_32 2 rfl rfl) hlk
    · replace hf := gpos hf h5
      exact b_S_line_20 X hf hZ2 hS2 (lv_sub hl [] rfl)

abbrev Q_S_x (K : zK) (D : va_G) (ca : Nat → ClassId) (ad : Nat → Int → Nat → Nat) (L : List Nat) (r : Int) (F : zF) (B : zB) (A : Nat → Prop) : Array Value → State → Outcome → State → Prop := va_Qi (S := Unit) (fun p _ => p = iI r) (fun _ => zPo D ca ad lnC K.2 L F B A) A
def f_S_x_46 (K : zK)  (F : zF) (B : zB) : zO := some ((-1), F, B)
set_option maxHeartbeats 4000000 in
set_option maxRecDepth 100000 in
theorem b_S_x_46 {D : va_G} {ca : Nat → ClassId} {ad : Nat → Int → Nat → Nat} {L : List Nat} {aS vS : Nat → Nat} {A : Nat → Prop} {p : Program} {l : Launch} {e : Env} {s : State} {m : MethodId} {args : Array Value} {below : List Frame} {meth : Method} {c : Code} {K : zK} {r : Int} {F9 : zF} {B9 : zB} (X : zX D ca L aS vS A p s m args meth c prog_1_method_18_code 6 (Option.some Jvm.ClassFile.FieldType.int) "StaveHouse")  {F : zF} {B : zB} {H : Heap} {locs : List Loc} {ls : Array Slot} (hf : f_S_x_46 K  F B = some (r, F9, B9)) (hZ : zH D ca ad lnC K.2 L F B A H) (hS : va_S A s.heap H locs) (hl : lv_has ls 6 []) : W p l e ({ frames := 2, cells := 0, slots := 0, locals := 44 } : Room) s m args below meth c H locs 0 0 (MQ below (Q_S_x K D ca ad L r F9 B9 A) args s 0 0 A) (F0 m 46 ls []) := by
  obtain ⟨hx, hb, hr, hml, hown, hts, hlk, hK, hA, hL, hX⟩ := id X
  replace hf : (some ((-1), F, B)) = some (r, F9, B9) := hf
  refine lv_iconst (v := iI (-1)) hx hb (D_2 W_prog_1_method_18_code_32 14 rfl rfl) rfl ?_
  cases hf
  exact W.iret hx hb hr (fun t ht hW => ⟨⟨_, (), rfl, rfl, by rw [ht]; exact hZ, va_K.moved hW.alike hK⟩, hS.F ht⟩) hS.2.2 (D_172 W_prog_1_method_18_code_32 15 rfl rfl) hlk

def f_S_x (K : zK) (l0 : Int) (l1 : Int) (l2 : Int) (l3 : Int) (F : zF) (B : zB) : zO := if 0 ≤ l0 ∧ l0 < K.2 12 then zbind (f_S_partAt K l0 l1 l2 F B) (fun r2 F2 B2 => zbind (f_S_pieceAt K l0 l1 F2 B2) (fun r3 F3 B3 => (if r2 < 0 then f_S_x_46 K F3 B3 else (if r3 < 0 then f_S_x_46 K F3 B3 else if 0 ≤ r3 ∧ r3 < K.2 6 then (if (F3 6 r3 8) < 0 then f_S_x_46 K F3 B3 else if r32 l3 then (if l3 < 0 then f_S_x_46 K F3 B3 else if 0 ≤ r2 ∧ r2 < K.2 4 then if r32 (F3 4 r2 10) then (if l3 < (F3 4 r2 10) then if 0 ≤ l3 ∧ l3 < 800 then if 0 ≤ (F3 6 r3 8) ∧ (F3 6 r3 8) < K.2 2 then zbind (f_Layout_columnX K (F3 6 r3 8) (B3 4 r2 361 l3) (B3 4 r2 9 l3) F3 B3) (fun r15 F15 B15 => some (r15, F15, B15)) else none else none else f_S_x_46 K F3 B3) else none else none) else none) else none)))) else none
set_option maxHeartbeats 4000000 in
set_option maxRecDepth 100000 in
theorem c_S_x {l : Launch} {D : va_G} {ca : Nat → ClassId} {ad : Nat → Int → Nat → Nat} {L : List Nat} {aS vS : Nat → Nat} {sz : Nat} {K : zK}  {l0 : Int} {l1 : Int} {l2 : Int} {l3 : Int} {F F9 : zF} {B B9 : zB} {r : Int} (hf : f_S_x K l0 l1 l2 l3 F B = some (r, F9, B9)) : Met l ({ cls := "StaveHouse", name := "x", desc := "(III)I" } : Jvm.MethodName) (Cond.code ({ cls := "StaveHouse", name := "x", desc := "(III)I" } : Jvm.MethodName) prog_1_method_18_code 6 (Option.some Jvm.ClassFile.FieldType.int) :: wAll) ({ frames := 2, cells := 0, slots := 0, locals := 44 } : Room) (va_Pc [.ref (ad 12 l0 0), .int (iI l1), .int (iI l2), .int (iI l3)] (zPre D ca ad lnC K.2 L aS vS F B sz)) (Q_S_x K D ca ad L r F9 B9 (zA L sz)) 0 0 (zA L sz) := by
  refine zMet (Qc := Q_S_x K D ca ad L r F9 B9) (lv := [(0, .ref (ad 12 l0 0)), (1, .int (iI l1)), (2, .int (iI l2)), (3, .int (iI l3))]) (by decide) (Nat.le_of_ble_eq_true rfl) rfl (fun A p e s m below meth c ls X hZ hS hl => ?_)
  obtain ⟨hx, hb, hr, hml, hown, hts, hlk, hK, hA, hL, hX⟩ := id X
  replace hf : (if 0 ≤ l0 ∧ l0 < K.2 12 then zbind (f_S_partAt K l0 l1 l2 F B) (fun r2 F2 B2 => zbind (f_S_pieceAt K l0 l1 F2 B2) (fun r3 F3 B3 => (if r2 < 0 then f_S_x_46 K F3 B3 else (if r3 < 0 then f_S_x_46 K F3 B3 else if 0 ≤ r3 ∧ r3 < K.2 6 then (if (F3 6 r3 8) < 0 then f_S_x_46 K F3 B3 else if r32 l3 then (if l3 < 0 then f_S_x_46 K F3 B3 else if 0 ≤ r2 ∧ r2 < K.2 4 then if r32 (F3 4 r2 10) then (if l3 < (F3 4 r2 10) then if 0 ≤ l3 ∧ l3 < 800 then if 0 ≤ (F3 6 r3 8) ∧ (F3 6 r3 8) < K.2 2 then zbind (f_Layout_columnX K (F3 6 r3 8) (B3 4 r2 361 l3) (B3 4 r2 9 l3) F3 B3) (fun r15 F15 B15 => some (r15, F15, B15)) else none else none else f_S_x_46 K F3 B3) else none else none) else none) else none)))) else none) = some (r, F9, B9) := hf
  refine lv_aload_n hx hb (D_42 W_prog_1_method_18_code_0 0 rfl rfl) rfl (lv_at hl 0 rfl) ?_
  refine lv_iload_n hx hb (D_27 W_prog_1_method_18_code_0 1 rfl rfl) rfl (lv_at hl 1 rfl) ?_
  refine lv_iload_n hx hb (D_28 W_prog_1_method_18_code_0 2 rfl rfl) rfl (lv_at hl 2 rfl) ?_
  obtain ⟨g1, hf⟩ := gif hf
  obtain ⟨r2, F2, B2, hc2, hf⟩ := gbind hf
  refine va_callq (va_runV (As := [.int (iI l1), .int (iI l2)]) (rest := []) ⟨hx, hb, hml, hown, hts⟩ (c_S_partAt (l := l) hc2) (cwV 2 hts (gdV k_6_168 k_6_170 ks_77 k_1_1 k_6_171) rfl rfl rfl (by decide +kernel) ⟨Nat.le_of_ble_eq_true rfl, Nat.le_of_ble_eq_true rfl⟩) (zPV X hZ hS (ci := 12) g1.1 g1.2 (r := (RX12, TX12, 10)) rfl [.int (iI l1), .int (iI l2)]) rfl rfl hl.1 rfl (lv_room (Nat.le_of_ble_eq_true rfl)) (D_182 W_prog_1_method_18_code_0 3 rfl rfl rfl) ⟨Nat.le_of_ble_eq_true rfl, Nat.le_of_ble_eq_true rfl⟩) hS (fun q _ h => zAin X hS q h) (zAin X hS) (fun p2 u2 t2 H2 locs2 ht2 hv2 hw2 hB2 hz2 hk2 hS2 => ?_)
  have hZ2 := zBack X ht2 hB2
  subst hw2
  refine zastore (lv' := [(0, .ref (ad 12 l0 0)), (1, .int (iI l1)), (2, .int (iI l2)), (3, .int (iI l3))]) hx hb (D_58 W_prog_1_method_18_code_0 6 rfl rfl) hl (by decide) (fun _ _ => rfl) (fun ls hl => ?_)
  refine lv_aload_n hx hb (D_42 W_prog_1_method_18_code_0 8 rfl rfl) rfl (lv_at hl 1 rfl) ?_
  refine lv_iload_n hx hb (D_27 W_prog_1_method_18_code_0 9 rfl rfl) rfl (lv_at hl 2 rfl) ?_
  obtain ⟨r3, F3, B3, hc3, hf⟩ := gbind hf
  refine va_callq (va_runV (As := [.int (iI l1)]) (rest := []) ⟨hx, hb, hml, hown, hts⟩ (c_S_pieceAt (l := l) hc3) (cwV 1 hts (gdV k_5_182 k_5_184 ks_65 k_1_1 k_5_185) rfl rfl rfl (by decide +kernel) ⟨Nat.le_of_ble_eq_true rfl, Nat.le_of_ble_eq_true rfl⟩) (zPV X hZ2 hS2 (ci := 12) g1.1 g1.2 (r := (RX12, TX12, 10)) rfl [.int (iI l1)]) rfl rfl hl.1 rfl (lv_room (Nat.le_of_ble_eq_true rfl)) (D_182 W_prog_1_method_18_code_0 10 rfl rfl rfl) ⟨Nat.le_of_ble_eq_true rfl, Nat.le_of_ble_eq_true rfl⟩) hS2 (fun q _ h => zAin X hS2 q h) (zAin X hS2) (fun p3 u3 t3 H3 locs3 ht3 hv3 hw3 hB3 hz3 hk3 hS3 => ?_)
  have hZ3 := zBack X ht3 hB3
  subst hw3
  refine zastore (lv' := [(4, va_rf (zrf ad 4 r2)), (0, .ref (ad 12 l0 0)), (1, .int (iI l1)), (2, .int (iI l2)), (3, .int (iI l3))]) hx hb (D_58 W_prog_1_method_18_code_0 13 rfl rfl) hl (by decide) (fun v hv => by cases zrf ad 4 r2 <;> rfl) (fun ls hl => ?_)
  refine zaload hx hb (D_25 W_prog_1_method_18_code_0 15 rfl rfl) (lv_at hl 1 rfl) ?_
  refine zifnull (tgt := 46) hx hb (D_198 W_prog_1_method_18_code_0 17 rfl rfl rfl) (by decide) (fun h4 => ?_) (fun h4 => ?_)
  · replace hf := gpos hf h4
    exact b_S_x_46 X hf hZ3 hS3 (lv_sub hl [] rfl)
  · replace hf := gneg hf h4
    refine zaload hx hb (D_25 W_prog_1_method_18_code_0 20 rfl rfl) (lv_at hl 0 rfl) ?_
    refine zifnull (tgt := 46) hx hb (D_198 W_prog_1_method_18_code_0 22 rfl rfl rfl) (by decide) (fun h5 => ?_) (fun h5 => ?_)
    · replace hf := gpos hf h5
      exact b_S_x_46 X hf hZ3 hS3 (lv_sub hl [] rfl)
    · replace hf := gneg hf h5
      refine zaload hx hb (D_25 W_prog_1_method_18_code_0 25 rfl rfl) (lv_at hl 0 rfl) ?_
      obtain ⟨g6, hf⟩ := gif hf
      refine zunrf g6.1 ?_
      refine zget (ci := 6) (C := RX6) (T := TX6) (v := va_rf (zrf ad 2 (F3 6 r3 8))) (k := 8) hx hb hts inW_6 hown hK hZ3 g6.1 g6.2 rfl (by decide) k_2_225 rfl (D_180 W_prog_1_method_18_code_0 27 rfl rfl rfl) ?_
      refine zifnull (tgt := 46) hx hb (D_198 W_prog_1_method_18_code_0 30 rfl rfl rfl) (by decide) (fun h7 => ?_) (fun h7 => ?_)
      · replace hf := gpos hf h7
        exact b_S_x_46 X hf hZ3 hS3 (lv_sub hl [] rfl)
      · replace hf := gneg hf h7
        refine lv_iload_n hx hb (D_29 W_prog_1_method_18_code_32 1 rfl rfl) rfl (lv_at hl 5 rfl) ?_
        obtain ⟨g8, hf⟩ := gif hf
        refine z0lt (tgt := 46) hx hb g8 (D_155 W_prog_1_method_18_code_32 2 rfl rfl rfl) (by decide) (fun h9 => ?_) (fun h9 => ?_)
        · replace hf := gpos hf h9
          exact b_S_x_46 X hf hZ3 hS3 (lv_sub hl [] rfl)
        · replace hf := gneg hf h9
          refine lv_iload_n hx hb (D_29 W_prog_1_method_18_code_32 5 rfl rfl) rfl (lv_at hl 5 rfl) ?_
          refine zaload hx hb (D_25 W_prog_1_method_18_code_32 6 rfl rfl) (lv_at hl 1 rfl) ?_
          obtain ⟨g10, hf⟩ := gif hf
          refine zunrf g10.1 ?_
          refine zget (ci := 4) (C := RX4) (T := TX4) (v := .int (iI (F3 4 r2 10))) (k := 10) hx hb hts inW_4 hown hK hZ3 g10.1 g10.2 rfl (by decide) k_4_150 rfl (D_180 W_prog_1_method_18_code_32 8 rfl rfl rfl) ?_
          obtain ⟨g11, hf⟩ := gif hf
          refine zlt (tgt := 48) hx hb g8 g11 (D_161 W_prog_1_method_18_code_32 11 rfl rfl rfl) (by decide) (fun h12 => ?_) (fun h12 => ?_)
          · replace hf := gpos hf h12
            refine zaload hx hb (D_25 W_prog_1_method_18_code_32 16 rfl rfl) (lv_at hl 0 rfl) ?_
            refine zunrf g6.1 ?_
            refine zget (ci := 6) (C := RX6) (T := TX6) (v := va_rf (zrf ad 2 (F3 6 r3 8))) (k := 8) hx hb hts inW_6 hown hK hZ3 g6.1 g6.2 rfl (by decide) k_2_225 rfl (D_180 W_prog_1_method_18_code_32 18 rfl rfl rfl) ?_
            refine zaload hx hb (D_25 W_prog_1_method_18_code_32 21 rfl rfl) (lv_at hl 1 rfl) ?_
            refine zunrf g10.1 ?_
            refine zget (ci := 4) (C := RX4) (T := TX4) (v := .ref (ad 4 r2 (8 + 1))) (k := 8) hx hb hts inW_4 hown hK hZ3 g10.1 g10.2 rfl (by decide) k_4_144 rfl (D_180 W_prog_1_method_18_code_32 23 rfl rfl rfl) ?_
            refine lv_iconst (v := iI 1) hx hb (D_4 W_prog_1_method_18_code_32 26 rfl rfl) rfl ?_
            refine zaldQ (t := 0) (ci := 4) (k := 8) hx hb hK rfl hZ3 g10.1 g10.2 rfl (Nat.le_of_ble_eq_true rfl) (by decide) (by decide) (D_50 W_prog_1_method_18_code_32 27 rfl rfl) ?_
            refine W.eq (g2 := F0 m 60 ls [.ref (ad 4 r2 (361 + 1)), va_rf (zrf ad 2 (F3 6 r3 8))]) rfl ?_
            refine lv_iload_n hx hb (D_29 W_prog_1_method_18_code_32 28 rfl rfl) rfl (lv_at hl 5 rfl) ?_
            obtain ⟨g13, hf⟩ := gif hf
            refine zald (ci := 4) (k := 361) hx hb hK rfl hZ3 g10.1 g10.2 rfl (Nat.le_of_ble_eq_true rfl) g13.1 g13.2 (D_46 W_prog_1_method_18_code_32 29 rfl rfl) ?_
            refine zaload hx hb (D_25 W_prog_1_method_18_code_32 30 rfl rfl) (lv_at hl 1 rfl) ?_
            refine zunrf g10.1 ?_
            refine zget (ci := 4) (C := RX4) (T := TX4) (v := .ref (ad 4 r2 (9 + 1))) (k := 9) hx hb hts inW_4 hown hK hZ3 g10.1 g10.2 rfl (by decide) k_4_147 rfl (D_180 W_prog_1_method_18_code_64 0 rfl rfl rfl) ?_
            refine lv_iload_n hx hb (D_29 W_prog_1_method_18_code_64 3 rfl rfl) rfl (lv_at hl 5 rfl) ?_
            refine zlald (ci := 4) (k := 9) hx hb hK rfl hZ3 g10.1 g10.2 rfl (Nat.le_of_ble_eq_true rfl) g13.1 g13.2 (D_47 W_prog_1_method_18_code_64 4 rfl rfl) ?_
            obtain ⟨g14, hf⟩ := gif hf
            refine W.eq (g2 := F0 m 69 ls [.long (lI (B3 4 r2 9 l3)), .int (iI (B3 4 r2 361 l3)), .ref (ad 2 (F3 6 r3 8) 0)]) (by rw [zrf_pos (ad := ad) (t := 2) g14.1]; try rfl) ?_
            obtain ⟨r15, F15, B15, hc15, hf⟩ := gbind hf
            refine va_calli (va_runV (As := [.int (iI (B3 4 r2 361 l3)), .long (lI (B3 4 r2 9 l3))]) (rest := []) ⟨hx, hb, hml, hown, hts⟩ (c_Layout_columnX (l := l) hc15) (cwV 2 hts (gdV k_7_79 k_7_80 k_7_81 k_1_21 k_7_82) rfl rfl rfl (by decide +kernel) ⟨Nat.le_of_ble_eq_true rfl, Nat.le_of_ble_eq_true rfl⟩) (zPV X hZ3 hS3 (ci := 2) g14.1 g14.2 (r := (RX2, TX2, 13)) rfl [.int (iI (B3 4 r2 361 l3)), .long (lI (B3 4 r2 9 l3))]) rfl rfl hl.1 rfl (lv_room (Nat.le_of_ble_eq_true rfl)) (D_182 W_prog_1_method_18_code_64 5 rfl rfl rfl) ⟨Nat.le_of_ble_eq_true rfl, Nat.le_of_ble_eq_true rfl⟩) hS3 (fun q _ h => zAin X hS3 q h) (zAin X hS3) (fun p15 u15 t15 H15 locs15 ht15 hv15 hw15 hB15 hz15 hk15 hS15 => ?_)
            have hZ15 := zBack X ht15 hB15
            subst hw15
            cases hf
            exact W.iret hx hb hr (fun t ht hW => ⟨⟨_, (), rfl, rfl, by rw [ht]; exact hZ15, va_K.moved hW.alike hK⟩, hS15.F ht⟩) hS15.2.2 (D_172 W_prog_1_method_18_code_64 8 rfl rfl) hlk
          · replace hf := gneg hf h12
            exact b_S_x_46 X hf hZ3 hS3 (lv_sub hl [] rfl)

abbrev Q_Performance_sortStrokes (K : zK) (D : va_G) (ca : Nat → ClassId) (ad : Nat → Int → Nat → Nat) (L : List Nat) (r : Int) (F : zF) (B : zB) (A : Nat → Prop) : Array Value → State → Outcome → State → Prop := va_Qv (S := Unit) (fun _ => True) (fun _ => zPo D ca ad lnC K.2 L F B A) A
def f_Performance_sortStrokes_16 (rec9 : Int → Int → Int → zF → zB → zO) (K : zK) : Nat → Int → Int → Int → Int → zF → zB → zO
  | 0, _, _, _, _, _, _ => none
  | n + 1, l3, l2, l1, l0, F, B => if r32 l3 then if r32 l1 then (if l1 ≤ l3 then if 0 ≤ l0 ∧ l0 < K.2 5 then rec9 (l2 * 2) l1 l0 (zup3 (zup3 F 5 l0 9 (F 5 l0 8)) 5 l0 8 (F 5 l0 9)) B else none else if r32 (l3 + l2) then if r32 (l3 + (2 * l2)) then if 0 ≤ l0 ∧ l0 < K.2 5 then zbind (f_Performance_merge K l0 l3 (zmin (l3 + l2) l1) (zmin (l3 + (2 * l2)) l1) F B) (fun r14 F14 B14 => f_Performance_sortStrokes_16 rec9 K n (l3 + (2 * l2)) l2 l1 l0 F14 B14) else none else none else none) else none else none
set_option maxHeartbeats 4000000 in
set_option maxRecDepth 100000 in
theorem b_Performance_sortStrokes_16 {D : va_G} {ca : Nat → ClassId} {ad : Nat → Int → Nat → Nat} {L : List Nat} {aS vS : Nat → Nat} {A : Nat → Prop} {p : Program} {l : Launch} {e : Env} {s : State} {m : MethodId} {args : Array Value} {below : List Frame} {meth : Method} {c : Code} {K : zK} {r : Int} {F9 : zF} {B9 : zB} (X : zX D ca L aS vS A p s m args meth c prog_7_method_13_code 4 (Option.none : Option Jvm.ClassFile.FieldType) "StaveHouse$Performance") {rec9 : Int → Int → Int → zF → zB → zO} (hrec9 : ∀ {l2 : Int} {l1 : Int} {l0 : Int} {F : zF} {B : zB} {H : Heap} {locs : List Loc} {ls : Array Slot}, rec9 l2 l1 l0 F B = some (r, F9, B9) → zH D ca ad lnC K.2 L F B A H → va_S A s.heap H locs → lv_has ls 4 [(2, .int (iI l2)), (1, .int (iI l1)), (0, .ref (ad 5 l0 0))] → W p l e ({ frames := 1, cells := 0, slots := 0, locals := 27 } : Room) s m args below meth c H locs 0 0 (MQ below (Q_Performance_sortStrokes K D ca ad L r F9 B9 A) args s 0 0 A) (F0 m 9 ls [])) : ∀ {n : Nat} {l3 : Int} {l2 : Int} {l1 : Int} {l0 : Int} {F : zF} {B : zB} {H : Heap} {locs : List Loc} {ls : Array Slot}, f_Performance_sortStrokes_16 rec9 K n l3 l2 l1 l0 F B = some (r, F9, B9) → zH D ca ad lnC K.2 L F B A H → va_S A s.heap H locs → lv_has ls 4 [(3, .int (iI l3)), (2, .int (iI l2)), (1, .int (iI l1)), (0, .ref (ad 5 l0 0))] → W p l e ({ frames := 1, cells := 0, slots := 0, locals := 27 } : Room) s m args below meth c H locs 0 0 (MQ below (Q_Performance_sortStrokes K D ca ad L r F9 B9 A) args s 0 0 A) (F0 m 16 ls []) := by
  obtain ⟨hx, hb, hr, hml, hown, hts, hlk, hK, hA, hL, hX⟩ := id X
  intro n
  induction n with
  | zero =>
    intros
    rename_i hf _ _ _
    cases hf
  | succ n ih =>
    intro l3 l2 l1 l0 F B H locs ls hf hZ hS hl
    replace hf : (if r32 l3 then if r32 l1 then (if l1 ≤ l3 then if 0 ≤ l0 ∧ l0 < K.2 5 then rec9 (l2 * 2) l1 l0 (zup3 (zup3 F 5 l0 9 (F 5 l0 8)) 5 l0 8 (F 5 l0 9)) B else none else if r32 (l3 + l2) then if r32 (l3 + (2 * l2)) then if 0 ≤ l0 ∧ l0 < K.2 5 then zbind (f_Performance_merge K l0 l3 (zmin (l3 + l2) l1) (zmin (l3 + (2 * l2)) l1) F B) (fun r14 F14 B14 => f_Performance_sortStrokes_16 rec9 K n (l3 + (2 * l2)) l2 l1 l0 F14 B14) else none else none else none) else none else none) = some (r, F9, B9) := hf
    refine lv_iload_n hx hb (D_29 W_prog_7_method_13_code_0 16 rfl rfl) rfl (lv_at hl 0 rfl) ?_
    refine lv_iload_n hx hb (D_27 W_prog_7_method_13_code_0 17 rfl rfl) rfl (lv_at hl 2 rfl) ?_
    obtain ⟨g5, hf⟩ := gif hf
    obtain ⟨g6, hf⟩ := gif hf
    refine zge (tgt := 51) hx hb g5 g6 (D_162 W_prog_7_method_13_code_0 18 rfl rfl rfl) (by decide) (fun h7 => ?_) (fun h7 => ?_)
    · replace hf := gpos hf h7
      refine lv_aload_n hx hb (D_42 W_prog_7_method_13_code_32 19 rfl rfl) rfl (lv_at hl 3 rfl) ?_
      obtain ⟨g8, hf⟩ := gif hf
      refine zget (ci := 5) (C := RX5) (T := TX5) (v := .ref (ad 5 l0 ((F 5 l0 9).toNat + 1))) (k := 9) hx hb hts inW_5 hown hK hZ g8.1 g8.2 rfl (by decide) k_6_78 rfl (D_180 W_prog_7_method_13_code_32 20 rfl rfl rfl) ?_
      refine lv_astore_n (lv' := [(3, .ref (ad 5 l0 ((F 5 l0 9).toNat + 1))), (2, .int (iI l2)), (1, .int (iI l1)), (0, .ref (ad 5 l0 0))]) hx hb (D_78 W_prog_7_method_13_code_32 23 rfl rfl) rfl hl (by decide) rfl (fun ls hl => ?_)
      refine lv_aload_n hx hb (D_42 W_prog_7_method_13_code_32 24 rfl rfl) rfl (lv_at hl 3 rfl) ?_
      refine lv_aload_n hx hb (D_42 W_prog_7_method_13_code_32 25 rfl rfl) rfl (lv_at hl 3 rfl) ?_
      refine zget (ci := 5) (C := RX5) (T := TX5) (v := .ref (ad 5 l0 ((F 5 l0 8).toNat + 1))) (k := 8) hx hb hts inW_5 hown hK hZ g8.1 g8.2 rfl (by decide) k_6_77 rfl (D_180 W_prog_7_method_13_code_32 26 rfl rfl rfl) ?_
      refine zput (ci := 5) (C := RX5) (T := TX5) (k := 9) (v := (F 5 l0 8)) (w := .ref (ad 5 l0 ((F 5 l0 8).toNat + 1))) hx hb hts inW_5 tyX5 tyX5_ok nmX5 hown hK hZ hS g8.1 g8.2 rfl (by decide) k_6_78 rfl (fun G h => congrArg (fun q : Int => Value.ref (ad 5 l0 (q.toNat + 1))) h) rfl rfl (zno (by decide)) (D_181 W_prog_7_method_13_code_32 29 rfl rfl rfl) (fun H9 locs9 hZ9 hS9 => ?_)
      refine lv_aload_n hx hb (D_42 W_prog_7_method_13_code_64 0 rfl rfl) rfl (lv_at hl 3 rfl) ?_
      refine lv_aload_n hx hb (D_45 W_prog_7_method_13_code_64 1 rfl rfl) rfl (lv_at hl 0 rfl) ?_
      refine zput (ci := 5) (C := RX5) (T := TX5) (k := 8) (v := (F 5 l0 9)) (w := .ref (ad 5 l0 ((F 5 l0 9).toNat + 1))) hx hb hts inW_5 tyX5 tyX5_ok nmX5 hown hK hZ9 hS9 g8.1 g8.2 rfl (by decide) k_6_77 rfl (fun G h => congrArg (fun q : Int => Value.ref (ad 5 l0 (q.toNat + 1))) h) rfl rfl (zno (by decide)) (D_181 W_prog_7_method_13_code_64 2 rfl rfl rfl) (fun H10 locs10 hZ10 hS10 => ?_)
      refine lv_iload_n hx hb (D_28 W_prog_7_method_13_code_64 5 rfl rfl) rfl (lv_at hl 1 rfl) ?_
      refine lv_iconst (v := iI 2) hx hb (D_5 W_prog_7_method_13_code_64 6 rfl rfl) rfl ?_
      refine zmul hx hb (D_104 W_prog_7_method_13_code_64 7 rfl rfl) ?_
      refine lv_istore_n (lv' := [(2, .int (iI (l2 * 2))), (3, .ref (ad 5 l0 ((F 5 l0 9).toNat + 1))), (1, .int (iI l1)), (0, .ref (ad 5 l0 0))]) hx hb (D_61 W_prog_7_method_13_code_64 8 rfl rfl) rfl hl (by decide) rfl (fun ls hl => ?_)
      refine lv_goto (tgt := 9) hx hb (D_167 W_prog_7_method_13_code_64 9 rfl rfl rfl) (by decide) ?_
      exact hrec9 hf hZ10 hS10 (lv_sub hl [0, 2, 3] rfl)
    · replace hf := gneg hf h7
      refine lv_aload_n hx hb (D_42 W_prog_7_method_13_code_0 21 rfl rfl) rfl (lv_at hl 3 rfl) ?_
      refine lv_iload_n hx hb (D_29 W_prog_7_method_13_code_0 22 rfl rfl) rfl (lv_at hl 0 rfl) ?_
      refine lv_iload_n hx hb (D_29 W_prog_7_method_13_code_0 23 rfl rfl) rfl (lv_at hl 0 rfl) ?_
      refine lv_iload_n hx hb (D_28 W_prog_7_method_13_code_0 24 rfl rfl) rfl (lv_at hl 1 rfl) ?_
      refine zadd hx hb (D_96 W_prog_7_method_13_code_0 25 rfl rfl) ?_
      refine lv_iload_n hx hb (D_27 W_prog_7_method_13_code_0 26 rfl rfl) rfl (lv_at hl 2 rfl) ?_
      obtain ⟨g11, hf⟩ := gif hf
      refine va_mmin hx hb (by rw [hml]; exact hl.1.symm) hown (hts _ k_6_134) (hts _ k_3_97) (hts _ k_1_3) (hts _ k_3_98) (Nat.le_of_ble_eq_true rfl) (Nat.le_of_ble_eq_true rfl) (Nat.le_of_ble_eq_true rfl) (Nat.le_of_ble_eq_true rfl) (D_184 W_prog_7_method_13_code_0 27 rfl rfl rfl) ?_
      rw [zmin_e g11 g6]
      refine lv_iload_n hx hb (D_29 W_prog_7_method_13_code_0 30 rfl rfl) rfl (lv_at hl 0 rfl) ?_
      refine lv_iconst (v := iI 2) hx hb (D_5 W_prog_7_method_13_code_0 31 rfl rfl) rfl ?_
      refine lv_iload_n hx hb (D_28 W_prog_7_method_13_code_32 0 rfl rfl) rfl (lv_at hl 1 rfl) ?_
      refine zmul hx hb (D_104 W_prog_7_method_13_code_32 1 rfl rfl) ?_
      refine zadd hx hb (D_96 W_prog_7_method_13_code_32 2 rfl rfl) ?_
      refine lv_iload_n hx hb (D_27 W_prog_7_method_13_code_32 3 rfl rfl) rfl (lv_at hl 2 rfl) ?_
      obtain ⟨g12, hf⟩ := gif hf
      refine va_mmin hx hb (by rw [hml]; exact hl.1.symm) hown (hts _ k_6_134) (hts _ k_3_97) (hts _ k_1_3) (hts _ k_3_98) (Nat.le_of_ble_eq_true rfl) (Nat.le_of_ble_eq_true rfl) (Nat.le_of_ble_eq_true rfl) (Nat.le_of_ble_eq_true rfl) (D_184 W_prog_7_method_13_code_32 4 rfl rfl rfl) ?_
      rw [zmin_e g12 g6]
      obtain ⟨g13, hf⟩ := gif hf
      obtain ⟨r14, F14, B14, hc14, hf⟩ := gbind hf
      refine va_callv (va_runV (As := [.int (iI l3), .int (iI (zmin (l3 + l2) l1)), .int (iI (zmin (l3 + (2 * l2)) l1))]) (rest := []) ⟨hx, hb, hml, hown, hts⟩ (c_Performance_merge (l := l) hc14) (cwV 3 hts (gdV k_7_100 k_7_102 ks_88 k_1_20 k_7_103) rfl rfl rfl (by decide +kernel) ⟨Nat.le_of_ble_eq_true rfl, Nat.le_of_ble_eq_true rfl⟩) (zPV X hZ hS (ci := 5) g13.1 g13.2 (r := (RX5, TX5, 14)) rfl [.int (iI l3), .int (iI (zmin (l3 + l2) l1)), .int (iI (zmin (l3 + (2 * l2)) l1))]) rfl rfl hl.1 rfl (lv_room (Nat.le_of_ble_eq_true rfl)) (D_182 W_prog_7_method_13_code_32 7 rfl rfl rfl) ⟨Nat.le_of_ble_eq_true rfl, Nat.le_of_ble_eq_true rfl⟩) hS (fun q _ h => zAin X hS q h) (zAin X hS) (fun u14 t14 H14 locs14 ht14 hv14 hw14 hB14 hz14 hk14 hS14 => ?_)
      have hZ14 := zBack X ht14 hB14
      refine lv_iload_n hx hb (D_29 W_prog_7_method_13_code_32 10 rfl rfl) rfl (lv_at hl 0 rfl) ?_
      refine lv_iconst (v := iI 2) hx hb (D_5 W_prog_7_method_13_code_32 11 rfl rfl) rfl ?_
      refine lv_iload_n hx hb (D_28 W_prog_7_method_13_code_32 12 rfl rfl) rfl (lv_at hl 1 rfl) ?_
      refine zmul hx hb (D_104 W_prog_7_method_13_code_32 13 rfl rfl) ?_
      refine zadd hx hb (D_96 W_prog_7_method_13_code_32 14 rfl rfl) ?_
      refine lv_istore_n (lv' := [(3, .int (iI (l3 + (2 * l2)))), (2, .int (iI l2)), (1, .int (iI l1)), (0, .ref (ad 5 l0 0))]) hx hb (D_62 W_prog_7_method_13_code_32 15 rfl rfl) rfl hl (by decide) rfl (fun ls hl => ?_)
      refine lv_goto (tgt := 16) hx hb (D_167 W_prog_7_method_13_code_32 16 rfl rfl rfl) (by decide) ?_
      exact ih hf hZ14 hS14 (lv_sub hl [0, 1, 2, 3] rfl)

def f_Performance_sortStrokes_9 (K : zK) : Nat → Int → Int → Int → zF → zB → zO
  | 0, _, _, _, _, _ => none
  | n + 1, l2, l1, l0, F, B => if r32 l2 then if r32 l1 then (if l1 ≤ l2 then some (0, F, B) else f_Performance_sortStrokes_16 (f_Performance_sortStrokes_9 K n) K K.1 0 l2 l1 l0 F B) else none else none
set_option maxHeartbeats 4000000 in
set_option maxRecDepth 100000 in
theorem b_Performance_sortStrokes_9 {D : va_G} {ca : Nat → ClassId} {ad : Nat → Int → Nat → Nat} {L : List Nat} {aS vS : Nat → Nat} {A : Nat → Prop} {p : Program} {l : Launch} {e : Env} {s : State} {m : MethodId} {args : Array Value} {below : List Frame} {meth : Method} {c : Code} {K : zK} {r : Int} {F9 : zF} {B9 : zB} (X : zX D ca L aS vS A p s m args meth c prog_7_method_13_code 4 (Option.none : Option Jvm.ClassFile.FieldType) "StaveHouse$Performance") : ∀ {n : Nat} {l2 : Int} {l1 : Int} {l0 : Int} {F : zF} {B : zB} {H : Heap} {locs : List Loc} {ls : Array Slot}, f_Performance_sortStrokes_9 K n l2 l1 l0 F B = some (r, F9, B9) → zH D ca ad lnC K.2 L F B A H → va_S A s.heap H locs → lv_has ls 4 [(2, .int (iI l2)), (1, .int (iI l1)), (0, .ref (ad 5 l0 0))] → W p l e ({ frames := 1, cells := 0, slots := 0, locals := 27 } : Room) s m args below meth c H locs 0 0 (MQ below (Q_Performance_sortStrokes K D ca ad L r F9 B9 A) args s 0 0 A) (F0 m 9 ls []) := by
  obtain ⟨hx, hb, hr, hml, hown, hts, hlk, hK, hA, hL, hX⟩ := id X
  intro n
  induction n with
  | zero =>
    intros
    rename_i hf _ _ _
    cases hf
  | succ n ih =>
    intro l2 l1 l0 F B H locs ls hf hZ hS hl
    replace hf : (if r32 l2 then if r32 l1 then (if l1 ≤ l2 then some (0, F, B) else f_Performance_sortStrokes_16 (f_Performance_sortStrokes_9 K n) K K.1 0 l2 l1 l0 F B) else none else none) = some (r, F9, B9) := hf
    refine lv_iload_n hx hb (D_28 W_prog_7_method_13_code_0 9 rfl rfl) rfl (lv_at hl 0 rfl) ?_
    refine lv_iload_n hx hb (D_27 W_prog_7_method_13_code_0 10 rfl rfl) rfl (lv_at hl 1 rfl) ?_
    obtain ⟨g2, hf⟩ := gif hf
    obtain ⟨g3, hf⟩ := gif hf
    refine zge (tgt := 76) hx hb g2 g3 (D_162 W_prog_7_method_13_code_0 11 rfl rfl rfl) (by decide) (fun h4 => ?_) (fun h4 => ?_)
    · replace hf := gpos hf h4
      cases hf
      exact W.vret hx hb hr (fun t ht hW => ⟨⟨(), rfl, trivial, by rw [ht]; exact hZ, va_K.moved hW.alike hK⟩, hS.F ht⟩) hS.2.2 (D_177 W_prog_7_method_13_code_64 12 rfl rfl) hlk
    · replace hf := gneg hf h4
      refine lv_iconst (v := iI 0) hx hb (D_3 W_prog_7_method_13_code_0 14 rfl rfl) rfl ?_
      refine lv_istore_n (lv' := [(3, .int (iI 0)), (2, .int (iI l2)), (1, .int (iI l1)), (0, .ref (ad 5 l0 0))]) hx hb (D_62 W_prog_7_method_13_code_0 15 rfl rfl) rfl hl (by decide) rfl (fun ls hl => ?_)
      exact b_Performance_sortStrokes_16 X ih hf hZ hS (lv_sub hl [0, 1, 2, 3] rfl)

def f_Performance_sortStrokes (K : zK) (l0 : Int) (F : zF) (B : zB) : zO := if 0 ≤ l0 ∧ l0 < K.2 5 then f_Performance_sortStrokes_9 K K.1 1 (2 * (F 5 l0 0)) l0 F B else none
set_option maxHeartbeats 4000000 in
set_option maxRecDepth 100000 in
theorem c_Performance_sortStrokes {l : Launch} {D : va_G} {ca : Nat → ClassId} {ad : Nat → Int → Nat → Nat} {L : List Nat} {aS vS : Nat → Nat} {sz : Nat} {K : zK}  {l0 : Int} {F F9 : zF} {B B9 : zB} {r : Int} (hf : f_Performance_sortStrokes K l0 F B = some (r, F9, B9)) : Met l ({ cls := "StaveHouse$Performance", name := "sortStrokes", desc := "()V" } : Jvm.MethodName) (Cond.code ({ cls := "StaveHouse$Performance", name := "sortStrokes", desc := "()V" } : Jvm.MethodName) prog_7_method_13_code 4 (Option.none : Option Jvm.ClassFile.FieldType) :: wAll) ({ frames := 1, cells := 0, slots := 0, locals := 27 } : Room) (va_Pc [.ref (ad 5 l0 0)] (zPre D ca ad lnC K.2 L aS vS F B sz)) (Q_Performance_sortStrokes K D ca ad L r F9 B9 (zA L sz)) 0 0 (zA L sz) := by
  refine zMet (Qc := Q_Performance_sortStrokes K D ca ad L r F9 B9) (lv := [(0, .ref (ad 5 l0 0))]) (by decide) (Nat.le_of_ble_eq_true rfl) rfl (fun A p e s m below meth c ls X hZ hS hl => ?_)
  obtain ⟨hx, hb, hr, hml, hown, hts, hlk, hK, hA, hL, hX⟩ := id X
  replace hf : (if 0 ≤ l0 ∧ l0 < K.2 5 then f_Performance_sortStrokes_9 K K.1 1 (2 * (F 5 l0 0)) l0 F B else none) = some (r, F9, B9) := hf
  refine lv_iconst (v := iI 2) hx hb (D_5 W_prog_7_method_13_code_0 0 rfl rfl) rfl ?_
  refine lv_aload_n hx hb (D_42 W_prog_7_method_13_code_0 1 rfl rfl) rfl (lv_at hl 0 rfl) ?_
  obtain ⟨g1, hf⟩ := gif hf
  refine zget (ci := 5) (C := RX5) (T := TX5) (v := .int (iI (F 5 l0 0))) (k := 0) hx hb hts inW_5 hown hK hZ g1.1 g1.2 rfl (by decide) k_6_63 rfl (D_180 W_prog_7_method_13_code_0 2 rfl rfl rfl) ?_
  refine zmul hx hb (D_104 W_prog_7_method_13_code_0 5 rfl rfl) ?_
  refine lv_istore_n (lv' := [(1, .int (iI (2 * (F 5 l0 0)))), (0, .ref (ad 5 l0 0))]) hx hb (D_60 W_prog_7_method_13_code_0 6 rfl rfl) rfl hl (by decide) rfl (fun ls hl => ?_)
  refine lv_iconst (v := iI 1) hx hb (D_4 W_prog_7_method_13_code_0 7 rfl rfl) rfl ?_
  refine lv_istore_n (lv' := [(2, .int (iI 1)), (1, .int (iI (2 * (F 5 l0 0)))), (0, .ref (ad 5 l0 0))]) hx hb (D_61 W_prog_7_method_13_code_0 8 rfl rfl) rfl hl (by decide) rfl (fun ls hl => ?_)
  exact b_Performance_sortStrokes_9 X hf hZ hS (lv_sub hl [0, 1, 2] rfl)

abbrev Q_S_stroke (K : zK) (D : va_G) (ca : Nat → ClassId) (ad : Nat → Int → Nat → Nat) (L : List Nat) (r : Int) (F : zF) (B : zB) (A : Nat → Prop) : Array Value → State → Outcome → State → Prop := va_Qi (S := Unit) (fun p _ => p = iI r) (fun _ => zPo D ca ad lnC K.2 L F B A) A
def f_S_stroke_23 (K : zK) (s0 : Int) (F : zF) (B : zB) : zO := some (s0, F, B)
set_option maxHeartbeats 4000000 in
set_option maxRecDepth 100000 in
theorem b_S_stroke_23 {D : va_G} {ca : Nat → ClassId} {ad : Nat → Int → Nat → Nat} {L : List Nat} {aS vS : Nat → Nat} {A : Nat → Prop} {p : Program} {l : Launch} {e : Env} {s : State} {m : MethodId} {args : Array Value} {below : List Frame} {meth : Method} {c : Code} {K : zK} {r : Int} {F9 : zF} {B9 : zB} (X : zX D ca L aS vS A p s m args meth c prog_1_method_20_code 5 (Option.some Jvm.ClassFile.FieldType.int) "StaveHouse") {s0 : Int} {F : zF} {B : zB} {H : Heap} {locs : List Loc} {ls : Array Slot} (hf : f_S_stroke_23 K s0 F B = some (r, F9, B9)) (hZ : zH D ca ad lnC K.2 L F B A H) (hS : va_S A s.heap H locs) (hl : lv_has ls 5 []) : W p l e ({ frames := 2, cells := 0, slots := 0, locals := 43 } : Room) s m args below meth c H locs 0 0 (MQ below (Q_S_stroke K D ca ad L r F9 B9 A) args s 0 0 A) (F0 m 23 ls [.int (iI s0)]) := by
  obtain ⟨hx, hb, hr, hml, hown, hts, hlk, hK, hA, hL, hX⟩ := id X
  replace hf : (some (s0, F, B)) = some (r, F9, B9) := hf
  cases hf
  exact W.iret hx hb hr (fun t ht hW => ⟨⟨_, (), rfl, rfl, by rw [ht]; exact hZ, va_K.moved hW.alike hK⟩, hS.F ht⟩) hS.2.2 (D_172 W_prog_1_method_20_code_0 23 rfl rfl) hlk

def f_S_stroke (K : zK) (l0 : Int) (l1 : Int) (l2 : Int) (l3 : Int) (F : zF) (B : zB) : zO := if 0 ≤ l0 ∧ l0 < K.2 12 then zbind (f_S_performanceOf K l0 l1 F B) (fun r2 F2 B2 => (if r2 < 0 then f_S_stroke_23 K (-1) F2 B2 else if 0 ≤ r2 ∧ r2 < K.2 5 then zbind (f_Performance_strokeTold K r2 l2 l3 F2 B2) (fun r5 F5 B5 => f_S_stroke_23 K r5 F5 B5) else none)) else none
set_option maxHeartbeats 4000000 in
set_option maxRecDepth 100000 in
theorem c_S_stroke {l : Launch} {D : va_G} {ca : Nat → ClassId} {ad : Nat → Int → Nat → Nat} {L : List Nat} {aS vS : Nat → Nat} {sz : Nat} {K : zK}  {l0 : Int} {l1 : Int} {l2 : Int} {l3 : Int} {F F9 : zF} {B B9 : zB} {r : Int} (hf : f_S_stroke K l0 l1 l2 l3 F B = some (r, F9, B9)) : Met l ({ cls := "StaveHouse", name := "stroke", desc := "(III)I" } : Jvm.MethodName) (Cond.code ({ cls := "StaveHouse", name := "stroke", desc := "(III)I" } : Jvm.MethodName) prog_1_method_20_code 5 (Option.some Jvm.ClassFile.FieldType.int) :: wAll) ({ frames := 2, cells := 0, slots := 0, locals := 43 } : Room) (va_Pc [.ref (ad 12 l0 0), .int (iI l1), .int (iI l2), .int (iI l3)] (zPre D ca ad lnC K.2 L aS vS F B sz)) (Q_S_stroke K D ca ad L r F9 B9 (zA L sz)) 0 0 (zA L sz) := by
  refine zMet (Qc := Q_S_stroke K D ca ad L r F9 B9) (lv := [(0, .ref (ad 12 l0 0)), (1, .int (iI l1)), (2, .int (iI l2)), (3, .int (iI l3))]) (by decide) (Nat.le_of_ble_eq_true rfl) rfl (fun A p e s m below meth c ls X hZ hS hl => ?_)
  obtain ⟨hx, hb, hr, hml, hown, hts, hlk, hK, hA, hL, hX⟩ := id X
  replace hf : (if 0 ≤ l0 ∧ l0 < K.2 12 then zbind (f_S_performanceOf K l0 l1 F B) (fun r2 F2 B2 => (if r2 < 0 then f_S_stroke_23 K (-1) F2 B2 else if 0 ≤ r2 ∧ r2 < K.2 5 then zbind (f_Performance_strokeTold K r2 l2 l3 F2 B2) (fun r5 F5 B5 => f_S_stroke_23 K r5 F5 B5) else none)) else none) = some (r, F9, B9) := hf
  refine lv_aload_n hx hb (D_42 W_prog_1_method_20_code_0 0 rfl rfl) rfl (lv_at hl 0 rfl) ?_
  refine lv_iload_n hx hb (D_27 W_prog_1_method_20_code_0 1 rfl rfl) rfl (lv_at hl 1 rfl) ?_
  obtain ⟨g1, hf⟩ := gif hf
  obtain ⟨r2, F2, B2, hc2, hf⟩ := gbind hf
  refine va_callq (va_runV (As := [.int (iI l1)]) (rest := []) ⟨hx, hb, hml, hown, hts⟩ (c_S_performanceOf (l := l) hc2) (cwV 1 hts (gdV k_7_108 k_7_110 ks_89 k_1_1 k_7_111) rfl rfl rfl (by decide +kernel) ⟨Nat.le_of_ble_eq_true rfl, Nat.le_of_ble_eq_true rfl⟩) (zPV X hZ hS (ci := 12) g1.1 g1.2 (r := (RX12, TX12, 10)) rfl [.int (iI l1)]) rfl rfl hl.1 rfl (lv_room (Nat.le_of_ble_eq_true rfl)) (D_182 W_prog_1_method_20_code_0 2 rfl rfl rfl) ⟨Nat.le_of_ble_eq_true rfl, Nat.le_of_ble_eq_true rfl⟩) hS (fun q _ h => zAin X hS q h) (zAin X hS) (fun p2 u2 t2 H2 locs2 ht2 hv2 hw2 hB2 hz2 hk2 hS2 => ?_)
  have hZ2 := zBack X ht2 hB2
  subst hw2
  refine zastore (lv' := [(0, .ref (ad 12 l0 0)), (1, .int (iI l1)), (2, .int (iI l2)), (3, .int (iI l3))]) hx hb (D_58 W_prog_1_method_20_code_0 5 rfl rfl) hl (by decide) (fun _ _ => rfl) (fun ls hl => ?_)
  refine zaload hx hb (D_25 W_prog_1_method_20_code_0 7 rfl rfl) (lv_at hl 0 rfl) ?_
  refine zifnonnull (tgt := 16) hx hb (D_199 W_prog_1_method_20_code_0 9 rfl rfl rfl) (by decide) (fun h3 => ?_) (fun h3 => ?_)
  · replace hf := gneg hf h3
    refine zaload hx hb (D_25 W_prog_1_method_20_code_0 16 rfl rfl) (lv_at hl 0 rfl) ?_
    refine lv_iload_n hx hb (D_28 W_prog_1_method_20_code_0 18 rfl rfl) rfl (lv_at hl 3 rfl) ?_
    refine lv_iload_n hx hb (D_29 W_prog_1_method_20_code_0 19 rfl rfl) rfl (lv_at hl 4 rfl) ?_
    obtain ⟨g4, hf⟩ := gif hf
    refine W.eq (g2 := F0 m 20 ls [.int (iI l3), .int (iI l2), .ref (ad 5 r2 0)]) (by rw [zrf_pos (ad := ad) (t := 5) g4.1]; try rfl) ?_
    obtain ⟨r5, F5, B5, hc5, hf⟩ := gbind hf
    refine va_calli (va_runV (As := [.int (iI l2), .int (iI l3)]) (rest := []) ⟨hx, hb, hml, hown, hts⟩ (c_Performance_strokeTold (l := l) hc5) (cwV 2 hts (gdV k_7_112 k_7_113 k_7_114 k_1_20 k_7_115) rfl rfl rfl (by decide +kernel) ⟨Nat.le_of_ble_eq_true rfl, Nat.le_of_ble_eq_true rfl⟩) (zPV X hZ2 hS2 (ci := 5) g4.1 g4.2 (r := (RX5, TX5, 14)) rfl [.int (iI l2), .int (iI l3)]) rfl rfl hl.1 rfl (lv_room (Nat.le_of_ble_eq_true rfl)) (D_182 W_prog_1_method_20_code_0 20 rfl rfl rfl) ⟨Nat.le_of_ble_eq_true rfl, Nat.le_of_ble_eq_true rfl⟩) hS2 (fun q _ h => zAin X hS2 q h) (zAin X hS2) (fun p5 u5 t5 H5 locs5 ht5 hv5 hw5 hB5 hz5 hk5 hS5 => ?_)
    have hZ5 := zBack X ht5 hB5
    subst hw5
    exact b_S_stroke_23 X hf hZ5 hS5 (lv_sub hl [] rfl)
  · replace hf := gpos hf h3
    refine lv_iconst (v := iI (-1)) hx hb (D_2 W_prog_1_method_20_code_0 12 rfl rfl) rfl ?_
    refine lv_goto (tgt := 23) hx hb (D_167 W_prog_1_method_20_code_0 13 rfl rfl rfl) (by decide) ?_
    exact b_S_stroke_23 X hf hZ2 hS2 (lv_sub hl [] rfl)

abbrev Q_CStringLatin1_charAt (K : zK) (D : va_G) (ca : Nat → ClassId) (ad : Nat → Int → Nat → Nat) (L : List Nat) (r : Int) (F : zF) (B : zB) (A : Nat → Prop) : Array Value → State → Outcome → State → Prop := va_Qi (S := Unit) (fun p _ => p = iI r) (fun _ => zPo D ca ad lnC K.2 L F B A) A
def f_CStringLatin1_charAt (K : zK) (l0 : Nat) (l1 : Int) (F : zF) (B : zB) : zO := if l0 < strL.length then zbind (f_CString_checkIndex K l1 (zsl l0) F B) (fun r2 F2 B2 => if 0 ≤ l1 ∧ l1 < zsl l0 then if 0 ≤ (zi2c (zand (zsb l0 l1) 255)) ∧ (zi2c (zand (zsb l0 l1) 255)) < 65536 then some (zi2c (zand (zsb l0 l1) 255), F2, B2) else none else none) else none
set_option maxHeartbeats 4000000 in
set_option maxRecDepth 100000 in
theorem c_CStringLatin1_charAt {l : Launch} {D : va_G} {ca : Nat → ClassId} {ad : Nat → Int → Nat → Nat} {L : List Nat} {aS vS : Nat → Nat} {sz : Nat} {K : zK}  {l0 : Nat} {l1 : Int} {F F9 : zF} {B B9 : zB} {r : Int} (hf : f_CStringLatin1_charAt K l0 l1 F B = some (r, F9, B9)) : Met l ({ cls := "java/lang/StringLatin1", name := "charAt", desc := "([BI)C" } : Jvm.MethodName) (Cond.code ({ cls := "java/lang/StringLatin1", name := "charAt", desc := "([BI)C" } : Jvm.MethodName) prog_22_method_2_code 2 (Option.some Jvm.ClassFile.FieldType.char) :: wAll) ({ frames := 2, cells := 0, slots := 0, locals := 43 } : Room) (va_Pc [.ref (vS l0), .int (iI l1)] (zPre D ca ad lnC K.2 L aS vS F B sz)) (Q_CStringLatin1_charAt K D ca ad L r F9 B9 (zA L sz)) 0 0 (zA L sz) := by
  refine zMet (Qc := Q_CStringLatin1_charAt K D ca ad L r F9 B9) (lv := [(0, .ref (vS l0)), (1, .int (iI l1))]) (by decide) (Nat.le_of_ble_eq_true rfl) rfl (fun A p e s m below meth c ls X hZ hS hl => ?_)
  obtain ⟨hx, hb, hr, hml, hown, hts, hlk, hK, hA, hL, hX⟩ := id X
  replace hf : (if l0 < strL.length then zbind (f_CString_checkIndex K l1 (zsl l0) F B) (fun r2 F2 B2 => if 0 ≤ l1 ∧ l1 < zsl l0 then if 0 ≤ (zi2c (zand (zsb l0 l1) 255)) ∧ (zi2c (zand (zsb l0 l1) 255)) < 65536 then some (zi2c (zand (zsb l0 l1) 255), F2, B2) else none else none) else none) = some (r, F9, B9) := hf
  refine lv_iload_n hx hb d_22_2_0 rfl (lv_at hl 1 rfl) ?_
  refine lv_aload_n hx hb d_22_2_1 rfl (lv_at hl 0 rfl) ?_
  obtain ⟨g1, hf⟩ := gif hf
  refine va_tlen (v := iI (zsl l0)) hx hb (zstr hX g1).2.2.1 hS (zsl_n _) d_22_2_2 ?_
  obtain ⟨r2, F2, B2, hc2, hf⟩ := gbind hf
  refine va_callv (va_runS (As := [.int (iI l1), .int (iI (zsl l0))]) (rest := []) ⟨hx, hb, hml, hown, hts⟩ (c_CString_checkIndex (l := l) hc2) (va_cwS 2 hts (gdS k_7_140 k_7_141 k_1_11 k_7_142) rfl rfl rfl (by decide +kernel) ⟨Nat.le_of_ble_eq_true rfl, Nat.le_of_ble_eq_true rfl⟩) (zPS X hZ hS [.int (iI l1), .int (iI (zsl l0))]) rfl rfl hl.1 rfl (lv_room (Nat.le_of_ble_eq_true rfl)) d_22_2_3 ⟨Nat.le_of_ble_eq_true rfl, Nat.le_of_ble_eq_true rfl⟩) hS (fun q _ h => zAin X hS q h) (zAin X hS) (fun u2 t2 H2 locs2 ht2 hv2 hw2 hB2 hz2 hk2 hS2 => ?_)
  have hZ2 := zBack X ht2 hB2
  refine lv_aload_n hx hb d_22_2_6 rfl (lv_at hl 0 rfl) ?_
  refine lv_iload_n hx hb d_22_2_7 rfl (lv_at hl 1 rfl) ?_
  obtain ⟨g3, hf⟩ := gif hf
  refine va_tb (v := .int (iI (zsb l0 l1))) hx hb (zstr hX g1).2.2.1 hS2 (zs_in g1 g3) (zsb_v g1 g3) d_22_2_8 ?_
  refine lv_sipush (v := iI 255) hx hb d_22_2_9 (by decide) ?_
  refine zand_r hx hb d_22_2_12 ?_
  refine zi2c_r hx hb d_22_2_13 ?_
  obtain ⟨g4, hf⟩ := gif hf
  cases hf
  exact W.zret hx hb hr (zchar g4) (fun t ht hW => ⟨⟨_, (), rfl, rfl, by rw [ht]; exact hZ2, va_K.moved hW.alike hK⟩, hS2.F ht⟩) hS2.2.2 d_22_2_14 hlk

abbrev Q_Performance_endTrack (K : zK) (D : va_G) (ca : Nat → ClassId) (ad : Nat → Int → Nat → Nat) (L : List Nat) (r : Int) (F : zF) (B : zB) (A : Nat → Prop) : Array Value → State → Outcome → State → Prop := va_Qv (S := Unit) (fun _ => True) (fun _ => zPo D ca ad lnC K.2 L F B A) A
def f_Performance_endTrack (K : zK) (l0 : Int) (l1 : Int) (F : zF) (B : zB) : zO := zbind (f_Performance_putMeta K l0 47 0 F B) (fun r1 F1 B1 => if 0 ≤ l0 ∧ l0 < K.2 0 then zbind (f_ByteRow_setWide K l0 (l1 - 4) ((F1 0 l0 1) - l1) F1 B1) (fun r3 F3 B3 => some (0, F3, B3)) else none)
set_option maxHeartbeats 4000000 in
set_option maxRecDepth 100000 in
theorem c_Performance_endTrack {l : Launch} {D : va_G} {ca : Nat → ClassId} {ad : Nat → Int → Nat → Nat} {L : List Nat} {aS vS : Nat → Nat} {sz : Nat} {K : zK}  {l0 : Int} {l1 : Int} {F F9 : zF} {B B9 : zB} {r : Int} (hf : f_Performance_endTrack K l0 l1 F B = some (r, F9, B9)) : Met l ({ cls := "StaveHouse$Performance", name := "endTrack", desc := "(LStaveHouse$ByteRow;I)V" } : Jvm.MethodName) (Cond.code ({ cls := "StaveHouse$Performance", name := "endTrack", desc := "(LStaveHouse$ByteRow;I)V" } : Jvm.MethodName) prog_7_method_19_code 2 (Option.none : Option Jvm.ClassFile.FieldType) :: wAll) ({ frames := 2, cells := 0, slots := 0, locals := 43 } : Room) (va_Pc [.ref (ad 0 l0 0), .int (iI l1)] (zPre D ca ad lnC K.2 L aS vS F B sz)) (Q_Performance_endTrack K D ca ad L r F9 B9 (zA L sz)) 0 0 (zA L sz) := by
  refine zMet (Qc := Q_Performance_endTrack K D ca ad L r F9 B9) (lv := [(0, .ref (ad 0 l0 0)), (1, .int (iI l1))]) (by decide) (Nat.le_of_ble_eq_true rfl) rfl (fun A p e s m below meth c ls X hZ hS hl => ?_)
  obtain ⟨hx, hb, hr, hml, hown, hts, hlk, hK, hA, hL, hX⟩ := id X
  replace hf : (zbind (f_Performance_putMeta K l0 47 0 F B) (fun r1 F1 B1 => if 0 ≤ l0 ∧ l0 < K.2 0 then zbind (f_ByteRow_setWide K l0 (l1 - 4) ((F1 0 l0 1) - l1) F1 B1) (fun r3 F3 B3 => some (0, F3, B3)) else none)) = some (r, F9, B9) := hf
  refine lv_aload_n hx hb (D_42 W_prog_7_method_19_code_0 0 rfl rfl) rfl (lv_at hl 0 rfl) ?_
  refine lv_bipush (v := iI 47) hx hb (D_16 W_prog_7_method_19_code_0 1 rfl rfl rfl) (by decide) ?_
  refine lv_iconst (v := iI 0) hx hb (D_3 W_prog_7_method_19_code_0 3 rfl rfl) rfl ?_
  obtain ⟨r1, F1, B1, hc1, hf⟩ := gbind hf
  refine va_callv (va_runS (As := [.ref (ad 0 l0 0), .int (iI 47), .int (iI 0)]) (rest := []) ⟨hx, hb, hml, hown, hts⟩ (c_Performance_putMeta (l := l) hc1) (va_cwS 3 hts (gdS k_7_165 k_7_166 k_1_20 k_7_167) rfl rfl rfl (by decide +kernel) ⟨Nat.le_of_ble_eq_true rfl, Nat.le_of_ble_eq_true rfl⟩) (zPS X hZ hS [.ref (ad 0 l0 0), .int (iI 47), .int (iI 0)]) rfl rfl hl.1 rfl (lv_room (Nat.le_of_ble_eq_true rfl)) (D_184 W_prog_7_method_19_code_0 4 rfl rfl rfl) ⟨Nat.le_of_ble_eq_true rfl, Nat.le_of_ble_eq_true rfl⟩) hS (fun q _ h => zAin X hS q h) (zAin X hS) (fun u1 t1 H1 locs1 ht1 hv1 hw1 hB1 hz1 hk1 hS1 => ?_)
  have hZ1 := zBack X ht1 hB1
  refine lv_aload_n hx hb (D_42 W_prog_7_method_19_code_0 7 rfl rfl) rfl (lv_at hl 0 rfl) ?_
  refine lv_iload_n hx hb (D_27 W_prog_7_method_19_code_0 8 rfl rfl) rfl (lv_at hl 1 rfl) ?_
  refine lv_iconst (v := iI 4) hx hb (D_7 W_prog_7_method_19_code_0 9 rfl rfl) rfl ?_
  refine zsub hx hb (D_100 W_prog_7_method_19_code_0 10 rfl rfl) ?_
  refine lv_aload_n hx hb (D_42 W_prog_7_method_19_code_0 11 rfl rfl) rfl (lv_at hl 0 rfl) ?_
  obtain ⟨g2, hf⟩ := gif hf
  refine zget (ci := 0) (C := RX0) (T := TX0) (v := .int (iI (F1 0 l0 1))) (k := 1) hx hb hts inW_0 hown hK hZ1 g2.1 g2.2 rfl (by decide) k_1_47 rfl (D_180 W_prog_7_method_19_code_0 12 rfl rfl rfl) ?_
  refine lv_iload_n hx hb (D_27 W_prog_7_method_19_code_0 15 rfl rfl) rfl (lv_at hl 1 rfl) ?_
  refine zsub hx hb (D_100 W_prog_7_method_19_code_0 16 rfl rfl) ?_
  obtain ⟨r3, F3, B3, hc3, hf⟩ := gbind hf
  refine va_callv (va_runV (As := [.int (iI (l1 - 4)), .int (iI ((F1 0 l0 1) - l1))]) (rest := []) ⟨hx, hb, hml, hown, hts⟩ (c_ByteRow_setWide (l := l) hc3) (cwV 2 hts (gdV k_7_179 k_7_180 k_7_181 k_1_2 k_7_182) rfl rfl rfl (by decide +kernel) ⟨Nat.le_of_ble_eq_true rfl, Nat.le_of_ble_eq_true rfl⟩) (zPV X hZ1 hS1 (ci := 0) g2.1 g2.2 (r := (RX0, TX0, 3)) rfl [.int (iI (l1 - 4)), .int (iI ((F1 0 l0 1) - l1))]) rfl rfl hl.1 rfl (lv_room (Nat.le_of_ble_eq_true rfl)) (D_182 W_prog_7_method_19_code_0 17 rfl rfl rfl) ⟨Nat.le_of_ble_eq_true rfl, Nat.le_of_ble_eq_true rfl⟩) hS1 (fun q _ h => zAin X hS1 q h) (zAin X hS1) (fun u3 t3 H3 locs3 ht3 hv3 hw3 hB3 hz3 hk3 hS3 => ?_)
  have hZ3 := zBack X ht3 hB3
  cases hf
  exact W.vret hx hb hr (fun t ht hW => ⟨⟨(), rfl, trivial, by rw [ht]; exact hZ3, va_K.moved hW.alike hK⟩, hS3.F ht⟩) hS3.2.2 (D_177 W_prog_7_method_19_code_0 20 rfl rfl) hlk

abbrev Q_Performance_writeStrokes (K : zK) (D : va_G) (ca : Nat → ClassId) (ad : Nat → Int → Nat → Nat) (L : List Nat) (r : Int) (F : zF) (B : zB) (A : Nat → Prop) : Array Value → State → Outcome → State → Prop := va_Qv (S := Unit) (fun _ => True) (fun _ => zPo D ca ad lnC K.2 L F B A) A
def f_Performance_writeStrokes_90 (rec8 : Int → Int → Int → Int → Int → Int → zF → zB → zO) (K : zK) (l5 : Int) (l4 : Int) (l3 : Int) (l0 : Int) (l1 : Int) (l2 : Int) (F : zF) (B : zB) : zO := rec8 (l5 + 1) l4 l3 l0 l1 l2 F B
set_option maxHeartbeats 4000000 in
set_option maxRecDepth 100000 in
theorem b_Performance_writeStrokes_90 {D : va_G} {ca : Nat → ClassId} {ad : Nat → Int → Nat → Nat} {L : List Nat} {aS vS : Nat → Nat} {A : Nat → Prop} {p : Program} {l : Launch} {e : Env} {s : State} {m : MethodId} {args : Array Value} {below : List Frame} {meth : Method} {c : Code} {K : zK} {r : Int} {F9 : zF} {B9 : zB} (X : zX D ca L aS vS A p s m args meth c prog_7_method_23_code 6 (Option.none : Option Jvm.ClassFile.FieldType) "StaveHouse$Performance") {rec8 : Int → Int → Int → Int → Int → Int → zF → zB → zO} (hrec8 : ∀ {l5 : Int} {l4 : Int} {l3 : Int} {l0 : Int} {l1 : Int} {l2 : Int} {F : zF} {B : zB} {H : Heap} {locs : List Loc} {ls : Array Slot}, rec8 l5 l4 l3 l0 l1 l2 F B = some (r, F9, B9) → zH D ca ad lnC K.2 L F B A H → va_S A s.heap H locs → lv_has ls 6 [(5, .int (iI l5)), (4, .int (iI l4)), (3, .int (iI l3)), (0, .ref (ad 5 l0 0)), (1, .int (iI l1)), (2, .ref (ad 0 l2 0))] → W p l e ({ frames := 2, cells := 0, slots := 0, locals := 43 } : Room) s m args below meth c H locs 0 0 (MQ below (Q_Performance_writeStrokes K D ca ad L r F9 B9 A) args s 0 0 A) (F0 m 8 ls [])) {l5 : Int} {l4 : Int} {l3 : Int} {l0 : Int} {l1 : Int} {l2 : Int} {F : zF} {B : zB} {H : Heap} {locs : List Loc} {ls : Array Slot} (hf : f_Performance_writeStrokes_90 rec8 K l5 l4 l3 l0 l1 l2 F B = some (r, F9, B9)) (hZ : zH D ca ad lnC K.2 L F B A H) (hS : va_S A s.heap H locs) (hl : lv_has ls 6 [(5, .int (iI l5)), (4, .int (iI l4)), (3, .int (iI l3)), (0, .ref (ad 5 l0 0)), (1, .int (iI l1)), (2, .ref (ad 0 l2 0))]) : W p l e ({ frames := 2, cells := 0, slots := 0, locals := 43 } : Room) s m args below meth c H locs 0 0 (MQ below (Q_Performance_writeStrokes K D ca ad L r F9 B9 A) args s 0 0 A) (F0 m 90 ls []) := by
  obtain ⟨hx, hb, hr, hml, hown, hts, hlk, hK, hA, hL, hX⟩ := id X
  replace hf : (rec8 (l5 + 1) l4 l3 l0 l1 l2 F B) = some (r, F9, B9) := hf
  refine lv_iinc (v := iI (l5 + 1)) (lv' := [(5, .int (iI (l5 + 1))), (4, .int (iI l4)), (3, .int (iI l3)), (0, .ref (ad 5 l0 0)), (1, .int (iI l1)), (2, .ref (ad 0 l2 0))]) hx hb d_7_23_90 hl (k := 0) rfl (iI_add _ 1) (by decide) rfl (fun ls hl => ?_)
  refine lv_goto (tgt := 8) hx hb (D_167 W_prog_7_method_23_code_64 29 rfl rfl rfl) (by decide) ?_
  exact hrec8 hf hZ hS (lv_sub hl [0, 1, 2, 3, 4, 5] rfl)

def f_Performance_writeStrokes_65 (rec8 : Int → Int → Int → Int → Int → Int → zF → zB → zO) (K : zK) (l3 : Int) (l5 : Int) (l0 : Int) (l1 : Int) (l2 : Int) (F : zF) (B : zB) : zO := if 0 ≤ l0 ∧ l0 < K.2 5 then zbind (f_Performance_strokeTold K l0 l5 2 F B) (fun r17 F17 B17 => if 0 ≤ l2 ∧ l2 < K.2 0 then zbind (f_ByteRow_put K l2 r17 F17 B17) (fun r19 F19 B19 => zbind (f_Performance_strokeTold K l0 l5 3 F19 B19) (fun r20 F20 B20 => zbind (f_ByteRow_put K l2 r20 F20 B20) (fun r21 F21 B21 => f_Performance_writeStrokes_90 rec8 K l5 1 l3 l0 l1 l2 F21 B21))) else none) else none
set_option maxHeartbeats 4000000 in
set_option maxRecDepth 100000 in
theorem b_Performance_writeStrokes_65 {D : va_G} {ca : Nat → ClassId} {ad : Nat → Int → Nat → Nat} {L : List Nat} {aS vS : Nat → Nat} {A : Nat → Prop} {p : Program} {l : Launch} {e : Env} {s : State} {m : MethodId} {args : Array Value} {below : List Frame} {meth : Method} {c : Code} {K : zK} {r : Int} {F9 : zF} {B9 : zB} (X : zX D ca L aS vS A p s m args meth c prog_7_method_23_code 6 (Option.none : Option Jvm.ClassFile.FieldType) "StaveHouse$Performance") {rec8 : Int → Int → Int → Int → Int → Int → zF → zB → zO} (hrec8 : ∀ {l5 : Int} {l4 : Int} {l3 : Int} {l0 : Int} {l1 : Int} {l2 : Int} {F : zF} {B : zB} {H : Heap} {locs : List Loc} {ls : Array Slot}, rec8 l5 l4 l3 l0 l1 l2 F B = some (r, F9, B9) → zH D ca ad lnC K.2 L F B A H → va_S A s.heap H locs → lv_has ls 6 [(5, .int (iI l5)), (4, .int (iI l4)), (3, .int (iI l3)), (0, .ref (ad 5 l0 0)), (1, .int (iI l1)), (2, .ref (ad 0 l2 0))] → W p l e ({ frames := 2, cells := 0, slots := 0, locals := 43 } : Room) s m args below meth c H locs 0 0 (MQ below (Q_Performance_writeStrokes K D ca ad L r F9 B9 A) args s 0 0 A) (F0 m 8 ls [])) {l3 : Int} {l5 : Int} {l0 : Int} {l1 : Int} {l2 : Int} {F : zF} {B : zB} {H : Heap} {locs : List Loc} {ls : Array Slot} (hf : f_Performance_writeStrokes_65 rec8 K l3 l5 l0 l1 l2 F B = some (r, F9, B9)) (hZ : zH D ca ad lnC K.2 L F B A H) (hS : va_S A s.heap H locs) (hl : lv_has ls 6 [(3, .int (iI l3)), (5, .int (iI l5)), (0, .ref (ad 5 l0 0)), (1, .int (iI l1)), (2, .ref (ad 0 l2 0))]) : W p l e ({ frames := 2, cells := 0, slots := 0, locals := 43 } : Room) s m args below meth c H locs 0 0 (MQ below (Q_Performance_writeStrokes K D ca ad L r F9 B9 A) args s 0 0 A) (F0 m 65 ls []) := by
  obtain ⟨hx, hb, hr, hml, hown, hts, hlk, hK, hA, hL, hX⟩ := id X
  replace hf : (if 0 ≤ l0 ∧ l0 < K.2 5 then zbind (f_Performance_strokeTold K l0 l5 2 F B) (fun r17 F17 B17 => if 0 ≤ l2 ∧ l2 < K.2 0 then zbind (f_ByteRow_put K l2 r17 F17 B17) (fun r19 F19 B19 => zbind (f_Performance_strokeTold K l0 l5 3 F19 B19) (fun r20 F20 B20 => zbind (f_ByteRow_put K l2 r20 F20 B20) (fun r21 F21 B21 => f_Performance_writeStrokes_90 rec8 K l5 1 l3 l0 l1 l2 F21 B21))) else none) else none) = some (r, F9, B9) := hf
  refine lv_iconst (v := iI 1) hx hb (D_4 W_prog_7_method_23_code_64 1 rfl rfl) rfl ?_
  refine lv_istore (lv' := [(4, .int (iI 1)), (3, .int (iI l3)), (5, .int (iI l5)), (0, .ref (ad 5 l0 0)), (1, .int (iI l1)), (2, .ref (ad 0 l2 0))]) hx hb (D_54 W_prog_7_method_23_code_64 2 rfl rfl) hl (by decide) rfl (fun ls hl => ?_)
  refine lv_aload_n hx hb (D_44 W_prog_7_method_23_code_64 4 rfl rfl) rfl (lv_at hl 5 rfl) ?_
  refine lv_aload_n hx hb (D_42 W_prog_7_method_23_code_64 5 rfl rfl) rfl (lv_at hl 3 rfl) ?_
  refine lv_iload hx hb (D_21 W_prog_7_method_23_code_64 6 rfl rfl) (lv_at hl 2 rfl) ?_
  refine lv_iconst (v := iI 2) hx hb (D_5 W_prog_7_method_23_code_64 8 rfl rfl) rfl ?_
  obtain ⟨g16, hf⟩ := gif hf
  obtain ⟨r17, F17, B17, hc17, hf⟩ := gbind hf
  refine va_calli (va_runV (As := [.int (iI l5), .int (iI 2)]) (rest := [.ref (ad 0 l2 0)]) ⟨hx, hb, hml, hown, hts⟩ (c_Performance_strokeTold (l := l) hc17) (cwV 2 hts (gdV k_7_191 k_7_113 k_7_114 k_1_20 k_7_115) rfl rfl rfl (by decide +kernel) ⟨Nat.le_of_ble_eq_true rfl, Nat.le_of_ble_eq_true rfl⟩) (zPV X hZ hS (ci := 5) g16.1 g16.2 (r := (RX5, TX5, 14)) rfl [.int (iI l5), .int (iI 2)]) rfl rfl hl.1 rfl (lv_room (Nat.le_of_ble_eq_true rfl)) (D_182 W_prog_7_method_23_code_64 9 rfl rfl rfl) ⟨Nat.le_of_ble_eq_true rfl, Nat.le_of_ble_eq_true rfl⟩) hS (fun q _ h => zAin X hS q h) (zAin X hS) (fun p17 u17 t17 H17 locs17 ht17 hv17 hw17 hB17 hz17 hk17 hS17 => ?_)
  have hZ17 := zBack X ht17 hB17
  subst hw17
  obtain ⟨g18, hf⟩ := gif hf
  obtain ⟨r19, F19, B19, hc19, hf⟩ := gbind hf
  refine va_callv (va_runV (As := [.int (iI r17)]) (rest := []) ⟨hx, hb, hml, hown, hts⟩ (c_ByteRow_put (l := l) hc19) (cwV 1 hts (gdV k_7_168 k_2_171 k_2_172 k_1_2 k_2_173) rfl rfl rfl (by decide +kernel) ⟨Nat.le_of_ble_eq_true rfl, Nat.le_of_ble_eq_true rfl⟩) (zPV X hZ17 hS17 (ci := 0) g18.1 g18.2 (r := (RX0, TX0, 3)) rfl [.int (iI r17)]) rfl rfl hl.1 rfl (lv_room (Nat.le_of_ble_eq_true rfl)) (D_182 W_prog_7_method_23_code_64 12 rfl rfl rfl) ⟨Nat.le_of_ble_eq_true rfl, Nat.le_of_ble_eq_true rfl⟩) hS17 (fun q _ h => zAin X hS17 q h) (zAin X hS17) (fun u19 t19 H19 locs19 ht19 hv19 hw19 hB19 hz19 hk19 hS19 => ?_)
  have hZ19 := zBack X ht19 hB19
  refine lv_aload_n hx hb (D_44 W_prog_7_method_23_code_64 15 rfl rfl) rfl (lv_at hl 5 rfl) ?_
  refine lv_aload_n hx hb (D_42 W_prog_7_method_23_code_64 16 rfl rfl) rfl (lv_at hl 3 rfl) ?_
  refine lv_iload hx hb (D_21 W_prog_7_method_23_code_64 17 rfl rfl) (lv_at hl 2 rfl) ?_
  refine lv_iconst (v := iI 3) hx hb (D_6 W_prog_7_method_23_code_64 19 rfl rfl) rfl ?_
  obtain ⟨r20, F20, B20, hc20, hf⟩ := gbind hf
  refine va_calli (va_runV (As := [.int (iI l5), .int (iI 3)]) (rest := [.ref (ad 0 l2 0)]) ⟨hx, hb, hml, hown, hts⟩ (c_Performance_strokeTold (l := l) hc20) (cwV 2 hts (gdV k_7_191 k_7_113 k_7_114 k_1_20 k_7_115) rfl rfl rfl (by decide +kernel) ⟨Nat.le_of_ble_eq_true rfl, Nat.le_of_ble_eq_true rfl⟩) (zPV X hZ19 hS19 (ci := 5) g16.1 g16.2 (r := (RX5, TX5, 14)) rfl [.int (iI l5), .int (iI 3)]) rfl rfl hl.1 rfl (lv_room (Nat.le_of_ble_eq_true rfl)) (D_182 W_prog_7_method_23_code_64 20 rfl rfl rfl) ⟨Nat.le_of_ble_eq_true rfl, Nat.le_of_ble_eq_true rfl⟩) hS19 (fun q _ h => zAin X hS19 q h) (zAin X hS19) (fun p20 u20 t20 H20 locs20 ht20 hv20 hw20 hB20 hz20 hk20 hS20 => ?_)
  have hZ20 := zBack X ht20 hB20
  subst hw20
  obtain ⟨r21, F21, B21, hc21, hf⟩ := gbind hf
  refine va_callv (va_runV (As := [.int (iI r20)]) (rest := []) ⟨hx, hb, hml, hown, hts⟩ (c_ByteRow_put (l := l) hc21) (cwV 1 hts (gdV k_7_168 k_2_171 k_2_172 k_1_2 k_2_173) rfl rfl rfl (by decide +kernel) ⟨Nat.le_of_ble_eq_true rfl, Nat.le_of_ble_eq_true rfl⟩) (zPV X hZ20 hS20 (ci := 0) g18.1 g18.2 (r := (RX0, TX0, 3)) rfl [.int (iI r20)]) rfl rfl hl.1 rfl (lv_room (Nat.le_of_ble_eq_true rfl)) (D_182 W_prog_7_method_23_code_64 23 rfl rfl rfl) ⟨Nat.le_of_ble_eq_true rfl, Nat.le_of_ble_eq_true rfl⟩) hS20 (fun q _ h => zAin X hS20 q h) (zAin X hS20) (fun u21 t21 H21 locs21 ht21 hv21 hw21 hB21 hz21 hk21 hS21 => ?_)
  have hZ21 := zBack X ht21 hB21
  exact b_Performance_writeStrokes_90 X hrec8 hf hZ21 hS21 (lv_sub hl [2, 0, 1, 3, 4, 5] rfl)

def f_Performance_writeStrokes_8 (K : zK) : Nat → Int → Int → Int → Int → Int → Int → zF → zB → zO
  | 0, _, _, _, _, _, _, _, _ => none
  | n + 1, l5, l4, l3, l0, l1, l2, F, B => if 0 ≤ l0 ∧ l0 < K.2 5 then if r32 l5 then if r32 (2 * (F 5 l0 0)) then (if (2 * (F 5 l0 0)) ≤ l5 then some (0, F, B) else zbind (f_Performance_strokeTold K l0 l5 1 F B) (fun r5 F5 B5 => if r32 r5 then if r32 l1 then (if r5 = l1 then zbind (f_Performance_strokeTold K l0 l5 0 F5 B5) (fun r9 F9 B9 => if 0 ≤ l2 ∧ l2 < K.2 0 then zbind (f_ByteRow_putDelta K l2 (r9 - l3) F9 B9) (fun r11 F11 B11 => zbind (f_Performance_strokeTold K l0 l5 0 F11 B11) (fun r12 F12 B12 => if r32 l4 then (if l4 = 0 then zbind (f_ByteRow_put K l2 (144 + l1) F12 B12) (fun r15 F15 B15 => f_Performance_writeStrokes_65 (f_Performance_writeStrokes_8 K n) K r12 l5 l0 l1 l2 F15 B15) else f_Performance_writeStrokes_65 (f_Performance_writeStrokes_8 K n) K r12 l5 l0 l1 l2 F12 B12) else none)) else none) else f_Performance_writeStrokes_90 (f_Performance_writeStrokes_8 K n) K l5 l4 l3 l0 l1 l2 F5 B5) else none else none)) else none else none else none
set_option maxHeartbeats 4000000 in
set_option maxRecDepth 100000 in
theorem b_Performance_writeStrokes_8 {D : va_G} {ca : Nat → ClassId} {ad : Nat → Int → Nat → Nat} {L : List Nat} {aS vS : Nat → Nat} {A : Nat → Prop} {p : Program} {l : Launch} {e : Env} {s : State} {m : MethodId} {args : Array Value} {below : List Frame} {meth : Method} {c : Code} {K : zK} {r : Int} {F9 : zF} {B9 : zB} (X : zX D ca L aS vS A p s m args meth c prog_7_method_23_code 6 (Option.none : Option Jvm.ClassFile.FieldType) "StaveHouse$Performance") : ∀ {n : Nat} {l5 : Int} {l4 : Int} {l3 : Int} {l0 : Int} {l1 : Int} {l2 : Int} {F : zF} {B : zB} {H : Heap} {locs : List Loc} {ls : Array Slot}, f_Performance_writeStrokes_8 K n l5 l4 l3 l0 l1 l2 F B = some (r, F9, B9) → zH D ca ad lnC K.2 L F B A H → va_S A s.heap H locs → lv_has ls 6 [(5, .int (iI l5)), (4, .int (iI l4)), (3, .int (iI l3)), (0, .ref (ad 5 l0 0)), (1, .int (iI l1)), (2, .ref (ad 0 l2 0))] → W p l e ({ frames := 2, cells := 0, slots := 0, locals := 43 } : Room) s m args below meth c H locs 0 0 (MQ below (Q_Performance_writeStrokes K D ca ad L r F9 B9 A) args s 0 0 A) (F0 m 8 ls []) := by
  obtain ⟨hx, hb, hr, hml, hown, hts, hlk, hK, hA, hL, hX⟩ := id X
  intro n
  induction n with
  | zero =>
    intros
    rename_i hf _ _ _
    cases hf
  | succ n ih =>
    intro l5 l4 l3 l0 l1 l2 F B H locs ls hf hZ hS hl
    replace hf : (if 0 ≤ l0 ∧ l0 < K.2 5 then if r32 l5 then if r32 (2 * (F 5 l0 0)) then (if (2 * (F 5 l0 0)) ≤ l5 then some (0, F, B) else zbind (f_Performance_strokeTold K l0 l5 1 F B) (fun r5 F5 B5 => if r32 r5 then if r32 l1 then (if r5 = l1 then zbind (f_Performance_strokeTold K l0 l5 0 F5 B5) (fun r9 F9 B9 => if 0 ≤ l2 ∧ l2 < K.2 0 then zbind (f_ByteRow_putDelta K l2 (r9 - l3) F9 B9) (fun r11 F11 B11 => zbind (f_Performance_strokeTold K l0 l5 0 F11 B11) (fun r12 F12 B12 => if r32 l4 then (if l4 = 0 then zbind (f_ByteRow_put K l2 (144 + l1) F12 B12) (fun r15 F15 B15 => f_Performance_writeStrokes_65 (f_Performance_writeStrokes_8 K n) K r12 l5 l0 l1 l2 F15 B15) else f_Performance_writeStrokes_65 (f_Performance_writeStrokes_8 K n) K r12 l5 l0 l1 l2 F12 B12) else none)) else none) else f_Performance_writeStrokes_90 (f_Performance_writeStrokes_8 K n) K l5 l4 l3 l0 l1 l2 F5 B5) else none else none)) else none else none else none) = some (r, F9, B9) := hf
    refine lv_iload hx hb (D_21 W_prog_7_method_23_code_0 8 rfl rfl) (lv_at hl 0 rfl) ?_
    refine lv_iconst (v := iI 2) hx hb (D_5 W_prog_7_method_23_code_0 10 rfl rfl) rfl ?_
    refine lv_aload_n hx hb (D_42 W_prog_7_method_23_code_0 11 rfl rfl) rfl (lv_at hl 3 rfl) ?_
    obtain ⟨g1, hf⟩ := gif hf
    refine zget (ci := 5) (C := RX5) (T := TX5) (v := .int (iI (F 5 l0 0))) (k := 0) hx hb hts inW_5 hown hK hZ g1.1 g1.2 rfl (by decide) k_6_63 rfl (D_180 W_prog_7_method_23_code_0 12 rfl rfl rfl) ?_
    refine zmul hx hb (D_104 W_prog_7_method_23_code_0 15 rfl rfl) ?_
    obtain ⟨g2, hf⟩ := gif hf
    obtain ⟨g3, hf⟩ := gif hf
    refine zge (tgt := 96) hx hb g2 g3 (D_162 W_prog_7_method_23_code_0 16 rfl rfl rfl) (by decide) (fun h4 => ?_) (fun h4 => ?_)
    · replace hf := gpos hf h4
      cases hf
      exact W.vret hx hb hr (fun t ht hW => ⟨⟨(), rfl, trivial, by rw [ht]; exact hZ, va_K.moved hW.alike hK⟩, hS.F ht⟩) hS.2.2 (D_177 W_prog_7_method_23_code_96 0 rfl rfl) hlk
    · replace hf := gneg hf h4
      refine lv_aload_n hx hb (D_42 W_prog_7_method_23_code_0 19 rfl rfl) rfl (lv_at hl 3 rfl) ?_
      refine lv_iload hx hb (D_21 W_prog_7_method_23_code_0 20 rfl rfl) (lv_at hl 0 rfl) ?_
      refine lv_iconst (v := iI 1) hx hb (D_4 W_prog_7_method_23_code_0 22 rfl rfl) rfl ?_
      obtain ⟨r5, F5, B5, hc5, hf⟩ := gbind hf
      refine va_calli (va_runV (As := [.int (iI l5), .int (iI 1)]) (rest := []) ⟨hx, hb, hml, hown, hts⟩ (c_Performance_strokeTold (l := l) hc5) (cwV 2 hts (gdV k_7_191 k_7_113 k_7_114 k_1_20 k_7_115) rfl rfl rfl (by decide +kernel) ⟨Nat.le_of_ble_eq_true rfl, Nat.le_of_ble_eq_true rfl⟩) (zPV X hZ hS (ci := 5) g1.1 g1.2 (r := (RX5, TX5, 14)) rfl [.int (iI l5), .int (iI 1)]) rfl rfl hl.1 rfl (lv_room (Nat.le_of_ble_eq_true rfl)) (D_182 W_prog_7_method_23_code_0 23 rfl rfl rfl) ⟨Nat.le_of_ble_eq_true rfl, Nat.le_of_ble_eq_true rfl⟩) hS (fun q _ h => zAin X hS q h) (zAin X hS) (fun p5 u5 t5 H5 locs5 ht5 hv5 hw5 hB5 hz5 hk5 hS5 => ?_)
      have hZ5 := zBack X ht5 hB5
      subst hw5
      refine lv_iload_n hx hb (D_27 W_prog_7_method_23_code_0 26 rfl rfl) rfl (lv_at hl 4 rfl) ?_
      obtain ⟨g6, hf⟩ := gif hf
      obtain ⟨g7, hf⟩ := gif hf
      refine zne (tgt := 90) hx hb g6 g7 (D_160 W_prog_7_method_23_code_0 27 rfl rfl rfl) (by decide) (fun h8 => ?_) (fun h8 => ?_)
      · replace hf := gneg hf h8
        exact b_Performance_writeStrokes_90 X ih hf hZ5 hS5 (lv_sub hl [0, 1, 2, 3, 4, 5] rfl)
      · replace hf := gpos hf h8
        refine lv_aload_n hx hb (D_44 W_prog_7_method_23_code_0 30 rfl rfl) rfl (lv_at hl 5 rfl) ?_
        refine lv_aload_n hx hb (D_42 W_prog_7_method_23_code_0 31 rfl rfl) rfl (lv_at hl 3 rfl) ?_
        refine lv_iload hx hb (D_21 W_prog_7_method_23_code_32 0 rfl rfl) (lv_at hl 0 rfl) ?_
        refine lv_iconst (v := iI 0) hx hb (D_3 W_prog_7_method_23_code_32 2 rfl rfl) rfl ?_
        obtain ⟨r9, F9, B9, hc9, hf⟩ := gbind hf
        refine va_calli (va_runV (As := [.int (iI l5), .int (iI 0)]) (rest := [.ref (ad 0 l2 0)]) ⟨hx, hb, hml, hown, hts⟩ (c_Performance_strokeTold (l := l) hc9) (cwV 2 hts (gdV k_7_191 k_7_113 k_7_114 k_1_20 k_7_115) rfl rfl rfl (by decide +kernel) ⟨Nat.le_of_ble_eq_true rfl, Nat.le_of_ble_eq_true rfl⟩) (zPV X hZ5 hS5 (ci := 5) g1.1 g1.2 (r := (RX5, TX5, 14)) rfl [.int (iI l5), .int (iI 0)]) rfl rfl hl.1 rfl (lv_room (Nat.le_of_ble_eq_true rfl)) (D_182 W_prog_7_method_23_code_32 3 rfl rfl rfl) ⟨Nat.le_of_ble_eq_true rfl, Nat.le_of_ble_eq_true rfl⟩) hS5 (fun q _ h => zAin X hS5 q h) (zAin X hS5) (fun p9 u9 t9 H9 locs9 ht9 hv9 hw9 hB9 hz9 hk9 hS9 => ?_)
        have hZ9 := zBack X ht9 hB9
        subst hw9
        refine lv_iload_n hx hb (D_29 W_prog_7_method_23_code_32 6 rfl rfl) rfl (lv_at hl 2 rfl) ?_
        refine zsub hx hb (D_100 W_prog_7_method_23_code_32 7 rfl rfl) ?_
        obtain ⟨g10, hf⟩ := gif hf
        obtain ⟨r11, F11, B11, hc11, hf⟩ := gbind hf
        refine va_callv (va_runV (As := [.int (iI (r9 - l3))]) (rest := []) ⟨hx, hb, hml, hown, hts⟩ (c_ByteRow_putDelta (l := l) hc11) (cwV 1 hts (gdV k_7_192 k_7_193 k_7_194 k_1_2 k_7_195) rfl rfl rfl (by decide +kernel) ⟨Nat.le_of_ble_eq_true rfl, Nat.le_of_ble_eq_true rfl⟩) (zPV X hZ9 hS9 (ci := 0) g10.1 g10.2 (r := (RX0, TX0, 3)) rfl [.int (iI (r9 - l3))]) rfl rfl hl.1 rfl (lv_room (Nat.le_of_ble_eq_true rfl)) (D_182 W_prog_7_method_23_code_32 8 rfl rfl rfl) ⟨Nat.le_of_ble_eq_true rfl, Nat.le_of_ble_eq_true rfl⟩) hS9 (fun q _ h => zAin X hS9 q h) (zAin X hS9) (fun u11 t11 H11 locs11 ht11 hv11 hw11 hB11 hz11 hk11 hS11 => ?_)
        have hZ11 := zBack X ht11 hB11
        refine lv_aload_n hx hb (D_42 W_prog_7_method_23_code_32 11 rfl rfl) rfl (lv_at hl 3 rfl) ?_
        refine lv_iload hx hb (D_21 W_prog_7_method_23_code_32 12 rfl rfl) (lv_at hl 0 rfl) ?_
        refine lv_iconst (v := iI 0) hx hb (D_3 W_prog_7_method_23_code_32 14 rfl rfl) rfl ?_
        obtain ⟨r12, F12, B12, hc12, hf⟩ := gbind hf
        refine va_calli (va_runV (As := [.int (iI l5), .int (iI 0)]) (rest := []) ⟨hx, hb, hml, hown, hts⟩ (c_Performance_strokeTold (l := l) hc12) (cwV 2 hts (gdV k_7_191 k_7_113 k_7_114 k_1_20 k_7_115) rfl rfl rfl (by decide +kernel) ⟨Nat.le_of_ble_eq_true rfl, Nat.le_of_ble_eq_true rfl⟩) (zPV X hZ11 hS11 (ci := 5) g1.1 g1.2 (r := (RX5, TX5, 14)) rfl [.int (iI l5), .int (iI 0)]) rfl rfl hl.1 rfl (lv_room (Nat.le_of_ble_eq_true rfl)) (D_182 W_prog_7_method_23_code_32 15 rfl rfl rfl) ⟨Nat.le_of_ble_eq_true rfl, Nat.le_of_ble_eq_true rfl⟩) hS11 (fun q _ h => zAin X hS11 q h) (zAin X hS11) (fun p12 u12 t12 H12 locs12 ht12 hv12 hw12 hB12 hz12 hk12 hS12 => ?_)
        have hZ12 := zBack X ht12 hB12
        subst hw12
        refine lv_istore_n (lv' := [(3, .int (iI r12)), (5, .int (iI l5)), (4, .int (iI l4)), (0, .ref (ad 5 l0 0)), (1, .int (iI l1)), (2, .ref (ad 0 l2 0))]) hx hb (D_62 W_prog_7_method_23_code_32 18 rfl rfl) rfl hl (by decide) rfl (fun ls hl => ?_)
        refine lv_iload hx hb (D_21 W_prog_7_method_23_code_32 19 rfl rfl) (lv_at hl 2 rfl) ?_
        obtain ⟨g13, hf⟩ := gif hf
        refine z0ne (tgt := 65) hx hb g13 (D_154 W_prog_7_method_23_code_32 21 rfl rfl rfl) (by decide) (fun h14 => ?_) (fun h14 => ?_)
        · replace hf := gneg hf h14
          exact b_Performance_writeStrokes_65 X ih hf hZ12 hS12 (lv_sub hl [0, 1, 3, 4, 5] rfl)
        · replace hf := gpos hf h14
          refine lv_aload_n hx hb (D_44 W_prog_7_method_23_code_32 24 rfl rfl) rfl (lv_at hl 5 rfl) ?_
          refine lv_sipush (v := iI 144) hx hb (D_17 W_prog_7_method_23_code_32 25 rfl rfl rfl) (by decide) ?_
          refine lv_iload_n hx hb (D_27 W_prog_7_method_23_code_32 28 rfl rfl) rfl (lv_at hl 4 rfl) ?_
          refine zadd hx hb (D_96 W_prog_7_method_23_code_32 29 rfl rfl) ?_
          obtain ⟨r15, F15, B15, hc15, hf⟩ := gbind hf
          refine va_callv (va_runV (As := [.int (iI (144 + l1))]) (rest := []) ⟨hx, hb, hml, hown, hts⟩ (c_ByteRow_put (l := l) hc15) (cwV 1 hts (gdV k_7_168 k_2_171 k_2_172 k_1_2 k_2_173) rfl rfl rfl (by decide +kernel) ⟨Nat.le_of_ble_eq_true rfl, Nat.le_of_ble_eq_true rfl⟩) (zPV X hZ12 hS12 (ci := 0) g10.1 g10.2 (r := (RX0, TX0, 3)) rfl [.int (iI (144 + l1))]) rfl rfl hl.1 rfl (lv_room (Nat.le_of_ble_eq_true rfl)) (D_182 W_prog_7_method_23_code_32 30 rfl rfl rfl) ⟨Nat.le_of_ble_eq_true rfl, Nat.le_of_ble_eq_true rfl⟩) hS12 (fun q _ h => zAin X hS12 q h) (zAin X hS12) (fun u15 t15 H15 locs15 ht15 hv15 hw15 hB15 hz15 hk15 hS15 => ?_)
          have hZ15 := zBack X ht15 hB15
          exact b_Performance_writeStrokes_65 X ih hf hZ15 hS15 (lv_sub hl [0, 1, 3, 4, 5] rfl)

def f_Performance_writeStrokes (K : zK) (l0 : Int) (l1 : Int) (l2 : Int) (F : zF) (B : zB) : zO := f_Performance_writeStrokes_8 K K.1 0 0 0 l0 l1 l2 F B
set_option maxHeartbeats 4000000 in
set_option maxRecDepth 100000 in
theorem c_Performance_writeStrokes {l : Launch} {D : va_G} {ca : Nat → ClassId} {ad : Nat → Int → Nat → Nat} {L : List Nat} {aS vS : Nat → Nat} {sz : Nat} {K : zK}  {l0 : Int} {l1 : Int} {l2 : Int} {F F9 : zF} {B B9 : zB} {r : Int} (hf : f_Performance_writeStrokes K l0 l1 l2 F B = some (r, F9, B9)) : Met l ({ cls := "StaveHouse$Performance", name := "writeStrokes", desc := "(ILStaveHouse$ByteRow;)V" } : Jvm.MethodName) (Cond.code ({ cls := "StaveHouse$Performance", name := "writeStrokes", desc := "(ILStaveHouse$ByteRow;)V" } : Jvm.MethodName) prog_7_method_23_code 6 (Option.none : Option Jvm.ClassFile.FieldType) :: wAll) ({ frames := 2, cells := 0, slots := 0, locals := 43 } : Room) (va_Pc [.ref (ad 5 l0 0), .int (iI l1), .ref (ad 0 l2 0)] (zPre D ca ad lnC K.2 L aS vS F B sz)) (Q_Performance_writeStrokes K D ca ad L r F9 B9 (zA L sz)) 0 0 (zA L sz) := by
  refine zMet (Qc := Q_Performance_writeStrokes K D ca ad L r F9 B9) (lv := [(0, .ref (ad 5 l0 0)), (1, .int (iI l1)), (2, .ref (ad 0 l2 0))]) (by decide) (Nat.le_of_ble_eq_true rfl) rfl (fun A p e s m below meth c ls X hZ hS hl => ?_)
  obtain ⟨hx, hb, hr, hml, hown, hts, hlk, hK, hA, hL, hX⟩ := id X
  replace hf : (f_Performance_writeStrokes_8 K K.1 0 0 0 l0 l1 l2 F B) = some (r, F9, B9) := hf
  refine lv_iconst (v := iI 0) hx hb (D_3 W_prog_7_method_23_code_0 0 rfl rfl) rfl ?_
  refine lv_istore_n (lv' := [(3, .int (iI 0)), (0, .ref (ad 5 l0 0)), (1, .int (iI l1)), (2, .ref (ad 0 l2 0))]) hx hb (D_62 W_prog_7_method_23_code_0 1 rfl rfl) rfl hl (by decide) rfl (fun ls hl => ?_)
  refine lv_iconst (v := iI 0) hx hb (D_3 W_prog_7_method_23_code_0 2 rfl rfl) rfl ?_
  refine lv_istore (lv' := [(4, .int (iI 0)), (3, .int (iI 0)), (0, .ref (ad 5 l0 0)), (1, .int (iI l1)), (2, .ref (ad 0 l2 0))]) hx hb (D_54 W_prog_7_method_23_code_0 3 rfl rfl) hl (by decide) rfl (fun ls hl => ?_)
  refine lv_iconst (v := iI 0) hx hb (D_3 W_prog_7_method_23_code_0 5 rfl rfl) rfl ?_
  refine lv_istore (lv' := [(5, .int (iI 0)), (4, .int (iI 0)), (3, .int (iI 0)), (0, .ref (ad 5 l0 0)), (1, .int (iI l1)), (2, .ref (ad 0 l2 0))]) hx hb (D_54 W_prog_7_method_23_code_0 6 rfl rfl) hl (by decide) rfl (fun ls hl => ?_)
  exact b_Performance_writeStrokes_8 X hf hZ hS (lv_sub hl [0, 1, 2, 3, 4, 5] rfl)

abbrev Q_SoundFile_take (K : zK) (D : va_G) (ca : Nat → ClassId) (ad : Nat → Int → Nat → Nat) (L : List Nat) (r : Int) (F : zF) (B : zB) (A : Nat → Prop) : Array Value → State → Outcome → State → Prop := va_Qi (S := Unit) (fun p _ => p = iI r) (fun _ => zPo D ca ad lnC K.2 L F B A) A
def f_SoundFile_take_18 (K : zK) (l0 : Int) (F : zF) (B : zB) : zO := if 0 ≤ l0 ∧ l0 < K.2 8 then zbind (f_SoundFile_refuse K l0 2 (F 8 l0 6) F B) (fun r10 F10 B10 => some (0, F10, B10)) else none
set_option maxHeartbeats 4000000 in
set_option maxRecDepth 100000 in
theorem b_SoundFile_take_18 {D : va_G} {ca : Nat → ClassId} {ad : Nat → Int → Nat → Nat} {L : List Nat} {aS vS : Nat → Nat} {A : Nat → Prop} {p : Program} {l : Launch} {e : Env} {s : State} {m : MethodId} {args : Array Value} {below : List Frame} {meth : Method} {c : Code} {K : zK} {r : Int} {F9 : zF} {B9 : zB} (X : zX D ca L aS vS A p s m args meth c prog_10_method_5_code 1 (Option.some Jvm.ClassFile.FieldType.int) "StaveHouse$SoundFile") {l0 : Int} {F : zF} {B : zB} {H : Heap} {locs : List Loc} {ls : Array Slot} (hf : f_SoundFile_take_18 K l0 F B = some (r, F9, B9)) (hZ : zH D ca ad lnC K.2 L F B A H) (hS : va_S A s.heap H locs) (hl : lv_has ls 1 [(0, .ref (ad 8 l0 0))]) : W p l e ({ frames := 1, cells := 0, slots := 0, locals := 22 } : Room) s m args below meth c H locs 0 0 (MQ below (Q_SoundFile_take K D ca ad L r F9 B9 A) args s 0 0 A) (F0 m 18 ls []) := by
  obtain ⟨hx, hb, hr, hml, hown, hts, hlk, hK, hA, hL, hX⟩ := id X
  replace hf : (if 0 ≤ l0 ∧ l0 < K.2 8 then zbind (f_SoundFile_refuse K l0 2 (F 8 l0 6) F B) (fun r10 F10 B10 => some (0, F10, B10)) else none) = some (r, F9, B9) := hf
  refine lv_aload_n hx hb (D_42 W_prog_10_method_5_code_0 18 rfl rfl) rfl (lv_at hl 0 rfl) ?_
  refine lv_iconst (v := iI 2) hx hb (D_5 W_prog_10_method_5_code_0 19 rfl rfl) rfl ?_
  refine lv_aload_n hx hb (D_42 W_prog_10_method_5_code_0 20 rfl rfl) rfl (lv_at hl 0 rfl) ?_
  obtain ⟨g9, hf⟩ := gif hf
  refine zget (ci := 8) (C := RX8) (T := TX8) (v := .int (iI (F 8 l0 6))) (k := 6) hx hb hts inW_8 hown hK hZ g9.1 g9.2 rfl (by decide) k_7_230 rfl (D_180 W_prog_10_method_5_code_0 21 rfl rfl rfl) ?_
  obtain ⟨r10, F10, B10, hc10, hf⟩ := gbind hf
  refine va_callv (va_runV (As := [.int (iI 2), .int (iI (F 8 l0 6))]) (rest := []) ⟨hx, hb, hml, hown, hts⟩ (c_SoundFile_refuse (l := l) hc10) (cwV 2 hts (gdV k_8_53 k_8_55 ks_96 k_1_23 k_8_56) rfl rfl rfl (by decide +kernel) ⟨Nat.le_of_ble_eq_true rfl, Nat.le_of_ble_eq_true rfl⟩) (zPV X hZ hS (ci := 8) g9.1 g9.2 (r := (RX8, TX8, 15)) rfl [.int (iI 2), .int (iI (F 8 l0 6))]) rfl rfl hl.1 rfl (lv_room (Nat.le_of_ble_eq_true rfl)) (D_182 W_prog_10_method_5_code_0 24 rfl rfl rfl) ⟨Nat.le_of_ble_eq_true rfl, Nat.le_of_ble_eq_true rfl⟩) hS (fun q _ h => zAin X hS q h) (zAin X hS) (fun u10 t10 H10 locs10 ht10 hv10 hw10 hB10 hz10 hk10 hS10 => ?_)
  have hZ10 := zBack X ht10 hB10
  refine lv_iconst (v := iI 0) hx hb (D_3 W_prog_10_method_5_code_0 27 rfl rfl) rfl ?_
  cases hf
  exact W.iret hx hb hr (fun t ht hW => ⟨⟨_, (), rfl, rfl, by rw [ht]; exact hZ10, va_K.moved hW.alike hK⟩, hS10.F ht⟩) hS10.2.2 (D_172 W_prog_10_method_5_code_0 28 rfl rfl) hlk

def f_SoundFile_take (K : zK) (l0 : Int) (F : zF) (B : zB) : zO := if 0 ≤ l0 ∧ l0 < K.2 8 then if r32 (F 8 l0 5) then if r32 (F 8 l0 6) then (if (F 8 l0 6) ≤ (F 8 l0 5) then f_SoundFile_take_18 K l0 F B else (if (F 8 l0 4) < 0 then f_SoundFile_take_18 K l0 F B else if 0 ≤ (F 8 l0 4) ∧ (F 8 l0 4) < K.2 0 then zbind (f_ByteRow_at K (F 8 l0 4) (((F 8 l0 5) + 1) - 1) (zup3 F 8 l0 5 ((F 8 l0 5) + 1)) B) (fun r8 F8 B8 => some (r8, F8, B8)) else none)) else none else none else none
set_option maxHeartbeats 4000000 in
set_option maxRecDepth 100000 in
theorem c_SoundFile_take {l : Launch} {D : va_G} {ca : Nat → ClassId} {ad : Nat → Int → Nat → Nat} {L : List Nat} {aS vS : Nat → Nat} {sz : Nat} {K : zK}  {l0 : Int} {F F9 : zF} {B B9 : zB} {r : Int} (hf : f_SoundFile_take K l0 F B = some (r, F9, B9)) : Met l ({ cls := "StaveHouse$SoundFile", name := "take", desc := "()I" } : Jvm.MethodName) (Cond.code ({ cls := "StaveHouse$SoundFile", name := "take", desc := "()I" } : Jvm.MethodName) prog_10_method_5_code 1 (Option.some Jvm.ClassFile.FieldType.int) :: wAll) ({ frames := 1, cells := 0, slots := 0, locals := 22 } : Room) (va_Pc [.ref (ad 8 l0 0)] (zPre D ca ad lnC K.2 L aS vS F B sz)) (Q_SoundFile_take K D ca ad L r F9 B9 (zA L sz)) 0 0 (zA L sz) := by
  refine zMet (Qc := Q_SoundFile_take K D ca ad L r F9 B9) (lv := [(0, .ref (ad 8 l0 0))]) (by decide) (Nat.le_of_ble_eq_true rfl) rfl (fun A p e s m below meth c ls X hZ hS hl => ?_)
  obtain ⟨hx, hb, hr, hml, hown, hts, hlk, hK, hA, hL, hX⟩ := id X
  replace hf : (if 0 ≤ l0 ∧ l0 < K.2 8 then if r32 (F 8 l0 5) then if r32 (F 8 l0 6) then (if (F 8 l0 6) ≤ (F 8 l0 5) then f_SoundFile_take_18 K l0 F B else (if (F 8 l0 4) < 0 then f_SoundFile_take_18 K l0 F B else if 0 ≤ (F 8 l0 4) ∧ (F 8 l0 4) < K.2 0 then zbind (f_ByteRow_at K (F 8 l0 4) (((F 8 l0 5) + 1) - 1) (zup3 F 8 l0 5 ((F 8 l0 5) + 1)) B) (fun r8 F8 B8 => some (r8, F8, B8)) else none)) else none else none else none) = some (r, F9, B9) := hf
  refine lv_aload_n hx hb (D_42 W_prog_10_method_5_code_0 0 rfl rfl) rfl (lv_at hl 0 rfl) ?_
  obtain ⟨g1, hf⟩ := gif hf
  refine zget (ci := 8) (C := RX8) (T := TX8) (v := .int (iI (F 8 l0 5))) (k := 5) hx hb hts inW_8 hown hK hZ g1.1 g1.2 rfl (by decide) k_7_229 rfl (D_180 W_prog_10_method_5_code_0 1 rfl rfl rfl) ?_
  refine lv_aload_n hx hb (D_42 W_prog_10_method_5_code_0 4 rfl rfl) rfl (lv_at hl 0 rfl) ?_
  refine zget (ci := 8) (C := RX8) (T := TX8) (v := .int (iI (F 8 l0 6))) (k := 6) hx hb hts inW_8 hown hK hZ g1.1 g1.2 rfl (by decide) k_7_230 rfl (D_180 W_prog_10_method_5_code_0 5 rfl rfl rfl) ?_
  obtain ⟨g2, hf⟩ := gif hf
  obtain ⟨g3, hf⟩ := gif hf
  refine zge (tgt := 18) hx hb g2 g3 (D_162 W_prog_10_method_5_code_0 8 rfl rfl rfl) (by decide) (fun h4 => ?_) (fun h4 => ?_)
  · replace hf := gpos hf h4
    exact b_SoundFile_take_18 X hf hZ hS (lv_sub hl [0] rfl)
  · replace hf := gneg hf h4
    refine lv_aload_n hx hb (D_42 W_prog_10_method_5_code_0 11 rfl rfl) rfl (lv_at hl 0 rfl) ?_
    refine zget (ci := 8) (C := RX8) (T := TX8) (v := va_rf (zrf ad 0 (F 8 l0 4))) (k := 4) hx hb hts inW_8 hown hK hZ g1.1 g1.2 rfl (by decide) k_7_228 rfl (D_180 W_prog_10_method_5_code_0 12 rfl rfl rfl) ?_
    refine zifnonnull (tgt := 29) hx hb (D_199 W_prog_10_method_5_code_0 15 rfl rfl rfl) (by decide) (fun h5 => ?_) (fun h5 => ?_)
    · replace hf := gneg hf h5
      refine lv_aload_n hx hb (D_42 W_prog_10_method_5_code_0 29 rfl rfl) rfl (lv_at hl 0 rfl) ?_
      refine lv_dup hx hb (D_89 W_prog_10_method_5_code_0 30 rfl rfl) rfl ?_
      refine zget (ci := 8) (C := RX8) (T := TX8) (v := .int (iI (F 8 l0 5))) (k := 5) hx hb hts inW_8 hown hK hZ g1.1 g1.2 rfl (by decide) k_7_229 rfl (D_180 W_prog_10_method_5_code_0 31 rfl rfl rfl) ?_
      refine lv_iconst (v := iI 1) hx hb (D_4 W_prog_10_method_5_code_32 2 rfl rfl) rfl ?_
      refine zadd hx hb (D_96 W_prog_10_method_5_code_32 3 rfl rfl) ?_
      refine zput (ci := 8) (C := RX8) (T := TX8) (k := 5) (v := ((F 8 l0 5) + 1)) (w := .int (iI ((F 8 l0 5) + 1))) hx hb hts inW_8 tyX8 tyX8_ok nmX8 hown hK hZ hS g1.1 g1.2 rfl (by decide) k_7_229 rfl (fun G h => congrArg (fun q => Value.int (iI q)) h) rfl rfl (zno (by decide)) (D_181 W_prog_10_method_5_code_32 4 rfl rfl rfl) (fun H6 locs6 hZ6 hS6 => ?_)
      refine lv_aload_n hx hb (D_42 W_prog_10_method_5_code_32 7 rfl rfl) rfl (lv_at hl 0 rfl) ?_
      refine zget (ci := 8) (C := RX8) (T := TX8) (v := va_rf (zrf ad 0 (F 8 l0 4))) (k := 4) hx hb hts inW_8 hown hK hZ6 g1.1 g1.2 rfl (by decide) k_7_228 (congrArg (fun q : Int => va_rf (zrf ad 0 q)) (show (zup3 F 8 l0 5 ((F 8 l0 5) + 1)) 8 l0 4 = F 8 l0 4 by simp [zup3])) (D_180 W_prog_10_method_5_code_32 8 rfl rfl rfl) ?_
      refine lv_aload_n hx hb (D_42 W_prog_10_method_5_code_32 11 rfl rfl) rfl (lv_at hl 0 rfl) ?_
      refine zget (ci := 8) (C := RX8) (T := TX8) (v := .int (iI ((F 8 l0 5) + 1))) (k := 5) hx hb hts inW_8 hown hK hZ6 g1.1 g1.2 rfl (by decide) k_7_229 (congrArg (fun q : Int => Value.int (iI q)) (show (zup3 F 8 l0 5 ((F 8 l0 5) + 1)) 8 l0 5 = (F 8 l0 5) + 1 by simp [zup3])) (D_180 W_prog_10_method_5_code_32 12 rfl rfl rfl) ?_
      refine lv_iconst (v := iI 1) hx hb (D_4 W_prog_10_method_5_code_32 15 rfl rfl) rfl ?_
      refine zsub hx hb (D_100 W_prog_10_method_5_code_32 16 rfl rfl) ?_
      obtain ⟨g7, hf⟩ := gif hf
      refine W.eq (g2 := F0 m 49 ls [.int (iI (((F 8 l0 5) + 1) - 1)), .ref (ad 0 (F 8 l0 4) 0)]) (by rw [zrf_pos (ad := ad) (t := 0) g7.1]; try rfl) ?_
      obtain ⟨r8, F8, B8, hc8, hf⟩ := gbind hf
      refine va_calli (va_runV (As := [.int (iI (((F 8 l0 5) + 1) - 1))]) (rest := []) ⟨hx, hb, hml, hown, hts⟩ (c_ByteRow_at (l := l) hc8) (cwV 1 hts (gdV k_8_57 k_3_35 k_3_36 k_1_2 k_3_37) rfl rfl rfl (by decide +kernel) ⟨Nat.le_of_ble_eq_true rfl, Nat.le_of_ble_eq_true rfl⟩) (zPV X hZ6 hS6 (ci := 0) g7.1 g7.2 (r := (RX0, TX0, 3)) rfl [.int (iI (((F 8 l0 5) + 1) - 1))]) rfl rfl hl.1 rfl (lv_room (Nat.le_of_ble_eq_true rfl)) (D_182 W_prog_10_method_5_code_32 17 rfl rfl rfl) ⟨Nat.le_of_ble_eq_true rfl, Nat.le_of_ble_eq_true rfl⟩) hS6 (fun q _ h => zAin X hS6 q h) (zAin X hS6) (fun p8 u8 t8 H8 locs8 ht8 hv8 hw8 hB8 hz8 hk8 hS8 => ?_)
      have hZ8 := zBack X ht8 hB8
      subst hw8
      cases hf
      exact W.iret hx hb hr (fun t ht hW => ⟨⟨_, (), rfl, rfl, by rw [ht]; exact hZ8, va_K.moved hW.alike hK⟩, hS8.F ht⟩) hS8.2.2 (D_172 W_prog_10_method_5_code_32 20 rfl rfl) hlk
    · replace hf := gpos hf h5
      exact b_SoundFile_take_18 X hf hZ hS (lv_sub hl [0] rfl)


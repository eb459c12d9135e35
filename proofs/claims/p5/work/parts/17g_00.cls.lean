theorem k_2_49 : (Jvm.Cond.fieldLink "StaveHouse$Performance" (83 : Nat) "StaveHouse$Event" "count" "I") ∈ wAll := wA_2 (j := 49) rfl rfl
theorem k_2_22 : (Jvm.Cond.fieldLink "StaveHouse$Performance" (109 : Nat) "StaveHouse$Event" "place" "J") ∈ wAll := wA_2 (j := 22) rfl rfl
theorem k_2_25 : (Jvm.Cond.fieldLink "StaveHouse$Performance" (121 : Nat) "StaveHouse$Event" "length" "J") ∈ wAll := wA_2 (j := 25) rfl rfl
theorem k_6_126 : (Jvm.Cond.methodLink "StaveHouse$Performance" (113 : Nat) ({ cls := "StaveHouse$Performance", name := "tick", desc := "(J)I" } : Jvm.MethodName)) ∈ wAll := wA_6 (j := 126) rfl rfl
theorem k_6_127 : (Jvm.Cond.static ({ cls := "StaveHouse$Performance", name := "tick", desc := "(J)I" } : Jvm.MethodName)) ∈ wAll := wA_6 (j := 127) rfl rfl
theorem k_1_20 : (Jvm.Cond.initialized "StaveHouse$Performance") ∈ wAll := wA_1 (j := 20) rfl rfl
theorem k_6_128 : (Jvm.Cond.code ({ cls := "StaveHouse$Performance", name := "tick", desc := "(J)I" } : Jvm.MethodName) prog_7_method_4_code (2 : Nat) (Option.some Jvm.ClassFile.FieldType.int)) ∈ wAll := wA_6 (j := 128) rfl rfl
theorem k_6_121 : (Jvm.Cond.methodLink "StaveHouse$Performance" (88 : Nat) ({ cls := "StaveHouse$Part", name := "isTiedFrom", desc := "(II)Z" } : Jvm.MethodName)) ∈ wAll := wA_6 (j := 121) rfl rfl
theorem k_6_180 : (Jvm.Cond.methodLink "StaveHouse" (187 : Nat) ({ cls := "StaveHouse", name := "eventAt", desc := "(III)LStaveHouse$Event;" } : Jvm.MethodName)) ∈ wAll := wA_6 (j := 180) rfl rfl
theorem k_6_182 : (Jvm.Cond.instanceMethod ({ cls := "StaveHouse", name := "eventAt", desc := "(III)LStaveHouse$Event;" } : Jvm.MethodName)) ∈ wAll := wA_6 (j := 182) rfl rfl
theorem ks_78 : (Jvm.Cond.selects "StaveHouse" ({ cls := "StaveHouse", name := "eventAt", desc := "(III)LStaveHouse$Event;" } : Jvm.MethodName) ({ cls := "StaveHouse", name := "eventAt", desc := "(III)LStaveHouse$Event;" } : Jvm.MethodName)) ∈ wAll := wA_s (j := 78) rfl rfl
theorem k_6_183 : (Jvm.Cond.code ({ cls := "StaveHouse", name := "eventAt", desc := "(III)LStaveHouse$Event;" } : Jvm.MethodName) prog_1_method_8_code (5 : Nat) (Option.some (Jvm.ClassFile.FieldType.object "StaveHouse$Event"))) ∈ wAll := wA_6 (j := 183) rfl rfl
theorem k_2_52 : (Jvm.Cond.fieldLink "StaveHouse" (206 : Nat) "StaveHouse$Event" "count" "I") ∈ wAll := wA_2 (j := 52) rfl rfl
theorem k_2_62 : (Jvm.Cond.fieldLink "StaveHouse" (219 : Nat) "StaveHouse$Event" "steps" "[I") ∈ wAll := wA_2 (j := 62) rfl rfl
theorem k_2_68 : (Jvm.Cond.fieldLink "StaveHouse" (222 : Nat) "StaveHouse$Event" "alterations" "[I") ∈ wAll := wA_2 (j := 68) rfl rfl
theorem k_4_150 : (Jvm.Cond.fieldLink "StaveHouse" (180 : Nat) "StaveHouse$Part" "noteCount" "I") ∈ wAll := wA_4 (j := 150) rfl rfl
theorem k_4_144 : (Jvm.Cond.fieldLink "StaveHouse" (233 : Nat) "StaveHouse$Part" "notes" "[[I") ∈ wAll := wA_4 (j := 144) rfl rfl
theorem k_4_147 : (Jvm.Cond.fieldLink "StaveHouse" (229 : Nat) "StaveHouse$Part" "notePlaces" "[J") ∈ wAll := wA_4 (j := 147) rfl rfl
theorem k_6_192 : (Jvm.Cond.methodLink "StaveHouse" (201 : Nat) ({ cls := "StaveHouse", name := "below", desc := "(J)J" } : Jvm.MethodName)) ∈ wAll := wA_6 (j := 192) rfl rfl
theorem k_6_193 : (Jvm.Cond.static ({ cls := "StaveHouse", name := "below", desc := "(J)J" } : Jvm.MethodName)) ∈ wAll := wA_6 (j := 193) rfl rfl
theorem k_6_194 : (Jvm.Cond.code ({ cls := "StaveHouse", name := "below", desc := "(J)J" } : Jvm.MethodName) prog_1_method_36_code (4 : Nat) (Option.some Jvm.ClassFile.FieldType.long)) ∈ wAll := wA_6 (j := 194) rfl rfl
theorem k_6_229 : (Jvm.Cond.fieldLink "StaveHouse$Layout" (43 : Nat) "StaveHouse$Layout" "nexts" "[I") ∈ wAll := wA_6 (j := 229) rfl rfl
theorem k_2_193 : (Jvm.Cond.fieldLink "StaveHouse$Layout" (95 : Nat) "StaveHouse$Piece" "partCount" "I") ∈ wAll := wA_2 (j := 193) rfl rfl
theorem k_2_188 : (Jvm.Cond.fieldLink "StaveHouse$Layout" (98 : Nat) "StaveHouse$Piece" "parts" "[LStaveHouse$Part;") ∈ wAll := wA_2 (j := 188) rfl rfl
theorem k_6_227 : (Jvm.Cond.fieldLink "StaveHouse$Layout" (37 : Nat) "StaveHouse$Layout" "best" "[J") ∈ wAll := wA_6 (j := 227) rfl rfl
theorem k_2_225 : (Jvm.Cond.fieldLink "StaveHouse" (159 : Nat) "StaveHouse$Piece" "layout" "LStaveHouse$Layout;") ∈ wAll := wA_2 (j := 225) rfl rfl
theorem k_7_165 : (Jvm.Cond.methodLink "StaveHouse$Performance" (226 : Nat) ({ cls := "StaveHouse$Performance", name := "putMeta", desc := "(LStaveHouse$ByteRow;II)V" } : Jvm.MethodName)) ∈ wAll := wA_7 (j := 165) rfl rfl
theorem k_7_166 : (Jvm.Cond.static ({ cls := "StaveHouse$Performance", name := "putMeta", desc := "(LStaveHouse$ByteRow;II)V" } : Jvm.MethodName)) ∈ wAll := wA_7 (j := 166) rfl rfl
theorem k_7_167 : (Jvm.Cond.code ({ cls := "StaveHouse$Performance", name := "putMeta", desc := "(LStaveHouse$ByteRow;II)V" } : Jvm.MethodName) prog_7_method_20_code (3 : Nat) (Option.none : Option Jvm.ClassFile.FieldType)) ∈ wAll := wA_7 (j := 167) rfl rfl
theorem k_1_47 : (Jvm.Cond.fieldLink "StaveHouse$Performance" (223 : Nat) "StaveHouse$ByteRow" "size" "I") ∈ wAll := wA_1 (j := 47) rfl rfl
theorem k_7_191 : (Jvm.Cond.methodLink "StaveHouse$Performance" (273 : Nat) ({ cls := "StaveHouse$Performance", name := "strokeTold", desc := "(II)I" } : Jvm.MethodName)) ∈ wAll := wA_7 (j := 191) rfl rfl
theorem k_7_113 : (Jvm.Cond.instanceMethod ({ cls := "StaveHouse$Performance", name := "strokeTold", desc := "(II)I" } : Jvm.MethodName)) ∈ wAll := wA_7 (j := 113) rfl rfl
theorem k_7_114 : (Jvm.Cond.selects "StaveHouse$Performance" ({ cls := "StaveHouse$Performance", name := "strokeTold", desc := "(II)I" } : Jvm.MethodName) ({ cls := "StaveHouse$Performance", name := "strokeTold", desc := "(II)I" } : Jvm.MethodName)) ∈ wAll := wA_7 (j := 114) rfl rfl
theorem k_7_115 : (Jvm.Cond.code ({ cls := "StaveHouse$Performance", name := "strokeTold", desc := "(II)I" } : Jvm.MethodName) prog_7_method_15_code (5 : Nat) (Option.some Jvm.ClassFile.FieldType.int)) ∈ wAll := wA_7 (j := 115) rfl rfl
theorem k_7_228 : (Jvm.Cond.fieldLink "StaveHouse$SoundFile" (23 : Nat) "StaveHouse$SoundFile" "row" "LStaveHouse$ByteRow;") ∈ wAll := wA_7 (j := 228) rfl rfl
theorem k_8_57 : (Jvm.Cond.methodLink "StaveHouse$SoundFile" (87 : Nat) ({ cls := "StaveHouse$ByteRow", name := "at", desc := "(I)I" } : Jvm.MethodName)) ∈ wAll := wA_8 (j := 57) rfl rfl
theorem k_6_35 : (Jvm.Cond.methodLink "StaveHouse$Study" (123 : Nat) ({ cls := "StaveHouse$Study", name := "consonance", desc := "(IIII)I" } : Jvm.MethodName)) ∈ wAll := wA_6 (j := 35) rfl rfl
theorem k_6_36 : (Jvm.Cond.static ({ cls := "StaveHouse$Study", name := "consonance", desc := "(IIII)I" } : Jvm.MethodName)) ∈ wAll := wA_6 (j := 36) rfl rfl
theorem k_6_37 : (Jvm.Cond.code ({ cls := "StaveHouse$Study", name := "consonance", desc := "(IIII)I" } : Jvm.MethodName) prog_11_method_10_code (7 : Nat) (Option.some Jvm.ClassFile.FieldType.int)) ∈ wAll := wA_6 (j := 37) rfl rfl
theorem k_6_131 : (Jvm.Cond.methodLink "StaveHouse$Performance" (124 : Nat) ({ cls := "StaveHouse$Event", name := "tone", desc := "(I)I" } : Jvm.MethodName)) ∈ wAll := wA_6 (j := 131) rfl rfl
theorem k_6_22 : (Jvm.Cond.instanceMethod ({ cls := "StaveHouse$Event", name := "tone", desc := "(I)I" } : Jvm.MethodName)) ∈ wAll := wA_6 (j := 22) rfl rfl
theorem k_6_23 : (Jvm.Cond.selects "StaveHouse$Event" ({ cls := "StaveHouse$Event", name := "tone", desc := "(I)I" } : Jvm.MethodName) ({ cls := "StaveHouse$Event", name := "tone", desc := "(I)I" } : Jvm.MethodName)) ∈ wAll := wA_6 (j := 23) rfl rfl
theorem k_6_24 : (Jvm.Cond.code ({ cls := "StaveHouse$Event", name := "tone", desc := "(I)I" } : Jvm.MethodName) prog_3_method_4_code (2 : Nat) (Option.some Jvm.ClassFile.FieldType.int)) ∈ wAll := wA_6 (j := 24) rfl rfl
theorem k_6_139 : (Jvm.Cond.methodLink "StaveHouse$Performance" (105 : Nat) ({ cls := "StaveHouse$Performance", name := "force", desc := "(LStaveHouse$Event;)I" } : Jvm.MethodName)) ∈ wAll := wA_6 (j := 139) rfl rfl
theorem k_6_140 : (Jvm.Cond.static ({ cls := "StaveHouse$Performance", name := "force", desc := "(LStaveHouse$Event;)I" } : Jvm.MethodName)) ∈ wAll := wA_6 (j := 140) rfl rfl
theorem k_6_141 : (Jvm.Cond.code ({ cls := "StaveHouse$Performance", name := "force", desc := "(LStaveHouse$Event;)I" } : Jvm.MethodName) prog_7_method_5_code (1 : Nat) (Option.some Jvm.ClassFile.FieldType.int)) ∈ wAll := wA_6 (j := 141) rfl rfl
theorem k_6_146 : (Jvm.Cond.methodLink "StaveHouse$Performance" (117 : Nat) ({ cls := "StaveHouse$Performance", name := "lastTied", desc := "(LStaveHouse$Part;II)I" } : Jvm.MethodName)) ∈ wAll := wA_6 (j := 146) rfl rfl
theorem k_6_147 : (Jvm.Cond.static ({ cls := "StaveHouse$Performance", name := "lastTied", desc := "(LStaveHouse$Part;II)I" } : Jvm.MethodName)) ∈ wAll := wA_6 (j := 147) rfl rfl
theorem k_6_148 : (Jvm.Cond.code ({ cls := "StaveHouse$Performance", name := "lastTied", desc := "(LStaveHouse$Part;II)I" } : Jvm.MethodName) prog_7_method_8_code (6 : Nat) (Option.some Jvm.ClassFile.FieldType.int)) ∈ wAll := wA_6 (j := 148) rfl rfl
theorem k_6_150 : (Jvm.Cond.methodLink "StaveHouse$Performance" (127 : Nat) ({ cls := "StaveHouse$Performance", name := "sounded", desc := "(LStaveHouse$Event;I)I" } : Jvm.MethodName)) ∈ wAll := wA_6 (j := 150) rfl rfl
theorem k_6_151 : (Jvm.Cond.static ({ cls := "StaveHouse$Performance", name := "sounded", desc := "(LStaveHouse$Event;I)I" } : Jvm.MethodName)) ∈ wAll := wA_6 (j := 151) rfl rfl
theorem k_6_152 : (Jvm.Cond.code ({ cls := "StaveHouse$Performance", name := "sounded", desc := "(LStaveHouse$Event;I)I" } : Jvm.MethodName) prog_7_method_9_code (2 : Nat) (Option.some Jvm.ClassFile.FieldType.int)) ∈ wAll := wA_6 (j := 152) rfl rfl
theorem k_6_135 : (Jvm.Cond.methodLink "StaveHouse$Performance" (131 : Nat) ({ cls := "StaveHouse$Performance", name := "addSound", desc := "(IIILStaveHouse$Event;II)V" } : Jvm.MethodName)) ∈ wAll := wA_6 (j := 135) rfl rfl
theorem k_6_137 : (Jvm.Cond.instanceMethod ({ cls := "StaveHouse$Performance", name := "addSound", desc := "(IIILStaveHouse$Event;II)V" } : Jvm.MethodName)) ∈ wAll := wA_6 (j := 137) rfl rfl
theorem ks_75 : (Jvm.Cond.selects "StaveHouse$Performance" ({ cls := "StaveHouse$Performance", name := "addSound", desc := "(IIILStaveHouse$Event;II)V" } : Jvm.MethodName) ({ cls := "StaveHouse$Performance", name := "addSound", desc := "(IIILStaveHouse$Event;II)V" } : Jvm.MethodName)) ∈ wAll := wA_s (j := 75) rfl rfl
theorem k_6_138 : (Jvm.Cond.code ({ cls := "StaveHouse$Performance", name := "addSound", desc := "(IIILStaveHouse$Event;II)V" } : Jvm.MethodName) prog_7_method_6_code (7 : Nat) (Option.none : Option Jvm.ClassFile.FieldType)) ∈ wAll := wA_6 (j := 138) rfl rfl
theorem k_4_119 : (Jvm.Cond.fieldLink "StaveHouse" (174 : Nat) "StaveHouse$Part" "clef" "I") ∈ wAll := wA_4 (j := 119) rfl rfl
theorem k_4_122 : (Jvm.Cond.fieldLink "StaveHouse" (177 : Nat) "StaveHouse$Part" "number" "I") ∈ wAll := wA_4 (j := 122) rfl rfl
theorem k_6_200 : (Jvm.Cond.methodLink "StaveHouse" (225 : Nat) ({ cls := "StaveHouse$Event", name := "tone", desc := "(I)I" } : Jvm.MethodName)) ∈ wAll := wA_6 (j := 200) rfl rfl
theorem k_6_185 : (Jvm.Cond.methodLink "StaveHouse" (198 : Nat) ({ cls := "StaveHouse", name := "above", desc := "(J)J" } : Jvm.MethodName)) ∈ wAll := wA_6 (j := 185) rfl rfl
theorem k_6_186 : (Jvm.Cond.static ({ cls := "StaveHouse", name := "above", desc := "(J)J" } : Jvm.MethodName)) ∈ wAll := wA_6 (j := 186) rfl rfl
theorem k_6_187 : (Jvm.Cond.code ({ cls := "StaveHouse", name := "above", desc := "(J)J" } : Jvm.MethodName) prog_1_method_35_code (4 : Nat) (Option.some Jvm.ClassFile.FieldType.long)) ∈ wAll := wA_6 (j := 187) rfl rfl
theorem k_7_35 : (Jvm.Cond.methodLink "StaveHouse$Layout" (102 : Nat) ({ cls := "StaveHouse$Layout", name := "beginsIn", desc := "(LStaveHouse$Part;II)Z" } : Jvm.MethodName)) ∈ wAll := wA_7 (j := 35) rfl rfl
theorem k_7_36 : (Jvm.Cond.static ({ cls := "StaveHouse$Layout", name := "beginsIn", desc := "(LStaveHouse$Part;II)Z" } : Jvm.MethodName)) ∈ wAll := wA_7 (j := 36) rfl rfl
theorem k_7_37 : (Jvm.Cond.code ({ cls := "StaveHouse$Layout", name := "beginsIn", desc := "(LStaveHouse$Part;II)Z" } : Jvm.MethodName) prog_4_method_6_code (3 : Nat) (Option.some Jvm.ClassFile.FieldType.boolean)) ∈ wAll := wA_7 (j := 37) rfl rfl
theorem k_4_146 : (Jvm.Cond.fieldLink "StaveHouse$Layout" (106 : Nat) "StaveHouse$Part" "notePlaces" "[J") ∈ wAll := wA_4 (j := 146) rfl rfl
theorem k_7_54 : (Jvm.Cond.constantLong "StaveHouse$Layout" (138 : Nat) (1152921504606846976 : Int64)) ∈ wAll := wA_7 (j := 54) rfl rfl
theorem k_7_55 : (Jvm.Cond.methodLink "StaveHouse$Layout" (140 : Nat) ({ cls := "StaveHouse$Layout", name := "price", desc := "(JJZ)J" } : Jvm.MethodName)) ∈ wAll := wA_7 (j := 55) rfl rfl
theorem k_7_56 : (Jvm.Cond.static ({ cls := "StaveHouse$Layout", name := "price", desc := "(JJZ)J" } : Jvm.MethodName)) ∈ wAll := wA_7 (j := 56) rfl rfl
theorem k_7_57 : (Jvm.Cond.code ({ cls := "StaveHouse$Layout", name := "price", desc := "(JJZ)J" } : Jvm.MethodName) prog_4_method_11_code (5 : Nat) (Option.some Jvm.ClassFile.FieldType.long)) ∈ wAll := wA_7 (j := 57) rfl rfl
theorem k_6_228 : (Jvm.Cond.fieldLink "StaveHouse$Layout" (40 : Nat) "StaveHouse$Layout" "breaks" "[I") ∈ wAll := wA_6 (j := 228) rfl rfl
theorem k_7_71 : (Jvm.Cond.methodLink "StaveHouse" (242 : Nat) ({ cls := "StaveHouse$Layout", name := "tell", desc := "(II)J" } : Jvm.MethodName)) ∈ wAll := wA_7 (j := 71) rfl rfl
theorem k_7_72 : (Jvm.Cond.instanceMethod ({ cls := "StaveHouse$Layout", name := "tell", desc := "(II)J" } : Jvm.MethodName)) ∈ wAll := wA_7 (j := 72) rfl rfl
theorem k_7_73 : (Jvm.Cond.selects "StaveHouse$Layout" ({ cls := "StaveHouse$Layout", name := "tell", desc := "(II)J" } : Jvm.MethodName) ({ cls := "StaveHouse$Layout", name := "tell", desc := "(II)J" } : Jvm.MethodName)) ∈ wAll := wA_7 (j := 73) rfl rfl
theorem k_7_74 : (Jvm.Cond.code ({ cls := "StaveHouse$Layout", name := "tell", desc := "(II)J" } : Jvm.MethodName) prog_4_method_13_code (3 : Nat) (Option.some Jvm.ClassFile.FieldType.long)) ∈ wAll := wA_7 (j := 74) rfl rfl
theorem k_7_79 : (Jvm.Cond.methodLink "StaveHouse" (246 : Nat) ({ cls := "StaveHouse$Layout", name := "columnX", desc := "(IJ)I" } : Jvm.MethodName)) ∈ wAll := wA_7 (j := 79) rfl rfl
theorem k_7_80 : (Jvm.Cond.instanceMethod ({ cls := "StaveHouse$Layout", name := "columnX", desc := "(IJ)I" } : Jvm.MethodName)) ∈ wAll := wA_7 (j := 80) rfl rfl
theorem k_7_81 : (Jvm.Cond.selects "StaveHouse$Layout" ({ cls := "StaveHouse$Layout", name := "columnX", desc := "(IJ)I" } : Jvm.MethodName) ({ cls := "StaveHouse$Layout", name := "columnX", desc := "(IJ)I" } : Jvm.MethodName)) ∈ wAll := wA_7 (j := 81) rfl rfl
theorem k_7_82 : (Jvm.Cond.code ({ cls := "StaveHouse$Layout", name := "columnX", desc := "(IJ)I" } : Jvm.MethodName) prog_4_method_14_code (5 : Nat) (Option.some Jvm.ClassFile.FieldType.int)) ∈ wAll := wA_7 (j := 82) rfl rfl
theorem k_7_100 : (Jvm.Cond.methodLink "StaveHouse$Performance" (180 : Nat) ({ cls := "StaveHouse$Performance", name := "merge", desc := "(III)V" } : Jvm.MethodName)) ∈ wAll := wA_7 (j := 100) rfl rfl
theorem k_7_102 : (Jvm.Cond.instanceMethod ({ cls := "StaveHouse$Performance", name := "merge", desc := "(III)V" } : Jvm.MethodName)) ∈ wAll := wA_7 (j := 102) rfl rfl
theorem ks_88 : (Jvm.Cond.selects "StaveHouse$Performance" ({ cls := "StaveHouse$Performance", name := "merge", desc := "(III)V" } : Jvm.MethodName) ({ cls := "StaveHouse$Performance", name := "merge", desc := "(III)V" } : Jvm.MethodName)) ∈ wAll := wA_s (j := 88) rfl rfl
theorem k_7_103 : (Jvm.Cond.code ({ cls := "StaveHouse$Performance", name := "merge", desc := "(III)V" } : Jvm.MethodName) prog_7_method_14_code (8 : Nat) (Option.none : Option Jvm.ClassFile.FieldType)) ∈ wAll := wA_7 (j := 103) rfl rfl
theorem k_7_112 : (Jvm.Cond.methodLink "StaveHouse" (260 : Nat) ({ cls := "StaveHouse$Performance", name := "strokeTold", desc := "(II)I" } : Jvm.MethodName)) ∈ wAll := wA_7 (j := 112) rfl rfl
theorem k_7_179 : (Jvm.Cond.methodLink "StaveHouse$Performance" (230 : Nat) ({ cls := "StaveHouse$ByteRow", name := "setWide", desc := "(II)V" } : Jvm.MethodName)) ∈ wAll := wA_7 (j := 179) rfl rfl
theorem k_7_180 : (Jvm.Cond.instanceMethod ({ cls := "StaveHouse$ByteRow", name := "setWide", desc := "(II)V" } : Jvm.MethodName)) ∈ wAll := wA_7 (j := 180) rfl rfl
theorem k_7_181 : (Jvm.Cond.selects "StaveHouse$ByteRow" ({ cls := "StaveHouse$ByteRow", name := "setWide", desc := "(II)V" } : Jvm.MethodName) ({ cls := "StaveHouse$ByteRow", name := "setWide", desc := "(II)V" } : Jvm.MethodName)) ∈ wAll := wA_7 (j := 181) rfl rfl
theorem k_7_182 : (Jvm.Cond.code ({ cls := "StaveHouse$ByteRow", name := "setWide", desc := "(II)V" } : Jvm.MethodName) prog_2_method_9_code (4 : Nat) (Option.none : Option Jvm.ClassFile.FieldType)) ∈ wAll := wA_7 (j := 182) rfl rfl
theorem k_7_192 : (Jvm.Cond.methodLink "StaveHouse$Performance" (276 : Nat) ({ cls := "StaveHouse$ByteRow", name := "putDelta", desc := "(I)V" } : Jvm.MethodName)) ∈ wAll := wA_7 (j := 192) rfl rfl
theorem k_7_193 : (Jvm.Cond.instanceMethod ({ cls := "StaveHouse$ByteRow", name := "putDelta", desc := "(I)V" } : Jvm.MethodName)) ∈ wAll := wA_7 (j := 193) rfl rfl
theorem k_7_194 : (Jvm.Cond.selects "StaveHouse$ByteRow" ({ cls := "StaveHouse$ByteRow", name := "putDelta", desc := "(I)V" } : Jvm.MethodName) ({ cls := "StaveHouse$ByteRow", name := "putDelta", desc := "(I)V" } : Jvm.MethodName)) ∈ wAll := wA_7 (j := 194) rfl rfl
theorem k_7_195 : (Jvm.Cond.code ({ cls := "StaveHouse$ByteRow", name := "putDelta", desc := "(I)V" } : Jvm.MethodName) prog_2_method_8_code (3 : Nat) (Option.none : Option Jvm.ClassFile.FieldType)) ∈ wAll := wA_7 (j := 195) rfl rfl
theorem W_prog_3_method_4_code_0 : chW prog_3_method_4_code 0 [42, 180, 0, 9, 27, 46, 184, 0, 25, 42, 180, 0, 15, 27, 46, 96, 172] := chW_of (by decide +kernel)
theorem d_3_4_0 : decode prog_3_method_4_code 0 = .ok (.aload_n 0, 1) := D_42 W_prog_3_method_4_code_0 0 rfl rfl
theorem d_3_4_1 : decode prog_3_method_4_code 1 = .ok (.getfield 9, 3) := D_180 W_prog_3_method_4_code_0 1 rfl rfl rfl
theorem d_3_4_4 : decode prog_3_method_4_code 4 = .ok (.iload_n 1, 1) := D_27 W_prog_3_method_4_code_0 4 rfl rfl
theorem d_3_4_5 : decode prog_3_method_4_code 5 = .ok (.iaload, 1) := D_46 W_prog_3_method_4_code_0 5 rfl rfl
theorem d_3_4_6 : decode prog_3_method_4_code 6 = .ok (.invokestatic 25, 3) := D_184 W_prog_3_method_4_code_0 6 rfl rfl rfl
theorem W_prog_11_method_9_code_0 : chW prog_11_method_9_code 0 [42, 180, 0, 27, 28, 46, 2, 159, 0, 13, 42, 180, 0, 27, 29, 46, 2, 160, 0, 5, 3, 172, 42, 180, 0, 33, 28, 46, 2, 159, 0, 17, 42, 180, 0, 33] := chW_of (by decide +kernel)
theorem d_11_9_0 : decode prog_11_method_9_code 0 = .ok (.aload_n 0, 1) := D_42 W_prog_11_method_9_code_0 0 rfl rfl
theorem d_11_9_1 : decode prog_11_method_9_code 1 = .ok (.getfield 27, 3) := D_180 W_prog_11_method_9_code_0 1 rfl rfl rfl
theorem d_11_9_4 : decode prog_11_method_9_code 4 = .ok (.iload_n 2, 1) := D_28 W_prog_11_method_9_code_0 4 rfl rfl
theorem d_11_9_5 : decode prog_11_method_9_code 5 = .ok (.iaload, 1) := D_46 W_prog_11_method_9_code_0 5 rfl rfl
theorem d_11_9_6 : decode prog_11_method_9_code 6 = .ok (.iconst (-1), 1) := D_2 W_prog_11_method_9_code_0 6 rfl rfl
theorem d_11_9_7 : decode prog_11_method_9_code 7 = .ok (.if_icmp .eq 13, 3) := D_159 W_prog_11_method_9_code_0 7 rfl rfl rfl
theorem d_11_9_10 : decode prog_11_method_9_code 10 = .ok (.aload_n 0, 1) := D_42 W_prog_11_method_9_code_0 10 rfl rfl
theorem d_11_9_11 : decode prog_11_method_9_code 11 = .ok (.getfield 27, 3) := D_180 W_prog_11_method_9_code_0 11 rfl rfl rfl
theorem d_11_9_14 : decode prog_11_method_9_code 14 = .ok (.iload_n 3, 1) := D_29 W_prog_11_method_9_code_0 14 rfl rfl
theorem d_11_9_15 : decode prog_11_method_9_code 15 = .ok (.iaload, 1) := D_46 W_prog_11_method_9_code_0 15 rfl rfl
theorem d_11_9_16 : decode prog_11_method_9_code 16 = .ok (.iconst (-1), 1) := D_2 W_prog_11_method_9_code_0 16 rfl rfl
theorem d_11_9_17 : decode prog_11_method_9_code 17 = .ok (.if_icmp .ne 5, 3) := D_160 W_prog_11_method_9_code_0 17 rfl rfl rfl
theorem d_11_9_22 : decode prog_11_method_9_code 22 = .ok (.aload_n 0, 1) := D_42 W_prog_11_method_9_code_0 22 rfl rfl
theorem d_11_9_23 : decode prog_11_method_9_code 23 = .ok (.getfield 33, 3) := D_180 W_prog_11_method_9_code_0 23 rfl rfl rfl
theorem d_11_9_26 : decode prog_11_method_9_code 26 = .ok (.iload_n 2, 1) := D_28 W_prog_11_method_9_code_0 26 rfl rfl
theorem d_11_9_27 : decode prog_11_method_9_code 27 = .ok (.iaload, 1) := D_46 W_prog_11_method_9_code_0 27 rfl rfl
theorem d_11_9_28 : decode prog_11_method_9_code 28 = .ok (.iconst (-1), 1) := D_2 W_prog_11_method_9_code_0 28 rfl rfl
theorem d_11_9_29 : decode prog_11_method_9_code 29 = .ok (.if_icmp .eq 17, 3) := D_159 W_prog_11_method_9_code_0 29 rfl rfl rfl
theorem W_prog_11_method_9_code_32 : chW prog_11_method_9_code 32 [42, 180, 0, 33, 29, 46, 2, 159, 0, 7, 4, 167, 0, 4, 3, 54, 4, 27, 7, 160, 0, 44, 42, 180, 0, 27, 29, 46, 42, 180, 0, 27, 28, 46, 164, 0] := chW_of (by decide +kernel)
theorem d_11_9_32 : decode prog_11_method_9_code 32 = .ok (.aload_n 0, 1) := D_42 W_prog_11_method_9_code_32 0 rfl rfl
theorem d_11_9_33 : decode prog_11_method_9_code 33 = .ok (.getfield 33, 3) := D_180 W_prog_11_method_9_code_32 1 rfl rfl rfl
theorem d_11_9_36 : decode prog_11_method_9_code 36 = .ok (.iload_n 3, 1) := D_29 W_prog_11_method_9_code_32 4 rfl rfl
theorem d_11_9_37 : decode prog_11_method_9_code 37 = .ok (.iaload, 1) := D_46 W_prog_11_method_9_code_32 5 rfl rfl
theorem d_11_9_38 : decode prog_11_method_9_code 38 = .ok (.iconst (-1), 1) := D_2 W_prog_11_method_9_code_32 6 rfl rfl
theorem d_11_9_39 : decode prog_11_method_9_code 39 = .ok (.if_icmp .eq 7, 3) := D_159 W_prog_11_method_9_code_32 7 rfl rfl rfl
theorem d_11_9_42 : decode prog_11_method_9_code 42 = .ok (.iconst 1, 1) := D_4 W_prog_11_method_9_code_32 10 rfl rfl
theorem d_11_9_43 : decode prog_11_method_9_code 43 = .ok (.goto 4, 3) := D_167 W_prog_11_method_9_code_32 11 rfl rfl rfl
theorem d_11_9_20 : decode prog_11_method_9_code 20 = .ok (.iconst 0, 1) := D_3 W_prog_11_method_9_code_0 20 rfl rfl
theorem d_11_9_21 : decode prog_11_method_9_code 21 = .ok (.ireturn, 1) := D_172 W_prog_11_method_9_code_0 21 rfl rfl
theorem d_11_9_47 : decode prog_11_method_9_code 47 = .ok (.istore 4, 2) := D_54 W_prog_11_method_9_code_32 15 rfl rfl
theorem d_11_9_49 : decode prog_11_method_9_code 49 = .ok (.iload_n 1, 1) := D_27 W_prog_11_method_9_code_32 17 rfl rfl
theorem d_11_9_50 : decode prog_11_method_9_code 50 = .ok (.iconst 4, 1) := D_7 W_prog_11_method_9_code_32 18 rfl rfl
theorem d_11_9_51 : decode prog_11_method_9_code 51 = .ok (.if_icmp .ne 44, 3) := D_160 W_prog_11_method_9_code_32 19 rfl rfl rfl
theorem W_prog_11_method_9_code_64 : chW prog_11_method_9_code 64 [28, 46, 164, 0, 27, 21, 4, 153, 0, 18, 42, 180, 0, 33, 29, 46, 42, 180, 0, 33, 28, 46, 163, 0, 7, 4, 167, 0, 4, 3, 172, 42, 180, 0, 27, 28] := chW_of (by decide +kernel)
theorem d_11_9_95 : decode prog_11_method_9_code 95 = .ok (.aload_n 0, 1) := D_42 W_prog_11_method_9_code_64 31 rfl rfl
theorem W_prog_11_method_9_code_96 : chW prog_11_method_9_code 96 [180, 0, 27, 28, 46, 42, 180, 0, 33, 28, 46, 164, 0, 22, 42, 180, 0, 27, 29, 46, 42, 180, 0, 33, 29, 46, 164, 0, 7, 4, 167, 0, 4, 3, 54, 5] := chW_of (by decide +kernel)
theorem d_11_9_96 : decode prog_11_method_9_code 96 = .ok (.getfield 27, 3) := D_180 W_prog_11_method_9_code_96 0 rfl rfl rfl
theorem d_11_9_99 : decode prog_11_method_9_code 99 = .ok (.iload_n 2, 1) := D_28 W_prog_11_method_9_code_96 3 rfl rfl
theorem d_11_9_100 : decode prog_11_method_9_code 100 = .ok (.iaload, 1) := D_46 W_prog_11_method_9_code_96 4 rfl rfl
theorem d_11_9_101 : decode prog_11_method_9_code 101 = .ok (.aload_n 0, 1) := D_42 W_prog_11_method_9_code_96 5 rfl rfl
theorem d_11_9_102 : decode prog_11_method_9_code 102 = .ok (.getfield 33, 3) := D_180 W_prog_11_method_9_code_96 6 rfl rfl rfl
theorem d_11_9_105 : decode prog_11_method_9_code 105 = .ok (.iload_n 2, 1) := D_28 W_prog_11_method_9_code_96 9 rfl rfl
theorem d_11_9_106 : decode prog_11_method_9_code 106 = .ok (.iaload, 1) := D_46 W_prog_11_method_9_code_96 10 rfl rfl
theorem d_11_9_107 : decode prog_11_method_9_code 107 = .ok (.if_icmp .le 22, 3) := D_164 W_prog_11_method_9_code_96 11 rfl rfl rfl
theorem d_11_9_110 : decode prog_11_method_9_code 110 = .ok (.aload_n 0, 1) := D_42 W_prog_11_method_9_code_96 14 rfl rfl
theorem d_11_9_111 : decode prog_11_method_9_code 111 = .ok (.getfield 27, 3) := D_180 W_prog_11_method_9_code_96 15 rfl rfl rfl
theorem d_11_9_114 : decode prog_11_method_9_code 114 = .ok (.iload_n 3, 1) := D_29 W_prog_11_method_9_code_96 18 rfl rfl
theorem d_11_9_115 : decode prog_11_method_9_code 115 = .ok (.iaload, 1) := D_46 W_prog_11_method_9_code_96 19 rfl rfl
theorem d_11_9_116 : decode prog_11_method_9_code 116 = .ok (.aload_n 0, 1) := D_42 W_prog_11_method_9_code_96 20 rfl rfl
theorem d_11_9_117 : decode prog_11_method_9_code 117 = .ok (.getfield 33, 3) := D_180 W_prog_11_method_9_code_96 21 rfl rfl rfl
theorem d_11_9_120 : decode prog_11_method_9_code 120 = .ok (.iload_n 3, 1) := D_29 W_prog_11_method_9_code_96 24 rfl rfl
theorem d_11_9_121 : decode prog_11_method_9_code 121 = .ok (.iaload, 1) := D_46 W_prog_11_method_9_code_96 25 rfl rfl
theorem d_11_9_122 : decode prog_11_method_9_code 122 = .ok (.if_icmp .le 7, 3) := D_164 W_prog_11_method_9_code_96 26 rfl rfl rfl
theorem d_11_9_125 : decode prog_11_method_9_code 125 = .ok (.iconst 1, 1) := D_4 W_prog_11_method_9_code_96 29 rfl rfl
theorem d_11_9_126 : decode prog_11_method_9_code 126 = .ok (.goto 4, 3) := D_167 W_prog_11_method_9_code_96 30 rfl rfl rfl
theorem d_11_9_54 : decode prog_11_method_9_code 54 = .ok (.aload_n 0, 1) := D_42 W_prog_11_method_9_code_32 22 rfl rfl
theorem d_11_9_55 : decode prog_11_method_9_code 55 = .ok (.getfield 27, 3) := D_180 W_prog_11_method_9_code_32 23 rfl rfl rfl
theorem d_11_9_58 : decode prog_11_method_9_code 58 = .ok (.iload_n 3, 1) := D_29 W_prog_11_method_9_code_32 26 rfl rfl
theorem d_11_9_59 : decode prog_11_method_9_code 59 = .ok (.iaload, 1) := D_46 W_prog_11_method_9_code_32 27 rfl rfl
theorem d_11_9_60 : decode prog_11_method_9_code 60 = .ok (.aload_n 0, 1) := D_42 W_prog_11_method_9_code_32 28 rfl rfl
theorem d_11_9_61 : decode prog_11_method_9_code 61 = .ok (.getfield 27, 3) := D_180 W_prog_11_method_9_code_32 29 rfl rfl rfl
theorem d_11_9_64 : decode prog_11_method_9_code 64 = .ok (.iload_n 2, 1) := D_28 W_prog_11_method_9_code_64 0 rfl rfl
theorem d_11_9_65 : decode prog_11_method_9_code 65 = .ok (.iaload, 1) := D_46 W_prog_11_method_9_code_64 1 rfl rfl
theorem d_11_9_66 : decode prog_11_method_9_code 66 = .ok (.if_icmp .le 27, 3) := D_164 W_prog_11_method_9_code_64 2 rfl rfl rfl
theorem d_11_9_69 : decode prog_11_method_9_code 69 = .ok (.iload 4, 2) := D_21 W_prog_11_method_9_code_64 5 rfl rfl
theorem d_11_9_71 : decode prog_11_method_9_code 71 = .ok (.ifCond .eq 18, 3) := D_153 W_prog_11_method_9_code_64 7 rfl rfl rfl
theorem d_11_9_74 : decode prog_11_method_9_code 74 = .ok (.aload_n 0, 1) := D_42 W_prog_11_method_9_code_64 10 rfl rfl
theorem d_11_9_75 : decode prog_11_method_9_code 75 = .ok (.getfield 33, 3) := D_180 W_prog_11_method_9_code_64 11 rfl rfl rfl
theorem d_11_9_78 : decode prog_11_method_9_code 78 = .ok (.iload_n 3, 1) := D_29 W_prog_11_method_9_code_64 14 rfl rfl
theorem d_11_9_79 : decode prog_11_method_9_code 79 = .ok (.iaload, 1) := D_46 W_prog_11_method_9_code_64 15 rfl rfl
theorem d_11_9_80 : decode prog_11_method_9_code 80 = .ok (.aload_n 0, 1) := D_42 W_prog_11_method_9_code_64 16 rfl rfl
theorem d_11_9_81 : decode prog_11_method_9_code 81 = .ok (.getfield 33, 3) := D_180 W_prog_11_method_9_code_64 17 rfl rfl rfl
theorem d_11_9_84 : decode prog_11_method_9_code 84 = .ok (.iload_n 2, 1) := D_28 W_prog_11_method_9_code_64 20 rfl rfl
theorem d_11_9_85 : decode prog_11_method_9_code 85 = .ok (.iaload, 1) := D_46 W_prog_11_method_9_code_64 21 rfl rfl
theorem d_11_9_86 : decode prog_11_method_9_code 86 = .ok (.if_icmp .gt 7, 3) := D_163 W_prog_11_method_9_code_64 22 rfl rfl rfl
theorem d_11_9_89 : decode prog_11_method_9_code 89 = .ok (.iconst 1, 1) := D_4 W_prog_11_method_9_code_64 25 rfl rfl
theorem d_11_9_90 : decode prog_11_method_9_code 90 = .ok (.goto 4, 3) := D_167 W_prog_11_method_9_code_64 26 rfl rfl rfl
theorem d_11_9_94 : decode prog_11_method_9_code 94 = .ok (.ireturn, 1) := D_172 W_prog_11_method_9_code_64 30 rfl rfl
theorem d_11_9_93 : decode prog_11_method_9_code 93 = .ok (.iconst 0, 1) := D_3 W_prog_11_method_9_code_64 29 rfl rfl
theorem W_prog_11_method_9_code_128 : chW prog_11_method_9_code 128 [4, 3, 54, 5, 42, 180, 0, 27, 28, 46, 42, 180, 0, 33, 28, 46, 162, 0, 22, 42, 180, 0, 27, 29, 46, 42, 180, 0, 33, 29, 46, 162, 0, 7, 4, 167] := chW_of (by decide +kernel)
theorem d_11_9_130 : decode prog_11_method_9_code 130 = .ok (.istore 5, 2) := D_54 W_prog_11_method_9_code_128 2 rfl rfl
theorem d_11_9_132 : decode prog_11_method_9_code 132 = .ok (.aload_n 0, 1) := D_42 W_prog_11_method_9_code_128 4 rfl rfl
theorem d_11_9_133 : decode prog_11_method_9_code 133 = .ok (.getfield 27, 3) := D_180 W_prog_11_method_9_code_128 5 rfl rfl rfl
theorem d_11_9_136 : decode prog_11_method_9_code 136 = .ok (.iload_n 2, 1) := D_28 W_prog_11_method_9_code_128 8 rfl rfl
theorem d_11_9_137 : decode prog_11_method_9_code 137 = .ok (.iaload, 1) := D_46 W_prog_11_method_9_code_128 9 rfl rfl
theorem d_11_9_138 : decode prog_11_method_9_code 138 = .ok (.aload_n 0, 1) := D_42 W_prog_11_method_9_code_128 10 rfl rfl
theorem d_11_9_139 : decode prog_11_method_9_code 139 = .ok (.getfield 33, 3) := D_180 W_prog_11_method_9_code_128 11 rfl rfl rfl
theorem d_11_9_142 : decode prog_11_method_9_code 142 = .ok (.iload_n 2, 1) := D_28 W_prog_11_method_9_code_128 14 rfl rfl
theorem d_11_9_143 : decode prog_11_method_9_code 143 = .ok (.iaload, 1) := D_46 W_prog_11_method_9_code_128 15 rfl rfl
theorem d_11_9_144 : decode prog_11_method_9_code 144 = .ok (.if_icmp .ge 22, 3) := D_162 W_prog_11_method_9_code_128 16 rfl rfl rfl
theorem d_11_9_147 : decode prog_11_method_9_code 147 = .ok (.aload_n 0, 1) := D_42 W_prog_11_method_9_code_128 19 rfl rfl
theorem d_11_9_148 : decode prog_11_method_9_code 148 = .ok (.getfield 27, 3) := D_180 W_prog_11_method_9_code_128 20 rfl rfl rfl
theorem d_11_9_151 : decode prog_11_method_9_code 151 = .ok (.iload_n 3, 1) := D_29 W_prog_11_method_9_code_128 23 rfl rfl
theorem d_11_9_152 : decode prog_11_method_9_code 152 = .ok (.iaload, 1) := D_46 W_prog_11_method_9_code_128 24 rfl rfl
theorem d_11_9_153 : decode prog_11_method_9_code 153 = .ok (.aload_n 0, 1) := D_42 W_prog_11_method_9_code_128 25 rfl rfl
theorem d_11_9_154 : decode prog_11_method_9_code 154 = .ok (.getfield 33, 3) := D_180 W_prog_11_method_9_code_128 26 rfl rfl rfl
theorem d_11_9_157 : decode prog_11_method_9_code 157 = .ok (.iload_n 3, 1) := D_29 W_prog_11_method_9_code_128 29 rfl rfl
theorem d_11_9_158 : decode prog_11_method_9_code 158 = .ok (.iaload, 1) := D_46 W_prog_11_method_9_code_128 30 rfl rfl
theorem d_11_9_159 : decode prog_11_method_9_code 159 = .ok (.if_icmp .ge 7, 3) := D_162 W_prog_11_method_9_code_128 31 rfl rfl rfl
theorem W_prog_11_method_9_code_160 : chW prog_11_method_9_code 160 [0, 7, 4, 167, 0, 4, 3, 54, 6, 21, 4, 153, 0, 31, 42, 180, 0, 36, 28, 51, 153, 0, 22, 42, 180, 0, 36, 29, 51, 153, 0, 13, 21, 5, 154, 0] := chW_of (by decide +kernel)
theorem d_11_9_162 : decode prog_11_method_9_code 162 = .ok (.iconst 1, 1) := D_4 W_prog_11_method_9_code_160 2 rfl rfl
theorem d_11_9_163 : decode prog_11_method_9_code 163 = .ok (.goto 4, 3) := D_167 W_prog_11_method_9_code_160 3 rfl rfl rfl
theorem d_11_9_167 : decode prog_11_method_9_code 167 = .ok (.istore 6, 2) := D_54 W_prog_11_method_9_code_160 7 rfl rfl
theorem d_11_9_169 : decode prog_11_method_9_code 169 = .ok (.iload 4, 2) := D_21 W_prog_11_method_9_code_160 9 rfl rfl
theorem d_11_9_171 : decode prog_11_method_9_code 171 = .ok (.ifCond .eq 31, 3) := D_153 W_prog_11_method_9_code_160 11 rfl rfl rfl
theorem d_11_9_174 : decode prog_11_method_9_code 174 = .ok (.aload_n 0, 1) := D_42 W_prog_11_method_9_code_160 14 rfl rfl
theorem d_11_9_175 : decode prog_11_method_9_code 175 = .ok (.getfield 36, 3) := D_180 W_prog_11_method_9_code_160 15 rfl rfl rfl
theorem d_11_9_178 : decode prog_11_method_9_code 178 = .ok (.iload_n 2, 1) := D_28 W_prog_11_method_9_code_160 18 rfl rfl
theorem d_11_9_179 : decode prog_11_method_9_code 179 = .ok (.baload, 1) := D_51 W_prog_11_method_9_code_160 19 rfl rfl
theorem d_11_9_180 : decode prog_11_method_9_code 180 = .ok (.ifCond .eq 22, 3) := D_153 W_prog_11_method_9_code_160 20 rfl rfl rfl
theorem d_11_9_183 : decode prog_11_method_9_code 183 = .ok (.aload_n 0, 1) := D_42 W_prog_11_method_9_code_160 23 rfl rfl
theorem d_11_9_184 : decode prog_11_method_9_code 184 = .ok (.getfield 36, 3) := D_180 W_prog_11_method_9_code_160 24 rfl rfl rfl
theorem d_11_9_187 : decode prog_11_method_9_code 187 = .ok (.iload_n 3, 1) := D_29 W_prog_11_method_9_code_160 27 rfl rfl
theorem d_11_9_188 : decode prog_11_method_9_code 188 = .ok (.baload, 1) := D_51 W_prog_11_method_9_code_160 28 rfl rfl
theorem d_11_9_189 : decode prog_11_method_9_code 189 = .ok (.ifCond .eq 13, 3) := D_153 W_prog_11_method_9_code_160 29 rfl rfl rfl
theorem W_prog_11_method_9_code_192 : chW prog_11_method_9_code 192 [21, 5, 154, 0, 10, 21, 6, 154, 0, 5, 3, 172, 42, 180, 0, 23, 28, 46, 42, 180, 0, 27, 28, 46, 42, 180, 0, 23, 29, 46, 42, 180, 0, 27, 29, 46] := chW_of (by decide +kernel)
theorem d_11_9_192 : decode prog_11_method_9_code 192 = .ok (.iload 5, 2) := D_21 W_prog_11_method_9_code_192 0 rfl rfl
theorem d_11_9_194 : decode prog_11_method_9_code 194 = .ok (.ifCond .ne 10, 3) := D_154 W_prog_11_method_9_code_192 2 rfl rfl rfl
theorem d_11_9_197 : decode prog_11_method_9_code 197 = .ok (.iload 6, 2) := D_21 W_prog_11_method_9_code_192 5 rfl rfl
theorem d_11_9_199 : decode prog_11_method_9_code 199 = .ok (.ifCond .ne 5, 3) := D_154 W_prog_11_method_9_code_192 7 rfl rfl rfl
theorem d_11_9_202 : decode prog_11_method_9_code 202 = .ok (.iconst 0, 1) := D_3 W_prog_11_method_9_code_192 10 rfl rfl
theorem d_11_9_203 : decode prog_11_method_9_code 203 = .ok (.ireturn, 1) := D_172 W_prog_11_method_9_code_192 11 rfl rfl
theorem d_11_9_204 : decode prog_11_method_9_code 204 = .ok (.aload_n 0, 1) := D_42 W_prog_11_method_9_code_192 12 rfl rfl
theorem d_11_9_205 : decode prog_11_method_9_code 205 = .ok (.getfield 23, 3) := D_180 W_prog_11_method_9_code_192 13 rfl rfl rfl
theorem d_11_9_208 : decode prog_11_method_9_code 208 = .ok (.iload_n 2, 1) := D_28 W_prog_11_method_9_code_192 16 rfl rfl
theorem d_11_9_209 : decode prog_11_method_9_code 209 = .ok (.iaload, 1) := D_46 W_prog_11_method_9_code_192 17 rfl rfl
theorem d_11_9_210 : decode prog_11_method_9_code 210 = .ok (.aload_n 0, 1) := D_42 W_prog_11_method_9_code_192 18 rfl rfl
theorem d_11_9_211 : decode prog_11_method_9_code 211 = .ok (.getfield 27, 3) := D_180 W_prog_11_method_9_code_192 19 rfl rfl rfl
theorem d_11_9_214 : decode prog_11_method_9_code 214 = .ok (.iload_n 2, 1) := D_28 W_prog_11_method_9_code_192 22 rfl rfl
theorem d_11_9_215 : decode prog_11_method_9_code 215 = .ok (.iaload, 1) := D_46 W_prog_11_method_9_code_192 23 rfl rfl
theorem d_11_9_216 : decode prog_11_method_9_code 216 = .ok (.aload_n 0, 1) := D_42 W_prog_11_method_9_code_192 24 rfl rfl
theorem d_11_9_217 : decode prog_11_method_9_code 217 = .ok (.getfield 23, 3) := D_180 W_prog_11_method_9_code_192 25 rfl rfl rfl
theorem d_11_9_220 : decode prog_11_method_9_code 220 = .ok (.iload_n 3, 1) := D_29 W_prog_11_method_9_code_192 28 rfl rfl
theorem d_11_9_221 : decode prog_11_method_9_code 221 = .ok (.iaload, 1) := D_46 W_prog_11_method_9_code_192 29 rfl rfl
theorem d_11_9_222 : decode prog_11_method_9_code 222 = .ok (.aload_n 0, 1) := D_42 W_prog_11_method_9_code_192 30 rfl rfl
theorem d_11_9_223 : decode prog_11_method_9_code 223 = .ok (.getfield 27, 3) := D_180 W_prog_11_method_9_code_192 31 rfl rfl rfl
theorem W_prog_11_method_9_code_224 : chW prog_11_method_9_code 224 [0, 27, 29, 46, 184, 0, 123, 54, 7, 42, 180, 0, 30, 28, 46, 42, 180, 0, 33, 28, 46, 42, 180, 0, 30, 29, 46, 42, 180, 0, 33, 29, 46, 184, 0, 123] := chW_of (by decide +kernel)
theorem d_11_9_226 : decode prog_11_method_9_code 226 = .ok (.iload_n 3, 1) := D_29 W_prog_11_method_9_code_224 2 rfl rfl
theorem d_11_9_227 : decode prog_11_method_9_code 227 = .ok (.iaload, 1) := D_46 W_prog_11_method_9_code_224 3 rfl rfl
theorem d_11_9_228 : decode prog_11_method_9_code 228 = .ok (.invokestatic 123, 3) := D_184 W_prog_11_method_9_code_224 4 rfl rfl rfl
theorem W_prog_7_method_6_code_0 : chW prog_7_method_6_code 0 [42, 180, 0, 36, 17, 7, 208, 161, 0, 9, 42, 4, 181, 0, 40, 177, 42, 180, 0, 23, 3, 50, 42, 180, 0, 36, 27, 79, 42, 180, 0, 23, 4, 50, 42, 180] := chW_of (by decide +kernel)
theorem d_7_6_0 : decode prog_7_method_6_code 0 = .ok (.aload_n 0, 1) := D_42 W_prog_7_method_6_code_0 0 rfl rfl
theorem d_7_6_1 : decode prog_7_method_6_code 1 = .ok (.getfield 36, 3) := D_180 W_prog_7_method_6_code_0 1 rfl rfl rfl
theorem d_7_6_4 : decode prog_7_method_6_code 4 = .ok (.sipush 2000, 3) := D_17 W_prog_7_method_6_code_0 4 rfl rfl rfl
theorem d_7_6_7 : decode prog_7_method_6_code 7 = .ok (.if_icmp .lt 9, 3) := D_161 W_prog_7_method_6_code_0 7 rfl rfl rfl
theorem d_7_6_16 : decode prog_7_method_6_code 16 = .ok (.aload_n 0, 1) := D_42 W_prog_7_method_6_code_0 16 rfl rfl
theorem d_7_6_17 : decode prog_7_method_6_code 17 = .ok (.getfield 23, 3) := D_180 W_prog_7_method_6_code_0 17 rfl rfl rfl
theorem d_7_6_20 : decode prog_7_method_6_code 20 = .ok (.iconst 0, 1) := D_3 W_prog_7_method_6_code_0 20 rfl rfl
theorem d_7_6_21 : decode prog_7_method_6_code 21 = .ok (.aaload, 1) := D_50 W_prog_7_method_6_code_0 21 rfl rfl
theorem d_7_6_22 : decode prog_7_method_6_code 22 = .ok (.aload_n 0, 1) := D_42 W_prog_7_method_6_code_0 22 rfl rfl
theorem d_7_6_23 : decode prog_7_method_6_code 23 = .ok (.getfield 36, 3) := D_180 W_prog_7_method_6_code_0 23 rfl rfl rfl
theorem d_7_6_26 : decode prog_7_method_6_code 26 = .ok (.iload_n 1, 1) := D_27 W_prog_7_method_6_code_0 26 rfl rfl
theorem d_7_6_27 : decode prog_7_method_6_code 27 = .ok (.iastore, 1) := D_79 W_prog_7_method_6_code_0 27 rfl rfl
theorem d_7_6_28 : decode prog_7_method_6_code 28 = .ok (.aload_n 0, 1) := D_42 W_prog_7_method_6_code_0 28 rfl rfl
theorem d_7_6_29 : decode prog_7_method_6_code 29 = .ok (.getfield 23, 3) := D_180 W_prog_7_method_6_code_0 29 rfl rfl rfl
theorem W_prog_7_method_6_code_32 : chW prog_7_method_6_code 32 [4, 50, 42, 180, 0, 36, 28, 79, 42, 180, 0, 23, 5, 50, 42, 180, 0, 36, 29, 79, 42, 180, 0, 23, 6, 50, 42, 180, 0, 36, 25, 4, 184, 0, 105, 79] := chW_of (by decide +kernel)
theorem d_7_6_32 : decode prog_7_method_6_code 32 = .ok (.iconst 1, 1) := D_4 W_prog_7_method_6_code_32 0 rfl rfl
theorem d_7_6_33 : decode prog_7_method_6_code 33 = .ok (.aaload, 1) := D_50 W_prog_7_method_6_code_32 1 rfl rfl
theorem d_7_6_34 : decode prog_7_method_6_code 34 = .ok (.aload_n 0, 1) := D_42 W_prog_7_method_6_code_32 2 rfl rfl
theorem d_7_6_35 : decode prog_7_method_6_code 35 = .ok (.getfield 36, 3) := D_180 W_prog_7_method_6_code_32 3 rfl rfl rfl
theorem d_7_6_38 : decode prog_7_method_6_code 38 = .ok (.iload_n 2, 1) := D_28 W_prog_7_method_6_code_32 6 rfl rfl
theorem d_7_6_39 : decode prog_7_method_6_code 39 = .ok (.iastore, 1) := D_79 W_prog_7_method_6_code_32 7 rfl rfl
theorem d_7_6_40 : decode prog_7_method_6_code 40 = .ok (.aload_n 0, 1) := D_42 W_prog_7_method_6_code_32 8 rfl rfl
theorem d_7_6_41 : decode prog_7_method_6_code 41 = .ok (.getfield 23, 3) := D_180 W_prog_7_method_6_code_32 9 rfl rfl rfl
theorem d_7_6_44 : decode prog_7_method_6_code 44 = .ok (.iconst 2, 1) := D_5 W_prog_7_method_6_code_32 12 rfl rfl
theorem d_7_6_45 : decode prog_7_method_6_code 45 = .ok (.aaload, 1) := D_50 W_prog_7_method_6_code_32 13 rfl rfl
theorem d_7_6_46 : decode prog_7_method_6_code 46 = .ok (.aload_n 0, 1) := D_42 W_prog_7_method_6_code_32 14 rfl rfl
theorem d_7_6_47 : decode prog_7_method_6_code 47 = .ok (.getfield 36, 3) := D_180 W_prog_7_method_6_code_32 15 rfl rfl rfl
theorem d_7_6_50 : decode prog_7_method_6_code 50 = .ok (.iload_n 3, 1) := D_29 W_prog_7_method_6_code_32 18 rfl rfl
theorem d_7_6_51 : decode prog_7_method_6_code 51 = .ok (.iastore, 1) := D_79 W_prog_7_method_6_code_32 19 rfl rfl
theorem d_7_6_52 : decode prog_7_method_6_code 52 = .ok (.aload_n 0, 1) := D_42 W_prog_7_method_6_code_32 20 rfl rfl
theorem d_7_6_53 : decode prog_7_method_6_code 53 = .ok (.getfield 23, 3) := D_180 W_prog_7_method_6_code_32 21 rfl rfl rfl
theorem d_7_6_56 : decode prog_7_method_6_code 56 = .ok (.iconst 3, 1) := D_6 W_prog_7_method_6_code_32 24 rfl rfl
theorem d_7_6_57 : decode prog_7_method_6_code 57 = .ok (.aaload, 1) := D_50 W_prog_7_method_6_code_32 25 rfl rfl
theorem d_7_6_58 : decode prog_7_method_6_code 58 = .ok (.aload_n 0, 1) := D_42 W_prog_7_method_6_code_32 26 rfl rfl
theorem d_7_6_59 : decode prog_7_method_6_code 59 = .ok (.getfield 36, 3) := D_180 W_prog_7_method_6_code_32 27 rfl rfl rfl
theorem d_7_6_62 : decode prog_7_method_6_code 62 = .ok (.aload 4, 2) := D_25 W_prog_7_method_6_code_32 30 rfl rfl
theorem W_prog_7_method_6_code_64 : chW prog_7_method_6_code 64 [184, 0, 105, 79, 42, 180, 0, 23, 7, 50, 42, 180, 0, 36, 21, 5, 79, 42, 180, 0, 23, 8, 50, 42, 180, 0, 36, 21, 6, 79, 42, 89, 180, 0, 36, 4] := chW_of (by decide +kernel)
theorem d_7_6_64 : decode prog_7_method_6_code 64 = .ok (.invokestatic 105, 3) := D_184 W_prog_7_method_6_code_64 0 rfl rfl rfl
theorem W_prog_7_method_7_code_0 : chW prog_7_method_7_code 0 [43, 180, 0, 73, 29, 50, 58, 4, 25, 4, 180, 0, 109, 184, 0, 113, 54, 5, 3, 54, 6, 21, 6, 25, 4, 180, 0, 83, 162, 0, 84, 43, 29, 21, 6, 182] := chW_of (by decide +kernel)
theorem d_7_7_0 : decode prog_7_method_7_code 0 = .ok (.aload_n 1, 1) := D_43 W_prog_7_method_7_code_0 0 rfl rfl
theorem d_7_7_1 : decode prog_7_method_7_code 1 = .ok (.getfield 73, 3) := D_180 W_prog_7_method_7_code_0 1 rfl rfl rfl
theorem d_7_7_4 : decode prog_7_method_7_code 4 = .ok (.iload_n 3, 1) := D_29 W_prog_7_method_7_code_0 4 rfl rfl
theorem d_7_7_5 : decode prog_7_method_7_code 5 = .ok (.aaload, 1) := D_50 W_prog_7_method_7_code_0 5 rfl rfl
theorem d_7_7_6 : decode prog_7_method_7_code 6 = .ok (.astore 4, 2) := D_58 W_prog_7_method_7_code_0 6 rfl rfl
theorem d_7_7_8 : decode prog_7_method_7_code 8 = .ok (.aload 4, 2) := D_25 W_prog_7_method_7_code_0 8 rfl rfl
theorem d_7_7_10 : decode prog_7_method_7_code 10 = .ok (.getfield 109, 3) := D_180 W_prog_7_method_7_code_0 10 rfl rfl rfl
theorem d_7_7_13 : decode prog_7_method_7_code 13 = .ok (.invokestatic 113, 3) := D_184 W_prog_7_method_7_code_0 13 rfl rfl rfl
theorem d_7_7_16 : decode prog_7_method_7_code 16 = .ok (.istore 5, 2) := D_54 W_prog_7_method_7_code_0 16 rfl rfl
theorem d_7_7_18 : decode prog_7_method_7_code 18 = .ok (.iconst 0, 1) := D_3 W_prog_7_method_7_code_0 18 rfl rfl
theorem d_7_7_19 : decode prog_7_method_7_code 19 = .ok (.istore 6, 2) := D_54 W_prog_7_method_7_code_0 19 rfl rfl
theorem d_7_7_21 : decode prog_7_method_7_code 21 = .ok (.iload 6, 2) := D_21 W_prog_7_method_7_code_0 21 rfl rfl
theorem d_7_7_23 : decode prog_7_method_7_code 23 = .ok (.aload 4, 2) := D_25 W_prog_7_method_7_code_0 23 rfl rfl
theorem d_7_7_25 : decode prog_7_method_7_code 25 = .ok (.getfield 83, 3) := D_180 W_prog_7_method_7_code_0 25 rfl rfl rfl
theorem d_7_7_28 : decode prog_7_method_7_code 28 = .ok (.if_icmp .ge 84, 3) := D_162 W_prog_7_method_7_code_0 28 rfl rfl rfl
theorem W_prog_7_method_7_code_96 : chW prog_7_method_7_code 96 [7, 21, 8, 184, 0, 127, 96, 182, 0, 131, 132, 6, 1, 167, 255, 168, 177] := chW_of (by decide +kernel)
theorem d_7_7_112 : decode prog_7_method_7_code 112 = .ok (.return_, 1) := D_177 W_prog_7_method_7_code_96 16 rfl rfl
theorem d_7_7_31 : decode prog_7_method_7_code 31 = .ok (.aload_n 1, 1) := D_43 W_prog_7_method_7_code_0 31 rfl rfl
theorem W_prog_7_method_7_code_32 : chW prog_7_method_7_code 32 [29, 21, 6, 182, 0, 88, 154, 0, 68, 43, 180, 0, 73, 43, 29, 21, 6, 184, 0, 117, 50, 58, 7, 25, 7, 180, 0, 109, 25, 7, 180, 0, 121, 97, 184, 0] := chW_of (by decide +kernel)
theorem d_7_7_32 : decode prog_7_method_7_code 32 = .ok (.iload_n 3, 1) := D_29 W_prog_7_method_7_code_32 0 rfl rfl
theorem d_7_7_33 : decode prog_7_method_7_code 33 = .ok (.iload 6, 2) := D_21 W_prog_7_method_7_code_32 1 rfl rfl
theorem d_7_7_35 : decode prog_7_method_7_code 35 = .ok (.invokevirtual 88, 3) := D_182 W_prog_7_method_7_code_32 3 rfl rfl rfl
theorem d_7_7_38 : decode prog_7_method_7_code 38 = .ok (.ifCond .ne 68, 3) := D_154 W_prog_7_method_7_code_32 6 rfl rfl rfl
theorem d_7_7_41 : decode prog_7_method_7_code 41 = .ok (.aload_n 1, 1) := D_43 W_prog_7_method_7_code_32 9 rfl rfl
theorem d_7_7_42 : decode prog_7_method_7_code 42 = .ok (.getfield 73, 3) := D_180 W_prog_7_method_7_code_32 10 rfl rfl rfl
theorem d_7_7_45 : decode prog_7_method_7_code 45 = .ok (.aload_n 1, 1) := D_43 W_prog_7_method_7_code_32 13 rfl rfl
theorem d_7_7_46 : decode prog_7_method_7_code 46 = .ok (.iload_n 3, 1) := D_29 W_prog_7_method_7_code_32 14 rfl rfl
theorem d_7_7_47 : decode prog_7_method_7_code 47 = .ok (.iload 6, 2) := D_21 W_prog_7_method_7_code_32 15 rfl rfl
theorem d_7_7_49 : decode prog_7_method_7_code 49 = .ok (.invokestatic 117, 3) := D_184 W_prog_7_method_7_code_32 17 rfl rfl rfl
theorem W_prog_1_method_11_code_0 : chW prog_1_method_11_code 0 [42, 27, 28, 182, 0, 101, 58, 4, 25, 4, 199, 0, 5, 2, 172, 29, 170, 0, 0, 0, 0, 0, 0, 56, 0, 0, 0, 0, 0, 0, 0, 3, 0, 0, 0, 32] := chW_of (by decide +kernel)
theorem d_1_11_0 : decode prog_1_method_11_code 0 = .ok (.aload_n 0, 1) := D_42 W_prog_1_method_11_code_0 0 rfl rfl
theorem d_1_11_1 : decode prog_1_method_11_code 1 = .ok (.iload_n 1, 1) := D_27 W_prog_1_method_11_code_0 1 rfl rfl
theorem d_1_11_2 : decode prog_1_method_11_code 2 = .ok (.iload_n 2, 1) := D_28 W_prog_1_method_11_code_0 2 rfl rfl
theorem d_1_11_3 : decode prog_1_method_11_code 3 = .ok (.invokevirtual 101, 3) := D_182 W_prog_1_method_11_code_0 3 rfl rfl rfl
theorem W_prog_1_method_35_code_0 : chW prog_1_method_35_code 0 [30, 20, 1, 79, 184, 1, 81, 65, 32, 9, 148, 154, 0, 7, 30, 167, 0, 6, 30, 32, 109, 173] := chW_of (by decide +kernel)
theorem d_1_35_0 : decode prog_1_method_35_code 0 = .ok (.lload_n 0, 1) := D_30 W_prog_1_method_35_code_0 0 rfl rfl
theorem d_1_35_1 : decode prog_1_method_35_code 1 = .ok (.ldc2_w 335, 3) := D_20 W_prog_1_method_35_code_0 1 rfl rfl rfl
theorem d_1_35_4 : decode prog_1_method_35_code 4 = .ok (.invokestatic 337, 3) := D_184 W_prog_1_method_35_code_0 4 rfl rfl rfl
theorem W_prog_1_method_14_code_0 : chW prog_1_method_14_code 0 [42, 27, 28, 29, 182, 0, 187, 58, 6, 25, 6, 198, 0, 18, 21, 4, 155, 0, 13, 21, 4, 25, 6, 180, 0, 206, 161, 0, 6, 18, 218, 172, 21, 5, 170, 0] := chW_of (by decide +kernel)
theorem d_1_14_0 : decode prog_1_method_14_code 0 = .ok (.aload_n 0, 1) := D_42 W_prog_1_method_14_code_0 0 rfl rfl
theorem d_1_14_1 : decode prog_1_method_14_code 1 = .ok (.iload_n 1, 1) := D_27 W_prog_1_method_14_code_0 1 rfl rfl
theorem d_1_14_2 : decode prog_1_method_14_code 2 = .ok (.iload_n 2, 1) := D_28 W_prog_1_method_14_code_0 2 rfl rfl
theorem d_1_14_3 : decode prog_1_method_14_code 3 = .ok (.iload_n 3, 1) := D_29 W_prog_1_method_14_code_0 3 rfl rfl
theorem d_1_14_4 : decode prog_1_method_14_code 4 = .ok (.invokevirtual 187, 3) := D_182 W_prog_1_method_14_code_0 4 rfl rfl rfl
theorem d_1_14_7 : decode prog_1_method_14_code 7 = .ok (.astore 6, 2) := D_58 W_prog_1_method_14_code_0 7 rfl rfl
theorem d_1_14_9 : decode prog_1_method_14_code 9 = .ok (.aload 6, 2) := D_25 W_prog_1_method_14_code_0 9 rfl rfl
theorem d_1_14_11 : decode prog_1_method_14_code 11 = .ok (.ifnull 18, 3) := D_198 W_prog_1_method_14_code_0 11 rfl rfl rfl
theorem d_1_14_14 : decode prog_1_method_14_code 14 = .ok (.iload 4, 2) := D_21 W_prog_1_method_14_code_0 14 rfl rfl
theorem d_1_14_16 : decode prog_1_method_14_code 16 = .ok (.ifCond .lt 13, 3) := D_155 W_prog_1_method_14_code_0 16 rfl rfl rfl
theorem d_1_14_19 : decode prog_1_method_14_code 19 = .ok (.iload 4, 2) := D_21 W_prog_1_method_14_code_0 19 rfl rfl
theorem d_1_14_21 : decode prog_1_method_14_code 21 = .ok (.aload 6, 2) := D_25 W_prog_1_method_14_code_0 21 rfl rfl
theorem d_1_14_23 : decode prog_1_method_14_code 23 = .ok (.getfield 206, 3) := D_180 W_prog_1_method_14_code_0 23 rfl rfl rfl
theorem d_1_14_26 : decode prog_1_method_14_code 26 = .ok (.if_icmp .lt 6, 3) := D_161 W_prog_1_method_14_code_0 26 rfl rfl rfl
theorem W_prog_1_method_14_code_32 : chW prog_1_method_14_code 32 [21, 5, 170, 0, 0, 0, 0, 52, 0, 0, 0, 0, 0, 0, 0, 2, 0, 0, 0, 26, 0, 0, 0, 35, 0, 0, 0, 44, 25, 6, 180, 0, 219, 21, 4, 46] := chW_of (by decide +kernel)
theorem d_1_14_32 : decode prog_1_method_14_code 32 = .ok (.iload 5, 2) := D_21 W_prog_1_method_14_code_32 0 rfl rfl
theorem d_1_14_34 : decode prog_1_method_14_code 34 = .ok (.tableswitch 52 0 2 #[26, 35, 44], 26) := by decide +kernel
theorem d_1_14_60 : decode prog_1_method_14_code 60 = .ok (.aload 6, 2) := D_25 W_prog_1_method_14_code_32 28 rfl rfl
theorem d_1_14_62 : decode prog_1_method_14_code 62 = .ok (.getfield 219, 3) := D_180 W_prog_1_method_14_code_32 30 rfl rfl rfl
theorem W_prog_1_method_14_code_64 : chW prog_1_method_14_code 64 [219, 21, 4, 46, 172, 25, 6, 180, 0, 222, 21, 4, 46, 172, 25, 6, 21, 4, 182, 0, 225, 172, 18, 218, 172] := chW_of (by decide +kernel)
theorem d_1_14_65 : decode prog_1_method_14_code 65 = .ok (.iload 4, 2) := D_21 W_prog_1_method_14_code_64 1 rfl rfl
theorem d_1_14_67 : decode prog_1_method_14_code 67 = .ok (.iaload, 1) := D_46 W_prog_1_method_14_code_64 3 rfl rfl
theorem d_1_14_68 : decode prog_1_method_14_code 68 = .ok (.ireturn, 1) := D_172 W_prog_1_method_14_code_64 4 rfl rfl
theorem d_1_14_69 : decode prog_1_method_14_code 69 = .ok (.aload 6, 2) := D_25 W_prog_1_method_14_code_64 5 rfl rfl
theorem d_1_14_71 : decode prog_1_method_14_code 71 = .ok (.getfield 222, 3) := D_180 W_prog_1_method_14_code_64 7 rfl rfl rfl
theorem d_1_14_74 : decode prog_1_method_14_code 74 = .ok (.iload 4, 2) := D_21 W_prog_1_method_14_code_64 10 rfl rfl
theorem d_1_14_76 : decode prog_1_method_14_code 76 = .ok (.iaload, 1) := D_46 W_prog_1_method_14_code_64 12 rfl rfl
theorem d_1_14_77 : decode prog_1_method_14_code 77 = .ok (.ireturn, 1) := D_172 W_prog_1_method_14_code_64 13 rfl rfl
theorem d_1_14_78 : decode prog_1_method_14_code 78 = .ok (.aload 6, 2) := D_25 W_prog_1_method_14_code_64 14 rfl rfl
theorem d_1_14_80 : decode prog_1_method_14_code 80 = .ok (.iload 4, 2) := D_21 W_prog_1_method_14_code_64 16 rfl rfl
theorem d_1_14_82 : decode prog_1_method_14_code 82 = .ok (.invokevirtual 225, 3) := D_182 W_prog_1_method_14_code_64 18 rfl rfl rfl
theorem W_prog_1_method_15_code_0 : chW prog_1_method_15_code 0 [42, 27, 28, 182, 0, 101, 58, 5, 25, 5, 198, 0, 28, 29, 155, 0, 24, 29, 25, 5, 180, 0, 180, 162, 0, 15, 21, 4, 155, 0, 10, 21, 4, 16, 12, 161] := chW_of (by decide +kernel)
theorem d_1_15_0 : decode prog_1_method_15_code 0 = .ok (.aload_n 0, 1) := D_42 W_prog_1_method_15_code_0 0 rfl rfl
theorem d_1_15_1 : decode prog_1_method_15_code 1 = .ok (.iload_n 1, 1) := D_27 W_prog_1_method_15_code_0 1 rfl rfl
theorem d_1_15_2 : decode prog_1_method_15_code 2 = .ok (.iload_n 2, 1) := D_28 W_prog_1_method_15_code_0 2 rfl rfl
theorem d_1_15_3 : decode prog_1_method_15_code 3 = .ok (.invokevirtual 101, 3) := D_182 W_prog_1_method_15_code_0 3 rfl rfl rfl
theorem d_1_15_6 : decode prog_1_method_15_code 6 = .ok (.astore 5, 2) := D_58 W_prog_1_method_15_code_0 6 rfl rfl
theorem d_1_15_8 : decode prog_1_method_15_code 8 = .ok (.aload 5, 2) := D_25 W_prog_1_method_15_code_0 8 rfl rfl
theorem d_1_15_10 : decode prog_1_method_15_code 10 = .ok (.ifnull 28, 3) := D_198 W_prog_1_method_15_code_0 10 rfl rfl rfl
theorem d_1_15_13 : decode prog_1_method_15_code 13 = .ok (.iload_n 3, 1) := D_29 W_prog_1_method_15_code_0 13 rfl rfl
theorem d_1_15_14 : decode prog_1_method_15_code 14 = .ok (.ifCond .lt 24, 3) := D_155 W_prog_1_method_15_code_0 14 rfl rfl rfl
theorem d_1_15_17 : decode prog_1_method_15_code 17 = .ok (.iload_n 3, 1) := D_29 W_prog_1_method_15_code_0 17 rfl rfl
theorem d_1_15_18 : decode prog_1_method_15_code 18 = .ok (.aload 5, 2) := D_25 W_prog_1_method_15_code_0 18 rfl rfl
theorem d_1_15_20 : decode prog_1_method_15_code 20 = .ok (.getfield 180, 3) := D_180 W_prog_1_method_15_code_0 20 rfl rfl rfl
theorem d_1_15_23 : decode prog_1_method_15_code 23 = .ok (.if_icmp .ge 15, 3) := D_162 W_prog_1_method_15_code_0 23 rfl rfl rfl
theorem d_1_15_26 : decode prog_1_method_15_code 26 = .ok (.iload 4, 2) := D_21 W_prog_1_method_15_code_0 26 rfl rfl
theorem d_1_15_28 : decode prog_1_method_15_code 28 = .ok (.ifCond .lt 10, 3) := D_155 W_prog_1_method_15_code_0 28 rfl rfl rfl
theorem d_1_15_31 : decode prog_1_method_15_code 31 = .ok (.iload 4, 2) := D_21 W_prog_1_method_15_code_0 31 rfl rfl
theorem W_prog_1_method_15_code_32 : chW prog_1_method_15_code 32 [4, 16, 12, 161, 0, 7, 20, 0, 191, 173, 21, 4, 5, 160, 0, 14, 25, 5, 180, 0, 229, 29, 47, 184, 0, 198, 173, 21, 4, 6, 160, 0, 16, 25, 5, 180] := chW_of (by decide +kernel)
theorem d_1_15_33 : decode prog_1_method_15_code 33 = .ok (.bipush 12, 2) := D_16 W_prog_1_method_15_code_32 1 rfl rfl rfl
theorem d_1_15_35 : decode prog_1_method_15_code 35 = .ok (.if_icmp .lt 7, 3) := D_161 W_prog_1_method_15_code_32 3 rfl rfl rfl
theorem d_1_15_42 : decode prog_1_method_15_code 42 = .ok (.iload 4, 2) := D_21 W_prog_1_method_15_code_32 10 rfl rfl
theorem d_1_15_44 : decode prog_1_method_15_code 44 = .ok (.iconst 2, 1) := D_5 W_prog_1_method_15_code_32 12 rfl rfl
theorem d_1_15_45 : decode prog_1_method_15_code 45 = .ok (.if_icmp .ne 14, 3) := D_160 W_prog_1_method_15_code_32 13 rfl rfl rfl
theorem d_1_15_59 : decode prog_1_method_15_code 59 = .ok (.iload 4, 2) := D_21 W_prog_1_method_15_code_32 27 rfl rfl
theorem d_1_15_61 : decode prog_1_method_15_code 61 = .ok (.iconst 3, 1) := D_6 W_prog_1_method_15_code_32 29 rfl rfl
theorem d_1_15_62 : decode prog_1_method_15_code 62 = .ok (.if_icmp .ne 16, 3) := D_160 W_prog_1_method_15_code_32 30 rfl rfl rfl
theorem W_prog_1_method_15_code_64 : chW prog_1_method_15_code 64 [16, 25, 5, 180, 0, 229, 29, 47, 184, 0, 201, 167, 0, 14, 25, 5, 180, 0, 233, 21, 4, 50, 29, 46, 133, 173] := chW_of (by decide +kernel)
theorem d_1_15_78 : decode prog_1_method_15_code 78 = .ok (.aload 5, 2) := D_25 W_prog_1_method_15_code_64 14 rfl rfl
theorem d_1_15_80 : decode prog_1_method_15_code 80 = .ok (.getfield 233, 3) := D_180 W_prog_1_method_15_code_64 16 rfl rfl rfl
theorem d_1_15_83 : decode prog_1_method_15_code 83 = .ok (.iload 4, 2) := D_21 W_prog_1_method_15_code_64 19 rfl rfl
theorem d_1_15_85 : decode prog_1_method_15_code 85 = .ok (.aaload, 1) := D_50 W_prog_1_method_15_code_64 21 rfl rfl
theorem d_1_15_86 : decode prog_1_method_15_code 86 = .ok (.iload_n 3, 1) := D_29 W_prog_1_method_15_code_64 22 rfl rfl
theorem d_1_15_87 : decode prog_1_method_15_code 87 = .ok (.iaload, 1) := D_46 W_prog_1_method_15_code_64 23 rfl rfl
theorem d_1_15_88 : decode prog_1_method_15_code 88 = .ok (.i2l, 1) := D_133 W_prog_1_method_15_code_64 24 rfl rfl
theorem d_1_15_65 : decode prog_1_method_15_code 65 = .ok (.aload 5, 2) := D_25 W_prog_1_method_15_code_64 1 rfl rfl
theorem d_1_15_67 : decode prog_1_method_15_code 67 = .ok (.getfield 229, 3) := D_180 W_prog_1_method_15_code_64 3 rfl rfl rfl
theorem d_1_15_70 : decode prog_1_method_15_code 70 = .ok (.iload_n 3, 1) := D_29 W_prog_1_method_15_code_64 6 rfl rfl
theorem d_1_15_71 : decode prog_1_method_15_code 71 = .ok (.laload, 1) := D_47 W_prog_1_method_15_code_64 7 rfl rfl
theorem d_1_15_72 : decode prog_1_method_15_code 72 = .ok (.invokestatic 201, 3) := D_184 W_prog_1_method_15_code_64 8 rfl rfl rfl
theorem d_1_15_75 : decode prog_1_method_15_code 75 = .ok (.goto 14, 3) := D_167 W_prog_1_method_15_code_64 11 rfl rfl rfl
theorem d_1_15_48 : decode prog_1_method_15_code 48 = .ok (.aload 5, 2) := D_25 W_prog_1_method_15_code_32 16 rfl rfl
theorem d_1_15_50 : decode prog_1_method_15_code 50 = .ok (.getfield 229, 3) := D_180 W_prog_1_method_15_code_32 18 rfl rfl rfl
theorem d_1_15_53 : decode prog_1_method_15_code 53 = .ok (.iload_n 3, 1) := D_29 W_prog_1_method_15_code_32 21 rfl rfl
theorem d_1_15_54 : decode prog_1_method_15_code 54 = .ok (.laload, 1) := D_47 W_prog_1_method_15_code_32 22 rfl rfl
theorem d_1_15_55 : decode prog_1_method_15_code 55 = .ok (.invokestatic 198, 3) := D_184 W_prog_1_method_15_code_32 23 rfl rfl rfl
theorem W_prog_4_method_5_code_0 : chW prog_4_method_5_code 0 [20, 0, 118, 66, 3, 54, 5, 21, 5, 43, 180, 0, 95, 162, 0, 72, 43, 180, 0, 98, 21, 5, 50, 58, 6, 25, 6, 42, 180, 0, 43, 21, 5, 46, 28, 184] := chW_of (by decide +kernel)
theorem d_4_5_0 : decode prog_4_method_5_code 0 = .ok (.ldc2_w 118, 3) := D_20 W_prog_4_method_5_code_0 0 rfl rfl rfl
theorem d_4_5_3 : decode prog_4_method_5_code 3 = .ok (.lstore_n 3, 1) := D_66 W_prog_4_method_5_code_0 3 rfl rfl
theorem d_4_5_4 : decode prog_4_method_5_code 4 = .ok (.iconst 0, 1) := D_3 W_prog_4_method_5_code_0 4 rfl rfl
theorem d_4_5_5 : decode prog_4_method_5_code 5 = .ok (.istore 5, 2) := D_54 W_prog_4_method_5_code_0 5 rfl rfl
theorem d_4_5_7 : decode prog_4_method_5_code 7 = .ok (.iload 5, 2) := D_21 W_prog_4_method_5_code_0 7 rfl rfl
theorem d_4_5_9 : decode prog_4_method_5_code 9 = .ok (.aload_n 1, 1) := D_43 W_prog_4_method_5_code_0 9 rfl rfl
theorem d_4_5_10 : decode prog_4_method_5_code 10 = .ok (.getfield 95, 3) := D_180 W_prog_4_method_5_code_0 10 rfl rfl rfl
theorem d_4_5_13 : decode prog_4_method_5_code 13 = .ok (.if_icmp .ge 72, 3) := D_162 W_prog_4_method_5_code_0 13 rfl rfl rfl
theorem W_prog_4_method_5_code_64 : chW prog_4_method_5_code 64 [17, 25, 6, 180, 0, 106, 42, 180, 0, 43, 21, 5, 46, 47, 66, 132, 5, 1, 167, 255, 181, 33, 173] := chW_of (by decide +kernel)
theorem d_4_5_85 : decode prog_4_method_5_code 85 = .ok (.lload_n 3, 1) := D_33 W_prog_4_method_5_code_64 21 rfl rfl
theorem d_4_5_86 : decode prog_4_method_5_code 86 = .ok (.lreturn, 1) := D_173 W_prog_4_method_5_code_64 22 rfl rfl
theorem d_4_5_16 : decode prog_4_method_5_code 16 = .ok (.aload_n 1, 1) := D_43 W_prog_4_method_5_code_0 16 rfl rfl
theorem d_4_5_17 : decode prog_4_method_5_code 17 = .ok (.getfield 98, 3) := D_180 W_prog_4_method_5_code_0 17 rfl rfl rfl
theorem d_4_5_20 : decode prog_4_method_5_code 20 = .ok (.iload 5, 2) := D_21 W_prog_4_method_5_code_0 20 rfl rfl
theorem d_4_5_22 : decode prog_4_method_5_code 22 = .ok (.aaload, 1) := D_50 W_prog_4_method_5_code_0 22 rfl rfl
theorem d_4_5_23 : decode prog_4_method_5_code 23 = .ok (.astore 6, 2) := D_58 W_prog_4_method_5_code_0 23 rfl rfl
theorem d_4_5_25 : decode prog_4_method_5_code 25 = .ok (.aload 6, 2) := D_25 W_prog_4_method_5_code_0 25 rfl rfl
theorem d_4_5_27 : decode prog_4_method_5_code 27 = .ok (.aload_n 0, 1) := D_42 W_prog_4_method_5_code_0 27 rfl rfl
theorem d_4_5_28 : decode prog_4_method_5_code 28 = .ok (.getfield 43, 3) := D_180 W_prog_4_method_5_code_0 28 rfl rfl rfl
theorem d_4_5_31 : decode prog_4_method_5_code 31 = .ok (.iload 5, 2) := D_21 W_prog_4_method_5_code_0 31 rfl rfl
theorem W_prog_4_method_5_code_32 : chW prog_4_method_5_code 32 [5, 46, 28, 184, 0, 102, 153, 0, 41, 33, 9, 148, 155, 0, 21, 25, 6, 180, 0, 106, 42, 180, 0, 43, 21, 5, 46, 47, 33, 148, 156, 0, 17, 25, 6, 180] := chW_of (by decide +kernel)
theorem d_4_5_33 : decode prog_4_method_5_code 33 = .ok (.iaload, 1) := D_46 W_prog_4_method_5_code_32 1 rfl rfl
theorem d_4_5_34 : decode prog_4_method_5_code 34 = .ok (.iload_n 2, 1) := D_28 W_prog_4_method_5_code_32 2 rfl rfl
theorem d_4_5_35 : decode prog_4_method_5_code 35 = .ok (.invokestatic 102, 3) := D_184 W_prog_4_method_5_code_32 3 rfl rfl rfl
theorem W_prog_4_method_10_code_0 : chW prog_4_method_10_code 0 [42, 180, 0, 37, 28, 9, 80, 28, 4, 100, 54, 4, 21, 4, 155, 0, 137, 43, 21, 4, 184, 0, 134, 54, 5, 42, 180, 0, 37, 21, 4, 20, 0, 138, 80, 21] := chW_of (by decide +kernel)

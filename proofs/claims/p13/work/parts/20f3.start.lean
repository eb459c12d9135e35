section


theorem st_ts {args : Array Value} {s : State} {A : Nat → Prop} (h0 : ∀ w ∈ lw_tbl, w.before args s = true) (hf : ∀ c ∈ flA naT [], c.before args s = true) (hA : ∀ a : Nat, a < s.heap.size → ¬ A a) : ∀ i : Nat, ∃ t : Nat, ∀ q : String × String × String × Bool × List Int, staL[i]? = some q → va_Z q.1 q.2.1 q.2.2.1 (.ref t) A s s.heap ∧ va_T (if q.2.2.2.1 then .long else .int) t q.2.2.2.2.length (fun j => if q.2.2.2.1 then .long (Int64.ofInt (q.2.2.2.2.getD j 0)) else .int (Int32.ofInt (q.2.2.2.2.getD j 0))) A s s.heap
  | 0 => by
    obtain ⟨t, h⟩ := st_t0 (A := A) h0 hf hA
    exact ⟨t, fun q hq => by cases hq; exact h⟩
  | 1 => by
    obtain ⟨t, h⟩ := st_t1 (A := A) h0 hf hA
    exact ⟨t, fun q hq => by cases hq; exact h⟩
  | 2 => by
    obtain ⟨t, h⟩ := st_t2 (A := A) h0 hf hA
    exact ⟨t, fun q hq => by cases hq; exact h⟩
  | 3 => by
    obtain ⟨t, h⟩ := st_t3 (A := A) h0 hf hA
    exact ⟨t, fun q hq => by cases hq; exact h⟩
  | 4 => by
    obtain ⟨t, h⟩ := st_t4 (A := A) h0 hf hA
    exact ⟨t, fun q hq => by cases hq; exact h⟩
  | 5 => by
    obtain ⟨t, h⟩ := st_t5 (A := A) h0 hf hA
    exact ⟨t, fun q hq => by cases hq; exact h⟩
  | 6 => by
    obtain ⟨t, h⟩ := st_t6 (A := A) h0 hf hA
    exact ⟨t, fun q hq => by cases hq; exact h⟩
  | 7 => by
    obtain ⟨t, h⟩ := st_t7 (A := A) h0 hf hA
    exact ⟨t, fun q hq => by cases hq; exact h⟩
  | 8 => by
    obtain ⟨t, h⟩ := st_t8 (A := A) h0 hf hA
    exact ⟨t, fun q hq => by cases hq; exact h⟩
  | 9 => by
    obtain ⟨t, h⟩ := st_t9 (A := A) h0 hf hA
    exact ⟨t, fun q hq => by cases hq; exact h⟩
  | 10 => by
    obtain ⟨t, h⟩ := st_t10 (A := A) h0 hf hA
    exact ⟨t, fun q hq => by cases hq; exact h⟩
  | 11 => by
    obtain ⟨t, h⟩ := st_t11 (A := A) h0 hf hA
    exact ⟨t, fun q hq => by cases hq; exact h⟩
  | 12 => by
    obtain ⟨t, h⟩ := st_t12 (A := A) h0 hf hA
    exact ⟨t, fun q hq => by cases hq; exact h⟩
  | 13 => by
    obtain ⟨t, h⟩ := st_t13 (A := A) h0 hf hA
    exact ⟨t, fun q hq => by cases hq; exact h⟩
  | 14 => by
    obtain ⟨t, h⟩ := st_t14 (A := A) h0 hf hA
    exact ⟨t, fun q hq => by cases hq; exact h⟩
  | 15 => by
    obtain ⟨t, h⟩ := st_t15 (A := A) h0 hf hA
    exact ⟨t, fun q hq => by cases hq; exact h⟩
  | 16 => by
    obtain ⟨t, h⟩ := st_t16 (A := A) h0 hf hA
    exact ⟨t, fun q hq => by cases hq; exact h⟩
  | 17 => by
    obtain ⟨t, h⟩ := st_t17 (A := A) h0 hf hA
    exact ⟨t, fun q hq => by cases hq; exact h⟩
  | k + 18 => ⟨0, fun q hq => by
    have h1 : staL.length ≤ k + 18 := by simp [staL]
    rw [List.getElem?_eq_none h1] at hq
    cases hq⟩
theorem st_nest {args : Array Value} {s : State} (h0 : ∀ w ∈ lw_tbl, w.before args s = true) : ∀ q ∈ nestL, va_Nw (.methodLinkNest q.1 q.2.1 q.2.2.1 q.2.2.2) s := by
  unfold nestL
  exact List.forall_mem_cons.mpr ⟨va_Nw.of rfl (h0 _ (tb_1 (j := 62) (w := (Jvm.Cond.methodLinkNest "StaveHouse" (33 : Nat) ({ cls := "StaveHouse$Parser", name := "<init>", desc := "()V" } : Jvm.MethodName) "StaveHouse")) rfl)), List.forall_mem_cons.mpr ⟨va_Nw.of rfl (h0 _ (tb_1 (j := 68) (w := (Jvm.Cond.methodLinkNest "StaveHouse$Parser" (47 : Nat) ({ cls := "StaveHouse$Tokens", name := "<init>", desc := "()V" } : Jvm.MethodName) "StaveHouse")) rfl)), List.forall_mem_cons.mpr ⟨va_Nw.of rfl (h0 _ (tb_1 (j := 186) (w := (Jvm.Cond.methodLinkNest "StaveHouse" (40 : Nat) ({ cls := "StaveHouse$Walker", name := "<init>", desc := "()V" } : Jvm.MethodName) "StaveHouse")) rfl)), List.forall_mem_cons.mpr ⟨va_Nw.of rfl (h0 _ (tb_2 (j := 10) (w := (Jvm.Cond.methodLinkNest "StaveHouse" (47 : Nat) ({ cls := "StaveHouse$Scribe", name := "<init>", desc := "()V" } : Jvm.MethodName) "StaveHouse")) rfl)), List.forall_mem_cons.mpr ⟨va_Nw.of rfl (h0 _ (tb_2 (j := 16) (w := (Jvm.Cond.methodLinkNest "StaveHouse$Scribe" (11 : Nat) ({ cls := "StaveHouse$Event", name := "<init>", desc := "()V" } : Jvm.MethodName) "StaveHouse")) rfl)), List.forall_mem_cons.mpr ⟨va_Nw.of rfl (h0 _ (tb_2 (j := 179) (w := (Jvm.Cond.methodLinkNest "StaveHouse" (67 : Nat) ({ cls := "StaveHouse$Piece", name := "<init>", desc := "()V" } : Jvm.MethodName) "StaveHouse")) rfl)), List.forall_mem_cons.mpr ⟨va_Nw.of rfl (h0 _ (tb_4 (j := 114) (w := (Jvm.Cond.methodLinkNest "StaveHouse$Part" (30 : Nat) ({ cls := "StaveHouse$Event", name := "<init>", desc := "()V" } : Jvm.MethodName) "StaveHouse")) rfl)), List.forall_mem_cons.mpr ⟨va_Nw.of rfl (h0 _ (tb_5 (j := 192) (w := (Jvm.Cond.methodLinkNest "StaveHouse$Piece" (110 : Nat) ({ cls := "StaveHouse$Study", name := "<init>", desc := "()V" } : Jvm.MethodName) "StaveHouse")) rfl)), List.forall_mem_cons.mpr ⟨va_Nw.of rfl (h0 _ (tb_6 (j := 58) (w := (Jvm.Cond.methodLinkNest "StaveHouse$Piece" (99 : Nat) ({ cls := "StaveHouse$Performance", name := "<init>", desc := "()V" } : Jvm.MethodName) "StaveHouse")) rfl)), List.forall_mem_cons.mpr ⟨va_Nw.of rfl (h0 _ (tb_6 (j := 211) (w := (Jvm.Cond.methodLinkNest "StaveHouse" (237 : Nat) ({ cls := "StaveHouse$Layout", name := "<init>", desc := "()V" } : Jvm.MethodName) "StaveHouse")) rfl)), List.forall_mem_cons.mpr ⟨va_Nw.of rfl (h0 _ (tb_7 (j := 211) (w := (Jvm.Cond.methodLinkNest "StaveHouse" (277 : Nat) ({ cls := "StaveHouse$SoundFile", name := "<init>", desc := "()V" } : Jvm.MethodName) "StaveHouse")) rfl)), List.forall_mem_cons.mpr ⟨va_Nw.of rfl (h0 _ (tb_9 (j := 121) (w := (Jvm.Cond.methodLinkNest "StaveHouseModel" (39 : Nat) ({ cls := "StaveHouseModel$Piece", name := "<init>", desc := "()V" } : Jvm.MethodName) "StaveHouseModel")) rfl)), List.forall_mem_cons.mpr ⟨va_Nw.of rfl (h0 _ (tb_4 (j := 62) (w := (Jvm.Cond.methodLinkNest "StaveHouse$Parser" (315 : Nat) ({ cls := "StaveHouse", name := "naturalTone", desc := "(I)I" } : Jvm.MethodName) "StaveHouse")) rfl)), List.forall_mem_cons.mpr ⟨va_Nw.of rfl (h0 _ (tb_4 (j := 227) (w := (Jvm.Cond.methodLinkNest "StaveHouse$Walker" (191 : Nat) ({ cls := "StaveHouse", name := "naturalTone", desc := "(I)I" } : Jvm.MethodName) "StaveHouse")) rfl)), List.forall_mem_cons.mpr ⟨va_Nw.of rfl (h0 _ (tb_5 (j := 64) (w := (Jvm.Cond.methodLinkNest "StaveHouse$Part" (175 : Nat) ({ cls := "StaveHouse", name := "greatestValue", desc := "(I)I" } : Jvm.MethodName) "StaveHouse")) rfl)), List.forall_mem_cons.mpr ⟨va_Nw.of rfl (h0 _ (tb_5 (j := 75) (w := (Jvm.Cond.methodLinkNest "StaveHouse$Part" (169 : Nat) ({ cls := "StaveHouse", name := "fineValue", desc := "(I)I" } : Jvm.MethodName) "StaveHouse")) rfl)), List.forall_mem_cons.mpr ⟨va_Nw.of rfl (h0 _ (tb_5 (j := 86) (w := (Jvm.Cond.methodLinkNest "StaveHouse$Part" (165 : Nat) ({ cls := "StaveHouse", name := "nextValue", desc := "(IIII)I" } : Jvm.MethodName) "StaveHouse")) rfl)), List.forall_mem_cons.mpr ⟨va_Nw.of rfl (h0 _ (tb_5 (j := 116) (w := (Jvm.Cond.methodLinkNest "StaveHouse$Part" (197 : Nat) ({ cls := "StaveHouse", name := "keyAlteration", desc := "(II)I" } : Jvm.MethodName) "StaveHouse")) rfl)), List.forall_mem_cons.mpr ⟨va_Nw.of rfl (h0 _ (tb_5 (j := 148) (w := (Jvm.Cond.methodLinkNest "StaveHouse$Piece" (77 : Nat) ({ cls := "StaveHouse", name := "beatCount", desc := "(II)I" } : Jvm.MethodName) "StaveHouse")) rfl)), List.forall_mem_cons.mpr ⟨va_Nw.of rfl (h0 _ (tb_6 (j := 25) (w := (Jvm.Cond.methodLinkNest "StaveHouse$Event" (25 : Nat) ({ cls := "StaveHouse", name := "naturalTone", desc := "(I)I" } : Jvm.MethodName) "StaveHouse")) rfl)), List.forall_mem_cons.mpr ⟨va_Nw.of rfl (h0 _ (tb_6 (j := 132) (w := (Jvm.Cond.methodLinkNest "StaveHouse$Performance" (150 : Nat) ({ cls := "StaveHouse", name := "naturalTone", desc := "(I)I" } : Jvm.MethodName) "StaveHouse")) rfl)), List.forall_mem_cons.mpr ⟨va_Nw.of rfl (h0 _ (tb_6 (j := 133) (w := (Jvm.Cond.methodLinkNest "StaveHouse$Performance" (156 : Nat) ({ cls := "StaveHouse", name := "keyAlteration", desc := "(II)I" } : Jvm.MethodName) "StaveHouse")) rfl)), List.forall_mem_cons.mpr ⟨va_Nw.of rfl (h0 _ (tb_8 (j := 201) (w := (Jvm.Cond.methodLinkNest "StaveHouse$Scribe" (183 : Nat) ({ cls := "StaveHouse", name := "nextValue", desc := "(IIII)I" } : Jvm.MethodName) "StaveHouse")) rfl)), List.forall_mem_cons.mpr ⟨va_Nw.of rfl (h0 _ (tb_8 (j := 202) (w := (Jvm.Cond.methodLinkNest "StaveHouse$Scribe" (187 : Nat) ({ cls := "StaveHouse", name := "fineValue", desc := "(I)I" } : Jvm.MethodName) "StaveHouse")) rfl)), List.forall_mem_cons.mpr ⟨va_Nw.of rfl (h0 _ (tb_9 (j := 76) (w := (Jvm.Cond.methodLinkNest "StaveHouse$Study" (189 : Nat) ({ cls := "StaveHouse", name := "keyAlteration", desc := "(II)I" } : Jvm.MethodName) "StaveHouse")) rfl)), List.forall_mem_cons.mpr ⟨va_Nw.of rfl (h0 _ (tb_9 (j := 110) (w := (Jvm.Cond.methodLinkNest "StaveHouse$Part" (235 : Nat) ({ cls := "StaveHouse", name := "gcd", desc := "(JJ)J" } : Jvm.MethodName) "StaveHouse")) rfl)), fun _ h => absurd h List.not_mem_nil⟩⟩⟩⟩⟩⟩⟩⟩⟩⟩⟩⟩⟩⟩⟩⟩⟩⟩⟩⟩⟩⟩⟩⟩⟩⟩
theorem st_nestF {args : Array Value} {s : State} (h0 : ∀ w ∈ lw_tbl, w.before args s = true) : ∀ q ∈ nestF, va_Nw (.fieldLinkNest q.1 q.2.1 q.2.2.1 q.2.2.2.1 q.2.2.2.2.1 q.2.2.2.2.2) s := by
  unfold nestF
  exact List.forall_mem_cons.mpr ⟨va_Nw.of rfl (h0 _ (tb_4 (j := 20) (w := (Jvm.Cond.fieldLinkNest "StaveHouse$Parser" (299 : Nat) "StaveHouse" "POINT_QUARTERS" "[I" "StaveHouse")) rfl)), List.forall_mem_cons.mpr ⟨va_Nw.of rfl (h0 _ (tb_8 (j := 231) (w := (Jvm.Cond.fieldLinkNest "StaveHouse$Scribe" (126 : Nat) "StaveHouse" "NATURAL_TONES" "[I" "StaveHouse")) rfl)), List.forall_mem_cons.mpr ⟨va_Nw.of rfl (h0 _ (tb_9 (j := 56) (w := (Jvm.Cond.fieldLinkNest "StaveHouse$Study" (180 : Nat) "StaveHouse" "NATURAL_TONES" "[I" "StaveHouse")) rfl)), fun _ h => absurd h List.not_mem_nil⟩⟩⟩
theorem st_ao {args : Array Value} {s : State} (h0 : ∀ w ∈ lw_tbl, w.before args s = true) : ∀ C ∈ aoL, va_AO C s := by
  unfold aoL
  exact List.forall_mem_cons.mpr ⟨va_AO.of (h0 _ (tb_1 (j := 59) (w := (Jvm.Cond.arrayOver (Jvm.ClassFile.FieldType.object "StaveHouse$Piece"))) rfl)), List.forall_mem_cons.mpr ⟨va_AO.of (h0 _ (tb_2 (j := 184) (w := (Jvm.Cond.arrayOver (Jvm.ClassFile.FieldType.object "StaveHouse$Part"))) rfl)), List.forall_mem_cons.mpr ⟨va_AO.of (h0 _ (tb_9 (j := 119) (w := (Jvm.Cond.arrayOver (Jvm.ClassFile.FieldType.object "StaveHouseModel$Piece"))) rfl)), List.forall_mem_cons.mpr ⟨va_AO.of (h0 _ (tb_4 (j := 111) (w := (Jvm.Cond.arrayOver (Jvm.ClassFile.FieldType.object "StaveHouse$Event"))) rfl)), fun _ h => absurd h List.not_mem_nil⟩⟩⟩⟩
theorem over_here {args : Array Value} {s : State} {t : FieldType} (h : (Cond.arrayOver (.array t)).before args s = true) : (Cond.arrayOver (.array t)).before #[] s = true := over_moved (Vm.Alike.refl _) h
theorem st_over {args : Array Value} {s : State} (h0 : ∀ w ∈ lw_tbl, w.before args s = true) : ∀ ty ∈ [FieldType.int, FieldType.long], (Cond.arrayOver (.array ty)).before #[] s = true := List.forall_mem_cons.mpr ⟨over_here (h0 _ (tb_4 (j := 113) (w := (Jvm.Cond.arrayOver (Jvm.ClassFile.FieldType.array Jvm.ClassFile.FieldType.int))) rfl)), List.forall_mem_cons.mpr ⟨over_here (h0 _ (tb_7 (j := 216) (w := (Jvm.Cond.arrayOver (Jvm.ClassFile.FieldType.array Jvm.ClassFile.FieldType.long))) rfl)), fun _ h => absurd h List.not_mem_nil⟩⟩
theorem st_stat {args : Array Value} {s : State} {A : Nat → Prop} (h0 : ∀ w ∈ lw_tbl, w.before args s = true) (hf : ∀ c ∈ flA naT [], c.before args s = true) (hA : ∀ a : Nat, a < s.heap.size → ¬ A a) : ∀ q ∈ statL, va_Z q.1 q.2.1 q.2.2.1 q.2.2.2 A s s.heap := by
  unfold statL
  exact List.forall_mem_cons.mpr ⟨va_Zof (h0 _ (tb_3 (j := 80) (w := (Jvm.Cond.laysStatic "java/lang/String" "COMPACT_STRINGS" "Z")) rfl)) (h0 _ (tb_1 (j := 11) (w := (Jvm.Cond.initialized "java/lang/String")) rfl)) (va_eqt (hf (Cond.eq (.static "java/lang/String" "COMPACT_STRINGS" "Z") (.int 1)) (by decide +kernel))) hA, List.forall_mem_cons.mpr ⟨va_Zof (h0 _ (tb_10 (j := 208) (w := (Jvm.Cond.laysStatic "StaveHouseModel" "KEY" "J")) rfl)) (h0 _ (tb_1 (j := 9) (w := (Jvm.Cond.initialized "StaveHouseModel")) rfl)) (va_eqtl (hf (Cond.eq (.static "StaveHouseModel" "KEY" "J") (.long 7038329)) (by decide +kernel))) hA, List.forall_mem_cons.mpr ⟨va_Zof (h0 _ (tb_10 (j := 210) (w := (Jvm.Cond.laysStatic "StaveHouseModel" "MAJOR" "J")) rfl)) (h0 _ (tb_1 (j := 9) (w := (Jvm.Cond.initialized "StaveHouseModel")) rfl)) (va_eqtl (hf (Cond.eq (.static "StaveHouseModel" "MAJOR" "J") (.long 469785800562)) (by decide +kernel))) hA, List.forall_mem_cons.mpr ⟨va_Zof (h0 _ (tb_10 (j := 212) (w := (Jvm.Cond.laysStatic "StaveHouseModel" "MINOR" "J")) rfl)) (h0 _ (tb_1 (j := 9) (w := (Jvm.Cond.initialized "StaveHouseModel")) rfl)) (va_eqtl (hf (Cond.eq (.static "StaveHouseModel" "MINOR" "J") (.long 469920280434)) (by decide +kernel))) hA, List.forall_mem_cons.mpr ⟨va_Zof (h0 _ (tb_10 (j := 214) (w := (Jvm.Cond.laysStatic "StaveHouseModel" "TIME" "J")) rfl)) (h0 _ (tb_1 (j := 9) (w := (Jvm.Cond.initialized "StaveHouseModel")) rfl)) (va_eqtl (hf (Cond.eq (.static "StaveHouseModel" "TIME" "J") (.long 1953066341)) (by decide +kernel))) hA, List.forall_mem_cons.mpr ⟨va_Zof (h0 _ (tb_10 (j := 216) (w := (Jvm.Cond.laysStatic "StaveHouseModel" "TEMPO" "J")) rfl)) (h0 _ (tb_1 (j := 9) (w := (Jvm.Cond.initialized "StaveHouseModel")) rfl)) (va_eqtl (hf (Cond.eq (.static "StaveHouseModel" "TEMPO" "J") (.long 499917877359)) (by decide +kernel))) hA, List.forall_mem_cons.mpr ⟨va_Zof (h0 _ (tb_10 (j := 218) (w := (Jvm.Cond.laysStatic "StaveHouseModel" "LET" "J")) rfl)) (h0 _ (tb_1 (j := 9) (w := (Jvm.Cond.initialized "StaveHouseModel")) rfl)) (va_eqtl (hf (Cond.eq (.static "StaveHouseModel" "LET" "J") (.long 7103860)) (by decide +kernel))) hA, List.forall_mem_cons.mpr ⟨va_Zof (h0 _ (tb_10 (j := 220) (w := (Jvm.Cond.laysStatic "StaveHouseModel" "VOICE" "J")) rfl)) (h0 _ (tb_1 (j := 9) (w := (Jvm.Cond.initialized "StaveHouseModel")) rfl)) (va_eqtl (hf (Cond.eq (.static "StaveHouseModel" "VOICE" "J") (.long 508675318629)) (by decide +kernel))) hA, List.forall_mem_cons.mpr ⟨va_Zof (h0 _ (tb_10 (j := 222) (w := (Jvm.Cond.laysStatic "StaveHouseModel" "REPEAT" "J")) rfl)) (h0 _ (tb_1 (j := 9) (w := (Jvm.Cond.initialized "StaveHouseModel")) rfl)) (va_eqtl (hf (Cond.eq (.static "StaveHouseModel" "REPEAT" "J") (.long 125780002955636)) (by decide +kernel))) hA, List.forall_mem_cons.mpr ⟨va_Zof (h0 _ (tb_10 (j := 224) (w := (Jvm.Cond.laysStatic "StaveHouseModel" "ALT" "J")) rfl)) (h0 _ (tb_1 (j := 9) (w := (Jvm.Cond.initialized "StaveHouseModel")) rfl)) (va_eqtl (hf (Cond.eq (.static "StaveHouseModel" "ALT" "J") (.long 6384756)) (by decide +kernel))) hA, List.forall_mem_cons.mpr ⟨va_Zof (h0 _ (tb_10 (j := 226) (w := (Jvm.Cond.laysStatic "StaveHouseModel" "USE" "J")) rfl)) (h0 _ (tb_1 (j := 9) (w := (Jvm.Cond.initialized "StaveHouseModel")) rfl)) (va_eqtl (hf (Cond.eq (.static "StaveHouseModel" "USE" "J") (.long 7697253)) (by decide +kernel))) hA, List.forall_mem_cons.mpr ⟨va_Zof (h0 _ (tb_10 (j := 228) (w := (Jvm.Cond.laysStatic "StaveHouseModel" "MOVE" "J")) rfl)) (h0 _ (tb_1 (j := 9) (w := (Jvm.Cond.initialized "StaveHouseModel")) rfl)) (va_eqtl (hf (Cond.eq (.static "StaveHouseModel" "MOVE" "J") (.long 1836021349)) (by decide +kernel))) hA, List.forall_mem_cons.mpr ⟨va_Zof (h0 _ (tb_10 (j := 230) (w := (Jvm.Cond.laysStatic "StaveHouseModel" "MIRROR" "J")) rfl)) (h0 _ (tb_1 (j := 9) (w := (Jvm.Cond.initialized "StaveHouseModel")) rfl)) (va_eqtl (hf (Cond.eq (.static "StaveHouseModel" "MIRROR" "J") (.long 120299659095922)) (by decide +kernel))) hA, List.forall_mem_cons.mpr ⟨va_Zof (h0 _ (tb_10 (j := 232) (w := (Jvm.Cond.laysStatic "StaveHouseModel" "BACK" "J")) rfl)) (h0 _ (tb_1 (j := 9) (w := (Jvm.Cond.initialized "StaveHouseModel")) rfl)) (va_eqtl (hf (Cond.eq (.static "StaveHouseModel" "BACK" "J") (.long 1650549611)) (by decide +kernel))) hA, List.forall_mem_cons.mpr ⟨va_Zof (h0 _ (tb_10 (j := 234) (w := (Jvm.Cond.laysStatic "StaveHouseModel" "SLOW" "J")) rfl)) (h0 _ (tb_1 (j := 9) (w := (Jvm.Cond.initialized "StaveHouseModel")) rfl)) (va_eqtl (hf (Cond.eq (.static "StaveHouseModel" "SLOW" "J") (.long 1936486263)) (by decide +kernel))) hA, List.forall_mem_cons.mpr ⟨va_Zof (h0 _ (tb_10 (j := 236) (w := (Jvm.Cond.laysStatic "StaveHouseModel" "REST" "J")) rfl)) (h0 _ (tb_1 (j := 9) (w := (Jvm.Cond.initialized "StaveHouseModel")) rfl)) (va_eqtl (hf (Cond.eq (.static "StaveHouseModel" "REST" "J") (.long 114)) (by decide +kernel))) hA, fun _ h => absurd h List.not_mem_nil⟩⟩⟩⟩⟩⟩⟩⟩⟩⟩⟩⟩⟩⟩⟩⟩
theorem st_X {args : Array Value} {s : State} {A : Nat → Prop} (h0 : ∀ w ∈ lw_tbl, w.before args s = true) (hg : (Jvm.Cond.and given_1 narrow_1).before args s = true) (hA : ∀ a : Nat, a < s.heap.size → ¬ A a) : ∃ ad av : Nat → Nat, gX ad av A s s.heap := by
  have hf : ∀ c ∈ flA naT [], c.before args s = true := fun c hc => flat_of_before naT hg c (flA_m hc)
  obtain ⟨d, hd⟩ := Classical.axiomOfChoice (st_strs (A := A) h0 hf hA)
  obtain ⟨t, ht⟩ := Classical.axiomOfChoice (st_ts (A := A) h0 hf hA)
  refine ⟨fun i => (d i).1, fun i => if i < 1000 then (d i).2 else t (i - 1000), st_nest h0, st_ao h0, st_over h0, st_stat h0 hf hA, fun i q hq => ?_,
    ⟨va_Zqof (h0 _ (tb_3 (j := 121) (w := (Jvm.Cond.laysStatic "jdk/internal/util/Preconditions" "SIOOBE_FORMATTER" "Ljava/util/function/BiFunction;")) rfl)) (h0 _ (tb_1 (j := 13) (w := (Jvm.Cond.initialized "jdk/internal/util/Preconditions")) rfl)) (hf (Cond.isRef (.static "jdk/internal/util/Preconditions" "SIOOBE_FORMATTER" "Ljava/util/function/BiFunction;")) (by decide +kernel)) hA, st_nestF h0⟩, fun i q hq => ?_⟩
  · have hi : i < 1000 := Nat.lt_of_lt_of_le (List.getElem?_eq_some_iff.mp hq).1 (by decide)
    have e : (if i < 1000 then (d i).2 else t (i - 1000)) = (d i).2 := if_pos hi
    show vk_R q.1 q.2.1 q.2.2.1 (d i).1 s ∧ vk_S 1 [q.2.2.2.1] [q.2.2.2.2] (fun _ => (d i).1) (fun _ => if i < 1000 then (d i).2 else t (i - 1000)) A s s.heap
    rw [e]
    exact hd i q hq
  · have e : (if 1000 + i < 1000 then (d (1000 + i)).2 else t (1000 + i - 1000)) = t i := by
      rw [if_neg (by omega), Nat.add_sub_cancel_left]
    show va_Z q.1 q.2.1 q.2.2.1 (.ref (if 1000 + i < 1000 then (d (1000 + i)).2 else t (1000 + i - 1000))) A s s.heap ∧ va_T _ (if 1000 + i < 1000 then (d (1000 + i)).2 else t (1000 + i - 1000)) _ _ A s s.heap
    rw [e]
    exact ht i q hq
end
section
theorem k_1_24 : (Jvm.Cond.classLink "StaveHouseLaw" (7 : Nat) "StaveHouse") ∈ wAll := wA_1 (j := 24) rfl rfl
theorem k_1_28 : (Jvm.Cond.code ({ cls := "StaveHouse", name := "<init>", desc := "()V" } : Jvm.MethodName) prog_1_method_1_code (1 : Nat) (Option.none : Option Jvm.ClassFile.FieldType)) ∈ wAll := wA_1 (j := 28) rfl rfl
theorem k_1_26 : (Jvm.Cond.methodLink "StaveHouseLaw" (9 : Nat) ({ cls := "StaveHouse", name := "<init>", desc := "()V" } : Jvm.MethodName)) ∈ wAll := wA_1 (j := 26) rfl rfl
theorem k_1_27 : (Jvm.Cond.instanceMethod ({ cls := "StaveHouse", name := "<init>", desc := "()V" } : Jvm.MethodName)) ∈ wAll := wA_1 (j := 27) rfl rfl
theorem k_9_112 : (Jvm.Cond.classLink "StaveHouseLaw" (10 : Nat) "StaveHouseModel") ∈ wAll := wA_9 (j := 112) rfl rfl
theorem k_9_116 : (Jvm.Cond.code ({ cls := "StaveHouseModel", name := "<init>", desc := "()V" } : Jvm.MethodName) prog_15_method_11_code (1 : Nat) (Option.none : Option Jvm.ClassFile.FieldType)) ∈ wAll := wA_9 (j := 116) rfl rfl
theorem k_9_114 : (Jvm.Cond.methodLink "StaveHouseLaw" (12 : Nat) ({ cls := "StaveHouseModel", name := "<init>", desc := "()V" } : Jvm.MethodName)) ∈ wAll := wA_9 (j := 114) rfl rfl
theorem k_9_115 : (Jvm.Cond.instanceMethod ({ cls := "StaveHouseModel", name := "<init>", desc := "()V" } : Jvm.MethodName)) ∈ wAll := wA_9 (j := 115) rfl rfl
theorem d_code_0 : decode code 0 = .ok (.new 7, 3) := D_187 W_code_0 0 rfl rfl rfl
theorem d_code_3 : decode code 3 = .ok (.dup, 1) := D_89 W_code_0 3 rfl rfl
theorem d_code_4 : decode code 4 = .ok (.invokespecial 9, 3) := D_183 W_code_0 4 rfl rfl rfl
theorem d_code_7 : decode code 7 = .ok (.astore_n 1, 1) := D_76 W_code_0 7 rfl rfl
theorem d_code_8 : decode code 8 = .ok (.new 10, 3) := D_187 W_code_0 8 rfl rfl rfl
theorem d_code_11 : decode code 11 = .ok (.dup, 1) := D_89 W_code_0 11 rfl rfl
theorem d_code_12 : decode code 12 = .ok (.invokespecial 12, 3) := D_183 W_code_0 12 rfl rfl rfl
theorem d_code_15 : decode code 15 = .ok (.astore_n 2, 1) := D_77 W_code_0 15 rfl rfl
theorem d_code_16 : decode code 16 = .ok (.iconst 0, 1) := D_3 W_code_0 16 rfl rfl
theorem d_code_17 : decode code 17 = .ok (.istore_n 3, 1) := D_62 W_code_0 17 rfl rfl
/-! ===== the law's walk from its entry, and the claim out of the pure functions ===== -/
def zF0 : zF := fun c _ k => if (zk c k).1 = 2 then -1 else 0
def zB0 : zB := fun _ _ _ _ => 0
section ZN
variable {D : va_G} {ca : Nat → ClassId} {ad ad2 : Nat → Int → Nat → Nat} {ln ln2 : Nat → Int → Nat → Nat} {N N' N2 : Nat → Int} {L L2 : List Nat} {F F2 : zF} {B B2 : zB} {A : Nat → Prop} {H : Heap}
theorem zH_nil : zH D ca ad ln (fun _ => 0) [] F B A H :=
  ⟨fun c i k c' i' k' h0 h1 => absurd (Int.lt_of_le_of_lt h0 h1) (show ¬ (0 : Int) < 0 by decide), fun _ => .inr (0, []), ⟨fun k q h => by simp [va_pl] at h, ⟨fun i j p q h => by simp [va_pl] at h, fun k q h => by simp [va_pl] at h⟩⟩, fun c i h0 h1 => absurd (Int.lt_of_le_of_lt h0 h1) (show ¬ (0 : Int) < 0 by decide)⟩
theorem zH.cong (hN : ∀ c, N c = N' c) (h : zH D ca ad ln N L F B A H) : zH D ca ad ln N' L F B A H := by
  obtain rfl : N = N' := funext hN
  exact h
theorem zH.asX (h : zH D ca ad ln N L F B A H) : ∃ f, zInj ad N ∧ zRep ca ad ln N L F B f ∧ zHx D ca ad2 ln2 (fun _ => 0) [] F2 B2 (va_pl L f) A H := by
  obtain ⟨hj, f, hM, hR⟩ := h
  refine ⟨f, hj, hR, ?_⟩
  obtain ⟨hj2, f2, -, hR2⟩ := zH_nil (D := D) (ca := ca) (ad := ad2) (ln := ln2) (F := F2) (B := B2) (A := A) (H := H)
  exact ⟨hj2, f2, by rw [show va_pl [] f2 = [] from rfl, List.append_nil]; exact hM.1, by rw [show va_pl [] f2 = [] from rfl, List.append_nil]; exact hM.2, hR2⟩
theorem zHx.split {f : Nat → va_E} (h : zHx D ca ad2 ln2 N2 L2 F2 B2 (va_pl L f) A H) (hj : zInj ad N) (hR : zRep ca ad ln N L F B f) : zH D ca ad ln N L F B A H ∧ zH D ca ad2 ln2 N2 L2 F2 B2 A H ∧ ∀ q ∈ L2, q ∉ L := by
  obtain ⟨hj2, f2, hP, hD, hR2⟩ := h
  obtain ⟨hn, hA⟩ := vaD_mem.mp hD
  rw [List.map_append, vapl_map, vapl_map] at hn
  obtain ⟨n1, n2, n3⟩ := List.nodup_append.mp hn
  refine ⟨⟨hj, f, ⟨vaP_mem.mpr (fun x hx => vaP_mem.mp hP x (List.mem_append.mpr (Or.inl hx))), vaD_mem.mpr ⟨by rw [vapl_map]; exact n1, fun x hx => hA x (List.mem_append.mpr (Or.inl hx))⟩⟩, hR⟩, ⟨hj2, f2, ⟨vaP_mem.mpr (fun x hx => vaP_mem.mp hP x (List.mem_append.mpr (Or.inr hx))), vaD_mem.mpr ⟨by rw [vapl_map]; exact n2, fun x hx => hA x (List.mem_append.mpr (Or.inr hx))⟩⟩, hR2⟩, fun q h2 h1 => n3 q h1 q h2 rfl⟩
end ZN
/-- what is left of the claim, over whole numbers: both make themselves, every call of every script returns on both sides, end answers alike, and what is made has room -/
def zGood (n : Nat) (xs : Nat → Int32) : Prop := ∃ (f fm Kr fl : Nat) (x : Int) (K Km K9 : zK) (F Fm F9 Fm9 : zF) (B Bm B9 Bm9 : zB), f_S_init (f, fun _ => 0) zF0 zB0 = some (x, F, B, K) ∧ f_M_init (fm, fun _ => 0) zF0 zB0 = some (0, Fm, Bm, Km) ∧ (∀ c, Km.2 c = nM c) ∧ lloop Kr x (scz xs) n fl 0 K F B Fm Bm = some (K9, F9, B9, Fm9, Bm9) ∧ 282 + cwC K K9 ≤ 600000 ∧ 716534 + swC K K9 ≤ 7302250
def zPure : Prop := ∀ (n : Nat) (xs : Nat → Int32), n ≤ 4608 → zGood n xs
set_option maxHeartbeats 8000000 in
set_option maxRecDepth 100000 in
theorem whole_start {p : Program} {e : Env} {s : State} {m : MethodId} {below : List Frame} {meth : Method} {c : Code} (l : Launch) {b L : Nat} {xs : Nat → Int32} (hL : L ≤ 4608) (hgd : zGood L xs) (C0 : lw_At p s m meth c b L xs) : W p l e room_1 s m #[Value.ref b] below meth c s.heap [] 0 0 (lw_Z below #[Value.ref b] s) (entryFrame m ([Value.ref b] : List Value).toArray 4) := by
  obtain ⟨hx, hb, hr, hml, hown, hts0, hXs, hbl, hlocks, hgv⟩ := id C0
  have hts := wA_hts hts0
  obtain ⟨A, eA⟩ : ∃ A : Nat → Prop, A = fun q => s.heap.size ≤ q := ⟨_, rfl⟩
  have hA : ∀ q, s.heap.size ≤ q → A q := fun q h => by rw [eA]; exact h
  have hA2 : ∀ q, A q → s.heap.size ≤ q := fun q h => by rw [eA] at h; exact h
  have hown : s.vm.findClass "StaveHouseLaw" = some m.cls := hown
  obtain ⟨D, ca, hK⟩ := st_K hts0
  obtain ⟨aS, vS, hX⟩ := st_X (A := A) hts0 hgv (fun a h z => absurd (hA2 a z) (Nat.not_le.mpr h))
  have hS : va_S A s.heap s.heap [] := va_S.rf
  have hbA : ¬ A b := fun z => Nat.not_le.mpr hbl (hA2 b z)
  have hl := lv_entry ([.ref b]) (n := 4) (Nat.le_of_ble_eq_true rfl)
  rw [lg_entry_eq]
  generalize (lg_sl ([.ref b]) ++ List.replicate (4 - (lg_sl ([.ref b])).length) Slot.unset).toArray = ls at hl ⊢
  have hl : lv_has ls 4 [(0, .ref b)] := hl
  obtain ⟨f, fm, Kr, fl, x, K, Km, K9, F, Fm, F9, Fm9, B, Bm, B9, Bm9, g1, g2, g3, g4, g5, g6⟩ := hgd
  have X0 : zX D ca [] aS vS A p s m #[Value.ref b] meth c code 4 ret "StaveHouseLaw" := ⟨hx, hb, hr, hml, hown, hts, hlocks, hK, hA, fun q h => absurd h List.not_mem_nil, hX⟩
  have hZ0 : zHx D ca (fun _ _ _ => 0) lnC (fun _ => 0) [] zF0 zB0 [] A s.heap := zHx.of zH_nil
  refine zxnew (C := RX12) (T := TX12) (n := 10) (ci := 12) hx hb hts inW_12 tyX12 tyX12_ok hown k_1_24 k_1_25 k_1_1 hK hZ0 hS hA rfl (Nat.le_of_ble_eq_true rfl) (Nat.le_of_ble_eq_true rfl) d_code_0 (fun q1 H1 hZ1 hS1 => ?_)
  refine W.widen (k := 1) (n := 10) (Nat.le_of_ble_eq_true rfl) (Nat.le_of_ble_eq_true rfl) ?_
  refine lv_dup hx hb d_code_3 rfl ?_
  refine va_callv (va_runI (As := []) (rest := [.ref q1]) ⟨hx, hb, hml, hown, hts⟩ (c_S_init (l := l) g1) (cwI 0 hts (gdC k_1_28) rfl rfl rfl (hts _ k_1_1) (hts _ k_1_26) (hts _ k_1_27) rfl (by decide +kernel) ⟨(Nat.le_of_ble_eq_true rfl), (Nat.le_of_ble_eq_true rfl)⟩) (zxPS (X := []) X0 hZ1 hS1 [.ref q1]) rfl rfl hl.1 rfl (lv_room (Nat.le_of_ble_eq_true rfl)) d_code_4 ⟨(Nat.le_of_ble_eq_true rfl), (Nat.le_of_ble_eq_true rfl)⟩) hS1 (fun z _ h => zxAin (X := []) X0 hZ1 hS1 z h) (zxAin (X := []) X0 hZ1 hS1) (fun u t H2 locs2 ht hv hw hB hz hk hS2 => ?_)
  obtain ⟨ad, L1⟩ := u
  obtain ⟨hg1, hq1⟩ := hw
  have hZ2 := (zxback (X := []) hZ1 (zxAin (X := []) X0 hZ1 hS1) hk ht hB).to
  refine W.widen (k := 35) (n := 61442) (Nat.le_of_ble_eq_true rfl) (Nat.le_of_ble_eq_true rfl) ?_
  refine lv_astore_n (lv' := [(1, .ref q1), (0, .ref b)]) hx hb d_code_7 rfl hl (by decide) rfl (fun ls hl => ?_)
  obtain ⟨fx, hj1, hR1, hZ3⟩ := hZ2.asX (ad2 := fun _ _ _ => 0) (ln2 := lnM) (F2 := zF0) (B2 := zB0)
  refine zxnew (C := RX14) (T := TX14) (n := 107) (ci := 14) hx hb hts inW_14 tyX14 tyX14_ok hown k_9_112 k_9_113 k_1_9 hK hZ3 hS2 hA rfl (Nat.le_of_ble_eq_true rfl) (Nat.le_of_ble_eq_true rfl) d_code_8 (fun q2 H4 hZ4 hS4 => ?_)
  refine W.widen (k := 36) (n := 61549) (Nat.le_of_ble_eq_true rfl) (Nat.le_of_ble_eq_true rfl) ?_
  refine lv_dup hx hb d_code_11 rfl ?_
  refine va_callv (va_runI (As := []) (rest := [.ref q2]) ⟨hx, hb, hml, hown, hts⟩ (c_M_init (l := l) g2) (cwI 0 hts (gdC k_9_116) rfl rfl rfl (hts _ k_1_9) (hts _ k_9_114) (hts _ k_9_115) rfl (by decide +kernel) ⟨(Nat.le_of_ble_eq_true rfl), (Nat.le_of_ble_eq_true rfl)⟩) (zxPS (X := va_pl L1 fx) X0 hZ4 hS4 [.ref q2]) rfl rfl hl.1 rfl (lv_room (Nat.le_of_ble_eq_true rfl)) d_code_12 ⟨(Nat.le_of_ble_eq_true rfl), (Nat.le_of_ble_eq_true rfl)⟩) hS4 (fun z _ h => zxAin X0 hZ4 hS4 z h) (zxAin X0 hZ4 hS4) (fun u5 t5 H5 locs5 ht5 hv5 hw5 hB5 hz5 hk5 hS5 => ?_)
  obtain ⟨ad2, L2⟩ := u5
  obtain ⟨hg5, hq5⟩ := hw5
  have hZ5 := zxback hZ4 (zxAin X0 hZ4 hS4) hk5 ht5 hB5
  obtain ⟨hZa, hZb, hd⟩ := hZ5.split hj1 hR1
  refine W.widen (k := 282) (n := 716534) (Nat.le_of_ble_eq_true rfl) (Nat.le_of_ble_eq_true rfl) ?_
  refine lv_astore_n (lv' := [(2, .ref q2), (1, .ref q1), (0, .ref b)]) hx hb d_code_15 rfl hl (by decide) rfl (fun ls hl => ?_)
  refine lv_iconst (v := iI 0) hx hb d_code_16 rfl ?_
  refine lv_istore_n (lv' := [(3, .int (iI 0)), (2, .ref q2), (1, .ref q1), (0, .ref b)]) hx hb d_code_17 rfl hl (by decide) rfl (fun ls hl => ?_)
  exact law_loop (X0.grow hZb.inA) hXs hbl hbA hA2 (Nat.le_trans hL (by decide)) hq5 g4 (X0.grow hZa.inA) hZa (hZb.cong g3) hd hS5 hq1 hl ⟨g5, g6⟩

set_option maxHeartbeats 4000000 in
theorem lw_walk (hP0 : zPure) (l : Launch) (b : Addr) (xs : List Int32) : MetFree l x (headSpec (Jvm.Cond.code x code maxLocals ret :: tables_1) room_1) (lw_P b xs) (fun _ _ _ _ _ => True) lw_Q := by
  refine MetFree.of_bodyS (code := code) (maxLocals := maxLocals) (ret := ret) (by decide) ?_ ?_
  · intro args s m h hn
    obtain ⟨meth, c, h1, h2, h3, h4, h5, h6, -, -⟩ := Cond.code_spec hn (atoms_spec (ws := Jvm.Cond.code x code maxLocals ret :: tables_1) h _ List.mem_cons_self)
    exact ⟨meth, c, h1, h2, h3, h4, h5, h6⟩
  · intro p e s m args below meth c s₁ B hml0 hP _
    obtain ⟨rfl, hx, hbd, hgv⟩ := hP
    obtain ⟨scr, harrAt, hlist, hof, hsmall⟩ := hx
    obtain ⟨hcb, hkn, -, -⟩ := State.arrayAt?_spec harrAt
    have hown : s.vm.findClass R_law = some m.cls := findClass_of_methodNamed B.named
    have hts0 : ∀ c ∈ (Jvm.Cond.code x code maxLocals ret :: tables_1), c.before #[Value.ref b] s = true := atoms_spec (ws := Jvm.Cond.code x code maxLocals ret :: tables_1) B.pre
    have hts : ∀ w ∈ lw_tbl, w.before #[Value.ref b] s = true := k2_hts_sels lw_privs (fun w hw => hts0 w (List.mem_cons_of_mem _ hw)) lw_privs_ok
    have hml : c.maxLocals = 4 := B.maxLocals_eq (hts0 _ List.mem_cons_self)
    have X₀ : Stand p l e room_1 s m #[Value.ref b] below meth c s₁ [] 0 0 := Stand.of_body B
    have hh0 : s₁.heap = s.heap := by rw [B.state]; rfl
    have hsz : scr.slots.size = xs.length := by rw [← Array.length_toList, hlist, List.length_map]
    have hval : ∀ j : Nat, j < xs.length → scr.slots[j]? = some (.int (xs.getD j 0)) := fun j hj => by
      rw [← Array.getElem?_toList, hlist]
      simp [hj]
    have hbl : b < s.heap.size := (Array.getElem?_eq_some_iff.mp hcb).1
    have hX : va_X b xs.length (fun j => xs.getD j 0) s s.heap := ⟨scr, hcb, hof, hkn, hsz, hval⟩
    have K : W p l e room_1 s m #[Value.ref b] below meth c s₁.heap [] 0 0 (lw_Z below #[Value.ref b] s) (entryFrame m ([Value.ref b] : List Value).toArray 4) := by
      rw [hh0]
      exact whole_start l hbd (hP0 _ _ hbd) ⟨B.exec, B.bytes, B.returns, hml, hown, hts, hX, hbl, B.notSynchronized, hgv⟩
    obtain ⟨t, a1, o, b1, b2, b3⟩ := K s₁ rfl X₀
    exact ⟨t, o, a1, b1, b2, b3⟩
theorem lw_pre_spec {args : Array Value} {s : State} (h : (Jvm.Cond.and given_1 narrow_1).before args s = true) (hr : rest_1_c.before args s = true) : ∃ (b : Addr) (xs : List Int32), lw_P b xs args s := by
  have hs := flat_of_before _ h
  have hq := flat_of_before _ hr
  have hc : (Cond.count 1).before args s = true := hs _ (by decide +kernel)
  have harr : (Cond.arrayOf (.arg 0) .int).before args s = true := hs _ (by decide +kernel)
  have hle : (Cond.le (.length (.arg 0)) (.int 4608)).before args s = true := hs _ (by decide +kernel)
  have hlen : (Cond.isInt (.length (.arg 0))).before args s = true := hq _ (by decide +kernel)
  have hall : (Cond.all (.arg 0) (.isInt (.elem (.arg 0) (.index 0)))).before args s = true := hq _ (by decide +kernel)
  obtain ⟨b, xs, hb, hx⟩ := State.ints_of_pre rfl harr hlen hall
  have hsm : xs.length < 2 ^ 31 := hx.choose_spec.2.2.2
  have hev : (Term.length (.arg 0)).eval args s none [] s = some (.int xs.length.toInt32) := hx.length_eval hb
  have hv := Cond.le_ints hev (show (Term.int 4608).eval args s none [] s = some (.int 4608) from rfl)
  have hd : xs.length.toInt32 ≤ 4608 := by
    simpa [Cond.before, Cond.holds, hv] using hle
  have hN : xs.length ≤ 4608 := (Int32.ofNat_le_ofNat hsm (by decide)).mp (show Int32.ofNat xs.length ≤ Int32.ofNat 4608 from hd)
  exact ⟨b, xs, Cond.one_arg hc (show args[0]? = some (.ref b) from hb), hx, hN, h⟩
theorem lw_comes (hP0 : zPure) (l : Launch) : Comes l x (Jvm.Cond.code x code maxLocals ret :: tables_1) room_1 (fun tb e args s => Calls_1 tb e args s ∧ rest_1 tb e args s ∧ Pre_1 tb e args s)
    (fun _ _ args s o t => lw_Q args s o t) := by
  intro p e ha hc hk s m args below hf hfit hheap happ hpre
  obtain ⟨b, xs, hP⟩ := lw_pre_spec hpre.2.2 hpre.2.1
  obtain ⟨k, o, h1, h2, h3, hQ⟩ := lw_walk hP0 l b xs p e ha hc hk s m args below hf ((Spec.applies_iff_loose hf).mp happ).1 hP trivial
  exact ⟨k, o, h1, h2, h3, hQ⟩
theorem lw_frame {s t : State} {o : Outcome} {args : Array Value} (h : Framed s o t [] 600000 7302250) :
    Framed s o t (fieldLocs frame_1_writes args s ++ arrayLocs frame_1_arrays args s ++ staticLocs frame_1_statics s) 600000 7302250 := h
theorem lw_limb (hP0 : zPure) (L : Cond) (hL : ∀ (args : Array Value) (s t : State), L.after args s (.returned (some (.int 1))) t = true) :
    ArmFor flags0 classFile x code maxLocals ret World_1 tables_1 room_1 Calls_1 rest_1 Pre_1
      (fun tb e a s o t => postC L tb e a s o t ∧ Framed s o t (fieldLocs frame_1_writes a s ++ arrayLocs frame_1_arrays a s ++ staticLocs frame_1_statics s) 600000 7302250) := by
  intro l _ _ _ p e ha hc hk s m args below hf hfit hheap happ hpre
  obtain ⟨k, o, h1, h2, h3, rfl, hF⟩ := lw_comes hP0 l p e ha hc hk s m args below hf hfit hheap happ hpre
  exact ⟨k, _, h1, h2, h3, hL args s _, lw_frame hF⟩
theorem i_vc_of (hP0 : zPure) : Claimed_1_1 ∧ Claimed_1_2 := ⟨lw_limb hP0 limb_1_1 (fun args s t => by simp [limb_1_1, Cond.after, Cond.holds, Cond.value]), lw_limb hP0 limb_1_2 (fun args s t => Cond.after_iff.mpr (by
  first | (rw [show limb_1_2 = Cond.eq .result (.int 1) from rfl, Cond.eq_ints (x := 1) (y := 1) rfl rfl]; simp; done) | (simp [limb_1_2, Cond.value, Term.eval]; done)))⟩
end
section
/-! ===== zPure out of an invariant of both sides that every call keeps ===== -/
theorem zand31 (a b : Int) : r32 (zand a b) := ⟨Int32.le_toInt _, by have := Int32.toInt_le (iI a &&& iI b); exact Int.lt_of_le_of_lt this (by decide)⟩
theorem scz_r (xs : Nat → Int32) (j : Int) : r32 (scz xs j) := ⟨Int32.le_toInt _, by have := Int32.toInt_le (xs j.toNat); exact Int.lt_of_le_of_lt this (by decide)⟩
theorem lloop_of {Kr : Nat} {x : Int} {sc : Int → Int} {n : Int} (hn : n ≤ 4608) (hn0 : 0 ≤ n) {Inv : zK → zF → zB → zF → zB → Prop}
    (hstep : ∀ {i : Int} {K : zK} {F Fm : zF} {B Bm : zB}, 0 ≤ i → i + 9 ≤ n → Inv K F B Fm Bm → ∃ K' F' B' Fm' Bm', lstep Kr x sc n i K F B Fm Bm = some (K', F', B', Fm', Bm') ∧ Inv K' F' B' Fm' Bm') :
    ∀ (f : Nat) {i : Int} {K : zK} {F Fm : zF} {B Bm : zB}, 0 ≤ i → i ≤ 4617 → (n + 1 - i).toNat < f → Inv K F B Fm Bm → ∃ K' F' B' Fm' Bm', lloop Kr x sc n f i K F B Fm Bm = some (K', F', B', Fm', Bm') ∧ Inv K' F' B' Fm' Bm' := by
  intro f
  induction f with
  | zero =>
    intro i K F Fm B Bm h0 h1 hf hI
    omega
  | succ f ih =>
    intro i K F Fm B Bm h0 h1 hf hI
    unfold lloop
    rw [if_pos (show r32 i from ⟨by omega, by omega⟩), if_pos (show r32 (n - 9) from ⟨by omega, by omega⟩)]
    by_cases h : n - 9 < i
    · rw [if_pos h]
      exact ⟨K, F, B, Fm, Bm, rfl, hI⟩
    · rw [if_neg h, if_pos (show 0 ≤ i ∧ i < n from ⟨h0, by omega⟩), if_pos (zand31 _ _)]
      obtain ⟨K1, F1, B1, Fm1, Bm1, e, hI1⟩ := hstep h0 (by omega) hI
      rw [e]
      exact ih (by omega) (by omega) (by omega) hI1
/-- what is to be shown of the functions: an invariant that holds at the start, that every call keeps, and under which what is made has room -/
theorem zPure_of {Kr : Nat} {Inv : zK → zF → zB → zF → zB → Prop} {f fm : Nat} {x : Int} {K Km : zK} {F Fm : zF} {B Bm : zB} (h1 : f_S_init (f, fun _ => 0) zF0 zB0 = some (x, F, B, K)) (h2 : f_M_init (fm, fun _ => 0) zF0 zB0 = some (0, Fm, Bm, Km)) (h3 : ∀ c, Km.2 c = nM c) (h4 : Inv K F B Fm Bm)
    (hstep : ∀ (sc : Int → Int), (∀ j, r32 (sc j)) → ∀ {n i : Int} {K : zK} {F Fm : zF} {B Bm : zB}, n ≤ 4608 → 0 ≤ i → i + 9 ≤ n → Inv K F B Fm Bm → ∃ K' F' B' Fm' Bm', lstep Kr x sc n i K F B Fm Bm = some (K', F', B', Fm', Bm') ∧ Inv K' F' B' Fm' Bm')
    (hroom : ∀ {K' : zK} {F Fm : zF} {B Bm : zB}, Inv K' F B Fm Bm → 282 + cwC K K' ≤ 600000 ∧ 716534 + swC K K' ≤ 7302250) : zPure := by
  intro n xs hn
  obtain ⟨K9, F9, B9, Fm9, Bm9, e, hI⟩ := lloop_of (Kr := Kr) (x := x) (sc := scz xs) (n := n) (by omega) (by omega) (Inv := Inv) (fun h0 h1 hI => hstep (scz xs) (scz_r xs) (by omega) h0 h1 hI) 5000 (i := 0) (by omega) (by omega) (by omega) h4
  exact ⟨f, fm, Kr, 5000, x, K, Km, K9, F, Fm, F9, Fm9, B, Bm, B9, Bm9, h1, h2, h3, e, (hroom hI).1, (hroom hI).2⟩
end
section
theorem zsl_le {i : Nat} (h : i < strL.length) : 0 ≤ zsl i ∧ zsl i ≤ 1000 := by
  have := zsq_le i h
  unfold zsl
  omega
theorem mlen {K : zK} {F : zF} {B : zB} {i : Nat} (h : i < strL.length) (hv : zshr (zsl i) 0 = zsl i) : f_MString_length K i F B = some (zsl i, F, B) := by
  unfold f_MString_length f_MString_coder f_MString_coder_14
  rw [if_pos h, if_neg (by decide), if_pos h, if_pos (by decide)]
  show some (zshr (zsl i) 0, F, B) = _
  rw [hv]
theorem mchar {K : zK} {F : zF} {B : zB} {i : Nat} {j v : Int} (h : i < strL.length) (h0 : 0 ≤ j) (h1 : j < zsl i) (hv : zi2c (zand (zsb i j) 255) = v) (v0 : 0 ≤ v ∧ v < 65536) : f_MString_charAt K i j F B = some (v, F, B) := by
  have hz := zsl_le h
  have e1 : f_MString_isLatin1 K i F B = some (1, F, B) := by
    unfold f_MString_isLatin1 f_MString_isLatin1_18
    rw [if_neg (by decide), if_pos h, if_pos (by decide), if_pos (by decide)]
  have e2 : f_MString_checkIndex K j (zsl i) F B = some (0, F, B) := by
    unfold f_MString_checkIndex f_MPreconditions_checkIndex
    rw [if_pos (show r32 j from ⟨by omega, by omega⟩), if_neg (by omega), if_pos (show r32 (zsl i) from ⟨by omega, by omega⟩), if_pos h1]
    rfl
  have e3 : f_MStringLatin1_charAt K i j F B = some (v, F, B) := by
    unfold f_MStringLatin1_charAt
    rw [if_pos h, e2]
    show (if 0 ≤ j ∧ j < zsl i then _ else _) = _
    rw [if_pos ⟨h0, h1⟩, hv, if_pos v0]
  unfold f_MString_charAt
  rw [if_pos h, e1]
  show (if r32 (1 : Int) then (if (1 : Int) = 0 then none else zbind (f_MStringLatin1_charAt K i j F B) (fun r5 F5 B5 => if 0 ≤ r5 ∧ r5 < 65536 then some (r5, F5, B5) else none)) else none) = some (v, F, B)
  rw [if_pos ⟨by decide, by decide⟩, if_neg (by decide), e3]
  show (if 0 ≤ v ∧ v < 65536 then some (v, F, B) else none) = some (v, F, B)
  rw [if_pos v0]
theorem mcode_step {K : zK} {F : zF} {B : zB} {i n : Nat} {j a v a' : Int} (h : i < strL.length) (hl : zshr (zsl i) 0 = zsl i) (h0 : 0 ≤ j) (h1 : j < zsl i) (hv : zi2c (zand (zsb i j) 255) = v) (v0 : 0 ≤ v ∧ v < 65536) (ha : zlor (zlshl a 8) v = a') : f_MM_code_4 K (n + 1) j a i F B = f_MM_code_4 K n (j + 1) a' i F B := by
  have hz := zsl_le h
  show (if i < strL.length then _ else _) = _
  rw [if_pos h, mlen h hl]
  show (if r32 j then _ else _) = _
  rw [if_pos (show r32 j from ⟨by omega, by omega⟩), if_pos (show r32 (zsl i) from ⟨by omega, by omega⟩), if_neg (by omega), mchar h h0 h1 hv v0]
  show (if r32 v then _ else _) = _
  rw [if_pos (show r32 v from ⟨by omega, by omega⟩), ha]
theorem mcode_end {K : zK} {F : zF} {B : zB} {i n : Nat} {j a : Int} (h : i < strL.length) (hl : zshr (zsl i) 0 = zsl i) (h1 : j = zsl i) : f_MM_code_4 K (n + 1) j a i F B = some (a, F, B) := by
  have hz := zsl_le h
  show (if i < strL.length then _ else _) = _
  rw [if_pos h, mlen h hl]
  show (if r32 j then _ else _) = _
  rw [if_pos (show r32 j from ⟨by omega, by omega⟩), if_pos (show r32 (zsl i) from ⟨by omega, by omega⟩), if_pos (by omega)]
theorem mcode_23 {N : Nat → Int} {F : zF} {B : zB} : f_MM_code (20, N) 23 F B = some (128034676042853, F, B) := by
  show f_MM_code_4 _ 20 0 0 23 F B = _
  rw [mcode_step (v := 116) (a' := 116) (by decide) (by decide) (by decide) (by decide) (by decide) (by decide) (by decide)]
  rw [mcode_step (v := 114) (a' := 29810) (by decide) (by decide) (by decide) (by decide) (by decide) (by decide) (by decide)]
  rw [mcode_step (v := 101) (a' := 7631461) (by decide) (by decide) (by decide) (by decide) (by decide) (by decide) (by decide)]
  rw [mcode_step (v := 98) (a' := 1953654114) (by decide) (by decide) (by decide) (by decide) (by decide) (by decide) (by decide)]
  rw [mcode_step (v := 108) (a' := 500135453292) (by decide) (by decide) (by decide) (by decide) (by decide) (by decide) (by decide)]
  rw [mcode_step (v := 101) (a' := 128034676042853) (by decide) (by decide) (by decide) (by decide) (by decide) (by decide) (by decide)]
  exact mcode_end (by decide) (by decide) (by decide)
theorem mcode_24 {N : Nat → Int} {F : zF} {B : zB} : f_MM_code (20, N) 24 F B = some (1650553715, F, B) := by
  show f_MM_code_4 _ 20 0 0 24 F B = _
  rw [mcode_step (v := 98) (a' := 98) (by decide) (by decide) (by decide) (by decide) (by decide) (by decide) (by decide)]
  rw [mcode_step (v := 97) (a' := 25185) (by decide) (by decide) (by decide) (by decide) (by decide) (by decide) (by decide)]
  rw [mcode_step (v := 115) (a' := 6447475) (by decide) (by decide) (by decide) (by decide) (by decide) (by decide) (by decide)]
  rw [mcode_step (v := 115) (a' := 1650553715) (by decide) (by decide) (by decide) (by decide) (by decide) (by decide) (by decide)]
  exact mcode_end (by decide) (by decide) (by decide)
theorem mcode_25 {N : Nat → Int} {F : zF} {B : zB} : f_MM_code (20, N) 25 F B = some (1634497647, F, B) := by
  show f_MM_code_4 _ 20 0 0 25 F B = _
  rw [mcode_step (v := 97) (a' := 97) (by decide) (by decide) (by decide) (by decide) (by decide) (by decide) (by decide)]
  rw [mcode_step (v := 108) (a' := 24940) (by decide) (by decide) (by decide) (by decide) (by decide) (by decide) (by decide)]
  rw [mcode_step (v := 116) (a' := 6384756) (by decide) (by decide) (by decide) (by decide) (by decide) (by decide) (by decide)]
  rw [mcode_step (v := 111) (a' := 1634497647) (by decide) (by decide) (by decide) (by decide) (by decide) (by decide) (by decide)]
  exact mcode_end (by decide) (by decide) (by decide)
theorem mcode_26 {N : Nat → Int} {F : zF} {B : zB} : f_MM_code (20, N) 26 F B = some (499917942642, F, B) := by
  show f_MM_code_4 _ 20 0 0 26 F B = _
  rw [mcode_step (v := 116) (a' := 116) (by decide) (by decide) (by decide) (by decide) (by decide) (by decide) (by decide)]
  rw [mcode_step (v := 101) (a' := 29797) (by decide) (by decide) (by decide) (by decide) (by decide) (by decide) (by decide)]
  rw [mcode_step (v := 110) (a' := 7628142) (by decide) (by decide) (by decide) (by decide) (by decide) (by decide) (by decide)]
  rw [mcode_step (v := 111) (a' := 1952804463) (by decide) (by decide) (by decide) (by decide) (by decide) (by decide) (by decide)]
  rw [mcode_step (v := 114) (a' := 499917942642) (by decide) (by decide) (by decide) (by decide) (by decide) (by decide) (by decide)]
  exact mcode_end (by decide) (by decide) (by decide)
theorem mcode_27 {N : Nat → Int} {F : zF} {B : zB} : f_MM_code (20, N) 27 F B = some (7368816, F, B) := by
  show f_MM_code_4 _ 20 0 0 27 F B = _
  rw [mcode_step (v := 112) (a' := 112) (by decide) (by decide) (by decide) (by decide) (by decide) (by decide) (by decide)]
  rw [mcode_step (v := 112) (a' := 28784) (by decide) (by decide) (by decide) (by decide) (by decide) (by decide) (by decide)]
  rw [mcode_step (v := 112) (a' := 7368816) (by decide) (by decide) (by decide) (by decide) (by decide) (by decide) (by decide)]
  exact mcode_end (by decide) (by decide) (by decide)
theorem mcode_28 {N : Nat → Int} {F : zF} {B : zB} : f_MM_code (20, N) 28 F B = some (28784, F, B) := by
  show f_MM_code_4 _ 20 0 0 28 F B = _
  rw [mcode_step (v := 112) (a' := 112) (by decide) (by decide) (by decide) (by decide) (by decide) (by decide) (by decide)]
  rw [mcode_step (v := 112) (a' := 28784) (by decide) (by decide) (by decide) (by decide) (by decide) (by decide) (by decide)]
  exact mcode_end (by decide) (by decide) (by decide)
theorem mcode_29 {N : Nat → Int} {F : zF} {B : zB} : f_MM_code (20, N) 29 F B = some (112, F, B) := by
  show f_MM_code_4 _ 20 0 0 29 F B = _
  rw [mcode_step (v := 112) (a' := 112) (by decide) (by decide) (by decide) (by decide) (by decide) (by decide) (by decide)]
  exact mcode_end (by decide) (by decide) (by decide)
theorem mcode_30 {N : Nat → Int} {F : zF} {B : zB} : f_MM_code (20, N) 30 F B = some (28016, F, B) := by
  show f_MM_code_4 _ 20 0 0 30 F B = _
  rw [mcode_step (v := 109) (a' := 109) (by decide) (by decide) (by decide) (by decide) (by decide) (by decide) (by decide)]
  rw [mcode_step (v := 112) (a' := 28016) (by decide) (by decide) (by decide) (by decide) (by decide) (by decide) (by decide)]
  exact mcode_end (by decide) (by decide) (by decide)
theorem mcode_31 {N : Nat → Int} {F : zF} {B : zB} : f_MM_code (20, N) 31 F B = some (28006, F, B) := by
  show f_MM_code_4 _ 20 0 0 31 F B = _
  rw [mcode_step (v := 109) (a' := 109) (by decide) (by decide) (by decide) (by decide) (by decide) (by decide) (by decide)]
  rw [mcode_step (v := 102) (a' := 28006) (by decide) (by decide) (by decide) (by decide) (by decide) (by decide) (by decide)]
  exact mcode_end (by decide) (by decide) (by decide)
theorem mcode_32 {N : Nat → Int} {F : zF} {B : zB} : f_MM_code (20, N) 32 F B = some (102, F, B) := by
  show f_MM_code_4 _ 20 0 0 32 F B = _
  rw [mcode_step (v := 102) (a' := 102) (by decide) (by decide) (by decide) (by decide) (by decide) (by decide) (by decide)]
  exact mcode_end (by decide) (by decide) (by decide)
theorem mcode_33 {N : Nat → Int} {F : zF} {B : zB} : f_MM_code (20, N) 33 F B = some (26214, F, B) := by
  show f_MM_code_4 _ 20 0 0 33 F B = _
  rw [mcode_step (v := 102) (a' := 102) (by decide) (by decide) (by decide) (by decide) (by decide) (by decide) (by decide)]
  rw [mcode_step (v := 102) (a' := 26214) (by decide) (by decide) (by decide) (by decide) (by decide) (by decide) (by decide)]
  exact mcode_end (by decide) (by decide) (by decide)
theorem mcode_34 {N : Nat → Int} {F : zF} {B : zB} : f_MM_code (20, N) 34 F B = some (6710886, F, B) := by
  show f_MM_code_4 _ 20 0 0 34 F B = _
  rw [mcode_step (v := 102) (a' := 102) (by decide) (by decide) (by decide) (by decide) (by decide) (by decide) (by decide)]
  rw [mcode_step (v := 102) (a' := 26214) (by decide) (by decide) (by decide) (by decide) (by decide) (by decide) (by decide)]
  rw [mcode_step (v := 102) (a' := 6710886) (by decide) (by decide) (by decide) (by decide) (by decide) (by decide) (by decide)]
  exact mcode_end (by decide) (by decide) (by decide)
theorem start_S (f : Nat) : ∃ F B K, f_S_init (f, fun _ => 0) zF0 zB0 = some (0, F, B, K) ∧ K.1 = f := ⟨_, _, _, rfl, rfl⟩
theorem bindM_some {x : zOm} {k : Int → zF → zB → zK → zOm} {r : Int} {F : zF} {B : zB} {K : zK} (h : x = some (r, F, B, K)) : zbindM x k = k r F B K := by rw [h]; rfl
theorem bindN_some {x : zO} {k : Int → zF → zB → zOm} {r : Int} {F : zF} {B : zB} (h : x = some (r, F, B)) : zbindN x k = k r F B := by rw [h]; rfl
theorem mp_init {K : zK} {F : zF} {B : zB} (h : 0 ≤ K.2 13) : ∃ F' B', f_MP_init K F B = some (K.2 13, F', B', (K.1, zinN K.2 13)) := by
  unfold f_MP_init
  rw [if_pos h]
  exact ⟨_, _, rfl⟩
theorem start_M : ∃ F B, f_M_init (20, fun _ => 0) zF0 zB0 = some (0, F, B, (20, zinN (zinN (zinN (zinN (fun _ => 0) 13) 13) 13) 14)) := by
  unfold f_M_init
  obtain ⟨F1, B1, h1⟩ := mp_init (K := (20, fun _ => 0)) (F := zF0) (B := zB0) (by decide)
  rw [bindM_some h1, if_pos (by decide)]
  obtain ⟨F2, B2, h2⟩ := mp_init (K := (20, zinN (fun _ => 0) 13)) (F := F1) (B := B1) (by decide)
  rw [bindM_some h2, if_pos (by decide), if_pos (by decide)]
  obtain ⟨F3, B3, h3⟩ := mp_init (K := (20, zinN (zinN (fun _ => 0) 13) 13)) (F := F2) (B := B2) (by decide)
  rw [bindM_some h3, if_pos (by decide), if_pos (by decide), if_pos (by decide)]
  rw [bindN_some mcode_23]
  rw [bindN_some mcode_24]
  rw [bindN_some mcode_25]
  rw [bindN_some mcode_26]
  rw [bindN_some mcode_27]
  rw [bindN_some mcode_28]
  rw [bindN_some mcode_29]
  rw [bindN_some mcode_30]
  rw [bindN_some mcode_31]
  rw [bindN_some mcode_32]
  rw [bindN_some mcode_33]
  rw [bindN_some mcode_34]
  repeat rw [if_pos (by decide)]
  exact ⟨_, _, rfl⟩
theorem start_N : ∀ c, zinN (zinN (zinN (zinN (fun _ => 0) 13) 13) 13) 14 c = nM c := by
  intro c
  unfold zinN nM
  by_cases h : c = 14
  · subst h; rfl
  · by_cases h2 : c = 13
    · subst h2; rfl
    · simp [h, h2]
end
section
theorem zbL_some {x : zO} {k : Int → zF → zB → zL} {r : Int} {F : zF} {B : zB} (h : x = some (r, F, B)) : zbL x k = k r F B := by rw [h]; rfl
theorem zbM_some {x : zOm} {k : Int → zF → zB → zK → zL} {r : Int} {F : zF} {B : zB} {K : zK} (h : x = some (r, F, B, K)) : zbM x k = k r F B K := by rw [h]; rfl
theorem lst_0 {Kr : Nat} {x n i : Int} {sc : Int → Int} {K : zK} {F Fm F1 F2 : zF} {B Bm B1 B2 : zB} {r1 r2 : Int} (hi : 0 ≤ i) (hn : i + 9 ≤ n) (hx : 0 ≤ x ∧ x < K.2 12) (h1 : f_S_feed K x (sc (i + 1)) (sc (i + 2)) (sc (i + 3)) (sc (i + 4)) (sc (i + 5)) F B = some (r1, F1, B1)) (h2 : f_M_feed Kr (sc (i + 1)) (sc (i + 2)) (sc (i + 3)) (sc (i + 4)) (sc (i + 5)) Fm Bm = some (r2, F2, B2)) : ls_0 Kr x sc n i K F B Fm Bm = some (K, F1, B1, F2, B2) := by
  unfold ls_0
  rw [if_pos (show 0 ≤ (i + 1) ∧ (i + 1) < n from ⟨by omega, by omega⟩)]
  rw [if_pos (show 0 ≤ (i + 2) ∧ (i + 2) < n from ⟨by omega, by omega⟩)]
  rw [if_pos (show 0 ≤ (i + 3) ∧ (i + 3) < n from ⟨by omega, by omega⟩)]
  rw [if_pos (show 0 ≤ (i + 4) ∧ (i + 4) < n from ⟨by omega, by omega⟩)]
  rw [if_pos (show 0 ≤ (i + 5) ∧ (i + 5) < n from ⟨by omega, by omega⟩)]
  rw [if_pos hx]
  rw [zbL_some h1]
  rw [if_pos (show 0 ≤ (i + 1) ∧ (i + 1) < n from ⟨by omega, by omega⟩)]
  rw [if_pos (show 0 ≤ (i + 2) ∧ (i + 2) < n from ⟨by omega, by omega⟩)]
  rw [if_pos (show 0 ≤ (i + 3) ∧ (i + 3) < n from ⟨by omega, by omega⟩)]
  rw [if_pos (show 0 ≤ (i + 4) ∧ (i + 4) < n from ⟨by omega, by omega⟩)]
  rw [if_pos (show 0 ≤ (i + 5) ∧ (i + 5) < n from ⟨by omega, by omega⟩)]
  rw [zbL_some h2]
theorem lst_1 {Kr : Nat} {x n i : Int} {sc : Int → Int} {K : zK} {F Fm F1 F2 : zF} {B Bm B1 B2 : zB} {r1 r2 : Int} (hi : 0 ≤ i) (hn : i + 9 ≤ n) (hx : 0 ≤ x ∧ x < K.2 12) (h1 : f_S_end K x (sc (i + 1)) F B = some (r1, F1, B1)) (h2 : f_M_end Kr (sc (i + 1)) Fm Bm = some (r2, F2, B2)) : ls_1 Kr x sc n i K F B Fm Bm = some (K, F1, B1, F2, B2) := by
  unfold ls_1
  rw [if_pos (show 0 ≤ (i + 1) ∧ (i + 1) < n from ⟨by omega, by omega⟩)]
  rw [if_pos hx]
  rw [zbL_some h1]
  rw [if_pos (show 0 ≤ (i + 1) ∧ (i + 1) < n from ⟨by omega, by omega⟩)]
  rw [zbL_some h2]
theorem lst_2 {Kr : Nat} {x n i : Int} {sc : Int → Int} {K K1 : zK} {F Fm F1 F2 : zF} {B Bm B1 B2 : zB} {r1 r2 : Int} (hi : 0 ≤ i) (hn : i + 9 ≤ n) (hx : 0 ≤ x ∧ x < K.2 12) (h1 : f_S_read K x (sc (i + 1)) F B = some (r1, F1, B1, K1)) (h2 : f_M_read Kr (sc (i + 1)) Fm Bm = some (r2, F2, B2)) : ls_2 Kr x sc n i K F B Fm Bm = some (K1, F1, B1, F2, B2) := by
  unfold ls_2
  rw [if_pos (show 0 ≤ (i + 1) ∧ (i + 1) < n from ⟨by omega, by omega⟩)]
  rw [if_pos hx]
  rw [zbM_some h1]
  rw [if_pos (show 0 ≤ (i + 1) ∧ (i + 1) < n from ⟨by omega, by omega⟩)]
  rw [zbL_some h2]
theorem lst_3 {Kr : Nat} {x n i : Int} {sc : Int → Int} {K K1 : zK} {F Fm F1 F2 : zF} {B Bm B1 B2 : zB} {r1 r2 : Int} (hi : 0 ≤ i) (hn : i + 9 ≤ n) (hx : 0 ≤ x ∧ x < K.2 12) (h1 : f_S_look K x (sc (i + 1)) (sc (i + 2)) F B = some (r1, F1, B1, K1)) (h2 : f_M_look Kr (sc (i + 1)) (sc (i + 2)) Fm Bm = some (r2, F2, B2)) : ls_3 Kr x sc n i K F B Fm Bm = some (K1, F1, B1, F2, B2) := by
  unfold ls_3
  rw [if_pos (show 0 ≤ (i + 1) ∧ (i + 1) < n from ⟨by omega, by omega⟩)]
  rw [if_pos (show 0 ≤ (i + 2) ∧ (i + 2) < n from ⟨by omega, by omega⟩)]
  rw [if_pos hx]
  rw [zbM_some h1]
  rw [if_pos (show 0 ≤ (i + 1) ∧ (i + 1) < n from ⟨by omega, by omega⟩)]
  rw [if_pos (show 0 ≤ (i + 2) ∧ (i + 2) < n from ⟨by omega, by omega⟩)]
  rw [zbL_some h2]
theorem lst_4 {Kr : Nat} {x n i : Int} {sc : Int → Int} {K : zK} {F Fm F1 F2 : zF} {B Bm B1 B2 : zB} {r1 r2 : Int} (hi : 0 ≤ i) (hn : i + 9 ≤ n) (hx : 0 ≤ x ∧ x < K.2 12) (h1 : f_S_voice K x (sc (i + 1)) (sc (i + 2)) (sc (i + 3)) F B = some (r1, F1, B1)) (h2 : f_M_voice Kr (sc (i + 1)) (sc (i + 2)) (sc (i + 3)) Fm Bm = some (r2, F2, B2)) : ls_4 Kr x sc n i K F B Fm Bm = some (K, F1, B1, F2, B2) := by
  unfold ls_4
  rw [if_pos (show 0 ≤ (i + 1) ∧ (i + 1) < n from ⟨by omega, by omega⟩)]
  rw [if_pos (show 0 ≤ (i + 2) ∧ (i + 2) < n from ⟨by omega, by omega⟩)]
  rw [if_pos (show 0 ≤ (i + 3) ∧ (i + 3) < n from ⟨by omega, by omega⟩)]
  rw [if_pos hx]
  rw [zbL_some h1]
  rw [if_pos (show 0 ≤ (i + 1) ∧ (i + 1) < n from ⟨by omega, by omega⟩)]
  rw [if_pos (show 0 ≤ (i + 2) ∧ (i + 2) < n from ⟨by omega, by omega⟩)]
  rw [if_pos (show 0 ≤ (i + 3) ∧ (i + 3) < n from ⟨by omega, by omega⟩)]
  rw [zbL_some h2]
theorem lst_5 {Kr : Nat} {x n i : Int} {sc : Int → Int} {K : zK} {F Fm F1 F2 : zF} {B Bm B1 B2 : zB} {r1 r2 : Int} (hi : 0 ≤ i) (hn : i + 9 ≤ n) (hx : 0 ≤ x ∧ x < K.2 12) (h1 : f_S_name K x (sc (i + 1)) (sc (i + 2)) F B = some (r1, F1, B1)) (h2 : f_M_name Kr (sc (i + 1)) (sc (i + 2)) Fm Bm = some (r2, F2, B2)) : ls_5 Kr x sc n i K F B Fm Bm = some (K, F1, B1, F2, B2) := by
  unfold ls_5
  rw [if_pos (show 0 ≤ (i + 1) ∧ (i + 1) < n from ⟨by omega, by omega⟩)]
  rw [if_pos (show 0 ≤ (i + 2) ∧ (i + 2) < n from ⟨by omega, by omega⟩)]
  rw [if_pos hx]
  rw [zbL_some h1]
  rw [if_pos (show 0 ≤ (i + 1) ∧ (i + 1) < n from ⟨by omega, by omega⟩)]
  rw [if_pos (show 0 ≤ (i + 2) ∧ (i + 2) < n from ⟨by omega, by omega⟩)]
  rw [zbL_some h2]
theorem lst_6 {Kr : Nat} {x n i : Int} {sc : Int → Int} {K : zK} {F Fm F1 F2 : zF} {B Bm B1 B2 : zB} {r1 r2 : Int} (hi : 0 ≤ i) (hn : i + 9 ≤ n) (hx : 0 ≤ x ∧ x < K.2 12) (h1 : f_S_event K x (sc (i + 1)) (sc (i + 2)) (sc (i + 3)) (sc (i + 4)) F B = some (r1, F1, B1)) (h2 : f_M_event_1 Kr (sc (i + 1)) (sc (i + 2)) (sc (i + 3)) (sc (i + 4)) Fm Bm = some (r2, F2, B2)) : ls_6 Kr x sc n i K F B Fm Bm = some (K, F1, B1, F2, B2) := by
  unfold ls_6
  rw [if_pos (show 0 ≤ (i + 1) ∧ (i + 1) < n from ⟨by omega, by omega⟩)]
  rw [if_pos (show 0 ≤ (i + 2) ∧ (i + 2) < n from ⟨by omega, by omega⟩)]
  rw [if_pos (show 0 ≤ (i + 3) ∧ (i + 3) < n from ⟨by omega, by omega⟩)]
  rw [if_pos (show 0 ≤ (i + 4) ∧ (i + 4) < n from ⟨by omega, by omega⟩)]
  rw [if_pos hx]
  rw [zbL_some h1]
  rw [if_pos (show 0 ≤ (i + 1) ∧ (i + 1) < n from ⟨by omega, by omega⟩)]
  rw [if_pos (show 0 ≤ (i + 2) ∧ (i + 2) < n from ⟨by omega, by omega⟩)]
  rw [if_pos (show 0 ≤ (i + 3) ∧ (i + 3) < n from ⟨by omega, by omega⟩)]
  rw [if_pos (show 0 ≤ (i + 4) ∧ (i + 4) < n from ⟨by omega, by omega⟩)]
  rw [zbL_some h2]
theorem lst_7 {Kr : Nat} {x n i : Int} {sc : Int → Int} {K : zK} {F Fm F1 F2 : zF} {B Bm B1 B2 : zB} {r1 r2 : Int} (hi : 0 ≤ i) (hn : i + 9 ≤ n) (hx : 0 ≤ x ∧ x < K.2 12) (h1 : f_S_pitch K x (sc (i + 1)) (sc (i + 2)) (sc (i + 3)) (sc (i + 4)) (sc (i + 5)) F B = some (r1, F1, B1)) (h2 : f_M_pitch Kr (sc (i + 1)) (sc (i + 2)) (sc (i + 3)) (sc (i + 4)) (sc (i + 5)) Fm Bm = some (r2, F2, B2)) : ls_7 Kr x sc n i K F B Fm Bm = some (K, F1, B1, F2, B2) := by
  unfold ls_7
  rw [if_pos (show 0 ≤ (i + 1) ∧ (i + 1) < n from ⟨by omega, by omega⟩)]
  rw [if_pos (show 0 ≤ (i + 2) ∧ (i + 2) < n from ⟨by omega, by omega⟩)]
  rw [if_pos (show 0 ≤ (i + 3) ∧ (i + 3) < n from ⟨by omega, by omega⟩)]
  rw [if_pos (show 0 ≤ (i + 4) ∧ (i + 4) < n from ⟨by omega, by omega⟩)]
  rw [if_pos (show 0 ≤ (i + 5) ∧ (i + 5) < n from ⟨by omega, by omega⟩)]
  rw [if_pos hx]
  rw [zbL_some h1]
  rw [if_pos (show 0 ≤ (i + 1) ∧ (i + 1) < n from ⟨by omega, by omega⟩)]
  rw [if_pos (show 0 ≤ (i + 2) ∧ (i + 2) < n from ⟨by omega, by omega⟩)]
  rw [if_pos (show 0 ≤ (i + 3) ∧ (i + 3) < n from ⟨by omega, by omega⟩)]
  rw [if_pos (show 0 ≤ (i + 4) ∧ (i + 4) < n from ⟨by omega, by omega⟩)]
  rw [if_pos (show 0 ≤ (i + 5) ∧ (i + 5) < n from ⟨by omega, by omega⟩)]
  rw [zbL_some h2]
theorem lst_8 {Kr : Nat} {x n i : Int} {sc : Int → Int} {K : zK} {F Fm F1 F2 : zF} {B Bm B1 B2 : zB} {r1 r2 : Int} (hi : 0 ≤ i) (hn : i + 9 ≤ n) (hx : 0 ≤ x ∧ x < K.2 12) (h1 : f_S_note K x (sc (i + 1)) (sc (i + 2)) (sc (i + 3)) (sc (i + 4)) F B = some (r1, F1, B1)) (h2 : f_M_note_0 Kr (sc (i + 1)) (sc (i + 2)) (sc (i + 3)) (sc (i + 4)) Fm Bm = some (r2, F2, B2)) : ls_8 Kr x sc n i K F B Fm Bm = some (K, F1, B1, F2, B2) := by
  unfold ls_8
  rw [if_pos (show 0 ≤ (i + 1) ∧ (i + 1) < n from ⟨by omega, by omega⟩)]
  rw [if_pos (show 0 ≤ (i + 2) ∧ (i + 2) < n from ⟨by omega, by omega⟩)]
  rw [if_pos (show 0 ≤ (i + 3) ∧ (i + 3) < n from ⟨by omega, by omega⟩)]
  rw [if_pos (show 0 ≤ (i + 4) ∧ (i + 4) < n from ⟨by omega, by omega⟩)]
  rw [if_pos hx]
  rw [zbL_some h1]
  rw [if_pos (show 0 ≤ (i + 1) ∧ (i + 1) < n from ⟨by omega, by omega⟩)]
  rw [if_pos (show 0 ≤ (i + 2) ∧ (i + 2) < n from ⟨by omega, by omega⟩)]
  rw [if_pos (show 0 ≤ (i + 3) ∧ (i + 3) < n from ⟨by omega, by omega⟩)]
  rw [if_pos (show 0 ≤ (i + 4) ∧ (i + 4) < n from ⟨by omega, by omega⟩)]
  rw [zbL_some h2]
theorem lst_9 {Kr : Nat} {x n i : Int} {sc : Int → Int} {K K1 : zK} {F Fm F1 F2 : zF} {B Bm B1 B2 : zB} {r1 r2 : Int} (hi : 0 ≤ i) (hn : i + 9 ≤ n) (hx : 0 ≤ x ∧ x < K.2 12) (h1 : f_S_lines K x (sc (i + 1)) (sc (i + 2)) F B = some (r1, F1, B1, K1)) (h2 : f_M_lines Kr (sc (i + 1)) (sc (i + 2)) Fm Bm = some (r2, F2, B2)) : ls_9 Kr x sc n i K F B Fm Bm = some (K1, F1, B1, F2, B2) := by
  unfold ls_9
  rw [if_pos (show 0 ≤ (i + 1) ∧ (i + 1) < n from ⟨by omega, by omega⟩)]
  rw [if_pos (show 0 ≤ (i + 2) ∧ (i + 2) < n from ⟨by omega, by omega⟩)]
  rw [if_pos hx]
  rw [zbM_some h1]
  rw [if_pos (show 0 ≤ (i + 1) ∧ (i + 1) < n from ⟨by omega, by omega⟩)]
  rw [if_pos (show 0 ≤ (i + 2) ∧ (i + 2) < n from ⟨by omega, by omega⟩)]
  rw [zbL_some h2]
theorem lst_10 {Kr : Nat} {x n i : Int} {sc : Int → Int} {K : zK} {F Fm F1 F2 : zF} {B Bm B1 B2 : zB} {r1 r2 : Int} (hi : 0 ≤ i) (hn : i + 9 ≤ n) (hx : 0 ≤ x ∧ x < K.2 12) (h1 : f_S_line K x (sc (i + 1)) (sc (i + 2)) (sc (i + 3)) F B = some (r1, F1, B1)) (h2 : f_M_line Kr (sc (i + 1)) (sc (i + 2)) (sc (i + 3)) Fm Bm = some (r2, F2, B2)) : ls_10 Kr x sc n i K F B Fm Bm = some (K, F1, B1, F2, B2) := by
  unfold ls_10
  rw [if_pos (show 0 ≤ (i + 1) ∧ (i + 1) < n from ⟨by omega, by omega⟩)]
  rw [if_pos (show 0 ≤ (i + 2) ∧ (i + 2) < n from ⟨by omega, by omega⟩)]
  rw [if_pos (show 0 ≤ (i + 3) ∧ (i + 3) < n from ⟨by omega, by omega⟩)]
  rw [if_pos hx]
  rw [zbL_some h1]
  rw [if_pos (show 0 ≤ (i + 1) ∧ (i + 1) < n from ⟨by omega, by omega⟩)]
  rw [if_pos (show 0 ≤ (i + 2) ∧ (i + 2) < n from ⟨by omega, by omega⟩)]
  rw [if_pos (show 0 ≤ (i + 3) ∧ (i + 3) < n from ⟨by omega, by omega⟩)]
  rw [zbL_some h2]
theorem lst_11 {Kr : Nat} {x n i : Int} {sc : Int → Int} {K : zK} {F Fm F1 F2 : zF} {B Bm B1 B2 : zB} {r1 r2 : Int} (hi : 0 ≤ i) (hn : i + 9 ≤ n) (hx : 0 ≤ x ∧ x < K.2 12) (h1 : f_S_x K x (sc (i + 1)) (sc (i + 2)) (sc (i + 3)) F B = some (r1, F1, B1)) (h2 : f_M_x Kr (sc (i + 1)) (sc (i + 2)) (sc (i + 3)) Fm Bm = some (r2, F2, B2)) (he : r1 = r2) : ls_11 Kr x sc n i K F B Fm Bm = some (K, F1, B1, F2, B2) := by
  unfold ls_11
  rw [if_pos (show 0 ≤ (i + 1) ∧ (i + 1) < n from ⟨by omega, by omega⟩)]
  rw [if_pos (show 0 ≤ (i + 2) ∧ (i + 2) < n from ⟨by omega, by omega⟩)]
  rw [if_pos (show 0 ≤ (i + 3) ∧ (i + 3) < n from ⟨by omega, by omega⟩)]
  rw [if_pos hx]
  rw [zbL_some h1]
  rw [if_pos (show 0 ≤ (i + 1) ∧ (i + 1) < n from ⟨by omega, by omega⟩)]
  rw [if_pos (show 0 ≤ (i + 2) ∧ (i + 2) < n from ⟨by omega, by omega⟩)]
  rw [if_pos (show 0 ≤ (i + 3) ∧ (i + 3) < n from ⟨by omega, by omega⟩)]
  rw [zbL_some h2]
  rw [if_pos he]
theorem lst_12 {Kr : Nat} {x n i : Int} {sc : Int → Int} {K K1 : zK} {F Fm F1 F2 : zF} {B Bm B1 B2 : zB} {r1 r2 : Int} (hi : 0 ≤ i) (hn : i + 9 ≤ n) (hx : 0 ≤ x ∧ x < K.2 12) (h1 : f_S_perform K x (sc (i + 1)) F B = some (r1, F1, B1, K1)) (h2 : f_M_perform Kr (sc (i + 1)) Fm Bm = some (r2, F2, B2)) : ls_12 Kr x sc n i K F B Fm Bm = some (K1, F1, B1, F2, B2) := by
  unfold ls_12
  rw [if_pos (show 0 ≤ (i + 1) ∧ (i + 1) < n from ⟨by omega, by omega⟩)]
  rw [if_pos hx]
  rw [zbM_some h1]
  rw [if_pos (show 0 ≤ (i + 1) ∧ (i + 1) < n from ⟨by omega, by omega⟩)]
  rw [zbL_some h2]
theorem lst_13 {Kr : Nat} {x n i : Int} {sc : Int → Int} {K : zK} {F Fm F1 F2 : zF} {B Bm B1 B2 : zB} {r1 r2 : Int} (hi : 0 ≤ i) (hn : i + 9 ≤ n) (hx : 0 ≤ x ∧ x < K.2 12) (h1 : f_S_stroke K x (sc (i + 1)) (sc (i + 2)) (sc (i + 3)) F B = some (r1, F1, B1)) (h2 : f_M_stroke Kr (sc (i + 1)) (sc (i + 2)) (sc (i + 3)) Fm Bm = some (r2, F2, B2)) : ls_13 Kr x sc n i K F B Fm Bm = some (K, F1, B1, F2, B2) := by
  unfold ls_13
  rw [if_pos (show 0 ≤ (i + 1) ∧ (i + 1) < n from ⟨by omega, by omega⟩)]
  rw [if_pos (show 0 ≤ (i + 2) ∧ (i + 2) < n from ⟨by omega, by omega⟩)]
  rw [if_pos (show 0 ≤ (i + 3) ∧ (i + 3) < n from ⟨by omega, by omega⟩)]
  rw [if_pos hx]
  rw [zbL_some h1]
  rw [if_pos (show 0 ≤ (i + 1) ∧ (i + 1) < n from ⟨by omega, by omega⟩)]
  rw [if_pos (show 0 ≤ (i + 2) ∧ (i + 2) < n from ⟨by omega, by omega⟩)]
  rw [if_pos (show 0 ≤ (i + 3) ∧ (i + 3) < n from ⟨by omega, by omega⟩)]
  rw [zbL_some h2]
theorem lst_14 {Kr : Nat} {x n i : Int} {sc : Int → Int} {K : zK} {F Fm F1 F2 : zF} {B Bm B1 B2 : zB} {r1 r2 : Int} (hi : 0 ≤ i) (hn : i + 9 ≤ n) (hx : 0 ≤ x ∧ x < K.2 12) (h1 : f_S_file K x (sc (i + 1)) F B = some (r1, F1, B1)) (h2 : f_M_file Kr (sc (i + 1)) Fm Bm = some (r2, F2, B2)) : ls_14 Kr x sc n i K F B Fm Bm = some (K, F1, B1, F2, B2) := by
  unfold ls_14
  rw [if_pos (show 0 ≤ (i + 1) ∧ (i + 1) < n from ⟨by omega, by omega⟩)]
  rw [if_pos hx]
  rw [zbL_some h1]
  rw [if_pos (show 0 ≤ (i + 1) ∧ (i + 1) < n from ⟨by omega, by omega⟩)]
  rw [zbL_some h2]
theorem lst_15 {Kr : Nat} {x n i : Int} {sc : Int → Int} {K : zK} {F Fm F1 F2 : zF} {B Bm B1 B2 : zB} {r1 r2 : Int} (hi : 0 ≤ i) (hn : i + 9 ≤ n) (hx : 0 ≤ x ∧ x < K.2 12) (h1 : f_S_out K x (sc (i + 1)) F B = some (r1, F1, B1)) (h2 : f_M_out Kr (sc (i + 1)) Fm Bm = some (r2, F2, B2)) : ls_15 Kr x sc n i K F B Fm Bm = some (K, F1, B1, F2, B2) := by
  unfold ls_15
  rw [if_pos (show 0 ≤ (i + 1) ∧ (i + 1) < n from ⟨by omega, by omega⟩)]
  rw [if_pos hx]
  rw [zbL_some h1]
  rw [if_pos (show 0 ≤ (i + 1) ∧ (i + 1) < n from ⟨by omega, by omega⟩)]
  rw [zbL_some h2]
theorem lst_16 {Kr : Nat} {x n i : Int} {sc : Int → Int} {K : zK} {F Fm F1 F2 : zF} {B Bm B1 B2 : zB} {r1 r2 : Int} (hi : 0 ≤ i) (hn : i + 9 ≤ n) (hx : 0 ≤ x ∧ x < K.2 12) (h1 : f_S_again K x F B = some (r1, F1, B1)) (h2 : f_M_again Kr Fm Bm = some (r2, F2, B2)) : ls_16 Kr x sc n i K F B Fm Bm = some (K, F1, B1, F2, B2) := by
  unfold ls_16
  rw [if_pos hx]
  rw [zbL_some h1]
  rw [zbL_some h2]
theorem lst_17 {Kr : Nat} {x n i : Int} {sc : Int → Int} {K K1 : zK} {F Fm F1 F2 : zF} {B Bm B1 B2 : zB} {r1 r2 : Int} (hi : 0 ≤ i) (hn : i + 9 ≤ n) (hx : 0 ≤ x ∧ x < K.2 12) (h1 : f_S_open K x F B = some (r1, F1, B1, K1)) (h2 : f_M_open Kr Fm Bm = some (r2, F2, B2)) : ls_17 Kr x sc n i K F B Fm Bm = some (K1, F1, B1, F2, B2) := by
  unfold ls_17
  rw [if_pos hx]
  rw [zbM_some h1]
  rw [zbL_some h2]
theorem lst_18 {Kr : Nat} {x n i : Int} {sc : Int → Int} {K : zK} {F Fm F1 F2 : zF} {B Bm B1 B2 : zB} {r1 r2 : Int} (hi : 0 ≤ i) (hn : i + 9 ≤ n) (hx : 0 ≤ x ∧ x < K.2 12) (h1 : f_S_track K x (sc (i + 1)) F B = some (r1, F1, B1)) (h2 : f_M_track Kr (sc (i + 1)) Fm Bm = some (r2, F2, B2)) : ls_18 Kr x sc n i K F B Fm Bm = some (K, F1, B1, F2, B2) := by
  unfold ls_18
  rw [if_pos (show 0 ≤ (i + 1) ∧ (i + 1) < n from ⟨by omega, by omega⟩)]
  rw [if_pos hx]
  rw [zbL_some h1]
  rw [if_pos (show 0 ≤ (i + 1) ∧ (i + 1) < n from ⟨by omega, by omega⟩)]
  rw [zbL_some h2]
theorem lst_19 {Kr : Nat} {x n i : Int} {sc : Int → Int} {K : zK} {F Fm F1 F2 : zF} {B Bm B1 B2 : zB} {r1 r2 : Int} (hi : 0 ≤ i) (hn : i + 9 ≤ n) (hx : 0 ≤ x ∧ x < K.2 12) (h1 : f_S_sound K x (sc (i + 1)) (sc (i + 2)) F B = some (r1, F1, B1)) (h2 : f_M_sound_0 Kr (sc (i + 1)) (sc (i + 2)) Fm Bm = some (r2, F2, B2)) : ls_19 Kr x sc n i K F B Fm Bm = some (K, F1, B1, F2, B2) := by
  unfold ls_19
  rw [if_pos (show 0 ≤ (i + 1) ∧ (i + 1) < n from ⟨by omega, by omega⟩)]
  rw [if_pos (show 0 ≤ (i + 2) ∧ (i + 2) < n from ⟨by omega, by omega⟩)]
  rw [if_pos hx]
  rw [zbL_some h1]
  rw [if_pos (show 0 ≤ (i + 1) ∧ (i + 1) < n from ⟨by omega, by omega⟩)]
  rw [if_pos (show 0 ≤ (i + 2) ∧ (i + 2) < n from ⟨by omega, by omega⟩)]
  rw [zbL_some h2]
theorem lst_20 {Kr : Nat} {x n i : Int} {sc : Int → Int} {K : zK} {F Fm F1 F2 : zF} {B Bm B1 B2 : zB} {r1 r2 : Int} (hi : 0 ≤ i) (hn : i + 9 ≤ n) (hx : 0 ≤ x ∧ x < K.2 12) (h1 : f_S_down K x (sc (i + 1)) F B = some (r1, F1, B1)) (h2 : f_M_down Kr (sc (i + 1)) Fm Bm = some (r2, F2, B2)) : ls_20 Kr x sc n i K F B Fm Bm = some (K, F1, B1, F2, B2) := by
  unfold ls_20
  rw [if_pos (show 0 ≤ (i + 1) ∧ (i + 1) < n from ⟨by omega, by omega⟩)]
  rw [if_pos hx]
  rw [zbL_some h1]
  rw [if_pos (show 0 ≤ (i + 1) ∧ (i + 1) < n from ⟨by omega, by omega⟩)]
  rw [zbL_some h2]
theorem lst_21 {Kr : Nat} {x n i : Int} {sc : Int → Int} {K : zK} {F Fm F1 F2 : zF} {B Bm B1 B2 : zB} {r1 r2 : Int} (hi : 0 ≤ i) (hn : i + 9 ≤ n) (hx : 0 ≤ x ∧ x < K.2 12) (h1 : f_S_play K x (sc (i + 1)) (sc (i + 2)) F B = some (r1, F1, B1)) (h2 : f_M_play Kr (sc (i + 1)) (sc (i + 2)) Fm Bm = some (r2, F2, B2)) : ls_21 Kr x sc n i K F B Fm Bm = some (K, F1, B1, F2, B2) := by
  unfold ls_21
  rw [if_pos (show 0 ≤ (i + 1) ∧ (i + 1) < n from ⟨by omega, by omega⟩)]
  rw [if_pos (show 0 ≤ (i + 2) ∧ (i + 2) < n from ⟨by omega, by omega⟩)]
  rw [if_pos hx]
  rw [zbL_some h1]
  rw [if_pos (show 0 ≤ (i + 1) ∧ (i + 1) < n from ⟨by omega, by omega⟩)]
  rw [if_pos (show 0 ≤ (i + 2) ∧ (i + 2) < n from ⟨by omega, by omega⟩)]
  rw [zbL_some h2]
theorem lst_22 {Kr : Nat} {x n i : Int} {sc : Int → Int} {K : zK} {F Fm F1 F2 : zF} {B Bm B1 B2 : zB} {r1 r2 : Int} (hi : 0 ≤ i) (hn : i + 9 ≤ n) (hx : 0 ≤ x ∧ x < K.2 12) (h1 : f_S_sample K x (sc (i + 1)) (sc (i + 2)) (sc (i + 3)) F B = some (r1, F1, B1)) (h2 : f_M_sample Kr (sc (i + 1)) (sc (i + 2)) (sc (i + 3)) Fm Bm = some (r2, F2, B2)) : ls_22 Kr x sc n i K F B Fm Bm = some (K, F1, B1, F2, B2) := by
  unfold ls_22
  rw [if_pos (show 0 ≤ (i + 1) ∧ (i + 1) < n from ⟨by omega, by omega⟩)]
  rw [if_pos (show 0 ≤ (i + 2) ∧ (i + 2) < n from ⟨by omega, by omega⟩)]
  rw [if_pos (show 0 ≤ (i + 3) ∧ (i + 3) < n from ⟨by omega, by omega⟩)]
  rw [if_pos hx]
  rw [zbL_some h1]
  rw [if_pos (show 0 ≤ (i + 1) ∧ (i + 1) < n from ⟨by omega, by omega⟩)]
  rw [if_pos (show 0 ≤ (i + 2) ∧ (i + 2) < n from ⟨by omega, by omega⟩)]
  rw [if_pos (show 0 ≤ (i + 3) ∧ (i + 3) < n from ⟨by omega, by omega⟩)]
  rw [zbL_some h2]
theorem lst_23 {Kr : Nat} {x n i : Int} {sc : Int → Int} {K K1 : zK} {F Fm F1 F2 : zF} {B Bm B1 B2 : zB} {r1 r2 : Int} (hi : 0 ≤ i) (hn : i + 9 ≤ n) (hx : 0 ≤ x ∧ x < K.2 12) (h1 : f_S_moment K x (sc (i + 1)) (sc (i + 2)) (sc (i + 3)) F B = some (r1, F1, B1, K1)) (h2 : f_M_moment_0 Kr (sc (i + 1)) (sc (i + 2)) (sc (i + 3)) Fm Bm = some (r2, F2, B2)) : ls_23 Kr x sc n i K F B Fm Bm = some (K1, F1, B1, F2, B2) := by
  unfold ls_23
  rw [if_pos (show 0 ≤ (i + 1) ∧ (i + 1) < n from ⟨by omega, by omega⟩)]
  rw [if_pos (show 0 ≤ (i + 2) ∧ (i + 2) < n from ⟨by omega, by omega⟩)]
  rw [if_pos (show 0 ≤ (i + 3) ∧ (i + 3) < n from ⟨by omega, by omega⟩)]
  rw [if_pos hx]
  rw [zbM_some h1]
  rw [if_pos (show 0 ≤ (i + 1) ∧ (i + 1) < n from ⟨by omega, by omega⟩)]
  rw [if_pos (show 0 ≤ (i + 2) ∧ (i + 2) < n from ⟨by omega, by omega⟩)]
  rw [if_pos (show 0 ≤ (i + 3) ∧ (i + 3) < n from ⟨by omega, by omega⟩)]
  rw [zbL_some h2]
theorem lst_24 {Kr : Nat} {x n i : Int} {sc : Int → Int} {K K1 : zK} {F Fm F1 F2 : zF} {B Bm B1 B2 : zB} {r1 r2 : Int} (hi : 0 ≤ i) (hn : i + 9 ≤ n) (hx : 0 ≤ x ∧ x < K.2 12) (h1 : f_S_fault K x (sc (i + 1)) (sc (i + 2)) (sc (i + 3)) F B = some (r1, F1, B1, K1)) (h2 : f_M_fault_0 Kr (sc (i + 1)) (sc (i + 2)) (sc (i + 3)) Fm Bm = some (r2, F2, B2)) : ls_24 Kr x sc n i K F B Fm Bm = some (K1, F1, B1, F2, B2) := by
  unfold ls_24
  rw [if_pos (show 0 ≤ (i + 1) ∧ (i + 1) < n from ⟨by omega, by omega⟩)]
  rw [if_pos (show 0 ≤ (i + 2) ∧ (i + 2) < n from ⟨by omega, by omega⟩)]
  rw [if_pos (show 0 ≤ (i + 3) ∧ (i + 3) < n from ⟨by omega, by omega⟩)]
  rw [if_pos hx]
  rw [zbM_some h1]
  rw [if_pos (show 0 ≤ (i + 1) ∧ (i + 1) < n from ⟨by omega, by omega⟩)]
  rw [if_pos (show 0 ≤ (i + 2) ∧ (i + 2) < n from ⟨by omega, by omega⟩)]
  rw [if_pos (show 0 ≤ (i + 3) ∧ (i + 3) < n from ⟨by omega, by omega⟩)]
  rw [zbL_some h2]
theorem lst_25 {Kr : Nat} {x n i : Int} {sc : Int → Int} {K : zK} {F Fm F1 F2 : zF} {B Bm B1 B2 : zB} {r1 r2 : Int} (hi : 0 ≤ i) (hn : i + 9 ≤ n) (hx : 0 ≤ x ∧ x < K.2 12) (h1 : f_S_follows K x (sc (i + 1)) (sc (i + 2)) (sc (i + 3)) (sc (i + 4)) F B = some (r1, F1, B1)) (h2 : f_M_follows Kr (sc (i + 1)) (sc (i + 2)) (sc (i + 3)) (sc (i + 4)) Fm Bm = some (r2, F2, B2)) : ls_25 Kr x sc n i K F B Fm Bm = some (K, F1, B1, F2, B2) := by
  unfold ls_25
  rw [if_pos (show 0 ≤ (i + 1) ∧ (i + 1) < n from ⟨by omega, by omega⟩)]
  rw [if_pos (show 0 ≤ (i + 2) ∧ (i + 2) < n from ⟨by omega, by omega⟩)]
  rw [if_pos (show 0 ≤ (i + 3) ∧ (i + 3) < n from ⟨by omega, by omega⟩)]
  rw [if_pos (show 0 ≤ (i + 4) ∧ (i + 4) < n from ⟨by omega, by omega⟩)]
  rw [if_pos hx]
  rw [zbL_some h1]
  rw [if_pos (show 0 ≤ (i + 1) ∧ (i + 1) < n from ⟨by omega, by omega⟩)]
  rw [if_pos (show 0 ≤ (i + 2) ∧ (i + 2) < n from ⟨by omega, by omega⟩)]
  rw [if_pos (show 0 ≤ (i + 3) ∧ (i + 3) < n from ⟨by omega, by omega⟩)]
  rw [if_pos (show 0 ≤ (i + 4) ∧ (i + 4) < n from ⟨by omega, by omega⟩)]
  rw [zbL_some h2]
theorem lst_26 {Kr : Nat} {x n i : Int} {sc : Int → Int} {K : zK} {F Fm F1 F2 : zF} {B Bm B1 B2 : zB} {r1 r2 : Int} (hi : 0 ≤ i) (hn : i + 9 ≤ n) (hx : 0 ≤ x ∧ x < K.2 12) (h1 : f_S_shape K x (sc (i + 1)) (sc (i + 2)) (sc (i + 3)) (sc (i + 4)) (sc (i + 5)) (sc (i + 6)) (sc (i + 7)) (sc (i + 8)) F B = some (r1, F1, B1)) (h2 : f_M_shape Kr (sc (i + 1)) (sc (i + 2)) (sc (i + 3)) (sc (i + 4)) (sc (i + 5)) (sc (i + 6)) (sc (i + 7)) (sc (i + 8)) Fm Bm = some (r2, F2, B2)) : ls_26 Kr x sc n i K F B Fm Bm = some (K, F1, B1, F2, B2) := by
  unfold ls_26
  rw [if_pos (show 0 ≤ (i + 1) ∧ (i + 1) < n from ⟨by omega, by omega⟩)]
  rw [if_pos (show 0 ≤ (i + 2) ∧ (i + 2) < n from ⟨by omega, by omega⟩)]
  rw [if_pos (show 0 ≤ (i + 3) ∧ (i + 3) < n from ⟨by omega, by omega⟩)]
  rw [if_pos (show 0 ≤ (i + 4) ∧ (i + 4) < n from ⟨by omega, by omega⟩)]
  rw [if_pos (show 0 ≤ (i + 5) ∧ (i + 5) < n from ⟨by omega, by omega⟩)]
  rw [if_pos (show 0 ≤ (i + 6) ∧ (i + 6) < n from ⟨by omega, by omega⟩)]
  rw [if_pos (show 0 ≤ (i + 7) ∧ (i + 7) < n from ⟨by omega, by omega⟩)]
  rw [if_pos (show 0 ≤ (i + 8) ∧ (i + 8) < n from ⟨by omega, by omega⟩)]
  rw [if_pos hx]
  rw [zbL_some h1]
  rw [if_pos (show 0 ≤ (i + 1) ∧ (i + 1) < n from ⟨by omega, by omega⟩)]
  rw [if_pos (show 0 ≤ (i + 2) ∧ (i + 2) < n from ⟨by omega, by omega⟩)]
  rw [if_pos (show 0 ≤ (i + 3) ∧ (i + 3) < n from ⟨by omega, by omega⟩)]
  rw [if_pos (show 0 ≤ (i + 4) ∧ (i + 4) < n from ⟨by omega, by omega⟩)]
  rw [if_pos (show 0 ≤ (i + 5) ∧ (i + 5) < n from ⟨by omega, by omega⟩)]
  rw [if_pos (show 0 ≤ (i + 6) ∧ (i + 6) < n from ⟨by omega, by omega⟩)]
  rw [if_pos (show 0 ≤ (i + 7) ∧ (i + 7) < n from ⟨by omega, by omega⟩)]
  rw [if_pos (show 0 ≤ (i + 8) ∧ (i + 8) < n from ⟨by omega, by omega⟩)]
  rw [zbL_some h2]
end
section
/-! ===== the tape: feed, end, out, exactly, on both sides ===== -/
theorem L_end {K : Nat} {l : Int} {F : zF} {B : zB} (hK : 22 ≤ K) (hl : r32 l) (h0 : 0 ≤ F 14 0 3) (h1 : F 14 0 3 ≤ 3000) :
    ((l < 0 ∨ 20 < l ∨ 3000 < F 14 0 3 + l) → f_M_end K l F B = some (-1, F, B)) ∧
    (0 ≤ l → l ≤ 20 → F 14 0 3 + l ≤ 3000 → ∃ B', f_M_end K l F B = some (F 14 0 3 + l, zup3 F 14 0 3 (F 14 0 3 + l), B') ∧ (∀ c i x, ¬ (c = 14 ∧ i = 0 ∧ x = 2) → B' c i x = B c i x) ∧ B' 14 0 2 = endRow (B 14 0 2) (B 14 0 4) (F 14 0 3) 0 l) := by
  constructor
  · intro h
    unfold f_M_end f_M_end_22
    rw [if_pos hl]
    by_cases a : l < 0
    · rw [if_pos a]
    · rw [if_neg a]
      by_cases b : 20 < l
      · rw [if_pos b]
      · rw [if_neg b, if_pos (show r32 (F 14 0 3 + l) from ⟨by omega, by omega⟩), if_neg (by omega)]
  · intro a b d
    unfold f_M_end
    rw [if_pos hl, if_neg (by omega), if_neg (by omega), if_pos (show r32 (F 14 0 3 + l) from ⟨by omega, by omega⟩), if_pos d]
    exact L_end_loop (by omega) a b h0 d (by omega)
theorem C_put {K : zK} {v : Int} {F : zF} {B : zB} (hK : 0 < K.2 0) (h0 : 0 ≤ F 0 0 1) (h1 : F 0 0 1 < 3000) : f_ByteRow_put K 0 v F B = some (0, zup3 F 0 0 1 (F 0 0 1 + 1), zup4 B 0 0 0 (F 0 0 1) (zand v 255)) := by
  have e : (lnC 0 0 0 : Int) = 3000 := rfl
  unfold f_ByteRow_put
  rw [e, if_pos ⟨by decide, hK⟩, if_pos (show r32 (F 0 0 1) from ⟨by omega, by omega⟩), if_pos (show r32 (3000 : Int) from ⟨by decide, by decide⟩), if_pos h1, if_pos ⟨h0, h1⟩]
theorem C_end_loop {K : zK} {l : Int} (hK0 : 0 < K.2 0) (hK12 : 0 < K.2 12) (hl : l ≤ 20) : ∀ {n : Nat} {k : Int} {F : zF} {B : zB}, 0 ≤ k → k ≤ l → F 12 0 0 = 0 → 0 ≤ F 0 0 1 → F 0 0 1 + (l - k) ≤ 3000 → l - k < n → ∃ F' B', f_S_end_29 K n k 0 l F B = some (F 0 0 1 + (l - k), F', B') ∧ F' 0 0 1 = F 0 0 1 + (l - k) ∧ (∀ c i x, ¬ (c = 0 ∧ i = 0 ∧ x = 1) → F' c i x = F c i x) ∧ (∀ c i x, ¬ (c = 0 ∧ i = 0 ∧ x = 0) → B' c i x = B c i x) ∧ ∀ y, B' 0 0 0 y = if F 0 0 1 ≤ y ∧ y < F 0 0 1 + (l - k) then zand (B 12 0 1 (k + (y - F 0 0 1))) 255 else B 0 0 0 y := by
  intro n
  induction n with
  | zero => intro k F B h0 h1 hT h3 h4 h5; omega
  | succ n ih =>
    intro k F B h0 h1 hT h3 h4 h5
    unfold f_S_end_29
    rw [if_pos (show r32 k from ⟨by omega, by omega⟩), if_pos (show r32 l from ⟨by omega, by omega⟩), hT]
    by_cases h : l ≤ k
    · rw [if_pos h, if_pos ⟨by decide, hK12⟩, if_pos ⟨by decide, hK0⟩]
      refine ⟨F, B, ?_, by omega, fun _ _ _ _ => rfl, fun _ _ _ _ => rfl, fun y => ?_⟩
      · rw [show F 0 0 1 + (l - k) = F 0 0 1 by omega]
      · rw [if_neg (by omega)]
    · rw [if_neg h, if_pos ⟨by decide, hK12⟩, if_pos ⟨h0, by omega⟩, if_pos ⟨by decide, hK0⟩, C_put hK0 h3 (by omega)]
      have e1 : zup3 F 0 0 1 (F 0 0 1 + 1) 0 0 1 = F 0 0 1 + 1 := by simp [zup3]
      have e2 : zup3 F 0 0 1 (F 0 0 1 + 1) 12 0 0 = F 12 0 0 := by simp [zup3]
      obtain ⟨F', B', a1, a2, a3, a4, a5⟩ := ih (k := k + 1) (F := zup3 F 0 0 1 (F 0 0 1 + 1)) (B := zup4 B 0 0 0 (F 0 0 1) (zand (B 12 0 1 k) 255)) (by omega) (by omega) (by rw [e2, hT]) (by rw [e1]; omega) (by rw [e1]; omega) (by omega)
      rw [e1] at a1 a2 a5
      refine ⟨F', B', ?_, by rw [a2]; omega, fun c i x hq => ?_, fun c i x hq => ?_, fun y => ?_⟩
      · show f_S_end_29 K n (k + 1) 0 l (zup3 F 0 0 1 (F 0 0 1 + 1)) (zup4 B 0 0 0 (F 0 0 1) (zand (B 12 0 1 k) 255)) = _
        rw [a1]
        congr 2
        omega
      · rw [a3 c i x hq]
        simp [zup3, hq]
      · rw [a4 c i x hq, zup4_ne hq]
      · rw [a5 y, zup4_self, zup4_ne (by decide)]
        unfold zup
        by_cases hy : y = F 0 0 1
        · subst hy
          rw [if_neg (by omega), if_pos rfl, if_pos ⟨by omega, by omega⟩]
          congr 2
          omega
        · by_cases hz : F 0 0 1 + 1 ≤ y ∧ y < F 0 0 1 + 1 + (l - (k + 1))
          · rw [if_pos hz, if_pos ⟨by omega, by omega⟩]
            congr 2
            omega
          · rw [if_neg hz, if_neg hy, if_neg (by omega)]
theorem C_end {K : zK} {l : Int} {F : zF} {B : zB} (hK : 22 ≤ K.1) (hK0 : 0 < K.2 0) (hK12 : 0 < K.2 12) (hl : r32 l) (hT : F 12 0 0 = 0) (h0 : 0 ≤ F 0 0 1) (h1 : F 0 0 1 ≤ 3000) :
    ((l < 0 ∨ 20 < l ∨ 3000 < F 0 0 1 + l) → f_S_end K 0 l F B = some (-1, F, B)) ∧
    (0 ≤ l → l ≤ 20 → F 0 0 1 + l ≤ 3000 → ∃ F' B', f_S_end K 0 l F B = some (F 0 0 1 + l, F', B') ∧ F' 0 0 1 = F 0 0 1 + l ∧ (∀ c i x, ¬ (c = 0 ∧ i = 0 ∧ x = 1) → F' c i x = F c i x) ∧ (∀ c i x, ¬ (c = 0 ∧ i = 0 ∧ x = 0) → B' c i x = B c i x) ∧ ∀ y, B' 0 0 0 y = if F 0 0 1 ≤ y ∧ y < F 0 0 1 + l then zand (B 12 0 1 (y - F 0 0 1)) 255 else B 0 0 0 y) := by
  constructor
  · intro h
    unfold f_S_end f_S_end_25
    rw [if_pos hl]
    by_cases a : l < 0
    · rw [if_pos a]
    · rw [if_neg a]
      by_cases b : 20 < l
      · rw [if_pos b]
      · rw [if_neg b, if_pos ⟨by decide, hK12⟩, hT, if_pos ⟨by decide, hK0⟩, if_pos (show r32 (F 0 0 1 + l) from ⟨by omega, by omega⟩), if_neg (by omega)]
  · intro a b d
    unfold f_S_end
    rw [if_pos hl, if_neg (by omega), if_neg (by omega), if_pos ⟨by decide, hK12⟩, hT, if_pos ⟨by decide, hK0⟩, if_pos (show r32 (F 0 0 1 + l) from ⟨by omega, by omega⟩), if_pos d]
    obtain ⟨F', B', a1, a2, a3, a4, a5⟩ := C_end_loop (K := K) (l := l) hK0 hK12 b (n := K.1) (k := 0) (F := F) (B := B) (by omega) a hT h0 (by omega) (by omega)
    refine ⟨F', B', ?_, by rw [a2]; omega, a3, a4, fun y => ?_⟩
    · rw [a1]
      congr 2
      omega
    · rw [a5 y, show F 0 0 1 + (l - 0) = F 0 0 1 + l by omega, show (0 : Int) + (y - F 0 0 1) = y - F 0 0 1 by omega]
theorem L_out {K : Nat} {l : Int} {F : zF} {B : zB} (hl : r32 l) (h0 : 0 ≤ F 14 0 71) (h1 : F 14 0 71 ≤ 40000) : f_M_out K l F B = some (if 0 ≤ l ∧ l < F 14 0 71 then zand (B 14 0 70 l) 255 else -1, F, B) := by
  unfold f_M_out f_M_out_25 f_M_out_26
  rw [if_pos hl]
  by_cases a : l < 0
  · rw [if_pos a, if_neg (by omega)]
  · rw [if_neg a, if_pos (show r32 (F 14 0 71) from ⟨by omega, by omega⟩)]
    by_cases b : F 14 0 71 ≤ l
    · rw [if_pos b, if_neg (by omega)]
    · rw [if_neg b, if_pos ⟨by omega, by omega⟩, if_pos ⟨by omega, by omega⟩]
theorem C_out {K : zK} {l : Int} {F : zF} {B : zB} (hK0 : 1 < K.2 0) (hK12 : 0 < K.2 12) (hl : r32 l) (hT : F 12 0 2 = 1) (h0 : 0 ≤ F 0 1 1) (h1 : F 0 1 1 ≤ 20480) : f_S_out K 0 l F B = some (if 0 ≤ l ∧ l < F 0 1 1 then B 0 1 0 l else -1, F, B) := by
  have e : (lnC 0 1 0 : Int) = 20480 := rfl
  have h : f_ByteRow_at K 1 l F B = some (if 0 ≤ l ∧ l < F 0 1 1 then B 0 1 0 l else -1, F, B) := by
    unfold f_ByteRow_at f_ByteRow_at_12 f_ByteRow_at_22
    rw [if_pos hl]
    by_cases a : l < 0
    · rw [if_pos a, if_neg (by omega)]
    · rw [if_neg a, if_pos ⟨by decide, hK0⟩, if_pos (show r32 (F 0 1 1) from ⟨by omega, by omega⟩), e]
      by_cases b : l < F 0 1 1
      · rw [if_pos b, if_pos ⟨by omega, by omega⟩, if_pos ⟨by omega, by omega⟩]
      · rw [if_neg b, if_neg (by omega)]
  unfold f_S_out
  rw [if_pos ⟨by decide, hK12⟩, hT, if_pos ⟨by decide, hK0⟩, h]
  rfl
end
section
/-! ===== bytes of a number ===== -/
theorem nat_and255 (n : Nat) : n &&& 255 = n % 256 := Nat.and_two_pow_sub_one_eq_mod n 8
theorem zand255 (x : Int) : zand x 255 = x % 256 := by
  have h : (iI x &&& iI 255).toBitVec = BitVec.ofInt 32 x &&& 255#32 := rfl
  have hn : (BitVec.ofInt 32 x &&& 255#32).toNat = (x % 256).toNat := by
    rw [BitVec.toNat_and, BitVec.toNat_ofInt]
    show (x % (2 ^ 32 : Nat)).toNat &&& 255 = _
    rw [nat_and255]
    omega
  show (iI x &&& iI 255).toBitVec.toInt = x % 256
  rw [h, BitVec.toInt_eq_toNat_of_lt (by rw [hn]; omega), hn]
  omega
theorem zi2b_e (x : Int) : zi2b x = x.bmod 256 := by
  unfold zi2b
  rw [Int8.toInt_toInt32, Int32.toInt_toInt8]
  unfold iI
  rw [Int32.toInt_ofInt]
  exact Int.bmod_bmod_of_dvd (by decide)
theorem zi2b_i (x : Int) : zi2b (zi2b x) = zi2b x := by
  rw [zi2b_e, zi2b_e, Int.bmod_bmod]
theorem bmod256 (x : Int) : x.bmod 256 % 256 = x % 256 := Int.bmod_emod (x := x) (m := 256)
theorem bmod32 (x : Int) : x.bmod 4294967296 % 256 = x % 256 := by
  have h : x.bmod 4294967296 % 4294967296 = x % 4294967296 := Int.bmod_emod (x := x) (m := 4294967296)
  omega
theorem ushr_mod (a : Int) (k : Nat) : (BitVec.ofInt 32 a >>> k).toInt % 256 = (((a % 4294967296).toNat / 2 ^ k : Nat) : Int) % 256 := by
  rw [BitVec.toInt_eq_toNat_bmod, BitVec.toNat_ushiftRight, Nat.shiftRight_eq_div_pow, BitVec.toNat_ofInt]
  exact bmod32 _
theorem zushr_byte {a s : Int} (hs : s = 0 ∨ s = 8 ∨ s = 16 ∨ s = 24) : zand (zushr a s) 255 = (a / 2 ^ s.toNat) % 256 := by
  rw [zand255]
  rcases hs with rfl | rfl | rfl | rfl
  · refine (ushr_mod a 0).trans ?_
    show (((a % 4294967296).toNat / 1 : Nat) : Int) % 256 = a / 1 % 256
    omega
  · refine (ushr_mod a 8).trans ?_
    show (((a % 4294967296).toNat / 256 : Nat) : Int) % 256 = a / 256 % 256
    omega
  · refine (ushr_mod a 16).trans ?_
    show (((a % 4294967296).toNat / 65536 : Nat) : Int) % 256 = a / 65536 % 256
    omega
  · refine (ushr_mod a 24).trans ?_
    show (((a % 4294967296).toNat / 16777216 : Nat) : Int) % 256 = a / 16777216 % 256
    omega
theorem zshr_byte {a s : Int} (ha : r32 a) (hs : s = 0 ∨ s = 8 ∨ s = 16 ∨ s = 24) : zshr a s = a / 2 ^ s.toNat := by
  have key : ∀ k : Nat, ((BitVec.ofInt 32 a).sshiftRight k).toInt = a / 2 ^ k := by
    intro k
    rw [BitVec.toInt_sshiftRight, Int.shiftRight_eq_div_pow, BitVec.toInt_ofInt, Int.bmod_eq_of_le (by omega) (by omega)]
    rfl
  rcases hs with rfl | rfl | rfl | rfl
  · exact key 0
  · exact key 8
  · exact key 16
  · exact key 24
end
section
/-! ===== feed, exactly, on both sides ===== -/
theorem zbind_some {x : zO} {k : Int → zF → zB → zO} {r : Int} {F : zF} {B : zB} (h : x = some (r, F, B)) : zbind x k = k r F B := by rw [h]; rfl
def wby (a m : Int) : Int := a / 2 ^ (24 - 8 * m).toNat
def wsel (a1 a2 a3 a4 a5 y : Int) : Int := if y < 4 then a1 else if y < 8 then a2 else if y < 12 then a3 else if y < 16 then a4 else a5
theorem C_wait_loop {K : zK} {l1 l2 : Int} {F : zF} (hK12 : 0 < K.2 12) (h0 : 0 ≤ l1) (h1 : l1 ≤ 16) : ∀ {n : Nat} {k : Int} {B : zB}, 0 ≤ k → k ≤ 4 → 4 - k < n → ∃ B', f_S_waitWord_2 K n k 0 l1 l2 F B = some (0, F, B') ∧ (∀ c i x, ¬ (c = 12 ∧ i = 0 ∧ x = 1) → B' c i x = B c i x) ∧ ∀ y, B' 12 0 1 y = if l1 + k ≤ y ∧ y < l1 + 4 then wby l2 (y - l1) % 256 else B 12 0 1 y := by
  intro n
  induction n with
  | zero => intro k B a b d; omega
  | succ n ih =>
    intro k B a b d
    unfold f_S_waitWord_2 f_S_waitWord_42
    rw [if_pos (show r32 k from ⟨by omega, by omega⟩)]
    by_cases h : 4 ≤ k
    · rw [if_pos h]
      exact ⟨B, rfl, fun _ _ _ _ => rfl, fun y => by rw [if_neg (by omega)]⟩
    · rw [if_neg h, if_pos (show r32 (l1 + k) from ⟨by omega, by omega⟩), if_neg (by omega), if_pos ⟨by decide, hK12⟩, if_pos ⟨by omega, by omega⟩, zushr_byte (by omega)]
      obtain ⟨B', e1, e2, e3⟩ := ih (k := k + 1) (B := zup4 B 12 0 1 (l1 + k) (l2 / 2 ^ (24 - 8 * k).toNat % 256)) (by omega) (by omega) (by omega)
      refine ⟨B', e1, fun c i x hq => by rw [e2 c i x hq, zup4_ne hq], fun y => ?_⟩
      rw [e3 y, zup4_self]
      unfold zup
      by_cases hy : y = l1 + k
      · subst hy
        rw [if_neg (by omega), if_pos rfl, if_pos ⟨by omega, by omega⟩]
        unfold wby
        rw [show l1 + k - l1 = k by omega]
      · by_cases hz : l1 + (k + 1) ≤ y ∧ y < l1 + 4
        · rw [if_pos hz, if_pos ⟨by omega, by omega⟩]
        · rw [if_neg hz, if_neg hy, if_neg (by omega)]
theorem C_wait {K : zK} {l1 l2 : Int} {F : zF} {B : zB} (hK : 22 ≤ K.1) (hK12 : 0 < K.2 12) (h0 : 0 ≤ l1) (h1 : l1 ≤ 16) : ∃ B', f_S_waitWord K 0 l1 l2 F B = some (0, F, B') ∧ (∀ c i x, ¬ (c = 12 ∧ i = 0 ∧ x = 1) → B' c i x = B c i x) ∧ ∀ y, B' 12 0 1 y = if l1 ≤ y ∧ y < l1 + 4 then wby l2 (y - l1) % 256 else B 12 0 1 y := by
  obtain ⟨B', a, b, d⟩ := C_wait_loop (K := K) (l1 := l1) (l2 := l2) (F := F) hK12 h0 h1 (n := K.1) (k := 0) (B := B) (by omega) (by omega) (by omega)
  exact ⟨B', a, b, fun y => by rw [d y, Int.add_zero]⟩
theorem C_feed {K : zK} {a1 a2 a3 a4 a5 : Int} {F : zF} {B : zB} (hK : 22 ≤ K.1) (hK12 : 0 < K.2 12) : ∃ B', f_S_feed K 0 a1 a2 a3 a4 a5 F B = some (0, F, B') ∧ (∀ c i x, ¬ (c = 12 ∧ i = 0 ∧ x = 1) → B' c i x = B c i x) ∧ ∀ y, B' 12 0 1 y = if 0 ≤ y ∧ y < 20 then wby (wsel a1 a2 a3 a4 a5 y) (y % 4) % 256 else B 12 0 1 y := by
  obtain ⟨B1, p1, q1, r1⟩ := C_wait (K := K) (l1 := 0) (l2 := a1) (F := F) (B := B) hK hK12 (by decide) (by decide)
  obtain ⟨B2, p2, q2, r2⟩ := C_wait (K := K) (l1 := 4) (l2 := a2) (F := F) (B := B1) hK hK12 (by decide) (by decide)
  obtain ⟨B3, p3, q3, r3⟩ := C_wait (K := K) (l1 := 8) (l2 := a3) (F := F) (B := B2) hK hK12 (by decide) (by decide)
  obtain ⟨B4, p4, q4, r4⟩ := C_wait (K := K) (l1 := 12) (l2 := a4) (F := F) (B := B3) hK hK12 (by decide) (by decide)
  obtain ⟨B5, p5, q5, r5⟩ := C_wait (K := K) (l1 := 16) (l2 := a5) (F := F) (B := B4) hK hK12 (by decide) (by decide)
  refine ⟨B5, ?_, fun c i x hq => by rw [q5 c i x hq, q4 c i x hq, q3 c i x hq, q2 c i x hq, q1 c i x hq], fun y => ?_⟩
  · unfold f_S_feed
    rw [if_pos ⟨by decide, hK12⟩, zbind_some p1, zbind_some p2, zbind_some p3, zbind_some p4, zbind_some p5]
  · rw [r5 y, r4 y, r3 y, r2 y, r1 y]
    unfold wsel
    by_cases h : 0 ≤ y ∧ y < 20
    · rw [if_pos h]
      by_cases h1 : y < 4
      · rw [if_neg (by omega), if_neg (by omega), if_neg (by omega), if_neg (by omega), if_pos ⟨by omega, by omega⟩, if_pos h1, show y - 0 = y % 4 by omega]
      · by_cases h2 : y < 8
        · rw [if_neg (by omega), if_neg (by omega), if_neg (by omega), if_pos ⟨by omega, by omega⟩, if_neg h1, if_pos h2, show y - 4 = y % 4 by omega]
        · by_cases h3 : y < 12
          · rw [if_neg (by omega), if_neg (by omega), if_pos ⟨by omega, by omega⟩, if_neg h1, if_neg h2, if_pos h3, show y - 8 = y % 4 by omega]
          · by_cases h4 : y < 16
            · rw [if_neg (by omega), if_pos ⟨by omega, by omega⟩, if_neg h1, if_neg h2, if_neg h3, if_pos h4, show y - 12 = y % 4 by omega]
            · rw [if_pos ⟨by omega, by omega⟩, if_neg h1, if_neg h2, if_neg h3, if_neg h4, show y - 16 = y % 4 by omega]
    · rw [if_neg h, if_neg (by omega), if_neg (by omega), if_neg (by omega), if_neg (by omega), if_neg (by omega)]
theorem L_feed_loop {K : Nat} {a1 a2 a3 a4 a5 : Int} (h1 : r32 a1) (h2 : r32 a2) (h3 : r32 a3) (h4 : r32 a4) (h5 : r32 a5) {F : zF} : ∀ {n : Nat} {k : Int} {B : zB}, 0 ≤ k → k ≤ 20 → 20 - k < n → ∃ B', f_M_feed_3 K n k a1 a2 a3 a4 a5 F B = some (0, F, B') ∧ (∀ c i x, ¬ (c = 14 ∧ i = 0 ∧ x = 4) → B' c i x = B c i x) ∧ ∀ y, B' 14 0 4 y = if k ≤ y ∧ y < 20 then (wby (wsel a1 a2 a3 a4 a5 y) (y % 4)).bmod 256 else B 14 0 4 y := by
  intro n
  induction n with
  | zero => intro k B a b d; omega
  | succ n ih =>
    intro k B a b d
    have step : ∀ s0, r32 s0 → wsel a1 a2 a3 a4 a5 k = s0 → k < 20 → ∃ B', f_M_feed_56 (f_M_feed_3 K n) K k a1 a2 a3 a4 a5 s0 F B = some (0, F, B') ∧ (∀ c i x, ¬ (c = 14 ∧ i = 0 ∧ x = 4) → B' c i x = B c i x) ∧ ∀ y, B' 14 0 4 y = if k ≤ y ∧ y < 20 then (wby (wsel a1 a2 a3 a4 a5 y) (y % 4)).bmod 256 else B 14 0 4 y := by
      intro s0 hs hw hk
      unfold f_M_feed_56
      rw [if_pos ⟨a, hk⟩, zi2b_i, zrm_e a (by omega) (by decide) (by decide), zshr_byte hs (by omega), zi2b_e]
      obtain ⟨B', e1, e2, e3⟩ := ih (k := k + 1) (B := zup4 B 14 0 4 k ((s0 / 2 ^ (24 - 8 * (k % 4)).toNat).bmod 256)) (by omega) (by omega) (by omega)
      refine ⟨B', e1, fun c i x hq => by rw [e2 c i x hq, zup4_ne hq], fun y => ?_⟩
      rw [e3 y, zup4_self]
      unfold zup
      by_cases hy : y = k
      · subst hy
        rw [if_neg (by omega), if_pos rfl, if_pos ⟨by omega, by omega⟩, hw]
        rfl
      · by_cases hz : k + 1 ≤ y ∧ y < 20
        · rw [if_pos hz, if_pos ⟨by omega, by omega⟩]
        · rw [if_neg hz, if_neg hy, if_neg (by omega)]
    unfold f_M_feed_3
    rw [if_pos (show r32 k from ⟨by omega, by omega⟩)]
    by_cases h : 20 ≤ k
    · rw [if_pos h]
      exact ⟨B, rfl, fun _ _ _ _ => rfl, fun y => by rw [if_neg (by omega)]⟩
    · rw [if_neg h]
      by_cases g1 : 4 ≤ k
      · rw [if_pos g1]
        by_cases g2 : 8 ≤ k
        · rw [if_pos g2]
          by_cases g3 : 12 ≤ k
          · rw [if_pos g3]
            by_cases g4 : 16 ≤ k
            · rw [if_pos g4]
              exact step a5 h5 (by unfold wsel; rw [if_neg (by omega), if_neg (by omega), if_neg (by omega), if_neg (by omega)]) (by omega)
            · rw [if_neg g4]
              exact step a4 h4 (by unfold wsel; rw [if_neg (by omega), if_neg (by omega), if_neg (by omega), if_pos (by omega)]) (by omega)
          · rw [if_neg g3]
            exact step a3 h3 (by unfold wsel; rw [if_neg (by omega), if_neg (by omega), if_pos (by omega)]) (by omega)
        · rw [if_neg g2]
          exact step a2 h2 (by unfold wsel; rw [if_neg (by omega), if_pos (by omega)]) (by omega)
      · rw [if_neg g1]
        exact step a1 h1 (by unfold wsel; rw [if_pos (by omega)]) (by omega)
theorem L_feed {K : Nat} {a1 a2 a3 a4 a5 : Int} (hK : 22 ≤ K) (h1 : r32 a1) (h2 : r32 a2) (h3 : r32 a3) (h4 : r32 a4) (h5 : r32 a5) {F : zF} {B : zB} : ∃ B', f_M_feed K a1 a2 a3 a4 a5 F B = some (0, F, B') ∧ (∀ c i x, ¬ (c = 14 ∧ i = 0 ∧ x = 4) → B' c i x = B c i x) ∧ ∀ y, B' 14 0 4 y = if 0 ≤ y ∧ y < 20 then (wby (wsel a1 a2 a3 a4 a5 y) (y % 4)).bmod 256 else B 14 0 4 y :=
  L_feed_loop h1 h2 h3 h4 h5 (by omega) (by omega) (by omega)
end
section
/-! ===== again, exactly, on both sides ===== -/
theorem L_again_loop {K : Nat} {F : zF} (h0 : 0 ≤ F 14 0 71) (h1 : F 14 0 71 ≤ 3000) : ∀ {n : Nat} {k : Int} {B : zB}, 0 ≤ k → k ≤ F 14 0 71 → F 14 0 71 - k < n → ∃ B', f_M_again_21 K n k F B = some (F 14 0 71, zup3 F 14 0 3 (F 14 0 71), B') ∧ (∀ c i x, ¬ (c = 14 ∧ i = 0 ∧ x = 2) → B' c i x = B c i x) ∧ ∀ y, B' 14 0 2 y = if k ≤ y ∧ y < F 14 0 71 then zi2b (B 14 0 70 y) else B 14 0 2 y := by
  intro n
  induction n with
  | zero => intro k B a b d; omega
  | succ n ih =>
    intro k B a b d
    unfold f_M_again_21
    rw [if_pos (show r32 k from ⟨by omega, by omega⟩), if_pos (show r32 (F 14 0 71) from ⟨by omega, by omega⟩)]
    by_cases h : F 14 0 71 ≤ k
    · rw [if_pos h]
      exact ⟨B, rfl, fun _ _ _ _ => rfl, fun y => by rw [if_neg (by omega)]⟩
    · rw [if_neg h, if_pos ⟨a, by omega⟩, if_pos ⟨a, by omega⟩]
      obtain ⟨B', e1, e2, e3⟩ := ih (k := k + 1) (B := zup4 B 14 0 2 k (zi2b (B 14 0 70 k))) (by omega) (by omega) (by omega)
      refine ⟨B', e1, fun c i x hq => by rw [e2 c i x hq, zup4_ne hq], fun y => ?_⟩
      rw [e3 y, zup4_self, zup4_ne (by decide)]
      unfold zup
      by_cases hy : y = k
      · subst hy
        rw [if_neg (by omega), if_pos rfl, if_pos ⟨by omega, by omega⟩]
      · by_cases hz : k + 1 ≤ y ∧ y < F 14 0 71
        · rw [if_pos hz, if_pos ⟨by omega, by omega⟩]
        · rw [if_neg hz, if_neg hy, if_neg (by omega)]
theorem L_again {K : Nat} {F : zF} {B : zB} (hK : 3002 ≤ K) (h0 : 0 ≤ F 14 0 71) (h1 : F 14 0 71 ≤ 40000) :
    ((F 14 0 71 = 0 ∨ 3000 < F 14 0 71) → f_M_again K F B = some (-1, F, B)) ∧
    (0 < F 14 0 71 → F 14 0 71 ≤ 3000 → ∃ B', f_M_again K F B = some (F 14 0 71, zup3 F 14 0 3 (F 14 0 71), B') ∧ (∀ c i x, ¬ (c = 14 ∧ i = 0 ∧ x = 2) → B' c i x = B c i x) ∧ ∀ y, B' 14 0 2 y = if 0 ≤ y ∧ y < F 14 0 71 then zi2b (B 14 0 70 y) else B 14 0 2 y) := by
  constructor
  · intro h
    unfold f_M_again f_M_again_17
    rw [if_pos (show r32 (F 14 0 71) from ⟨by omega, by omega⟩)]
    by_cases a : F 14 0 71 = 0
    · rw [if_pos a]
    · rw [if_neg a, if_neg (by omega)]
  · intro a b
    unfold f_M_again
    rw [if_pos (show r32 (F 14 0 71) from ⟨by omega, by omega⟩), if_neg (by omega), if_pos b]
    exact L_again_loop h0 b (by omega) (by omega) (by omega)
theorem C_at1 {K : zK} {l : Int} {F : zF} {B : zB} (hK0 : 1 < K.2 0) (h0 : 0 ≤ l) (h1 : l < F 0 1 1) (h2 : F 0 1 1 ≤ 20480) : f_ByteRow_at K 1 l F B = some (B 0 1 0 l, F, B) := by
  have e : (lnC 0 1 0 : Int) = 20480 := rfl
  unfold f_ByteRow_at f_ByteRow_at_22
  rw [if_pos (show r32 l from ⟨by omega, by omega⟩), if_neg (by omega), if_pos ⟨by decide, hK0⟩, if_pos (show r32 (F 0 1 1) from ⟨by omega, by omega⟩), if_pos h1, e, if_pos ⟨h0, by omega⟩]
theorem C_again_loop {K : zK} {N : Int} (hK0 : 1 < K.2 0) (hK12 : 0 < K.2 12) (hN : N ≤ 3000) : ∀ {n : Nat} {k : Int} {F : zF} {B : zB}, 0 ≤ k → k ≤ N → F 12 0 0 = 0 → F 12 0 2 = 1 → F 0 1 1 = N → F 0 0 1 = k → N - k < n → ∃ F' B', f_S_again_34 K n k 0 F B = some (N, F', B') ∧ F' 0 0 1 = N ∧ (∀ c i x, ¬ (c = 0 ∧ i = 0 ∧ x = 1) → F' c i x = F c i x) ∧ (∀ c i x, ¬ (c = 0 ∧ i = 0 ∧ x = 0) → B' c i x = B c i x) ∧ ∀ y, B' 0 0 0 y = if k ≤ y ∧ y < N then zand (B 0 1 0 y) 255 else B 0 0 0 y := by
  intro n
  induction n with
  | zero => intro k F B a b t w s z d; omega
  | succ n ih =>
    intro k F B a b t w s z d
    unfold f_S_again_34
    rw [if_pos ⟨by decide, hK12⟩, w, if_pos ⟨by decide, hK0⟩, if_pos (show r32 k from ⟨by omega, by omega⟩), s, if_pos (show r32 N from ⟨by omega, by omega⟩), t]
    by_cases h : N ≤ k
    · rw [if_pos h, if_pos ⟨by decide, by omega⟩]
      refine ⟨F, B, by rw [z, show k = N by omega], by omega, fun _ _ _ _ => rfl, fun _ _ _ _ => rfl, fun y => by rw [if_neg (by omega)]⟩
    · rw [if_neg h, if_pos ⟨by decide, by omega⟩, zbind_some (C_at1 hK0 a (by omega) (by omega)), zbind_some (C_put (by omega) (by omega) (by omega))]
      have e1 : zup3 F 0 0 1 (F 0 0 1 + 1) 0 0 1 = F 0 0 1 + 1 := by simp [zup3]
      have e2 : zup3 F 0 0 1 (F 0 0 1 + 1) 12 0 0 = F 12 0 0 := by simp [zup3]
      have e3 : zup3 F 0 0 1 (F 0 0 1 + 1) 12 0 2 = F 12 0 2 := by simp [zup3]
      have e4 : zup3 F 0 0 1 (F 0 0 1 + 1) 0 1 1 = F 0 1 1 := by simp [zup3]
      obtain ⟨F', B', a1, a2, a3, a4, a5⟩ := ih (k := k + 1) (F := zup3 F 0 0 1 (F 0 0 1 + 1)) (B := zup4 B 0 0 0 (F 0 0 1) (zand (B 0 1 0 k) 255)) (by omega) (by omega) (by rw [e2, t]) (by rw [e3, w]) (by rw [e4, s]) (by rw [e1, z]) (by omega)
      refine ⟨F', B', a1, a2, fun c i x hq => ?_, fun c i x hq => by rw [a4 c i x hq, zup4_ne hq], fun y => ?_⟩
      · rw [a3 c i x hq]
        simp [zup3, hq]
      · rw [a5 y, zup4_self, zup4_ne (by decide), z]
        unfold zup
        by_cases hy : y = k
        · subst hy
          rw [if_neg (by omega), if_pos rfl, if_pos ⟨by omega, by omega⟩]
        · by_cases hz : k + 1 ≤ y ∧ y < N
          · rw [if_pos hz, if_pos ⟨by omega, by omega⟩]
          · rw [if_neg hz, if_neg hy, if_neg (by omega)]
theorem C_again {K : zK} {F : zF} {B : zB} (hK : 3002 ≤ K.1) (hK0 : 1 < K.2 0) (hK12 : 0 < K.2 12) (hT : F 12 0 0 = 0) (hW : F 12 0 2 = 1) (h0 : 0 ≤ F 0 1 1) (h1 : F 0 1 1 ≤ 20480) :
    ((F 0 1 1 = 0 ∨ 3000 < F 0 1 1) → f_S_again K 0 F B = some (-1, F, B)) ∧
    (0 < F 0 1 1 → F 0 1 1 ≤ 3000 → ∃ F' B', f_S_again K 0 F B = some (F 0 1 1, F', B') ∧ F' 0 0 1 = F 0 1 1 ∧ F' 0 0 2 = 0 ∧ (∀ c i x, ¬ (c = 0 ∧ i = 0 ∧ (x = 1 ∨ x = 2)) → F' c i x = F c i x) ∧ (∀ c i x, ¬ (c = 0 ∧ i = 0 ∧ x = 0) → B' c i x = B c i x) ∧ ∀ y, B' 0 0 0 y = if 0 ≤ y ∧ y < F 0 1 1 then zand (B 0 1 0 y) 255 else B 0 0 0 y) := by
  constructor
  · intro h
    unfold f_S_again f_S_again_23
    rw [if_pos ⟨by decide, hK12⟩, hW, if_pos ⟨by decide, hK0⟩, if_pos (show r32 (F 0 1 1) from ⟨by omega, by omega⟩)]
    by_cases a : F 0 1 1 = 0
    · rw [if_pos a]
    · rw [if_neg a, if_neg (by omega)]
  · intro a b
    have hc : f_ByteRow_clear K 0 F B = some (0, zup3 (zup3 F 0 0 1 0) 0 0 2 0, B) := by
      unfold f_ByteRow_clear
      rw [if_pos ⟨by decide, by omega⟩]
    obtain ⟨F', B', a1, a2, a3, a4, a5⟩ := C_again_loop (K := K) (N := F 0 1 1) hK0 hK12 b (n := K.1) (k := 0) (F := zup3 (zup3 F 0 0 1 0) 0 0 2 0) (B := B) (by omega) (by omega) (by simp [zup3, hT]) (by simp [zup3, hW]) (by simp [zup3]) (by simp [zup3]) (by omega)
    refine ⟨F', B', ?_, a2, ?_, fun c i x hq => ?_, a4, a5⟩
    · unfold f_S_again
      rw [if_pos ⟨by decide, hK12⟩, hW, if_pos ⟨by decide, hK0⟩, if_pos (show r32 (F 0 1 1) from ⟨by omega, by omega⟩), if_neg (by omega), if_pos b, hT, if_pos ⟨by decide, by omega⟩, zbind_some hc]
      exact a1
    · rw [a3 0 0 2 (by decide)]
      simp [zup3]
    · rw [a3 c i x (fun q => hq ⟨q.1, q.2.1, Or.inl q.2.2⟩)]
      have n1 : ¬ (c = 0 ∧ i = 0 ∧ x = 1) := fun q => hq ⟨q.1, q.2.1, Or.inl q.2.2⟩
      have n2 : ¬ (c = 0 ∧ i = 0 ∧ x = 2) := fun q => hq ⟨q.1, q.2.1, Or.inr q.2.2⟩
      unfold zup3
      rw [if_neg n2, if_neg n1]
end
section
/-! ===== calls that only read: they return, and nothing changes ===== -/
def zR (x : zO) (F : zF) (B : zB) : Prop := ∃ r, x = some (r, F, B)
theorem zR_s {r : Int} {F : zF} {B : zB} : zR (some (r, F, B)) F B := ⟨r, rfl⟩
theorem zR_g {p : Prop} {d : Decidable p} {x : zO} {F : zF} {B : zB} (h : p) (k : zR x F B) : zR (@ite _ p d x none) F B := by
  rw [if_pos h]; exact k
theorem zR_i {p : Prop} {d : Decidable p} {x y : zO} {F : zF} {B : zB} (h1 : p → zR x F B) (h2 : ¬ p → zR y F B) : zR (@ite _ p d x y) F B := by
  by_cases h : p
  · rw [if_pos h]; exact h1 h
  · rw [if_neg h]; exact h2 h
/-- bounds of the reference's pieces -/
def IP (F : zF) (B : zB) : Prop := (∀ i k, (zk 13 k).1 = 0 → r32 (F 13 i k)) ∧ (∀ i k j, zk 13 k = (3, 0) → r32 (B 13 i k j)) ∧ (∀ i, 0 ≤ F 13 i 1 ∧ F 13 i 1 ≤ 4 ∧ 0 ≤ F 13 i 48 ∧ F 13 i 48 ≤ 100 ∧ 0 ≤ F 13 i 60 ∧ F 13 i 60 ≤ 4000) ∧ (∀ i v, 0 ≤ B 13 i 12 v ∧ B 13 i 12 v ≤ 1000 ∧ 0 ≤ B 13 i 13 v ∧ B 13 i 13 v ≤ 800) ∧ (∀ i e, 0 ≤ B 13 i 21 e ∧ B 13 i 21 e ≤ 6) ∧ ∀ h, 0 ≤ h → h < 2 → 0 ≤ B 14 0 5 h ∧ B 14 0 5 h < 3
/-! calls -/
theorem L_piece {K : Nat} {l : Int} {F : zF} {B : zB} (hI : IP F B) (hl : r32 l) : ∃ r, f_M_piece K l F B = some (r, F, B) ∧ (r = -1 ∨ 0 ≤ r ∧ r < 3) := by
  obtain ⟨i1, i2, i3, i4, i5, i6⟩ := hI
  unfold f_M_piece f_M_piece_30 f_M_piece_31
  rw [if_pos hl]
  by_cases a : l < 0
  · rw [if_pos a]
    exact ⟨-1, rfl, Or.inl rfl⟩
  · rw [if_neg a]
    by_cases b : 2 ≤ l
    · rw [if_pos b]
      exact ⟨-1, rfl, Or.inl rfl⟩
    · have h := i6 l (by omega) (by omega)
      rw [if_neg b, if_pos ⟨by omega, by omega⟩, if_pos h, if_pos (i1 _ 0 rfl)]
      by_cases d : F 13 (B 14 0 5 l) 0 = 0
      · rw [if_pos d]
        exact ⟨-1, rfl, Or.inl rfl⟩
      · rw [if_neg d]
        exact ⟨_, rfl, Or.inr h⟩
theorem L_isVoice {K : Nat} {p v : Int} {F : zF} {B : zB} (hI : IP F B) (hp : p = -1 ∨ 0 ≤ p ∧ p < 3) (hv : r32 v) : ∃ r, f_M_isVoice K p v F B = some (r, F, B) ∧ (r = 0 ∨ r = 1 ∧ 0 ≤ p ∧ p < 3 ∧ 0 ≤ v ∧ v < 4) := by
  obtain ⟨i1, i2, i3, i4, i5, i6⟩ := hI
  unfold f_M_isVoice f_M_isVoice_20 f_M_isVoice_21
  by_cases a : p < 0
  · rw [if_pos a, if_pos (by decide)]
    exact ⟨0, rfl, Or.inl rfl⟩
  · rw [if_neg a, if_pos hv]
    by_cases b : v < 0
    · rw [if_pos b, if_pos (by decide)]
      exact ⟨0, rfl, Or.inl rfl⟩
    · have h := i3 p
      rw [if_neg b, if_pos ⟨by omega, by omega⟩, if_pos (i1 _ 1 rfl)]
      by_cases d : F 13 p 1 ≤ v
      · rw [if_pos d, if_pos (by decide)]
        exact ⟨0, rfl, Or.inl rfl⟩
      · rw [if_neg d, if_pos (by decide)]
        exact ⟨1, rfl, Or.inr ⟨rfl, by omega, by omega, by omega, by omega⟩⟩
theorem L_voice {K : Nat} {l1 l2 l3 : Int} {F : zF} {B : zB} (hI : IP F B) (hl1 : r32 l1) (hl2 : r32 l2) (hl3 : r32 l3) : zR (f_M_voice K l1 l2 l3 F B) F B := by
  obtain ⟨r1, e1, h1⟩ := L_piece (K := K) hI hl1
  obtain ⟨r2, e2, h2⟩ := L_isVoice (K := K) hI h1 hl2
  obtain ⟨i1, i2, i3, i4, i5, i6⟩ := hI
  have f3 := i3 r1
  unfold f_M_voice f_M_voice_72
  rw [zbind_some e1, zbind_some e2]
  have hr2 : r32 r2 := ⟨by omega, by omega⟩
  refine zR_g hr2 ?_
  unfold r32 at hl1
  unfold r32 at hl2
  unfold r32 at hl3
  have f4 := i4 r1 l2
  repeat' first
    | exact zR_s
    | exact absurd rfl ‹_›
    | refine zR_g (by omega) ?_
    | refine zR_g ⟨by omega, by omega⟩ ?_
    | refine zR_g (i1 _ _ rfl) ?_
    | refine zR_g (i2 _ _ _ rfl) ?_
    | refine zR_i (fun _ => ?_) (fun _ => ?_)
theorem L_name {K : Nat} {l1 l2 : Int} {F : zF} {B : zB} (hI : IP F B) (hl1 : r32 l1) (hl2 : r32 l2) : zR (f_M_name K l1 l2 F B) F B := by
  obtain ⟨r1, e1, h1⟩ := L_piece (K := K) hI hl1
  obtain ⟨r2, e2, h2⟩ := L_isVoice (K := K) hI h1 hl2
  obtain ⟨i1, i2, i3, i4, i5, i6⟩ := hI
  have f3 := i3 r1
  unfold f_M_name f_M_name_24
  rw [zbind_some e1, zbind_some e2]
  have hr2 : r32 r2 := ⟨by omega, by omega⟩
  refine zR_g hr2 ?_
  unfold r32 at hl1
  unfold r32 at hl2
  repeat' first
    | exact zR_s
    | exact absurd rfl ‹_›
    | refine zR_g (by omega) ?_
    | refine zR_g ⟨by omega, by omega⟩ ?_
    | refine zR_g (i1 _ _ rfl) ?_
    | refine zR_g (i2 _ _ _ rfl) ?_
    | refine zR_i (fun _ => ?_) (fun _ => ?_)
theorem L_event_1 {K : Nat} {l1 l2 l3 l4 : Int} {F : zF} {B : zB} (hI : IP F B) (hl1 : r32 l1) (hl2 : r32 l2) (hl3 : r32 l3) (hl4 : r32 l4) : zR (f_M_event_1 K l1 l2 l3 l4 F B) F B := by
  obtain ⟨r1, e1, h1⟩ := L_piece (K := K) hI hl1
  obtain ⟨r2, e2, h2⟩ := L_isVoice (K := K) hI h1 hl2
  obtain ⟨i1, i2, i3, i4, i5, i6⟩ := hI
  have f3 := i3 r1
  unfold f_M_event_1 f_M_event_1_31
  rw [zbind_some e1, zbind_some e2]
  have hr2 : r32 r2 := ⟨by omega, by omega⟩
  refine zR_g hr2 ?_
  unfold r32 at hl1
  unfold r32 at hl2
  unfold r32 at hl3
  unfold r32 at hl4
  have f4 := i4 r1 l2
  repeat' first
    | exact zR_s
    | exact absurd rfl ‹_›
    | refine zR_g (by omega) ?_
    | refine zR_g ⟨by omega, by omega⟩ ?_
    | refine zR_g (i1 _ _ rfl) ?_
    | refine zR_g (i2 _ _ _ rfl) ?_
    | refine zR_i (fun _ => ?_) (fun _ => ?_)
theorem L_note_0 {K : Nat} {l1 l2 l3 l4 : Int} {F : zF} {B : zB} (hI : IP F B) (hl1 : r32 l1) (hl2 : r32 l2) (hl3 : r32 l3) (hl4 : r32 l4) : zR (f_M_note_0 K l1 l2 l3 l4 F B) F B := by
  obtain ⟨r1, e1, h1⟩ := L_piece (K := K) hI hl1
  obtain ⟨r2, e2, h2⟩ := L_isVoice (K := K) hI h1 hl2
  obtain ⟨i1, i2, i3, i4, i5, i6⟩ := hI
  have f3 := i3 r1
  unfold f_M_note_0 f_M_note_0_31
  rw [zbind_some e1, zbind_some e2]
  have hr2 : r32 r2 := ⟨by omega, by omega⟩
  refine zR_g hr2 ?_
  unfold r32 at hl1
  unfold r32 at hl2
  unfold r32 at hl3
  unfold r32 at hl4
  have f4 := i4 r1 l2
  repeat' first
    | exact zR_s
    | exact absurd rfl ‹_›
    | refine zR_g (by omega) ?_
    | refine zR_g ⟨by omega, by omega⟩ ?_
    | refine zR_g (i1 _ _ rfl) ?_
    | refine zR_g (i2 _ _ _ rfl) ?_
    | refine zR_i (fun _ => ?_) (fun _ => ?_)
theorem L_stroke {K : Nat} {l1 l2 l3 : Int} {F : zF} {B : zB} (hI : IP F B) (hl1 : r32 l1) (hl2 : r32 l2) (hl3 : r32 l3) : zR (f_M_stroke K l1 l2 l3 F B) F B := by
  obtain ⟨r1, e1, h1⟩ := L_piece (K := K) hI hl1
  obtain ⟨i1, i2, i3, i4, i5, i6⟩ := hI
  have f3 := i3 r1
  unfold f_M_stroke f_M_stroke_89 f_M_stroke_33
  rw [zbind_some e1]
  unfold r32 at hl1
  unfold r32 at hl2
  unfold r32 at hl3
  repeat' first
    | exact zR_s
    | exact absurd rfl ‹_›
    | refine zR_g (by omega) ?_
    | refine zR_g ⟨by omega, by omega⟩ ?_
    | refine zR_g (i1 _ _ rfl) ?_
    | refine zR_g (i2 _ _ _ rfl) ?_
    | refine zR_i (fun _ => ?_) (fun _ => ?_)
/-- bounds of the file that lies open -/
def IO (F : zF) (B : zB) : Prop := r32 (F 14 0 72) ∧ (∀ k j, zk 14 k = (3, 0) → r32 (B 14 0 k j)) ∧ 0 ≤ B 14 0 73 7 ∧ B 14 0 73 7 ≤ 400 ∧ (∀ j, r32 (B 14 0 79 j)) ∧ (∀ j, r32 (B 14 0 80 j))
theorem L_track {K : Nat} {l1 : Int} {F : zF} {B : zB} (hI : IO F B) (hl1 : r32 l1) : zR (f_M_track K l1 F B) F B := by
  obtain ⟨j1, j2, j3, j4, j5, j6⟩ := hI
  have i1 : True := trivial
  unfold f_M_track f_M_track_26 f_M_track_29
  have gl1 := hl1
  unfold r32 at gl1
  repeat' first
    | exact zR_s
    | exact absurd rfl ‹_›
    | refine zR_g (by omega) ?_
    | refine zR_g ⟨by omega, by omega⟩ ?_
    | refine zR_g j1 ?_
    | refine zR_g (j2 _ _ rfl) ?_
    | refine zR_g (j5 _) ?_
    | refine zR_g (j6 _) ?_
    | refine zR_i (fun _ => ?_) (fun _ => ?_)
theorem L_sound_0 {K : Nat} {l1 l2 : Int} {F : zF} {B : zB} (hI : IO F B) (hl1 : r32 l1) (hl2 : r32 l2) : zR (f_M_sound_0 K l1 l2 F B) F B := by
  obtain ⟨j1, j2, j3, j4, j5, j6⟩ := hI
  have i1 : True := trivial
  unfold f_M_sound_0 f_M_sound_0_106 f_M_sound_0_22
  have gl1 := hl1
  unfold r32 at gl1
  have gl2 := hl2
  unfold r32 at gl2
  repeat' first
    | exact zR_s
    | exact absurd rfl ‹_›
    | refine zR_g (by omega) ?_
    | refine zR_g ⟨by omega, by omega⟩ ?_
    | refine zR_g j1 ?_
    | refine zR_g (j2 _ _ rfl) ?_
    | refine zR_g (j5 _) ?_
    | refine zR_g (j6 _) ?_
    | refine zR_i (fun _ => ?_) (fun _ => ?_)
end
section
/-! ===== calls of the class that only read: they return, and nothing changes ===== -/
/-- bounds of the class's pieces and files -/
def IQ (K : zK) (F : zF) (B : zB) : Prop := 0 < K.2 12 ∧ (∀ h, 0 ≤ h → h < 2 → B 12 0 3 h < K.2 6) ∧ (∀ p, 0 ≤ F 6 p 1 ∧ F 6 p 1 ≤ 4) ∧ (∀ p v, 0 ≤ p → p < K.2 6 → 0 ≤ v → v < F 6 p 1 → 0 ≤ B 6 p 0 v ∧ B 6 p 0 v < K.2 4) ∧ F 12 0 8 < K.2 8 ∧ (∀ s, 0 ≤ F 8 s 2 ∧ F 8 s 2 ≤ 400) ∧ (∀ q, 0 ≤ F 4 q 6 ∧ F 4 q 6 ≤ 200 ∧ 0 ≤ F 4 q 10 ∧ F 4 q 10 ≤ 800) ∧ ∀ q e, 0 ≤ q → q < K.2 4 → 0 ≤ e → e < 200 → 0 ≤ B 4 q 5 e ∧ B 4 q 5 e < K.2 1
theorem C_pieceAt {K : zK} {l : Int} {F : zF} {B : zB} (hI : IQ K F B) (hl : r32 l) : ∃ r, f_S_pieceAt K 0 l F B = some (r, F, B) ∧ r < K.2 6 + (if r < 0 then 1 - K.2 6 else 0) ∧ (r < 0 ∨ 0 ≤ r ∧ r < K.2 6) := by
  obtain ⟨q1, q2, q3, q4, q5, q6, q7, q8⟩ := hI
  unfold f_S_pieceAt f_S_pieceAt_9 f_S_pieceAt_19
  rw [if_pos hl]
  by_cases a : l < 0
  · rw [if_pos a]
    exact ⟨-1, rfl, by rw [if_pos (by decide)]; omega, Or.inl (by decide)⟩
  · rw [if_neg a]
    by_cases b : l < 2
    · have h := q2 l (by omega) b
      rw [if_pos b, if_pos ⟨by decide, q1⟩, if_pos ⟨by omega, b⟩]
      refine ⟨_, rfl, ?_, ?_⟩
      · by_cases d : B 12 0 3 l < 0
        · rw [if_pos d]; omega
        · rw [if_neg d]; omega
      · omega
    · rw [if_neg b]
      exact ⟨-1, rfl, by rw [if_pos (by decide)]; omega, Or.inl (by decide)⟩
theorem C_partAt {K : zK} {l v : Int} {F : zF} {B : zB} (hI : IQ K F B) (hl : r32 l) (hv : r32 v) : ∃ r, f_S_partAt K 0 l v F B = some (r, F, B) ∧ (r < 0 ∨ 0 ≤ r ∧ r < K.2 4) := by
  obtain ⟨r, e, -, h⟩ := C_pieceAt hI hl
  obtain ⟨q1, q2, q3, q4, q5, q6, q7, q8⟩ := hI
  have h3 := q3 r
  unfold f_S_partAt f_S_partAt_22 f_S_partAt_32
  rw [if_pos ⟨by decide, q1⟩, zbind_some e]
  by_cases a : r < 0
  · rw [if_pos a]
    exact ⟨-1, rfl, Or.inl (by decide)⟩
  · rw [if_neg a, if_pos hv]
    by_cases b : v < 0
    · rw [if_pos b]
      exact ⟨-1, rfl, Or.inl (by decide)⟩
    · rw [if_neg b, if_pos ⟨by omega, by omega⟩, if_pos (show r32 (F 6 r 1) from ⟨by omega, by omega⟩)]
      by_cases d : v < F 6 r 1
      · rw [if_pos d, if_pos ⟨by omega, by omega⟩]
        exact ⟨_, rfl, Or.inr (q4 r v (by omega) (by omega) (by omega) d)⟩
      · rw [if_neg d]
        exact ⟨-1, rfl, Or.inl (by decide)⟩
theorem C_track {K : zK} {l1 : Int} {F : zF} {B : zB} (hI : IQ K F B) (hl1 : r32 l1) : zR (f_S_track K 0 l1 F B) F B := by
  obtain ⟨q1, q2, q3, q4, q5, q6, q7, q8⟩ := hI
  unfold f_S_track f_S_track_17 f_S_track_45
  refine zR_g ⟨by decide, q1⟩ ?_
  unfold r32 at hl1
  repeat' first
    | exact zR_s
    | refine zR_g ⟨by decide, q1⟩ ?_
    | refine zR_g (by omega) ?_
    | refine zR_g ⟨by omega, by omega⟩ ?_
    | refine zR_i (fun _ => ?_) (fun _ => ?_)
theorem C_sound {K : zK} {l1 l2 : Int} {F : zF} {B : zB} (hI : IQ K F B) (hl1 : r32 l1) (hl2 : r32 l2) : zR (f_S_sound K 0 l1 l2 F B) F B := by
  obtain ⟨q1, q2, q3, q4, q5, q6, q7, q8⟩ := hI
  unfold f_S_sound f_S_sound_32
  refine zR_g ⟨by decide, q1⟩ ?_
  unfold r32 at hl1
  unfold r32 at hl2
  have s6 := q6 (F 12 0 8)
  repeat' first
    | exact zR_s
    | refine zR_g ⟨by decide, q1⟩ ?_
    | refine zR_g (by omega) ?_
    | refine zR_g ⟨by omega, by omega⟩ ?_
    | refine zR_i (fun _ => ?_) (fun _ => ?_)
theorem C_voice {K : zK} {l1 l2 l3 : Int} {F : zF} {B : zB} (hI : IQ K F B) (hl1 : r32 l1) (hl2 : r32 l2) (hl3 : r32 l3) : zR (f_S_voice K 0 l1 l2 l3 F B) F B := by
  obtain ⟨r2, e2, h2⟩ := C_partAt hI hl1 hl2
  obtain ⟨q1, q2, q3, q4, q5, q6, q7, q8⟩ := hI
  unfold f_S_voice
  refine zR_g ⟨by decide, q1⟩ ?_
  rw [zbind_some e2]
  unfold r32 at hl1
  unfold r32 at hl2
  unfold r32 at hl3
  repeat' first
    | exact zR_s
    | refine zR_g ⟨by decide, q1⟩ ?_
    | refine zR_g (by omega) ?_
    | refine zR_g ⟨by omega, by omega⟩ ?_
    | refine zR_i (fun _ => ?_) (fun _ => ?_)
theorem C_name {K : zK} {l1 l2 : Int} {F : zF} {B : zB} (hI : IQ K F B) (hl1 : r32 l1) (hl2 : r32 l2) : zR (f_S_name K 0 l1 l2 F B) F B := by
  obtain ⟨r2, e2, h2⟩ := C_partAt hI hl1 hl2
  obtain ⟨q1, q2, q3, q4, q5, q6, q7, q8⟩ := hI
  unfold f_S_name f_S_name_19
  refine zR_g ⟨by decide, q1⟩ ?_
  rw [zbind_some e2]
  unfold r32 at hl1
  unfold r32 at hl2
  repeat' first
    | exact zR_s
    | refine zR_g ⟨by decide, q1⟩ ?_
    | refine zR_g (by omega) ?_
    | refine zR_g ⟨by omega, by omega⟩ ?_
    | refine zR_i (fun _ => ?_) (fun _ => ?_)
end
section
/-! ===== kinds of bytes, on both sides ===== -/
def bLet (b : Int) : Int := if 97 ≤ b ∧ b ≤ 122 then 1 else 0
def bDig (b : Int) : Int := if 48 ≤ b ∧ b ≤ 57 then 1 else 0
def bRun (b : Int) : Int := if (97 ≤ b ∧ b ≤ 122) ∨ (48 ≤ b ∧ b ≤ 57) ∨ b = 35 then 1 else 0
def bBlank (b : Int) : Int := if b = 9 ∨ b = 10 ∨ b = 13 ∨ b = 32 then 1 else 0
theorem bLet_r (b : Int) : r32 (bLet b) := by unfold bLet; split <;> exact ⟨by decide, by decide⟩
theorem bDig_r (b : Int) : r32 (bDig b) := by unfold bDig; split <;> exact ⟨by decide, by decide⟩
theorem bRun_r (b : Int) : r32 (bRun b) := by unfold bRun; split <;> exact ⟨by decide, by decide⟩
theorem bBlank_r (b : Int) : r32 (bBlank b) := by unfold bBlank; split <;> exact ⟨by decide, by decide⟩
theorem bLet_0 (b : Int) : bLet b = 0 ↔ ¬ (97 ≤ b ∧ b ≤ 122) := by unfold bLet; split <;> simp_all
theorem bDig_0 (b : Int) : bDig b = 0 ↔ ¬ (48 ≤ b ∧ b ≤ 57) := by unfold bDig; split <;> simp_all
theorem bRun_0 (b : Int) : bRun b = 0 ↔ ¬ ((97 ≤ b ∧ b ≤ 122) ∨ (48 ≤ b ∧ b ≤ 57) ∨ b = 35) := by unfold bRun; split <;> simp_all
theorem bBlank_0 (b : Int) : bBlank b = 0 ↔ ¬ (b = 9 ∨ b = 10 ∨ b = 13 ∨ b = 32) := by unfold bBlank; split <;> simp_all
theorem L_Let {K : Nat} {b : Int} {F : zF} {B : zB} (h : r32 b) : f_M_isLetter K b F B = some (bLet b, F, B) := by
  unfold f_M_isLetter f_M_isLetter_16 f_M_isLetter_17 bLet
  rw [if_pos h]
  by_cases a : b < 97
  · rw [if_pos a, if_pos (by decide), if_neg (by omega)]
  · rw [if_neg a]
    by_cases d : 122 < b
    · rw [if_pos d, if_pos (by decide), if_neg (by omega)]
    · rw [if_neg d, if_pos (by decide), if_pos (by omega)]
theorem L_Dig {K : Nat} {b : Int} {F : zF} {B : zB} (h : r32 b) : f_M_isDigit K b F B = some (bDig b, F, B) := by
  unfold f_M_isDigit f_M_isDigit_16 f_M_isDigit_17 bDig
  rw [if_pos h]
  by_cases a : b < 48
  · rw [if_pos a, if_pos (by decide), if_neg (by omega)]
  · rw [if_neg a]
    by_cases d : 57 < b
    · rw [if_pos d, if_pos (by decide), if_neg (by omega)]
    · rw [if_neg d, if_pos (by decide), if_pos (by omega)]
theorem L_Run {K : Nat} {b : Int} {F : zF} {B : zB} (h : r32 b) : f_M_isRun K b F B = some (bRun b, F, B) := by
  unfold f_M_isRun f_M_isRun_20 f_M_isRun_25
  rw [zbind_some (L_Let h), if_pos (bLet_r b)]
  by_cases a : bLet b = 0
  · rw [if_pos a, zbind_some (L_Dig h), if_pos (bDig_r b)]
    rw [bLet_0] at a
    by_cases d : bDig b = 0
    · rw [if_pos d, if_pos h]
      rw [bDig_0] at d
      unfold bRun
      by_cases e : b = 35
      · rw [if_pos e, if_pos (by decide), if_pos (by omega)]
      · rw [if_neg e, if_pos (by decide), if_neg (by omega)]
    · rw [if_neg d, if_pos (by decide)]
      rw [bDig_0] at d
      unfold bRun
      rw [if_pos (by omega)]
  · rw [if_neg a, if_pos (by decide)]
    rw [bLet_0] at a
    unfold bRun
    rw [if_pos (by omega)]
theorem C_Let {K : zK} {b : Int} {F : zF} {B : zB} (h : r32 b) : f_Tokens_isLetter K b F B = some (bLet b, F, B) := by
  unfold f_Tokens_isLetter f_Tokens_isLetter_16 f_Tokens_isLetter_17 bLet
  rw [if_pos h]
  by_cases a : b < 97
  · rw [if_pos a, if_pos (by decide), if_neg (by omega)]
  · rw [if_neg a]
    by_cases d : 122 < b
    · rw [if_pos d, if_pos (by decide), if_neg (by omega)]
    · rw [if_neg d, if_pos (by decide), if_pos (by omega)]
theorem C_Dig {K : zK} {b : Int} {F : zF} {B : zB} (h : r32 b) : f_Tokens_isDigit K b F B = some (bDig b, F, B) := by
  unfold f_Tokens_isDigit f_Tokens_isDigit_16 f_Tokens_isDigit_17 bDig
  rw [if_pos h]
  by_cases a : b < 48
  · rw [if_pos a, if_pos (by decide), if_neg (by omega)]
  · rw [if_neg a]
    by_cases d : 57 < b
    · rw [if_pos d, if_pos (by decide), if_neg (by omega)]
    · rw [if_neg d, if_pos (by decide), if_pos (by omega)]
theorem C_Run {K : zK} {b : Int} {F : zF} {B : zB} (h : r32 b) : f_Tokens_isRunByte K b F B = some (bRun b, F, B) := by
  unfold f_Tokens_isRunByte f_Tokens_isRunByte_20 f_Tokens_isRunByte_25
  rw [zbind_some (C_Let h), if_pos (bLet_r b)]
  by_cases a : bLet b = 0
  · rw [if_pos a, zbind_some (C_Dig h), if_pos (bDig_r b)]
    rw [bLet_0] at a
    by_cases d : bDig b = 0
    · rw [if_pos d, if_pos h]
      rw [bDig_0] at d
      unfold bRun
      by_cases e : b = 35
      · rw [if_pos e, if_pos (by decide), if_pos (by omega)]
      · rw [if_neg e, if_pos (by decide), if_neg (by omega)]
    · rw [if_neg d, if_pos (by decide)]
      rw [bDig_0] at d
      unfold bRun
      rw [if_pos (by omega)]
  · rw [if_neg a, if_pos (by decide)]
    rw [bLet_0] at a
    unfold bRun
    rw [if_pos (by omega)]
theorem C_Blank {K : zK} {b : Int} {F : zF} {B : zB} (h : r32 b) : f_Tokens_isBlank K b F B = some (bBlank b, F, B) := by
  unfold f_Tokens_isBlank f_Tokens_isBlank_24 f_Tokens_isBlank_29 bBlank
  rw [if_pos h]
  by_cases a : b = 9
  · rw [if_pos a, if_pos (by decide), if_pos (by omega)]
  · rw [if_neg a]
    by_cases d : b = 10
    · rw [if_pos d, if_pos (by decide), if_pos (by omega)]
    · rw [if_neg d]
      by_cases e : b = 13
      · rw [if_pos e, if_pos (by decide), if_pos (by omega)]
      · rw [if_neg e]
        by_cases g : b = 32
        · rw [if_pos g, if_pos (by decide), if_pos (by omega)]
        · rw [if_neg g, if_pos (by decide), if_neg (by omega)]
theorem L_byteAt {K : Nat} {p : Int} {F : zF} {B : zB} (h0 : 0 ≤ p) (h1 : p < 3000) : f_M_byteAt K p F B = some (B 14 0 2 p % 256, F, B) := by
  unfold f_M_byteAt
  rw [if_pos ⟨h0, h1⟩, zand255]
theorem C_at0 {K : zK} {l : Int} {F : zF} {B : zB} (hK0 : 0 < K.2 0) (h0 : 0 ≤ l) (h1 : l < F 0 0 1) (h2 : F 0 0 1 ≤ 3000) : f_ByteRow_at K 0 l F B = some (B 0 0 0 l, F, B) := by
  have e : (lnC 0 0 0 : Int) = 3000 := rfl
  unfold f_ByteRow_at f_ByteRow_at_22
  rw [if_pos (show r32 l from ⟨by omega, by omega⟩), if_neg (by omega), if_pos ⟨by decide, hK0⟩, if_pos (show r32 (F 0 0 1) from ⟨by omega, by omega⟩), if_pos h1, e, if_pos ⟨h0, by omega⟩]
/-- where the run that begins at p ends -/
def runE (t : Int → Int) (n : Int) : Nat → Int → Int
  | 0, p => p
  | f + 1, p => if n ≤ p then p else if bRun (t p) = 0 then p else runE t n f (p + 1)
theorem runE_le {t : Int → Int} {n : Int} : ∀ {f : Nat} {p : Int}, p ≤ n → p ≤ runE t n f p ∧ runE t n f p ≤ n := by
  intro f
  induction f with
  | zero => intro p h; exact ⟨Int.le_refl _, h⟩
  | succ f ih =>
    intro p h
    unfold runE
    by_cases a : n ≤ p
    · rw [if_pos a]; omega
    · rw [if_neg a]
      by_cases b : bRun (t p) = 0
      · rw [if_pos b]; omega
      · rw [if_neg b]
        have := ih (p := p + 1) (by omega)
        omega
theorem C_runEnd {K : zK} {F : zF} {B : zB} (hK0 : 0 < K.2 0) (h2 : F 0 0 1 ≤ 3000) (hb : ∀ y, 0 ≤ B 0 0 0 y ∧ B 0 0 0 y < 256) : ∀ {n : Nat} {p : Int}, 0 ≤ p → p ≤ F 0 0 1 → F 0 0 1 - p < n → f_Tokens_runEnd_2 K n p 0 F B = some (runE (B 0 0 0) (F 0 0 1) n p, F, B) := by
  intro n
  induction n with
  | zero => intro p a b d; omega
  | succ n ih =>
    intro p a b d
    have hbp := hb p
    unfold f_Tokens_runEnd_2 f_Tokens_runEnd_27 runE
    rw [if_pos ⟨by decide, hK0⟩, if_pos (show r32 p from ⟨by omega, by omega⟩), if_pos (show r32 (F 0 0 1) from ⟨by omega, by omega⟩)]
    by_cases h : F 0 0 1 ≤ p
    · rw [if_pos h, if_pos h]
    · rw [if_neg h, if_neg h, zbind_some (C_at0 hK0 a (by omega) h2), zbind_some (C_Run ⟨by omega, by omega⟩), if_pos (bRun_r _)]
      by_cases e : bRun (B 0 0 0 p) = 0
      · rw [if_pos e, if_pos e]
      · rw [if_neg e, if_neg e]
        exact ih (by omega) (by omega) (by omega)
end
section
/-! ===== a run of bytes on the reference's side: its end, its letters and digits, its bytes in one number ===== -/
def runS (t : Int → Int) (n : Int) : Nat → Int → Int → Int → Int → Int × Int × Int × Int
  | 0, w, d, l, p => (w, d, l, p)
  | f + 1, w, d, l, p => if n ≤ p then (w, d, l, p) else if bRun (t p) = 0 then (w, d, l, p) else runS t n f (zlor (zlshl w 8) (t p)) (d + bDig (t p)) (l + bLet (t p)) (p + 1)
theorem bDig_1 {b : Int} (h : ¬ bDig b = 0) : bDig b = 1 := by unfold bDig at *; split <;> simp_all
theorem bLet_1 {b : Int} (h : ¬ bLet b = 0) : bLet b = 1 := by unfold bLet at *; split <;> simp_all
theorem L_run {K : Nat} {F : zF} {B : zB} {p0 : Int} (h0 : 0 ≤ F 14 0 3) (h1 : F 14 0 3 ≤ 3000) : ∀ {n : Nat} {w d l p : Int}, 0 ≤ p → p ≤ F 14 0 3 → F 14 0 3 - p < n → f_M_cutRun_10 K n w d l p p0 F B = f_M_cutRun_77 K (runS (fun y => B 14 0 2 y % 256) (F 14 0 3) n w d l p).1 (runS (fun y => B 14 0 2 y % 256) (F 14 0 3) n w d l p).2.1 (runS (fun y => B 14 0 2 y % 256) (F 14 0 3) n w d l p).2.2.1 (runS (fun y => B 14 0 2 y % 256) (F 14 0 3) n w d l p).2.2.2 p0 F B := by
  intro n
  induction n with
  | zero => intro w d l p a b e; omega
  | succ n ih =>
    intro w d l p a b e
    have hb : r32 (B 14 0 2 p % 256) := ⟨by omega, by omega⟩
    unfold f_M_cutRun_10
    rw [if_pos (show r32 p from ⟨by omega, by omega⟩), if_pos (show r32 (F 14 0 3) from ⟨by omega, by omega⟩)]
    by_cases h : F 14 0 3 ≤ p
    · have es : runS (fun y => B 14 0 2 y % 256) (F 14 0 3) (n + 1) w d l p = (w, d, l, p) := by
        unfold runS
        rw [if_pos h]
      rw [if_pos h, es]
    · rw [if_neg h, zbind_some (L_byteAt a (by omega)), zbind_some (L_Run hb), if_pos (bRun_r _)]
      by_cases g : bRun (B 14 0 2 p % 256) = 0
      · have es : runS (fun y => B 14 0 2 y % 256) (F 14 0 3) (n + 1) w d l p = (w, d, l, p) := by
          unfold runS
          rw [if_neg h]
          show (if bRun (B 14 0 2 p % 256) = 0 then _ else _) = _
          rw [if_pos g]
        rw [if_pos g, es]
      · have es : runS (fun y => B 14 0 2 y % 256) (F 14 0 3) (n + 1) w d l p = runS (fun y => B 14 0 2 y % 256) (F 14 0 3) n (zlor (zlshl w 8) (B 14 0 2 p % 256)) (d + bDig (B 14 0 2 p % 256)) (l + bLet (B 14 0 2 p % 256)) (p + 1) := by
          conv => lhs; unfold runS
          rw [if_neg h]
          show (if bRun (B 14 0 2 p % 256) = 0 then _ else _) = _
          rw [if_neg g]
        have nx := fun d' l' => ih (w := zlor (zlshl w 8) (B 14 0 2 p % 256)) (d := d') (l := l') (p := p + 1) (by omega) (by omega) (by omega)
        have s57 : ∀ d' l', f_M_cutRun_57 (f_M_cutRun_10 K n) K w d' l' p p0 F B = f_M_cutRun_10 K n (zlor (zlshl w 8) (B 14 0 2 p % 256)) d' l' (p + 1) p0 F B := by
          intro d' l'
          unfold f_M_cutRun_57
          rw [zbind_some (L_byteAt a (by omega)), if_pos hb]
        have s43 : ∀ l', f_M_cutRun_43 (f_M_cutRun_10 K n) K w d l' p p0 F B = f_M_cutRun_10 K n (zlor (zlshl w 8) (B 14 0 2 p % 256)) (d + bDig (B 14 0 2 p % 256)) l' (p + 1) p0 F B := by
          intro l'
          unfold f_M_cutRun_43
          rw [zbind_some (L_byteAt a (by omega)), zbind_some (L_Dig hb), if_pos (bDig_r _)]
          by_cases q : bDig (B 14 0 2 p % 256) = 0
          · rw [if_pos q, s57, q, Int.add_zero]
          · rw [if_neg q, s57, bDig_1 q]
        rw [if_neg g, zbind_some (L_byteAt a (by omega)), zbind_some (L_Let hb), if_pos (bLet_r _), es]
        by_cases q : bLet (B 14 0 2 p % 256) = 0
        · rw [if_pos q, s43, nx, q, Int.add_zero]
        · rw [if_neg q, s43, nx, bLet_1 q]
theorem runS_e {t : Int → Int} {n : Int} : ∀ {f : Nat} {w d l p : Int}, (runS t n f w d l p).2.2.2 = runE t n f p := by
  intro f
  induction f with
  | zero => intro w d l p; rfl
  | succ f ih =>
    intro w d l p
    unfold runS runE
    by_cases a : n ≤ p
    · rw [if_pos a, if_pos a]
    · rw [if_neg a, if_neg a]
      by_cases b : bRun (t p) = 0
      · rw [if_pos b, if_pos b]
      · rw [if_neg b, if_neg b]
        exact ih
end
section
/-! ===== the class's readings of a run ===== -/
def joinS (t : Int → Int) (fr base zero : Int) : Nat → Int → Int → Int → Int
  | 0, _, acc, _ => acc
  | f + 1, k, acc, size => if size ≤ k then acc else joinS t fr base zero f (k + 1) (acc * base + t (fr + k) - zero) size
theorem C_joined {K : zK} {F : zF} {B : zB} {fr base zero size : Int} (hK0 : 0 < K.2 0) (h2 : F 0 0 1 ≤ 3000) (hb : ∀ y, 0 ≤ B 0 0 0 y ∧ B 0 0 0 y < 256) (hr1 : r32 base) (hr2 : r32 zero) (hf : 0 ≤ fr) (hs : 0 ≤ size) (he : fr + size ≤ F 0 0 1) : ∀ {n : Nat} {k acc : Int}, 0 ≤ k → k ≤ size → size - k < n → f_Tokens_joined_6 K n k acc 0 fr size base zero F B = some (joinS (B 0 0 0) fr base zero n k acc size, F, B) := by
  intro n
  induction n with
  | zero => intro k acc a b d; omega
  | succ n ih =>
    intro k acc a b d
    have hbk := hb (fr + k)
    unfold f_Tokens_joined_6 joinS
    rw [if_pos (show r32 k from ⟨by omega, by omega⟩), if_pos (show r32 size from ⟨by omega, by omega⟩)]
    by_cases h : size ≤ k
    · rw [if_pos h, if_pos h]
    · rw [if_neg h, if_neg h, if_pos hr1, if_pos ⟨by decide, hK0⟩, zbind_some (C_at0 hK0 (by omega) (by omega) h2), if_pos (show r32 (B 0 0 0 (fr + k)) from ⟨by omega, by omega⟩), if_pos hr2]
      exact ih (by omega) (by omega) (by omega)
def pitL (t : Int → Int) (fr sign : Int) : Nat → Int → Int → Int
  | 0, _, _ => 0
  | f + 1, k, size => if size - 1 ≤ k then 1 else if t (fr + k) = sign ∧ (t (fr + k) = 35 ∨ t (fr + k) = 98) then pitL t fr sign f (k + 1) size else 0
theorem C_pitL {K : zK} {F : zF} {B : zB} {fr sign size : Int} (hK0 : 0 < K.2 0) (h2 : F 0 0 1 ≤ 3000) (hb : ∀ y, 0 ≤ B 0 0 0 y ∧ B 0 0 0 y < 256) (hr : r32 sign) (hf : 0 ≤ fr) (hs : 0 ≤ size) (he : fr + size ≤ F 0 0 1) : ∀ {n : Nat} {k : Int}, 0 ≤ k → size - k < n → k ≤ 3000 → 0 < n → f_Tokens_isPitch_67 K n k sign 0 fr size F B = some (pitL (B 0 0 0) fr sign n k size, F, B) := by
  intro n
  induction n with
  | zero =>
    intro k a d e p
    omega
  | succ n ih =>
    intro k a d e _
    have hbk := hb (fr + k)
    unfold f_Tokens_isPitch_67 f_Tokens_isPitch_106 f_Tokens_isPitch_108 pitL
    rw [if_pos (show r32 k from ⟨by omega, by omega⟩), if_pos (show r32 (size - 1) from ⟨by omega, by omega⟩)]
    by_cases h : size - 1 ≤ k
    · rw [if_pos h, if_pos h]
    · rw [if_neg h, if_neg h, if_pos ⟨by decide, hK0⟩, zbind_some (C_at0 hK0 (by omega) (by omega) h2), if_pos (show r32 (B 0 0 0 (fr + k)) from ⟨by omega, by omega⟩), if_pos hr]
      by_cases g : B 0 0 0 (fr + k) = sign
      · rw [if_pos g]
        by_cases q : B 0 0 0 (fr + k) = 35
        · rw [if_pos q, if_pos ⟨g, Or.inl q⟩]
          exact ih (by omega) (by omega) (by omega) (by omega)
        · rw [if_neg q]
          by_cases w : B 0 0 0 (fr + k) = 98
          · rw [if_pos w, if_pos ⟨g, Or.inr w⟩]
            exact ih (by omega) (by omega) (by omega) (by omega)
          · rw [if_neg w, if_neg (fun z => z.2.elim q w)]
      · rw [if_neg g, if_neg (fun z => g z.1)]
/-- is the run at fr a pitch -/
def pitS (t : Int → Int) (fr size : Int) : Int := if size < 2 ∨ 4 < size ∨ t fr < 97 ∨ 103 < t fr ∨ t (fr + size - 1) < 48 ∨ 56 < t (fr + size - 1) then 0 else pitL t fr (t (fr + 1)) 8 1 size
theorem pitL_f {t : Int → Int} {fr sign : Int} : ∀ {f g : Nat} {k size : Int}, size - k < f → size - k < g → 0 < f → 0 < g → pitL t fr sign f k size = pitL t fr sign g k size := by
  intro f
  induction f with
  | zero => intro g k size a b d e; omega
  | succ f ih =>
    intro g k size a b d e
    match g, e with
    | g + 1, _ =>
      unfold pitL
      by_cases h : size - 1 ≤ k
      · rw [if_pos h, if_pos h]
      · rw [if_neg h, if_neg h]
        by_cases q : t (fr + k) = sign ∧ (t (fr + k) = 35 ∨ t (fr + k) = 98)
        · rw [if_pos q, if_pos q]
          exact ih (by omega) (by omega) (by omega) (by omega)
        · rw [if_neg q, if_neg q]
theorem C_isPitch {K : zK} {F : zF} {B : zB} {fr size : Int} (hK : 22 ≤ K.1) (hK0 : 0 < K.2 0) (h2 : F 0 0 1 ≤ 3000) (hb : ∀ y, 0 ≤ B 0 0 0 y ∧ B 0 0 0 y < 256) (hf : 0 ≤ fr) (hs : 1 ≤ size) (he : fr + size ≤ F 0 0 1) : f_Tokens_isPitch K 0 fr size F B = some (pitS (B 0 0 0) fr size, F, B) := by
  have b1 := hb fr
  have b2 := hb (fr + size - 1)
  have b3 := hb (fr + 1)
  unfold f_Tokens_isPitch f_Tokens_isPitch_53 pitS
  rw [if_pos ⟨by decide, hK0⟩, zbind_some (C_at0 hK0 hf (by omega) h2), zbind_some (C_at0 hK0 (by omega) (by omega) h2), if_pos (show r32 size from ⟨by omega, by omega⟩)]
  by_cases a : size < 2
  · rw [if_pos a, if_pos (by omega)]
  · rw [if_neg a]
    by_cases b : 4 < size
    · rw [if_pos b, if_pos (by omega)]
    · rw [if_neg b, if_pos (show r32 (B 0 0 0 fr) from ⟨by omega, by omega⟩)]
      by_cases c : B 0 0 0 fr < 97
      · rw [if_pos c, if_pos (by omega)]
      · rw [if_neg c]
        by_cases d : 103 < B 0 0 0 fr
        · rw [if_pos d, if_pos (by omega)]
        · rw [if_neg d, if_pos (show r32 (B 0 0 0 (fr + size - 1)) from ⟨by omega, by omega⟩)]
          by_cases e : B 0 0 0 (fr + size - 1) < 48
          · rw [if_pos e, if_pos (by omega)]
          · rw [if_neg e]
            by_cases g : B 0 0 0 (fr + size - 1) ≤ 56
            · rw [if_pos g, zbind_some (C_at0 hK0 (by omega) (by omega) h2), if_neg (by omega), C_pitL hK0 h2 hb ⟨by omega, by omega⟩ hf (by omega) he (by omega) (by omega) (by omega) (by omega)]
              rw [pitL_f (f := K.1) (g := 8) (by omega) (by omega) (by omega) (by omega)]
            · rw [if_neg g, if_pos (by omega)]
end
section
/-! ===== runs: counts, numbers, words ===== -/
theorem runE_f {t : Int → Int} {n : Int} : ∀ {f g : Nat} {p : Int}, n - p < f → n - p < g → runE t n f p = runE t n g p := by
  intro f
  induction f with
  | zero =>
    intro g p a b
    match g with
    | 0 => rfl
    | g + 1 =>
      unfold runE
      rw [if_pos (by omega)]
  | succ f ih =>
    intro g p a b
    match g with
    | 0 =>
      unfold runE
      rw [if_pos (by omega)]
    | g + 1 =>
      unfold runE
      by_cases h : n ≤ p
      · rw [if_pos h, if_pos h]
      · rw [if_neg h, if_neg h]
        by_cases q : bRun (t p) = 0
        · rw [if_pos q, if_pos q]
        · rw [if_neg q, if_neg q]
          exact ih (by omega) (by omega)
/-- how many of the m bytes from p on -/
def cnt (g t : Int → Int) (p : Int) : Nat → Int
  | 0 => 0
  | m + 1 => cnt g t p m + g (t (p + m))
/-- the number that the m bytes from p on make -/
def nmv (t : Int → Int) (base zero p : Int) : Nat → Int
  | 0 => 0
  | m + 1 => nmv t base zero p m * base + t (p + m) - zero
def wrd (t : Int → Int) (p : Int) : Nat → Int
  | 0 => 0
  | m + 1 => zlor (zlshl (wrd t p m) 8) (t (p + m))
theorem runS_all {t : Int → Int} {n p0 : Int} : ∀ {f m : Nat}, runS t n f (wrd t p0 m) (cnt bDig t p0 m) (cnt bLet t p0 m) (p0 + m) = (wrd t p0 (runE t n f (p0 + m) - p0).toNat, cnt bDig t p0 (runE t n f (p0 + m) - p0).toNat, cnt bLet t p0 (runE t n f (p0 + m) - p0).toNat, runE t n f (p0 + m)) := by
  intro f
  induction f with
  | zero =>
    intro m
    unfold runS runE
    rw [show (p0 + (m : Int) - p0).toNat = m by omega]
  | succ f ih =>
    intro m
    unfold runS runE
    by_cases a : n ≤ p0 + m
    · rw [if_pos a, if_pos a, show (p0 + (m : Int) - p0).toNat = m by omega]
    · rw [if_neg a, if_neg a]
      by_cases b : bRun (t (p0 + m)) = 0
      · rw [if_pos b, if_pos b, show (p0 + (m : Int) - p0).toNat = m by omega]
      · rw [if_neg b, if_neg b]
        have h := ih (m := m + 1)
        rw [show p0 + ((m + 1 : Nat) : Int) = p0 + (m : Int) + 1 by omega] at h
        exact h
theorem joinS_e {t : Int → Int} {fr base zero size : Int} : ∀ {f m : Nat}, (m : Int) ≤ size → size - m < f → joinS t fr base zero f m (nmv t base zero fr m) size = nmv t base zero fr size.toNat := by
  intro f
  induction f with
  | zero => intro m a b; omega
  | succ f ih =>
    intro m a b
    unfold joinS
    by_cases h : size ≤ m
    · rw [if_pos h, show size.toNat = m by omega]
    · rw [if_neg h]
      have := ih (m := m + 1) (by omega) (by omega)
      rw [show ((m + 1 : Nat) : Int) = (m : Int) + 1 by omega] at this
      exact this
theorem cnt_le {g t : Int → Int} {p : Int} (hg : ∀ b, 0 ≤ g b ∧ g b ≤ 1) : ∀ {m : Nat}, 0 ≤ cnt g t p m ∧ cnt g t p m ≤ m := by
  intro m
  induction m with
  | zero => exact ⟨by unfold cnt; omega, by unfold cnt; omega⟩
  | succ m ih =>
    unfold cnt
    have := hg (t (p + m))
    omega
theorem cnt_all {g t : Int → Int} {p : Int} (hg : ∀ b, 0 ≤ g b ∧ g b ≤ 1) : ∀ {m : Nat}, cnt g t p m = m → ∀ {j : Nat}, j < m → g (t (p + j)) = 1 := by
  intro m
  induction m with
  | zero => intro _ j hj; omega
  | succ m ih =>
    intro h j hj
    unfold cnt at h
    have h1 := hg (t (p + m))
    have h2 := cnt_le (t := t) (p := p) hg (m := m)
    by_cases e : j = m
    · subst e; omega
    · exact ih (by omega) (by omega)
theorem bDig_b (b : Int) : 0 ≤ bDig b ∧ bDig b ≤ 1 := by unfold bDig; split <;> omega
theorem bLet_b (b : Int) : 0 ≤ bLet b ∧ bLet b ≤ 1 := by unfold bLet; split <;> omega
theorem bLet_is {b : Int} (h : bLet b = 1) : 97 ≤ b ∧ b ≤ 122 := by unfold bLet at h; split at h <;> omega
theorem bDig_is {b : Int} (h : bDig b = 1) : 48 ≤ b ∧ b ≤ 57 := by unfold bDig at h; split at h <;> omega
theorem bRun_b (b : Int) : bRun b = 0 ∨ bRun b = 1 := by unfold bRun; split <;> omega
theorem zlor8 {w b : Int} (h0 : 0 ≤ w) (h1 : w < 36028797018963968) (h2 : 0 ≤ b) (h3 : b < 256) : zlor (zlshl w 8) b = w * 256 + b := by
  obtain ⟨n, rfl⟩ := Int.eq_ofNat_of_zero_le h0
  obtain ⟨m, rfl⟩ := Int.eq_ofNat_of_zero_le h2
  have k1 : (BitVec.ofInt 64 (n : Int)).toNat = n := by
    rw [BitVec.toNat_ofInt]
    show ((n : Int) % 18446744073709551616).toNat = n
    omega
  have k2 : (BitVec.ofInt 64 (m : Int)).toNat = m := by
    rw [BitVec.toNat_ofInt]
    show ((m : Int) % 18446744073709551616).toNat = m
    omega
  have e0 : (BitVec.ofInt 64 (n : Int) <<< (8 : Nat)).toNat = n * 256 := by
    rw [BitVec.toNat_shiftLeft, k1, Nat.shiftLeft_eq]
    show n * 256 % 18446744073709551616 = n * 256
    omega
  have e1 : zlshl (n : Int) 8 = ((n * 256 : Nat) : Int) := by
    show (BitVec.ofInt 64 (n : Int) <<< (8 : Nat)).toInt = _
    rw [BitVec.toInt_eq_toNat_of_lt (by rw [e0]; omega), e0]
  have k3 : (BitVec.ofInt 64 ((n * 256 : Nat) : Int)).toNat = n * 256 := by
    rw [BitVec.toNat_ofInt]
    show (((n * 256 : Nat) : Int) % 18446744073709551616).toNat = n * 256
    omega
  have e2 : (BitVec.ofInt 64 ((n * 256 : Nat) : Int) ||| BitVec.ofInt 64 (m : Int)).toNat = n * 256 + m := by
    rw [BitVec.toNat_or, k3, k2]
    have := Nat.shiftLeft_add_eq_or_of_lt (a := n) (b := m) (i := 8) (by omega)
    rw [Nat.shiftLeft_eq] at this
    exact this.symm
  rw [e1]
  show (BitVec.ofInt 64 ((n * 256 : Nat) : Int) ||| BitVec.ofInt 64 (m : Int)).toInt = _
  rw [BitVec.toInt_eq_toNat_of_lt (by rw [e2]; omega), e2]
  omega
/-- a word of at most eight letters is the number that they make -/
theorem wrd_e {t : Int → Int} {p : Int} : ∀ {m : Nat}, m ≤ 8 → (∀ j : Nat, j < m → 97 ≤ t (p + j) ∧ t (p + j) ≤ 122) → wrd t p m = nmv t 256 0 p m ∧ 0 ≤ nmv t 256 0 p m ∧ (0 < m → 1 ≤ nmv t 256 0 p m) ∧ 2 * nmv t 256 0 p m < 256 ^ m ∧ (m ≤ 7 → nmv t 256 0 p m < 36028797018963968) ∧ nmv t 256 0 p m < 9223372036854775808 := by
  intro m
  induction m with
  | zero => intro _ _; unfold wrd nmv; exact ⟨rfl, by omega, by omega, by decide, fun _ => by omega, by omega⟩
  | succ m ih =>
    intro hm h
    obtain ⟨a, b, c, d, e, f⟩ := ih (by omega) (fun j hj => h j (by omega))
    have hb := h m (by omega)
    have e' := e (by omega)
    unfold wrd nmv
    rw [a, zlor8 b e' (by omega) (by omega)]
    have hp : (256 : Int) ^ (m + 1) = 256 ^ m * 256 := Int.pow_succ 256 m
    refine ⟨by omega, by omega, by omega, by rw [hp]; omega, fun h7 => ?_, ?_⟩
    · have : m = 0 ∨ m = 1 ∨ m = 2 ∨ m = 3 ∨ m = 4 ∨ m = 5 ∨ m = 6 := by omega
      rcases this with rfl | rfl | rfl | rfl | rfl | rfl | rfl <;> simp only [Int.reducePow] at d <;> omega
    · omega
end
section
/-! ===== a call returns, and Q holds of what it leaves ===== -/
def zW (x : zO) (Q : Int → zF → zB → Prop) : Prop := ∃ r F B, x = some (r, F, B) ∧ Q r F B
theorem zW_s {r : Int} {F : zF} {B : zB} {Q : Int → zF → zB → Prop} (h : Q r F B) : zW (some (r, F, B)) Q := ⟨r, F, B, rfl, h⟩
theorem zW_g {p : Prop} {d : Decidable p} {x : zO} {Q : Int → zF → zB → Prop} (h : p) (k : zW x Q) : zW (@ite _ p d x none) Q := by
  rw [if_pos h]; exact k
theorem zW_i {p : Prop} {d : Decidable p} {x y : zO} {Q : Int → zF → zB → Prop} (h1 : p → zW x Q) (h2 : ¬ p → zW y Q) : zW (@ite _ p d x y) Q := by
  by_cases h : p
  · rw [if_pos h]; exact h1 h
  · rw [if_neg h]; exact h2 h
theorem zW_e {x : zO} {k : Int → zF → zB → zO} {r : Int} {F : zF} {B : zB} {Q : Int → zF → zB → Prop} (h : x = some (r, F, B)) (hk : zW (k r F B) Q) : zW (zbind x k) Q := by
  rw [zbind_some h]; exact hk
theorem zW_b {x : zO} {k : Int → zF → zB → zO} {R Q : Int → zF → zB → Prop} (h : zW x R) (hk : ∀ r F B, R r F B → zW (k r F B) Q) : zW (zbind x k) Q := by
  obtain ⟨r, F, B, e, hr⟩ := h
  rw [zbind_some e]; exact hk r F B hr
theorem zW_m {x : zO} {R Q : Int → zF → zB → Prop} (h : zW x R) (hk : ∀ r F B, R r F B → Q r F B) : zW x Q := by
  obtain ⟨r, F, B, e, hr⟩ := h
  exact ⟨r, F, B, e, hk r F B hr⟩
theorem zW_ex {x : zO} {a : Int} {b : zF} {c : zB} (h : zW x (fun r F B => r = a ∧ F = b ∧ B = c)) : x = some (a, b, c) := by
  obtain ⟨r, F, B, e, rfl, rfl, rfl⟩ := h
  exact e
theorem zW_of {x : zO} {r : Int} {F : zF} {B : zB} {Q : Int → zF → zB → Prop} (e : x = some (r, F, B)) (h : Q r F B) : zW x Q := ⟨r, F, B, e, h⟩
def tmB (B : zB) : Int → Int := fun y => B 14 0 2 y % 256
theorem tmB_b (B : zB) (y : Int) : 0 ≤ tmB B y ∧ tmB B y < 256 := by unfold tmB; omega
theorem L_byteA {K : Nat} {p : Int} {F : zF} {B : zB} (h0 : 0 ≤ p) (h1 : p < 3000) : f_M_byteAt K p F B = some (tmB B p, F, B) := L_byteAt h0 h1
/-- a pitch is kept -/
def keepP (B : zB) (T v a : Int) : zB := zup4 (zup4 (zup4 B 14 0 7 T 2) 14 0 9 T v) 14 0 10 T a
theorem pitL_0 {t : Int → Int} {fr sign : Int} {f : Nat} {k size : Int} (h1 : ¬ size - 1 ≤ k) (h2 : ¬ (t (fr + k) = sign ∧ (t (fr + k) = 35 ∨ t (fr + k) = 98))) : pitL t fr sign (f + 1) k size = 0 := by
  unfold pitL; rw [if_neg h1, if_neg h2]
theorem pitL_1 {t : Int → Int} {fr sign : Int} {f : Nat} {k size : Int} (h1 : size - 1 ≤ k) : pitL t fr sign (f + 1) k size = 1 := by
  unfold pitL; rw [if_pos h1]
theorem pitL_n {t : Int → Int} {fr sign : Int} {f : Nat} {k size : Int} (h1 : ¬ size - 1 ≤ k) (h2 : t (fr + k) = sign ∧ (t (fr + k) = 35 ∨ t (fr + k) = 98)) : pitL t fr sign (f + 1) k size = pitL t fr sign f (k + 1) size := by
  conv => lhs; unfold pitL
  rw [if_neg h1, if_pos h2]
theorem L_cp58 {K : Nat} {oct letter p q : Int} {F : zF} {B : zB} (hT : 0 ≤ F 14 0 12 ∧ F 14 0 12 < 3001) (hp : 0 ≤ p) (hq : q ≤ 3000) (hl : 97 ≤ letter ∧ letter ≤ 103) : ∀ {n : Nat} {k a : Int} {f : Nat}, p + 1 ≤ k → k ≤ q - 1 → q - k < n → q - k < f → zW (f_M_cutPitch_58 K n k a oct letter p q F B) (fun _ F' B' => F' = F ∧ B' = if pitL (tmB B) p (tmB B (p + 1)) f (k - p) (q - p) = 1 then keepP B (F 14 0 12) (7 * oct + (letter - 99) % 7) (a + (if tmB B (p + 1) = 35 then q - 1 - k else -(q - 1 - k))) else B) := by
  intro n
  induction n with
  | zero => intro k a f h1 h2 h3 h4; omega
  | succ n ih =>
    intro k a f h1 h2 h3 h4
    have b1 := tmB_b B k
    have b2 := tmB_b B (p + 1)
    obtain ⟨f, rfl⟩ : ∃ g, f = g + 1 := ⟨f - 1, by omega⟩
    unfold f_M_cutPitch_58
    refine zW_g (by omega) ?_
    refine zW_g (by omega) ?_
    refine zW_i (fun h1 => ?_) (fun h1 => ?_)
    · skip
      refine zW_g (by omega) ?_
      refine zW_e (L_mod (by omega) (by decide) (by decide)) ?_
      refine zW_g (by omega) ?_
      refine zW_s ?_
      refine ⟨rfl, ?_⟩
      rw [pitL_1 (by omega), if_pos rfl, show q - 1 - k = 0 by omega]
      show zup4 _ 14 0 10 (F 14 0 12) a = _
      unfold keepP
      split <;> simp
    · skip
      refine zW_e (L_byteA (by omega) (by omega)) ?_
      refine zW_g (by omega) ?_
      refine zW_i (fun h2 => ?_) (fun h2 => ?_)
      · skip
        unfold f_M_cutPitch_88
        refine zW_e (L_byteA (by omega) (by omega)) ?_
        refine zW_g (by omega) ?_
        refine zW_g (by omega) ?_
        refine zW_i (fun h3 => ?_) (fun h3 => ?_)
        · skip
          refine zW_i (fun h4 => ?_) (fun h4 => ?_)
          · skip
            unfold f_M_cutPitch_115
            refine zW_m (ih (k := k + 1) (a := a + 1) (f := f) (by omega) (by omega) (by omega) (by omega)) (fun r F' B' hh => ?_)
            obtain ⟨rfl, hB⟩ := hh
            refine ⟨rfl, ?_⟩
            rw [hB, pitL_n (by omega) (by rw [show p + (k - p) = k by omega]; omega), show k + 1 - p = k - p + 1 by omega]
            by_cases g : pitL (tmB B) p (tmB B (p + 1)) f (k - p + 1) (q - p) = 1
            · rw [if_pos g, if_pos g]
              congr 1
              split <;> omega
            · rw [if_neg g, if_neg g]
          · skip
            unfold f_M_cutPitch_115
            refine zW_m (ih (k := k + 1) (a := a + (-1)) (f := f) (by omega) (by omega) (by omega) (by omega)) (fun r F' B' hh => ?_)
            obtain ⟨rfl, hB⟩ := hh
            refine ⟨rfl, ?_⟩
            rw [hB, pitL_n (by omega) (by rw [show p + (k - p) = k by omega]; omega), show k + 1 - p = k - p + 1 by omega]
            by_cases g : pitL (tmB B) p (tmB B (p + 1)) f (k - p + 1) (q - p) = 1
            · rw [if_pos g, if_pos g]
              congr 1
              split <;> omega
            · rw [if_neg g, if_neg g]
        · skip
          unfold f_M_cutPitch_100
          refine zW_s ?_
          refine ⟨rfl, ?_⟩
          rw [pitL_0 (by omega) (by rw [show p + (k - p) = k by omega]; omega), if_neg (by decide)]
      · skip
        refine zW_i (fun h5 => ?_) (fun h5 => ?_)
        · skip
          unfold f_M_cutPitch_88
          refine zW_e (L_byteA (by omega) (by omega)) ?_
          refine zW_g (by omega) ?_
          refine zW_g (by omega) ?_
          refine zW_i (fun h6 => ?_) (fun h6 => ?_)
          · skip
            refine zW_i (fun h7 => ?_) (fun h7 => ?_)
            · skip
              unfold f_M_cutPitch_115
              refine zW_m (ih (k := k + 1) (a := a + 1) (f := f) (by omega) (by omega) (by omega) (by omega)) (fun r F' B' hh => ?_)
              obtain ⟨rfl, hB⟩ := hh
              refine ⟨rfl, ?_⟩
              rw [hB, pitL_n (by omega) (by rw [show p + (k - p) = k by omega]; omega), show k + 1 - p = k - p + 1 by omega]
              by_cases g : pitL (tmB B) p (tmB B (p + 1)) f (k - p + 1) (q - p) = 1
              · rw [if_pos g, if_pos g]
                congr 1
                split <;> omega
              · rw [if_neg g, if_neg g]
            · skip
              unfold f_M_cutPitch_115
              refine zW_m (ih (k := k + 1) (a := a + (-1)) (f := f) (by omega) (by omega) (by omega) (by omega)) (fun r F' B' hh => ?_)
              obtain ⟨rfl, hB⟩ := hh
              refine ⟨rfl, ?_⟩
              rw [hB, pitL_n (by omega) (by rw [show p + (k - p) = k by omega]; omega), show k + 1 - p = k - p + 1 by omega]
              by_cases g : pitL (tmB B) p (tmB B (p + 1)) f (k - p + 1) (q - p) = 1
              · rw [if_pos g, if_pos g]
                congr 1
                split <;> omega
              · rw [if_neg g, if_neg g]
          · skip
            unfold f_M_cutPitch_100
            refine zW_s ?_
            refine ⟨rfl, ?_⟩
            rw [pitL_0 (by omega) (by rw [show p + (k - p) = k by omega]; omega), if_neg (by decide)]
        · skip
          unfold f_M_cutPitch_100
          refine zW_s ?_
          refine ⟨rfl, ?_⟩
          rw [pitL_0 (by omega) (by rw [show p + (k - p) = k by omega]; omega), if_neg (by decide)]
theorem L_cutPitch {K : Nat} {p q : Int} {F : zF} {B : zB} (hK : 3002 ≤ K) (hT : 0 ≤ F 14 0 12 ∧ F 14 0 12 < 3001) (hp : 0 ≤ p) (hpq : p < q) (hq : q ≤ 3000) : zW (f_M_cutPitch K p q F B) (fun _ F' B' => F' = F ∧ B' = if pitS (tmB B) p (q - p) = 1 then keepP B (F 14 0 12) (7 * (tmB B (q - 1) - 48) + (tmB B p - 99) % 7) (if tmB B (p + 1) = 35 then q - p - 2 else 2 - (q - p)) else B) := by
  have b1 := tmB_b B p
  have b2 := tmB_b B (q - 1)
  have e0 : p + (q - p) - 1 = q - 1 := by omega
  unfold f_M_cutPitch
  refine zW_e (L_byteA (by omega) (by omega)) ?_
  refine zW_e (L_byteA (by omega) (by omega)) ?_
  refine zW_g (by omega) ?_
  refine zW_i (fun h1 => ?_) (fun h1 => ?_)
  · skip
    unfold f_M_cutPitch_49
    refine zW_s ?_
    refine ⟨rfl, ?_⟩
    rw [show pitS (tmB B) p (q - p) = 0 by unfold pitS; rw [e0, if_pos (by omega)], if_neg (by decide)]
  · skip
    refine zW_i (fun h2 => ?_) (fun h2 => ?_)
    · skip
      unfold f_M_cutPitch_49
      refine zW_s ?_
      refine ⟨rfl, ?_⟩
      rw [show pitS (tmB B) p (q - p) = 0 by unfold pitS; rw [e0, if_pos (by omega)], if_neg (by decide)]
    · skip
      refine zW_g (by omega) ?_
      refine zW_i (fun h3 => ?_) (fun h3 => ?_)
      · skip
        unfold f_M_cutPitch_49
        refine zW_s ?_
        refine ⟨rfl, ?_⟩
        rw [show pitS (tmB B) p (q - p) = 0 by unfold pitS; rw [e0, if_pos (by omega)], if_neg (by decide)]
      · skip
        refine zW_i (fun h4 => ?_) (fun h4 => ?_)
        · skip
          unfold f_M_cutPitch_49
          refine zW_s ?_
          refine ⟨rfl, ?_⟩
          rw [show pitS (tmB B) p (q - p) = 0 by unfold pitS; rw [e0, if_pos (by omega)], if_neg (by decide)]
        · skip
          refine zW_g (by omega) ?_
          refine zW_i (fun h5 => ?_) (fun h5 => ?_)
          · skip
            by_cases hs : q - p < 2
            · have e1 : q - 1 = p := by omega
              rw [e1] at b2 h3 h4
              omega
            · refine zW_m (L_cp58 (f := 8) hT hp hq (by omega) (by omega) (by omega) (by omega) (by omega)) (fun r F' B' hh => ?_)
              obtain ⟨rfl, hB⟩ := hh
              refine ⟨rfl, ?_⟩
              rw [hB]
              have e2 : pitS (tmB B) p (q - p) = pitL (tmB B) p (tmB B (p + 1)) 8 1 (q - p) := by
                unfold pitS; rw [e0, if_neg (by omega)]
              rw [e2, show p + 1 - p = 1 by omega]
              split
              · congr 1
                split <;> omega
              · rfl
          · skip
            unfold f_M_cutPitch_49
            refine zW_s ?_
            refine ⟨rfl, ?_⟩
            rw [show pitS (tmB B) p (q - p) = 0 by unfold pitS; rw [e0, if_pos (by omega)], if_neg (by decide)]
end
section
/-! ===== a run of bytes becomes a token, on the reference's side ===== -/
theorem zup4_v {B : zB} {c k c' k' : Nat} {i j v i' j' : Int} : zup4 B c i k j v c' i' k' j' = if c' = c ∧ i' = i ∧ k' = k ∧ j' = j then v else B c' i' k' j' := by
  by_cases h : c' = c ∧ i' = i ∧ k' = k
  · obtain ⟨rfl, rfl, rfl⟩ := h
    rw [zup4_self]
    unfold zup
    by_cases g : j' = j
    · rw [if_pos g, if_pos ⟨rfl, rfl, rfl, g⟩]
    · rw [if_neg g, if_neg (fun z => g z.2.2.2)]
  · rw [zup4_ne h, if_neg (fun z => h ⟨z.1, z.2.1, z.2.2.1⟩)]
theorem zup3_v {F : zF} {c k c' k' : Nat} {i v i' : Int} : zup3 F c i k v c' i' k' = if c' = c ∧ i' = i ∧ k' = k then v else F c' i' k' := rfl
theorem tmB_up {B : zB} {k : Nat} {j v : Int} (h : k ≠ 2) : tmB (zup4 B 14 0 k j v) = tmB B := by
  funext y
  unfold tmB
  rw [zup4_ne (fun z => h z.2.2.symm)]
/-- nothing but the rows ks of the reference changes, and these at T alone -/
def frT (ks : List Nat) (T : Int) (B B' : zB) : Prop := ∀ c i k j, ¬ (c = 14 ∧ i = 0 ∧ k ∈ ks ∧ j = T) → B' c i k j = B c i k j
theorem frT_r {ks : List Nat} {T : Int} {B : zB} : frT ks T B B := fun _ _ _ _ _ => rfl
theorem frT_u {ks : List Nat} {k : Nat} {T v : Int} {B B' : zB} (h : frT ks T B B') (hk : k ∈ ks) : frT ks T B (zup4 B' 14 0 k T v) := by
  intro c i x j hn
  rw [zup4_v, if_neg (fun z => hn ⟨z.1, z.2.1, by rw [z.2.2.1]; exact hk, z.2.2.2⟩)]
  exact h c i x j hn
theorem frT_t {ks : List Nat} {T : Int} {B B' B'' : zB} (h : frT ks T B B') (h' : frT ks T B' B'') : frT ks T B B'' := fun c i k j hn => by rw [h' c i k j hn, h c i k j hn]
theorem frT_m {ks ls : List Nat} {T : Int} {B B' : zB} (h : frT ks T B B') (hk : ∀ k ∈ ks, k ∈ ls) : frT ls T B B' := fun c i k j hn => h c i k j (fun z => hn ⟨z.1, z.2.1, hk k z.2.2.1, z.2.2.2⟩)
theorem L_num {K : Nat} {p q : Int} {F : zF} {t : Int → Int} (hT : 0 ≤ F 14 0 12 ∧ F 14 0 12 < 3001) (hp : 0 ≤ p) (hq : q ≤ 3000) : ∀ {n : Nat} {k : Int} {B : zB}, p ≤ k → k ≤ q → q - k < n → tmB B = t → B 14 0 9 (F 14 0 12) = nmv t 10 48 p (k - p).toNat → zW (f_M_cutRun_124 K n k q F B) (fun r F' B' => r = q ∧ F' = F ∧ frT [9] (F 14 0 12) B B' ∧ B' 14 0 9 (F 14 0 12) = nmv t 10 48 p (q - p).toNat) := by
  intro n
  induction n with
  | zero => intro k B a b d _ _; omega
  | succ n ih =>
    intro k B a b d ht hv
    unfold f_M_cutRun_124
    refine zW_g (by omega) ?_
    refine zW_g (by omega) ?_
    refine zW_i (fun h1 => ?_) (fun h1 => ?_)
    · skip
      unfold f_M_cutRun_213
      refine zW_s ?_
      refine ⟨rfl, rfl, frT_r, ?_⟩
      rw [hv, show k = q by omega]
    · skip
      refine zW_g (by omega) ?_
      refine zW_e (L_byteA (by omega) (by omega)) ?_
      refine zW_m (ih (by omega) (by omega) (by omega) ((tmB_up (by decide)).trans ht) ?_) (fun r F' B' hh => ?_)
      · rw [zup4_v, if_pos ⟨rfl, rfl, rfl, rfl⟩, show (k + 1 - p).toNat = (k - p).toNat + 1 by omega]
        unfold nmv
        rw [hv, ht, show p + (((k - p).toNat : Nat) : Int) = k by omega]
        omega
      · obtain ⟨h1, h2, h3, h4⟩ := hh
        exact ⟨h1, h2, frT_t (frT_u frT_r (by decide)) h3, h4⟩
/-- the kind of a run -/
def runK (t : Int → Int) (p s : Int) : Int := if cnt bDig t p s.toNat = s ∧ s ≤ 4 then 3 else if cnt bLet t p s.toNat = s ∧ s ≤ 8 then 4 else if pitS t p s = 1 then 2 else 1
def pitV (t : Int → Int) (p q : Int) : Int := 7 * (t (q - 1) - 48) + (t p - 99) % 7
def pitA (t : Int → Int) (p s : Int) : Int := if t (p + 1) = 35 then s - 2 else 2 - s
def tokR (t : Int → Int) (p q : Int) (T : Int) (B' : zB) : Prop := B' 14 0 7 T = runK t p (q - p) ∧ (runK t p (q - p) = 3 → B' 14 0 9 T = nmv t 10 48 p (q - p).toNat) ∧ (runK t p (q - p) = 4 → B' 14 0 11 T = wrd t p (q - p).toNat) ∧ (runK t p (q - p) = 2 → B' 14 0 9 T = pitV t p q ∧ B' 14 0 10 T = pitA t p (q - p))
theorem L_cr77 {K : Nat} {p q : Int} {F : zF} {B : zB} {t : Int → Int} (hK : 3002 ≤ K) (hT : 0 ≤ F 14 0 12 ∧ F 14 0 12 < 3001) (hp : 0 ≤ p) (hpq : p < q) (hq : q ≤ 3000) (ht : tmB B = t) : zW (f_M_cutRun_77 K (wrd t p (q - p).toNat) (cnt bDig t p (q - p).toNat) (cnt bLet t p (q - p).toNat) q p F B) (fun r F' B' => r = q ∧ F' = F ∧ frT [7, 9, 10, 11] (F 14 0 12) B B' ∧ tokR t p q (F 14 0 12) B') := by
  have cd := cnt_le (t := t) (p := p) bDig_b (m := (q - p).toNat)
  have cl := cnt_le (t := t) (p := p) bLet_b (m := (q - p).toNat)
  have up1 : tmB (zup4 B 14 0 7 (F 14 0 12) 1) = t := (tmB_up (by decide)).trans ht
  unfold f_M_cutRun_77
  refine zW_g (by omega) ?_
  refine zW_g (by omega) ?_
  refine zW_g (by omega) ?_
  refine zW_i (fun h1 => ?_) (fun h1 => ?_)
  · skip
    refine zW_i (fun h2 => ?_) (fun h2 => ?_)
    · skip
      unfold f_M_cutRun_170
      refine zW_g (by omega) ?_
      refine zW_g (by omega) ?_
      refine zW_i (fun h3 => ?_) (fun h3 => ?_)
      · skip
        refine zW_i (fun h4 => ?_) (fun h4 => ?_)
        · skip
          unfold f_M_cutRun_207
          refine zW_b (L_cutPitch hK hT hp hpq hq) (fun r40 F40 B40 hh => ?_)
          obtain ⟨rfl, hB⟩ := hh
          unfold f_M_cutRun_213
          refine zW_s ?_
          rw [up1] at hB
          have hk : runK t p (q - p) = if pitS t p (q - p) = 1 then 2 else 1 := by unfold runK; rw [if_neg (by omega), if_neg (by omega)]
          by_cases hc : pitS t p (q - p) = 1
          · rw [if_pos hc] at hB hk
            subst hB
            refine ⟨rfl, rfl, frT_u (frT_u (frT_u (frT_u frT_r (by decide)) (by decide)) (by decide)) (by decide), ?_, fun z => ?_, fun z => ?_, fun _ => ⟨?_, ?_⟩⟩
            · rw [hk]; simp [zup4_v, keepP]
            · omega
            · omega
            · simp [zup4_v, keepP, pitV]
            · simp [zup4_v, keepP, pitA]
          · rw [if_neg hc] at hB hk
            subst hB
            refine ⟨rfl, rfl, frT_u frT_r (by decide), ?_, fun z => ?_, fun z => ?_, fun z => ?_⟩
            · rw [hk]; simp [zup4_v]
            · omega
            · omega
            · omega
        · skip
          refine zW_g (by omega) ?_
          unfold f_M_cutRun_213
          refine zW_s ?_
          have hk : runK t p (q - p) = 4 := by unfold runK; rw [if_neg (by omega), if_pos ⟨by omega, by omega⟩]
          refine ⟨rfl, rfl, frT_u (frT_u (frT_u frT_r (by decide)) (by decide)) (by decide), ?_, fun z => ?_, fun _ => ?_, fun z => ?_⟩
          · rw [hk]; simp [zup4_v]
          · omega
          · simp [zup4_v]
          · omega
      · skip
        unfold f_M_cutRun_207
        refine zW_b (L_cutPitch hK hT hp hpq hq) (fun r40 F40 B40 hh => ?_)
        obtain ⟨rfl, hB⟩ := hh
        unfold f_M_cutRun_213
        refine zW_s ?_
        rw [up1] at hB
        have hk : runK t p (q - p) = if pitS t p (q - p) = 1 then 2 else 1 := by unfold runK; rw [if_neg (by omega), if_neg (by omega)]
        by_cases hc : pitS t p (q - p) = 1
        · rw [if_pos hc] at hB hk
          subst hB
          refine ⟨rfl, rfl, frT_u (frT_u (frT_u (frT_u frT_r (by decide)) (by decide)) (by decide)) (by decide), ?_, fun z => ?_, fun z => ?_, fun _ => ⟨?_, ?_⟩⟩
          · rw [hk]; simp [zup4_v, keepP]
          · omega
          · omega
          · simp [zup4_v, keepP, pitV]
          · simp [zup4_v, keepP, pitA]
        · rw [if_neg hc] at hB hk
          subst hB
          refine ⟨rfl, rfl, frT_u frT_r (by decide), ?_, fun z => ?_, fun z => ?_, fun z => ?_⟩
          · rw [hk]; simp [zup4_v]
          · omega
          · omega
          · omega
    · skip
      refine zW_m (L_num (p := p) hT hp hq (by omega) (by omega) (by omega) ((tmB_up (by decide)).trans ((tmB_up (by decide)).trans up1)) ?_) (fun r F' B' hh => ?_)
      · rw [zup4_v, if_pos ⟨rfl, rfl, rfl, rfl⟩, show (p - p).toNat = 0 by omega]; rfl
      · obtain ⟨g1, g2, g3, g4⟩ := hh
        have hk : runK t p (q - p) = 3 := by unfold runK; rw [if_pos ⟨by omega, by omega⟩]
        refine ⟨g1, g2, frT_t (frT_u (frT_u (frT_u frT_r (by decide)) (by decide)) (by decide)) (frT_m g3 (by decide)), ?_, fun _ => g4, fun z => ?_, fun z => ?_⟩
        · rw [g3 14 0 7 _ (by simp), hk]
          simp [zup4_v]
        · omega
        · omega
  · skip
    unfold f_M_cutRun_170
    refine zW_g (by omega) ?_
    refine zW_g (by omega) ?_
    refine zW_i (fun h5 => ?_) (fun h5 => ?_)
    · skip
      refine zW_i (fun h6 => ?_) (fun h6 => ?_)
      · skip
        unfold f_M_cutRun_207
        refine zW_b (L_cutPitch hK hT hp hpq hq) (fun r40 F40 B40 hh => ?_)
        obtain ⟨rfl, hB⟩ := hh
        unfold f_M_cutRun_213
        refine zW_s ?_
        rw [up1] at hB
        have hk : runK t p (q - p) = if pitS t p (q - p) = 1 then 2 else 1 := by unfold runK; rw [if_neg (by omega), if_neg (by omega)]
        by_cases hc : pitS t p (q - p) = 1
        · rw [if_pos hc] at hB hk
          subst hB
          refine ⟨rfl, rfl, frT_u (frT_u (frT_u (frT_u frT_r (by decide)) (by decide)) (by decide)) (by decide), ?_, fun z => ?_, fun z => ?_, fun _ => ⟨?_, ?_⟩⟩
          · rw [hk]; simp [zup4_v, keepP]
          · omega
          · omega
          · simp [zup4_v, keepP, pitV]
          · simp [zup4_v, keepP, pitA]
        · rw [if_neg hc] at hB hk
          subst hB
          refine ⟨rfl, rfl, frT_u frT_r (by decide), ?_, fun z => ?_, fun z => ?_, fun z => ?_⟩
          · rw [hk]; simp [zup4_v]
          · omega
          · omega
          · omega
      · skip
        refine zW_g (by omega) ?_
        unfold f_M_cutRun_213
        refine zW_s ?_
        have hk : runK t p (q - p) = 4 := by unfold runK; rw [if_neg (by omega), if_pos ⟨by omega, by omega⟩]
        refine ⟨rfl, rfl, frT_u (frT_u (frT_u frT_r (by decide)) (by decide)) (by decide), ?_, fun z => ?_, fun _ => ?_, fun z => ?_⟩
        · rw [hk]; simp [zup4_v]
        · omega
        · simp [zup4_v]
        · omega
    · skip
      unfold f_M_cutRun_207
      refine zW_b (L_cutPitch hK hT hp hpq hq) (fun r40 F40 B40 hh => ?_)
      obtain ⟨rfl, hB⟩ := hh
      unfold f_M_cutRun_213
      refine zW_s ?_
      rw [up1] at hB
      have hk : runK t p (q - p) = if pitS t p (q - p) = 1 then 2 else 1 := by unfold runK; rw [if_neg (by omega), if_neg (by omega)]
      by_cases hc : pitS t p (q - p) = 1
      · rw [if_pos hc] at hB hk
        subst hB
        refine ⟨rfl, rfl, frT_u (frT_u (frT_u (frT_u frT_r (by decide)) (by decide)) (by decide)) (by decide), ?_, fun z => ?_, fun z => ?_, fun _ => ⟨?_, ?_⟩⟩
        · rw [hk]; simp [zup4_v, keepP]
        · omega
        · omega
        · simp [zup4_v, keepP, pitV]
        · simp [zup4_v, keepP, pitA]
      · rw [if_neg hc] at hB hk
        subst hB
        refine ⟨rfl, rfl, frT_u frT_r (by decide), ?_, fun z => ?_, fun z => ?_, fun z => ?_⟩
        · rw [hk]; simp [zup4_v]
        · omega
        · omega
        · omega
theorem runE_run {t : Int → Int} {n p : Int} {f : Nat} (h : ¬ n ≤ p) (hb : ¬ bRun (t p) = 0) (hf : n - p < f) : p < runE t n f p ∧ runE t n f p ≤ n := by
  obtain ⟨f, rfl⟩ : ∃ g, f = g + 1 := ⟨f - 1, by omega⟩
  unfold runE
  rw [if_neg h, if_neg hb]
  have := runE_le (t := t) (f := f) (p := p + 1) (n := n) (by omega)
  omega
/-- the run at p, ended by the tape's end or by another byte -/
def runQ (t : Int → Int) (n p : Int) : Int := runE t n 3002 p
theorem L_cutRun {K : Nat} {p : Int} {F : zF} {B : zB} {t : Int → Int} (hK : 3002 ≤ K) (hT : 0 ≤ F 14 0 12 ∧ F 14 0 12 < 3001) (h0 : 0 ≤ F 14 0 3) (h1 : F 14 0 3 ≤ 3000) (hp : 0 ≤ p) (hpn : p < F 14 0 3) (ht : tmB B = t) (hb : ¬ bRun (t p) = 0) : zW (f_M_cutRun K p F B) (fun r F' B' => r = runQ t (F 14 0 3) p ∧ F' = F ∧ frT [7, 9, 10, 11] (F 14 0 12) B B' ∧ tokR t p (runQ t (F 14 0 3) p) (F 14 0 12) B') := by
  have hE : runE t (F 14 0 3) K p = runQ t (F 14 0 3) p := runE_f (by omega) (by omega)
  have hR := runE_run (t := t) (n := F 14 0 3) (p := p) (f := 3002) (by omega) hb (by omega)
  have hS := runS_all (t := t) (n := F 14 0 3) (p0 := p) (f := K) (m := 0)
  rw [show p + ((0 : Nat) : Int) = p by omega, hE] at hS
  have hS' : runS t (F 14 0 3) K 0 0 0 p = (wrd t p (runQ t (F 14 0 3) p - p).toNat, cnt bDig t p (runQ t (F 14 0 3) p - p).toNat, cnt bLet t p (runQ t (F 14 0 3) p - p).toNat, runQ t (F 14 0 3) p) := hS
  unfold f_M_cutRun
  rw [L_run h0 h1 hp (by omega) (by omega), show (fun y => B 14 0 2 y % 256) = t from ht, hS']
  exact L_cr77 hK hT hp hR.1 (by unfold runQ; omega) ht
end
section
section
/-! ===== a run of bytes becomes a token, on the class's side ===== -/
def frC (ks : List Nat) (T : Int) (B B' : zB) : Prop := ∀ c i k j, ¬ (c = 10 ∧ i = 0 ∧ k ∈ ks ∧ j = T) → B' c i k j = B c i k j
theorem frC_r {ks : List Nat} {T : Int} {B : zB} : frC ks T B B := fun _ _ _ _ _ => rfl
theorem frC_u {ks : List Nat} {k : Nat} {T v : Int} {B B' : zB} (h : frC ks T B B') (hk : k ∈ ks) : frC ks T B (zup4 B' 10 0 k T v) := by
  intro c i x j hn
  rw [zup4_v, if_neg (fun z => hn ⟨z.1, z.2.1, by rw [z.2.2.1]; exact hk, z.2.2.2⟩)]
  exact h c i x j hn
theorem frC_t {ks : List Nat} {T : Int} {B B' B'' : zB} (h : frC ks T B B') (h' : frC ks T B' B'') : frC ks T B B'' := fun c i k j hn => by rw [h' c i k j hn, h c i k j hn]
theorem frC_0 {ks : List Nat} {T : Int} {B B' : zB} (h : frC ks T B B') : B' 0 0 0 = B 0 0 0 := by
  funext y; exact h 0 0 0 y (by simp)
theorem C_joi {K : zK} {F : zF} {B : zB} {fr base zero size : Int} (hK : 3002 ≤ K.1) (hK0 : 0 < K.2 0) (h2 : F 0 0 1 ≤ 3000) (hb : ∀ y, 0 ≤ B 0 0 0 y ∧ B 0 0 0 y < 256) (hr1 : r32 base) (hr2 : r32 zero) (hf : 0 ≤ fr) (hs : 0 ≤ size) (he : fr + size ≤ F 0 0 1) : f_Tokens_joined K 0 fr size base zero F B = some (nmv (B 0 0 0) base zero fr size.toNat, F, B) := by
  unfold f_Tokens_joined
  rw [C_joined hK0 h2 hb hr1 hr2 hf hs he (by omega) (by omega) (by omega)]
  have := joinS_e (t := B 0 0 0) (fr := fr) (base := base) (zero := zero) (size := size) (f := K.1) (m := 0) (by omega) (by omega)
  rw [show joinS (B 0 0 0) fr base zero K.1 0 0 size = nmv (B 0 0 0) base zero fr size.toNat from this]
theorem C_pitV {K : zK} {F : zF} {B : zB} {p q : Int} (hK0 : 0 < K.2 0) (h2 : F 0 0 1 ≤ 3000) (hb : ∀ y, 0 ≤ B 0 0 0 y ∧ B 0 0 0 y < 256) (hp : 0 ≤ p) (hpq : p + 2 ≤ q) (hq : q ≤ F 0 0 1) (h97 : 97 ≤ B 0 0 0 p) : f_Tokens_pitchValue K 0 p (q - p) F B = some (8 * pitV (B 0 0 0) p q + pitA (B 0 0 0) p (q - p) + 2, F, B) := by
  have b1 := hb p
  have b2 := hb (q - 1)
  have b3 := hb (p + 1)
  have e0 : p + (q - p) - 1 = q - 1 := by omega
  have e1 : zrm (B 0 0 0 p - 97 + 5) 7 = (B 0 0 0 p - 99) % 7 := by
    rw [zrm_e (by omega) (by omega) (by decide) (by decide)]; omega
  refine zW_ex ?_
  unfold f_Tokens_pitchValue
  refine zW_g (by first | omega | (rw [e0, e1]; omega)) ?_
  refine zW_e (C_at0 hK0 (by omega) (by omega) h2) ?_
  refine zW_e (C_at0 hK0 (by omega) (by omega) h2) ?_
  refine zW_e (C_at0 hK0 (by omega) (by omega) h2) ?_
  refine zW_g (by first | omega | (rw [e0, e1]; omega)) ?_
  refine zW_i (fun h1 => ?_) (fun h1 => ?_)
  · skip
    unfold f_Tokens_pitchValue_54
    refine zW_g (by first | omega | (rw [e0, e1]; omega)) ?_
    refine zW_s ?_
    refine ⟨?_, rfl, rfl⟩
    unfold pitV pitA
    rw [e0, e1, if_pos h1]
  · skip
    unfold f_Tokens_pitchValue_54
    refine zW_g (by first | omega | (rw [e0, e1]; omega)) ?_
    refine zW_s ?_
    refine ⟨?_, rfl, rfl⟩
    unfold pitV pitA
    rw [e0, e1, if_neg h1]
theorem pitS_k {t : Int → Int} {p s : Int} (h : pitS t p s = 1) : 2 ≤ s ∧ s ≤ 4 ∧ 97 ≤ t p ∧ t p ≤ 103 ∧ 48 ≤ t (p + s - 1) ∧ t (p + s - 1) ≤ 56 := by
  unfold pitS at h
  by_cases c : s < 2 ∨ 4 < s ∨ t p < 97 ∨ 103 < t p ∨ t (p + s - 1) < 48 ∨ 56 < t (p + s - 1)
  · rw [if_pos c] at h; omega
  · omega
theorem pitS_2 {t : Int → Int} {p s : Int} : pitS t p s = 0 ∨ pitS t p s = 1 := by
  unfold pitS
  split
  · exact Or.inl rfl
  · have : ∀ (f : Nat) (k : Int), pitL t p (t (p + 1)) f k s = 0 ∨ pitL t p (t (p + 1)) f k s = 1 := by
      intro f
      induction f with
      | zero => intro k; exact Or.inl rfl
      | succ f ih =>
        intro k
        unfold pitL
        split
        · exact Or.inr rfl
        · split
          · exact ih _
          · exact Or.inl rfl
    exact this _ _
theorem runK_c {t : Int → Int} {p s : Int} : runK t p s = if pitS t p s = 1 then 2 else if cnt bDig t p s.toNat = s ∧ s ≤ 4 then 3 else if cnt bLet t p s.toNat = s ∧ s ≤ 8 then 4 else 1 := by
  unfold runK
  by_cases h : pitS t p s = 1
  · have hk := pitS_k h
    rw [if_pos h, if_pos h, if_neg, if_neg]
    · rintro ⟨e, _⟩
      have := cnt_all (t := t) (p := p) bLet_b (m := s.toNat) (by omega) (j := (s - 1).toNat) (by omega)
      have := bLet_is this
      rw [show p + (((s - 1).toNat : Nat) : Int) = p + s - 1 by omega] at this
      omega
    · rintro ⟨e, _⟩
      have := cnt_all (t := t) (p := p) bDig_b (m := s.toNat) (by omega) (j := 0) (by omega)
      have := bDig_is this
      rw [show p + ((0 : Nat) : Int) = p by omega] at this
      omega
  · rw [if_neg h, if_neg h]
/-- what the class keeps of a run -/
def runV (t : Int → Int) (p q : Int) : Int := if runK t p (q - p) = 2 then 8 * pitV t p q + pitA t p (q - p) + 2 else if runK t p (q - p) = 3 then nmv t 10 48 p (q - p).toNat else if runK t p (q - p) = 4 then nmv t 256 0 p (q - p).toNat else 0
theorem C_kr {K : zK} {T p q : Int} {F : zF} {B : zB} (hK : 3002 ≤ K.1) (hK0 : 0 < K.2 0) (hK10 : 0 < K.2 10) (h2 : F 0 0 1 ≤ 3000) (hb : ∀ y, 0 ≤ B 0 0 0 y ∧ B 0 0 0 y < 256) (hT : 0 ≤ T ∧ T < 3001) (hp : 0 ≤ p) (hpq : p < q) (hq : q ≤ F 0 0 1) : ∀ {n : Nat} {k : Int}, p ≤ k → k ≤ q → q - k < n → zW (f_Tokens_keepRun_9 K n k (cnt bDig (B 0 0 0) p (k - p).toNat) (cnt bLet (B 0 0 0) p (k - p).toNat) 0 0 T p q F B) (fun r F' B' => F' = F ∧ frC [5, 7] T B B' ∧ B' 10 0 5 T = runK (B 0 0 0) p (q - p) ∧ B' 10 0 7 T = runV (B 0 0 0) p q) := by
  intro n
  induction n with
  | zero => intro k a b d; omega
  | succ n ih =>
    intro k a b d
    have cd := cnt_le (t := B 0 0 0) (p := p) bDig_b (m := (k - p).toNat)
    have cl := cnt_le (t := B 0 0 0) (p := p) bLet_b (m := (k - p).toNat)
    have hbk := hb k
    have e5 : (zup4 (zup4 B 10 0 5 T 1) 10 0 7 T 0) 0 0 0 = B 0 0 0 := frC_0 (frC_u (frC_u (ks := [5, 7]) frC_r (by decide)) (by decide))
    have ip := C_isPitch (K := K) (F := F) (B := zup4 (zup4 B 10 0 5 T 1) 10 0 7 T 0) (fr := p) (size := q - p) (by omega) hK0 h2 (by rw [e5]; exact hb) hp (by omega) (by omega)
    have jn : ∀ x base zero, r32 base → r32 zero → f_Tokens_joined K 0 p (q - p) base zero F (zup4 (zup4 (zup4 B 10 0 5 T 1) 10 0 7 T 0) 10 0 5 T x) = some (nmv (B 0 0 0) base zero p (q - p).toNat, F, zup4 (zup4 (zup4 B 10 0 5 T 1) 10 0 7 T 0) 10 0 5 T x) := by
      intro x base zero r1 r2
      have e6 : (zup4 (zup4 (zup4 B 10 0 5 T 1) 10 0 7 T 0) 10 0 5 T x) 0 0 0 = B 0 0 0 := frC_0 (frC_u (frC_u (frC_u (ks := [5, 7]) frC_r (by decide)) (by decide)) (by decide))
      have := C_joi (K := K) (F := F) (B := zup4 (zup4 (zup4 B 10 0 5 T 1) 10 0 7 T 0) 10 0 5 T x) (fr := p) (base := base) (zero := zero) (size := q - p) hK hK0 h2 (by rw [e6]; exact hb) r1 r2 hp (by omega) (by omega)
      rw [e6] at this
      exact this
    have pv : pitS (B 0 0 0) p (q - p) = 1 → f_Tokens_pitchValue K 0 p (q - p) F (zup4 (zup4 (zup4 B 10 0 5 T 1) 10 0 7 T 0) 10 0 5 T 2) = some (8 * pitV (B 0 0 0) p q + pitA (B 0 0 0) p (q - p) + 2, F, zup4 (zup4 (zup4 B 10 0 5 T 1) 10 0 7 T 0) 10 0 5 T 2) := by
      intro h
      have hk := pitS_k h
      have e6 : (zup4 (zup4 (zup4 B 10 0 5 T 1) 10 0 7 T 0) 10 0 5 T 2) 0 0 0 = B 0 0 0 := frC_0 (frC_u (frC_u (frC_u (ks := [5, 7]) frC_r (by decide)) (by decide)) (by decide))
      have := C_pitV (K := K) (F := F) (B := zup4 (zup4 (zup4 B 10 0 5 T 1) 10 0 7 T 0) 10 0 5 T 2) (p := p) (q := q) hK0 h2 (by rw [e6]; exact hb) hp (by omega) hq (by rw [e6]; omega)
      rw [e6] at this
      exact this
    rw [e5] at ip
    have p2 := pitS_2 (t := B 0 0 0) (p := p) (s := q - p)
    unfold f_Tokens_keepRun_9
    refine zW_g (by omega) ?_
    refine zW_g (by omega) ?_
    refine zW_i (fun h1 => ?_) (fun h1 => ?_)
    · obtain rfl : q = k := by omega
      refine zW_g (by omega) ?_
      refine zW_g (by omega) ?_
      refine zW_e (ip) ?_
      refine zW_g (by omega) ?_
      refine zW_i (fun h2 => ?_) (fun h2 => ?_)
      · skip
        refine zW_g (by omega) ?_
        refine zW_g (by omega) ?_
        refine zW_i (fun h3 => ?_) (fun h3 => ?_)
        · skip
          refine zW_i (fun h4 => ?_) (fun h4 => ?_)
          · skip
            unfold f_Tokens_keepRun_159
            refine zW_g (by omega) ?_
            refine zW_g (by omega) ?_
            refine zW_i (fun h5 => ?_) (fun h5 => ?_)
            · skip
              refine zW_i (fun h6 => ?_) (fun h6 => ?_)
              · skip
                unfold f_Tokens_keepRun_197
                refine zW_s ?_
                have hk : runK (B 0 0 0) p (q - p) = 1 := by rw [runK_c, if_neg (by omega), if_neg (by omega), if_neg (by omega)]
                refine ⟨rfl, frC_u (frC_u frC_r (by decide)) (by decide), ?_, ?_⟩
                · rw [hk]; simp [zup4_v]
                · unfold runV; rw [hk, if_neg (by decide), if_neg (by decide), if_neg (by decide)]; simp [zup4_v]
              · skip
                refine zW_g (by omega) ?_
                refine zW_g (by omega) ?_
                refine zW_e (jn _ _ _ (by decide) (by decide)) ?_
                unfold f_Tokens_keepRun_197
                refine zW_s ?_
                have hk : runK (B 0 0 0) p (q - p) = 4 := by rw [runK_c, if_neg (by omega), if_neg (by omega), if_pos ⟨by omega, by omega⟩]
                refine ⟨rfl, frC_u (frC_u (frC_u (frC_u frC_r (by decide)) (by decide)) (by decide)) (by decide), ?_, ?_⟩
                · rw [hk]; simp [zup4_v]
                · unfold runV; rw [hk, if_neg (by decide), if_neg (by decide), if_pos rfl]; simp [zup4_v]
            · skip
              unfold f_Tokens_keepRun_197
              refine zW_s ?_
              have hk : runK (B 0 0 0) p (q - p) = 1 := by rw [runK_c, if_neg (by omega), if_neg (by omega), if_neg (by omega)]
              refine ⟨rfl, frC_u (frC_u frC_r (by decide)) (by decide), ?_, ?_⟩
              · rw [hk]; simp [zup4_v]
              · unfold runV; rw [hk, if_neg (by decide), if_neg (by decide), if_neg (by decide)]; simp [zup4_v]
          · skip
            refine zW_e (jn _ _ _ (by decide) (by decide)) ?_
            unfold f_Tokens_keepRun_197
            refine zW_s ?_
            have hk : runK (B 0 0 0) p (q - p) = 3 := by rw [runK_c, if_neg (by omega), if_pos ⟨by omega, by omega⟩]
            refine ⟨rfl, frC_u (frC_u (frC_u (frC_u frC_r (by decide)) (by decide)) (by decide)) (by decide), ?_, ?_⟩
            · rw [hk]; simp [zup4_v]
            · unfold runV; rw [hk, if_neg (by decide), if_pos rfl]; simp [zup4_v]
        · skip
          unfold f_Tokens_keepRun_159
          refine zW_g (by omega) ?_
          refine zW_g (by omega) ?_
          refine zW_i (fun h7 => ?_) (fun h7 => ?_)
          · skip
            refine zW_i (fun h8 => ?_) (fun h8 => ?_)
            · skip
              unfold f_Tokens_keepRun_197
              refine zW_s ?_
              have hk : runK (B 0 0 0) p (q - p) = 1 := by rw [runK_c, if_neg (by omega), if_neg (by omega), if_neg (by omega)]
              refine ⟨rfl, frC_u (frC_u frC_r (by decide)) (by decide), ?_, ?_⟩
              · rw [hk]; simp [zup4_v]
              · unfold runV; rw [hk, if_neg (by decide), if_neg (by decide), if_neg (by decide)]; simp [zup4_v]
            · skip
              refine zW_g (by omega) ?_
              refine zW_g (by omega) ?_
              refine zW_e (jn _ _ _ (by decide) (by decide)) ?_
              unfold f_Tokens_keepRun_197
              refine zW_s ?_
              have hk : runK (B 0 0 0) p (q - p) = 4 := by rw [runK_c, if_neg (by omega), if_neg (by omega), if_pos ⟨by omega, by omega⟩]
              refine ⟨rfl, frC_u (frC_u (frC_u (frC_u frC_r (by decide)) (by decide)) (by decide)) (by decide), ?_, ?_⟩
              · rw [hk]; simp [zup4_v]
              · unfold runV; rw [hk, if_neg (by decide), if_neg (by decide), if_pos rfl]; simp [zup4_v]
          · skip
            unfold f_Tokens_keepRun_197
            refine zW_s ?_
            have hk : runK (B 0 0 0) p (q - p) = 1 := by rw [runK_c, if_neg (by omega), if_neg (by omega), if_neg (by omega)]
            refine ⟨rfl, frC_u (frC_u frC_r (by decide)) (by decide), ?_, ?_⟩
            · rw [hk]; simp [zup4_v]
            · unfold runV; rw [hk, if_neg (by decide), if_neg (by decide), if_neg (by decide)]; simp [zup4_v]
      · skip
        refine zW_e (pv (by omega)) ?_
        unfold f_Tokens_keepRun_197
        refine zW_s ?_
        have hk : runK (B 0 0 0) p (q - p) = 2 := by rw [runK_c, if_pos (by omega)]
        refine ⟨rfl, frC_u (frC_u (frC_u (frC_u frC_r (by decide)) (by decide)) (by decide)) (by decide), ?_, ?_⟩
        · rw [hk]; simp [zup4_v]
        · unfold runV; rw [if_pos hk]; simp [zup4_v]
    · skip
      refine zW_g (by omega) ?_
      refine zW_e (C_at0 hK0 (by omega) (by omega) h2) ?_
      refine zW_e (C_Let (by omega)) ?_
      refine zW_g (by exact bLet_r _) ?_
      refine zW_i (fun h9 => ?_) (fun h9 => ?_)
      · skip
        unfold f_Tokens_keepRun_35
        refine zW_g (by omega) ?_
        refine zW_e (C_at0 hK0 (by omega) (by omega) h2) ?_
        refine zW_e (C_Dig (by omega)) ?_
        refine zW_g (by exact bDig_r _) ?_
        refine zW_i (fun h10 => ?_) (fun h10 => ?_)
        · skip
          unfold f_Tokens_keepRun_57
          have s1 : (k + 1 - p).toNat = (k - p).toNat + 1 := by omega
          have s2 : p + (((k - p).toNat : Nat) : Int) = k := by omega
          have ed : cnt bDig (B 0 0 0) p (k + 1 - p).toNat = cnt bDig (B 0 0 0) p (k - p).toNat + 0 := by
            rw [s1]; show cnt bDig (B 0 0 0) p (k - p).toNat + bDig (B 0 0 0 (p + ((k - p).toNat : Nat))) = _
            rw [s2, h10]
          have el : cnt bLet (B 0 0 0) p (k + 1 - p).toNat = cnt bLet (B 0 0 0) p (k - p).toNat + 0 := by
            rw [s1]; show cnt bLet (B 0 0 0) p (k - p).toNat + bLet (B 0 0 0 (p + ((k - p).toNat : Nat))) = _
            rw [s2, h9]
          have hi := ih (k := k + 1) (by omega) (by omega) (by omega)
          rw [ed, el] at hi
          exact hi
        · skip
          unfold f_Tokens_keepRun_57
          have s1 : (k + 1 - p).toNat = (k - p).toNat + 1 := by omega
          have s2 : p + (((k - p).toNat : Nat) : Int) = k := by omega
          have ed : cnt bDig (B 0 0 0) p (k + 1 - p).toNat = cnt bDig (B 0 0 0) p (k - p).toNat + 1 := by
            rw [s1]; show cnt bDig (B 0 0 0) p (k - p).toNat + bDig (B 0 0 0 (p + ((k - p).toNat : Nat))) = _
            rw [s2, bDig_1 h10]
          have el : cnt bLet (B 0 0 0) p (k + 1 - p).toNat = cnt bLet (B 0 0 0) p (k - p).toNat + 0 := by
            rw [s1]; show cnt bLet (B 0 0 0) p (k - p).toNat + bLet (B 0 0 0 (p + ((k - p).toNat : Nat))) = _
            rw [s2, h9]
          have hi := ih (k := k + 1) (by omega) (by omega) (by omega)
          rw [ed, el] at hi
          exact hi
      · skip
        unfold f_Tokens_keepRun_35
        refine zW_g (by omega) ?_
        refine zW_e (C_at0 hK0 (by omega) (by omega) h2) ?_
        refine zW_e (C_Dig (by omega)) ?_
        refine zW_g (by exact bDig_r _) ?_
        refine zW_i (fun h11 => ?_) (fun h11 => ?_)
        · skip
          unfold f_Tokens_keepRun_57
          have s1 : (k + 1 - p).toNat = (k - p).toNat + 1 := by omega
          have s2 : p + (((k - p).toNat : Nat) : Int) = k := by omega
          have ed : cnt bDig (B 0 0 0) p (k + 1 - p).toNat = cnt bDig (B 0 0 0) p (k - p).toNat + 0 := by
            rw [s1]; show cnt bDig (B 0 0 0) p (k - p).toNat + bDig (B 0 0 0 (p + ((k - p).toNat : Nat))) = _
            rw [s2, h11]
          have el : cnt bLet (B 0 0 0) p (k + 1 - p).toNat = cnt bLet (B 0 0 0) p (k - p).toNat + 1 := by
            rw [s1]; show cnt bLet (B 0 0 0) p (k - p).toNat + bLet (B 0 0 0 (p + ((k - p).toNat : Nat))) = _
            rw [s2, bLet_1 h9]
          have hi := ih (k := k + 1) (by omega) (by omega) (by omega)
          rw [ed, el] at hi
          exact hi
        · skip
          unfold f_Tokens_keepRun_57
          have s1 : (k + 1 - p).toNat = (k - p).toNat + 1 := by omega
          have s2 : p + (((k - p).toNat : Nat) : Int) = k := by omega
          have ed : cnt bDig (B 0 0 0) p (k + 1 - p).toNat = cnt bDig (B 0 0 0) p (k - p).toNat + 1 := by
            rw [s1]; show cnt bDig (B 0 0 0) p (k - p).toNat + bDig (B 0 0 0 (p + ((k - p).toNat : Nat))) = _
            rw [s2, bDig_1 h11]
          have el : cnt bLet (B 0 0 0) p (k + 1 - p).toNat = cnt bLet (B 0 0 0) p (k - p).toNat + 1 := by
            rw [s1]; show cnt bLet (B 0 0 0) p (k - p).toNat + bLet (B 0 0 0 (p + ((k - p).toNat : Nat))) = _
            rw [s2, bLet_1 h9]
          have hi := ih (k := k + 1) (by omega) (by omega) (by omega)
          rw [ed, el] at hi
          exact hi
theorem C_keepRun {K : zK} {T p q : Int} {F : zF} {B : zB} (hK : 3002 ≤ K.1) (hK0 : 0 < K.2 0) (hK10 : 0 < K.2 10) (h2 : F 0 0 1 ≤ 3000) (hb : ∀ y, 0 ≤ B 0 0 0 y ∧ B 0 0 0 y < 256) (hT : 0 ≤ T ∧ T < 3001) (hp : 0 ≤ p) (hpq : p < q) (hq : q ≤ F 0 0 1) : zW (f_Tokens_keepRun K 0 0 T p q F B) (fun r F' B' => F' = F ∧ frC [5, 7] T B B' ∧ B' 10 0 5 T = runK (B 0 0 0) p (q - p) ∧ B' 10 0 7 T = runV (B 0 0 0) p q) := by
  have h := C_kr hK hK0 hK10 h2 hb hT hp hpq hq (n := K.1) (k := p) (by omega) (by omega) (by omega)
  rw [show (p - p).toNat = 0 by omega] at h
  exact h
end
end
section
section
/-! ===== strings and signs ===== -/
theorem toI_r (x : Int32) : r32 x.toInt := ⟨Int32.le_toInt _, Int.lt_of_le_of_lt (Int32.toInt_le x) (by decide)⟩
theorem zsb_r (s : Nat) (k : Int) : r32 (zsb s k) := toI_r _
theorem zi2b_q (x : Int) : r32 (zi2b x) := toI_r _
theorem zb_s {r : Int} {F : zF} {B : zB} {k : Int → zF → zB → zO} : zbind (some (r, F, B)) k = k r F B := rfl
theorem zi2c_b {b : Int} (h0 : 0 ≤ b) (h1 : b < 256) : zi2c b = b := by
  have h : ∀ c : Fin 256, zi2c (c.val : Int) = (c.val : Int) := by decide +kernel
  have := h ⟨b.toNat, by omega⟩
  rwa [show (((⟨b.toNat, by omega⟩ : Fin 256).val : Nat) : Int) = b by show ((b.toNat : Nat) : Int) = b; omega] at this
theorem C_slen {K : zK} {s : Nat} {F : zF} {B : zB} (h : s < strL.length) (hz : zshr (zsl s) 0 = zsl s) : f_CString_length K s F B = some (zsl s, F, B) := by
  unfold f_CString_length f_CString_coder f_CString_coder_14
  rw [if_pos h, if_neg (by decide), if_pos h, if_pos (by decide)]
  show some (zshr (zsl s) 0, F, B) = _
  rw [hz]
theorem C_slat {K : zK} {s : Nat} {F : zF} {B : zB} (h : s < strL.length) : f_CString_isLatin1 K s F B = some (1, F, B) := by
  unfold f_CString_isLatin1 f_CString_isLatin1_18
  rw [if_neg (by decide), if_pos h, if_pos rfl, if_pos (by decide)]
theorem L_slen {K : Nat} {s : Nat} {F : zF} {B : zB} (h : s < strL.length) (hz : zshr (zsl s) 0 = zsl s) : f_String_length K s F B = some (zsl s, F, B) := by
  unfold f_String_length f_String_coder f_String_coder_14
  rw [if_pos h, if_neg (by decide), if_pos h, if_pos (by decide)]
  show some (zshr (zsl s) 0, F, B) = _
  rw [hz]
theorem L_slat {K : Nat} {s : Nat} {F : zF} {B : zB} (h : s < strL.length) : f_String_isLatin1 K s F B = some (1, F, B) := by
  unfold f_String_isLatin1 f_String_isLatin1_18
  rw [if_neg (by decide), if_pos h, if_pos rfl, if_pos (by decide)]
def zsc (s : Nat) (k : Int) : Int := zi2c (zand (zsb s k) 255)
theorem zsc_b (s : Nat) (k : Int) : 0 ≤ zsc s k ∧ zsc s k < 256 := by
  unfold zsc
  rw [zand255, zi2c_b (by omega) (by omega)]
  omega
theorem L_schar {K : Nat} {s : Nat} {k : Int} {F : zF} {B : zB} (h : s < strL.length) (h0 : 0 ≤ k) (h1 : k < zsl s) (h2 : zsl s ≤ 1000) : f_String_charAt K s k F B = some (zsc s k, F, B) := by
  have b := zsc_b s k
  unfold f_String_charAt
  rw [if_pos h, L_slat h]
  simp only [zb_s]
  rw [if_pos (by decide), if_neg (by decide)]
  unfold f_StringLatin1_charAt f_String_checkIndex f_Preconditions_checkIndex
  rw [if_pos h, if_pos (by omega), if_neg (by omega), if_pos (by omega), if_pos h1]
  simp only [zb_s]
  rw [if_pos ⟨h0, h1⟩]
  rw [show zi2c (zand (zsb s k) 255) = zsc s k from rfl]
  rw [if_pos (by omega)]
  simp only [zb_s]
  rw [if_pos (by omega)]
theorem C_schar {K : zK} {s : Nat} {k : Int} {F : zF} {B : zB} (h : s < strL.length) (h0 : 0 ≤ k) (h1 : k < zsl s) (h2 : zsl s ≤ 1000) : f_CString_charAt K s k F B = some (zsc s k, F, B) := by
  have b := zsc_b s k
  unfold f_CString_charAt
  rw [if_pos h, C_slat h]
  simp only [zb_s]
  rw [if_pos (by decide), if_neg (by decide)]
  unfold f_CStringLatin1_charAt f_CString_checkIndex f_CPreconditions_checkIndex
  rw [if_pos h, if_pos (by omega), if_neg (by omega), if_pos (by omega), if_pos h1]
  simp only [zb_s]
  rw [if_pos ⟨h0, h1⟩]
  rw [show zi2c (zand (zsb s k) 255) = zsc s k from rfl]
  rw [if_pos (by omega)]
  simp only [zb_s]
  rw [if_pos (by omega)]
def idxS (s : Nat) (c : Int) : Nat → Int → Int
  | 0, _ => -1
  | f + 1, k => if zsl s ≤ k then -1 else if zsb s k = c then k else idxS s c f (k + 1)
theorem idxS_f {s : Nat} {c : Int} : ∀ {f g : Nat} {k : Int}, zsl s - k < f → zsl s - k < g → 0 < f → 0 < g → idxS s c f k = idxS s c g k := by
  intro f
  induction f with
  | zero => intro g k _ _ h _; omega
  | succ f ih =>
    intro g k a b _ d
    obtain ⟨g, rfl⟩ : ∃ x, g = x + 1 := ⟨g - 1, by omega⟩
    unfold idxS
    by_cases h : zsl s ≤ k
    · rw [if_pos h, if_pos h]
    · rw [if_neg h, if_neg h]
      by_cases q : zsb s k = c
      · rw [if_pos q, if_pos q]
      · rw [if_neg q, if_neg q]
        exact ih (by omega) (by omega) (by omega) (by omega)
theorem C_ixc {K : zK} {s : Nat} {c : Int} {F : zF} {B : zB} (h : s < strL.length) (hc : r32 c) (hl : zsl s ≤ 1000) : ∀ {n : Nat} {k : Int}, 0 ≤ k → k ≤ 1000 → zsl s - k < n → 0 < n → f_CStringLatin1_indexOfChar_7 K n k c s (zsl s) F B = some (idxS s c n k, F, B) := by
  intro n
  induction n with
  | zero => intro k _ _ _ d; omega
  | succ n ih =>
    intro k a b d _
    have h0 : 0 ≤ zsl s := by unfold zsl; omega
    unfold f_CStringLatin1_indexOfChar_7 idxS
    rw [if_pos (by omega), if_pos (by omega)]
    by_cases g : zsl s ≤ k
    · rw [if_pos g, if_pos g]
    · rw [if_neg g, if_neg g, if_pos h, if_pos (by omega), if_pos (zsb_r s k), if_pos hc]
      by_cases q : zsb s k = c
      · rw [if_pos q, if_pos q]
      · rw [if_neg q, if_neg q]
        exact ih (by omega) (by omega) (by omega) (by omega)
theorem C_indexOf {K : zK} {s : Nat} {b : Int} {F : zF} {B : zB} (hK : 102 ≤ K.1) (h : s < strL.length) (hz : zshr (zsl s) 0 = zsl s) (hl : 0 < zsl s) (hl2 : zsl s ≤ 100) (h0 : 0 ≤ b) (h1 : b < 256) : f_CString_indexOf_0 K s b F B = some (idxS s (zi2b b) 102 0, F, B) := by
  unfold f_CString_indexOf_0 f_CString_indexOf_1
  rw [if_pos h, if_pos h, C_slat h]
  simp only [zb_s]
  rw [if_pos (by decide), if_neg (by decide), C_slen h hz]
  simp only [zb_s]
  have e : f_CStringLatin1_indexOf K s b 0 (zsl s) F B = some (idxS s (zi2b b) 102 0, F, B) := by
    have z1 : zmax 0 0 = 0 := by decide
    have z2 : zmin (zsl s) (zsl s) = zsl s := by unfold zmin; rw [if_neg (by omega)]
    unfold f_CStringLatin1_indexOf f_CStringLatin1_canEncode f_CStringLatin1_canEncode_16
    rw [if_pos (by omega), if_neg (by omega), if_neg (by omega), if_pos (by decide)]
    simp only [zb_s]
    rw [if_pos (by decide), if_neg (by decide), if_pos (by decide), if_pos h, if_pos (by omega), if_pos (by omega), z1, z2, if_pos (by decide), if_pos (by omega), if_pos hl]
    unfold f_CStringLatin1_indexOfChar
    rw [C_ixc h (zi2b_q b) (by omega) (by omega) (by omega) (by omega) (by omega), idxS_f (g := 102) (by omega) (by omega) (by omega) (by omega)]
    rfl
  rw [e]
  rfl
def sgL : List Int := [123, 125, 91, 93, 60, 62, 40, 41, 58, 47, 46, 124, 126, 33, 39, 94, 45, 37, 61]
def bSg (b : Int) : Int := if b ∈ sgL then 1 else 0
theorem bSg_2 (b : Int) : bSg b = 0 ∨ bSg b = 1 := by unfold bSg; split <;> omega
theorem idx22 : ∀ c : Fin 256, -1 ≤ idxS 22 (zi2b (c.val : Int)) 102 0 ∧ idxS 22 (zi2b (c.val : Int)) 102 0 ≤ 18 ∧ (idxS 22 (zi2b (c.val : Int)) 102 0 < 0 ↔ bSg (c.val : Int) = 0) := by decide +kernel
theorem C_sign {K : zK} {b : Int} {F : zF} {B : zB} (hK : 102 ≤ K.1) (h0 : 0 ≤ b) (h1 : b < 256) : ∃ r, f_CString_indexOf_0 K 22 b F B = some (r, F, B) ∧ r32 r ∧ (r < 0 ↔ bSg b = 0) := by
  have i := idx22 ⟨b.toNat, by omega⟩
  rw [show (((⟨b.toNat, by omega⟩ : Fin 256).val : Nat) : Int) = b by show ((b.toNat : Nat) : Int) = b; omega] at i
  exact ⟨_, C_indexOf hK (by decide) (by decide) (by decide) (by decide) h0 h1, by omega, i.2.2⟩
def oneS (s : Nat) (c : Int) : Nat → Int → Int → Int
  | 0, _, a => a
  | f + 1, k, a => if zsl s ≤ k then a else oneS s c f (k + 1) (if a = 0 then (if zsc s k = c then 1 else 0) else 1)
theorem oneS_f {s : Nat} {c : Int} : ∀ {f g : Nat} {k a : Int}, zsl s - k < f → zsl s - k < g → 0 < f → 0 < g → oneS s c f k a = oneS s c g k a := by
  intro f
  induction f with
  | zero => intro g k a _ _ h _; omega
  | succ f ih =>
    intro g k a x y _ d
    obtain ⟨g, rfl⟩ : ∃ x, g = x + 1 := ⟨g - 1, by omega⟩
    unfold oneS
    by_cases h : zsl s ≤ k
    · rw [if_pos h, if_pos h]
    · rw [if_neg h, if_neg h]
      exact ih (by omega) (by omega) (by omega) (by omega)
theorem L_one {K : Nat} {s : Nat} {c : Int} {F : zF} {B : zB} (h : s < strL.length) (hz : zshr (zsl s) 0 = zsl s) (hc : r32 c) (hl : zsl s ≤ 1000) : ∀ {n : Nat} {k a : Int}, 0 ≤ k → k ≤ 1000 → zsl s - k < n → 0 < n → (a = 0 ∨ a = 1) → f_M_isOneOf_4 K n k a s c F B = some (oneS s c n k a, F, B) := by
  intro n
  induction n with
  | zero => intro k a _ _ _ d _; omega
  | succ n ih =>
    intro k a x y d _ ha
    have h0 : 0 ≤ zsl s := by unfold zsl; omega
    unfold f_M_isOneOf_4 oneS
    rw [if_pos h, L_slen h hz]
    simp only [zb_s]
    rw [if_pos (by omega), if_pos (by omega)]
    by_cases g : zsl s ≤ k
    · rw [if_pos g, if_pos g, if_pos ha]
    · have b := zsc_b s k
      rw [if_neg g, if_neg g, if_pos (by omega)]
      by_cases q : a = 0
      · rw [if_pos q, if_pos q, L_schar h x (by omega) hl]
        simp only [zb_s]
        rw [if_pos (by omega), if_pos hc]
        by_cases w : zsc s k = c
        · rw [if_pos w, if_pos w]
          unfold f_M_isOneOf_25 f_M_isOneOf_30
          exact ih (by omega) (by omega) (by omega) (by omega) (by omega)
        · rw [if_neg w, if_neg w]
          unfold f_M_isOneOf_30
          exact ih (by omega) (by omega) (by omega) (by omega) (by omega)
      · rw [if_neg q, if_neg q]
        unfold f_M_isOneOf_25 f_M_isOneOf_30
        exact ih (by omega) (by omega) (by omega) (by omega) (by omega)
theorem one35 : ∀ c : Fin 256, oneS 35 (c.val : Int) 21 0 0 = bSg (c.val : Int) := by decide +kernel
theorem L_sign {K : Nat} {b : Int} {F : zF} {B : zB} (hK : 102 ≤ K) (h0 : 0 ≤ b) (h1 : b < 256) : f_M_isOneOf K 35 b F B = some (bSg b, F, B) := by
  have i := one35 ⟨b.toNat, by omega⟩
  rw [show (((⟨b.toNat, by omega⟩ : Fin 256).val : Nat) : Int) = b by show ((b.toNat : Nat) : Int) = b; omega] at i
  have hl : zsl 35 = 19 := by decide
  unfold f_M_isOneOf
  rw [L_one (by decide) (by decide) (by omega) (by decide) (by omega) (by omega) (by omega) (by omega) (by omega), oneS_f (g := 21) (by omega) (by omega) (by omega) (by omega), i]
end
end
section
section
/-! ===== the tokens of a text, as a list of places; the class finds them ===== -/
def lexL (t : Int → Int) (n : Int) : Nat → Int → List (Int × Int)
  | 0, _ => []
  | f + 1, p => if n ≤ p then [] else if bBlank (t p) = 0 then (if bRun (t p) = 0 then (p, p + 1) :: lexL t n f (p + 1) else (p, runQ t n p) :: lexL t n f (runQ t n p)) else lexL t n f (p + 1)
theorem runQ_b {t : Int → Int} {n p : Int} (hn : n ≤ 3000) (h0 : 0 ≤ p) (h : ¬ n ≤ p) (hb : ¬ bRun (t p) = 0) : p < runQ t n p ∧ runQ t n p ≤ n := runE_run h hb (by omega)
theorem lexL_f {t : Int → Int} {n : Int} (hn : n ≤ 3000) : ∀ {f g : Nat} {p : Int}, 0 ≤ p → n - p < f → n - p < g → 0 < f → 0 < g → lexL t n f p = lexL t n g p := by
  intro f
  induction f with
  | zero => intro g p _ _ _ h _; omega
  | succ f ih =>
    intro g p h0 a b _ d
    obtain ⟨g, rfl⟩ : ∃ x, g = x + 1 := ⟨g - 1, by omega⟩
    unfold lexL
    by_cases h : n ≤ p
    · rw [if_pos h, if_pos h]
    · rw [if_neg h, if_neg h]
      by_cases q : bBlank (t p) = 0
      · rw [if_pos q, if_pos q]
        by_cases w : bRun (t p) = 0
        · rw [if_pos w, if_pos w, ih (g := g) (by omega) (by omega) (by omega) (by omega) (by omega)]
        · have := runQ_b hn h0 h w
          rw [if_neg w, if_neg w, ih (g := g) (by omega) (by omega) (by omega) (by omega) (by omega)]
      · rw [if_neg q, if_neg q, ih (g := g) (by omega) (by omega) (by omega) (by omega) (by omega)]
def lexF (t : Int → Int) (n p : Int) : List (Int × Int) := lexL t n 3002 p
theorem lexF_0 {t : Int → Int} {n p : Int} (h : n ≤ p) : lexF t n p = [] := by
  unfold lexF
  show lexL t n (3001 + 1) p = _
  unfold lexL
  rw [if_pos h]
theorem lexF_b {t : Int → Int} {n p : Int} (hn : n ≤ 3000) (h0 : 0 ≤ p) (h : ¬ n ≤ p) (hb : ¬ bBlank (t p) = 0) : lexF t n p = lexF t n (p + 1) := by
  rw [show lexF t n p = lexL t n (3001 + 1) p from rfl]
  unfold lexL
  rw [if_neg h, if_neg hb]
  exact lexL_f (f := 3001) (g := 3002) hn (by omega) (by omega) (by omega) (by omega) (by omega)
theorem lexF_s {t : Int → Int} {n p : Int} (hn : n ≤ 3000) (h0 : 0 ≤ p) (h : ¬ n ≤ p) (hb : bBlank (t p) = 0) (hr : bRun (t p) = 0) : lexF t n p = (p, p + 1) :: lexF t n (p + 1) := by
  rw [show lexF t n p = lexL t n (3001 + 1) p from rfl]
  unfold lexL
  rw [if_neg h, if_pos hb, if_pos hr]
  rw [lexL_f (f := 3001) (g := 3002) hn (by omega) (by omega) (by omega) (by omega) (by omega)]
  rfl
theorem lexF_r {t : Int → Int} {n p : Int} (hn : n ≤ 3000) (h0 : 0 ≤ p) (h : ¬ n ≤ p) (hb : bBlank (t p) = 0) (hr : ¬ bRun (t p) = 0) : lexF t n p = (p, runQ t n p) :: lexF t n (runQ t n p) := by
  have := runQ_b hn h0 h hr
  rw [show lexF t n p = lexL t n (3001 + 1) p from rfl]
  unfold lexL
  rw [if_neg h, if_pos hb, if_neg hr]
  rw [lexL_f (f := 3001) (g := 3002) hn (by omega) (by omega) (by omega) (by omega) (by omega)]
  rfl
def tokK (t : Int → Int) (a : Int × Int) : Int := if bRun (t a.1) = 0 then (if bSg (t a.1) = 0 then 1 else 5) else runK t a.1 (a.2 - a.1)
def tokV (t : Int → Int) (a : Int × Int) : Int := if bRun (t a.1) = 0 then t a.1 else runV t a.1 a.2
def lexC (t : Int → Int) (n : Int) : List (Int × Int) → Int → zB → Prop
  | [], T, B => B 10 0 5 T = 0 ∧ B 10 0 6 T = n ∧ B 10 0 7 T = 0
  | a :: L, T, B => B 10 0 5 T = tokK t a ∧ B 10 0 6 T = a.1 ∧ B 10 0 7 T = tokV t a ∧ lexC t n L (T + 1) B
/-- nothing but the rows ks of object 0 of class cc changes, and these from T on alone -/
def frG (cc : Nat) (ks : List Nat) (T : Int) (B B' : zB) : Prop := ∀ c i k j, ¬ (c = cc ∧ i = 0 ∧ k ∈ ks ∧ T ≤ j) → B' c i k j = B c i k j
theorem frG_r {cc : Nat} {ks : List Nat} {T : Int} {B : zB} : frG cc ks T B B := fun _ _ _ _ _ => rfl
theorem frG_u {cc : Nat} {ks : List Nat} {k : Nat} {T v j : Int} {B B' : zB} (h : frG cc ks T B B') (hk : k ∈ ks) (hj : T ≤ j) : frG cc ks T B (zup4 B' cc 0 k j v) := by
  intro c i x y hn
  rw [zup4_v, if_neg (fun z => hn ⟨z.1, z.2.1, by rw [z.2.2.1]; exact hk, by rw [z.2.2.2]; exact hj⟩)]
  exact h c i x y hn
theorem frG_t {cc : Nat} {ks : List Nat} {T : Int} {B B' B'' : zB} (h : frG cc ks T B B') (h' : frG cc ks T B' B'') : frG cc ks T B B'' := fun c i k j hn => by rw [h' c i k j hn, h c i k j hn]
theorem frG_m {cc : Nat} {ks : List Nat} {T U : Int} {B B' : zB} (h : frG cc ks T B B') (hk : U ≤ T) : frG cc ks U B B' := fun c i k j hn => h c i k j (fun z => hn ⟨z.1, z.2.1, z.2.2.1, Int.le_trans hk z.2.2.2⟩)
theorem frG_c {ks : List Nat} {T : Int} {B B' : zB} (h : frC ks T B B') (hk : ∀ k ∈ ks, k ∈ [5, 6, 7]) : frG 10 [5, 6, 7] T B B' := fun c i k j hn => h c i k j (fun z => hn ⟨z.1, z.2.1, hk k z.2.2.1, Int.le_of_eq z.2.2.2.symm⟩)
theorem frG_f {ks ls : List Nat} {T : Int} {B B' : zB} (h : frT ks T B B') (hk : ∀ k ∈ ks, k ∈ ls) : frG 14 ls T B B' := fun c i k j hn => h c i k j (fun z => hn ⟨z.1, z.2.1, hk k z.2.2.1, Int.le_of_eq z.2.2.2.symm⟩)
theorem frG_0 {cc : Nat} {ks : List Nat} {T : Int} {B B' : zB} (h : frG cc ks T B B') (hc : cc ≠ 0) : B' 0 0 0 = B 0 0 0 := by
  funext y; exact h 0 0 0 y (fun z => hc z.1.symm)
theorem lexC_1 {t : Int → Int} {n : Int} {a : Int × Int} {L : List (Int × Int)} {T : Int} {B B' : zB} (h5 : B 10 0 5 T = tokK t a) (h6 : B 10 0 6 T = a.1) (h7 : B 10 0 7 T = tokV t a) (f : frG 10 [5, 6, 7] (T + 1) B B') (h : lexC t n L (T + 1) B') : lexC t n (a :: L) T B' := by
  refine ⟨?_, ?_, ?_, h⟩
  · rw [f 10 0 5 T (fun z => by have := z.2.2.2; omega)]; exact h5
  · rw [f 10 0 6 T (fun z => by have := z.2.2.2; omega)]; exact h6
  · rw [f 10 0 7 T (fun z => by have := z.2.2.2; omega)]; exact h7
/-- the class's step to its next token -/
def advF (F : zF) (B : zB) : zF := if B 10 0 5 (F 10 0 8) = 2 then zup3 (zup3 (zup3 (zup3 (zup3 (zup3 F 10 0 0 (B 10 0 5 (F 10 0 8))) 10 0 1 (B 10 0 6 (F 10 0 8))) 10 0 2 (B 10 0 7 (F 10 0 8))) 10 0 3 (zdv (B 10 0 7 (F 10 0 8)) 8)) 10 0 4 ((zrm (B 10 0 7 (F 10 0 8)) 8) - 2)) 10 0 8 (if 3000 ≤ F 10 0 8 then F 10 0 8 else F 10 0 8 + 1) else zup3 (zup3 (zup3 (zup3 F 10 0 0 (B 10 0 5 (F 10 0 8))) 10 0 1 (B 10 0 6 (F 10 0 8))) 10 0 2 (B 10 0 7 (F 10 0 8))) 10 0 8 (if B 10 0 5 (F 10 0 8) = 0 ∨ 3000 ≤ F 10 0 8 then F 10 0 8 else F 10 0 8 + 1)
theorem zup3_id {F : zF} {c k : Nat} {i v : Int} (h : F c i k = v) : zup3 F c i k v = F := by
  funext c' i' k'
  rw [zup3_v]
  split
  · rename_i z; rw [z.1, z.2.1, z.2.2]; exact h.symm
  · rfl
theorem C_advance {K : zK} {F : zF} {B : zB} (hK10 : 0 < K.2 10) (h0 : 0 ≤ F 10 0 8) (h1 : F 10 0 8 < 3001) (hr : r32 (B 10 0 5 (F 10 0 8))) : f_Tokens_advance K 0 F B = some (0, advF F B, B) := by
  refine zW_ex ?_
  unfold f_Tokens_advance
  refine zW_g ⟨by omega, hK10⟩ ?_
  refine zW_g ⟨h0, h1⟩ ?_
  refine zW_g hr ?_
  refine zW_i (fun h2 => ?_) (fun h2 => ?_)
  · unfold f_Tokens_advance_73
    refine zW_g ⟨by omega, hK10⟩ ?_
    refine zW_g (by simp [zup3_v]; omega) ?_
    refine zW_i (fun h3 => ?_) (fun h3 => ?_)
    · exfalso; simp [zup3_v] at h3; omega
    · refine zW_g (by simp [zup3_v]; omega) ?_
      refine zW_i (fun h4 => ?_) (fun h4 => ?_)
      · simp [zup3_v] at h4
        unfold f_Tokens_advance_100
        refine zW_s ⟨rfl, ?_, rfl⟩
        unfold advF
        rw [if_pos h2, if_pos h4]
        exact (zup3_id (by simp [zup3_v])).symm
      · simp [zup3_v] at h4
        unfold f_Tokens_advance_100
        refine zW_s ⟨rfl, ?_, rfl⟩
        unfold advF
        rw [if_pos h2, if_neg (by omega)]
        simp [zup3_v]
  · unfold f_Tokens_advance_73
    refine zW_g ⟨by omega, hK10⟩ ?_
    refine zW_g (by simp [zup3_v]; omega) ?_
    refine zW_i (fun h3 => ?_) (fun h3 => ?_)
    · simp [zup3_v] at h3
      unfold f_Tokens_advance_100
      refine zW_s ⟨rfl, ?_, rfl⟩
      unfold advF
      rw [if_neg h2, if_pos (Or.inl h3)]
      exact (zup3_id (by simp [zup3_v])).symm
    · simp [zup3_v] at h3
      refine zW_g (by simp [zup3_v]; omega) ?_
      refine zW_i (fun h4 => ?_) (fun h4 => ?_)
      · simp [zup3_v] at h4
        unfold f_Tokens_advance_100
        refine zW_s ⟨rfl, ?_, rfl⟩
        unfold advF
        rw [if_neg h2, if_pos (Or.inr h4)]
        exact (zup3_id (by simp [zup3_v])).symm
      · simp [zup3_v] at h4
        unfold f_Tokens_advance_100
        refine zW_s ⟨rfl, ?_, rfl⟩
        unfold advF
        rw [if_neg h2, if_neg (by omega)]
        simp [zup3_v]
theorem k5_u {B : zB} {k : Nat} {T v : Int} (h : ∀ j, r32 (B 10 0 5 j)) (hv : r32 v) : ∀ j, r32 (zup4 B 10 0 k T v 10 0 5 j) := by
  intro j
  rw [zup4_v]
  split
  · exact hv
  · exact h j
theorem k5_o {B : zB} {k : Nat} {T v : Int} (h : ∀ j, r32 (B 10 0 5 j)) (hk : k ≠ 5) : ∀ j, r32 (zup4 B 10 0 k T v 10 0 5 j) := by
  intro j
  rw [zup4_v, if_neg (fun z => hk z.2.2.1.symm)]
  exact h j
theorem runK_r (t : Int → Int) (p s : Int) : 1 ≤ runK t p s ∧ runK t p s ≤ 4 := by
  unfold runK
  split
  · omega
  · split
    · omega
    · split <;> omega
/-- what the class's tokens are, once they are found -/
def lexP (t : Int → Int) (n p T : Int) (F : zF) (B : zB) (F' : zF) (B' : zB) : Prop := F' = advF (zup3 F 10 0 8 0) B' ∧ lexC t n (lexF t n p) T B' ∧ frG 10 [5, 6, 7] T B B' ∧ ∀ j, r32 (B' 10 0 5 j)
theorem C_st135 {K : zK} {F : zF} {B : zB} {t : Int → Int} {n p T : Int} (hK0 : 0 < K.2 0) (hK10 : 0 < K.2 10) (hn : F 0 0 1 = n) (hT : 0 ≤ T ∧ T < 3001) (hp : n ≤ p) (h5 : ∀ j, r32 (B 10 0 5 j)) : zW (f_Tokens_start_135 K T 0 0 F B) (fun _ F' B' => lexP t n p T F B F' B') := by
  have k5 : ∀ j, r32 ((zup4 (zup4 (zup4 B 10 0 5 T 0) 10 0 6 T (F 0 0 1)) 10 0 7 T 0) 10 0 5 j) := k5_o (k5_o (k5_u h5 (by decide)) (by decide)) (by decide)
  unfold f_Tokens_start_135
  refine zW_g ⟨by omega, hK10⟩ ?_
  refine zW_g hT ?_
  refine zW_g ⟨by omega, hK0⟩ ?_
  refine zW_e (C_advance hK10 (by simp [zup3_v]) (by simp [zup3_v]) (k5 _)) ?_
  refine zW_s ⟨rfl, ?_, frG_u (frG_u (frG_u frG_r (by decide) (by omega)) (by decide) (by omega)) (by decide) (by omega), k5⟩
  rw [lexF_0 hp]
  refine ⟨?_, ?_, ?_⟩
  · simp [zup4_v]
  · simp [zup4_v, hn]
  · simp [zup4_v]
theorem C_st7 {K : zK} {F : zF} {t : Int → Int} {n : Int} (hK : 3002 ≤ K.1) (hK0 : 0 < K.2 0) (hK10 : 0 < K.2 10) (hn : F 0 0 1 = n) (n0 : 0 ≤ n) (n2 : n ≤ 3000) (hb : ∀ y, 0 ≤ t y ∧ t y < 256) : ∀ {m : Nat} {i T p : Int} {B : zB}, 0 ≤ i → i ≤ p → 0 ≤ T → T ≤ p → p ≤ n → n - p < m → B 0 0 0 = t → (∀ j, r32 (B 10 0 5 j)) → zW (f_Tokens_start_7 K m i T p 0 0 F B) (fun _ F' B' => lexP t n p T F B F' B') := by
  intro m
  induction m with
  | zero => intro i T p B _ _ _ _ _ _; omega
  | succ m ih =>
    intro i T p B i0 i1 T0 T1 p1 hm ht k5
    have hbp := hb p
    have e6 : (zup4 B 10 0 6 T p) 0 0 0 = t := (frG_0 (frG_u (cc := 10) (ks := [5, 6, 7]) (T := T) frG_r (by decide) (by omega)) (by decide)).trans ht
    have h56 : ∀ j, r32 ((zup4 B 10 0 6 T p) 10 0 5 j) := k5_o k5 (by decide)
    unfold f_Tokens_start_7
    refine zW_g (by omega) ?_
    refine zW_i (fun h1 => ?_) (fun h1 => ?_)
    · skip
      exact C_st135 hK0 hK10 hn (by omega) (by omega) k5
    · skip
      refine zW_g (by omega) ?_
      refine zW_g (by omega) ?_
      refine zW_g (by omega) ?_
      refine zW_i (fun h2 => ?_) (fun h2 => ?_)
      · skip
        exact C_st135 hK0 hK10 hn (by omega) (by omega) k5
      · skip
        have hat : f_ByteRow_at K 0 p F B = some (t p, F, B) := by
          rw [← ht]; exact C_at0 hK0 (by omega) (by omega) (by omega)
        refine zW_e (hat) ?_
        refine zW_e (C_Blank (by omega)) ?_
        refine zW_g (by exact bBlank_r _) ?_
        refine zW_i (fun h3 => ?_) (fun h3 => ?_)
        · skip
          refine zW_e (C_Run (by omega)) ?_
          refine zW_g (by exact bRun_r _) ?_
          refine zW_i (fun h4 => ?_) (fun h4 => ?_)
          · skip
            unfold f_Tokens_start_63
            refine zW_g (by omega) ?_
            refine zW_g (by omega) ?_
            refine zW_e (C_Run (by omega)) ?_
            refine zW_g (by exact bRun_r _) ?_
            refine zW_i (fun h5 => ?_) (fun h5 => ?_)
            · skip
              rw [zi2c_b (b := t p) (by omega) (by omega)]
              obtain ⟨r21, hs1, hs2, hs3⟩ := C_sign (K := K) (b := t p) (F := F) (B := zup4 B 10 0 6 T p) (by omega) (by omega) (by omega)
              refine zW_e (hs1) ?_
              refine zW_g (by exact hs2) ?_
              refine zW_i (fun h6 => ?_) (fun h6 => ?_)
              · skip
                unfold f_Tokens_start_113
                refine zW_g (by omega) ?_
                refine zW_g (by omega) ?_
                refine zW_g (by omega) ?_
                refine zW_g (by omega) ?_
                refine zW_g (by omega) ?_
                unfold f_Tokens_start_123
                unfold f_Tokens_start_129
                have hsg : bSg (t p) = 0 := hs3.mp h6
                refine zW_m (ih (i := i + 1) (T := T + 1) (p := p + 1) (by omega) (by omega) (by omega) (by omega) (by omega) (by omega) ((frG_0 (frG_u (frG_u (frG_u (cc := 10) (ks := [5, 6, 7]) (T := T) frG_r (by decide) (by omega)) (by decide) (by omega)) (by decide) (by omega)) (by decide)).trans ht) (k5_o (k5_u h56 (by decide)) (by decide))) (fun r F' B' hh => ?_)
                obtain ⟨g1, g2, g3, g4⟩ := hh
                refine ⟨g1, ?_, frG_t (frG_u (frG_u (frG_u (cc := 10) (ks := [5, 6, 7]) (T := T) frG_r (by decide) (by omega)) (by decide) (by omega)) (by decide) (by omega)) (frG_m g3 (by omega)), g4⟩
                rw [lexF_s n2 (by omega) (by omega) h3 h4]
                refine lexC_1 ?_ ?_ ?_ g3 g2
                · simp [zup4_v, tokK, h4, hsg]
                · simp [zup4_v]
                · simp [zup4_v, tokV, h4]
              · skip
                unfold f_Tokens_start_113
                refine zW_g (by omega) ?_
                refine zW_g (by omega) ?_
                refine zW_g (by omega) ?_
                refine zW_g (by omega) ?_
                refine zW_g (by omega) ?_
                unfold f_Tokens_start_123
                unfold f_Tokens_start_129
                have hsg : ¬ bSg (t p) = 0 := fun z => h6 (hs3.mpr z)
                refine zW_m (ih (i := i + 1) (T := T + 1) (p := p + 1) (by omega) (by omega) (by omega) (by omega) (by omega) (by omega) ((frG_0 (frG_u (frG_u (frG_u (cc := 10) (ks := [5, 6, 7]) (T := T) frG_r (by decide) (by omega)) (by decide) (by omega)) (by decide) (by omega)) (by decide)).trans ht) (k5_o (k5_u h56 (by decide)) (by decide))) (fun r F' B' hh => ?_)
                obtain ⟨g1, g2, g3, g4⟩ := hh
                refine ⟨g1, ?_, frG_t (frG_u (frG_u (frG_u (cc := 10) (ks := [5, 6, 7]) (T := T) frG_r (by decide) (by omega)) (by decide) (by omega)) (by decide) (by omega)) (frG_m g3 (by omega)), g4⟩
                rw [lexF_s n2 (by omega) (by omega) h3 h4]
                refine lexC_1 ?_ ?_ ?_ g3 g2
                · simp [zup4_v, tokK, h4, hsg]
                · simp [zup4_v]
                · simp [zup4_v, tokV, h4]
            · skip
              exact absurd h4 h5
          · skip
            have hq := runQ_b (t := t) (n := n) (p := p) n2 (by omega) (by omega) h4
            have hrE : f_Tokens_runEnd K 0 p F B = some (runQ t n p, F, B) := by
              unfold f_Tokens_runEnd
              rw [C_runEnd hK0 (by omega) (by rw [ht]; exact hb) (by omega) (by omega) (by omega), ht, hn, runE_f (f := K.1) (g := 3002) (by omega) (by omega)]
              rfl
            refine zW_e (hrE) ?_
            unfold f_Tokens_start_63
            refine zW_g (by omega) ?_
            refine zW_g (by omega) ?_
            refine zW_e (C_Run (by omega)) ?_
            refine zW_g (by exact bRun_r _) ?_
            refine zW_i (fun h7 => ?_) (fun h7 => ?_)
            · skip
              exact absurd h7 h4
            · skip
              refine zW_b (C_keepRun hK hK0 hK10 (by omega) (by rw [e6]; exact hb) (by omega) (by omega) hq.1 (by omega)) (fun r24 F24 B24 er24 => ?_)
              unfold f_Tokens_start_123
              unfold f_Tokens_start_129
              obtain ⟨e24, k1, k2, k3⟩ := er24
              rw [e6] at k2 k3
              rw [e24]
              have k24 : ∀ j, r32 (B24 10 0 5 j) := by
                intro j
                by_cases hj : j = T
                · rw [hj, k2]
                  have := runK_r t p (runQ t n p - p)
                  omega
                · rw [k1 10 0 5 j (fun z => hj z.2.2.2)]; exact h56 j
              refine zW_m (ih (i := i + 1) (T := T + 1) (p := runQ t n p) (by omega) (by omega) (by omega) (by omega) (by omega) (by omega) ((frC_0 k1).trans e6) k24) (fun r F' B' hh => ?_)
              obtain ⟨g1, g2, g3, g4⟩ := hh
              refine ⟨g1, ?_, frG_t (frG_t (frG_u frG_r (by decide) (by omega)) (frG_c k1 (by decide))) (frG_m g3 (by omega)), g4⟩
              rw [lexF_r n2 (by omega) (by omega) h3 h4]
              refine lexC_1 ?_ ?_ ?_ g3 g2
              · rw [k2]; simp [tokK, h4]
              · rw [k1 10 0 6 T (by simp)]; simp [zup4_v]
              · rw [k3]; simp [tokV, h4]
        · skip
          unfold f_Tokens_start_129
          rw [show lexP t n p T F B = lexP t n (p + 1) T F B by unfold lexP; rw [lexF_b n2 (by omega) (by omega) h3]]
          exact ih (by omega) (by omega) (by omega) (by omega) (by omega) (by omega) ht k5
theorem C_start {K : zK} {F : zF} {B : zB} {t : Int → Int} {n : Int} (hK : 3002 ≤ K.1) (hK0 : 0 < K.2 0) (hK10 : 0 < K.2 10) (hn : F 0 0 1 = n) (h0 : 0 ≤ n) (h2 : n ≤ 3000) (hb : ∀ y, 0 ≤ t y ∧ t y < 256) (ht : B 0 0 0 = t) (h5 : ∀ j, r32 (B 10 0 5 j)) : zW (f_Tokens_start K 0 0 F B) (fun _ F' B' => lexP t n 0 0 F B F' B') := by
  unfold f_Tokens_start
  exact C_st7 hK hK0 hK10 hn h0 h2 hb (by omega) (by omega) (by omega) (by omega) (by omega) (by omega) ht h5
end
end
section
section
/-! ===== the reference finds the same tokens ===== -/
def tokQ (t : Int → Int) (a : Int × Int) (v al w : Int) : Prop := (tokK t a = 3 → v = tokV t a) ∧ (tokK t a = 4 → w = tokV t a) ∧ (tokK t a = 2 → 8 * v + al + 2 = tokV t a ∧ 0 ≤ v ∧ v ≤ 62 ∧ -2 ≤ al ∧ al ≤ 2) ∧ (tokK t a = 5 → v = tokV t a)
def lexM (t : Int → Int) (n : Int) : List (Int × Int) → Int → zB → Prop
  | [], T, B => B 14 0 7 T = 0 ∧ B 14 0 8 T = n
  | a :: L, T, B => B 14 0 7 T = tokK t a ∧ B 14 0 8 T = a.1 ∧ tokQ t a (B 14 0 9 T) (B 14 0 10 T) (B 14 0 11 T) ∧ lexM t n L (T + 1) B
theorem lexM_1 {t : Int → Int} {n : Int} {a : Int × Int} {L : List (Int × Int)} {T : Int} {B B' : zB} (h7 : B 14 0 7 T = tokK t a) (h8 : B 14 0 8 T = a.1) (hq : tokQ t a (B 14 0 9 T) (B 14 0 10 T) (B 14 0 11 T)) (f : frG 14 [7, 8, 9, 10, 11] (T + 1) B B') (h : lexM t n L (T + 1) B') : lexM t n (a :: L) T B' := by
  have g : ∀ k, B' 14 0 k T = B 14 0 k T := fun k => f 14 0 k T (fun z => by have := z.2.2.2; omega)
  refine ⟨?_, ?_, ?_, h⟩
  · rw [g]; exact h7
  · rw [g]; exact h8
  · rw [g, g, g]; exact hq
theorem runK_2 {t : Int → Int} {p s : Int} (h : runK t p s = 2) : pitS t p s = 1 := by
  rw [runK_c] at h
  by_cases g : pitS t p s = 1
  · exact g
  · rw [if_neg g] at h
    split at h
    · omega
    · split at h <;> omega
theorem runK_3 {t : Int → Int} {p s : Int} (h : runK t p s = 3) : cnt bDig t p s.toNat = s ∧ s ≤ 4 := by
  unfold runK at h
  by_cases g : cnt bDig t p s.toNat = s ∧ s ≤ 4
  · exact g
  · rw [if_neg g] at h
    split at h
    · omega
    · split at h <;> omega
theorem runK_4 {t : Int → Int} {p s : Int} (h : runK t p s = 4) : cnt bLet t p s.toNat = s ∧ s ≤ 8 := by
  unfold runK at h
  by_cases g : cnt bDig t p s.toNat = s ∧ s ≤ 4
  · rw [if_pos g] at h; omega
  · rw [if_neg g] at h
    by_cases k : cnt bLet t p s.toNat = s ∧ s ≤ 8
    · exact k
    · rw [if_neg k] at h
      split at h <;> omega
theorem tokQ_run {t : Int → Int} {p q v al w : Int} (hp : p < q) (hr : ¬ bRun (t p) = 0) (h3 : runK t p (q - p) = 3 → v = nmv t 10 48 p (q - p).toNat) (h4 : runK t p (q - p) = 4 → w = wrd t p (q - p).toNat) (h2 : runK t p (q - p) = 2 → v = pitV t p q ∧ al = pitA t p (q - p)) : tokQ t (p, q) v al w := by
  have hk : tokK t (p, q) = runK t p (q - p) := by simp [tokK, hr]
  have hv : tokV t (p, q) = runV t p q := by simp [tokV, hr]
  unfold tokQ
  rw [hk, hv]
  refine ⟨fun z => ?_, fun z => ?_, fun z => ?_, fun z => ?_⟩
  · rw [h3 z]; unfold runV; rw [z, if_neg (by decide), if_pos rfl]
  · have k := runK_4 z
    have e := wrd_e (t := t) (p := p) (m := (q - p).toNat) (by omega) (fun j hj => bLet_is (cnt_all (t := t) (p := p) bLet_b (m := (q - p).toNat) (by omega) hj))
    rw [h4 z, e.1]; unfold runV; rw [z, if_neg (by decide), if_neg (by decide), if_pos rfl]
  · have k := pitS_k (runK_2 z)
    have e := h2 z
    rw [show p + (q - p) - 1 = q - 1 by omega] at k
    have hA : -2 ≤ pitA t p (q - p) ∧ pitA t p (q - p) ≤ 2 := by unfold pitA; split <;> omega
    have hV : 0 ≤ pitV t p q ∧ pitV t p q ≤ 62 := by unfold pitV; omega
    have hR : runV t p q = 8 * pitV t p q + pitA t p (q - p) + 2 := by unfold runV; rw [if_pos z]
    omega
  · have := runK_r t p (q - p); omega
theorem zup3_2 {F : zF} {c k : Nat} {i v w : Int} : zup3 (zup3 F c i k v) c i k w = zup3 F c i k w := by
  funext c' i' k'
  rw [zup3_v, zup3_v, zup3_v]
  split
  · rfl
  · rfl
theorem tmB_fr {ks : List Nat} {T : Int} {B B' : zB} (h : frT ks T B B') (hk : 2 ∉ ks) : tmB B' = tmB B := by
  funext y
  unfold tmB
  rw [h 14 0 2 y (fun z => hk z.2.2.1)]
def lexR (t : Int → Int) (n p T : Int) (F : zF) (B : zB) (F' : zF) (B' : zB) : Prop := F' = zup3 F 14 0 12 (T + (lexF t n p).length) ∧ lexM t n (lexF t n p) T B' ∧ frG 14 [7, 8, 9, 10, 11] T B B'
theorem L_c7 {K : Nat} {t : Int → Int} {n : Int} (hK : 3002 ≤ K) (n0 : 0 ≤ n) (n2 : n ≤ 3000) : ∀ {m : Nat} {p T : Int} {F : zF} {B : zB}, F 14 0 3 = n → F 14 0 12 = T → 0 ≤ T → T ≤ p → p ≤ n → n - p < m → tmB B = t → zW (f_M_cut_7 K m p F B) (fun _ F' B' => lexR t n p T F B F' B') := by
  intro m
  induction m with
  | zero => intro p T F B _ _ _ _ _ _; omega
  | succ m ih =>
    intro p T F B hn hT T0 T1 p1 hm ht
    subst hT
    have hbp := tmB_b B p
    rw [ht] at hbp
    have t2 : tmB (zup4 (zup4 B 14 0 8 (F 14 0 12) p) 14 0 11 (F 14 0 12) 0) = t := (tmB_up (by decide)).trans ((tmB_up (by decide)).trans ht)
    unfold f_M_cut_7
    refine zW_g (by omega) ?_
    refine zW_g (by omega) ?_
    refine zW_i (fun h1 => ?_) (fun h1 => ?_)
    · skip
      refine zW_g (by omega) ?_
      refine zW_s ?_
      refine ⟨?_, ?_, frG_u (frG_u frG_r (by decide) (by omega)) (by decide) (by omega)⟩
      · rw [lexF_0 (by omega)]; exact (zup3_id (by simp)).symm
      · rw [lexF_0 (by omega)]
        refine ⟨?_, ?_⟩
        · simp [zup4_v]
        · simp [zup4_v, hn]
    · skip
      have hby : f_M_byteAt K p F B = some (t p, F, B) := by
        rw [← ht]; exact L_byteA (by omega) (by omega)
      refine zW_e (hby) ?_
      refine zW_g (by omega) ?_
      refine zW_i (fun h2 => ?_) (fun h2 => ?_)
      · skip
        unfold f_M_cut_45
        have hbl : ¬ bBlank (t p) = 0 := by rw [bBlank_0]; omega
        rw [show lexR t n p (F 14 0 12) F B = lexR t n (p + 1) (F 14 0 12) F B by unfold lexR; rw [lexF_b n2 (by omega) (by omega) hbl]]
        exact ih hn rfl (by omega) (by omega) (by omega) (by omega) ht
      · skip
        refine zW_i (fun h3 => ?_) (fun h3 => ?_)
        · skip
          unfold f_M_cut_45
          have hbl : ¬ bBlank (t p) = 0 := by rw [bBlank_0]; omega
          rw [show lexR t n p (F 14 0 12) F B = lexR t n (p + 1) (F 14 0 12) F B by unfold lexR; rw [lexF_b n2 (by omega) (by omega) hbl]]
          exact ih hn rfl (by omega) (by omega) (by omega) (by omega) ht
        · skip
          refine zW_i (fun h4 => ?_) (fun h4 => ?_)
          · skip
            unfold f_M_cut_45
            have hbl : ¬ bBlank (t p) = 0 := by rw [bBlank_0]; omega
            rw [show lexR t n p (F 14 0 12) F B = lexR t n (p + 1) (F 14 0 12) F B by unfold lexR; rw [lexF_b n2 (by omega) (by omega) hbl]]
            exact ih hn rfl (by omega) (by omega) (by omega) (by omega) ht
          · skip
            refine zW_i (fun h5 => ?_) (fun h5 => ?_)
            · skip
              unfold f_M_cut_45
              have hbl : ¬ bBlank (t p) = 0 := by rw [bBlank_0]; omega
              rw [show lexR t n p (F 14 0 12) F B = lexR t n (p + 1) (F 14 0 12) F B by unfold lexR; rw [lexF_b n2 (by omega) (by omega) hbl]]
              exact ih hn rfl (by omega) (by omega) (by omega) (by omega) ht
            · skip
              refine zW_g (by omega) ?_
              refine zW_e (L_Run (by omega)) ?_
              refine zW_g (by exact bRun_r _) ?_
              refine zW_i (fun h6 => ?_) (fun h6 => ?_)
              · skip
                refine zW_e (L_sign (by omega) (by omega) (by omega)) ?_
                refine zW_g (by have := bSg_2 (t p); omega) ?_
                refine zW_i (fun h7 => ?_) (fun h7 => ?_)
                · skip
                  unfold f_M_cut_110
                  refine zW_g (by omega) ?_
                  refine zW_g (by omega) ?_
                  unfold f_M_cut_124
                  have hbl : bBlank (t p) = 0 := by rw [bBlank_0]; omega
                  have hk : tokK t (p, p + 1) = 1 := by simp [tokK, h6, h7]
                  refine zW_m (ih (p := p + 1) (T := F 14 0 12 + 1) (by simp [zup3_v]; exact hn) (by simp [zup3_v]) (by omega) (by omega) (by omega) (by omega) ((tmB_up (by decide)).trans ((tmB_up (by decide)).trans t2))) (fun r F' B' hh => ?_)
                  obtain ⟨g1, g2, g3⟩ := hh
                  refine ⟨?_, ?_, frG_t (frG_u (frG_u (frG_u (frG_u (cc := 14) (ks := [7, 8, 9, 10, 11]) (T := F 14 0 12) frG_r (by decide) (by omega)) (by decide) (by omega)) (by decide) (by omega)) (by decide) (by omega)) (frG_m g3 (by omega))⟩
                  · rw [g1, zup3_2, lexF_s n2 (by omega) (by omega) hbl h6]
                    rw [show F 14 0 12 + 1 + ((lexF t n (p + 1)).length : Int) = F 14 0 12 + (((p, p + 1) :: lexF t n (p + 1)).length : Int) by rw [List.length_cons]; omega]
                  · rw [lexF_s n2 (by omega) (by omega) hbl h6]
                    refine lexM_1 ?_ ?_ ?_ g3 g2
                    · rw [hk]; simp [zup4_v]
                    · simp [zup4_v]
                    · refine ⟨fun z => ?_, fun z => ?_, fun z => ?_, fun z => ?_⟩
                      · omega
                      · omega
                      · omega
                      · omega
                · skip
                  unfold f_M_cut_110
                  refine zW_g (by omega) ?_
                  refine zW_g (by omega) ?_
                  unfold f_M_cut_124
                  have hbl : bBlank (t p) = 0 := by rw [bBlank_0]; omega
                  have hk : tokK t (p, p + 1) = 5 := by simp [tokK, h6, h7]
                  refine zW_m (ih (p := p + 1) (T := F 14 0 12 + 1) (by simp [zup3_v]; exact hn) (by simp [zup3_v]) (by omega) (by omega) (by omega) (by omega) ((tmB_up (by decide)).trans ((tmB_up (by decide)).trans t2))) (fun r F' B' hh => ?_)
                  obtain ⟨g1, g2, g3⟩ := hh
                  refine ⟨?_, ?_, frG_t (frG_u (frG_u (frG_u (frG_u (cc := 14) (ks := [7, 8, 9, 10, 11]) (T := F 14 0 12) frG_r (by decide) (by omega)) (by decide) (by omega)) (by decide) (by omega)) (by decide) (by omega)) (frG_m g3 (by omega))⟩
                  · rw [g1, zup3_2, lexF_s n2 (by omega) (by omega) hbl h6]
                    rw [show F 14 0 12 + 1 + ((lexF t n (p + 1)).length : Int) = F 14 0 12 + (((p, p + 1) :: lexF t n (p + 1)).length : Int) by rw [List.length_cons]; omega]
                  · rw [lexF_s n2 (by omega) (by omega) hbl h6]
                    refine lexM_1 ?_ ?_ ?_ g3 g2
                    · rw [hk]; simp [zup4_v]
                    · simp [zup4_v]
                    · refine ⟨fun z => ?_, fun z => ?_, fun z => ?_, fun z => ?_⟩
                      · omega
                      · omega
                      · omega
                      · simp [zup4_v, tokV, h6]
              · skip
                refine zW_b (L_cutRun hK (by omega) (by omega) (by omega) (by omega) (by omega) t2 h6) (fun r23 F23 B23 er23 => ?_)
                unfold f_M_cut_124
                have hbl : bBlank (t p) = 0 := by rw [bBlank_0]; omega
                obtain ⟨e23, E23, k1, k2⟩ := er23
                rw [hn] at e23 k2
                have hq := runQ_b (t := t) (n := n) (p := p) n2 (by omega) (by omega) h6
                rw [e23, E23]
                refine zW_m (ih (p := runQ t n p) (T := F 14 0 12 + 1) (by simp [zup3_v]; exact hn) (by simp [zup3_v]) (by omega) (by omega) (by omega) (by omega) ((tmB_fr k1 (by decide)).trans t2)) (fun r F' B' hh => ?_)
                obtain ⟨g1, g2, g3⟩ := hh
                refine ⟨?_, ?_, frG_t (frG_t (frG_u (frG_u frG_r (by decide) (by omega)) (by decide) (by omega)) (frG_f k1 (by decide))) (frG_m g3 (by omega))⟩
                · rw [g1, zup3_2, lexF_r n2 (by omega) (by omega) hbl h6]
                  rw [show F 14 0 12 + 1 + ((lexF t n (runQ t n p)).length : Int) = F 14 0 12 + (((p, runQ t n p) :: lexF t n (runQ t n p)).length : Int) by rw [List.length_cons]; omega]
                · rw [lexF_r n2 (by omega) (by omega) hbl h6]
                  refine lexM_1 ?_ ?_ (tokQ_run hq.1 h6 k2.2.1 k2.2.2.1 k2.2.2.2) g3 g2
                  · rw [k2.1]; simp [tokK, h6]
                  · rw [k1 14 0 8 _ (by simp)]; simp [zup4_v]
theorem L_cut {K : Nat} {F : zF} {B : zB} {t : Int → Int} {n : Int} (hK : 3002 ≤ K) (hn : F 14 0 3 = n) (h0 : 0 ≤ n) (h2 : n ≤ 3000) (ht : tmB B = t) : zW (f_M_cut K F B) (fun _ F' B' => lexR t n 0 0 F B F' B') := by
  unfold f_M_cut
  refine zW_m (L_c7 hK h0 h2 (T := 0) (F := zup3 F 14 0 12 0) (by simp [zup3_v]; exact hn) (by simp [zup3_v]) (by omega) (by omega) (by omega) (by omega) ht) (fun r F' B' hh => ?_)
  obtain ⟨g1, g2, g3⟩ := hh
  exact ⟨by rw [g1, zup3_2], g2, g3⟩
end
end

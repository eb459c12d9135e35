section


theorem st_ts {args : Array Value} {s : State} {A : Nat → Prop} (h0 : ∀ w ∈ lw_tbl, w.before args s = true) (hf : ∀ c ∈ flA naT [], c.before args s = true) (hA : ∀ a : Nat, a < s.heap.size → ¬ A a) : ∀ i : Nat, ∃ t : Nat, ∀ q : String × String × String × Bool × List Int, staL[i]? = some q → va_Z q.1 q.2.1 q.2.2.1 (.ref t) A s s.heap ∧ va_T (if q.2.2.2.1 then .long else .int) t q.2.2.2.2.length (fun j => if q.2.2.2.1 then .long (Int64.ofInt (q.2.2.2.2.getD j 0)) else .int (Int32.ofInt (q.2.2.2.2.getD j 0))) A s s.heap
  | 0 => by
    obtain ⟨t, h⟩ := st_t0 (A := A) h0 hf hA
    exact ⟨t, fun q hq => by cases hq; exact h⟩
  | 1 => by
    obtain ⟨t, h⟩ := st_t1 (A := A) h0 hf hA
    exact ⟨t, fun q hq => by cases hq; exact h⟩
  | 2 => by
    obtain ⟨t, h⟩ := st_t2 (A := A) h0 hf hA
    exact ⟨t, fun q hq => by cases hq; exact h⟩
  | 3 => by
    obtain ⟨t, h⟩ := st_t3 (A := A) h0 hf hA
    exact ⟨t, fun q hq => by cases hq; exact h⟩
  | 4 => by
    obtain ⟨t, h⟩ := st_t4 (A := A) h0 hf hA
    exact ⟨t, fun q hq => by cases hq; exact h⟩
  | 5 => by
    obtain ⟨t, h⟩ := st_t5 (A := A) h0 hf hA
    exact ⟨t, fun q hq => by cases hq; exact h⟩
  | 6 => by
    obtain ⟨t, h⟩ := st_t6 (A := A) h0 hf hA
    exact ⟨t, fun q hq => by cases hq; exact h⟩
  | 7 => by
    obtain ⟨t, h⟩ := st_t7 (A := A) h0 hf hA
    exact ⟨t, fun q hq => by cases hq; exact h⟩
  | 8 => by
    obtain ⟨t, h⟩ := st_t8 (A := A) h0 hf hA
    exact ⟨t, fun q hq => by cases hq; exact h⟩
  | 9 => by
    obtain ⟨t, h⟩ := st_t9 (A := A) h0 hf hA
    exact ⟨t, fun q hq => by cases hq; exact h⟩
  | 10 => by
    obtain ⟨t, h⟩ := st_t10 (A := A) h0 hf hA
    exact ⟨t, fun q hq => by cases hq; exact h⟩
  | 11 => by
    obtain ⟨t, h⟩ := st_t11 (A := A) h0 hf hA
    exact ⟨t, fun q hq => by cases hq; exact h⟩
  | 12 => by
    obtain ⟨t, h⟩ := st_t12 (A := A) h0 hf hA
    exact ⟨t, fun q hq => by cases hq; exact h⟩
  | 13 => by
    obtain ⟨t, h⟩ := st_t13 (A := A) h0 hf hA
    exact ⟨t, fun q hq => by cases hq; exact h⟩
  | 14 => by
    obtain ⟨t, h⟩ := st_t14 (A := A) h0 hf hA
    exact ⟨t, fun q hq => by cases hq; exact h⟩
  | 15 => by
    obtain ⟨t, h⟩ := st_t15 (A := A) h0 hf hA
    exact ⟨t, fun q hq => by cases hq; exact h⟩
  | 16 => by
    obtain ⟨t, h⟩ := st_t16 (A := A) h0 hf hA
    exact ⟨t, fun q hq => by cases hq; exact h⟩
  | 17 => by
    obtain ⟨t, h⟩ := st_t17 (A := A) h0 hf hA
    exact ⟨t, fun q hq => by cases hq; exact h⟩
  | k + 18 => ⟨0, fun q hq => by
    have h1 : staL.length ≤ k + 18 := by simp [staL]
    rw [List.getElem?_eq_none h1] at hq
    cases hq⟩
theorem st_nest {args : Array Value} {s : State} (h0 : ∀ w ∈ lw_tbl, w.before args s = true) : ∀ q ∈ nestL, va_Nw (.methodLinkNest q.1 q.2.1 q.2.2.1 q.2.2.2) s := by
  unfold nestL
  exact List.forall_mem_cons.mpr ⟨va_Nw.of rfl (h0 _ (tb_1 (j := 62) (w := (Jvm.Cond.methodLinkNest "StaveHouse" (33 : Nat) ({ cls := "StaveHouse$Parser", name := "<init>", desc := "()V" } : Jvm.MethodName) "StaveHouse")) rfl)), List.forall_mem_cons.mpr ⟨va_Nw.of rfl (h0 _ (tb_1 (j := 68) (w := (Jvm.Cond.methodLinkNest "StaveHouse$Parser" (47 : Nat) ({ cls := "StaveHouse$Tokens", name := "<init>", desc := "()V" } : Jvm.MethodName) "StaveHouse")) rfl)), List.forall_mem_cons.mpr ⟨va_Nw.of rfl (h0 _ (tb_1 (j := 186) (w := (Jvm.Cond.methodLinkNest "StaveHouse" (40 : Nat) ({ cls := "StaveHouse$Walker", name := "<init>", desc := "()V" } : Jvm.MethodName) "StaveHouse")) rfl)), List.forall_mem_cons.mpr ⟨va_Nw.of rfl (h0 _ (tb_2 (j := 10) (w := (Jvm.Cond.methodLinkNest "StaveHouse" (47 : Nat) ({ cls := "StaveHouse$Scribe", name := "<init>", desc := "()V" } : Jvm.MethodName) "StaveHouse")) rfl)), List.forall_mem_cons.mpr ⟨va_Nw.of rfl (h0 _ (tb_2 (j := 16) (w := (Jvm.Cond.methodLinkNest "StaveHouse$Scribe" (11 : Nat) ({ cls := "StaveHouse$Event", name := "<init>", desc := "()V" } : Jvm.MethodName) "StaveHouse")) rfl)), List.forall_mem_cons.mpr ⟨va_Nw.of rfl (h0 _ (tb_2 (j := 179) (w := (Jvm.Cond.methodLinkNest "StaveHouse" (67 : Nat) ({ cls := "StaveHouse$Piece", name := "<init>", desc := "()V" } : Jvm.MethodName) "StaveHouse")) rfl)), List.forall_mem_cons.mpr ⟨va_Nw.of rfl (h0 _ (tb_4 (j := 114) (w := (Jvm.Cond.methodLinkNest "StaveHouse$Part" (30 : Nat) ({ cls := "StaveHouse$Event", name := "<init>", desc := "()V" } : Jvm.MethodName) "StaveHouse")) rfl)), List.forall_mem_cons.mpr ⟨va_Nw.of rfl (h0 _ (tb_5 (j := 192) (w := (Jvm.Cond.methodLinkNest "StaveHouse$Piece" (110 : Nat) ({ cls := "StaveHouse$Study", name := "<init>", desc := "()V" } : Jvm.MethodName) "StaveHouse")) rfl)), List.forall_mem_cons.mpr ⟨va_Nw.of rfl (h0 _ (tb_6 (j := 58) (w := (Jvm.Cond.methodLinkNest "StaveHouse$Piece" (99 : Nat) ({ cls := "StaveHouse$Performance", name := "<init>", desc := "()V" } : Jvm.MethodName) "StaveHouse")) rfl)), List.forall_mem_cons.mpr ⟨va_Nw.of rfl (h0 _ (tb_6 (j := 211) (w := (Jvm.Cond.methodLinkNest "StaveHouse" (237 : Nat) ({ cls := "StaveHouse$Layout", name := "<init>", desc := "()V" } : Jvm.MethodName) "StaveHouse")) rfl)), List.forall_mem_cons.mpr ⟨va_Nw.of rfl (h0 _ (tb_7 (j := 211) (w := (Jvm.Cond.methodLinkNest "StaveHouse" (277 : Nat) ({ cls := "StaveHouse$SoundFile", name := "<init>", desc := "()V" } : Jvm.MethodName) "StaveHouse")) rfl)), List.forall_mem_cons.mpr ⟨va_Nw.of rfl (h0 _ (tb_9 (j := 121) (w := (Jvm.Cond.methodLinkNest "StaveHouseModel" (39 : Nat) ({ cls := "StaveHouseModel$Piece", name := "<init>", desc := "()V" } : Jvm.MethodName) "StaveHouseModel")) rfl)), List.forall_mem_cons.mpr ⟨va_Nw.of rfl (h0 _ (tb_4 (j := 62) (w := (Jvm.Cond.methodLinkNest "StaveHouse$Parser" (315 : Nat) ({ cls := "StaveHouse", name := "naturalTone", desc := "(I)I" } : Jvm.MethodName) "StaveHouse")) rfl)), List.forall_mem_cons.mpr ⟨va_Nw.of rfl (h0 _ (tb_4 (j := 227) (w := (Jvm.Cond.methodLinkNest "StaveHouse$Walker" (191 : Nat) ({ cls := "StaveHouse", name := "naturalTone", desc := "(I)I" } : Jvm.MethodName) "StaveHouse")) rfl)), List.forall_mem_cons.mpr ⟨va_Nw.of rfl (h0 _ (tb_5 (j := 64) (w := (Jvm.Cond.methodLinkNest "StaveHouse$Part" (175 : Nat) ({ cls := "StaveHouse", name := "greatestValue", desc := "(I)I" } : Jvm.MethodName) "StaveHouse")) rfl)), List.forall_mem_cons.mpr ⟨va_Nw.of rfl (h0 _ (tb_5 (j := 75) (w := (Jvm.Cond.methodLinkNest "StaveHouse$Part" (169 : Nat) ({ cls := "StaveHouse", name := "fineValue", desc := "(I)I" } : Jvm.MethodName) "StaveHouse")) rfl)), List.forall_mem_cons.mpr ⟨va_Nw.of rfl (h0 _ (tb_5 (j := 86) (w := (Jvm.Cond.methodLinkNest "StaveHouse$Part" (165 : Nat) ({ cls := "StaveHouse", name := "nextValue", desc := "(IIII)I" } : Jvm.MethodName) "StaveHouse")) rfl)), List.forall_mem_cons.mpr ⟨va_Nw.of rfl (h0 _ (tb_5 (j := 116) (w := (Jvm.Cond.methodLinkNest "StaveHouse$Part" (197 : Nat) ({ cls := "StaveHouse", name := "keyAlteration", desc := "(II)I" } : Jvm.MethodName) "StaveHouse")) rfl)), List.forall_mem_cons.mpr ⟨va_Nw.of rfl (h0 _ (tb_5 (j := 148) (w := (Jvm.Cond.methodLinkNest "StaveHouse$Piece" (77 : Nat) ({ cls := "StaveHouse", name := "beatCount", desc := "(II)I" } : Jvm.MethodName) "StaveHouse")) rfl)), List.forall_mem_cons.mpr ⟨va_Nw.of rfl (h0 _ (tb_6 (j := 25) (w := (Jvm.Cond.methodLinkNest "StaveHouse$Event" (25 : Nat) ({ cls := "StaveHouse", name := "naturalTone", desc := "(I)I" } : Jvm.MethodName) "StaveHouse")) rfl)), List.forall_mem_cons.mpr ⟨va_Nw.of rfl (h0 _ (tb_6 (j := 132) (w := (Jvm.Cond.methodLinkNest "StaveHouse$Performance" (150 : Nat) ({ cls := "StaveHouse", name := "naturalTone", desc := "(I)I" } : Jvm.MethodName) "StaveHouse")) rfl)), List.forall_mem_cons.mpr ⟨va_Nw.of rfl (h0 _ (tb_6 (j := 133) (w := (Jvm.Cond.methodLinkNest "StaveHouse$Performance" (156 : Nat) ({ cls := "StaveHouse", name := "keyAlteration", desc := "(II)I" } : Jvm.MethodName) "StaveHouse")) rfl)), List.forall_mem_cons.mpr ⟨va_Nw.of rfl (h0 _ (tb_8 (j := 201) (w := (Jvm.Cond.methodLinkNest "StaveHouse$Scribe" (183 : Nat) ({ cls := "StaveHouse", name := "nextValue", desc := "(IIII)I" } : Jvm.MethodName) "StaveHouse")) rfl)), List.forall_mem_cons.mpr ⟨va_Nw.of rfl (h0 _ (tb_8 (j := 202) (w := (Jvm.Cond.methodLinkNest "StaveHouse$Scribe" (187 : Nat) ({ cls := "StaveHouse", name := "fineValue", desc := "(I)I" } : Jvm.MethodName) "StaveHouse")) rfl)), List.forall_mem_cons.mpr ⟨va_Nw.of rfl (h0 _ (tb_9 (j := 76) (w := (Jvm.Cond.methodLinkNest "StaveHouse$Study" (189 : Nat) ({ cls := "StaveHouse", name := "keyAlteration", desc := "(II)I" } : Jvm.MethodName) "StaveHouse")) rfl)), List.forall_mem_cons.mpr ⟨va_Nw.of rfl (h0 _ (tb_9 (j := 110) (w := (Jvm.Cond.methodLinkNest "StaveHouse$Part" (235 : Nat) ({ cls := "StaveHouse", name := "gcd", desc := "(JJ)J" } : Jvm.MethodName) "StaveHouse")) rfl)), fun _ h => absurd h List.not_mem_nil⟩⟩⟩⟩⟩⟩⟩⟩⟩⟩⟩⟩⟩⟩⟩⟩⟩⟩⟩⟩⟩⟩⟩⟩⟩⟩
theorem st_nestF {args : Array Value} {s : State} (h0 : ∀ w ∈ lw_tbl, w.before args s = true) : ∀ q ∈ nestF, va_Nw (.fieldLinkNest q.1 q.2.1 q.2.2.1 q.2.2.2.1 q.2.2.2.2.1 q.2.2.2.2.2) s := by
  unfold nestF
  exact List.forall_mem_cons.mpr ⟨va_Nw.of rfl (h0 _ (tb_4 (j := 20) (w := (Jvm.Cond.fieldLinkNest "StaveHouse$Parser" (299 : Nat) "StaveHouse" "POINT_QUARTERS" "[I" "StaveHouse")) rfl)), List.forall_mem_cons.mpr ⟨va_Nw.of rfl (h0 _ (tb_8 (j := 231) (w := (Jvm.Cond.fieldLinkNest "StaveHouse$Scribe" (126 : Nat) "StaveHouse" "NATURAL_TONES" "[I" "StaveHouse")) rfl)), List.forall_mem_cons.mpr ⟨va_Nw.of rfl (h0 _ (tb_9 (j := 56) (w := (Jvm.Cond.fieldLinkNest "StaveHouse$Study" (180 : Nat) "StaveHouse" "NATURAL_TONES" "[I" "StaveHouse")) rfl)), fun _ h => absurd h List.not_mem_nil⟩⟩⟩
theorem st_ao {args : Array Value} {s : State} (h0 : ∀ w ∈ lw_tbl, w.before args s = true) : ∀ C ∈ aoL, va_AO C s := by
  unfold aoL
  exact List.forall_mem_cons.mpr ⟨va_AO.of (h0 _ (tb_1 (j := 59) (w := (Jvm.Cond.arrayOver (Jvm.ClassFile.FieldType.object "StaveHouse$Piece"))) rfl)), List.forall_mem_cons.mpr ⟨va_AO.of (h0 _ (tb_2 (j := 184) (w := (Jvm.Cond.arrayOver (Jvm.ClassFile.FieldType.object "StaveHouse$Part"))) rfl)), List.forall_mem_cons.mpr ⟨va_AO.of (h0 _ (tb_9 (j := 119) (w := (Jvm.Cond.arrayOver (Jvm.ClassFile.FieldType.object "StaveHouseModel$Piece"))) rfl)), List.forall_mem_cons.mpr ⟨va_AO.of (h0 _ (tb_4 (j := 111) (w := (Jvm.Cond.arrayOver (Jvm.ClassFile.FieldType.object "StaveHouse$Event"))) rfl)), fun _ h => absurd h List.not_mem_nil⟩⟩⟩⟩
theorem over_here {args : Array Value} {s : State} {t : FieldType} (h : (Cond.arrayOver (.array t)).before args s = true) : (Cond.arrayOver (.array t)).before #[] s = true := over_moved (Vm.Alike.refl _) h
theorem st_over {args : Array Value} {s : State} (h0 : ∀ w ∈ lw_tbl, w.before args s = true) : ∀ ty ∈ [FieldType.int, FieldType.long], (Cond.arrayOver (.array ty)).before #[] s = true := List.forall_mem_cons.mpr ⟨over_here (h0 _ (tb_4 (j := 113) (w := (Jvm.Cond.arrayOver (Jvm.ClassFile.FieldType.array Jvm.ClassFile.FieldType.int))) rfl)), List.forall_mem_cons.mpr ⟨over_here (h0 _ (tb_7 (j := 216) (w := (Jvm.Cond.arrayOver (Jvm.ClassFile.FieldType.array Jvm.ClassFile.FieldType.long))) rfl)), fun _ h => absurd h List.not_mem_nil⟩⟩
theorem st_stat {args : Array Value} {s : State} {A : Nat → Prop} (h0 : ∀ w ∈ lw_tbl, w.before args s = true) (hf : ∀ c ∈ flA naT [], c.before args s = true) (hA : ∀ a : Nat, a < s.heap.size → ¬ A a) : ∀ q ∈ statL, va_Z q.1 q.2.1 q.2.2.1 q.2.2.2 A s s.heap := by
  unfold statL
  exact List.forall_mem_cons.mpr ⟨va_Zof (h0 _ (tb_3 (j := 80) (w := (Jvm.Cond.laysStatic "java/lang/String" "COMPACT_STRINGS" "Z")) rfl)) (h0 _ (tb_1 (j := 11) (w := (Jvm.Cond.initialized "java/lang/String")) rfl)) (va_eqt (hf (Cond.eq (.static "java/lang/String" "COMPACT_STRINGS" "Z") (.int 1)) (by decide +kernel))) hA, List.forall_mem_cons.mpr ⟨va_Zof (h0 _ (tb_10 (j := 208) (w := (Jvm.Cond.laysStatic "StaveHouseModel" "KEY" "J")) rfl)) (h0 _ (tb_1 (j := 9) (w := (Jvm.Cond.initialized "StaveHouseModel")) rfl)) (va_eqtl (hf (Cond.eq (.static "StaveHouseModel" "KEY" "J") (.long 7038329)) (by decide +kernel))) hA, List.forall_mem_cons.mpr ⟨va_Zof (h0 _ (tb_10 (j := 210) (w := (Jvm.Cond.laysStatic "StaveHouseModel" "MAJOR" "J")) rfl)) (h0 _ (tb_1 (j := 9) (w := (Jvm.Cond.initialized "StaveHouseModel")) rfl)) (va_eqtl (hf (Cond.eq (.static "StaveHouseModel" "MAJOR" "J") (.long 469785800562)) (by decide +kernel))) hA, List.forall_mem_cons.mpr ⟨va_Zof (h0 _ (tb_10 (j := 212) (w := (Jvm.Cond.laysStatic "StaveHouseModel" "MINOR" "J")) rfl)) (h0 _ (tb_1 (j := 9) (w := (Jvm.Cond.initialized "StaveHouseModel")) rfl)) (va_eqtl (hf (Cond.eq (.static "StaveHouseModel" "MINOR" "J") (.long 469920280434)) (by decide +kernel))) hA, List.forall_mem_cons.mpr ⟨va_Zof (h0 _ (tb_10 (j := 214) (w := (Jvm.Cond.laysStatic "StaveHouseModel" "TIME" "J")) rfl)) (h0 _ (tb_1 (j := 9) (w := (Jvm.Cond.initialized "StaveHouseModel")) rfl)) (va_eqtl (hf (Cond.eq (.static "StaveHouseModel" "TIME" "J") (.long 1953066341)) (by decide +kernel))) hA, List.forall_mem_cons.mpr ⟨va_Zof (h0 _ (tb_10 (j := 216) (w := (Jvm.Cond.laysStatic "StaveHouseModel" "TEMPO" "J")) rfl)) (h0 _ (tb_1 (j := 9) (w := (Jvm.Cond.initialized "StaveHouseModel")) rfl)) (va_eqtl (hf (Cond.eq (.static "StaveHouseModel" "TEMPO" "J") (.long 499917877359)) (by decide +kernel))) hA, List.forall_mem_cons.mpr ⟨va_Zof (h0 _ (tb_10 (j := 218) (w := (Jvm.Cond.laysStatic "StaveHouseModel" "LET" "J")) rfl)) (h0 _ (tb_1 (j := 9) (w := (Jvm.Cond.initialized "StaveHouseModel")) rfl)) (va_eqtl (hf (Cond.eq (.static "StaveHouseModel" "LET" "J") (.long 7103860)) (by decide +kernel))) hA, List.forall_mem_cons.mpr ⟨va_Zof (h0 _ (tb_10 (j := 220) (w := (Jvm.Cond.laysStatic "StaveHouseModel" "VOICE" "J")) rfl)) (h0 _ (tb_1 (j := 9) (w := (Jvm.Cond.initialized "StaveHouseModel")) rfl)) (va_eqtl (hf (Cond.eq (.static "StaveHouseModel" "VOICE" "J") (.long 508675318629)) (by decide +kernel))) hA, List.forall_mem_cons.mpr ⟨va_Zof (h0 _ (tb_10 (j := 222) (w := (Jvm.Cond.laysStatic "StaveHouseModel" "REPEAT" "J")) rfl)) (h0 _ (tb_1 (j := 9) (w := (Jvm.Cond.initialized "StaveHouseModel")) rfl)) (va_eqtl (hf (Cond.eq (.static "StaveHouseModel" "REPEAT" "J") (.long 125780002955636)) (by decide +kernel))) hA, List.forall_mem_cons.mpr ⟨va_Zof (h0 _ (tb_10 (j := 224) (w := (Jvm.Cond.laysStatic "StaveHouseModel" "ALT" "J")) rfl)) (h0 _ (tb_1 (j := 9) (w := (Jvm.Cond.initialized "StaveHouseModel")) rfl)) (va_eqtl (hf (Cond.eq (.static "StaveHouseModel" "ALT" "J") (.long 6384756)) (by decide +kernel))) hA, List.forall_mem_cons.mpr ⟨va_Zof (h0 _ (tb_10 (j := 226) (w := (Jvm.Cond.laysStatic "StaveHouseModel" "USE" "J")) rfl)) (h0 _ (tb_1 (j := 9) (w := (Jvm.Cond.initialized "StaveHouseModel")) rfl)) (va_eqtl (hf (Cond.eq (.static "StaveHouseModel" "USE" "J") (.long 7697253)) (by decide +kernel))) hA, List.forall_mem_cons.mpr ⟨va_Zof (h0 _ (tb_10 (j := 228) (w := (Jvm.Cond.laysStatic "StaveHouseModel" "MOVE" "J")) rfl)) (h0 _ (tb_1 (j := 9) (w := (Jvm.Cond.initialized "StaveHouseModel")) rfl)) (va_eqtl (hf (Cond.eq (.static "StaveHouseModel" "MOVE" "J") (.long 1836021349)) (by decide +kernel))) hA, List.forall_mem_cons.mpr ⟨va_Zof (h0 _ (tb_10 (j := 230) (w := (Jvm.Cond.laysStatic "StaveHouseModel" "MIRROR" "J")) rfl)) (h0 _ (tb_1 (j := 9) (w := (Jvm.Cond.initialized "StaveHouseModel")) rfl)) (va_eqtl (hf (Cond.eq (.static "StaveHouseModel" "MIRROR" "J") (.long 120299659095922)) (by decide +kernel))) hA, List.forall_mem_cons.mpr ⟨va_Zof (h0 _ (tb_10 (j := 232) (w := (Jvm.Cond.laysStatic "StaveHouseModel" "BACK" "J")) rfl)) (h0 _ (tb_1 (j := 9) (w := (Jvm.Cond.initialized "StaveHouseModel")) rfl)) (va_eqtl (hf (Cond.eq (.static "StaveHouseModel" "BACK" "J") (.long 1650549611)) (by decide +kernel))) hA, List.forall_mem_cons.mpr ⟨va_Zof (h0 _ (tb_10 (j := 234) (w := (Jvm.Cond.laysStatic "StaveHouseModel" "SLOW" "J")) rfl)) (h0 _ (tb_1 (j := 9) (w := (Jvm.Cond.initialized "StaveHouseModel")) rfl)) (va_eqtl (hf (Cond.eq (.static "StaveHouseModel" "SLOW" "J") (.long 1936486263)) (by decide +kernel))) hA, List.forall_mem_cons.mpr ⟨va_Zof (h0 _ (tb_10 (j := 236) (w := (Jvm.Cond.laysStatic "StaveHouseModel" "REST" "J")) rfl)) (h0 _ (tb_1 (j := 9) (w := (Jvm.Cond.initialized "StaveHouseModel")) rfl)) (va_eqtl (hf (Cond.eq (.static "StaveHouseModel" "REST" "J") (.long 114)) (by decide +kernel))) hA, fun _ h => absurd h List.not_mem_nil⟩⟩⟩⟩⟩⟩⟩⟩⟩⟩⟩⟩⟩⟩⟩⟩
theorem st_X {args : Array Value} {s : State} {A : Nat → Prop} (h0 : ∀ w ∈ lw_tbl, w.before args s = true) (hg : (Jvm.Cond.and given_1 narrow_1).before args s = true) (hA : ∀ a : Nat, a < s.heap.size → ¬ A a) : ∃ ad av : Nat → Nat, gX ad av A s s.heap := by
  have hf : ∀ c ∈ flA naT [], c.before args s = true := fun c hc => flat_of_before naT hg c (flA_m hc)
  obtain ⟨d, hd⟩ := Classical.axiomOfChoice (st_strs (A := A) h0 hf hA)
  obtain ⟨t, ht⟩ := Classical.axiomOfChoice (st_ts (A := A) h0 hf hA)
  refine ⟨fun i => (d i).1, fun i => if i < 1000 then (d i).2 else t (i - 1000), st_nest h0, st_ao h0, st_over h0, st_stat h0 hf hA, fun i q hq => ?_,
    ⟨va_Zqof (h0 _ (tb_3 (j := 121) (w := (Jvm.Cond.laysStatic "jdk/internal/util/Preconditions" "SIOOBE_FORMATTER" "Ljava/util/function/BiFunction;")) rfl)) (h0 _ (tb_1 (j := 13) (w := (Jvm.Cond.initialized "jdk/internal/util/Preconditions")) rfl)) (hf (Cond.isRef (.static "jdk/internal/util/Preconditions" "SIOOBE_FORMATTER" "Ljava/util/function/BiFunction;")) (by decide +kernel)) hA, st_nestF h0⟩, fun i q hq => ?_⟩
  · have hi : i < 1000 := Nat.lt_of_lt_of_le (List.getElem?_eq_some_iff.mp hq).1 (by decide)
    have e : (if i < 1000 then (d i).2 else t (i - 1000)) = (d i).2 := if_pos hi
    show vk_R q.1 q.2.1 q.2.2.1 (d i).1 s ∧ vk_S 1 [q.2.2.2.1] [q.2.2.2.2] (fun _ => (d i).1) (fun _ => if i < 1000 then (d i).2 else t (i - 1000)) A s s.heap
    rw [e]
    exact hd i q hq
  · have e : (if 1000 + i < 1000 then (d (1000 + i)).2 else t (1000 + i - 1000)) = t i := by
      rw [if_neg (by omega), Nat.add_sub_cancel_left]
    show va_Z q.1 q.2.1 q.2.2.1 (.ref (if 1000 + i < 1000 then (d (1000 + i)).2 else t (1000 + i - 1000))) A s s.heap ∧ va_T _ (if 1000 + i < 1000 then (d (1000 + i)).2 else t (1000 + i - 1000)) _ _ A s s.heap
    rw [e]
    exact ht i q hq
end
section
theorem k_1_24 : (Jvm.Cond.classLink "StaveHouseLaw" (7 : Nat) "StaveHouse") ∈ wAll := wA_1 (j := 24) rfl rfl
theorem k_1_28 : (Jvm.Cond.code ({ cls := "StaveHouse", name := "<init>", desc := "()V" } : Jvm.MethodName) prog_1_method_1_code (1 : Nat) (Option.none : Option Jvm.ClassFile.FieldType)) ∈ wAll := wA_1 (j := 28) rfl rfl
theorem k_1_26 : (Jvm.Cond.methodLink "StaveHouseLaw" (9 : Nat) ({ cls := "StaveHouse", name := "<init>", desc := "()V" } : Jvm.MethodName)) ∈ wAll := wA_1 (j := 26) rfl rfl
theorem k_1_27 : (Jvm.Cond.instanceMethod ({ cls := "StaveHouse", name := "<init>", desc := "()V" } : Jvm.MethodName)) ∈ wAll := wA_1 (j := 27) rfl rfl
theorem k_9_112 : (Jvm.Cond.classLink "StaveHouseLaw" (10 : Nat) "StaveHouseModel") ∈ wAll := wA_9 (j := 112) rfl rfl
theorem k_9_116 : (Jvm.Cond.code ({ cls := "StaveHouseModel", name := "<init>", desc := "()V" } : Jvm.MethodName) prog_15_method_11_code (1 : Nat) (Option.none : Option Jvm.ClassFile.FieldType)) ∈ wAll := wA_9 (j := 116) rfl rfl
theorem k_9_114 : (Jvm.Cond.methodLink "StaveHouseLaw" (12 : Nat) ({ cls := "StaveHouseModel", name := "<init>", desc := "()V" } : Jvm.MethodName)) ∈ wAll := wA_9 (j := 114) rfl rfl
theorem k_9_115 : (Jvm.Cond.instanceMethod ({ cls := "StaveHouseModel", name := "<init>", desc := "()V" } : Jvm.MethodName)) ∈ wAll := wA_9 (j := 115) rfl rfl
theorem d_code_0 : decode code 0 = .ok (.new 7, 3) := D_187 W_code_0 0 rfl rfl rfl
theorem d_code_3 : decode code 3 = .ok (.dup, 1) := D_89 W_code_0 3 rfl rfl
theorem d_code_4 : decode code 4 = .ok (.invokespecial 9, 3) := D_183 W_code_0 4 rfl rfl rfl
theorem d_code_7 : decode code 7 = .ok (.astore_n 1, 1) := D_76 W_code_0 7 rfl rfl
theorem d_code_8 : decode code 8 = .ok (.new 10, 3) := D_187 W_code_0 8 rfl rfl rfl
theorem d_code_11 : decode code 11 = .ok (.dup, 1) := D_89 W_code_0 11 rfl rfl
theorem d_code_12 : decode code 12 = .ok (.invokespecial 12, 3) := D_183 W_code_0 12 rfl rfl rfl
theorem d_code_15 : decode code 15 = .ok (.astore_n 2, 1) := D_77 W_code_0 15 rfl rfl
theorem d_code_16 : decode code 16 = .ok (.iconst 0, 1) := D_3 W_code_0 16 rfl rfl
theorem d_code_17 : decode code 17 = .ok (.istore_n 3, 1) := D_62 W_code_0 17 rfl rfl
/-! ===== the law's walk from its entry, and the claim out of the pure functions ===== -/
def zF0 : zF := fun c _ k => if (zk c k).1 = 2 then -1 else 0
def zB0 : zB := fun _ _ _ _ => 0
section ZN
variable {D : va_G} {ca : Nat → ClassId} {ad ad2 : Nat → Int → Nat → Nat} {ln ln2 : Nat → Int → Nat → Nat} {N N' N2 : Nat → Int} {L L2 : List Nat} {F F2 : zF} {B B2 : zB} {A : Nat → Prop} {H : Heap}
theorem zH_nil : zH D ca ad ln (fun _ => 0) [] F B A H :=
  ⟨fun c i k c' i' k' h0 h1 => absurd (Int.lt_of_le_of_lt h0 h1) (show ¬ (0 : Int) < 0 by decide), fun _ => .inr (0, []), ⟨fun k q h => by simp [va_pl] at h, ⟨fun i j p q h => by simp [va_pl] at h, fun k q h => by simp [va_pl] at h⟩⟩, fun c i h0 h1 => absurd (Int.lt_of_le_of_lt h0 h1) (show ¬ (0 : Int) < 0 by decide)⟩
theorem zH.cong (hN : ∀ c, N c = N' c) (h : zH D ca ad ln N L F B A H) : zH D ca ad ln N' L F B A H := by
  obtain rfl : N = N' := funext hN
  exact h
theorem zH.asX (h : zH D ca ad ln N L F B A H) : ∃ f, zInj ad N ∧ zRep ca ad ln N L F B f ∧ zHx D ca ad2 ln2 (fun _ => 0) [] F2 B2 (va_pl L f) A H := by
  obtain ⟨hj, f, hM, hR⟩ := h
  refine ⟨f, hj, hR, ?_⟩
  obtain ⟨hj2, f2, -, hR2⟩ := zH_nil (D := D) (ca := ca) (ad := ad2) (ln := ln2) (F := F2) (B := B2) (A := A) (H := H)
  exact ⟨hj2, f2, by rw [show va_pl [] f2 = [] from rfl, List.append_nil]; exact hM.1, by rw [show va_pl [] f2 = [] from rfl, List.append_nil]; exact hM.2, hR2⟩
theorem zHx.split {f : Nat → va_E} (h : zHx D ca ad2 ln2 N2 L2 F2 B2 (va_pl L f) A H) (hj : zInj ad N) (hR : zRep ca ad ln N L F B f) : zH D ca ad ln N L F B A H ∧ zH D ca ad2 ln2 N2 L2 F2 B2 A H ∧ ∀ q ∈ L2, q ∉ L := by
  obtain ⟨hj2, f2, hP, hD, hR2⟩ := h
  obtain ⟨hn, hA⟩ := vaD_mem.mp hD
  rw [List.map_append, vapl_map, vapl_map] at hn
  obtain ⟨n1, n2, n3⟩ := List.nodup_append.mp hn
  refine ⟨⟨hj, f, ⟨vaP_mem.mpr (fun x hx => vaP_mem.mp hP x (List.mem_append.mpr (Or.inl hx))), vaD_mem.mpr ⟨by rw [vapl_map]; exact n1, fun x hx => hA x (List.mem_append.mpr (Or.inl hx))⟩⟩, hR⟩, ⟨hj2, f2, ⟨vaP_mem.mpr (fun x hx => vaP_mem.mp hP x (List.mem_append.mpr (Or.inr hx))), vaD_mem.mpr ⟨by rw [vapl_map]; exact n2, fun x hx => hA x (List.mem_append.mpr (Or.inr hx))⟩⟩, hR2⟩, fun q h2 h1 => n3 q h1 q h2 rfl⟩
end ZN
/-- what is left of the claim, over whole numbers: both make themselves, every call of every script returns on both sides, end answers alike, and what is made has room -/
def zGood (n : Nat) (xs : Nat → Int32) : Prop := ∃ (f fm Kr fl : Nat) (x : Int) (K Km K9 : zK) (F Fm F9 Fm9 : zF) (B Bm B9 Bm9 : zB), f_S_init (f, fun _ => 0) zF0 zB0 = some (x, F, B, K) ∧ f_M_init (fm, fun _ => 0) zF0 zB0 = some (0, Fm, Bm, Km) ∧ (∀ c, Km.2 c = nM c) ∧ lloop Kr x (scz xs) n fl 0 K F B Fm Bm = some (K9, F9, B9, Fm9, Bm9) ∧ 282 + cwC K K9 ≤ 600000 ∧ 716534 + swC K K9 ≤ 7302250
def zPure : Prop := ∀ (n : Nat) (xs : Nat → Int32), n ≤ 4608 → zGood n xs
set_option maxHeartbeats 8000000 in
set_option maxRecDepth 100000 in
theorem whole_start {p : Program} {e : Env} {s : State} {m : MethodId} {below : List Frame} {meth : Method} {c : Code} (l : Launch) {b L : Nat} {xs : Nat → Int32} (hL : L ≤ 4608) (hgd : zGood L xs) (C0 : lw_At p s m meth c b L xs) : W p l e room_1 s m #[Value.ref b] below meth c s.heap [] 0 0 (lw_Z below #[Value.ref b] s) (entryFrame m ([Value.ref b] : List Value).toArray 4) := by
  obtain ⟨hx, hb, hr, hml, hown, hts0, hXs, hbl, hlocks, hgv⟩ := id C0
  have hts := wA_hts hts0
  obtain ⟨A, eA⟩ : ∃ A : Nat → Prop, A = fun q => s.heap.size ≤ q := ⟨_, rfl⟩
  have hA : ∀ q, s.heap.size ≤ q → A q := fun q h => by rw [eA]; exact h
  have hA2 : ∀ q, A q → s.heap.size ≤ q := fun q h => by rw [eA] at h; exact h
  have hown : s.vm.findClass "StaveHouseLaw" = some m.cls := hown
  obtain ⟨D, ca, hK⟩ := st_K hts0
  obtain ⟨aS, vS, hX⟩ := st_X (A := A) hts0 hgv (fun a h z => absurd (hA2 a z) (Nat.not_le.mpr h))
  have hS : va_S A s.heap s.heap [] := va_S.rf
  have hbA : ¬ A b := fun z => Nat.not_le.mpr hbl (hA2 b z)
  have hl := lv_entry ([.ref b]) (n := 4) (Nat.le_of_ble_eq_true rfl)
  rw [lg_entry_eq]
  generalize (lg_sl ([.ref b]) ++ List.replicate (4 - (lg_sl ([.ref b])).length) Slot.unset).toArray = ls at hl ⊢
  have hl : lv_has ls 4 [(0, .ref b)] := hl
  obtain ⟨f, fm, Kr, fl, x, K, Km, K9, F, Fm, F9, Fm9, B, Bm, B9, Bm9, g1, g2, g3, g4, g5, g6⟩ := hgd
  have X0 : zX D ca [] aS vS A p s m #[Value.ref b] meth c code 4 ret "StaveHouseLaw" := ⟨hx, hb, hr, hml, hown, hts, hlocks, hK, hA, fun q h => absurd h List.not_mem_nil, hX⟩
  have hZ0 : zHx D ca (fun _ _ _ => 0) lnC (fun _ => 0) [] zF0 zB0 [] A s.heap := zHx.of zH_nil
  refine zxnew (C := RX12) (T := TX12) (n := 10) (ci := 12) hx hb hts inW_12 tyX12 tyX12_ok hown k_1_24 k_1_25 k_1_1 hK hZ0 hS hA rfl (Nat.le_of_ble_eq_true rfl) (Nat.le_of_ble_eq_true rfl) d_code_0 (fun q1 H1 hZ1 hS1 => ?_)
  refine W.widen (k := 1) (n := 10) (Nat.le_of_ble_eq_true rfl) (Nat.le_of_ble_eq_true rfl) ?_
  refine lv_dup hx hb d_code_3 rfl ?_
  refine va_callv (va_runI (As := []) (rest := [.ref q1]) ⟨hx, hb, hml, hown, hts⟩ (c_S_init (l := l) g1) (cwI 0 hts (gdC k_1_28) rfl rfl rfl (hts _ k_1_1) (hts _ k_1_26) (hts _ k_1_27) rfl (by decide +kernel) ⟨(Nat.le_of_ble_eq_true rfl), (Nat.le_of_ble_eq_true rfl)⟩) (zxPS (X := []) X0 hZ1 hS1 [.ref q1]) rfl rfl hl.1 rfl (lv_room (Nat.le_of_ble_eq_true rfl)) d_code_4 ⟨(Nat.le_of_ble_eq_true rfl), (Nat.le_of_ble_eq_true rfl)⟩) hS1 (fun z _ h => zxAin (X := []) X0 hZ1 hS1 z h) (zxAin (X := []) X0 hZ1 hS1) (fun u t H2 locs2 ht hv hw hB hz hk hS2 => ?_)
  obtain ⟨ad, L1⟩ := u
  obtain ⟨hg1, hq1⟩ := hw
  have hZ2 := (zxback (X := []) hZ1 (zxAin (X := []) X0 hZ1 hS1) hk ht hB).to
  refine W.widen (k := 35) (n := 61442) (Nat.le_of_ble_eq_true rfl) (Nat.le_of_ble_eq_true rfl) ?_
  refine lv_astore_n (lv' := [(1, .ref q1), (0, .ref b)]) hx hb d_code_7 rfl hl (by decide) rfl (fun ls hl => ?_)
  obtain ⟨fx, hj1, hR1, hZ3⟩ := hZ2.asX (ad2 := fun _ _ _ => 0) (ln2 := lnM) (F2 := zF0) (B2 := zB0)
  refine zxnew (C := RX14) (T := TX14) (n := 107) (ci := 14) hx hb hts inW_14 tyX14 tyX14_ok hown k_9_112 k_9_113 k_1_9 hK hZ3 hS2 hA rfl (Nat.le_of_ble_eq_true rfl) (Nat.le_of_ble_eq_true rfl) d_code_8 (fun q2 H4 hZ4 hS4 => ?_)
  refine W.widen (k := 36) (n := 61549) (Nat.le_of_ble_eq_true rfl) (Nat.le_of_ble_eq_true rfl) ?_
  refine lv_dup hx hb d_code_11 rfl ?_
  refine va_callv (va_runI (As := []) (rest := [.ref q2]) ⟨hx, hb, hml, hown, hts⟩ (c_M_init (l := l) g2) (cwI 0 hts (gdC k_9_116) rfl rfl rfl (hts _ k_1_9) (hts _ k_9_114) (hts _ k_9_115) rfl (by decide +kernel) ⟨(Nat.le_of_ble_eq_true rfl), (Nat.le_of_ble_eq_true rfl)⟩) (zxPS (X := va_pl L1 fx) X0 hZ4 hS4 [.ref q2]) rfl rfl hl.1 rfl (lv_room (Nat.le_of_ble_eq_true rfl)) d_code_12 ⟨(Nat.le_of_ble_eq_true rfl), (Nat.le_of_ble_eq_true rfl)⟩) hS4 (fun z _ h => zxAin X0 hZ4 hS4 z h) (zxAin X0 hZ4 hS4) (fun u5 t5 H5 locs5 ht5 hv5 hw5 hB5 hz5 hk5 hS5 => ?_)
  obtain ⟨ad2, L2⟩ := u5
  obtain ⟨hg5, hq5⟩ := hw5
  have hZ5 := zxback hZ4 (zxAin X0 hZ4 hS4) hk5 ht5 hB5
  obtain ⟨hZa, hZb, hd⟩ := hZ5.split hj1 hR1
  refine W.widen (k := 282) (n := 716534) (Nat.le_of_ble_eq_true rfl) (Nat.le_of_ble_eq_true rfl) ?_
  refine lv_astore_n (lv' := [(2, .ref q2), (1, .ref q1), (0, .ref b)]) hx hb d_code_15 rfl hl (by decide) rfl (fun ls hl => ?_)
  refine lv_iconst (v := iI 0) hx hb d_code_16 rfl ?_
  refine lv_istore_n (lv' := [(3, .int (iI 0)), (2, .ref q2), (1, .ref q1), (0, .ref b)]) hx hb d_code_17 rfl hl (by decide) rfl (fun ls hl => ?_)
  exact law_loop (X0.grow hZb.inA) hXs hbl hbA hA2 (Nat.le_trans hL (by decide)) hq5 g4 (X0.grow hZa.inA) hZa (hZb.cong g3) hd hS5 hq1 hl ⟨g5, g6⟩

set_option maxHeartbeats 4000000 in
theorem lw_walk (hP0 : zPure) (l : Launch) (b : Addr) (xs : List Int32) : MetFree l x (headSpec (Jvm.Cond.code x code maxLocals ret :: tables_1) room_1) (lw_P b xs) (fun _ _ _ _ _ => True) lw_Q := by
  refine MetFree.of_bodyS (code := code) (maxLocals := maxLocals) (ret := ret) (by decide) ?_ ?_
  · intro args s m h hn
    obtain ⟨meth, c, h1, h2, h3, h4, h5, h6, -, -⟩ := Cond.code_spec hn (atoms_spec (ws := Jvm.Cond.code x code maxLocals ret :: tables_1) h _ List.mem_cons_self)
    exact ⟨meth, c, h1, h2, h3, h4, h5, h6⟩
  · intro p e s m args below meth c s₁ B hml0 hP _
    obtain ⟨rfl, hx, hbd, hgv⟩ := hP
    obtain ⟨scr, harrAt, hlist, hof, hsmall⟩ := hx
    obtain ⟨hcb, hkn, -, -⟩ := State.arrayAt?_spec harrAt
    have hown : s.vm.findClass R_law = some m.cls := findClass_of_methodNamed B.named
    have hts0 : ∀ c ∈ (Jvm.Cond.code x code maxLocals ret :: tables_1), c.before #[Value.ref b] s = true := atoms_spec (ws := Jvm.Cond.code x code maxLocals ret :: tables_1) B.pre
    have hts : ∀ w ∈ lw_tbl, w.before #[Value.ref b] s = true := k2_hts_sels lw_privs (fun w hw => hts0 w (List.mem_cons_of_mem _ hw)) lw_privs_ok
    have hml : c.maxLocals = 4 := B.maxLocals_eq (hts0 _ List.mem_cons_self)
    have X₀ : Stand p l e room_1 s m #[Value.ref b] below meth c s₁ [] 0 0 := Stand.of_body B
    have hh0 : s₁.heap = s.heap := by rw [B.state]; rfl
    have hsz : scr.slots.size = xs.length := by rw [← Array.length_toList, hlist, List.length_map]
    have hval : ∀ j : Nat, j < xs.length → scr.slots[j]? = some (.int (xs.getD j 0)) := fun j hj => by
      rw [← Array.getElem?_toList, hlist]
      simp [hj]
    have hbl : b < s.heap.size := (Array.getElem?_eq_some_iff.mp hcb).1
    have hX : va_X b xs.length (fun j => xs.getD j 0) s s.heap := ⟨scr, hcb, hof, hkn, hsz, hval⟩
    have K : W p l e room_1 s m #[Value.ref b] below meth c s₁.heap [] 0 0 (lw_Z below #[Value.ref b] s) (entryFrame m ([Value.ref b] : List Value).toArray 4) := by
      rw [hh0]
      exact whole_start l hbd (hP0 _ _ hbd) ⟨B.exec, B.bytes, B.returns, hml, hown, hts, hX, hbl, B.notSynchronized, hgv⟩
    obtain ⟨t, a1, o, b1, b2, b3⟩ := K s₁ rfl X₀
    exact ⟨t, o, a1, b1, b2, b3⟩
theorem lw_pre_spec {args : Array Value} {s : State} (h : (Jvm.Cond.and given_1 narrow_1).before args s = true) (hr : rest_1_c.before args s = true) : ∃ (b : Addr) (xs : List Int32), lw_P b xs args s := by
  have hs := flat_of_before _ h
  have hq := flat_of_before _ hr
  have hc : (Cond.count 1).before args s = true := hs _ (by decide +kernel)
  have harr : (Cond.arrayOf (.arg 0) .int).before args s = true := hs _ (by decide +kernel)
  have hle : (Cond.le (.length (.arg 0)) (.int 4608)).before args s = true := hs _ (by decide +kernel)
  have hlen : (Cond.isInt (.length (.arg 0))).before args s = true := hq _ (by decide +kernel)
  have hall : (Cond.all (.arg 0) (.isInt (.elem (.arg 0) (.index 0)))).before args s = true := hq _ (by decide +kernel)
  obtain ⟨b, xs, hb, hx⟩ := State.ints_of_pre rfl harr hlen hall
  have hsm : xs.length < 2 ^ 31 := hx.choose_spec.2.2.2
  have hev : (Term.length (.arg 0)).eval args s none [] s = some (.int xs.length.toInt32) := hx.length_eval hb
  have hv := Cond.le_ints hev (show (Term.int 4608).eval args s none [] s = some (.int 4608) from rfl)
  have hd : xs.length.toInt32 ≤ 4608 := by
    simpa [Cond.before, Cond.holds, hv] using hle
  have hN : xs.length ≤ 4608 := (Int32.ofNat_le_ofNat hsm (by decide)).mp (show Int32.ofNat xs.length ≤ Int32.ofNat 4608 from hd)
  exact ⟨b, xs, Cond.one_arg hc (show args[0]? = some (.ref b) from hb), hx, hN, h⟩
theorem lw_comes (hP0 : zPure) (l : Launch) : Comes l x (Jvm.Cond.code x code maxLocals ret :: tables_1) room_1 (fun tb e args s => Calls_1 tb e args s ∧ rest_1 tb e args s ∧ Pre_1 tb e args s)
    (fun _ _ args s o t => lw_Q args s o t) := by
  intro p e ha hc hk s m args below hf hfit hheap happ hpre
  obtain ⟨b, xs, hP⟩ := lw_pre_spec hpre.2.2 hpre.2.1
  obtain ⟨k, o, h1, h2, h3, hQ⟩ := lw_walk hP0 l b xs p e ha hc hk s m args below hf ((Spec.applies_iff_loose hf).mp happ).1 hP trivial
  exact ⟨k, o, h1, h2, h3, hQ⟩
theorem lw_frame {s t : State} {o : Outcome} {args : Array Value} (h : Framed s o t [] 600000 7302250) :
    Framed s o t (fieldLocs frame_1_writes args s ++ arrayLocs frame_1_arrays args s ++ staticLocs frame_1_statics s) 600000 7302250 := h
theorem lw_limb (hP0 : zPure) (L : Cond) (hL : ∀ (args : Array Value) (s t : State), L.after args s (.returned (some (.int 1))) t = true) :
    ArmFor flags0 classFile x code maxLocals ret World_1 tables_1 room_1 Calls_1 rest_1 Pre_1
      (fun tb e a s o t => postC L tb e a s o t ∧ Framed s o t (fieldLocs frame_1_writes a s ++ arrayLocs frame_1_arrays a s ++ staticLocs frame_1_statics s) 600000 7302250) := by
  intro l _ _ _ p e ha hc hk s m args below hf hfit hheap happ hpre
  obtain ⟨k, o, h1, h2, h3, rfl, hF⟩ := lw_comes hP0 l p e ha hc hk s m args below hf hfit hheap happ hpre
  exact ⟨k, _, h1, h2, h3, hL args s _, lw_frame hF⟩
theorem i_vc_of (hP0 : zPure) : Claimed_1_1 ∧ Claimed_1_2 := ⟨lw_limb hP0 limb_1_1 (fun args s t => by simp [limb_1_1, Cond.after, Cond.holds, Cond.value]), lw_limb hP0 limb_1_2 (fun args s t => Cond.after_iff.mpr (by
  first | (rw [show limb_1_2 = Cond.eq .result (.int 1) from rfl, Cond.eq_ints (x := 1) (y := 1) rfl rfl]; simp; done) | (simp [limb_1_2, Cond.value, Term.eval]; done)))⟩
end
section
/-! ===== zPure out of an invariant of both sides that every call keeps ===== -/
theorem zand31 (a b : Int) : r32 (zand a b) := ⟨Int32.le_toInt _, by have := Int32.toInt_le (iI a &&& iI b); exact Int.lt_of_le_of_lt this (by decide)⟩
theorem scz_r (xs : Nat → Int32) (j : Int) : r32 (scz xs j) := ⟨Int32.le_toInt _, by have := Int32.toInt_le (xs j.toNat); exact Int.lt_of_le_of_lt this (by decide)⟩
theorem lloop_of {Kr : Nat} {x : Int} {sc : Int → Int} {n : Int} (hn : n ≤ 4608) (hn0 : 0 ≤ n) {Inv : zK → zF → zB → zF → zB → Prop}
    (hstep : ∀ {i : Int} {K : zK} {F Fm : zF} {B Bm : zB}, 0 ≤ i → i + 9 ≤ n → Inv K F B Fm Bm → ∃ K' F' B' Fm' Bm', lstep Kr x sc n i K F B Fm Bm = some (K', F', B', Fm', Bm') ∧ Inv K' F' B' Fm' Bm') :
    ∀ (f : Nat) {i : Int} {K : zK} {F Fm : zF} {B Bm : zB}, 0 ≤ i → i ≤ 4617 → (n + 1 - i).toNat < f → Inv K F B Fm Bm → ∃ K' F' B' Fm' Bm', lloop Kr x sc n f i K F B Fm Bm = some (K', F', B', Fm', Bm') ∧ Inv K' F' B' Fm' Bm' := by
  intro f
  induction f with
  | zero =>
    intro i K F Fm B Bm h0 h1 hf hI
    omega
  | succ f ih =>
    intro i K F Fm B Bm h0 h1 hf hI
    unfold lloop
    rw [if_pos (show r32 i from ⟨by omega, by omega⟩), if_pos (show r32 (n - 9) from ⟨by omega, by omega⟩)]
    by_cases h : n - 9 < i
    · rw [if_pos h]
      exact ⟨K, F, B, Fm, Bm, rfl, hI⟩
    · rw [if_neg h, if_pos (show 0 ≤ i ∧ i < n from ⟨h0, by omega⟩), if_pos (zand31 _ _)]
      obtain ⟨K1, F1, B1, Fm1, Bm1, e, hI1⟩ := hstep h0 (by omega) hI
      rw [e]
      exact ih (by omega) (by omega) (by omega) hI1
/-- what is to be shown of the functions: an invariant that holds at the start, that every call keeps, and under which what is made has room -/
theorem zPure_of {Kr : Nat} {Inv : zK → zF → zB → zF → zB → Prop} {f fm : Nat} {x : Int} {K Km : zK} {F Fm : zF} {B Bm : zB} (h1 : f_S_init (f, fun _ => 0) zF0 zB0 = some (x, F, B, K)) (h2 : f_M_init (fm, fun _ => 0) zF0 zB0 = some (0, Fm, Bm, Km)) (h3 : ∀ c, Km.2 c = nM c) (h4 : Inv K F B Fm Bm)
    (hstep : ∀ (sc : Int → Int), (∀ j, r32 (sc j)) → ∀ {n i : Int} {K : zK} {F Fm : zF} {B Bm : zB}, n ≤ 4608 → 0 ≤ i → i + 9 ≤ n → Inv K F B Fm Bm → ∃ K' F' B' Fm' Bm', lstep Kr x sc n i K F B Fm Bm = some (K', F', B', Fm', Bm') ∧ Inv K' F' B' Fm' Bm')
    (hroom : ∀ {K' : zK} {F Fm : zF} {B Bm : zB}, Inv K' F B Fm Bm → 282 + cwC K K' ≤ 600000 ∧ 716534 + swC K K' ≤ 7302250) : zPure := by
  intro n xs hn
  obtain ⟨K9, F9, B9, Fm9, Bm9, e, hI⟩ := lloop_of (Kr := Kr) (x := x) (sc := scz xs) (n := n) (by omega) (by omega) (Inv := Inv) (fun h0 h1 hI => hstep (scz xs) (scz_r xs) (by omega) h0 h1 hI) 5000 (i := 0) (by omega) (by omega) (by omega) h4
  exact ⟨f, fm, Kr, 5000, x, K, Km, K9, F, Fm, F9, Fm9, B, Bm, B9, Bm9, h1, h2, h3, e, (hroom hI).1, (hroom hI).2⟩
end
section
theorem zsl_le {i : Nat} (h : i < strL.length) : 0 ≤ zsl i ∧ zsl i ≤ 1000 := by
  have := zsq_le i h
  unfold zsl
  omega
theorem mlen {K : zK} {F : zF} {B : zB} {i : Nat} (h : i < strL.length) (hv : zshr (zsl i) 0 = zsl i) : f_MString_length K i F B = some (zsl i, F, B) := by
  unfold f_MString_length f_MString_coder f_MString_coder_14
  rw [if_pos h, if_neg (by decide), if_pos h, if_pos (by decide)]
  show some (zshr (zsl i) 0, F, B) = _
  rw [hv]
theorem mchar {K : zK} {F : zF} {B : zB} {i : Nat} {j v : Int} (h : i < strL.length) (h0 : 0 ≤ j) (h1 : j < zsl i) (hv : zi2c (zand (zsb i j) 255) = v) (v0 : 0 ≤ v ∧ v < 65536) : f_MString_charAt K i j F B = some (v, F, B) := by
  have hz := zsl_le h
  have e1 : f_MString_isLatin1 K i F B = some (1, F, B) := by
    unfold f_MString_isLatin1 f_MString_isLatin1_18
    rw [if_neg (by decide), if_pos h, if_pos (by decide), if_pos (by decide)]
  have e2 : f_MString_checkIndex K j (zsl i) F B = some (0, F, B) := by
    unfold f_MString_checkIndex f_MPreconditions_checkIndex
    rw [if_pos (show r32 j from ⟨by omega, by omega⟩), if_neg (by omega), if_pos (show r32 (zsl i) from ⟨by omega, by omega⟩), if_pos h1]
    rfl
  have e3 : f_MStringLatin1_charAt K i j F B = some (v, F, B) := by
    unfold f_MStringLatin1_charAt
    rw [if_pos h, e2]
    show (if 0 ≤ j ∧ j < zsl i then _ else _) = _
    rw [if_pos ⟨h0, h1⟩, hv, if_pos v0]
  unfold f_MString_charAt
  rw [if_pos h, e1]
  show (if r32 (1 : Int) then (if (1 : Int) = 0 then none else zbind (f_MStringLatin1_charAt K i j F B) (fun r5 F5 B5 => if 0 ≤ r5 ∧ r5 < 65536 then some (r5, F5, B5) else none)) else none) = some (v, F, B)
  rw [if_pos ⟨by decide, by decide⟩, if_neg (by decide), e3]
  show (if 0 ≤ v ∧ v < 65536 then some (v, F, B) else none) = some (v, F, B)
  rw [if_pos v0]
theorem mcode_step {K : zK} {F : zF} {B : zB} {i n : Nat} {j a v a' : Int} (h : i < strL.length) (hl : zshr (zsl i) 0 = zsl i) (h0 : 0 ≤ j) (h1 : j < zsl i) (hv : zi2c (zand (zsb i j) 255) = v) (v0 : 0 ≤ v ∧ v < 65536) (ha : zlor (zlshl a 8) v = a') : f_MM_code_4 K (n + 1) j a i F B = f_MM_code_4 K n (j + 1) a' i F B := by
  have hz := zsl_le h
  show (if i < strL.length then _ else _) = _
  rw [if_pos h, mlen h hl]
  show (if r32 j then _ else _) = _
  rw [if_pos (show r32 j from ⟨by omega, by omega⟩), if_pos (show r32 (zsl i) from ⟨by omega, by omega⟩), if_neg (by omega), mchar h h0 h1 hv v0]
  show (if r32 v then _ else _) = _
  rw [if_pos (show r32 v from ⟨by omega, by omega⟩), ha]
theorem mcode_end {K : zK} {F : zF} {B : zB} {i n : Nat} {j a : Int} (h : i < strL.length) (hl : zshr (zsl i) 0 = zsl i) (h1 : j = zsl i) : f_MM_code_4 K (n + 1) j a i F B = some (a, F, B) := by
  have hz := zsl_le h
  show (if i < strL.length then _ else _) = _
  rw [if_pos h, mlen h hl]
  show (if r32 j then _ else _) = _
  rw [if_pos (show r32 j from ⟨by omega, by omega⟩), if_pos (show r32 (zsl i) from ⟨by omega, by omega⟩), if_pos (by omega)]
theorem mcode_23 {N : Nat → Int} {F : zF} {B : zB} : f_MM_code (20, N) 23 F B = some (128034676042853, F, B) := by
  show f_MM_code_4 _ 20 0 0 23 F B = _
  rw [mcode_step (v := 116) (a' := 116) (by decide) (by decide) (by decide) (by decide) (by decide) (by decide) (by decide)]
  rw [mcode_step (v := 114) (a' := 29810) (by decide) (by decide) (by decide) (by decide) (by decide) (by decide) (by decide)]
  rw [mcode_step (v := 101) (a' := 7631461) (by decide) (by decide) (by decide) (by decide) (by decide) (by decide) (by decide)]
  rw [mcode_step (v := 98) (a' := 1953654114) (by decide) (by decide) (by decide) (by decide) (by decide) (by decide) (by decide)]
  rw [mcode_step (v := 108) (a' := 500135453292) (by decide) (by decide) (by decide) (by decide) (by decide) (by decide) (by decide)]
  rw [mcode_step (v := 101) (a' := 128034676042853) (by decide) (by decide) (by decide) (by decide) (by decide) (by decide) (by decide)]
  exact mcode_end (by decide) (by decide) (by decide)
theorem mcode_24 {N : Nat → Int} {F : zF} {B : zB} : f_MM_code (20, N) 24 F B = some (1650553715, F, B) := by
  show f_MM_code_4 _ 20 0 0 24 F B = _
  rw [mcode_step (v := 98) (a' := 98) (by decide) (by decide) (by decide) (by decide) (by decide) (by decide) (by decide)]
  rw [mcode_step (v := 97) (a' := 25185) (by decide) (by decide) (by decide) (by decide) (by decide) (by decide) (by decide)]
  rw [mcode_step (v := 115) (a' := 6447475) (by decide) (by decide) (by decide) (by decide) (by decide) (by decide) (by decide)]
  rw [mcode_step (v := 115) (a' := 1650553715) (by decide) (by decide) (by decide) (by decide) (by decide) (by decide) (by decide)]
  exact mcode_end (by decide) (by decide) (by decide)
theorem mcode_25 {N : Nat → Int} {F : zF} {B : zB} : f_MM_code (20, N) 25 F B = some (1634497647, F, B) := by
  show f_MM_code_4 _ 20 0 0 25 F B = _
  rw [mcode_step (v := 97) (a' := 97) (by decide) (by decide) (by decide) (by decide) (by decide) (by decide) (by decide)]
  rw [mcode_step (v := 108) (a' := 24940) (by decide) (by decide) (by decide) (by decide) (by decide) (by decide) (by decide)]
  rw [mcode_step (v := 116) (a' := 6384756) (by decide) (by decide) (by decide) (by decide) (by decide) (by decide) (by decide)]
  rw [mcode_step (v := 111) (a' := 1634497647) (by decide) (by decide) (by decide) (by decide) (by decide) (by decide) (by decide)]
  exact mcode_end (by decide) (by decide) (by decide)
theorem mcode_26 {N : Nat → Int} {F : zF} {B : zB} : f_MM_code (20, N) 26 F B = some (499917942642, F, B) := by
  show f_MM_code_4 _ 20 0 0 26 F B = _
  rw [mcode_step (v := 116) (a' := 116) (by decide) (by decide) (by decide) (by decide) (by decide) (by decide) (by decide)]
  rw [mcode_step (v := 101) (a' := 29797) (by decide) (by decide) (by decide) (by decide) (by decide) (by decide) (by decide)]
  rw [mcode_step (v := 110) (a' := 7628142) (by decide) (by decide) (by decide) (by decide) (by decide) (by decide) (by decide)]
  rw [mcode_step (v := 111) (a' := 1952804463) (by decide) (by decide) (by decide) (by decide) (by decide) (by decide) (by decide)]
  rw [mcode_step (v := 114) (a' := 499917942642) (by decide) (by decide) (by decide) (by decide) (by decide) (by decide) (by decide)]
  exact mcode_end (by decide) (by decide) (by decide)
theorem mcode_27 {N : Nat → Int} {F : zF} {B : zB} : f_MM_code (20, N) 27 F B = some (7368816, F, B) := by
  show f_MM_code_4 _ 20 0 0 27 F B = _
  rw [mcode_step (v := 112) (a' := 112) (by decide) (by decide) (by decide) (by decide) (by decide) (by decide) (by decide)]
  rw [mcode_step (v := 112) (a' := 28784) (by decide) (by decide) (by decide) (by decide) (by decide) (by decide) (by decide)]
  rw [mcode_step (v := 112) (a' := 7368816) (by decide) (by decide) (by decide) (by decide) (by decide) (by decide) (by decide)]
  exact mcode_end (by decide) (by decide) (by decide)
theorem mcode_28 {N : Nat → Int} {F : zF} {B : zB} : f_MM_code (20, N) 28 F B = some (28784, F, B) := by
  show f_MM_code_4 _ 20 0 0 28 F B = _
  rw [mcode_step (v := 112) (a' := 112) (by decide) (by decide) (by decide) (by decide) (by decide) (by decide) (by decide)]
  rw [mcode_step (v := 112) (a' := 28784) (by decide) (by decide) (by decide) (by decide) (by decide) (by decide) (by decide)]
  exact mcode_end (by decide) (by decide) (by decide)
theorem mcode_29 {N : Nat → Int} {F : zF} {B : zB} : f_MM_code (20, N) 29 F B = some (112, F, B) := by
  show f_MM_code_4 _ 20 0 0 29 F B = _
  rw [mcode_step (v := 112) (a' := 112) (by decide) (by decide) (by decide) (by decide) (by decide) (by decide) (by decide)]
  exact mcode_end (by decide) (by decide) (by decide)
theorem mcode_30 {N : Nat → Int} {F : zF} {B : zB} : f_MM_code (20, N) 30 F B = some (28016, F, B) := by
  show f_MM_code_4 _ 20 0 0 30 F B = _
  rw [mcode_step (v := 109) (a' := 109) (by decide) (by decide) (by decide) (by decide) (by decide) (by decide) (by decide)]
  rw [mcode_step (v := 112) (a' := 28016) (by decide) (by decide) (by decide) (by decide) (by decide) (by decide) (by decide)]
  exact mcode_end (by decide) (by decide) (by decide)
theorem mcode_31 {N : Nat → Int} {F : zF} {B : zB} : f_MM_code (20, N) 31 F B = some (28006, F, B) := by
  show f_MM_code_4 _ 20 0 0 31 F B = _
  rw [mcode_step (v := 109) (a' := 109) (by decide) (by decide) (by decide) (by decide) (by decide) (by decide) (by decide)]
  rw [mcode_step (v := 102) (a' := 28006) (by decide) (by decide) (by decide) (by decide) (by decide) (by decide) (by decide)]
  exact mcode_end (by decide) (by decide) (by decide)
theorem mcode_32 {N : Nat → Int} {F : zF} {B : zB} : f_MM_code (20, N) 32 F B = some (102, F, B) := by
  show f_MM_code_4 _ 20 0 0 32 F B = _
  rw [mcode_step (v := 102) (a' := 102) (by decide) (by decide) (by decide) (by decide) (by decide) (by decide) (by decide)]
  exact mcode_end (by decide) (by decide) (by decide)
theorem mcode_33 {N : Nat → Int} {F : zF} {B : zB} : f_MM_code (20, N) 33 F B = some (26214, F, B) := by
  show f_MM_code_4 _ 20 0 0 33 F B = _
  rw [mcode_step (v := 102) (a' := 102) (by decide) (by decide) (by decide) (by decide) (by decide) (by decide) (by decide)]
  rw [mcode_step (v := 102) (a' := 26214) (by decide) (by decide) (by decide) (by decide) (by decide) (by decide) (by decide)]
  exact mcode_end (by decide) (by decide) (by decide)
theorem mcode_34 {N : Nat → Int} {F : zF} {B : zB} : f_MM_code (20, N) 34 F B = some (6710886, F, B) := by
  show f_MM_code_4 _ 20 0 0 34 F B = _
  rw [mcode_step (v := 102) (a' := 102) (by decide) (by decide) (by decide) (by decide) (by decide) (by decide) (by decide)]
  rw [mcode_step (v := 102) (a' := 26214) (by decide) (by decide) (by decide) (by decide) (by decide) (by decide) (by decide)]
  rw [mcode_step (v := 102) (a' := 6710886) (by decide) (by decide) (by decide) (by decide) (by decide) (by decide) (by decide)]
  exact mcode_end (by decide) (by decide) (by decide)
theorem start_S (f : Nat) : ∃ F B K, f_S_init (f, fun _ => 0) zF0 zB0 = some (0, F, B, K) ∧ K.1 = f := ⟨_, _, _, rfl, rfl⟩
theorem bindM_some {x : zOm} {k : Int → zF → zB → zK → zOm} {r : Int} {F : zF} {B : zB} {K : zK} (h : x = some (r, F, B, K)) : zbindM x k = k r F B K := by rw [h]; rfl
theorem bindN_some {x : zO} {k : Int → zF → zB → zOm} {r : Int} {F : zF} {B : zB} (h : x = some (r, F, B)) : zbindN x k = k r F B := by rw [h]; rfl
theorem mp_init {K : zK} {F : zF} {B : zB} (h : 0 ≤ K.2 13) : ∃ F' B', f_MP_init K F B = some (K.2 13, F', B', (K.1, zinN K.2 13)) := by
  unfold f_MP_init
  rw [if_pos h]
  exact ⟨_, _, rfl⟩
theorem start_M : ∃ F B, f_M_init (20, fun _ => 0) zF0 zB0 = some (0, F, B, (20, zinN (zinN (zinN (zinN (fun _ => 0) 13) 13) 13) 14)) := by
  unfold f_M_init
  obtain ⟨F1, B1, h1⟩ := mp_init (K := (20, fun _ => 0)) (F := zF0) (B := zB0) (by decide)
  rw [bindM_some h1, if_pos (by decide)]
  obtain ⟨F2, B2, h2⟩ := mp_init (K := (20, zinN (fun _ => 0) 13)) (F := F1) (B := B1) (by decide)
  rw [bindM_some h2, if_pos (by decide), if_pos (by decide)]
  obtain ⟨F3, B3, h3⟩ := mp_init (K := (20, zinN (zinN (fun _ => 0) 13) 13)) (F := F2) (B := B2) (by decide)
  rw [bindM_some h3, if_pos (by decide), if_pos (by decide), if_pos (by decide)]
  rw [bindN_some mcode_23]
  rw [bindN_some mcode_24]
  rw [bindN_some mcode_25]
  rw [bindN_some mcode_26]
  rw [bindN_some mcode_27]
  rw [bindN_some mcode_28]
  rw [bindN_some mcode_29]
  rw [bindN_some mcode_30]
  rw [bindN_some mcode_31]
  rw [bindN_some mcode_32]
  rw [bindN_some mcode_33]
  rw [bindN_some mcode_34]
  repeat rw [if_pos (by decide)]
  exact ⟨_, _, rfl⟩
theorem start_N : ∀ c, zinN (zinN (zinN (zinN (fun _ => 0) 13) 13) 13) 14 c = nM c := by
  intro c
  unfold zinN nM
  by_cases h : c = 14
  · subst h; rfl
  · by_cases h2 : c = 13
    · subst h2; rfl
    · simp [h, h2]
end
section
theorem zbL_some {x : zO} {k : Int → zF → zB → zL} {r : Int} {F : zF} {B : zB} (h : x = some (r, F, B)) : zbL x k = k r F B := by rw [h]; rfl
theorem zbM_some {x : zOm} {k : Int → zF → zB → zK → zL} {r : Int} {F : zF} {B : zB} {K : zK} (h : x = some (r, F, B, K)) : zbM x k = k r F B K := by rw [h]; rfl
theorem lst_0 {Kr : Nat} {x n i : Int} {sc : Int → Int} {K : zK} {F Fm F1 F2 : zF} {B Bm B1 B2 : zB} {r1 r2 : Int} (hi : 0 ≤ i) (hn : i + 9 ≤ n) (hx : 0 ≤ x ∧ x < K.2 12) (h1 : f_S_feed K x (sc (i + 1)) (sc (i + 2)) (sc (i + 3)) (sc (i + 4)) (sc (i + 5)) F B = some (r1, F1, B1)) (h2 : f_M_feed Kr (sc (i + 1)) (sc (i + 2)) (sc (i + 3)) (sc (i + 4)) (sc (i + 5)) Fm Bm = some (r2, F2, B2)) : ls_0 Kr x sc n i K F B Fm Bm = some (K, F1, B1, F2, B2) := by
  unfold ls_0
  rw [if_pos (show 0 ≤ (i + 1) ∧ (i + 1) < n from ⟨by omega, by omega⟩)]
  rw [if_pos (show 0 ≤ (i + 2) ∧ (i + 2) < n from ⟨by omega, by omega⟩)]
  rw [if_pos (show 0 ≤ (i + 3) ∧ (i + 3) < n from ⟨by omega, by omega⟩)]
  rw [if_pos (show 0 ≤ (i + 4) ∧ (i + 4) < n from ⟨by omega, by omega⟩)]
  rw [if_pos (show 0 ≤ (i + 5) ∧ (i + 5) < n from ⟨by omega, by omega⟩)]
  rw [if_pos hx]
  rw [zbL_some h1]
  rw [if_pos (show 0 ≤ (i + 1) ∧ (i + 1) < n from ⟨by omega, by omega⟩)]
  rw [if_pos (show 0 ≤ (i + 2) ∧ (i + 2) < n from ⟨by omega, by omega⟩)]
  rw [if_pos (show 0 ≤ (i + 3) ∧ (i + 3) < n from ⟨by omega, by omega⟩)]
  rw [if_pos (show 0 ≤ (i + 4) ∧ (i + 4) < n from ⟨by omega, by omega⟩)]
  rw [if_pos (show 0 ≤ (i + 5) ∧ (i + 5) < n from ⟨by omega, by omega⟩)]
  rw [zbL_some h2]
theorem lst_1 {Kr : Nat} {x n i : Int} {sc : Int → Int} {K : zK} {F Fm F1 F2 : zF} {B Bm B1 B2 : zB} {r1 r2 : Int} (hi : 0 ≤ i) (hn : i + 9 ≤ n) (hx : 0 ≤ x ∧ x < K.2 12) (h1 : f_S_end K x (sc (i + 1)) F B = some (r1, F1, B1)) (h2 : f_M_end Kr (sc (i + 1)) Fm Bm = some (r2, F2, B2)) : ls_1 Kr x sc n i K F B Fm Bm = some (K, F1, B1, F2, B2) := by
  unfold ls_1
  rw [if_pos (show 0 ≤ (i + 1) ∧ (i + 1) < n from ⟨by omega, by omega⟩)]
  rw [if_pos hx]
  rw [zbL_some h1]
  rw [if_pos (show 0 ≤ (i + 1) ∧ (i + 1) < n from ⟨by omega, by omega⟩)]
  rw [zbL_some h2]
theorem lst_2 {Kr : Nat} {x n i : Int} {sc : Int → Int} {K K1 : zK} {F Fm F1 F2 : zF} {B Bm B1 B2 : zB} {r1 r2 : Int} (hi : 0 ≤ i) (hn : i + 9 ≤ n) (hx : 0 ≤ x ∧ x < K.2 12) (h1 : f_S_read K x (sc (i + 1)) F B = some (r1, F1, B1, K1)) (h2 : f_M_read Kr (sc (i + 1)) Fm Bm = some (r2, F2, B2)) : ls_2 Kr x sc n i K F B Fm Bm = some (K1, F1, B1, F2, B2) := by
  unfold ls_2
  rw [if_pos (show 0 ≤ (i + 1) ∧ (i + 1) < n from ⟨by omega, by omega⟩)]
  rw [if_pos hx]
  rw [zbM_some h1]
  rw [if_pos (show 0 ≤ (i + 1) ∧ (i + 1) < n from ⟨by omega, by omega⟩)]
  rw [zbL_some h2]
theorem lst_3 {Kr : Nat} {x n i : Int} {sc : Int → Int} {K K1 : zK} {F Fm F1 F2 : zF} {B Bm B1 B2 : zB} {r1 r2 : Int} (hi : 0 ≤ i) (hn : i + 9 ≤ n) (hx : 0 ≤ x ∧ x < K.2 12) (h1 : f_S_look K x (sc (i + 1)) (sc (i + 2)) F B = some (r1, F1, B1, K1)) (h2 : f_M_look Kr (sc (i + 1)) (sc (i + 2)) Fm Bm = some (r2, F2, B2)) : ls_3 Kr x sc n i K F B Fm Bm = some (K1, F1, B1, F2, B2) := by
  unfold ls_3
  rw [if_pos (show 0 ≤ (i + 1) ∧ (i + 1) < n from ⟨by omega, by omega⟩)]
  rw [if_pos (show 0 ≤ (i + 2) ∧ (i + 2) < n from ⟨by omega, by omega⟩)]
  rw [if_pos hx]
  rw [zbM_some h1]
  rw [if_pos (show 0 ≤ (i + 1) ∧ (i + 1) < n from ⟨by omega, by omega⟩)]
  rw [if_pos (show 0 ≤ (i + 2) ∧ (i + 2) < n from ⟨by omega, by omega⟩)]
  rw [zbL_some h2]
theorem lst_4 {Kr : Nat} {x n i : Int} {sc : Int → Int} {K : zK} {F Fm F1 F2 : zF} {B Bm B1 B2 : zB} {r1 r2 : Int} (hi : 0 ≤ i) (hn : i + 9 ≤ n) (hx : 0 ≤ x ∧ x < K.2 12) (h1 : f_S_voice K x (sc (i + 1)) (sc (i + 2)) (sc (i + 3)) F B = some (r1, F1, B1)) (h2 : f_M_voice Kr (sc (i + 1)) (sc (i + 2)) (sc (i + 3)) Fm Bm = some (r2, F2, B2)) : ls_4 Kr x sc n i K F B Fm Bm = some (K, F1, B1, F2, B2) := by
  unfold ls_4
  rw [if_pos (show 0 ≤ (i + 1) ∧ (i + 1) < n from ⟨by omega, by omega⟩)]
  rw [if_pos (show 0 ≤ (i + 2) ∧ (i + 2) < n from ⟨by omega, by omega⟩)]
  rw [if_pos (show 0 ≤ (i + 3) ∧ (i + 3) < n from ⟨by omega, by omega⟩)]
  rw [if_pos hx]
  rw [zbL_some h1]
  rw [if_pos (show 0 ≤ (i + 1) ∧ (i + 1) < n from ⟨by omega, by omega⟩)]
  rw [if_pos (show 0 ≤ (i + 2) ∧ (i + 2) < n from ⟨by omega, by omega⟩)]
  rw [if_pos (show 0 ≤ (i + 3) ∧ (i + 3) < n from ⟨by omega, by omega⟩)]
  rw [zbL_some h2]
theorem lst_5 {Kr : Nat} {x n i : Int} {sc : Int → Int} {K : zK} {F Fm F1 F2 : zF} {B Bm B1 B2 : zB} {r1 r2 : Int} (hi : 0 ≤ i) (hn : i + 9 ≤ n) (hx : 0 ≤ x ∧ x < K.2 12) (h1 : f_S_name K x (sc (i + 1)) (sc (i + 2)) F B = some (r1, F1, B1)) (h2 : f_M_name Kr (sc (i + 1)) (sc (i + 2)) Fm Bm = some (r2, F2, B2)) : ls_5 Kr x sc n i K F B Fm Bm = some (K, F1, B1, F2, B2) := by
  unfold ls_5
  rw [if_pos (show 0 ≤ (i + 1) ∧ (i + 1) < n from ⟨by omega, by omega⟩)]
  rw [if_pos (show 0 ≤ (i + 2) ∧ (i + 2) < n from ⟨by omega, by omega⟩)]
  rw [if_pos hx]
  rw [zbL_some h1]
  rw [if_pos (show 0 ≤ (i + 1) ∧ (i + 1) < n from ⟨by omega, by omega⟩)]
  rw [if_pos (show 0 ≤ (i + 2) ∧ (i + 2) < n from ⟨by omega, by omega⟩)]
  rw [zbL_some h2]
theorem lst_6 {Kr : Nat} {x n i : Int} {sc : Int → Int} {K : zK} {F Fm F1 F2 : zF} {B Bm B1 B2 : zB} {r1 r2 : Int} (hi : 0 ≤ i) (hn : i + 9 ≤ n) (hx : 0 ≤ x ∧ x < K.2 12) (h1 : f_S_event K x (sc (i + 1)) (sc (i + 2)) (sc (i + 3)) (sc (i + 4)) F B = some (r1, F1, B1)) (h2 : f_M_event_1 Kr (sc (i + 1)) (sc (i + 2)) (sc (i + 3)) (sc (i + 4)) Fm Bm = some (r2, F2, B2)) (he : r1 = r2) : ls_6 Kr x sc n i K F B Fm Bm = some (K, F1, B1, F2, B2) := by
  unfold ls_6
  rw [if_pos (show 0 ≤ (i + 1) ∧ (i + 1) < n from ⟨by omega, by omega⟩)]
  rw [if_pos (show 0 ≤ (i + 2) ∧ (i + 2) < n from ⟨by omega, by omega⟩)]
  rw [if_pos (show 0 ≤ (i + 3) ∧ (i + 3) < n from ⟨by omega, by omega⟩)]
  rw [if_pos (show 0 ≤ (i + 4) ∧ (i + 4) < n from ⟨by omega, by omega⟩)]
  rw [if_pos hx]
  rw [zbL_some h1]
  rw [if_pos (show 0 ≤ (i + 1) ∧ (i + 1) < n from ⟨by omega, by omega⟩)]
  rw [if_pos (show 0 ≤ (i + 2) ∧ (i + 2) < n from ⟨by omega, by omega⟩)]
  rw [if_pos (show 0 ≤ (i + 3) ∧ (i + 3) < n from ⟨by omega, by omega⟩)]
  rw [if_pos (show 0 ≤ (i + 4) ∧ (i + 4) < n from ⟨by omega, by omega⟩)]
  rw [zbL_some h2]
  rw [if_pos he]
theorem lst_7 {Kr : Nat} {x n i : Int} {sc : Int → Int} {K : zK} {F Fm F1 F2 : zF} {B Bm B1 B2 : zB} {r1 r2 : Int} (hi : 0 ≤ i) (hn : i + 9 ≤ n) (hx : 0 ≤ x ∧ x < K.2 12) (h1 : f_S_pitch K x (sc (i + 1)) (sc (i + 2)) (sc (i + 3)) (sc (i + 4)) (sc (i + 5)) F B = some (r1, F1, B1)) (h2 : f_M_pitch Kr (sc (i + 1)) (sc (i + 2)) (sc (i + 3)) (sc (i + 4)) (sc (i + 5)) Fm Bm = some (r2, F2, B2)) : ls_7 Kr x sc n i K F B Fm Bm = some (K, F1, B1, F2, B2) := by
  unfold ls_7
  rw [if_pos (show 0 ≤ (i + 1) ∧ (i + 1) < n from ⟨by omega, by omega⟩)]
  rw [if_pos (show 0 ≤ (i + 2) ∧ (i + 2) < n from ⟨by omega, by omega⟩)]
  rw [if_pos (show 0 ≤ (i + 3) ∧ (i + 3) < n from ⟨by omega, by omega⟩)]
  rw [if_pos (show 0 ≤ (i + 4) ∧ (i + 4) < n from ⟨by omega, by omega⟩)]
  rw [if_pos (show 0 ≤ (i + 5) ∧ (i + 5) < n from ⟨by omega, by omega⟩)]
  rw [if_pos hx]
  rw [zbL_some h1]
  rw [if_pos (show 0 ≤ (i + 1) ∧ (i + 1) < n from ⟨by omega, by omega⟩)]
  rw [if_pos (show 0 ≤ (i + 2) ∧ (i + 2) < n from ⟨by omega, by omega⟩)]
  rw [if_pos (show 0 ≤ (i + 3) ∧ (i + 3) < n from ⟨by omega, by omega⟩)]
  rw [if_pos (show 0 ≤ (i + 4) ∧ (i + 4) < n from ⟨by omega, by omega⟩)]
  rw [if_pos (show 0 ≤ (i + 5) ∧ (i + 5) < n from ⟨by omega, by omega⟩)]
  rw [zbL_some h2]
theorem lst_8 {Kr : Nat} {x n i : Int} {sc : Int → Int} {K : zK} {F Fm F1 F2 : zF} {B Bm B1 B2 : zB} {r1 r2 : Int} (hi : 0 ≤ i) (hn : i + 9 ≤ n) (hx : 0 ≤ x ∧ x < K.2 12) (h1 : f_S_note K x (sc (i + 1)) (sc (i + 2)) (sc (i + 3)) (sc (i + 4)) F B = some (r1, F1, B1)) (h2 : f_M_note_0 Kr (sc (i + 1)) (sc (i + 2)) (sc (i + 3)) (sc (i + 4)) Fm Bm = some (r2, F2, B2)) : ls_8 Kr x sc n i K F B Fm Bm = some (K, F1, B1, F2, B2) := by
  unfold ls_8
  rw [if_pos (show 0 ≤ (i + 1) ∧ (i + 1) < n from ⟨by omega, by omega⟩)]
  rw [if_pos (show 0 ≤ (i + 2) ∧ (i + 2) < n from ⟨by omega, by omega⟩)]
  rw [if_pos (show 0 ≤ (i + 3) ∧ (i + 3) < n from ⟨by omega, by omega⟩)]
  rw [if_pos (show 0 ≤ (i + 4) ∧ (i + 4) < n from ⟨by omega, by omega⟩)]
  rw [if_pos hx]
  rw [zbL_some h1]
  rw [if_pos (show 0 ≤ (i + 1) ∧ (i + 1) < n from ⟨by omega, by omega⟩)]
  rw [if_pos (show 0 ≤ (i + 2) ∧ (i + 2) < n from ⟨by omega, by omega⟩)]
  rw [if_pos (show 0 ≤ (i + 3) ∧ (i + 3) < n from ⟨by omega, by omega⟩)]
  rw [if_pos (show 0 ≤ (i + 4) ∧ (i + 4) < n from ⟨by omega, by omega⟩)]
  rw [zbL_some h2]
theorem lst_9 {Kr : Nat} {x n i : Int} {sc : Int → Int} {K K1 : zK} {F Fm F1 F2 : zF} {B Bm B1 B2 : zB} {r1 r2 : Int} (hi : 0 ≤ i) (hn : i + 9 ≤ n) (hx : 0 ≤ x ∧ x < K.2 12) (h1 : f_S_lines K x (sc (i + 1)) (sc (i + 2)) F B = some (r1, F1, B1, K1)) (h2 : f_M_lines Kr (sc (i + 1)) (sc (i + 2)) Fm Bm = some (r2, F2, B2)) : ls_9 Kr x sc n i K F B Fm Bm = some (K1, F1, B1, F2, B2) := by
  unfold ls_9
  rw [if_pos (show 0 ≤ (i + 1) ∧ (i + 1) < n from ⟨by omega, by omega⟩)]
  rw [if_pos (show 0 ≤ (i + 2) ∧ (i + 2) < n from ⟨by omega, by omega⟩)]
  rw [if_pos hx]
  rw [zbM_some h1]
  rw [if_pos (show 0 ≤ (i + 1) ∧ (i + 1) < n from ⟨by omega, by omega⟩)]
  rw [if_pos (show 0 ≤ (i + 2) ∧ (i + 2) < n from ⟨by omega, by omega⟩)]
  rw [zbL_some h2]
theorem lst_10 {Kr : Nat} {x n i : Int} {sc : Int → Int} {K : zK} {F Fm F1 F2 : zF} {B Bm B1 B2 : zB} {r1 r2 : Int} (hi : 0 ≤ i) (hn : i + 9 ≤ n) (hx : 0 ≤ x ∧ x < K.2 12) (h1 : f_S_line K x (sc (i + 1)) (sc (i + 2)) (sc (i + 3)) F B = some (r1, F1, B1)) (h2 : f_M_line Kr (sc (i + 1)) (sc (i + 2)) (sc (i + 3)) Fm Bm = some (r2, F2, B2)) : ls_10 Kr x sc n i K F B Fm Bm = some (K, F1, B1, F2, B2) := by
  unfold ls_10
  rw [if_pos (show 0 ≤ (i + 1) ∧ (i + 1) < n from ⟨by omega, by omega⟩)]
  rw [if_pos (show 0 ≤ (i + 2) ∧ (i + 2) < n from ⟨by omega, by omega⟩)]
  rw [if_pos (show 0 ≤ (i + 3) ∧ (i + 3) < n from ⟨by omega, by omega⟩)]
  rw [if_pos hx]
  rw [zbL_some h1]
  rw [if_pos (show 0 ≤ (i + 1) ∧ (i + 1) < n from ⟨by omega, by omega⟩)]
  rw [if_pos (show 0 ≤ (i + 2) ∧ (i + 2) < n from ⟨by omega, by omega⟩)]
  rw [if_pos (show 0 ≤ (i + 3) ∧ (i + 3) < n from ⟨by omega, by omega⟩)]
  rw [zbL_some h2]
theorem lst_11 {Kr : Nat} {x n i : Int} {sc : Int → Int} {K : zK} {F Fm F1 F2 : zF} {B Bm B1 B2 : zB} {r1 r2 : Int} (hi : 0 ≤ i) (hn : i + 9 ≤ n) (hx : 0 ≤ x ∧ x < K.2 12) (h1 : f_S_x K x (sc (i + 1)) (sc (i + 2)) (sc (i + 3)) F B = some (r1, F1, B1)) (h2 : f_M_x Kr (sc (i + 1)) (sc (i + 2)) (sc (i + 3)) Fm Bm = some (r2, F2, B2)) : ls_11 Kr x sc n i K F B Fm Bm = some (K, F1, B1, F2, B2) := by
  unfold ls_11
  rw [if_pos (show 0 ≤ (i + 1) ∧ (i + 1) < n from ⟨by omega, by omega⟩)]
  rw [if_pos (show 0 ≤ (i + 2) ∧ (i + 2) < n from ⟨by omega, by omega⟩)]
  rw [if_pos (show 0 ≤ (i + 3) ∧ (i + 3) < n from ⟨by omega, by omega⟩)]
  rw [if_pos hx]
  rw [zbL_some h1]
  rw [if_pos (show 0 ≤ (i + 1) ∧ (i + 1) < n from ⟨by omega, by omega⟩)]
  rw [if_pos (show 0 ≤ (i + 2) ∧ (i + 2) < n from ⟨by omega, by omega⟩)]
  rw [if_pos (show 0 ≤ (i + 3) ∧ (i + 3) < n from ⟨by omega, by omega⟩)]
  rw [zbL_some h2]
theorem lst_12 {Kr : Nat} {x n i : Int} {sc : Int → Int} {K K1 : zK} {F Fm F1 F2 : zF} {B Bm B1 B2 : zB} {r1 r2 : Int} (hi : 0 ≤ i) (hn : i + 9 ≤ n) (hx : 0 ≤ x ∧ x < K.2 12) (h1 : f_S_perform K x (sc (i + 1)) F B = some (r1, F1, B1, K1)) (h2 : f_M_perform Kr (sc (i + 1)) Fm Bm = some (r2, F2, B2)) : ls_12 Kr x sc n i K F B Fm Bm = some (K1, F1, B1, F2, B2) := by
  unfold ls_12
  rw [if_pos (show 0 ≤ (i + 1) ∧ (i + 1) < n from ⟨by omega, by omega⟩)]
  rw [if_pos hx]
  rw [zbM_some h1]
  rw [if_pos (show 0 ≤ (i + 1) ∧ (i + 1) < n from ⟨by omega, by omega⟩)]
  rw [zbL_some h2]
theorem lst_13 {Kr : Nat} {x n i : Int} {sc : Int → Int} {K : zK} {F Fm F1 F2 : zF} {B Bm B1 B2 : zB} {r1 r2 : Int} (hi : 0 ≤ i) (hn : i + 9 ≤ n) (hx : 0 ≤ x ∧ x < K.2 12) (h1 : f_S_stroke K x (sc (i + 1)) (sc (i + 2)) (sc (i + 3)) F B = some (r1, F1, B1)) (h2 : f_M_stroke Kr (sc (i + 1)) (sc (i + 2)) (sc (i + 3)) Fm Bm = some (r2, F2, B2)) : ls_13 Kr x sc n i K F B Fm Bm = some (K, F1, B1, F2, B2) := by
  unfold ls_13
  rw [if_pos (show 0 ≤ (i + 1) ∧ (i + 1) < n from ⟨by omega, by omega⟩)]
  rw [if_pos (show 0 ≤ (i + 2) ∧ (i + 2) < n from ⟨by omega, by omega⟩)]
  rw [if_pos (show 0 ≤ (i + 3) ∧ (i + 3) < n from ⟨by omega, by omega⟩)]
  rw [if_pos hx]
  rw [zbL_some h1]
  rw [if_pos (show 0 ≤ (i + 1) ∧ (i + 1) < n from ⟨by omega, by omega⟩)]
  rw [if_pos (show 0 ≤ (i + 2) ∧ (i + 2) < n from ⟨by omega, by omega⟩)]
  rw [if_pos (show 0 ≤ (i + 3) ∧ (i + 3) < n from ⟨by omega, by omega⟩)]
  rw [zbL_some h2]
theorem lst_14 {Kr : Nat} {x n i : Int} {sc : Int → Int} {K : zK} {F Fm F1 F2 : zF} {B Bm B1 B2 : zB} {r1 r2 : Int} (hi : 0 ≤ i) (hn : i + 9 ≤ n) (hx : 0 ≤ x ∧ x < K.2 12) (h1 : f_S_file K x (sc (i + 1)) F B = some (r1, F1, B1)) (h2 : f_M_file Kr (sc (i + 1)) Fm Bm = some (r2, F2, B2)) : ls_14 Kr x sc n i K F B Fm Bm = some (K, F1, B1, F2, B2) := by
  unfold ls_14
  rw [if_pos (show 0 ≤ (i + 1) ∧ (i + 1) < n from ⟨by omega, by omega⟩)]
  rw [if_pos hx]
  rw [zbL_some h1]
  rw [if_pos (show 0 ≤ (i + 1) ∧ (i + 1) < n from ⟨by omega, by omega⟩)]
  rw [zbL_some h2]
theorem lst_15 {Kr : Nat} {x n i : Int} {sc : Int → Int} {K : zK} {F Fm F1 F2 : zF} {B Bm B1 B2 : zB} {r1 r2 : Int} (hi : 0 ≤ i) (hn : i + 9 ≤ n) (hx : 0 ≤ x ∧ x < K.2 12) (h1 : f_S_out K x (sc (i + 1)) F B = some (r1, F1, B1)) (h2 : f_M_out Kr (sc (i + 1)) Fm Bm = some (r2, F2, B2)) : ls_15 Kr x sc n i K F B Fm Bm = some (K, F1, B1, F2, B2) := by
  unfold ls_15
  rw [if_pos (show 0 ≤ (i + 1) ∧ (i + 1) < n from ⟨by omega, by omega⟩)]
  rw [if_pos hx]
  rw [zbL_some h1]
  rw [if_pos (show 0 ≤ (i + 1) ∧ (i + 1) < n from ⟨by omega, by omega⟩)]
  rw [zbL_some h2]
theorem lst_16 {Kr : Nat} {x n i : Int} {sc : Int → Int} {K : zK} {F Fm F1 F2 : zF} {B Bm B1 B2 : zB} {r1 r2 : Int} (hi : 0 ≤ i) (hn : i + 9 ≤ n) (hx : 0 ≤ x ∧ x < K.2 12) (h1 : f_S_again K x F B = some (r1, F1, B1)) (h2 : f_M_again Kr Fm Bm = some (r2, F2, B2)) : ls_16 Kr x sc n i K F B Fm Bm = some (K, F1, B1, F2, B2) := by
  unfold ls_16
  rw [if_pos hx]
  rw [zbL_some h1]
  rw [zbL_some h2]
theorem lst_17 {Kr : Nat} {x n i : Int} {sc : Int → Int} {K K1 : zK} {F Fm F1 F2 : zF} {B Bm B1 B2 : zB} {r1 r2 : Int} (hi : 0 ≤ i) (hn : i + 9 ≤ n) (hx : 0 ≤ x ∧ x < K.2 12) (h1 : f_S_open K x F B = some (r1, F1, B1, K1)) (h2 : f_M_open Kr Fm Bm = some (r2, F2, B2)) : ls_17 Kr x sc n i K F B Fm Bm = some (K1, F1, B1, F2, B2) := by
  unfold ls_17
  rw [if_pos hx]
  rw [zbM_some h1]
  rw [zbL_some h2]
theorem lst_18 {Kr : Nat} {x n i : Int} {sc : Int → Int} {K : zK} {F Fm F1 F2 : zF} {B Bm B1 B2 : zB} {r1 r2 : Int} (hi : 0 ≤ i) (hn : i + 9 ≤ n) (hx : 0 ≤ x ∧ x < K.2 12) (h1 : f_S_track K x (sc (i + 1)) F B = some (r1, F1, B1)) (h2 : f_M_track Kr (sc (i + 1)) Fm Bm = some (r2, F2, B2)) : ls_18 Kr x sc n i K F B Fm Bm = some (K, F1, B1, F2, B2) := by
  unfold ls_18
  rw [if_pos (show 0 ≤ (i + 1) ∧ (i + 1) < n from ⟨by omega, by omega⟩)]
  rw [if_pos hx]
  rw [zbL_some h1]
  rw [if_pos (show 0 ≤ (i + 1) ∧ (i + 1) < n from ⟨by omega, by omega⟩)]
  rw [zbL_some h2]
theorem lst_19 {Kr : Nat} {x n i : Int} {sc : Int → Int} {K : zK} {F Fm F1 F2 : zF} {B Bm B1 B2 : zB} {r1 r2 : Int} (hi : 0 ≤ i) (hn : i + 9 ≤ n) (hx : 0 ≤ x ∧ x < K.2 12) (h1 : f_S_sound K x (sc (i + 1)) (sc (i + 2)) F B = some (r1, F1, B1)) (h2 : f_M_sound_0 Kr (sc (i + 1)) (sc (i + 2)) Fm Bm = some (r2, F2, B2)) : ls_19 Kr x sc n i K F B Fm Bm = some (K, F1, B1, F2, B2) := by
  unfold ls_19
  rw [if_pos (show 0 ≤ (i + 1) ∧ (i + 1) < n from ⟨by omega, by omega⟩)]
  rw [if_pos (show 0 ≤ (i + 2) ∧ (i + 2) < n from ⟨by omega, by omega⟩)]
  rw [if_pos hx]
  rw [zbL_some h1]
  rw [if_pos (show 0 ≤ (i + 1) ∧ (i + 1) < n from ⟨by omega, by omega⟩)]
  rw [if_pos (show 0 ≤ (i + 2) ∧ (i + 2) < n from ⟨by omega, by omega⟩)]
  rw [zbL_some h2]
theorem lst_20 {Kr : Nat} {x n i : Int} {sc : Int → Int} {K : zK} {F Fm F1 F2 : zF} {B Bm B1 B2 : zB} {r1 r2 : Int} (hi : 0 ≤ i) (hn : i + 9 ≤ n) (hx : 0 ≤ x ∧ x < K.2 12) (h1 : f_S_down K x (sc (i + 1)) F B = some (r1, F1, B1)) (h2 : f_M_down Kr (sc (i + 1)) Fm Bm = some (r2, F2, B2)) : ls_20 Kr x sc n i K F B Fm Bm = some (K, F1, B1, F2, B2) := by
  unfold ls_20
  rw [if_pos (show 0 ≤ (i + 1) ∧ (i + 1) < n from ⟨by omega, by omega⟩)]
  rw [if_pos hx]
  rw [zbL_some h1]
  rw [if_pos (show 0 ≤ (i + 1) ∧ (i + 1) < n from ⟨by omega, by omega⟩)]
  rw [zbL_some h2]
theorem lst_21 {Kr : Nat} {x n i : Int} {sc : Int → Int} {K : zK} {F Fm F1 F2 : zF} {B Bm B1 B2 : zB} {r1 r2 : Int} (hi : 0 ≤ i) (hn : i + 9 ≤ n) (hx : 0 ≤ x ∧ x < K.2 12) (h1 : f_S_play K x (sc (i + 1)) (sc (i + 2)) F B = some (r1, F1, B1)) (h2 : f_M_play Kr (sc (i + 1)) (sc (i + 2)) Fm Bm = some (r2, F2, B2)) : ls_21 Kr x sc n i K F B Fm Bm = some (K, F1, B1, F2, B2) := by
  unfold ls_21
  rw [if_pos (show 0 ≤ (i + 1) ∧ (i + 1) < n from ⟨by omega, by omega⟩)]
  rw [if_pos (show 0 ≤ (i + 2) ∧ (i + 2) < n from ⟨by omega, by omega⟩)]
  rw [if_pos hx]
  rw [zbL_some h1]
  rw [if_pos (show 0 ≤ (i + 1) ∧ (i + 1) < n from ⟨by omega, by omega⟩)]
  rw [if_pos (show 0 ≤ (i + 2) ∧ (i + 2) < n from ⟨by omega, by omega⟩)]
  rw [zbL_some h2]
theorem lst_22 {Kr : Nat} {x n i : Int} {sc : Int → Int} {K : zK} {F Fm F1 F2 : zF} {B Bm B1 B2 : zB} {r1 r2 : Int} (hi : 0 ≤ i) (hn : i + 9 ≤ n) (hx : 0 ≤ x ∧ x < K.2 12) (h1 : f_S_sample K x (sc (i + 1)) (sc (i + 2)) (sc (i + 3)) F B = some (r1, F1, B1)) (h2 : f_M_sample Kr (sc (i + 1)) (sc (i + 2)) (sc (i + 3)) Fm Bm = some (r2, F2, B2)) : ls_22 Kr x sc n i K F B Fm Bm = some (K, F1, B1, F2, B2) := by
  unfold ls_22
  rw [if_pos (show 0 ≤ (i + 1) ∧ (i + 1) < n from ⟨by omega, by omega⟩)]
  rw [if_pos (show 0 ≤ (i + 2) ∧ (i + 2) < n from ⟨by omega, by omega⟩)]
  rw [if_pos (show 0 ≤ (i + 3) ∧ (i + 3) < n from ⟨by omega, by omega⟩)]
  rw [if_pos hx]
  rw [zbL_some h1]
  rw [if_pos (show 0 ≤ (i + 1) ∧ (i + 1) < n from ⟨by omega, by omega⟩)]
  rw [if_pos (show 0 ≤ (i + 2) ∧ (i + 2) < n from ⟨by omega, by omega⟩)]
  rw [if_pos (show 0 ≤ (i + 3) ∧ (i + 3) < n from ⟨by omega, by omega⟩)]
  rw [zbL_some h2]
theorem lst_23 {Kr : Nat} {x n i : Int} {sc : Int → Int} {K K1 : zK} {F Fm F1 F2 : zF} {B Bm B1 B2 : zB} {r1 r2 : Int} (hi : 0 ≤ i) (hn : i + 9 ≤ n) (hx : 0 ≤ x ∧ x < K.2 12) (h1 : f_S_moment K x (sc (i + 1)) (sc (i + 2)) (sc (i + 3)) F B = some (r1, F1, B1, K1)) (h2 : f_M_moment_0 Kr (sc (i + 1)) (sc (i + 2)) (sc (i + 3)) Fm Bm = some (r2, F2, B2)) : ls_23 Kr x sc n i K F B Fm Bm = some (K1, F1, B1, F2, B2) := by
  unfold ls_23
  rw [if_pos (show 0 ≤ (i + 1) ∧ (i + 1) < n from ⟨by omega, by omega⟩)]
  rw [if_pos (show 0 ≤ (i + 2) ∧ (i + 2) < n from ⟨by omega, by omega⟩)]
  rw [if_pos (show 0 ≤ (i + 3) ∧ (i + 3) < n from ⟨by omega, by omega⟩)]
  rw [if_pos hx]
  rw [zbM_some h1]
  rw [if_pos (show 0 ≤ (i + 1) ∧ (i + 1) < n from ⟨by omega, by omega⟩)]
  rw [if_pos (show 0 ≤ (i + 2) ∧ (i + 2) < n from ⟨by omega, by omega⟩)]
  rw [if_pos (show 0 ≤ (i + 3) ∧ (i + 3) < n from ⟨by omega, by omega⟩)]
  rw [zbL_some h2]
theorem lst_24 {Kr : Nat} {x n i : Int} {sc : Int → Int} {K K1 : zK} {F Fm F1 F2 : zF} {B Bm B1 B2 : zB} {r1 r2 : Int} (hi : 0 ≤ i) (hn : i + 9 ≤ n) (hx : 0 ≤ x ∧ x < K.2 12) (h1 : f_S_fault K x (sc (i + 1)) (sc (i + 2)) (sc (i + 3)) F B = some (r1, F1, B1, K1)) (h2 : f_M_fault_0 Kr (sc (i + 1)) (sc (i + 2)) (sc (i + 3)) Fm Bm = some (r2, F2, B2)) : ls_24 Kr x sc n i K F B Fm Bm = some (K1, F1, B1, F2, B2) := by
  unfold ls_24
  rw [if_pos (show 0 ≤ (i + 1) ∧ (i + 1) < n from ⟨by omega, by omega⟩)]
  rw [if_pos (show 0 ≤ (i + 2) ∧ (i + 2) < n from ⟨by omega, by omega⟩)]
  rw [if_pos (show 0 ≤ (i + 3) ∧ (i + 3) < n from ⟨by omega, by omega⟩)]
  rw [if_pos hx]
  rw [zbM_some h1]
  rw [if_pos (show 0 ≤ (i + 1) ∧ (i + 1) < n from ⟨by omega, by omega⟩)]
  rw [if_pos (show 0 ≤ (i + 2) ∧ (i + 2) < n from ⟨by omega, by omega⟩)]
  rw [if_pos (show 0 ≤ (i + 3) ∧ (i + 3) < n from ⟨by omega, by omega⟩)]
  rw [zbL_some h2]
theorem lst_25 {Kr : Nat} {x n i : Int} {sc : Int → Int} {K : zK} {F Fm F1 F2 : zF} {B Bm B1 B2 : zB} {r1 r2 : Int} (hi : 0 ≤ i) (hn : i + 9 ≤ n) (hx : 0 ≤ x ∧ x < K.2 12) (h1 : f_S_follows K x (sc (i + 1)) (sc (i + 2)) (sc (i + 3)) (sc (i + 4)) F B = some (r1, F1, B1)) (h2 : f_M_follows Kr (sc (i + 1)) (sc (i + 2)) (sc (i + 3)) (sc (i + 4)) Fm Bm = some (r2, F2, B2)) : ls_25 Kr x sc n i K F B Fm Bm = some (K, F1, B1, F2, B2) := by
  unfold ls_25
  rw [if_pos (show 0 ≤ (i + 1) ∧ (i + 1) < n from ⟨by omega, by omega⟩)]
  rw [if_pos (show 0 ≤ (i + 2) ∧ (i + 2) < n from ⟨by omega, by omega⟩)]
  rw [if_pos (show 0 ≤ (i + 3) ∧ (i + 3) < n from ⟨by omega, by omega⟩)]
  rw [if_pos (show 0 ≤ (i + 4) ∧ (i + 4) < n from ⟨by omega, by omega⟩)]
  rw [if_pos hx]
  rw [zbL_some h1]
  rw [if_pos (show 0 ≤ (i + 1) ∧ (i + 1) < n from ⟨by omega, by omega⟩)]
  rw [if_pos (show 0 ≤ (i + 2) ∧ (i + 2) < n from ⟨by omega, by omega⟩)]
  rw [if_pos (show 0 ≤ (i + 3) ∧ (i + 3) < n from ⟨by omega, by omega⟩)]
  rw [if_pos (show 0 ≤ (i + 4) ∧ (i + 4) < n from ⟨by omega, by omega⟩)]
  rw [zbL_some h2]
theorem lst_26 {Kr : Nat} {x n i : Int} {sc : Int → Int} {K : zK} {F Fm F1 F2 : zF} {B Bm B1 B2 : zB} {r1 r2 : Int} (hi : 0 ≤ i) (hn : i + 9 ≤ n) (hx : 0 ≤ x ∧ x < K.2 12) (h1 : f_S_shape K x (sc (i + 1)) (sc (i + 2)) (sc (i + 3)) (sc (i + 4)) (sc (i + 5)) (sc (i + 6)) (sc (i + 7)) (sc (i + 8)) F B = some (r1, F1, B1)) (h2 : f_M_shape Kr (sc (i + 1)) (sc (i + 2)) (sc (i + 3)) (sc (i + 4)) (sc (i + 5)) (sc (i + 6)) (sc (i + 7)) (sc (i + 8)) Fm Bm = some (r2, F2, B2)) : ls_26 Kr x sc n i K F B Fm Bm = some (K, F1, B1, F2, B2) := by
  unfold ls_26
  rw [if_pos (show 0 ≤ (i + 1) ∧ (i + 1) < n from ⟨by omega, by omega⟩)]
  rw [if_pos (show 0 ≤ (i + 2) ∧ (i + 2) < n from ⟨by omega, by omega⟩)]
  rw [if_pos (show 0 ≤ (i + 3) ∧ (i + 3) < n from ⟨by omega, by omega⟩)]
  rw [if_pos (show 0 ≤ (i + 4) ∧ (i + 4) < n from ⟨by omega, by omega⟩)]
  rw [if_pos (show 0 ≤ (i + 5) ∧ (i + 5) < n from ⟨by omega, by omega⟩)]
  rw [if_pos (show 0 ≤ (i + 6) ∧ (i + 6) < n from ⟨by omega, by omega⟩)]
  rw [if_pos (show 0 ≤ (i + 7) ∧ (i + 7) < n from ⟨by omega, by omega⟩)]
  rw [if_pos (show 0 ≤ (i + 8) ∧ (i + 8) < n from ⟨by omega, by omega⟩)]
  rw [if_pos hx]
  rw [zbL_some h1]
  rw [if_pos (show 0 ≤ (i + 1) ∧ (i + 1) < n from ⟨by omega, by omega⟩)]
  rw [if_pos (show 0 ≤ (i + 2) ∧ (i + 2) < n from ⟨by omega, by omega⟩)]
  rw [if_pos (show 0 ≤ (i + 3) ∧ (i + 3) < n from ⟨by omega, by omega⟩)]
  rw [if_pos (show 0 ≤ (i + 4) ∧ (i + 4) < n from ⟨by omega, by omega⟩)]
  rw [if_pos (show 0 ≤ (i + 5) ∧ (i + 5) < n from ⟨by omega, by omega⟩)]
  rw [if_pos (show 0 ≤ (i + 6) ∧ (i + 6) < n from ⟨by omega, by omega⟩)]
  rw [if_pos (show 0 ≤ (i + 7) ∧ (i + 7) < n from ⟨by omega, by omega⟩)]
  rw [if_pos (show 0 ≤ (i + 8) ∧ (i + 8) < n from ⟨by omega, by omega⟩)]
  rw [zbL_some h2]
end

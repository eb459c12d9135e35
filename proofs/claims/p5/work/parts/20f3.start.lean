

theorem st_ts {args : Array Value} {s : State} {A : Nat → Prop} (h0 : ∀ w ∈ lw_tbl, w.before args s = true) (hf : ∀ c ∈ flA naT [], c.before args s = true) (hA : ∀ a : Nat, a < s.heap.size → ¬ A a) : ∀ i : Nat, ∃ t : Nat, ∀ q : String × String × String × Bool × List Int, staL[i]? = some q → va_Z q.1 q.2.1 q.2.2.1 (.ref t) A s s.heap ∧ va_T (if q.2.2.2.1 then .long else .int) t q.2.2.2.2.length (fun j => if q.2.2.2.1 then .long (Int64.ofInt (q.2.2.2.2.getD j 0)) else .int (Int32.ofInt (q.2.2.2.2.getD j 0))) A s s.heap
  | 0 => by
    obtain ⟨t, h⟩ := st_t0 (A := A) h0 hf hA
    exact ⟨t, fun q hq => by cases hq; exact h⟩
  | 1 => by
    obtain ⟨t, h⟩ := st_t1 (A := A) h0 hf hA
    exact ⟨t, fun q hq => by cases hq; exact h⟩
  | 2 => by
    obtain ⟨t, h⟩ := st_t2 (A := A) h0 hf hA
    exact ⟨t, fun q hq => by cases hq; exact h⟩
  | 3 => by
    obtain ⟨t, h⟩ := st_t3 (A := A) h0 hf hA
    exact ⟨t, fun q hq => by cases hq; exact h⟩
  | 4 => by
    obtain ⟨t, h⟩ := st_t4 (A := A) h0 hf hA
    exact ⟨t, fun q hq => by cases hq; exact h⟩
  | 5 => by
    obtain ⟨t, h⟩ := st_t5 (A := A) h0 hf hA
    exact ⟨t, fun q hq => by cases hq; exact h⟩
  | 6 => by
    obtain ⟨t, h⟩ := st_t6 (A := A) h0 hf hA
    exact ⟨t, fun q hq => by cases hq; exact h⟩
  | 7 => by
    obtain ⟨t, h⟩ := st_t7 (A := A) h0 hf hA
    exact ⟨t, fun q hq => by cases hq; exact h⟩
  | 8 => by
    obtain ⟨t, h⟩ := st_t8 (A := A) h0 hf hA
    exact ⟨t, fun q hq => by cases hq; exact h⟩
  | 9 => by
    obtain ⟨t, h⟩ := st_t9 (A := A) h0 hf hA
    exact ⟨t, fun q hq => by cases hq; exact h⟩
  | 10 => by
    obtain ⟨t, h⟩ := st_t10 (A := A) h0 hf hA
    exact ⟨t, fun q hq => by cases hq; exact h⟩
  | 11 => by
    obtain ⟨t, h⟩ := st_t11 (A := A) h0 hf hA
    exact ⟨t, fun q hq => by cases hq; exact h⟩
  | 12 => by
    obtain ⟨t, h⟩ := st_t12 (A := A) h0 hf hA
    exact ⟨t, fun q hq => by cases hq; exact h⟩
  | 13 => by
    obtain ⟨t, h⟩ := st_t13 (A := A) h0 hf hA
    exact ⟨t, fun q hq => by cases hq; exact h⟩
  | 14 => by
    obtain ⟨t, h⟩ := st_t14 (A := A) h0 hf hA
    exact ⟨t, fun q hq => by cases hq; exact h⟩
  | 15 => by
    obtain ⟨t, h⟩ := st_t15 (A := A) h0 hf hA
    exact ⟨t, fun q hq => by cases hq; exact h⟩
  | 16 => by
    obtain ⟨t, h⟩ := st_t16 (A := A) h0 hf hA
    exact ⟨t, fun q hq => by cases hq; exact h⟩
  | 17 => by
    obtain ⟨t, h⟩ := st_t17 (A := A) h0 hf hA
    exact ⟨t, fun q hq => by cases hq; exact h⟩
  | k + 18 => ⟨0, fun q hq => by
    have h1 : staL.length ≤ k + 18 := by simp [staL]
    rw [List.getElem?_eq_none h1] at hq
    cases hq⟩
theorem st_nest {args : Array Value} {s : State} (h0 : ∀ w ∈ lw_tbl, w.before args s = true) : ∀ q ∈ nestL, va_Nw (.methodLinkNest q.1 q.2.1 q.2.2.1 q.2.2.2) s := by
  unfold nestL
  exact List.forall_mem_cons.mpr ⟨va_Nw.of rfl (h0 _ (tb_1 (j := 62) (w := (Jvm.Cond.methodLinkNest "StaveHouse" (33 : Nat) ({ cls := "StaveHouse$Parser", name := "<init>", desc := "()V" } : Jvm.MethodName) "StaveHouse")) rfl)), List.forall_mem_cons.mpr ⟨va_Nw.of rfl (h0 _ (tb_1 (j := 68) (w := (Jvm.Cond.methodLinkNest "StaveHouse$Parser" (47 : Nat) ({ cls := "StaveHouse$Tokens", name := "<init>", desc := "()V" } : Jvm.MethodName) "StaveHouse")) rfl)), List.forall_mem_cons.mpr ⟨va_Nw.of rfl (h0 _ (tb_1 (j := 186) (w := (Jvm.Cond.methodLinkNest "StaveHouse" (40 : Nat) ({ cls := "StaveHouse$Walker", name := "<init>", desc := "()V" } : Jvm.MethodName) "StaveHouse")) rfl)), List.forall_mem_cons.mpr ⟨va_Nw.of rfl (h0 _ (tb_2 (j := 10) (w := (Jvm.Cond.methodLinkNest "StaveHouse" (47 : Nat) ({ cls := "StaveHouse$Scribe", name := "<init>", desc := "()V" } : Jvm.MethodName) "StaveHouse")) rfl)), List.forall_mem_cons.mpr ⟨va_Nw.of rfl (h0 _ (tb_2 (j := 16) (w := (Jvm.Cond.methodLinkNest "StaveHouse$Scribe" (11 : Nat) ({ cls := "StaveHouse$Event", name := "<init>", desc := "()V" } : Jvm.MethodName) "StaveHouse")) rfl)), List.forall_mem_cons.mpr ⟨va_Nw.of rfl (h0 _ (tb_2 (j := 179) (w := (Jvm.Cond.methodLinkNest "StaveHouse" (67 : Nat) ({ cls := "StaveHouse$Piece", name := "<init>", desc := "()V" } : Jvm.MethodName) "StaveHouse")) rfl)), List.forall_mem_cons.mpr ⟨va_Nw.of rfl (h0 _ (tb_4 (j := 114) (w := (Jvm.Cond.methodLinkNest "StaveHouse$Part" (30 : Nat) ({ cls := "StaveHouse$Event", name := "<init>", desc := "()V" } : Jvm.MethodName) "StaveHouse")) rfl)), List.forall_mem_cons.mpr ⟨va_Nw.of rfl (h0 _ (tb_5 (j := 192) (w := (Jvm.Cond.methodLinkNest "StaveHouse$Piece" (110 : Nat) ({ cls := "StaveHouse$Study", name := "<init>", desc := "()V" } : Jvm.MethodName) "StaveHouse")) rfl)), List.forall_mem_cons.mpr ⟨va_Nw.of rfl (h0 _ (tb_6 (j := 58) (w := (Jvm.Cond.methodLinkNest "StaveHouse$Piece" (99 : Nat) ({ cls := "StaveHouse$Performance", name := "<init>", desc := "()V" } : Jvm.MethodName) "StaveHouse")) rfl)), List.forall_mem_cons.mpr ⟨va_Nw.of rfl (h0 _ (tb_6 (j := 211) (w := (Jvm.Cond.methodLinkNest "StaveHouse" (237 : Nat) ({ cls := "StaveHouse$Layout", name := "<init>", desc := "()V" } : Jvm.MethodName) "StaveHouse")) rfl)), List.forall_mem_cons.mpr ⟨va_Nw.of rfl (h0 _ (tb_7 (j := 211) (w := (Jvm.Cond.methodLinkNest "StaveHouse" (277 : Nat) ({ cls := "StaveHouse$SoundFile", name := "<init>", desc := "()V" } : Jvm.MethodName) "StaveHouse")) rfl)), List.forall_mem_cons.mpr ⟨va_Nw.of rfl (h0 _ (tb_9 (j := 121) (w := (Jvm.Cond.methodLinkNest "StaveHouseModel" (39 : Nat) ({ cls := "StaveHouseModel$Piece", name := "<init>", desc := "()V" } : Jvm.MethodName) "StaveHouseModel")) rfl)), List.forall_mem_cons.mpr ⟨va_Nw.of rfl (h0 _ (tb_4 (j := 62) (w := (Jvm.Cond.methodLinkNest "StaveHouse$Parser" (315 : Nat) ({ cls := "StaveHouse", name := "naturalTone", desc := "(I)I" } : Jvm.MethodName) "StaveHouse")) rfl)), List.forall_mem_cons.mpr ⟨va_Nw.of rfl (h0 _ (tb_4 (j := 227) (w := (Jvm.Cond.methodLinkNest "StaveHouse$Walker" (191 : Nat) ({ cls := "StaveHouse", name := "naturalTone", desc := "(I)I" } : Jvm.MethodName) "StaveHouse")) rfl)), List.forall_mem_cons.mpr ⟨va_Nw.of rfl (h0 _ (tb_5 (j := 64) (w := (Jvm.Cond.methodLinkNest "StaveHouse$Part" (175 : Nat) ({ cls := "StaveHouse", name := "greatestValue", desc := "(I)I" } : Jvm.MethodName) "StaveHouse")) rfl)), List.forall_mem_cons.mpr ⟨va_Nw.of rfl (h0 _ (tb_5 (j := 75) (w := (Jvm.Cond.methodLinkNest "StaveHouse$Part" (169 : Nat) ({ cls := "StaveHouse", name := "fineValue", desc := "(I)I" } : Jvm.MethodName) "StaveHouse")) rfl)), List.forall_mem_cons.mpr ⟨va_Nw.of rfl (h0 _ (tb_5 (j := 86) (w := (Jvm.Cond.methodLinkNest "StaveHouse$Part" (165 : Nat) ({ cls := "StaveHouse", name := "nextValue", desc := "(IIII)I" } : Jvm.MethodName) "StaveHouse")) rfl)), List.forall_mem_cons.mpr ⟨va_Nw.of rfl (h0 _ (tb_5 (j := 116) (w := (Jvm.Cond.methodLinkNest "StaveHouse$Part" (197 : Nat) ({ cls := "StaveHouse", name := "keyAlteration", desc := "(II)I" } : Jvm.MethodName) "StaveHouse")) rfl)), List.forall_mem_cons.mpr ⟨va_Nw.of rfl (h0 _ (tb_5 (j := 148) (w := (Jvm.Cond.methodLinkNest "StaveHouse$Piece" (77 : Nat) ({ cls := "StaveHouse", name := "beatCount", desc := "(II)I" } : Jvm.MethodName) "StaveHouse")) rfl)), List.forall_mem_cons.mpr ⟨va_Nw.of rfl (h0 _ (tb_6 (j := 25) (w := (Jvm.Cond.methodLinkNest "StaveHouse$Event" (25 : Nat) ({ cls := "StaveHouse", name := "naturalTone", desc := "(I)I" } : Jvm.MethodName) "StaveHouse")) rfl)), List.forall_mem_cons.mpr ⟨va_Nw.of rfl (h0 _ (tb_6 (j := 132) (w := (Jvm.Cond.methodLinkNest "StaveHouse$Performance" (150 : Nat) ({ cls := "StaveHouse", name := "naturalTone", desc := "(I)I" } : Jvm.MethodName) "StaveHouse")) rfl)), List.forall_mem_cons.mpr ⟨va_Nw.of rfl (h0 _ (tb_6 (j := 133) (w := (Jvm.Cond.methodLinkNest "StaveHouse$Performance" (156 : Nat) ({ cls := "StaveHouse", name := "keyAlteration", desc := "(II)I" } : Jvm.MethodName) "StaveHouse")) rfl)), List.forall_mem_cons.mpr ⟨va_Nw.of rfl (h0 _ (tb_8 (j := 201) (w := (Jvm.Cond.methodLinkNest "StaveHouse$Scribe" (183 : Nat) ({ cls := "StaveHouse", name := "nextValue", desc := "(IIII)I" } : Jvm.MethodName) "StaveHouse")) rfl)), List.forall_mem_cons.mpr ⟨va_Nw.of rfl (h0 _ (tb_8 (j := 202) (w := (Jvm.Cond.methodLinkNest "StaveHouse$Scribe" (187 : Nat) ({ cls := "StaveHouse", name := "fineValue", desc := "(I)I" } : Jvm.MethodName) "StaveHouse")) rfl)), List.forall_mem_cons.mpr ⟨va_Nw.of rfl (h0 _ (tb_9 (j := 76) (w := (Jvm.Cond.methodLinkNest "StaveHouse$Study" (189 : Nat) ({ cls := "StaveHouse", name := "keyAlteration", desc := "(II)I" } : Jvm.MethodName) "StaveHouse")) rfl)), List.forall_mem_cons.mpr ⟨va_Nw.of rfl (h0 _ (tb_9 (j := 110) (w := (Jvm.Cond.methodLinkNest "StaveHouse$Part" (235 : Nat) ({ cls := "StaveHouse", name := "gcd", desc := "(JJ)J" } : Jvm.MethodName) "StaveHouse")) rfl)), fun _ h => absurd h List.not_mem_nil⟩⟩⟩⟩⟩⟩⟩⟩⟩⟩⟩⟩⟩⟩⟩⟩⟩⟩⟩⟩⟩⟩⟩⟩⟩⟩
theorem st_nestF {args : Array Value} {s : State} (h0 : ∀ w ∈ lw_tbl, w.before args s = true) : ∀ q ∈ nestF, va_Nw (.fieldLinkNest q.1 q.2.1 q.2.2.1 q.2.2.2.1 q.2.2.2.2.1 q.2.2.2.2.2) s := by
  unfold nestF
  exact List.forall_mem_cons.mpr ⟨va_Nw.of rfl (h0 _ (tb_4 (j := 20) (w := (Jvm.Cond.fieldLinkNest "StaveHouse$Parser" (299 : Nat) "StaveHouse" "POINT_QUARTERS" "[I" "StaveHouse")) rfl)), List.forall_mem_cons.mpr ⟨va_Nw.of rfl (h0 _ (tb_8 (j := 231) (w := (Jvm.Cond.fieldLinkNest "StaveHouse$Scribe" (126 : Nat) "StaveHouse" "NATURAL_TONES" "[I" "StaveHouse")) rfl)), List.forall_mem_cons.mpr ⟨va_Nw.of rfl (h0 _ (tb_9 (j := 56) (w := (Jvm.Cond.fieldLinkNest "StaveHouse$Study" (180 : Nat) "StaveHouse" "NATURAL_TONES" "[I" "StaveHouse")) rfl)), fun _ h => absurd h List.not_mem_nil⟩⟩⟩
theorem st_ao {args : Array Value} {s : State} (h0 : ∀ w ∈ lw_tbl, w.before args s = true) : ∀ C ∈ aoL, va_AO C s := by
  unfold aoL
  exact List.forall_mem_cons.mpr ⟨va_AO.of (h0 _ (tb_1 (j := 59) (w := (Jvm.Cond.arrayOver (Jvm.ClassFile.FieldType.object "StaveHouse$Piece"))) rfl)), List.forall_mem_cons.mpr ⟨va_AO.of (h0 _ (tb_2 (j := 184) (w := (Jvm.Cond.arrayOver (Jvm.ClassFile.FieldType.object "StaveHouse$Part"))) rfl)), List.forall_mem_cons.mpr ⟨va_AO.of (h0 _ (tb_9 (j := 119) (w := (Jvm.Cond.arrayOver (Jvm.ClassFile.FieldType.object "StaveHouseModel$Piece"))) rfl)), List.forall_mem_cons.mpr ⟨va_AO.of (h0 _ (tb_4 (j := 111) (w := (Jvm.Cond.arrayOver (Jvm.ClassFile.FieldType.object "StaveHouse$Event"))) rfl)), fun _ h => absurd h List.not_mem_nil⟩⟩⟩⟩
theorem over_here {args : Array Value} {s : State} {t : FieldType} (h : (Cond.arrayOver (.array t)).before args s = true) : (Cond.arrayOver (.array t)).before #[] s = true := over_moved (Vm.Alike.refl _) h
theorem st_over {args : Array Value} {s : State} (h0 : ∀ w ∈ lw_tbl, w.before args s = true) : ∀ ty ∈ [FieldType.int, FieldType.long], (Cond.arrayOver (.array ty)).before #[] s = true := List.forall_mem_cons.mpr ⟨over_here (h0 _ (tb_4 (j := 113) (w := (Jvm.Cond.arrayOver (Jvm.ClassFile.FieldType.array Jvm.ClassFile.FieldType.int))) rfl)), List.forall_mem_cons.mpr ⟨over_here (h0 _ (tb_7 (j := 216) (w := (Jvm.Cond.arrayOver (Jvm.ClassFile.FieldType.array Jvm.ClassFile.FieldType.long))) rfl)), fun _ h => absurd h List.not_mem_nil⟩⟩
theorem st_stat {args : Array Value} {s : State} {A : Nat → Prop} (h0 : ∀ w ∈ lw_tbl, w.before args s = true) (hf : ∀ c ∈ flA naT [], c.before args s = true) (hA : ∀ a : Nat, a < s.heap.size → ¬ A a) : ∀ q ∈ statL, va_Z q.1 q.2.1 q.2.2.1 q.2.2.2 A s s.heap := by
  unfold statL
  exact List.forall_mem_cons.mpr ⟨va_Zof (h0 _ (tb_3 (j := 80) (w := (Jvm.Cond.laysStatic "java/lang/String" "COMPACT_STRINGS" "Z")) rfl)) (h0 _ (tb_1 (j := 11) (w := (Jvm.Cond.initialized "java/lang/String")) rfl)) (va_eqt (hf (Cond.eq (.static "java/lang/String" "COMPACT_STRINGS" "Z") (.int 1)) (by decide +kernel))) hA, List.forall_mem_cons.mpr ⟨va_Zof (h0 _ (tb_10 (j := 208) (w := (Jvm.Cond.laysStatic "StaveHouseModel" "KEY" "J")) rfl)) (h0 _ (tb_1 (j := 9) (w := (Jvm.Cond.initialized "StaveHouseModel")) rfl)) (va_eqtl (hf (Cond.eq (.static "StaveHouseModel" "KEY" "J") (.long 7038329)) (by decide +kernel))) hA, List.forall_mem_cons.mpr ⟨va_Zof (h0 _ (tb_10 (j := 210) (w := (Jvm.Cond.laysStatic "StaveHouseModel" "MAJOR" "J")) rfl)) (h0 _ (tb_1 (j := 9) (w := (Jvm.Cond.initialized "StaveHouseModel")) rfl)) (va_eqtl (hf (Cond.eq (.static "StaveHouseModel" "MAJOR" "J") (.long 469785800562)) (by decide +kernel))) hA, List.forall_mem_cons.mpr ⟨va_Zof (h0 _ (tb_10 (j := 212) (w := (Jvm.Cond.laysStatic "StaveHouseModel" "MINOR" "J")) rfl)) (h0 _ (tb_1 (j := 9) (w := (Jvm.Cond.initialized "StaveHouseModel")) rfl)) (va_eqtl (hf (Cond.eq (.static "StaveHouseModel" "MINOR" "J") (.long 469920280434)) (by decide +kernel))) hA, List.forall_mem_cons.mpr ⟨va_Zof (h0 _ (tb_10 (j := 214) (w := (Jvm.Cond.laysStatic "StaveHouseModel" "TIME" "J")) rfl)) (h0 _ (tb_1 (j := 9) (w := (Jvm.Cond.initialized "StaveHouseModel")) rfl)) (va_eqtl (hf (Cond.eq (.static "StaveHouseModel" "TIME" "J") (.long 1953066341)) (by decide +kernel))) hA, List.forall_mem_cons.mpr ⟨va_Zof (h0 _ (tb_10 (j := 216) (w := (Jvm.Cond.laysStatic "StaveHouseModel" "TEMPO" "J")) rfl)) (h0 _ (tb_1 (j := 9) (w := (Jvm.Cond.initialized "StaveHouseModel")) rfl)) (va_eqtl (hf (Cond.eq (.static "StaveHouseModel" "TEMPO" "J") (.long 499917877359)) (by decide +kernel))) hA, List.forall_mem_cons.mpr ⟨va_Zof (h0 _ (tb_10 (j := 218) (w := (Jvm.Cond.laysStatic "StaveHouseModel" "LET" "J")) rfl)) (h0 _ (tb_1 (j := 9) (w := (Jvm.Cond.initialized "StaveHouseModel")) rfl)) (va_eqtl (hf (Cond.eq (.static "StaveHouseModel" "LET" "J") (.long 7103860)) (by decide +kernel))) hA, List.forall_mem_cons.mpr ⟨va_Zof (h0 _ (tb_10 (j := 220) (w := (Jvm.Cond.laysStatic "StaveHouseModel" "VOICE" "J")) rfl)) (h0 _ (tb_1 (j := 9) (w := (Jvm.Cond.initialized "StaveHouseModel")) rfl)) (va_eqtl (hf (Cond.eq (.static "StaveHouseModel" "VOICE" "J") (.long 508675318629)) (by decide +kernel))) hA, List.forall_mem_cons.mpr ⟨va_Zof (h0 _ (tb_10 (j := 222) (w := (Jvm.Cond.laysStatic "StaveHouseModel" "REPEAT" "J")) rfl)) (h0 _ (tb_1 (j := 9) (w := (Jvm.Cond.initialized "StaveHouseModel")) rfl)) (va_eqtl (hf (Cond.eq (.static "StaveHouseModel" "REPEAT" "J") (.long 125780002955636)) (by decide +kernel))) hA, List.forall_mem_cons.mpr ⟨va_Zof (h0 _ (tb_10 (j := 224) (w := (Jvm.Cond.laysStatic "StaveHouseModel" "ALT" "J")) rfl)) (h0 _ (tb_1 (j := 9) (w := (Jvm.Cond.initialized "StaveHouseModel")) rfl)) (va_eqtl (hf (Cond.eq (.static "StaveHouseModel" "ALT" "J") (.long 6384756)) (by decide +kernel))) hA, List.forall_mem_cons.mpr ⟨va_Zof (h0 _ (tb_10 (j := 226) (w := (Jvm.Cond.laysStatic "StaveHouseModel" "USE" "J")) rfl)) (h0 _ (tb_1 (j := 9) (w := (Jvm.Cond.initialized "StaveHouseModel")) rfl)) (va_eqtl (hf (Cond.eq (.static "StaveHouseModel" "USE" "J") (.long 7697253)) (by decide +kernel))) hA, List.forall_mem_cons.mpr ⟨va_Zof (h0 _ (tb_10 (j := 228) (w := (Jvm.Cond.laysStatic "StaveHouseModel" "MOVE" "J")) rfl)) (h0 _ (tb_1 (j := 9) (w := (Jvm.Cond.initialized "StaveHouseModel")) rfl)) (va_eqtl (hf (Cond.eq (.static "StaveHouseModel" "MOVE" "J") (.long 1836021349)) (by decide +kernel))) hA, List.forall_mem_cons.mpr ⟨va_Zof (h0 _ (tb_10 (j := 230) (w := (Jvm.Cond.laysStatic "StaveHouseModel" "MIRROR" "J")) rfl)) (h0 _ (tb_1 (j := 9) (w := (Jvm.Cond.initialized "StaveHouseModel")) rfl)) (va_eqtl (hf (Cond.eq (.static "StaveHouseModel" "MIRROR" "J") (.long 120299659095922)) (by decide +kernel))) hA, List.forall_mem_cons.mpr ⟨va_Zof (h0 _ (tb_10 (j := 232) (w := (Jvm.Cond.laysStatic "StaveHouseModel" "BACK" "J")) rfl)) (h0 _ (tb_1 (j := 9) (w := (Jvm.Cond.initialized "StaveHouseModel")) rfl)) (va_eqtl (hf (Cond.eq (.static "StaveHouseModel" "BACK" "J") (.long 1650549611)) (by decide +kernel))) hA, List.forall_mem_cons.mpr ⟨va_Zof (h0 _ (tb_10 (j := 234) (w := (Jvm.Cond.laysStatic "StaveHouseModel" "SLOW" "J")) rfl)) (h0 _ (tb_1 (j := 9) (w := (Jvm.Cond.initialized "StaveHouseModel")) rfl)) (va_eqtl (hf (Cond.eq (.static "StaveHouseModel" "SLOW" "J") (.long 1936486263)) (by decide +kernel))) hA, List.forall_mem_cons.mpr ⟨va_Zof (h0 _ (tb_10 (j := 236) (w := (Jvm.Cond.laysStatic "StaveHouseModel" "REST" "J")) rfl)) (h0 _ (tb_1 (j := 9) (w := (Jvm.Cond.initialized "StaveHouseModel")) rfl)) (va_eqtl (hf (Cond.eq (.static "StaveHouseModel" "REST" "J") (.long 114)) (by decide +kernel))) hA, fun _ h => absurd h List.not_mem_nil⟩⟩⟩⟩⟩⟩⟩⟩⟩⟩⟩⟩⟩⟩⟩⟩
theorem st_X {args : Array Value} {s : State} {A : Nat → Prop} (h0 : ∀ w ∈ lw_tbl, w.before args s = true) (hg : (Jvm.Cond.and given_1 narrow_1).before args s = true) (hA : ∀ a : Nat, a < s.heap.size → ¬ A a) : ∃ ad av : Nat → Nat, gX ad av A s s.heap := by
  have hf : ∀ c ∈ flA naT [], c.before args s = true := fun c hc => flat_of_before naT hg c (flA_m hc)
  obtain ⟨d, hd⟩ := Classical.axiomOfChoice (st_strs (A := A) h0 hf hA)
  obtain ⟨t, ht⟩ := Classical.axiomOfChoice (st_ts (A := A) h0 hf hA)
  refine ⟨fun i => (d i).1, fun i => if i < 1000 then (d i).2 else t (i - 1000), st_nest h0, st_ao h0, st_over h0, st_stat h0 hf hA, fun i q hq => ?_,
    ⟨va_Zqof (h0 _ (tb_3 (j := 121) (w := (Jvm.Cond.laysStatic "jdk/internal/util/Preconditions" "SIOOBE_FORMATTER" "Ljava/util/function/BiFunction;")) rfl)) (h0 _ (tb_1 (j := 13) (w := (Jvm.Cond.initialized "jdk/internal/util/Preconditions")) rfl)) (hf (Cond.isRef (.static "jdk/internal/util/Preconditions" "SIOOBE_FORMATTER" "Ljava/util/function/BiFunction;")) (by decide +kernel)) hA, st_nestF h0⟩, fun i q hq => ?_⟩
  · have hi : i < 1000 := Nat.lt_of_lt_of_le (List.getElem?_eq_some_iff.mp hq).1 (by decide)
    have e : (if i < 1000 then (d i).2 else t (i - 1000)) = (d i).2 := if_pos hi
    show vk_R q.1 q.2.1 q.2.2.1 (d i).1 s ∧ vk_S 1 [q.2.2.2.1] [q.2.2.2.2] (fun _ => (d i).1) (fun _ => if i < 1000 then (d i).2 else t (i - 1000)) A s s.heap
    rw [e]
    exact hd i q hq
  · have e : (if 1000 + i < 1000 then (d (1000 + i)).2 else t (1000 + i - 1000)) = t i := by
      rw [if_neg (by omega), Nat.add_sub_cancel_left]
    show va_Z q.1 q.2.1 q.2.2.1 (.ref (if 1000 + i < 1000 then (d (1000 + i)).2 else t (1000 + i - 1000))) A s s.heap ∧ va_T _ (if 1000 + i < 1000 then (d (1000 + i)).2 else t (1000 + i - 1000)) _ _ A s s.heap
    rw [e]
    exact ht i q hq

def nestL : List (String × Nat × MethodName × String) := [("StaveHouse", 33, ({ cls := "StaveHouse$Parser", name := "<init>", desc := "()V" } : Jvm.MethodName), "StaveHouse"), ("StaveHouse$Parser", 47, ({ cls := "StaveHouse$Tokens", name := "<init>", desc := "()V" } : Jvm.MethodName), "StaveHouse"), ("StaveHouse", 40, ({ cls := "StaveHouse$Walker", name := "<init>", desc := "()V" } : Jvm.MethodName), "StaveHouse"), ("StaveHouse", 47, ({ cls := "StaveHouse$Scribe", name := "<init>", desc := "()V" } : Jvm.MethodName), "StaveHouse"), ("StaveHouse$Scribe", 11, ({ cls := "StaveHouse$Event", name := "<init>", desc := "()V" } : Jvm.MethodName), "StaveHouse"), ("StaveHouse", 67, ({ cls := "StaveHouse$Piece", name := "<init>", desc := "()V" } : Jvm.MethodName), "StaveHouse"), ("StaveHouse$Part", 30, ({ cls := "StaveHouse$Event", name := "<init>", desc := "()V" } : Jvm.MethodName), "StaveHouse"), ("StaveHouse$Piece", 110, ({ cls := "StaveHouse$Study", name := "<init>", desc := "()V" } : Jvm.MethodName), "StaveHouse"), ("StaveHouse$Piece", 99, ({ cls := "StaveHouse$Performance", name := "<init>", desc := "()V" } : Jvm.MethodName), "StaveHouse"), ("StaveHouse", 237, ({ cls := "StaveHouse$Layout", name := "<init>", desc := "()V" } : Jvm.MethodName), "StaveHouse"), ("StaveHouse", 277, ({ cls := "StaveHouse$SoundFile", name := "<init>", desc := "()V" } : Jvm.MethodName), "StaveHouse"), ("StaveHouseModel", 39, ({ cls := "StaveHouseModel$Piece", name := "<init>", desc := "()V" } : Jvm.MethodName), "StaveHouseModel"), ("StaveHouse$Parser", 315, ({ cls := "StaveHouse", name := "naturalTone", desc := "(I)I" } : Jvm.MethodName), "StaveHouse"), ("StaveHouse$Walker", 191, ({ cls := "StaveHouse", name := "naturalTone", desc := "(I)I" } : Jvm.MethodName), "StaveHouse"), ("StaveHouse$Part", 175, ({ cls := "StaveHouse", name := "greatestValue", desc := "(I)I" } : Jvm.MethodName), "StaveHouse"), ("StaveHouse$Part", 169, ({ cls := "StaveHouse", name := "fineValue", desc := "(I)I" } : Jvm.MethodName), "StaveHouse"), ("StaveHouse$Part", 165, ({ cls := "StaveHouse", name := "nextValue", desc := "(IIII)I" } : Jvm.MethodName), "StaveHouse"), ("StaveHouse$Part", 197, ({ cls := "StaveHouse", name := "keyAlteration", desc := "(II)I" } : Jvm.MethodName), "StaveHouse"), ("StaveHouse$Piece", 77, ({ cls := "StaveHouse", name := "beatCount", desc := "(II)I" } : Jvm.MethodName), "StaveHouse"), ("StaveHouse$Event", 25, ({ cls := "StaveHouse", name := "naturalTone", desc := "(I)I" } : Jvm.MethodName), "StaveHouse"), ("StaveHouse$Performance", 150, ({ cls := "StaveHouse", name := "naturalTone", desc := "(I)I" } : Jvm.MethodName), "StaveHouse"), ("StaveHouse$Performance", 156, ({ cls := "StaveHouse", name := "keyAlteration", desc := "(II)I" } : Jvm.MethodName), "StaveHouse"), ("StaveHouse$Scribe", 183, ({ cls := "StaveHouse", name := "nextValue", desc := "(IIII)I" } : Jvm.MethodName), "StaveHouse"), ("StaveHouse$Scribe", 187, ({ cls := "StaveHouse", name := "fineValue", desc := "(I)I" } : Jvm.MethodName), "StaveHouse"), ("StaveHouse$Study", 189, ({ cls := "StaveHouse", name := "keyAlteration", desc := "(II)I" } : Jvm.MethodName), "StaveHouse"), ("StaveHouse$Part", 235, ({ cls := "StaveHouse", name := "gcd", desc := "(JJ)J" } : Jvm.MethodName), "StaveHouse")]
def nestF : List (String × Nat × String × String × String × String) := [("StaveHouse$Parser", 299, "StaveHouse", "POINT_QUARTERS", "[I", "StaveHouse"), ("StaveHouse$Scribe", 126, "StaveHouse", "NATURAL_TONES", "[I", "StaveHouse"), ("StaveHouse$Study", 180, "StaveHouse", "NATURAL_TONES", "[I", "StaveHouse")]
def aoL : List String := ["StaveHouse$Piece", "StaveHouse$Part", "StaveHouseModel$Piece", "StaveHouse$Event"]
def statL : List (String × String × String × Value) := [("java/lang/String", "COMPACT_STRINGS", "Z", .int 1), ("StaveHouseModel", "KEY", "J", .long 7038329), ("StaveHouseModel", "MAJOR", "J", .long 469785800562), ("StaveHouseModel", "MINOR", "J", .long 469920280434), ("StaveHouseModel", "TIME", "J", .long 1953066341), ("StaveHouseModel", "TEMPO", "J", .long 499917877359), ("StaveHouseModel", "LET", "J", .long 7103860), ("StaveHouseModel", "VOICE", "J", .long 508675318629), ("StaveHouseModel", "REPEAT", "J", .long 125780002955636), ("StaveHouseModel", "ALT", "J", .long 6384756), ("StaveHouseModel", "USE", "J", .long 7697253), ("StaveHouseModel", "MOVE", "J", .long 1836021349), ("StaveHouseModel", "MIRROR", "J", .long 120299659095922), ("StaveHouseModel", "BACK", "J", .long 1650549611), ("StaveHouseModel", "SLOW", "J", .long 1936486263), ("StaveHouseModel", "REST", "J", .long 114)]
def strL : List (String × Nat × String × Nat × List Int32) := [("StaveHouse$Parser", 302, "~()'^-%", 7, [126, 40, 41, 39, 94, 45, 37]), ("StaveHouse$Performance", 201, "MThd", 4, [77, 84, 104, 100]), ("StaveHouse$Performance", 221, "MTrk", 4, [77, 84, 114, 107]), ("StaveHouse$Scribe", 133, "key -", 5, [107, 101, 121, 32, 45]), ("StaveHouse$Scribe", 135, "key ", 4, [107, 101, 121, 32]), ("StaveHouse$Scribe", 147, " minor\ntime ", 12, [32, 109, 105, 110, 111, 114, 10, 116, 105, 109, 101, 32]), ("StaveHouse$Scribe", 149, " major\ntime ", 12, [32, 109, 97, 106, 111, 114, 10, 116, 105, 109, 101, 32]), ("StaveHouse$Scribe", 154, "\ntempo ", 7, [10, 116, 101, 109, 112, 111, 32]), ("StaveHouse$Scribe", 156, "voice v", 7, [118, 111, 105, 99, 101, 32, 118]), ("StaveHouse$Scribe", 160, " treble ", 8, [32, 116, 114, 101, 98, 108, 101, 32]), ("StaveHouse$Scribe", 162, " bass ", 6, [32, 98, 97, 115, 115, 32]), ("StaveHouse$Scribe", 167, " {\n", 3, [32, 123, 10]), ("StaveHouse$Scribe", 178, "}\n", 2, [125, 10]), ("StaveHouse$Scribe", 194, "|\n", 2, [124, 10]), ("StaveHouse$Scribe", 200, "<", 1, [60]), ("StaveHouse$Scribe", 202, "", 0, []), ("StaveHouse$Scribe", 204, " ", 1, [32]), ("StaveHouse$Scribe", 215, ">:", 2, [62, 58]), ("StaveHouse$Scribe", 217, ":", 1, [58]), ("StaveHouse$Scribe", 219, "~ ", 2, [126, 32]), ("StaveHouse$Scribe", 221, "cdefgab", 7, [99, 100, 101, 102, 103, 97, 98]), ("StaveHouse$SoundFile", 96, "MThd", 4, [77, 84, 104, 100]), ("StaveHouse$Tokens", 47, "{}[]<>():/.|~!'^-%=", 19, [123, 125, 91, 93, 60, 62, 40, 41, 58, 47, 46, 124, 126, 33, 39, 94, 45, 37, 61]), ("StaveHouseModel", 65, "treble", 6, [116, 114, 101, 98, 108, 101]), ("StaveHouseModel", 71, "bass", 4, [98, 97, 115, 115]), ("StaveHouseModel", 73, "alto", 4, [97, 108, 116, 111]), ("StaveHouseModel", 75, "tenor", 5, [116, 101, 110, 111, 114]), ("StaveHouseModel", 80, "ppp", 3, [112, 112, 112]), ("StaveHouseModel", 82, "pp", 2, [112, 112]), ("StaveHouseModel", 84, "p", 1, [112]), ("StaveHouseModel", 86, "mp", 2, [109, 112]), ("StaveHouseModel", 88, "mf", 2, [109, 102]), ("StaveHouseModel", 90, "f", 1, [102]), ("StaveHouseModel", 92, "ff", 2, [102, 102]), ("StaveHouseModel", 94, "fff", 3, [102, 102, 102]), ("StaveHouseModel", 346, "{}[]<>():/.|~!'^-%=", 19, [123, 125, 91, 93, 60, 62, 40, 41, 58, 47, 46, 124, 126, 33, 39, 94, 45, 37, 61]), ("StaveHouseModel", 969, "MThd", 4, [77, 84, 104, 100]), ("StaveHouseModel", 987, "MTrk", 4, [77, 84, 114, 107]), ("StaveHouseModel", 1091, "key ", 4, [107, 101, 121, 32]), ("StaveHouseModel", 1096, " minor", 6, [32, 109, 105, 110, 111, 114]), ("StaveHouseModel", 1098, " major", 6, [32, 109, 97, 106, 111, 114]), ("StaveHouseModel", 1100, "time ", 5, [116, 105, 109, 101, 32]), ("StaveHouseModel", 1102, "tempo ", 6, [116, 101, 109, 112, 111, 32]), ("StaveHouseModel", 1104, "voice v", 7, [118, 111, 105, 99, 101, 32, 118]), ("StaveHouseModel", 1106, " treble ", 8, [32, 116, 114, 101, 98, 108, 101, 32]), ("StaveHouseModel", 1108, " bass ", 6, [32, 98, 97, 115, 115, 32]), ("StaveHouseModel", 1110, " {", 2, [32, 123]), ("StaveHouseModel", 1116, "cdefgab", 7, [99, 100, 101, 102, 103, 97, 98])]
def staL : List (String × String × String × Bool × List Int) := [("StaveHouse$Parser", "CLEFS", "[J", true, [128034676042853, 1650553715, 1634497647, 499917942642]), ("StaveHouse$Parser", "LOUDS", "[J", true, [7368816, 28784, 112, 28016, 28006, 102, 26214, 6710886]), ("StaveHouse$Parser", "BEGINNERS", "[J", true, [125780002955636, 7697253, 1836021349, 120299659095922, 1650549611, 1936486263]), ("StaveHouse$Parser", "OTHER_WORDS", "[J", true, [7038329, 469785800562, 469920280434, 1953066341, 499917877359, 7103860, 508675318629, 6384756, 114]), ("StaveHouse", "POINT_QUARTERS", "[I", false, [4, 6, 7]), ("StaveHouse", "NATURAL_TONES", "[I", false, [0, 2, 4, 5, 7, 9, 11]), ("StaveHouse$Walker", "PRIMES", "[I", false, [2, 3, 5, 7]), ("StaveHouse", "SHARP_RANKS", "[I", false, [1, 3, 5, 0, 2, 4, 6]), ("StaveHouse$Part", "LOWEST_LINES", "[I", false, [30, 18, 24, 22]), ("StaveHouse$Study", "LEAST_TONES", "[I", false, [0, 1, 3, 5, 7, 8, 10]), ("StaveHouse$Study", "MOST_TONES", "[I", false, [0, 2, 4, 5, 7, 9, 11]), ("StaveHouse$Performance", "MAJOR_WEIGHTS", "[I", false, [635, 223, 348, 233, 438, 409, 252, 519, 239, 366, 229, 288]), ("StaveHouse$Performance", "MINOR_WEIGHTS", "[I", false, [633, 268, 352, 538, 260, 353, 254, 475, 398, 269, 334, 317]), ("StaveHouse$Performance", "TURNS", "[J", true, [2247346494, 2380980670, 2522561148, 2672560440, 2831479154, 2999847666, 3178227890, 3367215155, 3567440188, 3779571220, 4004316221, 4242425254]), ("StaveHouse$Performance", "CODE_STEPS", "[I", false, [7, 8, 9, 10, 11, 12, 13, 14, 16, 17, 19, 21, 23, 25, 28, 31, 34, 37, 41, 45, 50, 55, 60, 66, 73, 80, 88, 97, 107, 118, 130, 143, 157, 173, 190, 209, 230, 253, 279, 307, 337, 371, 408, 449, 494, 544, 598, 658, 724, 796, 876, 963, 1060, 1166, 1282, 1411, 1552, 1707, 1878, 2066, 2272, 2499, 2749, 3024, 3327, 3660, 4026, 4428, 4871, 5358, 5894, 6484, 7132, 7845, 8630, 9493, 10442, 11487, 12635, 13899, 15289, 16818, 18500, 20350, 22385, 24623, 27086, 29794, 32767]), ("StaveHouse$Performance", "INDEX_MOVES", "[I", false, [-1, -1, -1, -1, 2, 4, 6, 8]), ("StaveHouse$Study", "CHORD_TONES", "[I", false, [40799, 30799, 30699, 40899, 40710, 40711, 30710, 30610, 30609, 30711, 49999, 39999, 49910, 49911, 39910, 39911]), ("StaveHouse$Study", "CHORD_KINDS", "[I", false, [0, 1, 2, 3, 4, 5, 6, 7, 8, 9, 0, 1, 4, 5, 6, 9])]
/-! ===== the words, once for all contracts ===== -/
def wAll : List Cond := lw_tbl.filter goodWord
theorem wA_good : ∀ w ∈ wAll, goodWord w = true := fun _ h => (List.mem_filter.mp h).2
theorem wA_in : ∀ w ∈ wAll, w ∈ lw_tbl := fun _ h => (List.mem_filter.mp h).1
theorem wA_of {w : Cond} (h : w ∈ lw_tbl) (hg : goodWord w = true) : w ∈ wAll := List.mem_filter.mpr ⟨h, hg⟩
theorem wA_hts {args : Array Value} {s : State} (h : ∀ w ∈ lw_tbl, w.before args s = true) : ∀ w ∈ wAll, w.before args s = true := fun w hw => h w (wA_in w hw)
theorem gdC {y : MethodName} {b : ByteArray} {n : Nat} {r : Option FieldType} (h : Cond.code y b n r ∈ wAll) : GoodIn wAll (Cond.code y b n r :: wAll) := fun w hw =>
  (List.mem_cons.mp hw).elim (fun e => by rw [e]; exact ⟨h, good_of_word (wA_good _ h)⟩) (fun h1 => ⟨h1, good_of_word (wA_good _ h1)⟩)
theorem gdW {ws : List Cond} (h : ∀ w ∈ ws, w ∈ wAll) : GoodIn wAll ws := fun w hw => ⟨h w hw, good_of_word (wA_good _ (h w hw))⟩
theorem gdV {own C : String} {i : Nat} {y : MethodName} {b : ByteArray} {n : Nat} {r : Option FieldType} (h1 : Cond.methodLink own i y ∈ wAll) (h2 : Cond.instanceMethod y ∈ wAll) (h3 : Cond.selects C y y ∈ wAll) (h4 : Cond.initialized C ∈ wAll) (h : Cond.code y b n r ∈ wAll) : GoodIn wAll (wsV own i C y (Cond.code y b n r :: wAll)) := by
  intro w hw
  unfold wsV at hw
  rcases List.mem_append.mp hw with hw | hw
  · refine gdW (ws := [.methodLink own i y, .instanceMethod y, .selects C y y, .initialized C]) ?_ w hw
    exact List.forall_mem_cons.mpr ⟨h1, List.forall_mem_cons.mpr ⟨h2, List.forall_mem_cons.mpr ⟨h3, List.forall_mem_cons.mpr ⟨h4, fun _ h => absurd h List.not_mem_nil⟩⟩⟩⟩
  · exact gdC h w hw
theorem gdS {own : String} {i : Nat} {y : MethodName} {b : ByteArray} {n : Nat} {r : Option FieldType} (h1 : Cond.methodLink own i y ∈ wAll) (h2 : Cond.static y ∈ wAll) (h4 : Cond.initialized y.cls ∈ wAll) (h : Cond.code y b n r ∈ wAll) : GoodIn wAll (va_wsS own i y (Cond.code y b n r :: wAll)) := by
  intro w hw
  unfold va_wsS at hw
  rcases List.mem_append.mp hw with hw | hw
  · refine gdW (ws := [.methodLink own i y, .static y, .initialized y.cls]) ?_ w hw
    exact List.forall_mem_cons.mpr ⟨h1, List.forall_mem_cons.mpr ⟨h2, List.forall_mem_cons.mpr ⟨h4, fun _ h => absurd h List.not_mem_nil⟩⟩⟩
  · exact gdC h w hw
/-! ===== what is known of a row of values ===== -/
def gF {α : Type} (f : Nat → α) (L : List (Nat × α)) : Prop := ∀ q ∈ L, f q.1 = q.2
def gM {α : Type} (f f' : Nat → α) (ks : List Nat) : Prop := ∀ j, ks.contains j = false → f' j = f j
section GF
variable {α : Type} {f f' f0 : Nat → α} {L L' N : List (Nat × α)} {k : Nat} {v : α} {ks ks' : List Nat}
theorem gF_nil : gF f [] := fun _ h => absurd h List.not_mem_nil
theorem gF_cons (h : f k = v) (hL : gF f L) : gF f ((k, v) :: L) := List.forall_mem_cons.mpr ⟨h, hL⟩
theorem gF.at (h : gF f L) (i : Nat) (hi : L[i]? = some (k, v)) : f k = v := h (k, v) (List.mem_of_getElem? hi)
theorem gF.sub (h : gF f L) (is : List Nat) (hl : is.filterMap (fun i => L[i]?) = L') : gF f L' := by
  intro q hq
  rw [← hl] at hq
  obtain ⟨i, -, hi⟩ := List.mem_filterMap.mp hq
  exact h q (List.mem_of_getElem? hi)
theorem gF.put (h : gF f L) (k : Nat) (v : α) (hl : (k, v) :: L.filter (fun q => !(q.1 == k)) = L') : gF (va_up f k v) L' := by
  rw [← hl]
  refine List.forall_mem_cons.mpr ⟨va_up_self f k v, fun q hq => ?_⟩
  obtain ⟨h1, h2⟩ := List.mem_filter.mp hq
  have h3 : q.1 ≠ k := by simpa using h2
  rw [va_up_ne f v h3]
  exact h q h1
theorem gM.rf : gM f f [] := fun _ _ => rfl
theorem gM.up (f : Nat → α) (k : Nat) (v : α) : gM f (va_up f k v) [k] := fun j hj => va_up_ne f v (by simpa using hj)
theorem gM.tr (h : gM f0 f ks) (h2 : gM f f' ks') : gM f0 f' (ks' ++ ks) := fun j hj => by
  have h3 : ks'.contains j = false ∧ ks.contains j = false := by simpa using hj
  rw [h2 j h3.1, h j h3.2]
theorem gM.mono (h : gM f f' ks) (hs : ks.all (fun k => ks'.contains k) = true) : gM f f' ks' := fun j hj => h j (by
  cases hc : ks.contains j with
  | false => rfl
  | true =>
    have h1 := List.all_eq_true.mp hs j (by simpa using hc)
    rw [hj] at h1
    cases h1)
theorem gF.upd (h : gF f L) (hm : gM f f' ks) (hn : gF f' N) (hl : N ++ L.filter (fun q => !(ks.contains q.1)) = L') : gF f' L' := by
  intro q hq
  rw [← hl] at hq
  rcases List.mem_append.mp hq with hq | hq
  · exact hn q hq
  · obtain ⟨h1, h2⟩ := List.mem_filter.mp hq
    rw [hm q.1 (by simpa using h2)]
    exact h q h1
end GF
def rg (N : Nat) (f : Nat → Value) : List Value := (List.range N).map f
theorem rg_get {N k : Nat} {f : Nat → Value} {v : Value} (hk : k < N) (e : f k = v) : (rg N f)[k]? = some v := by
  unfold rg
  rw [List.getElem?_map, List.getElem?_range hk, ← e]
  rfl
theorem rg_len {N : Nat} {f : Nat → Value} : (rg N f).length = N := by simp [rg]
theorem rg_set {N k : Nat} {f : Nat → Value} {v : Value} : (rg N f).set k v = rg N (va_up f k v) := by
  unfold rg
  apply List.ext_getElem?
  intro i
  rw [List.getElem?_set, List.getElem?_map, List.getElem?_map]
  by_cases hi : i < N
  · rw [List.getElem?_range hi]
    by_cases e : k = i
    · subst e
      simp [va_up, hi]
    · have e2 : ¬ i = k := fun z => e z.symm
      simp [va_up, e, e2]
  · have hn : (List.range N)[i]? = none := List.getElem?_eq_none (by rw [List.length_range]; omega)
    rw [hn]
    by_cases e : k = i
    · subst e
      simp [hi]
    · simp [e]
theorem rg_V {N k : Nat} {f : Nat → Value} (hk : k < N) : vp_V (rg N f) k = f k := by
  unfold vp_V
  rw [List.getD_eq_getElem?_getD, rg_get hk rfl]
  rfl
theorem wA_1 {j : Nat} {w : Cond} (h : tables_1_1[j]? = some w) (hg : goodWord w = true) : w ∈ wAll := wA_of (List.mem_append_right _ (by unfold tables_1; exact List.mem_append_left _ (List.mem_of_getElem? h))) hg
theorem wA_2 {j : Nat} {w : Cond} (h : tables_1_2[j]? = some w) (hg : goodWord w = true) : w ∈ wAll := wA_of (List.mem_append_right _ (by unfold tables_1; exact List.mem_append_right _ (List.mem_append_left _ (List.mem_of_getElem? h)))) hg
theorem wA_3 {j : Nat} {w : Cond} (h : tables_1_3[j]? = some w) (hg : goodWord w = true) : w ∈ wAll := wA_of (List.mem_append_right _ (by unfold tables_1; exact List.mem_append_right _ (List.mem_append_right _ (List.mem_append_left _ (List.mem_of_getElem? h))))) hg
theorem wA_4 {j : Nat} {w : Cond} (h : tables_1_4[j]? = some w) (hg : goodWord w = true) : w ∈ wAll := wA_of (List.mem_append_right _ (by unfold tables_1; exact List.mem_append_right _ (List.mem_append_right _ (List.mem_append_right _ (List.mem_append_left _ (List.mem_of_getElem? h)))))) hg
theorem wA_5 {j : Nat} {w : Cond} (h : tables_1_5[j]? = some w) (hg : goodWord w = true) : w ∈ wAll := wA_of (List.mem_append_right _ (by unfold tables_1; exact List.mem_append_right _ (List.mem_append_right _ (List.mem_append_right _ (List.mem_append_right _ (List.mem_append_left _ (List.mem_of_getElem? h))))))) hg
theorem wA_6 {j : Nat} {w : Cond} (h : tables_1_6[j]? = some w) (hg : goodWord w = true) : w ∈ wAll := wA_of (List.mem_append_right _ (by unfold tables_1; exact List.mem_append_right _ (List.mem_append_right _ (List.mem_append_right _ (List.mem_append_right _ (List.mem_append_right _ (List.mem_append_left _ (List.mem_of_getElem? h)))))))) hg
theorem wA_7 {j : Nat} {w : Cond} (h : tables_1_7[j]? = some w) (hg : goodWord w = true) : w ∈ wAll := wA_of (List.mem_append_right _ (by unfold tables_1; exact List.mem_append_right _ (List.mem_append_right _ (List.mem_append_right _ (List.mem_append_right _ (List.mem_append_right _ (List.mem_append_right _ (List.mem_append_left _ (List.mem_of_getElem? h))))))))) hg
theorem wA_8 {j : Nat} {w : Cond} (h : tables_1_8[j]? = some w) (hg : goodWord w = true) : w ∈ wAll := wA_of (List.mem_append_right _ (by unfold tables_1; exact List.mem_append_right _ (List.mem_append_right _ (List.mem_append_right _ (List.mem_append_right _ (List.mem_append_right _ (List.mem_append_right _ (List.mem_append_right _ (List.mem_append_left _ (List.mem_of_getElem? h)))))))))) hg
theorem wA_9 {j : Nat} {w : Cond} (h : tables_1_9[j]? = some w) (hg : goodWord w = true) : w ∈ wAll := wA_of (List.mem_append_right _ (by unfold tables_1; exact List.mem_append_right _ (List.mem_append_right _ (List.mem_append_right _ (List.mem_append_right _ (List.mem_append_right _ (List.mem_append_right _ (List.mem_append_right _ (List.mem_append_right _ (List.mem_append_left _ (List.mem_of_getElem? h))))))))))) hg
theorem wA_10 {j : Nat} {w : Cond} (h : tables_1_10[j]? = some w) (hg : goodWord w = true) : w ∈ wAll := wA_of (List.mem_append_right _ (by unfold tables_1; exact List.mem_append_right _ (List.mem_append_right _ (List.mem_append_right _ (List.mem_append_right _ (List.mem_append_right _ (List.mem_append_right _ (List.mem_append_right _ (List.mem_append_right _ (List.mem_append_right _ (List.mem_append_left _ (List.mem_of_getElem? h)))))))))))) hg
theorem wA_11 {j : Nat} {w : Cond} (h : tables_1_11[j]? = some w) (hg : goodWord w = true) : w ∈ wAll := wA_of (List.mem_append_right _ (by unfold tables_1; exact List.mem_append_right _ (List.mem_append_right _ (List.mem_append_right _ (List.mem_append_right _ (List.mem_append_right _ (List.mem_append_right _ (List.mem_append_right _ (List.mem_append_right _ (List.mem_append_right _ (List.mem_append_right _ (List.mem_append_left _ (List.mem_of_getElem? h))))))))))))) hg
theorem wA_12 {j : Nat} {w : Cond} (h : tables_1_12[j]? = some w) (hg : goodWord w = true) : w ∈ wAll := wA_of (List.mem_append_right _ (by unfold tables_1; exact List.mem_append_right _ (List.mem_append_right _ (List.mem_append_right _ (List.mem_append_right _ (List.mem_append_right _ (List.mem_append_right _ (List.mem_append_right _ (List.mem_append_right _ (List.mem_append_right _ (List.mem_append_right _ (List.mem_append_right _ (List.mem_append_left _ (List.mem_of_getElem? h)))))))))))))) hg
theorem wA_13 {j : Nat} {w : Cond} (h : tables_1_13[j]? = some w) (hg : goodWord w = true) : w ∈ wAll := wA_of (List.mem_append_right _ (by unfold tables_1; exact List.mem_append_right _ (List.mem_append_right _ (List.mem_append_right _ (List.mem_append_right _ (List.mem_append_right _ (List.mem_append_right _ (List.mem_append_right _ (List.mem_append_right _ (List.mem_append_right _ (List.mem_append_right _ (List.mem_append_right _ (List.mem_append_right _ (List.mem_append_left _ (List.mem_of_getElem? h))))))))))))))) hg
theorem wA_14 {j : Nat} {w : Cond} (h : tables_1_14[j]? = some w) (hg : goodWord w = true) : w ∈ wAll := wA_of (List.mem_append_right _ (by unfold tables_1; exact List.mem_append_right _ (List.mem_append_right _ (List.mem_append_right _ (List.mem_append_right _ (List.mem_append_right _ (List.mem_append_right _ (List.mem_append_right _ (List.mem_append_right _ (List.mem_append_right _ (List.mem_append_right _ (List.mem_append_right _ (List.mem_append_right _ (List.mem_append_right _ (List.mem_append_left _ (List.mem_of_getElem? h)))))))))))))))) hg
theorem wA_15 {j : Nat} {w : Cond} (h : tables_1_15[j]? = some w) (hg : goodWord w = true) : w ∈ wAll := wA_of (List.mem_append_right _ (by unfold tables_1; exact List.mem_append_right _ (List.mem_append_right _ (List.mem_append_right _ (List.mem_append_right _ (List.mem_append_right _ (List.mem_append_right _ (List.mem_append_right _ (List.mem_append_right _ (List.mem_append_right _ (List.mem_append_right _ (List.mem_append_right _ (List.mem_append_right _ (List.mem_append_right _ (List.mem_append_right _ (List.mem_of_getElem? h)))))))))))))))) hg
theorem wA_s {j : Nat} {w : Cond} (h : (k2_sels lw_privs)[j]? = some w) (hg : goodWord w = true) : w ∈ wAll := wA_of (List.mem_append_left _ (List.mem_of_getElem? h)) hg

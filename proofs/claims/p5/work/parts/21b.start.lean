theorem zsl_le {i : Nat} (h : i < strL.length) : 0 ≤ zsl i ∧ zsl i ≤ 1000 := by
  have := zsq_le i h
  unfold zsl
  omega
theorem mlen {K : zK} {F : zF} {B : zB} {i : Nat} (h : i < strL.length) (hv : zshr (zsl i) 0 = zsl i) : f_MString_length K i F B = some (zsl i, F, B) := by
  unfold f_MString_length f_MString_coder f_MString_coder_14
  rw [if_pos h, if_neg (by decide), if_pos h, if_pos (by decide)]
  show some (zshr (zsl i) 0, F, B) = _
  rw [hv]
theorem mchar {K : zK} {F : zF} {B : zB} {i : Nat} {j v : Int} (h : i < strL.length) (h0 : 0 ≤ j) (h1 : j < zsl i) (hv : zi2c (zand (zsb i j) 255) = v) (v0 : 0 ≤ v ∧ v < 65536) : f_MString_charAt K i j F B = some (v, F, B) := by
  have hz := zsl_le h
  have e1 : f_MString_isLatin1 K i F B = some (1, F, B) := by
    unfold f_MString_isLatin1 f_MString_isLatin1_18
    rw [if_neg (by decide), if_pos h, if_pos (by decide), if_pos (by decide)]
  have e2 : f_MString_checkIndex K j (zsl i) F B = some (0, F, B) := by
    unfold f_MString_checkIndex f_MPreconditions_checkIndex
    rw [if_pos (show r32 j from ⟨by omega, by omega⟩), if_neg (by omega), if_pos (show r32 (zsl i) from ⟨by omega, by omega⟩), if_pos h1]
    rfl
  have e3 : f_MStringLatin1_charAt K i j F B = some (v, F, B) := by
    unfold f_MStringLatin1_charAt
    rw [if_pos h, e2]
    show (if 0 ≤ j ∧ j < zsl i then _ else _) = _
    rw [if_pos ⟨h0, h1⟩, hv, if_pos v0]
  unfold f_MString_charAt
  rw [if_pos h, e1]
  show (if r32 (1 : Int) then (if (1 : Int) = 0 then none else zbind (f_MStringLatin1_charAt K i j F B) (fun r5 F5 B5 => if 0 ≤ r5 ∧ r5 < 65536 then some (r5, F5, B5) else none)) else none) = some (v, F, B)
  rw [if_pos ⟨by decide, by decide⟩, if_neg (by decide), e3]
  show (if 0 ≤ v ∧ v < 65536 then some (v, F, B) else none) = some (v, F, B)
  rw [if_pos v0]
theorem mcode_step {K : zK} {F : zF} {B : zB} {i n : Nat} {j a v a' : Int} (h : i < strL.length) (hl : zshr (zsl i) 0 = zsl i) (h0 : 0 ≤ j) (h1 : j < zsl i) (hv : zi2c (zand (zsb i j) 255) = v) (v0 : 0 ≤ v ∧ v < 65536) (ha : zlor (zlshl a 8) v = a') : f_MM_code_4 K (n + 1) j a i F B = f_MM_code_4 K n (j + 1) a' i F B := by
  have hz := zsl_le h
  show (if i < strL.length then _ else _) = _
  rw [if_pos h, mlen h hl]
  show (if r32 j then _ else _) = _
  rw [if_pos (show r32 j from ⟨by omega, by omega⟩), if_pos (show r32 (zsl i) from ⟨by omega, by omega⟩), if_neg (by omega), mchar h h0 h1 hv v0]
  show (if r32 v then _ else _) = _
  rw [if_pos (show r32 v from ⟨by omega, by omega⟩), ha]
theorem mcode_end {K : zK} {F : zF} {B : zB} {i n : Nat} {j a : Int} (h : i < strL.length) (hl : zshr (zsl i) 0 = zsl i) (h1 : j = zsl i) : f_MM_code_4 K (n + 1) j a i F B = some (a, F, B) := by
  have hz := zsl_le h
  show (if i < strL.length then _ else _) = _
  rw [if_pos h, mlen h hl]
  show (if r32 j then _ else _) = _
  rw [if_pos (show r32 j from ⟨by omega, by omega⟩), if_pos (show r32 (zsl i) from ⟨by omega, by omega⟩), if_pos (by omega)]
theorem mcode_23 {N : Nat → Int} {F : zF} {B : zB} : f_MM_code (20, N) 23 F B = some (128034676042853, F, B) := by
  show f_MM_code_4 _ 20 0 0 23 F B = _
  rw [mcode_step (v := 116) (a' := 116) (by decide) (by decide) (by decide) (by decide) (by decide) (by decide) (by decide)]
  rw [mcode_step (v := 114) (a' := 29810) (by decide) (by decide) (by decide) (by decide) (by decide) (by decide) (by decide)]
  rw [mcode_step (v := 101) (a' := 7631461) (by decide) (by decide) (by decide) (by decide) (by decide) (by decide) (by decide)]
  rw [mcode_step (v := 98) (a' := 1953654114) (by decide) (by decide) (by decide) (by decide) (by decide) (by decide) (by decide)]
  rw [mcode_step (v := 108) (a' := 500135453292) (by decide) (by decide) (by decide) (by decide) (by decide) (by decide) (by decide)]
  rw [mcode_step (v := 101) (a' := 128034676042853) (by decide) (by decide) (by decide) (by decide) (by decide) (by decide) (by decide)]
  exact mcode_end (by decide) (by decide) (by decide)
theorem mcode_24 {N : Nat → Int} {F : zF} {B : zB} : f_MM_code (20, N) 24 F B = some (1650553715, F, B) := by
  show f_MM_code_4 _ 20 0 0 24 F B = _
  rw [mcode_step (v := 98) (a' := 98) (by decide) (by decide) (by decide) (by decide) (by decide) (by decide) (by decide)]
  rw [mcode_step (v := 97) (a' := 25185) (by decide) (by decide) (by decide) (by decide) (by decide) (by decide) (by decide)]
  rw [mcode_step (v := 115) (a' := 6447475) (by decide) (by decide) (by decide) (by decide) (by decide) (by decide) (by decide)]
  rw [mcode_step (v := 115) (a' := 1650553715) (by decide) (by decide) (by decide) (by decide) (by decide) (by decide) (by decide)]
  exact mcode_end (by decide) (by decide) (by decide)
theorem mcode_25 {N : Nat → Int} {F : zF} {B : zB} : f_MM_code (20, N) 25 F B = some (1634497647, F, B) := by
  show f_MM_code_4 _ 20 0 0 25 F B = _
  rw [mcode_step (v := 97) (a' := 97) (by decide) (by decide) (by decide) (by decide) (by decide) (by decide) (by decide)]
  rw [mcode_step (v := 108) (a' := 24940) (by decide) (by decide) (by decide) (by decide) (by decide) (by decide) (by decide)]
  rw [mcode_step (v := 116) (a' := 6384756) (by decide) (by decide) (by decide) (by decide) (by decide) (by decide) (by decide)]
  rw [mcode_step (v := 111) (a' := 1634497647) (by decide) (by decide) (by decide) (by decide) (by decide) (by decide) (by decide)]
  exact mcode_end (by decide) (by decide) (by decide)
theorem mcode_26 {N : Nat → Int} {F : zF} {B : zB} : f_MM_code (20, N) 26 F B = some (499917942642, F, B) := by
  show f_MM_code_4 _ 20 0 0 26 F B = _
  rw [mcode_step (v := 116) (a' := 116) (by decide) (by decide) (by decide) (by decide) (by decide) (by decide) (by decide)]
  rw [mcode_step (v := 101) (a' := 29797) (by decide) (by decide) (by decide) (by decide) (by decide) (by decide) (by decide)]
  rw [mcode_step (v := 110) (a' := 7628142) (by decide) (by decide) (by decide) (by decide) (by decide) (by decide) (by decide)]
  rw [mcode_step (v := 111) (a' := 1952804463) (by decide) (by decide) (by decide) (by decide) (by decide) (by decide) (by decide)]
  rw [mcode_step (v := 114) (a' := 499917942642) (by decide) (by decide) (by decide) (by decide) (by decide) (by decide) (by decide)]
  exact mcode_end (by decide) (by decide) (by decide)
theorem mcode_27 {N : Nat → Int} {F : zF} {B : zB} : f_MM_code (20, N) 27 F B = some (7368816, F, B) := by
  show f_MM_code_4 _ 20 0 0 27 F B = _
  rw [mcode_step (v := 112) (a' := 112) (by decide) (by decide) (by decide) (by decide) (by decide) (by decide) (by decide)]
  rw [mcode_step (v := 112) (a' := 28784) (by decide) (by decide) (by decide) (by decide) (by decide) (by decide) (by decide)]
  rw [mcode_step (v := 112) (a' := 7368816) (by decide) (by decide) (by decide) (by decide) (by decide) (by decide) (by decide)]
  exact mcode_end (by decide) (by decide) (by decide)
theorem mcode_28 {N : Nat → Int} {F : zF} {B : zB} : f_MM_code (20, N) 28 F B = some (28784, F, B) := by
  show f_MM_code_4 _ 20 0 0 28 F B = _
  rw [mcode_step (v := 112) (a' := 112) (by decide) (by decide) (by decide) (by decide) (by decide) (by decide) (by decide)]
  rw [mcode_step (v := 112) (a' := 28784) (by decide) (by decide) (by decide) (by decide) (by decide) (by decide) (by decide)]
  exact mcode_end (by decide) (by decide) (by decide)
theorem mcode_29 {N : Nat → Int} {F : zF} {B : zB} : f_MM_code (20, N) 29 F B = some (112, F, B) := by
  show f_MM_code_4 _ 20 0 0 29 F B = _
  rw [mcode_step (v := 112) (a' := 112) (by decide) (by decide) (by decide) (by decide) (by decide) (by decide) (by decide)]
  exact mcode_end (by decide) (by decide) (by decide)
theorem mcode_30 {N : Nat → Int} {F : zF} {B : zB} : f_MM_code (20, N) 30 F B = some (28016, F, B) := by
  show f_MM_code_4 _ 20 0 0 30 F B = _
  rw [mcode_step (v := 109) (a' := 109) (by decide) (by decide) (by decide) (by decide) (by decide) (by decide) (by decide)]
  rw [mcode_step (v := 112) (a' := 28016) (by decide) (by decide) (by decide) (by decide) (by decide) (by decide) (by decide)]
  exact mcode_end (by decide) (by decide) (by decide)
theorem mcode_31 {N : Nat → Int} {F : zF} {B : zB} : f_MM_code (20, N) 31 F B = some (28006, F, B) := by
  show f_MM_code_4 _ 20 0 0 31 F B = _
  rw [mcode_step (v := 109) (a' := 109) (by decide) (by decide) (by decide) (by decide) (by decide) (by decide) (by decide)]
  rw [mcode_step (v := 102) (a' := 28006) (by decide) (by decide) (by decide) (by decide) (by decide) (by decide) (by decide)]
  exact mcode_end (by decide) (by decide) (by decide)
theorem mcode_32 {N : Nat → Int} {F : zF} {B : zB} : f_MM_code (20, N) 32 F B = some (102, F, B) := by
  show f_MM_code_4 _ 20 0 0 32 F B = _
  rw [mcode_step (v := 102) (a' := 102) (by decide) (by decide) (by decide) (by decide) (by decide) (by decide) (by decide)]
  exact mcode_end (by decide) (by decide) (by decide)
theorem mcode_33 {N : Nat → Int} {F : zF} {B : zB} : f_MM_code (20, N) 33 F B = some (26214, F, B) := by
  show f_MM_code_4 _ 20 0 0 33 F B = _
  rw [mcode_step (v := 102) (a' := 102) (by decide) (by decide) (by decide) (by decide) (by decide) (by decide) (by decide)]
  rw [mcode_step (v := 102) (a' := 26214) (by decide) (by decide) (by decide) (by decide) (by decide) (by decide) (by decide)]
  exact mcode_end (by decide) (by decide) (by decide)
theorem mcode_34 {N : Nat → Int} {F : zF} {B : zB} : f_MM_code (20, N) 34 F B = some (6710886, F, B) := by
  show f_MM_code_4 _ 20 0 0 34 F B = _
  rw [mcode_step (v := 102) (a' := 102) (by decide) (by decide) (by decide) (by decide) (by decide) (by decide) (by decide)]
  rw [mcode_step (v := 102) (a' := 26214) (by decide) (by decide) (by decide) (by decide) (by decide) (by decide) (by decide)]
  rw [mcode_step (v := 102) (a' := 6710886) (by decide) (by decide) (by decide) (by decide) (by decide) (by decide) (by decide)]
  exact mcode_end (by decide) (by decide) (by decide)
theorem start_S (f : Nat) : ∃ F B K, f_S_init (f, fun _ => 0) zF0 zB0 = some (0, F, B, K) ∧ K.1 = f := ⟨_, _, _, rfl, rfl⟩
theorem bindM_some {x : zOm} {k : Int → zF → zB → zK → zOm} {r : Int} {F : zF} {B : zB} {K : zK} (h : x = some (r, F, B, K)) : zbindM x k = k r F B K := by rw [h]; rfl
theorem bindN_some {x : zO} {k : Int → zF → zB → zOm} {r : Int} {F : zF} {B : zB} (h : x = some (r, F, B)) : zbindN x k = k r F B := by rw [h]; rfl
theorem mp_init {K : zK} {F : zF} {B : zB} (h : 0 ≤ K.2 13) : ∃ F' B', f_MP_init K F B = some (K.2 13, F', B', (K.1, zinN K.2 13)) := by
  unfold f_MP_init
  rw [if_pos h]
  exact ⟨_, _, rfl⟩
theorem start_M : ∃ F B, f_M_init (20, fun _ => 0) zF0 zB0 = some (0, F, B, (20, zinN (zinN (zinN (zinN (fun _ => 0) 13) 13) 13) 14)) := by
  unfold f_M_init
  obtain ⟨F1, B1, h1⟩ := mp_init (K := (20, fun _ => 0)) (F := zF0) (B := zB0) (by decide)
  rw [bindM_some h1, if_pos (by decide)]
  obtain ⟨F2, B2, h2⟩ := mp_init (K := (20, zinN (fun _ => 0) 13)) (F := F1) (B := B1) (by decide)
  rw [bindM_some h2, if_pos (by decide), if_pos (by decide)]
  obtain ⟨F3, B3, h3⟩ := mp_init (K := (20, zinN (zinN (fun _ => 0) 13) 13)) (F := F2) (B := B2) (by decide)
  rw [bindM_some h3, if_pos (by decide), if_pos (by decide), if_pos (by decide)]
  rw [bindN_some mcode_23]
  rw [bindN_some mcode_24]
  rw [bindN_some mcode_25]
  rw [bindN_some mcode_26]
  rw [bindN_some mcode_27]
  rw [bindN_some mcode_28]
  rw [bindN_some mcode_29]
  rw [bindN_some mcode_30]
  rw [bindN_some mcode_31]
  rw [bindN_some mcode_32]
  rw [bindN_some mcode_33]
  rw [bindN_some mcode_34]
  repeat rw [if_pos (by decide)]
  exact ⟨_, _, rfl⟩
theorem start_N : ∀ c, zinN (zinN (zinN (zinN (fun _ => 0) 13) 13) 13) 14 c = nM c := by
  intro c
  unfold zinN nM
  by_cases h : c = 14
  · subst h; rfl
  · by_cases h2 : c = 13
    · subst h2; rfl
    · simp [h, h2]

section
/-! ===== instructions read byte by byte ===== -/
def u1R (code : ByteArray) (p v : Nat) : Prop := (Reader.u1 : Decoder Nat).runAt code p = .ok (v, p + 1)
def chW (code : ByteArray) (n : Nat) (C : List Nat) : Prop := ∃ R, (code.data.toList.drop n).map UInt8.toNat = C ++ R
theorem chW_of {code : ByteArray} {n : Nat} {C : List Nat} (h : ((code.data.toList.drop n).take C.length).map UInt8.toNat = C) : chW code n C :=
  ⟨((code.data.toList.drop n).drop C.length).map UInt8.toNat, by
    have e := congrArg (· ++ ((code.data.toList.drop n).drop C.length).map UInt8.toNat) h
    simp only [← List.map_append, List.take_append_drop] at e
    exact e⟩
theorem u1_of {code : ByteArray} {p : Nat} {b : UInt8} (h : code.data.toList[p]? = some b) : u1R code p b.toNat := by
  obtain ⟨hp, hb⟩ := List.getElem?_eq_some_iff.mp h
  have hs : p < code.size := by
    show p < code.data.size
    rw [Array.length_toList] at hp
    exact hp
  have hg : code[p] = b := by
    show code.data[p] = b
    rw [← Array.getElem_toList]
    exact hb
  unfold u1R Reader.runAt Reader.u1
  show (dite (p < code.size) _ _ : Decoder Nat) code p = _
  rw [dif_pos hs]
  show Except.ok (code[p].toNat, p + 1) = _
  rw [hg]
theorem uW {code : ByteArray} {n i v : Nat} {C : List Nat} (h : chW code n C) (hi : C[i]? = some v) : u1R code (n + i) v := by
  obtain ⟨R, hR⟩ := h
  have h1 : ((code.data.toList.drop n).map UInt8.toNat)[i]? = some v := by
    rw [hR, List.getElem?_append_left (List.getElem?_eq_some_iff.mp hi).1]
    exact hi
  rw [List.getElem?_map, List.getElem?_drop] at h1
  cases hb : code.data.toList[n + i]? with
  | none => rw [hb] at h1; cases h1
  | some b =>
    rw [hb] at h1
    cases h1
    exact u1_of hb
theorem runX {α β : Type} {code : ByteArray} {p p' : Nat} {v : β} {r : Decoder β} {k : β → Decoder α} (h : r.runAt code p = .ok (v, p')) : (r >>= k).runAt code p = (k v).runAt code p' := by
  have e : (r >>= k).runAt code p = Except.bind (r.runAt code p) (fun x => (k x.1).runAt code x.2) := rfl
  rw [e, h]
  rfl
theorem runB {α : Type} {code : ByteArray} {p v : Nat} {k : Nat → Decoder α} (h : u1R code p v) : ((Reader.u1 : Decoder Nat) >>= k).runAt code p = (k v).runAt code (p + 1) := runX h
theorem decB {code : ByteArray} {pc nx : Nat} {ins : Instr} (h : (Decoder.instr pc).runAt code pc = .ok (ins, nx)) : decode code pc = .ok (ins, nx - pc) := by
  unfold decode
  rw [h]
  rfl
theorem u2R {code : ByteArray} {p a b : Nat} (h : u1R code p a) (h' : u1R code (p + 1) b) : (Reader.u2 : Decoder Nat).runAt code p = .ok (a * 256 + b, p + 1 + 1) := by
  unfold Reader.u2
  rw [runB h, runB h']
  rfl
theorem s1R {code : ByteArray} {p a : Nat} (h : u1R code p a) : (Reader.s1 : Decoder Int).runAt code p = .ok (Reader.signed 8 a, p + 1) := by
  have e : (Reader.s1 : Decoder Int).runAt code p = Except.bind ((Reader.u1 : Decoder Nat).runAt code p) (fun x => Except.ok (Reader.signed 8 x.1, x.2)) := rfl
  unfold u1R at h
  rw [e, h]
  rfl
theorem s2R {code : ByteArray} {p a b : Nat} (h : u1R code p a) (h' : u1R code (p + 1) b) : (Reader.s2 : Decoder Int).runAt code p = .ok (Reader.signed 16 (a * 256 + b), p + 1 + 1) := by
  have e : (Reader.s2 : Decoder Int).runAt code p = Except.bind ((Reader.u2 : Decoder Nat).runAt code p) (fun x => Except.ok (Reader.signed 16 x.1, x.2)) := rfl
  rw [e, u2R h h']
  rfl
theorem runB2 {α : Type} {code : ByteArray} {p a b : Nat} {k : Nat → Decoder α} (h : u1R code p a) (h' : u1R code (p + 1) b) : ((Reader.u2 : Decoder Nat) >>= k).runAt code p = (k (a * 256 + b)).runAt code (p + 1 + 1) := runX (u2R h h')
theorem runS1 {α : Type} {code : ByteArray} {p a : Nat} {k : Int → Decoder α} (h : u1R code p a) : ((Reader.s1 : Decoder Int) >>= k).runAt code p = (k (Reader.signed 8 a)).runAt code (p + 1) := runX (s1R h)
theorem runS2 {α : Type} {code : ByteArray} {p a b : Nat} {k : Int → Decoder α} (h : u1R code p a) (h' : u1R code (p + 1) b) : ((Reader.s2 : Decoder Int) >>= k).runAt code p = (k (Reader.signed 16 (a * 256 + b))).runAt code (p + 1 + 1) := runX (s2R h h')
theorem chW_1 {code : ByteArray} {n i o : Nat} {C r : List Nat} (h : chW code n C) (hi : C.drop i = o :: r) : u1R code (n + i) o := uW h (by
  have e : (C.drop i)[0]? = some o := by rw [hi]; rfl
  rw [List.getElem?_drop] at e
  exact e)
theorem chW_2 {code : ByteArray} {n i o a : Nat} {C r : List Nat} (h : chW code n C) (hi : C.drop i = o :: a :: r) : u1R code (n + i + 1) a := uW (n := n) (i := i + 1) h (by
  have e : (C.drop i)[1]? = some a := by rw [hi]; rfl
  rw [List.getElem?_drop] at e
  exact e)
theorem chW_3 {code : ByteArray} {n i o a b : Nat} {C r : List Nat} (h : chW code n C) (hi : C.drop i = o :: a :: b :: r) : u1R code (n + i + 1 + 1) b := uW (n := n) (i := i + 1 + 1) h (by
  have e : (C.drop i)[2]? = some b := by rw [hi]; rfl
  rw [List.getElem?_drop] at e
  exact e)
theorem D_1 {code : ByteArray} {n pc : Nat} {C r : List Nat} (h : chW code n C) (i : Nat) (hi : C.drop i = 1 :: r) (hp : n + i = pc) : decode code pc = .ok (.aconst_null, 1) := by
  subst hp
  have e := decB (nx := n + i + 1) (ins := .aconst_null) ((runB (chW_1 h hi)).trans rfl)
  rw [e, show n + i + 1 - (n + i) = 1 by omega]
theorem D_2 {code : ByteArray} {n pc : Nat} {C r : List Nat} (h : chW code n C) (i : Nat) (hi : C.drop i = 2 :: r) (hp : n + i = pc) : decode code pc = .ok (.iconst (-1), 1) := by
  subst hp
  have e := decB (nx := n + i + 1) (ins := .iconst (-1)) ((runB (chW_1 h hi)).trans rfl)
  rw [e, show n + i + 1 - (n + i) = 1 by omega]
theorem D_3 {code : ByteArray} {n pc : Nat} {C r : List Nat} (h : chW code n C) (i : Nat) (hi : C.drop i = 3 :: r) (hp : n + i = pc) : decode code pc = .ok (.iconst 0, 1) := by
  subst hp
  have e := decB (nx := n + i + 1) (ins := .iconst 0) ((runB (chW_1 h hi)).trans rfl)
  rw [e, show n + i + 1 - (n + i) = 1 by omega]
theorem D_4 {code : ByteArray} {n pc : Nat} {C r : List Nat} (h : chW code n C) (i : Nat) (hi : C.drop i = 4 :: r) (hp : n + i = pc) : decode code pc = .ok (.iconst 1, 1) := by
  subst hp
  have e := decB (nx := n + i + 1) (ins := .iconst 1) ((runB (chW_1 h hi)).trans rfl)
  rw [e, show n + i + 1 - (n + i) = 1 by omega]
theorem D_5 {code : ByteArray} {n pc : Nat} {C r : List Nat} (h : chW code n C) (i : Nat) (hi : C.drop i = 5 :: r) (hp : n + i = pc) : decode code pc = .ok (.iconst 2, 1) := by
  subst hp
  have e := decB (nx := n + i + 1) (ins := .iconst 2) ((runB (chW_1 h hi)).trans rfl)
  rw [e, show n + i + 1 - (n + i) = 1 by omega]
theorem D_6 {code : ByteArray} {n pc : Nat} {C r : List Nat} (h : chW code n C) (i : Nat) (hi : C.drop i = 6 :: r) (hp : n + i = pc) : decode code pc = .ok (.iconst 3, 1) := by
  subst hp
  have e := decB (nx := n + i + 1) (ins := .iconst 3) ((runB (chW_1 h hi)).trans rfl)
  rw [e, show n + i + 1 - (n + i) = 1 by omega]
theorem D_7 {code : ByteArray} {n pc : Nat} {C r : List Nat} (h : chW code n C) (i : Nat) (hi : C.drop i = 7 :: r) (hp : n + i = pc) : decode code pc = .ok (.iconst 4, 1) := by
  subst hp
  have e := decB (nx := n + i + 1) (ins := .iconst 4) ((runB (chW_1 h hi)).trans rfl)
  rw [e, show n + i + 1 - (n + i) = 1 by omega]
theorem D_8 {code : ByteArray} {n pc : Nat} {C r : List Nat} (h : chW code n C) (i : Nat) (hi : C.drop i = 8 :: r) (hp : n + i = pc) : decode code pc = .ok (.iconst 5, 1) := by
  subst hp
  have e := decB (nx := n + i + 1) (ins := .iconst 5) ((runB (chW_1 h hi)).trans rfl)
  rw [e, show n + i + 1 - (n + i) = 1 by omega]
theorem D_9 {code : ByteArray} {n pc : Nat} {C r : List Nat} (h : chW code n C) (i : Nat) (hi : C.drop i = 9 :: r) (hp : n + i = pc) : decode code pc = .ok (.lconst 0, 1) := by
  subst hp
  have e := decB (nx := n + i + 1) (ins := .lconst 0) ((runB (chW_1 h hi)).trans rfl)
  rw [e, show n + i + 1 - (n + i) = 1 by omega]
theorem D_10 {code : ByteArray} {n pc : Nat} {C r : List Nat} (h : chW code n C) (i : Nat) (hi : C.drop i = 10 :: r) (hp : n + i = pc) : decode code pc = .ok (.lconst 1, 1) := by
  subst hp
  have e := decB (nx := n + i + 1) (ins := .lconst 1) ((runB (chW_1 h hi)).trans rfl)
  rw [e, show n + i + 1 - (n + i) = 1 by omega]
theorem D_16 {code : ByteArray} {n pc : Nat} {C r : List Nat} {a : Nat} {x : Int} (h : chW code n C) (i : Nat) (hi : C.drop i = 16 :: a :: r) (hp : n + i = pc) (hx : Reader.signed 8 a = x) : decode code pc = .ok (.bipush x, 2) := by
  subst hp
  have e := decB (nx := n + i + 1 + 1) (ins := .bipush (Reader.signed 8 a)) ((runB (chW_1 h hi)).trans ((runS1 (chW_2 h hi)).trans rfl))
  rw [e, show n + i + 1 + 1 - (n + i) = 2 by omega, hx]
theorem D_17 {code : ByteArray} {n pc : Nat} {C r : List Nat} {a b : Nat} {x : Int} (h : chW code n C) (i : Nat) (hi : C.drop i = 17 :: a :: b :: r) (hp : n + i = pc) (hx : Reader.signed 16 (a * 256 + b) = x) : decode code pc = .ok (.sipush x, 3) := by
  subst hp
  have e := decB (nx := n + i + 1 + 1 + 1) (ins := .sipush (Reader.signed 16 (a * 256 + b))) ((runB (chW_1 h hi)).trans ((runS2 (chW_2 h hi) (chW_3 h hi)).trans rfl))
  rw [e, show n + i + 1 + 1 + 1 - (n + i) = 3 by omega, hx]
theorem D_18 {code : ByteArray} {n pc : Nat} {C r : List Nat} {x : Nat} (h : chW code n C) (i : Nat) (hi : C.drop i = 18 :: x :: r) (hp : n + i = pc) : decode code pc = .ok (.ldc x, 2) := by
  subst hp
  have e := decB (nx := n + i + 1 + 1) (ins := .ldc x) ((runB (chW_1 h hi)).trans ((runB (chW_2 h hi)).trans rfl))
  rw [e, show n + i + 1 + 1 - (n + i) = 2 by omega]
theorem D_19 {code : ByteArray} {n pc : Nat} {C r : List Nat} {a b x : Nat} (h : chW code n C) (i : Nat) (hi : C.drop i = 19 :: a :: b :: r) (hp : n + i = pc) (hx : a * 256 + b = x) : decode code pc = .ok (.ldc_w x, 3) := by
  subst hp
  have e := decB (nx := n + i + 1 + 1 + 1) (ins := .ldc_w (a * 256 + b)) ((runB (chW_1 h hi)).trans ((runB2 (chW_2 h hi) (chW_3 h hi)).trans rfl))
  rw [e, show n + i + 1 + 1 + 1 - (n + i) = 3 by omega, hx]
theorem D_20 {code : ByteArray} {n pc : Nat} {C r : List Nat} {a b x : Nat} (h : chW code n C) (i : Nat) (hi : C.drop i = 20 :: a :: b :: r) (hp : n + i = pc) (hx : a * 256 + b = x) : decode code pc = .ok (.ldc2_w x, 3) := by
  subst hp
  have e := decB (nx := n + i + 1 + 1 + 1) (ins := .ldc2_w (a * 256 + b)) ((runB (chW_1 h hi)).trans ((runB2 (chW_2 h hi) (chW_3 h hi)).trans rfl))
  rw [e, show n + i + 1 + 1 + 1 - (n + i) = 3 by omega, hx]
theorem D_21 {code : ByteArray} {n pc : Nat} {C r : List Nat} {x : Nat} (h : chW code n C) (i : Nat) (hi : C.drop i = 21 :: x :: r) (hp : n + i = pc) : decode code pc = .ok (.iload x, 2) := by
  subst hp
  have e := decB (nx := n + i + 1 + 1) (ins := .iload x) ((runB (chW_1 h hi)).trans ((runB (chW_2 h hi)).trans rfl))
  rw [e, show n + i + 1 + 1 - (n + i) = 2 by omega]
theorem D_22 {code : ByteArray} {n pc : Nat} {C r : List Nat} {x : Nat} (h : chW code n C) (i : Nat) (hi : C.drop i = 22 :: x :: r) (hp : n + i = pc) : decode code pc = .ok (.lload x, 2) := by
  subst hp
  have e := decB (nx := n + i + 1 + 1) (ins := .lload x) ((runB (chW_1 h hi)).trans ((runB (chW_2 h hi)).trans rfl))
  rw [e, show n + i + 1 + 1 - (n + i) = 2 by omega]
theorem D_25 {code : ByteArray} {n pc : Nat} {C r : List Nat} {x : Nat} (h : chW code n C) (i : Nat) (hi : C.drop i = 25 :: x :: r) (hp : n + i = pc) : decode code pc = .ok (.aload x, 2) := by
  subst hp
  have e := decB (nx := n + i + 1 + 1) (ins := .aload x) ((runB (chW_1 h hi)).trans ((runB (chW_2 h hi)).trans rfl))
  rw [e, show n + i + 1 + 1 - (n + i) = 2 by omega]
theorem D_26 {code : ByteArray} {n pc : Nat} {C r : List Nat} (h : chW code n C) (i : Nat) (hi : C.drop i = 26 :: r) (hp : n + i = pc) : decode code pc = .ok (.iload_n 0, 1) := by
  subst hp
  have e := decB (nx := n + i + 1) (ins := .iload_n 0) ((runB (chW_1 h hi)).trans rfl)
  rw [e, show n + i + 1 - (n + i) = 1 by omega]
theorem D_27 {code : ByteArray} {n pc : Nat} {C r : List Nat} (h : chW code n C) (i : Nat) (hi : C.drop i = 27 :: r) (hp : n + i = pc) : decode code pc = .ok (.iload_n 1, 1) := by
  subst hp
  have e := decB (nx := n + i + 1) (ins := .iload_n 1) ((runB (chW_1 h hi)).trans rfl)
  rw [e, show n + i + 1 - (n + i) = 1 by omega]
theorem D_28 {code : ByteArray} {n pc : Nat} {C r : List Nat} (h : chW code n C) (i : Nat) (hi : C.drop i = 28 :: r) (hp : n + i = pc) : decode code pc = .ok (.iload_n 2, 1) := by
  subst hp
  have e := decB (nx := n + i + 1) (ins := .iload_n 2) ((runB (chW_1 h hi)).trans rfl)
  rw [e, show n + i + 1 - (n + i) = 1 by omega]
theorem D_29 {code : ByteArray} {n pc : Nat} {C r : List Nat} (h : chW code n C) (i : Nat) (hi : C.drop i = 29 :: r) (hp : n + i = pc) : decode code pc = .ok (.iload_n 3, 1) := by
  subst hp
  have e := decB (nx := n + i + 1) (ins := .iload_n 3) ((runB (chW_1 h hi)).trans rfl)
  rw [e, show n + i + 1 - (n + i) = 1 by omega]
theorem D_30 {code : ByteArray} {n pc : Nat} {C r : List Nat} (h : chW code n C) (i : Nat) (hi : C.drop i = 30 :: r) (hp : n + i = pc) : decode code pc = .ok (.lload_n 0, 1) := by
  subst hp
  have e := decB (nx := n + i + 1) (ins := .lload_n 0) ((runB (chW_1 h hi)).trans rfl)
  rw [e, show n + i + 1 - (n + i) = 1 by omega]
theorem D_31 {code : ByteArray} {n pc : Nat} {C r : List Nat} (h : chW code n C) (i : Nat) (hi : C.drop i = 31 :: r) (hp : n + i = pc) : decode code pc = .ok (.lload_n 1, 1) := by
  subst hp
  have e := decB (nx := n + i + 1) (ins := .lload_n 1) ((runB (chW_1 h hi)).trans rfl)
  rw [e, show n + i + 1 - (n + i) = 1 by omega]
theorem D_32 {code : ByteArray} {n pc : Nat} {C r : List Nat} (h : chW code n C) (i : Nat) (hi : C.drop i = 32 :: r) (hp : n + i = pc) : decode code pc = .ok (.lload_n 2, 1) := by
  subst hp
  have e := decB (nx := n + i + 1) (ins := .lload_n 2) ((runB (chW_1 h hi)).trans rfl)
  rw [e, show n + i + 1 - (n + i) = 1 by omega]
theorem D_33 {code : ByteArray} {n pc : Nat} {C r : List Nat} (h : chW code n C) (i : Nat) (hi : C.drop i = 33 :: r) (hp : n + i = pc) : decode code pc = .ok (.lload_n 3, 1) := by
  subst hp
  have e := decB (nx := n + i + 1) (ins := .lload_n 3) ((runB (chW_1 h hi)).trans rfl)
  rw [e, show n + i + 1 - (n + i) = 1 by omega]
theorem D_42 {code : ByteArray} {n pc : Nat} {C r : List Nat} (h : chW code n C) (i : Nat) (hi : C.drop i = 42 :: r) (hp : n + i = pc) : decode code pc = .ok (.aload_n 0, 1) := by
  subst hp
  have e := decB (nx := n + i + 1) (ins := .aload_n 0) ((runB (chW_1 h hi)).trans rfl)
  rw [e, show n + i + 1 - (n + i) = 1 by omega]
theorem D_43 {code : ByteArray} {n pc : Nat} {C r : List Nat} (h : chW code n C) (i : Nat) (hi : C.drop i = 43 :: r) (hp : n + i = pc) : decode code pc = .ok (.aload_n 1, 1) := by
  subst hp
  have e := decB (nx := n + i + 1) (ins := .aload_n 1) ((runB (chW_1 h hi)).trans rfl)
  rw [e, show n + i + 1 - (n + i) = 1 by omega]
theorem D_44 {code : ByteArray} {n pc : Nat} {C r : List Nat} (h : chW code n C) (i : Nat) (hi : C.drop i = 44 :: r) (hp : n + i = pc) : decode code pc = .ok (.aload_n 2, 1) := by
  subst hp
  have e := decB (nx := n + i + 1) (ins := .aload_n 2) ((runB (chW_1 h hi)).trans rfl)
  rw [e, show n + i + 1 - (n + i) = 1 by omega]
theorem D_45 {code : ByteArray} {n pc : Nat} {C r : List Nat} (h : chW code n C) (i : Nat) (hi : C.drop i = 45 :: r) (hp : n + i = pc) : decode code pc = .ok (.aload_n 3, 1) := by
  subst hp
  have e := decB (nx := n + i + 1) (ins := .aload_n 3) ((runB (chW_1 h hi)).trans rfl)
  rw [e, show n + i + 1 - (n + i) = 1 by omega]
theorem D_46 {code : ByteArray} {n pc : Nat} {C r : List Nat} (h : chW code n C) (i : Nat) (hi : C.drop i = 46 :: r) (hp : n + i = pc) : decode code pc = .ok (.iaload, 1) := by
  subst hp
  have e := decB (nx := n + i + 1) (ins := .iaload) ((runB (chW_1 h hi)).trans rfl)
  rw [e, show n + i + 1 - (n + i) = 1 by omega]
theorem D_47 {code : ByteArray} {n pc : Nat} {C r : List Nat} (h : chW code n C) (i : Nat) (hi : C.drop i = 47 :: r) (hp : n + i = pc) : decode code pc = .ok (.laload, 1) := by
  subst hp
  have e := decB (nx := n + i + 1) (ins := .laload) ((runB (chW_1 h hi)).trans rfl)
  rw [e, show n + i + 1 - (n + i) = 1 by omega]
theorem D_50 {code : ByteArray} {n pc : Nat} {C r : List Nat} (h : chW code n C) (i : Nat) (hi : C.drop i = 50 :: r) (hp : n + i = pc) : decode code pc = .ok (.aaload, 1) := by
  subst hp
  have e := decB (nx := n + i + 1) (ins := .aaload) ((runB (chW_1 h hi)).trans rfl)
  rw [e, show n + i + 1 - (n + i) = 1 by omega]
theorem D_51 {code : ByteArray} {n pc : Nat} {C r : List Nat} (h : chW code n C) (i : Nat) (hi : C.drop i = 51 :: r) (hp : n + i = pc) : decode code pc = .ok (.baload, 1) := by
  subst hp
  have e := decB (nx := n + i + 1) (ins := .baload) ((runB (chW_1 h hi)).trans rfl)
  rw [e, show n + i + 1 - (n + i) = 1 by omega]
theorem D_54 {code : ByteArray} {n pc : Nat} {C r : List Nat} {x : Nat} (h : chW code n C) (i : Nat) (hi : C.drop i = 54 :: x :: r) (hp : n + i = pc) : decode code pc = .ok (.istore x, 2) := by
  subst hp
  have e := decB (nx := n + i + 1 + 1) (ins := .istore x) ((runB (chW_1 h hi)).trans ((runB (chW_2 h hi)).trans rfl))
  rw [e, show n + i + 1 + 1 - (n + i) = 2 by omega]
theorem D_55 {code : ByteArray} {n pc : Nat} {C r : List Nat} {x : Nat} (h : chW code n C) (i : Nat) (hi : C.drop i = 55 :: x :: r) (hp : n + i = pc) : decode code pc = .ok (.lstore x, 2) := by
  subst hp
  have e := decB (nx := n + i + 1 + 1) (ins := .lstore x) ((runB (chW_1 h hi)).trans ((runB (chW_2 h hi)).trans rfl))
  rw [e, show n + i + 1 + 1 - (n + i) = 2 by omega]
theorem D_58 {code : ByteArray} {n pc : Nat} {C r : List Nat} {x : Nat} (h : chW code n C) (i : Nat) (hi : C.drop i = 58 :: x :: r) (hp : n + i = pc) : decode code pc = .ok (.astore x, 2) := by
  subst hp
  have e := decB (nx := n + i + 1 + 1) (ins := .astore x) ((runB (chW_1 h hi)).trans ((runB (chW_2 h hi)).trans rfl))
  rw [e, show n + i + 1 + 1 - (n + i) = 2 by omega]
theorem D_59 {code : ByteArray} {n pc : Nat} {C r : List Nat} (h : chW code n C) (i : Nat) (hi : C.drop i = 59 :: r) (hp : n + i = pc) : decode code pc = .ok (.istore_n 0, 1) := by
  subst hp
  have e := decB (nx := n + i + 1) (ins := .istore_n 0) ((runB (chW_1 h hi)).trans rfl)
  rw [e, show n + i + 1 - (n + i) = 1 by omega]
theorem D_60 {code : ByteArray} {n pc : Nat} {C r : List Nat} (h : chW code n C) (i : Nat) (hi : C.drop i = 60 :: r) (hp : n + i = pc) : decode code pc = .ok (.istore_n 1, 1) := by
  subst hp
  have e := decB (nx := n + i + 1) (ins := .istore_n 1) ((runB (chW_1 h hi)).trans rfl)
  rw [e, show n + i + 1 - (n + i) = 1 by omega]
theorem D_61 {code : ByteArray} {n pc : Nat} {C r : List Nat} (h : chW code n C) (i : Nat) (hi : C.drop i = 61 :: r) (hp : n + i = pc) : decode code pc = .ok (.istore_n 2, 1) := by
  subst hp
  have e := decB (nx := n + i + 1) (ins := .istore_n 2) ((runB (chW_1 h hi)).trans rfl)
  rw [e, show n + i + 1 - (n + i) = 1 by omega]
theorem D_62 {code : ByteArray} {n pc : Nat} {C r : List Nat} (h : chW code n C) (i : Nat) (hi : C.drop i = 62 :: r) (hp : n + i = pc) : decode code pc = .ok (.istore_n 3, 1) := by
  subst hp
  have e := decB (nx := n + i + 1) (ins := .istore_n 3) ((runB (chW_1 h hi)).trans rfl)
  rw [e, show n + i + 1 - (n + i) = 1 by omega]
theorem D_63 {code : ByteArray} {n pc : Nat} {C r : List Nat} (h : chW code n C) (i : Nat) (hi : C.drop i = 63 :: r) (hp : n + i = pc) : decode code pc = .ok (.lstore_n 0, 1) := by
  subst hp
  have e := decB (nx := n + i + 1) (ins := .lstore_n 0) ((runB (chW_1 h hi)).trans rfl)
  rw [e, show n + i + 1 - (n + i) = 1 by omega]
theorem D_64 {code : ByteArray} {n pc : Nat} {C r : List Nat} (h : chW code n C) (i : Nat) (hi : C.drop i = 64 :: r) (hp : n + i = pc) : decode code pc = .ok (.lstore_n 1, 1) := by
  subst hp
  have e := decB (nx := n + i + 1) (ins := .lstore_n 1) ((runB (chW_1 h hi)).trans rfl)
  rw [e, show n + i + 1 - (n + i) = 1 by omega]
theorem D_65 {code : ByteArray} {n pc : Nat} {C r : List Nat} (h : chW code n C) (i : Nat) (hi : C.drop i = 65 :: r) (hp : n + i = pc) : decode code pc = .ok (.lstore_n 2, 1) := by
  subst hp
  have e := decB (nx := n + i + 1) (ins := .lstore_n 2) ((runB (chW_1 h hi)).trans rfl)
  rw [e, show n + i + 1 - (n + i) = 1 by omega]
theorem D_66 {code : ByteArray} {n pc : Nat} {C r : List Nat} (h : chW code n C) (i : Nat) (hi : C.drop i = 66 :: r) (hp : n + i = pc) : decode code pc = .ok (.lstore_n 3, 1) := by
  subst hp
  have e := decB (nx := n + i + 1) (ins := .lstore_n 3) ((runB (chW_1 h hi)).trans rfl)
  rw [e, show n + i + 1 - (n + i) = 1 by omega]
theorem D_76 {code : ByteArray} {n pc : Nat} {C r : List Nat} (h : chW code n C) (i : Nat) (hi : C.drop i = 76 :: r) (hp : n + i = pc) : decode code pc = .ok (.astore_n 1, 1) := by
  subst hp
  have e := decB (nx := n + i + 1) (ins := .astore_n 1) ((runB (chW_1 h hi)).trans rfl)
  rw [e, show n + i + 1 - (n + i) = 1 by omega]
theorem D_77 {code : ByteArray} {n pc : Nat} {C r : List Nat} (h : chW code n C) (i : Nat) (hi : C.drop i = 77 :: r) (hp : n + i = pc) : decode code pc = .ok (.astore_n 2, 1) := by
  subst hp
  have e := decB (nx := n + i + 1) (ins := .astore_n 2) ((runB (chW_1 h hi)).trans rfl)
  rw [e, show n + i + 1 - (n + i) = 1 by omega]
theorem D_78 {code : ByteArray} {n pc : Nat} {C r : List Nat} (h : chW code n C) (i : Nat) (hi : C.drop i = 78 :: r) (hp : n + i = pc) : decode code pc = .ok (.astore_n 3, 1) := by
  subst hp
  have e := decB (nx := n + i + 1) (ins := .astore_n 3) ((runB (chW_1 h hi)).trans rfl)
  rw [e, show n + i + 1 - (n + i) = 1 by omega]
theorem D_79 {code : ByteArray} {n pc : Nat} {C r : List Nat} (h : chW code n C) (i : Nat) (hi : C.drop i = 79 :: r) (hp : n + i = pc) : decode code pc = .ok (.iastore, 1) := by
  subst hp
  have e := decB (nx := n + i + 1) (ins := .iastore) ((runB (chW_1 h hi)).trans rfl)
  rw [e, show n + i + 1 - (n + i) = 1 by omega]
theorem D_80 {code : ByteArray} {n pc : Nat} {C r : List Nat} (h : chW code n C) (i : Nat) (hi : C.drop i = 80 :: r) (hp : n + i = pc) : decode code pc = .ok (.lastore, 1) := by
  subst hp
  have e := decB (nx := n + i + 1) (ins := .lastore) ((runB (chW_1 h hi)).trans rfl)
  rw [e, show n + i + 1 - (n + i) = 1 by omega]
theorem D_83 {code : ByteArray} {n pc : Nat} {C r : List Nat} (h : chW code n C) (i : Nat) (hi : C.drop i = 83 :: r) (hp : n + i = pc) : decode code pc = .ok (.aastore, 1) := by
  subst hp
  have e := decB (nx := n + i + 1) (ins := .aastore) ((runB (chW_1 h hi)).trans rfl)
  rw [e, show n + i + 1 - (n + i) = 1 by omega]
theorem D_84 {code : ByteArray} {n pc : Nat} {C r : List Nat} (h : chW code n C) (i : Nat) (hi : C.drop i = 84 :: r) (hp : n + i = pc) : decode code pc = .ok (.bastore, 1) := by
  subst hp
  have e := decB (nx := n + i + 1) (ins := .bastore) ((runB (chW_1 h hi)).trans rfl)
  rw [e, show n + i + 1 - (n + i) = 1 by omega]
theorem D_87 {code : ByteArray} {n pc : Nat} {C r : List Nat} (h : chW code n C) (i : Nat) (hi : C.drop i = 87 :: r) (hp : n + i = pc) : decode code pc = .ok (.pop, 1) := by
  subst hp
  have e := decB (nx := n + i + 1) (ins := .pop) ((runB (chW_1 h hi)).trans rfl)
  rw [e, show n + i + 1 - (n + i) = 1 by omega]
theorem D_88 {code : ByteArray} {n pc : Nat} {C r : List Nat} (h : chW code n C) (i : Nat) (hi : C.drop i = 88 :: r) (hp : n + i = pc) : decode code pc = .ok (.pop2, 1) := by
  subst hp
  have e := decB (nx := n + i + 1) (ins := .pop2) ((runB (chW_1 h hi)).trans rfl)
  rw [e, show n + i + 1 - (n + i) = 1 by omega]
theorem D_89 {code : ByteArray} {n pc : Nat} {C r : List Nat} (h : chW code n C) (i : Nat) (hi : C.drop i = 89 :: r) (hp : n + i = pc) : decode code pc = .ok (.dup, 1) := by
  subst hp
  have e := decB (nx := n + i + 1) (ins := .dup) ((runB (chW_1 h hi)).trans rfl)
  rw [e, show n + i + 1 - (n + i) = 1 by omega]
theorem D_92 {code : ByteArray} {n pc : Nat} {C r : List Nat} (h : chW code n C) (i : Nat) (hi : C.drop i = 92 :: r) (hp : n + i = pc) : decode code pc = .ok (.dup2, 1) := by
  subst hp
  have e := decB (nx := n + i + 1) (ins := .dup2) ((runB (chW_1 h hi)).trans rfl)
  rw [e, show n + i + 1 - (n + i) = 1 by omega]
theorem D_96 {code : ByteArray} {n pc : Nat} {C r : List Nat} (h : chW code n C) (i : Nat) (hi : C.drop i = 96 :: r) (hp : n + i = pc) : decode code pc = .ok (.iadd, 1) := by
  subst hp
  have e := decB (nx := n + i + 1) (ins := .iadd) ((runB (chW_1 h hi)).trans rfl)
  rw [e, show n + i + 1 - (n + i) = 1 by omega]
theorem D_97 {code : ByteArray} {n pc : Nat} {C r : List Nat} (h : chW code n C) (i : Nat) (hi : C.drop i = 97 :: r) (hp : n + i = pc) : decode code pc = .ok (.ladd, 1) := by
  subst hp
  have e := decB (nx := n + i + 1) (ins := .ladd) ((runB (chW_1 h hi)).trans rfl)
  rw [e, show n + i + 1 - (n + i) = 1 by omega]
theorem D_100 {code : ByteArray} {n pc : Nat} {C r : List Nat} (h : chW code n C) (i : Nat) (hi : C.drop i = 100 :: r) (hp : n + i = pc) : decode code pc = .ok (.isub, 1) := by
  subst hp
  have e := decB (nx := n + i + 1) (ins := .isub) ((runB (chW_1 h hi)).trans rfl)
  rw [e, show n + i + 1 - (n + i) = 1 by omega]
theorem D_101 {code : ByteArray} {n pc : Nat} {C r : List Nat} (h : chW code n C) (i : Nat) (hi : C.drop i = 101 :: r) (hp : n + i = pc) : decode code pc = .ok (.lsub, 1) := by
  subst hp
  have e := decB (nx := n + i + 1) (ins := .lsub) ((runB (chW_1 h hi)).trans rfl)
  rw [e, show n + i + 1 - (n + i) = 1 by omega]
theorem D_104 {code : ByteArray} {n pc : Nat} {C r : List Nat} (h : chW code n C) (i : Nat) (hi : C.drop i = 104 :: r) (hp : n + i = pc) : decode code pc = .ok (.imul, 1) := by
  subst hp
  have e := decB (nx := n + i + 1) (ins := .imul) ((runB (chW_1 h hi)).trans rfl)
  rw [e, show n + i + 1 - (n + i) = 1 by omega]
theorem D_105 {code : ByteArray} {n pc : Nat} {C r : List Nat} (h : chW code n C) (i : Nat) (hi : C.drop i = 105 :: r) (hp : n + i = pc) : decode code pc = .ok (.lmul, 1) := by
  subst hp
  have e := decB (nx := n + i + 1) (ins := .lmul) ((runB (chW_1 h hi)).trans rfl)
  rw [e, show n + i + 1 - (n + i) = 1 by omega]
theorem D_108 {code : ByteArray} {n pc : Nat} {C r : List Nat} (h : chW code n C) (i : Nat) (hi : C.drop i = 108 :: r) (hp : n + i = pc) : decode code pc = .ok (.idiv, 1) := by
  subst hp
  have e := decB (nx := n + i + 1) (ins := .idiv) ((runB (chW_1 h hi)).trans rfl)
  rw [e, show n + i + 1 - (n + i) = 1 by omega]
theorem D_109 {code : ByteArray} {n pc : Nat} {C r : List Nat} (h : chW code n C) (i : Nat) (hi : C.drop i = 109 :: r) (hp : n + i = pc) : decode code pc = .ok (.ldiv, 1) := by
  subst hp
  have e := decB (nx := n + i + 1) (ins := .ldiv) ((runB (chW_1 h hi)).trans rfl)
  rw [e, show n + i + 1 - (n + i) = 1 by omega]
theorem D_112 {code : ByteArray} {n pc : Nat} {C r : List Nat} (h : chW code n C) (i : Nat) (hi : C.drop i = 112 :: r) (hp : n + i = pc) : decode code pc = .ok (.irem, 1) := by
  subst hp
  have e := decB (nx := n + i + 1) (ins := .irem) ((runB (chW_1 h hi)).trans rfl)
  rw [e, show n + i + 1 - (n + i) = 1 by omega]
theorem D_113 {code : ByteArray} {n pc : Nat} {C r : List Nat} (h : chW code n C) (i : Nat) (hi : C.drop i = 113 :: r) (hp : n + i = pc) : decode code pc = .ok (.lrem, 1) := by
  subst hp
  have e := decB (nx := n + i + 1) (ins := .lrem) ((runB (chW_1 h hi)).trans rfl)
  rw [e, show n + i + 1 - (n + i) = 1 by omega]
theorem D_116 {code : ByteArray} {n pc : Nat} {C r : List Nat} (h : chW code n C) (i : Nat) (hi : C.drop i = 116 :: r) (hp : n + i = pc) : decode code pc = .ok (.ineg, 1) := by
  subst hp
  have e := decB (nx := n + i + 1) (ins := .ineg) ((runB (chW_1 h hi)).trans rfl)
  rw [e, show n + i + 1 - (n + i) = 1 by omega]
theorem D_120 {code : ByteArray} {n pc : Nat} {C r : List Nat} (h : chW code n C) (i : Nat) (hi : C.drop i = 120 :: r) (hp : n + i = pc) : decode code pc = .ok (.ishl, 1) := by
  subst hp
  have e := decB (nx := n + i + 1) (ins := .ishl) ((runB (chW_1 h hi)).trans rfl)
  rw [e, show n + i + 1 - (n + i) = 1 by omega]
theorem D_121 {code : ByteArray} {n pc : Nat} {C r : List Nat} (h : chW code n C) (i : Nat) (hi : C.drop i = 121 :: r) (hp : n + i = pc) : decode code pc = .ok (.lshl, 1) := by
  subst hp
  have e := decB (nx := n + i + 1) (ins := .lshl) ((runB (chW_1 h hi)).trans rfl)
  rw [e, show n + i + 1 - (n + i) = 1 by omega]
theorem D_122 {code : ByteArray} {n pc : Nat} {C r : List Nat} (h : chW code n C) (i : Nat) (hi : C.drop i = 122 :: r) (hp : n + i = pc) : decode code pc = .ok (.ishr, 1) := by
  subst hp
  have e := decB (nx := n + i + 1) (ins := .ishr) ((runB (chW_1 h hi)).trans rfl)
  rw [e, show n + i + 1 - (n + i) = 1 by omega]
theorem D_123 {code : ByteArray} {n pc : Nat} {C r : List Nat} (h : chW code n C) (i : Nat) (hi : C.drop i = 123 :: r) (hp : n + i = pc) : decode code pc = .ok (.lshr, 1) := by
  subst hp
  have e := decB (nx := n + i + 1) (ins := .lshr) ((runB (chW_1 h hi)).trans rfl)
  rw [e, show n + i + 1 - (n + i) = 1 by omega]
theorem D_124 {code : ByteArray} {n pc : Nat} {C r : List Nat} (h : chW code n C) (i : Nat) (hi : C.drop i = 124 :: r) (hp : n + i = pc) : decode code pc = .ok (.iushr, 1) := by
  subst hp
  have e := decB (nx := n + i + 1) (ins := .iushr) ((runB (chW_1 h hi)).trans rfl)
  rw [e, show n + i + 1 - (n + i) = 1 by omega]
theorem D_125 {code : ByteArray} {n pc : Nat} {C r : List Nat} (h : chW code n C) (i : Nat) (hi : C.drop i = 125 :: r) (hp : n + i = pc) : decode code pc = .ok (.lushr, 1) := by
  subst hp
  have e := decB (nx := n + i + 1) (ins := .lushr) ((runB (chW_1 h hi)).trans rfl)
  rw [e, show n + i + 1 - (n + i) = 1 by omega]
theorem D_126 {code : ByteArray} {n pc : Nat} {C r : List Nat} (h : chW code n C) (i : Nat) (hi : C.drop i = 126 :: r) (hp : n + i = pc) : decode code pc = .ok (.iand, 1) := by
  subst hp
  have e := decB (nx := n + i + 1) (ins := .iand) ((runB (chW_1 h hi)).trans rfl)
  rw [e, show n + i + 1 - (n + i) = 1 by omega]
theorem D_127 {code : ByteArray} {n pc : Nat} {C r : List Nat} (h : chW code n C) (i : Nat) (hi : C.drop i = 127 :: r) (hp : n + i = pc) : decode code pc = .ok (.land, 1) := by
  subst hp
  have e := decB (nx := n + i + 1) (ins := .land) ((runB (chW_1 h hi)).trans rfl)
  rw [e, show n + i + 1 - (n + i) = 1 by omega]
theorem D_128 {code : ByteArray} {n pc : Nat} {C r : List Nat} (h : chW code n C) (i : Nat) (hi : C.drop i = 128 :: r) (hp : n + i = pc) : decode code pc = .ok (.ior, 1) := by
  subst hp
  have e := decB (nx := n + i + 1) (ins := .ior) ((runB (chW_1 h hi)).trans rfl)
  rw [e, show n + i + 1 - (n + i) = 1 by omega]
theorem D_129 {code : ByteArray} {n pc : Nat} {C r : List Nat} (h : chW code n C) (i : Nat) (hi : C.drop i = 129 :: r) (hp : n + i = pc) : decode code pc = .ok (.lor, 1) := by
  subst hp
  have e := decB (nx := n + i + 1) (ins := .lor) ((runB (chW_1 h hi)).trans rfl)
  rw [e, show n + i + 1 - (n + i) = 1 by omega]
theorem D_130 {code : ByteArray} {n pc : Nat} {C r : List Nat} (h : chW code n C) (i : Nat) (hi : C.drop i = 130 :: r) (hp : n + i = pc) : decode code pc = .ok (.ixor, 1) := by
  subst hp
  have e := decB (nx := n + i + 1) (ins := .ixor) ((runB (chW_1 h hi)).trans rfl)
  rw [e, show n + i + 1 - (n + i) = 1 by omega]
theorem D_132 {code : ByteArray} {n pc : Nat} {C r : List Nat} {a b : Nat} {x : Int} (h : chW code n C) (i : Nat) (hi : C.drop i = 132 :: a :: b :: r) (hp : n + i = pc) (hx : Reader.signed 8 b = x) : decode code pc = .ok (.iinc a x, 3) := by
  subst hp
  have e := decB (nx := n + i + 1 + 1 + 1) (ins := .iinc a (Reader.signed 8 b)) ((runB (chW_1 h hi)).trans ((runB (chW_2 h hi)).trans ((runS1 (chW_3 h hi)).trans rfl)))
  rw [e, show n + i + 1 + 1 + 1 - (n + i) = 3 by omega, hx]
theorem D_133 {code : ByteArray} {n pc : Nat} {C r : List Nat} (h : chW code n C) (i : Nat) (hi : C.drop i = 133 :: r) (hp : n + i = pc) : decode code pc = .ok (.i2l, 1) := by
  subst hp
  have e := decB (nx := n + i + 1) (ins := .i2l) ((runB (chW_1 h hi)).trans rfl)
  rw [e, show n + i + 1 - (n + i) = 1 by omega]
theorem D_136 {code : ByteArray} {n pc : Nat} {C r : List Nat} (h : chW code n C) (i : Nat) (hi : C.drop i = 136 :: r) (hp : n + i = pc) : decode code pc = .ok (.l2i, 1) := by
  subst hp
  have e := decB (nx := n + i + 1) (ins := .l2i) ((runB (chW_1 h hi)).trans rfl)
  rw [e, show n + i + 1 - (n + i) = 1 by omega]
theorem D_145 {code : ByteArray} {n pc : Nat} {C r : List Nat} (h : chW code n C) (i : Nat) (hi : C.drop i = 145 :: r) (hp : n + i = pc) : decode code pc = .ok (.i2b, 1) := by
  subst hp
  have e := decB (nx := n + i + 1) (ins := .i2b) ((runB (chW_1 h hi)).trans rfl)
  rw [e, show n + i + 1 - (n + i) = 1 by omega]
theorem D_146 {code : ByteArray} {n pc : Nat} {C r : List Nat} (h : chW code n C) (i : Nat) (hi : C.drop i = 146 :: r) (hp : n + i = pc) : decode code pc = .ok (.i2c, 1) := by
  subst hp
  have e := decB (nx := n + i + 1) (ins := .i2c) ((runB (chW_1 h hi)).trans rfl)
  rw [e, show n + i + 1 - (n + i) = 1 by omega]
theorem D_148 {code : ByteArray} {n pc : Nat} {C r : List Nat} (h : chW code n C) (i : Nat) (hi : C.drop i = 148 :: r) (hp : n + i = pc) : decode code pc = .ok (.lcmp, 1) := by
  subst hp
  have e := decB (nx := n + i + 1) (ins := .lcmp) ((runB (chW_1 h hi)).trans rfl)
  rw [e, show n + i + 1 - (n + i) = 1 by omega]
theorem D_153 {code : ByteArray} {n pc : Nat} {C r : List Nat} {a b : Nat} {x : Int} (h : chW code n C) (i : Nat) (hi : C.drop i = 153 :: a :: b :: r) (hp : n + i = pc) (hx : Reader.signed 16 (a * 256 + b) = x) : decode code pc = .ok (.ifCond .eq x, 3) := by
  subst hp
  have e := decB (nx := n + i + 1 + 1 + 1) (ins := .ifCond .eq (Reader.signed 16 (a * 256 + b))) ((runB (chW_1 h hi)).trans ((runS2 (chW_2 h hi) (chW_3 h hi)).trans rfl))
  rw [e, show n + i + 1 + 1 + 1 - (n + i) = 3 by omega, hx]
theorem D_154 {code : ByteArray} {n pc : Nat} {C r : List Nat} {a b : Nat} {x : Int} (h : chW code n C) (i : Nat) (hi : C.drop i = 154 :: a :: b :: r) (hp : n + i = pc) (hx : Reader.signed 16 (a * 256 + b) = x) : decode code pc = .ok (.ifCond .ne x, 3) := by
  subst hp
  have e := decB (nx := n + i + 1 + 1 + 1) (ins := .ifCond .ne (Reader.signed 16 (a * 256 + b))) ((runB (chW_1 h hi)).trans ((runS2 (chW_2 h hi) (chW_3 h hi)).trans rfl))
  rw [e, show n + i + 1 + 1 + 1 - (n + i) = 3 by omega, hx]
theorem D_155 {code : ByteArray} {n pc : Nat} {C r : List Nat} {a b : Nat} {x : Int} (h : chW code n C) (i : Nat) (hi : C.drop i = 155 :: a :: b :: r) (hp : n + i = pc) (hx : Reader.signed 16 (a * 256 + b) = x) : decode code pc = .ok (.ifCond .lt x, 3) := by
  subst hp
  have e := decB (nx := n + i + 1 + 1 + 1) (ins := .ifCond .lt (Reader.signed 16 (a * 256 + b))) ((runB (chW_1 h hi)).trans ((runS2 (chW_2 h hi) (chW_3 h hi)).trans rfl))
  rw [e, show n + i + 1 + 1 + 1 - (n + i) = 3 by omega, hx]
theorem D_156 {code : ByteArray} {n pc : Nat} {C r : List Nat} {a b : Nat} {x : Int} (h : chW code n C) (i : Nat) (hi : C.drop i = 156 :: a :: b :: r) (hp : n + i = pc) (hx : Reader.signed 16 (a * 256 + b) = x) : decode code pc = .ok (.ifCond .ge x, 3) := by
  subst hp
  have e := decB (nx := n + i + 1 + 1 + 1) (ins := .ifCond .ge (Reader.signed 16 (a * 256 + b))) ((runB (chW_1 h hi)).trans ((runS2 (chW_2 h hi) (chW_3 h hi)).trans rfl))
  rw [e, show n + i + 1 + 1 + 1 - (n + i) = 3 by omega, hx]
theorem D_157 {code : ByteArray} {n pc : Nat} {C r : List Nat} {a b : Nat} {x : Int} (h : chW code n C) (i : Nat) (hi : C.drop i = 157 :: a :: b :: r) (hp : n + i = pc) (hx : Reader.signed 16 (a * 256 + b) = x) : decode code pc = .ok (.ifCond .gt x, 3) := by
  subst hp
  have e := decB (nx := n + i + 1 + 1 + 1) (ins := .ifCond .gt (Reader.signed 16 (a * 256 + b))) ((runB (chW_1 h hi)).trans ((runS2 (chW_2 h hi) (chW_3 h hi)).trans rfl))
  rw [e, show n + i + 1 + 1 + 1 - (n + i) = 3 by omega, hx]
theorem D_158 {code : ByteArray} {n pc : Nat} {C r : List Nat} {a b : Nat} {x : Int} (h : chW code n C) (i : Nat) (hi : C.drop i = 158 :: a :: b :: r) (hp : n + i = pc) (hx : Reader.signed 16 (a * 256 + b) = x) : decode code pc = .ok (.ifCond .le x, 3) := by
  subst hp
  have e := decB (nx := n + i + 1 + 1 + 1) (ins := .ifCond .le (Reader.signed 16 (a * 256 + b))) ((runB (chW_1 h hi)).trans ((runS2 (chW_2 h hi) (chW_3 h hi)).trans rfl))
  rw [e, show n + i + 1 + 1 + 1 - (n + i) = 3 by omega, hx]
theorem D_159 {code : ByteArray} {n pc : Nat} {C r : List Nat} {a b : Nat} {x : Int} (h : chW code n C) (i : Nat) (hi : C.drop i = 159 :: a :: b :: r) (hp : n + i = pc) (hx : Reader.signed 16 (a * 256 + b) = x) : decode code pc = .ok (.if_icmp .eq x, 3) := by
  subst hp
  have e := decB (nx := n + i + 1 + 1 + 1) (ins := .if_icmp .eq (Reader.signed 16 (a * 256 + b))) ((runB (chW_1 h hi)).trans ((runS2 (chW_2 h hi) (chW_3 h hi)).trans rfl))
  rw [e, show n + i + 1 + 1 + 1 - (n + i) = 3 by omega, hx]
theorem D_160 {code : ByteArray} {n pc : Nat} {C r : List Nat} {a b : Nat} {x : Int} (h : chW code n C) (i : Nat) (hi : C.drop i = 160 :: a :: b :: r) (hp : n + i = pc) (hx : Reader.signed 16 (a * 256 + b) = x) : decode code pc = .ok (.if_icmp .ne x, 3) := by
  subst hp
  have e := decB (nx := n + i + 1 + 1 + 1) (ins := .if_icmp .ne (Reader.signed 16 (a * 256 + b))) ((runB (chW_1 h hi)).trans ((runS2 (chW_2 h hi) (chW_3 h hi)).trans rfl))
  rw [e, show n + i + 1 + 1 + 1 - (n + i) = 3 by omega, hx]
theorem D_161 {code : ByteArray} {n pc : Nat} {C r : List Nat} {a b : Nat} {x : Int} (h : chW code n C) (i : Nat) (hi : C.drop i = 161 :: a :: b :: r) (hp : n + i = pc) (hx : Reader.signed 16 (a * 256 + b) = x) : decode code pc = .ok (.if_icmp .lt x, 3) := by
  subst hp
  have e := decB (nx := n + i + 1 + 1 + 1) (ins := .if_icmp .lt (Reader.signed 16 (a * 256 + b))) ((runB (chW_1 h hi)).trans ((runS2 (chW_2 h hi) (chW_3 h hi)).trans rfl))
  rw [e, show n + i + 1 + 1 + 1 - (n + i) = 3 by omega, hx]
theorem D_162 {code : ByteArray} {n pc : Nat} {C r : List Nat} {a b : Nat} {x : Int} (h : chW code n C) (i : Nat) (hi : C.drop i = 162 :: a :: b :: r) (hp : n + i = pc) (hx : Reader.signed 16 (a * 256 + b) = x) : decode code pc = .ok (.if_icmp .ge x, 3) := by
  subst hp
  have e := decB (nx := n + i + 1 + 1 + 1) (ins := .if_icmp .ge (Reader.signed 16 (a * 256 + b))) ((runB (chW_1 h hi)).trans ((runS2 (chW_2 h hi) (chW_3 h hi)).trans rfl))
  rw [e, show n + i + 1 + 1 + 1 - (n + i) = 3 by omega, hx]
theorem D_163 {code : ByteArray} {n pc : Nat} {C r : List Nat} {a b : Nat} {x : Int} (h : chW code n C) (i : Nat) (hi : C.drop i = 163 :: a :: b :: r) (hp : n + i = pc) (hx : Reader.signed 16 (a * 256 + b) = x) : decode code pc = .ok (.if_icmp .gt x, 3) := by
  subst hp
  have e := decB (nx := n + i + 1 + 1 + 1) (ins := .if_icmp .gt (Reader.signed 16 (a * 256 + b))) ((runB (chW_1 h hi)).trans ((runS2 (chW_2 h hi) (chW_3 h hi)).trans rfl))
  rw [e, show n + i + 1 + 1 + 1 - (n + i) = 3 by omega, hx]
theorem D_164 {code : ByteArray} {n pc : Nat} {C r : List Nat} {a b : Nat} {x : Int} (h : chW code n C) (i : Nat) (hi : C.drop i = 164 :: a :: b :: r) (hp : n + i = pc) (hx : Reader.signed 16 (a * 256 + b) = x) : decode code pc = .ok (.if_icmp .le x, 3) := by
  subst hp
  have e := decB (nx := n + i + 1 + 1 + 1) (ins := .if_icmp .le (Reader.signed 16 (a * 256 + b))) ((runB (chW_1 h hi)).trans ((runS2 (chW_2 h hi) (chW_3 h hi)).trans rfl))
  rw [e, show n + i + 1 + 1 + 1 - (n + i) = 3 by omega, hx]
theorem D_167 {code : ByteArray} {n pc : Nat} {C r : List Nat} {a b : Nat} {x : Int} (h : chW code n C) (i : Nat) (hi : C.drop i = 167 :: a :: b :: r) (hp : n + i = pc) (hx : Reader.signed 16 (a * 256 + b) = x) : decode code pc = .ok (.goto x, 3) := by
  subst hp
  have e := decB (nx := n + i + 1 + 1 + 1) (ins := .goto (Reader.signed 16 (a * 256 + b))) ((runB (chW_1 h hi)).trans ((runS2 (chW_2 h hi) (chW_3 h hi)).trans rfl))
  rw [e, show n + i + 1 + 1 + 1 - (n + i) = 3 by omega, hx]
theorem D_172 {code : ByteArray} {n pc : Nat} {C r : List Nat} (h : chW code n C) (i : Nat) (hi : C.drop i = 172 :: r) (hp : n + i = pc) : decode code pc = .ok (.ireturn, 1) := by
  subst hp
  have e := decB (nx := n + i + 1) (ins := .ireturn) ((runB (chW_1 h hi)).trans rfl)
  rw [e, show n + i + 1 - (n + i) = 1 by omega]
theorem D_173 {code : ByteArray} {n pc : Nat} {C r : List Nat} (h : chW code n C) (i : Nat) (hi : C.drop i = 173 :: r) (hp : n + i = pc) : decode code pc = .ok (.lreturn, 1) := by
  subst hp
  have e := decB (nx := n + i + 1) (ins := .lreturn) ((runB (chW_1 h hi)).trans rfl)
  rw [e, show n + i + 1 - (n + i) = 1 by omega]
theorem D_176 {code : ByteArray} {n pc : Nat} {C r : List Nat} (h : chW code n C) (i : Nat) (hi : C.drop i = 176 :: r) (hp : n + i = pc) : decode code pc = .ok (.areturn, 1) := by
  subst hp
  have e := decB (nx := n + i + 1) (ins := .areturn) ((runB (chW_1 h hi)).trans rfl)
  rw [e, show n + i + 1 - (n + i) = 1 by omega]
theorem D_177 {code : ByteArray} {n pc : Nat} {C r : List Nat} (h : chW code n C) (i : Nat) (hi : C.drop i = 177 :: r) (hp : n + i = pc) : decode code pc = .ok (.return_, 1) := by
  subst hp
  have e := decB (nx := n + i + 1) (ins := .return_) ((runB (chW_1 h hi)).trans rfl)
  rw [e, show n + i + 1 - (n + i) = 1 by omega]
theorem D_178 {code : ByteArray} {n pc : Nat} {C r : List Nat} {a b x : Nat} (h : chW code n C) (i : Nat) (hi : C.drop i = 178 :: a :: b :: r) (hp : n + i = pc) (hx : a * 256 + b = x) : decode code pc = .ok (.getstatic x, 3) := by
  subst hp
  have e := decB (nx := n + i + 1 + 1 + 1) (ins := .getstatic (a * 256 + b)) ((runB (chW_1 h hi)).trans ((runB2 (chW_2 h hi) (chW_3 h hi)).trans rfl))
  rw [e, show n + i + 1 + 1 + 1 - (n + i) = 3 by omega, hx]
theorem D_180 {code : ByteArray} {n pc : Nat} {C r : List Nat} {a b x : Nat} (h : chW code n C) (i : Nat) (hi : C.drop i = 180 :: a :: b :: r) (hp : n + i = pc) (hx : a * 256 + b = x) : decode code pc = .ok (.getfield x, 3) := by
  subst hp
  have e := decB (nx := n + i + 1 + 1 + 1) (ins := .getfield (a * 256 + b)) ((runB (chW_1 h hi)).trans ((runB2 (chW_2 h hi) (chW_3 h hi)).trans rfl))
  rw [e, show n + i + 1 + 1 + 1 - (n + i) = 3 by omega, hx]
theorem D_181 {code : ByteArray} {n pc : Nat} {C r : List Nat} {a b x : Nat} (h : chW code n C) (i : Nat) (hi : C.drop i = 181 :: a :: b :: r) (hp : n + i = pc) (hx : a * 256 + b = x) : decode code pc = .ok (.putfield x, 3) := by
  subst hp
  have e := decB (nx := n + i + 1 + 1 + 1) (ins := .putfield (a * 256 + b)) ((runB (chW_1 h hi)).trans ((runB2 (chW_2 h hi) (chW_3 h hi)).trans rfl))
  rw [e, show n + i + 1 + 1 + 1 - (n + i) = 3 by omega, hx]
theorem D_182 {code : ByteArray} {n pc : Nat} {C r : List Nat} {a b x : Nat} (h : chW code n C) (i : Nat) (hi : C.drop i = 182 :: a :: b :: r) (hp : n + i = pc) (hx : a * 256 + b = x) : decode code pc = .ok (.invokevirtual x, 3) := by
  subst hp
  have e := decB (nx := n + i + 1 + 1 + 1) (ins := .invokevirtual (a * 256 + b)) ((runB (chW_1 h hi)).trans ((runB2 (chW_2 h hi) (chW_3 h hi)).trans rfl))
  rw [e, show n + i + 1 + 1 + 1 - (n + i) = 3 by omega, hx]
theorem D_183 {code : ByteArray} {n pc : Nat} {C r : List Nat} {a b x : Nat} (h : chW code n C) (i : Nat) (hi : C.drop i = 183 :: a :: b :: r) (hp : n + i = pc) (hx : a * 256 + b = x) : decode code pc = .ok (.invokespecial x, 3) := by
  subst hp
  have e := decB (nx := n + i + 1 + 1 + 1) (ins := .invokespecial (a * 256 + b)) ((runB (chW_1 h hi)).trans ((runB2 (chW_2 h hi) (chW_3 h hi)).trans rfl))
  rw [e, show n + i + 1 + 1 + 1 - (n + i) = 3 by omega, hx]
theorem D_184 {code : ByteArray} {n pc : Nat} {C r : List Nat} {a b x : Nat} (h : chW code n C) (i : Nat) (hi : C.drop i = 184 :: a :: b :: r) (hp : n + i = pc) (hx : a * 256 + b = x) : decode code pc = .ok (.invokestatic x, 3) := by
  subst hp
  have e := decB (nx := n + i + 1 + 1 + 1) (ins := .invokestatic (a * 256 + b)) ((runB (chW_1 h hi)).trans ((runB2 (chW_2 h hi) (chW_3 h hi)).trans rfl))
  rw [e, show n + i + 1 + 1 + 1 - (n + i) = 3 by omega, hx]
theorem D_187 {code : ByteArray} {n pc : Nat} {C r : List Nat} {a b x : Nat} (h : chW code n C) (i : Nat) (hi : C.drop i = 187 :: a :: b :: r) (hp : n + i = pc) (hx : a * 256 + b = x) : decode code pc = .ok (.new x, 3) := by
  subst hp
  have e := decB (nx := n + i + 1 + 1 + 1) (ins := .new (a * 256 + b)) ((runB (chW_1 h hi)).trans ((runB2 (chW_2 h hi) (chW_3 h hi)).trans rfl))
  rw [e, show n + i + 1 + 1 + 1 - (n + i) = 3 by omega, hx]
theorem D_188_4 {code : ByteArray} {n pc : Nat} {C r : List Nat} (h : chW code n C) (i : Nat) (hi : C.drop i = 188 :: 4 :: r) (hp : n + i = pc) : decode code pc = .ok (.newarray .boolean, 2) := by
  subst hp
  have e := decB (nx := n + i + 1 + 1) (ins := .newarray .boolean) ((runB (chW_1 h hi)).trans ((runB (chW_2 h hi)).trans rfl))
  rw [e, show n + i + 1 + 1 - (n + i) = 2 by omega]
theorem D_188_8 {code : ByteArray} {n pc : Nat} {C r : List Nat} (h : chW code n C) (i : Nat) (hi : C.drop i = 188 :: 8 :: r) (hp : n + i = pc) : decode code pc = .ok (.newarray .byte, 2) := by
  subst hp
  have e := decB (nx := n + i + 1 + 1) (ins := .newarray .byte) ((runB (chW_1 h hi)).trans ((runB (chW_2 h hi)).trans rfl))
  rw [e, show n + i + 1 + 1 - (n + i) = 2 by omega]
theorem D_188_10 {code : ByteArray} {n pc : Nat} {C r : List Nat} (h : chW code n C) (i : Nat) (hi : C.drop i = 188 :: 10 :: r) (hp : n + i = pc) : decode code pc = .ok (.newarray .int, 2) := by
  subst hp
  have e := decB (nx := n + i + 1 + 1) (ins := .newarray .int) ((runB (chW_1 h hi)).trans ((runB (chW_2 h hi)).trans rfl))
  rw [e, show n + i + 1 + 1 - (n + i) = 2 by omega]
theorem D_188_11 {code : ByteArray} {n pc : Nat} {C r : List Nat} (h : chW code n C) (i : Nat) (hi : C.drop i = 188 :: 11 :: r) (hp : n + i = pc) : decode code pc = .ok (.newarray .long, 2) := by
  subst hp
  have e := decB (nx := n + i + 1 + 1) (ins := .newarray .long) ((runB (chW_1 h hi)).trans ((runB (chW_2 h hi)).trans rfl))
  rw [e, show n + i + 1 + 1 - (n + i) = 2 by omega]
theorem D_189 {code : ByteArray} {n pc : Nat} {C r : List Nat} {a b x : Nat} (h : chW code n C) (i : Nat) (hi : C.drop i = 189 :: a :: b :: r) (hp : n + i = pc) (hx : a * 256 + b = x) : decode code pc = .ok (.anewarray x, 3) := by
  subst hp
  have e := decB (nx := n + i + 1 + 1 + 1) (ins := .anewarray (a * 256 + b)) ((runB (chW_1 h hi)).trans ((runB2 (chW_2 h hi) (chW_3 h hi)).trans rfl))
  rw [e, show n + i + 1 + 1 + 1 - (n + i) = 3 by omega, hx]
theorem D_190 {code : ByteArray} {n pc : Nat} {C r : List Nat} (h : chW code n C) (i : Nat) (hi : C.drop i = 190 :: r) (hp : n + i = pc) : decode code pc = .ok (.arraylength, 1) := by
  subst hp
  have e := decB (nx := n + i + 1) (ins := .arraylength) ((runB (chW_1 h hi)).trans rfl)
  rw [e, show n + i + 1 - (n + i) = 1 by omega]
theorem D_198 {code : ByteArray} {n pc : Nat} {C r : List Nat} {a b : Nat} {x : Int} (h : chW code n C) (i : Nat) (hi : C.drop i = 198 :: a :: b :: r) (hp : n + i = pc) (hx : Reader.signed 16 (a * 256 + b) = x) : decode code pc = .ok (.ifnull x, 3) := by
  subst hp
  have e := decB (nx := n + i + 1 + 1 + 1) (ins := .ifnull (Reader.signed 16 (a * 256 + b))) ((runB (chW_1 h hi)).trans ((runS2 (chW_2 h hi) (chW_3 h hi)).trans rfl))
  rw [e, show n + i + 1 + 1 + 1 - (n + i) = 3 by omega, hx]
theorem D_199 {code : ByteArray} {n pc : Nat} {C r : List Nat} {a b : Nat} {x : Int} (h : chW code n C) (i : Nat) (hi : C.drop i = 199 :: a :: b :: r) (hp : n + i = pc) (hx : Reader.signed 16 (a * 256 + b) = x) : decode code pc = .ok (.ifnonnull x, 3) := by
  subst hp
  have e := decB (nx := n + i + 1 + 1 + 1) (ins := .ifnonnull (Reader.signed 16 (a * 256 + b))) ((runB (chW_1 h hi)).trans ((runS2 (chW_2 h hi) (chW_3 h hi)).trans rfl))
  rw [e, show n + i + 1 + 1 + 1 - (n + i) = 3 by omega, hx]
end

section
/-! ===== a new part is made ===== -/
theorem zbN_s {r : Int} {F : zF} {B : zB} {k : Int → zF → zB → zOm} : zbindN (some (r, F, B)) k = k r F B := rfl
theorem zbM_s {r : Int} {F : zF} {B : zB} {K : zK} {k : Int → zF → zB → zK → zOm} : zbindM (some (r, F, B, K)) k = k r F B K := rfl
theorem zinF_v {F : zF} {c c' k : Nat} {i i' : Int} {l : List Int} : zinF F c i l c' i' k = if c' = c ∧ i' = i then l.getD k 0 else F c' i' k := rfl
theorem zinB_v {B : zB} {c c' k : Nat} {i i' x : Int} {b : Nat → Int → Int} : zinB B c i b c' i' k x = if c' = c ∧ i' = i then b k x else B c' i' k x := by
  unfold zinB
  split <;> rfl
theorem zinN_v {N : Nat → Int} {c c' : Nat} : zinN N c c' = if c' = c then N c + 1 else N c' := rfl
theorem getD0 : ∀ (n k : Nat), (List.replicate n (0 : Int)).getD k 0 = 0 := by
  intro n
  induction n with
  | zero => intro k; rfl
  | succ n ih =>
    intro k
    cases k with
    | zero => rfl
    | succ k => exact ih k
/-- the loop that makes the events of a part q from the i-th on -/
theorem C_pI46 {q e0 : Int} (h0 : 0 ≤ e0) (hq : 0 ≤ q) : ∀ {m n : Nat} {K : zK} {i : Int} {F : zF} {B : zB}, i = 200 - m → 0 ≤ i → m < n → K.2 1 = e0 + i → q < K.2 4 → ∃ F' B' K', f_Part_init_46 n K i q F B = some (q, F', B', K') ∧ K'.1 = K.1 ∧ (∀ c, K'.2 c = if c = 1 then e0 + 200 else K.2 c) ∧ (∀ c y k, ¬ (c = 1 ∧ e0 + i ≤ y ∧ y < e0 + 200) → F' c y k = F c y k) ∧ (∀ c y k x, ¬ (c = 1 ∧ e0 + i ≤ y ∧ y < e0 + 200) → ¬ (c = 4 ∧ y = q ∧ k = 5 ∧ i ≤ x ∧ x < 200) → B' c y k x = B c y k x) ∧ (∀ x, i ≤ x → x < 200 → B' 4 q 5 x = e0 + x) ∧ (∀ y k, e0 + i ≤ y → y < e0 + 200 → F' 1 y k = 0) ∧ (∀ y k x, e0 + i ≤ y → y < e0 + 200 → B' 1 y k x = 0) := by
  intro m
  induction m with
  | zero =>
    intro n K i F B hi i0 hn hK hq4
    obtain ⟨n, rfl⟩ : ∃ y, n = y + 1 := ⟨n - 1, (by first | decide | omega)⟩
    refine ⟨F, B, K, ?_, rfl, fun c => ?_, fun _ _ _ _ => rfl, fun _ _ _ _ _ _ => rfl, fun x a b => (by first | decide | omega), fun y k a b => (by first | decide | omega), fun y k x a b => (by first | decide | omega)⟩
    · unfold f_Part_init_46
      rw [if_pos (by first | decide | omega), if_pos (by first | decide | omega)]
    · split
      · rename_i e; rw [e]; omega
      · rfl
  | succ m ih =>
    intro n K i F B hi i0 hn hK hq4
    obtain ⟨n, rfl⟩ : ∃ y, n = y + 1 := ⟨n - 1, (by first | decide | omega)⟩
    have hN1 : (zinN K.2 1) 1 = e0 + (i + 1) := by rw [zinN_v, if_pos rfl]; omega
    have hN4 : (zinN K.2 1) 4 = K.2 4 := by rw [zinN_v, if_neg (by decide)]
    obtain ⟨F', B', K', a1, a2, a3, a4, a5, a6, a7, a8⟩ := ih (n := n) (K := (K.1, zinN K.2 1)) (i := i + 1) (F := zinF F 1 (K.2 1) [0, 0, 0, 0, 0, 0, 0, 0, 0, 0, 0, 0, 0, 0]) (B := zup4 (zinB B 1 (K.2 1) (fun _ _ => 0)) 4 q 5 i (K.2 1)) (by first | decide | omega) (by first | decide | omega) (by first | decide | omega) hN1 (by show q < (zinN K.2 1) 4; omega)
    refine ⟨F', B', K', ?_, a2, fun c => ?_, fun c y k h => ?_, fun c y k x h h' => ?_, fun x h h' => ?_, fun y k h h' => ?_, fun y k x h h' => ?_⟩
    · rw [f_Part_init_46]
      rw [if_pos (by first | decide | omega), if_neg (by first | decide | omega), if_pos ⟨hq, hq4⟩]
      unfold f_Event_init
      rw [if_pos (by first | decide | omega)]
      simp only [zbM_s]
      rw [if_pos (show 0 ≤ K.2 1 ∧ K.2 1 < (zinN K.2 1) 1 by omega)]
      unfold f_Part_init_65
      rw [if_pos (show 0 ≤ K.2 1 ∧ K.2 1 < (zinN K.2 1) 1 by omega), if_pos (show 0 ≤ q ∧ q < (zinN K.2 1) 4 by omega), if_pos (by first | decide | omega)]
      exact a1
    · rw [a3 c]
      split
      · rfl
      · rename_i e; show zinN K.2 1 c = _; rw [zinN_v, if_neg e]
    · rw [a4 c y k (fun z => h ⟨z.1, (by first | decide | omega), z.2.2⟩), zinF_v, if_neg (fun z => h ⟨z.1, (by first | decide | omega), (by first | decide | omega)⟩)]
    · rw [a5 c y k x (fun z => h ⟨z.1, (by first | decide | omega), z.2.2⟩) (fun z => h' ⟨z.1, z.2.1, z.2.2.1, (by first | decide | omega), z.2.2.2.2⟩), zup4_v, if_neg (fun z => h' ⟨z.1, z.2.1, z.2.2.1, (by first | decide | omega), (by first | decide | omega)⟩), zinB_v, if_neg (fun z => h ⟨z.1, (by first | decide | omega), (by first | decide | omega)⟩)]
    · by_cases e : x = i
      · rw [e, a5 4 q 5 i (fun z => absurd z.1 (by decide)) (fun z => by have := z.2.2.2.1; omega), zup4_v, if_pos ⟨rfl, rfl, rfl, rfl⟩]; exact hK
      · exact a6 x (by first | decide | omega) h'
    · by_cases e : y = e0 + i
      · rw [a4 1 y k (fun z => by have := z.2.1; omega), zinF_v, if_pos ⟨rfl, (by first | decide | omega)⟩]
        exact getD0 14 k
      · exact a7 y k (by first | decide | omega) h'
    · by_cases e : y = e0 + i
      · rw [a5 1 y k x (fun z => by have := z.2.1; omega) (fun z => absurd z.1 (by decide)), zup4_v, if_neg (fun z => absurd z.1 (by decide)), zinB_v, if_pos ⟨rfl, (by first | decide | omega)⟩]
      · exact a8 y k x (by first | decide | omega) h'
/-- K' has at least what K has -/
def Kle (K K' : zK) : Prop := K'.1 = K.1 ∧ ∀ c, K.2 c ≤ K'.2 c
theorem Kle_r {K : zK} : Kle K K := ⟨rfl, fun _ => Int.le_refl _⟩
theorem Kle_t {K K' K'' : zK} (h : Kle K K') (h' : Kle K' K'') : Kle K K'' := ⟨h'.1.trans h.1, fun c => Int.le_trans (h.2 c) (h'.2 c)⟩
theorem C_partInit {K : zK} {F : zF} {B : zB} (hK : 3002 ≤ K.1) (h1 : 0 ≤ K.2 1) (h4 : 0 ≤ K.2 4) : ∃ F' B' K', f_Part_init K F B = some (K.2 4, F', B', K') ∧ Kle K K' ∧ (∀ c, K'.2 c = if c = 1 then K.2 1 + 200 else if c = 4 then K.2 4 + 1 else K.2 c) ∧ (∀ c y k, y < K.2 c → F' c y k = F c y k) ∧ (∀ c y k x, y < K.2 c → B' c y k x = B c y k x) ∧ (∀ x, 0 ≤ x → x < 200 → B' 4 (K.2 4) 5 x = K.2 1 + x) ∧ (∀ k, F' 4 (K.2 4) k = 0) ∧ (∀ k x, k ≠ 5 → B' 4 (K.2 4) k x = 0) ∧ (∀ y k, K.2 1 ≤ y → y < K.2 1 + 200 → F' 1 y k = 0) ∧ (∀ y k x, K.2 1 ≤ y → y < K.2 1 + 200 → B' 1 y k x = 0) := by
  have hN4 : (zinN K.2 4) 4 = K.2 4 + 1 := by rw [zinN_v, if_pos rfl]
  have hN1 : (zinN K.2 4) 1 = K.2 1 := by rw [zinN_v, if_neg (by decide)]
  obtain ⟨F', B', K', a1, a2, a3, a4, a5, a6, a7, a8⟩ := C_pI46 (q := K.2 4) (e0 := K.2 1) h1 h4 (m := 200) (n := K.1) (K := (K.1, zinN K.2 4)) (i := 0) (F := zinF F 4 (K.2 4) [0, 0, 0, 0, 0, 0, 0, 0, 0, 0, 0, 0, 0]) (B := zinB B 4 (K.2 4) (fun k _ => if k = 5 then -1 else 0)) (by first | decide | omega) (by first | decide | omega) (by first | decide | omega) (by show (zinN K.2 4) 1 = _; omega) (by show K.2 4 < (zinN K.2 4) 4; omega)
  have a3' : ∀ c, K'.2 c = if c = 1 then K.2 1 + 200 else if c = 4 then K.2 4 + 1 else K.2 c := by
    intro c
    rw [a3 c]
    split
    · rfl
    · show zinN K.2 4 c = _; rw [zinN_v]
  refine ⟨F', B', K', ?_, ⟨a2, fun c => ?_⟩, a3', fun c y k h => ?_, fun c y k x h => ?_, fun x p q => a6 x p q, fun k => ?_, fun k x hk => ?_, fun y k p q => a7 y k (by first | decide | omega) q, fun y k x p q => a8 y k x (by first | decide | omega) q⟩
  · unfold f_Part_init
    rw [if_pos h4, if_pos (by first | decide | omega)]
    exact a1
  · rw [a3' c]
    split
    · rename_i e; rw [e]; omega
    · split
      · rename_i e; rw [e]; omega
      · exact Int.le_refl _
  · rw [a4 c y k (fun z => by have := z.1; subst this; omega), zinF_v, if_neg (fun z => by have := z.1; subst this; omega)]
  · rw [a5 c y k x (fun z => by have := z.1; subst this; omega) (fun z => by have := z.1; subst this; omega), zinB_v, if_neg (fun z => by have := z.1; subst this; omega)]
  · rw [a4 4 _ k (fun z => absurd z.1 (by decide)), zinF_v, if_pos ⟨rfl, rfl⟩]
    exact getD0 13 k
  · rw [a5 4 _ k x (fun z => absurd z.1 (by decide)) (fun z => hk z.2.2.1), zinB_v, if_pos ⟨rfl, rfl⟩, if_neg hk]
/-- a part is there for the v-th voice of the piece p: the old one, or one made anew -/
theorem C_newPart {K : zK} {p v : Int} {F : zF} {B : zB} (hK : 3002 ≤ K.1) (h1 : 0 ≤ K.2 1) (h4 : 0 ≤ K.2 4) (hp : 0 ≤ p ∧ p < K.2 6) (hv : F 6 p 1 = v) (h0 : 0 ≤ v ∧ v < 4) (hB : B 6 p 0 v < K.2 4) : ∃ q F' B' K', f_Piece_newPart K p F B = some (q, F', B', K') ∧ Kle K K' ∧ (q = B 6 p 0 v ∧ 0 ≤ q ∧ K' = K ∧ B' = B ∨ B 6 p 0 v < 0 ∧ q = K.2 4 ∧ (∀ c, K'.2 c = if c = 1 then K.2 1 + 200 else if c = 4 then K.2 4 + 1 else K.2 c) ∧ (∀ x, 0 ≤ x → x < 200 → B' 4 q 5 x = K.2 1 + x) ∧ (∀ k x, k ≠ 5 → B' 4 q k x = 0) ∧ (∀ y k, K.2 1 ≤ y → y < K.2 1 + 200 → F' 1 y k = 0) ∧ (∀ y k x, K.2 1 ≤ y → y < K.2 1 + 200 → B' 1 y k x = 0)) ∧ (∀ c y k, y < K.2 c → ¬ (c = 4 ∧ y = q) → ¬ (c = 6 ∧ y = p ∧ k = 1) → F' c y k = F c y k) ∧ (∀ c y k x, y < K.2 c → ¬ (c = 6 ∧ y = p ∧ k = 0 ∧ x = v) → B' c y k x = B c y k x) ∧ B' 6 p 0 v = q ∧ 0 ≤ q ∧ q < K'.2 4 ∧ F' 6 p 1 = v + 1 ∧ F' 4 q 6 = 0 ∧ F' 4 q 10 = 0 ∧ F' 4 q 7 = 0 := by
  have zm : zmin (F 6 p 1) 3 = v := by unfold zmin; rw [if_neg (by first | decide | omega), hv]
  unfold f_Piece_newPart
  rw [if_pos hp, hv, if_pos (by first | decide | omega)]
  rw [hv] at zm
  rw [zm, if_pos (by first | decide | omega)]
  by_cases n : B 6 p 0 v < 0
  · obtain ⟨F', B', K', a1, a2, a3, a4, a5, a6, a7, a8, a9, a10⟩ := C_partInit (F := F) (B := B) hK h1 h4
    have k4 : K'.2 4 = K.2 4 + 1 := by rw [a3 4, if_neg (by decide), if_pos rfl]
    have k6 : K'.2 6 = K.2 6 := by rw [a3 6, if_neg (by decide), if_neg (by decide)]
    have u : zup4 B' 6 p 0 v (K.2 4) 6 p 0 v = K.2 4 := by rw [zup4_v, if_pos ⟨rfl, rfl, rfl, rfl⟩]
    refine ⟨K.2 4, zup3 (zup3 (zup3 (zup3 F' 4 (K.2 4) 6 0) 4 (K.2 4) 10 0) 4 (K.2 4) 7 0) 6 p 1 (v + 1), zup4 B' 6 p 0 v (K.2 4), K', ?_, a2, Or.inr ⟨n, rfl, a3, fun x p q => ?_, fun k x hk => ?_, fun y k p q => ?_, fun y k x p q => ?_⟩, fun c y k h h' h'' => ?_, fun c y k x h h' => ?_, u, h4, (by first | decide | omega), ?_, ?_, ?_, ?_⟩
    · rw [if_pos n, a1]
      simp only [zbM_s]
      unfold f_Piece_newPart_30 f_Piece_newPart_31 f_Part_clear
      rw [if_pos (by first | decide | omega), if_pos (by first | decide | omega), if_pos (by first | decide | omega), if_pos (by first | decide | omega), if_pos (by first | decide | omega), if_pos (by first | decide | omega), u, if_pos (by first | decide | omega), if_pos (by first | decide | omega)]
      simp only [zbN_s]
      rw [u]
    · rw [zup4_v, if_neg (fun z => absurd z.1 (by decide))]; exact a6 x p q
    · rw [zup4_v, if_neg (fun z => absurd z.1 (by decide))]; exact a8 k x hk
    · simp [zup3_v]; exact a9 y k p q
    · rw [zup4_v, if_neg (fun z => absurd z.1 (by decide))]; exact a10 y k x p q
    · rw [zup3_v, if_neg (fun z => h'' ⟨z.1, z.2.1, z.2.2⟩), zup3_v, if_neg (fun z => h' ⟨z.1, z.2.1⟩), zup3_v, if_neg (fun z => h' ⟨z.1, z.2.1⟩), zup3_v, if_neg (fun z => h' ⟨z.1, z.2.1⟩)]
      exact a4 c y k h
    · rw [zup4_v, if_neg (fun z => h' ⟨z.1, z.2.1, z.2.2.1, z.2.2.2⟩)]; exact a5 c y k x h
    · simp [zup3_v]
    · simp [zup3_v]
    · simp [zup3_v]
    · simp [zup3_v]
  · refine ⟨B 6 p 0 v, zup3 (zup3 (zup3 (zup3 F 4 (B 6 p 0 v) 6 0) 4 (B 6 p 0 v) 10 0) 4 (B 6 p 0 v) 7 0) 6 p 1 (v + 1), B, K, ?_, Kle_r, Or.inl ⟨rfl, (by first | decide | omega), rfl, rfl⟩, fun c y k h h' h'' => ?_, fun c y k x h h' => rfl, rfl, (by first | decide | omega), hB, ?_, ?_, ?_, ?_⟩
    · rw [if_neg n]
      unfold f_Piece_newPart_31 f_Part_clear
      rw [if_pos hp, if_pos h0, if_pos (by first | decide | omega), if_pos (by first | decide | omega)]
      rfl
    · rw [zup3_v, if_neg (fun z => h'' ⟨z.1, z.2.1, z.2.2⟩), zup3_v, if_neg (fun z => h' ⟨z.1, z.2.1⟩), zup3_v, if_neg (fun z => h' ⟨z.1, z.2.1⟩), zup3_v, if_neg (fun z => h' ⟨z.1, z.2.1⟩)]
    · simp [zup3_v]
    · simp [zup3_v]
    · simp [zup3_v]
    · simp [zup3_v]
end

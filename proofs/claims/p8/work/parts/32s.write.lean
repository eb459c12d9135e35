section
/-! ===== the reference: a voice's notes as text ===== -/
def evD : List (Int × Int × Int × (Int → Int) × (Int → Int)) → Int → Int × (Int → Int) × (Int → Int)
  | [], _ => (0, (fun _ => 0), (fun _ => 0))
  | r :: rs, j => if j = 0 then r.2.2 else evD rs (j - 1)
def hdE : List (Int × Int × Int) → Int → Bool
  | [], _ => false
  | r :: _, e => decide (r.1 = e)
def hdB : List (Int × Int × Int) → Int → Bool
  | [], _ => false
  | r :: _, e => decide (r.2.1 = e)
/-- the text of notes -/
def rtx (EL : List (Int × Int × Int × (Int → Int) × (Int → Int))) : List (Int × Int × Int) → List Int
  | [] => []
  | r :: rs => ntA (evD EL r.1).1 (evD EL r.1).2.1 (evD EL r.1).2.2 r.2.2 ++ ((if 0 < (evD EL r.1).1 ∧ hdE rs r.1 = true then [126] else []) ++ (32 :: ((if hdB rs r.2.1 = true then [] else [124, 10]) ++ rtx EL rs)))
theorem evD_n : ∀ (EL : List (Int × Int × Int × (Int → Int) × (Int → Int))) (j : Int), j < 0 → (evD EL j).1 = 0 := by
  intro EL
  induction EL with
  | nil => intro j _; rfl
  | cons r rs ih => intro j h; rw [evD, if_neg (by first | decide | omega)]; exact ih (j - 1) (by first | decide | omega)
theorem evD_r {u w v : Int} {B : zB} : ∀ (EL : List (Int × Int × Int × (Int → Int) × (Int → Int))) (i j : Int), EVn u w v B i EL → 0 ≤ j → j < (EL.length : Int) → (0 ≤ (evD EL j).1 ∧ (evD EL j).1 ≤ 6) ∧ B 13 w 21 (1000 * v + (i + j)) = (evD EL j).1 ∧ ∀ k, 0 ≤ k → k < (evD EL j).1 → B 13 w 28 (6 * (1000 * v + (i + j)) + k) = (evD EL j).2.1 k ∧ B 13 w 29 (6 * (1000 * v + (i + j)) + k) = (evD EL j).2.2 k ∧ (0 ≤ (evD EL j).2.1 k ∧ (evD EL j).2.1 k ≤ 62) ∧ (-7 ≤ (evD EL j).2.2 k ∧ (evD EL j).2.2 k ≤ 7) := by
  intro EL
  induction EL with
  | nil => intro i j _ j0 j1; simp at j1; omega
  | cons r rs ih =>
    intro i j h j0 j1
    rw [List.length_cons] at j1
    obtain ⟨⟨h0, h1, h2, h4, h5, h6⟩, h'⟩ := h
    rw [evD]
    by_cases z : j = 0
    · rw [if_pos z, z, show i + 0 = i by omega]
      exact ⟨h0, h5, h6⟩
    · rw [if_neg z]
      have := ih (i + 1) (j - 1) h' (by first | decide | omega) (by first | decide | omega)
      rw [show i + 1 + (j - 1) = i + j by omega] at this
      exact this
theorem ntA_l {m v : Int} {st al : Int → Int} (hm : 0 ≤ m ∧ m ≤ 6) (ha : ∀ k, 0 ≤ k → k < m → -7 ≤ al k ∧ al k ≤ 7) : (ntA m st al v).length ≤ 80 ∧ 2 ≤ (ntA m st al v).length := by
  unfold ntA
  have l1 := if_l (c := m = 0) (x := 114)
  have l2 := if_l (c := 1 < m) (x := 60)
  have l3 := if_l (c := 1 < m) (x := 62)
  have cl := chT_l (st := st) (al := al) m.toNat 0 (fun j a b => ha j a (by first | decide | omega))
  have dl := decT_l (v := zshl 1 (v / 3))
  have rl := rptT_l (c := 46) (2 - v % 3).toNat
  simp only [List.length_append, List.length_cons]
  omega
theorem nt2_l {a b : Prop} [Decidable a] [Decidable b] : ((if a then [(126 : Int)] else []) ++ (32 :: (if b then [] else [124, 10]))).length ≤ 4 ∧ 1 ≤ ((if a then [(126 : Int)] else []) ++ (32 :: (if b then [] else [124, 10]))).length := by
  split <;> split <;> simp
section
variable {Km : Nat} {q : zF × zB} {u w v c : Int} {EL : List (Int × Int × Int × (Int → Int) × (Int → Int))}
theorem M_283 {T : List Int} {F : zF} {B : zB} (ht : T.length ≤ 19000) (h : TM q T F B) : ∃ F' B', f_M_downVoice_283 Km F B = some (0, F', B') ∧ TM q (T ++ [125, 10]) F' B' := by
  obtain ⟨F1, B1, e1, w1⟩ := M_pt (Km := Km) (a := 125) (by first | decide | omega) h
  obtain ⟨F2, B2, e2, w2⟩ := M_pt (Km := Km) (a := 10) (by rw [List.length_append, List.length_singleton]; omega) w1
  refine ⟨F2, B2, ?_, ?_⟩
  · unfold f_M_downVoice_283
    rw [e1, zb_s, e2, zb_s]
  · rw [List.append_assoc] at w2
    exact w2
theorem M_239 (hK : 2000 ≤ Km) (hw : q.1 14 0 6 = w ∧ 0 ≤ w ∧ w < 3) (v0 : 0 ≤ v ∧ v < 4) (el : (EL.length : Int) ≤ 1000) (hv : EVn u w v q.2 0 EL) (hc : 0 ≤ c ∧ c ≤ 800) : ∀ (rs : List (Int × Int × Int)) (m : Nat) (i : Int) (T : List Int) (F : zF) (B : zB), rs.length < m → i + (rs.length : Int) = c → 0 ≤ i → NRW w v q.2 i rs → (∀ r, r ∈ rs → (-1 ≤ r.1 ∧ r.1 < (EL.length : Int)) ∧ (0 ≤ r.2.1 ∧ r.2.1 ≤ 1000) ∧ (0 ≤ r.2.2 ∧ r.2.2 < 24)) → T.length ≤ 3200 → TM q T F B → ∃ F' B' T', f_M_downVoice_239 Km m i c v F B = some (0, F', B') ∧ TM q T' F' B' ∧ T'.length ≤ 4000 ∧ (T' = T ++ (rtx EL rs ++ [125, 10]) ∨ (3000 < T'.length ∧ T'.length ≤ 4000 ∧ 3000 < (T ++ rtx EL rs).length)) := by
  intro rs
  induction rs with
  | nil =>
    intro m i T F B hm hi i0 hr ho ht h
    obtain ⟨p, rfl⟩ : ∃ p, m = p + 1 := ⟨m - 1, by simp at hm; omega⟩
    rw [List.length_nil] at hi
    obtain ⟨F1, B1, e1, w1⟩ := M_283 (Km := Km) (by first | decide | omega) h
    refine ⟨F1, B1, _, ?_, w1, by rw [List.length_append]; simp; omega, Or.inl rfl⟩
    rw [f_M_downVoice_239, if_pos (by unfold r32; omega), if_pos (by unfold r32; omega), if_pos (by first | decide | omega), e1]
  | cons r rs ih =>
    intro m i T F B hm hi i0 hr ho ht h
    rw [List.length_cons] at hm hi
    obtain ⟨p, rfl⟩ : ∃ p, m = p + 1 := ⟨m - 1, (by first | decide | omega)⟩
    have l71 : F 14 0 71 = (T.length : Int) := h.1.1
    by_cases z : 3000 < T.length
    · obtain ⟨F1, B1, e1, w1⟩ := M_283 (Km := Km) (by first | decide | omega) h
      refine ⟨F1, B1, _, ?_, w1, by rw [List.length_append]; simp; omega, Or.inr ⟨by rw [List.length_append]; omega, by rw [List.length_append]; simp; omega, by rw [List.length_append]; omega⟩⟩
      rw [f_M_downVoice_239, if_pos (by unfold r32; omega), if_pos (by unfold r32; omega), if_neg (by first | decide | omega), l71, if_pos (by unfold r32; omega), if_pos (by first | decide | omega), e1]
    · obtain ⟨⟨r1, r2, r3, r4⟩, hr'⟩ := hr
      obtain ⟨o1, o2, o3⟩ := ho r (List.mem_cons_self ..)
      have evm : (0 ≤ (evD EL r.1).1 ∧ (evD EL r.1).1 ≤ 6) ∧ ((evD EL r.1).1 = if r.1 < 0 then 0 else q.2 13 w 21 (1000 * v + r.1)) ∧ ∀ k, 0 ≤ k → k < (evD EL r.1).1 → q.2 13 w 28 (6 * (1000 * v + r.1) + k) = (evD EL r.1).2.1 k ∧ q.2 13 w 29 (6 * (1000 * v + r.1) + k) = (evD EL r.1).2.2 k ∧ (0 ≤ (evD EL r.1).2.1 k ∧ (evD EL r.1).2.1 k ≤ 62) ∧ (-7 ≤ (evD EL r.1).2.2 k ∧ (evD EL r.1).2.2 k ≤ 7) := by
        by_cases y : r.1 < 0
        · have := evD_n EL r.1 y
          rw [if_pos y, this]
          exact ⟨(by first | decide | omega), rfl, fun k a b => (by first | decide | omega)⟩
        · have := evD_r EL 0 r.1 hv (by first | decide | omega) o1.2
          rw [show 0 + r.1 = r.1 by omega] at this
          rw [if_neg y]
          exact ⟨this.1, this.2.1.symm, this.2.2⟩
      generalize hlast : (if i + 1 = c then (1 : Int) else 0) = last
      have l01 : last = 0 ∨ last = 1 := by rw [← hlast]; split <;> omega
      have nx : last = 0 → ∃ s ss, rs = s :: ss := fun hl => by
        cases rs with
        | nil =>
          rw [List.length_nil] at hi
          rw [if_pos (by first | decide | omega)] at hlast
          omega
        | cons s ss => exact ⟨s, ss, rfl⟩
      have nx1 : last = 1 → rs = [] := fun hl => by
        cases rs with
        | nil => rfl
        | cons s ss =>
          rw [List.length_cons] at hi
          rw [if_neg (by first | decide | omega)] at hlast
          omega
      obtain ⟨F1, B1, e1, w1⟩ := M_dn (Km := Km) (q := q) (w := w) (v := v) (i := i) (m := (evD EL r.1).1) (vv := r.2.2) (last := last) (st := (evD EL r.1).2.1) (al := (evD EL r.1).2.2) (x := 1000 * v + r.1) (by first | decide | omega) hw v0 (by first | decide | omega) (by rw [r1]; omega) (by rw [r1]) (by rw [r1]; exact evm.2.1) evm.1 evm.2.2 o3 r3 r4 l01 (fun hl => by
        obtain ⟨s, ss, hs⟩ := nx hl
        subst hs
        obtain ⟨⟨s1, s2, _, _⟩, _⟩ := hr'
        obtain ⟨t1, t2, _⟩ := ho s (List.mem_cons_of_mem _ (List.mem_cons_self ..))
        rw [List.length_cons] at hi
        rw [show 800 * v + i + 1 = 800 * v + (i + 1) by omega, s1, s2, r2]
        exact ⟨(by first | decide | omega), by unfold r32; omega, by unfold r32; omega, by unfold r32; omega⟩) (by first | decide | omega) h
      have t1 : (if 0 < (evD EL r.1).1 ∧ last = 0 ∧ q.2 13 w 30 (800 * v + i + 1) = q.2 13 w 30 (800 * v + i) then [(126 : Int)] else []) = (if 0 < (evD EL r.1).1 ∧ hdE rs r.1 = true then [126] else []) := by
        rcases l01 with hl | hl
        · obtain ⟨s, ss, hs⟩ := nx hl
          subst hs
          have s1 := hr'.1.1
          rw [show 800 * v + (i + 1) = 800 * v + i + 1 by omega] at s1
          rw [s1, r1]
          by_cases y : s.1 = r.1
          · have : hdE (s :: ss) r.1 = true := decide_eq_true y
            rw [this]
            by_cases y2 : 0 < (evD EL r.1).1
            · rw [if_pos ⟨y2, hl, y⟩, if_pos ⟨y2, rfl⟩]
            · rw [if_neg (fun q => y2 q.1), if_neg (fun q => y2 q.1)]
          · have : ¬ hdE (s :: ss) r.1 = true := fun q => y (of_decide_eq_true q)
            rw [if_neg (fun q => y q.2.2), if_neg (fun q => this q.2)]
        · rw [nx1 hl, if_neg (fun q => by have := q.2.1; omega), if_neg (fun q => absurd q.2 (show ¬ false = true by decide))]
      have t2 : (if last = 0 ∧ q.2 13 w 31 (800 * v + i + 1) = q.2 13 w 31 (800 * v + i) then [] else [(124 : Int), 10]) = (if hdB rs r.2.1 = true then [] else [124, 10]) := by
        rcases l01 with hl | hl
        · obtain ⟨s, ss, hs⟩ := nx hl
          subst hs
          have s1 := hr'.1.2.1
          rw [show 800 * v + (i + 1) = 800 * v + i + 1 by omega] at s1
          rw [s1, r2]
          by_cases y : s.2.1 = r.2.1
          · have : hdB (s :: ss) r.2.1 = true := decide_eq_true y
            rw [this, if_pos ⟨hl, y⟩, if_pos rfl]
          · have : ¬ hdB (s :: ss) r.2.1 = true := fun q => y (of_decide_eq_true q)
            rw [if_neg (fun q => y q.2), if_neg this]
        · rw [nx1 hl, if_neg (fun q => by have := q.1; omega), if_neg (show ¬ hdB [] r.2.1 = true from (show ¬ false = true by decide))]
      rw [t1, t2] at w1
      have nl := ntA_l (st := (evD EL r.1).2.1) (v := r.2.2) evm.1 (fun k a b => (evm.2.2 k a b).2.2.2)
      have nl2 := nt2_l (a := 0 < (evD EL r.1).1 ∧ hdE rs r.1 = true) (b := hdB rs r.2.1 = true)
      obtain ⟨F2, B2, T', y1, y2, yl, y3⟩ := ih p (i + 1) _ F1 B1 (by first | decide | omega) (by first | decide | omega) (by first | decide | omega) hr' (fun s hs => ho s (List.mem_cons_of_mem _ hs)) (by rw [List.length_append, List.length_append]; omega) w1
      have ea : T ++ (ntA (evD EL r.1).1 (evD EL r.1).2.1 (evD EL r.1).2.2 r.2.2 ++ ((if 0 < (evD EL r.1).1 ∧ hdE rs r.1 = true then [126] else []) ++ (32 :: (if hdB rs r.2.1 = true then [] else [124, 10])))) ++ rtx EL rs = T ++ rtx EL (r :: rs) := by
        rw [rtx]
        simp only [List.append_assoc, List.cons_append]
      refine ⟨F2, B2, T', ?_, y2, yl, ?_⟩
      · have e274 : f_M_downVoice_274 (f_M_downVoice_239 Km p) Km i c v v i last F B = some (0, F2, B2) := by
          unfold f_M_downVoice_274
          rw [e1, zb_s, y1]
        rw [f_M_downVoice_239, if_pos (by unfold r32; omega), if_pos (by unfold r32; omega), if_neg (by first | decide | omega), l71, if_pos (by unfold r32; omega), if_neg (by first | decide | omega), if_pos (by unfold r32; omega), ← e274, ← hlast]
        by_cases y : i + 1 = c
        · rw [if_pos y, if_pos y]
        · rw [if_neg y, if_neg y]
      · rw [ea] at y3
        rcases y3 with y3 | y3
        · left
          rw [y3, ← List.append_assoc, ea, ← List.append_assoc]
        · exact Or.inr y3
end
end

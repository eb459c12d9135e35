section
/-! ===== the tokens of a text, as a list of places; the class finds them ===== -/
def lexL (t : Int → Int) (n : Int) : Nat → Int → List (Int × Int)
  | 0, _ => []
  | f + 1, p => if n ≤ p then [] else if bBlank (t p) = 0 then (if bRun (t p) = 0 then (p, p + 1) :: lexL t n f (p + 1) else (p, runQ t n p) :: lexL t n f (runQ t n p)) else lexL t n f (p + 1)
theorem runQ_b {t : Int → Int} {n p : Int} (hn : n ≤ 3000) (h0 : 0 ≤ p) (h : ¬ n ≤ p) (hb : ¬ bRun (t p) = 0) : p < runQ t n p ∧ runQ t n p ≤ n := runE_run h hb (by first | decide | omega)
theorem lexL_f {t : Int → Int} {n : Int} (hn : n ≤ 3000) : ∀ {f g : Nat} {p : Int}, 0 ≤ p → n - p < f → n - p < g → 0 < f → 0 < g → lexL t n f p = lexL t n g p := by
  intro f
  induction f with
  | zero => intro g p _ _ _ h _; omega
  | succ f ih =>
    intro g p h0 a b _ d
    obtain ⟨g, rfl⟩ : ∃ x, g = x + 1 := ⟨g - 1, (by first | decide | omega)⟩
    unfold lexL
    by_cases h : n ≤ p
    · rw [if_pos h, if_pos h]
    · rw [if_neg h, if_neg h]
      by_cases q : bBlank (t p) = 0
      · rw [if_pos q, if_pos q]
        by_cases w : bRun (t p) = 0
        · rw [if_pos w, if_pos w, ih (g := g) (by first | decide | omega) (by first | decide | omega) (by first | decide | omega) (by first | decide | omega) (by first | decide | omega)]
        · have := runQ_b hn h0 h w
          rw [if_neg w, if_neg w, ih (g := g) (by first | decide | omega) (by first | decide | omega) (by first | decide | omega) (by first | decide | omega) (by first | decide | omega)]
      · rw [if_neg q, if_neg q, ih (g := g) (by first | decide | omega) (by first | decide | omega) (by first | decide | omega) (by first | decide | omega) (by first | decide | omega)]
def lexF (t : Int → Int) (n p : Int) : List (Int × Int) := lexL t n 3002 p
theorem lexF_0 {t : Int → Int} {n p : Int} (h : n ≤ p) : lexF t n p = [] := by
  unfold lexF
  show lexL t n (3001 + 1) p = _
  unfold lexL
  rw [if_pos h]
theorem lexF_b {t : Int → Int} {n p : Int} (hn : n ≤ 3000) (h0 : 0 ≤ p) (h : ¬ n ≤ p) (hb : ¬ bBlank (t p) = 0) : lexF t n p = lexF t n (p + 1) := by
  rw [show lexF t n p = lexL t n (3001 + 1) p from rfl]
  unfold lexL
  rw [if_neg h, if_neg hb]
  exact lexL_f (f := 3001) (g := 3002) hn (by first | decide | omega) (by first | decide | omega) (by first | decide | omega) (by first | decide | omega) (by first | decide | omega)
theorem lexF_s {t : Int → Int} {n p : Int} (hn : n ≤ 3000) (h0 : 0 ≤ p) (h : ¬ n ≤ p) (hb : bBlank (t p) = 0) (hr : bRun (t p) = 0) : lexF t n p = (p, p + 1) :: lexF t n (p + 1) := by
  rw [show lexF t n p = lexL t n (3001 + 1) p from rfl]
  unfold lexL
  rw [if_neg h, if_pos hb, if_pos hr]
  rw [lexL_f (f := 3001) (g := 3002) hn (by first | decide | omega) (by first | decide | omega) (by first | decide | omega) (by first | decide | omega) (by first | decide | omega)]
  rfl
theorem lexF_r {t : Int → Int} {n p : Int} (hn : n ≤ 3000) (h0 : 0 ≤ p) (h : ¬ n ≤ p) (hb : bBlank (t p) = 0) (hr : ¬ bRun (t p) = 0) : lexF t n p = (p, runQ t n p) :: lexF t n (runQ t n p) := by
  have := runQ_b hn h0 h hr
  rw [show lexF t n p = lexL t n (3001 + 1) p from rfl]
  unfold lexL
  rw [if_neg h, if_pos hb, if_neg hr]
  rw [lexL_f (f := 3001) (g := 3002) hn (by first | decide | omega) (by first | decide | omega) (by first | decide | omega) (by first | decide | omega) (by first | decide | omega)]
  rfl
def tokK (t : Int → Int) (a : Int × Int) : Int := if bRun (t a.1) = 0 then (if bSg (t a.1) = 0 then 1 else 5) else runK t a.1 (a.2 - a.1)
def tokV (t : Int → Int) (a : Int × Int) : Int := if bRun (t a.1) = 0 then t a.1 else runV t a.1 a.2
def lexC (t : Int → Int) (n : Int) : List (Int × Int) → Int → zB → Prop
  | [], T, B => B 10 0 5 T = 0 ∧ B 10 0 6 T = n ∧ B 10 0 7 T = 0
  | a :: L, T, B => B 10 0 5 T = tokK t a ∧ B 10 0 6 T = a.1 ∧ B 10 0 7 T = tokV t a ∧ lexC t n L (T + 1) B
/-- nothing but the rows ks of object 0 of class cc changes, and these from T on alone -/
def frG (cc : Nat) (ks : List Nat) (T : Int) (B B' : zB) : Prop := ∀ c i k j, ¬ (c = cc ∧ i = 0 ∧ k ∈ ks ∧ T ≤ j) → B' c i k j = B c i k j
theorem frG_r {cc : Nat} {ks : List Nat} {T : Int} {B : zB} : frG cc ks T B B := fun _ _ _ _ _ => rfl
theorem frG_u {cc : Nat} {ks : List Nat} {k : Nat} {T v j : Int} {B B' : zB} (h : frG cc ks T B B') (hk : k ∈ ks) (hj : T ≤ j) : frG cc ks T B (zup4 B' cc 0 k j v) := by
  intro c i x y hn
  rw [zup4_v, if_neg (fun z => hn ⟨z.1, z.2.1, by rw [z.2.2.1]; exact hk, by rw [z.2.2.2]; exact hj⟩)]
  exact h c i x y hn
theorem frG_t {cc : Nat} {ks : List Nat} {T : Int} {B B' B'' : zB} (h : frG cc ks T B B') (h' : frG cc ks T B' B'') : frG cc ks T B B'' := fun c i k j hn => by rw [h' c i k j hn, h c i k j hn]
theorem frG_m {cc : Nat} {ks : List Nat} {T U : Int} {B B' : zB} (h : frG cc ks T B B') (hk : U ≤ T) : frG cc ks U B B' := fun c i k j hn => h c i k j (fun z => hn ⟨z.1, z.2.1, z.2.2.1, Int.le_trans hk z.2.2.2⟩)
theorem frG_c {ks : List Nat} {T : Int} {B B' : zB} (h : frC ks T B B') (hk : ∀ k ∈ ks, k ∈ [5, 6, 7]) : frG 10 [5, 6, 7] T B B' := fun c i k j hn => h c i k j (fun z => hn ⟨z.1, z.2.1, hk k z.2.2.1, Int.le_of_eq z.2.2.2.symm⟩)
theorem frG_f {ks ls : List Nat} {T : Int} {B B' : zB} (h : frT ks T B B') (hk : ∀ k ∈ ks, k ∈ ls) : frG 14 ls T B B' := fun c i k j hn => h c i k j (fun z => hn ⟨z.1, z.2.1, hk k z.2.2.1, Int.le_of_eq z.2.2.2.symm⟩)
theorem frG_0 {cc : Nat} {ks : List Nat} {T : Int} {B B' : zB} (h : frG cc ks T B B') (hc : cc ≠ 0) : B' 0 0 0 = B 0 0 0 := by
  funext y; exact h 0 0 0 y (fun z => hc z.1.symm)
theorem lexC_1 {t : Int → Int} {n : Int} {a : Int × Int} {L : List (Int × Int)} {T : Int} {B B' : zB} (h5 : B 10 0 5 T = tokK t a) (h6 : B 10 0 6 T = a.1) (h7 : B 10 0 7 T = tokV t a) (f : frG 10 [5, 6, 7] (T + 1) B B') (h : lexC t n L (T + 1) B') : lexC t n (a :: L) T B' := by
  refine ⟨?_, ?_, ?_, h⟩
  · rw [f 10 0 5 T (fun z => by have := z.2.2.2; omega)]; exact h5
  · rw [f 10 0 6 T (fun z => by have := z.2.2.2; omega)]; exact h6
  · rw [f 10 0 7 T (fun z => by have := z.2.2.2; omega)]; exact h7
/-- the class's step to its next token -/
def advF (F : zF) (B : zB) : zF := if B 10 0 5 (F 10 0 8) = 2 then zup3 (zup3 (zup3 (zup3 (zup3 (zup3 F 10 0 0 (B 10 0 5 (F 10 0 8))) 10 0 1 (B 10 0 6 (F 10 0 8))) 10 0 2 (B 10 0 7 (F 10 0 8))) 10 0 3 (zdv (B 10 0 7 (F 10 0 8)) 8)) 10 0 4 ((zrm (B 10 0 7 (F 10 0 8)) 8) - 2)) 10 0 8 (if 3000 ≤ F 10 0 8 then F 10 0 8 else F 10 0 8 + 1) else zup3 (zup3 (zup3 (zup3 F 10 0 0 (B 10 0 5 (F 10 0 8))) 10 0 1 (B 10 0 6 (F 10 0 8))) 10 0 2 (B 10 0 7 (F 10 0 8))) 10 0 8 (if B 10 0 5 (F 10 0 8) = 0 ∨ 3000 ≤ F 10 0 8 then F 10 0 8 else F 10 0 8 + 1)
theorem zup3_id {F : zF} {c k : Nat} {i v : Int} (h : F c i k = v) : zup3 F c i k v = F := by
  funext c' i' k'
  rw [zup3_v]
  split
  · rename_i z; rw [z.1, z.2.1, z.2.2]; exact h.symm
  · rfl
theorem C_advance {K : zK} {F : zF} {B : zB} (hK10 : 0 < K.2 10) (h0 : 0 ≤ F 10 0 8) (h1 : F 10 0 8 < 3001) (hr : r32 (B 10 0 5 (F 10 0 8))) : f_Tokens_advance K 0 F B = some (0, advF F B, B) := by
  refine zW_ex ?_
  unfold f_Tokens_advance
  refine zW_g ⟨(by first | decide | omega), hK10⟩ ?_
  refine zW_g ⟨h0, h1⟩ ?_
  refine zW_g hr ?_
  refine zW_i (fun h2 => ?_) (fun h2 => ?_)
  · unfold f_Tokens_advance_73
    refine zW_g ⟨(by first | decide | omega), hK10⟩ ?_
    refine zW_g (by simp [zup3_v]; omega) ?_
    refine zW_i (fun h3 => ?_) (fun h3 => ?_)
    · exfalso; simp [zup3_v] at h3; omega
    · refine zW_g (by simp [zup3_v]; omega) ?_
      refine zW_i (fun h4 => ?_) (fun h4 => ?_)
      · simp [zup3_v] at h4
        unfold f_Tokens_advance_100
        refine zW_s ⟨rfl, ?_, rfl⟩
        unfold advF
        rw [if_pos h2, if_pos h4]
        exact (zup3_id (by simp [zup3_v])).symm
      · simp [zup3_v] at h4
        unfold f_Tokens_advance_100
        refine zW_s ⟨rfl, ?_, rfl⟩
        unfold advF
        rw [if_pos h2, if_neg (by first | decide | omega)]
        simp [zup3_v]
  · unfold f_Tokens_advance_73
    refine zW_g ⟨(by first | decide | omega), hK10⟩ ?_
    refine zW_g (by simp [zup3_v]; omega) ?_
    refine zW_i (fun h3 => ?_) (fun h3 => ?_)
    · simp [zup3_v] at h3
      unfold f_Tokens_advance_100
      refine zW_s ⟨rfl, ?_, rfl⟩
      unfold advF
      rw [if_neg h2, if_pos (Or.inl h3)]
      exact (zup3_id (by simp [zup3_v])).symm
    · simp [zup3_v] at h3
      refine zW_g (by simp [zup3_v]; omega) ?_
      refine zW_i (fun h4 => ?_) (fun h4 => ?_)
      · simp [zup3_v] at h4
        unfold f_Tokens_advance_100
        refine zW_s ⟨rfl, ?_, rfl⟩
        unfold advF
        rw [if_neg h2, if_pos (Or.inr h4)]
        exact (zup3_id (by simp [zup3_v])).symm
      · simp [zup3_v] at h4
        unfold f_Tokens_advance_100
        refine zW_s ⟨rfl, ?_, rfl⟩
        unfold advF
        rw [if_neg h2, if_neg (by first | decide | omega)]
        simp [zup3_v]
theorem k5_u {B : zB} {k : Nat} {T v : Int} (h : ∀ j, r32 (B 10 0 5 j)) (hv : r32 v) : ∀ j, r32 (zup4 B 10 0 k T v 10 0 5 j) := by
  intro j
  rw [zup4_v]
  split
  · exact hv
  · exact h j
theorem k5_o {B : zB} {k : Nat} {T v : Int} (h : ∀ j, r32 (B 10 0 5 j)) (hk : k ≠ 5) : ∀ j, r32 (zup4 B 10 0 k T v 10 0 5 j) := by
  intro j
  rw [zup4_v, if_neg (fun z => hk z.2.2.1.symm)]
  exact h j
theorem runK_r (t : Int → Int) (p s : Int) : 1 ≤ runK t p s ∧ runK t p s ≤ 4 := by
  unfold runK
  split
  · omega
  · split
    · omega
    · split <;> omega
/-- what the class's tokens are, once they are found -/
def lexP (t : Int → Int) (n p T : Int) (F : zF) (B : zB) (F' : zF) (B' : zB) : Prop := F' = advF (zup3 F 10 0 8 0) B' ∧ lexC t n (lexF t n p) T B' ∧ frG 10 [5, 6, 7] T B B' ∧ ∀ j, r32 (B' 10 0 5 j)
theorem C_st135 {K : zK} {F : zF} {B : zB} {t : Int → Int} {n p T : Int} (hK0 : 0 < K.2 0) (hK10 : 0 < K.2 10) (hn : F 0 0 1 = n) (hT : 0 ≤ T ∧ T < 3001) (hp : n ≤ p) (h5 : ∀ j, r32 (B 10 0 5 j)) : zW (f_Tokens_start_135 K T 0 0 F B) (fun _ F' B' => lexP t n p T F B F' B') := by
  have k5 : ∀ j, r32 ((zup4 (zup4 (zup4 B 10 0 5 T 0) 10 0 6 T (F 0 0 1)) 10 0 7 T 0) 10 0 5 j) := k5_o (k5_o (k5_u h5 (by decide)) (by decide)) (by decide)
  unfold f_Tokens_start_135
  refine zW_g ⟨(by first | decide | omega), hK10⟩ ?_
  refine zW_g hT ?_
  refine zW_g ⟨(by first | decide | omega), hK0⟩ ?_
  refine zW_e (C_advance hK10 (by simp [zup3_v]) (by simp [zup3_v]) (k5 _)) ?_
  refine zW_s ⟨rfl, ?_, frG_u (frG_u (frG_u frG_r (by decide) (by first | decide | omega)) (by decide) (by first | decide | omega)) (by decide) (by first | decide | omega), k5⟩
  rw [lexF_0 hp]
  refine ⟨?_, ?_, ?_⟩
  · simp [zup4_v]
  · simp [zup4_v, hn]
  · simp [zup4_v]
theorem C_st7 {K : zK} {F : zF} {t : Int → Int} {n : Int} (hK : 3002 ≤ K.1) (hK0 : 0 < K.2 0) (hK10 : 0 < K.2 10) (hn : F 0 0 1 = n) (n0 : 0 ≤ n) (n2 : n ≤ 3000) (hb : ∀ y, 0 ≤ t y ∧ t y < 256) : ∀ {m : Nat} {i T p : Int} {B : zB}, 0 ≤ i → i ≤ p → 0 ≤ T → T ≤ p → p ≤ n → n - p < m → B 0 0 0 = t → (∀ j, r32 (B 10 0 5 j)) → zW (f_Tokens_start_7 K m i T p 0 0 F B) (fun _ F' B' => lexP t n p T F B F' B') := by
  intro m
  induction m with
  | zero => intro i T p B _ _ _ _ _ _; omega
  | succ m ih =>
    intro i T p B i0 i1 T0 T1 p1 hm ht k5
    have hbp := hb p
    have e6 : (zup4 B 10 0 6 T p) 0 0 0 = t := (frG_0 (frG_u (cc := 10) (ks := [5, 6, 7]) (T := T) frG_r (by decide) (by first | decide | omega)) (by decide)).trans ht
    have h56 : ∀ j, r32 ((zup4 B 10 0 6 T p) 10 0 5 j) := k5_o k5 (by decide)
    unfold f_Tokens_start_7
    refine zW_g (by first | decide | omega) ?_
    refine zW_i (fun h1 => ?_) (fun h1 => ?_)
    · skip
      exact C_st135 hK0 hK10 hn (by first | decide | omega) (by first | decide | omega) k5
    · skip
      refine zW_g (by first | decide | omega) ?_
      refine zW_g (by first | decide | omega) ?_
      refine zW_g (by first | decide | omega) ?_
      refine zW_i (fun h2 => ?_) (fun h2 => ?_)
      · skip
        exact C_st135 hK0 hK10 hn (by first | decide | omega) (by first | decide | omega) k5
      · skip
        have hat : f_ByteRow_at K 0 p F B = some (t p, F, B) := by
          rw [← ht]; exact C_at0 hK0 (by first | decide | omega) (by first | decide | omega) (by first | decide | omega)
        refine zW_e (hat) ?_
        refine zW_e (C_Blank (by first | decide | omega)) ?_
        refine zW_g (by exact bBlank_r _) ?_
        refine zW_i (fun h3 => ?_) (fun h3 => ?_)
        · skip
          refine zW_e (C_Run (by first | decide | omega)) ?_
          refine zW_g (by exact bRun_r _) ?_
          refine zW_i (fun h4 => ?_) (fun h4 => ?_)
          · skip
            unfold f_Tokens_start_63
            refine zW_g (by first | decide | omega) ?_
            refine zW_g (by first | decide | omega) ?_
            refine zW_e (C_Run (by first | decide | omega)) ?_
            refine zW_g (by exact bRun_r _) ?_
            refine zW_i (fun h5 => ?_) (fun h5 => ?_)
            · skip
              rw [zi2c_b (b := t p) (by first | decide | omega) (by first | decide | omega)]
              obtain ⟨r21, hs1, hs2, hs3⟩ := C_sign (K := K) (b := t p) (F := F) (B := zup4 B 10 0 6 T p) (by first | decide | omega) (by first | decide | omega) (by first | decide | omega)
              refine zW_e (hs1) ?_
              refine zW_g (by exact hs2) ?_
              refine zW_i (fun h6 => ?_) (fun h6 => ?_)
              · skip
                unfold f_Tokens_start_113
                refine zW_g (by first | decide | omega) ?_
                refine zW_g (by first | decide | omega) ?_
                refine zW_g (by first | decide | omega) ?_
                refine zW_g (by first | decide | omega) ?_
                refine zW_g (by first | decide | omega) ?_
                unfold f_Tokens_start_123
                unfold f_Tokens_start_129
                have hsg : bSg (t p) = 0 := hs3.mp h6
                refine zW_m (ih (i := i + 1) (T := T + 1) (p := p + 1) (by first | decide | omega) (by first | decide | omega) (by first | decide | omega) (by first | decide | omega) (by first | decide | omega) (by first | decide | omega) ((frG_0 (frG_u (frG_u (frG_u (cc := 10) (ks := [5, 6, 7]) (T := T) frG_r (by decide) (by first | decide | omega)) (by decide) (by first | decide | omega)) (by decide) (by first | decide | omega)) (by decide)).trans ht) (k5_o (k5_u h56 (by decide)) (by decide))) (fun r F' B' hh => ?_)
                obtain ⟨g1, g2, g3, g4⟩ := hh
                refine ⟨g1, ?_, frG_t (frG_u (frG_u (frG_u (cc := 10) (ks := [5, 6, 7]) (T := T) frG_r (by decide) (by first | decide | omega)) (by decide) (by first | decide | omega)) (by decide) (by first | decide | omega)) (frG_m g3 (by first | decide | omega)), g4⟩
                rw [lexF_s n2 (by first | decide | omega) (by first | decide | omega) h3 h4]
                refine lexC_1 ?_ ?_ ?_ g3 g2
                · simp [zup4_v, tokK, h4, hsg]
                · simp [zup4_v]
                · simp [zup4_v, tokV, h4]
              · skip
                unfold f_Tokens_start_113
                refine zW_g (by first | decide | omega) ?_
                refine zW_g (by first | decide | omega) ?_
                refine zW_g (by first | decide | omega) ?_
                refine zW_g (by first | decide | omega) ?_
                refine zW_g (by first | decide | omega) ?_
                unfold f_Tokens_start_123
                unfold f_Tokens_start_129
                have hsg : ¬ bSg (t p) = 0 := fun z => h6 (hs3.mpr z)
                refine zW_m (ih (i := i + 1) (T := T + 1) (p := p + 1) (by first | decide | omega) (by first | decide | omega) (by first | decide | omega) (by first | decide | omega) (by first | decide | omega) (by first | decide | omega) ((frG_0 (frG_u (frG_u (frG_u (cc := 10) (ks := [5, 6, 7]) (T := T) frG_r (by decide) (by first | decide | omega)) (by decide) (by first | decide | omega)) (by decide) (by first | decide | omega)) (by decide)).trans ht) (k5_o (k5_u h56 (by decide)) (by decide))) (fun r F' B' hh => ?_)
                obtain ⟨g1, g2, g3, g4⟩ := hh
                refine ⟨g1, ?_, frG_t (frG_u (frG_u (frG_u (cc := 10) (ks := [5, 6, 7]) (T := T) frG_r (by decide) (by first | decide | omega)) (by decide) (by first | decide | omega)) (by decide) (by first | decide | omega)) (frG_m g3 (by first | decide | omega)), g4⟩
                rw [lexF_s n2 (by first | decide | omega) (by first | decide | omega) h3 h4]
                refine lexC_1 ?_ ?_ ?_ g3 g2
                · simp [zup4_v, tokK, h4, hsg]
                · simp [zup4_v]
                · simp [zup4_v, tokV, h4]
            · skip
              exact absurd h4 h5
          · skip
            have hq := runQ_b (t := t) (n := n) (p := p) n2 (by first | decide | omega) (by first | decide | omega) h4
            have hrE : f_Tokens_runEnd K 0 p F B = some (runQ t n p, F, B) := by
              unfold f_Tokens_runEnd
              rw [C_runEnd hK0 (by first | decide | omega) (by rw [ht]; exact hb) (by first | decide | omega) (by first | decide | omega) (by first | decide | omega), ht, hn, runE_f (f := K.1) (g := 3002) (by first | decide | omega) (by first | decide | omega)]
              rfl
            refine zW_e (hrE) ?_
            unfold f_Tokens_start_63
            refine zW_g (by first | decide | omega) ?_
            refine zW_g (by first | decide | omega) ?_
            refine zW_e (C_Run (by first | decide | omega)) ?_
            refine zW_g (by exact bRun_r _) ?_
            refine zW_i (fun h7 => ?_) (fun h7 => ?_)
            · skip
              exact absurd h7 h4
            · skip
              refine zW_b (C_keepRun hK hK0 hK10 (by first | decide | omega) (by rw [e6]; exact hb) (by first | decide | omega) (by first | decide | omega) hq.1 (by first | decide | omega)) (fun r24 F24 B24 er24 => ?_)
              unfold f_Tokens_start_123
              unfold f_Tokens_start_129
              obtain ⟨e24, k1, k2, k3⟩ := er24
              rw [e6] at k2 k3
              rw [e24]
              have k24 : ∀ j, r32 (B24 10 0 5 j) := by
                intro j
                by_cases hj : j = T
                · rw [hj, k2]
                  have := runK_r t p (runQ t n p - p)
                  omega
                · rw [k1 10 0 5 j (fun z => hj z.2.2.2)]; exact h56 j
              refine zW_m (ih (i := i + 1) (T := T + 1) (p := runQ t n p) (by first | decide | omega) (by first | decide | omega) (by first | decide | omega) (by first | decide | omega) (by first | decide | omega) (by first | decide | omega) ((frC_0 k1).trans e6) k24) (fun r F' B' hh => ?_)
              obtain ⟨g1, g2, g3, g4⟩ := hh
              refine ⟨g1, ?_, frG_t (frG_t (frG_u frG_r (by decide) (by first | decide | omega)) (frG_c k1 (by decide))) (frG_m g3 (by first | decide | omega)), g4⟩
              rw [lexF_r n2 (by first | decide | omega) (by first | decide | omega) h3 h4]
              refine lexC_1 ?_ ?_ ?_ g3 g2
              · rw [k2]; simp [tokK, h4]
              · rw [k1 10 0 6 T (by simp)]; simp [zup4_v]
              · rw [k3]; simp [tokV, h4]
        · skip
          unfold f_Tokens_start_129
          rw [show lexP t n p T F B = lexP t n (p + 1) T F B by unfold lexP; rw [lexF_b n2 (by first | decide | omega) (by first | decide | omega) h3]]
          exact ih (by first | decide | omega) (by first | decide | omega) (by first | decide | omega) (by first | decide | omega) (by first | decide | omega) (by first | decide | omega) ht k5
theorem C_start {K : zK} {F : zF} {B : zB} {t : Int → Int} {n : Int} (hK : 3002 ≤ K.1) (hK0 : 0 < K.2 0) (hK10 : 0 < K.2 10) (hn : F 0 0 1 = n) (h0 : 0 ≤ n) (h2 : n ≤ 3000) (hb : ∀ y, 0 ≤ t y ∧ t y < 256) (ht : B 0 0 0 = t) (h5 : ∀ j, r32 (B 10 0 5 j)) : zW (f_Tokens_start K 0 0 F B) (fun _ F' B' => lexP t n 0 0 F B F' B') := by
  unfold f_Tokens_start
  exact C_st7 hK hK0 hK10 hn h0 h2 hb (by first | decide | omega) (by first | decide | omega) (by first | decide | omega) (by first | decide | omega) (by first | decide | omega) (by first | decide | omega) ht h5
end

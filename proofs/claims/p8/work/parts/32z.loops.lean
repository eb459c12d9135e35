section
/-! ===== down: the voices one after another ===== -/
def clV (tn tk : Int → Int) (N s : Int) : Int := if sm60 tn s (nxG tk s N - s).toNat < 0 then 1 else 0
/-- the text of all voices from s on; the rows of the reference hold its spans -/
def VTx (K : zK) (o f w g D N : Int) (bg en tn tk nb : Int → Int) (n d b last : Int) (B : zB) : Nat → Int → Int → List Int → Prop
  | 0, _, _, U => U = []
  | fu + 1, s, v, U => if s < N ∧ v < 4 then ∃ EL U', (B 13 w 8 v = clV tn tk N s ∧ B 13 w 9 v = nb (tk s) ∧ B 13 w 12 v = (EL.length : Int) ∧ (EL.length : Int) ≤ 800 ∧ EVn (512 / g) w v B 0 EL) ∧ (GLp K o f (fun i => gplF g D (bg i)) (fun i => gplF g D (en i)) tn (nxG tk s N) 400 s 0 EL ∧ CHN 0 EL ∧ endN 0 EL ≤ last) ∧ U = (vHd v (clV tn tk N s) (nb (tk s)) ++ (vNt n d b (512 / g) last EL ++ [125, 10])) ++ U' ∧ VTx K o f w g D N bg en tn tk nb n d b last B fu (nxG tk s N) (v + 1) U' else U = []
def FRs (T : List Int) (r : Int) (F : zF) (B : zB) : Prop := ((T.length : Int) ≤ 3000 ∧ r = (T.length : Int) ∧ F 14 0 71 = (T.length : Int) ∧ ∀ j : Nat, j < T.length → B 14 0 70 j % 256 = tbA T j % 256) ∨ (3000 < (T.length : Int) ∧ r = -2 ∧ F 14 0 71 = 0)
def dvX (w : Int) (B B' : zB) : Prop := ∀ c i k y, ¬ (c = 13 ∧ i = w ∧ 8 ≤ k ∧ k ≤ 35) → ¬ (c = 14 ∧ i = 0 ∧ k = 70) → B' c i k y = B c i k y
section
variable {Km : Nat} {K : zK} {o f w g D N n d b last : Int} {bg en tn tk nb : Int → Int}
theorem VTx_f {B B' : zB} : ∀ (fu : Nat) (s v : Int) (U : List Int), VTx K o f w g D N bg en tn tk nb n d b last B fu s v U → (∀ k y, ((k = 8 ∨ k = 9 ∨ k = 12) ∧ v ≤ y) ∨ ((k = 16 ∨ k = 17 ∨ k = 21 ∨ k = 22) ∧ 1000 * v ≤ y) ∨ ((k = 28 ∨ k = 29) ∧ 6000 * v ≤ y) → B' 13 w k y = B 13 w k y) → VTx K o f w g D N bg en tn tk nb n d b last B' fu s v U := by
  intro fu
  induction fu with
  | zero => intro s v U h _; exact h
  | succ fu ih =>
    intro s v U h e
    rw [VTx] at h ⊢
    by_cases c : s < N ∧ v < 4
    · rw [if_pos c] at h ⊢
      obtain ⟨EL, U', ⟨h1, h2, h3, h4, h5⟩, h6, h7, h8⟩ := h
      refine ⟨EL, U', ⟨?_, ?_, ?_, h4, ?_⟩, h6, h7, ?_⟩
      · rw [e 8 v (by first | decide | omega)]; exact h1
      · rw [e 9 v (by first | decide | omega)]; exact h2
      · rw [e 12 v (by first | decide | omega)]; exact h3
      · exact EVn_f EL 0 h5 (fun k y hk a b => e k y (by first | decide | omega)) (fun k y hk a b => e k y (by first | decide | omega))
      · exact ih _ _ _ h8 (fun k y hk => e k y (by first | decide | omega))
    · rw [if_neg c] at h ⊢
      exact h
theorem lpB_a {gB gE : Int → Int} : ∀ (fu : Nat) (s v a : Int), a ≤ lpB gB gE tk N fu s v a := by
  intro fu
  induction fu with
  | zero => intro s v a; rw [lpB]; omega
  | succ fu ih =>
    intro s v a
    rw [lpB]
    split
    · have := ih (nxG tk s N) (v + 1) (zmax a (lsG gB gE (nxG tk s N) 400 s 0))
      have z : a ≤ zmax a (lsG gB gE (nxG tk s N) 400 s 0) := by unfold zmax; split <;> omega
      omega
    · omega
theorem tk_nx {s : Int} (dq : DTq g D N bg en tn tk) (hs : 0 ≤ s ∧ s < N) (hl : ∀ i, 0 ≤ i → i < s → tk i < tk s) : nxG tk s N < N → ∀ i, 0 ≤ i → i < nxG tk s N → tk i < tk (nxG tk s N) := fun h i i0 i1 => by
  have hN := dq.2.2.1
  obtain ⟨p1, p2, p3, p4⟩ := nxG_p (gB := tk) hs.2 (by first | decide | omega) hs.1
  have m := tkk_m dq (nxG tk s N - s).toNat s hs.1 (by first | decide | omega)
  rw [show s + ((nxG tk s N - s).toNat : Int) = nxG tk s N by omega] at m
  have := p4 h
  rcases Int.lt_or_le i s with z | z
  · have := hl i i0 z
    omega
  · have := p3 i z i1
    omega
theorem VT_e {B : zB} (dq : DTq g D N bg en tn tk) : ∀ (fu : Nat) (s v a : Int), N - s ≤ fu → 0 ≤ s → s ≤ N → (s < N → ∀ i, 0 ≤ i → i < s → tk i < tk s) → lpB (fun i => gplF g D (bg i)) (fun i => gplF g D (en i)) tk N fu s v a ≤ last → VOs K o f w g D N bg en tn tk nb B v (vlB tk N fu s v) → ∃ U, VTx K o f w g D N bg en tn tk nb n d b last B fu s v U := by
  have hN := dq.2.2.1
  intro fu
  induction fu with
  | zero => intro s v a _ _ _ _ _ _; exact ⟨[], rfl⟩
  | succ fu ih =>
    intro s v a hf s0 sN ho hl h
    rw [vlB] at h
    rw [lpB] at hl
    by_cases c : s < N ∧ v < 4
    · rw [if_pos c] at h hl
      obtain ⟨⟨h1, h2, EL, h3, h4, h5, h6⟩, h7⟩ := h
      obtain ⟨p1, p2, _, _⟩ := nxG_p (gB := tk) c.1 (by first | decide | omega) s0
      obtain ⟨c1, c2⟩ := GL_c (s0 := s) dq p2 (blk_m dq (blk_o dq ⟨s0, c.1⟩ (ho c.1))) 400 s 0 EL (by first | decide | omega) s0 (by first | decide | omega) (fun _ => (gpl_b dq.1 dq.2.1 (dq.2.2.2.1 s s0 c.1).2.2.1).1) h3
      have la := lpB_a (tk := tk) (N := N) (gB := fun i => gplF g D (bg i)) (gE := fun i => gplF g D (en i)) fu (nxG tk s N) (v + 1) (zmax a (lsG (fun i => gplF g D (bg i)) (fun i => gplF g D (en i)) (nxG tk s N) 400 s 0))
      have lz : lsG (fun i => gplF g D (bg i)) (fun i => gplF g D (en i)) (nxG tk s N) 400 s 0 ≤ zmax a (lsG (fun i => gplF g D (bg i)) (fun i => gplF g D (en i)) (nxG tk s N) 400 s 0) := by unfold zmax; split <;> omega
      obtain ⟨U, hU⟩ := ih (nxG tk s N) (v + 1) _ (by first | decide | omega) (by first | decide | omega) p2 (tk_nx dq ⟨s0, c.1⟩ (ho c.1)) hl h7
      refine ⟨(vHd v (clV tn tk N s) (nb (tk s)) ++ (vNt n d b (512 / g) last EL ++ [125, 10])) ++ U, ?_⟩
      rw [VTx, if_pos c]
      exact ⟨EL, U, ⟨h1, h2, h4, h5, EVL_n dq.1 EL 0 0 c1 h6⟩, ⟨h3, c1, (by first | decide | omega)⟩, rfl, hU⟩
    · refine ⟨[], ?_⟩
      rw [VTx, if_neg c]
theorem C_w95 {Bm : zB} (hK : KKq K) (hb : BRs n d b) (dq : DTq g D N bg en tn tk) (hl : 0 ≤ last ∧ 512 / g * last ≤ 100 * b) : ∀ (fu m : Nat) (s v : Int) (T U : List Int) (F : zF) (B : zB), N - s ≤ fu → fu < m → 0 ≤ s → s ≤ N → 0 ≤ v → v ≤ 4 → (s < N → ∀ i, 0 ≤ i → i < s → tk i < tk s) → VTx K o f w g D N bg en tn tk nb n d b last Bm fu s v U → (∀ i, 0 ≤ i → i < N → zmax (B 8 o 3 (tk i)) 0 = nb (tk i) ∧ r32 (B 8 o 3 (tk i)) ∧ 0 ≤ nb (tk i) ∧ nb (tk i) ≤ 3) → CFq K o g D N bg en tn tk F B → SCq K o n d b (F, B) → B 8 o 0 2 = f → TC (F, B) T F B → ∃ F' B', f_Scribe_writeDown_95 K m s v (512 / g * last) 0 o F B = f_Scribe_writeDown_135 K 0 F' B' ∧ TC (F', B') (T ++ U) F' B' ∧ wvF F F' ∧ wvB B B' := by
  have hN := dq.2.2.1
  intro fu
  induction fu with
  | zero =>
    intro m s v T U F B hf hm s0 sN v0 v4 ho hV hn hc hq b2 hT
    obtain ⟨p, rfl⟩ : ∃ p, m = p + 1 := ⟨m - 1, (by first | decide | omega)⟩
    obtain ⟨h1, h2, h3, h4, h5⟩ := hc
    rw [VTx] at hV
    rw [hV, List.append_nil]
    refine ⟨F, B, ?_, hT, fun _ _ _ _ => rfl, fun _ _ _ _ _ => rfl⟩
    rw [f_Scribe_writeDown_95, if_pos h1.2, if_pos (by unfold r32; omega), h4, if_pos (by unfold r32; omega), if_pos (by first | decide | omega)]
  | succ fu ih =>
    intro m s v T U F B hf hm s0 sN v0 v4 ho hV hn hc hq b2 hT
    obtain ⟨p, rfl⟩ : ∃ p, m = p + 1 := ⟨m - 1, (by first | decide | omega)⟩
    have hc' := hc
    obtain ⟨h1, h2, h3, h4, h5⟩ := hc'
    rw [VTx] at hV
    rw [f_Scribe_writeDown_95, if_pos h1.2, if_pos (by unfold r32; omega), h4, if_pos (by unfold r32; omega)]
    by_cases c : s < N ∧ v < 4
    · rw [if_pos c] at hV
      obtain ⟨EL, U', _, ⟨g1, g2, g3⟩, eU, hV'⟩ := hV
      obtain ⟨p1, p2, _, _⟩ := nxG_p (gB := tk) c.1 (by first | decide | omega) s0
      obtain ⟨F1, B1, e1, w1, w2, w3⟩ := C_wv (K := K) (o := o) (f := f) (a := s) (v := v) (u := 512 / g) (last := last) (cl := clV tn tk N s) (num := nb (tk s)) (EL := EL) (T := T) hK hb rfl dq ⟨s0, c.1⟩ (ho c.1) hl ⟨v0, c.2⟩ g1 g3 rfl (hn s s0 c.1) hc hq b2 hT
      have hc1 := CFq_w hc w2 w3
      obtain ⟨F2, B2, e2, x1, x2, x3⟩ := ih p (nxG tk s N) (v + 1) _ U' F1 B1 (by first | decide | omega) (by first | decide | omega) (by first | decide | omega) p2 (by first | decide | omega) (by first | decide | omega) (tk_nx dq ⟨s0, c.1⟩ (ho c.1)) hV' (fun i i0 i1 => by rw [w3 8 o 3 (tk i) (by first | decide | omega)]; exact hn i i0 i1) hc1 (SCq_f hq w2 w3) (by rw [w3 8 o 0 2 (by first | decide | omega)]; exact b2) w1
      refine ⟨F2, B2, ?_, ?_, fun c y k n => by rw [x2 c y k n, w2 c y k n], fun c y k x n => by rw [x3 c y k x n, w3 c y k x n]⟩
      · rw [if_neg (by first | decide | omega), if_pos (by unfold r32; omega), if_neg (by first | decide | omega), if_pos ⟨(by first | decide | omega), hK.2.1⟩, e1, zb_s, C_te hK.2.1 (by have := hK.2.2.2; omega) dq ⟨s0, c.1⟩ hc1, zb_s]
        exact e2
      · rw [eU, ← List.append_assoc]
        exact x1
    · rw [if_neg c] at hV
      rw [hV, List.append_nil]
      refine ⟨F, B, ?_, hT, fun _ _ _ _ => rfl, fun _ _ _ _ _ => rfl⟩
      by_cases z : N ≤ s
      · rw [if_pos z]
      · rw [if_neg z, if_pos (by unfold r32; omega), if_pos (by first | decide | omega)]
theorem M_284 {T : List Int} {F : zF} {B : zB} (h : T.length ≤ 8000) (hT : TM (F, B) T F B) : ∃ r F', f_M_down_284 Km 1 F B = some (r, F', B) ∧ FRs T r F' B ∧ (∀ c y k, ¬ (c = 14 ∧ y = 0 ∧ k = 71) → F' c y k = F c y k) := by
  unfold f_M_down_284 f_M_down_304
  rw [if_pos (by unfold r32; omega), if_neg (by decide), hT.1.1, if_pos (by unfold r32; omega)]
  by_cases c : 3000 < (T.length : Int)
  · rw [if_pos c]
    exact ⟨_, _, rfl, Or.inr ⟨c, rfl, by rw [zup3_v, if_pos (by first | decide | omega)]⟩, fun c y k n => by rw [zup3_v, if_neg n]⟩
  · rw [if_neg c]
    exact ⟨_, _, rfl, Or.inl ⟨(by first | decide | omega), rfl, hT.1.1, hT.1.2⟩, fun _ _ _ _ => rfl⟩
theorem M_284x {T : List Int} {F : zF} {B : zB} (h : 3000 < F 14 0 71 ∧ F 14 0 71 ≤ 5000) (hT : 3000 < (T.length : Int)) : ∃ r F', f_M_down_284 Km 1 F B = some (r, F', B) ∧ FRs T r F' B ∧ (∀ c y k, ¬ (c = 14 ∧ y = 0 ∧ k = 71) → F' c y k = F c y k) := by
  unfold f_M_down_284 f_M_down_304
  rw [if_pos (by unfold r32; omega), if_neg (by decide), if_pos (by unfold r32; omega), if_pos h.1]
  exact ⟨_, _, rfl, Or.inr ⟨hT, rfl, by rw [zup3_v, if_pos (by first | decide | omega)]⟩, fun c y k n => by rw [zup3_v, if_neg n]⟩
theorem vl_n (hN : N ≤ 400) : ∀ (fu : Nat) (s v : Int), 0 ≤ s → v ≤ 4 → v + ((vlB tk N fu s v).length : Int) ≤ 4 := by
  intro fu
  induction fu with
  | zero => intro s v _ h; rw [vlB]; simp only [List.length_nil]; omega
  | succ fu ih =>
    intro s v s0 h
    rw [vlB]
    split
    · rename_i c
      obtain ⟨p1, _, _, _⟩ := nxG_p (gB := tk) c.1 hN s0
      have := ih (nxG tk s N) (v + 1) (by first | decide | omega) (by first | decide | omega)
      rw [List.length_cons]
      omega
    · simp only [List.length_nil]; omega
theorem M_248 (hKm : 70000000000 < Km) (hb : BRs n d b) (dq : DTq g D N bg en tn tk) (hl : 0 ≤ last ∧ 512 / g * last ≤ 100 * b) (hnb : ∀ i, 0 ≤ i → i < N → 0 ≤ nb (tk i) ∧ nb (tk i) ≤ 3) : ∀ (fu m : Nat) (s v : Int) (T U : List Int) (F : zF) (B : zB), fu < m → 0 ≤ s → 0 ≤ v → v ≤ 4 → (F 14 0 6 = w ∧ 0 ≤ w ∧ w < 3) → F 13 w 1 = v + ((vlB tk N fu s v).length : Int) → F 13 w 4 = n → F 13 w 5 = d → VTx K o f w g D N bg en tn tk nb n d b last B fu s v U → T.length ≤ 8000 → TM (F, B) T F B → ∃ r F' B', f_M_down_248 Km m v 1 last g F B = some (r, F', B') ∧ FRs (T ++ U) r F' B' ∧ dvG w F F' ∧ dvX w B B' := by
  have hN := dq.2.2.1
  intro fu
  induction fu with
  | zero =>
    intro m s v T U F B hm s0 v0 v4 hw h1 m4 m5 hV ht hT
    obtain ⟨p, rfl⟩ : ∃ p, m = p + 1 := ⟨m - 1, (by first | decide | omega)⟩
    rw [VTx] at hV
    rw [vlB, List.length_nil] at h1
    rw [hV, List.append_nil]
    obtain ⟨r, F', e, e2, e3⟩ := M_284 (Km := Km) ht hT
    refine ⟨r, F', B, ?_, e2, fun c y k n _ => e3 c y k (by first | decide | omega), fun _ _ _ _ _ _ => rfl⟩
    rw [f_M_down_248, hw.1, if_pos hw.2, if_pos (by unfold r32; omega), h1, if_pos (by unfold r32; omega), if_pos (by first | decide | omega)]
    exact e
  | succ fu ih =>
    intro m s v T U F B hm s0 v0 v4 hw h1 m4 m5 hV ht hT
    obtain ⟨p, rfl⟩ : ∃ p, m = p + 1 := ⟨m - 1, (by first | decide | omega)⟩
    rw [VTx] at hV
    have b4 := vl_n (tk := tk) hN.2 (fu + 1) s v s0 v4
    rw [f_M_down_248, hw.1, if_pos hw.2, if_pos (by unfold r32; omega), h1, if_pos (by unfold r32; omega)]
    rw [vlB] at h1 b4 ⊢
    by_cases c : s < N ∧ v < 4
    · rw [if_pos c] at hV
      rw [if_pos c, List.length_cons] at h1 b4
      rw [if_pos c, List.length_cons, if_neg (by first | decide | omega), hT.1.1, if_pos (by unfold r32; omega)]
      obtain ⟨EL, U', ⟨r1, r2, r3, r4, r5⟩, ⟨g1, g2, g3⟩, eU, hV'⟩ := hV
      obtain ⟨p1, p2, _, _⟩ := nxG_p (gB := tk) c.1 (by first | decide | omega) s0
      by_cases z : 3000 < (T.length : Int)
      · rw [if_pos z]
        obtain ⟨r, F', e, e2, e3⟩ := M_284 (Km := Km) ht hT
        refine ⟨r, F', B, e, ?_, fun c y k n _ => e3 c y k (by first | decide | omega), fun _ _ _ _ _ _ => rfl⟩
        rcases e2 with q | q
        · omega
        · exact Or.inr ⟨by rw [List.length_append]; omega, q.2⟩
      · rw [if_neg z]
        have hcl : clV tn tk N s = 0 ∨ clV tn tk N s = 1 := by unfold clV; split <;> omega
        obtain ⟨F1, B1, e1, f1, f2, f3⟩ := M_dv (Km := Km) (g := g) (v := v) (w := w) (last := last) (T := T) hKm ⟨v0, c.2⟩ hw hb dq.1 hl r4 g2 g3 r3 m4 m5 r5 ⟨r1, hcl⟩ ⟨r2, hnb s s0 c.1⟩ (by first | decide | omega) hT
        have w1 : F1 14 0 6 = w ∧ 0 ≤ w ∧ w < 3 := ⟨by rw [f1 14 0 6 (by first | decide | omega) (by first | decide | omega)]; exact hw.1, hw.2⟩
        have q1 : F1 13 w 1 = v + 1 + ((vlB tk N fu (nxG tk s N) (v + 1)).length : Int) := by rw [f1 13 w 1 (by first | decide | omega) (by first | decide | omega), h1]; omega
        rw [e1, zb_s]
        rcases f3 with ⟨q, tl⟩ | ⟨q, q2⟩
        · obtain ⟨r, F', B', x1, x2, x3, x4⟩ := ih p (nxG tk s N) (v + 1) _ U' F1 B1 (by first | decide | omega) (by first | decide | omega) (by first | decide | omega) (by first | decide | omega) w1 q1 (by rw [f1 13 w 4 (by first | decide | omega) (by first | decide | omega)]; exact m4) (by rw [f1 13 w 5 (by first | decide | omega) (by first | decide | omega)]; exact m5) (VTx_f fu _ _ _ hV' (fun k y hk => f2 13 w k y (by first | decide | omega) (by first | decide | omega))) (by first | decide | omega) q
          refine ⟨r, F', B', x1, ?_, fun c y k n n' => by rw [x3 c y k n n', f1 c y k n n'], fun c i k y n n' => by rw [x4 c i k y n n', f2 c i k y (by first | decide | omega) n']⟩
          rw [eU, ← List.append_assoc]
          exact x2
        · have tl : 3000 < ((T ++ U).length : Int) := by
            rw [eU, ← List.append_assoc, List.length_append]
            omega
          obtain ⟨r, F', e, e2, e3⟩ := M_284x (Km := Km) (T := T ++ U) (B := B1) q tl
          refine ⟨r, F', B1, ?_, e2, fun c y k n n' => by rw [e3 c y k (by first | decide | omega), f1 c y k n n'], fun c i k y n n' => by rw [f2 c i k y (by first | decide | omega) n']⟩
          obtain ⟨p', rfl⟩ : ∃ p', p = p' + 1 := ⟨p - 1, (by first | decide | omega)⟩
          rw [f_M_down_248, w1.1, if_pos w1.2, if_pos (by unfold r32; omega), q1, if_pos (by unfold r32; omega)]
          by_cases y : v + 1 + ((vlB tk N fu (nxG tk s N) (v + 1)).length : Int) ≤ v + 1
          · rw [if_pos y]; exact e
          · rw [if_neg y, if_pos (by unfold r32; omega), if_pos q.1]; exact e
    · rw [if_neg c] at hV
      rw [if_neg c, List.length_nil] at h1
      rw [if_neg c, List.length_nil, if_pos (by first | decide | omega), hV, List.append_nil]
      obtain ⟨r, F', e, e2, e3⟩ := M_284 (Km := Km) ht hT
      exact ⟨r, F', B, e, e2, fun c y k n _ => e3 c y k (by first | decide | omega), fun _ _ _ _ _ _ => rfl⟩
end
end

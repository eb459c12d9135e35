section
/-! ===== a voice's events judged in turn, both sides ===== -/
theorem JS_f {K : zK} {q v w bar : Int} {m : Nat} {g : Int → Int} {F F' : zF} {B : zB} {Fm Fm' : zF} {Bm Bm' : zB} (h : JS K q v w m bar g F B Fm Bm) (f4 : F' 4 q 6 = F 4 q 6) (f1 : ∀ y k, k ≤ 10 → F' 1 y k = F 1 y k) (g36 : Fm' 14 0 36 = Fm 14 0 36) (g35 : Fm' 14 0 35 = Fm 14 0 35) (g6 : Fm' 14 0 6 = Fm 14 0 6) (mB : ∀ k x, ¬ k = 27 → Bm' 13 w k x = Bm 13 w k x) (m8 : ∀ y, Bm' 14 0 8 y = Bm 14 0 8 y) : JS K q v w m bar g F' B Fm' Bm' := by
  obtain ⟨a, b, c, d, e⟩ := h
  refine ⟨by rw [f4, g36, g35, g6]; exact a, b, c, fun i hi => ?_, e⟩
  obtain ⟨d1, d2, d3, d4, d5⟩ := d i hi
  rw [f1 _ 0 (by decide), f1 _ 1 (by decide), mB 14 _ (by decide), mB 15 _ (by decide)]
  exact ⟨EVW_h d1 (fun k _ h => f1 _ k h) (fun _ _ => rfl) (fun k _ h => mB k _ (by first | decide | omega)) (fun k y h _ _ _ => mB k y (by first | decide | omega)) m8, d2, d3, d4, d5⟩
/-- what judging changes -/
def JFr (q v w : Int) (m : Nat) (B : zB) (F : zF) (Fm : zF) (Bm : zB) (F' : zF) (Fm' : zF) (Bm' : zB) : Prop := (∀ c y k, ¬ (c = 1 ∧ k = 11 ∧ ∃ j : Int, 0 ≤ j ∧ j < m ∧ B 4 q 5 j = y) → F' c y k = F c y k) ∧ (∀ c y k, ¬ (c = 14 ∧ y = 0 ∧ (k ≤ 1 ∨ k = 17 ∨ k = 18)) → Fm' c y k = Fm c y k) ∧ (∀ c y k x, ¬ (c = 13 ∧ y = w ∧ k = 27 ∧ 1000 * v ≤ x ∧ x < 1000 * v + m) → Bm' c y k x = Bm c y k x)
theorem JFr_r {q v w : Int} {m : Nat} {B : zB} {F : zF} {Fm : zF} {Bm : zB} : JFr q v w m B F Fm Bm F Fm Bm := ⟨fun _ _ _ _ => rfl, fun _ _ _ _ => rfl, fun _ _ _ _ _ => rfl⟩
theorem JFr_t {q v w : Int} {m : Nat} {B : zB} {F F1 F2 : zF} {Fm Fm1 Fm2 : zF} {Bm Bm1 Bm2 : zB} (h : JFr q v w m B F Fm Bm F1 Fm1 Bm1) (h' : JFr q v w m B F1 Fm1 Bm1 F2 Fm2 Bm2) : JFr q v w m B F Fm Bm F2 Fm2 Bm2 := ⟨fun c y k n => by rw [h'.1 c y k n, h.1 c y k n], fun c y k n => by rw [h'.2.1 c y k n, h.2.1 c y k n], fun c y k x n => by rw [h'.2.2 c y k x n, h.2.2 c y k x n]⟩
def SLs (q v w : Int) (i : Nat) (B : zB) (F : zF) (Bm : zB) : Prop := ∀ j : Nat, j < i → F 1 (B 4 q 5 j) 11 = Bm 13 w 27 (1000 * v + j) ∧ (F 1 (B 4 q 5 j) 11 = 0 ∨ F 1 (B 4 q 5 j) 11 = 1)
/-- a tie has an event behind it -/
def TIk (q : Int) (m : Nat) (F : zF) (B : zB) (i : Nat) : Prop := zand (F 1 (B 4 q 5 i) 7) 1 ≤ 0 ∨ i + 1 < m
theorem L_176X {K n m i : Nat} {a op v w : Int} {F : zF} {B : zB} (a0 : 0 ≤ a) (a1 : a < 128) (hop : op = 0 ∨ op = 1) (hw : F 14 0 6 = w) (w0 : 0 ≤ w ∧ w < 3) (hi : i < m) (m1 : m ≤ 200) (h35 : F 14 0 35 = v) (v0 : 0 ≤ v ∧ v < 4) (h36 : F 14 0 36 = m) (h20 : 0 ≤ B 13 w 20 (1000 * v + i) ∧ B 13 w 20 (1000 * v + i) ≤ 3000) (hb : bad F) : ∃ B', f_M_judge_176 (f_M_judge_48 K (n + 1)) K a (1000 * v + i) i op (1000 * v) F B = some (0, F, B') ∧ (∀ c y k x, ¬ (c = 13 ∧ y = w ∧ k = 27 ∧ 1000 * v ≤ x ∧ x < 1000 * v + m) → B' c y k x = B c y k x) := by
  obtain ⟨G, e, g1, _⟩ := L_176 (K := K) (rec := f_M_judge_48 K (n + 1)) (i := i) (l1 := 1000 * v) a0 a1 hop hw w0 (x := 1000 * v + i) (by first | decide | omega) h20 (Or.inr hb)
  rw [g1 hb] at e
  refine ⟨_, by rw [e]; exact L_48X hb (opN_b hop) (by unfold r32; omega) (by rw [h36]; unfold r32; omega) h35 v0, fun c y k x h => by rw [zup4_v, if_neg (by first | decide | omega)]⟩
theorem P_jl {K : zK} {Km m : Nat} {q p v w n d : Int} {g : Int → Int} {B : zB} {F0 : zF} {Fm0 : zF} {Bm0 : zB} {Q : Int → zF → zB → Int → zF → zB → Prop} (hK : 3002 ≤ K.1) (hKm : 812851200 < Km) (h4 : 0 ≤ q ∧ q < K.2 4) (hp : 0 ≤ p ∧ p < K.2 6) (v0 : 0 ≤ v ∧ v < 4) (w0 : 0 ≤ w ∧ w < 3) (hn : 1 ≤ n ∧ n ≤ 12) (hd : d = 2 ∨ d = 4 ∨ d = 8 ∨ d = 16) (e4 : F0 6 p 4 = n) (e5 : F0 6 p 5 = d) (m4 : Fm0 13 w 4 = n) (m5 : Fm0 13 w 5 = d) (hI : inJ q B)
  (hEnd : ∀ (n1 n2 : Nat) op F Fm Bm, op = 0 ∨ op = 1 → JS K q v w m (barV n d) g F B Fm Bm → Fm 14 0 17 = 0 → JFr q v w m B F0 Fm0 Bm0 F Fm Bm → SLs q v w m B F Bm → (∀ i : Nat, i < m → BSk q m (barV n d) g F B i ∧ TIk q m F B i) → zP (f_Part_judge_26 K (n1 + 1) m op q p F B) (f_M_judge_48 Km (n2 + 1) m op (1000 * v) Fm Bm) Q)
  (hX : ∀ r F r' Fm Bm, JFr q v w m B F0 Fm0 Bm0 F Fm Bm → bad Fm → r = Fm 14 0 17 + 16 * Fm 14 0 18 → 0 ≤ Fm 14 0 18 ∧ Fm 14 0 18 ≤ 3000 → Q r F B r' Fm Bm) : ∀ (r n1 n2 i : Nat) {op : Int} {F : zF} {Fm : zF} {Bm : zB}, i + r = m → r + 1 < n1 → r + 1 < n2 → op = 0 ∨ op = 1 → JS K q v w m (barV n d) g F B Fm Bm → Fm 14 0 17 = 0 → JFr q v w m B F0 Fm0 Bm0 F Fm Bm → SLs q v w i B F Bm → (∀ t : Nat, t < i → BSk q m (barV n d) g F B t ∧ TIk q m F B t) → zP (f_Part_judge_26 K n1 i op q p F B) (f_M_judge_48 Km n2 i op (1000 * v) Fm Bm) Q := by
  intro r
  induction r with
  | zero =>
    intro n1 n2 i op F Fm Bm ir hn1 hn2 hop hJ h17 hf hsl hbs
    obtain ⟨n1, rfl⟩ : ∃ k, n1 = k + 1 := ⟨n1 - 1, (by first | decide | omega)⟩
    obtain ⟨n2, rfl⟩ : ∃ k, n2 = k + 1 := ⟨n2 - 1, (by first | decide | omega)⟩
    obtain rfl : i = m := by omega
    exact hEnd n1 n2 op F Fm Bm hop hJ h17 hf hsl hbs
  | succ r ih =>
    intro n1 n2 i op F Fm Bm ir hn1 hn2 hop hJ h17 hf hsl hbs
    obtain ⟨n1, rfl⟩ : ∃ k, n1 = k + 1 := ⟨n1 - 1, (by first | decide | omega)⟩
    obtain ⟨n2, rfl⟩ : ∃ k, n2 = k + 1 + 1 := ⟨n2 - 2, (by first | decide | omega)⟩
    have hi : i < m := by omega
    have c4 : F 6 p 4 = n := by rw [hf.1 6 p 4 (by first | decide | omega)]; exact e4
    have c5 : F 6 p 5 = d := by rw [hf.1 6 p 5 (by first | decide | omega)]; exact e5
    have d4 : Fm 13 w 4 = n := by rw [hf.2.1 13 w 4 (by first | decide | omega)]; exact m4
    have d5 : Fm 13 w 5 = d := by rw [hf.2.1 13 w 5 (by first | decide | omega)]; exact m5
    obtain ⟨b, G, bs, gn, hh⟩ := P_outer (rec := f_M_judge_48 Km (n2 + 1)) (op := op) hK hKm h4 v0 w0 hn hd d4 d5 hJ h17 hi
    have hJ' := hJ
    obtain ⟨⟨c6, c36, c35, cw, mm0, mm1⟩, hg, hs, he, hV⟩ := hJ
    obtain ⟨ei, p0, p14, p15, pg⟩ := he i hi
    have hie := hV i (by first | decide | omega) (by first | decide | omega)
    have ri : r32 (i : Int) := by unfold r32; omega
    have rm : r32 (m : Int) := by unfold r32; omega
    have e7 := ei.2.2.2.2.2.2.2.2.1
    have e9 := ei.2.2.2.2.2.2.2.2.2.2.1
    have a0 := e7.2.1
    have a1 := e7.2.2
    have h20 : 0 ≤ Bm 13 w 20 (1000 * v + i) ∧ Bm 13 w 20 (1000 * v + i) ≤ 3000 := ⟨e9.2.1, e9.2.2.1⟩
    have p20 : 0 ≤ Bm 14 0 8 (Bm 13 w 20 (1000 * v + i)) ∧ Bm 14 0 8 (Bm 13 w 20 (1000 * v + i)) ≤ 3000 := by rw [← e9.1]; exact e9.2.2.2
    have gf : JFr q v w m B F Fm Bm F G Bm := ⟨fun _ _ _ _ => rfl, fun c y k h => gn c y k (by first | decide | omega), fun _ _ _ _ _ => rfl⟩
    have g17 : G 14 0 17 = 0 := by rw [gn _ _ _ (by first | decide | omega)]; exact h17
    have g6 : G 14 0 6 = w := by rw [gn _ _ _ (by first | decide | omega)]; exact cw
    have g35 : G 14 0 35 = v := by rw [gn _ _ _ (by first | decide | omega)]; exact c35
    have g36 : G 14 0 36 = m := by rw [gn _ _ _ (by first | decide | omega)]; exact c36
    have hx : 0 ≤ 1000 * v + (i : Int) ∧ 1000 * v + (i : Int) < 4000 := by omega
    -- a fault told: what is left comes to nothing
    have fl : ∀ (s t : Int) (Bm' : zB) (r : Int), 1 ≤ s → s ≤ 15 → 0 ≤ Bm 14 0 8 t ∧ Bm 14 0 8 t ≤ 3000 → r = s + 16 * Bm 14 0 8 t → (∀ c y k x, ¬ (c = 13 ∧ y = w ∧ k = 27 ∧ 1000 * v ≤ x ∧ x < 1000 * v + m) → Bm' c y k x = Bm c y k x) → zP (some (r, F, B)) (some (0, flM G Bm s t, Bm')) Q := fun s t Bm' r s0 s1 t0 e hB => by
      refine zP_s (hX r F 0 (flM G Bm s t) Bm' (JFr_t hf ⟨fun _ _ _ _ => rfl, fun c y k h => by rw [flM_n (by first | decide | omega), gn c y k (by first | decide | omega)], hB⟩) (flM_b s0 s1) (by rw [flM_17, flM_18]; exact e) (by rw [flM_18]; exact t0))
    have flw : ∀ s t, flM G Bm s t 14 0 6 = w ∧ flM G Bm s t 14 0 35 = v ∧ flM G Bm s t 14 0 36 = m := fun s t => by rw [flM_n (by decide), flM_n (by decide), flM_n (by decide)]; exact ⟨g6, g35, g36⟩
    rw [f_Part_judge_26, if_pos h4, if_pos ri, c6, if_pos rm, if_neg (by first | decide | omega), if_pos (by first | decide | omega), if_pos hp, C_bar hp c4 c5 hn hd, zb_s, bs, zb_s, joS_e, if_pos ri, c36, if_pos rm, if_neg (show ¬ (m : Int) ≤ (i : Int) by omega), L_good h17, zb_s, if_pos (show r32 1 by decide), if_neg (show ¬ (1 : Int) = 0 by decide)]
    rcases hh with ⟨rfl, hm, hbk⟩ | ⟨rfl, hm, h6, h26, h6b⟩
    case inr =>
      rw [if_pos (show r32 0 by decide), if_pos (show (0 : Int) = 0 from rfl), if_pos hie, hm]
      have bd : bad (flM G Bm 13 (Bm 13 w 26 (1000 * v + i))) := flM_b (by decide) (by decide)
      obtain ⟨w6, w35, w36⟩ := flw 13 (Bm 13 w 26 (1000 * v + i))
      obtain ⟨Bm', t1, t2⟩ := L_176X (K := Km) (n := n2) (op := op) a0 a1 hop w6 w0 hi mm1 w35 v0 w36 (B := Bm) h20 bd
      have e115 : f_M_judge_115 (f_M_judge_48 Km (n2 + 1)) Km (1000 * v + i) i op (1000 * v) (flM G Bm 13 (Bm 13 w 26 (1000 * v + i))) Bm = some (0, flM G Bm 13 (Bm 13 w 26 (1000 * v + i)), Bm') := by
        unfold f_M_judge_115 f_M_judge_160
        obtain ⟨y1, _, _⟩ := mkb_i a0 a1
        rw [w6, if_pos w0, if_pos hx, ← e7.1, if_pos (show r32 (zand (F 1 (B 4 q 5 i) 7) 1) by unfold r32; omega)]
        rcases y1 with y1 | y1
        · rw [if_pos (by first | decide | omega), t1]
        · rw [if_neg (by first | decide | omega), if_pos (show r32 ((i : Int) + 1) by unfold r32; omega), w36, if_pos rm, if_pos w0, if_pos hx, L_failAtB bd, zb_s]
          by_cases z : (i : Int) + 1 = m
          · rw [if_pos z, t1]
          · rw [if_neg z]
            have hne := hV ((i + 1 : Nat) : Int) (by first | decide | omega) (by first | decide | omega)
            have en := (he (i + 1) (by first | decide | omega)).1
            have sh := (P_share (Km := Km) (Fm := flM G Bm 13 (Bm 13 w 26 (1000 * v + i))) hK (by first | decide | omega) w0 hie hne hx (y := 1000 * v + ((i + 1 : Nat) : Int)) (by first | decide | omega) ei en).2
            rw [show 1000 * v + (i : Int) + 1 = 1000 * v + ((i + 1 : Nat) : Int) by omega, sh, zb_s]
            by_cases y : shM (shB (B 4 q 5 i) (B 4 q 5 ((i + 1 : Nat) : Int)) (F 1 (B 4 q 5 ((i + 1 : Nat) : Int)) 10) B) (F 1 (B 4 q 5 i) 10).toNat = 0
            · rw [if_pos y, if_pos (show r32 0 by decide), if_pos (show (0 : Int) = 0 from rfl), w6, if_pos w0, if_pos hx, L_failAtB bd, zb_s, t1]
            · rw [if_neg y, if_pos (show r32 1 by decide), if_neg (show ¬ (1 : Int) = 0 by decide), t1]
      rw [e115]
      exact fl 13 _ Bm' _ (by decide) (by decide) (by rw [← h6]; exact h6b) (by rw [h6]) t2
    case inl =>
      rw [if_pos (show r32 1 by decide), if_neg (show ¬ (1 : Int) = 0 by decide), if_pos hie, hm]
      -- behind the tie
      have tail : TIk q m F B i → zP (f_Part_judge_95 (f_Part_judge_26 K n1) K (B 4 q 5 i) i op q p F B) (f_M_judge_176 (f_M_judge_48 Km (n2 + 1)) Km (F 1 (B 4 q 5 i) 7) (1000 * v + i) i op (1000 * v) G Bm) Q := by
        intro hti
        obtain ⟨c1, c2⟩ := C_95 (K := K) (rec := f_Part_judge_26 K n1) (i := i) (op := op) (q := q) (p := p) (B := B) hie a0 a1 hop
        obtain ⟨G', e, _, k1, k2⟩ := L_176 (K := Km) (rec := f_M_judge_48 Km (n2 + 1)) (i := i) (l1 := 1000 * v) (op := op) a0 a1 hop g6 w0 hx (B := Bm) h20 (Or.inl g17)
        by_cases sx : slX (F 1 (B 4 q 5 i) 7) op
        · rw [c2 sx, e, k2 g17 sx, L_48X (flM_b (by decide) (by decide)) (opN_b hop) (by unfold r32; omega) (by rw [(flw _ _).2.2]; exact rm) (flw _ _).2.1 v0]
          exact fl 11 _ _ _ (by decide) (by decide) p20 (by rw [e9.1]) (fun c y k x h => by rw [zup4_v, if_neg (by first | decide | omega)])
        · rw [c1 sx, e, k1 g17 sx]
          have own : ∃ j : Int, 0 ≤ j ∧ j < m ∧ B 4 q 5 j = B 4 q 5 i := ⟨i, (by first | decide | omega), (by first | decide | omega), rfl⟩
          have fr2 : JFr q v w m B F G Bm (zup3 F 1 (B 4 q 5 i) 11 (opN (F 1 (B 4 q 5 i) 7) op)) G (zup4 Bm 13 w 27 (1000 * v + i) (opN (F 1 (B 4 q 5 i) 7) op)) := ⟨fun c y k h => by rw [zup3_v, if_neg (fun z => h ⟨z.1, z.2.2, by rw [z.2.1]; exact own⟩)], fun _ _ _ _ => rfl, fun c y k x h => by rw [zup4_v, if_neg (by first | decide | omega)]⟩
          have ih' := ih n1 (n2 + 1) (i + 1) (op := opN (F 1 (B 4 q 5 i) 7) op) (F := zup3 F 1 (B 4 q 5 i) 11 (opN (F 1 (B 4 q 5 i) 7) op)) (Fm := G) (Bm := zup4 Bm 13 w 27 (1000 * v + i) (opN (F 1 (B 4 q 5 i) 7) op)) (by first | decide | omega) (by first | decide | omega) (by first | decide | omega) (opN_b hop) (JS_f hJ' (by rw [zup3_v, if_neg (by first | decide | omega)]) (fun y k h => by rw [zup3_v, if_neg (by first | decide | omega)]) (by rw [g36, c36]) (by rw [g35, c35]) (by rw [g6, cw]) (fun k x h => by rw [zup4_v, if_neg (by first | decide | omega)]) (fun y => by rw [zup4_v, if_neg (by first | decide | omega)])) g17 (JFr_t hf (JFr_t gf fr2)) (fun j hj => by
            by_cases z : j = i
            · rw [z, zup3_v, if_pos (by first | decide | omega), zup4_v, if_pos (by first | decide | omega)]
              exact ⟨rfl, opN_b hop⟩
            · have ne : ¬ B 4 q 5 j = B 4 q 5 i := fun y => by
                have := hI j i (by first | decide | omega) (by first | decide | omega) (by first | decide | omega) (by first | decide | omega) y
                omega
              rw [zup3_v, if_neg (fun y => ne y.2.1), zup4_v, if_neg (by first | decide | omega)]
              exact hsl j (by first | decide | omega)) (fun t ht => by
            refine ⟨BSk_f (F := F) ?_ (fun y => by rw [zup3_v, if_neg (by first | decide | omega)]), ?_⟩
            · by_cases z : t = i
              · rw [z]; exact hbk
              · exact (hbs t (by first | decide | omega)).1
            · unfold TIk
              rw [zup3_v, if_neg (by first | decide | omega)]
              by_cases z : t = i
              · rw [z]; exact hti
              · exact (hbs t (by first | decide | omega)).2)
          rw [show ((i + 1 : Nat) : Int) = (i : Int) + 1 by omega] at ih'
          exact ih'
      -- a tie that holds nothing
      have tieX : zP (some (10 + 16 * F 1 (B 4 q 5 i) 9, F, B)) (f_M_judge_160 (f_M_judge_48 Km (n2 + 1)) Km (F 1 (B 4 q 5 i) 7) (1000 * v + i) i op (1000 * v) G Bm) Q := by
        obtain ⟨w6, w35, w36⟩ := flw 10 (Bm 13 w 20 (1000 * v + i))
        obtain ⟨Bm', t1, t2⟩ := L_176X (K := Km) (n := n2) (op := op) a0 a1 hop w6 w0 hi mm1 w35 v0 w36 (B := Bm) h20 (flM_b (by decide) (by decide))
        unfold f_M_judge_160
        rw [g6, if_pos w0, if_pos hx, L_failAt g17 (by first | decide | omega), zb_s, t1]
        exact fl 10 _ Bm' _ (by decide) (by decide) p20 (by rw [e9.1]) t2
      rw [C_has hie, zb_s]
      unfold f_M_judge_115
      obtain ⟨y1, _, _⟩ := mkb_i a0 a1
      rw [g6, if_pos w0, if_pos hx, ← e7.1, if_pos (show r32 (zand (F 1 (B 4 q 5 i) 7) 1) by unfold r32; omega)]
      rcases y1 with y1 | y1
      · rw [if_pos y1, if_pos (show r32 0 by decide), if_pos (show (0 : Int) = 0 from rfl), if_pos (show zand (F 1 (B 4 q 5 i) 7) 1 ≤ 0 by omega)]
        exact tail (Or.inl (by first | decide | omega))
      · rw [if_neg (show ¬ zand (F 1 (B 4 q 5 i) 7) 1 = 0 by omega), if_pos (show r32 1 by decide), if_neg (show ¬ (1 : Int) = 0 by decide), if_neg (show ¬ zand (F 1 (B 4 q 5 i) 7) 1 ≤ 0 by omega), if_pos (show r32 ((i : Int) + 1) by unfold r32; omega), g36, if_pos rm]
        unfold f_Part_tiedPitches f_Part_tiedPitches_27
        rw [if_pos ri, if_neg (show ¬ (i : Int) < 0 by omega), if_pos h4, if_pos (show r32 ((i : Int) + 1) by unfold r32; omega), c6, if_pos rm]
        by_cases z : (i : Int) + 1 = m
        · rw [if_pos (show (m : Int) ≤ (i : Int) + 1 by omega), zb_s, if_pos (show r32 0 by decide), if_pos (show (0 : Int) = 0 from rfl), if_pos z]
          exact tieX
        · have hne := hV ((i + 1 : Nat) : Int) (by first | decide | omega) (by first | decide | omega)
          have en := (he (i + 1) (by first | decide | omega)).1
          obtain ⟨sc, sm⟩ := P_share (Km := Km) (Fm := G) hK (show 3002 ≤ Km by omega) w0 hie hne hx (y := 1000 * v + ((i + 1 : Nat) : Int)) (by first | decide | omega) ei en
          have sb := shM_b (h := shB (B 4 q 5 i) (B 4 q 5 ((i + 1 : Nat) : Int)) (F 1 (B 4 q 5 ((i + 1 : Nat) : Int)) 10) B) (F 1 (B 4 q 5 i) 10).toNat
          have c10 := ei.2.2.2.2.2.2.2.2.2.2.2.2.2.1
          have p64 : (2 : Int) ^ (F 1 (B 4 q 5 i) 10).toNat ≤ 64 := by
            obtain ⟨k, hk⟩ : ∃ k : Nat, F 1 (B 4 q 5 i) 10 = k := ⟨(F 1 (B 4 q 5 i) 10).toNat, (by first | decide | omega)⟩
            have : k = 0 ∨ k = 1 ∨ k = 2 ∨ k = 3 ∨ k = 4 ∨ k = 5 ∨ k = 6 := by omega
            rw [hk]
            rcases this with rfl | rfl | rfl | rfl | rfl | rfl | rfl <;> decide
          rw [if_neg (show ¬ (m : Int) ≤ (i : Int) + 1 by omega), if_pos (show 0 ≤ (i : Int) ∧ (i : Int) < 200 by omega), if_pos hie, C_has hie, zb_s, if_neg (show ¬ zand (F 1 (B 4 q 5 i) 7) 1 = 0 by omega), if_pos (show r32 1 by decide), if_neg (show ¬ (1 : Int) = 0 by decide), if_pos (show 0 ≤ (i : Int) + 1 ∧ (i : Int) + 1 < 200 by omega), if_pos hie, show (i : Int) + 1 = ((i + 1 : Nat) : Int) by omega, if_pos hne, sc, zb_s, zb_s, if_neg (show ¬ ((i + 1 : Nat) : Int) = m by omega), show 1000 * v + (i : Int) + 1 = 1000 * v + ((i + 1 : Nat) : Int) by omega, sm, zb_s]
          generalize shM (shB (B 4 q 5 i) (B 4 q 5 ((i + 1 : Nat) : Int)) (F 1 (B 4 q 5 ((i + 1 : Nat) : Int)) 10) B) (F 1 (B 4 q 5 i) 10).toNat = sv at sb
          rw [if_pos (show r32 sv by unfold r32; omega)]
          by_cases y : sv = 0
          · rw [if_pos y, if_pos y, if_pos (show r32 0 by decide), if_pos (show (0 : Int) = 0 from rfl)]
            exact tieX
          · rw [if_neg y, if_neg y, if_pos (show r32 1 by decide), if_neg (show ¬ (1 : Int) = 0 by decide)]
            exact tail (Or.inr (by first | decide | omega))
end

section
/-! ===== one voice walked, both sides ===== -/
/-- what follows the walk of a voice -/
def thT (rec5 : zF → zB → zO) (K : Nat) (F22 : zF) (B22 : zB) : zO := if 0 ≤ (F22 14 0 6) ∧ (F22 14 0 6) < 3 then if 0 ≤ (F22 14 0 35) ∧ (F22 14 0 35) < 4 then zbind (f_M_good K F22 (zup4 B22 13 (F22 14 0 6) 12 (F22 14 0 35) (F22 14 0 36))) (fun r26 F26 B26 => if r32 r26 then (if r26 = 0 then f_M_through_148 rec5 K F26 B26 else zbind (f_M_judge K F26 B26) (fun r29 F29 B29 => f_M_through_148 rec5 K F29 B29)) else none) else none else none
def z51 (B : zB) : zB := (zup4 (zup4 (zup4 (zup4 (zup4 (zup4 (zup4 (zup4 B 14 0 51 0 0) 14 0 51 1 0) 14 0 51 2 0) 14 0 51 3 0) 14 0 51 4 0) 14 0 51 5 0) 14 0 51 6 0) 14 0 51 7 0)
def z14 (B : zB) : zB := (zup4 (zup4 (zup4 (zup4 B 11 0 14 0 0) 11 0 14 1 0) 11 0 14 2 0) 11 0 14 3 0)
def vzF (F : zF) : zF := (zup3 (zup3 (zup3 (zup3 (zup3 (zup3 (zup3 (zup3 (zup3 F 14 0 36 0) 14 0 37 0) 14 0 38 0) 14 0 39 1) 14 0 40 4) 14 0 41 0) 14 0 45 0) 14 0 48 0) 14 0 50 0)
def czF (q bar : Int) (F : zF) : zF := (zup3 (zup3 (zup3 (zup3 (zup3 (zup3 (zup3 (zup3 (zup3 (zup3 (zup3 (zup3 (zup3 (zup3 (zup3 F 11 0 0 0) 11 0 1 q) 11 0 2 0) 11 0 3 0) 11 0 4 4) 11 0 5 0) 11 0 6 0) 11 0 7 0) 11 0 8 0) 11 0 9 1) 11 0 10 1) 11 0 11 0) 11 0 13 bar) 11 0 12 (100 * bar)) 11 0 18 0)
theorem z51_n {B : zB} {c k : Nat} {i y : Int} (h : ¬ (c = 14 ∧ i = 0 ∧ k = 51)) : z51 B c i k y = B c i k y := by
  unfold z51
  rw [zup4_v, if_neg (by first | decide | omega), zup4_v, if_neg (by first | decide | omega), zup4_v, if_neg (by first | decide | omega), zup4_v, if_neg (by first | decide | omega), zup4_v, if_neg (by first | decide | omega), zup4_v, if_neg (by first | decide | omega), zup4_v, if_neg (by first | decide | omega), zup4_v, if_neg (by first | decide | omega)]
theorem z51_v {B : zB} {y : Int} (h : y = 2 ∨ y = 3 ∨ y = 5 ∨ y = 7) : z51 B 14 0 51 y = 0 := by
  unfold z51
  rcases h with rfl | rfl | rfl | rfl <;> simp [zup4_v]
theorem z14_n {B : zB} {c k : Nat} {i y : Int} (h : ¬ (c = 11 ∧ i = 0 ∧ k = 14)) : z14 B c i k y = B c i k y := by
  unfold z14
  rw [zup4_v, if_neg (by first | decide | omega), zup4_v, if_neg (by first | decide | omega), zup4_v, if_neg (by first | decide | omega), zup4_v, if_neg (by first | decide | omega)]
theorem z14_v {B : zB} {y : Int} (h0 : 0 ≤ y) (h1 : y < 4) : z14 B 11 0 14 y = 0 := by
  unfold z14
  have : y = 0 ∨ y = 1 ∨ y = 2 ∨ y = 3 := by omega
  rcases this with rfl | rfl | rfl | rfl <;> simp [zup4_v]
theorem vzF_n {F : zF} {c k : Nat} {i : Int} (h : ¬ (c = 14 ∧ i = 0 ∧ 36 ≤ k ∧ k ≤ 50)) : vzF F c i k = F c i k := by
  unfold vzF
  rw [zup3_v, if_neg (by first | decide | omega), zup3_v, if_neg (by first | decide | omega), zup3_v, if_neg (by first | decide | omega), zup3_v, if_neg (by first | decide | omega), zup3_v, if_neg (by first | decide | omega), zup3_v, if_neg (by first | decide | omega), zup3_v, if_neg (by first | decide | omega), zup3_v, if_neg (by first | decide | omega), zup3_v, if_neg (by first | decide | omega)]
theorem vzF_v {F : zF} : vzF F 14 0 36 = 0 ∧ vzF F 14 0 37 = 0 ∧ vzF F 14 0 38 = 0 ∧ vzF F 14 0 39 = 1 ∧ vzF F 14 0 40 = 4 ∧ vzF F 14 0 41 = 0 ∧ vzF F 14 0 45 = 0 ∧ vzF F 14 0 48 = 0 ∧ vzF F 14 0 50 = 0 := by
  simp [vzF, zup3_v]
theorem czF_n {q bar : Int} {F : zF} {c k : Nat} {i : Int} (h : ¬ (c = 11 ∧ i = 0)) : czF q bar F c i k = F c i k := by
  unfold czF
  rw [zup3_v, if_neg (by first | decide | omega), zup3_v, if_neg (by first | decide | omega), zup3_v, if_neg (by first | decide | omega), zup3_v, if_neg (by first | decide | omega), zup3_v, if_neg (by first | decide | omega), zup3_v, if_neg (by first | decide | omega), zup3_v, if_neg (by first | decide | omega), zup3_v, if_neg (by first | decide | omega), zup3_v, if_neg (by first | decide | omega), zup3_v, if_neg (by first | decide | omega), zup3_v, if_neg (by first | decide | omega), zup3_v, if_neg (by first | decide | omega), zup3_v, if_neg (by first | decide | omega), zup3_v, if_neg (by first | decide | omega), zup3_v, if_neg (by first | decide | omega)]
theorem czF_v {q bar : Int} {F : zF} : czF q bar F 11 0 0 = 0 ∧ czF q bar F 11 0 1 = q ∧ czF q bar F 11 0 2 = 0 ∧ czF q bar F 11 0 3 = 0 ∧ czF q bar F 11 0 4 = 4 ∧ czF q bar F 11 0 5 = 0 ∧ czF q bar F 11 0 6 = 0 ∧ czF q bar F 11 0 7 = 0 ∧ czF q bar F 11 0 9 = 1 ∧ czF q bar F 11 0 10 = 1 ∧ czF q bar F 11 0 11 = 0 ∧ czF q bar F 11 0 12 = 100 * bar ∧ czF q bar F 11 0 13 = bar ∧ czF q bar F 11 0 18 = 0 := by
  simp [czF, zup3_v]
def barV (n d : Int) : Int := 812851200 / d * n
theorem bar_v {n d : Int} (hn : 1 ≤ n ∧ n ≤ 12) (hd : d = 2 ∨ d = 4 ∨ d = 8 ∨ d = 16) : FR n d (barV n d) ∧ FR (100 * n) d (100 * barV n d) ∧ 100 * barV n d ≤ 1000000000000 ∧ 0 < barV n d ∧ n * WW = barV n d * d := by
  unfold FR barV WW
  rcases hd with rfl | rfl | rfl | rfl
  · rw [show (812851200 : Int) / 2 = 406425600 by decide]
    exact ⟨⟨(by first | decide | omega), ⟨406425600, by decide⟩, (by first | decide | omega), (by first | decide | omega)⟩, ⟨(by first | decide | omega), ⟨406425600, by decide⟩, (by first | decide | omega), (by first | decide | omega)⟩, (by first | decide | omega), (by first | decide | omega), (by first | decide | omega)⟩
  · rw [show (812851200 : Int) / 4 = 203212800 by decide]
    exact ⟨⟨(by first | decide | omega), ⟨203212800, by decide⟩, (by first | decide | omega), (by first | decide | omega)⟩, ⟨(by first | decide | omega), ⟨203212800, by decide⟩, (by first | decide | omega), (by first | decide | omega)⟩, (by first | decide | omega), (by first | decide | omega), (by first | decide | omega)⟩
  · rw [show (812851200 : Int) / 8 = 101606400 by decide]
    exact ⟨⟨(by first | decide | omega), ⟨101606400, by decide⟩, (by first | decide | omega), (by first | decide | omega)⟩, ⟨(by first | decide | omega), ⟨101606400, by decide⟩, (by first | decide | omega), (by first | decide | omega)⟩, (by first | decide | omega), (by first | decide | omega), (by first | decide | omega)⟩
  · rw [show (812851200 : Int) / 16 = 50803200 by decide]
    exact ⟨⟨(by first | decide | omega), ⟨50803200, by decide⟩, (by first | decide | omega), (by first | decide | omega)⟩, ⟨(by first | decide | omega), ⟨50803200, by decide⟩, (by first | decide | omega), (by first | decide | omega)⟩, (by first | decide | omega), (by first | decide | omega), (by first | decide | omega)⟩
theorem C_bar {K : zK} {p n d : Int} {F : zF} {B : zB} (hp : 0 ≤ p ∧ p < K.2 6) (h4 : F 6 p 4 = n) (h5 : F 6 p 5 = d) (hn : 1 ≤ n ∧ n ≤ 12) (hd : d = 2 ∨ d = 4 ∨ d = 8 ∨ d = 16) : f_Piece_barLength K p F B = some (barV n d, F, B) := by
  have rn : r32 n := by unfold r32; omega
  unfold f_Piece_barLength barV
  rw [if_pos hp, h5, h4]
  rcases hd with rfl | rfl | rfl | rfl
  · rw [if_pos (by decide), if_pos (by decide), if_pos (by decide), if_pos rn]; rfl
  · rw [if_pos (by decide), if_pos (by decide), if_pos (by decide), if_pos rn]; rfl
  · rw [if_pos (by decide), if_pos (by decide), if_pos (by decide), if_pos rn]; rfl
  · rw [if_pos (by decide), if_pos (by decide), if_pos (by decide), if_pos rn]; rfl
theorem C_v88 {K : zK} {q x : Int} {F : zF} {B : zB} (hK : 3002 ≤ K.1) (h11 : 0 < K.2 11) (h3 : 0 < K.2 3) (h4 : 0 ≤ q ∧ q < K.2 4) (f0 : F 11 0 0 = 0) (f1 : F 11 0 1 = q) (hx : F 4 q 4 = x) (x0 : 0 ≤ x ∧ x < 3000) : f_Walker_goVoice_88 K K.1 0 0 F B = zbind (f_Walker_goThrough K 0 (B 3 0 4 x) 0 F (z14 B)) (fun _ F2 B2 => some (F2 11 0 2, F2, B2)) := by
  obtain ⟨n, hn⟩ : ∃ m, K.1 = m + 5 := ⟨K.1 - 5, (by first | decide | omega)⟩
  have st : ∀ (m : Nat) (l : Int) (C : zB), 0 ≤ l → l < 4 → f_Walker_goVoice_88 K (m + 1) l 0 F C = f_Walker_goVoice_88 K m (l + 1) 0 F (zup4 C 11 0 14 l 0) := fun m l C a b => by
    rw [f_Walker_goVoice_88, if_pos ⟨Int.le_refl _, h11⟩, if_pos (by unfold r32; omega), if_neg (by first | decide | omega), if_pos ⟨a, b⟩]
  rw [show f_Walker_goVoice_88 K K.1 = f_Walker_goVoice_88 K (n + 4 + 1) by rw [← hn], st _ _ _ (by decide) (by decide), show n + 4 = n + 3 + 1 by omega, st _ _ _ (by decide) (by decide), show n + 3 = n + 2 + 1 by omega, st _ _ _ (by decide) (by decide), show n + 2 = n + 1 + 1 by omega, st _ _ _ (by decide) (by decide), f_Walker_goVoice_88, if_pos ⟨Int.le_refl _, h11⟩, if_pos (by decide), if_pos (by decide), f0, if_pos ⟨Int.le_refl _, h3⟩, f1, if_pos h4, hx, if_pos x0]
  have e : (z14 B) 3 0 4 x = B 3 0 4 x := z14_n (by first | decide | omega)
  rw [← e]
  rfl
theorem L_t73 {K : Nat} {rec : zF → zB → zO} {v a : Int} {F : zF} {B : zB} (hK : 3002 ≤ K) (h35 : F 14 0 35 = v) (v0 : 0 ≤ v ∧ v < 4) (h29 : B 14 0 29 v = a) (a0 : 0 ≤ a ∧ a < 3000) : f_M_through_73 rec K K 0 F B = zbind (f_M_walk K (a + 1) (B 14 0 30 a) F (z51 B)) (fun _ F2 B2 => thT rec K F2 B2) := by
  obtain ⟨n, hn⟩ : ∃ m, K = m + 9 := ⟨K - 9, (by first | decide | omega)⟩
  have st : ∀ (m : Nat) (l : Int) (C : zB), 0 ≤ l → l < 8 → f_M_through_73 rec K (m + 1) l F C = f_M_through_73 rec K m (l + 1) F (zup4 C 14 0 51 l 0) := fun m l C a b => by
    rw [f_M_through_73, if_pos (by unfold r32; omega), if_neg (by first | decide | omega), if_pos ⟨a, b⟩]
  have e29 : (z51 B) 14 0 29 v = a := by rw [z51_n (by first | decide | omega)]; exact h29
  have e30 : (z51 B) 14 0 30 a = B 14 0 30 a := z51_n (by first | decide | omega)
  rw [show f_M_through_73 rec K K = f_M_through_73 rec K (n + 8 + 1) by rw [← hn], st _ _ _ (by decide) (by decide), show n + 8 = n + 7 + 1 by omega, st _ _ _ (by decide) (by decide), show n + 7 = n + 6 + 1 by omega, st _ _ _ (by decide) (by decide), show n + 6 = n + 5 + 1 by omega, st _ _ _ (by decide) (by decide), show n + 5 = n + 4 + 1 by omega, st _ _ _ (by decide) (by decide), show n + 4 = n + 3 + 1 by omega, st _ _ _ (by decide) (by decide), show n + 3 = n + 2 + 1 by omega, st _ _ _ (by decide) (by decide), show n + 2 = n + 1 + 1 by omega, st _ _ _ (by decide) (by decide)]
  show f_M_through_73 rec K (n + 1) 8 F (z51 B) = _
  rw [f_M_through_73, if_pos (by decide), if_pos (by decide), h35, if_pos v0, e29, if_pos (by first | decide | omega), e30]
  rfl
/-- the frames of a voice's walk, from where both sides begin -/
def WF5 (q v w : Int) (F : zF) (B : zB) (Fm : zF) (Bm : zB) (F' : zF) (B' : zB) (Fm' : zF) (Bm' : zB) : Prop :=
  (∀ c y k, ¬ (c = 11 ∧ y = 0) → ¬ (c = 4 ∧ y = q ∧ k = 6) → ¬ (c = 1 ∧ ownE B q y) → F' c y k = F c y k) ∧
  (∀ c y k x, ¬ (c = 11 ∧ y = 0) → ¬ (c = 4 ∧ y = q ∧ k = 5) → ¬ (c = 1 ∧ ownE B q y) → B' c y k x = B c y k x) ∧
  (∀ y, ownE B' q y ↔ ownE B q y) ∧
  (∀ c i k, ¬ (c = 14 ∧ i = 0 ∧ (k ≤ 1 ∨ k = 17 ∨ k = 18 ∨ (36 ≤ k ∧ k ≤ 50))) → Fm' c i k = Fm c i k) ∧
  (∀ c i k x, ¬ (c = 14 ∧ i = 0 ∧ 42 ≤ k ∧ k ≤ 51) → ¬ inV v w c i k x → Bm' c i k x = Bm c i k x) ∧
  inJ q B'
theorem nd0 : nu 0 = 0 ∧ de 0 = 1 := by decide +kernel
theorem P_walkV {K : zK} {Km : Nat} {N nl p q v w n d x a : Int} {B0 Bm0 : zB} {F : zF} {B : zB} {Fm : zF} {Bm : zB} (hK : 3002 ≤ K.1) (hKm : 812851200 < Km) (h11 : 0 < K.2 11) (h3 : 0 < K.2 3) (h4 : 0 ≤ q ∧ q < K.2 4) (hp : 0 ≤ p ∧ p < K.2 6) (v0 : 0 ≤ v ∧ v < 4) (w0 : 0 ≤ w ∧ w < 3) (hTK : TK B Bm N) (hV : ∀ t, 0 ≤ t → t < 200 → 0 ≤ B 4 q 5 t ∧ B 4 q 5 t < K.2 1) (hI : inJ q B) (e4 : F 6 p 4 = n) (e5 : F 6 p 5 = d) (m4 : Fm 13 w 4 = n) (m5 : Fm 13 w 5 = d) (hn : 1 ≤ n ∧ n ≤ 12) (hd : d = 2 ∨ d = 4 ∨ d = 8 ∨ d = 16) (hT : WT N B0 Bm0 B Bm) (hMW : MW Bm0) (hLT : LTW nl B0 Bm0) (hnl : Fm 14 0 27 = nl) (h17 : Fm 14 0 17 = 0) (h35 : Fm 14 0 35 = v) (h6 : Fm 14 0 6 = w) (hx : F 4 q 4 = x) (x0 : 0 ≤ x ∧ x < 3000) (c6 : F 4 q 6 = 0) (ha : Bm 14 0 29 v = a) (a0 : 0 ≤ a ∧ a < 3000) (hb : BKf (IRd nl 7) B0 Bm0 x a) : zP (f_Walker_goVoice K 0 0 p q F B) (f_M_walk Km (a + 1) (Bm 14 0 30 a) (vzF Fm) (z51 Bm)) (fun r F' B' _ Fm' Bm' => r = F' 11 0 2 ∧ WF5 q v w F B Fm Bm F' B' Fm' Bm' ∧ ((WS q v w (barV n d) 0 F' B' Fm' Bm' ∧ sumZ (fun j => F' 1 (B' 4 q 5 j) 1) (F' 4 q 6).toNat ≤ 100 * barV n d) ∨ WE 0 q v w F' Fm')) := by
  obtain ⟨b1, b2, b3, b4, b5⟩ := bar_v hn hd
  have rn : r32 n := by unfold r32; omega
  have rd : r32 d := by unfold r32; omega
  have d1 : 1 ≤ d ∧ d ≤ 16 := by omega
  have cv := czF_v (q := q) (bar := barV n d) (F := F)
  have cn : ∀ c y k, ¬ (c = 11 ∧ y = 0) → czF q (barV n d) F c y k = F c y k := fun c y k h => czF_n h
  have e : f_Walker_goVoice K 0 0 p q F B = zbind (f_Walker_goThrough K 0 (B 3 0 4 x) 0 (czF q (barV n d) F) (z14 B)) (fun _ F2 B2 => some (F2 11 0 2, F2, B2)) := by
    unfold f_Walker_goVoice
    rw [if_pos ⟨Int.le_refl _, h11⟩, if_pos ⟨Int.le_refl _, h3⟩, if_pos h3, if_pos h4, if_pos h4.2, if_pos hp, C_bar (n := n) (d := d) hp (by rw [zup3_v, if_neg (by first | decide | omega), zup3_v, if_neg (by first | decide | omega), zup3_v, if_neg (by first | decide | omega), zup3_v, if_neg (by first | decide | omega), zup3_v, if_neg (by first | decide | omega), zup3_v, if_neg (by first | decide | omega), zup3_v, if_neg (by first | decide | omega), zup3_v, if_neg (by first | decide | omega), zup3_v, if_neg (by first | decide | omega), zup3_v, if_neg (by first | decide | omega), zup3_v, if_neg (by first | decide | omega), zup3_v, if_neg (by first | decide | omega)]; exact e4) (by rw [zup3_v, if_neg (by first | decide | omega), zup3_v, if_neg (by first | decide | omega), zup3_v, if_neg (by first | decide | omega), zup3_v, if_neg (by first | decide | omega), zup3_v, if_neg (by first | decide | omega), zup3_v, if_neg (by first | decide | omega), zup3_v, if_neg (by first | decide | omega), zup3_v, if_neg (by first | decide | omega), zup3_v, if_neg (by first | decide | omega), zup3_v, if_neg (by first | decide | omega), zup3_v, if_neg (by first | decide | omega), zup3_v, if_neg (by first | decide | omega)]; exact e5) hn hd, zb_s]
    exact C_v88 (F := czF q (barV n d) F) hK h11 h3 h4 cv.1 cv.2.1 (by rw [cn 4 q 4 (by first | decide | omega)]; exact hx) x0
  rw [e, hT.1 4 x]
  generalize hX : czF q (barV n d) F = X at cv cn
  have zv := vzF_v (F := Fm)
  have zn : ∀ c y k, ¬ (c = 14 ∧ y = 0 ∧ 36 ≤ k ∧ k ≤ 50) → vzF Fm c y k = Fm c y k := fun c y k h => vzF_n h
  generalize hY : vzF Fm = Y at zv zn
  have bn : ∀ c i k y, ¬ (c = 11 ∧ i = 0 ∧ k = 14) → z14 B c i k y = B c i k y := fun c i k y h => z14_n h
  have bv : ∀ y, 0 ≤ y → y < 4 → z14 B 11 0 14 y = 0 := fun y h0 h1 => z14_v h0 h1
  generalize hC : z14 B = C at bn bv
  have mn : ∀ c i k y, ¬ (c = 14 ∧ i = 0 ∧ k = 51) → z51 Bm c i k y = Bm c i k y := fun c i k y h => z51_n h
  have mv : ∀ y, y = 2 ∨ y = 3 ∨ y = 5 ∨ y = 7 → z51 Bm 14 0 51 y = 0 := fun y h => z51_v h
  generalize hM : z51 Bm = M at mn mv
  have T1 : WT N B0 Bm0 C M := ⟨fun k y => by rw [bn 3 0 k y (by first | decide | omega)]; exact hT.1 k y, fun k y h => by rw [mn 14 0 k y (by first | decide | omega)]; exact hT.2.1 k y h, fun k y h0 h1 h2 => by rw [mn 14 0 k y (by first | decide | omega)]; exact hT.2.2.1 k y h0 h1 h2, hT.2.2.2⟩
  have tk1 : TK C M N := by
    obtain ⟨t0, t1, t2⟩ := hTK
    refine ⟨t0, t1, fun j u t => ?_⟩
    have := t2 j u t
    unfold TKj at this ⊢
    simp only [bn 10 0 5 _ (by first | decide | omega), bn 10 0 6 _ (by first | decide | omega), bn 10 0 7 _ (by first | decide | omega), mn 14 0 7 _ (by first | decide | omega), mn 14 0 8 _ (by first | decide | omega), mn 14 0 9 _ (by first | decide | omega), mn 14 0 10 _ (by first | decide | omega), mn 14 0 11 _ (by first | decide | omega)]
    exact this
  have iC : inJ q C := fun t t' u v u' v' e => by
    rw [bn 4 q 5 t (by first | decide | omega), bn 4 q 5 t' (by first | decide | omega)] at e
    exact hI t t' u v u' v' e
  have C1 : WC K Km N q v w (barV n d) C Y M := by
    refine ⟨hK, hKm, h11, h3, h4, v0, w0, tk1, fun t u v => by rw [bn 4 q 5 t (by first | decide | omega)]; exact hV t u v, iC, ?_⟩
    rw [zn 13 w 4 (by first | decide | omega), zn 13 w 5 (by first | decide | omega), m4, m5]
    exact ⟨rn, rd, b2, b3, hn, d1, b4⟩
  have S1 : WS q v w (barV n d) 0 X C Y M := by
    refine ⟨⟨cv.1, cv.2.1, cv.2.2.1, by rw [zn 14 0 17 (by first | decide | omega)]; exact h17⟩, ⟨by rw [zn 14 0 35 (by first | decide | omega)]; exact h35, by rw [zn 14 0 6 (by first | decide | omega)]; exact h6, cv.2.2.2.2.2.2.2.2.2.2.2.2.1, cv.2.2.2.2.2.2.2.2.2.2.2.1⟩, ?_, ?_, ?_, ?_, ?_, ?_, ?_, ?_, ?_, ?_, ?_⟩
    · rw [cv.2.2.2.1, zv.2.1]; decide
    · rw [cv.2.2.2.2.1, zv.2.2.2.2.1]; decide
    · rw [cv.2.2.2.2.2.1, zv.2.2.2.2.2.1]; decide
    · rw [cv.2.2.2.2.2.2.1, zv.2.2.2.2.2.2.2.1]; decide
    · rw [cv.2.2.2.2.2.2.2.1, cv.2.2.2.1, zv.2.2.2.2.2.2.2.2]; decide
    · rw [cv.2.2.2.2.2.2.1]; intro u; omega
    · rw [cv.2.2.2.2.2.2.1, cv.2.2.2.2.2.2.2.2.1, cv.2.2.2.2.2.2.2.2.2.1]
      exact ⟨fun k u t => (by first | decide | omega), by decide, by decide, fun _ => ⟨rfl, rfl⟩, fun u => (by first | decide | omega), fun u => (by first | decide | omega)⟩
    · rw [cv.2.2.2.2.2.2.2.2.2.2.1, zv.2.2.1, zv.2.2.2.1, nd0.1, nd0.2]
      exact ⟨rfl, rfl, by decide, (by first | decide | omega)⟩
    · intro k u t
      rw [bv k u t, mv (prN k) (by unfold prN; split <;> omega)]
      exact ⟨rfl, (by first | decide | omega), (by first | decide | omega)⟩
    · rw [cv.2.2.2.2.2.2.2.2.2.2.2.2.2, zv.2.2.2.2.2.2.1]
      exact ⟨rfl, by decide, by decide, fun k u t => (by first | decide | omega)⟩
    · rw [cn 4 q 6 (by first | decide | omega), c6, zv.1]
      exact ⟨rfl, by decide, by decide, fun k u t => (by first | decide | omega)⟩
  obtain ⟨g1, g2, m, hl⟩ := hb
  have aN : a < N := by
    rcases Int.lt_or_le a N with z | z
    · exact z
    · have := (hT.2.2.2 a z).1
      omega
  have W := (L_all (q := q) (v := v) (w := w) (bar := barV n d) (N := N) hK h11 (by first | decide | omega) hMW hLT).1 m (B0 3 0 4 x) (a + 1) (Bm0 14 0 30 a) X C Y M hl (by first | decide | omega) g2 T1 (by rw [zn 14 0 27 (by first | decide | omega)]; exact hnl) C1 S1
  obtain ⟨r, F2, B2, r', Fm2, Bm2, y1, y2, f, s⟩ := W
  have y1' : f_Walker_goThrough K 0 (B0 3 0 4 x) 0 X C = some (r, F2, B2) := y1
  have y2' : f_M_walk Km (a + 1) (Bm0 14 0 30 a) Y M = some (r', Fm2, Bm2) := y2
  rw [y1', zb_s, hT.2.2.1 30 a (by decide) (by decide) aN, y2']
  obtain ⟨f1, f2, f3, f4, f5, f6⟩ := f
  have own : ∀ y, ownE C q y ↔ ownE B q y := fun y => by
    unfold ownE
    simp only [bn 4 q 5 _ (show ¬ (4 = 11 ∧ q = 0 ∧ 5 = 14) by omega)]
  obtain ⟨f7, f8⟩ := f6 iC
  obtain ⟨_, sd⟩ := f8 (by rw [cn 4 q 6 (by first | decide | omega), c6]; decide)
  refine zP_s ⟨rfl, ⟨fun c y k h h' h'' => ?_, fun c y k t h h' h'' => ?_, fun y => (f3 y).trans (own y), fun c i k h => ?_, fun c i k t h h' => ?_, f7⟩, ?_⟩
  · rw [f1 c y k h h' (fun z => h'' ⟨z.1, (own y).mp z.2⟩), cn c y k h]
  · rw [f2 c y k t h h' (fun z => h'' ⟨z.1, (own y).mp z.2⟩), bn c y k t (fun z => h ⟨z.1, z.2.1⟩)]
  · rw [f4 c i k h, zn c i k (by first | decide | omega)]
  · rw [f5 c i k t h h', mn c i k t (by first | decide | omega)]
  · rcases s with ⟨s, _⟩ | s
    · refine Or.inl ⟨s, ?_⟩
      unfold SD at sd
      rw [cv.2.2.2.2.2.2.2.2.2.2.1, cn 4 q 6 (by first | decide | omega), c6] at sd
      have z0 : sumZ (fun j => X 1 (C 4 q 5 j) 1) (0 : Int).toNat = 0 := rfl
      have l4 := s.2.2.2.2.2.2.2.2.2.1.2.2.2
      omega
    · exact Or.inr s
end

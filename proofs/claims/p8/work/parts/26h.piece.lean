section
/-! ===== the notes of one piece of an event, both sides ===== -/
theorem nF_t {q : Int} {F F1 F2 : zF} (h : nF q F F1) (h' : nF q F1 F2) : nF q F F2 := fun c y k n => by rw [h' c y k n, h c y k n]
theorem nB_t {q : Int} {B B1 B2 : zB} (h : nB q B B1) (h' : nB q B1 B2) : nB q B B2 := fun c y k x n => by rw [h' c y k x n, h c y k x n]
theorem nG_t {F F1 F2 : zF} (h : nG F F1) (h' : nG F1 F2) : nG F F2 := fun c y k n => by rw [h' c y k n, h c y k n]
theorem nM_t {v w : Int} {B B1 B2 : zB} (h : nM' v w B B1) (h' : nM' v w B1 B2) : nM' v w B B2 := fun c y k x n n' => by rw [h' c y k x n n', h c y k x n n']
theorem nG_c {F F' : zF} (h : chF F F') : nG F F' := fun c y k n => h c y k (by first | decide | omega)
def NO (q v w : Int) (m : Nat) (Z : Int → Int → Prop) (F : zF) (B : zB) (Fm : zF) (Bm : zB) (F' : zF) (B' : zB) (Fm' : zF) (Bm' : zB) : Prop := nF q F F' ∧ nB q B B' ∧ nG Fm Fm' ∧ nM' v w Bm Bm' ∧ ((∃ c, NW q v w m Z c F' B' Bm') ∨ NX q v w F' Bm')
theorem NO_t {q v w : Int} {m : Nat} {Z : Int → Int → Prop} {F F1 F2 : zF} {B B1 B2 : zB} {Fm Fm1 Fm2 : zF} {Bm Bm1 Bm2 : zB} (h1 : nF q F F1) (h2 : nB q B B1) (h3 : nG Fm Fm1) (h4 : nM' v w Bm Bm1) (h : NO q v w m Z F1 B1 Fm1 Bm1 F2 B2 Fm2 Bm2) : NO q v w m Z F B Fm Bm F2 B2 Fm2 Bm2 := ⟨nF_t h1 h.1, nB_t h2 h.2.1, nG_t h3 h.2.2.1, nM_t h4 h.2.2.2.1, h.2.2.2.2⟩
theorem NO_r {q v w : Int} {m : Nat} {Z : Int → Int → Prop} {F : zF} {B : zB} {Fm : zF} {Bm : zB} (h : (∃ c, NW q v w m Z c F B Bm) ∨ NX q v w F Bm) : NO q v w m Z F B Fm Bm F B Fm Bm := ⟨fun _ _ _ _ => rfl, fun _ _ _ _ _ => rfl, fun _ _ _ _ => rfl, fun _ _ _ _ _ _ => rfl, h⟩
theorem L_216 {K : Nat} {rec : Int → Int → Int → Int → Int → Int → Int → zF → zB → zO} {k l pl s dn up wi w v ev bar : Int} {F : zF} {B B' : zB} (hK : 70000000000 < K) (k0 : 0 ≤ k ∧ k < 24) (h56 : F 14 0 56 = k / 3) (h57 : F 14 0 57 = 2 - k % 3) (h52 : F 14 0 52 = nu (X5 * l)) (h53 : F 14 0 53 = de (X5 * l)) (h54 : F 14 0 54 = nu pl) (h55 : F 14 0 55 = de pl) (l0 : fv k ≤ l) (l1 : l ≤ 10000) (p0 : 0 ≤ pl ∧ pl ≤ 1000000000000) (u0 : 0 < up ∧ up ≤ 81) (d0 : 0 < dn ∧ dn ≤ 81) (s0 : 0 ≤ s ∧ s ≤ 1000000000000) (hs : X5 * fv k * up = s * dn) (hn : f_M_note_1 K w v ev bar (k / 3) (2 - k % 3) F B = some (0, F, B')) : ∃ G, f_M_part_216 rec K dn up wi w v ev bar F B = rec dn up wi w v ev bar G B' ∧ nG F G ∧ G 14 0 52 = nu (X5 * (l - fv k)) ∧ G 14 0 53 = de (X5 * (l - fv k)) ∧ G 14 0 54 = nu (pl + s) ∧ G 14 0 55 = de (pl + s) := by
  have xa : ∀ b : Int, X5 * b = 1587600 * b := fun _ => rfl
  have x1 := xa l
  have x2 := xa (fv k)
  have x3 := xa (l - fv k)
  have fb := fv_b k0.1 k0.2
  have kF := fk_F k0.1 k0.2
  have e : X5 * l - X5 * fv k = X5 * (l - fv k) := by omega
  have fu : fuK (2 - (2 - k % 3)) = fuK k := by unfold fuK; rw [show (2 - (2 - k % 3)) % 3 = k % 3 by omega]
  unfold f_M_part_216
  rw [h57, L_fu (by first | decide | omega), zb_s, f_M_formDown, zb_s, h56, h57, fu, show zlshl 1 (k / 3) * zlshl 1 (2 - k % 3) = fdK k from rfl, hn, zb_s, h52, h53, L_minusR (by first | decide | omega) (FR_r (by first | decide | omega)) kF (by first | decide | omega) (by first | decide | omega), zb_s, e]
  generalize hG1 : fr F (X5 * (l - fv k)) = G1
  have g0 : G1 14 0 0 = nu (X5 * (l - fv k)) := by rw [← hG1, fr_0]
  have g1 : G1 14 0 1 = de (X5 * (l - fv k)) := by rw [← hG1, fr_1]
  have gn : ∀ c y t, ¬ (c = 14 ∧ y = 0 ∧ t ≤ 1) → G1 c y t = F c y t := fun c y t h => by rw [← hG1, fr_n h]
  rw [g0, g1, L_timesR hK kF (by first | decide | omega) u0.1 u0.2 d0.1 d0.2 s0.1 hs, zb_s]
  generalize hG2 : zup3 (zup3 G1 14 0 52 (nu (X5 * (l - fv k)))) 14 0 53 (de (X5 * (l - fv k))) = G2
  have q52 : G2 14 0 52 = nu (X5 * (l - fv k)) := by rw [← hG2, zup3_v, if_neg (by first | decide | omega), zup3_v, if_pos (by first | decide | omega)]
  have q53 : G2 14 0 53 = de (X5 * (l - fv k)) := by rw [← hG2, zup3_v, if_pos (by first | decide | omega)]
  have qn : ∀ c y t, ¬ (c = 14 ∧ y = 0 ∧ (t ≤ 1 ∨ t = 52 ∨ t = 53)) → G2 c y t = F c y t := fun c y t h => by rw [← hG2, zup3_v, if_neg (by first | decide | omega), zup3_v, if_neg (by first | decide | omega), gn c y t (by first | decide | omega)]
  rw [fr_n (k := 54) (by first | decide | omega), fr_n (k := 55) (by first | decide | omega), fr_0, fr_1, qn 14 0 54 (by first | decide | omega), qn 14 0 55 (by first | decide | omega), h54, h55, L_plusR (by first | decide | omega) (FR_r p0.1) (FR_r s0.1) (by first | decide | omega), zb_s, fr_0, fr_1]
  refine ⟨_, rfl, fun c y t h => ?_, ?_, ?_, ?_, ?_⟩
  · rw [zup3_v, if_neg (by first | decide | omega), zup3_v, if_neg (by first | decide | omega), fr_n (by first | decide | omega), fr_n (by first | decide | omega), qn c y t (by first | decide | omega)]
  · rw [zup3_v, if_neg (by first | decide | omega), zup3_v, if_neg (by first | decide | omega), fr_n (by first | decide | omega), fr_n (by first | decide | omega), q52]
  · rw [zup3_v, if_neg (by first | decide | omega), zup3_v, if_neg (by first | decide | omega), fr_n (by first | decide | omega), fr_n (by first | decide | omega), q53]
  · rw [zup3_v, if_neg (by first | decide | omega), zup3_v, if_pos (by first | decide | omega)]
  · rw [zup3_v, if_pos (by first | decide | omega)]
theorem P_wX {K : zK} {Km m n1 n2 : Nat} {q p v w l f cnt nb ev dn up wi : Int} {F : zF} {B : zB} {Fm : zF} {Bm : zB} (h4 : 0 ≤ q ∧ q < K.2 4) (v0 : 0 ≤ v ∧ v < 4) (w0 : 0 ≤ w ∧ w < 3) (r52 : r64 (Fm 14 0 52)) (rc : r32 cnt) (rl : r32 l) (hX : NX q v w F Bm) : f_Part_writeCut_43 K (n1 + 1) cnt l f nb 1587600 q p ev F B = some (0, F, B) ∧ f_M_part_174 Km (n2 + 1) dn up wi w v ev nb Fm Bm = some (0, Fm, Bm) := by
  obtain ⟨x1, x2, x3⟩ := hX
  constructor
  · rw [f_Part_writeCut_43]
    simp only [f_Part_writeCut_121]
    rw [if_pos rc]
    by_cases c1 : 800 ≤ cnt
    · rw [if_pos c1]
    rw [if_neg c1, if_pos rl]
    by_cases c2 : l ≤ 0
    · rw [if_pos c2]
    rw [if_neg c2, if_pos h4, x2, if_pos (by decide), if_neg (by decide)]
  · rw [f_M_part_174]
    simp only [f_M_part_338]
    rw [if_pos r52]
    by_cases c1 : zcmp (Fm 14 0 52) 0 ≤ 0
    · rw [if_pos c1]
    rw [if_neg c1, if_pos w0, if_pos v0, x3, if_pos (by decide), if_pos (by decide)]
theorem nu_0 {l : Int} (l0 : 0 ≤ l) (l1 : l ≤ 10000) : (zcmp (nu (X5 * l)) 0 ≤ 0 ↔ l = 0) ∧ r64 (nu (X5 * l)) := by
  have x1 : X5 * l = 1587600 * l := rfl
  have h := FR_r (p := X5 * l) (by first | decide | omega)
  have b := FR_b h
  obtain ⟨d0, _, n0, e⟩ := h
  have WWe : WW = 812851200 := rfl
  refine ⟨?_, by unfold r64; omega⟩
  rw [zcmp_m]
  constructor
  · intro z
    have : nu (X5 * l) = 0 := by omega
    rw [this, Int.zero_mul] at e
    rcases Int.mul_eq_zero.mp e.symm with y | y <;> omega
  · intro z
    rw [z, Int.mul_zero, Int.zero_mul] at e
    rw [z, Int.mul_zero]
    rcases Int.mul_eq_zero.mp e with y | y
    · omega
    · exact absurd y (by decide)
/-- a piece outside brackets -/
theorem P_cutL {K : zK} {Km m : Nat} {Z : Int → Int → Prop} {q p v w n d nb ev U : Int} (hK : 3002 ≤ K.1) (hKm : 70000000000 < Km) (h4 : 0 ≤ q ∧ q < K.2 4) (hp : 0 ≤ p ∧ p < K.2 6) (v0 : 0 ≤ v ∧ v < 4) (w0 : 0 ≤ w ∧ w < 3) (hn : 1 ≤ n ∧ n ≤ 12) (hd : d = 2 ∨ d = 4 ∨ d = 8 ∨ d = 16) (hnb : 0 ≤ nb ∧ nb ≤ 100) (hev : -1 ≤ ev ∧ ev < m) (hU : U ≤ 3072) (hZ : ∀ y, 0 ≤ y → y < U → Z nb (X5 * y)) : ∀ (r n1 n2 : Nat) {l f cnt : Int} {F : zF} {B : zB} {Fm : zF} {Bm : zB}, l ≤ 4 * r → 0 ≤ l → l % 4 = 0 → f % 4 = 0 → 0 ≤ f → f + l ≤ U → 0 ≤ cnt → 4 * cnt + l ≤ 3072 → r < n1 → r < n2 → F 6 p 4 = n → F 6 p 5 = d → Fm 13 w 4 = n → Fm 13 w 5 = d → Fm 14 0 52 = nu (X5 * l) → Fm 14 0 53 = de (X5 * l) → Fm 14 0 54 = nu (X5 * f) → Fm 14 0 55 = de (X5 * f) → (∃ c, NW q v w m Z c F B Bm) ∨ NX q v w F Bm → zP (f_Part_writeCut_43 K n1 cnt l f nb 1587600 q p ev F B) (f_M_part_174 Km n2 1 1 0 w v ev nb Fm Bm) (fun _ F' B' _ Fm' Bm' => NO q v w m Z F B Fm Bm F' B' Fm' Bm') := by
  intro r
  induction r with
  | zero =>
    intro n1 n2 l f cnt F B Fm Bm lr l0 l4 f4 f0 fl c0 cl hn1 hn2 e4 e5 m4 m5 h52 h53 h54 h55 hN
    obtain ⟨n1, rfl⟩ : ∃ k, n1 = k + 1 := ⟨n1 - 1, (by first | decide | omega)⟩
    obtain ⟨n2, rfl⟩ : ∃ k, n2 = k + 1 := ⟨n2 - 1, (by first | decide | omega)⟩
    obtain ⟨z1, z2⟩ := nu_0 (l := l) l0 (by first | decide | omega)
    rw [f_Part_writeCut_43, if_pos (by unfold r32; omega), if_neg (by first | decide | omega), if_pos (by unfold r32; omega), if_pos (by first | decide | omega), f_Part_writeCut_121, f_M_part_174, h52, if_pos z2, if_pos (z1.mpr (by first | decide | omega)), f_M_part_338]
    exact zP_s (NO_r hN)
  | succ r ih =>
    intro n1 n2 l f cnt F B Fm Bm lr l0 l4 f4 f0 fl c0 cl hn1 hn2 e4 e5 m4 m5 h52 h53 h54 h55 hN
    obtain ⟨n1, rfl⟩ : ∃ k, n1 = k + 1 := ⟨n1 - 1, (by first | decide | omega)⟩
    obtain ⟨n2, rfl⟩ : ∃ k, n2 = k + 1 := ⟨n2 - 1, (by first | decide | omega)⟩
    obtain ⟨z1, z2⟩ := nu_0 (l := l) l0 (by first | decide | omega)
    rcases hN with ⟨c, hN⟩ | hX
    case inr =>
      obtain ⟨y1, y2⟩ := P_wX (K := K) (Km := Km) (m := m) (n1 := n1) (n2 := n2) (p := p) (l := l) (f := f) (cnt := cnt) (nb := nb) (ev := ev) (dn := 1) (up := 1) (wi := 0) (F := F) (B := B) (Fm := Fm) (Bm := Bm) h4 v0 w0 (by rw [h52]; exact z2) (by unfold r32; omega) (by unfold r32; omega) hX
      rw [y1, y2]
      exact zP_s (NO_r (Or.inr hX))
    by_cases lz : l = 0
    · rw [f_Part_writeCut_43, if_pos (by unfold r32; omega), if_neg (by first | decide | omega), if_pos (by unfold r32; omega), if_pos (by first | decide | omega), f_Part_writeCut_121, f_M_part_174, h52, if_pos z2, if_pos (z1.mpr lz), f_M_part_338]
      exact zP_s (NO_r (Or.inl ⟨c, hN⟩))
    have xa : ∀ b : Int, X5 * b = 1587600 * b := fun _ => rfl
    obtain ⟨q1, q2⟩ := nv_4 (n := n) (f := f) hd f4 (show 0 < l by omega) l4
    have kb := nvF_b (n := n) (d := d) (f := f) (l := l)
    have hS : ∀ asks : Int, asks = 0 ∨ asks = 1 → CHS w n d f l asks Fm := fun asks ha => by
      refine ⟨w0, m4, m5, hn, hd, by rw [h52, h53]; exact FR_r (by have := xa l; omega), (by first | decide | omega), ?_⟩
      rcases ha with h | h
      · exact Or.inl h
      · exact Or.inr ⟨h, by rw [h54, h55]; exact FR_r (by have := xa f; omega), (by first | decide | omega)⟩
    have p1 : (fun k => decide (chP n d f l 1 k)) = (fun k => decide (fv k ≤ l ∧ stnd n d f k)) := by
      funext k
      congr 1
      exact propext ⟨fun h => ⟨h.1, h.2.resolve_left (by decide)⟩, fun h => ⟨h.1, Or.inr h.2⟩⟩
    have p0 : ∀ a, (fun k => decide (chP n d a l 0 k)) = (fun k => decide (fv k ≤ l)) := fun a => by
      funext k
      congr 1
      exact propext ⟨fun h => h.1, fun h => ⟨h, Or.inl rfl⟩⟩
    -- the reference comes to the same value
    have ch : ∃ G, chF Fm G ∧ G 14 0 56 = nvF n d f l / 3 ∧ G 14 0 57 = 2 - nvF n d f l % 3 ∧ f_M_part_174 Km (n2 + 1) 1 1 0 w v ev nb Fm Bm = f_M_part_216 (f_M_part_174 Km n2) Km 1 1 0 w v ev nb G Bm := by
      obtain ⟨G1, g1, g2, g3⟩ := L_choose (K := Km) (B := Bm) (by first | decide | omega) (hS 1 (Or.inr rfl))
      rw [p1] at g1 g3
      rw [f_M_part_174, h52, if_pos z2, if_neg (fun h => lz (z1.mp h)), if_pos w0, if_pos v0, hN.2.2.2.1, if_pos (show r32 c by have := hN.1; unfold r32; omega), if_neg (by have := hN.1; omega), if_pos (by decide), if_pos rfl, g1, zb_s]
      unfold nvF
      by_cases y : fsN (fun k => decide (fv k ≤ l ∧ stnd n d f k)) 24 0 < 0
      · obtain ⟨G2, h1, h2, h3⟩ := L_choose (K := Km) (B := Bm) (by first | decide | omega) (CHS_f (hS 0 (Or.inl rfl)) g2)
        rw [p0] at h1 h3
        have gz := (gv_4 (show 0 < l by omega) l4).2.2
        obtain ⟨h4', h5'⟩ := h3 gz
        rw [if_pos y, if_pos y, if_pos (show r32 0 by decide), if_pos (show (0 : Int) = 0 from rfl), f_M_part_209, h1, zb_s]
        refine ⟨G2, chF_t g2 h2, ?_, ?_, rfl⟩
        · rw [h4']; unfold gvF; rw [if_neg (by first | decide | omega)]
        · rw [h5']; unfold gvF; rw [if_neg (by first | decide | omega)]
      · obtain ⟨h4', h5'⟩ := g3 (by first | decide | omega)
        rw [if_neg y, if_neg y, if_pos (show r32 1 by decide), if_neg (show ¬ (1 : Int) = 0 by decide)]
        exact ⟨G1, g2, h4', h5', rfl⟩
    obtain ⟨G, gc, g56, g57, eM⟩ := ch
    generalize hk : nvF n d f l = k at *
    have fb := fv_b kb.1 kb.2
    have x1 := xa f
    have x2 := xa (fv k)
    have x3 := xa (f + fv k)
    have g54 : G 14 0 54 = nu (X5 * f) := by rw [gc _ _ _ (by first | decide | omega)]; exact h54
    have g55 : G 14 0 55 = de (X5 * f) := by rw [gc _ _ _ (by first | decide | omega)]; exact h55
    obtain ⟨F1, B1, M1, a1, a2, a3, a4, a5, a6⟩ := P_add (K := K) (Km := Km) (ev := ev) (bar := nb) (pl := X5 * f) (val := k) (fo := k / 3) (po := 2 - k % 3) (Fm := G) h4 v0 w0 hev hnb (by first | decide | omega) (by first | decide | omega) rfl rfl g54 g55 (hZ f f0 (by first | decide | omega)) hN
    obtain ⟨G', b1, b2, b3, b4, b5, b6⟩ := L_216 (K := Km) (rec := f_M_part_174 Km n2) (k := k) (l := l) (pl := X5 * f) (s := X5 * fv k) (dn := 1) (up := 1) (wi := 0) (w := w) (v := v) (ev := ev) (bar := nb) (F := G) (B := Bm) (B' := M1) hKm kb g56 g57 (by rw [gc _ _ _ (by first | decide | omega)]; exact h52) (by rw [gc _ _ _ (by first | decide | omega)]; exact h53) g54 g55 q1 (by first | decide | omega) (by first | decide | omega) (by decide) (by decide) (by first | decide | omega) rfl a2
    rw [eM, b1, f_Part_writeCut_43, if_pos (by unfold r32; omega), if_neg (by first | decide | omega), if_pos (by unfold r32; omega), if_neg (by first | decide | omega), if_pos h4, hN.2.2.1, if_pos (by decide), if_pos rfl, if_pos hp, e4, e5, C_next hK hn hd f0 (by first | decide | omega) (by first | decide | omega) (by first | decide | omega), zb_s, hk, if_pos (by unfold r32; omega), show f * 1587600 = X5 * f by omega, a1, zb_s, C_fine kb.1 kb.2, zb_s, C_fine kb.1 kb.2, zb_s]
    have N1 : (∃ c, NW q v w m Z c F1 B1 M1) ∨ NX q v w F1 M1 := by
      rcases a6 with ⟨_, h⟩ | h
      · exact Or.inl ⟨_, h⟩
      · exact Or.inr h
    have gG := nG_t (nG_c gc) b2
    refine zP_m (ih n1 n2 (l := l - fv k) (f := f + fv k) (cnt := cnt + 1) (F := F1) (B := B1) (Fm := G') (Bm := M1) (by first | decide | omega) (by first | decide | omega) (by first | decide | omega) (by first | decide | omega) (by first | decide | omega) (by first | decide | omega) (by first | decide | omega) (by first | decide | omega) (by first | decide | omega) (by first | decide | omega) (by rw [a3 6 p 4 (by first | decide | omega)]; exact e4) (by rw [a3 6 p 5 (by first | decide | omega)]; exact e5) (by rw [gG 13 w 4 (by first | decide | omega)]; exact m4) (by rw [gG 13 w 5 (by first | decide | omega)]; exact m5) b3 b4 (by rw [b5]; congr 1; omega) (by rw [b6]; congr 1; omega) N1) ?_
    intro _ F2 B2 _ Fm2 Bm2 h
    exact NO_t a3 a4 gG a5 h
end

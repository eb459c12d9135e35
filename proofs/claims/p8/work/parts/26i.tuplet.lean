section
section
/-! ===== where brackets stand: places outside them are multiples of a 128th; the notes of an event in a bracket ===== -/
theorem run_s {f : Nat → Int} : ∀ (i : Nat), ∃ s : Nat, s ≤ i ∧ (∀ t : Nat, s ≤ t → t ≤ i → f t = f i) ∧ (s = 0 ∨ ∃ s' : Nat, s = s' + 1 ∧ ¬ f s' = f i) := by
  intro i
  induction i with
  | zero => exact ⟨0, Nat.le_refl _, fun t _ b => by rw [show t = 0 by omega], Or.inl rfl⟩
  | succ i ih =>
    by_cases c : f i = f (i + 1)
    · obtain ⟨s, s0, s1, s2⟩ := ih
      refine ⟨s, (by first | decide | omega), fun t a b => ?_, ?_⟩
      · by_cases e : t = i + 1
        · rw [e]
        · rw [s1 t a (by first | decide | omega), c]
      · rcases s2 with h | ⟨s', h1, h2⟩
        · exact Or.inl h
        · exact Or.inr ⟨s', h1, by rw [← c]; exact h2⟩
    · exact ⟨i + 1, Nat.le_refl _, fun t a b => by rw [show t = i + 1 by omega], Or.inr ⟨i, rfl, c⟩⟩
theorem BS_all {q bar : Int} {m : Nat} {g : Int → Int} {F : zF} {B : zB} (hb : 0 < bar) (hg : ∀ j : Int, 0 ≤ j → j < m → 1 ≤ g j) (h0 : ∀ i : Nat, i < m → F 1 (B 4 q 5 i) 5 = 0 → g i % 6350400 = 0) (h : ∀ i : Nat, i < m → BSk q m bar g F B i) : (∀ i : Nat, i ≤ m → (i = m ∨ F 1 (B 4 q 5 i) 5 = 0) → sumZ g i % 6350400 = 0) ∧ (∀ i : Nat, i < m → ¬ F 1 (B 4 q 5 i) 5 = 0 → sumZ g (i + 1) ≤ (sumZ g i / bar + 1) * bar) := by
  have mono : ∀ a b : Nat, a ≤ b → b ≤ m → sumZ g a ≤ sumZ g b := fun a b h1 h2 => by
    have := sumZ_m (m := b) (fun j p r => hg j p (by first | decide | omega)) (b - a) a (by first | decide | omega)
    omega
  have nn := sumZ_0 hg
  -- a bracket's first event and its end
  have run : ∀ i : Nat, i < m → ¬ F 1 (B 4 q 5 i) 5 = 0 → ∃ s j : Nat, s ≤ i ∧ i < j ∧ j ≤ m ∧ (∀ t : Nat, s ≤ t → t < j → F 1 (B 4 q 5 t) 5 = F 1 (B 4 q 5 i) 5) ∧ (s = 0 ∨ ∃ s' : Nat, s = s' + 1 ∧ ¬ F 1 (B 4 q 5 s') 5 = F 1 (B 4 q 5 i) 5) ∧ (j = m ∨ ¬ F 1 (B 4 q 5 j) 5 = F 1 (B 4 q 5 i) 5) ∧ sumZ g j ≤ (sumZ g s / bar + 1) * bar ∧ (sumZ g j - sumZ g s) % 6350400 = 0 := fun i hi hz => by
    obtain ⟨s, s0, s1, s2⟩ := run_s (f := fun t => F 1 (B 4 q 5 t) 5) i
    have es := s1 s (Nat.le_refl _) s0
    have es' : F 1 (B 4 q 5 s) 5 = F 1 (B 4 q 5 i) 5 := es
    rcases h s (by first | decide | omega) with y | ⟨s', y1, y2⟩ | ⟨j, j0, j1, j2, j3, j4, j5⟩
    · exact absurd (by rw [← es']; exact y) hz
    · rcases s2 with z | ⟨s'', z1, z2⟩
      · omega
      · exfalso
        apply z2
        show F 1 (B 4 q 5 s'') 5 = F 1 (B 4 q 5 i) 5
        rw [show s'' = s' by omega, y2, es']
    · have ij : i < j := by
        rcases Nat.lt_or_ge i j with z | z
        · exact z
        · exfalso
          rcases j3 with w | w
          · omega
          · exact w (by rw [es']; exact s1 j (by first | decide | omega) z)
      refine ⟨s, j, s0, ij, j1, fun t a b => by rw [j2 t a b, es'], s2, ?_, j4, j5⟩
      rcases j3 with w | w
      · exact Or.inl w
      · exact Or.inr (fun e => w (by rw [es']; exact e))
  have A : ∀ (n i : Nat), i ≤ n → i ≤ m → (i = 0 ∨ i = m ∨ F 1 (B 4 q 5 i) 5 = 0 ∨ ∃ i' : Nat, i = i' + 1 ∧ ¬ F 1 (B 4 q 5 i') 5 = F 1 (B 4 q 5 i) 5) → sumZ g i % 6350400 = 0 := by
    intro n
    induction n with
    | zero => intro i hi _ _; rw [show i = 0 by omega]; rfl
    | succ n ih =>
      intro i hi im hb'
      by_cases i0 : i = 0
      · rw [i0]; rfl
      obtain ⟨k, rfl⟩ : ∃ k, i = k + 1 := ⟨i - 1, (by first | decide | omega)⟩
      by_cases z : F 1 (B 4 q 5 k) 5 = 0
      · have a := ih k (by first | decide | omega) (by first | decide | omega) (Or.inr (Or.inr (Or.inl z)))
        have b := h0 k (by first | decide | omega) z
        rw [sumZ]
        omega
      · obtain ⟨s, j, r0, r1, r2, r3, r4, r5, r6, r7⟩ := run k (by first | decide | omega) z
        have js : j = k + 1 := by
          rcases Nat.lt_or_ge (k + 1) j with y | y
          · exfalso
            have e := r3 (k + 1) (by first | decide | omega) y
            rcases hb' with t | t | t | ⟨i', t1, t2⟩
            · omega
            · omega
            · exact z (by rw [← e]; exact t)
            · exact t2 (by rw [show i' = k by omega]; exact e.symm)
          · omega
        have a : sumZ g s % 6350400 = 0 := by
          refine ih s (by first | decide | omega) (by first | decide | omega) ?_
          rcases r4 with t | ⟨s', t1, t2⟩
          · exact Or.inl t
          · exact Or.inr (Or.inr (Or.inr ⟨s', t1, fun e => t2 (by rw [e]; exact r3 s (Nat.le_refl _) (by first | decide | omega))⟩))
        rw [js] at r7
        omega
  constructor
  · intro i im hi
    exact A i i (Nat.le_refl _) im (hi.elim (fun t => Or.inr (Or.inl t)) (fun t => Or.inr (Or.inr (Or.inl t))))
  · intro i im hz
    obtain ⟨s, j, r0, r1, r2, r3, r4, r5, r6, r7⟩ := run i im hz
    have m1 := mono (i + 1) j (by first | decide | omega) r2
    have m2 := mono s i r0 (by first | decide | omega)
    have m3 : sumZ g s / bar ≤ sumZ g i / bar := Int.ediv_le_ediv hb m2
    have m4 : (sumZ g s / bar + 1) * bar ≤ (sumZ g i / bar + 1) * bar := Int.mul_le_mul_of_nonneg_right (by first | decide | omega) (by first | decide | omega)
    omega
end
end
section
section
/-! ===== the notes of an event in a bracket, both sides ===== -/
theorem gv_8 {l : Int} (l8 : 8 ≤ l) : 8 ≤ fv (gvF l) := by
  obtain ⟨_, f17, f18, f20, f21, f22, f23⟩ := fv_4
  have nn := fsN_n (P := fun k => decide (fv k ≤ l)) 24 (k := 0) (Int.le_refl _)
  have p20 : ¬ (20 < fsN (fun k => decide (fv k ≤ l)) 24 0 ∨ fsN (fun k => decide (fv k ≤ l)) 24 0 < 0) := fun h => by
    have := nn 20 (by decide) (by decide) h
    have : decide (fv 20 ≤ l) = false := this
    exact absurd (by first | decide | omega) (of_decide_eq_false this)
  unfold gvF
  generalize fsN (fun k => decide (fv k ≤ l)) 24 0 = r at *
  have r0 : 0 ≤ r ∧ r ≤ 20 := by omega
  rw [if_neg (by first | decide | omega)]
  rcases Int.lt_or_le r 20 with z | z
  · have := fv_l r0.1 z (by decide)
    omega
  · rw [show r = 20 by omega, f20]; decide
theorem C_wtX {K : zK} {n1 : Nat} {q v w l at' cnt nb e i : Int} {F : zF} {B Bm : zB} (h4 : 0 ≤ q ∧ q < K.2 4) (rc : r32 cnt) (rl : r32 l) (hX : NX q v w F Bm) : f_Part_writeTuplet_23 K (n1 + 1) cnt l at' e q i nb F B = some (0, F, B) := by
  obtain ⟨x1, x2, x3⟩ := hX
  rw [f_Part_writeTuplet_23]
  simp only [f_Part_writeTuplet_109]
  rw [if_pos rc]
  by_cases c1 : 800 ≤ cnt
  · rw [if_pos c1]
  rw [if_neg c1, if_pos rl]
  by_cases c2 : l ≤ 0
  · rw [if_pos c2]
  rw [if_neg c2, if_pos h4, x2, if_pos (by decide), if_neg (by decide)]
theorem P_tupL {K : zK} {Km m : Nat} {Z : Int → Int → Prop} {q v w nb ev e t1 t2 z A n d : Int} (hK : 3002 ≤ K.1) (hKm : 70000000000 < Km) (h4 : 0 ≤ q ∧ q < K.2 4) (v0 : 0 ≤ v ∧ v < 4) (w0 : 0 ≤ w ∧ w < 3) (hn : 1 ≤ n ∧ n ≤ 12) (hd : d = 2 ∨ d = 4 ∨ d = 8 ∨ d = 16) (hnb : 0 ≤ nb ∧ nb ≤ 100) (hev : -1 ≤ ev ∧ ev < m) (he : 0 ≤ e ∧ e < K.2 1) (ht1 : 1 ≤ t1 ∧ t1 ≤ 81) (ht2 : 1 ≤ t2 ∧ t2 ≤ 81) (hz : 6350400 = t1 * z) (hA : A ≤ 1000000000000) (hZ : ∀ y, 0 ≤ y → y < A → Z nb y) : ∀ (r n1 n2 : Nat) {l at' cnt : Int} {F : zF} {B : zB} {Fm : zF} {Bm : zB}, l ≤ 4 * r → 0 ≤ l → l % 4 = 0 → l ≤ 4096 → 0 ≤ at' → at' + z * (l / 4) * t2 = A → 0 ≤ cnt → cnt ≤ 600 → (0 < l → 8 * cnt + l ≤ 4096) → r < n1 → r < n2 → F 1 e 3 = t1 → F 1 e 4 = t2 → Fm 13 w 4 = n → Fm 13 w 5 = d → Fm 14 0 52 = nu (X5 * l) → Fm 14 0 53 = de (X5 * l) → Fm 14 0 54 = nu at' → Fm 14 0 55 = de at' → (∃ c, NW q v w m Z c F B Bm) ∨ NX q v w F Bm → zP (f_Part_writeTuplet_23 K n1 cnt l at' e q ev nb F B) (f_M_part_174 Km n2 t1 t2 1 w v ev nb Fm Bm) (fun _ F' B' _ Fm' Bm' => NO q v w m Z F B Fm Bm F' B' Fm' Bm') := by
  have z0 : 0 < z := by
    rcases Int.lt_or_le 0 z with y | y
    · exact y
    · have := Int.mul_nonpos_of_nonneg_of_nonpos (show 0 ≤ t1 by omega) y
      omega
  intro r
  induction r with
  | zero =>
    intro n1 n2 l at' cnt F B Fm Bm lr l0 l4 l1 a0 hA' c0 c6 cl hn1 hn2 e3 e4 m4 m5 h52 h53 h54 h55 hN
    obtain ⟨n1, rfl⟩ : ∃ k, n1 = k + 1 := ⟨n1 - 1, (by first | decide | omega)⟩
    obtain ⟨n2, rfl⟩ : ∃ k, n2 = k + 1 := ⟨n2 - 1, (by first | decide | omega)⟩
    obtain ⟨z1, z2⟩ := nu_0 (l := l) l0 (by first | decide | omega)
    rw [f_Part_writeTuplet_23, if_pos (by unfold r32; omega), if_neg (by first | decide | omega), if_pos (by unfold r32; omega), if_pos (by first | decide | omega), f_Part_writeTuplet_109, f_M_part_174, h52, if_pos z2, if_pos (z1.mpr (by first | decide | omega)), f_M_part_338]
    exact zP_s (NO_r hN)
  | succ r ih =>
    intro n1 n2 l at' cnt F B Fm Bm lr l0 l4 l1 a0 hA' c0 c6 cl hn1 hn2 e3 e4 m4 m5 h52 h53 h54 h55 hN
    obtain ⟨n1, rfl⟩ : ∃ k, n1 = k + 1 := ⟨n1 - 1, (by first | decide | omega)⟩
    obtain ⟨n2, rfl⟩ : ∃ k, n2 = k + 1 := ⟨n2 - 1, (by first | decide | omega)⟩
    obtain ⟨z1, z2⟩ := nu_0 (l := l) l0 (by first | decide | omega)
    rcases hN with ⟨c, hN⟩ | hX
    case inr =>
      have y1 := C_wtX (n1 := n1) (l := l) (at' := at') (cnt := cnt) (nb := nb) (e := e) (i := ev) (B := B) h4 (by unfold r32; omega) (by unfold r32; omega) hX
      obtain ⟨_, y2⟩ := P_wX (K := K) (Km := Km) (m := m) (n1 := n1) (n2 := n2) (p := 0) (l := l) (f := 0) (cnt := cnt) (nb := nb) (ev := ev) (dn := t1) (up := t2) (wi := 1) (F := F) (B := B) (Fm := Fm) (Bm := Bm) h4 v0 w0 (by rw [h52]; exact z2) (by unfold r32; omega) (by unfold r32; omega) hX
      rw [y1, y2]
      exact zP_s (NO_r (Or.inr hX))
    by_cases lz : l = 0
    · rw [f_Part_writeTuplet_23, if_pos (by unfold r32; omega), if_neg (by first | decide | omega), if_pos (by unfold r32; omega), if_pos (by first | decide | omega), f_Part_writeTuplet_109, f_M_part_174, h52, if_pos z2, if_pos (z1.mpr lz), f_M_part_338]
      exact zP_s (NO_r (Or.inl ⟨c, hN⟩))
    have xa : ∀ b : Int, X5 * b = 1587600 * b := fun _ => rfl
    obtain ⟨q1, q2, q3⟩ := gv_4 (show 0 < l by omega) l4
    have q8 : 8 ≤ l → 8 ≤ fv (gvF l) := gv_8
    have kb := gvF_b (l := l)
    have p0 : (fun k => decide (chP n d 0 l 0 k)) = (fun k => decide (fv k ≤ l)) := by
      funext k
      congr 1
      exact propext ⟨fun h => h.1, fun h => ⟨h, Or.inl rfl⟩⟩
    obtain ⟨G, g1, gc, g3⟩ := L_choose (K := Km) (w := w) (n := n) (d := d) (here := 0) (left := l) (asks := 0) (F := Fm) (B := Bm) (by first | decide | omega) ⟨w0, m4, m5, hn, hd, by rw [h52, h53]; exact FR_r (by have := xa l; omega), (by first | decide | omega), Or.inl rfl⟩
    rw [p0] at g1 g3
    obtain ⟨g56, g57⟩ := g3 q3
    have gk : fsN (fun k => decide (fv k ≤ l)) 24 0 = gvF l := by unfold gvF; rw [if_neg (by first | decide | omega)]
    rw [gk] at g56 g57
    generalize hk : gvF l = k at *
    have fb := fv_b kb.1 kb.2
    have x2 := xa (fv k)
    -- how far the note reaches
    have yz : z * (l / 4) * t2 = z * ((l - fv k) / 4) * t2 + z * (fv k / 4) * t2 := by
      rw [show l / 4 = (l - fv k) / 4 + fv k / 4 by omega, Int.mul_add, Int.add_mul]
    have y0 : 0 ≤ z * (fv k / 4) * t2 := Int.mul_nonneg (Int.mul_nonneg (by first | decide | omega) (by first | decide | omega)) (by first | decide | omega)
    have y1 : 0 ≤ z * ((l - fv k) / 4) * t2 := Int.mul_nonneg (Int.mul_nonneg (by first | decide | omega) (by first | decide | omega)) (by first | decide | omega)
    have dv : 1587600 * fv k = t1 * (z * (fv k / 4)) := by
      rw [← Int.mul_assoc, ← hz]
      omega
    have ds : X5 * fv k * t2 = z * (fv k / 4) * t2 * t1 := by
      rw [x2, dv]
      ac_rfl
    have yp : 0 < z * (l / 4) * t2 := Int.mul_pos (Int.mul_pos z0 (by first | decide | omega)) (by first | decide | omega)
    have g54 : G 14 0 54 = nu at' := by rw [gc _ _ _ (by first | decide | omega)]; exact h54
    have g55 : G 14 0 55 = de at' := by rw [gc _ _ _ (by first | decide | omega)]; exact h55
    obtain ⟨F1, B1, M1, a1, a2, a3, a4, a5, a6⟩ := P_add (K := K) (Km := Km) (ev := ev) (bar := nb) (pl := at') (val := k) (fo := k / 3) (po := 2 - k % 3) (Fm := G) h4 v0 w0 hev hnb (by first | decide | omega) (by first | decide | omega) rfl rfl g54 g55 (hZ at' a0 (by first | decide | omega)) hN
    obtain ⟨G', b1, b2, b3, b4, b5, b6⟩ := L_216 (K := Km) (rec := f_M_part_174 Km n2) (k := k) (l := l) (pl := at') (s := z * (fv k / 4) * t2) (dn := t1) (up := t2) (wi := 1) (w := w) (v := v) (ev := ev) (bar := nb) (F := G) (B := Bm) (B' := M1) hKm kb g56 g57 (by rw [gc _ _ _ (by first | decide | omega)]; exact h52) (by rw [gc _ _ _ (by first | decide | omega)]; exact h53) g54 g55 q1 (by first | decide | omega) (by first | decide | omega) (by first | decide | omega) (by first | decide | omega) (by first | decide | omega) ds a2
    have eM : f_M_part_174 Km (n2 + 1) t1 t2 1 w v ev nb Fm Bm = f_M_part_174 Km n2 t1 t2 1 w v ev nb G' M1 := by
      rw [f_M_part_174, h52, if_pos z2, if_neg (fun h => lz (z1.mp h)), if_pos w0, if_pos v0, hN.2.2.2.1, if_pos (show r32 c by have := hN.1; unfold r32; omega), if_neg (by have := hN.1; omega), if_pos (by decide), if_neg (by decide), f_M_part_209, g1, zb_s, b1]
    have zm : zmax t1 1 = t1 := by unfold zmax; rw [if_neg (by first | decide | omega)]
    have f13 : F1 1 e 3 = t1 := by rw [a3 1 e 3 (by first | decide | omega)]; exact e3
    have f14 : F1 1 e 4 = t2 := by rw [a3 1 e 4 (by first | decide | omega)]; exact e4
    have qd : zldv (1587600 * fv k) t1 = z * (fv k / 4) := by
      rw [zldv_e (by first | decide | omega) (by first | decide | omega) (by first | decide | omega) (by first | decide | omega), dv, Int.mul_ediv_cancel_left _ (by first | decide | omega)]
    rw [eM, f_Part_writeTuplet_23, if_pos (by unfold r32; omega), if_neg (by first | decide | omega), if_pos (by unfold r32; omega), if_neg (by first | decide | omega), if_pos h4, hN.2.2.1, if_pos (by decide), if_pos rfl, C_great hK (by unfold r32; omega), zb_s, hk, a1, zb_s, C_fine kb.1 kb.2, zb_s, C_fine kb.1 kb.2, zb_s, if_pos (show r32 (fv k) by unfold r32; omega), if_pos he, f13, if_pos (show r32 t1 by unfold r32; omega), zm, if_pos (show r32 t1 by unfold r32; omega), if_pos (lI_n0 (by first | decide | omega) (by unfold r64; omega)), f14, if_pos (show r32 t2 by unfold r32; omega), qd]
    have N1 : (∃ c, NW q v w m Z c F1 B1 M1) ∨ NX q v w F1 M1 := by
      rcases a6 with ⟨_, h⟩ | h
      · exact Or.inl ⟨_, h⟩
      · exact Or.inr h
    have gG := nG_t (nG_c gc) b2
    refine zP_m (ih n1 n2 (l := l - fv k) (at' := at' + z * (fv k / 4) * t2) (cnt := cnt + 1) (F := F1) (B := B1) (Fm := G') (Bm := M1) (by first | decide | omega) (by first | decide | omega) (by first | decide | omega) (by first | decide | omega) (by first | decide | omega) (by first | decide | omega) (by first | decide | omega) (by have := cl (by first | decide | omega); omega) (by intro h; have := cl (by first | decide | omega); have := q8 (by first | decide | omega); omega) (by first | decide | omega) (by first | decide | omega) f13 f14 (by rw [gG 13 w 4 (by first | decide | omega)]; exact m4) (by rw [gG 13 w 5 (by first | decide | omega)]; exact m5) b3 b4 b5 b6 N1) ?_
    intro _ F2 B2 _ Fm2 Bm2 h
    exact NO_t a3 a4 gG a5 h
end
end

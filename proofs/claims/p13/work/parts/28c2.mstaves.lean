section
section
/-! ===== the signs of a voice's notes, exactly, on the other side ===== -/
variable {Km : Nat} {w v n d c : Int} {m : Nat} {D : zD} {F : zF}
/-- the event of the note before -/
def lED (D : zD) (i : Int) : Int := if i = 0 then -1 else D 0 (i - 1) 0
/-- the rows of voice v are D -/
def MDr (w v n d : Int) (m : Nat) (c : Int) (D : zD) (F : zF) (B : zB) : Prop := ((0 ≤ w ∧ w < 3) ∧ (0 ≤ v ∧ v < 4)) ∧ (F 13 w 2 = D 8 2 0 ∧ -7 ≤ D 8 2 0 ∧ D 8 2 0 ≤ 7) ∧ (F 13 w 4 = n ∧ F 13 w 5 = d ∧ (1 ≤ n ∧ n ≤ 12) ∧ (d = 2 ∨ d = 4 ∨ d = 8 ∨ d = 16) ∧ D 8 4 0 = btV n d) ∧ (B 13 w 8 v = D 8 3 0 ∧ 0 ≤ D 8 3 0 ∧ D 8 3 0 < 4) ∧ (D 8 0 0 = c ∧ B 13 w 13 v = c ∧ 0 ≤ c ∧ c ≤ 800) ∧ (D 8 1 0 = m ∧ m ≤ 200) ∧ (∀ i, 0 ≤ i → i < c → (B 13 w 30 (800 * v + i) = D 0 i 0 ∧ -1 ≤ D 0 i 0 ∧ D 0 i 0 < m) ∧ (B 13 w 31 (800 * v + i) = D 1 i 0 ∧ 0 ≤ D 1 i 0 ∧ D 1 i 0 ≤ 100) ∧ (B 13 w 32 (800 * v + i) = nu (D 2 i 0) ∧ B 13 w 33 (800 * v + i) = de (D 2 i 0) ∧ 0 ≤ D 2 i 0 ∧ D 2 i 0 ≤ 1000000000000) ∧ (B 13 w 34 (800 * v + i) = D 3 i 0 ∧ 0 ≤ D 3 i 0 ∧ D 3 i 0 ≤ 9)) ∧ (∀ t : Int, 0 ≤ t → t < m → (B 13 w 18 (1000 * v + t) = D 4 t 0 ∧ 0 ≤ D 4 t 0 ∧ D 4 t 0 < 128) ∧ (B 13 w 21 (1000 * v + t) = D 5 t 0 ∧ 0 ≤ D 5 t 0 ∧ D 5 t 0 ≤ 6) ∧ (zand (D 4 t 0) 1 ≤ 0 ∨ t + 1 < m) ∧ ∀ k, 0 ≤ k → k < D 5 t 0 → (B 13 w 28 (6 * (1000 * v + t) + k) = D 6 t k ∧ 0 ≤ D 6 t k ∧ D 6 t k ≤ 62) ∧ (B 13 w 29 (6 * (1000 * v + t) + k) = D 7 t k ∧ -2 ≤ D 7 t k ∧ D 7 t k ≤ 2)) ∧ (∀ i, 0 ≤ i → i < c → D 0 i 0 = lED D i ∨ D 0 i 0 = lED D i + 1 ∨ D 0 i 0 = -1)
/-- what staves changes -/
def svM (w : Int) (B B' : zB) : Prop := ∀ c y k x, ¬ (c = 13 ∧ y = w ∧ 36 ≤ k ∧ k ≤ 41) → ¬ (c = 14 ∧ y = 0 ∧ k = 58) → B' c y k x = B c y k x
theorem svM_t {B B1 B2 : zB} (h : svM w B B1) (h' : svM w B1 B2) : svM w B B2 := fun c y k x a b => by rw [h' c y k x a b, h c y k x a b]
theorem svM_w {B : zB} {k : Nat} {i x : Int} (hk : 36 ≤ k ∧ k ≤ 41) : svM w B (zup4 B 13 w k i x) := fun c y k x a b => by rw [zup4_v, if_neg (by first | decide | omega)]
theorem MDr_f {B B' : zB} (h : MDr w v n d m c D F B) (f : svM w B B') : MDr w v n d m c D F B' := by
  obtain ⟨h1, h2, h3, h4, h5, h6, h7, h8, h9⟩ := h
  refine ⟨h1, h2, h3, by rw [f 13 w 8 v (by first | decide | omega) (by first | decide | omega)]; exact h4, ⟨h5.1, by rw [f 13 w 13 v (by first | decide | omega) (by first | decide | omega)]; exact h5.2.1, h5.2.2⟩, h6, fun i i0 i1 => ?_, fun t t0 t1 => ?_, h9⟩
  · rw [f 13 w 30 _ (by first | decide | omega) (by first | decide | omega), f 13 w 31 _ (by first | decide | omega) (by first | decide | omega), f 13 w 32 _ (by first | decide | omega) (by first | decide | omega), f 13 w 33 _ (by first | decide | omega) (by first | decide | omega), f 13 w 34 _ (by first | decide | omega) (by first | decide | omega)]
    exact h7 i i0 i1
  · obtain ⟨a1, a2, a3, a4⟩ := h8 t t0 t1
    refine ⟨by rw [f 13 w 18 _ (by first | decide | omega) (by first | decide | omega)]; exact a1, by rw [f 13 w 21 _ (by first | decide | omega) (by first | decide | omega)]; exact a2, a3, fun k k0 k1 => ?_⟩
    rw [f 13 w 28 _ (by first | decide | omega) (by first | decide | omega), f 13 w 29 _ (by first | decide | omega) (by first | decide | omega)]
    exact a4 k k0 k1
theorem z1_f : ∀ n : Fin 128, zand (n.val : Int) 1 = 0 ∨ zand (n.val : Int) 1 = 1 := by decide +kernel
theorem z1_b {x : Int} (h0 : 0 ≤ x) (h1 : x < 128) : zand x 1 = 0 ∨ zand x 1 = 1 := by
  have h := z1_f ⟨x.toNat, (by first | decide | omega)⟩
  rw [show (((⟨x.toNat, (by first | decide | omega)⟩ : Fin 128).val : Nat) : Int) = x by show ((x.toNat : Nat) : Int) = x; omega] at h
  exact h
theorem M_snd {i : Int} {B : zB} (h : MDr w v n d m c D F B) (i0 : 0 ≤ i) (i1 : i < c) : f_M_sounding Km w v i F B = some (if rsN D i = 1 then -1 else 1000 * v + D 0 i 0, F, B) ∧ (rsN D i = 0 → 0 ≤ D 0 i 0 ∧ 1 ≤ D 5 (D 0 i 0) 0) := by
  obtain ⟨⟨w0, v0⟩, _, _, _, _, h6, h7, h8, _⟩ := h
  obtain ⟨a1, _⟩ := h7 i i0 i1
  unfold f_M_sounding f_M_sounding_32 f_M_sounding_43
  rw [if_pos w0, if_pos (by first | decide | omega), a1.1, if_pos (by unfold r32; omega)]
  by_cases z : D 0 i 0 < 0
  · have e : rsN D i = 1 := by unfold rsN; rw [if_pos z]
    rw [if_pos z, e, if_pos rfl]
    exact ⟨rfl, fun y => absurd y (by decide)⟩
  obtain ⟨_, e5, _⟩ := h8 (D 0 i 0) (by first | decide | omega) a1.2.2
  rw [if_neg z, if_pos (by first | decide | omega), e5.1, if_pos (by unfold r32; omega)]
  by_cases y : D 5 (D 0 i 0) 0 = 0
  · have e : rsN D i = 1 := by unfold rsN; rw [if_neg z, if_pos y]
    rw [if_pos y, e, if_pos rfl]
    exact ⟨rfl, fun y => absurd y (by decide)⟩
  · have e : rsN D i = 0 := by unfold rsN; rw [if_neg z, if_neg y]
    rw [if_neg y, e, if_neg (by decide)]
    exact ⟨rfl, fun _ => ⟨(by first | decide | omega), (by first | decide | omega)⟩⟩
theorem M_has {t s a : Int} {B : zB} (hK : 3002 ≤ Km) (h : MDr w v n d m c D F B) (t0 : 0 ≤ t) (t1 : t < m) (rs : r32 s) (ra : r32 a) : f_M_has Km w (1000 * v + t) s a F B = some (fpD D t s a, F, B) := by
  obtain ⟨⟨w0, v0⟩, _, _, _, _, h6, h7, h8, _⟩ := h
  obtain ⟨_, e5, _, e7⟩ := h8 t t0 t1
  rw [L_hasM hK w0 (by first | decide | omega) e5.1 e5.2.2 e5.2.1 (fun k k0 k1 => by have := e7 k k0 k1; unfold r32; omega) rs ra]
  unfold fpD
  rw [fP_c (rs' := D 6 t) (ra' := D 7 t) (fun j j0 j1 => ⟨(e7 j j0 j1).1.1, (e7 j j0 j1).2.1⟩)]
/-- held -/
theorem M_hd105 {i t : Int} {rec : Int → Int → Int → zF → zB → zO} {gn ti : Int} (hK : 3002 ≤ Km) (i0 : 0 ≤ i) (i1 : i < c) (et : D 0 i 0 = t) (t0 : 0 ≤ t) (t1 : t < m) (hg : gn = coN D (i + 1)) (ht : ti = zand (D 4 t 0) 1) : ∀ (r nn k : Nat) {B : zB}, (k : Int) + r = D 5 t 0 → r < nn → MDr w v n d m c D F B → B 13 w 36 (800 * v + i) = shM (hbN D i) k → ∃ B', f_M_holds_105 rec Km nn k ti gn (1000 * v + t) (800 * v + i) i w v F B = rec (i + 1) w v F B' ∧ (∀ c y k x, ¬ (c = 13 ∧ y = w ∧ k = 36 ∧ x = 800 * v + i) → B' c y k x = B c y k x) ∧ B' 13 w 36 (800 * v + i) = shM (hbN D i) (D 5 t 0).toNat := by
  intro r
  induction r with
  | zero =>
    intro nn k B kr hn h hk
    obtain ⟨nn, rfl⟩ : ∃ j, nn = j + 1 := ⟨nn - 1, (by first | decide | omega)⟩
    have h' := h
    obtain ⟨⟨w0, v0⟩, _, _, _, _, h6, h7, h8, _⟩ := h
    obtain ⟨e4, e5, e6, e7⟩ := h8 t t0 t1
    refine ⟨B, ?_, fun _ _ _ _ _ => rfl, by rw [hk, show (D 5 t 0).toNat = k by omega]⟩
    rw [f_M_holds_105, if_pos w0, if_pos (show 0 ≤ 1000 * v + t ∧ 1000 * v + t < 4000 by omega), if_pos (show r32 (k : Int) by unfold r32; omega), e5.1, if_pos (show r32 (D 5 t 0) by unfold r32; omega), if_pos (show D 5 t 0 ≤ (k : Int) by omega), f_M_holds_196]
  | succ r ih =>
    intro nn k B kr hn h hk
    obtain ⟨nn, rfl⟩ : ∃ j, nn = j + 1 := ⟨nn - 1, (by first | decide | omega)⟩
    have h' := h
    obtain ⟨⟨w0, v0⟩, _, _, _, ⟨_, _, c0, c1⟩, ⟨h6, m1⟩, h7, h8, _⟩ := h
    obtain ⟨e4, e5, e6, e7⟩ := h8 t t0 t1
    obtain ⟨k6, k7⟩ := e7 k (by first | decide | omega) (by first | decide | omega)
    have kk : ((k + 1 : Nat) : Int) = (k : Int) + 1 := by omega
    have sb := shM_b (h := hbN D i) k
    obtain ⟨z1, _⟩ := zsh_i (k := k) (by first | decide | omega) sb.1 sb.2
    have zt := z1_b e4.2.1 e4.2.2
    -- it is held, it isn't
    have yes : hbN D i k = true → ∃ B', f_M_holds_176 rec (f_M_holds_105 rec Km nn) Km k ti gn (1000 * v + t) (800 * v + i) i w v F B = rec (i + 1) w v F B' ∧ (∀ c y k x, ¬ (c = 13 ∧ y = w ∧ k = 36 ∧ x = 800 * v + i) → B' c y k x = B c y k x) ∧ B' 13 w 36 (800 * v + i) = shM (hbN D i) (D 5 t 0).toNat := fun y => by
      unfold f_M_holds_176 f_M_holds_190
      rw [if_pos w0, if_pos (show 0 ≤ 800 * v + i ∧ 800 * v + i < 3200 by omega), hk, z1]
      obtain ⟨B', g1, g2, g3⟩ := ih nn (k + 1) (B := zup4 B 13 w 36 (800 * v + i) (shM (hbN D i) k + 2 ^ k)) (by first | decide | omega) (by first | decide | omega) (MDr_f h' (svM_w (by decide))) (by rw [zup4_v, if_pos ⟨rfl, rfl, rfl, rfl⟩, shM, if_pos y])
      rw [kk] at g1
      exact ⟨B', g1, fun c y k x nn => by rw [g2 c y k x nn, zup4_v, if_neg nn], g3⟩
    have no : hbN D i k = false → ∃ B', f_M_holds_190 rec (f_M_holds_105 rec Km nn) Km k ti gn (1000 * v + t) (800 * v + i) i w v F B = rec (i + 1) w v F B' ∧ (∀ c y k x, ¬ (c = 13 ∧ y = w ∧ k = 36 ∧ x = 800 * v + i) → B' c y k x = B c y k x) ∧ B' 13 w 36 (800 * v + i) = shM (hbN D i) (D 5 t 0).toNat := fun y => by
      unfold f_M_holds_190
      obtain ⟨B', g1, g2, g3⟩ := ih nn (k + 1) (B := B) (by first | decide | omega) (by first | decide | omega) h' (by rw [hk, shM, if_neg (by rw [y]; decide), Int.add_zero])
      rw [kk] at g1
      exact ⟨B', g1, g2, g3⟩
    -- by the tie or by going on
    have g164 : ∀ s0 : Int, (s0 = 0 ∨ s0 = 1) → (s0 = 1 ↔ (¬ zand (D 4 t 0) 1 = 0 ∧ t + 1 < D 8 1 0 ∧ 0 ≤ fpD D (t + 1) (D 6 t k) (D 7 t k))) → ∃ B', f_M_holds_164 rec (f_M_holds_105 rec Km nn) Km k ti gn (1000 * v + t) (800 * v + i) i w v s0 F B = rec (i + 1) w v F B' ∧ (∀ c y k x, ¬ (c = 13 ∧ y = w ∧ k = 36 ∧ x = 800 * v + i) → B' c y k x = B c y k x) ∧ B' 13 w 36 (800 * v + i) = shM (hbN D i) (D 5 t 0).toNat := fun s0 hs hi => by
      have hb : hbN D i k = true ↔ (coN D (i + 1) = 1 ∨ s0 = 1) := by
        unfold hbN
        rw [et, decide_eq_true_iff, hi]
      unfold f_M_holds_164
      rcases coN_b (D := D) (i := i + 1) with z | z
      · rw [hg, z, if_pos (show r32 0 by decide), if_pos (show (0 : Int) = 0 from rfl)]
        rcases hs with y | y
        · have hf : hbN D i k = false := by
            cases q : hbN D i k with
            | false => rfl
            | true =>
              rcases hb.mp q with x | x
              · omega
              · omega
          have g := no hf
          rw [hg, z] at g
          rw [y, if_pos (show r32 0 by decide), if_pos (show (0 : Int) = 0 from rfl)]
          exact g
        · have g := yes (hb.mpr (Or.inr y))
          rw [hg, z] at g
          rw [y, if_pos (show r32 1 by decide), if_neg (show ¬ (1 : Int) = 0 by decide)]
          exact g
      · have g := yes (hb.mpr (Or.inl z))
        rw [hg, z] at g
        rw [hg, z, if_pos (show r32 1 by decide), if_neg (show ¬ (1 : Int) = 0 by decide)]
        exact g
    rw [f_M_holds_105, if_pos w0, if_pos (show 0 ≤ 1000 * v + t ∧ 1000 * v + t < 4000 by omega), if_pos (show r32 (k : Int) by unfold r32; omega), e5.1, if_pos (show r32 (D 5 t 0) by unfold r32; omega), if_neg (show ¬ D 5 t 0 ≤ (k : Int) by omega)]
    unfold f_M_holds_163
    rcases zt with z | z
    · have g := g164 0 (Or.inl rfl) ⟨fun x => absurd x (by decide), fun x => absurd z x.1⟩
      rw [ht, z] at g
      rw [ht, z, if_pos (show r32 0 by decide), if_pos (show (0 : Int) = 0 from rfl)]
      exact g
    · have tm : t + 1 < m := by
        rcases e6 with x | x
        · omega
        · exact x
      rw [ht, z, if_pos (show r32 1 by decide), if_neg (show ¬ (1 : Int) = 0 by decide), if_pos (show 0 ≤ 6 * (1000 * v + t) + (k : Int) ∧ 6 * (1000 * v + t) + (k : Int) < 24000 by omega), k6.1, k7.1, show 1000 * v + t + 1 = 1000 * v + (t + 1) by omega, M_has hK h' (t := t + 1) (by first | decide | omega) tm (by unfold r32; omega) (by unfold r32; omega), zb_s]
      have fr := fP_r (rs := D 6 (t + 1)) (ra := D 7 (t + 1)) (c := D 5 (t + 1) 0) (s := D 6 t k) (a := D 7 t k) (n := 7) (k := 0) (by decide) (h8 (t + 1) (by first | decide | omega) tm).2.1.2.2
      rw [if_pos (show r32 (fpD D (t + 1) (D 6 t k) (D 7 t k)) by unfold fpD r32; omega)]
      by_cases y : fpD D (t + 1) (D 6 t k) (D 7 t k) < 0
      · have g := g164 0 (Or.inl rfl) ⟨fun x => absurd x (by decide), fun x => by have := x.2.2; omega⟩
        rw [ht, z] at g
        rw [if_pos y]
        exact g
      · have g := g164 1 (Or.inr rfl) ⟨fun _ => ⟨(by first | decide | omega), (by first | decide | omega), (by first | decide | omega)⟩, fun _ => rfl⟩
        rw [ht, z] at g
        rw [if_neg y]
        exact g
theorem M_hd (hK : 3002 ≤ Km) : ∀ (r nn : Nat) {i : Int} {B : zB}, 0 ≤ i → i + r = c → r < nn → MDr w v n d m c D F B → ∃ B', f_M_holds_2 Km nn i w v F B = some (0, F, B') ∧ (∀ c y k x, ¬ (c = 13 ∧ y = w ∧ k = 36 ∧ 800 * v + i ≤ x ∧ x < 800 * v + 800) → B' c y k x = B c y k x) ∧ ∀ j, i ≤ j → j < c → B' 13 w 36 (800 * v + j) = hdN D j := by
  intro r
  induction r with
  | zero =>
    intro nn i B i0 ir hn h
    obtain ⟨nn, rfl⟩ : ∃ j, nn = j + 1 := ⟨nn - 1, (by first | decide | omega)⟩
    obtain ⟨⟨w0, v0⟩, _, _, _, ⟨_, h13, c0, c1⟩, _⟩ := h
    rw [f_M_holds_2, if_pos w0, if_pos v0, if_pos (show r32 i by unfold r32; omega), h13, if_pos (show r32 c by unfold r32; omega), if_pos (show c ≤ i by omega)]
    exact ⟨B, rfl, fun _ _ _ _ _ => rfl, fun j a b => (by first | decide | omega)⟩
  | succ r ih =>
    intro nn i B i0 ir hn h
    obtain ⟨nn, rfl⟩ : ∃ j, nn = j + 1 := ⟨nn - 1, (by first | decide | omega)⟩
    have h' := h
    obtain ⟨⟨w0, v0⟩, _, _, _, ⟨d8, h13, c0, c1⟩, ⟨h6, m1⟩, h7, h8, _⟩ := h
    obtain ⟨a1, _⟩ := h7 i i0 (by first | decide | omega)
    obtain ⟨sn, sn'⟩ := M_snd (Km := Km) h' i0 (by first | decide | omega)
    generalize hC : zup4 B 13 w 36 (800 * v + i) 0 = C
    have fC : ∀ c y k x, ¬ (c = 13 ∧ y = w ∧ k = 36 ∧ x = 800 * v + i) → C c y k x = B c y k x := fun c y k x q => by rw [← hC, zup4_v, if_neg q]
    have hCM : MDr w v n d m c D F C := by rw [← hC]; exact MDr_f h' (svM_w (by decide))
    have c36 : C 13 w 36 (800 * v + i) = 0 := by rw [← hC, zup4_v, if_pos ⟨rfl, rfl, rfl, rfl⟩]
    -- behind the note
    have fin : ∀ E : zB, (∀ c y k x, ¬ (c = 13 ∧ y = w ∧ k = 36 ∧ x = 800 * v + i) → E c y k x = B c y k x) → E 13 w 36 (800 * v + i) = hdN D i → ∃ B', f_M_holds_2 Km nn (i + 1) w v F E = some (0, F, B') ∧ (∀ c y k x, ¬ (c = 13 ∧ y = w ∧ k = 36 ∧ 800 * v + i ≤ x ∧ x < 800 * v + 800) → B' c y k x = B c y k x) ∧ ∀ j, i ≤ j → j < c → B' 13 w 36 (800 * v + j) = hdN D j := fun E fE eE => by
      obtain ⟨B', g1, g2, g3⟩ := ih nn (i := i + 1) (B := E) (by first | decide | omega) (by first | decide | omega) (by first | decide | omega) (MDr_f h' (fun c y k x q _ => fE c y k x (by first | decide | omega)))
      refine ⟨B', g1, fun c y k x q => by rw [g2 c y k x (by first | decide | omega), fE c y k x (by first | decide | omega)], fun j j0 j1 => ?_⟩
      by_cases ej : j = i
      · rw [ej, g2 13 w 36 _ (by first | decide | omega)]; exact eE
      · exact g3 j (by first | decide | omega) j1
    rw [f_M_holds_2, if_pos w0, if_pos v0, if_pos (show r32 i by unfold r32; omega), h13, if_pos (show r32 c by unfold r32; omega), if_neg (show ¬ c ≤ i by omega), sn, zb_s, if_pos (show 0 ≤ 800 * v + i ∧ 800 * v + i < 3200 by omega), hC]
    rcases rsN_b (D := D) (i := i) with z1 | z1
    · obtain ⟨t0, t5⟩ := sn' z1
      obtain ⟨e4, e5, e6, e7⟩ := h8 (D 0 i 0) t0 a1.2.2
      have hd : hdN D i = shM (hbN D i) (D 5 (D 0 i 0) 0).toNat := by unfold hdN; rw [if_neg (by first | decide | omega)]
      have C13 : C 13 w 13 v = c := by rw [fC 13 w 13 v (by first | decide | omega)]; exact h13
      have go : ∀ gn : Int, gn = coN D (i + 1) → ∃ B', f_M_holds_81 (f_M_holds_2 Km nn) Km (1000 * v + D 0 i 0) (800 * v + i) i w v gn F C = some (0, F, B') ∧ (∀ c y k x, ¬ (c = 13 ∧ y = w ∧ k = 36 ∧ 800 * v + i ≤ x ∧ x < 800 * v + 800) → B' c y k x = B c y k x) ∧ ∀ j, i ≤ j → j < c → B' 13 w 36 (800 * v + j) = hdN D j := fun gn hg => by
        obtain ⟨e4', _⟩ := hCM.2.2.2.2.2.2.2.1 (D 0 i 0) t0 a1.2.2
        have zt := z1_b e4.2.1 e4.2.2
        have lp : ∀ ti : Int, ti = zand (D 4 (D 0 i 0) 0) 1 → ∃ B', f_M_holds_100 (f_M_holds_2 Km nn) Km gn (1000 * v + D 0 i 0) (800 * v + i) i w v ti F C = some (0, F, B') ∧ (∀ c y k x, ¬ (c = 13 ∧ y = w ∧ k = 36 ∧ 800 * v + i ≤ x ∧ x < 800 * v + 800) → B' c y k x = B c y k x) ∧ ∀ j, i ≤ j → j < c → B' 13 w 36 (800 * v + j) = hdN D j := fun ti ht => by
          obtain ⟨E, g1, g2, g3⟩ := M_hd105 (rec := f_M_holds_2 Km nn) hK i0 (by first | decide | omega) rfl t0 a1.2.2 hg ht (D 5 (D 0 i 0) 0).toNat Km 0 (B := C) (by first | decide | omega) (by first | decide | omega) hCM c36
          unfold f_M_holds_100
          rw [show ((0 : Nat) : Int) = 0 from rfl] at g1
          rw [g1]
          exact fin E (fun c y k x q => by rw [g2 c y k x q, fC c y k x q]) (by rw [g3, hd])
        unfold f_M_holds_81
        rw [if_pos w0, if_pos (show 0 ≤ 1000 * v + D 0 i 0 ∧ 1000 * v + D 0 i 0 < 4000 by omega), e4'.1, if_pos (show r32 (zand (D 4 (D 0 i 0) 0) 1) by unfold r32; omega)]
        rcases zt with z | z
        · rw [if_pos (by first | decide | omega)]; exact lp 0 z.symm
        · rw [if_neg (by first | decide | omega)]; exact lp 1 z.symm
      unfold f_M_holds_80
      rw [z1, if_neg (show ¬ (0 : Int) = 1 by decide), if_pos (show r32 (1000 * v + D 0 i 0) by unfold r32; omega), if_pos (show 0 ≤ 1000 * v + D 0 i 0 by omega), if_pos (show r32 (i + 1) by unfold r32; omega), C13, if_pos (show r32 c by unfold r32; omega)]
      by_cases y : c ≤ i + 1
      · rw [if_pos y]
        exact go 0 (by unfold coN; rw [d8, if_neg (fun x => by have := x.2.1; omega)])
      · obtain ⟨b1, _⟩ := h7 (i + 1) (by first | decide | omega) (by first | decide | omega)
        have n1 : C 13 w 30 (800 * v + i + 1) = D 0 (i + 1) 0 := by rw [fC 13 w 30 _ (by first | decide | omega), show 800 * v + i + 1 = 800 * v + (i + 1) by omega]; exact b1.1
        have n0 : C 13 w 30 (800 * v + i) = D 0 i 0 := by rw [fC 13 w 30 _ (by first | decide | omega)]; exact a1.1
        rw [if_neg y, if_pos (show 0 ≤ 800 * v + i + 1 ∧ 800 * v + i + 1 < 3200 by omega), n1, n0, if_pos (show r32 (D 0 (i + 1) 0) by unfold r32; omega), if_pos (show r32 (D 0 i 0) by unfold r32; omega)]
        by_cases x : D 0 (i + 1) 0 = D 0 i 0
        · rw [if_pos x]
          exact go 1 (by unfold coN; rw [d8, show i + 1 - 1 = i by omega, if_pos ⟨(by first | decide | omega), (by first | decide | omega), x⟩])
        · rw [if_neg x]
          exact go 0 (by unfold coN; rw [d8, show i + 1 - 1 = i by omega, if_neg (fun x' => x x'.2.2)])
    · rw [z1, if_pos (show (1 : Int) = 1 from rfl), if_pos (show r32 (-1) by decide), if_neg (show ¬ (0 : Int) ≤ -1 by decide), f_M_holds_196]
      exact fin C fC (by rw [c36]; unfold hdN; rw [if_pos z1])
end
end
section
section
/-! ===== accidentals, exactly, on the other side ===== -/
variable {Km : Nat} {w v n d c : Int} {m : Nat} {D : zD} {F : zF}
theorem bit_f : ∀ k : Fin 6, ∀ a : Fin 64, zand (zshr (a.val : Int) (k.val : Int)) 1 = (a.val : Int) / 2 ^ k.val % 2 := by decide +kernel
theorem shM_k {h : Int → Bool} : ∀ (n : Nat) (k : Nat), k < n → shM h n / 2 ^ k % 2 = if h k = true then 1 else 0 := by
  intro n
  induction n with
  | zero => intro k hk; omega
  | succ n ih =>
    intro k hk
    have b := shM_b (h := h) n
    have q : (0 : Int) < 2 ^ n := Int.pow_pos (by decide)
    rw [shM]
    by_cases e : k = n
    · rw [e]
      split
      · rw [show shM h n + 2 ^ n = shM h n + 2 ^ n * 1 by omega, Int.add_mul_ediv_left _ _ (Int.ne_of_gt q), Int.ediv_eq_zero_of_lt b.1 b.2]
        rfl
      · rw [Int.add_zero, Int.ediv_eq_zero_of_lt b.1 b.2]
        rfl
    · have hk' : k < n := by omega
      obtain ⟨j, hj⟩ : ∃ j : Nat, n = k + 1 + j := ⟨n - k - 1, (by first | decide | omega)⟩
      have p0 : (0 : Int) < 2 ^ k := Int.pow_pos (by decide)
      have pw : (2 : Int) ^ n = 2 ^ k * (2 * 2 ^ j) := by rw [hj, Int.pow_add, Int.pow_succ]; ac_rfl
      rw [← ih k hk']
      split
      · rw [pw, Int.add_mul_ediv_left _ _ (Int.ne_of_gt p0), Int.add_mul_emod_self_left]
      · rw [Int.add_zero]
theorem shM_bit {h : Int → Bool} {n k : Nat} (hk : k < n) (hn : n ≤ 6) : zand (zshr (shM h n) (k : Int)) 1 = if h k = true then 1 else 0 := by
  have b := shM_b (h := h) n
  have l : (2 : Int) ^ n ≤ 64 := by
    have : n = 0 ∨ n = 1 ∨ n = 2 ∨ n = 3 ∨ n = 4 ∨ n = 5 ∨ n = 6 := by omega
    rcases this with rfl | rfl | rfl | rfl | rfl | rfl | rfl <;> decide
  have f := bit_f ⟨k, (by first | decide | omega)⟩ ⟨(shM h n).toNat, (by first | decide | omega)⟩
  rw [show (((⟨(shM h n).toNat, (by first | decide | omega)⟩ : Fin 64).val : Nat) : Int) = shM h n by show (((shM h n).toNat : Nat) : Int) = _; omega] at f
  rw [← shM_k n k hk]
  exact f
theorem fP_j {rs ra : Int → Int} {c s a k : Int} (k1 : k < c) (e1 : rs k = s) (e2 : ra k = a) : ∀ (n : Nat) (j : Int), 0 ≤ j → j ≤ k → k - j < n → 0 ≤ fP rs ra c s a n j := by
  intro n
  induction n with
  | zero => intro j _ _ h; exfalso; omega
  | succ n ih =>
    intro j j0 jk h
    unfold fP
    split
    · omega
    · split
      · exact j0
      · rename_i h1 h2
        by_cases e : j = k
        · exfalso
          apply h2
          subst e
          exact ⟨e1, e2⟩
        · exact ih (j + 1) (by first | decide | omega) (by first | decide | omega) (by first | decide | omega)
/-- whether a pitch of note i comes on from the note before -/
theorem M_com {i k : Int} {B : zB} (hK : 3002 ≤ Km) (h : MDr w v n d m c D F B) (i0 : 0 ≤ i) (i1 : i < c) (hr : rsN D i = 0) (k0 : 0 ≤ k) (k1 : k < D 5 (D 0 i 0) 0) (h36 : 0 < i → B 13 w 36 (800 * v + (i - 1)) = hdN D (i - 1)) : f_M_comesOn Km w v i (D 6 (D 0 i 0) k) (D 7 (D 0 i 0) k) F B = some (if coN D i = 1 then 1 else tdN D (D 0 i 0) k, F, B) := by
  obtain ⟨t0, t5⟩ := (M_snd (Km := Km) h i0 i1).2 hr
  have h' := h
  obtain ⟨⟨w0, v0⟩, _, _, _, ⟨d8, h13, c0, c1⟩, ⟨h6, m1⟩, h7, h8, h9⟩ := h
  obtain ⟨a1, _⟩ := h7 i i0 i1
  obtain ⟨e4, e5, e6, e7⟩ := h8 (D 0 i 0) t0 a1.2.2
  obtain ⟨k6, k7⟩ := e7 k k0 k1
  have ord := h9 i i0 i1
  -- the pitch is one of its own event
  have own : 0 ≤ fpD D (D 0 i 0) (D 6 (D 0 i 0) k) (D 7 (D 0 i 0) k) := by
    unfold fpD
    exact fP_j k1 rfl rfl 7 0 (by decide) k0 (by first | decide | omega)
  unfold f_M_comesOn f_M_comesOn_16 f_M_comesOn_37 f_M_comesOn_71 f_M_comesOn_72
  rw [if_pos (show r32 i by unfold r32; omega)]
  by_cases z : i ≤ 0
  · have e : coN D i = 0 := by unfold coN; rw [if_neg (fun x => by have := x.1; omega)]
    have et : tdN D (D 0 i 0) k = 0 := by
      unfold tdN
      unfold lED at ord
      rw [if_pos (by first | decide | omega)] at ord
      rw [if_neg (fun x => by have := x.1; omega)]
    rw [if_pos z, if_pos (show r32 (-1) by decide), if_neg (show ¬ (0 : Int) ≤ -1 by decide), if_pos (show r32 (-1) by decide), if_pos (show (-1 : Int) < 0 by decide), if_pos (Or.inl rfl), e, if_neg (show ¬ (0 : Int) = 1 by decide), et]
  unfold lED at ord
  rw [if_neg (by first | decide | omega)] at ord
  obtain ⟨sn, sn'⟩ := M_snd (Km := Km) h' (i := i - 1) (by first | decide | omega) (by first | decide | omega)
  obtain ⟨b1, _⟩ := h7 (i - 1) (by first | decide | omega) (by first | decide | omega)
  have cE : coN D i = 1 ↔ D 0 i 0 = D 0 (i - 1) 0 := by
    unfold coN
    by_cases x : D 0 i 0 = D 0 (i - 1) 0
    · rw [if_pos ⟨(by first | decide | omega), (by first | decide | omega), x⟩]; exact ⟨fun _ => x, fun _ => rfl⟩
    · rw [if_neg (fun y => x y.2.2)]; exact ⟨fun y => absurd y (by decide), fun y => absurd y x⟩
  rw [if_neg z, sn, zb_s]
  rcases rsN_b (D := D) (i := i - 1) with z1 | z1
  · -- the note before sounds
    obtain ⟨u0, u5⟩ := sn' z1
    obtain ⟨f4, f5, f6, f7⟩ := h8 (D 0 (i - 1) 0) u0 b1.2.2
    have fr := fP_k (rs := D 6 (D 0 (i - 1) 0)) (ra := D 7 (D 0 (i - 1) 0)) (c := D 5 (D 0 (i - 1) 0) 0) (s := D 6 (D 0 i 0) k) (a := D 7 (D 0 i 0) k) (n := 7) (k := 0) (by decide)
    have fp : fpD D (D 0 (i - 1) 0) (D 6 (D 0 i 0) k) (D 7 (D 0 i 0) k) = fP (D 6 (D 0 (i - 1) 0)) (D 7 (D 0 (i - 1) 0)) (D 5 (D 0 (i - 1) 0) 0) (D 6 (D 0 i 0) k) (D 7 (D 0 i 0) k) 7 0 := rfl
    rw [← fp] at fr
    generalize hx : fpD D (D 0 (i - 1) 0) (D 6 (D 0 i 0) k) (D 7 (D 0 i 0) k) = x at fr
    rw [z1, if_neg (show ¬ (0 : Int) = 1 by decide), if_pos (show r32 (1000 * v + D 0 (i - 1) 0) by unfold r32; omega), if_pos (show 0 ≤ 1000 * v + D 0 (i - 1) 0 by omega), M_has hK h' u0 b1.2.2 (by unfold r32; omega) (by unfold r32; omega), zb_s, hx, if_pos (show r32 x by unfold r32; omega)]
    by_cases y : x < 0
    · -- it hasn't the pitch
      have ne : ¬ D 0 i 0 = D 0 (i - 1) 0 := fun q => by rw [q] at own hx; omega
      have e : ¬ coN D i = 1 := fun q => ne (cE.mp q)
      have et : tdN D (D 0 i 0) k = 0 := by
        unfold tdN
        rw [if_neg (fun q => ?_)]
        have t1 : D 0 i 0 - 1 = D 0 (i - 1) 0 := by have := q.1; omega
        have := q.2.2
        rw [t1, hx] at this
        omega
      rw [if_pos y, if_pos (Or.inl rfl), if_neg e, et]
    · obtain ⟨j, hj⟩ : ∃ j : Nat, x = j := ⟨x.toNat, (by first | decide | omega)⟩
      have fr' := fr.resolve_left (by first | decide | omega)
      have hv : hdN D (i - 1) = shM (hbN D (i - 1)) (D 5 (D 0 (i - 1) 0) 0).toNat := by unfold hdN; rw [if_neg (by first | decide | omega)]
      have bt := shM_bit (h := hbN D (i - 1)) (n := (D 5 (D 0 (i - 1) 0) 0).toNat) (k := j) (by first | decide | omega) (by first | decide | omega)
      rw [if_neg y, if_pos w0, if_pos (show 0 ≤ 800 * v + i - 1 ∧ 800 * v + i - 1 < 3200 by omega), show 800 * v + i - 1 = 800 * v + (i - 1) by omega, h36 (by first | decide | omega), hv, hj, bt]
      have hb : hbN D (i - 1) j = true ↔ (coN D i = 1 ∨ (¬ zand (D 4 (D 0 (i - 1) 0) 0) 1 = 0 ∧ D 0 (i - 1) 0 + 1 < D 8 1 0 ∧ 0 ≤ fpD D (D 0 (i - 1) 0 + 1) (D 6 (D 0 i 0) k) (D 7 (D 0 i 0) k))) := by
        unfold hbN
        rw [decide_eq_true_iff, show i - 1 + 1 = i by omega, ← hj, fr'.2.2.1, fr'.2.2.2]
      have goal : hbN D (i - 1) j = true ↔ (if coN D i = 1 then 1 else tdN D (D 0 i 0) k) = 1 := by
        rw [hb]
        by_cases q : coN D i = 1
        · rw [if_pos q]; exact ⟨fun _ => rfl, fun _ => Or.inl q⟩
        · rw [if_neg q]
          have ne : ¬ D 0 i 0 = D 0 (i - 1) 0 := fun p => q (cE.mpr p)
          have t1 : D 0 i 0 = D 0 (i - 1) 0 + 1 := by omega
          unfold tdN
          by_cases p : ¬ zand (D 4 (D 0 (i - 1) 0) 0) 1 = 0
          · have tm : D 0 (i - 1) 0 + 1 < D 8 1 0 := by omega
            rw [show D 0 i 0 - 1 = D 0 (i - 1) 0 by omega, hx, if_pos ⟨(by first | decide | omega), p, (by first | decide | omega)⟩]
            exact ⟨fun _ => rfl, fun _ => Or.inr ⟨p, tm, by rw [← t1]; exact own⟩⟩
          · rw [if_neg (fun s => p (by have := s.2.1; rw [show D 0 i 0 - 1 = D 0 (i - 1) 0 by omega] at this; exact this))]
            exact ⟨fun s => by
              rcases s with s | s
              · exact absurd s q
              · exact absurd s.1 p, fun s => absurd s (by decide)⟩
      have gb : (if coN D i = 1 then (1 : Int) else tdN D (D 0 i 0) k) = 0 ∨ (if coN D i = 1 then (1 : Int) else tdN D (D 0 i 0) k) = 1 := by
        split
        · exact Or.inr rfl
        · exact tdN_b
      generalize (if coN D i = 1 then (1 : Int) else tdN D (D 0 i 0) k) = g at goal gb ⊢
      cases hq : hbN D (i - 1) j with
      | true =>
        have := goal.mp hq
        rw [if_pos rfl, if_pos (show r32 1 by decide), if_pos (show (1 : Int) = 1 from rfl), if_pos (Or.inr rfl), this]
      | false =>
        have g0 : g = 0 := by
          rcases gb with q | q
          · exact q
          · rw [goal.mpr q] at hq; exact absurd hq (by decide)
        rw [if_neg (show ¬ false = true by decide), if_pos (show r32 0 by decide), if_neg (show ¬ (0 : Int) = 1 by decide), if_pos (Or.inl rfl), g0]
  · -- it doesn't
    have ne : ¬ D 0 i 0 = D 0 (i - 1) 0 := fun q => by
      unfold rsN at z1
      rw [← q, if_neg (by first | decide | omega), if_neg (by first | decide | omega)] at z1
      exact absurd z1 (by decide)
    have et : tdN D (D 0 i 0) k = 0 := by
      unfold tdN
      rw [if_neg (fun q => ?_)]
      have t1 : D 0 i 0 - 1 = D 0 (i - 1) 0 := by have := q.1; omega
      have q2 := q.2.2
      rw [t1] at q2
      have fr := fP_k (rs := D 6 (D 0 (i - 1) 0)) (ra := D 7 (D 0 (i - 1) 0)) (c := D 5 (D 0 (i - 1) 0) 0) (s := D 6 (D 0 i 0) k) (a := D 7 (D 0 i 0) k) (n := 7) (k := 0) (by decide)
      unfold fpD at q2
      have cn := (h8 (D 0 (i - 1) 0) (by first | decide | omega) b1.2.2).2.1
      unfold rsN at z1
      rw [if_neg (by first | decide | omega)] at z1
      have c00 : D 5 (D 0 (i - 1) 0) 0 = 0 := by
        rcases Classical.em (D 5 (D 0 (i - 1) 0) 0 = 0) with p | p
        · exact p
        · rw [if_neg p] at z1; exact absurd z1 (by decide)
      omega
    rw [z1, if_pos (show (1 : Int) = 1 from rfl), if_pos (show r32 (-1) by decide), if_neg (show ¬ (0 : Int) ≤ -1 by decide), if_pos (show r32 (-1) by decide), if_pos (show (-1 : Int) < 0 by decide), if_pos (Or.inl rfl), if_neg (fun q => ne (cE.mp q)), et]
/-- what accidentals change: their row from i on, and what is known -/
def acM (w v i : Int) (B B' : zB) : Prop := ∀ c y k x, ¬ (c = 13 ∧ y = w ∧ k = 37 ∧ 800 * v + i ≤ x ∧ x < 800 * v + 800) → ¬ (c = 14 ∧ y = 0 ∧ k = 58) → B' c y k x = B c y k x
theorem acM_s {i : Int} {B B' : zB} (h : acM w v i B B') : svM w B B' := fun c y k x a b => h c y k x (by first | decide | omega) b
theorem M_ac100 {i lb : Int} {f : Int → Int} {rec : Int → Int → Int → Int → zF → zB → zO} (hK : 3002 ≤ Km) (i0 : 0 ≤ i) (i1 : i < c) (hr : rsN D i = 0) : ∀ (r nn k : Nat) {B : zB}, (k : Int) + r = D 5 (D 0 i 0) 0 → r < nn → MDr w v n d m c D F B → (0 < i → B 13 w 36 (800 * v + (i - 1)) = hdN D (i - 1)) → B 13 w 37 (800 * v + i) = (if coN D i = 1 then 0 else (acS D (D 0 i 0) f k).2) → (∀ s, 0 ≤ s → s < 63 → r32 (B 14 0 58 s) ∧ B 14 0 58 s = (if coN D i = 1 then f s else (acS D (D 0 i 0) f k).1 s)) → ∃ B', f_M_accidentals_100 rec Km nn k (1000 * v + D 0 i 0) (800 * v + i) i lb w v F B = rec (i + 1) lb w v F B' ∧ acM w v i B B' ∧ (∀ x, 800 * v + i < x → B' 13 w 37 x = B 13 w 37 x) ∧ B' 13 w 37 (800 * v + i) = (if coN D i = 1 then 0 else (acS D (D 0 i 0) f (D 5 (D 0 i 0) 0).toNat).2) ∧ (∀ s, 0 ≤ s → s < 63 → r32 (B' 14 0 58 s) ∧ B' 14 0 58 s = (if coN D i = 1 then f s else (acS D (D 0 i 0) f (D 5 (D 0 i 0) 0).toNat).1 s)) := by
  intro r
  induction r with
  | zero =>
    intro nn k B kr hn h h36 hk hs
    obtain ⟨nn, rfl⟩ : ∃ j, nn = j + 1 := ⟨nn - 1, (by first | decide | omega)⟩
    obtain ⟨t0, t5⟩ := (M_snd (Km := Km) h i0 i1).2 hr
    obtain ⟨⟨w0, v0⟩, _, _, _, _, ⟨h6, m1⟩, h7, h8, _⟩ := h
    obtain ⟨a1, _⟩ := h7 i i0 i1
    obtain ⟨e4, e5, e6, e7⟩ := h8 (D 0 i 0) t0 a1.2.2
    refine ⟨B, ?_, fun _ _ _ _ _ _ => rfl, fun _ _ => rfl, by rw [hk, show (D 5 (D 0 i 0) 0).toNat = k by omega], by rw [show (D 5 (D 0 i 0) 0).toNat = k by omega]; exact hs⟩
    rw [f_M_accidentals_100, if_pos (show r32 (1000 * v + D 0 i 0) by unfold r32; omega), if_neg (show ¬ 1000 * v + D 0 i 0 < 0 by omega), if_pos w0, if_pos (show 0 ≤ 1000 * v + D 0 i 0 ∧ 1000 * v + D 0 i 0 < 4000 by omega), if_pos (show r32 (k : Int) by unfold r32; omega), e5.1, if_pos (show r32 (D 5 (D 0 i 0) 0) by unfold r32; omega), if_pos (show D 5 (D 0 i 0) 0 ≤ (k : Int) by omega), f_M_accidentals_206]
  | succ r ih =>
    intro nn k B kr hn h h36 hk hs
    obtain ⟨nn, rfl⟩ : ∃ j, nn = j + 1 := ⟨nn - 1, (by first | decide | omega)⟩
    obtain ⟨t0, t5⟩ := (M_snd (Km := Km) h i0 i1).2 hr
    have h' := h
    obtain ⟨⟨w0, v0⟩, _, _, _, ⟨_, _, c0, c1⟩, ⟨h6, m1⟩, h7, h8, _⟩ := h
    obtain ⟨a1, _⟩ := h7 i i0 i1
    obtain ⟨e4, e5, e6, e7⟩ := h8 (D 0 i 0) t0 a1.2.2
    obtain ⟨k6, k7⟩ := e7 k (by first | decide | omega) (by first | decide | omega)
    have kk : ((k + 1 : Nat) : Int) = (k : Int) + 1 := by omega
    have com := M_com hK h' i0 i1 hr (k := k) (by first | decide | omega) (by first | decide | omega) h36
    have ab := acS_b (D := D) (t := D 0 i 0) (f := f) k
    rw [f_M_accidentals_100, if_pos (show r32 (1000 * v + D 0 i 0) by unfold r32; omega), if_neg (show ¬ 1000 * v + D 0 i 0 < 0 by omega), if_pos w0, if_pos (show 0 ≤ 1000 * v + D 0 i 0 ∧ 1000 * v + D 0 i 0 < 4000 by omega), if_pos (show r32 (k : Int) by unfold r32; omega), e5.1, if_pos (show r32 (D 5 (D 0 i 0) 0) by unfold r32; omega), if_neg (show ¬ D 5 (D 0 i 0) 0 ≤ (k : Int) by omega), if_pos (show 0 ≤ 6 * (1000 * v + D 0 i 0) + (k : Int) ∧ 6 * (1000 * v + D 0 i 0) + (k : Int) < 24000 by omega), k6.1, k7.1, com, zb_s]
    unfold f_M_accidentals_200
    -- nothing is written
    have skip : (coN D i = 1 ∨ tdN D (D 0 i 0) k = 1 ∨ (acS D (D 0 i 0) f k).1 (D 6 (D 0 i 0) k) = D 7 (D 0 i 0) k) → ∃ B', f_M_accidentals_100 rec Km nn ((k : Int) + 1) (1000 * v + D 0 i 0) (800 * v + i) i lb w v F B = rec (i + 1) lb w v F B' ∧ acM w v i B B' ∧ (∀ x, 800 * v + i < x → B' 13 w 37 x = B 13 w 37 x) ∧ B' 13 w 37 (800 * v + i) = (if coN D i = 1 then 0 else (acS D (D 0 i 0) f (D 5 (D 0 i 0) 0).toNat).2) ∧ (∀ s, 0 ≤ s → s < 63 → r32 (B' 14 0 58 s) ∧ B' 14 0 58 s = (if coN D i = 1 then f s else (acS D (D 0 i 0) f (D 5 (D 0 i 0) 0).toNat).1 s)) := fun q => by
      have sm : ¬ coN D i = 1 → acS D (D 0 i 0) f (k + 1) = acS D (D 0 i 0) f k := fun p => by rw [acS, if_pos (q.resolve_left p)]
      have g := ih nn (k + 1) (B := B) (by first | decide | omega) (by first | decide | omega) h' h36 (by
        by_cases p : coN D i = 1
        · rw [if_pos p] at hk ⊢; exact hk
        · rw [if_neg p] at hk ⊢; rw [sm p]; exact hk) (fun s s0 s1 => by
        have := hs s s0 s1
        by_cases p : coN D i = 1
        · rw [if_pos p] at this ⊢; exact this
        · rw [if_neg p] at this ⊢; rw [sm p]; exact this)
      rw [kk] at g
      exact g
    by_cases p : coN D i = 1
    · rw [if_pos p, if_pos (show r32 1 by decide), if_neg (show ¬ (1 : Int) = 0 by decide)]
      exact skip (Or.inl p)
    rw [if_neg p]
    rcases tdN_b (D := D) (t := D 0 i 0) (k := (k : Int)) with z | z
    · obtain ⟨rk, ek⟩ := hs (D 6 (D 0 i 0) k) (by first | decide | omega) (by first | decide | omega)
      rw [if_neg p] at ek hk
      rw [z, if_pos (show r32 0 by decide), if_pos (show (0 : Int) = 0 from rfl), if_pos (show 0 ≤ D 6 (D 0 i 0) k ∧ D 6 (D 0 i 0) k < 63 by omega), if_pos rk, if_pos (show r32 (D 7 (D 0 i 0) k) by unfold r32; omega)]
      by_cases y : B 14 0 58 (D 6 (D 0 i 0) k) = D 7 (D 0 i 0) k
      · rw [if_pos y]
        exact skip (Or.inr (Or.inr (by rw [← ek]; exact y)))
      · rw [if_neg y, if_pos (show 0 ≤ 800 * v + i ∧ 800 * v + i < 3200 by omega)]
        obtain ⟨zz, _⟩ := zsh_i (k := k) (by first | decide | omega) ab.1 ab.2
        have nw : acS D (D 0 i 0) f (k + 1) = ((fun s => if s = D 6 (D 0 i 0) k then D 7 (D 0 i 0) k else (acS D (D 0 i 0) f k).1 s), (acS D (D 0 i 0) f k).2 + 2 ^ k) := by
          rw [acS, if_neg (fun x => by
            rcases x with x | x
            · omega
            · exact y (by rw [ek]; exact x))]
        generalize hC : zup4 (zup4 B 13 w 37 (800 * v + i) (zor (B 13 w 37 (800 * v + i)) (zshl 1 k))) 14 0 58 (D 6 (D 0 i 0) k) (D 7 (D 0 i 0) k) = C
        have fC : ∀ c y j x, ¬ (c = 13 ∧ y = w ∧ j = 37 ∧ x = 800 * v + i) → ¬ (c = 14 ∧ y = 0 ∧ j = 58) → C c y j x = B c y j x := fun c y j x q q' => by rw [← hC, zup4_v, if_neg (by first | decide | omega), zup4_v, if_neg q]
        have g := ih nn (k + 1) (B := C) (by first | decide | omega) (by first | decide | omega) (MDr_f h' (fun c y j x q q' => fC c y j x (by first | decide | omega) q')) (fun q => by rw [fC 13 w 36 _ (by first | decide | omega) (by first | decide | omega)]; exact h36 q) (by rw [if_neg p, nw, ← hC, zup4_v, if_neg (by first | decide | omega), zup4_v, if_pos ⟨rfl, rfl, rfl, rfl⟩, hk, zz]) (fun s s0 s1 => by
          rw [if_neg p, nw, ← hC, zup4_v]
          by_cases es : s = D 6 (D 0 i 0) k
          · rw [if_pos ⟨rfl, rfl, rfl, es⟩]
            refine ⟨by unfold r32; omega, ?_⟩
            show _ = if s = D 6 (D 0 i 0) k then D 7 (D 0 i 0) k else _
            rw [if_pos es]
          · rw [if_neg (fun q => es q.2.2.2), zup4_v, if_neg (by first | decide | omega)]
            have hs' := hs s s0 s1
            rw [if_neg p] at hs'
            refine ⟨hs'.1, ?_⟩
            show _ = if s = D 6 (D 0 i 0) k then D 7 (D 0 i 0) k else _
            rw [if_neg es]
            exact hs'.2)
        rw [kk] at g
        obtain ⟨B', g1, g2, g3, g4, g5⟩ := g
        refine ⟨B', g1, fun c y j x q q' => by rw [g2 c y j x q q', fC c y j x (by first | decide | omega) q'], fun x hx => by rw [g3 x hx, fC 13 w 37 x (by first | decide | omega) (by first | decide | omega)], ?_, ?_⟩
        · exact g4
        · exact g5
    · rw [z, if_pos (show r32 1 by decide), if_neg (show ¬ (1 : Int) = 0 by decide)]
      have g := skip (Or.inr (Or.inl z))
      rw [if_neg p] at g
      simpa only [if_neg p] using g
end
end
section
section
/-! ===== accidentals of a voice and ledgers, exactly, on the other side ===== -/
variable {Km : Nat} {w v n d c : Int} {m : Nat} {D : zD} {F : zF}
theorem M_ac40 {i x : Int} {rec : Int → Int → Int → Int → zF → zB → zO} (w0 : 0 ≤ w ∧ w < 3) (hx : 0 ≤ x ∧ x < 3200) (hf : -7 ≤ F 13 w 2 ∧ F 13 w 2 ≤ 7) : ∀ (r nn : Nat) {s : Int} {B : zB}, 0 ≤ s → s + r = 63 → r < nn → ∃ B', f_M_accidentals_40 rec Km nn s x i w v F B = f_M_accidentals_80 rec Km x i (B 13 w 31 x) w v F B' ∧ (∀ c y k x, ¬ (c = 14 ∧ y = 0 ∧ k = 58 ∧ s ≤ x) → B' c y k x = B c y k x) ∧ ∀ y, s ≤ y → y < 63 → B' 14 0 58 y = kaV (F 13 w 2) (y % 7) := by
  intro r
  induction r with
  | zero =>
    intro nn s B s0 sr hn
    obtain ⟨nn, rfl⟩ : ∃ j, nn = j + 1 := ⟨nn - 1, (by first | decide | omega)⟩
    rw [f_M_accidentals_40, if_pos (show r32 s by unfold r32; omega), if_pos (show 63 ≤ s by omega), if_pos w0, if_pos hx]
    exact ⟨B, rfl, fun _ _ _ _ _ => rfl, fun y a b => (by first | decide | omega)⟩
  | succ r ih =>
    intro nn s B s0 sr hn
    obtain ⟨nn, rfl⟩ : ∃ j, nn = j + 1 := ⟨nn - 1, (by first | decide | omega)⟩
    have m1 := Int.emod_nonneg s (show (7 : Int) ≠ 0 by decide)
    have m2 := Int.emod_lt_of_pos s (show (0 : Int) < 7 by decide)
    obtain ⟨B', g1, g2, g3⟩ := ih nn (s := s + 1) (B := zup4 B 14 0 58 s (kaV (F 13 w 2) (s % 7))) (by first | decide | omega) (by first | decide | omega) (by first | decide | omega)
    rw [show zup4 B 14 0 58 s (kaV (F 13 w 2) (s % 7)) 13 w 31 x = B 13 w 31 x by rw [zup4_v, if_neg (by first | decide | omega)]] at g1
    refine ⟨B', ?_, fun c y k x q => by rw [g2 c y k x (by first | decide | omega), zup4_v, if_neg (by first | decide | omega)], fun y y0 y1 => ?_⟩
    · rw [f_M_accidentals_40, if_pos (show r32 s by unfold r32; omega), if_neg (show ¬ 63 ≤ s by omega), if_pos w0, zrm_e s0 (by unfold r32; omega) (by decide) (by decide), L_kaV hf m1 (by first | decide | omega), zb_s, if_pos (show 0 ≤ s ∧ s < 63 by omega)]
      exact g1
    · by_cases ey : y = s
      · rw [ey, g2 14 0 58 s (by first | decide | omega), zup4_v, if_pos ⟨rfl, rfl, rfl, rfl⟩]
      · exact g3 y (by first | decide | omega) y1
theorem M_ac80 {i : Nat} {lb : Int} {rec : Int → Int → Int → Int → zF → zB → zO} {B : zB} (hK : 3002 ≤ Km) (i1 : (i : Int) < c) (h : MDr w v n d m c D F B) (h36 : 0 < i → B 13 w 36 (800 * v + ((i : Int) - 1)) = hdN D ((i : Int) - 1)) (hs : ∀ s, 0 ≤ s → s < 63 → r32 (B 14 0 58 s) ∧ B 14 0 58 s = kbN D i (knN D i) s) : ∃ B', f_M_accidentals_80 rec Km (800 * v + i) i lb w v F B = rec ((i : Int) + 1) lb w v F B' ∧ acM w v i B B' ∧ (∀ x, 800 * v + (i : Int) < x → B' 13 w 37 x = B 13 w 37 x) ∧ B' 13 w 37 (800 * v + i) = acN D i ∧ ∀ s, 0 ≤ s → s < 63 → r32 (B' 14 0 58 s) ∧ B' 14 0 58 s = knN D (i + 1) s := by
  have kS : ∀ s, knN D (i + 1) s = (stN D i (kbN D i (knN D i))).1 s := fun s => rfl
  have aS : acN D i = (stN D i (kbN D i (knN D i))).2 := by unfold acN; rw [show (i : Int).toNat = i by omega]
  have w0 := h.1.1
  have v0 := h.1.2
  have c1 := h.2.2.2.2.1.2.2.2
  generalize hC : zup4 B 13 w 37 (800 * v + (i : Int)) 0 = C
  have fC : ∀ c y k x, ¬ (c = 13 ∧ y = w ∧ k = 37 ∧ x = 800 * v + (i : Int)) → C c y k x = B c y k x := fun c y k x q => by rw [← hC, zup4_v, if_neg q]
  have c37 : C 13 w 37 (800 * v + (i : Int)) = 0 := by rw [← hC, zup4_v, if_pos ⟨rfl, rfl, rfl, rfl⟩]
  have hCM : MDr w v n d m c D F C := MDr_f h (fun c y k x q _ => fC c y k x (by first | decide | omega))
  have hsC : ∀ s, 0 ≤ s → s < 63 → r32 (C 14 0 58 s) ∧ C 14 0 58 s = kbN D i (knN D i) s := fun s s0 s1 => by rw [fC 14 0 58 s (by first | decide | omega)]; exact hs s s0 s1
  unfold f_M_accidentals_80
  rw [if_pos w0, if_pos (show 0 ≤ 800 * v + (i : Int) ∧ 800 * v + (i : Int) < 3200 by omega), hC]
  obtain ⟨sn, sn'⟩ := M_snd (Km := Km) hCM (i := (i : Int)) (by first | decide | omega) i1
  rw [sn, zb_s]
  rcases rsN_b (D := D) (i := (i : Int)) with z | z
  · obtain ⟨t0, t5⟩ := sn' z
    have t6 := (h.2.2.2.2.2.2.2.1 (D 0 i 0) t0 (h.2.2.2.2.2.2.1 i (by first | decide | omega) i1).1.2.2).2.1
    rw [z, if_neg (show ¬ (0 : Int) = 1 by decide)]
    obtain ⟨B', g1, g2, g3, g4, g5⟩ := M_ac100 (lb := lb) (f := kbN D i (knN D i)) (rec := rec) hK (i := (i : Int)) (by first | decide | omega) i1 z (D 5 (D 0 i 0) 0).toNat Km 0 (B := C) (by first | decide | omega) (by first | decide | omega) hCM (fun q => by rw [fC 13 w 36 _ (by first | decide | omega)]; exact h36 (by first | decide | omega)) (by
      rw [c37]
      split
      · rfl
      · rfl) (fun s s0 s1 => by
      have := hsC s s0 s1
      refine ⟨this.1, ?_⟩
      rw [this.2]
      split
      · rfl
      · rfl)
    rw [show ((0 : Nat) : Int) = 0 from rfl] at g1
    have st : stN D i (kbN D i (knN D i)) = if coN D i = 1 then (kbN D i (knN D i), 0) else acS D (D 0 i 0) (kbN D i (knN D i)) (D 5 (D 0 i 0) 0).toNat := by
      unfold stN
      by_cases p : coN D i = 1
      · rw [if_pos (Or.inr p), if_pos p]
      · rw [if_neg (fun q => by
          rcases q with q | q
          · omega
          · exact p q), if_neg p]
    refine ⟨B', g1, fun c y k x q q' => by rw [g2 c y k x q q', fC c y k x (by first | decide | omega)], fun x hx => by rw [g3 x hx, fC 13 w 37 x (by first | decide | omega)], ?_, fun s s0 s1 => ?_⟩
    · rw [g4, aS, st]
      by_cases p : coN D i = 1
      · rw [if_pos p, if_pos p]
      · rw [if_neg p, if_neg p]
    · refine ⟨(g5 s s0 s1).1, ?_⟩
      rw [(g5 s s0 s1).2, kS, st]
      by_cases p : coN D i = 1
      · rw [if_pos p, if_pos p]
      · rw [if_neg p, if_neg p]
  · obtain ⟨j, hj⟩ : ∃ j, Km = j + 1 := ⟨Km - 1, (by first | decide | omega)⟩
    have e100 : f_M_accidentals_100 rec Km Km 0 (-1) (800 * v + (i : Int)) i lb w v F C = rec ((i : Int) + 1) lb w v F C := by
      rw [show f_M_accidentals_100 rec Km Km = f_M_accidentals_100 rec Km (j + 1) by rw [← hj], f_M_accidentals_100, if_pos (show r32 (-1) by decide), if_pos (show (-1 : Int) < 0 by decide), f_M_accidentals_206]
    rw [z, if_pos (show (1 : Int) = 1 from rfl), e100]
    have st : stN D i (kbN D i (knN D i)) = (kbN D i (knN D i), 0) := by unfold stN; rw [if_pos (Or.inl z)]
    exact ⟨C, rfl, fun c y k x q q' => fC c y k x (by first | decide | omega), fun x hx => fC 13 w 37 x (by first | decide | omega), by rw [c37, aS, st], fun s s0 s1 => by rw [kS, st]; exact hsC s s0 s1⟩
theorem M_ac (hK : 3002 ≤ Km) : ∀ (r nn i : Nat) {lb : Int} {B : zB}, (i : Int) + r = c → r < nn → r32 lb → MDr w v n d m c D F B → ((i = 0 ∧ lb = -1) ∨ (0 < i ∧ lb = D 1 ((i : Int) - 1) 0)) → (∀ j, 0 ≤ j → j < c → B 13 w 36 (800 * v + j) = hdN D j) → (∀ s, 0 ≤ s → s < 63 → r32 (B 14 0 58 s)) → (0 < i → ∀ s, 0 ≤ s → s < 63 → B 14 0 58 s = knN D i s) → ∃ B', f_M_accidentals_5 Km nn i lb w v F B = some (0, F, B') ∧ acM w v i B B' ∧ (∀ j, (i : Int) ≤ j → j < c → B' 13 w 37 (800 * v + j) = acN D j) ∧ ∀ s, 0 ≤ s → s < 63 → r32 (B' 14 0 58 s) := by
  intro r
  induction r with
  | zero =>
    intro nn i lb B ir hn rb h hb h36 hr hs
    obtain ⟨nn, rfl⟩ : ∃ j, nn = j + 1 := ⟨nn - 1, (by first | decide | omega)⟩
    obtain ⟨⟨w0, v0⟩, _, _, _, ⟨_, h13, c0, c1⟩, _⟩ := h
    rw [f_M_accidentals_5, if_pos w0, if_pos v0, if_pos (show r32 (i : Int) by unfold r32; omega), h13, if_pos (show r32 c by unfold r32; omega), if_pos (show c ≤ (i : Int) by omega)]
    exact ⟨B, rfl, fun _ _ _ _ _ _ => rfl, fun j a b => (by first | decide | omega), hr⟩
  | succ r ih =>
    intro nn i lb B ir hn rb h hb h36 hr hs
    obtain ⟨nn, rfl⟩ : ∃ j, nn = j + 1 := ⟨nn - 1, (by first | decide | omega)⟩
    have h' := h
    obtain ⟨⟨w0, v0⟩, h2, _, _, ⟨d8, h13, c0, c1⟩, ⟨h6, m1⟩, h7, h8, _⟩ := h
    obtain ⟨_, a2, _⟩ := h7 i (by first | decide | omega) (by first | decide | omega)
    have ii : ((i + 1 : Nat) : Int) = (i : Int) + 1 := by omega
    -- behind the bar's beginning
    have note : ∀ (C : zB), (∀ c y k x, ¬ (c = 14 ∧ y = 0 ∧ k = 58) → C c y k x = B c y k x) → (∀ s, 0 ≤ s → s < 63 → r32 (C 14 0 58 s) ∧ C 14 0 58 s = kbN D i (knN D i) s) → ∃ B', f_M_accidentals_80 (f_M_accidentals_5 Km nn) Km (800 * v + i) i (D 1 i 0) w v F C = some (0, F, B') ∧ acM w v i B B' ∧ (∀ j, (i : Int) ≤ j → j < c → B' 13 w 37 (800 * v + j) = acN D j) ∧ ∀ s, 0 ≤ s → s < 63 → r32 (B' 14 0 58 s) := fun C fC hsC => by
      have hCM : MDr w v n d m c D F C := MDr_f h' (fun c y k x _ q => fC c y k x q)
      obtain ⟨E, g1, g2, g3, g4, g5⟩ := M_ac80 (lb := D 1 i 0) (rec := f_M_accidentals_5 Km nn) hK (by first | decide | omega) hCM (fun q => by rw [fC 13 w 36 _ (by first | decide | omega)]; exact h36 _ (by first | decide | omega) (by first | decide | omega)) hsC
      rw [g1]
      obtain ⟨B', k1, k2, k3, k4⟩ := ih nn (i + 1) (lb := D 1 i 0) (B := E) (by first | decide | omega) (by first | decide | omega) (by unfold r32; omega) (MDr_f hCM (acM_s g2)) (Or.inr ⟨(by first | decide | omega), by rw [ii, show (i : Int) + 1 - 1 = i by omega]⟩) (fun j j0 j1 => by rw [g2 13 w 36 _ (by first | decide | omega) (by first | decide | omega), fC 13 w 36 _ (by first | decide | omega)]; exact h36 j j0 j1) (fun s s0 s1 => (g5 s s0 s1).1) (fun _ s s0 s1 => (g5 s s0 s1).2)
      rw [ii] at k1 k2 k3
      refine ⟨B', k1, fun c y k x q q' => by rw [k2 c y k x (by first | decide | omega) q', g2 c y k x q q', fC c y k x q'], fun j j0 j1 => ?_, k4⟩
      by_cases ej : j = i
      · rw [ej, k2 13 w 37 _ (by first | decide | omega) (by first | decide | omega)]; exact g4
      · exact k3 j (by first | decide | omega) j1
    rw [f_M_accidentals_5, if_pos w0, if_pos v0, if_pos (show r32 (i : Int) by unfold r32; omega), h13, if_pos (show r32 c by unfold r32; omega), if_neg (show ¬ c ≤ (i : Int) by omega), if_pos (show 0 ≤ 800 * v + (i : Int) ∧ 800 * v + (i : Int) < 3200 by omega), a2.1, if_pos (show r32 (D 1 i 0) by unfold r32; omega), if_pos rb]
    by_cases z : D 1 i 0 = lb
    · rw [if_pos z, ← z]
      have i0 : 0 < i := by
        rcases hb with ⟨_, y⟩ | y
        · omega
        · exact y.1
      refine note B (fun _ _ _ _ _ => rfl) (fun s s0 s1 => ⟨hr s s0 s1, ?_⟩)
      rw [hs i0 s s0 s1]
      unfold kbN
      rw [if_neg (fun y => by
        rcases y with y | y
        · omega
        · rcases hb with ⟨y', _⟩ | ⟨_, y'⟩
          · omega
          · exact y (by rw [z]; exact y'))]
    · rw [if_neg z]
      obtain ⟨C, g1, g2, g3⟩ := M_ac40 (Km := Km) (v := v) (i := (i : Int)) (x := 800 * v + (i : Int)) (rec := f_M_accidentals_5 Km nn) (F := F) w0 (by first | decide | omega) (by first | decide | omega) 63 Km (s := 0) (B := B) (by decide) (by decide) (by first | decide | omega)
      rw [g1, a2.1]
      refine note C (fun c y k x q => g2 c y k x (by first | decide | omega)) (fun s s0 s1 => ?_)
      rw [g3 s s0 s1]
      have kb := kaV_b (f := F 13 w 2) (s := s % 7)
      refine ⟨by unfold r32; omega, ?_⟩
      unfold kbN
      rw [if_pos (by
        rcases hb with ⟨y', _⟩ | ⟨_, y'⟩
        · exact Or.inl (by first | decide | omega)
        · exact Or.inr (fun y => z (by rw [y, y'])))]
      unfold kyN
      rw [h2.1]
theorem lwV_b {x : Int} : 18 ≤ lwV x ∧ lwV x ≤ 30 := by
  unfold lwV
  split
  · omega
  · split
    · omega
    · split <;> omega
/-- heights -/
theorem M_hgt {s : Int} {B : zB} (h : MDr w v n d m c D F B) : f_M_height Km w v s F B = some (s - lwV (D 8 3 0), F, B) := by
  obtain ⟨⟨w0, v0⟩, _, _, h4, _⟩ := h
  unfold f_M_height f_M_height_39 lwV
  rw [if_pos w0, if_pos v0, h4.1, if_pos (show r32 (D 8 3 0) by unfold r32; omega)]
  by_cases a : D 8 3 0 = 0
  · rw [if_pos a, if_pos a]
  rw [if_neg a, if_neg a]
  by_cases b : D 8 3 0 = 1
  · rw [if_pos b, if_pos b]
  rw [if_neg b, if_neg b]
  by_cases e : D 8 3 0 = 2
  · rw [if_pos e, if_pos e]
  rw [if_neg e, if_neg e]
theorem M_lh {i : Int} {B : zB} (h : MDr w v n d m c D F B) (i0 : 0 ≤ i) (i1 : i < c) (hr : rsN D i = 0) : f_M_lowest Km w v (1000 * v + D 0 i 0) F B = some (loN D i, F, B) ∧ f_M_highest Km w v (1000 * v + D 0 i 0) F B = some (hiN D i, F, B) ∧ (-100 ≤ loN D i ∧ loN D i ≤ 62) ∧ (-100 ≤ hiN D i ∧ hiN D i ≤ 62) := by
  obtain ⟨t0, t5⟩ := (M_snd (Km := Km) h i0 i1).2 hr
  have h' := h
  obtain ⟨⟨w0, v0⟩, _, _, h4, _, ⟨h6, m1⟩, h7, h8, _⟩ := h
  obtain ⟨a1, _⟩ := h7 i i0 i1
  obtain ⟨e4, e5, e6, e7⟩ := h8 (D 0 i 0) t0 a1.2.2
  have k0 := e7 0 (by decide) (by first | decide | omega)
  have k1 := e7 (D 5 (D 0 i 0) 0 - 1) (by first | decide | omega) (by first | decide | omega)
  have lw := lwV_b (x := D 8 3 0)
  unfold f_M_lowest f_M_highest loN hiN
  rw [Int.add_zero] at k0
  rw [if_pos w0, if_pos (show 0 ≤ 6 * (1000 * v + D 0 i 0) ∧ 6 * (1000 * v + D 0 i 0) < 24000 by omega), M_hgt h', zb_s, k0.1.1, if_pos w0, if_pos (show 0 ≤ 1000 * v + D 0 i 0 ∧ 1000 * v + D 0 i 0 < 4000 by omega), e5.1, show 6 * (1000 * v + D 0 i 0) + D 5 (D 0 i 0) 0 - 1 = 6 * (1000 * v + D 0 i 0) + (D 5 (D 0 i 0) 0 - 1) by omega, if_pos (show 0 ≤ 6 * (1000 * v + D 0 i 0) + (D 5 (D 0 i 0) 0 - 1) ∧ 6 * (1000 * v + D 0 i 0) + (D 5 (D 0 i 0) 0 - 1) < 24000 by omega), M_hgt h', zb_s, k1.1.1]
  exact ⟨rfl, rfl, (by first | decide | omega), (by first | decide | omega)⟩
theorem M_led {i : Int} {B : zB} (h : MDr w v n d m c D F B) (i0 : 0 ≤ i) (i1 : i < c) : f_M_ledgers Km w v i F B = some (lgN D i, F, B) := by
  unfold f_M_ledgers f_M_ledgers_51 f_M_ledgers_65 lgN
  rw [(M_snd (Km := Km) h i0 i1).1, zb_s]
  have w0 := h.1.2
  have a1 := (h.2.2.2.2.2.2.1 i i0 i1).1
  have m1 := h.2.2.2.2.2.1
  rcases rsN_b (D := D) (i := i) with z | z
  · obtain ⟨t0, _⟩ := (M_snd (Km := Km) h i0 i1).2 z
    obtain ⟨e1, e2, b1, b2⟩ := M_lh (Km := Km) h i0 i1 z
    rw [z, if_neg (show ¬ (0 : Int) = 1 by decide), if_pos (show r32 (1000 * v + D 0 i 0) by unfold r32; omega), if_pos (show 0 ≤ 1000 * v + D 0 i 0 by omega), e2, zb_s, e1, zb_s, if_pos (show r32 (hiN D i) by unfold r32; omega), if_pos (show r32 (loN D i) by unfold r32; omega), if_neg (show ¬ (0 : Int) = 1 by decide)]
    by_cases a : hiN D i ≤ 8
    · rw [if_pos a, if_neg (show ¬ 8 < hiN D i by omega)]
      by_cases b : 0 ≤ loN D i
      · rw [if_pos b, if_neg (show ¬ loN D i < 0 by omega)]
      · rw [if_neg b, if_pos (show loN D i < 0 by omega), zdv_e (by first | decide | omega) (by unfold r32; omega) (by decide) (by decide)]
    · rw [if_neg a, if_pos (show 8 < hiN D i by omega), zdv_e (by first | decide | omega) (by unfold r32; omega) (by decide) (by decide), if_pos (show r32 (loN D i) by unfold r32; omega)]
      by_cases b : 0 ≤ loN D i
      · rw [if_pos b, if_neg (show ¬ loN D i < 0 by omega)]
      · rw [if_neg b, if_pos (show loN D i < 0 by omega), zdv_e (by first | decide | omega) (by unfold r32; omega) (by decide) (by decide)]
  · rw [z, if_pos (show (1 : Int) = 1 from rfl), if_pos (show r32 (-1) by decide), if_neg (show ¬ (0 : Int) ≤ -1 by decide), if_pos (show (1 : Int) = 1 from rfl)]
end
end
section
section
/-! ===== groups and stems, exactly, on the other side; staves whole ===== -/
variable {Km : Nat} {w v n d c : Int} {m : Nat} {D : zD} {F : zF}
theorem M_bm {i : Int} {B : zB} (h : MDr w v n d m c D F B) (i0 : 0 ≤ i) (i1 : i < c) : f_M_isBeamed Km w v i F B = some (bmN D i, F, B) := by
  have sn := (M_snd (Km := Km) h i0 i1).1
  have sn' := (M_snd (Km := Km) h i0 i1).2
  obtain ⟨⟨w0, v0⟩, _, _, _, ⟨_, _, c0, c1⟩, ⟨h6, m1⟩, h7, _⟩ := h
  obtain ⟨a1, _, _, a4⟩ := h7 i i0 i1
  unfold f_M_isBeamed f_M_isBeamed_29 f_M_isBeamed_30
  rw [sn, zb_s]
  rcases rsN_b (D := D) (i := i) with z | z
  · obtain ⟨t0, _⟩ := sn' z
    rw [z, if_neg (show ¬ (0 : Int) = 1 by decide), if_pos (show r32 (1000 * v + D 0 i 0) by unfold r32; omega), if_neg (show ¬ 1000 * v + D 0 i 0 < 0 by omega), if_pos w0, if_pos (show 0 ≤ 800 * v + i ∧ 800 * v + i < 3200 by omega), a4.1, if_pos (show r32 (D 3 i 0) by unfold r32; omega)]
    by_cases y : D 3 i 0 < 3
    · have e : bmN D i = 0 := by unfold bmN; rw [if_neg (by first | decide | omega), if_pos y]
      rw [e, if_pos y, if_pos (Or.inl rfl)]
    · have e : bmN D i = 1 := by unfold bmN; rw [if_neg (by first | decide | omega), if_neg y]
      rw [e, if_neg y, if_pos (Or.inr rfl)]
  · have e : bmN D i = 0 := by unfold bmN; rw [if_pos z]
    rw [z, e, if_pos (show (1 : Int) = 1 from rfl), if_pos (show r32 (-1) by decide), if_pos (show (-1 : Int) < 0 by decide), if_pos (Or.inl rfl)]
theorem btV_e {n d : Int} (hd : d = 2 ∨ d = 4 ∨ d = 8 ∨ d = 16) : bc n d * WW = btV n d * d ∧ 0 < btV n d := by
  have bb := bc_b (n := n) (d := d)
  have WWe : WW = 812851200 := rfl
  unfold btV
  rw [WWe]
  rcases hd with rfl | rfl | rfl | rfl <;> omega
theorem M_tg {i j : Int} {B : zB} (h : MDr w v n d m c D F B) (i0 : 0 ≤ i) (i1 : i < c) (j0 : 0 ≤ j) (j1 : j < c) : f_M_isTogether Km w v i j F B = some (tgN D i j, F, B) := by
  have bi := M_bm (Km := Km) h i0 i1
  have bj := M_bm (Km := Km) h j0 j1
  obtain ⟨⟨w0, v0⟩, _, ⟨h4, h5, hn, hd, hb⟩, _, ⟨_, _, c0, c1⟩, _, h7, _⟩ := h
  obtain ⟨_, i2, i3, _⟩ := h7 i i0 i1
  obtain ⟨_, j2, j3, _⟩ := h7 j j0 j1
  obtain ⟨be, bp⟩ := btV_e (n := n) hd
  have bcb := bc_b (n := n) (d := d)
  have q1 : 0 ≤ D 2 i 0 / btV n d := Int.ediv_nonneg (by first | decide | omega) (by first | decide | omega)
  have q2 : D 2 i 0 / btV n d ≤ D 2 i 0 := Int.ediv_le_self _ (by first | decide | omega)
  have q3 : 0 ≤ D 2 j 0 / btV n d := Int.ediv_nonneg (by first | decide | omega) (by first | decide | omega)
  have q4 : D 2 j 0 / btV n d ≤ D 2 j 0 := Int.ediv_le_self _ (by first | decide | omega)
  unfold f_M_isTogether f_M_isTogether_57 f_M_isTogether_122
  rw [bi, zb_s]
  rcases bmN_b (D := D) (i := i) with z1 | z1
  · have e : tgN D i j = 0 := by unfold tgN; rw [if_neg (fun y => by have := y.1; omega)]
    rw [z1, e, if_pos (show r32 0 by decide), if_pos (show (0 : Int) = 0 from rfl)]
  rw [z1, if_pos (show r32 1 by decide), if_neg (show ¬ (1 : Int) = 0 by decide), bj, zb_s]
  rcases bmN_b (D := D) (i := j) with z2 | z2
  · have e : tgN D i j = 0 := by unfold tgN; rw [if_neg (fun y => by have := y.2.1; omega)]
    rw [z2, e, if_pos (show r32 0 by decide), if_pos (show (0 : Int) = 0 from rfl)]
  rw [z2, if_pos (show r32 1 by decide), if_neg (show ¬ (1 : Int) = 0 by decide), if_pos w0, if_pos (show 0 ≤ 800 * v + i ∧ 800 * v + i < 3200 by omega), if_pos (show 0 ≤ 800 * v + j ∧ 800 * v + j < 3200 by omega), i2.1, j2.1, if_pos (show r32 (D 1 i 0) by unfold r32; omega), if_pos (show r32 (D 1 j 0) by unfold r32; omega)]
  by_cases y : D 1 i 0 = D 1 j 0
  · have rb : r32 (bc n d) := by unfold r32; omega
    have rd : r32 d := by unfold r32; omega
    rw [if_pos y, L_beat w0 h4 h5 hn hd, zb_s, if_pos rb, h5, if_pos rd, i3.1, i3.2.1, L_oftR (FR_r i3.2.2.1) be (by first | decide | omega) (by first | decide | omega) (by first | decide | omega) (by first | decide | omega) bp (by first | decide | omega), zb_s, L_beat w0 h4 h5 hn hd, zb_s, if_pos rb, h5, if_pos rd, j3.1, j3.2.1, L_oftR (FR_r j3.2.2.1) be (by first | decide | omega) (by first | decide | omega) (by first | decide | omega) (by first | decide | omega) bp (by first | decide | omega), zb_s, if_pos (show r64 (D 2 i 0 / btV n d) by unfold r64; omega), if_pos (show r64 (D 2 j 0 / btV n d) by unfold r64; omega)]
    by_cases z : zcmp (D 2 i 0 / btV n d) (D 2 j 0 / btV n d) = 0
    · have e : tgN D i j = 1 := tgN_1.mpr ⟨z1, z2, y, by rw [hb]; exact zcmp_0.mp z⟩
      rw [e, if_pos z, if_pos (Or.inr rfl)]
    · have e : tgN D i j = 0 := by
        rcases tgN_b (D := D) (i := i) (j := j) with e | e
        · exact e
        · have := (tgN_1.mp e).2.2.2
          rw [hb] at this
          exact absurd (zcmp_0.mpr this) z
      rw [e, if_neg z, if_pos (Or.inl rfl)]
  · have e : tgN D i j = 0 := by
      rcases tgN_b (D := D) (i := i) (j := j) with e | e
      · exact e
      · exact absurd (tgN_1.mp e).2.2.1 y
    rw [e, if_neg y]
theorem M_g22 {i g : Int} {B : zB} {rec : Int → Int → Int → Int → zF → zB → zO} (h : MDr w v n d m c D F B) (i0 : 0 ≤ i) (i1 : i < c) : ∀ (r nn : Nat) {e : Int}, i + 1 ≤ e → e ≤ c → c - e ≤ r → r < nn → (e = i + 1 ∨ tgN D i (e - 1) = 1) → f_M_groups_22 rec Km nn e i g w v F B = f_M_groups_54 rec Km (geN D i r e) i g w v F B := by
  have h' := h
  obtain ⟨⟨w0, v0⟩, _, _, _, ⟨d8, h13, c0, c1⟩, _⟩ := h
  intro r
  induction r with
  | zero =>
    intro nn e e0 ec er hn hp
    obtain ⟨nn, rfl⟩ : ∃ j, nn = j + 1 := ⟨nn - 1, (by first | decide | omega)⟩
    rw [geN, f_M_groups_22, if_pos w0, if_pos v0, if_pos (show r32 e by unfold r32; omega), h13, if_pos (show r32 c by unfold r32; omega), if_pos (show c ≤ e by omega)]
  | succ r ih =>
    intro nn e e0 ec er hn hp
    obtain ⟨nn, rfl⟩ : ∃ j, nn = j + 1 := ⟨nn - 1, (by first | decide | omega)⟩
    rw [geN, f_M_groups_22, if_pos w0, if_pos v0, if_pos (show r32 e by unfold r32; omega), h13, if_pos (show r32 c by unfold r32; omega)]
    by_cases y : c ≤ e
    · rw [if_pos y, if_neg (show ¬ (e < D 8 0 0 ∧ tgN D i e = 1) from fun x => by have := x.1; omega)]
    · have eq : tgN D (e - 1) e = 1 ↔ tgN D i e = 1 := by
        rcases hp with x | x
        · rw [x, show i + 1 - 1 = i by omega]
        · exact tgN_t x
      rw [if_neg y, M_tg (Km := Km) h' (i := e - 1) (j := e) (by first | decide | omega) (by first | decide | omega) (by first | decide | omega) (by first | decide | omega), zb_s]
      rcases tgN_b (D := D) (i := e - 1) (j := e) with z | z
      · rw [z, if_pos (show r32 0 by decide), if_pos (show (0 : Int) = 0 from rfl), if_neg (show ¬ (e < D 8 0 0 ∧ tgN D i e = 1) from fun x => by have := eq.mpr x.2; omega)]
      · have t := eq.mp z
        rw [z, if_pos (show r32 1 by decide), if_neg (show ¬ (1 : Int) = 0 by decide), if_pos (show e < D 8 0 0 ∧ tgN D i e = 1 from ⟨(by first | decide | omega), t⟩)]
        exact ih nn (by first | decide | omega) (by first | decide | omega) (by first | decide | omega) (by first | decide | omega) (Or.inr (by rw [show e + 1 - 1 = e by omega]; exact t))
theorem M_g61 {i g e : Int} {B : zB} {rec : Int → Int → Int → Int → zF → zB → zO} (h : MDr w v n d m c D F B) (i0 : 0 ≤ i) (ie : i + 1 ≤ e) (ec : e ≤ c) : ∀ (r nn k : Nat) {u : Int}, i + k + r = e → r < nn → u = suN D i k → f_M_groups_61 rec Km nn (i + k) u e i g w v F B = f_M_groups_131 rec Km Km i (if e - i ≤ 1 then 0 else 1) (suN D i (e - i).toNat) e g w v F B := by
  have h' := h
  obtain ⟨⟨w0, v0⟩, _, _, _, ⟨d8, h13, c0, c1⟩, ⟨h6, m1⟩, h7, _⟩ := h
  intro r
  induction r with
  | zero =>
    intro nn k u kr hn hu
    obtain ⟨nn, rfl⟩ : ∃ j, nn = j + 1 := ⟨nn - 1, (by first | decide | omega)⟩
    rw [f_M_groups_61, if_pos (show r32 (i + (k : Int)) by unfold r32; omega), if_pos (show r32 e by unfold r32; omega), if_pos (show e ≤ i + (k : Int) by omega), if_pos (show r32 (e - i) by unfold r32; omega), hu, show (e - i).toNat = k by omega]
    unfold f_M_groups_125
    by_cases y : e - i ≤ 1
    · rw [if_pos y, if_pos y]
    · rw [if_neg y, if_neg y]
  | succ r ih =>
    intro nn k u kr hn hu
    obtain ⟨nn, rfl⟩ : ∃ j, nn = j + 1 := ⟨nn - 1, (by first | decide | omega)⟩
    have sd : suN D i (k + 1) = suN D i k + (if rsN D (i + k) = 1 then 0 else loN D (i + k) + hiN D (i + k) - 8) := by rw [suN]
    obtain ⟨sn, sn'⟩ := M_snd (Km := Km) h' (i := i + k) (by first | decide | omega) (by first | decide | omega)
    have a1 := (h7 (i + k) (by first | decide | omega) (by first | decide | omega)).1
    rw [f_M_groups_61, if_pos (show r32 (i + (k : Int)) by unfold r32; omega), if_pos (show r32 e by unfold r32; omega), if_neg (show ¬ e ≤ i + (k : Int) by omega), sn, zb_s]
    unfold f_M_groups_105
    have nx := ih nn (k + 1) (u := suN D i (k + 1)) (by first | decide | omega) (by first | decide | omega) rfl
    rw [show i + ((k + 1 : Nat) : Int) = i + (k : Int) + 1 by omega] at nx
    rcases rsN_b (D := D) (i := i + k) with z | z
    · obtain ⟨t0, _⟩ := sn' z
      obtain ⟨ea, eb, _, _⟩ := M_lh (Km := Km) h' (i := i + k) (by first | decide | omega) (by first | decide | omega) z
      rw [if_neg (by first | decide | omega)] at sd
      rw [z, if_neg (show ¬ (0 : Int) = 1 by decide), if_pos (show r32 (1000 * v + D 0 (i + k) 0) by unfold r32; omega), if_neg (show ¬ 1000 * v + D 0 (i + k) 0 < 0 by omega), ea, zb_s, eb, zb_s, hu, ← sd]
      exact nx
    · rw [if_pos z, Int.add_zero] at sd
      rw [z, if_pos (show (1 : Int) = 1 from rfl), if_pos (show r32 (-1) by decide), if_pos (show (-1 : Int) < 0 by decide), hu, ← sd]
      exact nx
end
end
section
section
/-! ===== one group written; groups of a voice; staves ===== -/
variable {Km : Nat} {w v n d c : Int} {m : Nat} {D : zD} {F : zF}
theorem M_g131 {i g e u : Int} {rec : Int → Int → Int → Int → zF → zB → zO} (i0 : 0 ≤ i) (ie : i + 1 ≤ e) (ec : e ≤ c) (u0 : -300000 ≤ u ∧ u ≤ 300000) (g0 : 0 ≤ g ∧ g ≤ 800) : ∀ (r nn : Nat) {k : Int} {B : zB}, i ≤ k → k + r = e → r < nn → MDr w v n d m c D F B → ∃ B', f_M_groups_131 rec Km nn k (if e - i ≤ 1 then 0 else 1) u e g w v F B = rec e (g + if e - i ≤ 1 then 0 else 1) w v F B' ∧ (∀ c y j x, ¬ (c = 13 ∧ y = w ∧ 39 ≤ j ∧ j ≤ 41 ∧ 800 * v + k ≤ x ∧ x < 800 * v + e) → B' c y j x = B c y j x) ∧ ∀ j, k ≤ j → j < e → B' 13 w 39 (800 * v + j) = (if e - i ≤ 1 then -1 else g) ∧ B' 13 w 40 (800 * v + j) = (if j + 1 < e then (if D 3 j 0 < D 3 (j + 1) 0 then D 3 j 0 else D 3 (j + 1) 0) - 2 else 0) ∧ B' 13 w 41 (800 * v + j) = (if rsN D j = 1 ∨ D 3 j 0 = 0 then 0 else if u < 0 then 1 else 2) := by
  intro r
  induction r with
  | zero =>
    intro nn k B k0 kr hn h
    obtain ⟨nn, rfl⟩ : ∃ j, nn = j + 1 := ⟨nn - 1, (by first | decide | omega)⟩
    obtain ⟨⟨w0, v0⟩, _, _, _, ⟨d8, h13, c0, c1⟩, _⟩ := h
    refine ⟨B, ?_, fun _ _ _ _ _ => rfl, fun j a b => (by first | decide | omega)⟩
    rw [f_M_groups_131, if_pos (show r32 k by unfold r32; omega), if_pos (show r32 e by unfold r32; omega), if_pos (show e ≤ k by omega)]
    unfold f_M_groups_292
    by_cases y : e - i ≤ 1
    · rw [if_pos y, if_pos (show r32 0 by decide), if_pos (show (0 : Int) = 0 from rfl), Int.add_zero]
    · rw [if_neg y, if_pos (show r32 1 by decide), if_neg (show ¬ (1 : Int) = 0 by decide)]
  | succ r ih =>
    intro nn k B k0 kr hn h
    obtain ⟨nn, rfl⟩ : ∃ j, nn = j + 1 := ⟨nn - 1, (by first | decide | omega)⟩
    have h' := h
    obtain ⟨⟨w0, v0⟩, _, _, _, ⟨d8, h13, c0, c1⟩, ⟨h6, m1⟩, h7, _⟩ := h
    obtain ⟨a1, _, _, a4⟩ := h7 k (by first | decide | omega) (by first | decide | omega)
    have kx : 0 ≤ 800 * v + k ∧ 800 * v + k < 3200 := by omega
    -- the three rows
    have put : ∀ (gv bv sv : Int) (C : zB), C = zup4 (zup4 (zup4 B 13 w 39 (800 * v + k) gv) 13 w 40 (800 * v + k) bv) 13 w 41 (800 * v + k) sv → gv = (if e - i ≤ 1 then -1 else g) → bv = (if k + 1 < e then (if D 3 k 0 < D 3 (k + 1) 0 then D 3 k 0 else D 3 (k + 1) 0) - 2 else 0) → sv = (if rsN D k = 1 ∨ D 3 k 0 = 0 then 0 else if u < 0 then 1 else 2) → ∃ B', f_M_groups_131 rec Km nn (k + 1) (if e - i ≤ 1 then 0 else 1) u e g w v F C = rec e (g + if e - i ≤ 1 then 0 else 1) w v F B' ∧ (∀ c y j x, ¬ (c = 13 ∧ y = w ∧ 39 ≤ j ∧ j ≤ 41 ∧ 800 * v + k ≤ x ∧ x < 800 * v + e) → B' c y j x = B c y j x) ∧ ∀ j, k ≤ j → j < e → B' 13 w 39 (800 * v + j) = (if e - i ≤ 1 then -1 else g) ∧ B' 13 w 40 (800 * v + j) = (if j + 1 < e then (if D 3 j 0 < D 3 (j + 1) 0 then D 3 j 0 else D 3 (j + 1) 0) - 2 else 0) ∧ B' 13 w 41 (800 * v + j) = (if rsN D j = 1 ∨ D 3 j 0 = 0 then 0 else if u < 0 then 1 else 2) := fun gv bv sv C hC hg hb hs => by
      have fC : ∀ c y j x, ¬ (c = 13 ∧ y = w ∧ 39 ≤ j ∧ j ≤ 41 ∧ x = 800 * v + k) → C c y j x = B c y j x := fun c y j x q => by rw [hC, zup4_v, if_neg (by first | decide | omega), zup4_v, if_neg (by first | decide | omega), zup4_v, if_neg (by first | decide | omega)]
      obtain ⟨B', g1, g2, g3⟩ := ih nn (k := k + 1) (B := C) (by first | decide | omega) (by first | decide | omega) (by first | decide | omega) (MDr_f h' (fun c y j x q _ => fC c y j x (by first | decide | omega)))
      refine ⟨B', g1, fun c y j x q => by rw [g2 c y j x (by first | decide | omega), fC c y j x (by first | decide | omega)], fun j j0 j1 => ?_⟩
      by_cases ej : j = k
      · rw [ej, g2 13 w 39 _ (by first | decide | omega), g2 13 w 40 _ (by first | decide | omega), g2 13 w 41 _ (by first | decide | omega), hC]
        refine ⟨?_, ?_, ?_⟩
        · rw [zup4_v, if_neg (by first | decide | omega), zup4_v, if_neg (by first | decide | omega), zup4_v, if_pos ⟨rfl, rfl, rfl, rfl⟩]; exact hg
        · rw [zup4_v, if_neg (by first | decide | omega), zup4_v, if_pos ⟨rfl, rfl, rfl, rfl⟩]; exact hb
        · rw [zup4_v, if_pos ⟨rfl, rfl, rfl, rfl⟩]; exact hs
      · exact g3 j (by first | decide | omega) j1
    -- the stem, behind group and beams
    have g224 : ∀ (gv bv : Int), gv = (if e - i ≤ 1 then -1 else g) → bv = (if k + 1 < e then (if D 3 k 0 < D 3 (k + 1) 0 then D 3 k 0 else D 3 (k + 1) 0) - 2 else 0) → ∃ B', f_M_groups_224 rec (f_M_groups_131 rec Km nn) Km (800 * v + k) k (if e - i ≤ 1 then 0 else 1) u e g w v w (800 * v + k) bv F (zup4 B 13 w 39 (800 * v + k) gv) = rec e (g + if e - i ≤ 1 then 0 else 1) w v F B' ∧ (∀ c y j x, ¬ (c = 13 ∧ y = w ∧ 39 ≤ j ∧ j ≤ 41 ∧ 800 * v + k ≤ x ∧ x < 800 * v + e) → B' c y j x = B c y j x) ∧ ∀ j, k ≤ j → j < e → B' 13 w 39 (800 * v + j) = (if e - i ≤ 1 then -1 else g) ∧ B' 13 w 40 (800 * v + j) = (if j + 1 < e then (if D 3 j 0 < D 3 (j + 1) 0 then D 3 j 0 else D 3 (j + 1) 0) - 2 else 0) ∧ B' 13 w 41 (800 * v + j) = (if rsN D j = 1 ∨ D 3 j 0 = 0 then 0 else if u < 0 then 1 else 2) := fun gv bv hg hb => by
      have hE : MDr w v n d m c D F (zup4 (zup4 B 13 w 39 (800 * v + k) gv) 13 w 40 (800 * v + k) bv) := MDr_f (MDr_f h' (svM_w (by decide))) (svM_w (by decide))
      obtain ⟨sn, sn'⟩ := M_snd (Km := Km) hE (i := k) (by first | decide | omega) (by first | decide | omega)
      have e34 : (zup4 (zup4 B 13 w 39 (800 * v + k) gv) 13 w 40 (800 * v + k) bv) 13 w 34 (800 * v + k) = D 3 k 0 := by rw [zup4_v, if_neg (by first | decide | omega), zup4_v, if_neg (by first | decide | omega)]; exact a4.1
      unfold f_M_groups_224 f_M_groups_249 f_M_groups_250 f_M_groups_277
      rw [if_pos w0, if_pos kx, sn, zb_s]
      have bare : (rsN D k = 1 ∨ D 3 k 0 = 0) → (0 : Int) = (if rsN D k = 1 ∨ D 3 k 0 = 0 then 0 else if u < 0 then 1 else 2) := fun q => by rw [if_pos q]
      rcases rsN_b (D := D) (i := k) with z | z
      · obtain ⟨t0, _⟩ := sn' z
        rw [z, if_neg (show ¬ (0 : Int) = 1 by decide), if_pos (show r32 (1000 * v + D 0 k 0) by unfold r32; omega), if_neg (show ¬ 1000 * v + D 0 k 0 < 0 by omega), if_pos w0, if_pos kx, e34, if_pos (show r32 (D 3 k 0) by unfold r32; omega)]
        by_cases y : D 3 k 0 ≤ 0
        · rw [if_pos y, if_pos w0, if_pos (show r32 0 by decide), if_pos (show (0 : Int) = 0 from rfl), if_pos w0, if_pos kx]
          exact put gv bv 0 _ rfl hg hb (bare (Or.inr (by first | decide | omega)))
        · have nb : ¬ (rsN D k = 1 ∨ D 3 k 0 = 0) := fun q => by omega
          rw [if_neg y, if_pos w0, if_pos (show r32 1 by decide), if_neg (show ¬ (1 : Int) = 0 by decide), if_pos (show r32 u by unfold r32; omega)]
          by_cases x : 0 ≤ u
          · rw [if_pos x, if_pos w0, if_pos kx]
            exact put gv bv 2 _ rfl hg hb (by rw [if_neg nb, if_neg (by first | decide | omega)])
          · rw [if_neg x, if_pos w0, if_pos kx]
            exact put gv bv 1 _ rfl hg hb (by rw [if_neg nb, if_pos (by first | decide | omega)])
      · rw [z, if_pos (show (1 : Int) = 1 from rfl), if_pos (show r32 (-1) by decide), if_pos (show (-1 : Int) < 0 by decide), if_pos w0, if_pos (show r32 0 by decide), if_pos (show (0 : Int) = 0 from rfl), if_pos w0, if_pos kx]
        exact put gv bv 0 _ rfl hg hb (bare (Or.inl z))
    -- the beams
    have g164 : ∀ gv : Int, gv = (if e - i ≤ 1 then -1 else g) → ∃ B', f_M_groups_164 rec (f_M_groups_131 rec Km nn) Km (800 * v + k) k (if e - i ≤ 1 then 0 else 1) u e g w v w (800 * v + k) gv F B = rec e (g + if e - i ≤ 1 then 0 else 1) w v F B' ∧ (∀ c y j x, ¬ (c = 13 ∧ y = w ∧ 39 ≤ j ∧ j ≤ 41 ∧ 800 * v + k ≤ x ∧ x < 800 * v + e) → B' c y j x = B c y j x) ∧ ∀ j, k ≤ j → j < e → B' 13 w 39 (800 * v + j) = (if e - i ≤ 1 then -1 else g) ∧ B' 13 w 40 (800 * v + j) = (if j + 1 < e then (if D 3 j 0 < D 3 (j + 1) 0 then D 3 j 0 else D 3 (j + 1) 0) - 2 else 0) ∧ B' 13 w 41 (800 * v + j) = (if rsN D j = 1 ∨ D 3 j 0 = 0 then 0 else if u < 0 then 1 else 2) := fun gv hg => by
      unfold f_M_groups_164 f_M_groups_218
      rw [if_pos w0, if_pos kx, if_pos w0, if_pos (show r32 (k + 1) by unfold r32; omega), if_pos (show r32 e by unfold r32; omega)]
      by_cases y : e ≤ k + 1
      · rw [if_pos y]
        exact g224 gv 0 hg (by rw [if_neg (by first | decide | omega)])
      · obtain ⟨_, _, _, b4⟩ := h7 (k + 1) (by first | decide | omega) (by first | decide | omega)
        have e1 : (zup4 B 13 w 39 (800 * v + k) gv) 13 w 34 (800 * v + k) = D 3 k 0 := by rw [zup4_v, if_neg (by first | decide | omega)]; exact a4.1
        have e2 : (zup4 B 13 w 39 (800 * v + k) gv) 13 w 34 (800 * v + k + 1) = D 3 (k + 1) 0 := by rw [zup4_v, if_neg (by first | decide | omega), show 800 * v + k + 1 = 800 * v + (k + 1) by omega]; exact b4.1
        rw [if_neg y, if_pos kx, if_pos (show 0 ≤ 800 * v + k + 1 ∧ 800 * v + k + 1 < 3200 by omega), e1, e2, if_pos (show r32 (D 3 k 0) by unfold r32; omega), if_pos (show r32 (D 3 (k + 1) 0) by unfold r32; omega)]
        by_cases x : D 3 (k + 1) 0 ≤ D 3 k 0
        · rw [if_pos x]
          exact g224 gv _ hg (by rw [if_pos (show k + 1 < e by omega), if_neg (show ¬ D 3 k 0 < D 3 (k + 1) 0 by omega)])
        · rw [if_neg x]
          exact g224 gv _ hg (by rw [if_pos (show k + 1 < e by omega), if_pos (show D 3 k 0 < D 3 (k + 1) 0 by omega)])
    rw [f_M_groups_131, if_pos (show r32 k by unfold r32; omega), if_pos (show r32 e by unfold r32; omega), if_neg (show ¬ e ≤ k by omega), if_pos w0]
    by_cases y : e - i ≤ 1
    · have g' := g164 (-1) (by rw [if_pos y])
      rw [if_pos y] at g' ⊢
      rw [if_pos (show r32 0 by decide), if_pos (show (0 : Int) = 0 from rfl)]
      exact g'
    · have g' := g164 g (by rw [if_neg y])
      rw [if_neg y] at g' ⊢
      rw [if_pos (show r32 1 by decide), if_neg (show ¬ (1 : Int) = 0 by decide)]
      exact g'
theorem suN_m {B : zB} {i : Int} (h : MDr w v n d m c D F B) (i0 : 0 ≤ i) : ∀ k : Nat, i + k ≤ c → -(300 * (k : Int)) ≤ suN D i k ∧ suN D i k ≤ 300 * k := by
  intro k
  induction k with
  | zero => intro _; rw [suN]; omega
  | succ k ih =>
    intro hd
    have := ih (by first | decide | omega)
    rw [suN]
    rcases rsN_b (D := D) (i := i + k) with z | z
    · obtain ⟨_, _, b1, b2⟩ := M_lh (Km := 0) h (i := i + k) (by first | decide | omega) (by first | decide | omega) z
      rw [if_neg (by first | decide | omega)]
      omega
    · rw [if_pos z]; omega
theorem M_grp (hK : 3002 ≤ Km) : ∀ (r nn : Nat) {i g : Int} {B : zB}, 0 ≤ i → i ≤ c → c - i ≤ r → r < nn → 0 ≤ g → g ≤ i → MDr w v n d m c D F B → GPn D r i g → ∃ B', f_M_groups_5 Km nn i g w v F B = some (0, F, B') ∧ (∀ c y j x, ¬ (c = 13 ∧ y = w ∧ 39 ≤ j ∧ j ≤ 41 ∧ 800 * v + i ≤ x ∧ x < 800 * v + 800) → B' c y j x = B c y j x) ∧ ∀ j, i ≤ j → j < c → B' 13 w 39 (800 * v + j) = grpN D j ∧ B' 13 w 40 (800 * v + j) = bsN D j ∧ B' 13 w 41 (800 * v + j) = smN D j := by
  intro r
  induction r with
  | zero =>
    intro nn i g B i0 ic ir hn g0 g1 h hG
    obtain ⟨nn, rfl⟩ : ∃ j, nn = j + 1 := ⟨nn - 1, (by first | decide | omega)⟩
    obtain ⟨⟨w0, v0⟩, _, _, _, ⟨d8, h13, c0, c1⟩, _⟩ := h
    rw [f_M_groups_5, if_pos w0, if_pos v0, if_pos (show r32 i by unfold r32; omega), h13, if_pos (show r32 c by unfold r32; omega), if_pos (show c ≤ i by omega)]
    exact ⟨B, rfl, fun _ _ _ _ _ => rfl, fun j a b => (by first | decide | omega)⟩
  | succ r ih =>
    intro nn i g B i0 ic ir hn g0 g1 h hG
    obtain ⟨nn, rfl⟩ : ∃ j, nn = j + 1 := ⟨nn - 1, (by first | decide | omega)⟩
    have h' := h
    obtain ⟨⟨w0, v0⟩, _, _, _, ⟨d8, h13, c0, c1⟩, _⟩ := h
    rw [f_M_groups_5, if_pos w0, if_pos v0, if_pos (show r32 i by unfold r32; omega), h13, if_pos (show r32 c by unfold r32; omega)]
    by_cases y : c ≤ i
    · rw [if_pos y]
      exact ⟨B, rfl, fun _ _ _ _ _ => rfl, fun j a b => (by first | decide | omega)⟩
    have gb := ge1_b (D := D) (i := i) (by first | decide | omega)
    have ge : geN D i c.toNat (i + 1) = ge1 D i := by unfold ge1; rw [d8]
    have sb := suN_m h' i0 (ge1 D i - i).toNat (by first | decide | omega)
    have g61 := M_g61 (Km := Km) (g := g) (rec := f_M_groups_5 Km nn) h' i0 gb.1 (by first | decide | omega) (ge1 D i - i).toNat Km 0 (u := 0) (by first | decide | omega) (by first | decide | omega) rfl
    rw [show i + ((0 : Nat) : Int) = i by omega] at g61
    obtain ⟨C, k1, k2, k3⟩ := M_g131 (Km := Km) (g := g) (u := suN D i (ge1 D i - i).toNat) (rec := f_M_groups_5 Km nn) i0 gb.1 (by first | decide | omega) (by first | decide | omega) (by first | decide | omega) (ge1 D i - i).toNat Km (k := i) (B := B) (Int.le_refl _) (by first | decide | omega) (by first | decide | omega) h'
    rw [if_neg y, M_g22 (Km := Km) (g := g) (rec := f_M_groups_5 Km nn) h' i0 (by first | decide | omega) c.toNat Km (e := i + 1) (Int.le_refl _) (by first | decide | omega) (by first | decide | omega) (by first | decide | omega) (Or.inl rfl), ge, f_M_groups_54, g61, k1]
    have gx : (if ge1 D i - i ≤ 1 then (0 : Int) else 1) = if 1 < ge1 D i - i then 1 else 0 := by split <;> split <;> omega
    obtain ⟨B', q1, q2, q3⟩ := ih nn (i := ge1 D i) (g := g + if 1 < ge1 D i - i then 1 else 0) (B := C) (by first | decide | omega) (by first | decide | omega) (by first | decide | omega) (by first | decide | omega) (by split <;> omega) (by split <;> omega) (MDr_f h' (fun c y j x q _ => k2 c y j x (by first | decide | omega))) (GPn_n hG (by first | decide | omega))
    refine ⟨B', by rw [gx]; exact q1, fun c y j x q => by rw [q2 c y j x (by first | decide | omega), k2 c y j x (by first | decide | omega)], fun j j0 j1 => ?_⟩
    by_cases ej : j < ge1 D i
    · obtain ⟨x1, x2, x3⟩ := k3 j j0 ej
      rw [q2 13 w 39 _ (by first | decide | omega), q2 13 w 40 _ (by first | decide | omega), q2 13 w 41 _ (by first | decide | omega), x1, x2, x3]
      unfold grpN bsN smN
      rw [GPn_i hG j0 ej (by first | decide | omega)]
      refine ⟨?_, rfl, rfl⟩
      show (if ge1 D i - i ≤ 1 then (-1 : Int) else g) = if 1 < ge1 D i - i then g else -1
      split <;> split <;> omega
    · exact q3 j (by first | decide | omega) j1
theorem M_lg24 {rec : Int → Int → zF → zB → zO} (hK : 3002 ≤ Km) : ∀ (r nn : Nat) {i : Int} {B : zB}, 0 ≤ i → i + r = c → r < nn → MDr w v n d m c D F B → ∃ B', f_M_staves_24 rec Km nn i v w F B = zbind (f_M_groups Km w v F B') (fun _ F1 B1 => rec (v + 1) w F1 B1) ∧ (∀ c y j x, ¬ (c = 13 ∧ y = w ∧ j = 38 ∧ 800 * v + i ≤ x ∧ x < 800 * v + 800) → B' c y j x = B c y j x) ∧ ∀ j, i ≤ j → j < c → B' 13 w 38 (800 * v + j) = lgN D j := by
  intro r
  induction r with
  | zero =>
    intro nn i B i0 ir hn h
    obtain ⟨nn, rfl⟩ : ∃ j, nn = j + 1 := ⟨nn - 1, (by first | decide | omega)⟩
    obtain ⟨⟨w0, v0⟩, _, _, _, ⟨d8, h13, c0, c1⟩, _⟩ := h
    rw [f_M_staves_24, if_pos w0, if_pos v0, if_pos (show r32 i by unfold r32; omega), h13, if_pos (show r32 c by unfold r32; omega), if_pos (show c ≤ i by omega)]
    exact ⟨B, rfl, fun _ _ _ _ _ => rfl, fun j a b => (by first | decide | omega)⟩
  | succ r ih =>
    intro nn i B i0 ir hn h
    obtain ⟨nn, rfl⟩ : ∃ j, nn = j + 1 := ⟨nn - 1, (by first | decide | omega)⟩
    have h' := h
    obtain ⟨⟨w0, v0⟩, _, _, _, ⟨d8, h13, c0, c1⟩, _⟩ := h
    obtain ⟨B', g1, g2, g3⟩ := ih nn (i := i + 1) (B := zup4 B 13 w 38 (800 * v + i) (lgN D i)) (by first | decide | omega) (by first | decide | omega) (by first | decide | omega) (MDr_f h' (svM_w (by decide)))
    refine ⟨B', ?_, fun c y j x q => by rw [g2 c y j x (by first | decide | omega), zup4_v, if_neg (by first | decide | omega)], fun j j0 j1 => ?_⟩
    · rw [f_M_staves_24, if_pos w0, if_pos v0, if_pos (show r32 i by unfold r32; omega), h13, if_pos (show r32 c by unfold r32; omega), if_neg (show ¬ c ≤ i by omega), M_led h' i0 (by first | decide | omega), zb_s, if_pos (show 0 ≤ 800 * v + i ∧ 800 * v + i < 3200 by omega)]
      exact g1
    · by_cases ej : j = i
      · rw [ej, g2 13 w 38 _ (by first | decide | omega), zup4_v, if_pos ⟨rfl, rfl, rfl, rfl⟩]
      · exact g3 j (by first | decide | omega) j1
/-- one voice: all signs -/
theorem M_stv {nn : Nat} {V : Int} {B : zB} (hK : 3002 ≤ Km) (hV : F 13 w 1 = V ∧ v < V ∧ V ≤ 4) (h : MDr w v n d m c D F B) (r58 : ∀ s, 0 ≤ s → s < 63 → r32 (B 14 0 58 s)) : ∃ B', f_M_staves_2 Km (nn + 1) v w F B = f_M_staves_2 Km nn (v + 1) w F B' ∧ (∀ c y j x, ¬ (c = 13 ∧ y = w ∧ 36 ≤ j ∧ j ≤ 41 ∧ 800 * v ≤ x ∧ x < 800 * v + 800) → ¬ (c = 14 ∧ y = 0 ∧ j = 58) → B' c y j x = B c y j x) ∧ (∀ j, 0 ≤ j → j < c → B' 13 w 36 (800 * v + j) = hdN D j ∧ B' 13 w 37 (800 * v + j) = acN D j ∧ B' 13 w 38 (800 * v + j) = lgN D j ∧ B' 13 w 39 (800 * v + j) = grpN D j ∧ B' 13 w 40 (800 * v + j) = bsN D j ∧ B' 13 w 41 (800 * v + j) = smN D j) ∧ ∀ s, 0 ≤ s → s < 63 → r32 (B' 14 0 58 s) := by
  have h' := h
  obtain ⟨⟨w0, v0⟩, _, _, _, ⟨d8, h13, c0, c1⟩, _⟩ := h
  obtain ⟨B1, a1, a2, a3⟩ := M_hd hK c.toNat Km (i := 0) (B := B) (by decide) (by first | decide | omega) (by first | decide | omega) h'
  have h1 : MDr w v n d m c D F B1 := MDr_f h' (fun c y k x q _ => a2 c y k x (by first | decide | omega))
  obtain ⟨B2, b1, b2, b3, b4⟩ := M_ac hK c.toNat Km 0 (lb := -1) (B := B1) (by first | decide | omega) (by first | decide | omega) (by decide) h1 (Or.inl ⟨rfl, rfl⟩) (fun j j0 j1 => a3 j j0 j1) (fun s s0 s1 => by rw [a2 14 0 58 s (by first | decide | omega)]; exact r58 s s0 s1) (fun z => absurd z (by decide))
  rw [show ((0 : Nat) : Int) = 0 from rfl] at b1 b2 b3
  have h2 : MDr w v n d m c D F B2 := MDr_f h1 (acM_s b2)
  obtain ⟨B3, e1, e2, e3⟩ := M_lg24 (rec := f_M_staves_2 Km nn) hK c.toNat Km (i := 0) (B := B2) (by decide) (by first | decide | omega) (by first | decide | omega) h2
  have h3 : MDr w v n d m c D F B3 := MDr_f h2 (fun c y k x q _ => e2 c y k x (by first | decide | omega))
  obtain ⟨B4, g1, g2, g3⟩ := M_grp hK c.toNat Km (i := 0) (g := 0) (B := B3) (by decide) (by first | decide | omega) (by first | decide | omega) (by first | decide | omega) (by decide) (by decide) h3 (by rw [← d8]; exact GPn_0)
  refine ⟨B4, ?_, fun c y j x q q' => by rw [g2 c y j x (by first | decide | omega), e2 c y j x (by first | decide | omega), b2 c y j x (by first | decide | omega) q', a2 c y j x (by first | decide | omega)], fun j j0 j1 => ?_, fun s s0 s1 => by rw [g2 14 0 58 s (by first | decide | omega), e2 14 0 58 s (by first | decide | omega)]; exact b4 s s0 s1⟩
  · rw [f_M_staves_2, if_pos w0, if_pos (show r32 v by unfold r32; omega), hV.1, if_pos (show r32 V by unfold r32; omega), if_neg (show ¬ V ≤ v by omega)]
    unfold f_M_holds f_M_accidentals
    rw [a1, zb_s, b1, zb_s, e1]
    unfold f_M_groups
    rw [g1, zb_s]
  · obtain ⟨x1, x2, x3⟩ := g3 j j0 j1
    refine ⟨?_, ?_, ?_, x1, x2, x3⟩
    · rw [g2 13 w 36 _ (by first | decide | omega), e2 13 w 36 _ (by first | decide | omega), b2 13 w 36 _ (by first | decide | omega) (by first | decide | omega)]; exact a3 j j0 j1
    · rw [g2 13 w 37 _ (by first | decide | omega), e2 13 w 37 _ (by first | decide | omega)]; exact b3 j j0 j1
    · rw [g2 13 w 38 _ (by first | decide | omega)]; exact e3 j j0 j1
/-- all voices -/
theorem M_stvs {V : Int} {ms : Int → Nat} {cs : Int → Int} {Ds : Int → zD} (hK : 3002 ≤ Km) (hw : 0 ≤ w ∧ w < 3) (hV : F 13 w 1 = V ∧ V ≤ 4) : ∀ (r nn : Nat) {u : Int} {B : zB}, u + r = V → 0 ≤ u → r < nn → (∀ t, u ≤ t → t < V → MDr w t n d (ms t) (cs t) (Ds t) F B) → (∀ s, 0 ≤ s → s < 63 → r32 (B 14 0 58 s)) → ∃ B', f_M_staves_2 Km nn u w F B = some (0, F, B') ∧ (∀ c y j x, ¬ (c = 13 ∧ y = w ∧ 36 ≤ j ∧ j ≤ 41 ∧ 800 * u ≤ x) → ¬ (c = 14 ∧ y = 0 ∧ j = 58) → B' c y j x = B c y j x) ∧ ∀ t, u ≤ t → t < V → ∀ j, 0 ≤ j → j < cs t → B' 13 w 36 (800 * t + j) = hdN (Ds t) j ∧ B' 13 w 37 (800 * t + j) = acN (Ds t) j ∧ B' 13 w 38 (800 * t + j) = lgN (Ds t) j ∧ B' 13 w 39 (800 * t + j) = grpN (Ds t) j ∧ B' 13 w 40 (800 * t + j) = bsN (Ds t) j ∧ B' 13 w 41 (800 * t + j) = smN (Ds t) j := by
  intro r
  induction r with
  | zero =>
    intro nn u B ur u0 hn hM r58
    obtain ⟨nn, rfl⟩ : ∃ j, nn = j + 1 := ⟨nn - 1, (by first | decide | omega)⟩
    rw [f_M_staves_2, if_pos hw, if_pos (show r32 u by unfold r32; omega), hV.1, if_pos (show r32 V by unfold r32; omega), if_pos (show V ≤ u by omega)]
    exact ⟨B, rfl, fun _ _ _ _ _ _ => rfl, fun t a b => (by first | decide | omega)⟩
  | succ r ih =>
    intro nn u B ur u0 hn hM r58
    obtain ⟨nn, rfl⟩ : ∃ j, nn = j + 1 := ⟨nn - 1, (by first | decide | omega)⟩
    have hu := hM u (Int.le_refl _) (by first | decide | omega)
    have cb := hu.2.2.2.2.1.2.2.2
    obtain ⟨C, a1, a2, a3, a4⟩ := M_stv (nn := nn) (V := V) hK ⟨hV.1, (by first | decide | omega), hV.2⟩ hu r58
    obtain ⟨B', b1, b2, b3⟩ := ih nn (u := u + 1) (B := C) (by first | decide | omega) (by first | decide | omega) (by first | decide | omega) (fun t t0 t1 => MDr_f (hM t (by first | decide | omega) t1) (fun c y k x q q' => a2 c y k x (by first | decide | omega) q')) a4
    refine ⟨B', by rw [a1]; exact b1, fun c y j x q q' => by rw [b2 c y j x (by first | decide | omega) q', a2 c y j x (by first | decide | omega) q'], fun t t0 t1 j j0 j1 => ?_⟩
    by_cases e : t = u
    · subst e
      rw [b2 13 w 36 _ (by first | decide | omega) (by first | decide | omega), b2 13 w 37 _ (by first | decide | omega) (by first | decide | omega), b2 13 w 38 _ (by first | decide | omega) (by first | decide | omega), b2 13 w 39 _ (by first | decide | omega) (by first | decide | omega), b2 13 w 40 _ (by first | decide | omega) (by first | decide | omega), b2 13 w 41 _ (by first | decide | omega) (by first | decide | omega)]
      exact a3 j j0 j1
    · exact b3 t (by first | decide | omega) t1 j j0 j1
end
end
section
section
/-! ===== counting, and the columns of a bar: one place put in ===== -/
def cn (q : Nat → Bool) : Nat → Nat
  | 0 => 0
  | n + 1 => cn q n + (if q n = true then 1 else 0)
theorem cn_le (q : Nat → Bool) : ∀ n, cn q n ≤ n := by
  intro n
  induction n with
  | zero => exact Nat.le_refl _
  | succ n ih =>
    unfold cn
    split <;> omega
theorem cn_mono {q q' : Nat → Bool} : ∀ n, (∀ y, y < n → q y = true → q' y = true) → cn q n ≤ cn q' n := by
  intro n
  induction n with
  | zero => intro _; exact Nat.le_refl _
  | succ n ih =>
    intro h
    have i := ih (fun y hy => h y (by first | decide | omega))
    unfold cn
    by_cases a : q n = true
    · rw [if_pos a, if_pos (h n (by first | decide | omega) a)]; omega
    · rw [if_neg a]; split <;> omega
theorem cn_lt {q q' : Nat → Bool} {y0 : Nat} (a0 : ¬ q y0 = true) (a1 : q' y0 = true) : ∀ n, y0 < n → (∀ y, y < n → q y = true → q' y = true) → cn q n + 1 ≤ cn q' n := by
  intro n
  induction n with
  | zero => intro h; omega
  | succ n ih =>
    intro hy h
    unfold cn
    by_cases e : y0 = n
    · subst e
      have := cn_mono (q := q) (q' := q') y0 (fun y hy => h y (by first | decide | omega))
      rw [if_neg a0, if_pos a1]; omega
    · have i := ih (by first | decide | omega) (fun y hy => h y (by first | decide | omega))
      by_cases a : q n = true
      · rw [if_pos a, if_pos (h n (by first | decide | omega) a)]; omega
      · rw [if_neg a]; split <;> omega
/-- equal as fractions, equal as places -/
theorem nd_inj {a b : Int} (a0 : 0 ≤ a) (b0 : 0 ≤ b) (h1 : nu a = nu b) (h2 : de a = de b) : a = b := by
  obtain ⟨d0, _, _, e⟩ := FR_r a0
  obtain ⟨_, _, _, e'⟩ := FR_r b0
  rw [h1, e', ← h2] at e
  exact (Int.eq_of_mul_eq_mul_right (by first | decide | omega) e).symm
theorem nd_r {p : Int} (p0 : 0 ≤ p) (p1 : p ≤ 1000000000000) : (0 ≤ nu p ∧ nu p ≤ 1000000000000) ∧ (1 ≤ de p ∧ de p ≤ 812851200) := by
  have h := FR_r p0
  have b := FR_b h
  have hw : WW = 812851200 := rfl
  exact ⟨⟨h.2.2.1, (by first | decide | omega)⟩, h.1, (by first | decide | omega)⟩
/-- rows of places in the columns -/
def CP (w : Int) (B : zB) (j p : Int) : Prop := B 13 w 43 j = nu p ∧ B 13 w 44 j = de p
def cU (w j p : Int) (B : zB) : zB := zup4 (zup4 B 13 w 43 j (nu p)) 13 w 44 j (de p)
theorem cU_n {w j p : Int} {B : zB} {c k : Nat} {i x : Int} (h : ¬ (c = 13 ∧ i = w ∧ (k = 43 ∨ k = 44) ∧ x = j)) : cU w j p B c i k x = B c i k x := by
  unfold cU
  rw [zup4_v, if_neg (by first | decide | omega), zup4_v, if_neg (by first | decide | omega)]
theorem cU_p {w j p : Int} {B : zB} : CP w (cU w j p B) j p := by
  unfold cU CP
  rw [zup4_v, if_neg (by first | decide | omega), zup4_v, if_pos (by first | decide | omega), zup4_v, if_pos (by first | decide | omega)]
  exact ⟨rfl, rfl⟩
theorem CP_n {w j p x q : Int} {B : zB} (h : CP w B x q) (n : ¬ x = j) : CP w (cU w j p B) x q := by
  unfold CP
  rw [cU_n (by first | decide | omega), cU_n (by first | decide | omega)]
  exact h
/-- what a column put in changes -/
def CZ (w s : Int) (B B' : zB) : Prop := ∀ c i k x, ¬ (c = 13 ∧ i = w ∧ (k = 43 ∨ k = 44) ∧ s ≤ x) → B' c i k x = B c i k x
theorem CZ_u {w s j p : Int} {B B1 : zB} (h : CZ w s B B1) (hj : s ≤ j) : CZ w s B (cU w j p B1) := fun c i k x n => by rw [cU_n (by first | decide | omega), h c i k x n]
theorem cmp3 {p q : Int} : r32 (if p < q then (-1 : Int) else if p = q then 0 else 1) ∧ ((if p < q then (-1 : Int) else if p = q then 0 else 1) ≤ 0 ↔ p ≤ q) := by
  by_cases a : p < q
  · rw [if_pos a]; exact ⟨by decide, (by first | decide | omega)⟩
  · rw [if_neg a]
    by_cases b : p = q
    · rw [if_pos b]; exact ⟨by decide, (by first | decide | omega)⟩
    · rw [if_neg b]; exact ⟨by decide, (by first | decide | omega)⟩
/-- places moved up, and the new one put in -/
theorem s_col51 {K : Nat} {w b s l p : Int} {P : Int → Int} {F : zF} {B0 : zB} (hKm : 812851200 < K) (w0 : 0 ≤ w ∧ w < 3) (b0 : 0 ≤ b ∧ b < 101) (hs : B0 13 w 42 b = s) (s0 : 0 ≤ s) (l1 : l < 3200) (p0 : 0 ≤ p) (p1 : p ≤ 1000000000000) (hP : ∀ j, 0 ≤ j → j < l → 0 ≤ P j ∧ P j ≤ 1000000000000) : ∀ (n : Nat) (t : Int) (B : zB), CZ w s B0 B → s ≤ t → t ≤ l → (∀ j, 0 ≤ j → j < t → CP w B j (P j)) → (∀ j, t < j → j ≤ l → CP w B j (P (j - 1))) → (∀ j, t ≤ j → j < l → p < P j) → t - s < n → ∃ (t' : Int) (B' : zB), f_M_column_51 K n t w b l (nu p) (de p) F B = some (l + 1, F, B') ∧ s ≤ t' ∧ t' ≤ l ∧ CZ w s B0 B' ∧ (∀ j, 0 ≤ j → j < t' → CP w B' j (P j)) ∧ CP w B' t' p ∧ (∀ j, t' < j → j ≤ l → CP w B' j (P (j - 1))) ∧ (s < t' → P (t' - 1) ≤ p) ∧ (t' < l → p < P t') := by
  intro n
  induction n with
  | zero => intro t B _ h _ _ _ _ hn; exfalso; omega
  | succ n ih =>
    intro t B hz ts tl c1 c2 c3 hn
    have e42 : B 13 w 42 b = s := by rw [hz 13 w 42 b (by first | decide | omega)]; exact hs
    have fin : ∀ (h : s < t → P (t - 1) ≤ p), ∃ (t' : Int) (B' : zB), f_M_column_128 K t w l (nu p) (de p) F B = some (l + 1, F, B') ∧ s ≤ t' ∧ t' ≤ l ∧ CZ w s B0 B' ∧ (∀ j, 0 ≤ j → j < t' → CP w B' j (P j)) ∧ CP w B' t' p ∧ (∀ j, t' < j → j ≤ l → CP w B' j (P (j - 1))) ∧ (s < t' → P (t' - 1) ≤ p) ∧ (t' < l → p < P t') := fun h => by
      refine ⟨t, cU w t p B, ?_, ts, tl, CZ_u hz ts, fun j j0 j1 => CP_n (c1 j j0 j1) (by first | decide | omega), cU_p, fun j j0 j1 => CP_n (c2 j j0 j1) (by first | decide | omega), h, fun h' => c3 t (Int.le_refl _) h'⟩
      unfold f_M_column_128 cU
      rw [if_pos w0, if_pos (by first | decide | omega)]
    rw [f_M_column_51, if_pos w0, if_pos b0, if_pos (by unfold r32; omega), e42, if_pos (by unfold r32; omega)]
    by_cases a : t ≤ s
    · rw [if_pos a]
      exact fin (fun h => (by first | decide | omega))
    · rw [if_neg a, if_pos (by first | decide | omega)]
      obtain ⟨k1, k2⟩ := c1 (t - 1) (by first | decide | omega) (by first | decide | omega)
      obtain ⟨q0, q1⟩ := hP (t - 1) (by first | decide | omega) (by first | decide | omega)
      rw [k1, k2, L_cmpR hKm (FR_r q0) (FR_r p0) (by first | decide | omega) (by first | decide | omega), zb_s, if_pos cmp3.1]
      by_cases y : P (t - 1) ≤ p
      · rw [if_pos (cmp3.2.mpr y)]
        exact fin (fun _ => y)
      · rw [if_neg (fun h => y (cmp3.2.mp h)), if_pos (by first | decide | omega)]
        have e1 : (zup4 B 13 w 43 t (nu (P (t - 1)))) 13 w 44 (t - 1) = de (P (t - 1)) := by rw [zup4_v, if_neg (by first | decide | omega)]; exact k2
        rw [k1, e1]
        exact ih (t - 1) (cU w t (P (t - 1)) B) (CZ_u hz ts) (by first | decide | omega) (by first | decide | omega) (fun j j0 j1 => CP_n (c1 j j0 (by first | decide | omega)) (by first | decide | omega)) (fun j j0 j1 => by
          by_cases e : j = t
          · rw [e]; exact cU_p
          · exact CP_n (c2 j (by first | decide | omega) j1) e) (fun j j0 j1 => by
          by_cases e : j = t - 1
          · rw [e]; omega
          · exact c3 j (by first | decide | omega) j1) (by first | decide | omega)
/-- the columns of a bar so far -/
def CS (w T s l : Int) (P : Int → Int) (B : zB) : Prop := (0 ≤ s ∧ s ≤ l ∧ l ≤ 3200) ∧ (∀ j, 0 ≤ j → j < l → CP w B j (P j) ∧ 0 ≤ P j ∧ P j < T) ∧ (∀ j, s ≤ j → j + 1 < l → P j ≤ P (j + 1))
/-- looked for -/
theorem s_col11 {K : Nat} {w b s l p T : Int} {P : Int → Int} {F : zF} {B : zB} (w0 : 0 ≤ w ∧ w < 3) (T1 : T ≤ 1000000000000) (hC : CS w T s l P B) (p0 : 0 ≤ p) (p1 : p < T) : ∀ (n : Nat) (t : Int), s ≤ t → t ≤ l → l - t < n → f_M_column_11 K n t l w b l (nu p) (de p) F B = (f_M_column_51 K K l w b l (nu p) (de p) F B) ∨ (f_M_column_11 K n t l w b l (nu p) (de p) F B = some (l, F, B) ∧ ∃ j, s ≤ j ∧ j < l ∧ P j = p) := by
  intro n
  obtain ⟨⟨h1, h2, h3⟩, h4, h5⟩ := hC
  have np := nd_r p0 (by first | decide | omega)
  induction n with
  | zero => intro t _ _ hn; exfalso; omega
  | succ n ih =>
    intro t ts tl hn
    rw [f_M_column_11, if_pos (by unfold r32; omega), if_pos (by unfold r32; omega)]
    by_cases a : l ≤ t
    · rw [if_pos a]; exact Or.inl rfl
    · rw [if_neg a, if_pos w0, if_pos (by first | decide | omega)]
      obtain ⟨⟨k1, k2⟩, q0, q1⟩ := h4 t (by first | decide | omega) (by first | decide | omega)
      have nq := nd_r q0 (by first | decide | omega)
      have nx : ∀ {x : zO}, x = f_M_column_45 (f_M_column_11 K n) K t l w b l (nu p) (de p) F B → x = f_M_column_51 K K l w b l (nu p) (de p) F B ∨ (x = some (l, F, B) ∧ ∃ j, s ≤ j ∧ j < l ∧ P j = p) := fun e => by
        rw [e, f_M_column_45]
        exact ih (t + 1) (by first | decide | omega) (by first | decide | omega) (by first | decide | omega)
      rw [k1, k2, if_pos (by unfold r64; omega), if_pos (by unfold r64; omega)]
      by_cases y : nu (P t) = nu p
      · rw [if_pos (zcmp_0.mpr y), if_pos (by unfold r64; omega), if_pos (by unfold r64; omega)]
        by_cases z : de (P t) = de p
        · rw [if_pos (zcmp_0.mpr z)]
          exact Or.inr ⟨rfl, t, ts, (by first | decide | omega), nd_inj q0 p0 y z⟩
        · rw [if_neg (fun h => z (zcmp_0.mp h))]
          exact nx rfl
      · rw [if_neg (fun h => y (zcmp_0.mp h))]
        exact nx rfl
theorem s_column {K : Nat} {w b s l p T : Int} {P : Int → Int} {F : zF} {B : zB} (hKm : 812851200 < K) (w0 : 0 ≤ w ∧ w < 3) (b0 : 0 ≤ b ∧ b < 101) (hs : B 13 w 42 b = s) (T1 : T ≤ 1000000000000) (hC : CS w T s l P B) (l1 : l < 3200) (p0 : 0 ≤ p) (p1 : p < T) : ∃ r P' B', f_M_column K w b l (nu p) (de p) F B = some (r, F, B') ∧ (r = l ∨ r = l + 1) ∧ CZ w s B B' ∧ CS w T s r P' B' ∧ (∃ j, s ≤ j ∧ j < r ∧ P' j = p) ∧ (∀ j, s ≤ j → j < l → ∃ j', s ≤ j' ∧ j' < r ∧ P' j' = P j) ∧ (∀ j, 0 ≤ j → j < s → P' j = P j) := by
  have hC' := hC
  obtain ⟨⟨h1, h2, h3⟩, h4, h5⟩ := hC
  unfold f_M_column
  rw [if_pos w0, if_pos b0, hs]
  rcases s_col11 (K := K) (b := b) (F := F) w0 T1 hC' p0 p1 K s (Int.le_refl _) h2 (by first | decide | omega) with e | ⟨e, j, j0, j1, j2⟩
  · rw [e]
    obtain ⟨t, B', g1, g2, g3, g4, g5, g6, g7, g8, g9⟩ := s_col51 (K := K) (F := F) (P := P) hKm w0 b0 hs h1 l1 p0 (by first | decide | omega) (fun j a c => ⟨(h4 j a c).2.1, by have := (h4 j a c).2.2; omega⟩) K l B (fun _ _ _ _ _ => rfl) h2 (Int.le_refl _) (fun j a c => (h4 j a c).1) (fun j a c => (by first | decide | omega)) (fun j a c => (by first | decide | omega)) (by first | decide | omega)
    refine ⟨l + 1, fun j => if j < t then P j else if j = t then p else P (j - 1), B', g1, Or.inr rfl, g4, ⟨⟨h1, (by first | decide | omega), (by first | decide | omega)⟩, fun j a c => ?_, fun j a c => ?_⟩, ⟨t, g2, (by first | decide | omega), by show (if t < t then P t else if t = t then p else P (t - 1)) = p; rw [if_neg (by first | decide | omega), if_pos rfl]⟩, fun j a c => ?_, fun j a c => ?_⟩
    · show CP w B' j (if j < t then P j else if j = t then p else P (j - 1)) ∧ 0 ≤ (if j < t then P j else if j = t then p else P (j - 1)) ∧ (if j < t then P j else if j = t then p else P (j - 1)) < T
      by_cases x : j < t
      · rw [if_pos x]; exact ⟨g5 j a x, (h4 j a (by first | decide | omega)).2⟩
      · rw [if_neg x]
        by_cases y : j = t
        · rw [if_pos y, y]; exact ⟨g6, p0, p1⟩
        · rw [if_neg y]; exact ⟨g7 j (by first | decide | omega) (by first | decide | omega), (h4 (j - 1) (by first | decide | omega) (by first | decide | omega)).2⟩
    · show (if j < t then P j else if j = t then p else P (j - 1)) ≤ (if j + 1 < t then P (j + 1) else if j + 1 = t then p else P (j + 1 - 1))
      by_cases x : j + 1 < t
      · rw [if_pos (show j < t by omega), if_pos x]; exact h5 j a (by first | decide | omega)
      · rw [if_neg x]
        by_cases y : j + 1 = t
        · rw [if_pos (show j < t by omega), if_pos y]
          have := g8 (by first | decide | omega)
          rw [show t - 1 = j by omega] at this
          exact this
        · rw [if_neg y, if_neg (show ¬ j < t by omega), show j + 1 - 1 = j by omega]
          by_cases z : j = t
          · rw [if_pos z]
            have := g9 (by first | decide | omega)
            rw [← z] at this
            omega
          · rw [if_neg z]
            have := h5 (j - 1) (by first | decide | omega) (by first | decide | omega)
            rw [show j - 1 + 1 = j by omega] at this
            exact this
    · by_cases x : j < t
      · exact ⟨j, a, (by first | decide | omega), by show (if j < t then P j else if j = t then p else P (j - 1)) = P j; rw [if_pos x]⟩
      · exact ⟨j + 1, (by first | decide | omega), (by first | decide | omega), by show (if j + 1 < t then P (j + 1) else if j + 1 = t then p else P (j + 1 - 1)) = P j; rw [if_neg (by first | decide | omega), if_neg (by first | decide | omega), show j + 1 - 1 = j by omega]⟩
    · show (if j < t then P j else if j = t then p else P (j - 1)) = P j
      rw [if_pos (by first | decide | omega)]
  · exact ⟨l, P, B, e, Or.inl rfl, fun _ _ _ _ _ => rfl, hC', ⟨j, j0, j1, j2⟩, fun j a c => ⟨j, a, c, rfl⟩, fun _ _ _ => rfl⟩
end
end
section
section
/-! ===== how wide a column is, reference ===== -/
theorem s_wid134 {K : Nat} {V w b j d7 : Int} {F : zF} {B : zB} (hR : RDW V w F B) (hX : XS B) (hb : r32 b) (j0 : 0 ≤ j ∧ j < 3200) (j3 : (0 ≤ B 13 w 43 j ∧ B 13 w 43 j ≤ 1000000000000) ∧ (1 ≤ B 13 w 44 j ∧ B 13 w 44 j ≤ 812851200)) (d0 : 0 ≤ d7 ∧ d7 ≤ 9) {u : Int} (u0 : 0 ≤ u) (u1 : u < V) {rec : Int → Int → Int → Int → Int → Int → Int → zF → zB → zO} (hrec : ∀ f dt, (f = 0 ∨ f = 1) → 0 ≤ dt → dt ≤ 2 → zS (rec (u + 1) f dt d7 w b j F B) (fun r F' B' => F' = F ∧ B' = B ∧ 0 ≤ r ∧ r ≤ 100)) : ∀ (n : Nat) (i f dt : Int), (f = 0 ∨ f = 1) → 0 ≤ dt → dt ≤ 2 → 0 ≤ i → i ≤ B 13 w 13 u → B 13 w 13 u - i < n → zS (f_M_wide_134 rec K n i u f dt d7 w b j F B) (fun r F' B' => F' = F ∧ B' = B ∧ 0 ≤ r ∧ r ≤ 100) := by
  intro n
  induction n with
  | zero => intro i f dt hf t0 t1 i0 i1 hk; exfalso; omega
  | succ n ih =>
    intro i f dt hf t0 t1 i0 i1 hk
    have b0 := rd_0 hR
    have bb := (bar_v b0.2.2.2.1 (rd_5 hR)).2.2.1
    have bv := rd_v hR u0 u1
    rw [f_M_wide_134]
    refine zS_g (by first | decide | omega) ?_ -- 1
    refine zS_g (by first | decide | omega) ?_ -- 2
    refine zS_g (by unfold r32; omega) ?_ -- 3
    refine zS_g (by unfold r32; omega) ?_ -- 4
    refine zS_i (fun h1 => ?_) (fun h1 => ?_) -- 5: ((B 13 w 13 u) ≤ i)
    · exact hrec _ _ (by first | decide | omega) (by first | decide | omega) (by first | decide | omega) -- 6 rec
    · refine zS_g (by first | decide | omega) ?_ -- 7
      have a2 := rd_n (u := u) (y := ((800 * u) + i)) hR (by first | decide | omega) (by first | decide | omega) (by first | decide | omega) (by first | decide | omega)
      refine zS_g (by unfold r32; omega) ?_ -- 8
      refine zS_g (by unfold r32; omega) ?_ -- 9
      refine zS_i (fun h3 => ?_) (fun h3 => ?_) -- 10: ((B 13 w 31 ((800 * u) + i)) = b)
      · refine zS_g (by first | decide | omega) ?_ -- 11
        obtain ⟨p4, p4a, p4b, p4c⟩ := rd_q (u := u) (y := ((800 * u) + i)) hR (by first | decide | omega) (by first | decide | omega) (by first | decide | omega) (by first | decide | omega)
        have p4d := nd_r (p := p4) (by first | decide | omega) (by first | decide | omega)
        refine zS_g (by unfold r64; omega) ?_ -- 12
        refine zS_g (by unfold r64; omega) ?_ -- 13
        refine zS_i (fun h5 => ?_) (fun h5 => ?_) -- 14: ((zcmp (B 13 w 32 ((800 * u) + i)) (B 13 w 43 j)) = 0)
        · refine zS_g (by unfold r64; omega) ?_ -- 15
          refine zS_g (by unfold r64; omega) ?_ -- 16
          refine zS_i (fun h6 => ?_) (fun h6 => ?_) -- 17: ((zcmp (B 13 w 33 ((800 * u) + i)) (B 13 w 44 j)) = 0)
          · refine zS_g (by unfold r32; omega) ?_ -- 18
            refine zS_i (fun h7 => ?_) (fun h7 => ?_) -- 19: (f = 0)
            · have a8 := hX.2 w ((800 * u) + i)
              refine zS_g (by unfold r32; omega) ?_ -- 20
              refine zS_i (fun h9 => ?_) (fun h9 => ?_) -- 21: ((B 13 w 37 ((800 * u) + i)) ≤ 0)
              · unfold f_M_wide_225
                refine zS_g (by first | decide | omega) ?_ -- 23
                refine zS_g (by first | decide | omega) ?_ -- 24
                refine zS_g (by unfold r32; omega) ?_ -- 25
                refine zS_g (by unfold r32; omega) ?_ -- 26
                refine zS_i (fun h10 => ?_) (fun h10 => ?_) -- 27: ((B 13 w 35 ((800 * u) + i)) ≤ dt)
                · unfold f_M_wide_248
                  exact ih _ _ _ (by first | decide | omega) (by first | decide | omega) (by first | decide | omega) (by first | decide | omega) (by first | decide | omega) (by first | decide | omega) -- 29 f_M_wide_134
                · unfold f_M_wide_248
                  exact ih _ _ _ (by first | decide | omega) (by first | decide | omega) (by first | decide | omega) (by first | decide | omega) (by first | decide | omega) (by first | decide | omega) -- 31 f_M_wide_134
              · unfold f_M_wide_220
                unfold f_M_wide_225
                refine zS_g (by first | decide | omega) ?_ -- 34
                refine zS_g (by first | decide | omega) ?_ -- 35
                refine zS_g (by unfold r32; omega) ?_ -- 36
                refine zS_g (by unfold r32; omega) ?_ -- 37
                refine zS_i (fun h11 => ?_) (fun h11 => ?_) -- 38: ((B 13 w 35 ((800 * u) + i)) ≤ dt)
                · unfold f_M_wide_248
                  exact ih _ _ _ (by first | decide | omega) (by first | decide | omega) (by first | decide | omega) (by first | decide | omega) (by first | decide | omega) (by first | decide | omega) -- 40 f_M_wide_134
                · unfold f_M_wide_248
                  exact ih _ _ _ (by first | decide | omega) (by first | decide | omega) (by first | decide | omega) (by first | decide | omega) (by first | decide | omega) (by first | decide | omega) -- 42 f_M_wide_134
            · unfold f_M_wide_220
              unfold f_M_wide_225
              refine zS_g (by first | decide | omega) ?_ -- 45
              refine zS_g (by first | decide | omega) ?_ -- 46
              refine zS_g (by unfold r32; omega) ?_ -- 47
              refine zS_g (by unfold r32; omega) ?_ -- 48
              refine zS_i (fun h12 => ?_) (fun h12 => ?_) -- 49: ((B 13 w 35 ((800 * u) + i)) ≤ dt)
              · unfold f_M_wide_248
                exact ih _ _ _ (by first | decide | omega) (by first | decide | omega) (by first | decide | omega) (by first | decide | omega) (by first | decide | omega) (by first | decide | omega) -- 51 f_M_wide_134
              · unfold f_M_wide_248
                exact ih _ _ _ (by first | decide | omega) (by first | decide | omega) (by first | decide | omega) (by first | decide | omega) (by first | decide | omega) (by first | decide | omega) -- 53 f_M_wide_134
          · unfold f_M_wide_248
            exact ih _ _ _ (by first | decide | omega) (by first | decide | omega) (by first | decide | omega) (by first | decide | omega) (by first | decide | omega) (by first | decide | omega) -- 55 f_M_wide_134
        · unfold f_M_wide_248
          exact ih _ _ _ (by first | decide | omega) (by first | decide | omega) (by first | decide | omega) (by first | decide | omega) (by first | decide | omega) (by first | decide | omega) -- 57 f_M_wide_134
      · unfold f_M_wide_248
        exact ih _ _ _ (by first | decide | omega) (by first | decide | omega) (by first | decide | omega) (by first | decide | omega) (by first | decide | omega) (by first | decide | omega) -- 59 f_M_wide_134
theorem s_wid122 {K : Nat} {V w b j d7 : Int} {F : zF} {B : zB} (hR : RDW V w F B) (hX : XS B) (hb : r32 b) (j0 : 0 ≤ j ∧ j < 3200) (j3 : (0 ≤ B 13 w 43 j ∧ B 13 w 43 j ≤ 1000000000000) ∧ (1 ≤ B 13 w 44 j ∧ B 13 w 44 j ≤ 812851200)) (d0 : 0 ≤ d7 ∧ d7 ≤ 9) (hK : 1000 ≤ K) : ∀ (n : Nat) (u f dt : Int), (f = 0 ∨ f = 1) → 0 ≤ dt → dt ≤ 2 → 0 ≤ u → u ≤ V → V - u < n → zS (f_M_wide_122 K n u f dt d7 w b j F B) (fun r F' B' => F' = F ∧ B' = B ∧ 0 ≤ r ∧ r ≤ 100) := by
  intro n
  induction n with
  | zero => intro u f dt hf t0 t1 u0 u1 hk; exfalso; omega
  | succ n ih =>
    intro u f dt hf t0 t1 u0 u1 hk
    have b0 := rd_0 hR
    have bb := (bar_v b0.2.2.2.1 (rd_5 hR)).2.2.1
    rw [f_M_wide_122]
    refine zS_g (by first | decide | omega) ?_ -- 1
    refine zS_g (by unfold r32; omega) ?_ -- 2
    refine zS_g (by unfold r32; omega) ?_ -- 3
    refine zS_i (fun h1 => ?_) (fun h1 => ?_) -- 4: ((F 13 w 1) ≤ u)
    · refine zS_g (by unfold r32; omega) ?_ -- 5
      refine zS_i (fun h2 => ?_) (fun h2 => ?_) -- 6: (f = 0)
      · unfold f_M_wide_278
        exact zS_s ⟨rfl, rfl, (by first | decide | omega), (by first | decide | omega)⟩
      · unfold f_M_wide_278
        exact zS_s ⟨rfl, rfl, (by first | decide | omega), (by first | decide | omega)⟩
    · have bv := rd_v hR u0 (show u < V by omega)
      exact s_wid134 hR hX hb j0 j3 d0 u0 (by first | decide | omega) (fun f dt a b c => ih _ _ _ a b c (by first | decide | omega) (by first | decide | omega) (by first | decide | omega)) K 0 _ _ (by first | decide | omega) (by first | decide | omega) (by first | decide | omega) (by first | decide | omega) (by first | decide | omega) (by first | decide | omega) -- 11 f_M_wide_134
theorem toL_R (x : Int64) : r64 x.toInt := ⟨Int64.le_toInt _, Int.lt_of_le_of_lt (Int64.toInt_le x) (by decide)⟩
theorem zlshl_R (a b : Int) : r64 (zlshl a b) := toL_R _
theorem zlshl10 {a : Int} (h0 : 0 ≤ a) (h1 : a < 1099511627776) : zlshl a 10 = a * 1024 := by
  obtain ⟨n, rfl⟩ := Int.eq_ofNat_of_zero_le h0
  have k1 : (BitVec.ofInt 64 (n : Int)).toNat = n := by
    rw [BitVec.toNat_ofInt]
    show ((n : Int) % 18446744073709551616).toNat = n
    omega
  have e0 : (BitVec.ofInt 64 (n : Int) <<< (10 : Nat)).toNat = n * 1024 := by
    rw [BitVec.toNat_shiftLeft, k1, Nat.shiftLeft_eq]
    show n * 1024 % 18446744073709551616 = n * 1024
    omega
  show (BitVec.ofInt 64 (n : Int) <<< (10 : Nat)).toInt = _
  rw [BitVec.toInt_eq_toNat_of_lt (by rw [e0]; omega), e0]
  omega
theorem barV_6 {n d : Int} (hn : 1 ≤ n ∧ n ≤ 12) (hd : d = 2 ∨ d = 4 ∨ d = 8 ∨ d = 16) : barV n d ≤ 4877107200 := by
  unfold barV
  rcases hd with rfl | rfl | rfl | rfl
  · rw [show (812851200 : Int) / 2 = 406425600 by decide]; omega
  · rw [show (812851200 : Int) / 4 = 203212800 by decide]; omega
  · rw [show (812851200 : Int) / 8 = 101606400 by decide]; omega
  · rw [show (812851200 : Int) / 16 = 50803200 by decide]; omega
/-- only the fraction at hand changes -/
def CG (F F' : zF) : Prop := ∀ c i k, ¬ (c = 14 ∧ i = 0 ∧ k ≤ 1) → F' c i k = F c i k
theorem CG_t {F F1 F2 : zF} (h : CG F F1) (h' : CG F1 F2) : CG F F2 := fun c i k n => by rw [h' c i k n, h c i k n]
theorem RDW_g {V w : Int} {F F' : zF} {B : zB} (h : RDW V w F B) (g : CG F F') : RDW V w F' B := RDW_f h (fun k _ _ => g 13 w k (by first | decide | omega)) (fun _ _ _ _ => rfl)
theorem s_wid92 {K : Nat} {V w b j D : Int} {F : zF} {B : zB} (hK : 1000 ≤ K) (hR : RDW V w F B) (hX : XS B) (hb : r32 b) (j0 : 0 ≤ j ∧ j < 3200) (j3 : (0 ≤ B 13 w 43 j ∧ B 13 w 43 j ≤ 1000000000000) ∧ (1 ≤ B 13 w 44 j ∧ B 13 w 44 j ≤ 812851200)) (D0 : 0 ≤ D) (D1 : D ≤ 4877107200) (e1 : F 14 0 1 = de D) : ∀ (n : Nat) (k : Int), 0 ≤ k → k ≤ 9 → 9 - k < n → zS (f_M_wide_92 K n k (128 * nu D) w b j F B) (fun r F' B' => F' = F ∧ B' = B ∧ 0 ≤ r ∧ r ≤ 100) := by
  have nr := nd_r D0 (by first | decide | omega)
  intro n
  induction n with
  | zero => intro k _ _ hk; exfalso; omega
  | succ n ih =>
    intro k k0 k1 hk
    rw [f_M_wide_92]
    refine zS_g (by unfold r64; omega) ?_
    refine zS_g (zlshl_R _ _) ?_
    refine zS_i (fun h => ?_) (fun h => ?_)
    · exact s_wid122 hR hX hb j0 j3 ⟨k0, k1⟩ hK K 0 0 0 (Or.inl rfl) (by decide) (by decide) (by decide) (by have := rd_0 hR; omega) (by have := rd_0 hR; omega)
    · by_cases z : k = 9
      · exfalso
        apply h
        rw [z, e1, show (9 : Int) + 1 = 10 by decide, zlshl10 (by first | decide | omega) (by first | decide | omega), zcmp_lt]
        obtain ⟨f0, _, _, f1⟩ := FR_r D0
        have hw : WW = 812851200 := rfl
        have : D * de D ≤ 4877107200 * de D := Int.mul_le_mul_of_nonneg_right D1 (by first | decide | omega)
        rw [hw] at f1
        omega
      · exact ih (k + 1) (by first | decide | omega) (by first | decide | omega) (by first | decide | omega)
theorem s_wid64 {K : Nat} {V w b j a c p q : Int} {F : zF} {B : zB} (hK : 812851200 < K) (hR : RDW V w F B) (hX : XS B) (hb : r32 b) (j0 : 0 ≤ j ∧ j < 3200) (hf : FR a c p) (hq : CP w B j q) (q0 : 0 ≤ q) (q1 : q ≤ p) (p1 : p ≤ 4877107200) : ∃ r F', f_M_wide_64 K w b j a c F B = some (r, F', B) ∧ CG F F' ∧ 0 ≤ r ∧ r ≤ 100 := by
  have nr := nd_r q0 (by first | decide | omega)
  have b0 := rd_0 hR
  unfold f_M_wide_64
  rw [if_pos b0.1, if_pos j0, hq.1, hq.2, L_minusR hK hf (FR_r q0) q1 (by first | decide | omega), zb_s, fr_0]
  obtain ⟨r, F', B', e, rfl, rfl, h⟩ := s_wid92 (K := K) (D := p - q) (by first | decide | omega) (RDW_fr (p := p - q) hR) hX hb j0 (by rw [hq.1, hq.2]; exact nr) (by first | decide | omega) (by first | decide | omega) fr_1 K 0 (by decide) (by decide) (by first | decide | omega)
  exact ⟨r, _, e, fun c i k n => fr_n n, h⟩
theorem s_wide {K : Nat} {V w b j e : Int} {P : Int → Int} {F : zF} {B : zB} (hK : 812851200 < K) (hR : RDW V w F B) (hX : XS B) (b1 : 0 ≤ b ∧ b < 100) (he : B 13 w 42 (b + 1) = e) (j0 : 0 ≤ j) (j1 : j < e) (e1 : e ≤ 3200) (hP : ∀ t, j ≤ t → t < e → CP w B t (P t) ∧ 0 ≤ P t ∧ P t < barV (F 13 w 4) (F 13 w 5)) (hs : j + 1 < e → P j ≤ P (j + 1)) : ∃ r F', f_M_wide K w b j F B = some (r, F', B) ∧ CG F F' ∧ 0 ≤ r ∧ r ≤ 100 := by
  have b0 := rd_0 hR
  have b6 := barV_6 b0.2.2.2.1 (rd_5 hR)
  have bv := bar_v b0.2.2.2.1 (rd_5 hR)
  obtain ⟨k1, k2, k3⟩ := hP j (Int.le_refl _) j1
  have r4 : r32 (F 13 w 4) := by unfold r32; omega
  have r5 : r32 (F 13 w 5) := by unfold r32; omega
  unfold f_M_wide
  rw [if_pos b0.1, if_pos (by first | decide | omega), if_pos (by unfold r32; omega), he, if_pos (by unfold r32; omega)]
  by_cases z : j + 1 = e
  · rw [if_pos z]
    unfold f_M_wide_19
    rw [if_pos (by decide), if_neg (by decide), if_pos b0.1, if_pos r4]
    unfold f_M_wide_43
    rw [if_pos (by decide), if_neg (by decide), if_pos b0.1, if_pos r5]
    exact s_wid64 hK hR hX (by unfold r32; omega) (by first | decide | omega) bv.1 k1 k2 (by first | decide | omega) b6
  · rw [if_neg z]
    unfold f_M_wide_19
    rw [if_pos (by decide), if_pos rfl, if_pos b0.1, if_pos (by first | decide | omega)]
    unfold f_M_wide_43
    rw [if_pos (by decide), if_pos rfl, if_pos b0.1, if_pos (by first | decide | omega)]
    obtain ⟨q1, q2, q3⟩ := hP (j + 1) (by first | decide | omega) (by first | decide | omega)
    rw [q1.1, q1.2]
    exact s_wid64 hK hR hX (by unfold r32; omega) (by first | decide | omega) (FR_r q2) k1 k2 (hs (by first | decide | omega)) (by first | decide | omega)
end
end
section
section
/-! ===== the columns of a read piece, reference ===== -/
def XC (B : zB) : Prop := ∀ i x, (0 ≤ B 13 i 42 x ∧ B 13 i 42 x ≤ 3200) ∧ (0 ≤ B 13 i 45 x ∧ B 13 i 45 x ≤ 100) ∧ (0 ≤ B 13 i 46 x ∧ B 13 i 46 x ≤ 400000)
def CQ (w : Int) (B B' : zB) : Prop := XC B' ∧ ∀ c i k x, ¬ (c = 13 ∧ i = w ∧ 42 ≤ k ∧ k ≤ 46) → B' c i k x = B c i k x
theorem XC_z {w s : Int} {B B' : zB} (h : XC B) (z : CZ w s B B') : XC B' := fun i x => by
  rw [z 13 i 42 x (by first | decide | omega), z 13 i 45 x (by first | decide | omega), z 13 i 46 x (by first | decide | omega)]
  exact h i x
theorem XC_u {i j v : Int} {k : Nat} {B : zB} (h : XC B) (hv : (k = 42 ∧ 0 ≤ v ∧ v ≤ 3200) ∨ (k = 45 ∧ 0 ≤ v ∧ v ≤ 100) ∨ (k = 46 ∧ 0 ≤ v ∧ v ≤ 400000)) : XC (zup4 B 13 i k j v) := fun i' x => by
  have := h i' x
  rw [zup4_v, zup4_v, zup4_v]
  refine ⟨?_, ?_, ?_⟩
  · split
    · omega
    · omega
  · split
    · omega
    · omega
  · split
    · omega
    · omega
theorem CQ_r {w : Int} {B : zB} (h : XC B) : CQ w B B := ⟨h, fun _ _ _ _ _ => rfl⟩
theorem CQ_z {w s : Int} {B0 B B' : zB} (h : CQ w B0 B) (z : CZ w s B B') : CQ w B0 B' := ⟨XC_z h.1 z, fun c i k x n => by rw [z c i k x (by first | decide | omega), h.2 c i k x n]⟩
theorem CQ_u {w j v : Int} {k : Nat} {B0 B : zB} (h : CQ w B0 B) (hv : (k = 42 ∧ 0 ≤ v ∧ v ≤ 3200) ∨ (k = 45 ∧ 0 ≤ v ∧ v ≤ 100) ∨ (k = 46 ∧ 0 ≤ v ∧ v ≤ 400000)) : CQ w B0 (zup4 B 13 w k j v) := ⟨XC_u h.1 hv, fun c i k' x n => by rw [zup4_v, if_neg (by first | decide | omega), h.2 c i k' x n]⟩
theorem XS_f {B B' : zB} (h : XS B) (f : ∀ i k x, 36 ≤ k → k ≤ 41 → B' 13 i k x = B 13 i k x) (g : ∀ x, B' 14 0 58 x = B 14 0 58 x) : XS B' := ⟨fun s => by rw [g]; exact h.1 s, fun i x => by rw [f i 36 x (by decide) (by decide), f i 37 x (by decide) (by decide), f i 38 x (by decide) (by decide), f i 39 x (by decide) (by decide), f i 40 x (by decide) (by decide), f i 41 x (by decide) (by decide)]; exact h.2 i x⟩
theorem RDW_c {V w : Int} {F : zF} {B B' : zB} (h : RDW V w F B) (q : CQ w B B') : RDW V w F B' := RDW_f h (fun _ _ _ => rfl) (fun k x _ h' => q.2 13 w k x (by first | decide | omega))
theorem XS_c {w : Int} {B B' : zB} (h : XS B) (q : CQ w B B') : XS B' := XS_f h (fun i k x h1 h2 => q.2 13 i k x (by first | decide | omega)) (fun x => q.2 14 0 58 x (by first | decide | omega))
/-- notes counted: those of earlier bars, and those of this bar seen so far -/
def qn (V w : Int) (B : zB) (b u i : Int) (y : Nat) : Bool := decide (((y : Int) / 800 < V ∧ (y : Int) % 800 < B 13 w 13 ((y : Int) / 800)) ∧ (B 13 w 31 (y : Int) < b ∨ (B 13 w 31 (y : Int) = b ∧ (y : Int) < 800 * u + i)))
/-- the notes of this bar seen so far have their columns -/
def CBn (V w b s l u i : Int) (P : Int → Int) (B : zB) : Prop := ∀ u' y, 0 ≤ u' → u' < V → 800 * u' ≤ y → y < 800 * u' + B 13 w 13 u' → B 13 w 31 y = b → y < 800 * u + i → ∃ j, s ≤ j ∧ j < l ∧ nu (P j) = B 13 w 32 y ∧ de (P j) = B 13 w 33 y
/-- the bars so far have theirs -/
def CDn (V w b l : Int) (B : zB) : Prop := (∀ t, 0 ≤ t → t < b → 0 ≤ B 13 w 42 t ∧ B 13 w 42 t ≤ B 13 w 42 (t + 1) ∧ B 13 w 42 (t + 1) ≤ l) ∧ ∀ u y, 0 ≤ u → u < V → 800 * u ≤ y → y < 800 * u + B 13 w 13 u → 0 ≤ B 13 w 31 y → B 13 w 31 y < b → ∃ j, B 13 w 42 (B 13 w 31 y) ≤ j ∧ j < B 13 w 42 (B 13 w 31 y + 1) ∧ B 13 w 43 j = B 13 w 32 y ∧ B 13 w 44 j = B 13 w 33 y
theorem CDn_f {V w b l : Int} {B B' : zB} (h : CDn V w b l B) (r : ∀ k x, (k = 13 ∨ k = 31 ∨ k = 32 ∨ k = 33) → B' 13 w k x = B 13 w k x) (a : ∀ t, 0 ≤ t → t ≤ b → B' 13 w 42 t = B 13 w 42 t) (p : ∀ j, 0 ≤ j → j < l → B' 13 w 43 j = B 13 w 43 j ∧ B' 13 w 44 j = B 13 w 44 j) : CDn V w b l B' := by
  refine ⟨fun t t0 t1 => by rw [a t t0 (by first | decide | omega), a (t + 1) (by first | decide | omega) (by first | decide | omega)]; exact h.1 t t0 t1, fun u y u0 u1 y0 y1 z0 z1 => ?_⟩
  rw [r 31 y (by first | decide | omega)] at z0 z1
  rw [r 13 u (by first | decide | omega)] at y1
  have s := h.1 _ z0 z1
  obtain ⟨j, j0, j1, j2, j3⟩ := h.2 u y u0 u1 y0 y1 z0 z1
  refine ⟨j, ?_, ?_, ?_, ?_⟩
  · rw [r 31 y (by first | decide | omega), a _ z0 (by first | decide | omega)]; exact j0
  · rw [r 31 y (by first | decide | omega), a _ (by first | decide | omega) (by first | decide | omega)]; exact j1
  · rw [r 32 y (by first | decide | omega), (p j (by first | decide | omega) (by first | decide | omega)).1]; exact j2
  · rw [r 33 y (by first | decide | omega), (p j (by first | decide | omega) (by first | decide | omega)).2]; exact j3
/-- the widths of a bar's columns -/
theorem s_cl127 {K : Nat} {V w b s e : Int} {P : Int → Int} {F1 : zF} {B1 : zB} {rec : Int → Int → Int → zF → zB → zO} {Q : Int → zF → zB → Prop} (hK : 812851200 < K) (hR : RDW V w F1 B1) (hX : XS B1) (b1 : 0 ≤ b ∧ b < 100) (he : B1 13 w 42 (b + 1) = e) (s0 : 0 ≤ s) (e1 : e ≤ 3200) (hP : ∀ t, s ≤ t → t < e → CP w B1 t (P t) ∧ 0 ≤ P t ∧ P t < barV (F1 13 w 4) (F1 13 w 5)) (hs : ∀ j, s ≤ j → j + 1 < e → P j ≤ P (j + 1)) (hrec : ∀ F B, CG F1 F → (∀ c i k x, ¬ (c = 13 ∧ i = w ∧ (k = 45 ∨ k = 46)) → B c i k x = B1 c i k x) → XC B → zS (rec (b + 1) e w F B) Q) : ∀ (n : Nat) (j : Int) (F : zF) (B : zB), CG F1 F → (∀ c i k x, ¬ (c = 13 ∧ i = w ∧ (k = 45 ∨ k = 46)) → B c i k x = B1 c i k x) → XC B → B 13 w 46 b ≤ 6 + 100 * (j - s) → s ≤ j → j ≤ e → e - j < n → zS (f_M_columns_127 rec K n j b e w F B) Q := by
  have b0 := rd_0 hR
  intro n
  induction n with
  | zero => intro j F B _ _ _ _ _ _ hn; exfalso; omega
  | succ n ih =>
    intro j F B g f x h46 j0 j1 hn
    rw [f_M_columns_127]
    refine zS_g (by unfold r32; omega) ?_
    refine zS_g (by unfold r32; omega) ?_
    refine zS_i (fun h => ?_) (fun h => ?_)
    · exact hrec F B g f x
    · refine zS_g b0.1 ?_
      have hR' : RDW V w F B := RDW_f hR (fun k _ _ => g 13 w k (by first | decide | omega)) (fun k x _ h' => f 13 w k x (by first | decide | omega))
      have hX' : XS B := XS_f hX (fun i k x h1 h2 => f 13 i k x (by first | decide | omega)) (fun x => f 14 0 58 x (by first | decide | omega))
      obtain ⟨r, F', e', g', r0, r1⟩ := s_wide (K := K) (P := P) (e := e) (j := j) hK hR' hX' b1 (by rw [f 13 w 42 _ (by first | decide | omega)]; exact he) (by first | decide | omega) (by first | decide | omega) e1 (fun t t0 t1 => by
        obtain ⟨k1, k2, k3⟩ := hP t (by first | decide | omega) t1
        unfold CP at k1 ⊢
        rw [f 13 w 43 t (by first | decide | omega), f 13 w 44 t (by first | decide | omega), g 13 w 4 (by first | decide | omega), g 13 w 5 (by first | decide | omega)]
        exact ⟨k1, k2, k3⟩) (hs j j0)
      rw [e', zb_s]
      refine zS_g (by first | decide | omega) ?_
      refine zS_g b1 ?_
      have v1 : (zup4 B 13 w 45 j r) 13 w 46 b = B 13 w 46 b := by rw [zup4_v, if_neg (by first | decide | omega)]
      have v2 : (zup4 B 13 w 45 j r) 13 w 45 j = r := by rw [zup4_v, if_pos (by first | decide | omega)]
      rw [v1, v2]
      have x46 := (x w b).2.2
      exact ih (j + 1) F' _ (CG_t g g') (fun c i k y nn => by rw [zup4_v, if_neg (by first | decide | omega), zup4_v, if_neg (by first | decide | omega)]; exact f c i k y nn) (XC_u (XC_u x (Or.inr (Or.inl ⟨rfl, r0, r1⟩))) (Or.inr (Or.inr ⟨rfl, (by first | decide | omega), (by first | decide | omega)⟩))) (by rw [zup4_v, if_pos (by first | decide | omega)]; omega) (by first | decide | omega) (by first | decide | omega) (by first | decide | omega)
/-- within a bar -/
def CB1 (V w T b s l u i : Int) (P : Int → Int) (B0 B : zB) : Prop := CQ w B0 B ∧ B 13 w 42 b = s ∧ CS w T s l P B ∧ l ≤ (cn (qn V w B0 b u i) 3200 : Nat) ∧ CDn V w b s B ∧ CBn V w b s l u i P B
theorem s_cl34 {K : Nat} {V w T b s u : Int} {F : zF} {B0 : zB} {rec4 : Int → Int → Int → zF → zB → zO} {rec : Int → Int → Int → Int → zF → zB → zO} {Q : Int → zF → zB → Prop} (hK : 812851200 < K) (hR0 : RDW V w F B0) (hT : T = barV (F 13 w 4) (F 13 w 5)) (b1 : 0 ≤ b ∧ b < 100) (u0 : 0 ≤ u) (u1 : u < V) (hrec : ∀ l P B, CB1 V w T b s l (u + 1) 0 P B0 B → zS (rec (u + 1) b l w F B) Q) : ∀ (n : Nat) (i l : Int) (P : Int → Int) (B : zB), CB1 V w T b s l u i P B0 B → 0 ≤ i → i ≤ B0 13 w 13 u → B0 13 w 13 u - i < n → zS (f_M_columns_34 rec4 rec K n i u b l w F B) Q := by
  have b0 := rd_0 hR0
  have bv := rd_v hR0 u0 u1
  have b6 := barV_6 b0.2.2.2.1 (rd_5 hR0)
  intro n
  induction n with
  | zero => intro i l P B _ _ _ hn; exfalso; omega
  | succ n ih =>
    intro i l P B h i0 i1 hn
    have h' := h
    obtain ⟨q, h42, hC, hc, hD, hN⟩ := h
    have e13 := q.2 13 w 13 u (by first | decide | omega)
    have cl := cn_le (qn V w B0 b u i) 3200
    have hCb := hC.1
    rw [f_M_columns_34]
    refine zS_g b0.1 ?_
    refine zS_g (by first | decide | omega) ?_
    refine zS_g (by unfold r32; omega) ?_
    refine zS_g (by unfold r32; omega) ?_
    refine zS_i (fun a => ?_) (fun a => ?_)
    · refine hrec l P B ⟨q, h42, hC, ?_, hD, fun u' y a0 a1 a2 a3 a4 a5 => hN u' y a0 a1 a2 a3 a4 ?_⟩
      · have := cn_mono (q := qn V w B0 b u i) (q' := qn V w B0 b (u + 1) 0) 3200 (fun y _ hy => by
          simp only [qn, decide_eq_true_eq] at hy ⊢
          omega)
        omega
      · by_cases z : u' = u
        · subst z; omega
        · have := rd_v hR0 a0 a1
          have := q.2 13 w 13 u' (by first | decide | omega)
          omega
    · have y0 : 800 * u ≤ 800 * u + i := by omega
      have e31 := q.2 13 w 31 (800 * u + i) (by first | decide | omega)
      have e32 := q.2 13 w 32 (800 * u + i) (by first | decide | omega)
      have e33 := q.2 13 w 33 (800 * u + i) (by first | decide | omega)
      have nn := rd_n (y := 800 * u + i) hR0 u0 u1 y0 (by first | decide | omega)
      obtain ⟨p, ⟨p0, p1⟩, p2, p3⟩ := rd_q (y := 800 * u + i) hR0 u0 u1 y0 (by first | decide | omega)
      refine zS_g (by first | decide | omega) ?_
      refine zS_g (by unfold r32; omega) ?_
      refine zS_g (by unfold r32; omega) ?_
      refine zS_i (fun z => ?_) (fun z => ?_)
      · -- a note of this bar
        obtain ⟨Y, hY⟩ : ∃ Y : Nat, (Y : Int) = 800 * u + i := ⟨(800 * u + i).toNat, (by first | decide | omega)⟩
        have st := cn_lt (q := qn V w B0 b u i) (q' := qn V w B0 b u (i + 1)) (y0 := Y) (by
          simp only [qn, decide_eq_true_eq]
          rw [hY]
          omega) (by
          simp only [qn, decide_eq_true_eq]
          rw [hY, show (800 * u + i) / 800 = u by omega, show (800 * u + i) % 800 = i by omega]
          omega) 3200 (by first | decide | omega) (fun y _ hy => by
          simp only [qn, decide_eq_true_eq] at hy ⊢
          omega)
        have st2 := cn_le (qn V w B0 b u (i + 1)) 3200
        obtain ⟨r, P', B', c1, c2, c3, c4, ⟨jn, c5, c6, c7⟩, c8, c9⟩ := s_column (K := K) (P := P) (F := F) (B := B) (T := T) hK b0.1 (by first | decide | omega) h42 (by first | decide | omega) hC (by first | decide | omega) p0 (by first | decide | omega)
        rw [e32, e33, p2, p3, c1, zb_s, f_M_columns_90]
        refine ih (i + 1) r P' B' ⟨CQ_z q c3, by rw [c3 13 w 42 b (by first | decide | omega)]; exact h42, c4, (by first | decide | omega), CDn_f hD (fun k x hk => c3 13 w k x (by first | decide | omega)) (fun t _ _ => c3 13 w 42 t (by first | decide | omega)) (fun j j0 j1 => ⟨c3 13 w 43 j (by first | decide | omega), c3 13 w 44 j (by first | decide | omega)⟩), fun u' y a0 a1 a2 a3 a4 a5 => ?_⟩ (by first | decide | omega) (by first | decide | omega) (by first | decide | omega)
        rw [c3 13 w 13 u' (by first | decide | omega)] at a3
        rw [c3 13 w 31 y (by first | decide | omega)] at a4
        rw [c3 13 w 32 y (by first | decide | omega), c3 13 w 33 y (by first | decide | omega)]
        by_cases e : y = 800 * u + i
        · exact ⟨jn, c5, c6, by rw [c7, e, e32, p2], by rw [c7, e, e33, p3]⟩
        · obtain ⟨j, j0, j1, j2, j3⟩ := hN u' y a0 a1 a2 a3 a4 (by first | decide | omega)
          obtain ⟨j', k0, k1, k2⟩ := c8 j j0 j1
          exact ⟨j', k0, k1, by rw [k2]; exact j2, by rw [k2]; exact j3⟩
      · rw [f_M_columns_90]
        refine ih (i + 1) l P B ⟨q, h42, hC, ?_, hD, fun u' y a0 a1 a2 a3 a4 a5 => hN u' y a0 a1 a2 a3 a4 ?_⟩ (by first | decide | omega) (by first | decide | omega) (by first | decide | omega)
        · have := cn_mono (q := qn V w B0 b u i) (q' := qn V w B0 b u (i + 1)) 3200 (fun y _ hy => by
            simp only [qn, decide_eq_true_eq] at hy ⊢
            omega)
          omega
        · by_cases e : y = 800 * u + i
          · rw [e] at a4
            exact absurd a4 z
          · omega
/-- behind a bar -/
def CE1 (V w T b l : Int) (F0 F : zF) (B0 B : zB) : Prop := CG F0 F ∧ CQ w B0 B ∧ (0 ≤ l ∧ l ≤ (cn (qn V w B0 b 0 0) 3200 : Nat)) ∧ (∃ P : Int → Int, ∀ j, 0 ≤ j → j < l → CP w B j (P j) ∧ 0 ≤ P j ∧ P j < T) ∧ CDn V w b l B
theorem s_cl22 {K : Nat} {V w T b s : Int} {F0 F : zF} {B0 : zB} {rec : Int → Int → Int → zF → zB → zO} {Q : Int → zF → zB → Prop} (hK : 812851200 < K) (hR0 : RDW V w F B0) (hX0 : XS B0) (hg : CG F0 F) (hT : T = barV (F 13 w 4) (F 13 w 5)) (b1 : 0 ≤ b ∧ b < 100) (hrec : ∀ l F' B', CE1 V w T (b + 1) l F0 F' B0 B' → zS (rec (b + 1) l w F' B') Q) : ∀ (n : Nat) (u l : Int) (P : Int → Int) (B : zB), CB1 V w T b s l u 0 P B0 B → 0 ≤ u → u ≤ V → V - u < n → zS (f_M_columns_22 rec K n u b l w F B) Q := by
  have b0 := rd_0 hR0
  intro n
  induction n with
  | zero => intro u l P B _ _ _ hn; exfalso; omega
  | succ n ih =>
    intro u l P B h u0 u1 hn
    rw [f_M_columns_22]
    refine zS_g b0.1 ?_
    refine zS_g (by unfold r32; omega) ?_
    refine zS_g (by unfold r32; omega) ?_
    refine zS_i (fun a => ?_) (fun a => ?_)
    · obtain ⟨q, h42, hC, hc, hD, hN⟩ := h
      obtain rfl : u = V := by omega
      obtain ⟨⟨c1, c2, c3⟩, c4, c5⟩ := hC
      refine zS_g (by first | decide | omega) ?_
      refine zS_g b1 ?_
      refine zS_g (by first | decide | omega) ?_
      generalize hB1 : zup4 (zup4 B 13 w 42 (b + 1) l) 13 w 46 b 6 = B1
      have n1 : ∀ c i k x, ¬ (c = 13 ∧ i = w ∧ k = 42 ∧ x = b + 1) → ¬ (c = 13 ∧ i = w ∧ k = 46) → B1 c i k x = B c i k x := fun c i k x a1 a2 => by rw [← hB1, zup4_v, if_neg (by first | decide | omega), zup4_v, if_neg (by first | decide | omega)]
      have v1 : B1 13 w 42 (b + 1) = l := by rw [← hB1, zup4_v, if_neg (by first | decide | omega), zup4_v, if_pos (by first | decide | omega)]
      have v2 : B1 13 w 42 b = s := by rw [n1 13 w 42 b (by first | decide | omega) (by first | decide | omega)]; exact h42
      have v3 : B1 13 w 46 b = 6 := by rw [← hB1, zup4_v, if_pos (by first | decide | omega)]
      have q1 : CQ w B0 B1 := by
        rw [← hB1]
        exact CQ_u (CQ_u q (Or.inl ⟨rfl, (by first | decide | omega), (by first | decide | omega)⟩)) (Or.inr (Or.inr ⟨rfl, by decide, by decide⟩))
      have hR1 := RDW_c hR0 q1
      have hX1 := XS_c hX0 q1
      rw [v2]
      refine s_cl127 (P := P) (s := s) hK hR1 hX1 b1 v1 c1 c3 (fun t t0 t1 => ?_) c5 (fun F' B' g f x => ?_) K s F B1 (fun _ _ _ _ => rfl) (fun _ _ _ _ _ => rfl) q1.1 (by first | decide | omega) (Int.le_refl _) c2 (by first | decide | omega)
      · obtain ⟨k1, k2, k3⟩ := c4 t (by first | decide | omega) t1
        unfold CP at k1 ⊢
        rw [n1 13 w 43 t (by first | decide | omega) (by first | decide | omega), n1 13 w 44 t (by first | decide | omega) (by first | decide | omega), ← hT]
        exact ⟨k1, k2, k3⟩
      · -- the bar is done
        have ff : ∀ k x, ¬ (k = 45 ∨ k = 46) → ¬ (k = 42 ∧ x = b + 1) → B' 13 w k x = B 13 w k x := fun k x a1 a2 => by rw [f 13 w k x (by first | decide | omega), n1 13 w k x (by first | decide | omega) (by first | decide | omega)]
        refine hrec l F' B' ⟨CG_t hg g, ⟨x, fun c i k y nn => by rw [f c i k y (by first | decide | omega), q1.2 c i k y nn]⟩, ⟨(by first | decide | omega), ?_⟩, ⟨P, fun j j0 j1 => ?_⟩, fun t t0 t1 => ?_, fun u' y a0 a1 a2 a3 a4 a5 => ?_⟩
        · have := cn_mono (q := qn u w B0 b u 0) (q' := qn u w B0 (b + 1) 0 0) 3200 (fun y _ hy => by
            simp only [qn, decide_eq_true_eq] at hy ⊢
            omega)
          omega
        · obtain ⟨k1, k2, k3⟩ := c4 j (by first | decide | omega) j1
          unfold CP at k1 ⊢
          rw [ff 43 j (by first | decide | omega) (by first | decide | omega), ff 44 j (by first | decide | omega) (by first | decide | omega)]
          exact ⟨k1, k2, k3⟩
        · by_cases e : t = b
          · subst e
            rw [ff 42 t (by first | decide | omega) (by first | decide | omega), f 13 w 42 (t + 1) (by first | decide | omega), v1, h42]
            omega
          · have := hD.1 t t0 (by first | decide | omega)
            rw [ff 42 t (by first | decide | omega) (by first | decide | omega), ff 42 (t + 1) (by first | decide | omega) (by first | decide | omega)]
            omega
        · rw [ff 31 y (by first | decide | omega) (by first | decide | omega)] at a4 a5 ⊢
          rw [ff 13 u' (by first | decide | omega) (by first | decide | omega)] at a3
          rw [ff 32 y (by first | decide | omega) (by first | decide | omega), ff 33 y (by first | decide | omega) (by first | decide | omega)]
          by_cases e : B 13 w 31 y = b
          · have := rd_v hR0 a0 a1
            have := q.2 13 w 13 u' (by first | decide | omega)
            obtain ⟨j, j0, j1, j2, j3⟩ := hN u' y a0 a1 a2 a3 e (by first | decide | omega)
            refine ⟨j, ?_, ?_, ?_, ?_⟩
            · rw [e, ff 42 b (by first | decide | omega) (by first | decide | omega), h42]; exact j0
            · rw [e, f 13 w 42 (b + 1) (by first | decide | omega), v1]; exact j1
            · rw [ff 43 j (by first | decide | omega) (by first | decide | omega), (c4 j (by first | decide | omega) j1).1.1]; exact j2
            · rw [ff 44 j (by first | decide | omega) (by first | decide | omega), (c4 j (by first | decide | omega) j1).1.2]; exact j3
          · obtain ⟨j, j0, j1, j2, j3⟩ := hD.2 u' y a0 a1 a2 a3 a4 (by first | decide | omega)
            refine ⟨j, ?_, ?_, ?_, ?_⟩
            · rw [ff 42 _ (by first | decide | omega) (by first | decide | omega)]; exact j0
            · rw [ff 42 _ (by first | decide | omega) (by first | decide | omega)]; exact j1
            · rw [ff 43 j (by first | decide | omega) (by first | decide | omega)]; exact j2
            · rw [ff 44 j (by first | decide | omega) (by first | decide | omega)]; exact j3
    · have bv := rd_v hR0 u0 (show u < V by omega)
      exact s_cl34 hK hR0 hT b1 u0 (by first | decide | omega) (fun l P B h => ih (u + 1) l P B h (by first | decide | omega) (by first | decide | omega) (by first | decide | omega)) K 0 l P B h (by first | decide | omega) (by first | decide | omega) (by first | decide | omega)
/-- the columns, and every column's place a number -/
def CDm (V w b l : Int) (B : zB) : Prop := CDn V w b l B ∧ ∀ t j, 0 ≤ t → t < b → 0 ≤ j → j < B 13 w 42 (t + 1) → r64 (B 13 w 43 j) ∧ r64 (B 13 w 44 j)
theorem CP_64 {w j p : Int} {B : zB} (h : CP w B j p) (p0 : 0 ≤ p ∧ p ≤ 1000000000000) : r64 (B 13 w 43 j) ∧ r64 (B 13 w 44 j) := by
  have g := gc_pos (a := p) (b := WW) (by decide)
  have q1 : 0 ≤ p / gc p WW := Int.ediv_nonneg p0.1 (by first | decide | omega)
  have q2 : p / gc p WW ≤ p := Int.ediv_le_self _ p0.1
  have q3 : 0 ≤ WW / gc p WW := Int.ediv_nonneg (by decide) (by first | decide | omega)
  have q4 : WW / gc p WW ≤ WW := Int.ediv_le_self _ (by decide)
  have e : WW = 812851200 := rfl
  rw [h.1, h.2]
  unfold nu de r64
  omega
theorem s_cl4 {K : Nat} {V w T : Int} {F0 : zF} {B0 : zB} (hK : 812851200 < K) (hR0 : RDW V w F0 B0) (hX0 : XS B0) (hT : T = barV (F0 13 w 4) (F0 13 w 5)) : ∀ (n : Nat) (b l : Int) (F : zF) (B : zB), CE1 V w T b l F0 F B0 B → 0 ≤ b → b ≤ F0 13 w 7 → F0 13 w 7 - b < n → zS (f_M_columns_4 K n b l w F B) (fun _ F' B' => CG F0 F' ∧ CQ w B0 B' ∧ CDm V w (F0 13 w 7) 3200 B') := by
  have b0 := rd_0 hR0
  have bT := (bar_v hR0.2.2.2.1 hR0.2.2.2.2.1).2.2
  intro n
  induction n with
  | zero => intro b l F B _ _ _ hn; exfalso; omega
  | succ n ih =>
    intro b l F B h i0 i1 hn
    obtain ⟨hg, q, hl, ⟨P, hP⟩, hD⟩ := h
    have cl := cn_le (qn V w B0 b 0 0) 3200
    have e7 := hg 13 w 7 (by first | decide | omega)
    rw [f_M_columns_4]
    refine zS_g b0.1 ?_
    refine zS_g (by unfold r32; omega) ?_
    refine zS_g (by unfold r32; omega) ?_
    refine zS_i (fun a => ?_) (fun a => ?_)
    · obtain rfl : b = F0 13 w 7 := by omega
      exact zS_s ⟨hg, q, ⟨fun t t0 t1 => by have := hD.1 t t0 t1; omega, hD.2⟩, fun t j t0 t1 j0 j1 => by
        have := hD.1 t t0 t1
        obtain ⟨k1, k2, k3⟩ := hP j j0 (by first | decide | omega)
        exact CP_64 k1 ⟨k2, (by first | decide | omega)⟩⟩
    · refine zS_g (by first | decide | omega) ?_
      have hRF : RDW V w F B0 := RDW_g hR0 hg
      refine s_cl22 (T := T) (s := l) hK hRF hX0 hg (by rw [hg 13 w 4 (by first | decide | omega), hg 13 w 5 (by first | decide | omega)]; exact hT) (by first | decide | omega) (fun l' F' B' h' => ih (b + 1) l' F' B' h' (by first | decide | omega) (by first | decide | omega) (by first | decide | omega)) K 0 l P _ ⟨CQ_u q (Or.inl ⟨rfl, (by first | decide | omega), (by first | decide | omega)⟩), by rw [zup4_v, if_pos (by first | decide | omega)], ⟨(by first | decide | omega), fun j j0 j1 => ?_, fun j j0 j1 => (by first | decide | omega)⟩, hl.2, ⟨fun t t0 t1 => ?_, fun u y a0 a1 a2 a3 a4 a5 => ?_⟩, fun u' y a0 a1 a2 a3 a4 a5 => (by first | decide | omega)⟩ (by first | decide | omega) (by first | decide | omega) (by first | decide | omega)
      · obtain ⟨k1, k2, k3⟩ := hP j j0 j1
        unfold CP at k1 ⊢
        rw [zup4_v, if_neg (by first | decide | omega), zup4_v, if_neg (by first | decide | omega)]
        exact ⟨k1, k2, k3⟩
      · have := hD.1 t t0 t1
        rw [zup4_v, if_neg (by first | decide | omega), zup4_v]
        split <;> omega
      · rw [zup4_v, if_neg (by first | decide | omega)] at a3 a4 a5
        have s := hD.1 _ a4 a5
        obtain ⟨j, j0, j1, j2, j3⟩ := hD.2 u y a0 a1 a2 a3 a4 a5
        refine ⟨j, ?_, ?_, ?_, ?_⟩
        · rw [show (zup4 B 13 w 42 b l) 13 w 31 y = B 13 w 31 y by rw [zup4_v, if_neg (by first | decide | omega)], zup4_v, if_neg (by first | decide | omega)]; exact j0
        · rw [show (zup4 B 13 w 42 b l) 13 w 31 y = B 13 w 31 y by rw [zup4_v, if_neg (by first | decide | omega)], zup4_v]
          split <;> omega
        · rw [zup4_v, if_neg (by first | decide | omega), zup4_v, if_neg (by first | decide | omega)]; exact j2
        · rw [zup4_v, if_neg (by first | decide | omega), zup4_v, if_neg (by first | decide | omega)]; exact j3
theorem s_columns {K : Nat} {V w : Int} {F : zF} {B : zB} (hK : 812851200 < K) (hR : RDW V w F B) (hX : XS B) (hC : XC B) : zS (f_M_columns K w F B) (fun _ F' B' => CG F F' ∧ CQ w B B' ∧ CDm V w (F 13 w 7) 3200 B') := by
  have b0 := rd_0 hR
  unfold f_M_columns
  refine s_cl4 hK hR hX rfl K 0 0 F B ⟨fun _ _ _ _ => rfl, CQ_r hC, ⟨by decide, (by first | decide | omega)⟩, ⟨fun _ => 0, fun j j0 j1 => (by first | decide | omega)⟩, fun t t0 t1 => (by first | decide | omega), fun u y a0 a1 a2 a3 a4 a5 => (by first | decide | omega)⟩ (by decide) (by first | decide | omega) (by first | decide | omega)
end
end
section
section
/-! ===== the moments of a read piece, reference ===== -/
def MP (w : Int) (B : zB) (t : Int) : Prop := ∃ q : Int, (0 ≤ q ∧ q ≤ 1000000000000) ∧ B 13 w 73 t = nu q ∧ B 13 w 74 t = de q
def mU (w t q : Int) (B : zB) : zB := zup4 (zup4 B 13 w 73 t (nu q)) 13 w 74 t (de q)
theorem mU_n {w j p : Int} {B : zB} {c k : Nat} {i x : Int} (h : ¬ (c = 13 ∧ i = w ∧ (k = 73 ∨ k = 74) ∧ x = j)) : mU w j p B c i k x = B c i k x := by
  unfold mU
  rw [zup4_v, if_neg (by first | decide | omega), zup4_v, if_neg (by first | decide | omega)]
theorem mU_p {w t q : Int} {B : zB} (q0 : 0 ≤ q) (q1 : q ≤ 1000000000000) : MP w (mU w t q B) t := by
  refine ⟨q, ⟨q0, q1⟩, ?_, ?_⟩
  · unfold mU; rw [zup4_v, if_neg (by first | decide | omega), zup4_v, if_pos (by first | decide | omega)]
  · unfold mU; rw [zup4_v, if_pos (by first | decide | omega)]
theorem MP_n {w j p x : Int} {B : zB} (h : MP w B x) (n : ¬ x = j) : MP w (mU w j p B) x := by
  unfold MP
  rw [mU_n (by first | decide | omega), mU_n (by first | decide | omega)]
  exact h
/-- what the moments change -/
def MZ (w : Int) (B B' : zB) : Prop := ∀ c i k x, ¬ (c = 13 ∧ i = w ∧ 73 ≤ k ∧ k ≤ 75) → B' c i k x = B c i k x
def MF (w : Int) (F F' : zF) : Prop := ∀ c i k, ¬ (c = 13 ∧ i = w ∧ k = 72) → F' c i k = F c i k
theorem RDW_m {V w : Int} {F F' : zF} {B B' : zB} (h : RDW V w F B) (f : MF w F F') (z : MZ w B B') : RDW V w F' B' := RDW_f h (fun k _ _ => f 13 w k (by first | decide | omega)) (fun k x _ h' => z 13 w k x (by first | decide | omega))
/-- moved up, and put in -/
theorem s_mom83 {K : Nat} {w c t p : Int} {F : zF} {B0 : zB} (w0 : 0 ≤ w ∧ w < 3) (h72 : F 13 w 72 = c) (c1 : c < 800) (t0 : 0 ≤ t) (p0 : 0 ≤ p) (p1 : p ≤ 1000000000000) : ∀ (n : Nat) (l : Int) (B : zB), MZ w B0 B → t ≤ l → l ≤ c → (∀ x, 0 ≤ x → x < l → MP w B x) → (∀ x, l < x → x ≤ c → MP w B x) → l - t < n → ∃ B', f_M_moment_1_83 K n l t w (nu p) (de p) F B = some (0, zup3 F 13 w 72 (c + 1), B') ∧ MZ w B0 B' ∧ ∀ x, 0 ≤ x → x ≤ c → MP w B' x := by
  intro n
  induction n with
  | zero => intro l B _ _ _ _ _ hn; exfalso; omega
  | succ n ih =>
    intro l B hz tl lc m1 m2 hn
    rw [f_M_moment_1_83, if_pos (by unfold r32; omega), if_pos (by unfold r32; omega)]
    by_cases a : l ≤ t
    · rw [if_pos a, if_pos w0, if_pos (by first | decide | omega), h72]
      refine ⟨mU w t p B, rfl, fun c' i k x nn => by rw [mU_n (by first | decide | omega)]; exact hz c' i k x nn, fun x x0 x1 => ?_⟩
      by_cases e : x = t
      · rw [e]; exact mU_p p0 p1
      · by_cases e' : x < l
        · exact MP_n (m1 x x0 e') e
        · exact MP_n (m2 x (by first | decide | omega) x1) e
    · rw [if_neg a, if_pos w0, if_pos (by first | decide | omega), if_pos (by first | decide | omega)]
      obtain ⟨q, ⟨q0, q1⟩, k1, k2⟩ := m1 (l - 1) (by first | decide | omega) (by first | decide | omega)
      have e1 : (zup4 B 13 w 73 l (nu q)) 13 w 74 (l - 1) = de q := by rw [zup4_v, if_neg (by first | decide | omega)]; exact k2
      rw [k1, e1]
      exact ih (l - 1) (mU w l q B) (fun c' i k x nn => by rw [mU_n (by first | decide | omega)]; exact hz c' i k x nn) (by first | decide | omega) (by first | decide | omega) (fun x x0 x1 => MP_n (m1 x x0 (by first | decide | omega)) (by first | decide | omega)) (fun x x0 x1 => by
        by_cases e : x = l
        · rw [e]; exact mU_p q0 q1
        · exact MP_n (m2 x (by first | decide | omega) x1) e) (by first | decide | omega)
theorem s_mom1 {K : Nat} {w c p : Int} {F : zF} {B : zB} (hK : 812851200 < K) (w0 : 0 ≤ w ∧ w < 3) (h72 : F 13 w 72 = c) (c0 : 0 ≤ c) (c1 : c < 800) (p0 : 0 ≤ p) (p1 : p ≤ 1000000000000) (hM : ∀ x, 0 ≤ x → x < c → MP w B x) : ∃ F' B' c', f_M_moment_1 K w (nu p) (de p) F B = some (0, F', B') ∧ MF w F F' ∧ MZ w B B' ∧ F' 13 w 72 = c' ∧ 0 ≤ c' ∧ c' ≤ c + 1 ∧ ∀ x, 0 ≤ x → x < c' → MP w B' x := by
  have np := nd_r p0 p1
  have h77 : ∀ t, 0 ≤ t → t ≤ c → ∃ F' B' c', f_M_moment_1_77 K t w (nu p) (de p) F B = some (0, F', B') ∧ MF w F F' ∧ MZ w B B' ∧ F' 13 w 72 = c' ∧ 0 ≤ c' ∧ c' ≤ c + 1 ∧ ∀ x, 0 ≤ x → x < c' → MP w B' x := fun t t0 t1 => by
    unfold f_M_moment_1_77
    rw [if_pos w0, h72]
    obtain ⟨B', e, z, m⟩ := s_mom83 (K := K) (F := F) (B0 := B) w0 h72 c1 t0 p0 p1 K c B (fun _ _ _ _ _ => rfl) t1 (Int.le_refl _) hM (fun x a b => (by first | decide | omega)) (by first | decide | omega)
    exact ⟨_, B', c + 1, e, fun c' i k nn => by rw [zup3_v, if_neg nn], z, by rw [zup3_v, if_pos (by first | decide | omega)], (by first | decide | omega), Int.le_refl _, fun x x0 x1 => m x x0 (by first | decide | omega)⟩
  have h43 : ∀ t, 0 ≤ t → t ≤ c → ∃ F' B' c', f_M_moment_1_43 K t w (nu p) (de p) F B = some (0, F', B') ∧ MF w F F' ∧ MZ w B B' ∧ F' 13 w 72 = c' ∧ 0 ≤ c' ∧ c' ≤ c + 1 ∧ ∀ x, 0 ≤ x → x < c' → MP w B' x := fun t t0 t1 => by
    unfold f_M_moment_1_43
    rw [if_pos (by unfold r32; omega)]
    by_cases a : t ≤ 0
    · rw [if_pos a]; exact h77 t t0 t1
    · rw [if_neg a, if_pos w0, if_pos (by first | decide | omega)]
      obtain ⟨q, ⟨q0, q1⟩, k1, k2⟩ := hM (t - 1) (by first | decide | omega) (by first | decide | omega)
      have nq := nd_r q0 q1
      rw [k1, k2, if_pos (by unfold r64; omega), if_pos (by unfold r64; omega)]
      by_cases y : zcmp (nu q) (nu p) = 0
      · rw [if_pos y, if_pos (by unfold r64; omega), if_pos (by unfold r64; omega)]
        by_cases z : zcmp (de q) (de p) = 0
        · rw [if_pos z]
          exact ⟨F, B, c, rfl, fun _ _ _ _ => rfl, fun _ _ _ _ _ => rfl, h72, c0, (by first | decide | omega), hM⟩
        · rw [if_neg z]; exact h77 t t0 t1
      · rw [if_neg y]; exact h77 t t0 t1
  have h6 : ∀ (n : Nat) (t : Int), 0 ≤ t → t ≤ c → t < n → ∃ F' B' c', f_M_moment_1_6 K n t w (nu p) (de p) F B = some (0, F', B') ∧ MF w F F' ∧ MZ w B B' ∧ F' 13 w 72 = c' ∧ 0 ≤ c' ∧ c' ≤ c + 1 ∧ ∀ x, 0 ≤ x → x < c' → MP w B' x := by
    intro n
    induction n with
    | zero => intro t _ _ hn; exfalso; omega
    | succ n ih =>
      intro t t0 t1 hn
      rw [f_M_moment_1_6, if_pos (by unfold r32; omega)]
      by_cases a : t ≤ 0
      · rw [if_pos a]; exact h43 t t0 t1
      · rw [if_neg a, if_pos w0, if_pos (by first | decide | omega)]
        obtain ⟨q, ⟨q0, q1⟩, k1, k2⟩ := hM (t - 1) (by first | decide | omega) (by first | decide | omega)
        rw [k1, k2, L_cmpR hK (FR_r q0) (FR_r p0) (by first | decide | omega) (by first | decide | omega), zb_s, if_pos cmp3.1]
        by_cases y : (if q < p then (-1 : Int) else if q = p then 0 else 1) ≤ 0
        · rw [if_pos y]; exact h43 t t0 t1
        · rw [if_neg y]; exact ih (t - 1) (by first | decide | omega) (by first | decide | omega) (by first | decide | omega)
  unfold f_M_moment_1
  rw [if_pos w0, h72]
  exact h6 K c c0 (Int.le_refl _) (by first | decide | omega)
/-- moments gathered: 200 for each voice at most -/
def MS (w c : Int) (F0 F : zF) (B0 B : zB) : Prop := MF w F0 F ∧ MZ w B0 B ∧ (0 ≤ F 13 w 72 ∧ F 13 w 72 ≤ c) ∧ ∀ x, 0 ≤ x → x < F 13 w 72 → MP w B x
theorem s_mts17 {K : Nat} {V w u : Int} {F0 : zF} {B0 : zB} {rec : Int → Int → zF → zB → zO} {Q : Int → zF → zB → Prop} (hK : 812851200 < K) (hR0 : RDW V w F0 B0) (u0 : 0 ≤ u) (u1 : u < V) (hrec : ∀ F B, MS w (200 * (u + 1)) F0 F B0 B → zS (rec (u + 1) w F B) Q) : ∀ (n : Nat) (i : Int) (F : zF) (B : zB), MS w (200 * u + i) F0 F B0 B → 0 ≤ i → i ≤ B0 13 w 12 u → B0 13 w 12 u - i < n → zS (f_M_moments_17 rec K n i u w F B) Q := by
  have b0 := rd_0 hR0
  have bv := rd_v hR0 u0 u1
  intro n
  induction n with
  | zero => intro i F B _ _ _ hn; exfalso; omega
  | succ n ih =>
    intro i F B h i0 i1 hn
    have h' := h
    obtain ⟨f, z, c, m⟩ := h
    have e12 := z 13 w 12 u (by first | decide | omega)
    have e14 := z 13 w 14 (1000 * u + i) (by first | decide | omega)
    have e15 := z 13 w 15 (1000 * u + i) (by first | decide | omega)
    rw [f_M_moments_17]
    refine zS_g b0.1 ?_
    refine zS_g (by first | decide | omega) ?_
    refine zS_g (by unfold r32; omega) ?_
    refine zS_g (by unfold r32; omega) ?_
    refine zS_i (fun a => ?_) (fun a => ?_)
    · exact hrec F B ⟨f, z, (by first | decide | omega), m⟩
    · refine zS_g (by first | decide | omega) ?_
      obtain ⟨p, g, ⟨p0, g0, pg⟩, k1, k2, _, _⟩ := rd_f (x := 1000 * u + i) hR0 u0 u1 (by first | decide | omega) (by first | decide | omega)
      obtain ⟨F', B', c', x1, x2, x3, x4, x5, x6, x7⟩ := s_mom1 (K := K) (F := F) (B := B) hK b0.1 rfl c.1 (by first | decide | omega) p0 (by first | decide | omega) m
      rw [e14, e15, k1, k2, x1, zb_s]
      exact ih (i + 1) F' B' ⟨fun c i k nn => by rw [x2 c i k nn, f c i k nn], fun c i k x nn => by rw [x3 c i k x nn, z c i k x nn], (by first | decide | omega), fun x y0 y1 => x7 x y0 (by first | decide | omega)⟩ (by first | decide | omega) (by first | decide | omega) (by first | decide | omega)
/-- which event sounds at each moment -/
def M75 (V w u t : Int) (F : zF) (B : zB) : Prop := (∀ x, 0 ≤ x → x < F 13 w 72 → MP w B x) ∧ ∀ u' t', 0 ≤ u' → u' < V → 0 ≤ t' → t' < F 13 w 72 → (u' < u ∨ (u' = u ∧ t' < t)) → 0 ≤ B 13 w 75 (4 * t' + u') ∧ B 13 w 75 (4 * t' + u') < B 13 w 12 u'
theorem s_mts91 {K : Nat} {V w u t : Int} {F : zF} {B : zB} {rec69 : Int → Int → zF → zB → zO} {rec : Int → Int → Int → Int → zF → zB → zO} {Q : Int → zF → zB → Prop} (hK : 812851200 < K) (hR : RDW V w F B) (u0 : 0 ≤ u) (u1 : u < V) (t0 : 0 ≤ t) (t1 : t < F 13 w 72) (t2 : F 13 w 72 ≤ 800) (hM : M75 V w u t F B) (hrec : ∀ e B', 0 ≤ e → e < B 13 w 12 u → MZ w B B' → M75 V w u (t + 1) F B' → zS (rec (t + 1) e u w F B') Q) : ∀ (n : Nat) (i : Int), 0 ≤ i → i < B 13 w 12 u → B 13 w 12 u - i < n → zS (f_M_moments_91 rec69 rec K n t i u w F B) Q := by
  have b0 := rd_0 hR
  have bv := rd_v hR u0 u1
  have h157 : ∀ i, 0 ≤ i → i < B 13 w 12 u → zS (f_M_moments_157 rec69 rec K t i u w F B) Q := fun i i0 i1 => by
    unfold f_M_moments_157
    refine zS_g b0.1 ?_
    refine zS_g (by first | decide | omega) ?_
    refine hrec i _ i0 i1 (fun c y k x nn => by rw [zup4_v, if_neg (by first | decide | omega)]) ⟨fun x x0 x1 => ?_, fun u' t' a0 a1 a2 a3 a4 => ?_⟩
    · unfold MP
      rw [zup4_v, if_neg (by first | decide | omega), zup4_v, if_neg (by first | decide | omega)]
      exact hM.1 x x0 x1
    · rw [show (zup4 B 13 w 75 (4 * t + u) i) 13 w 12 u' = B 13 w 12 u' by rw [zup4_v, if_neg (by first | decide | omega)], zup4_v]
      by_cases e : 4 * t' + u' = 4 * t + u
      · have : u' = u := by omega
        subst this
        rw [if_pos (by first | decide | omega)]
        exact ⟨i0, i1⟩
      · rw [if_neg (by first | decide | omega)]
        exact hM.2 u' t' a0 a1 a2 a3 (by first | decide | omega)
  intro n
  induction n with
  | zero => intro i _ _ hn; exfalso; omega
  | succ n ih =>
    intro i i0 i1 hn
    rw [f_M_moments_91]
    refine zS_g b0.1 ?_
    refine zS_g (by first | decide | omega) ?_
    refine zS_g (by unfold r32; omega) ?_
    refine zS_g (by unfold r32; omega) ?_
    refine zS_i (fun a => ?_) (fun a => ?_)
    · exact h157 i i0 i1
    · refine zS_g (by first | decide | omega) ?_
      refine zS_g (by first | decide | omega) ?_
      obtain ⟨p, g, ⟨p0, g0, pg⟩, k1, k2, _, _⟩ := rd_f (x := 1000 * u + i + 1) hR u0 u1 (by first | decide | omega) (by first | decide | omega)
      obtain ⟨q, ⟨q0, q1⟩, m1, m2⟩ := hM.1 t t0 t1
      rw [k1, k2, m1, m2, L_cmpR hK (FR_r p0) (FR_r q0) (by first | decide | omega) (by first | decide | omega), zb_s]
      refine zS_g cmp3.1 ?_
      refine zS_i (fun a => ?_) (fun a => ?_)
      · exact h157 i i0 i1
      · exact ih (i + 1) (by first | decide | omega) (by first | decide | omega) (by first | decide | omega)
theorem s_mts82 {K : Nat} {V w u : Int} {F : zF} {B0 : zB} {rec : Int → Int → zF → zB → zO} {Q : Int → zF → zB → Prop} (hK : 812851200 < K) (hR0 : RDW V w F B0) (u0 : 0 ≤ u) (u1 : u < V) (t2 : 0 ≤ F 13 w 72 ∧ F 13 w 72 ≤ 800) (hrec : ∀ B', MZ w B0 B' → M75 V w (u + 1) 0 F B' → zS (rec (u + 1) w F B') Q) : ∀ (n : Nat) (t i : Int) (B : zB), MZ w B0 B → M75 V w u t F B → 0 ≤ t → t ≤ F 13 w 72 → 0 ≤ i → i < B0 13 w 12 u → F 13 w 72 - t < n → zS (f_M_moments_82 rec K n t i u w F B) Q := by
  have b0 := rd_0 hR0
  have bv := rd_v hR0 u0 u1
  intro n
  induction n with
  | zero => intro t i B _ _ _ _ _ _ hn; exfalso; omega
  | succ n ih =>
    intro t i B z hM t0 t1 i0 i1 hn
    rw [f_M_moments_82]
    refine zS_g b0.1 ?_
    refine zS_g (by unfold r32; omega) ?_
    refine zS_g (by unfold r32; omega) ?_
    have e12 := z 13 w 12 u (by first | decide | omega)
    refine zS_i (fun a => ?_) (fun a => ?_)
    · exact hrec B z ⟨hM.1, fun u' t' a0 a1 a2 a3 a4 => hM.2 u' t' a0 a1 a2 a3 (by first | decide | omega)⟩
    · refine s_mts91 hK (RDW_f hR0 (fun _ _ _ => rfl) (fun k x _ h' => z 13 w k x (by first | decide | omega))) u0 u1 t0 (by first | decide | omega) t2.2 hM (fun e B' e0 e1 z' m' => ih (t + 1) e B' (fun c i k x nn => by rw [z' c i k x nn, z c i k x nn]) m' (by first | decide | omega) (by first | decide | omega) e0 (by first | decide | omega) (by first | decide | omega)) K i i0 (by first | decide | omega) (by first | decide | omega)
theorem s_mts69 {K : Nat} {V w : Int} {F : zF} {B0 : zB} {Q : Int → zF → zB → Prop} (hK : 812851200 < K) (hR0 : RDW V w F B0) (t2 : 0 ≤ F 13 w 72 ∧ F 13 w 72 ≤ 800) (hQ : ∀ B', MZ w B0 B' → M75 V w V 0 F B' → Q 0 F B') : ∀ (n : Nat) (u : Int) (B : zB), MZ w B0 B → M75 V w u 0 F B → 0 ≤ u → u ≤ V → V - u < n → zS (f_M_moments_69 K n u w F B) Q := by
  have b0 := rd_0 hR0
  intro n
  induction n with
  | zero => intro u B _ _ _ _ hn; exfalso; omega
  | succ n ih =>
    intro u B z hM u0 u1 hn
    rw [f_M_moments_69]
    refine zS_g b0.1 ?_
    refine zS_g (by unfold r32; omega) ?_
    refine zS_g (by unfold r32; omega) ?_
    refine zS_i (fun a => ?_) (fun a => ?_)
    · obtain rfl : u = V := by omega
      exact zS_s (hQ B z hM)
    · have bv := rd_v hR0 u0 (show u < V by omega)
      have e12 := z 13 w 12 u (by first | decide | omega)
      exact s_mts82 hK (RDW_f hR0 (fun _ _ _ => rfl) (fun k x _ h' => z 13 w k x (by first | decide | omega))) u0 (by first | decide | omega) t2 (fun B' z' m' => ih (u + 1) B' (fun c i k x nn => by rw [z' c i k x nn, z c i k x nn]) m' (by first | decide | omega) (by first | decide | omega) (by first | decide | omega)) K 0 0 B (fun _ _ _ _ _ => rfl) hM (by decide) t2.1 (by decide) (by first | decide | omega) (by first | decide | omega)
theorem s_mts7 {K : Nat} {V w : Int} {F0 : zF} {B0 : zB} (hK : 812851200 < K) (hR0 : RDW V w F0 B0) : ∀ (n : Nat) (u : Int) (F : zF) (B : zB), MS w (200 * u) F0 F B0 B → 0 ≤ u → u ≤ V → V - u < n → zS (f_M_moments_7 K n u w F B) (fun _ F' B' => MF w F0 F' ∧ MZ w B0 B' ∧ (0 ≤ F' 13 w 72 ∧ F' 13 w 72 ≤ 800) ∧ M75 V w V 0 F' B') := by
  have b0 := rd_0 hR0
  intro n
  induction n with
  | zero => intro u F B _ _ _ hn; exfalso; omega
  | succ n ih =>
    intro u F B h u0 u1 hn
    have h' := h
    obtain ⟨f, z, c, m⟩ := h
    have e1 := f 13 w 1 (by first | decide | omega)
    rw [f_M_moments_7]
    refine zS_g b0.1 ?_
    refine zS_g (by unfold r32; omega) ?_
    refine zS_g (by unfold r32; omega) ?_
    refine zS_i (fun a => ?_) (fun a => ?_)
    · exact s_mts69 hK (RDW_m hR0 f z) (by first | decide | omega) (fun B' z' m' => ⟨f, fun c i k x nn => by rw [z' c i k x nn, z c i k x nn], (by first | decide | omega), m'⟩) K 0 B (fun _ _ _ _ _ => rfl) ⟨m, fun u' t' a0 a1 a2 a3 a4 => (by first | decide | omega)⟩ (by decide) (by first | decide | omega) (by first | decide | omega)
    · have bv := rd_v hR0 u0 (show u < V by omega)
      exact s_mts17 hK hR0 u0 (by first | decide | omega) (fun F B h => ih (u + 1) F B h (by first | decide | omega) (by first | decide | omega) (by first | decide | omega)) K 0 F B ⟨f, z, (by first | decide | omega), m⟩ (by decide) (by first | decide | omega) (by first | decide | omega)
theorem s_moments {K : Nat} {V w : Int} {F : zF} {B : zB} (hK : 812851200 < K) (hR : RDW V w F B) : zS (f_M_moments K w F B) (fun _ F' B' => MF w F F' ∧ MZ w B B' ∧ (0 ≤ F' 13 w 72 ∧ F' 13 w 72 ≤ 800) ∧ M75 V w V 0 F' B') := by
  have b0 := rd_0 hR
  unfold f_M_moments
  refine zS_g b0.1 ?_
  have e : (zup3 F 13 w 72 0) 13 w 72 = 0 := by rw [zup3_v, if_pos (by first | decide | omega)]
  have f : MF w F (zup3 F 13 w 72 0) := fun c i k nn => by rw [zup3_v, if_neg nn]
  exact s_mts7 hK hR K 0 _ B ⟨f, fun _ _ _ _ _ => rfl, (by first | decide | omega), fun x x0 x1 => (by first | decide | omega)⟩ (by decide) (by first | decide | omega) (by first | decide | omega)
end
end
section
section
/-! ===== moments, purely: rows that rise, and what they hold ===== -/
theorem nd_iv {g g' : Int} (h : 0 ≤ g) (h' : 0 ≤ g') (e : nu g = nu g') (e' : de g = de g') : g = g' := by
  obtain ⟨d0, _, _, a⟩ := FR_r h
  obtain ⟨d0', _, _, a'⟩ := FR_r h'
  rw [e, e', a'] at a
  rw [e'] at d0
  exact (Int.eq_of_mul_eq_mul_right (by first | decide | omega) a).symm
def SI (c : Int) (T : Int → Int) : Prop := ∀ t, 0 ≤ t → t + 1 < c → T t < T (t + 1)
def RS (c : Int) (T : Int → Int) (A : Int → Prop) : Prop := ∀ x, (∃ t, 0 ≤ t ∧ t < c ∧ T t = x) ↔ A x
theorem SI_d {c : Int} {T : Int → Int} (h : SI c T) : ∀ (d : Nat) (a : Int), 0 ≤ a → a + d + 1 < c → T a < T (a + d + 1) := by
  intro d
  induction d with
  | zero => intro a a0 a1; rw [show a + ((0 : Nat) : Int) + 1 = a + 1 by omega]; exact h a a0 (by first | decide | omega)
  | succ d ih =>
    intro a a0 a1
    have h1 := ih a a0 (by first | decide | omega)
    have h2 := h (a + d + 1) (by first | decide | omega) (by first | decide | omega)
    rw [show a + ((d + 1 : Nat) : Int) + 1 = a + d + 1 + 1 by omega]
    omega
theorem SI_m {c a b : Int} {T : Int → Int} (h : SI c T) (a0 : 0 ≤ a) (ab : a < b) (b1 : b < c) : T a < T b := by
  have := SI_d h (b - a - 1).toNat a a0 (by first | decide | omega)
  rw [show a + ((b - a - 1).toNat : Int) + 1 = b by omega] at this
  exact this
theorem SI_le {c a b : Int} {T : Int → Int} (h : SI c T) (a0 : 0 ≤ a) (ab : a ≤ b) (b1 : b < c) : T a ≤ T b := by
  by_cases e : a = b
  · rw [e]; exact Int.le_refl _
  · have := SI_m h a0 (show a < b by omega) b1; omega
theorem SI_lt {c a b : Int} {T : Int → Int} (h : SI c T) (a0 : 0 ≤ a) (a1 : a < c) (b0 : 0 ≤ b) (b1 : b < c) (l : T a < T b) : a < b := by
  by_cases e : a < b
  · exact e
  · have := SI_le h b0 (show b ≤ a by omega) a1; omega
theorem SR_u {c c' : Int} {T T' : Int → Int} {A : Int → Prop} (h : SI c T) (h' : SI c' T') (r : RS c T A) (r' : RS c' T' A) : ∀ (n : Nat), (n : Int) < c → (n : Int) < c' → T n = T' n := by
  intro n
  induction n using Nat.strongRecOn with
  | ind n ih =>
    intro n1 n2
    obtain ⟨s', s0, s1, e⟩ := (r' (T n)).mpr ((r (T n)).mp ⟨n, (by first | decide | omega), n1, rfl⟩)
    obtain ⟨s, z0, z1, e'⟩ := (r (T' n)).mpr ((r' (T' n)).mp ⟨n, (by first | decide | omega), n2, rfl⟩)
    have l1 : (n : Int) ≤ s' := by
      by_cases c1 : (n : Int) ≤ s'
      · exact c1
      · have i := ih s'.toNat (by first | decide | omega) (by first | decide | omega) (by first | decide | omega)
        rw [show ((s'.toNat : Nat) : Int) = s' by omega] at i
        have := SI_m h s0 (show s' < n by omega) n1
        omega
    have l2 : (n : Int) ≤ s := by
      by_cases c1 : (n : Int) ≤ s
      · exact c1
      · have i := ih s.toNat (by first | decide | omega) (by first | decide | omega) (by first | decide | omega)
        rw [show ((s.toNat : Nat) : Int) = s by omega] at i
        have := SI_m h' z0 (show s < n by omega) n2
        omega
    have m1 := SI_le h' (show (0 : Int) ≤ n by omega) l1 s1
    have m2 := SI_le h (show (0 : Int) ≤ n by omega) l2 z1
    omega
theorem SR_c {c c' : Int} {T T' : Int → Int} {A : Int → Prop} (c0 : 0 ≤ c) (h : SI c T) (h' : SI c' T') (r : RS c T A) (r' : RS c' T' A) : ¬ c < c' := fun l => by
  obtain ⟨s, z0, z1, e⟩ := (r (T' c)).mpr ((r' (T' c)).mp ⟨c, c0, l, rfl⟩)
  have i := SR_u h h' r r' s.toNat (by first | decide | omega) (by first | decide | omega)
  rw [show ((s.toNat : Nat) : Int) = s by omega] at i
  have := SI_m h' z0 (show s < c from z1) l
  omega
theorem SR_e {c c' : Int} {T T' : Int → Int} {A : Int → Prop} (c0 : 0 ≤ c) (c0' : 0 ≤ c') (h : SI c T) (h' : SI c' T') (r : RS c T A) (r' : RS c' T' A) : c = c' ∧ ∀ t, 0 ≤ t → t < c → T t = T' t := by
  have e1 := SR_c c0 h h' r r'
  have e2 := SR_c c0' h' h r' r
  have e : c = c' := by omega
  refine ⟨e, fun t t0 t1 => ?_⟩
  have i := SR_u h h' r r' t.toNat (by first | decide | omega) (by first | decide | omega)
  rw [show ((t.toNat : Nat) : Int) = t by omega] at i
  exact i
/-- p put in at place a -/
def puT (T : Int → Int) (a p : Int) : Int → Int := fun t => if t < a then T t else if t = a then p else T (t - 1)
theorem puT_i {c a p : Int} {T : Int → Int} (h : SI c T) (a0 : 0 ≤ a) (a1 : a ≤ c) (l : a = 0 ∨ T (a - 1) < p) (g : ∀ t, a ≤ t → t < c → p < T t) : SI (c + 1) (puT T a p) := fun t t0 t1 => by
  unfold puT
  by_cases c1 : t + 1 < a
  · rw [if_pos (show t < a by omega), if_pos c1]; exact h t t0 (by first | decide | omega)
  by_cases c2 : t + 1 = a
  · have e : t = a - 1 := by omega
    rw [if_pos (show t < a by omega), if_neg c1, if_pos c2, e]; omega
  by_cases c3 : t = a
  · rw [if_neg (show ¬ t < a by omega), if_pos c3, if_neg c1, if_neg c2, show t + 1 - 1 = t by omega]; exact g t (by first | decide | omega) (by first | decide | omega)
  · have := h (t - 1) (by first | decide | omega) (by first | decide | omega)
    rw [if_neg (show ¬ t < a by omega), if_neg c3, if_neg c1, if_neg c2, show t + 1 - 1 = t - 1 + 1 by omega]; exact this
theorem puT_r {c a p : Int} {T : Int → Int} {A : Int → Prop} (r : RS c T A) (a0 : 0 ≤ a) (a1 : a ≤ c) : RS (c + 1) (puT T a p) (fun x => A x ∨ x = p) := fun x => by
  constructor
  · rintro ⟨t, t0, t1, e⟩
    unfold puT at e
    by_cases c1 : t < a
    · rw [if_pos c1] at e
      exact Or.inl ((r x).mp ⟨t, t0, (by first | decide | omega), e⟩)
    · rw [if_neg c1] at e
      by_cases c2 : t = a
      · rw [if_pos c2] at e; exact Or.inr e.symm
      · rw [if_neg c2] at e
        exact Or.inl ((r x).mp ⟨t - 1, (by first | decide | omega), (by first | decide | omega), e⟩)
  · rintro (h | h)
    · obtain ⟨t, t0, t1, e⟩ := (r x).mpr h
      by_cases c1 : t < a
      · exact ⟨t, t0, (by first | decide | omega), by unfold puT; rw [if_pos c1]; exact e⟩
      · exact ⟨t + 1, (by first | decide | omega), (by first | decide | omega), by unfold puT; rw [if_neg (by first | decide | omega), if_neg (by first | decide | omega), show t + 1 - 1 = t by omega]; exact e⟩
    · exact ⟨a, a0, (by first | decide | omega), by unfold puT; rw [if_neg (by first | decide | omega), if_pos rfl]; exact h.symm⟩
theorem RS_c {c : Int} {T : Int → Int} {A A' : Int → Prop} (r : RS c T A) (e : ∀ x, A x ↔ A' x) : RS c T A' := fun x => (r x).trans (e x)
/-- a piece's events: voice, kind (0 how many, 1 place, 2 how many pitches, 3 steps, 4 alterations), event, pitch -/
abbrev zV := Int → Nat → Int → Int → Int
def SG (V : Int) (S : zV) : Prop := (1 ≤ V ∧ V ≤ 4) ∧ ∀ u, 0 ≤ u → u < V → (1 ≤ S u 0 0 0 ∧ S u 0 0 0 ≤ 200) ∧ S u 1 0 0 = 0 ∧ (∀ i, 0 ≤ i → i < S u 0 0 0 → (0 ≤ S u 1 i 0 ∧ S u 1 i 0 ≤ 1000000000000) ∧ (0 ≤ S u 2 i 0 ∧ S u 2 i 0 ≤ 6) ∧ ∀ j, 0 ≤ j → j < S u 2 i 0 → (0 ≤ S u 3 i j ∧ S u 3 i j ≤ 62) ∧ (-2 ≤ S u 4 i j ∧ S u 4 i j ≤ 2)) ∧ ∀ i, 0 ≤ i → i + 1 < S u 0 0 0 → S u 1 i 0 < S u 1 (i + 1) 0
/-- the reference's rows are S -/
def SRm (V w : Int) (S : zV) (F : zF) (B : zB) : Prop := (0 ≤ w ∧ w < 3) ∧ F 13 w 1 = V ∧ ∀ u, 0 ≤ u → u < V → B 13 w 12 u = S u 0 0 0 ∧ ∀ i, 0 ≤ i → i < S u 0 0 0 → B 13 w 14 (1000 * u + i) = nu (S u 1 i 0) ∧ B 13 w 15 (1000 * u + i) = de (S u 1 i 0) ∧ B 13 w 21 (1000 * u + i) = S u 2 i 0 ∧ ∀ j, 0 ≤ j → j < S u 2 i 0 → B 13 w 28 (6 * (1000 * u + i) + j) = S u 3 i j ∧ B 13 w 29 (6 * (1000 * u + i) + j) = S u 4 i j
theorem SRm_f {V w : Int} {S : zV} {F F' : zF} {B B' : zB} (h : SRm V w S F B) (f : F' 13 w 1 = F 13 w 1) (b : ∀ k x, k ≤ 35 → B' 13 w k x = B 13 w k x) : SRm V w S F' B' := by
  obtain ⟨h1, h2, h3⟩ := h
  refine ⟨h1, by rw [f]; exact h2, fun u u0 u1 => ?_⟩
  obtain ⟨a1, a2⟩ := h3 u u0 u1
  refine ⟨by rw [b 12 _ (by decide)]; exact a1, fun i i0 i1 => ?_⟩
  obtain ⟨b1, b2, b3, b4⟩ := a2 i i0 i1
  refine ⟨by rw [b 14 _ (by decide)]; exact b1, by rw [b 15 _ (by decide)]; exact b2, by rw [b 21 _ (by decide)]; exact b3, fun j j0 j1 => ?_⟩
  rw [b 28 _ (by decide), b 29 _ (by decide)]
  exact b4 j j0 j1
/-- x is the place of an event -/
def aEv (V : Int) (S : zV) (x : Int) : Prop := ∃ u i, 0 ≤ u ∧ u < V ∧ 0 ≤ i ∧ i < S u 0 0 0 ∧ S u 1 i 0 = x
def MO (V : Int) (S : zV) (c : Int) (T : Int → Int) : Prop := (0 ≤ c ∧ c ≤ 800) ∧ SI c T ∧ RS c T (aEv V S)
/-- which event sounds at each moment -/
def LI (V : Int) (S : zV) (c : Int) (T : Int → Int) (L : Int → Int → Int) : Prop := ∀ u t, 0 ≤ u → u < V → 0 ≤ t → t < c → (0 ≤ L u t ∧ L u t < S u 0 0 0) ∧ S u 1 (L u t) 0 ≤ T t ∧ (L u t + 1 < S u 0 0 0 → T t < S u 1 (L u t + 1) 0)
theorem SG_i {V u : Int} {S : zV} (h : SG V S) (u0 : 0 ≤ u) (u1 : u < V) : SI (S u 0 0 0) (fun i => S u 1 i 0) := fun i i0 i1 => (h.2 u u0 u1).2.2.2 i i0 i1
theorem SG_le {V u a b : Int} {S : zV} (h : SG V S) (u0 : 0 ≤ u) (u1 : u < V) (a0 : 0 ≤ a) (ab : a ≤ b) (b1 : b < S u 0 0 0) : S u 1 a 0 ≤ S u 1 b 0 := SI_le (T := fun i => S u 1 i 0) (SG_i h u0 u1) a0 ab b1
theorem LI_u {V : Int} {S : zV} {c : Int} {T T' : Int → Int} {L L' : Int → Int → Int} (hS : SG V S) (h : LI V S c T L) (h' : LI V S c T' L') (e : ∀ t, 0 ≤ t → t < c → T t = T' t) : ∀ u t, 0 ≤ u → u < V → 0 ≤ t → t < c → L u t = L' u t := fun u t u0 u1 t0 t1 => by
  obtain ⟨a1, a2, a3⟩ := h u t u0 u1 t0 t1
  obtain ⟨b1, b2, b3⟩ := h' u t u0 u1 t0 t1
  have et := e t t0 t1
  by_cases c1 : L u t < L' u t
  · have k := a3 (by first | decide | omega)
    have m : S u 1 (L u t + 1) 0 ≤ S u 1 (L' u t) 0 := SG_le hS u0 u1 (by first | decide | omega) (by first | decide | omega) b1.2
    omega
  by_cases c2 : L' u t < L u t
  · have k := b3 (by first | decide | omega)
    have m : S u 1 (L' u t + 1) 0 ≤ S u 1 (L u t) 0 := SG_le hS u0 u1 (by first | decide | omega) (by first | decide | omega) a1.2
    omega
  omega
/-- an event begins at moment t just where it wasn't at the one before -/
theorem LI_b {V : Int} {S : zV} {c : Int} {T : Int → Int} {L : Int → Int → Int} (hS : SG V S) (hM : MO V S c T) (h : LI V S c T L) {u t : Int} (u0 : 0 ≤ u) (u1 : u < V) (t0 : 1 ≤ t) (t1 : t < c) : S u 1 (L u t) 0 = T t ↔ ¬ L u t = L u (t - 1) := by
  obtain ⟨a1, a2, a3⟩ := h u t u0 u1 (by first | decide | omega) t1
  obtain ⟨b1, b2, b3⟩ := h u (t - 1) u0 u1 (by first | decide | omega) (by first | decide | omega)
  have tt : T (t - 1) < T t := SI_m hM.2.1 (by first | decide | omega) (by first | decide | omega) t1
  constructor
  · intro e z
    rw [z] at e
    omega
  · intro n
    have l : L u (t - 1) < L u t := by
      by_cases c2 : L u (t - 1) < L u t
      · exact c2
      · have k := a3 (by first | decide | omega)
        have m : S u 1 (L u t + 1) 0 ≤ S u 1 (L u (t - 1)) 0 := SG_le hS u0 u1 (by first | decide | omega) (by first | decide | omega) b1.2
        omega
    have k := b3 (by first | decide | omega)
    have m : S u 1 (L u (t - 1) + 1) 0 ≤ S u 1 (L u t) 0 := SG_le hS u0 u1 (by first | decide | omega) (by first | decide | omega) a1.2
    obtain ⟨s, s0, s1, e⟩ := (hM.2.2 (S u 1 (L u t) 0)).mpr ⟨u, L u t, u0, u1, a1.1, a1.2, rfl⟩
    have l1 : t - 1 < s := SI_lt hM.2.1 (by first | decide | omega) (by first | decide | omega) s0 s1 (by first | decide | omega)
    have l2 : T t ≤ T s := SI_le hM.2.1 (by first | decide | omega) (by first | decide | omega) s1
    omega
end
end
section
section
/-! ===== the moments of a read piece, reference: exactly ===== -/
variable {K : Nat} {V w : Int} {S : zV}
/-- moment t stands at v -/
def mR (w : Int) (B : zB) (t v : Int) : Prop := B 13 w 73 t = nu v ∧ B 13 w 74 t = de v
theorem mR_u {t v : Int} {B : zB} : mR w (mU w t v B) t v := by
  refine ⟨?_, ?_⟩
  · unfold mU; rw [zup4_v, if_neg (by first | decide | omega), zup4_v, if_pos (by first | decide | omega)]
  · unfold mU; rw [zup4_v, if_pos (by first | decide | omega)]
theorem mR_n {j p x v : Int} {B : zB} (h : mR w B x v) (n : ¬ x = j) : mR w (mU w j p B) x v := by
  unfold mR
  rw [mU_n (by first | decide | omega), mU_n (by first | decide | omega)]
  exact h
def TR (w c : Int) (T : Int → Int) (B : zB) : Prop := ∀ t, 0 ≤ t → t < c → (0 ≤ T t ∧ T t ≤ 1000000000000) ∧ mR w B t (T t)
theorem TR_f {c : Int} {T : Int → Int} {B B' : zB} (h : TR w c T B) (b : ∀ k x, k = 73 ∨ k = 74 → B' 13 w k x = B 13 w k x) : TR w c T B' := fun t t0 t1 => by
  unfold mR
  rw [b 73 _ (by first | decide | omega), b 74 _ (by first | decide | omega)]
  exact h t t0 t1
theorem x_mom83 {c a p : Int} {T : Int → Int} {F : zF} (w0 : 0 ≤ w ∧ w < 3) (h72 : F 13 w 72 = c) (c1 : c < 800) (a0 : 0 ≤ a) : ∀ (n : Nat) (l : Int) (B : zB), a ≤ l → l ≤ c → (∀ t, 0 ≤ t → t < l → mR w B t (T t)) → (∀ t, l < t → t ≤ c → mR w B t (T (t - 1))) → l - a < n → ∃ B', f_M_moment_1_83 K n l a w (nu p) (de p) F B = some (0, zup3 F 13 w 72 (c + 1), B') ∧ MZ w B B' ∧ ∀ t, 0 ≤ t → t ≤ c → mR w B' t (puT T a p t) := by
  intro n
  induction n with
  | zero => intro l B _ _ _ _ hn; exfalso; omega
  | succ n ih =>
    intro l B al lc m1 m2 hn
    rw [f_M_moment_1_83, if_pos (by unfold r32; omega), if_pos (by unfold r32; omega)]
    by_cases e : l ≤ a
    · rw [if_pos e, if_pos w0, if_pos (by first | decide | omega), h72]
      refine ⟨mU w a p B, rfl, fun c' i k x nn => mU_n (by first | decide | omega), fun t t0 t1 => ?_⟩
      by_cases e1 : t = a
      · rw [e1, show puT T a p a = p by unfold puT; rw [if_neg (show ¬ a < a by omega), if_pos rfl]]
        exact mR_u
      · refine mR_n ?_ e1
        by_cases e2 : t < a
        · rw [show puT T a p t = T t by unfold puT; rw [if_pos e2]]
          exact m1 t t0 (by first | decide | omega)
        · rw [show puT T a p t = T (t - 1) by unfold puT; rw [if_neg e2, if_neg e1]]
          exact m2 t (by first | decide | omega) t1
    · rw [if_neg e, if_pos w0, if_pos (by first | decide | omega), if_pos (by first | decide | omega)]
      obtain ⟨k1, k2⟩ := m1 (l - 1) (by first | decide | omega) (by first | decide | omega)
      have e1 : (zup4 B 13 w 73 l (nu (T (l - 1)))) 13 w 74 (l - 1) = de (T (l - 1)) := by rw [zup4_v, if_neg (by first | decide | omega)]; exact k2
      rw [k1, e1]
      obtain ⟨B', g1, g2, g3⟩ := ih (l - 1) (mU w l (T (l - 1)) B) (by first | decide | omega) (by first | decide | omega) (fun t t0 t1 => mR_n (m1 t t0 (by first | decide | omega)) (by first | decide | omega)) (fun t t0 t1 => by
        by_cases e2 : t = l
        · rw [e2]; exact mR_u
        · exact mR_n (m2 t (by first | decide | omega) t1) e2) (by first | decide | omega)
      exact ⟨B', g1, fun c' i k x nn => by rw [g2 c' i k x nn, mU_n (by first | decide | omega)], g3⟩
theorem x_mom1 {c p : Int} {T : Int → Int} {A : Int → Prop} {F : zF} {B : zB} (hK : 812851200 < K) (w0 : 0 ≤ w ∧ w < 3) (h72 : F 13 w 72 = c) (c0 : 0 ≤ c) (c1 : c < 800) (p0 : 0 ≤ p) (p1 : p ≤ 1000000000000) (hT : TR w c T B) (hI : SI c T) (hR : RS c T A) : ∃ F' B' c' T', f_M_moment_1 K w (nu p) (de p) F B = some (0, F', B') ∧ MF w F F' ∧ MZ w B B' ∧ F' 13 w 72 = c' ∧ 0 ≤ c' ∧ c' ≤ c + 1 ∧ TR w c' T' B' ∧ SI c' T' ∧ RS c' T' (fun x => A x ∨ x = p) := by
  have np := nd_r p0 p1
  have h77 : ∀ a, 0 ≤ a → a ≤ c → (a = 0 ∨ T (a - 1) < p) → (∀ t, a ≤ t → t < c → p < T t) → ∃ F' B' c' T', f_M_moment_1_77 K a w (nu p) (de p) F B = some (0, F', B') ∧ MF w F F' ∧ MZ w B B' ∧ F' 13 w 72 = c' ∧ 0 ≤ c' ∧ c' ≤ c + 1 ∧ TR w c' T' B' ∧ SI c' T' ∧ RS c' T' (fun x => A x ∨ x = p) := fun a a0 a1 l g => by
    unfold f_M_moment_1_77
    rw [if_pos w0, h72]
    obtain ⟨B', e, z, m⟩ := x_mom83 (K := K) (T := T) (p := p) (F := F) w0 h72 c1 a0 K c B a1 (Int.le_refl _) (fun t t0 t1 => (hT t t0 t1).2) (fun t a b => (by first | decide | omega)) (by first | decide | omega)
    refine ⟨_, B', c + 1, puT T a p, e, fun c' i k nn => by rw [zup3_v, if_neg nn], z, by rw [zup3_v, if_pos ⟨rfl, rfl, rfl⟩], (by first | decide | omega), Int.le_refl _, fun t t0 t1 => ⟨?_, m t t0 (by first | decide | omega)⟩, puT_i hI a0 a1 l g, puT_r hR a0 a1⟩
    unfold puT
    by_cases e1 : t < a
    · rw [if_pos e1]; exact (hT t t0 (by first | decide | omega)).1
    · rw [if_neg e1]
      by_cases e2 : t = a
      · rw [if_pos e2]; exact ⟨p0, p1⟩
      · rw [if_neg e2]; exact (hT (t - 1) (by first | decide | omega) (by first | decide | omega)).1
  have h43 : ∀ a, 0 ≤ a → a ≤ c → (a = 0 ∨ T (a - 1) ≤ p) → (∀ t, a ≤ t → t < c → p < T t) → ∃ F' B' c' T', f_M_moment_1_43 K a w (nu p) (de p) F B = some (0, F', B') ∧ MF w F F' ∧ MZ w B B' ∧ F' 13 w 72 = c' ∧ 0 ≤ c' ∧ c' ≤ c + 1 ∧ TR w c' T' B' ∧ SI c' T' ∧ RS c' T' (fun x => A x ∨ x = p) := fun a a0 a1 l g => by
    unfold f_M_moment_1_43
    rw [if_pos (by unfold r32; omega)]
    by_cases e : a ≤ 0
    · rw [if_pos e]; exact h77 a a0 a1 (Or.inl (by first | decide | omega)) g
    · rw [if_neg e, if_pos w0, if_pos (by first | decide | omega)]
      obtain ⟨⟨q0, q1⟩, k1, k2⟩ := hT (a - 1) (by first | decide | omega) (by first | decide | omega)
      have nq := nd_r q0 q1
      rw [k1, k2, if_pos (by unfold r64; omega), if_pos (by unfold r64; omega)]
      have ne : ¬ T (a - 1) = p → a = 0 ∨ T (a - 1) < p := fun z => Or.inr (by first | decide | omega)
      by_cases y : zcmp (nu (T (a - 1))) (nu p) = 0
      · rw [if_pos y, if_pos (by unfold r64; omega), if_pos (by unfold r64; omega)]
        by_cases z : zcmp (de (T (a - 1))) (de p) = 0
        · have ep : T (a - 1) = p := nd_iv q0 p0 (zcmp_0.mp y) (zcmp_0.mp z)
          rw [if_pos z]
          refine ⟨F, B, c, T, rfl, fun _ _ _ _ => rfl, fun _ _ _ _ _ => rfl, h72, c0, (by first | decide | omega), hT, hI, RS_c hR (fun x => ⟨Or.inl, fun o => ?_⟩)⟩
          rcases o with o | o
          · exact o
          · exact (hR x).mp ⟨a - 1, (by first | decide | omega), (by first | decide | omega), by rw [ep, o]⟩
        · rw [if_neg z]; exact h77 a a0 a1 (ne (fun k => z (zcmp_0.mpr (by rw [k])))) g
      · rw [if_neg y]; exact h77 a a0 a1 (ne (fun k => y (zcmp_0.mpr (by rw [k])))) g
  have h6 : ∀ (n : Nat) (a : Int), 0 ≤ a → a ≤ c → (∀ t, a ≤ t → t < c → p < T t) → a < n → ∃ F' B' c' T', f_M_moment_1_6 K n a w (nu p) (de p) F B = some (0, F', B') ∧ MF w F F' ∧ MZ w B B' ∧ F' 13 w 72 = c' ∧ 0 ≤ c' ∧ c' ≤ c + 1 ∧ TR w c' T' B' ∧ SI c' T' ∧ RS c' T' (fun x => A x ∨ x = p) := by
    intro n
    induction n with
    | zero => intro a _ _ _ hn; exfalso; omega
    | succ n ih =>
      intro a a0 a1 g hn
      rw [f_M_moment_1_6, if_pos (by unfold r32; omega)]
      by_cases e : a ≤ 0
      · rw [if_pos e]; exact h43 a a0 a1 (Or.inl (by first | decide | omega)) g
      · rw [if_neg e, if_pos w0, if_pos (by first | decide | omega)]
        obtain ⟨⟨q0, q1⟩, k1, k2⟩ := hT (a - 1) (by first | decide | omega) (by first | decide | omega)
        rw [k1, k2, L_cmpR hK (FR_r q0) (FR_r p0) (by first | decide | omega) (by first | decide | omega), zb_s, if_pos cmp3.1]
        by_cases y : (if T (a - 1) < p then (-1 : Int) else if T (a - 1) = p then 0 else 1) ≤ 0
        · rw [if_pos y]; exact h43 a a0 a1 (Or.inr (cmp3.2.mp y)) g
        · rw [if_neg y]
          have l : ¬ T (a - 1) ≤ p := fun k => y (cmp3.2.mpr k)
          refine ih (a - 1) (by first | decide | omega) (by first | decide | omega) (fun t t0 t1 => ?_) (by first | decide | omega)
          by_cases e2 : t = a - 1
          · rw [e2]; omega
          · exact g t (by first | decide | omega) t1
  unfold f_M_moment_1
  rw [if_pos w0, h72]
  exact h6 K c c0 (Int.le_refl _) (fun t a b => (by first | decide | omega)) (by first | decide | omega)
/-- the events told so far: those of the voices before u, and i of voice u -/
def aE2 (S : zV) (u i x : Int) : Prop := ∃ u' i', 0 ≤ u' ∧ 0 ≤ i' ∧ i' < S u' 0 0 0 ∧ (u' < u ∨ (u' = u ∧ i' < i)) ∧ S u' 1 i' 0 = x
def MS2 (w : Int) (S : zV) (u i : Int) (F0 F : zF) (B0 B : zB) : Prop := MF w F0 F ∧ MZ w B0 B ∧ (0 ≤ F 13 w 72 ∧ F 13 w 72 ≤ 200 * u + i) ∧ ∃ T, TR w (F 13 w 72) T B ∧ SI (F 13 w 72) T ∧ RS (F 13 w 72) T (aE2 S u i)
theorem x_mts17 {u : Int} {F0 : zF} {B0 : zB} {rec : Int → Int → zF → zB → zO} (hK : 812851200 < K) (hS : SG V S) (hR0 : SRm V w S F0 B0) (u0 : 0 ≤ u) (u1 : u < V) : ∀ (d n : Nat) (i : Int) (F : zF) (B : zB), MS2 w S u i F0 F B0 B → 0 ≤ i → i + d = S u 0 0 0 → d < n → ∃ F' B', f_M_moments_17 rec K n i u w F B = rec (u + 1) w F' B' ∧ MS2 w S (u + 1) 0 F0 F' B0 B' := by
  obtain ⟨⟨_, v4⟩, hs⟩ := hS
  obtain ⟨w0, _, hr⟩ := hR0
  obtain ⟨g1, g2, g3, g4⟩ := hs u u0 u1
  obtain ⟨r1, r2⟩ := hr u u0 u1
  intro d
  induction d with
  | zero =>
    intro n i F B h i0 id hn
    obtain ⟨n, rfl⟩ : ∃ j, n = j + 1 := ⟨n - 1, (by first | decide | omega)⟩
    obtain ⟨f, z, c, T, t1, t2, t3⟩ := h
    have e12 : B 13 w 12 u = S u 0 0 0 := by rw [z 13 w 12 u (by first | decide | omega)]; exact r1
    rw [f_M_moments_17, if_pos w0, if_pos (by first | decide | omega), if_pos (by unfold r32; omega), e12, if_pos (by unfold r32; omega), if_pos (by first | decide | omega)]
    refine ⟨F, B, rfl, f, z, (by first | decide | omega), T, t1, t2, RS_c t3 (fun x => ⟨?_, ?_⟩)⟩
    · rintro ⟨u', i', a0, a1, a2, a3, a4⟩
      exact ⟨u', i', a0, a1, a2, (by first | decide | omega), a4⟩
    · rintro ⟨u', i', a0, a1, a2, a3, a4⟩
      refine ⟨u', i', a0, a1, a2, ?_, a4⟩
      by_cases e : u' = u
      · rw [e] at a2; exact Or.inr ⟨e, (by first | decide | omega)⟩
      · exact Or.inl (by first | decide | omega)
  | succ d ih =>
    intro n i F B h i0 id hn
    obtain ⟨n, rfl⟩ : ∃ j, n = j + 1 := ⟨n - 1, (by first | decide | omega)⟩
    obtain ⟨f, z, c, T, t1, t2, t3⟩ := h
    have e12 : B 13 w 12 u = S u 0 0 0 := by rw [z 13 w 12 u (by first | decide | omega)]; exact r1
    obtain ⟨q1, q2, _⟩ := r2 i i0 (by first | decide | omega)
    have e14 : B 13 w 14 (1000 * u + i) = nu (S u 1 i 0) := by rw [z 13 w 14 _ (by first | decide | omega)]; exact q1
    have e15 : B 13 w 15 (1000 * u + i) = de (S u 1 i 0) := by rw [z 13 w 15 _ (by first | decide | omega)]; exact q2
    obtain ⟨p0, p1⟩ := (g3 i i0 (by first | decide | omega)).1
    obtain ⟨F', B', c', T', x1, x2, x3, x4, x5, x6, x7, x8, x9⟩ := x_mom1 (K := K) (A := aE2 S u i) hK w0 rfl c.1 (by first | decide | omega) p0 p1 t1 t2 t3
    rw [f_M_moments_17, if_pos w0, if_pos (by first | decide | omega), if_pos (by unfold r32; omega), e12, if_pos (by unfold r32; omega), if_neg (by first | decide | omega), if_pos (by first | decide | omega), e14, e15, x1, zb_s]
    have x10 : RS c' T' (aE2 S u (i + 1)) := by
      refine RS_c x9 (fun x => ⟨?_, ?_⟩)
      · rintro (⟨u', i', a0, a1, a2, a3, a4⟩ | e)
        · exact ⟨u', i', a0, a1, a2, (by first | decide | omega), a4⟩
        · exact ⟨u, i, u0, i0, (by first | decide | omega), Or.inr ⟨rfl, (by first | decide | omega)⟩, e.symm⟩
      · rintro ⟨u', i', a0, a1, a2, a3, a4⟩
        by_cases e : u' = u ∧ i' = i
        · rw [e.1, e.2] at a4; exact Or.inr a4.symm
        · exact Or.inl ⟨u', i', a0, a1, a2, (by first | decide | omega), a4⟩
    exact ih n (i + 1) F' B' ⟨fun c i k nn => by rw [x2 c i k nn, f c i k nn], fun c i k x nn => by rw [x3 c i k x nn, z c i k x nn], (by first | decide | omega), T', by rw [x4]; exact x7, by rw [x4]; exact x8, by rw [x4]; exact x10⟩ (by first | decide | omega) (by first | decide | omega) (by first | decide | omega)
theorem x_mts7 {F0 : zF} {B0 : zB} (hK : 812851200 < K) (hS : SG V S) (hR0 : SRm V w S F0 B0) : ∀ (d n : Nat) (u : Int) (F : zF) (B : zB), MS2 w S u 0 F0 F B0 B → 0 ≤ u → u + d = V → d < n → ∃ F' B', f_M_moments_7 K n u w F B = f_M_moments_69 K K 0 w F' B' ∧ MS2 w S V 0 F0 F' B0 B' := by
  have hS' := hS
  have hR0' := hR0
  obtain ⟨⟨v1, v4⟩, hs⟩ := hS
  obtain ⟨w0, h1, hr⟩ := hR0
  intro d
  induction d with
  | zero =>
    intro n u F B h u0 ud hn
    obtain ⟨n, rfl⟩ : ∃ j, n = j + 1 := ⟨n - 1, (by first | decide | omega)⟩
    have e1 : F 13 w 1 = V := by rw [h.1 13 w 1 (by first | decide | omega)]; exact h1
    obtain rfl : u = V := by omega
    rw [f_M_moments_7, if_pos w0, if_pos (by unfold r32; omega), e1, if_pos (by unfold r32; omega), if_pos (by first | decide | omega)]
    exact ⟨F, B, rfl, h⟩
  | succ d ih =>
    intro n u F B h u0 ud hn
    obtain ⟨n, rfl⟩ : ∃ j, n = j + 1 := ⟨n - 1, (by first | decide | omega)⟩
    have e1 : F 13 w 1 = V := by rw [h.1 13 w 1 (by first | decide | omega)]; exact h1
    have g1 := (hs u u0 (by first | decide | omega)).1
    obtain ⟨F1, B1, x1, x2⟩ := x_mts17 (rec := f_M_moments_7 K n) hK hS' hR0' u0 (show u < V by omega) (S u 0 0 0).toNat K 0 F B h (by decide) (by first | decide | omega) (by first | decide | omega)
    rw [f_M_moments_7, if_pos w0, if_pos (by unfold r32; omega), e1, if_pos (by unfold r32; omega), if_neg (by first | decide | omega), x1]
    exact ih n (u + 1) F1 B1 x2 (by first | decide | omega) (by first | decide | omega) (by first | decide | omega)
/-- which event sounds: what is written of it so far -/
def LJ (w : Int) (S : zV) (c : Int) (T : Int → Int) (u t : Int) (B : zB) : Prop := ∀ u' t', 0 ≤ u' → u' < 4 → 0 ≤ t' → t' < c → (u' < u ∨ (u' = u ∧ t' < t)) → (0 ≤ B 13 w 75 (4 * t' + u') ∧ B 13 w 75 (4 * t' + u') < S u' 0 0 0) ∧ S u' 1 (B 13 w 75 (4 * t' + u')) 0 ≤ T t' ∧ (B 13 w 75 (4 * t' + u') + 1 < S u' 0 0 0 → T t' < S u' 1 (B 13 w 75 (4 * t' + u') + 1) 0)
def m75 (w : Int) (B B' : zB) : Prop := ∀ c i k x, ¬ (c = 13 ∧ i = w ∧ k = 75) → B' c i k x = B c i k x
theorem x_mts91 {u t c : Int} {T : Int → Int} {F : zF} {B : zB} {rec69 : Int → Int → zF → zB → zO} {rec : Int → Int → Int → Int → zF → zB → zO} (hK : 812851200 < K) (hS : SG V S) (hR : SRm V w S F B) (u0 : 0 ≤ u) (u1 : u < V) (t0 : 0 ≤ t) (t1 : t < c) (c8 : c ≤ 800) (hT : TR w c T B) : ∀ (d n : Nat) (e : Int), 0 ≤ e → e + d + 1 = S u 0 0 0 → S u 1 e 0 ≤ T t → d < n → ∃ e', f_M_moments_91 rec69 rec K n t e u w F B = rec (t + 1) e' u w F (zup4 B 13 w 75 (4 * t + u) e') ∧ (0 ≤ e' ∧ e' < S u 0 0 0) ∧ S u 1 e' 0 ≤ T t ∧ (e' + 1 < S u 0 0 0 → T t < S u 1 (e' + 1) 0) := by
  obtain ⟨⟨_, v4⟩, hs⟩ := hS
  obtain ⟨w0, _, hr⟩ := hR
  obtain ⟨g1, g2, g3, g4⟩ := hs u u0 u1
  obtain ⟨r1, r2⟩ := hr u u0 u1
  obtain ⟨⟨q0, q1⟩, k1, k2⟩ := hT t t0 t1
  have h157 : ∀ e, f_M_moments_157 rec69 rec K t e u w F B = rec (t + 1) e u w F (zup4 B 13 w 75 (4 * t + u) e) := fun e => by
    unfold f_M_moments_157
    rw [if_pos w0, if_pos (by first | decide | omega)]
  intro d
  induction d with
  | zero =>
    intro n e e0 ed le hn
    obtain ⟨n, rfl⟩ : ∃ j, n = j + 1 := ⟨n - 1, (by first | decide | omega)⟩
    rw [f_M_moments_91, if_pos w0, if_pos (by first | decide | omega), if_pos (by unfold r32; omega), r1, if_pos (by unfold r32; omega), if_pos (by first | decide | omega), h157]
    exact ⟨e, rfl, ⟨e0, (by first | decide | omega)⟩, le, fun z => (by first | decide | omega)⟩
  | succ d ih =>
    intro n e e0 ed le hn
    obtain ⟨n, rfl⟩ : ∃ j, n = j + 1 := ⟨n - 1, (by first | decide | omega)⟩
    obtain ⟨x1, x2, _⟩ := r2 (e + 1) (by first | decide | omega) (by first | decide | omega)
    obtain ⟨y0, y1⟩ := (g3 (e + 1) (by first | decide | omega) (by first | decide | omega)).1
    rw [f_M_moments_91, if_pos w0, if_pos (by first | decide | omega), if_pos (by unfold r32; omega), r1, if_pos (by unfold r32; omega), if_neg (by first | decide | omega), if_pos (by first | decide | omega), if_pos (by first | decide | omega), show 1000 * u + e + 1 = 1000 * u + (e + 1) by omega, x1, x2, k1, k2, L_cmpR hK (FR_r y0) (FR_r q0) (by first | decide | omega) (by first | decide | omega), zb_s, if_pos cmp3.1]
    by_cases z : 0 < (if S u 1 (e + 1) 0 < T t then (-1 : Int) else if S u 1 (e + 1) 0 = T t then 0 else 1)
    · have l : ¬ S u 1 (e + 1) 0 ≤ T t := fun k => by have := cmp3.2.mpr k; omega
      rw [if_pos z, h157]
      exact ⟨e, rfl, ⟨e0, (by first | decide | omega)⟩, le, fun _ => (by first | decide | omega)⟩
    · have l : S u 1 (e + 1) 0 ≤ T t := cmp3.2.mp (by first | decide | omega)
      rw [if_neg z]
      exact ih n (e + 1) (by first | decide | omega) (by first | decide | omega) l (by first | decide | omega)
theorem x_mts82 {u c : Int} {T : Int → Int} {F : zF} {B0 : zB} {rec : Int → Int → zF → zB → zO} (hK : 812851200 < K) (hS : SG V S) (hR0 : SRm V w S F B0) (u0 : 0 ≤ u) (u1 : u < V) (h72 : F 13 w 72 = c) (c8 : 0 ≤ c ∧ c ≤ 800) (hT : TR w c T B0) (hI : SI c T) : ∀ (d n : Nat) (t e : Int) (B : zB), m75 w B0 B → LJ w S c T u t B → 0 ≤ t → t + d = c → (0 ≤ e ∧ e < S u 0 0 0) → (0 < d → S u 1 e 0 ≤ T t) → d < n → ∃ B', f_M_moments_82 rec K n t e u w F B = rec (u + 1) w F B' ∧ m75 w B0 B' ∧ LJ w S c T (u + 1) 0 B' := by
  have w0 := hR0.1
  have v4 := hS.1
  have g1 := (hS.2 u u0 u1).1
  intro d
  induction d with
  | zero =>
    intro n t e B z hL t0 td e0 le hn
    obtain ⟨n, rfl⟩ : ∃ j, n = j + 1 := ⟨n - 1, (by first | decide | omega)⟩
    rw [f_M_moments_82, if_pos w0, if_pos (by unfold r32; omega), h72, if_pos (by unfold r32; omega), if_pos (by first | decide | omega)]
    exact ⟨B, rfl, z, fun u' t' a0 a1 a2 a3 a4 => hL u' t' a0 a1 a2 a3 (by first | decide | omega)⟩
  | succ d ih =>
    intro n t e B z hL t0 td e0 le hn
    obtain ⟨n, rfl⟩ : ∃ j, n = j + 1 := ⟨n - 1, (by first | decide | omega)⟩
    have hR : SRm V w S F B := SRm_f hR0 rfl (fun k x hk => z 13 w k x (by first | decide | omega))
    have hT' : TR w c T B := TR_f hT (fun k x hk => z 13 w k x (by first | decide | omega))
    obtain ⟨e', x1, x2, x3, x4⟩ := x_mts91 (rec69 := rec) (rec := f_M_moments_82 rec K n) hK hS hR u0 u1 t0 (show t < c by omega) c8.2 hT' (S u 0 0 0 - e - 1).toNat K e e0.1 (by first | decide | omega) (le (by first | decide | omega)) (by first | decide | omega)
    rw [f_M_moments_82, if_pos w0, if_pos (by unfold r32; omega), h72, if_pos (by unfold r32; omega), if_neg (by first | decide | omega), x1]
    refine ih n (t + 1) e' _ (fun c i k x nn => by rw [zup4_v, if_neg (by first | decide | omega)]; exact z c i k x nn) (fun u' t' a0 a1 a2 a3 a4 => ?_) (by first | decide | omega) (by first | decide | omega) x2 (fun zd => ?_) (by first | decide | omega)
    · by_cases q : u' = u ∧ t' = t
      · rw [q.1, q.2, show (zup4 B 13 w 75 (4 * t + u) e') 13 w 75 (4 * t + u) = e' by rw [zup4_v, if_pos ⟨rfl, rfl, rfl, rfl⟩]]
        exact ⟨x2, x3, x4⟩
      · rw [show (zup4 B 13 w 75 (4 * t + u) e') 13 w 75 (4 * t' + u') = B 13 w 75 (4 * t' + u') by rw [zup4_v, if_neg (by first | decide | omega)]]
        exact hL u' t' a0 a1 a2 a3 (by first | decide | omega)
    · have := hI t t0 (by first | decide | omega)
      omega
theorem x_mts69 {c : Int} {T : Int → Int} {F : zF} {B0 : zB} (hK : 812851200 < K) (hS : SG V S) (hR0 : SRm V w S F B0) (h72 : F 13 w 72 = c) (c8 : 0 ≤ c ∧ c ≤ 800) (hT : TR w c T B0) (hI : SI c T) : ∀ (d n : Nat) (u : Int) (B : zB), m75 w B0 B → LJ w S c T u 0 B → 0 ≤ u → u + d = V → d < n → ∃ B', f_M_moments_69 K n u w F B = some (0, F, B') ∧ m75 w B0 B' ∧ LJ w S c T V 0 B' := by
  have w0 := hR0.1
  have h1 := hR0.2.1
  have v4 := hS.1
  intro d
  induction d with
  | zero =>
    intro n u B z hL u0 ud hn
    obtain ⟨n, rfl⟩ : ∃ j, n = j + 1 := ⟨n - 1, (by first | decide | omega)⟩
    obtain rfl : u = V := by omega
    rw [f_M_moments_69, if_pos w0, if_pos (by unfold r32; omega), h1, if_pos (by unfold r32; omega), if_pos (by first | decide | omega)]
    exact ⟨B, rfl, z, hL⟩
  | succ d ih =>
    intro n u B z hL u0 ud hn
    obtain ⟨n, rfl⟩ : ∃ j, n = j + 1 := ⟨n - 1, (by first | decide | omega)⟩
    have u1 : u < V := by omega
    obtain ⟨g1, g2, _⟩ := hS.2 u u0 u1
    have hR : SRm V w S F B := SRm_f hR0 rfl (fun k x hk => z 13 w k x (by first | decide | omega))
    have hT' : TR w c T B := TR_f hT (fun k x hk => z 13 w k x (by first | decide | omega))
    obtain ⟨B1, x1, x2, x3⟩ := x_mts82 (rec := f_M_moments_69 K n) hK hS hR u0 u1 h72 c8 hT' hI c.toNat K 0 0 B (fun _ _ _ _ _ => rfl) hL (by decide) (by first | decide | omega) (by first | decide | omega) (fun zd => by rw [g2]; exact (hT' 0 (by decide) (by first | decide | omega)).1.1) (by first | decide | omega)
    rw [f_M_moments_69, if_pos w0, if_pos (by unfold r32; omega), h1, if_pos (by unfold r32; omega), if_neg (by first | decide | omega), x1]
    exact ih n (u + 1) B1 (fun c i k x nn => by rw [x2 c i k x nn, z c i k x nn]) x3 (by first | decide | omega) (by first | decide | omega) (by first | decide | omega)
/-- the reference's moments, exactly -/
def MXo (V w : Int) (S : zV) (T : Int → Int) (F : zF) (B : zB) : Prop := TR w (F 13 w 72) T B ∧ MO V S (F 13 w 72) T ∧ LI V S (F 13 w 72) T (fun u t => B 13 w 75 (4 * t + u))
theorem MXo_f {T : Int → Int} {F F' : zF} {B B' : zB} (h : MXo V w S T F B) (f : F' 13 w 72 = F 13 w 72) (b : ∀ k x, 73 ≤ k → k ≤ 75 → B' 13 w k x = B 13 w k x) : MXo V w S T F' B' := by
  obtain ⟨h1, h2, h3⟩ := h
  unfold MXo
  rw [f]
  refine ⟨TR_f h1 (fun k x hk => b k x (by first | decide | omega) (by first | decide | omega)), h2, fun u t u0 u1 t0 t1 => ?_⟩
  have := h3 u t u0 u1 t0 t1
  simp only [b 75 _ (by decide) (by decide)]
  exact this
theorem x_moments {F : zF} {B : zB} (hK : 812851200 < K) (hS : SG V S) (hR : SRm V w S F B) : ∃ F' B' T, f_M_moments K w F B = some (0, F', B') ∧ MF w F F' ∧ MZ w B B' ∧ MXo V w S T F' B' := by
  have w0 := hR.1
  have v4 := hS.1
  have e : (zup3 F 13 w 72 0) 13 w 72 = 0 := by rw [zup3_v, if_pos ⟨rfl, rfl, rfl⟩]
  have f : MF w F (zup3 F 13 w 72 0) := fun c i k nn => by rw [zup3_v, if_neg nn]
  obtain ⟨F1, B1, x1, x2, x3, x4, T, x5, x6, x7⟩ := x_mts7 hK hS hR V.toNat K 0 (zup3 F 13 w 72 0) B ⟨f, fun _ _ _ _ _ => rfl, (by first | decide | omega), fun _ => 0, fun t t0 t1 => (by first | decide | omega), fun t t0 t1 => (by first | decide | omega), fun x => ⟨fun ⟨t, t0, t1, _⟩ => (by first | decide | omega), fun ⟨u', i', a0, a1, a2, a3, a4⟩ => (by first | decide | omega)⟩⟩ (by decide) (by first | decide | omega) (by first | decide | omega)
  have hR1 : SRm V w S F1 B1 := SRm_f hR (x2 13 w 1 (by first | decide | omega)) (fun k x hk => x3 13 w k x (by first | decide | omega))
  obtain ⟨B2, y1, y2, y3⟩ := x_mts69 hK hS hR1 rfl (by first | decide | omega) x5 x6 V.toNat K 0 B1 (fun _ _ _ _ _ => rfl) (fun u' t' a0 a1 a2 a3 a4 => (by first | decide | omega)) (by decide) (by first | decide | omega) (by first | decide | omega)
  refine ⟨F1, B2, T, ?_, x2, fun c i k x nn => by rw [y2 c i k x (by first | decide | omega), x3 c i k x nn], TR_f x5 (fun k x hk => y2 13 w k x (by first | decide | omega)), ⟨(by first | decide | omega), x6, RS_c x7 (fun x => ⟨?_, ?_⟩)⟩, fun u t u0 u1 t0 t1 => y3 u t u0 (by first | decide | omega) t0 t1 (Or.inl u1)⟩
  · unfold f_M_moments
    rw [if_pos w0, x1, y1]
  · rintro ⟨u', i', a0, a1, a2, a3, a4⟩
    exact ⟨u', i', a0, (by first | decide | omega), a1, a2, a4⟩
  · rintro ⟨u', i', a0, a1, a2, a3, a4⟩
    exact ⟨u', i', a0, a2, a3, Or.inl a1, a4⟩
end
end
section
section
/-! ===== how wide a column is, reference: exactly ===== -/
/-- note y of bar b at place x, among the first U -/
def sNt (V w b x U : Int) (B : zB) (y : Int) : Prop := ∃ u, 0 ≤ u ∧ u < V ∧ 800 * u ≤ y ∧ y < 800 * u + B 13 w 13 u ∧ B 13 w 31 y = b ∧ B 13 w 32 y = nu x ∧ B 13 w 33 y = de x ∧ y < U
def aNt (V w b U : Int) (B : zB) (x : Int) : Prop := 0 ≤ x ∧ ∃ y, sNt V w b x U B y
/-- the signs and points at a place -/
def FQy (V w b x U : Int) (B : zB) (f dt : Int) : Prop := ((f = 0 ∧ ∀ y, sNt V w b x U B y → B 13 w 37 y ≤ 0) ∨ (f = 1 ∧ ∃ y, sNt V w b x U B y ∧ 0 < B 13 w 37 y)) ∧ (0 ≤ dt ∧ dt ≤ 2) ∧ (∀ y, sNt V w b x U B y → B 13 w 35 y ≤ dt) ∧ (dt = 0 ∨ ∃ y, sNt V w b x U B y ∧ B 13 w 35 y = dt)
theorem FQy_c {V w b x U U' f dt : Int} {B : zB} (h : FQy V w b x U B f dt) (e : ∀ y, sNt V w b x U' B y ↔ sNt V w b x U B y) : FQy V w b x U' B f dt := by
  unfold FQy at h ⊢
  simp only [e]
  exact h
theorem FQy_a {V w b x U U' f dt f' dt' y0 : Int} {B : zB} (h : FQy V w b x U B f dt) (e : ∀ y, sNt V w b x U' B y ↔ sNt V w b x U B y ∨ y = y0) (hf : (f = 0 ∧ B 13 w 37 y0 ≤ 0 ∧ f' = 0) ∨ (f' = 1 ∧ (f = 1 ∨ 0 < B 13 w 37 y0))) (hd : (dt' = dt ∧ B 13 w 35 y0 ≤ dt) ∨ (dt' = B 13 w 35 y0 ∧ dt < B 13 w 35 y0 ∧ B 13 w 35 y0 ≤ 2)) : FQy V w b x U' B f' dt' := by
  obtain ⟨h1, h2, h3, h4⟩ := h
  refine ⟨?_, by clear h1 h4; omega, fun y hy => ?_, ?_⟩
  · rcases hf with ⟨a, c, d⟩ | ⟨a, c⟩
    · rcases h1 with ⟨_, g⟩ | ⟨z, _⟩
      · refine Or.inl ⟨d, fun y hy => ?_⟩
        rcases (e y).mp hy with k | k
        · exact g y k
        · rw [k]; exact c
      · omega
    · refine Or.inr ⟨a, ?_⟩
      rcases c with c | c
      · rcases h1 with ⟨z, _⟩ | ⟨_, y, hy, p⟩
        · omega
        · exact ⟨y, (e y).mpr (Or.inl hy), p⟩
      · exact ⟨y0, (e y0).mpr (Or.inr rfl), c⟩
  · rcases (e y).mp hy with k | k
    · have := h3 y k
      clear h1 h4
      omega
    · rw [k]
      clear h1 h4
      omega
  · rcases hd with ⟨a, _⟩ | ⟨a, c, _⟩
    · rw [a]
      rcases h4 with z | ⟨y, hy, p⟩
      · exact Or.inl z
      · exact Or.inr ⟨y, (e y).mpr (Or.inl hy), p⟩
    · exact Or.inr ⟨y0, (e y0).mpr (Or.inr rfl), a.symm⟩
/-- what a column's width comes to: lg for the time till the next -/
def WDx (V w b x : Int) (B : zB) (lg r : Int) : Prop := ∃ f dt, FQy V w b x (800 * V) B f dt ∧ r = 8 + 4 * lg + (if f = 0 then 0 else 6) + 3 * dt
theorem sNt_f {V w b x U : Int} {B B' : zB} (f : ∀ k z, k ≤ 41 → B' 13 w k z = B 13 w k z) (y : Int) : sNt V w b x U B' y ↔ sNt V w b x U B y := by
  have f13 : ∀ z, B' 13 w 13 z = B 13 w 13 z := fun z => f 13 z (by decide)
  have f31 : ∀ z, B' 13 w 31 z = B 13 w 31 z := fun z => f 31 z (by decide)
  have f32 : ∀ z, B' 13 w 32 z = B 13 w 32 z := fun z => f 32 z (by decide)
  have f33 : ∀ z, B' 13 w 33 z = B 13 w 33 z := fun z => f 33 z (by decide)
  unfold sNt
  simp only [f13, f31, f32, f33]
theorem FQy_f {V w b x U p q : Int} {B B' : zB} (f : ∀ k z, k ≤ 41 → B' 13 w k z = B 13 w k z) (h : FQy V w b x U B p q) : FQy V w b x U B' p q := by
  have f35 : ∀ z, B' 13 w 35 z = B 13 w 35 z := fun z => f 35 z (by decide)
  have f37 : ∀ z, B' 13 w 37 z = B 13 w 37 z := fun z => f 37 z (by decide)
  unfold FQy at h ⊢
  simp only [sNt_f f, f35, f37]
  exact h
theorem WDx_f {V w b x lg r : Int} {B B' : zB} (f : ∀ k z, k ≤ 41 → B' 13 w k z = B 13 w k z) (h : WDx V w b x B lg r) : WDx V w b x B' lg r := by
  obtain ⟨p, q, h1, h2⟩ := h
  exact ⟨p, q, FQy_f f h1, h2⟩
theorem aNt_f {V w b U x : Int} {B B' : zB} (f : ∀ k z, k ≤ 41 → B' 13 w k z = B 13 w k z) : aNt V w b U B' x ↔ aNt V w b U B x := by
  unfold aNt
  simp only [sNt_f f]
/-- a width is one -/
theorem FQy_u {V w b x U f dt f' dt' : Int} {B : zB} (h : FQy V w b x U B f dt) (h' : FQy V w b x U B f' dt') : f = f' ∧ dt = dt' := by
  obtain ⟨a1, a2, a3, a4⟩ := h
  obtain ⟨b1, b2, b3, b4⟩ := h'
  refine ⟨?_, ?_⟩
  · rcases a1 with ⟨z, g⟩ | ⟨z, y, hy, p⟩
    · rcases b1 with ⟨z', _⟩ | ⟨z', y, hy, p⟩
      · omega
      · have := g y hy
        omega
    · rcases b1 with ⟨z', g⟩ | ⟨z', _⟩
      · have := g y hy
        omega
      · omega
  · rcases a4 with z | ⟨y, hy, p⟩
    · rcases b4 with z' | ⟨y', hy', p'⟩
      · omega
      · have := a3 y' hy'
        omega
    · have := b3 y hy
      rcases b4 with z' | ⟨y', hy', p'⟩
      · omega
      · have := a3 y' hy'
        omega
theorem WDx_u {V w b x lg r r' : Int} {B : zB} (h : WDx V w b x B lg r) (h' : WDx V w b x B lg r') : r = r' := by
  obtain ⟨f, dt, h1, h2⟩ := h
  obtain ⟨f', dt', h1', h2'⟩ := h'
  obtain ⟨e1, e2⟩ := FQy_u h1 h1'
  rw [h2, h2', e1, e2]
/-- how often a number may be halved -/
def lw2 : Nat → Int → Int
  | 0, _ => 0
  | n + 1, x => if x < 2 then 0 else 1 + lw2 n (x / 2)
theorem p2_1 : ∀ k : Nat, 1 ≤ (2 : Int) ^ k
  | 0 => by decide
  | k + 1 => by
    have := p2_1 k
    rw [Int.pow_succ]
    omega
theorem lw2_b : ∀ (k n : Nat) (X : Int), k < n → (k = 0 ∨ (2 : Int) ^ k ≤ X) → X < (2 : Int) ^ (k + 1) → lw2 n X = k := by
  intro k
  induction k with
  | zero =>
    intro n X kn _ h
    obtain ⟨n, rfl⟩ : ∃ j, n = j + 1 := ⟨n - 1, (by first | decide | omega)⟩
    have : (2 : Int) ^ (0 + 1) = 2 := by decide
    rw [lw2, if_pos (by first | decide | omega)]
    rfl
  | succ k ih =>
    intro n X kn h h'
    obtain ⟨n, rfl⟩ : ∃ j, n = j + 1 := ⟨n - 1, (by first | decide | omega)⟩
    have p0 := p2_1 k
    have p1 : (2 : Int) ^ (k + 1) = 2 ^ k * 2 := Int.pow_succ 2 k
    have p2 : (2 : Int) ^ (k + 1 + 1) = 2 ^ (k + 1) * 2 := Int.pow_succ 2 (k + 1)
    have h2 : (2 : Int) ^ (k + 1) ≤ X := h.resolve_left (by first | decide | omega)
    rw [lw2, if_neg (by first | decide | omega), ih n (X / 2) (by first | decide | omega) (Or.inr (by first | decide | omega)) (by first | decide | omega)]
    omega
theorem lg_c {D m : Int} (D0 : 0 ≤ D) : 128 * nu D < de D * m ↔ D / 6350400 < m := by
  obtain ⟨d0, _, _, e⟩ := FR_r D0
  have hw : WW = 812851200 := rfl
  rw [hw] at e
  have a1 : D * 128 * de D = D * de D * 128 := by ac_rfl
  have a2 : m * 812851200 * de D = de D * m * 812851200 := by ac_rfl
  constructor
  · intro h
    have h3 : (D * 128) * de D < (m * 812851200) * de D := by omega
    have := Int.lt_of_mul_lt_mul_right h3 (by first | decide | omega)
    omega
  · intro h
    have h0 : D * 128 < m * 812851200 := by omega
    have h3 := Int.mul_lt_mul_of_pos_right h0 (show 0 < de D by omega)
    omega
theorem zlsh_1 {a : Int} (h0 : 0 ≤ a) (h1 : a < 1099511627776) : zlshl a 1 = a * 2 := by
  obtain ⟨n, rfl⟩ := Int.eq_ofNat_of_zero_le h0
  have k1 : (BitVec.ofInt 64 (n : Int)).toNat = n := by
    rw [BitVec.toNat_ofInt]
    show ((n : Int) % 18446744073709551616).toNat = n
    omega
  have e0 : (BitVec.ofInt 64 (n : Int) <<< (1 : Nat)).toNat = n * 2 := by
    rw [BitVec.toNat_shiftLeft, k1, Nat.shiftLeft_eq]
    show n * 2 % 18446744073709551616 = n * 2
    omega
  show (BitVec.ofInt 64 (n : Int) <<< (1 : Nat)).toInt = _
  rw [BitVec.toInt_eq_toNat_of_lt (by rw [e0]; omega), e0]
  omega
theorem zlsh_2 {a : Int} (h0 : 0 ≤ a) (h1 : a < 1099511627776) : zlshl a 2 = a * 4 := by
  obtain ⟨n, rfl⟩ := Int.eq_ofNat_of_zero_le h0
  have k1 : (BitVec.ofInt 64 (n : Int)).toNat = n := by
    rw [BitVec.toNat_ofInt]
    show ((n : Int) % 18446744073709551616).toNat = n
    omega
  have e0 : (BitVec.ofInt 64 (n : Int) <<< (2 : Nat)).toNat = n * 4 := by
    rw [BitVec.toNat_shiftLeft, k1, Nat.shiftLeft_eq]
    show n * 4 % 18446744073709551616 = n * 4
    omega
  show (BitVec.ofInt 64 (n : Int) <<< (2 : Nat)).toInt = _
  rw [BitVec.toInt_eq_toNat_of_lt (by rw [e0]; omega), e0]
  omega
theorem zlsh_3 {a : Int} (h0 : 0 ≤ a) (h1 : a < 1099511627776) : zlshl a 3 = a * 8 := by
  obtain ⟨n, rfl⟩ := Int.eq_ofNat_of_zero_le h0
  have k1 : (BitVec.ofInt 64 (n : Int)).toNat = n := by
    rw [BitVec.toNat_ofInt]
    show ((n : Int) % 18446744073709551616).toNat = n
    omega
  have e0 : (BitVec.ofInt 64 (n : Int) <<< (3 : Nat)).toNat = n * 8 := by
    rw [BitVec.toNat_shiftLeft, k1, Nat.shiftLeft_eq]
    show n * 8 % 18446744073709551616 = n * 8
    omega
  show (BitVec.ofInt 64 (n : Int) <<< (3 : Nat)).toInt = _
  rw [BitVec.toInt_eq_toNat_of_lt (by rw [e0]; omega), e0]
  omega
theorem zlsh_4 {a : Int} (h0 : 0 ≤ a) (h1 : a < 1099511627776) : zlshl a 4 = a * 16 := by
  obtain ⟨n, rfl⟩ := Int.eq_ofNat_of_zero_le h0
  have k1 : (BitVec.ofInt 64 (n : Int)).toNat = n := by
    rw [BitVec.toNat_ofInt]
    show ((n : Int) % 18446744073709551616).toNat = n
    omega
  have e0 : (BitVec.ofInt 64 (n : Int) <<< (4 : Nat)).toNat = n * 16 := by
    rw [BitVec.toNat_shiftLeft, k1, Nat.shiftLeft_eq]
    show n * 16 % 18446744073709551616 = n * 16
    omega
  show (BitVec.ofInt 64 (n : Int) <<< (4 : Nat)).toInt = _
  rw [BitVec.toInt_eq_toNat_of_lt (by rw [e0]; omega), e0]
  omega
theorem zlsh_5 {a : Int} (h0 : 0 ≤ a) (h1 : a < 1099511627776) : zlshl a 5 = a * 32 := by
  obtain ⟨n, rfl⟩ := Int.eq_ofNat_of_zero_le h0
  have k1 : (BitVec.ofInt 64 (n : Int)).toNat = n := by
    rw [BitVec.toNat_ofInt]
    show ((n : Int) % 18446744073709551616).toNat = n
    omega
  have e0 : (BitVec.ofInt 64 (n : Int) <<< (5 : Nat)).toNat = n * 32 := by
    rw [BitVec.toNat_shiftLeft, k1, Nat.shiftLeft_eq]
    show n * 32 % 18446744073709551616 = n * 32
    omega
  show (BitVec.ofInt 64 (n : Int) <<< (5 : Nat)).toInt = _
  rw [BitVec.toInt_eq_toNat_of_lt (by rw [e0]; omega), e0]
  omega
theorem zlsh_6 {a : Int} (h0 : 0 ≤ a) (h1 : a < 1099511627776) : zlshl a 6 = a * 64 := by
  obtain ⟨n, rfl⟩ := Int.eq_ofNat_of_zero_le h0
  have k1 : (BitVec.ofInt 64 (n : Int)).toNat = n := by
    rw [BitVec.toNat_ofInt]
    show ((n : Int) % 18446744073709551616).toNat = n
    omega
  have e0 : (BitVec.ofInt 64 (n : Int) <<< (6 : Nat)).toNat = n * 64 := by
    rw [BitVec.toNat_shiftLeft, k1, Nat.shiftLeft_eq]
    show n * 64 % 18446744073709551616 = n * 64
    omega
  show (BitVec.ofInt 64 (n : Int) <<< (6 : Nat)).toInt = _
  rw [BitVec.toInt_eq_toNat_of_lt (by rw [e0]; omega), e0]
  omega
theorem zlsh_7 {a : Int} (h0 : 0 ≤ a) (h1 : a < 1099511627776) : zlshl a 7 = a * 128 := by
  obtain ⟨n, rfl⟩ := Int.eq_ofNat_of_zero_le h0
  have k1 : (BitVec.ofInt 64 (n : Int)).toNat = n := by
    rw [BitVec.toNat_ofInt]
    show ((n : Int) % 18446744073709551616).toNat = n
    omega
  have e0 : (BitVec.ofInt 64 (n : Int) <<< (7 : Nat)).toNat = n * 128 := by
    rw [BitVec.toNat_shiftLeft, k1, Nat.shiftLeft_eq]
    show n * 128 % 18446744073709551616 = n * 128
    omega
  show (BitVec.ofInt 64 (n : Int) <<< (7 : Nat)).toInt = _
  rw [BitVec.toInt_eq_toNat_of_lt (by rw [e0]; omega), e0]
  omega
theorem zlsh_8 {a : Int} (h0 : 0 ≤ a) (h1 : a < 1099511627776) : zlshl a 8 = a * 256 := by
  obtain ⟨n, rfl⟩ := Int.eq_ofNat_of_zero_le h0
  have k1 : (BitVec.ofInt 64 (n : Int)).toNat = n := by
    rw [BitVec.toNat_ofInt]
    show ((n : Int) % 18446744073709551616).toNat = n
    omega
  have e0 : (BitVec.ofInt 64 (n : Int) <<< (8 : Nat)).toNat = n * 256 := by
    rw [BitVec.toNat_shiftLeft, k1, Nat.shiftLeft_eq]
    show n * 256 % 18446744073709551616 = n * 256
    omega
  show (BitVec.ofInt 64 (n : Int) <<< (8 : Nat)).toInt = _
  rw [BitVec.toInt_eq_toNat_of_lt (by rw [e0]; omega), e0]
  omega
theorem zlsh_9 {a : Int} (h0 : 0 ≤ a) (h1 : a < 1099511627776) : zlshl a 9 = a * 512 := by
  obtain ⟨n, rfl⟩ := Int.eq_ofNat_of_zero_le h0
  have k1 : (BitVec.ofInt 64 (n : Int)).toNat = n := by
    rw [BitVec.toNat_ofInt]
    show ((n : Int) % 18446744073709551616).toNat = n
    omega
  have e0 : (BitVec.ofInt 64 (n : Int) <<< (9 : Nat)).toNat = n * 512 := by
    rw [BitVec.toNat_shiftLeft, k1, Nat.shiftLeft_eq]
    show n * 512 % 18446744073709551616 = n * 512
    omega
  show (BitVec.ofInt 64 (n : Int) <<< (9 : Nat)).toInt = _
  rw [BitVec.toInt_eq_toNat_of_lt (by rw [e0]; omega), e0]
  omega
theorem zlsh_10 {a : Int} (h0 : 0 ≤ a) (h1 : a < 1099511627776) : zlshl a 10 = a * 1024 := zlshl10 h0 h1
theorem x_wid92 {K n : Nat} {w b j D : Int} {F : zF} {B : zB} (D0 : 0 ≤ D) (D1 : D ≤ 4877107200) (e1 : F 14 0 1 = de D) : f_M_wide_92 K (n + 1 + 1 + 1 + 1 + 1 + 1 + 1 + 1 + 1 + 1) 0 (128 * nu D) w b j F B = f_M_wide_122 K K 0 0 0 (lw2 40 (D / 6350400)) w b j F B := by
  have nr := nd_r D0 (by first | decide | omega)
  have s0 : ∀ n, f_M_wide_92 K (n + 1) 0 (128 * nu D) w b j F B = if D / 6350400 < 2 then f_M_wide_122 K K 0 0 0 0 w b j F B else f_M_wide_92 K n 1 (128 * nu D) w b j F B := fun n => by
    rw [f_M_wide_92, if_pos (show r64 (128 * nu D) by unfold r64; omega), if_pos (zlshl_R _ _), e1, show (0 : Int) + 1 = 1 from rfl, zlsh_1 (by first | decide | omega) (by first | decide | omega)]
    by_cases z : D / 6350400 < 2
    · rw [if_pos z, if_pos (zcmp_lt.mpr ((lg_c D0).mpr z))]
    · rw [if_neg z, if_neg (fun h => z ((lg_c D0).mp (zcmp_lt.mp h)))]
  have s1 : ∀ n, f_M_wide_92 K (n + 1) 1 (128 * nu D) w b j F B = if D / 6350400 < 4 then f_M_wide_122 K K 0 0 0 1 w b j F B else f_M_wide_92 K n 2 (128 * nu D) w b j F B := fun n => by
    rw [f_M_wide_92, if_pos (show r64 (128 * nu D) by unfold r64; omega), if_pos (zlshl_R _ _), e1, show (1 : Int) + 1 = 2 from rfl, zlsh_2 (by first | decide | omega) (by first | decide | omega)]
    by_cases z : D / 6350400 < 4
    · rw [if_pos z, if_pos (zcmp_lt.mpr ((lg_c D0).mpr z))]
    · rw [if_neg z, if_neg (fun h => z ((lg_c D0).mp (zcmp_lt.mp h)))]
  have s2 : ∀ n, f_M_wide_92 K (n + 1) 2 (128 * nu D) w b j F B = if D / 6350400 < 8 then f_M_wide_122 K K 0 0 0 2 w b j F B else f_M_wide_92 K n 3 (128 * nu D) w b j F B := fun n => by
    rw [f_M_wide_92, if_pos (show r64 (128 * nu D) by unfold r64; omega), if_pos (zlshl_R _ _), e1, show (2 : Int) + 1 = 3 from rfl, zlsh_3 (by first | decide | omega) (by first | decide | omega)]
    by_cases z : D / 6350400 < 8
    · rw [if_pos z, if_pos (zcmp_lt.mpr ((lg_c D0).mpr z))]
    · rw [if_neg z, if_neg (fun h => z ((lg_c D0).mp (zcmp_lt.mp h)))]
  have s3 : ∀ n, f_M_wide_92 K (n + 1) 3 (128 * nu D) w b j F B = if D / 6350400 < 16 then f_M_wide_122 K K 0 0 0 3 w b j F B else f_M_wide_92 K n 4 (128 * nu D) w b j F B := fun n => by
    rw [f_M_wide_92, if_pos (show r64 (128 * nu D) by unfold r64; omega), if_pos (zlshl_R _ _), e1, show (3 : Int) + 1 = 4 from rfl, zlsh_4 (by first | decide | omega) (by first | decide | omega)]
    by_cases z : D / 6350400 < 16
    · rw [if_pos z, if_pos (zcmp_lt.mpr ((lg_c D0).mpr z))]
    · rw [if_neg z, if_neg (fun h => z ((lg_c D0).mp (zcmp_lt.mp h)))]
  have s4 : ∀ n, f_M_wide_92 K (n + 1) 4 (128 * nu D) w b j F B = if D / 6350400 < 32 then f_M_wide_122 K K 0 0 0 4 w b j F B else f_M_wide_92 K n 5 (128 * nu D) w b j F B := fun n => by
    rw [f_M_wide_92, if_pos (show r64 (128 * nu D) by unfold r64; omega), if_pos (zlshl_R _ _), e1, show (4 : Int) + 1 = 5 from rfl, zlsh_5 (by first | decide | omega) (by first | decide | omega)]
    by_cases z : D / 6350400 < 32
    · rw [if_pos z, if_pos (zcmp_lt.mpr ((lg_c D0).mpr z))]
    · rw [if_neg z, if_neg (fun h => z ((lg_c D0).mp (zcmp_lt.mp h)))]
  have s5 : ∀ n, f_M_wide_92 K (n + 1) 5 (128 * nu D) w b j F B = if D / 6350400 < 64 then f_M_wide_122 K K 0 0 0 5 w b j F B else f_M_wide_92 K n 6 (128 * nu D) w b j F B := fun n => by
    rw [f_M_wide_92, if_pos (show r64 (128 * nu D) by unfold r64; omega), if_pos (zlshl_R _ _), e1, show (5 : Int) + 1 = 6 from rfl, zlsh_6 (by first | decide | omega) (by first | decide | omega)]
    by_cases z : D / 6350400 < 64
    · rw [if_pos z, if_pos (zcmp_lt.mpr ((lg_c D0).mpr z))]
    · rw [if_neg z, if_neg (fun h => z ((lg_c D0).mp (zcmp_lt.mp h)))]
  have s6 : ∀ n, f_M_wide_92 K (n + 1) 6 (128 * nu D) w b j F B = if D / 6350400 < 128 then f_M_wide_122 K K 0 0 0 6 w b j F B else f_M_wide_92 K n 7 (128 * nu D) w b j F B := fun n => by
    rw [f_M_wide_92, if_pos (show r64 (128 * nu D) by unfold r64; omega), if_pos (zlshl_R _ _), e1, show (6 : Int) + 1 = 7 from rfl, zlsh_7 (by first | decide | omega) (by first | decide | omega)]
    by_cases z : D / 6350400 < 128
    · rw [if_pos z, if_pos (zcmp_lt.mpr ((lg_c D0).mpr z))]
    · rw [if_neg z, if_neg (fun h => z ((lg_c D0).mp (zcmp_lt.mp h)))]
  have s7 : ∀ n, f_M_wide_92 K (n + 1) 7 (128 * nu D) w b j F B = if D / 6350400 < 256 then f_M_wide_122 K K 0 0 0 7 w b j F B else f_M_wide_92 K n 8 (128 * nu D) w b j F B := fun n => by
    rw [f_M_wide_92, if_pos (show r64 (128 * nu D) by unfold r64; omega), if_pos (zlshl_R _ _), e1, show (7 : Int) + 1 = 8 from rfl, zlsh_8 (by first | decide | omega) (by first | decide | omega)]
    by_cases z : D / 6350400 < 256
    · rw [if_pos z, if_pos (zcmp_lt.mpr ((lg_c D0).mpr z))]
    · rw [if_neg z, if_neg (fun h => z ((lg_c D0).mp (zcmp_lt.mp h)))]
  have s8 : ∀ n, f_M_wide_92 K (n + 1) 8 (128 * nu D) w b j F B = if D / 6350400 < 512 then f_M_wide_122 K K 0 0 0 8 w b j F B else f_M_wide_92 K n 9 (128 * nu D) w b j F B := fun n => by
    rw [f_M_wide_92, if_pos (show r64 (128 * nu D) by unfold r64; omega), if_pos (zlshl_R _ _), e1, show (8 : Int) + 1 = 9 from rfl, zlsh_9 (by first | decide | omega) (by first | decide | omega)]
    by_cases z : D / 6350400 < 512
    · rw [if_pos z, if_pos (zcmp_lt.mpr ((lg_c D0).mpr z))]
    · rw [if_neg z, if_neg (fun h => z ((lg_c D0).mp (zcmp_lt.mp h)))]
  have s9 : ∀ n, f_M_wide_92 K (n + 1) 9 (128 * nu D) w b j F B = if D / 6350400 < 1024 then f_M_wide_122 K K 0 0 0 9 w b j F B else f_M_wide_92 K n 10 (128 * nu D) w b j F B := fun n => by
    rw [f_M_wide_92, if_pos (show r64 (128 * nu D) by unfold r64; omega), if_pos (zlshl_R _ _), e1, show (9 : Int) + 1 = 10 from rfl, zlsh_10 (by first | decide | omega) (by first | decide | omega)]
    by_cases z : D / 6350400 < 1024
    · rw [if_pos z, if_pos (zcmp_lt.mpr ((lg_c D0).mpr z))]
    · rw [if_neg z, if_neg (fun h => z ((lg_c D0).mp (zcmp_lt.mp h)))]
  by_cases z0 : D / 6350400 < 2
  · rw [s0, if_pos z0, lw2_b 0 40 (D / 6350400) (by decide) (Or.inl rfl) (by rw [show (2 : Int) ^ (0 + 1) = 2 by decide]; omega)]
    rfl
  by_cases z1 : D / 6350400 < 4
  · rw [s0, if_neg z0, s1, if_pos z1, lw2_b 1 40 (D / 6350400) (by decide) (Or.inr (by rw [show (2 : Int) ^ 1 = 2 by decide]; omega)) (by rw [show (2 : Int) ^ (1 + 1) = 4 by decide]; omega)]
    rfl
  by_cases z2 : D / 6350400 < 8
  · rw [s0, if_neg z0, s1, if_neg z1, s2, if_pos z2, lw2_b 2 40 (D / 6350400) (by decide) (Or.inr (by rw [show (2 : Int) ^ 2 = 4 by decide]; omega)) (by rw [show (2 : Int) ^ (2 + 1) = 8 by decide]; omega)]
    rfl
  by_cases z3 : D / 6350400 < 16
  · rw [s0, if_neg z0, s1, if_neg z1, s2, if_neg z2, s3, if_pos z3, lw2_b 3 40 (D / 6350400) (by decide) (Or.inr (by rw [show (2 : Int) ^ 3 = 8 by decide]; omega)) (by rw [show (2 : Int) ^ (3 + 1) = 16 by decide]; omega)]
    rfl
  by_cases z4 : D / 6350400 < 32
  · rw [s0, if_neg z0, s1, if_neg z1, s2, if_neg z2, s3, if_neg z3, s4, if_pos z4, lw2_b 4 40 (D / 6350400) (by decide) (Or.inr (by rw [show (2 : Int) ^ 4 = 16 by decide]; omega)) (by rw [show (2 : Int) ^ (4 + 1) = 32 by decide]; omega)]
    rfl
  by_cases z5 : D / 6350400 < 64
  · rw [s0, if_neg z0, s1, if_neg z1, s2, if_neg z2, s3, if_neg z3, s4, if_neg z4, s5, if_pos z5, lw2_b 5 40 (D / 6350400) (by decide) (Or.inr (by rw [show (2 : Int) ^ 5 = 32 by decide]; omega)) (by rw [show (2 : Int) ^ (5 + 1) = 64 by decide]; omega)]
    rfl
  by_cases z6 : D / 6350400 < 128
  · rw [s0, if_neg z0, s1, if_neg z1, s2, if_neg z2, s3, if_neg z3, s4, if_neg z4, s5, if_neg z5, s6, if_pos z6, lw2_b 6 40 (D / 6350400) (by decide) (Or.inr (by rw [show (2 : Int) ^ 6 = 64 by decide]; omega)) (by rw [show (2 : Int) ^ (6 + 1) = 128 by decide]; omega)]
    rfl
  by_cases z7 : D / 6350400 < 256
  · rw [s0, if_neg z0, s1, if_neg z1, s2, if_neg z2, s3, if_neg z3, s4, if_neg z4, s5, if_neg z5, s6, if_neg z6, s7, if_pos z7, lw2_b 7 40 (D / 6350400) (by decide) (Or.inr (by rw [show (2 : Int) ^ 7 = 128 by decide]; omega)) (by rw [show (2 : Int) ^ (7 + 1) = 256 by decide]; omega)]
    rfl
  by_cases z8 : D / 6350400 < 512
  · rw [s0, if_neg z0, s1, if_neg z1, s2, if_neg z2, s3, if_neg z3, s4, if_neg z4, s5, if_neg z5, s6, if_neg z6, s7, if_neg z7, s8, if_pos z8, lw2_b 8 40 (D / 6350400) (by decide) (Or.inr (by rw [show (2 : Int) ^ 8 = 256 by decide]; omega)) (by rw [show (2 : Int) ^ (8 + 1) = 512 by decide]; omega)]
    rfl
  rw [s0, if_neg z0, s1, if_neg z1, s2, if_neg z2, s3, if_neg z3, s4, if_neg z4, s5, if_neg z5, s6, if_neg z6, s7, if_neg z7, s8, if_neg z8, s9, if_pos (by first | decide | omega), lw2_b 9 40 (D / 6350400) (by decide) (Or.inr (by rw [show (2 : Int) ^ 9 = 512 by decide]; omega)) (by rw [show (2 : Int) ^ (9 + 1) = 1024 by decide]; omega)]
  rfl
theorem x_wid134 {K : Nat} {V w b j d7 x : Int} {F : zF} {B : zB} (hR : RDW V w F B) (hX : XS B) (hb : r32 b) (j0 : 0 ≤ j ∧ j < 3200) (x0 : 0 ≤ x ∧ x ≤ 1000000000000) (hj : CP w B j x) {u : Int} (u0 : 0 ≤ u) (u1 : u < V) {rec : Int → Int → Int → Int → Int → Int → Int → zF → zB → zO} : ∀ (n : Nat) (i f dt : Int), FQy V w b x (800 * u + i) B f dt → 0 ≤ i → i ≤ B 13 w 13 u → B 13 w 13 u - i < n → ∃ f' dt', f_M_wide_134 rec K n i u f dt d7 w b j F B = rec (u + 1) f' dt' d7 w b j F B ∧ FQy V w b x (800 * (u + 1)) B f' dt' := by
  have b0 := rd_0 hR
  have bv := rd_v hR u0 u1
  have nx := nd_r x0.1 x0.2
  have hV4 : V ≤ 4 := b0.2.1.2.2
  intro n
  induction n with
  | zero => intro i f dt _ _ _ hk; exfalso; omega
  | succ n ih =>
    intro i f dt h i0 i1 hk
    have hf : r32 f := by
      rcases h.1 with ⟨z, _⟩ | ⟨z, _⟩
      · rw [z]; decide
      · rw [z]; decide
    have hd := h.2.1
    rw [f_M_wide_134, if_pos b0.1, if_pos (show 0 ≤ u ∧ u < 4 by omega), if_pos (show r32 i by unfold r32; omega), if_pos (show r32 (B 13 w 13 u) by unfold r32; omega)]
    by_cases h1 : B 13 w 13 u ≤ i
    · rw [if_pos h1]
      refine ⟨f, dt, rfl, FQy_c h (fun y => ⟨fun hy => ?_, fun hy => ?_⟩)⟩
      · obtain ⟨u', a0, a1, a2, a3, a4, a5, a6, a7⟩ := hy
        have := rd_v hR a0 a1
        refine ⟨u', a0, a1, a2, a3, a4, a5, a6, ?_⟩
        by_cases e : u' = u
        · rw [e] at a3; omega
        · omega
      · obtain ⟨u', a0, a1, a2, a3, a4, a5, a6, a7⟩ := hy
        exact ⟨u', a0, a1, a2, a3, a4, a5, a6, (by first | decide | omega)⟩
    have nn := rd_n (y := 800 * u + i) hR u0 u1 (by first | decide | omega) (by first | decide | omega)
    obtain ⟨p, ⟨p0, p1⟩, p2, p3⟩ := rd_q (y := 800 * u + i) hR u0 u1 (by first | decide | omega) (by first | decide | omega)
    have b6 := barV_6 b0.2.2.2.1 (rd_5 hR)
    have np := nd_r p0 (by first | decide | omega)
    have a8 := hX.2 w (800 * u + i)
    -- a note that is not there
    have no : ¬ (B 13 w 31 (800 * u + i) = b ∧ B 13 w 32 (800 * u + i) = nu x ∧ B 13 w 33 (800 * u + i) = de x) → ∃ f' dt', f_M_wide_134 rec K n (i + 1) u f dt d7 w b j F B = rec (u + 1) f' dt' d7 w b j F B ∧ FQy V w b x (800 * (u + 1)) B f' dt' := fun hn => by
      refine ih (i + 1) f dt (FQy_c h (fun y => ⟨fun hy => ?_, fun hy => ?_⟩)) (by first | decide | omega) (by first | decide | omega) (by first | decide | omega)
      · obtain ⟨u', a0, a1, a2, a3, a4, a5, a6, a7⟩ := hy
        refine ⟨u', a0, a1, a2, a3, a4, a5, a6, ?_⟩
        by_cases e : y = 800 * u + i
        · rw [e] at a4 a5 a6
          exact absurd ⟨a4, a5, a6⟩ hn
        · omega
      · obtain ⟨u', a0, a1, a2, a3, a4, a5, a6, a7⟩ := hy
        exact ⟨u', a0, a1, a2, a3, a4, a5, a6, (by first | decide | omega)⟩
    rw [if_neg h1, if_pos (show 0 ≤ 800 * u + i ∧ 800 * u + i < 3200 by omega), if_pos (show r32 (B 13 w 31 (800 * u + i)) by unfold r32; omega), if_pos hb]
    by_cases h3 : B 13 w 31 (800 * u + i) = b
    case neg =>
      rw [if_neg h3, f_M_wide_248]
      exact no (fun z => h3 z.1)
    rw [if_pos h3, if_pos j0, if_pos (show r64 (B 13 w 32 (800 * u + i)) by rw [p2]; unfold r64; omega), if_pos (show r64 (B 13 w 43 j) by rw [hj.1]; unfold r64; omega)]
    by_cases h5 : zcmp (B 13 w 32 (800 * u + i)) (B 13 w 43 j) = 0
    case neg =>
      rw [if_neg h5, f_M_wide_248]
      exact no (fun z => h5 (zcmp_0.mpr (by rw [z.2.1, hj.1])))
    rw [if_pos h5, if_pos (show r64 (B 13 w 33 (800 * u + i)) by rw [p3]; unfold r64; omega), if_pos (show r64 (B 13 w 44 j) by rw [hj.2]; unfold r64; omega)]
    by_cases h6 : zcmp (B 13 w 33 (800 * u + i)) (B 13 w 44 j) = 0
    case neg =>
      rw [if_neg h6, f_M_wide_248]
      exact no (fun z => h6 (zcmp_0.mpr (by rw [z.2.2, hj.2])))
    have g5 : B 13 w 32 (800 * u + i) = nu x := by rw [zcmp_0.mp h5]; exact hj.1
    have g6 : B 13 w 33 (800 * u + i) = de x := by rw [zcmp_0.mp h6]; exact hj.2
    have ey : ∀ y, sNt V w b x (800 * u + (i + 1)) B y ↔ sNt V w b x (800 * u + i) B y ∨ y = 800 * u + i := fun y => by
      constructor
      · intro hy
        obtain ⟨u', a0, a1, a2, a3, a4, a5, a6, a7⟩ := hy
        by_cases e : y = 800 * u + i
        · exact Or.inr e
        · exact Or.inl ⟨u', a0, a1, a2, a3, a4, a5, a6, (by first | decide | omega)⟩
      · intro hy
        rcases hy with hy | e
        · obtain ⟨u', a0, a1, a2, a3, a4, a5, a6, a7⟩ := hy
          exact ⟨u', a0, a1, a2, a3, a4, a5, a6, (by first | decide | omega)⟩
        · rw [e]
          exact ⟨u, u0, u1, (by first | decide | omega), (by first | decide | omega), h3, g5, g6, (by first | decide | omega)⟩
    have fin : ∀ s0 : Int, (f = 0 ∧ B 13 w 37 (800 * u + i) ≤ 0 ∧ s0 = 0) ∨ (s0 = 1 ∧ (f = 1 ∨ 0 < B 13 w 37 (800 * u + i))) → ∃ f' dt', f_M_wide_225 rec (f_M_wide_134 rec K n) K (800 * u + i) i u dt d7 w b j s0 F B = rec (u + 1) f' dt' d7 w b j F B ∧ FQy V w b x (800 * (u + 1)) B f' dt' := fun s0 hs => by
      unfold f_M_wide_225
      rw [if_pos b0.1, if_pos (show 0 ≤ 800 * u + i ∧ 800 * u + i < 3200 by omega), if_pos (show r32 (B 13 w 35 (800 * u + i)) by unfold r32; omega), if_pos (show r32 dt by unfold r32; omega)]
      by_cases z : B 13 w 35 (800 * u + i) ≤ dt
      · rw [if_pos z, f_M_wide_248]
        exact ih (i + 1) s0 dt (FQy_a h ey hs (Or.inl ⟨rfl, z⟩)) (by first | decide | omega) (by first | decide | omega) (by first | decide | omega)
      · rw [if_neg z, f_M_wide_248]
        exact ih (i + 1) s0 _ (FQy_a h ey hs (Or.inr ⟨rfl, (by first | decide | omega), (by first | decide | omega)⟩)) (by first | decide | omega) (by first | decide | omega) (by first | decide | omega)
    rw [if_pos h6, if_pos hf]
    by_cases h7 : f = 0
    · rw [if_pos h7, if_pos a8.2.1]
      by_cases h9 : B 13 w 37 (800 * u + i) ≤ 0
      · rw [if_pos h9]
        exact fin 0 (Or.inl ⟨h7, h9, rfl⟩)
      · rw [if_neg h9, f_M_wide_220]
        exact fin 1 (Or.inr ⟨rfl, Or.inr (by first | decide | omega)⟩)
    · rw [if_neg h7, f_M_wide_220]
      refine fin 1 (Or.inr ⟨rfl, Or.inl ?_⟩)
      rcases h.1 with ⟨y, _⟩ | ⟨y, _⟩
      · exact absurd y h7
      · exact y
theorem x_wid122 {K : Nat} {V w b j d7 x : Int} {F : zF} {B : zB} (hK : 1000 ≤ K) (hR : RDW V w F B) (hX : XS B) (hb : r32 b) (j0 : 0 ≤ j ∧ j < 3200) (x0 : 0 ≤ x ∧ x ≤ 1000000000000) (hj : CP w B j x) : ∀ (n : Nat) (u f dt : Int), FQy V w b x (800 * u) B f dt → 0 ≤ u → u ≤ V → V - u < n → ∃ r, f_M_wide_122 K n u f dt d7 w b j F B = some (r, F, B) ∧ WDx V w b x B d7 r := by
  have b0 := rd_0 hR
  intro n
  induction n with
  | zero => intro u f dt _ _ _ hk; exfalso; omega
  | succ n ih =>
    intro u f dt h u0 u1 hk
    rw [f_M_wide_122, if_pos b0.1, if_pos (show r32 u by unfold r32; omega), if_pos (show r32 (F 13 w 1) by unfold r32; omega)]
    by_cases z : F 13 w 1 ≤ u
    · have hf : r32 f := by
        rcases h.1 with ⟨y, _⟩ | ⟨y, _⟩
        · rw [y]; decide
        · rw [y]; decide
      have e : u = V := by omega
      rw [e] at h
      rw [if_pos z, if_pos hf]
      by_cases z' : f = 0
      · rw [if_pos z', f_M_wide_278]
        exact ⟨_, rfl, f, dt, h, by rw [if_pos z']⟩
      · rw [if_neg z', f_M_wide_278]
        exact ⟨_, rfl, f, dt, h, by rw [if_neg z']⟩
    · rw [if_neg z]
      have bv := rd_v hR u0 (show u < V by omega)
      obtain ⟨f', dt', e1, e2⟩ := x_wid134 (K := K) (d7 := d7) (j := j) (rec := f_M_wide_122 K n) hR hX hb j0 x0 hj u0 (show u < V by omega) K 0 f dt (by rw [Int.add_zero]; exact h) (by decide) (by first | decide | omega) (by first | decide | omega)
      rw [e1]
      exact ih (u + 1) f' dt' e2 (by first | decide | omega) (by first | decide | omega) (by first | decide | omega)
theorem x_wid64 {K : Nat} {V w b j a c p q : Int} {F : zF} {B : zB} (hK : 812851200 < K) (hR : RDW V w F B) (hX : XS B) (hb : r32 b) (j0 : 0 ≤ j ∧ j < 3200) (hf : FR a c p) (hq : CP w B j q) (q0 : 0 ≤ q) (q1 : q ≤ p) (p1 : p ≤ 4877107200) : ∃ r F', f_M_wide_64 K w b j a c F B = some (r, F', B) ∧ CG F F' ∧ WDx V w b q B (lw2 40 ((p - q) / 6350400)) r := by
  have b0 := rd_0 hR
  obtain ⟨m, hm⟩ : ∃ m, K = m + 1 + 1 + 1 + 1 + 1 + 1 + 1 + 1 + 1 + 1 := ⟨K - 10, (by first | decide | omega)⟩
  have e92 := x_wid92 (K := K) (n := m) (w := w) (b := b) (j := j) (D := p - q) (F := fr F (p - q)) (B := B) (by first | decide | omega) (by first | decide | omega) fr_1
  rw [← hm] at e92
  unfold f_M_wide_64
  rw [if_pos b0.1, if_pos j0, hq.1, hq.2, L_minusR hK hf (FR_r q0) q1 (by first | decide | omega), zb_s, fr_0, e92]
  obtain ⟨r, e, h⟩ := x_wid122 (K := K) (d7 := lw2 40 ((p - q) / 6350400)) (x := q) (F := fr F (p - q)) (B := B) (by first | decide | omega) (RDW_fr (p := p - q) hR) hX hb j0 ⟨q0, (by first | decide | omega)⟩ hq K 0 0 0 ⟨Or.inl ⟨rfl, fun y hy => by
    obtain ⟨u', a0, a1, a2, a3, a4, a5, a6, a7⟩ := hy
    omega⟩, by decide, fun y hy => by
    obtain ⟨u', a0, a1, a2, a3, a4, a5, a6, a7⟩ := hy
    omega, Or.inl rfl⟩ (by decide) (by first | decide | omega) (by first | decide | omega)
  exact ⟨r, _, e, fun c i k n => fr_n n, h⟩
theorem x_wide {K : Nat} {V w b j e T : Int} {P : Int → Int} {F : zF} {B : zB} (hK : 812851200 < K) (hR : RDW V w F B) (hX : XS B) (hT : T = barV (F 13 w 4) (F 13 w 5)) (b1 : 0 ≤ b ∧ b < 100) (he : B 13 w 42 (b + 1) = e) (j0 : 0 ≤ j) (j1 : j < e) (e1 : e ≤ 3200) (hP : ∀ t, j ≤ t → t < e → CP w B t (P t) ∧ 0 ≤ P t ∧ P t < T) (hs : j + 1 < e → P j < P (j + 1)) : ∃ r F', f_M_wide K w b j F B = some (r, F', B) ∧ CG F F' ∧ WDx V w b (P j) B (lw2 40 (((if j + 1 = e then T else P (j + 1)) - P j) / 6350400)) r := by
  have b0 := rd_0 hR
  have b6 := barV_6 b0.2.2.2.1 (rd_5 hR)
  have bv := bar_v b0.2.2.2.1 (rd_5 hR)
  rw [← hT] at b6 bv
  obtain ⟨k1, k2, k3⟩ := hP j (Int.le_refl _) j1
  have r4 : r32 (F 13 w 4) := by unfold r32; omega
  have r5 : r32 (F 13 w 5) := by unfold r32; omega
  unfold f_M_wide
  rw [if_pos b0.1, if_pos (show 0 ≤ b + 1 ∧ b + 1 < 101 by omega), if_pos (show r32 (j + 1) by unfold r32; omega), he, if_pos (show r32 e by unfold r32; omega)]
  by_cases z : j + 1 = e
  · rw [if_pos z, if_pos z]
    unfold f_M_wide_19
    rw [if_pos (by decide), if_neg (by decide), if_pos b0.1, if_pos r4]
    unfold f_M_wide_43
    rw [if_pos (by decide), if_neg (by decide), if_pos b0.1, if_pos r5]
    exact x_wid64 hK hR hX (by unfold r32; omega) (by first | decide | omega) bv.1 k1 k2 (by first | decide | omega) b6
  · rw [if_neg z, if_neg z]
    unfold f_M_wide_19
    rw [if_pos (by decide), if_pos rfl, if_pos b0.1, if_pos (by first | decide | omega)]
    unfold f_M_wide_43
    rw [if_pos (by decide), if_pos rfl, if_pos b0.1, if_pos (by first | decide | omega)]
    obtain ⟨q1, q2, q3⟩ := hP (j + 1) (by first | decide | omega) (by first | decide | omega)
    rw [q1.1, q1.2]
    have := hs (by first | decide | omega)
    exact x_wid64 hK hR hX (by unfold r32; omega) (by first | decide | omega) (FR_r q2) k1 k2 (by first | decide | omega) (by first | decide | omega)
end
end

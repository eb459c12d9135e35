section
/-! ===== an event cut at the bars and written, both sides ===== -/
theorem m4_m {a b : Int} (ha : a % 4 = 0) (hb : b % 4 = 0) : (a % b) % 4 = 0 ∧ ((a / b + 1) * b) % 4 = 0 := by
  obtain ⟨b', rfl⟩ : ∃ b', b = 4 * b' := ⟨b / 4, (by first | decide | omega)⟩
  have e1 := Int.mul_ediv_add_emod a (4 * b')
  have e2 : 4 * b' * (a / (4 * b')) = 4 * (b' * (a / (4 * b'))) := by ac_rfl
  have e3 : (a / (4 * b') + 1) * (4 * b') = 4 * ((a / (4 * b') + 1) * b') := by ac_rfl
  rw [e2] at e1
  rw [e3]
  generalize b' * (a / (4 * b')) = x at e1
  generalize (a / (4 * b') + 1) * b' = y
  omega
theorem cuE_4 {b a t : Int} (ha : a % 4 = 0) (hb : b % 4 = 0) (ht : t % 4 = 0) : cuE b a t % 4 = 0 := by
  unfold cuE
  split
  · exact (m4_m ha hb).2
  · exact ht
theorem cuE_n {b a t : Int} {r : Nat} (b0 : 0 < b) (h : t ≤ (a / b + ((r + 1 : Nat) : Int)) * b) : cuE b a t = t ∨ t ≤ (cuE b a t / b + (r : Int)) * b := by
  unfold cuE
  by_cases c : (a / b + 1) * b < t
  · rw [if_pos c, Int.mul_ediv_cancel _ (by first | decide | omega)]
    right
    rw [show a / b + 1 + (r : Int) = a / b + ((r + 1 : Nat) : Int) by omega]
    exact h
  · rw [if_neg c]; exact Or.inl rfl
theorem C_cend {K : zK} {n1 : Nat} {q p ev cnt t b : Int} {F : zF} {B : zB} (c0 : 0 ≤ cnt ∧ cnt ≤ 100) (t0 : 0 ≤ t) (t1 : t ≤ 307200) : f_Part_cut_18 K (n1 + 1) cnt (X5 * t) (X5 * t) b q p ev F B = some (0, F, B) := by
  have x1 : X5 * t = 1587600 * t := rfl
  rw [f_Part_cut_18, if_pos (show r32 cnt by unfold r32; omega), if_neg (show ¬ 100 < cnt by omega), if_pos (show r64 (X5 * t) by unfold r64; omega), if_pos (show r64 (X5 * t) by unfold r64; omega), if_pos (show 0 ≤ zcmp (X5 * t) (X5 * t) by rw [zcmp_0.mpr rfl]; decide), f_Part_cut_175]
theorem L_pend {K n2 : Nat} {v w ev y1 y2 : Int} {F : zF} {B : zB} : f_M_pieces_16 K (n2 + 1) (de (X5 * 0)) (nu (X5 * 0)) y1 y2 w v ev 1 F B = some (0, F, B) := by
  obtain ⟨z1, z2⟩ := nu_L (l := 0) (by decide) (by decide)
  rw [f_M_pieces_16, if_pos z2, if_pos (z1.mpr rfl), f_M_pieces_215]
theorem C_cutX {K : zK} {m : Nat} {q p v w n d ev ro t : Int} {B Bm : zB} (hK : 3002 ≤ K.1) (h4 : 0 ≤ q ∧ q < K.2 4) (hp : 0 ≤ p ∧ p < K.2 6) (v0 : 0 ≤ v ∧ v < 4) (w0 : 0 ≤ w ∧ w < 3) (hn : 1 ≤ n ∧ n ≤ 12) (hd : d = 2 ∨ d = 4 ∨ d = 8 ∨ d = 16) (t1 : t ≤ 307200) : ∀ (r n1 : Nat) {cnt a : Int} {F : zF}, 0 ≤ a → a ≤ t → (a = t ∨ t ≤ (a / (512 / d * n) + r) * (512 / d * n)) → 0 ≤ cnt → cnt + r ≤ 100 → r < n1 → F 6 p 4 = n → F 6 p 5 = d → EK K q v w m ev ro F B Bm → NX q v w F Bm → ∃ F', f_Part_cut_18 K n1 cnt (X5 * t) (X5 * a) (X5 * (512 / d * n)) q p ev F B = some (0, F', B) ∧ nF q F F' ∧ NX q v w F' Bm := by
  have hu := un_d hd
  have b3 := un_3 hu (n := n) (by first | decide | omega)
  have b4 := un_4 hu (n := n) (by first | decide | omega)
  intro r
  induction r with
  | zero =>
    intro n1 cnt a F a0 at' ha c0 cr hn1 e4 e5 hE hX
    obtain ⟨n1, rfl⟩ : ∃ k, n1 = k + 1 := ⟨n1 - 1, (by first | decide | omega)⟩
    have : a = t := by
      rcases ha with h | h
      · exact h
      · have := Int.ediv_mul_le a (show 512 / d * n ≠ 0 by omega)
        rw [show (((0 : Nat) : Int)) = 0 from rfl, Int.add_zero] at h
        omega
    rw [this]
    exact ⟨F, C_cend (by first | decide | omega) (by first | decide | omega) t1, fun _ _ _ _ => rfl, hX⟩
  | succ r ih =>
    intro n1 cnt a F a0 at' ha c0 cr hn1 e4 e5 hE hX
    obtain ⟨n1, rfl⟩ : ∃ k, n1 = k + 1 := ⟨n1 - 1, (by first | decide | omega)⟩
    by_cases ae : a = t
    · rw [ae]
      exact ⟨F, C_cend (by first | decide | omega) (by first | decide | omega) t1, fun _ _ _ _ => rfl, hX⟩
    have alt : a < t := by omega
    obtain ⟨k1, k2, k3, k4, k5⟩ := cuE_b (b := 512 / d * n) (a := a) (t := t) (by first | decide | omega) a0 alt
    have nx := cuE_n (b := 512 / d * n) (a := a) (t := t) (r := r) (by first | decide | omega) (ha.resolve_left ae)
    have e2 := Int.emod_nonneg a (show 512 / d * n ≠ 0 by omega)
    rw [C_cstep h4 hp hn hd e4 e5 hE (by first | decide | omega) a0 alt t1]
    by_cases y : ro = 1 ∧ cuE (512 / d * n) a t - a = 512 / d * n
    · rw [if_pos y]
      have ad : f_Part_addNote K q ev (a / (512 / d * n)) 0 29 F B = some (0, zup3 F 4 q 11 1, B) := by
        unfold f_Part_addNote
        rw [if_pos h4, hX.1, if_pos (by decide), if_neg (by decide)]
      have nf : nF q F (zup3 F 4 q 11 1) := fun c y k h => by rw [zup3_v, if_neg (by first | decide | omega)]
      have nx' : NX q v w (zup3 F 4 q 11 1) Bm := ⟨by rw [zup3_v, if_neg (by first | decide | omega)]; exact hX.1, by rw [zup3_v, if_pos (by first | decide | omega)], hX.2.2⟩
      rw [ad, zb_s]
      obtain ⟨F', g1, g2, g3⟩ := ih n1 (cnt := cnt + 1) (a := cuE (512 / d * n) a t) (F := zup3 F 4 q 11 1) (by first | decide | omega) k2 nx (by first | decide | omega) (by first | decide | omega) (by first | decide | omega) (by rw [nf 6 p 4 (by first | decide | omega)]; exact e4) (by rw [nf 6 p 5 (by first | decide | omega)]; exact e5) (EK_f hE nf (fun _ _ _ _ _ => rfl) (fun _ _ _ _ _ _ => rfl)) nx'
      exact ⟨F', g1, nF_t nf g2, g3⟩
    · rw [if_neg y]
      obtain ⟨k, hk⟩ : ∃ k, K.1 = k + 1 := ⟨K.1 - 1, (by first | decide | omega)⟩
      have w43 := (P_wX (K := K) (Km := 1) (m := m) (n1 := k) (n2 := 0) (p := p) (l := cuE (512 / d * n) a t - a) (f := a % (512 / d * n)) (cnt := 0) (nb := a / (512 / d * n)) (ev := ev) (dn := 1) (up := 1) (wi := 0) (F := F) (B := B) (Fm := fun _ _ _ => 0) (Bm := Bm) h4 v0 w0 (by decide) (by decide) (by unfold r32; omega) hX).1
      rw [← hk] at w43
      rw [w43, zb_s]
      exact ih n1 (cnt := cnt + 1) (a := cuE (512 / d * n) a t) (F := F) (by first | decide | omega) k2 nx (by first | decide | omega) (by first | decide | omega) (by first | decide | omega) e4 e5 hE hX
theorem P_cutP {K : zK} {Km m : Nat} {Z : Int → Int → Prop} {q p v w n d ev ro t : Int} (hK : 3002 ≤ K.1) (hKm : 70000000000 < Km) (h4 : 0 ≤ q ∧ q < K.2 4) (hp : 0 ≤ p ∧ p < K.2 6) (v0 : 0 ≤ v ∧ v < 4) (w0 : 0 ≤ w ∧ w < 3) (hn : 1 ≤ n ∧ n ≤ 12) (hd : d = 2 ∨ d = 4 ∨ d = 8 ∨ d = 16) (t1 : t ≤ 100 * (512 / d * n)) (t4 : t % 4 = 0) (hZ : ∀ nb y, 0 ≤ nb → 0 ≤ y → y < 512 / d * n → nb * (512 / d * n) + y < t → Z nb (X5 * y)) : ∀ (r n1 n2 : Nat) {cnt a : Int} {F : zF} {B : zB} {Fm : zF} {Bm : zB}, 0 ≤ a → a ≤ t → a % 4 = 0 → (a = t ∨ t ≤ (a / (512 / d * n) + r) * (512 / d * n)) → 0 ≤ cnt → cnt + r ≤ 100 → r < n1 → r < n2 → F 6 p 4 = n → F 6 p 5 = d → Fm 13 w 4 = n → Fm 13 w 5 = d → EK K q v w m ev ro F B Bm → (∃ c, NW q v w m Z c F B Bm) ∨ NX q v w F Bm → zP (f_Part_cut_18 K n1 cnt (X5 * t) (X5 * a) (X5 * (512 / d * n)) q p ev F B) (f_M_pieces_16 Km n2 (de (X5 * (t - a))) (nu (X5 * (t - a))) (de (X5 * a)) (nu (X5 * a)) w v ev 1 Fm Bm) (fun _ F' B' _ Fm' Bm' => NO q v w m Z F B Fm Bm F' B' Fm' Bm') := by
  have hu := un_d hd
  have b3 := un_3 hu (n := n) (by first | decide | omega)
  have b4 := un_4 hu (n := n) (by first | decide | omega)
  have b44 : (512 / d * n) % 4 = 0 := by
    obtain ⟨y, hy⟩ := u_32 (n := n) hu
    omega
  have xa : ∀ y : Int, X5 * y = 1587600 * y := fun _ => rfl
  have fin : ∀ (n1 n2 : Nat) {cnt a : Int} {F : zF} {B : zB} {Fm : zF} {Bm : zB}, a = t → 0 ≤ a → 0 ≤ cnt → cnt ≤ 100 → (∃ c, NW q v w m Z c F B Bm) ∨ NX q v w F Bm → zP (f_Part_cut_18 K (n1 + 1) cnt (X5 * t) (X5 * a) (X5 * (512 / d * n)) q p ev F B) (f_M_pieces_16 Km (n2 + 1) (de (X5 * (t - a))) (nu (X5 * (t - a))) (de (X5 * a)) (nu (X5 * a)) w v ev 1 Fm Bm) (fun _ F' B' _ Fm' Bm' => NO q v w m Z F B Fm Bm F' B' Fm' Bm') := by
    intro n1 n2 cnt a F B Fm Bm e a0 c0 c1 hN
    subst e
    rw [C_cend (by first | decide | omega) a0 (by first | decide | omega), Int.sub_self, L_pend]
    exact zP_s (NO_r hN)
  intro r
  induction r with
  | zero =>
    intro n1 n2 cnt a F B Fm Bm a0 at' a4 ha c0 cr hn1 hn2 e4 e5 m4 m5 hE hN
    obtain ⟨n1, rfl⟩ : ∃ k, n1 = k + 1 := ⟨n1 - 1, (by first | decide | omega)⟩
    obtain ⟨n2, rfl⟩ : ∃ k, n2 = k + 1 := ⟨n2 - 1, (by first | decide | omega)⟩
    refine fin n1 n2 ?_ a0 c0 (by first | decide | omega) hN
    rcases ha with h | h
    · exact h
    · have := Int.ediv_mul_le a (show 512 / d * n ≠ 0 by omega)
      rw [show (((0 : Nat) : Int)) = 0 from rfl, Int.add_zero] at h
      omega
  | succ r ih =>
    intro n1 n2 cnt a F B Fm Bm a0 at' a4 ha c0 cr hn1 hn2 e4 e5 m4 m5 hE hN
    obtain ⟨n1, rfl⟩ : ∃ k, n1 = k + 1 := ⟨n1 - 1, (by first | decide | omega)⟩
    obtain ⟨n2, rfl⟩ : ∃ k, n2 = k + 1 := ⟨n2 - 1, (by first | decide | omega)⟩
    by_cases ae : a = t
    · exact fin n1 n2 ae a0 c0 (by first | decide | omega) hN
    have alt : a < t := by omega
    rcases hN with ⟨c, hN⟩ | hX
    case inr =>
      obtain ⟨F', g1, g2, g3⟩ := C_cutX (m := m) (ev := ev) (ro := ro) (B := B) (Bm := Bm) hK h4 hp v0 w0 hn hd (by first | decide | omega) (r + 1) (n1 + 1) (cnt := cnt) (a := a) (F := F) a0 at' ha c0 cr hn1 e4 e5 hE hX
      obtain ⟨z1, z2⟩ := nu_L (l := t - a) (by first | decide | omega) (by first | decide | omega)
      rw [g1, f_M_pieces_16, if_pos z2, if_neg (fun h => by have := z1.mp h; omega), if_pos w0, if_pos v0, hX.2.2, if_pos (by decide), if_pos (by decide), f_M_pieces_215]
      exact zP_s ⟨g2, fun _ _ _ _ _ => rfl, fun _ _ _ _ => rfl, fun _ _ _ _ _ _ => rfl, Or.inr g3⟩
    obtain ⟨k1, k2, k3, k4, k5⟩ := cuE_b (b := 512 / d * n) (a := a) (t := t) (by first | decide | omega) a0 alt
    have nx := cuE_n (b := 512 / d * n) (a := a) (t := t) (r := r) (by first | decide | omega) (ha.resolve_left ae)
    have e2 := Int.emod_nonneg a (show 512 / d * n ≠ 0 by omega)
    have c4 := cuE_4 (b := 512 / d * n) (t := t) a4 b44 t4
    have f4 := (m4_m a4 b44).1
    have q0 : 0 ≤ a / (512 / d * n) := Int.ediv_nonneg a0 (by first | decide | omega)
    have q1 : a / (512 / d * n) < 100 := Int.ediv_lt_of_lt_mul (by first | decide | omega) (by first | decide | omega)
    have eb := EK_b hE
    obtain ⟨G, g1, g2, g3, g4⟩ := L_pstep (K := Km) (n2 := n2) (ev := ev) (F := Fm) (B := Bm) (by first | decide | omega) v0 w0 hn hd m4 m5 a0 alt (by first | decide | omega) hN.2.2.2.1 hN.1
    rw [C_cstep h4 hp hn hd e4 e5 hE (by first | decide | omega) a0 alt (by first | decide | omega), g4, L_partP (Km := Km) (nb := a / (512 / d * n)) (f := a % (512 / d * n)) (Fm := G) hKm v0 w0 hn hd (by rw [g1 13 w 4 (by first | decide | omega)]; exact m4) (by rw [g1 13 w 5 (by first | decide | omega)]; exact m5) hE g2 e2 (by first | decide | omega) (show 0 < cuE (512 / d * n) a t - a by omega) (by first | decide | omega) k5]
    -- behind the piece
    have rest : ∀ (F1 : zF) (B1 : zB) (Fm1 : zF) (Bm1 : zB), NO q v w m Z F B Fm Bm F1 B1 Fm1 Bm1 → zP (f_Part_cut_18 K n1 (cnt + 1) (X5 * t) (X5 * cuE (512 / d * n) a t) (X5 * (512 / d * n)) q p ev F1 B1) (f_M_pieces_16 Km n2 (de (X5 * (t - cuE (512 / d * n) a t))) (nu (X5 * (t - cuE (512 / d * n) a t))) (de (X5 * cuE (512 / d * n) a t)) (nu (X5 * cuE (512 / d * n) a t)) w v ev 1 (fr (fr Fm1 (X5 * cuE (512 / d * n) a t)) (X5 * (t - cuE (512 / d * n) a t))) Bm1) (fun _ F' B' _ Fm' Bm' => NO q v w m Z F B Fm Bm F' B' Fm' Bm') := by
      intro F1 B1 Fm1 Bm1 ⟨o1, o2, o3, o4, o5⟩
      have o3' : nG Fm (fr (fr Fm1 (X5 * cuE (512 / d * n) a t)) (X5 * (t - cuE (512 / d * n) a t))) := nG_t o3 (fun c y k h => by rw [fr_n (by first | decide | omega), fr_n (by first | decide | omega)])
      refine zP_m (ih n1 n2 (cnt := cnt + 1) (a := cuE (512 / d * n) a t) (by first | decide | omega) k2 c4 nx (by first | decide | omega) (by first | decide | omega) (by first | decide | omega) (by first | decide | omega) (by rw [o1 6 p 4 (by first | decide | omega)]; exact e4) (by rw [o1 6 p 5 (by first | decide | omega)]; exact e5) (by rw [o3' 13 w 4 (by first | decide | omega)]; exact m4) (by rw [o3' 13 w 5 (by first | decide | omega)]; exact m5) (EK_f hE o1 o2 o4) o5) ?_
      intro _ F2 B2 _ Fm2 Bm2 h
      exact NO_t o1 o2 o3' o4 h
    by_cases y : ro = 1 ∧ cuE (512 / d * n) a t - a = 512 / d * n
    · rw [if_pos y, if_pos y]
      have fz := k5 y.2
      rw [fz, show X5 * 0 = 0 by decide] at g2 g3
      obtain ⟨F1, B1, M1, a1, a2, a3, a4', a5, a6⟩ := P_add (K := K) (Km := Km) (ev := ev) (bar := a / (512 / d * n)) (pl := 0) (val := 29) (fo := 9) (po := 0) (Fm := G) h4 v0 w0 eb.2.1 (by first | decide | omega) (by decide) (by decide) (by decide) (by decide) g2 g3 (hZ (a / (512 / d * n)) 0 q0 (by decide) (by first | decide | omega) (by have := Int.ediv_mul_le a (show 512 / d * n ≠ 0 by omega); omega)) hN
      rw [a1, a2, zb_s, zb_s, zb_s]
      refine rest F1 B1 G M1 ⟨a3, a4', g1, a5, ?_⟩
      rcases a6 with ⟨_, h⟩ | h
      · exact Or.inl ⟨_, h⟩
      · exact Or.inr h
    · rw [if_neg y, if_neg y]
      have gx : ∀ c y k, ¬ (c = 14 ∧ y = 0 ∧ (k ≤ 1 ∨ k = 52 ∨ k = 53)) → zup3 (zup3 (fr G (X5 * (cuE (512 / d * n) a t - a))) 14 0 52 (nu (X5 * (cuE (512 / d * n) a t - a)))) 14 0 53 (de (X5 * (cuE (512 / d * n) a t - a))) c y k = G c y k := fun c y k h => by rw [zup3_v, if_neg (by first | decide | omega), zup3_v, if_neg (by first | decide | omega), fr_n (by first | decide | omega)]
      have g52 : zup3 (zup3 (fr G (X5 * (cuE (512 / d * n) a t - a))) 14 0 52 (nu (X5 * (cuE (512 / d * n) a t - a)))) 14 0 53 (de (X5 * (cuE (512 / d * n) a t - a))) 14 0 52 = nu (X5 * (cuE (512 / d * n) a t - a)) := by rw [zup3_v, if_neg (by first | decide | omega), zup3_v, if_pos (by first | decide | omega)]
      have g53 : zup3 (zup3 (fr G (X5 * (cuE (512 / d * n) a t - a))) 14 0 52 (nu (X5 * (cuE (512 / d * n) a t - a)))) 14 0 53 (de (X5 * (cuE (512 / d * n) a t - a))) 14 0 53 = de (X5 * (cuE (512 / d * n) a t - a)) := by rw [zup3_v, if_pos (by first | decide | omega)]
      generalize zup3 (zup3 (fr G (X5 * (cuE (512 / d * n) a t - a))) 14 0 52 (nu (X5 * (cuE (512 / d * n) a t - a)))) 14 0 53 (de (X5 * (cuE (512 / d * n) a t - a))) = G2 at gx g52 g53 ⊢
      have gg : nG Fm G2 := nG_t g1 (fun c y k h => gx c y k (by first | decide | omega))
      refine zP_c (P_cutL (K := K) (Km := Km) (m := m) (q := q) (p := p) (v := v) (w := w) (n := n) (d := d) (nb := a / (512 / d * n)) (ev := ev) (U := a % (512 / d * n) + (cuE (512 / d * n) a t - a)) hK hKm h4 hp v0 w0 hn hd (by first | decide | omega) eb.2.1 (by first | decide | omega) (fun y y0 y1 => hZ _ y q0 y0 (by first | decide | omega) (by have := Int.ediv_mul_add_emod a (512 / d * n); omega)) 768 K.1 Km (l := cuE (512 / d * n) a t - a) (f := a % (512 / d * n)) (cnt := 0) (F := F) (B := B) (Fm := G2) (Bm := Bm) (by first | decide | omega) (by first | decide | omega) (by first | decide | omega) f4 e2 (by first | decide | omega) (by decide) (by first | decide | omega) (by first | decide | omega) (by first | decide | omega) e4 e5 (by rw [gg 13 w 4 (by first | decide | omega)]; exact m4) (by rw [gg 13 w 5 (by first | decide | omega)]; exact m5) g52 g53 (by rw [gx _ _ _ (by first | decide | omega)]; exact g2) (by rw [gx _ _ _ (by first | decide | omega)]; exact g3) (Or.inl ⟨c, hN⟩)) ?_
      intro _ F1 B1 _ Fm1 Bm1 h
      exact rest F1 B1 Fm1 Bm1 (NO_t (fun _ _ _ _ => rfl) (fun _ _ _ _ _ => rfl) gg (fun _ _ _ _ _ _ => rfl) h)
end

section
/-! ===== the reference: the notes of a span ===== -/
theorem L_pstep0 {K n2 : Nat} {v w n d ev a t c : Int} {F : zF} {B : zB} (hK : 812851200 < K) (v0 : 0 ≤ v ∧ v < 4) (w0 : 0 ≤ w ∧ w < 3) (hn : 1 ≤ n ∧ n ≤ 12) (hd : d = 2 ∨ d = 4 ∨ d = 8 ∨ d = 16) (m4 : F 13 w 4 = n) (m5 : F 13 w 5 = d) (a0 : 0 ≤ a) (at' : a < t) (t1 : t ≤ 310272) (hc : B 13 w 13 v = c) (c0 : 0 ≤ c ∧ c ≤ 800) : ∃ G, nG F G ∧ G 14 0 54 = nu (X5 * (a % (512 / d * n))) ∧ G 14 0 55 = de (X5 * (a % (512 / d * n))) ∧ f_M_pieces_16 K (n2 + 1) (de (X5 * (t - a))) (nu (X5 * (t - a))) (de (X5 * a)) (nu (X5 * a)) w v ev 0 F B = zbind (f_M_part K w v ev (a / (512 / d * n)) (nu (X5 * (cuE (512 / d * n) a t - a))) (de (X5 * (cuE (512 / d * n) a t - a))) 0 G B) (fun _ F1 B1 => f_M_pieces_16 K n2 (de (X5 * (t - cuE (512 / d * n) a t))) (nu (X5 * (t - cuE (512 / d * n) a t))) (de (X5 * cuE (512 / d * n) a t)) (nu (X5 * cuE (512 / d * n) a t)) w v ev 0 (fr (fr F1 (X5 * cuE (512 / d * n) a t)) (X5 * (t - cuE (512 / d * n) a t))) B1) := by
  have hu := un_d hd
  have b3 := un_3 hu (n := n) (by first | decide | omega)
  have b4 := un_4 hu (n := n) (by first | decide | omega)
  obtain ⟨bv1, _, _, bv4, bv5⟩ := bar_v hn hd
  rw [bar5 (n := n) hd] at bv1 bv4 bv5
  generalize hb : 512 / d * n = b at *
  have rn : r32 n := by unfold r32; omega
  have rd : r32 d := by unfold r32; omega
  have xa : ∀ y : Int, X5 * y = 1587600 * y := fun _ => rfl
  have x1 := xa a
  have x2 := xa t
  have x3 := xa b
  have x6 := xa (t - a)
  have e1 := Int.mul_ediv_add_emod a b
  have e2 := Int.emod_nonneg a (show b ≠ 0 by omega)
  have e3 := Int.emod_lt_of_pos a (show 0 < b by omega)
  have q0 : 0 ≤ a / b := Int.ediv_nonneg a0 (by first | decide | omega)
  have q1 : a / b ≤ a := Int.ediv_le_self _ a0
  have q2 : (a / b + 1) * b = b * (a / b) + b := by rw [Int.add_mul, Int.one_mul, Int.mul_comm]
  have q3 : (a / b + 1) * (X5 * b) = X5 * ((a / b + 1) * b) := by ac_rfl
  have x4 := xa ((a / b + 1) * b)
  obtain ⟨k1, k2, k3, k4, k5⟩ := cuE_b (b := b) (a := a) (t := t) (by first | decide | omega) a0 at'
  have x5 := xa (cuE b a t)
  have x7 := xa (t - cuE b a t)
  have x8 := xa (cuE b a t - a)
  have x9 := xa (a % b)
  have x10 := xa (b * (a / b))
  obtain ⟨nz1, nz2⟩ := nu_L (l := t - a) (by first | decide | omega) (by first | decide | omega)
  have hr : X5 * ((a / b + 1) * b) - X5 * a = X5 * ((a / b + 1) * b - a) := by have := xa ((a / b + 1) * b - a); omega
  have f1 : FR ((a / b + 1) * n) d (X5 * ((a / b + 1) * b)) := by rw [← q3]; exact FR_k bv1 (by first | decide | omega)
  have f2 : FR (a / b * n) d (X5 * (b * (a / b))) := by
    have := FR_k bv1 q0
    rwa [show a / b * (X5 * b) = X5 * (b * (a / b)) by ac_rfl] at this
  have hm : X5 * a - X5 * (b * (a / b)) = X5 * (a % b) := by omega
  have cmp : ∀ x y : Int, r32 (if x < y then (-1 : Int) else if x = y then 0 else 1) ∧ (0 ≤ (if x < y then (-1 : Int) else if x = y then 0 else 1) ↔ y ≤ x) := fun x y => by
    by_cases z : x < y
    · rw [if_pos z]; exact ⟨by decide, (by first | decide | omega)⟩
    · rw [if_neg z]
      by_cases z' : x = y
      · rw [if_pos z']; exact ⟨by decide, (by first | decide | omega)⟩
      · rw [if_neg z']; exact ⟨by decide, (by first | decide | omega)⟩
  -- the second half
  have e111 : ∀ G : zF, (∀ c y k, ¬ (c = 14 ∧ y = 0 ∧ k ≤ 1) → G c y k = F c y k) → f_M_pieces_111 (f_M_pieces_16 K n2) K (de (X5 * (cuE b a t - a))) (nu (X5 * (cuE b a t - a))) (a / b) (de (X5 * (t - a))) (nu (X5 * (t - a))) (de (X5 * a)) (nu (X5 * a)) w v ev 0 G B = zbind (f_M_part K w v ev (a / b) (nu (X5 * (cuE b a t - a))) (de (X5 * (cuE b a t - a))) 0 (zup3 (zup3 (fr G (X5 * (a % b))) 14 0 54 (nu (X5 * (a % b)))) 14 0 55 (de (X5 * (a % b)))) B) (fun _ F1 B1 => f_M_pieces_16 K n2 (de (X5 * (t - cuE b a t))) (nu (X5 * (t - cuE b a t))) (de (X5 * cuE b a t)) (nu (X5 * cuE b a t)) w v ev 0 (fr (fr F1 (X5 * cuE b a t)) (X5 * (t - cuE b a t))) B1) := fun G hG => by
    unfold f_M_pieces_111
    rw [if_pos w0, hG 13 w 4 (by first | decide | omega), hG 13 w 5 (by first | decide | omega), m4, m5, if_pos rn, if_pos rd, L_minusR hK (FR_r (by first | decide | omega)) f2 (by first | decide | omega) (by first | decide | omega), zb_s, if_pos (show r32 (a / b) by unfold r32; omega), hm, fr_0, fr_1]
    congr 1
    funext r1 F1 B1
    rw [L_plusR hK (FR_r (by first | decide | omega)) (FR_r (by first | decide | omega)) (by first | decide | omega), zb_s, L_minusR hK (FR_r (by first | decide | omega)) (FR_r (by first | decide | omega)) (by first | decide | omega) (by first | decide | omega), zb_s, show X5 * a + X5 * (cuE b a t - a) = X5 * cuE b a t by omega, show X5 * (t - a) - X5 * (cuE b a t - a) = X5 * (t - cuE b a t) by omega, fr_0, fr_1, fr_0, fr_1]
  refine ⟨zup3 (zup3 (fr (fr F (X5 * ((a / b + 1) * b - a))) (X5 * (a % b))) 14 0 54 (nu (X5 * (a % b)))) 14 0 55 (de (X5 * (a % b))), fun c y k h => by rw [zup3_v, if_neg (by first | decide | omega), zup3_v, if_neg (by first | decide | omega), fr_n (by first | decide | omega), fr_n (by first | decide | omega)], by rw [zup3_v, if_neg (by first | decide | omega), zup3_v, if_pos (by first | decide | omega)], by rw [zup3_v, if_pos (by first | decide | omega)], ?_⟩
  rw [f_M_pieces_16, if_pos nz2, if_neg (fun h => by have := nz1.mp h; omega), if_pos w0, if_pos v0, hc, if_pos (show r32 c by unfold r32; omega), if_neg (show ¬ 800 < c by omega), m4, m5, if_pos rn, if_pos rd, L_oftR (FR_r (by first | decide | omega)) bv5 (by first | decide | omega) (by first | decide | omega) (by first | decide | omega) (by first | decide | omega) (by first | decide | omega) (by first | decide | omega), zb_s, X5_d, m4, m5, if_pos rn, if_pos rd, L_minusR hK f1 (FR_r (by first | decide | omega)) (by first | decide | omega) (by first | decide | omega), zb_s, hr, fr_0, fr_1, L_cmpR hK (FR_r (by first | decide | omega)) (FR_r (by have := xa ((a / b + 1) * b - a); omega)) (by first | decide | omega) (by have := xa ((a / b + 1) * b - a); omega), zb_s, if_pos (cmp _ _).1]
  have x11 := xa ((a / b + 1) * b - a)
  by_cases z : (a / b + 1) * b ≤ t
  · have ce : cuE b a t = (a / b + 1) * b := by unfold cuE; split <;> omega
    rw [if_pos ((cmp _ _).2.mpr (by first | decide | omega)), show (a / b + 1) * b - a = cuE b a t - a by rw [ce]]
    exact e111 _ (fun c y k h => fr_n h)
  · have ce : cuE b a t = t := by unfold cuE; rw [if_neg (by first | decide | omega)]
    rw [if_neg (fun h => z (by have := (cmp _ _).2.mp h; omega))]
    have := e111 (fr F (X5 * ((a / b + 1) * b - a))) (fun c y k h => fr_n h)
    rw [show cuE b a t - a = t - a by rw [ce]] at this ⊢
    exact this
theorem L_part0 {Km : Nat} {v w ev nb l : Int} {Fm : zF} {Bm : zB} (hKm : 70000000000 < Km) (v0 : 0 ≤ v ∧ v < 4) (w0 : 0 ≤ w ∧ w < 3) (hE : ev = -1 ∨ ((0 ≤ ev ∧ ev < 1000) ∧ r32 (Bm 13 w 21 (1000 * v + ev)) ∧ Bm 13 w 22 (1000 * v + ev) = 0)) (l0 : 0 ≤ l ∧ l ≤ 3072) : f_M_part Km w v ev nb (nu (X5 * l)) (de (X5 * l)) 0 Fm Bm = f_M_part_174 Km Km 1 1 0 w v ev nb (zup3 (zup3 (fr Fm (X5 * l)) 14 0 52 (nu (X5 * l))) 14 0 53 (de (X5 * l))) Bm := by
  have xa : ∀ y : Int, X5 * y = 1587600 * y := fun _ => rfl
  have x1 := xa l
  have e146 : f_M_part_146 Km 1 1 0 w v ev nb (nu (X5 * l)) (de (X5 * l)) Fm Bm = f_M_part_174 Km Km 1 1 0 w v ev nb (zup3 (zup3 (fr Fm (X5 * l)) 14 0 52 (nu (X5 * l))) 14 0 53 (de (X5 * l))) Bm := by
    unfold f_M_part_146
    rw [L_timesR (r := X5 * l) hKm (FR_r (by first | decide | omega)) (by first | decide | omega) (by decide) (by decide) (by decide) (by decide) (by first | decide | omega) rfl, zb_s, fr_0, fr_1]
  have e87 : ∀ ro : Int, (ro = 0 ∨ ro = 1) → f_M_part_87 Km 1 0 ro w v ev nb (nu (X5 * l)) (de (X5 * l)) 0 1 Fm Bm = f_M_part_146 Km 1 1 0 w v ev nb (nu (X5 * l)) (de (X5 * l)) Fm Bm := fun ro hr => by
    unfold f_M_part_87
    rcases hr with z | z
    · rw [z, if_pos (by decide), if_pos rfl]
    · rw [z, if_pos (by decide), if_neg (by decide), if_pos (by decide), if_pos rfl, if_pos (by decide), if_pos rfl]
  have e48 : ∀ l10 ro, (ro = 0 ∨ ro = 1) → f_M_part_48 Km ro l10 w v ev nb (nu (X5 * l)) (de (X5 * l)) 0 Fm Bm = f_M_part_146 Km 1 1 0 w v ev nb (nu (X5 * l)) (de (X5 * l)) Fm Bm := fun l10 ro hr => by
    unfold f_M_part_48 f_M_part_49
    rw [if_pos (by decide), if_pos rfl, f_M_part_68, if_pos (by decide), if_pos rfl, e87 ro hr]
  rw [← e146]
  unfold f_M_part f_M_part_23
  rcases hE with h1 | ⟨h1, h2, h3⟩
  · rw [h1] at e48 ⊢
    rw [if_pos (show r32 (-1) by decide), if_pos (by decide), f_M_part_28, if_pos (show r32 (-1) by decide), if_pos (by decide), e48 _ 1 (Or.inr rfl)]
  · have e28 : ∀ ro, (ro = 0 ∨ ro = 1) → f_M_part_28 Km (1000 * v + ev) w v ev nb (nu (X5 * l)) (de (X5 * l)) 0 ro Fm Bm = f_M_part_146 Km 1 1 0 w v ev nb (nu (X5 * l)) (de (X5 * l)) Fm Bm := fun ro hr => by
      unfold f_M_part_28
      rw [if_pos (by unfold r32; omega), if_neg (by first | decide | omega), if_pos w0, if_pos (by first | decide | omega), h3, if_pos (by decide), if_pos (by decide), e48 _ ro hr]
    rw [if_pos (by unfold r32; omega), if_neg (by first | decide | omega), if_pos w0, if_pos (by first | decide | omega), if_pos h2]
    by_cases z : Bm 13 w 21 (1000 * v + ev) = 0
    · rw [if_pos z, e28 1 (Or.inr rfl)]
    · rw [if_neg z, e28 0 (Or.inl rfl)]
theorem M_pcs {Km : Nat} {v w n d b ev e : Int} (hKm : 70000000000 < Km) (v0 : 0 ≤ v ∧ v < 4) (w0 : 0 ≤ w ∧ w < 3) (hb : BRs n d b) (he : e % sdU d = 0) (e1 : e ≤ 100 * b) : ∀ (r n2 : Nat) (a : Int) (L : List (Int × Int × Int)) (Fm : zF) (Bm : zB), e - a ≤ r → r < n2 → 0 ≤ a → a ≤ e → a % sdU d = 0 → Fm 13 w 4 = n → Fm 13 w 5 = d → (ev = -1 ∨ ((0 ≤ ev ∧ ev < 1000) ∧ r32 (Bm 13 w 21 (1000 * v + ev)) ∧ Bm 13 w 22 (1000 * v + ev) = 0)) → NSt w v L Bm → ∃ Fm' Bm', f_M_pieces_16 Km n2 (de (X5 * (e - a))) (nu (X5 * (e - a))) (de (X5 * a)) (nu (X5 * a)) w v ev 0 Fm Bm = some (0, Fm', Bm') ∧ nG Fm Fm' ∧ nM' v w Bm Bm' ∧ NSt w v (L ++ spN n d b ev a e) Bm' := by
  obtain ⟨b1, b2, b3, _, b5, b6⟩ := BRs_b hb
  have hn := hb.1
  have hd := hb.2.1
  have eb := hb.2.2
  have sd : (sdU d = 16) ∨ (sdU d = 4) := by unfold sdU; split <;> omega
  have stop : ∀ (n2 : Nat) (a : Int) (L : List (Int × Int × Int)) (Fm : zF) (Bm : zB), 0 < n2 → 0 ≤ a → ¬ a < e → a ≤ e → NSt w v L Bm → ∃ Fm' Bm', f_M_pieces_16 Km n2 (de (X5 * (e - a))) (nu (X5 * (e - a))) (de (X5 * a)) (nu (X5 * a)) w v ev 0 Fm Bm = some (0, Fm', Bm') ∧ nG Fm Fm' ∧ nM' v w Bm Bm' ∧ NSt w v (L ++ spN n d b ev a e) Bm' := fun n2 a L Fm Bm h0 a0 z ae hN => by
    obtain ⟨p, rfl⟩ : ∃ p, n2 = p + 1 := ⟨n2 - 1, (by first | decide | omega)⟩
    obtain ⟨nz1, nz2⟩ := nu_L (l := e - a) (by first | decide | omega) (by first | decide | omega)
    refine ⟨Fm, Bm, ?_, fun _ _ _ _ => rfl, fun _ _ _ _ _ _ => rfl, by rw [spN_0 z, List.append_nil]; exact hN⟩
    rw [f_M_pieces_16, if_pos nz2, if_pos (nz1.mpr (by first | decide | omega)), f_M_pieces_215]
  intro r
  induction r with
  | zero =>
    intro n2 a L Fm Bm hr hn2 a0 ae ha m4 m5 hE hN
    exact stop n2 a L Fm Bm hn2 a0 (by first | decide | omega) ae hN
  | succ r ih =>
    intro n2 a L Fm Bm hr hn2 a0 ae ha m4 m5 hE hN
    by_cases z : a < e
    · obtain ⟨p, rfl⟩ : ∃ p, n2 = p + 1 := ⟨n2 - 1, (by first | decide | omega)⟩
      obtain ⟨c, c1, c2, c3, c4⟩ := NSt_c hN
      by_cases lc : 800 < L.length
      · obtain ⟨nz1, nz2⟩ := nu_L (l := e - a) (by first | decide | omega) (by first | decide | omega)
        refine ⟨Fm, Bm, ?_, fun _ _ _ _ => rfl, fun _ _ _ _ _ _ => rfl, NSt_m hN lc⟩
        rw [f_M_pieces_16, if_pos nz2, if_neg (fun h => by have := nz1.mp h; omega), if_pos w0, if_pos v0, c1, if_pos (by unfold r32; omega), if_pos (by first | decide | omega), f_M_pieces_215]
      · obtain ⟨G, g1, g2, g3, g4⟩ := L_pstep0 (K := Km) (n2 := p) (v := v) (w := w) (ev := ev) (a := a) (t := e) (c := c) (F := Fm) (B := Bm) (by first | decide | omega) v0 w0 hn hd m4 m5 a0 z (by first | decide | omega) c1 (by first | decide | omega)
        rw [← eb] at g2 g3 g4
        have m0 := Int.emod_nonneg a (show b ≠ 0 by omega)
        have m1 := Int.emod_lt_of_pos a (show 0 < b by omega)
        have dm := Int.emod_add_mul_ediv a b
        have q0 : 0 ≤ a / b := Int.ediv_nonneg a0 (by first | decide | omega)
        have cm : a / b * b = b * (a / b) := Int.mul_comm _ _
        have nb1 : (a / b + 1) * b = a / b * b + b := by rw [Int.add_mul, Int.one_mul]
        have q1 : a / b ≤ 100 := by
          have := (Int.ediv_lt_iff_lt_mul (show 0 < b by omega) (a := a) (b := 100)).mpr (by first | decide | omega)
          omega
        have ce : cuE b a e = (if (a / b + 1) * b ≤ e then (a / b + 1) * b else e) := by
          unfold cuE
          split <;> split <;> omega
        have ct : cuE b a e ≤ (a / b + 1) * b ∧ cuE b a e ≤ e ∧ (cuE b a e = e ∨ cuE b a e = (a / b + 1) * b) ∧ a < cuE b a e := by rw [ce]; split <;> omega
        rw [g4, L_part0 hKm v0 w0 hE (by first | decide | omega)]
        have af : a % b = a - a / b * b := by omega
        obtain ⟨F1, B1, P, u1, u2, u3, u4, u5⟩ := M_cut (Km := Km) (v := v) (w := w) (n := n) (d := d) (b := b) (nb := a / b) (ev := ev) (e := e) (t := cuE b a e) hKm v0 w0 hb ⟨q0, q1⟩ he ⟨(by first | decide | omega), ct.1, ct.2.1, ct.2.2.1⟩ 1000 Km a L (zup3 (zup3 (fr G (X5 * (cuE b a e - a))) 14 0 52 (nu (X5 * (cuE b a e - a)))) 14 0 53 (de (X5 * (cuE b a e - a)))) Bm (by first | decide | omega) (by first | decide | omega) (by first | decide | omega) ha (by first | decide | omega) (by rw [zup3_v, if_neg (by first | decide | omega), zup3_v, if_neg (by first | decide | omega), fr_n (by first | decide | omega), g1 13 w 4 (by first | decide | omega)]; exact m4) (by rw [zup3_v, if_neg (by first | decide | omega), zup3_v, if_neg (by first | decide | omega), fr_n (by first | decide | omega), g1 13 w 5 (by first | decide | omega)]; exact m5) (by rw [zup3_v, if_neg (by first | decide | omega), zup3_v, if_pos (by first | decide | omega)]) (by rw [zup3_v, if_pos (by first | decide | omega)]) (by rw [zup3_v, if_neg (by first | decide | omega), zup3_v, if_neg (by first | decide | omega), fr_n (by first | decide | omega), g2, af]) (by rw [zup3_v, if_neg (by first | decide | omega), zup3_v, if_neg (by first | decide | omega), fr_n (by first | decide | omega), g3, af]) hN
        rw [u1, zb_s]
        have gF : nG Fm F1 := nG_t g1 (fun c y k h => by rw [u2 c y k h, zup3_v, if_neg (by first | decide | omega), zup3_v, if_neg (by first | decide | omega), fr_n (by first | decide | omega)])
        have gF2 : nG Fm (fr (fr F1 (X5 * cuE b a e)) (X5 * (e - cuE b a e))) := fun c y k h => by rw [fr_n (by first | decide | omega), fr_n (by first | decide | omega), gF c y k h]
        have tm : cuE b a e % sdU d = 0 := by
          rcases ct.2.2.1 with q | q
          · rw [q]; exact he
          · rw [q]
            obtain ⟨j, hj⟩ : ∃ j, b = sdU d * j := ⟨b / sdU d, by rcases sd with h | h <;> rw [h] at b3 ⊢ <;> omega⟩
            rw [show (a / b + 1) * b = sdU d * ((a / b + 1) * j) by rw [hj]; ac_rfl]
            exact Int.mul_emod_right _ _
        obtain ⟨F2, B2, y1, y2, y3, y4⟩ := ih p (cuE b a e) (L ++ P) (fr (fr F1 (X5 * cuE b a e)) (X5 * (e - cuE b a e))) B1 (by first | decide | omega) (by first | decide | omega) (by first | decide | omega) ct.2.1 tm (by rw [gF2 13 w 4 (by first | decide | omega)]; exact m4) (by rw [gF2 13 w 5 (by first | decide | omega)]; exact m5) (by
          rcases hE with h | ⟨h1, h2, h3⟩
          · exact Or.inl h
          · exact Or.inr ⟨h1, by rw [u3 13 w 21 _ (by first | decide | omega) (by first | decide | omega)]; exact h2, by rw [u3 13 w 22 _ (by first | decide | omega) (by first | decide | omega)]; exact h3⟩) u4
        refine ⟨F2, B2, y1, nG_t gF2 y2, nM_t u3 y3, ?_⟩
        rw [u5]
        rw [List.append_assoc] at y4
        exact y4
    · exact stop n2 a L Fm Bm (by first | decide | omega) a0 z ae hN
end

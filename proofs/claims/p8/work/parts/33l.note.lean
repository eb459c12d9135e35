section
section
variable {cc : Int}
/-! ===== note: the reference's side ===== -/
theorem L_noteR {Km : Nat} {a1 a2 a3 a4 : Int} (h1 : r32 a1) (h2 : r32 a2) (h3 : r32 a3) (h4 : r32 a4) {K : zK} {F Fm : zF} {B Bm : zB} (h : IV cc Km K F B Fm Bm) : zR (f_M_note_0 Km a1 a2 a3 a4 Fm Bm) Fm Bm := by
  obtain ⟨x, y, e, e1, e2, e3, e4⟩ := prt h h1 h2
  unfold f_M_note_0 f_M_note_0_31
  rw [e2, zb_s, e3, zb_s]
  rcases e4 with ⟨_, e0⟩ | ⟨e0, x0, y0, z0, q, V, vV, ex, hP, _⟩
  · rw [e0]
    exact zR_g (by decide) (zR_i (fun _ => zR_s) (fun a => absurd rfl a))
  · obtain ⟨_, m, g, hV, _⟩ := hP.2.2 a2 z0.1 vV
    obtain ⟨v1, v2, v3, v4, v5, v6, v7, v8, c, nw, _⟩ := hV
    obtain ⟨n1, n2, n3, n4, n5⟩ := nw
    rw [e0]
    refine zR_g (by decide) (zR_i (fun _ => zR_s) (fun _ => zR_g h3 (zR_i (fun _ => zR_s) (fun a => zR_g y0 (zR_g z0 (zR_g (by rw [n4]; unfold r32; omega) (zR_i (fun b => ?_) (fun _ => zR_s))))))))
    rw [n4] at b
    obtain ⟨k0, k1, _, k4, k5, _⟩ := n5 a3 (by first | decide | omega) b
    have xs := (IV_k h).2.2.2.2 y (800 * a2 + a3)
    have r0 : r32 (Bm 13 y 30 (800 * a2 + a3)) := by rw [← k0.1]; unfold r32; omega
    have r1 : r32 (Bm 13 y 31 (800 * a2 + a3)) := by rw [← k1.1]; unfold r32; omega
    have r4 : r32 (Bm 13 y 34 (800 * a2 + a3)) := by rw [← k4.1]; unfold r32; omega
    have r5 : r32 (Bm 13 y 35 (800 * a2 + a3)) := by rw [← k5.1]; unfold r32; omega
    obtain ⟨r6, r7, r8, r9, r10, r11⟩ := xs
    exact zR_g h4 (zR_i (fun _ => zR_g (by first | decide | omega) (zR_g r0 zR_s)) (fun _ => zR_i (fun _ => zR_g (by first | decide | omega) (zR_g r1 zR_s)) (fun _ => zR_i (fun _ => zR_g (by first | decide | omega) zR_s) (fun _ => zR_i (fun _ => zR_g (by first | decide | omega) zR_s) (fun _ => zR_i (fun _ => zR_g (by first | decide | omega) (zR_g r4 zR_s)) (fun _ => zR_i (fun _ => zR_g (by first | decide | omega) (zR_g r5 zR_s)) (fun _ => zR_i (fun _ => zR_g (by first | decide | omega) (zR_g r6 zR_s)) (fun _ => zR_i (fun _ => zR_g (by first | decide | omega) (zR_g r7 zR_s)) (fun _ => zR_i (fun _ => zR_g (by first | decide | omega) (zR_g r8 zR_s)) (fun _ => zR_i (fun _ => zR_g (by first | decide | omega) (zR_g r9 zR_s)) (fun _ => zR_i (fun _ => zR_g (by first | decide | omega) (zR_g r10 zR_s)) (fun _ => zR_i (fun _ => zR_g (by first | decide | omega) (zR_g r11 zR_s)) (fun _ => zR_s)))))))))))))
end
end
section
section
variable {cc : Int}
/-! ===== follows: the class's side ===== -/
def EKc (K : zK) (e : Int) (F : zF) (B : zB) : Prop := (0 ≤ e ∧ e < K.2 1) ∧ (0 ≤ F 1 e 10 ∧ F 1 e 10 ≤ 6) ∧ ∀ k, 0 ≤ k → k < F 1 e 10 → (0 ≤ B 1 e 12 k ∧ B 1 e 12 k ≤ 62) ∧ (-2 ≤ B 1 e 13 k ∧ B 1 e 13 k ≤ 2)
def PKc (K : zK) (x m : Int) (F : zF) (B : zB) : Prop := (0 ≤ x ∧ x < K.2 4) ∧ F 4 x 6 = m ∧ (0 ≤ m ∧ m ≤ 200) ∧ ∀ i, 0 ≤ i → i < m → EKc K (B 4 x 5 i) F B ∧ (0 ≤ F 1 (B 4 x 5 i) 0 ∧ F 1 (B 4 x 5 i) 0 ≤ 1000000000000) ∧ (0 ≤ F 1 (B 4 x 5 i) 1 ∧ F 1 (B 4 x 5 i) 1 ≤ 1000000000000)
section
variable {K : zK} {F : zF} {B : zB}
theorem C_isR {e : Int} (h : EKc K e F B) : ∃ r, f_Event_isRest K e F B = some (r, F, B) ∧ (r = 0 ∨ r = 1) := by
  unfold f_Event_isRest f_Event_isRest_12
  rw [if_pos h.1, if_pos (by have := h.2.1; unfold r32; omega)]
  by_cases z : F 1 e 10 = 0
  · rw [if_pos z, if_pos (Or.inr rfl)]; exact ⟨1, rfl, Or.inr rfl⟩
  · rw [if_neg z, if_pos (Or.inl rfl)]; exact ⟨0, rfl, Or.inl rfl⟩
theorem C_toneR {e k : Int} (h : EKc K e F B) (k0 : 0 ≤ k ∧ k < F 1 e 10) : ∃ r, f_Event_tone K e k F B = some (r, F, B) ∧ r32 r := by
  have b := h.2.2 k k0.1 k0.2
  refine ⟨_, C_tone h.1 (by have := h.2.1; omega) b.1, ?_⟩
  have t := tnv_r b.1.1 b.1.2 b.2.1 b.2.2
  unfold r32; omega
theorem C_top4 {e : Int} (h : EKc K e F B) : ∀ (d n : Nat) (i l : Int), i + d = F 1 e 10 → 0 ≤ i → d < n → -1 ≤ l → l < i → ∃ r, f_Event_top_4 K n i l e F B = some (r, F, B) ∧ -1 ≤ r ∧ r < F 1 e 10 := by
  have hc := h.2.1
  intro d
  induction d with
  | zero =>
    intro n i l hi i0 hn l0 l1
    obtain ⟨p, rfl⟩ : ∃ p, n = p + 1 := ⟨n - 1, (by first | decide | omega)⟩
    rw [f_Event_top_4, if_pos h.1, if_pos (by unfold r32; omega), if_pos (by unfold r32; omega), if_pos (by first | decide | omega)]
    exact ⟨l, rfl, l0, (by first | decide | omega)⟩
  | succ d ih =>
    intro n i l hi i0 hn l0 l1
    obtain ⟨p, rfl⟩ : ∃ p, n = p + 1 := ⟨n - 1, (by first | decide | omega)⟩
    rw [f_Event_top_4, if_pos h.1, if_pos (by unfold r32; omega), if_pos (by unfold r32; omega), if_neg (by first | decide | omega), if_pos (by unfold r32; omega)]
    unfold f_Event_top_30 f_Event_top_32
    by_cases z : l = -1
    · rw [if_pos z]
      exact ih p (i + 1) i (by first | decide | omega) (by first | decide | omega) (by first | decide | omega) (by first | decide | omega) (by first | decide | omega)
    · rw [if_neg z]
      obtain ⟨r7, e7, b7⟩ := C_toneR h (k := i) (by first | decide | omega)
      obtain ⟨r8, e8, b8⟩ := C_toneR h (k := l) (by first | decide | omega)
      rw [e7, zb_s, e8, zb_s, if_pos b7, if_pos b8]
      by_cases y : r7 < r8
      · rw [if_pos y]
        exact ih p (i + 1) l (by first | decide | omega) (by first | decide | omega) (by first | decide | omega) l0 (by first | decide | omega)
      · rw [if_neg y]
        exact ih p (i + 1) i (by first | decide | omega) (by first | decide | omega) (by first | decide | omega) (by first | decide | omega) (by first | decide | omega)
theorem C_tpS {e : Int} (hK : 100 ≤ K.1) (h : EKc K e F B) : ∃ r, f_Event_topStep K e F B = some (r, F, B) ∧ 0 ≤ r ∧ r ≤ 62 := by
  have hc := h.2.1
  obtain ⟨r, e1, r0, r1⟩ := C_top4 h (F 1 e 10).toNat K.1 0 (-1) (by first | decide | omega) (by first | decide | omega) (by first | decide | omega) (by first | decide | omega) (by first | decide | omega)
  unfold f_Event_topStep f_Event_topStep_20 f_Event_top
  rw [if_pos h.1, e1, zb_s, if_pos (by unfold r32; omega)]
  by_cases z : r = -1
  · rw [if_pos z]; exact ⟨0, rfl, (by first | decide | omega), (by first | decide | omega)⟩
  · rw [if_neg z, if_pos (by first | decide | omega)]
    exact ⟨_, rfl, (h.2.2 r (by first | decide | omega) r1).1⟩
theorem C_fst {x m : Int} (h : PKc K x m F B) : ∀ (d n : Nat) (i : Int), i + d = m → 0 ≤ i → d < n → ∃ r, f_Part_firstSounding_2 K n i x F B = some (r, F, B) ∧ -1 ≤ r ∧ r < m := by
  obtain ⟨h1, h2, h3, h4⟩ := h
  intro d
  induction d with
  | zero =>
    intro n i hi i0 hn
    obtain ⟨p, rfl⟩ : ∃ p, n = p + 1 := ⟨n - 1, (by first | decide | omega)⟩
    rw [f_Part_firstSounding_2, if_pos h1, if_pos (by unfold r32; omega), h2, if_pos (by unfold r32; omega), if_pos (by first | decide | omega)]
    exact ⟨-1, rfl, (by first | decide | omega), (by first | decide | omega)⟩
  | succ d ih =>
    intro n i hi i0 hn
    obtain ⟨p, rfl⟩ : ∃ p, n = p + 1 := ⟨n - 1, (by first | decide | omega)⟩
    obtain ⟨r, e, r01⟩ := C_isR (h4 i i0 (by first | decide | omega)).1
    rw [f_Part_firstSounding_2, if_pos h1, if_pos (by unfold r32; omega), h2, if_pos (by unfold r32; omega), if_neg (by first | decide | omega), if_pos (by first | decide | omega), if_pos (h4 i i0 (by first | decide | omega)).1.1, e, zb_s, if_pos (by unfold r32; omega)]
    by_cases z : r = 0
    · rw [if_pos z]; exact ⟨i, rfl, (by first | decide | omega), (by first | decide | omega)⟩
    · rw [if_neg z]; exact ih p (i + 1) (by first | decide | omega) (by first | decide | omega) (by first | decide | omega)
theorem C_f48 {x y m m' a c st : Int} (hK : 100 ≤ K.1) (hx : PKc K x m F B) (hy : PKc K y m' F B) (ha : 0 ≤ a ∧ a < m) (hc : 0 ≤ c ∧ c < m') (hst : r32 st) : ∀ (d n : Nat) (i : Int), a + i + d = m → 0 ≤ i → d < n → ∃ r, f_Part_followedFor_48 K n i st y x a c F B = some (r, F, B) ∧ 0 ≤ r ∧ r ≤ 200 := by
  obtain ⟨h1, h2, h3, h4⟩ := hx
  obtain ⟨g1, g2, g3, g4⟩ := hy
  intro d
  induction d with
  | zero =>
    intro n i hi i0 hn
    obtain ⟨p, rfl⟩ : ∃ p, n = p + 1 := ⟨n - 1, (by first | decide | omega)⟩
    rw [f_Part_followedFor_48, if_pos h1, if_pos (by unfold r32; omega), h2, if_pos (by unfold r32; omega), if_pos (by first | decide | omega), f_Part_followedFor_164]
    exact ⟨i, rfl, (by first | decide | omega), (by first | decide | omega)⟩
  | succ d ih =>
    intro n i hi i0 hn
    obtain ⟨p, rfl⟩ : ∃ p, n = p + 1 := ⟨n - 1, (by first | decide | omega)⟩
    rw [f_Part_followedFor_48, if_pos h1, if_pos (by unfold r32; omega), h2, if_pos (by unfold r32; omega), if_neg (by first | decide | omega), if_pos g1, if_pos (by unfold r32; omega), g2, if_pos (by unfold r32; omega)]
    by_cases z : m' ≤ c + i
    · rw [if_pos z, f_Part_followedFor_164]
      exact ⟨i, rfl, (by first | decide | omega), (by first | decide | omega)⟩
    · obtain ⟨q1, q2, q3⟩ := h4 (a + i) (by first | decide | omega) (by first | decide | omega)
      obtain ⟨s1, s2, s3⟩ := g4 (c + i) (by first | decide | omega) (by first | decide | omega)
      obtain ⟨r, e, r01⟩ := C_isR q1
      obtain ⟨r', e', r01'⟩ := C_isR s1
      obtain ⟨t, et, t0, t1⟩ := C_tpS hK q1
      obtain ⟨t', et', t0', t1'⟩ := C_tpS hK s1
      rw [if_neg z, if_pos (by first | decide | omega), if_pos (by first | decide | omega), if_pos q1.1, e, zb_s, if_pos s1.1, e', zb_s, if_pos (by unfold r32; omega), if_pos (by unfold r32; omega)]
      have nxt := ih p (i + 1) (by first | decide | omega) (by first | decide | omega) (by first | decide | omega)
      have o123 : ∃ r, f_Part_followedFor_123 (f_Part_followedFor_48 K p) K (B 4 y 5 (c + i)) (B 4 x 5 (a + i)) i st y x a c F B = some (r, F, B) ∧ 0 ≤ r ∧ r ≤ 200 := by
        unfold f_Part_followedFor_123 f_Part_followedFor_124 f_Part_followedFor_155
        rw [if_pos (by decide), if_pos rfl]
        exact ⟨i, rfl, (by first | decide | omega), (by first | decide | omega)⟩
      by_cases er : r = r'
      · rw [if_pos er, if_pos (by unfold r64; omega), if_pos (by unfold r64; omega)]
        by_cases ez : zcmp (F 1 (B 4 x 5 (a + i)) 1) (F 1 (B 4 y 5 (c + i)) 1) = 0
        · rw [if_pos ez]
          unfold f_Part_followedFor_124 f_Part_followedFor_155 f_Part_followedFor_158
          rw [if_pos (by decide), if_neg (by decide), if_pos q1.1, e, zb_s, if_pos (by unfold r32; omega)]
          by_cases z0 : r = 0
          · rw [if_pos z0, if_pos s1.1, et', zb_s, et, zb_s, if_pos (by unfold r32; omega), if_pos hst]
            by_cases zs : t' - t = st
            · rw [if_pos zs]; exact nxt
            · rw [if_neg zs]; exact ⟨i, rfl, (by first | decide | omega), (by first | decide | omega)⟩
          · rw [if_neg z0]; exact nxt
        · rw [if_neg ez]; exact o123
      · rw [if_neg er]; exact o123
end
end
end
section
section
variable {cc : Int}
/-! ===== follows: the class's call returns ===== -/
theorem PKc_v {Km : Nat} {K : zK} {F Fm : zF} {B Bm : zB} (h : IV cc Km K F B Fm Bm) {q V w u x : Int} (hP : PK K V q w F B Fm Bm) (u0 : 0 ≤ u) (u1 : u < V) (ex : x = B 6 q 0 u) : ∃ m, PKc K x m F B := by
  obtain ⟨hH, m, g, hV, _⟩ := hP.2.2 u u0 u1
  have x0 := hH.1
  rw [← ex] at hV x0
  obtain ⟨v1, v2, v3, v4, v5, v6, _⟩ := hV
  refine ⟨m, x0, v1.1, (by first | decide | omega), fun i i0 i1 => ?_⟩
  obtain ⟨w1, w2, _⟩ := v6 i.toNat (by first | decide | omega)
  rw [show ((i.toNat : Nat) : Int) = i by omega] at w1 w2
  have j1 := (IV_k h).2.2.1.2.2.2.1 x i x0.1 x0.2 (by first | decide | omega) (by first | decide | omega)
  have s0 := sumZ_0 v3 i.toNat (by first | decide | omega)
  have s1 := sumZ_m v3 (m - i.toNat) i.toNat (by first | decide | omega)
  obtain ⟨_, _, bl⟩ := bar_v (n := F 6 q 4) (d := F 6 q 5) hP.2.1.2.2.1.2 hP.2.1.2.2.2.1.2
  obtain ⟨_, _, _, _, l1, _, _, k7, k8, k9, k10⟩ := w1
  exact ⟨⟨(by first | decide | omega), k10.2.2.1, fun k k0 k1 => (k10.2.2.2.1 k k0 k1).2.2⟩, (by first | decide | omega), (by first | decide | omega)⟩
theorem C_foll {K : zK} {F : zF} {B : zB} {x y m m' a c : Int} (hK : 60000 ≤ K.1) (hx : PKc K x m F B) (hy : PKc K y m' F B) (ha : 0 ≤ a ∧ a < m) (hc : 0 ≤ c ∧ c < m') : ∃ r, f_Part_followedFor K y x a c F B = some (r, F, B) ∧ 0 ≤ r ∧ r ≤ 200 ∧ (¬ r = 0 → F 1 (B 4 x 5 a) 0 < F 1 (B 4 y 5 c) 0) := by
  obtain ⟨q1, q2, q3⟩ := hx.2.2.2 a ha.1 ha.2
  obtain ⟨s1, s2, s3⟩ := hy.2.2.2 c hc.1 hc.2
  obtain ⟨t, et, t0, t1⟩ := C_tpS (by first | decide | omega) q1
  obtain ⟨t', et', t0', t1'⟩ := C_tpS (by first | decide | omega) s1
  have hm := hx.2.2.1
  have hm' := hy.2.2.1
  unfold f_Part_followedFor
  rw [if_pos hy.1, if_pos (by first | decide | omega), if_pos s1.1, if_pos hx.1, if_pos (by first | decide | omega), if_pos q1.1, if_pos (by unfold r64; omega), if_pos (by unfold r64; omega)]
  by_cases z : 0 < zcmp (F 1 (B 4 y 5 c) 0) (F 1 (B 4 x 5 a) 0)
  · rw [if_pos z, et', zb_s, if_pos q1.1, et, zb_s]
    obtain ⟨r, e, r0, r1⟩ := C_f48 (st := t' - t) (by first | decide | omega) hx hy ha hc (by unfold r32; omega) (m - a).toNat K.1 0 (by first | decide | omega) (by first | decide | omega) (by first | decide | omega)
    refine ⟨r, e, r0, r1, fun _ => ?_⟩
    rcases Int.lt_or_le (F 1 (B 4 x 5 a) 0) (F 1 (B 4 y 5 c) 0) with l | l
    · exact l
    · have := zcmp_m.mpr l; omega
  · rw [if_neg z]
    exact ⟨0, rfl, (by first | decide | omega), (by first | decide | omega), fun n => absurd rfl n⟩
theorem C_folR {Km : Nat} {a1 a2 a3 a4 : Int} (h1 : r32 a1) (h2 : r32 a2) (h3 : r32 a3) (h4 : r32 a4) {K : zK} {F Fm : zF} {B Bm : zB} (h : IV cc Km K F B Fm Bm) : zR (f_S_follows K 0 a1 a2 a3 a4 F B) F B := by
  have hK := (IV_k h).1
  obtain ⟨x, y, e, e1, e2, e3, e4⟩ := prt h h1 h2
  obtain ⟨x', y', e', e1', e2', e3', e4'⟩ := prt h h1 h3
  unfold f_S_follows f_S_follows_42
  rw [if_pos (IV_12 h), e1, zb_s, e1', zb_s]
  rcases e4 with ⟨x0, _⟩ | ⟨_, x0, y0, z0, q, V, vV, ex, hP, _⟩
  · exact zR_i (fun _ => zR_s) (fun a => absurd x0 a)
  rcases e4' with ⟨x0', _⟩ | ⟨_, x0', y0', z0', q', V', vV', ex', hP', _⟩
  · exact zR_i (fun _ => zR_s) (fun _ => zR_i (fun _ => zR_s) (fun a => absurd x0' a))
  obtain ⟨m, pk⟩ := PKc_v h hP z0.1 vV ex
  obtain ⟨m', pk'⟩ := PKc_v h hP' z0'.1 vV' ex'
  have hm := pk.2.2.1
  have hm' := pk'.2.2.1
  obtain ⟨r, er, r0, r1⟩ := C_fst pk m.toNat K.1 0 (by first | decide | omega) (by first | decide | omega) (by first | decide | omega)
  obtain ⟨s, es, s0, s1⟩ := C_fst pk' m'.toNat K.1 0 (by first | decide | omega) (by first | decide | omega) (by first | decide | omega)
  have er' : f_Part_firstSounding K x F B = some (r, F, B) := er
  have es' : f_Part_firstSounding K x' F B = some (s, F, B) := es
  refine zR_i (fun _ => zR_s) (fun _ => zR_i (fun _ => zR_s) (fun _ => zR_g h2 (zR_g h3 (zR_i (fun _ => zR_s) (fun _ => zR_g h4 (zR_i (fun _ => zR_s) (fun l0 => zR_i (fun l3 => zR_g x0 ?_) (fun _ => zR_s))))))))
  rw [er', zb_s, if_pos x0', es', zb_s, if_pos (by unfold r32; omega)]
  have o72 : zR (f_S_follows_72 K s r x' x a4 F B) F B := by
    unfold f_S_follows_72 f_S_follows_87
    rw [if_pos (by decide), if_pos rfl]
    exact zR_s
  by_cases c1 : r = -1
  · rw [if_pos c1]; exact o72
  · rw [if_neg c1, if_pos (by unfold r32; omega)]
    by_cases c2 : s = -1
    · rw [if_pos c2]; exact o72
    · obtain ⟨f, ef, f0, f1, fl⟩ := C_foll hK pk pk' (show 0 ≤ r ∧ r < m by omega) (show 0 ≤ s ∧ s < m' by omega)
      obtain ⟨q1, q2, q3⟩ := pk.2.2.2 r (by first | decide | omega) r1
      obtain ⟨u1, u2, u3⟩ := pk'.2.2.2 s (by first | decide | omega) s1
      obtain ⟨t, et, t0, t1⟩ := C_tpS (by first | decide | omega) q1
      obtain ⟨t', et', t0', t1'⟩ := C_tpS (by first | decide | omega) u1
      rw [if_neg c2, ef, zb_s]
      unfold f_S_follows_87
      refine zR_g (by unfold r32; omega) (zR_i (fun _ => zR_s) (fun nf => zR_g x0' (zR_g (by first | decide | omega) (zR_g u1.1 (zR_g x0 (zR_g (by first | decide | omega) (zR_g q1.1 (zR_g h4 (zR_i (fun _ => zR_s) (fun _ => zR_i (fun _ => ?_) (fun _ => zR_i (fun _ => ?_) (fun _ => ?_))))))))))))
      · rw [et', zb_s, if_pos q1.1, et, zb_s, if_pos (by unfold r32; omega)]; exact zR_s
      · exact zR_b (C_above (by first | decide | omega) (by have := fl nf; omega)) (fun _ => zR_s)
      · exact zR_b (C_below (by first | decide | omega) (by have := fl nf; omega)) (fun _ => zR_s)
end
end

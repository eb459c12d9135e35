section
variable {cc : Int}
/-! ===== shape: the class's side ===== -/
section
variable {K : zK} {F : zF} {B : zB}
theorem zldv_R64 (a b : Int) : r64 (zldv a b) := toL_R _
theorem C_gcdF {x y : Int} (hK : 300 ≤ K.1) (hx : 0 ≤ x ∧ x ≤ 1000000000000) (hy : 0 ≤ y ∧ y ≤ 1000000000000) : ∃ r, f_S_gcd K x y F B = some (r, F, B) ∧ 0 ≤ r ∧ r < 9223372036854775808 := by
  obtain ⟨r, e, r0, r1⟩ := C_gcdR (K := K) (F := F) (B := B) 200 K.1 0 x y (by first | decide | omega) (by first | decide | omega) (by first | decide | omega) (by first | decide | omega) (by first | decide | omega) (by first | decide | omega) (by first | decide | omega)
  exact ⟨r, e, r0, r1⟩
theorem zmax_1 {r : Int} (h : 0 ≤ r ∧ r < 9223372036854775808) : ¬ lI (zmax r 1) = 0 := by
  unfold zmax
  by_cases z : r < 1
  · rw [if_pos z]; exact lI_n0 (by first | decide | omega) (by unfold r64; omega)
  · rw [if_neg z]; exact lI_n0 (by first | decide | omega) (by unfold r64; omega)
def EKl (K : zK) (e : Int) (F : zF) : Prop := (0 ≤ e ∧ e < K.2 1) ∧ (0 ≤ F 1 e 1 ∧ F 1 e 1 ≤ 1000000000000)
theorem C_smF {a b c d : Int} (hK : 300 ≤ K.1) (ha : EKl K a F) (hb : EKl K b F) (hc : EKl K c F) (hd : EKl K d F) : ∃ r, f_Part_sameFraction K a b c d F B = some (r, F, B) ∧ (r = 0 ∨ r = 1) := by
  obtain ⟨r, e, r0, r1⟩ := C_gcdF (F := F) (B := B) hK ha.2 hb.2
  obtain ⟨s, e', s0, s1⟩ := C_gcdF (F := F) (B := B) hK hc.2 hd.2
  unfold f_Part_sameFraction f_Part_sameFraction_74 f_Part_sameFraction_75
  rw [if_pos ha.1, if_pos hb.1, e, zb_s, if_pos (by unfold r64; omega), if_pos hc.1, if_pos hd.1, e', zb_s, if_pos (by unfold r64; omega), if_pos (zmax_1 ⟨r0, r1⟩), if_pos (zmax_1 ⟨s0, s1⟩), if_pos (zldv_R64 _ _), if_pos (zldv_R64 _ _)]
  have f0 : ∃ r, (if ((0 : Int) = 0 ∨ (0 : Int) = 1) then some ((0 : Int), F, B) else none) = some (r, F, B) ∧ (r = 0 ∨ r = 1) := ⟨0, by rw [if_pos (Or.inl rfl)], Or.inl rfl⟩
  by_cases z : zcmp (zldv (F 1 a 1) (zmax r 1)) (zldv (F 1 c 1) (zmax s 1)) = 0
  · rw [if_pos z, if_pos (zldv_R64 _ _), if_pos (zldv_R64 _ _)]
    by_cases y : zcmp (zldv (F 1 b 1) (zmax r 1)) (zldv (F 1 d 1) (zmax s 1)) = 0
    · rw [if_pos y, if_pos (Or.inr rfl)]; exact ⟨1, rfl, Or.inr rfl⟩
    · rw [if_neg y]; exact f0
  · rw [if_neg z]; exact f0
def EKs (K : zK) (e : Int) (F : zF) (B : zB) : Prop := EKc K e F B ∧ (0 ≤ F 1 e 1 ∧ F 1 e 1 ≤ 1000000000000)
theorem C_h81 {x y m m' a c n l6 l7 l8 l9 l10 : Int} (hK : 300 ≤ K.1) (hx : PKc K x m F B) (hy : PKc K y m' F B) (ha : 0 ≤ a ∧ a + n ≤ m) (hc : 0 ≤ c ∧ c + n ≤ m') (hn : 0 ≤ n) (h6 : r32 l6) (h7 : r32 l7) (h8 : r32 l8) (h9 : EKl K l9 F) (h10 : EKl K l10 F) : ∀ (d N : Nat) (i l12 l11 : Int), i + d = n → 0 ≤ i → d < N → (l12 < 0 ∨ EKc K l12 F B) → (l11 < 0 ∨ EKc K l11 F B) → ∃ r, f_Part_hasShape_81 K N i l12 l11 l10 l9 l8 l7 l6 x a y c n F B = some (r, F, B) ∧ (r = 0 ∨ r = 1) := by
  obtain ⟨h1, h2, h3, h4⟩ := hx
  obtain ⟨g1, g2, g3, g4⟩ := hy
  intro d
  induction d with
  | zero =>
    intro N i l12 l11 hi i0 hN q12 q11
    obtain ⟨p, rfl⟩ : ∃ p, N = p + 1 := ⟨N - 1, (by first | decide | omega)⟩
    rw [f_Part_hasShape_81, if_pos (by unfold r32; omega), if_pos (by unfold r32; omega), if_pos (by first | decide | omega)]
    exact ⟨1, rfl, Or.inr rfl⟩
  | succ d ih =>
    intro N i l12 l11 hi i0 hN q12 q11
    obtain ⟨p, rfl⟩ : ∃ p, N = p + 1 := ⟨N - 1, (by first | decide | omega)⟩
    have nxt : ∀ l12 l11 : Int, (l12 < 0 ∨ EKc K l12 F B) → (l11 < 0 ∨ EKc K l11 F B) → ∃ r, f_Part_hasShape_268 (f_Part_hasShape_81 K p) K i l12 l11 l10 l9 l8 l7 l6 x a y c n F B = some (r, F, B) ∧ (r = 0 ∨ r = 1) := fun u v hu hv => ih p (i + 1) u v (by first | decide | omega) (by first | decide | omega) (by first | decide | omega) hu hv
    obtain ⟨s1, s2, s3⟩ := g4 (c + i) (by first | decide | omega) (by first | decide | omega)
    rw [f_Part_hasShape_81, if_pos (by unfold r32; omega), if_pos (by unfold r32; omega), if_neg (by first | decide | omega), if_pos g1, if_pos (by first | decide | omega), if_pos h1, if_pos h7]
    have key : ∀ t : Int, 0 ≤ t → t < m → ∃ r, f_Part_hasShape_124 (f_Part_hasShape_81 K p) K (B 4 y 5 (c + i)) i l12 l11 l10 l9 l8 l7 l6 x a y c n x t F B = some (r, F, B) ∧ (r = 0 ∨ r = 1) := fun t t0 t1 => by
      obtain ⟨q1, q2, q3⟩ := h4 t t0 t1
      obtain ⟨e, ey⟩ : ∃ e, e = B 4 y 5 (c + i) := ⟨_, rfl⟩
      obtain ⟨f, ex⟩ : ∃ f, f = B 4 x 5 t := ⟨_, rfl⟩
      rw [← ey] at s1 s2 s3 ⊢
      rw [← ex] at q1 q2 q3
      have k208 : ∀ l12 l11 : Int, (l12 < 0 ∨ EKc K l12 F B) → (l11 < 0 ∨ EKc K l11 F B) → ∃ r, f_Part_hasShape_208 (f_Part_hasShape_81 K p) K f e i l12 l11 l10 l9 l8 l7 l6 x a y c n F B = some (r, F, B) ∧ (r = 0 ∨ r = 1) := fun u v hu hv => by
        unfold f_Part_hasShape_208
        by_cases zu : u < 0
        · rw [if_pos zu]; exact nxt u v hu hv
        by_cases zv : v < 0
        · rw [if_neg zu, if_pos zv]; exact nxt u v hu hv
        have hu' := hu.resolve_left zu
        have hv' := hv.resolve_left zv
        obtain ⟨r, er, r01⟩ := C_isR s1
        rw [if_neg zu, if_neg zv, if_pos s1.1, er, zb_s, if_pos (by unfold r32; omega)]
        by_cases zr : r = 0
        · obtain ⟨t1, et1, b1⟩ := C_tpS (by first | decide | omega) s1
          obtain ⟨t2, et2, b2⟩ := C_tpS (by first | decide | omega) hv'
          obtain ⟨t3, et3, b3⟩ := C_tpS (by first | decide | omega) q1
          obtain ⟨t4, et4, b4⟩ := C_tpS (by first | decide | omega) hu'
          rw [if_pos zr, et1, zb_s, if_pos hv'.1, et2, zb_s, if_pos q1.1, et3, zb_s, if_pos hu'.1, et4, zb_s, if_pos h6]
          have k263 : ∀ z : Int, r32 z → ∃ r, f_Part_hasShape_263 (f_Part_hasShape_81 K p) K i u v l10 l9 l8 l7 l6 x a y c n (t3 - t4) z F B = some (r, F, B) ∧ (r = 0 ∨ r = 1) := fun z hz => by
            unfold f_Part_hasShape_263
            rw [if_pos (by unfold r32; omega), if_pos hz]
            by_cases zz : t3 - t4 = z
            · rw [if_pos zz]; exact nxt u v hu hv
            · rw [if_neg zz]; exact ⟨0, rfl, Or.inl rfl⟩
          by_cases z6 : l6 = 0
          · rw [if_pos z6]; exact k263 _ (by unfold r32; omega)
          · rw [if_neg z6]; exact k263 _ (by unfold r32; omega)
        · rw [if_neg zr]; exact nxt u v hu hv
      have k165 : ∀ s : Int, (s = 0 ∨ s = 1) → ∃ r, f_Part_hasShape_165 (f_Part_hasShape_81 K p) K f e i l12 l11 l10 l9 l8 l7 l6 x a y c n s F B = some (r, F, B) ∧ (r = 0 ∨ r = 1) := fun s hs => by
        unfold f_Part_hasShape_165 f_Part_hasShape_185
        rw [if_pos (by unfold r32; omega)]
        by_cases zs : s = 0
        · rw [if_pos zs]; exact ⟨0, rfl, Or.inl rfl⟩
        obtain ⟨r, er, r01⟩ := C_isR s1
        obtain ⟨r', er', r01'⟩ := C_isR q1
        rw [if_neg zs, if_pos s1.1, er, zb_s, if_pos q1.1, er', zb_s, if_pos (by unfold r32; omega), if_pos (by unfold r32; omega)]
        by_cases zr : r = r'
        · rw [if_pos zr]
          by_cases z12 : l12 < 0
          · rw [if_pos z12, er, zb_s, if_pos (by unfold r32; omega)]
            by_cases z0 : r = 0
            · rw [if_pos z0]; exact k208 f e (Or.inr q1) (Or.inr s1)
            · rw [if_neg z0]; exact k208 l12 l11 q12 q11
          · rw [if_neg z12]; exact k208 l12 l11 q12 q11
        · rw [if_neg zr]; exact ⟨0, rfl, Or.inl rfl⟩
      unfold f_Part_hasShape_124
      rw [if_pos h1, if_pos (by first | decide | omega), if_pos h8, ← ex]
      by_cases z8 : l8 = 0
      · rw [if_pos z8, if_pos s1.1, if_pos q1.1, if_pos (by unfold r64; omega), if_pos (by unfold r64; omega)]
        by_cases zc : zcmp (F 1 e 1) (F 1 f 1) = 0
        · rw [if_pos zc]; exact k165 1 (Or.inr rfl)
        · rw [if_neg zc]; exact k165 0 (Or.inl rfl)
      · obtain ⟨r, er, r01⟩ := C_smF (B := B) hK h9 h10 (c := e) (d := f) ⟨s1.1, s3⟩ ⟨q1.1, q3⟩
        rw [if_neg z8, if_pos h9.1, if_pos h10.1, if_pos s1.1, if_pos q1.1, er, zb_s]
        exact k165 r r01
    by_cases z7 : l7 = 0
    · rw [if_pos z7]; exact key _ (by first | decide | omega) (by first | decide | omega)
    · rw [if_neg z7]; exact key _ (by first | decide | omega) (by first | decide | omega)
theorem C_hasS {x y m m' a c n l5 : Int} (hK : 300 ≤ K.1) (hx : PKc K x m F B) (hy : PKc K y m' F B) (ha : 0 ≤ a ∧ a + n ≤ m) (hc : 0 ≤ c ∧ c + n ≤ m') (hn : 2 ≤ n ∧ n ≤ 20) : ∃ r, f_Part_hasShape K x a y c n l5 F B = some (r, F, B) ∧ (r = 0 ∨ r = 1) := by
  have hm := hx.2.2.1
  have hm' := hy.2.2.1
  have d1 : r32 (1 : Int) := by decide
  have d0 : r32 (0 : Int) := by decide
  have k69 : ∀ (l6 l7 l8 t : Int), r32 l6 → r32 l7 → r32 l8 → 0 ≤ t → t < m → ∃ r, f_Part_hasShape_69 K (B 4 y 5 c) l8 l7 l6 x a y c n x t F B = some (r, F, B) ∧ (r = 0 ∨ r = 1) := fun l6 l7 l8 t h6 h7 h8 t0 t1 => by
    unfold f_Part_hasShape_69
    rw [if_pos hx.1, if_pos (by first | decide | omega)]
    have q := hx.2.2.2 t t0 t1
    have s := hy.2.2.2 c (by first | decide | omega) (by first | decide | omega)
    exact C_h81 hK hx hy ha hc (by first | decide | omega) h6 h7 h8 ⟨s.1.1, s.2.2⟩ ⟨q.1.1, q.2.2⟩ n.toNat K.1 0 (-1) (-1) (by first | decide | omega) (by first | decide | omega) (by first | decide | omega) (Or.inl (by first | decide | omega)) (Or.inl (by first | decide | omega))
  have k40 : ∀ (l6 l7 l8 : Int), r32 l6 → r32 l7 → r32 l8 → ∃ r, f_Part_hasShape_40 K l7 l6 x a y c n l8 F B = some (r, F, B) ∧ (r = 0 ∨ r = 1) := fun l6 l7 l8 h6 h7 h8 => by
    unfold f_Part_hasShape_40
    rw [if_pos hy.1, if_pos (by first | decide | omega), if_pos hx.1, if_pos h7]
    by_cases z : l7 = 0
    · rw [if_pos z]; exact k69 _ _ _ _ h6 h7 h8 (by first | decide | omega) (by first | decide | omega)
    · rw [if_neg z]; exact k69 _ _ _ _ h6 h7 h8 (by first | decide | omega) (by first | decide | omega)
  have k26 : ∀ (l6 l7 : Int), r32 l6 → r32 l7 → ∃ r, f_Part_hasShape_26 K l6 x a y c n l5 l7 F B = some (r, F, B) ∧ (r = 0 ∨ r = 1) := fun l6 l7 h6 h7 => by
    unfold f_Part_hasShape_26
    rw [if_pos (zand_R _ _)]
    by_cases z : zand l5 4 = 0
    · rw [if_pos z]; exact k40 _ _ _ h6 h7 d0
    · rw [if_neg z]; exact k40 _ _ _ h6 h7 d1
  have k12 : ∀ (l6 : Int), r32 l6 → ∃ r, f_Part_hasShape_12 K x a y c n l5 l6 F B = some (r, F, B) ∧ (r = 0 ∨ r = 1) := fun l6 h6 => by
    unfold f_Part_hasShape_12
    rw [if_pos (zand_R _ _)]
    by_cases z : zand l5 2 = 0
    · rw [if_pos z]; exact k26 _ _ h6 d0
    · rw [if_neg z]; exact k26 _ _ h6 d1
  unfold f_Part_hasShape
  rw [if_pos (zand_R _ _)]
  by_cases z : zand l5 1 = 0
  · rw [if_pos z]; exact k12 _ d0
  · rw [if_neg z]; exact k12 _ d1
theorem C_s95 {x y m m' c n l7 : Int} (hK : 60000 ≤ K.1) (hx : PKc K x m F B) (hy : PKc K y m' F B) (hc : 0 ≤ c ∧ c + n ≤ m') (hn : 2 ≤ n ∧ n ≤ 20) : ∀ (d N : Nat) (i l12 : Int), i + d = m + 1 → 0 ≤ i → d < N → (0 ≤ l12 ∧ l12 < 2147483648) → zR (f_S_shape_95 K N i l12 x y c n l7 F B) F B := by
  have hm := hx.2.2.1
  intro d
  induction d with
  | zero =>
    intro N i l12 hi i0 hN q
    obtain ⟨p, rfl⟩ : ∃ p, N = p + 1 := ⟨N - 1, (by first | decide | omega)⟩
    rw [f_S_shape_95, if_pos hx.1, if_pos (by unfold r32; omega), hx.2.1, if_pos (by unfold r32; omega), if_pos (by first | decide | omega)]
    exact zR_s
  | succ d ih =>
    intro N i l12 hi i0 hN q
    obtain ⟨p, rfl⟩ : ∃ p, N = p + 1 := ⟨N - 1, (by first | decide | omega)⟩
    rw [f_S_shape_95, if_pos hx.1, if_pos (by unfold r32; omega), hx.2.1, if_pos (by unfold r32; omega)]
    by_cases z : m - n < i
    · rw [if_pos z]; exact zR_s
    obtain ⟨r, er, r01⟩ := C_hasS (l5 := l7) (by first | decide | omega) hx hy (a := i) (by first | decide | omega) hc hn
    rw [if_neg z, if_pos hy.1, er, zb_s, if_pos (by unfold r32; omega)]
    unfold f_S_shape_136
    by_cases zr : r = 0
    · rw [if_pos zr]; exact ih p _ _ (by first | decide | omega) (by first | decide | omega) (by first | decide | omega) q
    · rw [if_neg zr, if_pos (by unfold r32; omega)]
      by_cases z12 : l12 = 0
      · rw [if_pos z12]; exact zR_s
      · rw [if_neg z12]; exact ih p _ _ (by first | decide | omega) (by first | decide | omega) (by first | decide | omega) (by first | decide | omega)
end
theorem C_shaR {Km : Nat} {a1 a2 a3 a4 a5 a6 a7 a8 : Int} (h1 : r32 a1) (h2 : r32 a2) (h3 : r32 a3) (h4 : r32 a4) (h5 : r32 a5) (h6 : r32 a6) (h7 : r32 a7) (h8 : r32 a8) {K : zK} {F Fm : zF} {B Bm : zB} (h : IV cc Km K F B Fm Bm) : zR (f_S_shape K 0 a1 a2 a3 a4 a5 a6 a7 a8 F B) F B := by
  have hK := (IV_k h).1
  obtain ⟨x, y, e, e1, e2, e3, e4⟩ := prt h h1 h2
  obtain ⟨x', y', e', e1', e2', e3', e4'⟩ := prt h h5 h6
  have o58 : ∀ s x' x : Int, zR (f_S_shape_58 K x' x a3 a4 a7 a8 1 F B) F B := fun s x' x => by
    unfold f_S_shape_58 f_S_shape_86
    rw [if_pos (by decide), if_neg (by decide)]
    exact zR_s
  unfold f_S_shape f_S_shape_53
  rw [if_pos (IV_12 h), e1, zb_s, e1', zb_s]
  rcases e4 with ⟨x0, _⟩ | ⟨_, x0, y0, z0, q, V, vV, ex, hP, _⟩
  · exact zR_i (fun _ => o58 0 _ _) (fun a => absurd x0 a)
  rcases e4' with ⟨x0', _⟩ | ⟨_, x0', y0', z0', q', V', vV', ex', hP', _⟩
  · exact zR_i (fun _ => o58 0 _ _) (fun _ => zR_i (fun _ => o58 0 _ _) (fun a => absurd x0' a))
  obtain ⟨m, pk⟩ := PKc_v h hP z0.1 vV ex
  obtain ⟨m', pk'⟩ := PKc_v h hP' z0'.1 vV' ex'
  have hm := pk.2.2.1
  have hm' := pk'.2.2.1
  refine zR_i (fun _ => o58 0 _ _) (fun _ => zR_i (fun _ => o58 0 _ _) (fun _ => zR_g h4 (zR_i (fun _ => o58 0 _ _) (fun l2 => zR_i (fun _ => o58 0 _ _) (fun l20 => zR_g h7 (zR_i (fun _ => o58 0 _ _) (fun _ => zR_i (fun _ => ?_) (fun _ => o58 0 _ _))))))))
  unfold f_S_shape_58 f_S_shape_86
  rw [if_pos (by decide), if_pos rfl]
  refine zR_g h8 (zR_i (fun _ => zR_s) (fun n8 => zR_g h3 (zR_i (fun _ => zR_s) (fun n3 => zR_g x0 (zR_g (by rw [pk.2.1]; unfold r32; omega) (zR_i (fun le => ?_) (fun _ => zR_s)))))))
  rw [pk.2.1] at le
  unfold r32 at h8
  exact C_s95 hK pk' pk (by first | decide | omega) (by first | decide | omega) (m' + 1).toNat K.1 0 a8 (by first | decide | omega) (by first | decide | omega) (by first | decide | omega) (by first | decide | omega)
end

section
variable {cc : Int}
/-! ===== follows: the class's call returns ===== -/
theorem PKc_v {Km : Nat} {K : zK} {F Fm : zF} {B Bm : zB} (h : IV cc Km K F B Fm Bm) {q V w u x : Int} (hP : PK K V q w F B Fm Bm) (u0 : 0 ≤ u) (u1 : u < V) (ex : x = B 6 q 0 u) : ∃ m, PKc K x m F B := by
  obtain ⟨hH, m, g, hV, _⟩ := hP.2.2 u u0 u1
  have x0 := hH.1
  rw [← ex] at hV x0
  obtain ⟨v1, v2, v3, v4, v5, v6, _⟩ := hV
  refine ⟨m, x0, v1.1, by omega, fun i i0 i1 => ?_⟩
  obtain ⟨w1, w2, _⟩ := v6 i.toNat (by omega)
  rw [show ((i.toNat : Nat) : Int) = i by omega] at w1 w2
  have j1 := (IV_k h).2.2.1.2.2.2.1 x i x0.1 x0.2 (by omega) (by omega)
  have s0 := sumZ_0 v3 i.toNat (by omega)
  have s1 := sumZ_m v3 (m - i.toNat) i.toNat (by omega)
  obtain ⟨_, _, bl⟩ := bar_v (n := F 6 q 4) (d := F 6 q 5) hP.2.1.2.2.1.2 hP.2.1.2.2.2.1.2
  obtain ⟨_, _, _, _, l1, _, _, k7, k8, k9, k10⟩ := w1
  exact ⟨⟨by omega, k10.2.2.1, fun k k0 k1 => (k10.2.2.2.1 k k0 k1).2.2⟩, by omega, by omega⟩
theorem C_foll {K : zK} {F : zF} {B : zB} {x y m m' a c : Int} (hK : 60000 ≤ K.1) (hx : PKc K x m F B) (hy : PKc K y m' F B) (ha : 0 ≤ a ∧ a < m) (hc : 0 ≤ c ∧ c < m') : ∃ r, f_Part_followedFor K y x a c F B = some (r, F, B) ∧ 0 ≤ r ∧ r ≤ 200 ∧ (¬ r = 0 → F 1 (B 4 x 5 a) 0 < F 1 (B 4 y 5 c) 0) := by
  obtain ⟨q1, q2, q3⟩ := hx.2.2.2 a ha.1 ha.2
  obtain ⟨s1, s2, s3⟩ := hy.2.2.2 c hc.1 hc.2
  obtain ⟨t, et, t0, t1⟩ := C_tpS (by omega) q1
  obtain ⟨t', et', t0', t1'⟩ := C_tpS (by omega) s1
  have hm := hx.2.2.1
  have hm' := hy.2.2.1
  unfold f_Part_followedFor
  rw [if_pos hy.1, if_pos (by omega), if_pos s1.1, if_pos hx.1, if_pos (by omega), if_pos q1.1, if_pos (by unfold r64; omega), if_pos (by unfold r64; omega)]
  by_cases z : 0 < zcmp (F 1 (B 4 y 5 c) 0) (F 1 (B 4 x 5 a) 0)
  · rw [if_pos z, et', zb_s, if_pos q1.1, et, zb_s]
    obtain ⟨r, e, r0, r1⟩ := C_f48 (st := t' - t) (by omega) hx hy ha hc (by unfold r32; omega) (m - a).toNat K.1 0 (by omega) (by omega) (by omega)
    refine ⟨r, e, r0, r1, fun _ => ?_⟩
    rcases Int.lt_or_le (F 1 (B 4 x 5 a) 0) (F 1 (B 4 y 5 c) 0) with l | l
    · exact l
    · have := zcmp_m.mpr l; omega
  · rw [if_neg z]
    exact ⟨0, rfl, by omega, by omega, fun n => absurd rfl n⟩
theorem C_folR {Km : Nat} {a1 a2 a3 a4 : Int} (h1 : r32 a1) (h2 : r32 a2) (h3 : r32 a3) (h4 : r32 a4) {K : zK} {F Fm : zF} {B Bm : zB} (h : IV cc Km K F B Fm Bm) : zR (f_S_follows K 0 a1 a2 a3 a4 F B) F B := by
  have hK := (IV_k h).1
  obtain ⟨x, y, e, e1, e2, e3, e4⟩ := prt h h1 h2
  obtain ⟨x', y', e', e1', e2', e3', e4'⟩ := prt h h1 h3
  unfold f_S_follows f_S_follows_42
  rw [if_pos (IV_12 h), e1, zb_s, e1', zb_s]
  rcases e4 with ⟨x0, _⟩ | ⟨_, x0, y0, z0, q, V, vV, ex, hP, _⟩
  · exact zR_i (fun _ => zR_s) (fun a => absurd x0 a)
  rcases e4' with ⟨x0', _⟩ | ⟨_, x0', y0', z0', q', V', vV', ex', hP', _⟩
  · exact zR_i (fun _ => zR_s) (fun _ => zR_i (fun _ => zR_s) (fun a => absurd x0' a))
  obtain ⟨m, pk⟩ := PKc_v h hP z0.1 vV ex
  obtain ⟨m', pk'⟩ := PKc_v h hP' z0'.1 vV' ex'
  have hm := pk.2.2.1
  have hm' := pk'.2.2.1
  obtain ⟨r, er, r0, r1⟩ := C_fst pk m.toNat K.1 0 (by omega) (by omega) (by omega)
  obtain ⟨s, es, s0, s1⟩ := C_fst pk' m'.toNat K.1 0 (by omega) (by omega) (by omega)
  have er' : f_Part_firstSounding K x F B = some (r, F, B) := er
  have es' : f_Part_firstSounding K x' F B = some (s, F, B) := es
  refine zR_i (fun _ => zR_s) (fun _ => zR_i (fun _ => zR_s) (fun _ => zR_g h2 (zR_g h3 (zR_i (fun _ => zR_s) (fun _ => zR_g h4 (zR_i (fun _ => zR_s) (fun l0 => zR_i (fun l3 => zR_g x0 ?_) (fun _ => zR_s))))))))
  rw [er', zb_s, if_pos x0', es', zb_s, if_pos (by unfold r32; omega)]
  have o72 : zR (f_S_follows_72 K s r x' x a4 F B) F B := by
    unfold f_S_follows_72 f_S_follows_87
    rw [if_pos (by decide), if_pos rfl]
    exact zR_s
  by_cases c1 : r = -1
  · rw [if_pos c1]; exact o72
  · rw [if_neg c1, if_pos (by unfold r32; omega)]
    by_cases c2 : s = -1
    · rw [if_pos c2]; exact o72
    · obtain ⟨f, ef, f0, f1, fl⟩ := C_foll hK pk pk' (show 0 ≤ r ∧ r < m by omega) (show 0 ≤ s ∧ s < m' by omega)
      obtain ⟨q1, q2, q3⟩ := pk.2.2.2 r (by omega) r1
      obtain ⟨u1, u2, u3⟩ := pk'.2.2.2 s (by omega) s1
      obtain ⟨t, et, t0, t1⟩ := C_tpS (by omega) q1
      obtain ⟨t', et', t0', t1'⟩ := C_tpS (by omega) u1
      rw [if_neg c2, ef, zb_s]
      unfold f_S_follows_87
      refine zR_g (by unfold r32; omega) (zR_i (fun _ => zR_s) (fun nf => zR_g x0' (zR_g (by omega) (zR_g u1.1 (zR_g x0 (zR_g (by omega) (zR_g q1.1 (zR_g h4 (zR_i (fun _ => zR_s) (fun _ => zR_i (fun _ => ?_) (fun _ => zR_i (fun _ => ?_) (fun _ => ?_))))))))))))
      · rw [et', zb_s, if_pos q1.1, et, zb_s, if_pos (by unfold r32; omega)]; exact zR_s
      · exact zR_b (C_above (by omega) (by have := fl nf; omega)) (fun _ => zR_s)
      · exact zR_b (C_below (by omega) (by have := fl nf; omega)) (fun _ => zR_s)
end

section
/-! ===== the class writes a voice whole ===== -/
theorem cb_z {b e : Int} (b0 : 0 < b ∧ b ≤ 3072) (e0 : 0 ≤ e ∧ e ≤ 400000) : zdv (e + b - 1) (zmax b 1) * b = cbE b e := by
  have zm : zmax b 1 = b := by unfold zmax; split <;> omega
  rw [zm, zdv_e (by first | decide | omega) (by unfold r32; omega) b0.1 (by unfold r32; omega)]
  have f1 := Int.mul_ediv_add_emod e b
  have f2 := Int.emod_nonneg e (show b ≠ 0 by omega)
  have f3 := Int.emod_lt_of_pos e b0.1
  have cm : e / b * b = b * (e / b) := Int.mul_comm _ _
  unfold cbE
  by_cases z : e % b = 0
  · rw [if_pos z]
    have : (e + b - 1) / b = e / b := by
      have q := bar_q (b := b) (nb := e / b) (a := e + b - 1) b0.1 (by first | decide | omega) (by rw [Int.add_mul, Int.one_mul]; omega)
      exact q.1
    rw [this]; omega
  · rw [if_neg z]
    have : (e + b - 1) / b = e / b + 1 := by
      have q := bar_q (b := b) (nb := e / b + 1) (a := e + b - 1) b0.1 (by rw [Int.add_mul, Int.one_mul]; omega) (by rw [Int.add_mul, Int.add_mul, Int.one_mul]; omega)
      exact q.1
    rw [this]
section
variable {K : zK} {o f n d b g D N : Int} {bg en tn tk nb : Int → Int}
theorem C_w242 {come last : Int} {T : List Int} {F : zF} {B : zB} (hK : KKq K) (hb : BRs n d b) (hq : SCq K o n d b (F, B)) (c0 : 0 ≤ come ∧ come ≤ 400000) (c1 : come % sdU d = 0) (l0 : 0 ≤ last ∧ last ≤ 100 * b) (l1 : last % sdU d = 0) (w : TC (F, B) T F B) : ∃ F' B', f_Scribe_writeVoice_242 K come 0 last F B = some (0, F', B') ∧ TC (F', B') (T ++ (spX n d b 0 (fun _ => 0) (fun _ => 0) come last ++ (spX n d b 0 (fun _ => 0) (fun _ => 0) last (cbE b last) ++ [125, 10]))) F' B' ∧ wvF F F' ∧ wvB B B' := by
  obtain ⟨b1, b2, b3, _, b5, b6⟩ := BRs_b hb
  have sd : (sdU d = 16) ∨ (sdU d = 4) := by unfold sdU; split <;> omega
  obtain ⟨F1, B1, x1, x2, x3, x4⟩ := C_wrest (a := come) (e := last) hK hb hq c0 c1 l1 l0 w
  have wf1 : wvF F F1 := fun c y k n => x3 c y k (by first | decide | omega)
  have wb1 : wvB B B1 := fun c y k x n => x4 c y k x (by first | decide | omega)
  have q1 := SCq_f hq wf1 wb1
  have f1 := Int.mul_ediv_add_emod last b
  have f2 := Int.emod_nonneg last (show b ≠ 0 by omega)
  have f3 := Int.emod_lt_of_pos last (show 0 < b by omega)
  have q0 : 0 ≤ last / b := Int.ediv_nonneg l0.1 (by first | decide | omega)
  have nb1 : (last / b + 1) * b = b * (last / b) + b := by rw [Int.add_mul, Int.one_mul, Int.mul_comm]
  have cb : cbE b last % sdU d = 0 ∧ last ≤ cbE b last ∧ cbE b last ≤ 100 * b := by
    unfold cbE
    by_cases z : last % b = 0
    · rw [if_pos z]; exact ⟨l1, (by first | decide | omega), (by first | decide | omega)⟩
    · rw [if_neg z]
      refine ⟨?_, (by first | decide | omega), ?_⟩
      · obtain ⟨j, hj⟩ : ∃ j, b = sdU d * j := ⟨b / sdU d, by rcases sd with h | h <;> rw [h] at b3 ⊢ <;> omega⟩
        rw [show (last / b + 1) * b = sdU d * ((last / b + 1) * j) by rw [hj]; ac_rfl]
        exact Int.mul_emod_right _ _
      · have l1 := (Int.ediv_lt_iff_lt_mul (show 0 < b by omega) (a := last) (b := 100)).mpr (by
          by_cases y : last = 100 * b
          · rw [y, Int.mul_emod_left] at z; exact absurd rfl z
          · omega)
        exact Int.mul_le_mul_of_nonneg_right (by first | decide | omega) (by first | decide | omega)
  obtain ⟨F2, B2, y1, y2, y3, y4⟩ := C_wrest (a := last) (e := cbE b last) hK hb q1 (by first | decide | omega) l1 cb.1 (by first | decide | omega) x2
  have wf2 : wvF F1 F2 := fun c y k n => y3 c y k (by first | decide | omega)
  have wb2 : wvB B1 B2 := fun c y k x n => y4 c y k x (by first | decide | omega)
  have q2 := SCq_f q1 wf2 wb2
  obtain ⟨F3, B3, t1, t2⟩ := C_strg (s := 12) (U := [125, 10]) hK.1 (by have := hK.2.2.2; omega) (by decide) (by decide) (by decide) (by decide) y2
  refine ⟨F3, B3, ?_, ?_, wvF_t wf1 (wvF_t wf2 (fun c y k n => t2.2.1 c y k (by first | decide | omega))), wvB_t wb1 (wvB_t wb2 (fun c y k x n => t2.2.2 c y k x (by first | decide | omega)))⟩
  · have k3 : F1 7 0 3 = b := q1.2.2.1
    have k1 : F2 7 0 1 = 1 := q2.2.1
    have zm : zmax b 1 = b := by unfold zmax; split <;> omega
    have h0 := hK.1
    unfold f_Scribe_writeVoice_242
    rw [if_pos ⟨(by first | decide | omega), hK.2.1⟩, x1, zb_s, k3, if_pos (by unfold r32; omega), if_pos (by rw [zm]; exact iI_n0 (by first | decide | omega) (by unfold r32; omega)), cb_z (by first | decide | omega) (by first | decide | omega), y1, zb_s, k1, if_pos (by first | decide | omega), t1, zb_s]
  · have := TC_s t2
    simp only [List.append_assoc] at this ⊢
    exact this
theorem C_w13 {z a v l3 : Int} {F : zF} {B : zB} (hK : KKq K) (dq : DTq g D N bg en tn tk) (hz : 0 ≤ a ∧ a ≤ z ∧ z ≤ N) (hc : CFq K o g D N bg en tn tk F B) : ∀ (d m : Nat) (i : Int), i + d = z → a ≤ i → d < m → ∃ m', f_Scribe_writeVoice_13 K m i (sm60 tn a (i - a).toNat + 60 * (i - a)) z 0 a v l3 F B = f_Scribe_writeVoice_13 K (m' + 1) z (sm60 tn a (z - a).toNat + 60 * (z - a)) z 0 a v l3 F B := by
  have hN := dq.2.2.1
  obtain ⟨h1, h2, h3, h4, h5⟩ := hc
  intro d
  induction d with
  | zero =>
    intro m i e ai hm
    obtain ⟨p, rfl⟩ : ∃ p, m = p + 1 := ⟨m - 1, (by first | decide | omega)⟩
    have : i = z := by omega
    subst this
    exact ⟨p, rfl⟩
  | succ d ih =>
    intro m i e ai hm
    obtain ⟨p, rfl⟩ : ∃ p, m = p + 1 := ⟨m - 1, (by first | decide | omega)⟩
    obtain ⟨m', hm'⟩ := ih p (i + 1) (by first | decide | omega) (by first | decide | omega) (by first | decide | omega)
    refine ⟨m', ?_⟩
    rw [← hm', f_Scribe_writeVoice_13, if_pos (by unfold r32; omega), if_pos (by unfold r32; omega), if_neg (by first | decide | omega), if_pos ⟨(by first | decide | omega), hK.2.1⟩, h1.1, if_pos h1.2, if_pos (by first | decide | omega), (h5 i (by first | decide | omega) (by first | decide | omega)).2.1]
    have : sm60 tn a (i - a).toNat + 60 * (i - a) + tn i = sm60 tn a (i + 1 - a).toNat + 60 * (i + 1 - a) := by
      rw [show (i + 1 - a).toNat = (i - a).toNat + 1 by omega, sm60, show a + ((i - a).toNat : Int) = i by omega]
      omega
    rw [this]
theorem C_wv {a v u last cl num : Int} {EL : List (Int × Int × Int × (Int → Int) × (Int → Int))} {T : List Int} {F : zF} {B : zB} (hK : KKq K) (hb : BRs n d b) (hgu : u = 512 / g) (dq : DTq g D N bg en tn tk) (ha : 0 ≤ a ∧ a < N) (hlt : ∀ i, 0 ≤ i → i < a → tk i < tk a) (hl : 0 ≤ last ∧ u * last ≤ 100 * b) (v0 : 0 ≤ v ∧ v < 4) (hG : GLp K o f (fun i => gplF g D (bg i)) (fun i => gplF g D (en i)) tn (nxG tk a N) 400 a 0 EL) (hE : endN 0 EL ≤ last) (hcl : cl = if sm60 tn a (nxG tk a N - a).toNat < 0 then 1 else 0) (hnum : zmax (B 8 o 3 (tk a)) 0 = num ∧ r32 (B 8 o 3 (tk a)) ∧ 0 ≤ num ∧ num ≤ 3) (hc : CFq K o g D N bg en tn tk F B) (hq : SCq K o n d b (F, B)) (b2 : B 8 o 0 2 = f) (w : TC (F, B) T F B) : ∃ F' B', f_Scribe_writeVoice K 0 a v (u * last) F B = some (0, F', B') ∧ TC (F', B') (T ++ (vHd v cl num ++ (vNt n d b u last EL ++ [125, 10]))) F' B' ∧ wvF F F' ∧ wvB B B' := by
  have hN := dq.2.2.1
  obtain ⟨k0, k7, k1, kf⟩ := hK
  obtain ⟨b1', b2', b3', _, b5', b6'⟩ := BRs_b hb
  have hu := (gu dq.1).2
  rw [← hgu] at hu
  have hb' := blk_o dq ha hlt
  obtain ⟨p1, p2, p3, p4⟩ := nxG_p (gB := tk) ha.2 (by first | decide | omega) ha.1
  have sb := sm_b (tn := tn) (a := a) (nxG tk a N - a).toNat (fun i i0 i1 => (dq.2.2.2.1 i (by first | decide | omega) (by first | decide | omega)).2.1)
  obtain ⟨m', hm'⟩ := C_w13 (v := v) (l3 := u * last) ⟨k0, k7, k1, kf⟩ dq (z := nxG tk a N) (a := a) ⟨ha.1, (by first | decide | omega), p2⟩ hc (nxG tk a N - a).toNat K.1 a (by first | decide | omega) (by first | decide | omega) (by first | decide | omega)
  rw [show (a - a).toNat = 0 by omega, sm60, show (0 : Int) + 60 * (a - a) = 0 by omega] at hm'
  obtain ⟨h1, h2, h3, h4, h5⟩ := hc
  have q11 : F 7 0 1 = 1 := hq.2.1
  obtain ⟨F1, B1, e1, w1⟩ := C_strg (s := 8) (U := [118, 111, 105, 99, 101, 32, 118]) k0 (by first | decide | omega) (by decide) (by decide) (by decide) (by decide) w
  have f11 : F1 7 0 1 = 1 := by rw [w1.2.1 7 0 1 (by first | decide | omega)]; exact q11
  obtain ⟨F2, B2, e2, w2⟩ := C_pt (a := 97 + v) k0 w1
  have f21 : F2 7 0 1 = 1 := by rw [w2.2.1 7 0 1 (by first | decide | omega)]; exact q11
  obtain ⟨F3, B3, e3, w3⟩ : ∃ F3 B3, f_ByteRow_putText K 1 (if cl = 0 then 9 else 10) F2 B2 = some (0, F3, B3) ∧ TC (F, B) (T ++ [118, 111, 105, 99, 101, 32, 118] ++ [97 + v] ++ (if cl = 0 then [32, 116, 114, 101, 98, 108, 101, 32] else [32, 98, 97, 115, 115, 32])) F3 B3 := by
    by_cases z : cl = 0
    · rw [if_pos z, if_pos z]
      exact C_strg k0 (by first | decide | omega) (by decide) (by decide) (by decide) (by decide) w2
    · rw [if_neg z, if_neg z]
      exact C_strg k0 (by first | decide | omega) (by decide) (by decide) (by decide) (by decide) w2
  have Fn3 : ∀ c y k, ¬ (c = 0 ∧ y = 1 ∧ 1 ≤ k ∧ k ≤ 2) → F3 c y k = F c y k := w3.2.1
  have Bn3 : ∀ c y k x, ¬ (c = 0 ∧ y = 1 ∧ k = 0) → B3 c y k x = B c y k x := w3.2.2
  obtain ⟨F4, B4, e4, w4⟩ := C_dec (v := num) k0 (by first | decide | omega) (by first | decide | omega) w3
  have f41 : F4 7 0 1 = 1 := by rw [w4.2.1 7 0 1 (by first | decide | omega)]; exact q11
  obtain ⟨F5, B5, e5, w5⟩ := C_strg (s := 11) (U := [32, 123, 10]) k0 (by first | decide | omega) (by decide) (by decide) (by decide) (by decide) w4
  have Fn5 : ∀ c y k, ¬ (c = 0 ∧ y = 1 ∧ 1 ≤ k ∧ k ≤ 2) → F5 c y k = F c y k := w5.2.1
  have Bn5 : ∀ c y k x, ¬ (c = 0 ∧ y = 1 ∧ k = 0) → B5 c y k x = B c y k x := w5.2.2
  have z7 : ∀ c y k, ¬ (c = 7 ∧ y = 0 ∧ k = 7) → (zup3 F5 7 0 7 a) c y k = F5 c y k := fun c y k n => by rw [zup3_v, if_neg n]
  have wf : wvF F (zup3 F5 7 0 7 a) := fun c y k n => by rw [z7 c y k (by first | decide | omega), Fn5 c y k (by first | decide | omega)]
  have wb : wvB B B5 := fun c y k x n => Bn5 c y k x (by first | decide | omega)
  have w5' : TC (zup3 F5 7 0 7 a, B5) (T ++ [118, 111, 105, 99, 101, 32, 118] ++ [97 + v] ++ (if cl = 0 then [32, 116, 114, 101, 98, 108, 101, 32] else [32, 98, 97, 115, 115, 32]) ++ decT num ++ [32, 123, 10]) (zup3 F5 7 0 7 a) B5 := TC_c w5 ⟨z7 0 1 1 (by first | decide | omega), z7 0 1 2 (by first | decide | omega)⟩ (fun _ => rfl)
  have hc0 : CFq K o g D N bg en tn tk F B := ⟨h1, h2, h3, h4, h5⟩
  have mono := blk_m dq hb'
  obtain ⟨ch1, ch2⟩ := GL_c dq p2 mono 400 a 0 EL (by first | decide | omega) ha.1 (by first | decide | omega) (fun _ => (gpl_b dq.1 dq.2.1 (dq.2.2.2.1 a ha.1 ha.2).2.2.1).1) hG
  obtain ⟨F6, B6, r1, r2, r3, r4⟩ := C_w157 (K := K) (o := o) (f := f) (z := nxG tk a N) (s0 := a) (u := u) (last := last) (l3 := u * last) ⟨k0, k7, k1, kf⟩ hb hu dq p2 mono hl 400 K.1 0 a 0 EL _ (zup3 F5 7 0 7 a) B5 (by first | decide | omega) (by first | decide | omega) (by first | decide | omega) ha.1 ha.1 (by first | decide | omega) (by first | decide | omega) (by first | decide | omega) hl.1 (fun _ => (gpl_b dq.1 dq.2.1 (dq.2.2.2.1 a ha.1 ha.2).2.2.1).1) hG hE (CFq_w hc0 wf wb) (SCq_f hq wf wb) (by rw [wb 8 o 0 2 (by first | decide | omega)]; exact b2) (by rw [zup3_v, if_pos (by first | decide | omega)]) w5'
  have e0 := CHN_e EL 0 ch1
  have ub : 0 ≤ u * endN 0 EL ∧ u * endN 0 EL ≤ u * last ∧ 0 ≤ u * last := by rcases hu with h | h | h | h <;> rw [h] <;> omega
  obtain ⟨F7, B7, s1, s2, s3, s4⟩ := C_w242 (come := u * endN 0 EL) (last := u * last) ⟨k0, k7, k1, kf⟩ hb (SCq_f hq (wvF_t wf r3) (wvB_t wb r4)) (by first | decide | omega) (u_sd hu) (by first | decide | omega) (u_sd hu) r2
  refine ⟨F7, B7, ?_, ?_, wvF_t wf (wvF_t r3 s3), wvB_t wb (wvB_t r4 s4)⟩
  · have dk := (dq.2.2.2.1 a ha.1 ha.2).1
    have f30 : F3 7 0 0 = o := by rw [Fn3 7 0 0 (by first | decide | omega)]; exact h1.1
    have f31 : F3 7 0 1 = 1 := by rw [Fn3 7 0 1 (by first | decide | omega)]; exact q11
    have t220 : B3 8 o 220 a = tk a := by rw [Bn3 8 o 220 a (by first | decide | omega)]; exact (h5 a ha.1 ha.2).1
    have t3 : B3 8 o 3 (tk a) = B 8 o 3 (tk a) := Bn3 8 o 3 _ (by first | decide | omega)
    have f52 : F5 7 0 2 = g := by rw [Fn5 7 0 2 (by first | decide | omega)]; exact h2
    have hg4 := dq.1
    have zu : zdv 512 g = u := by rw [hgu]; exact zdv_e (by first | decide | omega) (by decide) (by first | decide | omega) (by unfold r32; omega)
    have e89 : f_Scribe_writeVoice_89 K (nxG tk a N) 0 a (u * last) 1 (if cl = 0 then 9 else 10) F2 B2 = some (0, F7, B7) := by
      unfold f_Scribe_writeVoice_89
      rw [if_pos (by first | decide | omega), e3, zb_s, if_pos ⟨(by first | decide | omega), k7⟩, f30, if_pos h1.2, if_pos (by first | decide | omega), t220, if_pos (by first | decide | omega), f31, if_pos (by first | decide | omega), t3, if_pos hnum.2.1, hnum.1, e4, zb_s, f41, if_pos (by first | decide | omega), e5, zb_s, f52, if_pos (iI_n0 (by first | decide | omega) (by unfold r32; omega)), zu]
      have r1' : f_Scribe_writeVoice_157 K K.1 0 0 u (nxG tk a N) 0 (u * last) (zup3 F5 7 0 7 a) B5 = f_Scribe_writeVoice_242 K (u * endN 0 EL) 0 (u * last) F6 B6 := by
        rw [Int.mul_zero] at r1; exact r1
      rw [r1', s1]
    unfold f_Scribe_writeVoice
    rw [if_pos ⟨(by first | decide | omega), k7⟩, C_te k7 (by first | decide | omega) dq ha hc0, zb_s, hm', f_Scribe_writeVoice_13, if_pos (by unfold r32; omega), if_pos (by unfold r32; omega), if_pos (by first | decide | omega), if_pos ⟨(by first | decide | omega), k7⟩, q11, if_pos (by first | decide | omega), e1, zb_s, f11, if_pos (by first | decide | omega), e2, zb_s, if_pos (by unfold r32; omega), if_pos (by unfold r64; omega), if_pos (by unfold r64; omega), f21, ← e89, hcl]
    by_cases y : sm60 tn a (nxG tk a N - a).toNat < 0
    · rw [if_pos (zcmp_lt.mpr (by first | decide | omega)), if_pos y, if_neg (by decide)]
    · rw [if_neg (fun q => by have := zcmp_lt.mp q; omega), if_neg y, if_pos rfl]
  · unfold vHd vNt
    simp only [List.append_assoc, List.cons_append, List.nil_append] at s2 ⊢
    exact s2
end
end

section
/-! ===== play: the class's loops ===== -/
section
variable {K : zK} {s : Int}
/-- the coder's state -/
def PCw (s : Int) (F : zF) : Prop := (-32768 ≤ F 5 s 11 ∧ F 5 s 11 ≤ 32767) ∧ (-32768 ≤ F 5 s 12 ∧ F 5 s 12 ≤ 32767) ∧ (0 ≤ F 5 s 13 ∧ F 5 s 13 ≤ 88)
def ncQ (s : Int) (F : zF) (B : zB) (x : zO) : Prop := ∃ r F', x = some (r, F', B) ∧ plF s F F' ∧ (∀ k, k = 2 ∨ k = 3 ∨ k = 11 → F' 5 s k = F 5 s k) ∧ PCw s F'
theorem C_n124 {F : zF} {B : zB} {l3 v : Int} (hs : 0 ≤ s ∧ s < K.2 5) (h : PCw s F) (hv : -200000 ≤ v ∧ v ≤ 200000) : ncQ s F B (f_Performance_nextCode_124 K l3 s v F B) := by
  obtain ⟨h1, h2, h3⟩ := h
  have m := zt15.2 ⟨(l3 % 8).toNat, (by first | decide | omega)⟩
  rw [show (((⟨(l3 % 8).toNat, (by first | decide | omega)⟩ : Fin 8).val : Nat) : Int) = l3 % 8 by show (((l3 % 8).toNat : Nat) : Int) = l3 % 8; omega] at m
  have q1 : -200000 ≤ zmin 32767 v ∧ zmin 32767 v ≤ 32767 := by unfold zmin; split <;> omega
  unfold f_Performance_nextCode_124
  rw [zand7]
  generalize ztv 15 (l3 % 8) = u at m ⊢
  have q2 : -1 ≤ zmin 88 (F 5 s 13 + u) ∧ zmin 88 (F 5 s 13 + u) ≤ 88 := by unfold zmin; split <;> omega
  rw [if_pos (by unfold r32; omega), if_pos (by unfold r32; omega), if_pos hs, zt15.1, if_pos (by first | decide | omega), if_pos (by unfold r32; omega), if_pos (by unfold r32; omega)]
  refine ⟨_, _, rfl, plF_t (plF_w (by first | decide | omega)) (plF_w (by first | decide | omega)), fun k hk => by rw [zup3_v, if_neg (by first | decide | omega), zup3_v, if_neg (by first | decide | omega)], ?_⟩
  unfold PCw
  rw [zup3_v, if_neg (by first | decide | omega), zup3_v, if_neg (by first | decide | omega), zup3_v, if_neg (by first | decide | omega), zup3_v, if_pos ⟨rfl, rfl, rfl⟩, zup3_v, if_pos ⟨rfl, rfl, rfl⟩]
  refine ⟨h1, ?_, ?_⟩
  · unfold zmax; split <;> omega
  · unfold zmax; split <;> omega
theorem nc_s {F : zF} {B : zB} {N : Nat} {l6 l5 l4 l2 l3 l1 : Int} (h6 : 0 < l6 ∧ l6 ≤ 4) (h5 : 0 ≤ l5 ∧ l5 ≤ 32767) (h2 : 0 ≤ l2 ∧ l2 ≤ 70000) (h3 : r32 l3) (h1 : 0 ≤ l1 ∧ l1 ≤ 32767) (h : ∀ t a b c, 0 ≤ t ∧ t ≤ 32767 → l4 ≤ a ∧ a ≤ l4 + 32767 → 0 ≤ b ∧ b ≤ 70000 → r32 c → ncQ s F B (f_Performance_nextCode_47 K N (zdv l6 2) t a b c l1 s F B)) : ncQ s F B (f_Performance_nextCode_47 K (N + 1) l6 l5 l4 l2 l3 l1 s F B) := by
  have k : ∀ a b c, l4 ≤ a ∧ a ≤ l4 + 32767 → 0 ≤ b ∧ b ≤ 70000 → r32 c → ncQ s F B (f_Performance_nextCode_75 (f_Performance_nextCode_47 K N) K l6 a b c l1 s F B) := fun a b c ha hb hc => by
    unfold f_Performance_nextCode_75 f_Performance_nextCode_90
    rw [if_pos (by unfold r32; omega)]
    by_cases e : l6 = 4
    · rw [if_pos e, zdv_e h1.1 (by unfold r32; omega) (by decide) (by decide)]; exact h _ a b c (by first | decide | omega) ha hb hc
    · rw [if_neg e, zdv_e h1.1 (by unfold r32; omega) (by decide) (by decide)]; exact h _ a b c (by first | decide | omega) ha hb hc
  rw [f_Performance_nextCode_47, if_pos (by unfold r32; omega), if_neg (by first | decide | omega), if_pos (by unfold r32; omega), if_pos (by unfold r32; omega)]
  by_cases e : l2 < l5
  · rw [if_pos e]; exact k _ _ _ (by first | decide | omega) h2 h3
  · rw [if_neg e]; exact k _ _ _ (by first | decide | omega) (by first | decide | omega) (toI_r _)
theorem C_nxt {F : zF} {B : zB} (hK : 60000 ≤ K.1) (hs : 0 ≤ s ∧ s < K.2 5) (h : PCw s F) : ncQ s F B (f_Performance_nextCode K s F B) := by
  have h' := h
  obtain ⟨h1, h2, h3⟩ := h
  have m := zt14.2 ⟨(F 5 s 13).toNat, (by first | decide | omega)⟩
  rw [show (((⟨(F 5 s 13).toNat, (by first | decide | omega)⟩ : Fin 89).val : Nat) : Int) = F 5 s 13 by show (((F 5 s 13).toNat : Nat) : Int) = F 5 s 13; omega] at m
  have key : ∀ t : Int, t = 0 ∨ t = 8 → ncQ s F B (f_Performance_nextCode_29 K (F 5 s 11 - F 5 s 12) (ztv 14 (F 5 s 13)) s t F B) := fun t ht => by
    generalize ztv 14 (F 5 s 13) = L at m ⊢
    have za : 0 ≤ zabs (F 5 s 11 - F 5 s 12) ∧ zabs (F 5 s 11 - F 5 s 12) ≤ 70000 := by unfold zabs; split <;> omega
    obtain ⟨N, hN⟩ : ∃ N, K.1 = N + 1 + 1 + 1 + 1 := ⟨K.1 - 4, (by first | decide | omega)⟩
    unfold f_Performance_nextCode_29
    rw [if_pos (by unfold r32; omega), hN, zdv_e (a := L) (by first | decide | omega) (by unfold r32; omega) (by decide) (by decide)]
    refine nc_s (by first | decide | omega) (by first | decide | omega) za (by unfold r32; omega) (by first | decide | omega) (fun t1 a1 b1 c1 q1 q2 q3 q4 => ?_)
    rw [show zdv 4 2 = 2 by decide]
    refine nc_s (by first | decide | omega) q1 q3 q4 (by first | decide | omega) (fun t2 a2 b2 c2 u1 u2 u3 u4 => ?_)
    rw [show zdv 2 2 = 1 by decide]
    refine nc_s (by first | decide | omega) u1 u3 u4 (by first | decide | omega) (fun t3 a3 b3 c3 v1 v2 v3 v4 => ?_)
    rw [show zdv 1 2 = 0 by decide, f_Performance_nextCode_47, if_pos (by decide), if_pos (by decide), if_pos v4]
    by_cases e : c3 < 8
    · rw [if_pos e, if_pos hs]; exact C_n124 hs h' (by first | decide | omega)
    · rw [if_neg e, if_pos hs]; exact C_n124 hs h' (by first | decide | omega)
  unfold f_Performance_nextCode
  rw [if_pos hs, zt14.1, if_pos (by first | decide | omega), if_pos (by unfold r32; omega)]
  by_cases e : 0 ≤ F 5 s 11 - F 5 s 12
  · rw [if_pos e]; exact key 0 (Or.inl rfl)
  · rw [if_neg e]; exact key 8 (Or.inr rfl)
theorem C_pl45 {n P : Int} {F0 : zF} {B0 : zB} (hK : 60000 ≤ K.1) (hs : 0 ≤ s ∧ s < K.2 5) (n0 : 0 ≤ n ∧ n ≤ 1000) : ∀ (d N : Nat) (i : Int) (F : zF) (B : zB), i + d = n → 0 ≤ i → d < N → plF s F0 F → plB s B0 B → F 5 s 2 = P → PCw s F → (∀ j, 0 ≤ j → j < n → -10000000 ≤ B 5 s 6 j ∧ B 5 s 6 j ≤ 10000000) → ∃ r F' B', f_Performance_playOn_45 K N i s n F B = some (r, F', B') ∧ r = P + n ∧ plF s F0 F' ∧ plB s B0 B' ∧ F' 5 s 2 = P + n ∧ F' 5 s 3 = n ∧ PCw s F' := by
  intro d
  induction d with
  | zero =>
    intro N i F B hi i0 hN f b hP hC hB
    obtain ⟨p, rfl⟩ : ∃ p, N = p + 1 := ⟨N - 1, (by first | decide | omega)⟩
    rw [f_Performance_playOn_45, if_pos (by unfold r32; omega), if_pos (by unfold r32; omega), if_pos (by first | decide | omega), if_pos hs]
    refine ⟨_, _, B, rfl, by rw [hP], plF_t f (plF_t (plF_w (by first | decide | omega)) (plF_w (by first | decide | omega))), b, by rw [zup3_v, if_pos ⟨rfl, rfl, rfl⟩, hP], by rw [zup3_v, if_neg (by first | decide | omega), zup3_v, if_pos ⟨rfl, rfl, rfl⟩], ?_⟩
    unfold PCw at *
    rw [zup3_v, if_neg (by first | decide | omega), zup3_v, if_neg (by first | decide | omega), zup3_v, if_neg (by first | decide | omega), zup3_v, if_neg (by first | decide | omega), zup3_v, if_neg (by first | decide | omega), zup3_v, if_neg (by first | decide | omega)]
    exact hC
  | succ d ih =>
    intro N i F B hi i0 hN f b hP hC hB
    obtain ⟨p, rfl⟩ : ∃ p, N = p + 1 := ⟨N - 1, (by first | decide | omega)⟩
    have b6 := hB i i0 (by first | decide | omega)
    have z1 : -10000000 ≤ zmin 32767 (B 5 s 6 i) ∧ zmin 32767 (B 5 s 6 i) ≤ 32767 := by unfold zmin; split <;> omega
    have z2 : -32768 ≤ zmax (-32768) (zmin 32767 (B 5 s 6 i)) ∧ zmax (-32768) (zmin 32767 (B 5 s 6 i)) ≤ 32767 := by
      generalize zmin 32767 (B 5 s 6 i) = u at z1 ⊢
      unfold zmax; split <;> omega
    rw [f_Performance_playOn_45, if_pos (by unfold r32; omega), if_pos (by unfold r32; omega), if_neg (by first | decide | omega), if_pos hs, if_pos (by first | decide | omega), if_pos (by unfold r32; omega), if_pos (by unfold r32; omega)]
    generalize zmax (-32768) (zmin 32767 (B 5 s 6 i)) = v at z2 ⊢
    have z3 := zdv2 (d := v - F 5 s 11) (by have := hC.1; unfold r32; omega)
    have z4 : -32768 ≤ F 5 s 11 + zdv (v - F 5 s 11) 2 ∧ F 5 s 11 + zdv (v - F 5 s 11) 2 ≤ 32767 := by
      have := hC.1
      rcases Int.le_total 0 (v - F 5 s 11) with q | q
      · have := z3.1 q; omega
      · have := z3.2 q; omega
    generalize F 5 s 11 + zdv (v - F 5 s 11) 2 = x at z4 ⊢
    have hC1 : PCw s (zup3 F 5 s 11 x) := by
      unfold PCw at *
      rw [zup3_v, if_pos ⟨rfl, rfl, rfl⟩, zup3_v, if_neg (by first | decide | omega), zup3_v, if_neg (by first | decide | omega)]
      exact ⟨z4, hC.2⟩
    obtain ⟨r, F1, e, g1, g2, g3⟩ := C_nxt (B := zup4 B 5 s 4 i x) hK hs hC1
    rw [e, zb_s]
    exact ih p (i + 1) F1 _ (by first | decide | omega) (by first | decide | omega) (by first | decide | omega) (plF_t f (plF_t (plF_w (by first | decide | omega)) g1)) (plB_t b (plB_t (plB_w (by first | decide | omega)) (plB_w (by first | decide | omega)))) (by rw [g2 2 (by first | decide | omega), zup3_v, if_neg (by first | decide | omega)]; exact hP) g3 (fun j j0 j1 => by rw [zup4_v, if_neg (by first | decide | omega), zup4_v, if_neg (by first | decide | omega)]; exact hB j j0 j1)
theorem C_pl22 {p n c : Int} {F : zF} {B0 : zB} (hK : 60000 ≤ K.1) (hs : 0 ≤ s ∧ s < K.2 5) (hp : 0 ≤ p ∧ p < K.2 6) (ht : 20 ≤ F 6 p 6 ∧ F 6 p 6 ≤ 300) (P0 : 0 ≤ F 5 s 2 ∧ F 5 s 2 ≤ 2000000) (n0 : 0 ≤ n ∧ n ≤ 1000) (hc : F 5 s 0 = c ∧ 0 ≤ c ∧ c ≤ 2000) (hS : SB s c B0) (hq : ∀ j, 0 ≤ j → j < c → (0 ≤ B0 6 p 0 (B0 5 s 340 j) ∧ B0 6 p 0 (B0 5 s 340 j) < K.2 4) ∧ (0 ≤ F 4 (B0 6 p 0 (B0 5 s 340 j)) 2 ∧ F 4 (B0 6 p 0 (B0 5 s 340 j)) 2 ≤ 3)) : ∀ (d N : Nat) (i : Int) (B : zB), i + d = c → 0 ≤ i → d < N → plB s B0 B → (∀ j, 0 ≤ j → j < n → -(5000 * i) ≤ B 5 s 6 j ∧ B 5 s 6 j ≤ 5000 * i) → ∃ B', f_Performance_playOn_22 K N i s p n F B = f_Performance_playOn_45 K K.1 0 s n F B' ∧ plB s B0 B' ∧ ∀ j, 0 ≤ j → j < n → -10000000 ≤ B' 5 s 6 j ∧ B' 5 s 6 j ≤ 10000000 := by
  intro d
  induction d with
  | zero =>
    intro N i B hi i0 hN b hB
    obtain ⟨q, rfl⟩ : ∃ q, N = q + 1 := ⟨N - 1, (by first | decide | omega)⟩
    rw [f_Performance_playOn_22, if_pos hs, if_pos (by unfold r32; omega), hc.1, if_pos (by unfold r32; omega), if_pos (by first | decide | omega)]
    exact ⟨B, rfl, b, fun j j0 j1 => by have := hB j j0 j1; omega⟩
  | succ d ih =>
    intro N i B hi i0 hN b hB
    obtain ⟨q, rfl⟩ : ∃ q, N = q + 1 := ⟨N - 1, (by first | decide | omega)⟩
    obtain ⟨a0, a1, a2, a3, a4, a5, a6⟩ := hS i i0 (by first | decide | omega)
    obtain ⟨q0, q1⟩ := hq i i0 (by first | decide | omega)
    have e5 : ∀ k x, 340 ≤ k → B 5 s k x = B0 5 s k x := fun k x hk => b 5 s k x (by first | decide | omega)
    have e6 : ∀ x, B 6 p 0 x = B0 6 p 0 x := fun x => b 6 p 0 x (by first | decide | omega)
    obtain ⟨B1, g1, g2, g3⟩ := C_mix (p := p) (j := i) (X := 5000 * i) (B := B) hK hs hp ht P0 (by first | decide | omega) n0 (by rw [e5 340 i (by decide)]; exact a0) (by rw [e5 342 i (by decide)]; exact a2) (by rw [e5 343 i (by decide)]; exact a3) (by rw [e5 344 i (by decide), e5 345 i (by decide)]; exact ⟨a4, a5, a6⟩) (by rw [e5 340 i (by decide), e6]; exact q0) (by rw [e5 340 i (by decide), e6]; exact q1) (by first | decide | omega) hB
    rw [f_Performance_playOn_22, if_pos hs, if_pos (by unfold r32; omega), hc.1, if_pos (by unfold r32; omega), if_neg (by first | decide | omega), g1, zb_s]
    exact ih q (i + 1) B1 (by first | decide | omega) (by first | decide | omega) (by first | decide | omega) (plB_t b g2) (fun j j0 j1 => by have := g3 j j0 j1; omega)
theorem C_pl2 {p n : Int} {F : zF} {B0 : zB} (hs : 0 ≤ s ∧ s < K.2 5) (n0 : 0 ≤ n ∧ n ≤ 1000) : ∀ (d N : Nat) (i : Int) (B : zB), i + d = n → 0 ≤ i → d < N → plB s B0 B → (∀ j, 0 ≤ j → j < i → B 5 s 6 j = 0) → ∃ B', f_Performance_playOn_2 K N i s p n F B = f_Performance_playOn_22 K K.1 0 s p n F B' ∧ plB s B0 B' ∧ ∀ j, 0 ≤ j → j < n → B' 5 s 6 j = 0 := by
  intro d
  induction d with
  | zero =>
    intro N i B hi i0 hN b hB
    obtain ⟨q, rfl⟩ : ∃ q, N = q + 1 := ⟨N - 1, (by first | decide | omega)⟩
    rw [f_Performance_playOn_2, if_pos (by unfold r32; omega), if_pos (by unfold r32; omega), if_pos (by first | decide | omega)]
    exact ⟨B, rfl, b, fun j j0 j1 => hB j j0 (by first | decide | omega)⟩
  | succ d ih =>
    intro N i B hi i0 hN b hB
    obtain ⟨q, rfl⟩ : ∃ q, N = q + 1 := ⟨N - 1, (by first | decide | omega)⟩
    rw [f_Performance_playOn_2, if_pos (by unfold r32; omega), if_pos (by unfold r32; omega), if_neg (by first | decide | omega), if_pos hs, if_pos (by first | decide | omega)]
    refine ih q (i + 1) _ (by first | decide | omega) (by first | decide | omega) (by first | decide | omega) (plB_t b (plB_w (by first | decide | omega))) (fun j j0 j1 => ?_)
    by_cases e : j = i
    · rw [e, zup4_v, if_pos ⟨rfl, rfl, rfl, rfl⟩]
    · rw [zup4_v, if_neg (by first | decide | omega)]; exact hB j j0 (by first | decide | omega)
theorem C_play {p n c : Int} {F : zF} {B : zB} (hK : 60000 ≤ K.1) (hs : 0 ≤ s ∧ s < K.2 5) (hp : 0 ≤ p ∧ p < K.2 6) (ht : 20 ≤ F 6 p 6 ∧ F 6 p 6 ≤ 300) (P0 : 0 ≤ F 5 s 2 ∧ F 5 s 2 ≤ 2000000) (hC : PCw s F) (n0 : 0 ≤ n ∧ n ≤ 1000) (hc : F 5 s 0 = c ∧ 0 ≤ c ∧ c ≤ 2000) (hS : SB s c B) (hq : ∀ j, 0 ≤ j → j < c → (0 ≤ B 6 p 0 (B 5 s 340 j) ∧ B 6 p 0 (B 5 s 340 j) < K.2 4) ∧ (0 ≤ F 4 (B 6 p 0 (B 5 s 340 j)) 2 ∧ F 4 (B 6 p 0 (B 5 s 340 j)) 2 ≤ 3)) : ∃ r F' B', f_Performance_playOn K s p n F B = some (r, F', B') ∧ r = F 5 s 2 + n ∧ plF s F F' ∧ plB s B B' ∧ F' 5 s 2 = F 5 s 2 + n ∧ F' 5 s 3 = n ∧ PCw s F' := by
  obtain ⟨B1, a1, a2, a3⟩ := C_pl2 (K := K) (p := p) (F := F) (B0 := B) hs n0 n.toNat K.1 0 B (by first | decide | omega) (by decide) (by first | decide | omega) (fun _ _ _ _ _ => rfl) (fun j j0 j1 => (by first | decide | omega))
  obtain ⟨B2, b1, b2, b3⟩ := C_pl22 (p := p) (F := F) (B0 := B) hK hs hp ht P0 n0 hc hS hq c.toNat K.1 0 B1 (by first | decide | omega) (by decide) (by first | decide | omega) a2 (fun j j0 j1 => by rw [a3 j j0 j1]; omega)
  unfold f_Performance_playOn
  rw [a1, b1]
  exact C_pl45 (F0 := F) (B0 := B) hK hs n0 n.toNat K.1 0 F B2 (by first | decide | omega) (by decide) (by first | decide | omega) (fun _ _ _ _ => rfl) b2 rfl hC b3
end
end

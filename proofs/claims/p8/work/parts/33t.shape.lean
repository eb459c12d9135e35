section
variable {cc : Int}
/-! ===== shape: the reference's loops; the call ===== -/
theorem RDW_s {V w : Int} {F F' : zF} {B : zB} (h : RDW V w F B) (g : scr F F') : RDW V w F' B := by
  have e : ∀ k, F' 13 w k = F 13 w k := fun k => g 13 w k (by first | decide | omega)
  unfold RDW at h ⊢
  rw [e 1, e 2, e 4, e 5, e 7]
  exact h
theorem L_i41 {K : Nat} {V V' w w' u u' a c n l10 l7 l6 : Int} {F0 : zF} {B : zB} (hK : 200 ≤ K) (hR : RDW V w F0 B) (u0 : 0 ≤ u) (u1 : u < V) (hR' : RDW V' w' F0 B) (u0' : 0 ≤ u') (u1' : u' < V') (ha : 0 ≤ a ∧ a + n ≤ B 13 w 12 u) (hc : 0 ≤ c ∧ c + n ≤ B 13 w' 12 u') (hl : ∀ i, 0 ≤ i → i < B 13 w 12 u → LBd w (1000 * u + i) B) (hl' : ∀ i, 0 ≤ i → i < B 13 w' 12 u' → LBd w' (1000 * u' + i) B) (h7 : r32 l7) (hn : 0 ≤ n ∧ n ≤ 20) (h10 : 1000 * u' ≤ l10 ∧ l10 < 1000 * u' + B 13 w' 12 u') : ∀ (d N : Nat) (i l9 l8 : Int) (F : zF), i + d = n → 0 ≤ i → d < N → (-1 ≤ l8 ∧ l8 ≤ 62) → (-1 ≤ l9 ∧ l9 ≤ 62) → scr F0 F → ∃ r F', f_M_isShape_41 K N i l10 l9 l8 l7 w (1000 * u + a) n w' (1000 * u' + c) l6 F B = some (r, F', B) ∧ (r = 0 ∨ r = 1) ∧ scr F0 F' := by
  have w0 := hR.1
  have w0' := hR'.1
  have hV := hR.2.1
  have hV' := hR'.2.1
  have hv := (rd_v hR u0 u1).1
  have hv' := (rd_v hR' u0' u1').1
  intro d
  induction d with
  | zero =>
    intro N i l9 l8 F hi i0 hN b8 b9 sc
    obtain ⟨p, rfl⟩ : ∃ p, N = p + 1 := ⟨N - 1, (by first | decide | omega)⟩
    rw [f_M_isShape_41, if_pos (by unfold r32; omega), if_pos (by unfold r32; omega), if_pos (by first | decide | omega)]
    exact ⟨1, F, rfl, Or.inr rfl, sc⟩
  | succ d ih =>
    intro N i l9 l8 F hi i0 hN b8 b9 sc
    obtain ⟨p, rfl⟩ : ∃ p, N = p + 1 := ⟨N - 1, (by first | decide | omega)⟩
    have nxt : ∀ (l9 l8 : Int) (F : zF), (-1 ≤ l8 ∧ l8 ≤ 62) → (-1 ≤ l9 ∧ l9 ≤ 62) → scr F0 F → ∃ r F', f_M_isShape_209 (f_M_isShape_41 K p) K i l10 l9 l8 l7 w (1000 * u + a) n w' (1000 * u' + c) l6 F B = some (r, F', B) ∧ (r = 0 ∨ r = 1) ∧ scr F0 F' := fun l9 l8 F b8 b9 sc => ih p (i + 1) l9 l8 F (by first | decide | omega) (by first | decide | omega) (by first | decide | omega) b8 b9 sc
    rw [f_M_isShape_41, if_pos (by unfold r32; omega), if_pos (by unfold r32; omega), if_neg (by first | decide | omega), if_pos h7]
    have key : ∀ t : Int, 0 ≤ t → t < B 13 w' 12 u' → ∃ r F', f_M_isShape_75 (f_M_isShape_41 K p) K (1000 * u + a + i) i l10 l9 l8 l7 w (1000 * u + a) n w' (1000 * u' + c) l6 (1000 * u' + t) F B = some (r, F', B) ∧ (r = 0 ∨ r = 1) ∧ scr F0 F' := fun t t0 t1 => by
      have e1 := (rd_e hR u0 u1 (x := 1000 * u + a + i) (by first | decide | omega) (by first | decide | omega)).2.2.1
      have e2 := (rd_e hR' u0' u1' (x := 1000 * u' + t) (by first | decide | omega) (by first | decide | omega)).2.2.1
      obtain ⟨r, er, hr⟩ := L_lkW (K := K) (F := F) w0 w0' (show 0 ≤ 1000 * u + a + i ∧ 1000 * u + a + i < 4000 by omega) (show 0 ≤ 1000 * u' + t ∧ 1000 * u' + t < 4000 by omega) e1 e2
      have q1 := hl a ha.1 (by first | decide | omega)
      have q2 := hl (a + i) (by first | decide | omega) (by first | decide | omega)
      rw [show 1000 * u + (a + i) = 1000 * u + a + i by omega] at q2
      have q3 := hl' (l10 - 1000 * u') (by first | decide | omega) (by first | decide | omega)
      rw [show 1000 * u' + (l10 - 1000 * u') = l10 by omega] at q3
      have q4 := hl' t t0 t1
      have z0 : ∀ G : zF, scr F0 G → ∃ r F', f_M_isShape_119 K G B = some (r, F', B) ∧ (r = 0 ∨ r = 1) ∧ scr F0 F' := fun G sG => ⟨0, G, rfl, Or.inl rfl, sG⟩
      have k113 : ∀ s : Int, (s = 0 ∨ s = 1) → (B 13 w 21 (1000 * u + a + i) = 0 ↔ B 13 w' 21 (1000 * u' + t) = 0) → ∃ r F', f_M_isShape_113 (f_M_isShape_41 K p) K (1000 * u' + t) (1000 * u + a + i) i l10 l9 l8 l7 w (1000 * u + a) n w' (1000 * u' + c) l6 w (1000 * u + a) (1000 * u + a + i) w' l10 (1000 * u' + t) s F B = some (r, F', B) ∧ (r = 0 ∨ r = 1) ∧ scr F0 F' := fun s hs lk => by
        obtain ⟨r, G, eG, r01, sG⟩ := L_len (F := F) hK w0 w0' (show 0 ≤ 1000 * u + a ∧ 1000 * u + a < 4000 by omega) (show 0 ≤ 1000 * u + a + i ∧ 1000 * u + a + i < 4000 by omega) (show 0 ≤ l10 ∧ l10 < 4000 by omega) (show 0 ≤ 1000 * u' + t ∧ 1000 * u' + t < 4000 by omega) q1 q2 q3 q4 hs
        have sG' := scr_t sc sG
        unfold f_M_isShape_113
        rw [if_pos w0, if_pos w0', eG, zb_s, if_pos (by unfold r32; omega)]
        by_cases c1 : r = 0
        · rw [if_pos c1]; exact z0 G sG'
        rw [if_neg c1, if_pos w0, if_pos (by first | decide | omega), if_pos (by unfold r32; omega)]
        by_cases c2 : B 13 w 21 (1000 * u + a + i) = 0
        · rw [if_pos c2]; exact nxt l9 l8 G b8 b9 sG'
        obtain ⟨s1, f1, b1, m1⟩ := L_lnO (K := K) (by first | decide | omega) (RDW_s hR sG') u0 u1 (x := 1000 * u + a + i) (by first | decide | omega) (by first | decide | omega) (by first | decide | omega)
        obtain ⟨s2, f2, b2, m2⟩ := L_lnO (K := K) (by first | decide | omega) (RDW_s hR' sG') u0' u1' (x := 1000 * u' + t) (by first | decide | omega) (by first | decide | omega) (by first | decide | omega)
        rw [if_neg c2, f1, zb_s, if_pos b1, if_pos w0', f2, zb_s, if_pos b2, if_pos (by unfold r32; omega)]
        have k175 : ∀ l9 l8 : Int, (-1 ≤ l8 ∧ l8 ≤ 62) → (-1 ≤ l9 ∧ l9 ≤ 62) → ∃ r F', f_M_isShape_175 (f_M_isShape_41 K p) K (B 13 w' 28 s2) (B 13 w 28 s1) i l10 l9 l8 l7 w (1000 * u + a) n w' (1000 * u' + c) l6 G B = some (r, F', B) ∧ (r = 0 ∨ r = 1) ∧ scr F0 F' := fun l9 l8 b8 b9 => by
          have k195 : ∀ z : Int, r32 z → ∃ r F', f_M_isShape_195 (f_M_isShape_41 K p) K (B 13 w' 28 s2) i l10 l9 l8 l7 w (1000 * u + a) n w' (1000 * u' + c) l6 z G B = some (r, F', B) ∧ (r = 0 ∨ r = 1) ∧ scr F0 F' := fun z hz => by
            unfold f_M_isShape_195
            rw [if_pos (by unfold r32; omega), if_pos hz]
            by_cases c3 : B 13 w' 28 s2 - l9 = z
            · rw [if_pos c3]; exact nxt l9 l8 G b8 b9 sG'
            · rw [if_neg c3]; exact ⟨0, G, rfl, Or.inl rfl, sG'⟩
          unfold f_M_isShape_175
          rw [if_pos (zand_R _ _)]
          by_cases c3 : zand l6 1 ≤ 0
          · rw [if_pos c3]; exact k195 _ (by unfold r32; omega)
          · rw [if_neg c3]; exact k195 _ (by unfold r32; omega)
        by_cases c3 : 0 ≤ l8
        · rw [if_pos c3]; exact k175 l9 l8 b8 b9
        · rw [if_neg c3]; exact k175 _ _ (by first | decide | omega) (by first | decide | omega)
      unfold f_M_isShape_75
      rw [er, zb_s, if_pos (by unfold r32; omega)]
      by_cases c1 : r = 0
      · rw [if_pos c1]; exact z0 F sc
      have lk := (hr.resolve_left c1).2
      rw [if_neg c1, if_pos (zand_R _ _)]
      by_cases c3 : zand l6 4 ≤ 0
      · rw [if_pos c3, if_pos w0, if_pos w0']; exact k113 0 (Or.inl rfl) lk
      · rw [if_neg c3, if_pos w0, if_pos w0']; exact k113 1 (Or.inr rfl) lk
    by_cases z7 : l7 = 0
    · rw [if_pos z7]
      have k := key (c + i) (by first | decide | omega) (by first | decide | omega)
      rw [show 1000 * u' + (c + i) = 1000 * u' + c + i by omega] at k
      exact k
    · rw [if_neg z7]
      have k := key (c + n - 1 - i) (by first | decide | omega) (by first | decide | omega)
      rw [show 1000 * u' + (c + n - 1 - i) = 1000 * u' + c + n - 1 - i by omega] at k
      exact k
theorem L_isS {K : Nat} {V V' w w' u u' a c n l6 : Int} {F0 F : zF} {B : zB} (hK : 200 ≤ K) (hR : RDW V w F0 B) (u0 : 0 ≤ u) (u1 : u < V) (hR' : RDW V' w' F0 B) (u0' : 0 ≤ u') (u1' : u' < V') (ha : 0 ≤ a ∧ a + n ≤ B 13 w 12 u) (hc : 0 ≤ c ∧ c + n ≤ B 13 w' 12 u') (hl : ∀ i, 0 ≤ i → i < B 13 w 12 u → LBd w (1000 * u + i) B) (hl' : ∀ i, 0 ≤ i → i < B 13 w' 12 u' → LBd w' (1000 * u' + i) B) (hn : 2 ≤ n ∧ n ≤ 20) (sc : scr F0 F) : ∃ r F', f_M_isShape K w (1000 * u + a) n w' (1000 * u' + c) l6 F B = some (r, F', B) ∧ (r = 0 ∨ r = 1) ∧ scr F0 F' := by
  have k36 : ∀ l7 t : Int, r32 l7 → 0 ≤ t → t < B 13 w' 12 u' → ∃ r F', f_M_isShape_36 K (-1) (-1) l7 w (1000 * u + a) n w' (1000 * u' + c) l6 (1000 * u' + t) F B = some (r, F', B) ∧ (r = 0 ∨ r = 1) ∧ scr F0 F' := fun l7 t h7 t0 t1 => by
    unfold f_M_isShape_36
    exact L_i41 hK hR u0 u1 hR' u0' u1' ha hc hl hl' h7 (by first | decide | omega) (by first | decide | omega) n.toNat K 0 (-1) (-1) F (by first | decide | omega) (by first | decide | omega) (by first | decide | omega) (by first | decide | omega) (by first | decide | omega) sc
  have k12 : ∀ l7 : Int, r32 l7 → ∃ r F', f_M_isShape_12 K w (1000 * u + a) n w' (1000 * u' + c) l6 l7 F B = some (r, F', B) ∧ (r = 0 ∨ r = 1) ∧ scr F0 F' := fun l7 h7 => by
    unfold f_M_isShape_12
    rw [if_pos h7]
    by_cases z : l7 = 0
    · rw [if_pos z]
      exact k36 l7 c h7 (by first | decide | omega) (by first | decide | omega)
    · rw [if_neg z]
      have k := k36 l7 (c + n - 1) h7 (by first | decide | omega) (by first | decide | omega)
      rw [show 1000 * u' + (c + n - 1) = 1000 * u' + c + n - 1 by omega] at k
      exact k
  unfold f_M_isShape
  rw [if_pos (zand_R _ _)]
  by_cases z : zand l6 2 ≤ 0
  · rw [if_pos z]; exact k12 0 (by decide)
  · rw [if_neg z]; exact k12 1 (by decide)
theorem L_s92 {K : Nat} {V V' w w' u u' a n l6 l8 : Int} {F0 : zF} {B : zB} (hK : 200 ≤ K) (hR : RDW V w F0 B) (u0 : 0 ≤ u) (u1 : u < V) (hR' : RDW V' w' F0 B) (u0' : 0 ≤ u') (u1' : u' < V') (ha : 0 ≤ a ∧ a + n ≤ B 13 w 12 u) (hl : ∀ i, 0 ≤ i → i < B 13 w 12 u → LBd w (1000 * u + i) B) (hl' : ∀ i, 0 ≤ i → i < B 13 w' 12 u' → LBd w' (1000 * u' + i) B) (hn : 2 ≤ n ∧ n ≤ 20) (h8 : r32 l8) : ∀ (d N : Nat) (i l11 : Int) (F : zF), i + d = B 13 w' 12 u' → 0 ≤ i → d < N → 0 ≤ l11 → l11 ≤ i → scr F0 F → ∃ r F', f_M_shape_92 K N i l11 w' w u a n u' l6 l8 F B = some (r, F', B) ∧ scr F0 F' := by
  have w0 := hR.1
  have w0' := hR'.1
  have hV' := hR'.2.1
  have hv' := (rd_v hR' u0' u1').1
  intro d
  induction d with
  | zero =>
    intro N i l11 F hi i0 hN k0 k1 sc
    obtain ⟨p, rfl⟩ : ∃ p, N = p + 1 := ⟨N - 1, (by first | decide | omega)⟩
    rw [f_M_shape_92, if_pos w0', if_pos (by first | decide | omega), if_pos (by unfold r32; omega), if_pos (by unfold r32; omega), if_pos (by first | decide | omega)]
    exact ⟨-1, F, rfl, sc⟩
  | succ d ih =>
    intro N i l11 F hi i0 hN k0 k1 sc
    obtain ⟨p, rfl⟩ : ∃ p, N = p + 1 := ⟨N - 1, (by first | decide | omega)⟩
    rw [f_M_shape_92, if_pos w0', if_pos (by first | decide | omega), if_pos (by unfold r32; omega), if_pos (by unfold r32; omega)]
    by_cases z : B 13 w' 12 u' < i + n
    · rw [if_pos z]; exact ⟨-1, F, rfl, sc⟩
    obtain ⟨r, G, eG, r01, sG⟩ := L_isS (l6 := l6) hK hR u0 u1 hR' u0' u1' ha (c := i) (by first | decide | omega) hl hl' hn sc
    rw [if_neg z, if_pos w0, eG, zb_s, if_pos (by unfold r32; omega)]
    unfold f_M_shape_155
    by_cases c1 : r = 0
    · rw [if_pos c1]; exact ih p _ _ G (by first | decide | omega) (by first | decide | omega) (by first | decide | omega) k0 (by first | decide | omega) sG
    · rw [if_neg c1, if_pos (by unfold r32; omega), if_pos h8]
      by_cases c2 : l11 = l8
      · rw [if_pos c2]; exact ⟨i, G, rfl, sG⟩
      · rw [if_neg c2]; exact ih p _ _ G (by first | decide | omega) (by first | decide | omega) (by first | decide | omega) (by first | decide | omega) (by first | decide | omega) sG
theorem LBd_v {K : zK} {F Fm : zF} {B Bm : zB} {q V w u : Int} (hP : PK K V q w F B Fm Bm) (u0 : 0 ≤ u) (u1 : u < V) : ∀ i, 0 ≤ i → i < Bm 13 w 12 u → LBd w (1000 * u + i) Bm := by
  intro i i0 i1
  obtain ⟨hH, m, g, hV, _⟩ := hP.2.2 u u0 u1
  obtain ⟨v1, v2, v3, v4, v5, v6, _⟩ := hV
  obtain ⟨w1, w2, _⟩ := v6 i.toNat (by first | decide | omega)
  rw [show ((i.toNat : Nat) : Int) = i by omega] at w1 w2
  obtain ⟨k1, k2, k3, ⟨z, z1, z2⟩, ⟨l1, l2, l3, l4⟩, _⟩ := w1
  generalize F 1 (B 4 (B 6 q 0 u) 5 i) 1 = L at *
  generalize F 1 (B 4 (B 6 q 0 u) 5 i) 2 = M at *
  generalize F 1 (B 4 (B 6 q 0 u) 5 i) 3 = D at *
  generalize F 1 (B 4 (B 6 q 0 u) 5 i) 4 = C at *
  have zp : 0 < z := by
    rcases Int.lt_or_le 0 z with y | y
    · exact y
    · have := Int.mul_nonpos_of_nonneg_of_nonpos (show 0 ≤ D by omega) y
      omega
  have eW : WW = z * (128 * D) := by
    have : WW = 6350400 * 128 := rfl
    rw [this, z1, Int.mul_comm D z, Int.mul_assoc, Int.mul_comm D 128]
  have eL : L = z * (M * C) := by rw [z2, Int.mul_assoc]
  have hg : ∃ t, gc L WW = z * t := by
    unfold gc
    have d1 : z.toNat ∣ L.toNat := ⟨(M * C).toNat, by
      have := Int.mul_pos (show 0 < M by omega) (show 0 < C by omega)
      apply Int.ofNat_inj.mp
      rw [Int.natCast_mul, Int.toNat_of_nonneg (by first | decide | omega), Int.toNat_of_nonneg (by first | decide | omega), Int.toNat_of_nonneg (by first | decide | omega), eL]⟩
    have d2 : z.toNat ∣ WW.toNat := ⟨(128 * D).toNat, by
      apply Int.ofNat_inj.mp
      have : WW = 812851200 := rfl
      rw [Int.natCast_mul, Int.toNat_of_nonneg (by first | decide | omega), Int.toNat_of_nonneg (by first | decide | omega), Int.toNat_of_nonneg (by first | decide | omega), eW]⟩
    obtain ⟨t, ht⟩ := Nat.dvd_gcd d1 d2
    exact ⟨t, by rw [ht, Int.natCast_mul, Int.toNat_of_nonneg (by first | decide | omega)]⟩
  obtain ⟨t, ht⟩ := hg
  have gp := gc_pos (a := L) (b := WW) (by decide)
  have tp : 0 < t := by
    rcases Int.lt_or_le 0 t with y | y
    · exact y
    · have := Int.mul_nonpos_of_nonneg_of_nonpos (show 0 ≤ z by omega) y
      omega
  have q := ediv_g (a := L) (b := WW) (by first | decide | omega) (by decide)
  have mc := mulB (show 0 < M by omega) k1.2 (show 0 < C by omega) k3.2.2
  have b1 : L / gc L WW ≤ M * C := by
    rw [ht, eL, Int.mul_ediv_mul_of_pos _ _ zp]
    exact Int.ediv_le_self _ (by first | decide | omega)
  have b2 : WW / gc L WW ≤ 128 * D := by
    rw [ht]
    conv => lhs; lhs; rw [eW]
    rw [Int.mul_ediv_mul_of_pos _ _ zp]
    exact Int.ediv_le_self _ (by first | decide | omega)
  unfold LBd
  rw [l1, l2]
  unfold nu de
  omega
theorem L_shaR {Km : Nat} {a1 a2 a3 a4 a5 a6 a7 a8 : Int} (h1 : r32 a1) (h2 : r32 a2) (h3 : r32 a3) (h4 : r32 a4) (h5 : r32 a5) (h6 : r32 a6) (h7 : r32 a7) (h8 : r32 a8) {K : zK} {F Fm : zF} {B Bm : zB} (h : IV cc Km K F B Fm Bm) : ∃ r F', f_M_shape Km a1 a2 a3 a4 a5 a6 a7 a8 Fm Bm = some (r, F', Bm) ∧ scr Fm F' := by
  have hKm := (IV_k h).2.1
  have d1 : r32 (1 : Int) := by decide
  have d0 : r32 (0 : Int) := by decide
  obtain ⟨x, y, e, e1, e2, e3, e4⟩ := prt h h1 h2
  obtain ⟨x', y', e', e1', e2', e3', e4'⟩ := prt h h5 h6
  have o : ∃ r F', some ((-1 : Int), Fm, Bm) = some (r, F', Bm) ∧ scr Fm F' := ⟨-1, Fm, rfl, fun _ _ _ _ => rfl⟩
  unfold f_M_shape f_M_shape_64 f_M_shape_84
  rw [e2, zb_s, e2', zb_s, e3, zb_s]
  rcases e4 with ⟨_, e0⟩ | ⟨e0, x0, y0, z0, q, V, vV, ex, hP, _⟩
  · rw [e0, if_pos d0, if_pos rfl]; exact o
  rw [e0, if_pos d1, if_neg (by decide), e3', zb_s]
  rcases e4' with ⟨_, e0'⟩ | ⟨e0', x0', y0', z0', q', V', vV', ex', hP', _⟩
  · rw [e0', if_pos d0, if_pos rfl]; exact o
  have hR := PK_r hP
  have hR' := PK_r hP'
  have v1 := (rd_v hR z0.1 vV).1
  have v2 := (rd_v hR' z0'.1 vV').1
  rw [e0', if_pos d1, if_neg (by decide), if_pos h4]
  by_cases c1 : a4 < 2
  · rw [if_pos c1]; exact o
  rw [if_neg c1]
  by_cases c2 : 20 < a4
  · rw [if_pos c2]; exact o
  rw [if_neg c2, if_pos h7]
  by_cases c3 : a7 < 0
  · rw [if_pos c3]; exact o
  rw [if_neg c3]
  by_cases c4 : 7 < a7
  · rw [if_pos c4]; exact o
  rw [if_neg c4, if_pos h8]
  by_cases c5' : ¬ 0 ≤ a8
  · rw [if_neg c5']; exact o
  have c5 : 0 ≤ a8 := by omega
  rw [if_pos c5, if_pos h3]
  by_cases c6 : a3 < 0
  · rw [if_pos c6]; exact o
  rw [if_neg c6, if_pos y0, if_pos z0, if_pos (by unfold r32; omega)]
  by_cases c7' : ¬ a3 ≤ Bm 13 y 12 a2 - a4
  · rw [if_neg c7']; exact o
  have c7 : a3 ≤ Bm 13 y 12 a2 - a4 := by omega
  rw [if_pos c7]
  exact L_s92 (by first | decide | omega) hR z0.1 vV hR' z0'.1 vV' (by first | decide | omega) (LBd_v hP z0.1 vV) (LBd_v hP' z0'.1 vV') (by first | decide | omega) h8 (Bm 13 y' 12 a6).toNat Km 0 0 Fm (by first | decide | omega) (by first | decide | omega) (by first | decide | omega) (by first | decide | omega) (by first | decide | omega) (fun _ _ _ _ => rfl)
theorem p_shape {Km : Nat} (a1 a2 a3 a4 a5 a6 a7 a8 : Int) (h1 : r32 a1) (h2 : r32 a2) (h3 : r32 a3) (h4 : r32 a4) (h5 : r32 a5) (h6 : r32 a6) (h7 : r32 a7) (h8 : r32 a8) {K : zK} {F Fm : zF} {B Bm : zB} (h : IV cc Km K F B Fm Bm) : ∃ r1 F1 B1 r2 F2 B2, f_S_shape K 0 a1 a2 a3 a4 a5 a6 a7 a8 F B = some (r1, F1, B1) ∧ f_M_shape Km a1 a2 a3 a4 a5 a6 a7 a8 Fm Bm = some (r2, F2, B2) ∧ IV cc Km K F1 B1 F2 B2 := by
  obtain ⟨r, e⟩ := C_shaR h1 h2 h3 h4 h5 h6 h7 h8 h
  obtain ⟨r', F', e', g⟩ := L_shaR h1 h2 h3 h4 h5 h6 h7 h8 h
  exact ⟨r, F, B, r', F', Bm, e, e', IV_m h g⟩
end

section
/-! ===== the head of a file, both sides ===== -/
/-- a byte that must lie between lo and hi -/
theorem P_oc {K : zK} {Km : Nat} {o a lo hi : Int} {F : zF} {B : zB} {Fm : zF} {Bm : zB} {f : Int → zF → zB → zO} {h : Int → zF → zB → zO} {g : zF → zB → zO} {Q : Int → zF → zB → Int → zF → zB → Prop} (h0 : 2 ≤ K.2 0) (ho : 0 ≤ o ∧ o < K.2 8) (a0 : 0 ≤ a) (hl : 0 ≤ lo ∧ lo ≤ hi ∧ hi < 256) (hO : RO o F B Fm Bm) (hQ : RQo o a F Fm) (hg : ∀ r G, G 14 0 17 = 0 → 0 ≤ r → r < 256 → (lo ≤ r ∧ r ≤ hi → h r G Bm = g G Bm) ∧ (¬ (lo ≤ r ∧ r ≤ hi) → h r G Bm = g (zup3 (zup3 G 14 0 17 1) 14 0 18 (G 14 0 89 - 1)) Bm)) (hx : ∀ (F : zF) r G, RX o F G → 0 ≤ r → r < 256 → h r G Bm = g G Bm) (k : ∀ F' Fm', tkF o F F' → tkG Fm Fm' → RQo o (a + 1) F' Fm' → (Fm' 14 0 17 = 0 → Fm 14 0 17 = 0) → zP (f 0 F' B) (g Fm' Bm) Q) : zP (zbind (f_SoundFile_takeOnly K o lo hi F B) f) (zbind (f_M_next Km Fm Bm) h) Q := by
  unfold f_SoundFile_takeOnly f_SoundFile_takeOnly_15 f_SoundFile_takeOnly_26
  rw [if_pos ho, zb_a2]
  refine P_bind (P_tk (Km := Km) h0 ho hO hQ) (fun r F1 B1 r' G1 D1 y => ?_)
  obtain ⟨rfl, rfl, y3, y4, y5, y6, y7, y8⟩ := y
  have n3 := (RO_t hO y3 y4).2.1
  rw [if_pos (show r32 r by unfold r32; omega), if_pos (show r32 lo by unfold r32; omega), if_pos (show r32 hi by unfold r32; omega), if_pos ho]
  rcases y7 with ⟨g1, g16⟩ | ⟨x, x6⟩
  · obtain ⟨gm, rfl, _⟩ := y8 g1.2.1
    obtain ⟨hg1, hg2⟩ := hg r' G1 g1.2.1 y5.1 y5.2
    by_cases z : lo ≤ r' ∧ r' ≤ hi
    · rw [if_neg (by first | decide | omega), if_pos z.2, zb_s, hg1 z]
      exact k _ _ y3 y4 (Or.inl ⟨g1, g16⟩) (fun _ => gm)
    · have ga := g1.2.2.1
      have gx := RX_n (c := 1) (z := a + 1 - 1) g1 g16 (by first | decide | omega) (by first | decide | omega) (by first | decide | omega)
      have e : (if r' < lo then zbind (f_SoundFile_refuse K o 1 (F1 8 o 5 - 1) F1 B1) (fun r9 F9 B9 => some (0, F9, B9)) else (if r' ≤ hi then some (0, F1, B1) else zbind (f_SoundFile_refuse K o 1 (F1 8 o 5 - 1) F1 B1) (fun r9 F9 B9 => some (0, F9, B9)))) = some (0, zup3 F1 8 o 7 (1 + 16 * (a + 1 - 1)), B1) := by
        by_cases v : r' < lo
        · rw [if_pos v, C_ref ho g1.1, zb_s, ga.1]
        · rw [if_neg v, if_neg (by first | decide | omega), C_ref ho g1.1, zb_s, ga.1]
      rw [e, zb_s, hg2 z, ga.2.1]
      refine k _ _ (tkF_t y3 (fun c y k n => by rw [zup3_v, if_neg (by first | decide | omega)])) (tkG_t y4 (fun c y k n => by rw [zup3_v, if_neg (by first | decide | omega), zup3_v, if_neg (by first | decide | omega)])) (Or.inr ⟨gx, ?_⟩) (fun _ => gm)
      rw [zup3_v, if_neg (by first | decide | omega), zup3_v, if_neg (by first | decide | omega)]
      have := g1.2.2.2.2.2.1
      omega
  · have e : (if r < lo then zbind (f_SoundFile_refuse K o 1 (F1 8 o 5 - 1) F1 B1) (fun r9 F9 B9 => some (0, F9, B9)) else (if r ≤ hi then some (0, F1, B1) else zbind (f_SoundFile_refuse K o 1 (F1 8 o 5 - 1) F1 B1) (fun r9 F9 B9 => some (0, F9, B9)))) = some (0, F1, B1) := by
      rw [C_refX ho x, zb_s]
      by_cases v : r < lo
      · rw [if_pos v]
      · rw [if_neg v]
        by_cases u : r ≤ hi
        · rw [if_pos u]
        · rw [if_neg u]
    rw [e, zb_s, hx F1 r' G1 x y6.1 y6.2]
    exact k _ _ y3 y4 (Or.inr ⟨x, x6⟩) (fun q => by have := x.2.1.1; omega)
theorem str_h21 : ∀ k, 0 ≤ k → k < 4 → zsc 21 k = zsc 36 k ∧ 0 ≤ zsc 36 k ∧ zsc 36 k < 256 := fun k k0 k1 => by
  have : k = 0 ∨ k = 1 ∨ k = 2 ∨ k = 3 := by omega
  rcases this with rfl | rfl | rfl | rfl <;> decide
theorem P_hl {K : zK} {Km : Nat} {o : Int} {B : zB} {Bm : zB} {g : Int → zF → zB → zO} {Q : Int → zF → zB → Int → zF → zB → Prop} (h0 : 2 ≤ K.2 0) (ho : 0 ≤ o ∧ o < K.2 8) : ∀ (d m1 m2 : Nat) (k : Int) (F : zF) (Fm : zF), k + d = 4 → 0 ≤ k → d < m1 → d < m2 → RO o F B Fm Bm → RQo o k F Fm → (∀ m F' Fm', tkF o F F' → tkG Fm Fm' → RQo o 4 F' Fm' → (Fm' 14 0 17 = 0 → Fm 14 0 17 = 0) → zP (f_SoundFile_loadHead_5 K (m + 1) 4 21 o F' B) (g 0 Fm' Bm) Q) → zP (f_SoundFile_loadHead_5 K m1 k 21 o F B) (zbind (f_M_expect_2 Km m2 k 36 Fm Bm) g) Q := by
  intro d
  induction d with
  | zero =>
    intro m1 m2 k F Fm e k0 l1 l2 hO hQ hk
    obtain ⟨p, rfl⟩ : ∃ p, m1 = p + 1 := ⟨m1 - 1, (by first | decide | omega)⟩
    obtain ⟨r, rfl⟩ : ∃ p, m2 = p + 1 := ⟨m2 - 1, (by first | decide | omega)⟩
    have e4 : k = 4 := by omega
    subst e4
    have e2 : f_M_expect_2 Km (r + 1) 4 36 Fm Bm = some (0, Fm, Bm) := by
      rw [f_M_expect_2, if_pos (by decide), L_slen (by decide) (by decide), zb_s, if_pos (by decide), if_pos (by decide), if_pos (by decide)]
    rw [e2, zb_s]
    exact hk p F Fm (fun _ _ _ _ => rfl) (fun _ _ _ _ => rfl) hQ (fun z => z)
  | succ d ih =>
    intro m1 m2 k F Fm e k0 l1 l2 hO hQ hk
    obtain ⟨p, rfl⟩ : ∃ p, m1 = p + 1 := ⟨m1 - 1, (by first | decide | omega)⟩
    obtain ⟨r, rfl⟩ : ∃ p, m2 = p + 1 := ⟨m2 - 1, (by first | decide | omega)⟩
    have l21 : zsl 21 = 4 := by decide
    have l36 : zsl 36 = 4 := by decide
    obtain ⟨c1, c2⟩ := str_h21 k k0 (by first | decide | omega)
    rw [f_SoundFile_loadHead_5, f_M_expect_2, if_pos (by decide), C_slen (by decide) (by decide), zb_s, if_pos (show r32 k by unfold r32; omega), l21, if_pos (show r32 4 by decide), if_neg (show ¬ (4 : Int) ≤ k by omega), C_schar (by decide) k0 (by first | decide | omega) (by first | decide | omega), zb_s, C_schar (by decide) k0 (by first | decide | omega) (by first | decide | omega), zb_s, if_pos ho, if_pos (by decide), L_slen (by decide) (by decide), zb_s, if_pos (show r32 k by unfold r32; omega), l36, if_pos (show r32 4 by decide), if_neg (show ¬ (4 : Int) ≤ k by omega), c1, zb_a2]
    unfold f_M_expect_42
    refine P_oc (g := fun F B => zbind (f_M_expect_2 Km r (k + 1) 36 F B) g) h0 ho k0 ⟨c2.1, (by first | decide | omega), c2.2⟩ hO hQ (fun b G g0 b0 b1 => ?_) (fun F' b G x b0 b1 => ?_) (fun F' Fm' t1 t2 hq hgm => ?_)
    · rw [L_good g0, zb_s, if_pos (show r32 1 by decide), if_neg (show ¬ (1 : Int) = 0 by decide), L_schar (by decide) k0 (by first | decide | omega) (by first | decide | omega), zb_s, if_pos (show r32 b by unfold r32; omega), if_pos (show r32 (zsc 36 k) by unfold r32; omega)]
      refine ⟨fun z => ?_, fun z => ?_⟩
      · rw [if_pos (by first | decide | omega)]
      · rw [if_neg (by first | decide | omega), L_fb g0, zb_s]
    · rw [L_goodX x, zb_s, if_pos (show r32 0 by decide), if_pos (show (0 : Int) = 0 from rfl)]
    · exact ih p r (k + 1) F' Fm' (by first | decide | omega) (by first | decide | omega) (by first | decide | omega) (by first | decide | omega) (RO_t hO t1 t2) hq (fun m F2 Fm2 u1 u2 hq2 hg2 => hk m F2 Fm2 (tkF_t t1 u1) (tkG_t t2 u2) hq2 (fun z => hgm (hg2 z)))
/-- a number of two bytes that must lie between lo and hi -/
theorem P_bnd {K : zK} {Km : Nat} {o a lo hi : Int} {F : zF} {B : zB} {Fm : zF} {Bm : zB} (h0 : 2 ≤ K.2 0) (ho : 0 ≤ o ∧ o < K.2 8) (hK : 10 ≤ K.1) (hKm : 10 ≤ Km) (a0 : 0 ≤ a) (hl : 0 ≤ lo ∧ lo ≤ hi ∧ hi < 65536) (hO : RO o F B Fm Bm) (hQ : RQo o a F Fm) : zP (f_SoundFile_takeBounded K o 2 lo hi F B) (f_M_within Km 2 lo hi Fm Bm) (fun r F' B' r' Fm' Bm' => B' = B ∧ Bm' = Bm ∧ tkF o F F' ∧ tkG Fm Fm' ∧ RQo o (a + 2) F' Fm' ∧ (Fm' 14 0 17 = 0 → Fm 14 0 17 = 0 ∧ r' = r ∧ lo ≤ r ∧ r ≤ hi)) := by
  have b2 : bwn (0 + 2) = 65535 := by decide
  have hw := P_wide (Km := Km) (o := o) (l := 2) h0 ho 2 0 K.1 Km a 0 0 F B Fm Bm (by first | decide | omega) (by first | decide | omega) (by first | decide | omega) (by first | decide | omega) (by decide) (by decide) (fun _ => rfl) hO hQ
  unfold f_SoundFile_takeBounded f_M_within f_SoundFile_takeBounded_28 f_M_within_36 f_M_within_43
  rw [if_pos ho]
  refine P_bind (R := fun r F' B' r' Fm' Bm' => B' = B ∧ Bm' = Bm ∧ tkF o F F' ∧ tkG Fm Fm' ∧ (0 ≤ r ∧ r ≤ 65535) ∧ (0 ≤ r' ∧ r' ≤ 65535) ∧ RQo o (a + 2) F' Fm' ∧ (Fm' 14 0 17 = 0 → Fm 14 0 17 = 0 ∧ r' = r)) ?_ (fun r F1 B1 r' G1 D1 y => ?_)
  · obtain ⟨r, F', B', r', Fm', Bm', e1, e2, w1, w2, w3, w4, w5, w6, w7, w8⟩ := hw
    rw [b2] at w5 w6
    exact ⟨r, F', B', r', Fm', Bm', e1, e2, w1, w2, w3, w4, w5, w6, w7, w8⟩
  · obtain ⟨rfl, rfl, y3, y4, y5, y6, y7, y8⟩ := y
    have n3 := (RO_t hO y3 y4).2.1
    rw [if_pos (show r64 r by unfold r64; omega), if_pos (show r64 lo by unfold r64; omega), if_pos (show r64 hi by unfold r64; omega), if_pos ho]
    rcases y7 with ⟨g1, g16⟩ | ⟨x, x6⟩
    · obtain ⟨gm, rfl⟩ := y8 g1.2.1
      rw [L_good g1.2.1, zb_s, if_pos (show r32 1 by decide), if_neg (show ¬ (1 : Int) = 0 by decide), if_pos (show r32 lo by unfold r32; omega), if_pos (show r64 r' by unfold r64; omega), if_pos (show r64 lo by unfold r64; omega), if_pos (show r32 hi by unfold r32; omega), if_pos (show r64 hi by unfold r64; omega)]
      by_cases z : lo ≤ r' ∧ r' ≤ hi
      · rw [if_neg (fun x => by have := zcmp_lt.mp x; omega), if_pos (zcmp_m.mpr z.2), if_neg (fun x => by have := zcmp_lt.mp x; omega), if_pos (zcmp_m.mpr z.2), if_pos (by unfold r32; omega)]
        exact P_some ⟨rfl, rfl, y3, y4, Or.inl ⟨g1, g16⟩, fun _ => ⟨gm, rfl, z⟩⟩
      · have gf : F 8 o 5 = a ∧ Fm 14 0 89 = a ∧ a ≤ 3000 := by
          rcases hQ with ⟨g, _⟩ | ⟨x, _⟩
          · have := g.2.2.1; omega
          · have := x.2.1; omega
        have gx := RX_n (c := 3) (z := a) g1 g16 (by first | decide | omega) (by first | decide | omega) (by first | decide | omega)
        rw [gf.1, gf.2.1, C_ref ho g1.1, zb_s, L_fb g1.2.1, zb_s, if_pos (show r32 r' by unfold r32; omega)]
        have fin : zP (some (0, zup3 F1 8 o 7 (3 + 16 * a), B1)) (some (r', zup3 (zup3 G1 14 0 17 3) 14 0 18 a, D1)) (fun r F' B' r' Fm' Bm' => B' = B1 ∧ Bm' = D1 ∧ tkF o F F' ∧ tkG Fm Fm' ∧ RQo o (a + 2) F' Fm' ∧ (Fm' 14 0 17 = 0 → Fm 14 0 17 = 0 ∧ r' = r ∧ lo ≤ r ∧ r ≤ hi)) := by
          refine P_some ⟨rfl, rfl, tkF_t y3 (fun c y k n => by rw [zup3_v, if_neg (by first | decide | omega)]), tkG_t y4 (fun c y k n => by rw [zup3_v, if_neg (by first | decide | omega), zup3_v, if_neg (by first | decide | omega)]), Or.inr ⟨gx, ?_⟩, fun q => ?_⟩
          · rw [zup3_v, if_neg (by first | decide | omega), zup3_v, if_neg (by first | decide | omega)]
            have := g1.2.2.2.2.2.1
            omega
          · have := gx.2.1.1; omega
        by_cases v : r' < lo
        · rw [if_pos (zcmp_lt.mpr v), if_pos (zcmp_lt.mpr v)]; exact fin
        · rw [if_neg (fun x => v (zcmp_lt.mp x)), if_neg (fun x => by have := zcmp_m.mp x; omega), if_neg (fun x => v (zcmp_lt.mp x)), if_neg (fun x => by have := zcmp_m.mp x; omega)]; exact fin
    · rw [L_goodX x, zb_s, if_pos (show r32 0 by decide), if_pos (show (0 : Int) = 0 from rfl), if_pos (show r32 r' by unfold r32; omega), C_refX ho x, zb_s]
      have q : ∀ (q : G1 14 0 17 = 0), ∀ s : Int, Fm 14 0 17 = 0 ∧ r' = s ∧ lo ≤ s ∧ s ≤ hi := fun q => by have := x.2.1.1; omega
      have fin : ∀ s, zP (some (s, F1, B1)) (some (r', G1, D1)) (fun r F' B' r' Fm' Bm' => B' = B1 ∧ Bm' = D1 ∧ tkF o F F' ∧ tkG Fm Fm' ∧ RQo o (a + 2) F' Fm' ∧ (Fm' 14 0 17 = 0 → Fm 14 0 17 = 0 ∧ r' = r ∧ lo ≤ r ∧ r ≤ hi)) := fun s => P_some ⟨rfl, rfl, y3, y4, Or.inr ⟨x, x6⟩, fun g => q g s⟩
      by_cases v : zcmp r lo < 0
      · rw [if_pos v]; exact fin 0
      · rw [if_neg v]
        by_cases u : zcmp r hi ≤ 0
        · rw [if_pos u]; exact fin r
        · rw [if_neg u]; exact fin 0
end

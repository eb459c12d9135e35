section
/-! ===== all sounds of a piece gathered, both sides ===== -/
/-- event i is trilled -/
def trE (q : Int) (i : Nat) (F : zF) (B : zB) : Prop := ¬ zand (F 1 (B 4 q 5 i) 7) 64 = 0 ∧ F 1 (B 4 q 5 i) 10 = 1 ∧ ¬ tieOn q i (B 1 (B 4 q 5 i) 12 0) (B 1 (B 4 q 5 i) 13 0) F B ∧ ¬ (0 < i ∧ tieOn q (i - 1) (B 1 (B 4 q 5 i) 12 0) (B 1 (B 4 q 5 i) 13 0) F B)
theorem C_isTr {K : zK} {q u w : Int} {m i : Nat} {g : Int → Int} {F : zF} {B Bm : zB} (hK : 3002 ≤ K.1) (h : VS K q u w m g F B Bm) (hi : i < m) : (trE q i F B → f_Performance_isTrilled K q i F B = some (1, F, B)) ∧ (¬ trE q i F B → f_Performance_isTrilled K q i F B = some (0, F, B)) := by
  have h' := h
  obtain ⟨h4, w0, u0, hm, h12, hV, hg, hsm, hE⟩ := h
  obtain ⟨ei, q1, q2, q3, q4, q5, ti⟩ := hE i hi
  have ep := ei.2.2.2.2.2.2.2.2.2.2
  have c6 := ep.2.2.1
  have hie := hV i (by first | decide | omega) (by first | decide | omega)
  unfold f_Performance_isTrilled f_Performance_isTrilled_45 f_Performance_isTrilled_46 trE
  rw [if_pos h4, if_pos (by first | decide | omega), if_pos hie, C_has hie, zb_s]
  by_cases z : zand (F 1 (B 4 q 5 i) 7) 64 = 0
  · rw [if_pos z, if_pos (by decide), if_pos rfl, if_pos (Or.inl rfl)]
    exact ⟨fun t => absurd z t.1, fun _ => rfl⟩
  · rw [if_neg z, if_pos (by decide), if_neg (by decide), if_pos (by unfold r32; omega)]
    by_cases y : F 1 (B 4 q 5 i) 10 = 1
    · rw [if_pos y]
      have tp : ∃ r, f_Part_tiedPitches K q i F B = some (r, F, B) ∧ r32 r ∧ (r = 0 ↔ ¬ tieOn q i (B 1 (B 4 q 5 i) 12 0) (B 1 (B 4 q 5 i) 13 0) F B) := by
        have e7 := ei.2.2.2.2.2.2.2.1
        obtain ⟨y1, _, _⟩ := mkb_i e7.2.1 e7.2.2
        unfold f_Part_tiedPitches f_Part_tiedPitches_27
        rw [if_pos (by unfold r32; omega), if_neg (by first | decide | omega), if_pos h4, if_pos (by unfold r32; omega), hm.1, if_pos (by unfold r32; omega)]
        by_cases a : (m : Int) ≤ (i : Int) + 1
        · rw [if_pos a]
          refine ⟨0, rfl, by decide, ⟨fun _ t => ?_, fun _ => rfl⟩⟩
          unfold TIk at ti
          have := t.1
          omega
        · rw [if_neg a, if_pos (by first | decide | omega), if_pos hie, C_has hie, zb_s]
          by_cases b : zand (F 1 (B 4 q 5 i) 7) 1 = 0
          · rw [if_pos b, if_pos (by decide), if_pos rfl]
            exact ⟨0, rfl, by decide, ⟨fun _ t => t.1 b, fun _ => rfl⟩⟩
          · have ec : ((i + 1 : Nat) : Int) = (i : Int) + 1 := by omega
            obtain ⟨en, _⟩ := hE (i + 1) (by first | decide | omega)
            rw [ec] at en
            have hne := hV ((i : Int) + 1) (by first | decide | omega) (by first | decide | omega)
            have epn := en.2.2.2.2.2.2.2.2.2.2
            rw [if_neg b, if_pos (by decide), if_neg (by decide), if_pos (by first | decide | omega), if_pos hie, if_pos hne, C_shared hK hie hne rfl c6 rfl epn.2.2.1 (fun k k0 k1 => by have := ep.2.2.2.1 k k0 k1; unfold r32; omega) (fun k k0 k1 => by have := epn.2.2.2.1 k k0 k1; unfold r32; omega), zb_s]
            have v : shM (shB (B 4 q 5 i) (B 4 q 5 ((i : Int) + 1)) (F 1 (B 4 q 5 ((i : Int) + 1)) 10) B) (F 1 (B 4 q 5 i) 10).toNat = if 0 ≤ hpB (B 4 q 5 ((i : Int) + 1)) (B 1 (B 4 q 5 i) 12 0) (B 1 (B 4 q 5 i) 13 0) F B then 1 else 0 := by
              rw [y]
              show shM _ 1 = _
              unfold shM shM shB hpB
              by_cases c : 0 ≤ fP (B 1 (B 4 q 5 ((i : Int) + 1)) 12) (B 1 (B 4 q 5 ((i : Int) + 1)) 13) (F 1 (B 4 q 5 ((i : Int) + 1)) 10) (B 1 (B 4 q 5 i) 12 0) (B 1 (B 4 q 5 i) 13 0) 7 0
              · simp [c]
              · simp [c]
            rw [v]
            by_cases c : 0 ≤ hpB (B 4 q 5 ((i : Int) + 1)) (B 1 (B 4 q 5 i) 12 0) (B 1 (B 4 q 5 i) 13 0) F B
            · rw [if_pos c]
              exact ⟨1, rfl, by decide, ⟨fun t => absurd t (by decide), fun t => absurd ⟨b, hpB_i ei (by decide) (by first | decide | omega), c⟩ t⟩⟩
            · rw [if_neg c]
              exact ⟨0, rfl, by decide, ⟨fun _ t => c t.2.2, fun _ => rfl⟩⟩
      obtain ⟨r, t1, t2, t3⟩ := tp
      rw [t1, zb_s, if_pos t2]
      by_cases a : r = 0
      · rw [if_pos a]
        obtain ⟨f1, f0⟩ := C_from hK h' hi (k := 0) (by decide) (by first | decide | omega)
        by_cases b : 0 < i ∧ tieOn q (i - 1) (B 1 (B 4 q 5 i) 12 0) (B 1 (B 4 q 5 i) 13 0) F B
        · rw [f1 b, zb_s, if_pos (by decide), if_neg (by decide), if_pos (Or.inl rfl)]
          exact ⟨fun t => absurd b t.2.2.2, fun _ => rfl⟩
        · rw [f0 b, zb_s, if_pos (by decide), if_pos rfl, if_pos (Or.inr rfl)]
          exact ⟨fun _ => rfl, fun t => absurd ⟨z, y, t3.mp a, b⟩ t⟩
      · rw [if_neg a, if_pos (Or.inl rfl)]
        exact ⟨fun t => absurd (t3.mpr t.2.2.1) a, fun _ => rfl⟩
    · rw [if_neg y, if_pos (Or.inl rfl)]
      exact ⟨fun t => absurd t.2.1 y, fun _ => rfl⟩
/-- the upper tone of a trill -/
def upV (f s a : Int) : Int := if s = 62 then tnv s + a else tnv (s + 1) + kaV f ((s + 1) % 7)
theorem P_ev {K : zK} {Km : Nat} {V s p q u w f : Int} {m i : Nat} {g : Int → Int} {rec7 : Int → Int → zF → zB → zO} {rec : Int → Int → Int → zF → zB → zO} {F : zF} {B : zB} {Fm : zF} {Bm : zB} (hK : 3002 ≤ K.1) (hKm : 812851200 < Km) (hs : 0 ≤ s ∧ s < K.2 5) (uV : u < V) (hp : 0 ≤ p ∧ p < K.2 6) (hq : B 6 p 0 u = q) (hf : F 6 p 2 = f ∧ Fm 13 w 2 = f ∧ -7 ≤ f ∧ f ≤ 7) (h : VS K q u w m g F B Bm) (hT : T61 Bm) (hi : i < m) (c0 : 0 ≤ Fm 14 0 62) (c1 : Fm 14 0 62 + 40000 ≤ 100000000) (hG : GA V s F B Fm Bm) : ∃ F' B' Fm' Bm', (trE q i F B → f_Performance_trill K s p u i F B = some (0, F', B')) ∧ (¬ trE q i F B → f_Performance_soundAll K s q u i F B = some (0, F', B')) ∧ f_M_gather_39 rec7 rec Km Km 0 (1000 * u + i) i u w Fm Bm = rec (i + 1) u w Fm' Bm' ∧ gaF s F F' ∧ gaB s B B' ∧ gaG Fm Fm' ∧ gaM Bm Bm' ∧ GA V s F' B' Fm' Bm' ∧ Fm 14 0 62 ≤ Fm' 14 0 62 ∧ Fm' 14 0 62 ≤ Fm 14 0 62 + 40000 := by
  have h' := h
  obtain ⟨h4, w0, u0, hm, h12, hV, hg, hsm, hE⟩ := h
  obtain ⟨ei, q1, q2, q3, q4, q5, ti⟩ := hE i hi
  have ep := ei.2.2.2.2.2.2.2.2.2.2
  have c6 := ep.2.2.1
  have hie := hV i (by first | decide | omega) (by first | decide | omega)
  obtain ⟨t1, t2, t3, t4⟩ := L_endT (Fm := Fm) hKm h' hi
  have tb := tk_b (show sumZ g i + g i ≤ 1000000000000 by omega)
  have td := tk_0 (show 0 ≤ sumZ g i + g i by omega)
  have ta := tk_b (show sumZ g i ≤ 1000000000000 by omega)
  have tc := tk_0 t2
  have hx : 0 ≤ 1000 * u + (i : Int) ∧ 1000 * u + (i : Int) < 4000 := by omega
  by_cases T : trE q i F B
  · -- a trill
    obtain ⟨z64, y1, nt, nf⟩ := T
    obtain ⟨p1, p2, p3, p4⟩ := ep.2.2.2.1 0 (by decide) (by first | decide | omega)
    have e7 := ei.2.2.2.2.2.2.2.1
    have e8 := ei.2.2.2.2.2.2.2.2.1
    obtain ⟨_, _, _, m64⟩ := mk8_i e7.2.1 e7.2.2
    have kb := kaV_b (f := f) (s := (B 1 (B 4 q 5 i) 12 0 + 1) % 7)
    have ba := tnv_r p3.1 p3.2 p4.1 p4.2
    have up : 0 ≤ upV f (B 1 (B 4 q 5 i) 12 0) (B 1 (B 4 q 5 i) 13 0) ∧ upV f (B 1 (B 4 q 5 i) 12 0) (B 1 (B 4 q 5 i) 13 0) ≤ 127 := by
      unfold upV
      by_cases a : B 1 (B 4 q 5 i) 12 0 = 62
      · rw [if_pos a]; exact ba
      · rw [if_neg a]; exact tnv_r (by first | decide | omega) (by first | decide | omega) (by first | decide | omega) (by first | decide | omega)
    have zr : zrm (B 1 (B 4 q 5 i) 12 0 + 1) 7 = (B 1 (B 4 q 5 i) 12 0 + 1) % 7 := zrm_e (by first | decide | omega) (by unfold r32; omega) (by decide) (by decide)
    have mz := Int.emod_nonneg (B 1 (B 4 q 5 i) 12 0 + 1) (show (7 : Int) ≠ 0 by decide)
    have my := Int.emod_lt_of_pos (B 1 (B 4 q 5 i) 12 0 + 1) (show (0 : Int) < 7 by decide)
    have cE : f_Performance_trill K s p u i F B = f_Performance_trill_93 K K.1 (tk (sumZ g i)) 0 (upV f (B 1 (B 4 q 5 i) 12 0) (B 1 (B 4 q 5 i) 13 0)) (tnv (B 1 (B 4 q 5 i) 12 0) + B 1 (B 4 q 5 i) 13 0) (tk (sumZ g i + g i)) (B 4 q 5 i) s u i F B := by
      unfold f_Performance_trill f_Performance_trill_78 upV
      rw [if_pos hp, if_pos u0, hq, if_pos h4, if_pos (by first | decide | omega), if_pos hie, q1, q4, C_tick (by first | decide | omega) (by first | decide | omega), zb_s, C_tone hie (by decide) p3, zb_s, if_pos (by unfold r32; omega)]
      by_cases a : B 1 (B 4 q 5 i) 12 0 = 62
      · rw [if_pos (show 63 ≤ B 1 (B 4 q 5 i) 12 0 + 1 by omega), if_pos hie, q1, C_tick (by first | decide | omega) (by first | decide | omega), zb_s, if_pos a]
      · rw [if_neg (show ¬ 63 ≤ B 1 (B 4 q 5 i) 12 0 + 1 by omega), C_nat (by first | decide | omega) (by first | decide | omega), zb_s, hf.1, zr, C_kaV hf.2.2 mz (by first | decide | omega), zb_s, if_pos hie, q1, C_tick (by first | decide | omega) (by first | decide | omega), zb_s, if_neg a]
    have mE : ∃ Fx, (∀ c y k, ¬ (c = 14 ∧ y = 0 ∧ k ≤ 1) → Fx c y k = Fm c y k) ∧ f_M_trill Km w u i (B 1 (B 4 q 5 i) 12 0) (B 1 (B 4 q 5 i) 13 0) Fm Bm = f_M_trill_88 Km Km (tk (sumZ g i)) 0 (upV f (B 1 (B 4 q 5 i) 12 0) (B 1 (B 4 q 5 i) 13 0)) (tnv (B 1 (B 4 q 5 i) 12 0) + B 1 (B 4 q 5 i) 13 0) (tk (sumZ g i + g i)) (1000 * u + i) w u i Fx Bm := by
      refine ⟨fr Fm (sumZ g i + g i), fun c y k n => fr_n n, ?_⟩
      unfold f_M_trill f_M_trill_79 upV
      rw [if_pos w0, if_pos hx, q2, q3, L_tick t2 (by first | decide | omega), zb_s, t1, zb_s, L_toneT p3.1 p3.2, zb_s, if_pos (by unfold r32; omega)]
      by_cases a : B 1 (B 4 q 5 i) 12 0 = 62
      · rw [if_pos a, if_pos a]
      · rw [if_neg a, if_neg a, fr_n (by first | decide | omega), hf.2.1, zr, L_kaV hf.2.2 mz (by first | decide | omega), zb_s, L_toneT (by first | decide | omega) (by first | decide | omega), zb_s]
    obtain ⟨Fx, fx, mE⟩ := mE
    have x62 : Fx 14 0 62 = Fm 14 0 62 := fx 14 0 62 (by first | decide | omega)
    obtain ⟨F', B', Fm', Bm', a1, a2, a3, a4, a5, a6, a7, a8, a9⟩ := P_tr (K := K) (Km := Km) (up := upV f (B 1 (B 4 q 5 i) 12 0) (B 1 (B 4 q 5 i) 13 0)) (ba := tnv (B 1 (B 4 q 5 i) 12 0) + B 1 (B 4 q 5 i) 13 0) (en := tk (sumZ g i + g i)) (e := B 4 q 5 i) (x := 1000 * u + i) (w := w) (u := u) (i := i) (F0 := F) (B0 := Bm) hs hie e8.2 u0 uV (by first | decide | omega) up ba (fun F1 B1 gm => by
        have m13 : ∀ k y, B1 13 w k y = Bm 13 w k y := fun k y => gm 13 w k y (by first | decide | omega)
        rw [L_force (T61_e hT gm) w0 hx (by rw [m13, ← e7.1]; exact e7.2) (by rw [m13, ← e8.1]; exact e8.2), m13, m13, ← e7.1, ← e8.1]) td (by first | decide | omega) 39999 K.1 Km (l := tk (sumZ g i)) (b := 0) (F := F) (B := B) (Fm := Fx) (Bm := Bm) (fun _ _ _ _ => rfl) (fun _ _ _ _ _ => rfl) (by first | decide | omega) (by first | decide | omega) ⟨(by first | decide | omega), fun _ => by rcases hG with g' | g' <;> omega⟩ tc (by first | decide | omega) (Or.inl rfl) (by rw [x62]; exact c0) (by rw [x62]; omega) (GA_g hG x62)
    rw [x62] at a8 a9
    refine ⟨F', B', Fm', Bm', fun _ => by rw [cE]; exact a1, fun t => absurd ⟨z64, y1, nt, nf⟩ t, ?_, a3, a4, gaG_t (fun c y k n => fx c y k (by first | decide | omega)) a5, a6, a7, a8, (by first | decide | omega)⟩
    -- the reference comes to its trill
    obtain ⟨n', hn'⟩ : ∃ j, Km = j + 1 + 1 := ⟨Km - 2, (by first | decide | omega)⟩
    have ri : r32 (i : Int) := by unfold r32; omega
    have rc : r32 (F 1 (B 4 q 5 i) 10) := by unfold r32; omega
    have rs : r32 (B 1 (B 4 q 5 i) 12 0) := by unfold r32; omega
    have ra : r32 (B 1 (B 4 q 5 i) 13 0) := by unfold r32; omega
    have hL := L_tiesE (Km := Km) (Fm := Fm) (by first | decide | omega) h' hi rs ra
    have m13' : ∀ k y, Bm' 13 w k y = Bm 13 w k y := fun k y => a6 13 w k y (by first | decide | omega)
    have m103 : f_M_gather_103 rec7 rec (f_M_gather_39 rec7 rec Km (n' + 1)) Km (Bm 13 w 29 (6 * (1000 * u + i) + 0)) (Bm 13 w 28 (6 * (1000 * u + i) + 0)) 0 (1000 * u + i) i u w Fm Bm = rec (i + 1) u w Fm' Bm' := by
      unfold f_M_gather_103 f_M_gather_144 f_M_gather_145 f_M_gather_177
      rw [if_pos w0, if_pos hx, if_pos (zand_R _ _), ← e7.1, ep.2.1, if_pos rc, if_neg (show ¬ zand (F 1 (B 4 q 5 i) 7) 64 ≤ 0 by omega), if_pos y1, ← p1, ← p2, hL.2 nt, zb_s, if_pos (by decide), if_pos rfl, if_pos (by decide), if_neg (by decide), mE, a2, zb_s, f_M_gather_39, if_pos w0, if_pos hx, if_pos (by decide), m13', ep.2.1, if_pos rc, if_pos (by first | decide | omega)]
    rw [show f_M_gather_39 rec7 rec Km Km = f_M_gather_39 rec7 rec Km (n' + 1 + 1) by rw [← hn'], f_M_gather_39, if_pos w0, if_pos hx, if_pos (by decide), ep.2.1, if_pos rc, if_neg (by first | decide | omega), if_pos (by first | decide | omega), if_pos ri]
    by_cases z : (i : Int) ≤ 0
    · rw [if_pos z]; exact m103
    · obtain ⟨j, hj⟩ : ∃ j, i = j + 1 := ⟨i - 1, (by first | decide | omega)⟩
      have hLj := L_tiesE (Km := Km) (Fm := Fm) (by first | decide | omega) h' (i := j) (by first | decide | omega) rs ra
      have ej : (i : Int) - 1 = (j : Int) := by omega
      rw [ej] at nf
      rw [if_neg z, show 1000 * u + (i : Int) - 1 = 1000 * u + (j : Int) by omega]
      have e28 : Bm 13 w 28 (6 * (1000 * u + i) + 0) = B 1 (B 4 q 5 i) 12 0 := p1.symm
      have e29 : Bm 13 w 29 (6 * (1000 * u + i) + 0) = B 1 (B 4 q 5 i) 13 0 := p2.symm
      rw [show f_M_ties Km w (1000 * u + (j : Int)) (Bm 13 w 28 (6 * (1000 * u + i) + 0)) (Bm 13 w 29 (6 * (1000 * u + i) + 0)) Fm Bm = some (0, Fm, Bm) by rw [e28, e29]; exact hLj.2 (fun t => nf ⟨(by first | decide | omega), t⟩), zb_s, if_pos (by decide), if_pos rfl]
      exact m103
  · -- plain
    obtain ⟨c, hc⟩ : ∃ c : Nat, F 1 (B 4 q 5 i) 10 = c := ⟨(F 1 (B 4 q 5 i) 10).toNat, (by first | decide | omega)⟩
    obtain ⟨F', B', Fm', Bm', a1, a2, a3, a4, a5, a6, a7, a8, a9⟩ := P_sAll (K := K) (Km := Km) (rec7 := rec7) (rec := rec) hK hKm hs uV hi c K.1 Km (k := 0) (F := F) (B := B) (Fm := Fm) (Bm := Bm) h' hT (by first | decide | omega) (by decide) (by first | decide | omega) (by first | decide | omega) (fun a b => by
      by_cases x1 : tieOn q i (B 1 (B 4 q 5 i) 12 0) (B 1 (B 4 q 5 i) 13 0) F B
      · exact Or.inl x1
      · by_cases x2 : 0 < i ∧ tieOn q (i - 1) (B 1 (B 4 q 5 i) 12 0) (B 1 (B 4 q 5 i) 13 0) F B
        · exact Or.inr x2
        · exact absurd ⟨a, b, x1, x2⟩ T) c0 (by first | decide | omega) hG
    refine ⟨F', B', Fm', Bm', fun t => absurd t T, fun _ => ?_, a2, a3, a4, a5, a6, a7, a8, (by first | decide | omega)⟩
    unfold f_Performance_soundAll
    rw [if_pos h4, if_pos (by first | decide | omega), if_pos hie, q1, C_tick t2 (by first | decide | omega), zb_s]
    exact a1
end

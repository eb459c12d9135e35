section
/-! ===== trills, both sides ===== -/
/-- what the key does to a letter -/
def kaV (f s : Int) : Int := if f ≤ 0 then (if -f ≤ 6 - (2 * s - 6) % 7 then 0 else -1) else (if f ≤ (2 * s - 6) % 7 then 0 else 1)
theorem kaV_b {f s : Int} : -1 ≤ kaV f s ∧ kaV f s ≤ 1 := by
  unfold kaV
  split
  · split <;> omega
  · split <;> omega
theorem L_kaV {K : Nat} {f s : Int} {F : zF} {B : zB} (hf : -7 ≤ f ∧ f ≤ 7) (s0 : 0 ≤ s) (s1 : s ≤ 6) : f_M_inKey K f s F B = some (kaV f s, F, B) := by
  have m0 := Int.emod_nonneg (2 * s - 6) (show (7 : Int) ≠ 0 by decide)
  have m1 := Int.emod_lt_of_pos (2 * s - 6) (show (0 : Int) < 7 by decide)
  unfold f_M_inKey f_M_inKey_43 f_M_inKey_31 kaV
  rw [L_mod (show r32 (2 * s - 6) by unfold r32; omega) (by decide) (by decide), zb_s, if_pos (by unfold r32; omega)]
  by_cases a : f ≤ 0
  · rw [if_pos a, if_pos a, if_pos (by unfold r32; omega), if_pos (by unfold r32; omega)]
    by_cases b : -f ≤ 6 - (2 * s - 6) % 7
    · rw [if_pos b, if_pos b]
    · rw [if_neg b, if_neg b]
  · rw [if_neg a, if_neg a, if_pos (by unfold r32; omega)]
    by_cases b : f ≤ (2 * s - 6) % 7
    · rw [if_pos b, if_pos b]
    · rw [if_neg b, if_neg b]
theorem rank_f : ∀ n : Fin 7, ztv 7 (n.val : Nat) = (2 * ((n.val : Nat) : Int) - 6) % 7 := by decide +kernel
theorem C_kaV {K : zK} {f s : Int} {F : zF} {B : zB} (hf : -7 ≤ f ∧ f ≤ 7) (s0 : 0 ≤ s) (s1 : s ≤ 6) : f_S_keyAlteration K f s F B = some (kaV f s, F, B) := by
  have m0 := Int.emod_nonneg (2 * s - 6) (show (7 : Int) ≠ 0 by decide)
  have m1 := Int.emod_lt_of_pos (2 * s - 6) (show (0 : Int) < 7 by decide)
  have rk := rank_f ⟨s.toNat, (by first | decide | omega)⟩
  rw [show (((⟨s.toNat, (by first | decide | omega)⟩ : Fin 7).val : Nat) : Int) = s by show ((s.toNat : Nat) : Int) = s; omega] at rk
  have fm : f_Math_floorMod K s 7 F B = some (s, F, B) := by rw [C_fm s0 (by first | decide | omega), show s % 7 = s by omega]
  unfold f_S_keyAlteration f_S_keyAlteration_40 f_S_keyAlteration_25 kaV
  rw [fm, zb_s, if_pos (by rw [show ztl 7 = 7 by decide]; omega), if_pos (by unfold r32; omega), rk]
  by_cases a : f ≤ 0
  · rw [if_pos a, if_pos a, if_pos (by unfold r32; omega), if_pos (by unfold r32; omega)]
    by_cases b : -f ≤ 6 - (2 * s - 6) % 7
    · rw [if_pos b, if_pos b]
    · rw [if_neg b, if_neg b]
  · rw [if_neg a, if_neg a, if_pos (by unfold r32; omega)]
    by_cases b : f ≤ (2 * s - 6) % 7
    · rw [if_pos b, if_pos b]
    · rw [if_neg b, if_neg b]
/-- the reference's trill, alone -/
theorem L_trR {Km : Nat} {up ba en x w u i fo : Int} {B0 : zB} (hf : ∀ F B, gaM B0 B → f_M_forceOf Km w x F B = some (fo, F, B)) (e0 : 0 ≤ en) (e1 : en ≤ 500000) : ∀ (r n : Nat) {l b : Int} {F : zF} {B : zB}, gaM B0 B → en ≤ l + 12 * r → r < n → 0 ≤ l → l ≤ 500012 → (b = 0 ∨ b = 1) → 0 ≤ F 14 0 62 → F 14 0 62 + r ≤ 100000000 → ∃ F' B', f_M_trill_88 Km n l b up ba en x w u i F B = some (0, F', B') ∧ gaG F F' ∧ gaM B B' ∧ F 14 0 62 ≤ F' 14 0 62 ∧ F' 14 0 62 ≤ F 14 0 62 + r := by
  intro r
  induction r with
  | zero =>
    intro n l b F B hg hl hn l0 l1 hb c0 c1
    obtain ⟨n, rfl⟩ : ∃ j, n = j + 1 := ⟨n - 1, (by first | decide | omega)⟩
    refine ⟨F, B, ?_, fun _ _ _ _ => rfl, fun _ _ _ _ _ => rfl, (by first | decide | omega), (by first | decide | omega)⟩
    rw [f_M_trill_88, if_pos (by unfold r32; omega), if_pos (by unfold r32; omega), if_pos (by first | decide | omega)]
  | succ r ih =>
    intro n l b F B hg hl hn l0 l1 hb c0 c1
    obtain ⟨n, rfl⟩ : ∃ j, n = j + 1 := ⟨n - 1, (by first | decide | omega)⟩
    rw [f_M_trill_88, if_pos (by unfold r32; omega), if_pos (by unfold r32; omega)]
    by_cases z : en ≤ l
    · rw [if_pos z]
      exact ⟨F, B, rfl, fun _ _ _ _ => rfl, fun _ _ _ _ _ => rfl, (by first | decide | omega), (by first | decide | omega)⟩
    · rw [if_neg z, if_pos (by unfold r32; omega)]
      have st : ∀ (e t : Int), l < e → e ≤ 500012 → ∃ F' B', f_M_trill_130 (f_M_trill_88 Km n) Km l b up ba en x w u i l e t F B = some (0, F', B') ∧ gaG F F' ∧ gaM B B' ∧ F 14 0 62 ≤ F' 14 0 62 ∧ F' 14 0 62 ≤ F 14 0 62 + ((r + 1 : Nat) : Int) := fun e t le e5 => by
        obtain ⟨B1, m1, m2, _⟩ := L_snd (K := Km) (t := t) (fo := fo) (v := u) (i := i) (F := F) (B := B) le l0 (by first | decide | omega) c0 (by first | decide | omega)
        unfold f_M_trill_130 f_M_trill_152
        rw [hf F B hg, zb_s, m1, zb_s]
        have z62 : (zup3 F 14 0 62 (F 14 0 62 + 1)) 14 0 62 = F 14 0 62 + 1 := by rw [zup3_v, if_pos (by first | decide | omega)]
        have key : ∀ b', (b' = 0 ∨ b' = 1) → ∃ F' B', f_M_trill_88 Km n (l + 12) b' up ba en x w u i (zup3 F 14 0 62 (F 14 0 62 + 1)) B1 = some (0, F', B') ∧ gaG F F' ∧ gaM B B' ∧ F 14 0 62 ≤ F' 14 0 62 ∧ F' 14 0 62 ≤ F 14 0 62 + ((r + 1 : Nat) : Int) := fun b' hb' => by
          obtain ⟨F', B', x1, x2, x3, x4, x5⟩ := ih n (l := l + 12) (b := b') (F := zup3 F 14 0 62 (F 14 0 62 + 1)) (B := B1) (gaM_t hg m2) (by first | decide | omega) (by first | decide | omega) (by first | decide | omega) (by first | decide | omega) hb' (by rw [z62]; omega) (by rw [z62]; omega)
          rw [z62] at x4 x5
          exact ⟨F', B', x1, gaG_t (fun c y k n => by rw [zup3_v, if_neg (by first | decide | omega)]) x2, gaM_t m2 x3, (by first | decide | omega), (by first | decide | omega)⟩
        rcases hb with rfl | rfl
        · rw [if_pos (by decide), if_pos rfl]; exact key 1 (Or.inr rfl)
        · rw [if_pos (by decide), if_neg (by decide)]; exact key 0 (Or.inl rfl)
      unfold f_M_trill_118
      by_cases y : en ≤ l + 12
      · rw [if_pos y]
        rcases hb with rfl | rfl
        · rw [if_pos (by decide), if_pos rfl]; exact st en ba (by first | decide | omega) (by first | decide | omega)
        · rw [if_pos (by decide), if_neg (by decide)]; exact st en up (by first | decide | omega) (by first | decide | omega)
      · rw [if_neg y]
        rcases hb with rfl | rfl
        · rw [if_pos (by decide), if_pos rfl]; exact st (l + 12) ba (by first | decide | omega) (by first | decide | omega)
        · rw [if_pos (by decide), if_neg (by decide)]; exact st (l + 12) up (by first | decide | omega) (by first | decide | omega)
/-- both sides' trills -/
theorem P_tr {K : zK} {Km : Nat} {V s up ba en e x w u i : Int} {F0 : zF} {B0 : zB} (hs : 0 ≤ s ∧ s < K.2 5) (he : 0 ≤ e ∧ e < K.2 1) (hl8 : 0 ≤ F0 1 e 8 ∧ F0 1 e 8 ≤ 7) (u0 : 0 ≤ u ∧ u < 4) (uV : u < V) (i0 : 0 ≤ i ∧ i < 200) (hup : 0 ≤ up ∧ up ≤ 127) (hba : 0 ≤ ba ∧ ba ≤ 127) (hf : ∀ F B, gaM B0 B → f_M_forceOf Km w x F B = some (foV (F0 1 e 7) (F0 1 e 8), F, B)) (e0 : 0 ≤ en) (e1 : en ≤ 500000) : ∀ (r n n' : Nat) {l b : Int} {F : zF} {B : zB} {Fm : zF} {Bm : zB}, gaF s F0 F → gaM B0 Bm → en ≤ l + 12 * r → r < n' → (0 < n ∧ (F 5 s 1 = 0 → 2002 - F 5 s 0 < n)) → 0 ≤ l → l ≤ 500012 → (b = 0 ∨ b = 1) → 0 ≤ Fm 14 0 62 → Fm 14 0 62 + r ≤ 100000000 → GA V s F B Fm Bm → ∃ F' B' Fm' Bm', f_Performance_trill_93 K n l b up ba en e s u i F B = some (0, F', B') ∧ f_M_trill_88 Km n' l b up ba en x w u i Fm Bm = some (0, Fm', Bm') ∧ gaF s F F' ∧ gaB s B B' ∧ gaG Fm Fm' ∧ gaM Bm Bm' ∧ GA V s F' B' Fm' Bm' ∧ Fm 14 0 62 ≤ Fm' 14 0 62 ∧ Fm' 14 0 62 ≤ Fm 14 0 62 + r := by
  intro r
  induction r with
  | zero =>
    intro n n' l b F B Fm Bm gf gm hl hn' hn l0 l1 hb c0 c1 hG
    have hn0 : 0 < n := hn.1
    obtain ⟨n, rfl⟩ : ∃ j, n = j + 1 := ⟨n - 1, (by first | decide | omega)⟩
    obtain ⟨n', rfl⟩ : ∃ j, n' = j + 1 := ⟨n' - 1, (by first | decide | omega)⟩
    refine ⟨F, B, Fm, Bm, ?_, ?_, fun _ _ _ _ => rfl, fun _ _ _ _ _ => rfl, fun _ _ _ _ => rfl, fun _ _ _ _ _ => rfl, hG, (by first | decide | omega), (by first | decide | omega)⟩
    · rw [f_Performance_trill_93, if_pos (by unfold r32; omega), if_pos (by unfold r32; omega), if_pos (by first | decide | omega), f_Performance_trill_157]
    · rw [f_M_trill_88, if_pos (by unfold r32; omega), if_pos (by unfold r32; omega), if_pos (by first | decide | omega)]
  | succ r ih =>
    intro n n' l b F B Fm Bm gf gm hl hn' hn l0 l1 hb c0 c1 hG
    have hn0 : 0 < n := hn.1
    obtain ⟨n, rfl⟩ : ∃ j, n = j + 1 := ⟨n - 1, (by first | decide | omega)⟩
    have hG' := hG
    rcases hG with ⟨g1, g2, g3, g4, g5⟩ | ⟨g1, g2, g3⟩
    · -- a place is left, or just none
      obtain ⟨n', rfl⟩ : ∃ j, n' = j + 1 := ⟨n' - 1, (by first | decide | omega)⟩
      rw [f_Performance_trill_93, if_pos (show r32 l by unfold r32; omega), if_pos (show r32 en by unfold r32; omega), f_M_trill_88, if_pos (show r32 l by unfold r32; omega), if_pos (show r32 en by unfold r32; omega)]
      by_cases z : en ≤ l
      · rw [if_pos z, if_pos z, f_Performance_trill_157]
        exact ⟨F, B, Fm, Bm, rfl, rfl, fun _ _ _ _ => rfl, fun _ _ _ _ _ => rfl, fun _ _ _ _ => rfl, fun _ _ _ _ _ => rfl, hG', (by first | decide | omega), (by first | decide | omega)⟩
      · rw [if_neg z, if_neg z, if_pos hs, g1, if_pos (by decide), if_pos rfl, if_pos (show r32 (l + 12) by unfold r32; omega)]
        have f18 : F 1 e 8 = F0 1 e 8 := gf 1 e 8 (by first | decide | omega)
        have f17 : F 1 e 7 = F0 1 e 7 := gf 1 e 7 (by first | decide | omega)
        have zm : zmin (l + 12) en = if en ≤ l + 12 then en else l + 12 := by
          unfold zmin
          by_cases y : en ≤ l + 12
          · rw [if_pos y]; split <;> omega
          · rw [if_neg y, if_neg (by first | decide | omega)]
        have z62 : (zup3 Fm 14 0 62 (Fm 14 0 62 + 1)) 14 0 62 = Fm 14 0 62 + 1 := by rw [zup3_v, if_pos (by first | decide | omega)]
        -- one sound, and on
        have st : ∀ (t : Int), 0 ≤ t → t ≤ 127 → ∃ F' B' Fm' Bm', f_Performance_trill_122 (f_Performance_trill_93 K n) K l b up ba en e s u i s u i t F B = some (0, F', B') ∧ f_M_trill_130 (f_M_trill_88 Km n') Km l b up ba en x w u i l (if en ≤ l + 12 then en else l + 12) t Fm Bm = some (0, Fm', Bm') ∧ gaF s F F' ∧ gaB s B B' ∧ gaG Fm Fm' ∧ gaM Bm Bm' ∧ GA V s F' B' Fm' Bm' ∧ Fm 14 0 62 ≤ Fm' 14 0 62 ∧ Fm' 14 0 62 ≤ Fm 14 0 62 + ((r + 1 : Nat) : Int) := fun t t0 t1 => by
          obtain ⟨F1, B1, Bm1, a1, a2, a3, a4, a5, a6⟩ := P_addS (K := K) (Km := Km) (v := u) (i := i) (t := t) (e := e) (a := l) (b := if en ≤ l + 12 then en else l + 12) hs he (by rw [f18]; exact hl8) u0 uV i0 ⟨t0, t1⟩ l0 (by split <;> omega) (by split <;> omega) ⟨c0, (by first | decide | omega)⟩ hG'
          unfold f_Performance_trill_122 f_Performance_trill_149 f_M_trill_130 f_M_trill_152
          rw [f17, f18] at a2
          rw [if_pos hs, if_pos he, if_pos (show r32 (l + 12) by unfold r32; omega), if_pos (show r32 en by unfold r32; omega), zm, a1, zb_s, hf Fm Bm gm, zb_s, a2, zb_s]
          have cnt : 0 < n ∧ (F1 5 s 1 = 0 → 2002 - F1 5 s 0 < n) := by
            have hn2 := hn.2 g1
            rcases a6 with ⟨x1, x2, _⟩ | ⟨x1, x2, _⟩
            · rw [z62] at x2
              omega
            · have : F 5 s 0 = 2000 := by
                by_cases y : F 5 s 0 < 2000
                · exfalso
                  have := a1
                  unfold f_Performance_addSound at this
                  rw [if_pos hs, if_pos (by unfold r32; omega), if_pos y, if_pos (by first | decide | omega), C_force he (by rw [f18]; exact hl8), zb_s, if_pos (by first | decide | omega)] at this
                  injection this with this
                  injection this with _ this
                  injection this with this _
                  rw [← this, zup3_v, if_neg (by first | decide | omega)] at x1
                  omega
                · omega
              omega
          have key : ∀ b', (b' = 0 ∨ b' = 1) → ∃ F' B' Fm' Bm', f_Performance_trill_93 K n (l + 12) b' up ba en e s u i F1 B1 = some (0, F', B') ∧ f_M_trill_88 Km n' (l + 12) b' up ba en x w u i (zup3 Fm 14 0 62 (Fm 14 0 62 + 1)) Bm1 = some (0, Fm', Bm') ∧ gaF s F F' ∧ gaB s B B' ∧ gaG Fm Fm' ∧ gaM Bm Bm' ∧ GA V s F' B' Fm' Bm' ∧ Fm 14 0 62 ≤ Fm' 14 0 62 ∧ Fm' 14 0 62 ≤ Fm 14 0 62 + ((r + 1 : Nat) : Int) := fun b' hb' => by
            obtain ⟨F', B', Fm', Bm', x1, x2, x3, x4, x5, x6, x7, x8, x9⟩ := ih n n' (l := l + 12) (b := b') (F := F1) (B := B1) (Fm := zup3 Fm 14 0 62 (Fm 14 0 62 + 1)) (Bm := Bm1) (gaF_t gf a3) (gaM_t gm a5) (by first | decide | omega) (by first | decide | omega) cnt (by first | decide | omega) (by first | decide | omega) hb' (by rw [z62]; omega) (by rw [z62]; omega) a6
            rw [z62] at x8 x9
            exact ⟨F', B', Fm', Bm', x1, x2, gaF_t a3 x3, gaB_t a4 x4, gaG_t (fun c y k n => by rw [zup3_v, if_neg (by first | decide | omega)]) x5, gaM_t a5 x6, x7, (by first | decide | omega), (by first | decide | omega)⟩
          rcases hb with rfl | rfl
          · rw [if_pos (by decide), if_pos rfl, if_pos (by decide), if_pos rfl]; exact key 1 (Or.inr rfl)
          · rw [if_pos (by decide), if_neg (by decide), if_pos (by decide), if_neg (by decide)]; exact key 0 (Or.inl rfl)
        have m118 : (if en ≤ l + 12 then f_M_trill_118 (f_M_trill_88 Km n') Km l b up ba en x w u i l en Fm Bm else f_M_trill_118 (f_M_trill_88 Km n') Km l b up ba en x w u i l (l + 12) Fm Bm) = f_M_trill_118 (f_M_trill_88 Km n') Km l b up ba en x w u i l (if en ≤ l + 12 then en else l + 12) Fm Bm := by
          by_cases y : en ≤ l + 12
          · rw [if_pos y, if_pos y]
          · rw [if_neg y, if_neg y]
        rw [m118]
        unfold f_M_trill_118
        rcases hb with rfl | rfl
        · rw [if_pos (by decide), if_pos rfl, if_pos (by decide), if_pos rfl]; exact st ba hba.1 hba.2
        · rw [if_pos (by decide), if_neg (by decide), if_pos (by decide), if_neg (by decide)]; exact st up hup.1 hup.2
    · -- too many already
      obtain ⟨Fm', Bm', m1, m2, m3, m4, m5⟩ := L_trR hf e0 e1 (r + 1) n' (up := up) (ba := ba) (l := l) (b := b) (F := Fm) (B := Bm) gm hl hn' l0 l1 hb c0 c1
      refine ⟨F, B, Fm', Bm', ?_, m1, fun _ _ _ _ => rfl, fun _ _ _ _ _ => rfl, m2, m3, Or.inr ⟨g1, g2, (by first | decide | omega)⟩, m4, m5⟩
      rw [f_Performance_trill_93, if_pos (show r32 l by unfold r32; omega), if_pos (show r32 en by unfold r32; omega)]
      by_cases z : en ≤ l
      · rw [if_pos z, f_Performance_trill_157]
      · rw [if_neg z, if_pos hs, g1, if_pos (by decide), if_neg (by decide), f_Performance_trill_157]
end

section
/-! ===== how long a pitch sounds, both sides ===== -/
/-- behind the last event that holds the pitch on, as the reference goes on -/
def plT (K : Nat) (l7 l6 l1 l2 l3 l4 l5 : Int) (F : zF) (B : zB) : zO := if 0 ≤ l1 ∧ l1 < 3 then if 0 ≤ l6 ∧ l6 < 4000 then zbind (f_M_tick K (B 13 l1 14 l6) (B 13 l1 15 l6) F B) (fun r6 F6 B6 => zbind (f_M_endTick K l1 l7 F6 B6) (fun r7 F7 B7 => if 0 ≤ l7 ∧ l7 < 4000 then if r32 (zand (B7 13 l1 18 l7) 8) then (if (zand (B7 13 l1 18 l7) 8) ≤ 0 then f_M_plain_81 K (r7 - r6) r6 l7 l6 l1 l2 l3 l4 l5 0 F7 B7 else f_M_plain_81 K (r7 - r6) r6 l7 l6 l1 l2 l3 l4 l5 1 F7 B7) else none else none)) else none else none
theorem P_last {K : zK} {Km : Nat} {q u w l6 i s a : Int} {m : Nat} {g : Int → Int} {F : zF} {B : zB} {Fm : zF} {Bm : zB} (hK : 3002 ≤ K.1) (hKm : 3002 ≤ Km) (h : VS K q u w m g F B Bm) (rs : r32 s) (ra : r32 a) : ∀ (r n n' j : Nat), j + r + 1 = m → r < n → r < n' → 0 ≤ hpB (B 4 q 5 j) s a F B → ∃ J : Nat, j ≤ J ∧ J < m ∧ f_Performance_lastTied_28 K n j a s q F B = some ((J : Int), F, B) ∧ f_M_plain_13 Km n' (1000 * u + j) l6 w u i s a Fm Bm = plT Km (1000 * u + J) l6 w u i s a Fm Bm := by
  intro r
  induction r with
  | zero =>
    intro n n' j jr hn hn' hp
    obtain ⟨n, rfl⟩ : ∃ k, n = k + 1 := ⟨n - 1, (by first | decide | omega)⟩
    obtain ⟨n', rfl⟩ : ∃ k, n' = k + 1 := ⟨n' - 1, (by first | decide | omega)⟩
    have hL := L_tiesE (Fm := Fm) hKm h (i := j) (by first | decide | omega) rs ra
    obtain ⟨h4, w0, u0, hm, _, hV, _, _, hE⟩ := h
    obtain ⟨ej, _, _, _, _, _, tj⟩ := hE j (by first | decide | omega)
    have e7 := ej.2.2.2.2.2.2.2.1
    obtain ⟨y1, _, _⟩ := mkb_i e7.2.1 e7.2.2
    have nt : ¬ tieOn q j s a F B := fun t => by
      unfold TIk at tj
      have := t.1
      omega
    refine ⟨j, Nat.le_refl _, (by first | decide | omega), ?_, ?_⟩
    · rw [f_Performance_lastTied_28, if_pos h4, if_pos (by unfold r32; omega), hm.1, if_pos (by unfold r32; omega), if_pos (by first | decide | omega), f_Performance_lastTied_77]
    · rw [f_M_plain_13, hL.2 nt, zb_s, if_pos (by decide), if_pos rfl]
      rfl
  | succ r ih =>
    intro n n' j jr hn hn' hp
    obtain ⟨n, rfl⟩ : ∃ k, n = k + 1 := ⟨n - 1, (by first | decide | omega)⟩
    obtain ⟨n', rfl⟩ : ∃ k, n' = k + 1 := ⟨n' - 1, (by first | decide | omega)⟩
    have hL := L_tiesE (Fm := Fm) hKm h (i := j) (by first | decide | omega) rs ra
    have h' := h
    obtain ⟨h4, w0, u0, hm, _, hV, _, _, hE⟩ := h
    obtain ⟨ej, _, _, _, _, _, tj⟩ := hE j (by first | decide | omega)
    obtain ⟨en, _⟩ := hE (j + 1) (by first | decide | omega)
    have ec : ((j + 1 : Nat) : Int) = (j : Int) + 1 := by omega
    rw [ec] at en
    have hvj := hV j (by first | decide | omega) (by first | decide | omega)
    have hvn := hV ((j : Int) + 1) (by first | decide | omega) (by first | decide | omega)
    have b2 := hpB_b (s := s) (a := a) en
    rw [f_Performance_lastTied_28, if_pos h4, if_pos (show r32 ((j : Int) + 1) by unfold r32; omega), hm.1, if_pos (show r32 (m : Int) by unfold r32; omega), if_neg (show ¬ (m : Int) ≤ (j : Int) + 1 by omega), if_pos (show 0 ≤ (j : Int) ∧ (j : Int) < 200 by omega), if_pos hvj, C_has hvj, zb_s]
    by_cases t : tieOn q j s a F B
    · have ih' := ih n n' (j + 1) (by first | decide | omega) (by first | decide | omega) (by first | decide | omega) (by rw [ec]; exact t.2.2)
      rw [ec] at ih'
      obtain ⟨J, x1, x2, x3, x4⟩ := ih'
      refine ⟨J, (by first | decide | omega), x2, ?_, ?_⟩
      · rw [if_neg t.1, if_pos (by decide), if_neg (by decide), if_pos (by first | decide | omega), if_pos hvn, C_hpE hK hvn en rs ra, zb_s, if_neg (show ¬ hpB (B 4 q 5 ((j : Int) + 1)) s a F B < 0 by have := t.2.2; omega), if_pos (by decide), if_neg (by decide)]
        exact x3
      · rw [f_M_plain_13, hL.1 t, zb_s, if_pos (by decide), if_neg (by decide), show 1000 * u + (j : Int) + 1 = 1000 * u + ((j : Int) + 1) by omega]
        exact x4
    · refine ⟨j, Nat.le_refl _, (by first | decide | omega), ?_, ?_⟩
      · by_cases z : zand (F 1 (B 4 q 5 j) 7) 1 = 0
        · rw [if_pos z, if_pos (by decide), if_pos rfl, f_Performance_lastTied_77]
        · have x : hpB (B 4 q 5 ((j : Int) + 1)) s a F B < 0 := by
            rcases Int.lt_or_le (hpB (B 4 q 5 ((j : Int) + 1)) s a F B) 0 with x | x
            · exact x
            · exact absurd ⟨z, hp, x⟩ t
          rw [if_neg z, if_pos (by decide), if_neg (by decide), if_pos (by first | decide | omega), if_pos hvn, C_hpE hK hvn en rs ra, zb_s, if_pos x, if_pos (by decide), if_pos rfl, f_Performance_lastTied_77]
      · rw [f_M_plain_13, hL.2 t, zb_s, if_pos (by decide), if_pos rfl]
        rfl
/-- how long a sound of d ticks is held -/
def duV (m sl d : Int) : Int := if zand m 8 = 0 then (if zand m 32 = 0 ∧ sl = 0 then d - d / 8 else d) else if 1 < d / 2 then d / 2 else 1
theorem duV_b {m sl d : Int} (h : 0 < d) : 1 ≤ duV m sl d ∧ duV m sl d ≤ d := by
  unfold duV
  split
  · split <;> omega
  · split <;> omega
theorem C_dur {K : zK} {e d : Int} {F : zF} {B : zB} (he : 0 ≤ e ∧ e < K.2 1) (h0 : 0 < d) (h1 : d ≤ 1000000) (hs : F 1 e 11 = 0 ∨ F 1 e 11 = 1) : f_Performance_sounded K e d F B = some (duV (F 1 e 7) (F 1 e 11) d, F, B) := by
  have d8 : zdv d 8 = d / 8 := zdv_e (by first | decide | omega) (by unfold r32; omega) (by decide) (by decide)
  have d2 : zdv d 2 = d / 2 := zdv_e (by first | decide | omega) (by unfold r32; omega) (by decide) (by decide)
  unfold f_Performance_sounded f_Performance_sounded_33 f_Performance_sounded_43 duV
  rw [if_pos he, C_has he, zb_s]
  by_cases a : zand (F 1 e 7) 8 = 0
  · rw [if_pos a, if_pos (by decide), if_pos rfl, C_has he, zb_s, if_pos a]
    by_cases b : zand (F 1 e 7) 32 = 0
    · rw [if_pos b, if_pos (by decide), if_pos rfl, if_pos (by unfold r32; omega), d8]
      by_cases c : F 1 e 11 = 0
      · rw [if_pos c, if_pos ⟨b, c⟩]
      · rw [if_neg c, if_neg (fun z => c z.2)]
    · rw [if_neg b, if_pos (by decide), if_neg (by decide), if_neg (fun z => b z.1)]
  · rw [if_neg a, if_pos (by decide), if_neg (by decide), d2, if_pos (by unfold r32; omega), if_neg a]
    unfold zmax
    rfl
theorem L_81 {K : Nat} {d t X x w u i s a : Int} {F : zF} {B : zB} (w0 : 0 ≤ w ∧ w < 3) (hX : 0 ≤ X ∧ X < 4000) (hm : 0 ≤ B 13 w 18 X ∧ B 13 w 18 X < 128) (h27 : B 13 w 27 X = 0 ∨ B 13 w 27 X = 1) (d1 : -1000000 ≤ d ∧ d ≤ 1000000) : (if (zand (B 13 w 18 X) 8) ≤ 0 then f_M_plain_81 K d t X x w u i s a 0 F B else f_M_plain_81 K d t X x w u i s a 1 F B) = if d ≤ 0 then some (0, F, B) else zbind (f_M_tone K s a F B) (fun r27 F27 B27 => zbind (f_M_forceOf K w x F27 B27) (fun r28 F28 B28 => zbind (f_M_sound_1 K t (t + duV (B 13 w 18 X) (B 13 w 27 X) d) r27 r28 u i F28 B28) (fun _ F29 B29 => some (0, F29, B29)))) := by
  obtain ⟨m8, _, m32, _⟩ := mk8_i hm.1 hm.2
  have z2 := zdv_R d 2
  have h164 : ∀ y, f_M_plain_164 K d t x w u i s a y F B = if d ≤ 0 then some (0, F, B) else zbind (f_M_tone K s a F B) (fun r27 F27 B27 => zbind (f_M_forceOf K w x F27 B27) (fun r28 F28 B28 => zbind (f_M_sound_1 K t (t + y) r27 r28 u i F28 B28) (fun _ F29 B29 => some (0, F29, B29)))) := fun y => by
    unfold f_M_plain_164 f_M_plain_198
    rw [if_pos (by unfold r32; omega)]
  by_cases dz : d ≤ 0
  · -- nothing sounds, whatever the marks
    have k : ∀ y, f_M_plain_164 K d t x w u i s a y F B = some (0, F, B) := fun y => by rw [h164, if_pos dz]
    have k116 : ∀ l10 l11, l10 = 0 ∨ l10 = 1 → l11 = 0 ∨ l11 = 1 → f_M_plain_116 K l10 d t x w u i s a l11 F B = some (0, F, B) := fun l10 l11 h10 h11 => by
      unfold f_M_plain_116 f_M_plain_134
      rw [if_pos z2, k, k, k, k]
      rcases h10 with rfl | rfl <;> rcases h11 with rfl | rfl <;> simp [r32]
    rw [if_pos dz]
    unfold f_M_plain_81 f_M_plain_111 f_M_plain_115
    rw [k116 0 1 (Or.inl rfl) (Or.inr rfl), k116 0 0 (Or.inl rfl) (Or.inl rfl), k116 1 0 (Or.inr rfl) (Or.inl rfl), if_pos w0, if_pos hX, if_pos (zand_R _ _), if_pos (show r32 (B 13 w 27 X) by unfold r32; omega)]
    simp [r32]
  · have d8 : zdv d 8 = d / 8 := zdv_e (by first | decide | omega) (by unfold r32; omega) (by decide) (by decide)
    have d2 : zdv d 2 = d / 2 := zdv_e (by first | decide | omega) (by unfold r32; omega) (by decide) (by decide)
    have k116 : ∀ l10 l11, l10 = 0 ∨ l10 = 1 → l11 = 0 ∨ l11 = 1 → f_M_plain_116 K l10 d t x w u i s a l11 F B = f_M_plain_164 K d t x w u i s a (if l11 = 0 then (if l10 = 0 then d - d / 8 else if 1 < d / 2 then d / 2 else 1) else d) F B := fun l10 l11 h10 h11 => by
      unfold f_M_plain_116 f_M_plain_134
      rw [if_pos z2, d2, d8]
      by_cases c : d / 2 ≤ 1
      · rw [if_pos c, if_neg (show ¬ 1 < d / 2 by omega)]
        rcases h10 with rfl | rfl <;> rcases h11 with rfl | rfl <;> simp [r32]
      · rw [if_neg c, if_pos (show 1 < d / 2 by omega)]
        rcases h10 with rfl | rfl <;> rcases h11 with rfl | rfl <;> simp [r32]
    rw [if_neg dz]
    unfold f_M_plain_81 f_M_plain_111 f_M_plain_115
    rw [k116 0 1 (Or.inl rfl) (Or.inr rfl), k116 0 0 (Or.inl rfl) (Or.inl rfl), k116 1 0 (Or.inr rfl) (Or.inl rfl), if_pos w0, if_pos hX, if_pos (zand_R _ _), if_pos (show r32 (B 13 w 27 X) by unfold r32; omega), h164, h164, h164, if_neg dz, if_neg dz, if_neg dz]
    rcases m8 with a8 | a8 <;> rcases m32 with a32 | a32 <;> rcases h27 with c | c <;> simp [r32, duV, a8, a32, c]
theorem L_endT {K : zK} {Km : Nat} {q u w : Int} {m J : Nat} {g : Int → Int} {F : zF} {B : zB} {Fm : zF} {Bm : zB} (hKm : 812851200 < Km) (h : VS K q u w m g F B Bm) (hJ : J < m) : f_M_endTick Km w (1000 * u + J) Fm Bm = some (tk (sumZ g J + g J), fr Fm (sumZ g J + g J), Bm) ∧ 0 ≤ sumZ g J ∧ 1 ≤ g J ∧ sumZ g J + g J ≤ 1000000000000 := by
  obtain ⟨h4, w0, u0, hm, _, hV, hg, hs, hE⟩ := h
  obtain ⟨ej, q1, q2, q3, q4, _⟩ := hE J hJ
  have e5 := ej.2.2.2.2.1
  have s0 := sumZ_0 hg J (by first | decide | omega)
  have s1 := sumZ_m hg (m - J - 1) (J + 1) (by first | decide | omega)
  have s2 : sumZ g (J + 1) = sumZ g J + g J := rfl
  have gJ := hg J (by first | decide | omega) (by first | decide | omega)
  refine ⟨?_, s0, gJ, (by first | decide | omega)⟩
  unfold f_M_endTick
  rw [if_pos w0, if_pos (by first | decide | omega), q2, q3, e5.1, e5.2.1, q4, L_plusR hKm (FR_r s0) (FR_r (by first | decide | omega)) (by first | decide | omega), zb_s, fr_0, fr_1, L_tick (by first | decide | omega) (by first | decide | omega), zb_s]
end

section
/-! ===== a text parsed: the voices can be walked ===== -/
def byB (N : Int) (Bm : zB) : zB := fun c i k y => if c = 14 ∧ i = 0 ∧ (k = 30 ∨ k = 31) ∧ N ≤ y then y else Bm c i k y
theorem byB_n {N : Int} {Bm : zB} {c k : Nat} {i y : Int} (h : ¬ (c = 14 ∧ i = 0 ∧ (k = 30 ∨ k = 31) ∧ N ≤ y)) : byB N Bm c i k y = Bm c i k y := by
  unfold byB
  rw [if_neg h]
theorem VLS_0 {K : zK} {Km : Nat} {N L V p w : Int} {F : zF} {B : zB} {Fm : zF} {Bm : zB} (h : VI K Km N L V N p w F B Fm Bm) (hKm : 70000000000 < Km) (h11 : 0 < K.2 11) (h12 : 0 < K.2 12) (o7 : F 12 0 7 = p) (o5 : F 12 0 5 = 0) (o4 : F 12 0 4 = 0) (hr : ∀ u, 0 ≤ u → u < V → ∀ s, 0 ≤ s → s < 63 → r32 (B 4 (B 6 p 0 u) 12 s)) : VLS K Km N L V p w (F 6 p 4) (F 6 p 5) 0 B (byB N Bm) F B (zup3 Fm 14 0 35 0) Bm := by
  obtain ⟨⟨hE, hS, hP, hLT, _, _, _, hSL⟩, hGS, hV1, hV2, hV3, hVv⟩ := h
  obtain ⟨hTK, hMW, _, k3, _, hK, _⟩ := hE
  obtain ⟨hp, w0, h6, h2, _, ⟨e4, n0, n1⟩, ⟨e5, hd⟩, _⟩ := hP
  obtain ⟨_, l27, l6, hl⟩ := hLT
  have am : agM L 0 N Bm (byB N Bm) := ⟨fun k y _ _ _ h4 => byB_n (by omega), fun k h0 h1 => by funext y; exact byB_n (by omega), fun q _ _ => byB_n (by omega)⟩
  have gn : ∀ c i k, ¬ (c = 14 ∧ i = 0 ∧ k = 35) → zup3 Fm 14 0 35 0 c i k = Fm c i k := fun c i k hh => by rw [zup3_v, if_neg hh]
  have row : ∀ k : Nat, ¬ (k = 30 ∨ k = 31) → byB N Bm 14 0 k = Bm 14 0 k := fun k hk => by funext y; exact byB_n (fun z => hk z.2.2.1)
  refine ⟨⟨hK, hKm, h11, k3, hp, w0, ⟨n0, n1⟩, hd, by omega⟩, ⟨hV1, by rw [gn 13 w 1 (by omega)]; exact hV2, rfl, rfl, by rw [gn 13 w 4 (by omega)]; exact e4.symm, by rw [gn 13 w 5 (by omega)]; exact e5.symm, h2.2, by rw [gn 14 0 6 (by omega)]; exact h6, by rw [zup3_v, if_pos (by omega)], by rw [gn 14 0 27 (by omega)]; exact l27⟩, ⟨hTK, ⟨fun _ _ => rfl, fun k y hk => (byB_n (by omega)).symm, fun k y _ _ hy => (byB_n (by omega)).symm, fun y hy => ?_⟩, ?_, ⟨l6, fun q q0 q1 => ?_⟩, hGS⟩, fun u u0 u1 => ?_, fun u u0 u1 => by omega, o7, o5, o4, h12⟩
  · unfold byB
    rw [if_pos (by omega), if_pos (by omega)]
    exact ⟨Int.le_refl _, Int.le_refl _⟩
  · unfold MW at hMW ⊢
    rw [row 13 (by decide), row 14 (by decide), row 15 (by decide)]
    exact hMW
  · obtain ⟨q2, q3, q4, q5⟩ := hl q q0 q1
    obtain ⟨s1, s2⟩ := hSL q q0 q1 B (byB N Bm) agB_r am (fun r _ _ => byB_n (by omega))
    refine ⟨⟨q4, q5⟩, by rw [byB_n (by omega), ← q2]; exact q3, s1, s2⟩
  · obtain ⟨⟨r1, r2, r3, r4, r5, r6, r7, r8, r9, r10, r11⟩, sv⟩ := hVv u u0 u1
    exact ⟨r1, r6, r4.2, r7, r8, r9, sv B (byB N Bm) agB_r am, fun _ => r10, hr u u0 u1⟩
end

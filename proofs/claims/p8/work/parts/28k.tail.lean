section
/-! ===== reference: what follows a text that has been read ===== -/
theorem XC_f {B B' : zB} (h : XC B) (f : ∀ i k x, k = 42 ∨ k = 45 ∨ k = 46 → B' 13 i k x = B 13 i k x) : XC B' := fun i x => by
  rw [f i 42 x (by first | decide | omega), f i 45 x (by first | decide | omega), f i 46 x (by first | decide | omega)]
  exact h i x
theorem X77_f {B B' : zB} (h : X77 B) (f : ∀ i k x, 77 ≤ k → k ≤ 80 → B' 13 i k x = B 13 i k x) : X77 B' := fun i x => by
  rw [f i 77 x (by decide) (by decide), f i 78 x (by decide) (by decide), f i 79 x (by decide) (by decide), f i 80 x (by decide) (by decide)]
  exact h i x
theorem CDn_a {V w b l : Int} {B B' : zB} (h : CDn V w b l B) (f : ∀ k x, k ≤ 46 → B' 13 w k x = B 13 w k x) : CDn V w b l B' := CDn_f h (fun k x hk => f k x (by first | decide | omega)) (fun t _ _ => f 42 t (by decide)) (fun j _ _ => ⟨f 43 j (by decide), f 44 j (by decide)⟩)
theorem CDm_a {V w b l : Int} {B B' : zB} (h : CDm V w b l B) (f : ∀ k x, k ≤ 46 → B' 13 w k x = B 13 w k x) : CDm V w b l B' := ⟨CDn_a h.1 f, fun t j t0 t1 j0 j1 => by
  rw [f 42 _ (by decide)] at j1
  rw [f 43 j (by decide), f 44 j (by decide)]
  exact h.2 t j t0 t1 j0 j1⟩
/-- the reference's own facts about a kept piece -/
def MK (V w : Int) (F : zF) (B : zB) : Prop := MW5 V w F B ∧ CDm V w (F 13 w 7) 3200 B ∧ (0 ≤ F 13 w 76 ∧ F 13 w 76 ≤ 300)
theorem MK_e {V w : Int} {F F' : zF} {B B' : zB} (h : MK V w F B) (f : F' 13 w 7 = F 13 w 7 ∧ F' 13 w 72 = F 13 w 72 ∧ F' 13 w 76 = F 13 w 76) (b : B' 13 w = B 13 w) : MK V w F' B' := by
  obtain ⟨h1, h2, h3⟩ := h
  refine ⟨MW5_f h1 f.2.1 (fun k x _ => by rw [b]), ?_, by rw [f.2.2]; exact h3⟩
  rw [f.1]
  exact CDm_a h2 (fun k x _ => by rw [b])
theorem L_tail {K n : Nat} {V w w1 l1 : Int} {F : zF} {B : zB} (hK : 812851200 < K) (h6 : F 14 0 6 = w) (hR : RDW V w F B) (hX : XS B) (hC : XC B) (h7 : X77 B) (l0 : 0 ≤ l1 ∧ l1 < 2) (h5 : B 14 0 5 l1 = w1) (w1b : 0 ≤ w1 ∧ w1 < 3) (hw : ¬ w1 = w) : ∃ F' B', f_M_read_57 K (n + 1) V l1 F B = some (0, F', B') ∧ (∀ c i k, ¬ (c = 14 ∧ i = 0 ∧ (k ≤ 1 ∨ k = 6)) → ¬ (c = 13 ∧ i = w ∧ (k = 0 ∨ 8 ≤ k)) → ¬ (c = 13 ∧ i = w1 ∧ k = 0) → F' c i k = F c i k) ∧ (F' 14 0 6 = w1 ∧ F' 13 w 0 = 1 ∧ F' 13 w1 0 = 0 ∧ F' 13 w 48 = 0 ∧ F' 13 w 53 = 0 ∧ F' 13 w 54 = 0 ∧ F' 13 w 60 = 0 ∧ F' 13 w 65 = 0 ∧ F' 13 w 66 = 0) ∧ (∀ c i k x, ¬ (c = 13 ∧ i = w ∧ 36 ≤ k) → ¬ (c = 14 ∧ i = 0 ∧ k = 58) → ¬ (c = 14 ∧ i = 0 ∧ k = 5 ∧ x = l1) → B' c i k x = B c i k x) ∧ B' 14 0 5 l1 = w ∧ XS B' ∧ XC B' ∧ X77 B' ∧ MK V w F' B' := by
  have b0 := rd_0 hR
  obtain ⟨w0, ⟨hV, V1, V4⟩, _, _, _, _⟩ := b0
  obtain ⟨r1, F, B1, e1, rfl, q1⟩ := s_staves (K := K) hR (by first | decide | omega) hX
  have hR1 := RDW_q hR q1
  have hC1 : XC B1 := XC_f hC (fun i k x hk => q1.2 13 i k x (by first | decide | omega) (by first | decide | omega))
  have h71 : X77 B1 := X77_f h7 (fun i k x a b => q1.2 13 i k x (by first | decide | omega) (by first | decide | omega))
  obtain ⟨r2, F2, B2, e2, g2, q2, d2⟩ := s_columns (K := K) hK hR1 q1.1 hC1
  have hR2 := RDW_g (RDW_c hR1 q2) g2
  have hX2 := XS_c q1.1 q2
  have h72 : X77 B2 := X77_f h71 (fun i k x a b => q2.2 13 i k x (by first | decide | omega))
  obtain ⟨r3, F3, B3, e3, f3, z3, t3, m3⟩ := s_moments (K := K) hK hR2
  have hR3 := RDW_m hR2 f3 z3
  have hM3 : MW5 V w F3 B3 := ⟨t3, m3.1, fun u t a b c d => m3.2 u t a b c d (Or.inl b)⟩
  have h73 : X77 B3 := X77_f h72 (fun i k x a b => z3 13 i k x (by first | decide | omega))
  obtain ⟨r4, F4, B4, e4, q4⟩ := s_between (K := K) (by first | decide | omega) hR3 hM3 h73
  have hM4 := MW5_b hM3 q4
  have c6 : F2 14 0 6 = w := by rw [g2 14 0 6 (by first | decide | omega)]; exact h6
  have d6 : F3 14 0 6 = w := by rw [f3 14 0 6 (by first | decide | omega)]; exact c6
  have e6 : F4 14 0 6 = w := by rw [q4.1 14 0 6 (by first | decide | omega)]; exact d6
  have bb : ∀ c i k x, ¬ (c = 13 ∧ i = w ∧ 36 ≤ k) → ¬ (c = 14 ∧ i = 0 ∧ k = 58) → B4 c i k x = B c i k x := fun c i k x a b => by
    rw [q4.2.2.1 c i k x (by first | decide | omega), z3 c i k x (by first | decide | omega), q2.2 c i k x (by first | decide | omega), q1.2 c i k x (by first | decide | omega) (by first | decide | omega)]
  have e5 : B4 14 0 5 l1 = w1 := by rw [bb 14 0 5 l1 (by first | decide | omega) (by first | decide | omega)]; exact h5
  have ff : ∀ c i k, ¬ (c = 14 ∧ i = 0 ∧ k ≤ 1) → ¬ (c = 13 ∧ i = w ∧ (k = 72 ∨ k = 76)) → F4 c i k = F c i k := fun c i k a b => by
    rw [q4.1 c i k (by first | decide | omega), f3 c i k (by first | decide | omega), g2 c i k a]
  have hX4 : XS B4 := XS_f hX2 (fun i k x a b => by rw [q4.2.2.1 13 i k x (by first | decide | omega), z3 13 i k x (by first | decide | omega)]) (fun x => by rw [q4.2.2.1 14 0 58 x (by first | decide | omega), z3 14 0 58 x (by first | decide | omega)])
  have hC4 : XC B4 := XC_f q2.1 (fun i k x hk => by rw [q4.2.2.1 13 i k x (by first | decide | omega), z3 13 i k x (by first | decide | omega)])
  have d4 : CDm V w (F 13 w 7) 3200 B4 := CDm_a d2 (fun k x hk => by rw [q4.2.2.1 13 w k x (by first | decide | omega), z3 13 w k x (by first | decide | omega)])
  rw [f_M_read_57, h6, if_pos w0, if_pos (by unfold r32; omega), hV, if_pos (by unfold r32; omega), if_pos (Int.le_refl _), e1, zb_s, h6, if_pos w0, e2, zb_s, c6, if_pos w0, e3, zb_s, d6, if_pos w0, e4, zb_s, e6, if_pos w0, if_pos l0, e5, if_pos w1b.2, if_pos w1b]
  generalize hG : zup3 (zup3 (zup3 (zup3 (zup3 (zup3 (zup3 (zup3 (zup3 F4 13 w 48 0) 13 w 53 0) 13 w 54 0) 13 w 60 0) 13 w 65 0) 13 w 66 0) 13 w 0 1) 14 0 6 w1) 13 w1 0 0 = G
  have gn : ∀ c i k, ¬ (c = 14 ∧ i = 0 ∧ k = 6) → ¬ (c = 13 ∧ i = w1 ∧ k = 0) → ¬ (c = 13 ∧ i = w ∧ (k = 0 ∨ k = 48 ∨ k = 53 ∨ k = 54 ∨ k = 60 ∨ k = 65 ∨ k = 66)) → G c i k = F4 c i k := fun c i k a b d => by
    rw [← hG, zup3_v, if_neg (by first | decide | omega), zup3_v, if_neg (by first | decide | omega), zup3_v, if_neg (by first | decide | omega), zup3_v, if_neg (by first | decide | omega), zup3_v, if_neg (by first | decide | omega), zup3_v, if_neg (by first | decide | omega), zup3_v, if_neg (by first | decide | omega), zup3_v, if_neg (by first | decide | omega), zup3_v, if_neg (by first | decide | omega)]
  have bn : ∀ c i k x, ¬ (c = 14 ∧ i = 0 ∧ k = 5 ∧ x = l1) → (zup4 B4 14 0 5 l1 w) c i k x = B4 c i k x := fun c i k x a => by rw [zup4_v, if_neg a]
  refine ⟨G, zup4 B4 14 0 5 l1 w, rfl, fun c i k a b d => ?_, ⟨?_, ?_, ?_, ?_, ?_, ?_, ?_, ?_, ?_⟩, fun c i k x a b d => ?_, ?_, ?_, ?_, ?_, ?_⟩
  · rw [gn c i k (by first | decide | omega) (by first | decide | omega) (by first | decide | omega), ff c i k (by first | decide | omega) (by first | decide | omega)]
  · rw [← hG, zup3_v, if_neg (by first | decide | omega), zup3_v, if_pos (by first | decide | omega)]
  · rw [← hG, zup3_v, if_neg (by first | decide | omega), zup3_v, if_neg (by first | decide | omega), zup3_v, if_pos (by first | decide | omega)]
  · rw [← hG, zup3_v, if_pos (by first | decide | omega)]
  · rw [← hG, zup3_v, if_neg (by first | decide | omega), zup3_v, if_neg (by first | decide | omega), zup3_v, if_neg (by first | decide | omega), zup3_v, if_neg (by first | decide | omega), zup3_v, if_neg (by first | decide | omega), zup3_v, if_neg (by first | decide | omega), zup3_v, if_neg (by first | decide | omega), zup3_v, if_neg (by first | decide | omega), zup3_v, if_pos (by first | decide | omega)]
  · rw [← hG, zup3_v, if_neg (by first | decide | omega), zup3_v, if_neg (by first | decide | omega), zup3_v, if_neg (by first | decide | omega), zup3_v, if_neg (by first | decide | omega), zup3_v, if_neg (by first | decide | omega), zup3_v, if_neg (by first | decide | omega), zup3_v, if_neg (by first | decide | omega), zup3_v, if_pos (by first | decide | omega)]
  · rw [← hG, zup3_v, if_neg (by first | decide | omega), zup3_v, if_neg (by first | decide | omega), zup3_v, if_neg (by first | decide | omega), zup3_v, if_neg (by first | decide | omega), zup3_v, if_neg (by first | decide | omega), zup3_v, if_neg (by first | decide | omega), zup3_v, if_pos (by first | decide | omega)]
  · rw [← hG, zup3_v, if_neg (by first | decide | omega), zup3_v, if_neg (by first | decide | omega), zup3_v, if_neg (by first | decide | omega), zup3_v, if_neg (by first | decide | omega), zup3_v, if_neg (by first | decide | omega), zup3_v, if_pos (by first | decide | omega)]
  · rw [← hG, zup3_v, if_neg (by first | decide | omega), zup3_v, if_neg (by first | decide | omega), zup3_v, if_neg (by first | decide | omega), zup3_v, if_neg (by first | decide | omega), zup3_v, if_pos (by first | decide | omega)]
  · rw [← hG, zup3_v, if_neg (by first | decide | omega), zup3_v, if_neg (by first | decide | omega), zup3_v, if_neg (by first | decide | omega), zup3_v, if_pos (by first | decide | omega)]
  · rw [bn c i k x d, bb c i k x a b]
  · rw [zup4_v, if_pos (by first | decide | omega)]
  · exact XS_f hX4 (fun i k x a b => bn 13 i k x (by first | decide | omega)) (fun x => bn 14 0 58 x (by first | decide | omega))
  · exact XC_f hC4 (fun i k x hk => bn 13 i k x (by first | decide | omega))
  · exact X77_f q4.2.2.2 (fun i k x a b => bn 13 i k x (by first | decide | omega))
  · refine ⟨MW5_f hM4 (gn 13 w 72 (by first | decide | omega) (by first | decide | omega) (by first | decide | omega)) (fun k x _ => bn 13 w k x (by first | decide | omega)), ?_, ?_⟩
    · rw [gn 13 w 7 (by first | decide | omega) (by first | decide | omega) (by first | decide | omega), ff 13 w 7 (by first | decide | omega) (by first | decide | omega)]
      exact CDm_a d4 (fun k x _ => bn 13 w k x (by first | decide | omega))
    · rw [gn 13 w 76 (by first | decide | omega) (by first | decide | omega) (by first | decide | omega)]
      exact q4.2.1
end

section
/-! ===== the reference: all tracks become voices ===== -/
/-- where the sounds of each voice begin -/
def vlB (tk : Int → Int) (N : Int) : Nat → Int → Int → List Int
  | 0, _, _ => []
  | f + 1, s, v => if s < N ∧ v < 4 then s :: vlB tk N f (nxG tk s N) (v + 1) else []
def VOs (K : zK) (o f w g D N : Int) (bg en tn tk nb : Int → Int) (B : zB) : Int → List Int → Prop
  | _, [] => True
  | v, a :: as => VOk K o f w g D N bg en tn tk nb B v a ∧ VOs K o f w g D N bg en tn tk nb B (v + 1) as
section
variable {Km : Nat} {K : zK} {o f w g D N : Int} {bg en tn tk nb : Int → Int}
theorem VOk_f {B B' : zB} {v a : Int} (h : VOk K o f w g D N bg en tn tk nb B v a) (v' : Int) (e : ∀ c i k y, ¬ (c = 13 ∧ i = w ∧ (((k = 8 ∨ k = 9 ∨ k = 12) ∧ v' ≤ y) ∨ ((k = 16 ∨ k = 17 ∨ k = 18 ∨ k = 21 ∨ k = 22) ∧ 1000 * v' ≤ y) ∨ ((k = 28 ∨ k = 29) ∧ 6000 * v' ≤ y))) → ¬ (c = 14 ∧ i = 0 ∧ k = 95) → B' c i k y = B c i k y) (hv : v < v') : VOk K o f w g D N bg en tn tk nb B' v a := by
  obtain ⟨h1, h2, EL, h3, h4, h5, h6⟩ := h
  exact ⟨by rw [e 13 w 8 v (by first | decide | omega) (by first | decide | omega)]; exact h1, by rw [e 13 w 9 v (by first | decide | omega) (by first | decide | omega)]; exact h2, EL, h3, by rw [e 13 w 12 v (by first | decide | omega) (by first | decide | omega)]; exact h4, h5, EVL_f EL 0 h6 (fun k y hk a b => e 13 w k y (by first | decide | omega) (by first | decide | omega)) (fun k y hk a b => e 13 w k y (by first | decide | omega) (by first | decide | omega))⟩
theorem M_d121 {h : Int} (h7 : 0 < K.2 7) (h1 : 0 < K.2 1) (hK : 200 ≤ K.1) (hKm : 1000 ≤ Km) (ho : 0 ≤ o ∧ o < K.2 8) (hf : -7 ≤ f ∧ f ≤ 7) (hh : 1 ≤ h ∧ h ≤ 8) (dq : DTq g D N bg en tn tk) (htk : ∀ i, 0 ≤ i → i < N → tk i < h) : ∀ (d m fu : Nat) (k s v last : Int) (F : zF) (B : zB), k + d = h → 0 ≤ k → d < m → N - s ≤ fu → 0 ≤ s → s ≤ N → (∀ i, 0 ≤ i → i < s → tk i < k) → (∀ i, s ≤ i → i < N → k ≤ tk i) → 0 ≤ v → v ≤ 4 → (0 ≤ last ∧ last ≤ 40000000000000) → MFq w D N bg en tn tk F B → B 14 0 73 0 = h → F 13 w 2 = f → F 13 w 1 = v → (∀ k, 0 ≤ k → k < h → B 14 0 81 k = nb k) → ∃ F' B', f_M_down_121 Km m k last g F B = f_M_down_200 Km (lpB (fun i => gplF g D (bg i)) (fun i => gplF g D (en i)) tk N fu s v last) g F' B' ∧ (∀ c y k, ¬ (c = 14 ∧ y = 0 ∧ k ≤ 1) → ¬ (c = 13 ∧ y = w ∧ k = 1) → F' c y k = F c y k) ∧ F' 13 w 1 = v + ((vlB tk N fu s v).length : Int) ∧ (∀ c i k y, ¬ (c = 13 ∧ i = w ∧ (((k = 8 ∨ k = 9 ∨ k = 12) ∧ v ≤ y) ∨ ((k = 16 ∨ k = 17 ∨ k = 18 ∨ k = 21 ∨ k = 22) ∧ 1000 * v ≤ y) ∨ ((k = 28 ∨ k = 29) ∧ 6000 * v ≤ y))) → ¬ (c = 14 ∧ i = 0 ∧ k = 95) → B' c i k y = B c i k y) ∧ VOs K o f w g D N bg en tn tk nb B' v (vlB tk N fu s v) ∧ v + ((vlB tk N fu s v).length : Int) ≤ 4 ∧ (0 ≤ lpB (fun i => gplF g D (bg i)) (fun i => gplF g D (en i)) tk N fu s v last ∧ lpB (fun i => gplF g D (bg i)) (fun i => gplF g D (en i)) tk N fu s v last ≤ 40000000000000) := by
  have hN := dq.2.2.1
  have stop : ∀ (fu : Nat) (s v last : Int), ¬ (s < N ∧ v < 4) → lpB (fun i => gplF g D (bg i)) (fun i => gplF g D (en i)) tk N fu s v last = last ∧ vlB tk N fu s v = [] := fun fu s v last h => by
    cases fu with
    | zero => exact ⟨rfl, rfl⟩
    | succ fu => exact ⟨by rw [lpB, if_neg h], by rw [vlB, if_neg h]⟩
  intro d
  induction d with
  | zero =>
    intro m fu k s v last F B e k0 hm hfu s0 sN sl sg v0 v4 hl hM h73 m2 m1 h81
    obtain ⟨p, rfl⟩ : ∃ p, m = p + 1 := ⟨m - 1, (by first | decide | omega)⟩
    have sE : s = N := by
      rcases Int.lt_or_le s N with z | z
      · have := sg s (by first | decide | omega) z
        have := htk s s0 z
        omega
      · omega
    obtain ⟨e1, e2⟩ := stop fu s v last (by first | decide | omega)
    refine ⟨F, B, ?_, fun _ _ _ _ _ => rfl, by rw [e2]; simp [m1], fun _ _ _ _ _ _ => rfl, by rw [e2]; trivial, by rw [e2]; simp; omega, by rw [e1]; exact hl⟩
    rw [f_M_down_121, if_pos (by unfold r32; omega), h73, if_pos (by unfold r32; omega), if_pos (by first | decide | omega), e1]
  | succ d ih =>
    intro m fu k s v last F B e k0 hm hfu s0 sN sl sg v0 v4 hl hM h73 m2 m1 h81
    obtain ⟨p, rfl⟩ : ∃ p, m = p + 1 := ⟨m - 1, (by first | decide | omega)⟩
    have hw := hM.1
    rw [f_M_down_121, if_pos (by unfold r32; omega), h73, if_pos (by unfold r32; omega), if_neg (by first | decide | omega), hw.1, if_pos hw.2, m1, if_pos (by unfold r32; omega)]
    by_cases v4' : 4 ≤ v
    · obtain ⟨e1, e2⟩ := stop fu s v last (by first | decide | omega)
      rw [if_pos v4', e1]
      exact ⟨F, B, rfl, fun _ _ _ _ _ => rfl, by rw [e2]; simp [m1], fun _ _ _ _ _ _ => rfl, by rw [e2]; trivial, by rw [e2]; simp; omega, hl⟩
    · rw [if_neg v4']
      obtain ⟨r, x1, x2, x3⟩ := M_hs4 (Km := Km) (k := k) dq hM (by first | decide | omega) N.toNat Km 0 0 (by first | decide | omega) (by first | decide | omega) (by first | decide | omega) (Or.inl rfl)
      have x1' : f_M_hasSounds Km k F B = some (r, F, B) := x1
      rw [x1', zb_s, if_pos (by unfold r32; omega)]
      unfold f_M_down_194
      by_cases y : s < N ∧ tk s = k
      · have r1 : r = 1 := x3.mpr (Or.inr ⟨s, s0, y.1, y.2⟩)
        have hls : ∀ i, 0 ≤ i → i < s → tk i < tk s := fun i i0 i1 => by have := sl i i0 i1; omega
        obtain ⟨F1, B1, u1, u2, u3, u4, u5⟩ := M_te (Km := Km) (K := K) (o := o) (f := f) (w := w) (nb := nb) (v := v) h7 h1 hK hKm ho hf dq ⟨v0, (by first | decide | omega)⟩ ⟨s0, y.1⟩ hls hM m2 (by rw [y.2]; exact h81 k k0 (by first | decide | omega))
        obtain ⟨p1, p2, p3, p4⟩ := nxG_p (gB := tk) y.1 (by first | decide | omega) s0
        obtain ⟨fu', rfl⟩ : ∃ q, fu = q + 1 := ⟨fu - 1, (by first | decide | omega)⟩
        have bk := blk_o dq ⟨s0, y.1⟩ hls
        rw [r1, if_neg (by decide), hw.1, if_pos hw.2, m1, ← y.2, u1, zb_s, if_pos (by unfold r64; omega), if_pos (by unfold r64; omega)]
        generalize hls' : lsG (fun i => gplF g D (bg i)) (fun i => gplF g D (en i)) (nxG tk s N) 400 s 0 = e0 at *
        have zb : 0 ≤ zmax last e0 ∧ zmax last e0 ≤ 40000000000000 := by unfold zmax; split <;> omega
        have w1 : F1 14 0 6 = w := by rw [u2 14 0 6 (by first | decide | omega)]; exact hw.1
        have e181 : ∀ l, f_M_down_181 (f_M_down_121 Km p) Km (tk s) l g F1 B1 = f_M_down_121 Km p (tk s + 1) l g (zup3 F1 13 w 1 (v + 1)) B1 := fun l => by
          unfold f_M_down_181 f_M_down_194
          rw [w1, if_pos hw.2, u2 13 w 1 (by first | decide | omega), m1]
        have hM1 : MFq w D N bg en tn tk (zup3 F1 13 w 1 (v + 1)) B1 := MFq_f hM (by rw [zup3_v, if_neg (by first | decide | omega), u2 14 0 6 (by first | decide | omega)]) (fun k x _ _ => u3 14 0 k x (by first | decide | omega) (by first | decide | omega))
        obtain ⟨F2, B2, t1, t2, t3, t4, t5, t6, t7⟩ := ih p fu' (tk s + 1) (nxG tk s N) (v + 1) (zmax last e0) (zup3 F1 13 w 1 (v + 1)) B1 (by first | decide | omega) (by first | decide | omega) (by first | decide | omega) (by first | decide | omega) (by first | decide | omega) p2 (fun i i0 i1 => by
          have q := tkk_m dq
          rcases Int.lt_or_le i s with z | z
          · have := hls i i0 z; omega
          · have := p3 i z i1; omega) (fun i i0 i1 => by
          have q := sg i (by first | decide | omega) i1
          have q2 := (bk.2 i (by first | decide | omega) i1)
          by_cases z : tk i = tk s
          · have := q2.mp z; omega
          · omega) (by first | decide | omega) (by first | decide | omega) zb hM1 (by rw [u3 14 0 73 0 (by first | decide | omega) (by first | decide | omega)]; exact h73) (by rw [zup3_v, if_neg (by first | decide | omega), u2 13 w 2 (by first | decide | omega)]; exact m2) (by rw [zup3_v, if_pos (by first | decide | omega)]) (fun k a b => by rw [u3 14 0 81 k (by first | decide | omega) (by first | decide | omega)]; exact h81 k a b)
        have eL : vlB tk N (fu' + 1) s v = s :: vlB tk N fu' (nxG tk s N) (v + 1) := by rw [vlB, if_pos ⟨y.1, (by first | decide | omega)⟩]
        have eP : lpB (fun i => gplF g D (bg i)) (fun i => gplF g D (en i)) tk N (fu' + 1) s v last = lpB (fun i => gplF g D (bg i)) (fun i => gplF g D (en i)) tk N fu' (nxG tk s N) (v + 1) (zmax last e0) := by rw [lpB, if_pos ⟨y.1, (by first | decide | omega)⟩, hls']
        rw [eL, eP]
        refine ⟨F2, B2, ?_, fun c y k n n' => ?_, by rw [t3, List.length_cons]; omega, fun c i k y n n' => by rw [t4 c i k y (by first | decide | omega) n', u3 c i k y (by first | decide | omega) n'], ⟨VOk_f u4 (v + 1) t4 (by first | decide | omega), t5⟩, by rw [List.length_cons]; omega, t7⟩
        · have zc : (if zcmp e0 last ≤ 0 then f_M_down_181 (f_M_down_121 Km p) Km (tk s) last g F1 B1 else f_M_down_181 (f_M_down_121 Km p) Km (tk s) e0 g F1 B1) = f_M_down_121 Km p (tk s + 1) (zmax last e0) g (zup3 F1 13 w 1 (v + 1)) B1 := by
            unfold zmax
            by_cases q : e0 ≤ last
            · rw [if_pos (zcmp_m.mpr q), if_neg (by first | decide | omega), e181]
            · rw [if_neg (fun z => q (zcmp_m.mp z)), if_pos (by first | decide | omega), e181]
          rw [zc, t1]
        · rw [t2 c y k n n', zup3_v, if_neg (by first | decide | omega), u2 c y k n]
      · have r0 : r = 0 := by
          rcases x2 with z | z
          · exact z
          · rcases x3.mp z with q | ⟨j, j0, j1, j2⟩
            · exact absurd q (by decide)
            · rcases Int.lt_or_le j s with a | a
              · have := sl j j0 a; omega
              · have m := tkk_m dq (j - s).toNat s s0 (by first | decide | omega)
                rw [show s + ((j - s).toNat : Int) = j by omega] at m
                have := sg s (by first | decide | omega) (by first | decide | omega)
                exact absurd ⟨(by first | decide | omega), (by first | decide | omega)⟩ y
        rw [if_pos r0]
        exact ih p fu (k + 1) s v last F B (by first | decide | omega) (by first | decide | omega) (by first | decide | omega) hfu s0 sN (fun i a b => by have := sl i a b; omega) (fun i a b => by
          have := sg i a b
          have m := tkk_m dq (i - s).toNat s s0 (by first | decide | omega)
          rw [show s + ((i - s).toNat : Int) = i by omega] at m
          have q := sg s (by first | decide | omega) (by first | decide | omega)
          by_cases z : tk s = k
          · exact absurd ⟨(by first | decide | omega), z⟩ y
          · omega) v0 v4 hl hM h73 m2 m1 h81
end
end

section
/-! ===== faults between voices, reference: all of them ===== -/
def X77 (B : zB) : Prop := ∀ i x, r32 (B 13 i 77 x) ∧ r32 (B 13 i 78 x) ∧ r32 (B 13 i 79 x) ∧ r32 (B 13 i 80 x)
def BQ (w : Int) (F0 F : zF) (B0 B : zB) : Prop := (∀ c i k, ¬ (c = 13 ∧ i = w ∧ k = 76) → F c i k = F0 c i k) ∧ (0 ≤ F 13 w 76 ∧ F 13 w 76 ≤ 300) ∧ (∀ c i k x, ¬ (c = 13 ∧ i = w ∧ 77 ≤ k ∧ k ≤ 80) → B c i k x = B0 c i k x) ∧ X77 B
theorem RDW_b {V w : Int} {F F' : zF} {B B' : zB} (h : RDW V w F B) (q : BQ w F F' B B') : RDW V w F' B' := RDW_f h (fun k _ _ => q.1 13 w k (by first | decide | omega)) (fun k x _ h' => q.2.2.1 13 w k x (by first | decide | omega))
theorem MW5_f {V w : Int} {F F' : zF} {B B' : zB} (h : MW5 V w F B) (f : F' 13 w 72 = F 13 w 72) (b : ∀ k x, (k = 12 ∨ k = 73 ∨ k = 74 ∨ k = 75) → B' 13 w k x = B 13 w k x) : MW5 V w F' B' := by
  unfold MW5 MP at *
  rw [f]
  have b12 := fun x => b 12 x (by first | decide | omega)
  have b73 := fun x => b 73 x (by first | decide | omega)
  have b74 := fun x => b 74 x (by first | decide | omega)
  have b75 := fun x => b 75 x (by first | decide | omega)
  simp only [b12, b73, b74, b75]
  exact h
theorem MW5_b {V w : Int} {F F' : zF} {B B' : zB} (h : MW5 V w F B) (q : BQ w F F' B B') : MW5 V w F' B' := MW5_f h (q.1 13 w 72 (by first | decide | omega)) (fun k x hk => q.2.2.1 13 w k x (by first | decide | omega))
theorem s_flt1 {K : Nat} {w a b c d : Int} {F0 F : zF} {B0 B : zB} (w0 : 0 ≤ w ∧ w < 3) (q : BQ w F0 F B0 B) (ra : r32 a) (rb : r32 b) (rc : r32 c) (rd : r32 d) : zS (f_M_fault_1 K w a b c d F B) (fun _ F' B' => BQ w F0 F' B0 B') := by
  obtain ⟨q1, q2, q3, q4⟩ := q
  unfold f_M_fault_1
  refine zS_g w0 ?_
  refine zS_g (by unfold r32; omega) ?_
  refine zS_i (fun h => ?_) (fun h => ?_)
  · exact zS_s ⟨q1, q2, q3, q4⟩
  · refine zS_g (by first | decide | omega) ?_
    refine zS_s ⟨fun c i k n => by rw [zup3_v, if_neg n]; exact q1 c i k n, by rw [zup3_v, if_pos (by first | decide | omega)]; omega, fun c i k x n => by rw [zup4_v, if_neg (by first | decide | omega), zup4_v, if_neg (by first | decide | omega), zup4_v, if_neg (by first | decide | omega), zup4_v, if_neg (by first | decide | omega)]; exact q3 c i k x n, fun i x => ?_⟩
    obtain ⟨x1, x2, x3, x4⟩ := q4 i x
    have key : ∀ {C : zB} {k k' : Nat} {j v : Int}, r32 v → r32 (C 13 i k' x) → r32 ((zup4 C 13 w k j v) 13 i k' x) := fun hv hc => by
      rw [zup4_v]
      split
      · exact hv
      · exact hc
    exact ⟨key rd (key rc (key rb (key ra x1))), key rd (key rc (key rb (key ra x2))), key rd (key rc (key rb (key ra x3))), key rd (key rc (key rb (key ra x4)))⟩
theorem s_btw69 {K : Nat} {V w t k u : Int} {F0 : zF} {B0 : zB} {rec7 : Int → Int → zF → zB → zO} {rec17 : Int → Int → Int → zF → zB → zO} {rec : Int → Int → Int → Int → zF → zB → zO} {Q : Int → zF → zB → Prop} (hK : 1000 ≤ K) (hR0 : RDW V w F0 B0) (hM0 : MW5 V w F0 B0) (t0 : 1 ≤ t) (t1 : t < F0 13 w 72) (k0 : 1 ≤ k ∧ k ≤ 7) (u0 : 0 ≤ u) (u1 : u < V) (hrec : ∀ F B, BQ w F0 F B0 B → zS (rec (u + 1) k t w F B) Q) : ∀ (n : Nat) (v : Int) (F : zF) (B : zB), BQ w F0 F B0 B → 0 ≤ v → v ≤ V → V - v < n → zS (f_M_between_0_69 rec7 rec17 rec K n v u k t w F B) Q := by
  have b0 := rd_0 hR0
  have mm := hM0.1
  intro n
  induction n with
  | zero => intro v F B _ _ _ hn; exfalso; omega
  | succ n ih =>
    intro v F B q v0 v1 hn
    have hR := RDW_b hR0 q
    have hM := MW5_b hM0 q
    have e1 := q.1 13 w 1 (by first | decide | omega)
    have e72 := q.1 13 w 72 (by first | decide | omega)
    have nx : ∀ F B, BQ w F0 F B0 B → v < V → zS (f_M_between_0_121 rec7 rec17 rec (f_M_between_0_69 rec7 rec17 rec K n) K v u k t w F B) Q := fun F B q' hv => by
      unfold f_M_between_0_121
      exact ih (v + 1) F B q' (by first | decide | omega) (by first | decide | omega) (by first | decide | omega)
    have ft : ∀ F B, BQ w F0 F B0 B → v < V → zS (f_M_between_0_111 rec7 rec17 rec (f_M_between_0_69 rec7 rec17 rec K n) K v u k t w F B) Q := fun F B q' hv => by
      unfold f_M_between_0_111
      refine zS_b (s_flt1 b0.1 q' (by unfold r32; omega) (by unfold r32; omega) (by unfold r32; omega) (by unfold r32; omega)) ?_
      intro _ F1 B1 q1
      exact nx F1 B1 q1 hv
    rw [f_M_between_0_69]
    refine zS_g b0.1 ?_
    refine zS_g (by unfold r32; omega) ?_
    refine zS_g (by unfold r32; omega) ?_
    refine zS_i (fun h => ?_) (fun h => ?_)
    · unfold f_M_between_0_127
      exact hrec F B q
    · refine zS_g (by unfold r32; omega) ?_
      refine zS_i (fun h2 => ?_) (fun h2 => ?_)
      · refine zS_b (s_isCrossed (K := K) hR hM hK t0 (by first | decide | omega) u0 u1 v0 (by first | decide | omega)) ?_
        rintro r F B ⟨rfl, rfl, hr⟩
        refine zS_g (by unfold r32; omega) ?_
        refine zS_i (fun h3 => ?_) (fun h3 => ?_)
        · exact nx _ _ q (by first | decide | omega)
        · exact ft _ _ q (by first | decide | omega)
      · refine zS_b (s_isParallel (K := K) hR hM hK t0 (by first | decide | omega) u0 u1 v0 (by first | decide | omega) (by unfold r32; omega)) ?_
        rintro r F B ⟨rfl, rfl, hr⟩
        refine zS_g (by unfold r32; omega) ?_
        refine zS_i (fun h3 => ?_) (fun h3 => ?_)
        · exact nx _ _ q (by first | decide | omega)
        · exact ft _ _ q (by first | decide | omega)
theorem s_btw26 {K : Nat} {V w t k : Int} {F0 : zF} {B0 : zB} {rec7 : Int → Int → zF → zB → zO} {rec : Int → Int → Int → zF → zB → zO} {Q : Int → zF → zB → Prop} (hK : 1000 ≤ K) (hR0 : RDW V w F0 B0) (hM0 : MW5 V w F0 B0) (t0 : 1 ≤ t) (t1 : t < F0 13 w 72) (k0 : 1 ≤ k ∧ k ≤ 7) (hrec : ∀ F B, BQ w F0 F B0 B → zS (rec (k + 1) t w F B) Q) : ∀ (n : Nat) (u : Int) (F : zF) (B : zB), BQ w F0 F B0 B → 0 ≤ u → u ≤ V → V - u < n → zS (f_M_between_0_26 rec7 rec K n u k t w F B) Q := by
  have b0 := rd_0 hR0
  have mm := hM0.1
  intro n
  induction n with
  | zero => intro v F B _ _ _ hn; exfalso; omega
  | succ n ih =>
    intro u F B q u0 u1 hn
    have hR := RDW_b hR0 q
    have hM := MW5_b hM0 q
    have e1 := q.1 13 w 1 (by first | decide | omega)
    have e72 := q.1 13 w 72 (by first | decide | omega)
    rw [f_M_between_0_26]
    refine zS_g b0.1 ?_
    refine zS_g (by unfold r32; omega) ?_
    refine zS_g (by unfold r32; omega) ?_
    refine zS_i (fun h => ?_) (fun h => ?_)
    · exact hrec F B q
    · refine zS_g (by unfold r32; omega) ?_
      refine zS_i (fun h2 => ?_) (fun h2 => ?_)
      · exact s_btw69 hK hR0 hM0 t0 t1 k0 u0 (by first | decide | omega) (fun F B q' => ih (u + 1) F B q' (by first | decide | omega) (by first | decide | omega) (by first | decide | omega)) K (u + 1) F B q (by first | decide | omega) (by first | decide | omega) (by first | decide | omega)
      · refine zS_b (s_isAlone (K := K) hR hM hK t0 (by first | decide | omega) u0 (by first | decide | omega) (by unfold r32; omega)) ?_
        rintro r F B ⟨rfl, rfl, hr⟩
        refine zS_g (by unfold r32; omega) ?_
        refine zS_i (fun h3 => ?_) (fun h3 => ?_)
        · unfold f_M_between_0_127
          exact ih (u + 1) _ _ q (by first | decide | omega) (by first | decide | omega) (by first | decide | omega)
        · refine zS_b (s_flt1 b0.1 q (by unfold r32; omega) (by unfold r32; omega) (by unfold r32; omega) (by decide)) ?_
          intro _ F1 B1 q1
          unfold f_M_between_0_127
          exact ih (u + 1) _ _ q1 (by first | decide | omega) (by first | decide | omega) (by first | decide | omega)
theorem s_btw17 {K : Nat} {V w t : Int} {F0 : zF} {B0 : zB} {rec : Int → Int → zF → zB → zO} {Q : Int → zF → zB → Prop} (hK : 1000 ≤ K) (hR0 : RDW V w F0 B0) (hM0 : MW5 V w F0 B0) (t0 : 1 ≤ t) (t1 : t < F0 13 w 72) (hrec : ∀ F B, BQ w F0 F B0 B → zS (rec (t + 1) w F B) Q) : ∀ (n : Nat) (k : Int) (F : zF) (B : zB), BQ w F0 F B0 B → 1 ≤ k → k ≤ 7 → 7 - k < n → zS (f_M_between_0_17 rec K n k t w F B) Q := by
  have b0 := rd_0 hR0
  intro n
  induction n with
  | zero => intro v F B _ _ _ hn; exfalso; omega
  | succ n ih =>
    intro k F B q k0 k1 hn
    rw [f_M_between_0_17]
    refine zS_g (by unfold r32; omega) ?_
    refine zS_i (fun h => ?_) (fun h => ?_)
    · exact hrec F B q
    · exact s_btw26 hK hR0 hM0 t0 t1 ⟨k0, k1⟩ (fun F B q' => ih (k + 1) F B q' (by first | decide | omega) (by first | decide | omega) (by first | decide | omega)) K 0 F B q (by decide) (by first | decide | omega) (by first | decide | omega)
theorem s_btw7 {K : Nat} {V w : Int} {F0 : zF} {B0 : zB} (hK : 1000 ≤ K) (hR0 : RDW V w F0 B0) (hM0 : MW5 V w F0 B0) : ∀ (n : Nat) (t : Int) (F : zF) (B : zB), BQ w F0 F B0 B → 1 ≤ t → t ≤ 801 → 801 - t < n → zS (f_M_between_0_7 K n t w F B) (fun _ F' B' => BQ w F0 F' B0 B') := by
  have b0 := rd_0 hR0
  have mm := hM0.1
  intro n
  induction n with
  | zero => intro t F B q t0 t1 hn; exfalso; omega
  | succ n ih =>
    intro t F B q t0 t1 hn
    have e72 := q.1 13 w 72 (by first | decide | omega)
    rw [f_M_between_0_7]
    refine zS_g b0.1 ?_
    refine zS_g (by unfold r32; omega) ?_
    refine zS_g (by unfold r32; omega) ?_
    refine zS_i (fun h => ?_) (fun h => ?_)
    · exact zS_s q
    · exact s_btw17 hK hR0 hM0 t0 (by first | decide | omega) (fun F B q' => ih (t + 1) F B q' (by first | decide | omega) (by first | decide | omega) (by first | decide | omega)) K 1 F B q (by decide) (by decide) (by first | decide | omega)
theorem s_between {K : Nat} {V w : Int} {F : zF} {B : zB} (hK : 1000 ≤ K) (hR : RDW V w F B) (hM : MW5 V w F B) (hX : X77 B) : zS (f_M_between_0 K w F B) (fun _ F' B' => BQ w F F' B B') := by
  have b0 := rd_0 hR
  unfold f_M_between_0
  refine zS_g b0.1 ?_
  exact s_btw7 hK hR hM K 1 _ B ⟨fun c i k n => by rw [zup3_v, if_neg n], by rw [zup3_v, if_pos (by first | decide | omega)]; decide, fun _ _ _ _ _ => rfl, hX⟩ (by decide) (by decide) (by first | decide | omega)
end

section
/-! ===== the sounds of a file, both sides ===== -/
def SND (o first tr tick : Int) (F : zF) (B : zB) (Fm : zF) (Bm : zB) : Prop := (F 8 o 2 = Fm 14 0 94 ∧ 0 ≤ first ∧ first ≤ F 8 o 2 ∧ F 8 o 2 ≤ 400) ∧ (∀ i, 0 ≤ i → i < F 8 o 2 → B 8 o 220 i = Bm 14 0 82 i ∧ B 8 o 221 i = Bm 14 0 83 i ∧ B 8 o 222 i = Bm 14 0 84 i ∧ B 8 o 223 i = Bm 14 0 85 i ∧ B 8 o 224 i = Bm 14 0 86 i ∧ B 8 o 225 i = Bm 14 0 87 i) ∧ (∀ i, 0 ≤ i → i < F 8 o 2 → (0 ≤ Bm 14 0 82 i ∧ Bm 14 0 82 i ≤ 7) ∧ (0 ≤ Bm 14 0 83 i ∧ Bm 14 0 83 i < 16) ∧ (0 ≤ Bm 14 0 84 i ∧ Bm 14 0 84 i < 128) ∧ (0 ≤ Bm 14 0 85 i ∧ Bm 14 0 85 i < 128) ∧ (0 ≤ Bm 14 0 86 i ∧ Bm 14 0 86 i ≤ 402921619456) ∧ (-1 ≤ Bm 14 0 87 i ∧ Bm 14 0 87 i ≤ 402921619456)) ∧ (∀ i, 0 ≤ i → i < first → Bm 14 0 82 i < tr ∧ 0 ≤ Bm 14 0 87 i) ∧ (∀ i, first ≤ i → i < F 8 o 2 → Bm 14 0 82 i = tr ∧ Bm 14 0 86 i ≤ tick) ∧ (∀ i, 0 ≤ i → i + 1 < F 8 o 2 → Bm 14 0 82 i ≤ Bm 14 0 82 (i + 1) ∧ (Bm 14 0 82 i = Bm 14 0 82 (i + 1) → Bm 14 0 86 i ≤ Bm 14 0 86 (i + 1)))
theorem SND_f {o first tr tick tick' : Int} {F F' : zF} {B B' : zB} {Fm Fm' : zF} {Bm Bm' : zB} (h : SND o first tr tick F B Fm Bm) (ht : tick ≤ tick') (e : F' 8 o 2 = F 8 o 2) (e2 : Fm' 14 0 94 = Fm 14 0 94) (f : ∀ k x, 220 ≤ k → k ≤ 225 → B' 8 o k x = B 8 o k x) (g : ∀ k x, 82 ≤ k → k ≤ 87 → Bm' 14 0 k x = Bm 14 0 k x) : SND o first tr tick' F' B' Fm' Bm' := by
  obtain ⟨h1, h2, h3, h4, h5, h6⟩ := h
  unfold SND
  rw [e, e2]
  refine ⟨h1, fun i i0 i1 => ?_, fun i i0 i1 => ?_, fun i i0 i1 => ?_, fun i i0 i1 => ?_, fun i i0 i1 => ?_⟩
  · rw [f 220 i (by first | decide | omega) (by first | decide | omega), f 221 i (by first | decide | omega) (by first | decide | omega), f 222 i (by first | decide | omega) (by first | decide | omega), f 223 i (by first | decide | omega) (by first | decide | omega), f 224 i (by first | decide | omega) (by first | decide | omega), f 225 i (by first | decide | omega) (by first | decide | omega), g 82 i (by first | decide | omega) (by first | decide | omega), g 83 i (by first | decide | omega) (by first | decide | omega), g 84 i (by first | decide | omega) (by first | decide | omega), g 85 i (by first | decide | omega) (by first | decide | omega), g 86 i (by first | decide | omega) (by first | decide | omega), g 87 i (by first | decide | omega) (by first | decide | omega)]
    exact h2 i i0 i1
  · rw [g 82 i (by first | decide | omega) (by first | decide | omega), g 83 i (by first | decide | omega) (by first | decide | omega), g 84 i (by first | decide | omega) (by first | decide | omega), g 85 i (by first | decide | omega) (by first | decide | omega), g 86 i (by first | decide | omega) (by first | decide | omega), g 87 i (by first | decide | omega) (by first | decide | omega)]
    exact h3 i i0 i1
  · rw [g 82 i (by first | decide | omega) (by first | decide | omega), g 87 i (by first | decide | omega) (by first | decide | omega)]
    exact h4 i i0 i1
  · rw [g 82 i (by first | decide | omega) (by first | decide | omega), g 86 i (by first | decide | omega) (by first | decide | omega)]
    have := h5 i i0 i1
    omega
  · rw [g 82 i (by first | decide | omega) (by first | decide | omega), g 86 i (by first | decide | omega) (by first | decide | omega), g 82 (i + 1) (by first | decide | omega) (by first | decide | omega), g 86 (i + 1) (by first | decide | omega) (by first | decide | omega)]
    exact h6 i i0 i1
def bsB (o n t c d e f : Int) (B : zB) : zB := zup4 (zup4 (zup4 (zup4 (zup4 (zup4 B 8 o 220 n t) 8 o 221 n c) 8 o 222 n d) 8 o 223 n e) 8 o 224 n f) 8 o 225 n (-1)
def bsM (n t c d e f : Int) (B : zB) : zB := zup4 (zup4 (zup4 (zup4 (zup4 (zup4 B 14 0 82 n t) 14 0 83 n c) 14 0 84 n d) 14 0 85 n e) 14 0 86 n f) 14 0 87 n (-1)
theorem bsB_v {o n t c d e f : Int} {B : zB} {c' k : Nat} {y x : Int} (h : ¬ (c' = 8 ∧ y = o ∧ 220 ≤ k ∧ k ≤ 225 ∧ x = n)) : bsB o n t c d e f B c' y k x = B c' y k x := by
  unfold bsB
  rw [zup4_v, if_neg (by first | decide | omega), zup4_v, if_neg (by first | decide | omega), zup4_v, if_neg (by first | decide | omega), zup4_v, if_neg (by first | decide | omega), zup4_v, if_neg (by first | decide | omega), zup4_v, if_neg (by first | decide | omega)]
theorem bsM_v {n t c d e f : Int} {B : zB} {c' k : Nat} {y x : Int} (h : ¬ (c' = 14 ∧ y = 0 ∧ 82 ≤ k ∧ k ≤ 87 ∧ x = n)) : bsM n t c d e f B c' y k x = B c' y k x := by
  unfold bsM
  rw [zup4_v, if_neg (by first | decide | omega), zup4_v, if_neg (by first | decide | omega), zup4_v, if_neg (by first | decide | omega), zup4_v, if_neg (by first | decide | omega), zup4_v, if_neg (by first | decide | omega), zup4_v, if_neg (by first | decide | omega)]
theorem bsB_n {o n t c d e f : Int} {B : zB} : bsB o n t c d e f B 8 o 220 n = t ∧ bsB o n t c d e f B 8 o 221 n = c ∧ bsB o n t c d e f B 8 o 222 n = d ∧ bsB o n t c d e f B 8 o 223 n = e ∧ bsB o n t c d e f B 8 o 224 n = f ∧ bsB o n t c d e f B 8 o 225 n = -1 := by
  unfold bsB
  simp [zup4_v]
theorem bsM_n {n t c d e f : Int} {B : zB} : bsM n t c d e f B 14 0 82 n = t ∧ bsM n t c d e f B 14 0 83 n = c ∧ bsM n t c d e f B 14 0 84 n = d ∧ bsM n t c d e f B 14 0 85 n = e ∧ bsM n t c d e f B 14 0 86 n = f ∧ bsM n t c d e f B 14 0 87 n = -1 := by
  unfold bsM
  simp [zup4_v]
theorem SND_b {o first tr tick n c d e : Int} {F : zF} {B : zB} {Fm : zF} {Bm : zB} (h : SND o first tr tick F B Fm Bm) (hn : F 8 o 2 = n) (h4 : n < 400) (ht : 0 ≤ tr ∧ tr ≤ 7) (hc : 0 ≤ c ∧ c < 16) (hd : 0 ≤ d ∧ d < 128) (he : 0 ≤ e ∧ e < 128) (hk : 0 ≤ tick ∧ tick ≤ 402921619456) : SND o first tr tick (zup3 F 8 o 2 (n + 1)) (bsB o n tr c d e tick B) (zup3 Fm 14 0 94 (n + 1)) (bsM n tr c d e tick Bm) := by
  obtain ⟨⟨h11, h12, h13, h14⟩, h2, h3, h4', h5, h6⟩ := h
  have v : zup3 F 8 o 2 (n + 1) 8 o 2 = n + 1 := by rw [zup3_v, if_pos (by first | decide | omega)]
  have v' : zup3 Fm 14 0 94 (n + 1) 14 0 94 = n + 1 := by rw [zup3_v, if_pos (by first | decide | omega)]
  obtain ⟨p1, p2, p3, p4, p5, p6⟩ := bsB_n (o := o) (n := n) (t := tr) (c := c) (d := d) (e := e) (f := tick) (B := B)
  obtain ⟨q1, q2, q3, q4, q5, q6⟩ := bsM_n (n := n) (t := tr) (c := c) (d := d) (e := e) (f := tick) (B := Bm)
  unfold SND
  rw [v, v']
  refine ⟨(by first | decide | omega), fun i i0 i1 => ?_, fun i i0 i1 => ?_, fun i i0 i1 => ?_, fun i i0 i1 => ?_, fun i i0 i1 => ?_⟩
  · by_cases z : i = n
    · subst z
      rw [p1, p2, p3, p4, p5, p6, q1, q2, q3, q4, q5, q6]
      exact ⟨rfl, rfl, rfl, rfl, rfl, rfl⟩
    · simp only [bsB_v (o := o) (n := n) (c' := 8) (y := o) (x := i) (show ¬ _ from fun w => z w.2.2.2.2), bsM_v (n := n) (c' := 14) (y := 0) (x := i) (show ¬ _ from fun w => z w.2.2.2.2)]
      exact h2 i i0 (by first | decide | omega)
  · by_cases z : i = n
    · subst z
      rw [q1, q2, q3, q4, q5, q6]
      omega
    · simp only [bsM_v (n := n) (c' := 14) (y := 0) (x := i) (show ¬ _ from fun w => z w.2.2.2.2)]
      exact h3 i i0 (by first | decide | omega)
  · have e1 : ∀ k, bsM n tr c d e tick Bm 14 0 k i = Bm 14 0 k i := fun k => bsM_v (fun w => by have := w.2.2.2.2; omega)
    rw [e1, e1]
    exact h4' i i0 i1
  · by_cases z : i = n
    · subst z
      rw [q1, q5]
      omega
    · simp only [bsM_v (n := n) (c' := 14) (y := 0) (x := i) (show ¬ _ from fun w => z w.2.2.2.2)]
      exact h5 i i0 (by first | decide | omega)
  · have e1 : ∀ k, bsM n tr c d e tick Bm 14 0 k i = Bm 14 0 k i := fun k => bsM_v (fun w => by have := w.2.2.2.2; omega)
    rw [e1, e1]
    by_cases z : i + 1 = n
    · rw [z, q1, q5]
      by_cases y : i < first
      · have := h4' i i0 y
        omega
      · have := h5 i (by first | decide | omega) (by first | decide | omega)
        omega
    · have e2 : ∀ k, bsM n tr c d e tick Bm 14 0 k (i + 1) = Bm 14 0 k (i + 1) := fun k => bsM_v (fun w => z w.2.2.2.2)
      rw [e2, e2]
      exact h6 i i0 (by first | decide | omega)
/-- an end told for sound j -/
theorem SND_e {o first tr tick j : Int} {F : zF} {B : zB} {Fm : zF} {Bm : zB} (h : SND o first tr tick F B Fm Bm) (hj : first ≤ j) (hk : 0 ≤ tick ∧ tick ≤ 402921619456) : SND o first tr tick F (zup4 B 8 o 225 j tick) Fm (zup4 Bm 14 0 87 j tick) := by
  obtain ⟨h1, h2, h3, h4', h5, h6⟩ := h
  have e : ∀ k i, k ≠ 87 → zup4 Bm 14 0 87 j tick 14 0 k i = Bm 14 0 k i := fun k i w => by rw [zup4_v, if_neg (by first | decide | omega)]
  have e' : ∀ k i, k ≠ 225 → zup4 B 8 o 225 j tick 8 o k i = B 8 o k i := fun k i w => by rw [zup4_v, if_neg (by first | decide | omega)]
  refine ⟨h1, fun i i0 i1 => ?_, fun i i0 i1 => ?_, fun i i0 i1 => ?_, fun i i0 i1 => ?_, fun i i0 i1 => ?_⟩
  · rw [e' 220 i (by decide), e' 221 i (by decide), e' 222 i (by decide), e' 223 i (by decide), e' 224 i (by decide), e 82 i (by decide), e 83 i (by decide), e 84 i (by decide), e 85 i (by decide), e 86 i (by decide)]
    obtain ⟨a1, a2, a3, a4, a5, a6⟩ := h2 i i0 i1
    refine ⟨a1, a2, a3, a4, a5, ?_⟩
    rw [zup4_v, zup4_v]
    by_cases z : i = j
    · rw [if_pos (by first | decide | omega), if_pos (by first | decide | omega)]
    · rw [if_neg (by first | decide | omega), if_neg (by first | decide | omega)]; exact a6
  · rw [e 82 i (by decide), e 83 i (by decide), e 84 i (by decide), e 85 i (by decide), e 86 i (by decide)]
    obtain ⟨a1, a2, a3, a4, a5, a6⟩ := h3 i i0 i1
    refine ⟨a1, a2, a3, a4, a5, ?_⟩
    rw [zup4_v]
    by_cases z : i = j
    · rw [if_pos (by first | decide | omega)]; omega
    · rw [if_neg (by first | decide | omega)]; exact a6
  · rw [e 82 i (by decide), zup4_v, if_neg (by first | decide | omega)]
    exact h4' i i0 i1
  · rw [e 82 i (by decide), e 86 i (by decide)]
    exact h5 i i0 i1
  · rw [e 82 i (by decide), e 86 i (by decide), e 82 (i + 1) (by decide), e 86 (i + 1) (by decide)]
    exact h6 i i0 i1
theorem P_es {K : zK} {Km : Nat} {o first tr tick st t : Int} {F : zF} {B : zB} {Fm : zF} {Bm : zB} (ho : 0 ≤ o ∧ o < K.2 8) (h : SND o first tr tick F B Fm Bm) (hs : F 8 o 9 = st) (hst : 0 ≤ st ∧ st < 256) (ht : 0 ≤ t ∧ t < 128) (hk : F 8 o 10 = tick ∧ 0 ≤ tick ∧ tick ≤ 402921619456) : ∀ (d m1 m2 : Nat) (i : Int), i + d = F 8 o 2 → first ≤ i → d < m1 → d < m2 → zP (f_SoundFile_endSound_2 K m1 i o t F B) (f_M_event_2_168 Km m2 i (zrm st 16) t tick Fm Bm) (fun _ F' B' _ Fm' Bm' => F' = F ∧ Fm' = Fm ∧ ((B' = B ∧ Bm' = Bm) ∨ (∃ j, first ≤ j ∧ B' = zup4 B 8 o 225 j tick ∧ Bm' = zup4 Bm 14 0 87 j tick))) := by
  have hc : 0 ≤ zrm st 16 ∧ zrm st 16 < 16 := by rw [zrm_e (by first | decide | omega) (by unfold r32; omega) (by first | decide | omega) (by decide)]; omega
  obtain ⟨⟨h11, h12, h13, h14⟩, h2, h3, h4', h5, h6⟩ := h
  have r94 : r32 (Fm 14 0 94) := by unfold r32; omega
  have r2 : r32 (F 8 o 2) := by unfold r32; omega
  have rz : r32 (zrm st 16) ∧ r64 (zrm st 16) := by unfold r32 r64; omega
  have rt : r32 t ∧ r64 t := by unfold r32 r64; omega
  intro d
  induction d with
  | zero =>
    intro m1 m2 i e hf l1 l2
    obtain ⟨p, rfl⟩ : ∃ p, m1 = p + 1 := ⟨m1 - 1, (by first | decide | omega)⟩
    obtain ⟨q, rfl⟩ : ∃ q, m2 = q + 1 := ⟨m2 - 1, (by first | decide | omega)⟩
    rw [f_SoundFile_endSound_2, f_M_event_2_168, if_pos ho, if_pos (show r32 i by unfold r32; omega), if_pos r2, if_pos (show F 8 o 2 ≤ i by omega), if_pos (show r32 i by unfold r32; omega), if_pos r94, if_pos (show Fm 14 0 94 ≤ i by omega)]
    unfold f_M_event_2_219 f_M_event_2_237
    rw [if_pos (show r32 i by unfold r32; omega), if_pos r94, if_pos (show Fm 14 0 94 ≤ i by omega)]
    exact P_some ⟨rfl, rfl, Or.inl ⟨rfl, rfl⟩⟩
  | succ d ih =>
    intro m1 m2 i e hf l1 l2
    obtain ⟨p, rfl⟩ : ∃ p, m1 = p + 1 := ⟨m1 - 1, (by first | decide | omega)⟩
    obtain ⟨q, rfl⟩ : ∃ q, m2 = q + 1 := ⟨m2 - 1, (by first | decide | omega)⟩
    obtain ⟨a1, a2, a3, a4, a5, a6⟩ := h2 i (by first | decide | omega) (by first | decide | omega)
    obtain ⟨b1, b2, b3, b4, b5, b6⟩ := h3 i (by first | decide | omega) (by first | decide | omega)
    have step := ih p q (i + 1) (by first | decide | omega) (by first | decide | omega) (by first | decide | omega) (by first | decide | omega)
    rw [f_SoundFile_endSound_2, f_M_event_2_168, if_pos ho, if_pos (show r32 i by unfold r32; omega), if_pos r2, if_neg (show ¬ F 8 o 2 ≤ i by omega), if_pos (show 0 ≤ i ∧ i < 400 by omega), if_pos rt.1, a3, if_pos (show r64 (Bm 14 0 84 i) by unfold r64; omega), if_pos rt.2, if_pos (show r32 i by unfold r32; omega), if_pos r94, if_neg (show ¬ Fm 14 0 94 ≤ i by omega), if_pos (show 0 ≤ i ∧ i < 400 by omega), if_pos (show r32 (Bm 14 0 83 i) by unfold r32; omega), if_pos rz.1, hs, a2, if_pos rz.1, if_pos (show r64 (Bm 14 0 83 i) by unfold r64; omega), if_pos rz.2, if_pos (show r32 (Bm 14 0 84 i) by unfold r32; omega), if_pos rt.1, if_pos (show r64 (Bm 14 0 87 i) by unfold r64; omega)]
    have e48 : f_SoundFile_endSound_48 (f_SoundFile_endSound_2 K p) K i o t F B = f_SoundFile_endSound_2 K p (i + 1) o t F B := by
      unfold f_SoundFile_endSound_48 f_SoundFile_endSound_49 f_SoundFile_endSound_84
      rw [if_pos (by decide), if_pos rfl]
    have e213 : f_M_event_2_213 (f_M_event_2_168 Km q) Km i (zrm st 16) t tick Fm Bm = f_M_event_2_168 Km q (i + 1) (zrm st 16) t tick Fm Bm := rfl
    rw [e48, e213]
    by_cases z1 : Bm 14 0 84 i = t
    · rw [if_pos (zcmp_0.mpr z1), if_pos z1]
      by_cases z2 : Bm 14 0 83 i = zrm st 16
      · rw [if_pos (zcmp_0.mpr z2), if_pos z2]
        unfold f_SoundFile_endSound_49 f_SoundFile_endSound_84
        rw [if_pos (show r32 1 by decide), if_neg (show ¬ (1 : Int) = 0 by decide), if_pos ho, if_pos (show 0 ≤ i ∧ i < 400 by omega), a6, if_pos (show r64 (Bm 14 0 87 i) by unfold r64; omega)]
        by_cases z3 : Bm 14 0 87 i = -1
        · rw [if_pos (zcmp_0.mpr z3), if_pos (zcmp_lt.mpr (by first | decide | omega)), hk.1]
          unfold f_M_event_2_219 f_M_event_2_237
          rw [if_pos (show r32 i by unfold r32; omega), if_pos r94, if_neg (show ¬ Fm 14 0 94 ≤ i by omega), if_pos (show 0 ≤ i ∧ i < 400 by omega)]
          exact P_some ⟨rfl, rfl, Or.inr ⟨i, hf, rfl, rfl⟩⟩
        · rw [if_neg (fun w => z3 (zcmp_0.mp w)), if_neg (fun w => by have := zcmp_lt.mp w; omega)]
          exact step
      · rw [if_neg (fun w => z2 (zcmp_0.mp w)), if_neg z2]
        exact step
    · rw [if_neg (fun w => z1 (zcmp_0.mp w)), if_neg z1]
      by_cases z2 : Bm 14 0 83 i = zrm st 16
      · rw [if_pos z2]; exact step
      · rw [if_neg z2]; exact step
end

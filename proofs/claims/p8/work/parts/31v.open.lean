section
/-! ===== the call of open, both sides ===== -/
theorem OPN_f {o : Int} {F F' : zF} {B B' : zB} {Bm Bm' : zB} (h : OPN o F B Bm) (f : F' 8 o 2 = F 8 o 2) (b : ∀ k x, B' 8 o k x = B 8 o k x) (m : ∀ k x, k = 73 ∨ (75 ≤ k ∧ k ≤ 81) → Bm' 14 0 k x = Bm 14 0 k x) : OPN o F' B' Bm' := by
  obtain ⟨h1, h2, h3, h4, h5, h6⟩ := h
  have m73 : ∀ x, Bm' 14 0 73 x = Bm 14 0 73 x := fun x => m 73 x (by first | decide | omega)
  refine ⟨?_, ?_, fun i i0 i1 => ?_, fun i i0 i1 => ?_, fun i i0 i1 => ?_, fun k k0 k1 => ?_⟩
  · simp only [b, m73]; exact h1
  · rw [f, m73]; exact h2
  · rw [f] at i1
    rw [b, b, b, b, b, b, m 75 i (by first | decide | omega), m 76 i (by first | decide | omega), m 77 i (by first | decide | omega), m 78 i (by first | decide | omega), m 79 i (by first | decide | omega), m 80 i (by first | decide | omega)]; exact h3 i i0 i1
  · rw [f] at i1
    rw [m73, m 75 i (by first | decide | omega), m 76 i (by first | decide | omega), m 77 i (by first | decide | omega), m 78 i (by first | decide | omega), m 79 i (by first | decide | omega), m 80 i (by first | decide | omega)]; exact h4 i i0 i1
  · rw [f] at i1
    rw [m 75 i (by first | decide | omega), m 79 i (by first | decide | omega), m 75 (i + 1) (by first | decide | omega), m 79 (i + 1) (by first | decide | omega)]; exact h5 i i0 i1
  · rw [m73] at k1
    rw [b, m 81 k (by first | decide | omega)]; exact h6 k k0 k1
/-- the file that is open and the spare one -/
def IOp (K : zK) (F : zF) (B : zB) (Fm : zF) (Bm : zB) : Prop := (F 12 0 9 < K.2 8 ∧ F 12 0 8 < K.2 8) ∧ (0 ≤ F 12 0 9 → ¬ F 12 0 9 = F 12 0 8) ∧ ((F 12 0 9 < 0 ∧ F 12 0 8 < 0 ∧ K.2 8 = 0) ∨ (F 12 0 9 < 0 ∧ 0 ≤ F 12 0 8 ∧ K.2 8 = 1) ∨ (0 ≤ F 12 0 9 ∧ F 12 0 8 < 0 ∧ K.2 8 = 1) ∨ (0 ≤ F 12 0 9 ∧ 0 ≤ F 12 0 8 ∧ K.2 8 = 2)) ∧ ((F 12 0 8 < 0 ∧ Fm 14 0 72 = 0) ∨ (0 ≤ F 12 0 8 ∧ Fm 14 0 72 = 1 ∧ OPN (F 12 0 8) F B Bm))
def opF (F F' : zF) : Prop := ∀ c y k, ¬ (c = 8 ∨ (c = 0 ∧ y = 0 ∧ 1 ≤ k ∧ k ≤ 2) ∨ (c = 12 ∧ y = 0 ∧ 8 ≤ k ∧ k ≤ 9)) → F' c y k = F c y k
def opB (B B' : zB) : Prop := ∀ c y k x, ¬ c = 8 → B' c y k x = B c y k x
def opG (F F' : zF) : Prop := ∀ c y k, ¬ (c = 14 ∧ y = 0 ∧ (k = 3 ∨ k = 17 ∨ k = 18 ∨ k = 72 ∨ (89 ≤ k ∧ k ≤ 94))) → F' c y k = F c y k
def opH (B B' : zB) : Prop := ∀ c y k x, ¬ (c = 14 ∧ y = 0 ∧ 73 ≤ k ∧ k ≤ 88) → B' c y k x = B c y k x
theorem P_o18 {K : zK} {Km : Nat} {o : Int} {F : zF} {B : zB} {Fm : zF} {Bm : zB} (h0 : 2 ≤ K.2 0) (h12 : 0 < K.2 12) (hK : 4000 ≤ K.1) (hKm : 4000 ≤ Km) (f0 : F 12 0 0 = 0) (e9 : F 12 0 9 = o) (ho : 0 ≤ o ∧ o < K.2 8) (hT : IT F B Fm Bm) (hI : IOp K F B Fm Bm) : ∃ r F' B' Fm' Bm', f_S_open_18 K 0 F B = some (r, F', B', K) ∧ f_M_open Km Fm Bm = some (r, Fm', Bm') ∧ (0 ≤ r ∧ r ≤ 100000) ∧ opF F F' ∧ opB B B' ∧ opG Fm Fm' ∧ opH Bm Bm' ∧ IT F' B' Fm' Bm' ∧ IOp K F' B' Fm' Bm' := by
  obtain ⟨r, F1, B1, r', G1, D1, u1, u2, rfl, u4, ⟨v1, v2, v3, v4⟩, u5, u6⟩ := P_ld (Km := Km) h0 ho hK hKm hT
  obtain ⟨t1, t2, t3, t4, t5⟩ := hT
  obtain ⟨⟨i1, i2⟩, i3, i4, i5⟩ := hI
  rw [e9] at i1 i3 i4
  have c0 : F1 12 0 0 = 0 := by rw [v1 12 0 0 (by first | decide | omega)]; exact f0
  have c8 : F1 12 0 8 = F 12 0 8 := v1 12 0 8 (by first | decide | omega)
  have c9 : F1 12 0 9 = o := by rw [v1 12 0 9 (by first | decide | omega)]; exact e9
  have k : ∀ c y k, ¬ (c = 0 ∧ y = 0 ∧ 1 ≤ k ∧ k ≤ 2) → (zup3 (zup3 F1 0 0 1 0) 0 0 2 0) c y k = F1 c y k := fun c y k n => by rw [zup3_v, if_neg (by first | decide | omega), zup3_v, if_neg (by first | decide | omega)]
  have ec : f_ByteRow_clear K 0 F1 B1 = some (0, zup3 (zup3 F1 0 0 1 0) 0 0 2 0, B1) := by
    unfold f_ByteRow_clear
    rw [if_pos (by first | decide | omega)]
  unfold f_S_open_18
  rw [if_pos ⟨(by first | decide | omega), h12⟩, e9, if_pos ho, f0, if_pos (by first | decide | omega), u1, zbN_s]
  have hB : B1 0 0 0 = B 0 0 0 := by funext x; exact v2 0 0 0 x (by first | decide | omega)
  have hD : tmB D1 = tmB Bm := by
    funext y
    show D1 14 0 2 y % 256 = Bm 14 0 2 y % 256
    rw [v4 14 0 2 y (by first | decide | omega)]
  by_cases z : r' = 0
  · subst z
    refine ⟨0, zup3 (zup3 (zup3 (zup3 F1 0 0 1 0) 0 0 2 0) 12 0 8 o) 12 0 9 (F 12 0 8), B1, G1, D1, ?_, u2, (by first | decide | omega), fun c y k n => ?_, fun c y k x n => v2 c y k x (by first | decide | omega), v3, v4, ?_, ?_⟩
    · rw [c0, if_pos (by first | decide | omega), ec, zbN_s, if_pos (by decide), if_pos rfl, k 12 0 9 (by first | decide | omega), k 12 0 8 (by first | decide | omega), c9, c8, if_pos ho.2, if_pos i2]
    · rw [zup3_v, if_neg (by first | decide | omega), zup3_v, if_neg (by first | decide | omega), zup3_v, if_neg (by first | decide | omega), zup3_v, if_neg (by first | decide | omega)]
      exact v1 c y k (by first | decide | omega)
    · refine ⟨?_, ?_, ?_, fun y => by rw [hB]; exact t4 y, by rw [hD, hB]; exact t5⟩
      · rw [u5]; simp [zup3_v]
      · simp [zup3_v]
      · simp [zup3_v]
    · have e9' : (zup3 (zup3 (zup3 (zup3 F1 0 0 1 0) 0 0 2 0) 12 0 8 o) 12 0 9 (F 12 0 8)) 12 0 9 = F 12 0 8 := by rw [zup3_v, if_pos (by first | decide | omega)]
      have e8' : (zup3 (zup3 (zup3 (zup3 F1 0 0 1 0) 0 0 2 0) 12 0 8 o) 12 0 9 (F 12 0 8)) 12 0 8 = o := by rw [zup3_v, if_neg (by first | decide | omega), zup3_v, if_pos (by first | decide | omega)]
      unfold IOp
      rw [e9', e8']
      rcases u6 with ⟨_, m72, op⟩ | ⟨n, _⟩
      · refine ⟨⟨i2, ho.2⟩, fun _ => (by first | decide | omega), (by first | decide | omega), Or.inr ⟨ho.1, m72, OPN_f op ?_ (fun _ _ => rfl) (fun _ _ _ => rfl)⟩⟩
        rw [zup3_v, if_neg (by first | decide | omega), zup3_v, if_neg (by first | decide | omega), zup3_v, if_neg (by first | decide | omega), zup3_v, if_neg (by first | decide | omega)]
      · exact absurd rfl n
  · refine ⟨r', zup3 (zup3 F1 0 0 1 0) 0 0 2 0, B1, G1, D1, ?_, u2, u4, fun c y k n => ?_, fun c y k x n => v2 c y k x (by first | decide | omega), v3, v4, ?_, ?_⟩
    · rw [c0, if_pos (by first | decide | omega), ec, zbN_s, if_pos (by unfold r32; omega), if_neg z]
    · rw [zup3_v, if_neg (by first | decide | omega), zup3_v, if_neg (by first | decide | omega)]
      exact v1 c y k (by first | decide | omega)
    · refine ⟨?_, ?_, ?_, fun y => by rw [hB]; exact t4 y, by rw [hD, hB]; exact t5⟩
      · rw [u5]; simp [zup3_v]
      · simp [zup3_v]
      · simp [zup3_v]
    · unfold IOp
      rw [k 12 0 9 (by first | decide | omega), k 12 0 8 (by first | decide | omega), c9, c8]
      rcases u6 with ⟨n, _⟩ | ⟨_, m72, mk⟩
      · exact absurd n z
      · refine ⟨⟨i1, i2⟩, i3, i4, ?_⟩
        rw [m72]
        rcases i5 with i5 | ⟨p0, p1, op⟩
        · exact Or.inl i5
        · refine Or.inr ⟨p0, p1, OPN_f op ?_ (fun k x => v2 8 _ k x (by first | decide | omega)) mk⟩
          rw [k 8 _ 2 (by first | decide | omega)]
          exact v1 8 _ 2 (by first | decide | omega)
theorem P_op {K : zK} {Km : Nat} {F : zF} {B : zB} {Fm : zF} {Bm : zB} (h0 : 2 ≤ K.2 0) (h12 : 0 < K.2 12) (hK : 4000 ≤ K.1) (hKm : 4000 ≤ Km) (f0 : F 12 0 0 = 0) (hT : IT F B Fm Bm) (hI : IOp K F B Fm Bm) : ∃ r F' B' K' Fm' Bm', f_S_open K 0 F B = some (r, F', B', K') ∧ f_M_open Km Fm Bm = some (r, Fm', Bm') ∧ (0 ≤ r ∧ r ≤ 100000) ∧ (K' = K ∨ (K.2 8 ≤ 1 ∧ K' = (K.1, zinN K.2 8))) ∧ opF F F' ∧ opB B B' ∧ opG Fm Fm' ∧ opH Bm Bm' ∧ IT F' B' Fm' Bm' ∧ IOp K' F' B' Fm' Bm' := by
  unfold f_S_open
  rw [if_pos ⟨(by first | decide | omega), h12⟩]
  by_cases z : F 12 0 9 < 0
  · obtain ⟨⟨i1, i2⟩, i3, i4, i5⟩ := hI
    have k8 : 0 ≤ K.2 8 := by omega
    have kn : ∀ c, ¬ c = 8 → zinN K.2 8 c = K.2 c := fun c hc => by rw [zinN_v, if_neg hc]
    have k8' : zinN K.2 8 8 = K.2 8 + 1 := by rw [zinN_v, if_pos rfl]
    have ei : f_SoundFile_init K F B = some (K.2 8, zinF F 8 (K.2 8) [0, 0, 0, 0, (-1), 0, 0, 0, 0, 0, 0, 0, 0, 0, 0], zinB B 8 (K.2 8) (fun _ _ => 0), (K.1, zinN K.2 8)) := by
      unfold f_SoundFile_init
      rw [if_pos k8, if_pos (by first | decide | omega)]
    rw [if_pos z, ei]
    simp only [zbindM]
    generalize hF1 : zinF F 8 (K.2 8) [0, 0, 0, 0, (-1), 0, 0, 0, 0, 0, 0, 0, 0, 0, 0] = F1
    generalize hB1 : zinB B 8 (K.2 8) (fun _ _ => 0) = B1
    have fn : ∀ c y k, ¬ (c = 8 ∧ y = K.2 8) → F1 c y k = F c y k := fun c y k a => by rw [← hF1, zinF_v, if_neg a]
    have bn : ∀ c y k x, ¬ (c = 8 ∧ y = K.2 8) → B1 c y k x = B c y k x := fun c y k x a => by rw [← hB1, zinB_v, if_neg a]
    have k12 : zinN K.2 8 12 = K.2 12 := kn 12 (by decide)
    unfold f_S_open_15
    rw [if_pos (show 0 ≤ K.2 8 ∧ K.2 8 < zinN K.2 8 8 by omega), if_pos (show (0 : Int) ≤ 0 ∧ (0 : Int) < zinN K.2 8 12 by omega), if_pos (show (0 : Int) ≤ 0 ∧ (0 : Int) < zinN K.2 8 12 by omega), if_pos (show K.2 8 < zinN K.2 8 8 by omega)]
    have w9 : ∀ c y k, ¬ (c = 12 ∧ y = 0 ∧ k = 9) → (zup3 F1 12 0 9 (K.2 8)) c y k = F1 c y k := fun c y k n => by rw [zup3_v, if_neg n]
    have e9 : (zup3 F1 12 0 9 (K.2 8)) 12 0 9 = K.2 8 := by rw [zup3_v, if_pos (by first | decide | omega)]
    have hT1 : IT (zup3 F1 12 0 9 (K.2 8)) B1 Fm Bm := by
      have : B1 0 0 0 = B 0 0 0 := by funext x; exact bn 0 0 0 x (by first | decide | omega)
      unfold IT at *
      rw [this, w9 0 0 1 (by first | decide | omega), fn 0 0 1 (by first | decide | omega)]
      exact hT
    have hI1 : IOp (K.1, zinN K.2 8) (zup3 F1 12 0 9 (K.2 8)) B1 Fm Bm := by
      have e8 : (zup3 F1 12 0 9 (K.2 8)) 12 0 8 = F 12 0 8 := by rw [w9 12 0 8 (by first | decide | omega), fn 12 0 8 (by first | decide | omega)]
      unfold IOp
      rw [e9, e8]
      show (K.2 8 < zinN K.2 8 8 ∧ F 12 0 8 < zinN K.2 8 8) ∧ _ ∧ ((K.2 8 < 0 ∧ F 12 0 8 < 0 ∧ zinN K.2 8 8 = 0) ∨ (K.2 8 < 0 ∧ 0 ≤ F 12 0 8 ∧ zinN K.2 8 8 = 1) ∨ (0 ≤ K.2 8 ∧ F 12 0 8 < 0 ∧ zinN K.2 8 8 = 1) ∨ (0 ≤ K.2 8 ∧ 0 ≤ F 12 0 8 ∧ zinN K.2 8 8 = 2)) ∧ _
      refine ⟨(by first | decide | omega), fun _ => (by first | decide | omega), (by first | decide | omega), ?_⟩
      rcases i5 with i5 | ⟨p0, p1, op⟩
      · exact Or.inl i5
      · refine Or.inr ⟨p0, p1, OPN_f op ?_ (fun k x => bn 8 _ k x (by first | decide | omega)) (fun _ _ _ => rfl)⟩
        rw [w9 8 _ 2 (by first | decide | omega), fn 8 _ 2 (by first | decide | omega)]
    obtain ⟨r, F', B', Fm', Bm', q1, q2, q3, q4, q5, q6, q7, q8, q9⟩ := P_o18 (K := (K.1, zinN K.2 8)) (Km := Km) (o := K.2 8) (by show 2 ≤ zinN K.2 8 0; rw [kn 0 (by decide)]; exact h0) (by show 0 < zinN K.2 8 12; omega) hK hKm (by rw [w9 12 0 0 (by first | decide | omega), fn 12 0 0 (by first | decide | omega)]; exact f0) e9 (by show 0 ≤ K.2 8 ∧ K.2 8 < zinN K.2 8 8; omega) hT1 hI1
    refine ⟨r, F', B', (K.1, zinN K.2 8), Fm', Bm', q1, q2, q3, Or.inr ⟨(by first | decide | omega), rfl⟩, fun c y k n => ?_, fun c y k x n => ?_, q6, q7, q8, q9⟩
    · rw [q4 c y k n, w9 c y k (by first | decide | omega), fn c y k (by first | decide | omega)]
    · rw [q5 c y k x n, bn c y k x (by first | decide | omega)]
  · rw [if_neg z]
    obtain ⟨r, F', B', Fm', Bm', q1, q2, q3, q4, q5, q6, q7, q8, q9⟩ := P_o18 (Km := Km) (o := F 12 0 9) h0 h12 hK hKm f0 rfl ⟨(by first | decide | omega), hI.1.1⟩ hT hI
    exact ⟨r, F', B', K, Fm', Bm', q1, q2, q3, Or.inl rfl, q4, q5, q6, q7, q8, q9⟩
end

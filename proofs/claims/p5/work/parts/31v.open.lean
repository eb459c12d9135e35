section
section
/-! ===== the call of open, both sides ===== -/
theorem OPN_f {o : Int} {F F' : zF} {B B' : zB} {Bm Bm' : zB} (h : OPN o F B Bm) (f : F' 8 o 2 = F 8 o 2) (b : ∀ k x, B' 8 o k x = B 8 o k x) (m : ∀ k x, k = 73 ∨ (75 ≤ k ∧ k ≤ 81) → Bm' 14 0 k x = Bm 14 0 k x) : OPN o F' B' Bm' := by
  obtain ⟨h1, h2, h3, h4, h5, h6⟩ := h
  have m73 : ∀ x, Bm' 14 0 73 x = Bm 14 0 73 x := fun x => m 73 x (by omega)
  refine ⟨?_, ?_, fun i i0 i1 => ?_, fun i i0 i1 => ?_, fun i i0 i1 => ?_, fun k k0 k1 => ?_⟩
  · simp only [b, m73]; exact h1
  · rw [f, m73]; exact h2
  · rw [f] at i1
    rw [b, b, b, b, b, b, m 75 i (by omega), m 76 i (by omega), m 77 i (by omega), m 78 i (by omega), m 79 i (by omega), m 80 i (by omega)]; exact h3 i i0 i1
  · rw [f] at i1
    rw [m73, m 75 i (by omega), m 76 i (by omega), m 77 i (by omega), m 78 i (by omega), m 79 i (by omega), m 80 i (by omega)]; exact h4 i i0 i1
  · rw [f] at i1
    rw [m 75 i (by omega), m 79 i (by omega), m 75 (i + 1) (by omega), m 79 (i + 1) (by omega)]; exact h5 i i0 i1
  · rw [m73] at k1
    rw [b, m 81 k (by omega)]; exact h6 k k0 k1
/-- the file that is open and the spare one -/
noncomputable def IOp (K : zK) (F : zF) (B : zB) (Fm : zF) (Bm : zB) : Prop := (F 12 0 9 < K.2 8 ∧ F 12 0 8 < K.2 8) ∧ (0 ≤ F 12 0 9 → ¬ F 12 0 9 = F 12 0 8) ∧ ((F 12 0 9 < 0 ∧ F 12 0 8 < 0 ∧ K.2 8 = 0) ∨ (F 12 0 9 < 0 ∧ 0 ≤ F 12 0 8 ∧ K.2 8 = 1) ∨ (0 ≤ F 12 0 9 ∧ F 12 0 8 < 0 ∧ K.2 8 = 1) ∨ (0 ≤ F 12 0 9 ∧ 0 ≤ F 12 0 8 ∧ K.2 8 = 2)) ∧ ((F 12 0 8 < 0 ∧ Fm 14 0 72 = 0) ∨ (0 ≤ F 12 0 8 ∧ Fm 14 0 72 = 1 ∧ OPN (F 12 0 8) F B Bm))
noncomputable def opF (F F' : zF) : Prop := ∀ c y k, ¬ (c = 8 ∨ (c = 0 ∧ y = 0 ∧ 1 ≤ k ∧ k ≤ 2) ∨ (c = 12 ∧ y = 0 ∧ 8 ≤ k ∧ k ≤ 9)) → F' c y k = F c y k
noncomputable def opB (B B' : zB) : Prop := ∀ c y k x, ¬ c = 8 → B' c y k x = B c y k x
noncomputable def opG (F F' : zF) : Prop := ∀ c y k, ¬ (c = 14 ∧ y = 0 ∧ (k = 3 ∨ k = 17 ∨ k = 18 ∨ k = 72 ∨ (89 ≤ k ∧ k ≤ 94))) → F' c y k = F c y k
noncomputable def opH (B B' : zB) : Prop := ∀ c y k x, ¬ (c = 14 ∧ y = 0 ∧ 73 ≤ k ∧ k ≤ 88) → B' c y k x = B c y k x
theorem P_o18 {K : zK} {Km : Nat} {o : Int} {F : zF} {B : zB} {Fm : zF} {Bm : zB} (h0 : 2 ≤ K.2 0) (h12 : 0 < K.2 12) (hK : 4000 ≤ K.1) (hKm : 4000 ≤ Km) (f0 : F 12 0 0 = 0) (e9 : F 12 0 9 = o) (ho : 0 ≤ o ∧ o < K.2 8) (hT : IT F B Fm Bm) (hI : IOp K F B Fm Bm) : ∃ r F' B' Fm' Bm', f_S_open_18 K 0 F B = some (r, F', B', K) ∧ f_M_open Km Fm Bm = some (r, Fm', Bm') ∧ (0 ≤ r ∧ r ≤ 100000) ∧ opF F F' ∧ opB B B' ∧ opG Fm Fm' ∧ opH Bm Bm' ∧ IT F' B' Fm' Bm' ∧ IOp K F' B' Fm' Bm' := by
  obtain ⟨r, F1, B1, r', G1, D1, u1, u2, rfl, u4, ⟨v1, v2, v3, v4⟩, u5, u6⟩ := P_ld (Km := Km) h0 ho hK hKm hT
  obtain ⟨t1, t2, t3, t4, t5⟩ := hT
  obtain ⟨⟨i1, i2⟩, i3, i4, i5⟩ := hI
  rw [e9] at i1 i3 i4
  have c0 : F1 12 0 0 = 0 := by rw [v1 12 0 0 (by omega)]; exact f0
  have c8 : F1 12 0 8 = F 12 0 8 := v1 12 0 8 (by omega)
  have c9 : F1 12 0 9 = o := by rw [v1 12 0 9 (by omega)]; exact e9
  have k : ∀ c y k, ¬ (c = 0 ∧ y = 0 ∧ 1 ≤ k ∧ k ≤ 2) → (zup3 (zup3 F1 0 0 1 0) 0 0 2 0) c y k = F1 c y k := fun c y k n => by rw [zup3_v, if_neg (by omega), zup3_v, if_neg (by omega)]
  have ec : f_ByteRow_clear K 0 F1 B1 = some (0, zup3 (zup3 F1 0 0 1 0) 0 0 2 0, B1) := by
    unfold f_ByteRow_clear
    rw [if_pos (by omega)]
  unfold f_S_open_18
  rw [if_pos ⟨by omega, h12⟩, e9, if_pos ho, f0, if_pos (by omega), u1, zbN_s]
  have hB : B1 0 0 0 = B 0 0 0 := by funext x; exact v2 0 0 0 x (by omega)
  have hD : tmB D1 = tmB Bm := by
    funext y
    show D1 14 0 2 y % 256 = Bm 14 0 2 y % 256
    rw [v4 14 0 2 y (by omega)]
  by_cases z : r' = 0
  · subst z
    refine ⟨0, zup3 (zup3 (zup3 (zup3 F1 0 0 1 0) 0 0 2 0) 12 0 8 o) 12 0 9 (F 12 0 8), B1, G1, D1, ?_, u2, by omega, fun c y k n => ?_, fun c y k x n => v2 c y k x (by omega), v3, v4, ?_, ?_⟩
    · rw [c0, if_pos (by omega), ec, zbN_s, if_pos (by decide), if_pos rfl, k 12 0 9 (by omega), k 12 0 8 (by omega), c9, c8, if_pos ho.2, if_pos i2]
    · rw [zup3_v, if_neg (by omega), zup3_v, if_neg (by omega), zup3_v, if_neg (by omega), zup3_v, if_neg (by omega)]
      exact v1 c y k (by omega)
    · refine ⟨?_, ?_, ?_, fun y => by rw [hB]; exact t4 y, by rw [hD, hB]; exact t5⟩
      · rw [u5]; simp [zup3_v]
      · simp [zup3_v]
      · simp [zup3_v]
    · have e9' : (zup3 (zup3 (zup3 (zup3 F1 0 0 1 0) 0 0 2 0) 12 0 8 o) 12 0 9 (F 12 0 8)) 12 0 9 = F 12 0 8 := by rw [zup3_v, if_pos (by omega)]
      have e8' : (zup3 (zup3 (zup3 (zup3 F1 0 0 1 0) 0 0 2 0) 12 0 8 o) 12 0 9 (F 12 0 8)) 12 0 8 = o := by rw [zup3_v, if_neg (by omega), zup3_v, if_pos (by omega)]
      unfold IOp
      rw [e9', e8']
      rcases u6 with ⟨_, m72, op⟩ | ⟨n, _⟩
      · refine ⟨⟨i2, ho.2⟩, fun _ => by omega, by omega, Or.inr ⟨ho.1, m72, OPN_f op ?_ (fun _ _ => rfl) (fun _ _ _ => rfl)⟩⟩
        rw [zup3_v, if_neg (by omega), zup3_v, if_neg (by omega), zup3_v, if_neg (by omega), zup3_v, if_neg (by omega)]
      · exact absurd rfl n
  · refine ⟨r', zup3 (zup3 F1 0 0 1 0) 0 0 2 0, B1, G1, D1, ?_, u2, u4, fun c y k n => ?_, fun c y k x n => v2 c y k x (by omega), v3, v4, ?_, ?_⟩
    · rw [c0, if_pos (by omega), ec, zbN_s, if_pos (by unfold r32; omega), if_neg z]
    · rw [zup3_v, if_neg (by omega), zup3_v, if_neg (by omega)]
      exact v1 c y k (by omega)
    · refine ⟨?_, ?_, ?_, fun y => by rw [hB]; exact t4 y, by rw [hD, hB]; exact t5⟩
      · rw [u5]; simp [zup3_v]
      · simp [zup3_v]
      · simp [zup3_v]
    · unfold IOp
      rw [k 12 0 9 (by omega), k 12 0 8 (by omega), c9, c8]
      rcases u6 with ⟨n, _⟩ | ⟨_, m72, mk⟩
      · exact absurd n z
      · refine ⟨⟨i1, i2⟩, i3, i4, ?_⟩
        rw [m72]
        rcases i5 with i5 | ⟨p0, p1, op⟩
        · exact Or.inl i5
        · refine Or.inr ⟨p0, p1, OPN_f op ?_ (fun k x => v2 8 _ k x (by omega)) mk⟩
          rw [k 8 _ 2 (by omega)]
          exact v1 8 _ 2 (by omega)
theorem P_op {K : zK} {Km : Nat} {F : zF} {B : zB} {Fm : zF} {Bm : zB} (h0 : 2 ≤ K.2 0) (h12 : 0 < K.2 12) (hK : 4000 ≤ K.1) (hKm : 4000 ≤ Km) (f0 : F 12 0 0 = 0) (hT : IT F B Fm Bm) (hI : IOp K F B Fm Bm) : ∃ r F' B' K' Fm' Bm', f_S_open K 0 F B = some (r, F', B', K') ∧ f_M_open Km Fm Bm = some (r, Fm', Bm') ∧ (0 ≤ r ∧ r ≤ 100000) ∧ (K' = K ∨ (K.2 8 ≤ 1 ∧ K' = (K.1, zinN K.2 8))) ∧ opF F F' ∧ opB B B' ∧ opG Fm Fm' ∧ opH Bm Bm' ∧ IT F' B' Fm' Bm' ∧ IOp K' F' B' Fm' Bm' := by
  unfold f_S_open
  rw [if_pos ⟨by omega, h12⟩]
  by_cases z : F 12 0 9 < 0
  · obtain ⟨⟨i1, i2⟩, i3, i4, i5⟩ := hI
    have k8 : 0 ≤ K.2 8 := by omega
    have kn : ∀ c, ¬ c = 8 → zinN K.2 8 c = K.2 c := fun c hc => by rw [zinN_v, if_neg hc]
    have k8' : zinN K.2 8 8 = K.2 8 + 1 := by rw [zinN_v, if_pos rfl]
    have ei : f_SoundFile_init K F B = some (K.2 8, zinF F 8 (K.2 8) [0, 0, 0, 0, (-1), 0, 0, 0, 0, 0, 0, 0, 0, 0, 0], zinB B 8 (K.2 8) (fun _ _ => 0), (K.1, zinN K.2 8)) := by
      unfold f_SoundFile_init
      rw [if_pos k8, if_pos (by omega)]
    rw [if_pos z, ei]
    simp only [zbindM]
    generalize hF1 : zinF F 8 (K.2 8) [0, 0, 0, 0, (-1), 0, 0, 0, 0, 0, 0, 0, 0, 0, 0] = F1
    generalize hB1 : zinB B 8 (K.2 8) (fun _ _ => 0) = B1
    have fn : ∀ c y k, ¬ (c = 8 ∧ y = K.2 8) → F1 c y k = F c y k := fun c y k a => by rw [← hF1, zinF_v, if_neg a]
    have bn : ∀ c y k x, ¬ (c = 8 ∧ y = K.2 8) → B1 c y k x = B c y k x := fun c y k x a => by rw [← hB1, zinB_v, if_neg a]
    have k12 : zinN K.2 8 12 = K.2 12 := kn 12 (by decide)
    unfold f_S_open_15
    rw [if_pos (show 0 ≤ K.2 8 ∧ K.2 8 < zinN K.2 8 8 by omega), if_pos (show (0 : Int) ≤ 0 ∧ (0 : Int) < zinN K.2 8 12 by omega), if_pos (show (0 : Int) ≤ 0 ∧ (0 : Int) < zinN K.2 8 12 by omega), if_pos (show K.2 8 < zinN K.2 8 8 by omega)]
    have w9 : ∀ c y k, ¬ (c = 12 ∧ y = 0 ∧ k = 9) → (zup3 F1 12 0 9 (K.2 8)) c y k = F1 c y k := fun c y k n => by rw [zup3_v, if_neg n]
    have e9 : (zup3 F1 12 0 9 (K.2 8)) 12 0 9 = K.2 8 := by rw [zup3_v, if_pos (by omega)]
    have hT1 : IT (zup3 F1 12 0 9 (K.2 8)) B1 Fm Bm := by
      have : B1 0 0 0 = B 0 0 0 := by funext x; exact bn 0 0 0 x (by omega)
      unfold IT at *
      rw [this, w9 0 0 1 (by omega), fn 0 0 1 (by omega)]
      exact hT
    have hI1 : IOp (K.1, zinN K.2 8) (zup3 F1 12 0 9 (K.2 8)) B1 Fm Bm := by
      have e8 : (zup3 F1 12 0 9 (K.2 8)) 12 0 8 = F 12 0 8 := by rw [w9 12 0 8 (by omega), fn 12 0 8 (by omega)]
      unfold IOp
      rw [e9, e8]
      show (K.2 8 < zinN K.2 8 8 ∧ F 12 0 8 < zinN K.2 8 8) ∧ _ ∧ ((K.2 8 < 0 ∧ F 12 0 8 < 0 ∧ zinN K.2 8 8 = 0) ∨ (K.2 8 < 0 ∧ 0 ≤ F 12 0 8 ∧ zinN K.2 8 8 = 1) ∨ (0 ≤ K.2 8 ∧ F 12 0 8 < 0 ∧ zinN K.2 8 8 = 1) ∨ (0 ≤ K.2 8 ∧ 0 ≤ F 12 0 8 ∧ zinN K.2 8 8 = 2)) ∧ _
      refine ⟨by omega, fun _ => by omega, by omega, ?_⟩
      rcases i5 with i5 | ⟨p0, p1, op⟩
      · exact Or.inl i5
      · refine Or.inr ⟨p0, p1, OPN_f op ?_ (fun k x => bn 8 _ k x (by omega)) (fun _ _ _ => rfl)⟩
        rw [w9 8 _ 2 (by omega), fn 8 _ 2 (by omega)]
    obtain ⟨r, F', B', Fm', Bm', q1, q2, q3, q4, q5, q6, q7, q8, q9⟩ := P_o18 (K := (K.1, zinN K.2 8)) (Km := Km) (o := K.2 8) (by show 2 ≤ zinN K.2 8 0; rw [kn 0 (by decide)]; exact h0) (by show 0 < zinN K.2 8 12; omega) hK hKm (by rw [w9 12 0 0 (by omega), fn 12 0 0 (by omega)]; exact f0) e9 (by show 0 ≤ K.2 8 ∧ K.2 8 < zinN K.2 8 8; omega) hT1 hI1
    refine ⟨r, F', B', (K.1, zinN K.2 8), Fm', Bm', q1, q2, q3, Or.inr ⟨by omega, rfl⟩, fun c y k n => ?_, fun c y k x n => ?_, q6, q7, q8, q9⟩
    · rw [q4 c y k n, w9 c y k (by omega), fn c y k (by omega)]
    · rw [q5 c y k x n, bn c y k x (by omega)]
  · rw [if_neg z]
    obtain ⟨r, F', B', Fm', Bm', q1, q2, q3, q4, q5, q6, q7, q8, q9⟩ := P_o18 (Km := Km) (o := F 12 0 9) h0 h12 hK hKm f0 rfl ⟨by omega, hI.1.1⟩ hT hI
    exact ⟨r, F', B', K, Fm', Bm', q1, q2, q3, Or.inl rfl, q4, q5, q6, q7, q8, q9⟩
end
end
section
section
/-! ===== texts written, each side by itself ===== -/
noncomputable def tbA (T : List Int) (j : Nat) : Int := (T[j]?).getD 0
theorem tbA_l {T U : List Int} {j : Nat} (h : j < T.length) : tbA (T ++ U) j = tbA T j := by
  unfold tbA
  rw [List.getElem?_append_left h]
theorem tbA_r {T : List Int} {a : Int} : tbA (T ++ [a]) T.length = a := by
  unfold tbA
  rw [List.getElem?_append_right (Nat.le_refl _), Nat.sub_self]
  rfl
/-- the class's page holds the text T; all else as in q -/
noncomputable def TC (q : zF × zB) (T : List Int) (F : zF) (B : zB) : Prop := ((T.length ≤ 20480 ∧ F 0 1 1 = T.length ∧ F 0 1 2 = 0 ∧ ∀ j : Nat, j < T.length → B 0 1 0 j = tbA T j % 256) ∨ (20480 < T.length ∧ F 0 1 1 = 20480 ∧ F 0 1 2 = 1)) ∧ (∀ c y k, ¬ (c = 0 ∧ y = 1 ∧ 1 ≤ k ∧ k ≤ 2) → F c y k = q.1 c y k) ∧ (∀ c y k x, ¬ (c = 0 ∧ y = 1 ∧ k = 0) → B c y k x = q.2 c y k x)
/-- what the reference wrote is the text T; all else as in q -/
noncomputable def TM (q : zF × zB) (T : List Int) (F : zF) (B : zB) : Prop := (F 14 0 71 = T.length ∧ ∀ j : Nat, j < T.length → B 14 0 70 j % 256 = tbA T j % 256) ∧ (∀ c y k, ¬ (c = 14 ∧ y = 0 ∧ k = 71) → F c y k = q.1 c y k) ∧ (∀ c y k x, ¬ (c = 14 ∧ y = 0 ∧ k = 70) → B c y k x = q.2 c y k x)
theorem TC_s {q : zF × zB} {T : List Int} {F : zF} {B : zB} (h : TC q T F B) : TC (F, B) T F B := ⟨h.1, fun _ _ _ _ => rfl, fun _ _ _ _ _ => rfl⟩
theorem TM_s {q : zF × zB} {T : List Int} {F : zF} {B : zB} (h : TM q T F B) : TM (F, B) T F B := ⟨h.1, fun _ _ _ _ => rfl, fun _ _ _ _ _ => rfl⟩
theorem C_pt {K : zK} {q : zF × zB} {T : List Int} {a : Int} {F : zF} {B : zB} (h0 : 2 ≤ K.2 0) (h : TC q T F B) : ∃ F' B', f_ByteRow_put K 1 a F B = some (0, F', B') ∧ TC q (T ++ [a]) F' B' := by
  obtain ⟨hp, gF, gB⟩ := h
  have ln : ((lnC 0 1 0 : Nat) : Int) = 20480 := by decide
  have ll : (T ++ [a]).length = T.length + 1 := by rw [List.length_append]; rfl
  unfold f_ByteRow_put
  rw [ln]
  rcases hp with ⟨t1, t2, t3, t4⟩ | ⟨t1, t2, t3⟩
  · by_cases z : T.length < 20480
    · rw [t2, if_pos (by omega), if_pos (by unfold r32; omega), if_pos (by decide), if_pos (by omega), if_pos (by omega), zand255]
      refine ⟨_, _, rfl, Or.inl ⟨by omega, ?_, ?_, fun j hj => ?_⟩, fun c y k n => ?_, fun c y k x n => ?_⟩
      · rw [zup3_v, if_pos (by omega), ll]; omega
      · rw [zup3_v, if_neg (by omega)]; exact t3
      · rw [zup4_v]
        by_cases y : j = T.length
        · rw [if_pos (by omega), y, tbA_r]
        · rw [if_neg (by omega), tbA_l (by omega)]; exact t4 j (by omega)
      · rw [zup3_v, if_neg (by omega)]; exact gF c y k n
      · rw [zup4_v, if_neg (by omega)]; exact gB c y k x n
    · rw [t2, if_pos (by omega), if_pos (by unfold r32; omega), if_pos (by decide), if_neg (by omega)]
      refine ⟨_, _, rfl, Or.inr ⟨by omega, ?_, ?_⟩, fun c y k n => ?_, gB⟩
      · rw [zup3_v, if_neg (by omega), t2]; omega
      · rw [zup3_v, if_pos (by omega)]
      · rw [zup3_v, if_neg (by omega)]; exact gF c y k n
  · rw [t2, if_pos (by omega), if_pos (by decide), if_pos (by decide), if_neg (by decide)]
    refine ⟨_, _, rfl, Or.inr ⟨by omega, ?_, ?_⟩, fun c y k n => ?_, gB⟩
    · rw [zup3_v, if_neg (by omega), t2]
    · rw [zup3_v, if_pos (by omega)]
    · rw [zup3_v, if_neg (by omega)]; exact gF c y k n
theorem M_pt {Km : Nat} {q : zF × zB} {T : List Int} {a : Int} {F : zF} {B : zB} (hn : T.length < 30000) (h : TM q T F B) : ∃ F' B', f_M_put_0 Km a F B = some (0, F', B') ∧ TM q (T ++ [a]) F' B' := by
  obtain ⟨⟨t2, t4⟩, gF, gB⟩ := h
  have ll : (T ++ [a]).length = T.length + 1 := by rw [List.length_append]; rfl
  unfold f_M_put_0 f_M_put_0_20
  rw [t2, if_pos (by unfold r32; omega), if_neg (by omega), if_pos (by omega)]
  refine ⟨_, _, rfl, ⟨?_, fun j hj => ?_⟩, fun c y k n => ?_, fun c y k x n => ?_⟩
  · rw [zup3_v, if_pos (by omega), ll]; omega
  · rw [zup4_v]
    by_cases y : j = T.length
    · rw [if_pos (by omega), y, tbA_r, zi2b_m]
    · rw [if_neg (by omega), tbA_l (by omega)]; exact t4 j (by omega)
  · rw [zup3_v, if_neg (by omega)]; exact gF c y k n
  · rw [zup4_v, if_neg (by omega)]; exact gB c y k x n
/-- a string's letters from k on, d of them -/
noncomputable def strT (s : Nat) : Nat → Int → List Int
  | 0, _ => []
  | d + 1, k => zsc s k :: strT s d (k + 1)
theorem C_txs {K : zK} {q : zF × zB} {s : Nat} (h0 : 2 ≤ K.2 0) (hs : s < strL.length) (hz : zshr (zsl s) 0 = zsl s) (hl : zsl s ≤ 100) : ∀ (d m : Nat) (k : Int) (T : List Int) (F : zF) (B : zB), k + d = zsl s → 0 ≤ k → d < m → TC q T F B → ∃ F' B', f_ByteRow_putText_2 K m k 1 s F B = some (0, F', B') ∧ TC q (T ++ strT s d k) F' B' := by
  intro d
  induction d with
  | zero =>
    intro m k T F B e k0 hm h
    obtain ⟨p, rfl⟩ : ∃ p, m = p + 1 := ⟨m - 1, by omega⟩
    have : k = zsl s := by omega
    subst this
    exact ⟨F, B, C_txtE p hs hz (by omega), by rw [strT, List.append_nil]; exact h⟩
  | succ d ih =>
    intro m k T F B e k0 hm h
    obtain ⟨p, rfl⟩ : ∃ p, m = p + 1 := ⟨m - 1, by omega⟩
    obtain ⟨F1, B1, e1, w1⟩ := C_pt (a := zsc s k) h0 h
    obtain ⟨F2, B2, e2, w2⟩ := ih p (k + 1) _ F1 B1 (by omega) (by omega) (by omega) w1
    refine ⟨F2, B2, ?_, ?_⟩
    · rw [C_txt h0 p hs hz k0 (by omega) (by omega), e1, zb_s, e2]
    · rw [List.append_assoc] at w2; exact w2
theorem M_txs {Km : Nat} {q : zF × zB} {s : Nat} (hs : s < strL.length) (hz : zshr (zsl s) 0 = zsl s) (hl : zsl s ≤ 100) : ∀ (d m : Nat) (k : Int) (T : List Int) (F : zF) (B : zB), k + d = zsl s → 0 ≤ k → d < m → T.length + d < 30000 → TM q T F B → ∃ F' B', f_M_put_1_2 Km m k s F B = some (0, F', B') ∧ TM q (T ++ strT s d k) F' B' := by
  intro d
  induction d with
  | zero =>
    intro m k T F B e k0 hm hn h
    obtain ⟨p, rfl⟩ : ∃ p, m = p + 1 := ⟨m - 1, by omega⟩
    have : k = zsl s := by omega
    subst this
    exact ⟨F, B, L_txtE p hs hz (by omega), by rw [strT, List.append_nil]; exact h⟩
  | succ d ih =>
    intro m k T F B e k0 hm hn h
    obtain ⟨p, rfl⟩ : ∃ p, m = p + 1 := ⟨m - 1, by omega⟩
    obtain ⟨F1, B1, e1, w1⟩ := M_pt (Km := Km) (a := zsc s k) (by omega) h
    obtain ⟨F2, B2, e2, w2⟩ := ih p (k + 1) _ F1 B1 (by omega) (by omega) (by omega) (by rw [List.length_append]; simp; omega) w1
    refine ⟨F2, B2, ?_, ?_⟩
    · rw [L_txt p hs hz k0 (by omega) (by omega), e1, zb_s, e2]
    · rw [List.append_assoc] at w2; exact w2
/-- a whole string, its letters given -/
theorem C_strg {K : zK} {q : zF × zB} {s : Nat} {T U : List Int} {F : zF} {B : zB} (h0 : 2 ≤ K.2 0) (hK : 200 ≤ K.1) (hs : s < strL.length) (hl : 0 ≤ zsl s ∧ zsl s ≤ 100) (hz : zshr (zsl s) 0 = zsl s) (e : strT s (zsl s).toNat 0 = U) (h : TC q T F B) : ∃ F' B', f_ByteRow_putText K 1 s F B = some (0, F', B') ∧ TC q (T ++ U) F' B' := by
  obtain ⟨F', B', e1, w⟩ := C_txs h0 hs hz hl.2 (zsl s).toNat K.1 0 T F B (by omega) (by omega) (by omega) h
  rw [e] at w
  exact ⟨F', B', e1, w⟩
theorem M_strg {Km : Nat} {q : zF × zB} {s : Nat} {T U : List Int} {F : zF} {B : zB} (hK : 200 ≤ Km) (hs : s < strL.length) (hl : 0 ≤ zsl s ∧ zsl s ≤ 100) (hz : zshr (zsl s) 0 = zsl s) (e : strT s (zsl s).toNat 0 = U) (hn : T.length < 20000) (h : TM q T F B) : ∃ F' B', f_M_put_1 Km s F B = some (0, F', B') ∧ TM q (T ++ U) F' B' := by
  obtain ⟨F', B', e1, w⟩ := M_txs (Km := Km) hs hz hl.2 (zsl s).toNat Km 0 T F B (by omega) (by omega) (by omega) (by omega) h
  rw [e] at w
  exact ⟨F', B', e1, w⟩
/-- decimal digits -/
noncomputable def decT (v : Int) : List Int := if v < 10 then [48 + v % 10] else if v < 100 then [48 + v / 10 % 10, 48 + v % 10] else [48 + v / 100 % 10, 48 + v / 10 % 10, 48 + v % 10]
theorem zdv1 {v : Int} (h : 0 ≤ v ∧ v < 1000) {p : Int} (hp : 0 < p ∧ p ≤ 1000) : zdv v p = v / p := zdv_e h.1 (by unfold r32; omega) hp.1 (by unfold r32; omega)
theorem zrm1 {v : Int} (h : 0 ≤ v ∧ v < 1000) : zrm v 10 = v % 10 := zrm_e h.1 (by unfold r32; omega) (by decide) (by decide)
theorem C_d31 {K : zK} {q : zF × zB} {T : List Int} {v l p : Int} {m : Nat} {F : zF} {B : zB} (h0 : 2 ≤ K.2 0) (hv : 0 ≤ v ∧ v < 1000) (hl : 0 ≤ l ∧ l < 5) (hp : p = 1 ∨ p = 10 ∨ p = 100) (h : TC q T F B) : ∃ F' B', f_ByteRow_putDecimal_31 K (m + 1) l p 1 v F B = f_ByteRow_putDecimal_31 K m (l + 1) (p / 10) 1 v F' B' ∧ TC q (T ++ [48 + v / p % 10]) F' B' := by
  have vp : 0 ≤ v / p ∧ v / p < 1000 := by rcases hp with rfl | rfl | rfl <;> omega
  obtain ⟨F1, B1, e1, w1⟩ := C_pt (a := 48 + v / p % 10) h0 h
  refine ⟨F1, B1, ?_, w1⟩
  rw [f_ByteRow_putDecimal_31, if_pos (by unfold r32; omega), if_neg (by omega), if_pos (by unfold r32; omega), if_neg (by omega), if_pos (iI_n0 (by omega) (by unfold r32; omega)), if_pos (by omega), zdv1 hv (by omega), zrm1 vp, e1, zb_s, zdv1 (by omega) (by omega)]
theorem C_d0 {K : zK} {v l : Int} {m : Nat} {F : zF} {B : zB} (hl : 0 ≤ l ∧ l < 5) : f_ByteRow_putDecimal_31 K (m + 1) l 0 1 v F B = some (0, F, B) := by
  rw [f_ByteRow_putDecimal_31, if_pos (by unfold r32; omega), if_neg (by omega), if_pos (by decide), if_pos (by decide), f_ByteRow_putDecimal_65]
theorem C_dec {K : zK} {q : zF × zB} {T : List Int} {v : Int} {F : zF} {B : zB} (h0 : 2 ≤ K.2 0) (hK : 200 ≤ K.1) (hv : 0 ≤ v ∧ v < 1000) (h : TC q T F B) : ∃ F' B', f_ByteRow_putDecimal K 1 v F B = some (0, F', B') ∧ TC q (T ++ decT v) F' B' := by
  obtain ⟨m, em⟩ : ∃ m, K.1 = m + 1 + 1 + 1 + 1 := ⟨K.1 - 4, by omega⟩
  have e4 : ∀ (j : Nat) (l p : Int), 0 ≤ l → l < 5 → (p = 1 ∨ p = 10 ∨ p = 100) → f_ByteRow_putDecimal_4 K (j + 1) l p 1 v F B = if v / p < 10 then f_ByteRow_putDecimal_29 K p 1 v F B else f_ByteRow_putDecimal_4 K j (l + 1) (p * 10) 1 v F B := fun j l p l0 l1 hp => by
    have vp : 0 ≤ v / p ∧ v / p < 1000 := by rcases hp with rfl | rfl | rfl <;> omega
    rw [f_ByteRow_putDecimal_4, if_pos (by unfold r32; omega), if_neg (by omega), if_pos (iI_n0 (by omega) (by unfold r32; omega)), zdv1 hv (by omega), if_pos (by unfold r32; omega)]
  have e0 : f_ByteRow_putDecimal K 1 v F B = f_ByteRow_putDecimal_4 K K.1 0 1 1 v F B := rfl
  have e29 : ∀ p, f_ByteRow_putDecimal_29 K p 1 v F B = f_ByteRow_putDecimal_31 K (m + 1 + 1 + 1 + 1) 0 p 1 v F B := fun p => by
    unfold f_ByteRow_putDecimal_29; rw [em]
  rw [e0, em]
  unfold decT
  by_cases z1 : v < 10
  · obtain ⟨F1, B1, a1, w1⟩ := C_d31 (m := m + 1 + 1 + 1) (l := 0) (p := 1) h0 hv (by decide) (Or.inl rfl) h
    rw [e4 _ 0 1 (by decide) (by decide) (Or.inl rfl), if_pos (by omega), e29, a1, show (1 : Int) / 10 = 0 from rfl, C_d0 (by decide), if_pos z1]
    rw [show v / 1 % 10 = v % 10 by omega] at w1
    exact ⟨F1, B1, rfl, w1⟩
  · rw [e4 _ 0 1 (by decide) (by decide) (Or.inl rfl), if_neg (by omega), show (1 : Int) * 10 = 10 from rfl, if_neg z1]
    by_cases z2 : v < 100
    · obtain ⟨F1, B1, a1, w1⟩ := C_d31 (m := m + 1 + 1 + 1) (l := 0) (p := 10) h0 hv (by decide) (Or.inr (Or.inl rfl)) h
      obtain ⟨F2, B2, a2, w2⟩ := C_d31 (m := m + 1 + 1) (l := 0 + 1) (p := 1) h0 hv (by decide) (Or.inl rfl) w1
      rw [e4 _ (0 + 1) 10 (by decide) (by decide) (Or.inr (Or.inl rfl)), if_pos (by omega), e29, a1, show (10 : Int) / 10 = 1 from rfl, a2, show (1 : Int) / 10 = 0 from rfl, C_d0 (by decide), if_pos z2]
      rw [show v / 1 % 10 = v % 10 by omega, List.append_assoc] at w2
      exact ⟨F2, B2, rfl, w2⟩
    · obtain ⟨F1, B1, a1, w1⟩ := C_d31 (m := m + 1 + 1 + 1) (l := 0) (p := 100) h0 hv (by decide) (Or.inr (Or.inr rfl)) h
      obtain ⟨F2, B2, a2, w2⟩ := C_d31 (m := m + 1 + 1) (l := 0 + 1) (p := 10) h0 hv (by decide) (Or.inr (Or.inl rfl)) w1
      obtain ⟨F3, B3, a3, w3⟩ := C_d31 (m := m + 1) (l := 0 + 1 + 1) (p := 1) h0 hv (by decide) (Or.inl rfl) w2
      rw [e4 _ (0 + 1) 10 (by decide) (by decide) (Or.inr (Or.inl rfl)), if_neg (by omega), show (10 : Int) * 10 = 100 from rfl, e4 _ (0 + 1 + 1) 100 (by decide) (by decide) (Or.inr (Or.inr rfl)), if_pos (by omega), e29, a1, show (100 : Int) / 10 = 10 from rfl, a2, show (10 : Int) / 10 = 1 from rfl, a3, show (1 : Int) / 10 = 0 from rfl, C_d0 (by decide), if_neg z2]
      rw [show v / 1 % 10 = v % 10 by omega, List.append_assoc, List.append_assoc] at w3
      exact ⟨F3, B3, rfl, w3⟩
theorem M_d18 {Km : Nat} {q : zF × zB} {T : List Int} {v p : Int} {m : Nat} {F : zF} {B : zB} (hv : 0 ≤ v ∧ v < 1000) (hp : p = 1 ∨ p = 10 ∨ p = 100) (hn : T.length < 30000) (h : TM q T F B) : ∃ F' B', f_M_digits_18 Km (m + 1) p v F B = f_M_digits_18 Km m (p / 10) v F' B' ∧ TM q (T ++ [48 + v / p % 10]) F' B' := by
  have vp : 0 ≤ v / p ∧ v / p < 1000 := by rcases hp with rfl | rfl | rfl <;> omega
  obtain ⟨F1, B1, e1, w1⟩ := M_pt (Km := Km) (a := 48 + v / p % 10) hn h
  refine ⟨F1, B1, ?_, w1⟩
  rw [f_M_digits_18, if_pos (by unfold r32; omega), if_neg (by omega), if_pos (iI_n0 (by omega) (by unfold r32; omega)), zdv1 hv (by omega), zrm1 vp, e1, zb_s, zdv1 (by omega) (by omega)]
theorem M_d0 {Km : Nat} {v : Int} {m : Nat} {F : zF} {B : zB} : f_M_digits_18 Km (m + 1) 0 v F B = some (0, F, B) := by
  rw [f_M_digits_18, if_pos (by decide), if_pos (by decide)]
theorem M_dec {Km : Nat} {q : zF × zB} {T : List Int} {v : Int} {F : zF} {B : zB} (hK : 200 ≤ Km) (hv : 0 ≤ v ∧ v < 1000) (hn : T.length < 20000) (h : TM q T F B) : ∃ F' B', f_M_digits Km v F B = some (0, F', B') ∧ TM q (T ++ decT v) F' B' := by
  obtain ⟨m, em⟩ : ∃ m, Km = m + 1 + 1 + 1 + 1 := ⟨Km - 4, by omega⟩
  have ll : ∀ (U : List Int) (a : Int), (U ++ [a]).length = U.length + 1 := fun U a => by rw [List.length_append]; rfl
  have e4 : ∀ (j : Nat) (p : Int), (p = 1 ∨ p = 10 ∨ p = 100) → f_M_digits_2 Km (j + 1) p v F B = if v / p ≤ 9 then f_M_digits_18 Km Km p v F B else f_M_digits_2 Km j (p * 10) v F B := fun j p hp => by
    have vp : 0 ≤ v / p ∧ v / p < 1000 := by rcases hp with rfl | rfl | rfl <;> omega
    rw [f_M_digits_2, if_pos (iI_n0 (by omega) (by unfold r32; omega)), zdv1 hv (by omega), if_pos (by unfold r32; omega)]
  have e0 : ∀ i, i = m + 1 + 1 + 1 + 1 → f_M_digits Km v F B = f_M_digits_2 Km i 1 v F B := fun i ei => by rw [ei, ← em]; rfl
  have e18 : ∀ i p, i = m + 1 + 1 + 1 + 1 → f_M_digits_18 Km Km p v F B = f_M_digits_18 Km i p v F B := fun i p ei => by rw [ei, ← em]
  rw [e0 _ rfl]
  unfold decT
  by_cases z1 : v < 10
  · obtain ⟨F1, B1, a1, w1⟩ := M_d18 (Km := Km) (m := m + 1 + 1 + 1) (p := 1) hv (Or.inl rfl) (by omega) h
    rw [e4 _ 1 (Or.inl rfl), if_pos (by omega), e18 _ _ rfl, a1, show (1 : Int) / 10 = 0 from rfl, M_d0, if_pos z1]
    rw [show v / 1 % 10 = v % 10 by omega] at w1
    exact ⟨F1, B1, rfl, w1⟩
  · rw [e4 _ 1 (Or.inl rfl), if_neg (by omega), show (1 : Int) * 10 = 10 from rfl, if_neg z1]
    by_cases z2 : v < 100
    · obtain ⟨F1, B1, a1, w1⟩ := M_d18 (Km := Km) (m := m + 1 + 1 + 1) (p := 10) hv (Or.inr (Or.inl rfl)) (by omega) h
      obtain ⟨F2, B2, a2, w2⟩ := M_d18 (Km := Km) (m := m + 1 + 1) (p := 1) hv (Or.inl rfl) (by rw [ll]; omega) w1
      rw [e4 _ 10 (Or.inr (Or.inl rfl)), if_pos (by omega), e18 _ _ rfl, a1, show (10 : Int) / 10 = 1 from rfl, a2, show (1 : Int) / 10 = 0 from rfl, M_d0, if_pos z2]
      rw [show v / 1 % 10 = v % 10 by omega, List.append_assoc] at w2
      exact ⟨F2, B2, rfl, w2⟩
    · obtain ⟨F1, B1, a1, w1⟩ := M_d18 (Km := Km) (m := m + 1 + 1 + 1) (p := 100) hv (Or.inr (Or.inr rfl)) (by omega) h
      obtain ⟨F2, B2, a2, w2⟩ := M_d18 (Km := Km) (m := m + 1 + 1) (p := 10) hv (Or.inr (Or.inl rfl)) (by rw [ll]; omega) w1
      obtain ⟨F3, B3, a3, w3⟩ := M_d18 (Km := Km) (m := m + 1) (p := 1) hv (Or.inl rfl) (by rw [ll, ll]; omega) w2
      rw [e4 _ 10 (Or.inr (Or.inl rfl)), if_neg (by omega), show (10 : Int) * 10 = 100 from rfl, e4 _ 100 (Or.inr (Or.inr rfl)), if_pos (by omega), e18 _ _ rfl, a1, show (100 : Int) / 10 = 10 from rfl, a2, show (10 : Int) / 10 = 1 from rfl, a3, show (1 : Int) / 10 = 0 from rfl, M_d0, if_neg z2]
      rw [show v / 1 % 10 = v % 10 by omega, List.append_assoc, List.append_assoc] at w3
      exact ⟨F3, B3, rfl, w3⟩
end
end
section
section
/-! ===== the text of a note ===== -/
noncomputable def rptT (c : Int) : Nat → List Int
  | 0 => []
  | d + 1 => c :: rptT c d
noncomputable def pitT (s a : Int) : List Int := zsc 47 (s % 7) :: (rptT (if 0 < a then 35 else 98) (if 0 < a then a else -a).toNat ++ [48 + s / 7])
noncomputable def chT (st al : Int → Int) : Nat → Int → List Int
  | 0, _ => []
  | d + 1, k => (if 0 < k then [32] else []) ++ (pitT (st k) (al k) ++ chT st al d (k + 1))
/-- a note but for what comes behind its points -/
noncomputable def ntA (m : Int) (st al : Int → Int) (v : Int) : List Int := (if m = 0 then [114] else []) ++ ((if 1 < m then [60] else []) ++ (chT st al m.toNat 0 ++ ((if 1 < m then [62] else []) ++ (58 :: (decT (zshl 1 (v / 3)) ++ rptT 46 (2 - v % 3).toNat)))))
theorem rptT_s {c : Int} {T : List Int} {d : Nat} : T ++ rptT c (d + 1) = (T ++ [c]) ++ rptT c d := by
  rw [List.append_assoc]; rfl
theorem letK : ∀ k : Fin 7, zsc 20 (k.val : Int) = zsc 47 (k.val : Int) := by decide +kernel
theorem letE {k : Int} (h0 : 0 ≤ k) (h1 : k < 7) : zsc 20 k = zsc 47 k := by
  have := letK ⟨k.toNat, by omega⟩
  rwa [show (((⟨k.toNat, by omega⟩ : Fin 7).val : Nat) : Int) = k by show ((k.toNat : Nat) : Int) = k; omega] at this
theorem C_wp20 {K : zK} {q : zF × zB} {s a : Int} (h0 : 2 ≤ K.2 0) (h7 : 0 < K.2 7) (q1 : q.1 7 0 1 = 1) (hs : 0 ≤ s ∧ s ≤ 62) (ha : -7 ≤ a ∧ a ≤ 7) : ∀ (d n : Nat) (k : Int) (T : List Int) (F : zF) (B : zB), k + d = (if 0 < a then a else -a) → 0 ≤ k → d < n → TC q T F B → ∃ F' B', f_Scribe_writePitch_20 K n k 0 s a F B = some (0, F', B') ∧ TC q (T ++ (rptT (if 0 < a then 35 else 98) d ++ [48 + s / 7])) F' B' := by
  have za : zabs a = (if 0 < a then a else -a) := by unfold zabs; split <;> split <;> omega
  have zb : r32 (zabs a) := by rw [za]; unfold r32; split <;> omega
  have zd : zdv s 7 = s / 7 := zdv_e hs.1 (by unfold r32; omega) (by decide) (by decide)
  intro d
  induction d with
  | zero =>
    intro n k T F B e k0 hn h
    obtain ⟨p, rfl⟩ : ∃ p, n = p + 1 := ⟨n - 1, by omega⟩
    have f1 : F 7 0 1 = 1 := by rw [h.2.1 7 0 1 (by omega)]; exact q1
    obtain ⟨F1, B1, e1, w1⟩ := C_pt (a := 48 + s / 7) h0 h
    refine ⟨F1, B1, ?_, w1⟩
    rw [f_Scribe_writePitch_20, if_pos (by unfold r32; omega), if_pos (by unfold r32; split at e <;> omega), if_pos zb, if_pos (by rw [za]; omega), if_pos ⟨by omega, h7⟩, f1, if_pos (by omega), zd, e1, zb_s]
  | succ d ih =>
    intro n k T F B e k0 hn h
    obtain ⟨p, rfl⟩ : ∃ p, n = p + 1 := ⟨n - 1, by omega⟩
    have f1 : F 7 0 1 = 1 := by rw [h.2.1 7 0 1 (by omega)]; exact q1
    obtain ⟨F1, B1, e1, w1⟩ := C_pt (a := if 0 < a then 35 else 98) h0 h
    obtain ⟨F2, B2, e2, w2⟩ := ih p (k + 1) _ F1 B1 (by omega) (by omega) (by omega) w1
    refine ⟨F2, B2, ?_, ?_⟩
    · rw [f_Scribe_writePitch_20, if_pos (by unfold r32; omega), if_pos (by unfold r32; split at e <;> omega), if_pos zb, if_neg (by rw [za]; omega), if_pos ⟨by omega, h7⟩, f1]
      by_cases z : a ≤ 0
      · rw [if_neg (by omega)] at e1
        rw [if_pos z, f_Scribe_writePitch_43, if_pos (by omega), e1, zb_s]
        exact e2
      · rw [if_pos (by omega)] at e1
        rw [if_neg z, f_Scribe_writePitch_43, if_pos (by omega), e1, zb_s]
        exact e2
    · rw [List.append_assoc] at w2
      exact w2
theorem C_wp {K : zK} {q : zF × zB} {s a : Int} {T : List Int} {F : zF} {B : zB} (h0 : 2 ≤ K.2 0) (h7 : 0 < K.2 7) (hK : 200 ≤ K.1) (q1 : q.1 7 0 1 = 1) (hs : 0 ≤ s ∧ s ≤ 62) (ha : -7 ≤ a ∧ a ≤ 7) (h : TC q T F B) : ∃ F' B', f_Scribe_writePitch K 0 s a F B = some (0, F', B') ∧ TC q (T ++ pitT s a) F' B' := by
  have f1 : F 7 0 1 = 1 := by rw [h.2.1 7 0 1 (by omega)]; exact q1
  have l20 : zsl 20 = 7 := by decide
  obtain ⟨F1, B1, e1, w1⟩ := C_pt (a := zsc 47 (s % 7)) h0 h
  obtain ⟨F2, B2, e2, w2⟩ := C_wp20 h0 h7 q1 hs ha (if 0 < a then a else -a).toNat K.1 0 _ F1 B1 (by split <;> omega) (by omega) (by split <;> omega) w1
  refine ⟨F2, B2, ?_, ?_⟩
  · unfold f_Scribe_writePitch
    rw [if_pos ⟨by omega, h7⟩, f1, if_pos (by omega), C_fm hs.1 hs.2, zb_s, C_schar (by decide) (by omega) (by omega) (by omega), zb_s, letE (by omega) (by omega), e1, zb_s]
    exact e2
  · rw [List.append_assoc] at w2
    exact w2
theorem C_wn46 {K : zK} {q : zF × zB} {m v g : Int} {st al : Int → Int} (h0 : 2 ≤ K.2 0) (h7 : 0 < K.2 7) (h1 : 0 < K.2 1) (hK : 200 ≤ K.1) (q1 : q.1 7 0 1 = 1) (q4 : q.1 7 0 4 = 0) (q10 : q.1 1 0 10 = m) (hm : 0 ≤ m ∧ m ≤ 6) (hp : ∀ k, 0 ≤ k → k < m → q.2 1 0 12 k = st k ∧ q.2 1 0 13 k = al k ∧ (0 ≤ st k ∧ st k ≤ 62) ∧ (-7 ≤ al k ∧ al k ≤ 7)) : ∀ (d n : Nat) (k : Int) (T : List Int) (F : zF) (B : zB), k + d = m → 0 ≤ k → d < n → TC q T F B → ∃ F' B', f_Scribe_writeNote_46 K n k 0 v g F B = f_Scribe_writeNote_125 K 0 v g 1 (if m ≤ 1 then 18 else 17) F' B' ∧ TC q (T ++ chT st al d k) F' B' := by
  intro d
  induction d with
  | zero =>
    intro n k T F B e k0 hn h
    obtain ⟨p, rfl⟩ : ∃ p, n = p + 1 := ⟨n - 1, by omega⟩
    have f1 : F 7 0 1 = 1 := by rw [h.2.1 7 0 1 (by omega)]; exact q1
    have f4 : F 7 0 4 = 0 := by rw [h.2.1 7 0 4 (by omega)]; exact q4
    have f10 : F 1 0 10 = m := by rw [h.2.1 1 0 10 (by omega)]; exact q10
    refine ⟨F, B, ?_, by rw [chT, List.append_nil]; exact h⟩
    rw [f_Scribe_writeNote_46, if_pos ⟨by omega, h7⟩, f4, if_pos ⟨by omega, h1⟩, if_pos (by unfold r32; omega), f10, if_pos (by unfold r32; omega), if_pos (by omega), f1]
    by_cases z : m ≤ 1
    · rw [if_pos z, if_pos z]
    · rw [if_neg z, if_neg z]
  | succ d ih =>
    intro n k T F B e k0 hn h
    obtain ⟨p, rfl⟩ : ∃ p, n = p + 1 := ⟨n - 1, by omega⟩
    have f1 : F 7 0 1 = 1 := by rw [h.2.1 7 0 1 (by omega)]; exact q1
    have f4 : F 7 0 4 = 0 := by rw [h.2.1 7 0 4 (by omega)]; exact q4
    have f10 : F 1 0 10 = m := by rw [h.2.1 1 0 10 (by omega)]; exact q10
    obtain ⟨p1, p2, p3, p4⟩ := hp k k0 (by omega)
    obtain ⟨F1, B1, e1, w1⟩ : ∃ F1 B1, f_ByteRow_putText K 1 (if k ≤ 0 then 15 else 16) F B = some (0, F1, B1) ∧ TC q (T ++ (if 0 < k then [32] else [])) F1 B1 := by
      by_cases z : k ≤ 0
      · rw [if_pos z, if_neg (by omega)]
        exact C_strg h0 hK (by decide) (by decide) (by decide) (by decide) h
      · rw [if_neg z, if_pos (by omega)]
        exact C_strg h0 hK (by decide) (by decide) (by decide) (by decide) h
    have g4 : F1 7 0 4 = 0 := by rw [w1.2.1 7 0 4 (by omega)]; exact q4
    obtain ⟨F2, B2, e2, w2⟩ := C_wp h0 h7 hK q1 p3 p4 w1
    obtain ⟨F3, B3, e3, w3⟩ := ih p (k + 1) _ F2 B2 (by omega) (by omega) (by omega) w2
    refine ⟨F3, B3, ?_, ?_⟩
    · have e72 : f_Scribe_writeNote_72 (f_Scribe_writeNote_46 K p) K k 0 v g 1 (if k ≤ 0 then 15 else 16) F B = f_Scribe_writeNote_46 K p (k + 1) 0 v g F2 B2 := by
        unfold f_Scribe_writeNote_72
        rw [if_pos (by omega), e1, zb_s, if_pos ⟨by omega, h7⟩, g4, if_pos ⟨by omega, h1⟩, if_pos (by omega), w1.2.2 1 0 12 k (by omega), w1.2.2 1 0 13 k (by omega), p1, p2, e2, zb_s]
      rw [f_Scribe_writeNote_46, if_pos ⟨by omega, h7⟩, f4, if_pos ⟨by omega, h1⟩, if_pos (by unfold r32; omega), f10, if_pos (by unfold r32; omega), if_neg (by omega), f1]
      rw [← e3, ← e72]
      by_cases z : k ≤ 0
      · rw [if_pos z, if_pos z]
      · rw [if_neg z, if_neg z]
    · rw [List.append_assoc, List.append_assoc] at w3
      exact w3
/-- the points, then what comes behind -/
theorem C_wn142 {K : zK} {q : zF × zB} {m v g : Int} (h0 : 2 ≤ K.2 0) (h7 : 0 < K.2 7) (h1 : 0 < K.2 1) (hK : 200 ≤ K.1) (q1 : q.1 7 0 1 = 1) (q4 : q.1 7 0 4 = 0) (q10 : q.1 1 0 10 = m) (hm : 0 ≤ m ∧ m ≤ 6) (hv : 0 ≤ v ∧ v < 24) (hg : g = 0 ∨ g = 1) : ∀ (d n : Nat) (k : Int) (T : List Int) (F : zF) (B : zB), k + d = 2 - v % 3 → 0 ≤ k → d < n → TC q T F B → ∃ F' B', f_Scribe_writeNote_142 K n k 0 v g F B = some (0, F', B') ∧ TC q (T ++ (rptT 46 d ++ ((if g = 1 ∧ ¬ m = 0 then [126] else []) ++ [32]))) F' B' := by
  have zr : zrm v 3 = v % 3 := zrm_e hv.1 (by unfold r32; omega) (by decide) (by decide)
  intro d
  induction d with
  | zero =>
    intro n k T F B e k0 hn h
    obtain ⟨p, rfl⟩ : ∃ p, n = p + 1 := ⟨n - 1, by omega⟩
    have f1 : F 7 0 1 = 1 := by rw [h.2.1 7 0 1 (by omega)]; exact q1
    have f4 : F 7 0 4 = 0 := by rw [h.2.1 7 0 4 (by omega)]; exact q4
    have f10 : F 1 0 10 = m := by rw [h.2.1 1 0 10 (by omega)]; exact q10
    obtain ⟨F1, B1, e1, w1⟩ : ∃ F1 B1, f_ByteRow_putText K 1 (if g = 1 ∧ ¬ m = 0 then 19 else 16) F B = some (0, F1, B1) ∧ TC q (T ++ ((if g = 1 ∧ ¬ m = 0 then [126] else []) ++ [32])) F1 B1 := by
      by_cases z : g = 1 ∧ ¬ m = 0
      · rw [if_pos z, if_pos z]
        exact C_strg h0 hK (by decide) (by decide) (by decide) (by decide) h
      · rw [if_neg z, if_neg z]
        exact C_strg h0 hK (by decide) (by decide) (by decide) (by decide) h
    refine ⟨F1, B1, ?_, w1⟩
    have e191 : f_Scribe_writeNote_191 K 1 (if g = 1 ∧ ¬ m = 0 then 19 else 16) F B = some (0, F1, B1) := by
      unfold f_Scribe_writeNote_191
      rw [if_pos (by omega), e1, zb_s]
    rw [f_Scribe_writeNote_142, if_pos (by unfold r32; omega), zr, if_pos (by unfold r32; omega), if_pos (by omega), if_pos ⟨by omega, h7⟩, if_pos (by unfold r32; omega), f1, f4, ← e191]
    unfold f_Scribe_writeNote_189
    by_cases z : g = 0
    · rw [if_pos z, if_neg (by omega)]
    · rw [if_neg z, if_pos (by omega), if_pos ⟨by omega, h1⟩]
      unfold f_Event_isRest f_Event_isRest_12
      rw [if_pos ⟨by omega, h1⟩, f10, if_pos (by unfold r32; omega)]
      by_cases y : m = 0
      · rw [if_pos y, if_pos (by omega), zb_s, if_pos (by decide), if_neg (by decide), if_neg (by omega)]
      · rw [if_neg y, if_pos (by omega), zb_s, if_pos (by decide), if_pos rfl, if_pos (by omega)]
  | succ d ih =>
    intro n k T F B e k0 hn h
    obtain ⟨p, rfl⟩ : ∃ p, n = p + 1 := ⟨n - 1, by omega⟩
    have f1 : F 7 0 1 = 1 := by rw [h.2.1 7 0 1 (by omega)]; exact q1
    obtain ⟨F1, B1, e1, w1⟩ := C_pt (a := 46) h0 h
    obtain ⟨F2, B2, e2, w2⟩ := ih p (k + 1) _ F1 B1 (by omega) (by omega) (by omega) w1
    refine ⟨F2, B2, ?_, ?_⟩
    · rw [f_Scribe_writeNote_142, if_pos (by unfold r32; omega), zr, if_pos (by unfold r32; omega), if_neg (by omega), if_pos ⟨by omega, h7⟩, f1, if_pos (by omega), e1, zb_s]
      exact e2
    · rw [List.append_assoc] at w2
      exact w2
theorem sh7 : ∀ k : Fin 24, zshl 1 (zdv (k.val : Int) 3) = zshl 1 ((k.val : Int) / 3) ∧ 0 ≤ zshl 1 ((k.val : Int) / 3) ∧ zshl 1 ((k.val : Int) / 3) < 1000 := by decide +kernel
theorem sh7e {v : Int} (h0 : 0 ≤ v) (h1 : v < 24) : zshl 1 (zdv v 3) = zshl 1 (v / 3) ∧ 0 ≤ zshl 1 (v / 3) ∧ zshl 1 (v / 3) < 1000 := by
  have := sh7 ⟨v.toNat, by omega⟩
  rwa [show (((⟨v.toNat, by omega⟩ : Fin 24).val : Nat) : Int) = v by show ((v.toNat : Nat) : Int) = v; omega] at this
theorem C_wn {K : zK} {q : zF × zB} {m v g : Int} {st al : Int → Int} {T : List Int} {F : zF} {B : zB} (h0 : 2 ≤ K.2 0) (h7 : 0 < K.2 7) (h1 : 0 < K.2 1) (hK : 200 ≤ K.1) (q1 : q.1 7 0 1 = 1) (q4 : q.1 7 0 4 = 0) (q10 : q.1 1 0 10 = m) (hm : 0 ≤ m ∧ m ≤ 6) (hp : ∀ k, 0 ≤ k → k < m → q.2 1 0 12 k = st k ∧ q.2 1 0 13 k = al k ∧ (0 ≤ st k ∧ st k ≤ 62) ∧ (-7 ≤ al k ∧ al k ≤ 7)) (hv : 0 ≤ v ∧ v < 24) (hg : g = 0 ∨ g = 1) (h : TC q T F B) : ∃ F' B', f_Scribe_writeNote K 0 v g F B = some (0, F', B') ∧ TC q (T ++ (ntA m st al v ++ ((if g = 1 ∧ ¬ m = 0 then [126] else []) ++ [32]))) F' B' := by
  have f4 : F 7 0 4 = 0 := by rw [h.2.1 7 0 4 (by omega)]; exact q4
  have f10 : F 1 0 10 = m := by rw [h.2.1 1 0 10 (by omega)]; exact q10
  -- the rest's letter
  obtain ⟨F1, B1, e1, w1⟩ : ∃ F1 B1, f_Scribe_writeNote K 0 v g F B = f_Scribe_writeNote_19 K 0 v g F1 B1 ∧ TC q (T ++ (if m = 0 then [114] else [])) F1 B1 := by
    unfold f_Scribe_writeNote f_Event_isRest f_Event_isRest_12
    have f1 : F 7 0 1 = 1 := by rw [h.2.1 7 0 1 (by omega)]; exact q1
    rw [if_pos ⟨by omega, h7⟩, f4, if_pos ⟨by omega, h1⟩, if_pos ⟨by omega, h1⟩, f10, if_pos (by unfold r32; omega)]
    by_cases z : m = 0
    · obtain ⟨F1, B1, e1, w1⟩ := C_pt (a := 114) h0 h
      rw [if_pos z, if_pos (by omega), zb_s, if_pos (by decide), if_neg (by decide), f1, if_pos (by omega), e1, zb_s, if_pos z]
      exact ⟨F1, B1, rfl, w1⟩
    · rw [if_neg z, if_pos (by omega), zb_s, if_pos (by decide), if_pos rfl, if_neg z, List.append_nil]
      exact ⟨F, B, rfl, h⟩
  have g1 : F1 7 0 1 = 1 := by rw [w1.2.1 7 0 1 (by omega)]; exact q1
  have g4 : F1 7 0 4 = 0 := by rw [w1.2.1 7 0 4 (by omega)]; exact q4
  have g10 : F1 1 0 10 = m := by rw [w1.2.1 1 0 10 (by omega)]; exact q10
  -- the bracket
  obtain ⟨F2, B2, e2, w2⟩ : ∃ F2 B2, f_ByteRow_putText K 1 (if m ≤ 1 then 15 else 14) F1 B1 = some (0, F2, B2) ∧ TC q (T ++ (if m = 0 then [114] else []) ++ (if 1 < m then [60] else [])) F2 B2 := by
    by_cases z : m ≤ 1
    · rw [if_pos z, if_neg (show ¬ 1 < m by omega)]
      exact C_strg h0 hK (by decide) (by decide) (by decide) (by decide) w1
    · rw [if_neg z, if_pos (show 1 < m by omega)]
      exact C_strg h0 hK (by decide) (by decide) (by decide) (by decide) w1
  have e19 : f_Scribe_writeNote_19 K 0 v g F1 B1 = f_Scribe_writeNote_46 K K.1 0 0 v g F2 B2 := by
    unfold f_Scribe_writeNote_19
    rw [if_pos ⟨by omega, h7⟩, g4, if_pos ⟨by omega, h1⟩, g10, if_pos (by unfold r32; omega), g1]
    have : f_Scribe_writeNote_41 K 0 v g 1 (if m ≤ 1 then 15 else 14) F1 B1 = f_Scribe_writeNote_46 K K.1 0 0 v g F2 B2 := by
      unfold f_Scribe_writeNote_41
      rw [if_pos (by omega), e2, zb_s]
    rw [← this]
    by_cases z : m ≤ 1
    · rw [if_pos z, if_pos z]
    · rw [if_neg z, if_neg z]
  obtain ⟨F3, B3, e3, w3⟩ := C_wn46 (v := v) (g := g) h0 h7 h1 hK q1 q4 q10 hm hp m.toNat K.1 0 _ F2 B2 (by omega) (by omega) (by omega) w2
  obtain ⟨F4, B4, e4, w4⟩ : ∃ F4 B4, f_ByteRow_putText K 1 (if m ≤ 1 then 18 else 17) F3 B3 = some (0, F4, B4) ∧ TC q (T ++ (if m = 0 then [114] else []) ++ (if 1 < m then [60] else []) ++ chT st al m.toNat 0 ++ ((if 1 < m then [62] else []) ++ [58])) F4 B4 := by
    by_cases z : m ≤ 1
    · rw [if_pos z, if_neg (show ¬ 1 < m by omega), if_neg (show ¬ 1 < m by omega)]
      rw [if_neg (show ¬ 1 < m by omega)] at w3
      exact C_strg h0 hK (by decide) (by decide) (by decide) (by decide) w3
    · rw [if_neg z, if_pos (show 1 < m by omega), if_pos (show 1 < m by omega)]
      rw [if_pos (show 1 < m by omega)] at w3
      exact C_strg h0 hK (by decide) (by decide) (by decide) (by decide) w3
  have s7 := sh7e hv.1 hv.2
  obtain ⟨F5, B5, e5, w5⟩ := C_dec h0 hK s7.2 w4
  obtain ⟨F6, B6, e6, w6⟩ := C_wn142 h0 h7 h1 hK q1 q4 q10 hm hv hg (2 - v % 3).toNat K.1 0 _ F5 B5 (by omega) (by omega) (by omega) w5
  refine ⟨F6, B6, ?_, ?_⟩
  · have k1 : F4 7 0 1 = 1 := by rw [w4.2.1 7 0 1 (by omega)]; exact q1
    rw [e1, e19, e3]
    unfold f_Scribe_writeNote_125
    rw [if_pos (by omega), e4, zb_s, if_pos ⟨by omega, h7⟩, k1, if_pos (by omega), s7.1, e5, zb_s, e6]
  · unfold ntA
    simp only [List.append_assoc, List.cons_append, List.nil_append] at w6 ⊢
    exact w6
end
end
section
section
/-! ===== the text of a note, the reference ===== -/
theorem rptT_l {c : Int} : ∀ d : Nat, (rptT c d).length = d := by
  intro d
  induction d with
  | zero => rfl
  | succ d ih => rw [rptT, List.length_cons, ih]
theorem decT_l {v : Int} : (decT v).length ≤ 3 ∧ 1 ≤ (decT v).length := by
  unfold decT
  split
  · simp
  · split <;> simp
theorem if_l {c : Prop} [Decidable c] {x : Int} : (if c then [x] else ([] : List Int)).length ≤ 1 := by
  split <;> simp
theorem pitT_l {s a : Int} (ha : -7 ≤ a ∧ a ≤ 7) : (pitT s a).length ≤ 9 := by
  unfold pitT
  rw [List.length_cons, List.length_append, rptT_l, List.length_singleton]
  split <;> omega
theorem chT_l {st al : Int → Int} : ∀ (d : Nat) (k : Int), (∀ j, k ≤ j → j < k + d → -7 ≤ al j ∧ al j ≤ 7) → (chT st al d k).length ≤ 10 * d := by
  intro d
  induction d with
  | zero => intro k _; exact Nat.zero_le _
  | succ d ih =>
    intro k h
    have := ih (k + 1) (fun j a b => h j (by omega) (by omega))
    have p := pitT_l (s := st k) (h k (by omega) (by omega))
    have i := if_l (c := 0 < k) (x := 32)
    rw [chT, List.length_append, List.length_append]
    omega
section
variable {Km : Nat} {q : zF × zB} {w v i m vv last : Int} {st al : Int → Int}
theorem M_161 {rec' : Int → Int → Int → Int → Int → zF → zB → zO} {s a l7 l6 l5 l4 l3 : Int} (hK : 200 ≤ Km) (hs : 0 ≤ s ∧ s ≤ 62) (ha : -7 ≤ a ∧ a ≤ 7) : ∀ (d n : Nat) (k : Int) (T : List Int) (F : zF) (B : zB), k + d = (if 0 < a then 0 else -a) → 0 ≤ k → d < n → T.length < 15000 - d → TM q T F B → ∃ F' B', f_M_downNote_161 rec' Km n k a s l7 l6 l5 l4 l3 F B = rec' (l7 + 1) l6 l5 l4 l3 F' B' ∧ TM q (T ++ (rptT 98 d ++ [48 + s / 7])) F' B' := by
  have zd : zdv s 7 = s / 7 := zdv_e hs.1 (by unfold r32; omega) (by decide) (by decide)
  intro d
  induction d with
  | zero =>
    intro n k T F B e k0 hn hl h
    obtain ⟨p, rfl⟩ : ∃ p, n = p + 1 := ⟨n - 1, by omega⟩
    obtain ⟨F1, B1, e1, w1⟩ := M_dec (Km := Km) (v := s / 7) hK (by omega) (by omega) h
    have dt : decT (s / 7) = [48 + s / 7] := by unfold decT; rw [if_pos (by omega), show s / 7 % 10 = s / 7 by omega]
    rw [dt] at w1
    refine ⟨F1, B1, ?_, w1⟩
    rw [f_M_downNote_161, if_pos (by unfold r32; split at e <;> omega), if_pos (by unfold r32; omega), if_pos (by split at e <;> omega), zd, e1, zb_s]
  | succ d ih =>
    intro n k T F B e k0 hn hl h
    obtain ⟨p, rfl⟩ : ∃ p, n = p + 1 := ⟨n - 1, by omega⟩
    obtain ⟨F1, B1, e1, w1⟩ := M_pt (Km := Km) (a := 98) (by omega) h
    obtain ⟨F2, B2, e2, w2⟩ := ih p (k + 1) _ F1 B1 (by omega) (by omega) (by omega) (by rw [List.length_append, List.length_singleton]; omega) w1
    refine ⟨F2, B2, ?_, ?_⟩
    · rw [f_M_downNote_161, if_pos (by unfold r32; split at e <;> omega), if_pos (by unfold r32; omega), if_neg (by split at e <;> omega), e1, zb_s]
      exact e2
    · rw [List.append_assoc] at w2
      exact w2
theorem M_139 {rec' : Int → Int → Int → Int → Int → zF → zB → zO} {s a l7 l6 l5 l4 l3 : Int} (hK : 200 ≤ Km) (hs : 0 ≤ s ∧ s ≤ 62) (ha : -7 ≤ a ∧ a ≤ 7) : ∀ (d n : Nat) (k : Int) (T : List Int) (F : zF) (B : zB), k + d = (if 0 < a then a else 0) → 0 ≤ k → d < n → T.length < 14900 - d → TM q T F B → ∃ F' B', f_M_downNote_139 rec' Km n k a s l7 l6 l5 l4 l3 F B = rec' (l7 + 1) l6 l5 l4 l3 F' B' ∧ TM q (T ++ (rptT 35 d ++ (rptT 98 (if 0 < a then 0 else -a).toNat ++ [48 + s / 7]))) F' B' := by
  intro d
  induction d with
  | zero =>
    intro n k T F B e k0 hn hl h
    obtain ⟨p, rfl⟩ : ∃ p, n = p + 1 := ⟨n - 1, by omega⟩
    obtain ⟨F1, B1, e1, w1⟩ := M_161 (rec' := rec') (l7 := l7) (l6 := l6) (l5 := l5) (l4 := l4) (l3 := l3) hK hs ha (if 0 < a then 0 else -a).toNat Km 0 T F B (by split <;> omega) (by omega) (by split <;> omega) (by split <;> omega) h
    refine ⟨F1, B1, ?_, w1⟩
    rw [f_M_downNote_139, if_pos (by unfold r32; split at e <;> omega), if_pos (by unfold r32; omega), if_pos (by split at e <;> omega), e1]
  | succ d ih =>
    intro n k T F B e k0 hn hl h
    obtain ⟨p, rfl⟩ : ∃ p, n = p + 1 := ⟨n - 1, by omega⟩
    obtain ⟨F1, B1, e1, w1⟩ := M_pt (Km := Km) (a := 35) (by omega) h
    obtain ⟨F2, B2, e2, w2⟩ := ih p (k + 1) _ F1 B1 (by omega) (by omega) (by omega) (by rw [List.length_append, List.length_singleton]; omega) w1
    refine ⟨F2, B2, ?_, ?_⟩
    · rw [f_M_downNote_139, if_pos (by unfold r32; split at e <;> omega), if_pos (by unfold r32; omega), if_neg (by split at e <;> omega), e1, zb_s]
      exact e2
    · rw [List.append_assoc] at w2
      exact w2
theorem pit_e {s a : Int} : zsc 47 (s % 7) :: (rptT 35 (if 0 < a then a else 0).toNat ++ (rptT 98 (if 0 < a then 0 else -a).toNat ++ [48 + s / 7])) = pitT s a := by
  unfold pitT
  by_cases z : 0 < a
  · rw [if_pos z, if_pos z, if_pos z, if_pos z]; rfl
  · rw [if_neg z, if_neg z, if_neg z, if_neg z]; rfl
theorem M_121 {rec' : Int → Int → Int → Int → Int → zF → zB → zO} {s a l7 l6 l5 l4 l3 : Int} {T : List Int} {F : zF} {B : zB} (hK : 200 ≤ Km) (hs : 0 ≤ s ∧ s ≤ 62) (ha : -7 ≤ a ∧ a ≤ 7) (hl : T.length < 14000) (h : TM q T F B) : ∃ F' B', f_M_downNote_121 rec' Km a s l7 l6 l5 l4 l3 F B = rec' (l7 + 1) l6 l5 l4 l3 F' B' ∧ TM q (T ++ pitT s a) F' B' := by
  have l47 : zsl 47 = 7 := by decide
  have zr : zrm s 7 = s % 7 := zrm_e hs.1 (by unfold r32; omega) (by decide) (by decide)
  obtain ⟨F1, B1, e1, w1⟩ := M_pt (Km := Km) (a := zsc 47 (s % 7)) (by omega) h
  obtain ⟨F2, B2, e2, w2⟩ := M_139 (rec' := rec') (l7 := l7) (l6 := l6) (l5 := l5) (l4 := l4) (l3 := l3) hK hs ha (if 0 < a then a else 0).toNat Km 0 _ F1 B1 (by split <;> omega) (by omega) (by split <;> omega) (by rw [List.length_append, List.length_singleton]; split <;> omega) w1
  refine ⟨F2, B2, ?_, ?_⟩
  · unfold f_M_downNote_121
    rw [zr, L_schar (by decide) (by omega) (by omega) (by omega), zb_s, e1, zb_s, e2]
  · rw [List.append_assoc, List.singleton_append, pit_e] at w2
    exact w2
theorem M_67 {x l4 : Int} (hK : 200 ≤ Km) (hw : q.1 14 0 6 = w ∧ 0 ≤ w ∧ w < 3) (hx : 0 < m → 0 ≤ x ∧ x < 4000) (hm : 0 ≤ m ∧ m ≤ 6) (hp : ∀ k, 0 ≤ k → k < m → q.2 13 w 28 (6 * x + k) = st k ∧ q.2 13 w 29 (6 * x + k) = al k ∧ (0 ≤ st k ∧ st k ≤ 62) ∧ (-7 ≤ al k ∧ al k ≤ 7)) : ∀ (d n : Nat) (k : Int) (T : List Int) (F : zF) (B : zB), k + d = m → 0 ≤ k → d < n → T.length < 13000 - 10 * d → TM q T F B → ∃ F' B', f_M_downNote_67 Km n k m x l4 last F B = f_M_downNote_208 Km m l4 last F' B' ∧ TM q (T ++ (chT st al d k ++ (if 1 < m then [62] else []))) F' B' := by
  intro d
  induction d with
  | zero =>
    intro n k T F B e k0 hn hl h
    obtain ⟨p, rfl⟩ : ∃ p, n = p + 1 := ⟨n - 1, by omega⟩
    rw [f_M_downNote_67, if_pos (by unfold r32; omega), if_pos (by unfold r32; omega), if_pos (by omega), chT]
    by_cases z : m ≤ 1
    · rw [if_pos z, if_neg (show ¬ 1 < m by omega), List.nil_append, List.append_nil]
      exact ⟨F, B, rfl, h⟩
    · obtain ⟨F1, B1, e1, w1⟩ := M_pt (Km := Km) (a := 62) (by omega) h
      rw [if_neg z, if_pos (show 1 < m by omega), e1, zb_s, List.nil_append]
      exact ⟨F1, B1, rfl, w1⟩
  | succ d ih =>
    intro n k T F B e k0 hn hl h
    obtain ⟨p, rfl⟩ : ∃ p, n = p + 1 := ⟨n - 1, by omega⟩
    obtain ⟨p1, p2, p3, p4⟩ := hp k k0 (by omega)
    have f6 : F 14 0 6 = w := by rw [h.2.1 14 0 6 (by omega)]; exact hw.1
    have hx' := hx (by omega)
    obtain ⟨F1, B1, e1, w1⟩ : ∃ F1 B1, (if k ≤ 0 then f_M_downNote_121 (f_M_downNote_67 Km p) Km (al k) (st k) k m x l4 last F B else zbind (f_M_put_0 Km 32 F B) (fun r21 F21 B21 => f_M_downNote_121 (f_M_downNote_67 Km p) Km (al k) (st k) k m x l4 last F21 B21)) = f_M_downNote_121 (f_M_downNote_67 Km p) Km (al k) (st k) k m x l4 last F1 B1 ∧ TM q (T ++ (if 0 < k then [32] else [])) F1 B1 := by
      by_cases z : k ≤ 0
      · rw [if_pos z, if_neg (by omega), List.append_nil]; exact ⟨F, B, rfl, h⟩
      · obtain ⟨F1, B1, e1, w1⟩ := M_pt (Km := Km) (a := 32) (by omega) h
        rw [if_neg z, if_pos (by omega), e1, zb_s]; exact ⟨F1, B1, rfl, w1⟩
    have il := if_l (c := 0 < k) (x := 32)
    have pl := pitT_l (s := st k) p4
    obtain ⟨F2, B2, e2, w2⟩ := M_121 (rec' := f_M_downNote_67 Km p) (l7 := k) (l6 := m) (l5 := x) (l4 := l4) (l3 := last) hK p3 p4 (by rw [List.length_append]; omega) w1
    obtain ⟨F3, B3, e3, w3⟩ := ih p (k + 1) _ F2 B2 (by omega) (by omega) (by omega) (by rw [List.length_append, List.length_append]; omega) w2
    refine ⟨F3, B3, ?_, ?_⟩
    · rw [f_M_downNote_67, if_pos (by unfold r32; omega), if_pos (by unfold r32; omega), if_neg (by omega), f6, if_pos hw.2, if_pos (by omega), h.2.2 13 w 28 _ (by omega), h.2.2 13 w 29 _ (by omega), p1, p2, e1, e2, e3]
    · rw [chT]
      simp only [List.append_assoc] at w3 ⊢
      exact w3
theorem M_233 {l4 : Int} (hw : q.1 14 0 6 = w ∧ 0 ≤ w ∧ w < 3) (h4 : 0 ≤ l4 ∧ l4 < 3200) (hm : 0 ≤ m ∧ m ≤ 6) (hv : 0 ≤ vv ∧ vv < 24) (h35 : q.2 13 w 35 l4 = 2 - vv % 3) (hl : last = 0 ∨ last = 1) (hn : last = 0 → l4 + 1 < 3200 ∧ r32 (q.2 13 w 30 (l4 + 1)) ∧ r32 (q.2 13 w 30 l4) ∧ r32 (q.2 13 w 31 (l4 + 1)) ∧ r32 (q.2 13 w 31 l4)) : ∀ (d n : Nat) (k : Int) (T : List Int) (F : zF) (B : zB), k + d = 2 - vv % 3 → 0 ≤ k → d < n → T.length < 13500 - d → TM q T F B → ∃ F' B', f_M_downNote_233 Km n k m l4 last F B = some (0, F', B') ∧ TM q (T ++ (rptT 46 d ++ ((if 0 < m ∧ last = 0 ∧ q.2 13 w 30 (l4 + 1) = q.2 13 w 30 l4 then [126] else []) ++ (32 :: (if last = 0 ∧ q.2 13 w 31 (l4 + 1) = q.2 13 w 31 l4 then [] else [124, 10]))))) F' B' := by
  have e300 : ∀ (T : List Int) (F : zF) (B : zB), T.length < 14000 → TM q T F B → ∃ F' B', f_M_downNote_300 Km l4 last F B = some (0, F', B') ∧ TM q (T ++ (32 :: (if last = 0 ∧ q.2 13 w 31 (l4 + 1) = q.2 13 w 31 l4 then [] else [124, 10]))) F' B' := by
    intro T F B ht h
    obtain ⟨F1, B1, e1, w1⟩ := M_pt (Km := Km) (a := 32) (by omega) h
    have g6 : F1 14 0 6 = w := by rw [w1.2.1 14 0 6 (by omega)]; exact hw.1
    have e336 : ∃ F' B', f_M_downNote_336 Km F1 B1 = some (0, F', B') ∧ TM q (T ++ (32 :: [124, 10])) F' B' := by
      obtain ⟨F2, B2, e2, w2⟩ := M_pt (Km := Km) (a := 124) (by rw [List.length_append, List.length_singleton]; omega) w1
      obtain ⟨F3, B3, e3, w3⟩ := M_pt (Km := Km) (a := 10) (by rw [List.length_append, List.length_append, List.length_singleton, List.length_singleton]; omega) w2
      refine ⟨F3, B3, ?_, ?_⟩
      · unfold f_M_downNote_336
        rw [e2, zb_s, e3, zb_s]
      · simp only [List.append_assoc, List.singleton_append] at w3
        exact w3
    unfold f_M_downNote_300
    rw [e1, zb_s, if_pos (by unfold r32; omega)]
    by_cases z : last = 0
    · obtain ⟨n1, n2, n3, n4, n5⟩ := hn z
      rw [if_pos z, g6, if_pos hw.2, if_pos (by omega), if_pos h4, w1.2.2 13 w 31 _ (by omega), w1.2.2 13 w 31 _ (by omega), if_pos n4, if_pos n5]
      by_cases y : q.2 13 w 31 (l4 + 1) = q.2 13 w 31 l4
      · rw [if_pos y, if_pos ⟨z, y⟩]; exact ⟨F1, B1, rfl, w1⟩
      · rw [if_neg y, if_neg (fun c => y c.2)]; exact e336
    · rw [if_neg z, if_neg (fun c => z c.1)]; exact e336
  intro d
  induction d with
  | zero =>
    intro n k T F B e k0 hn' ht h
    obtain ⟨p, rfl⟩ : ∃ p, n = p + 1 := ⟨n - 1, by omega⟩
    have f6 : F 14 0 6 = w := by rw [h.2.1 14 0 6 (by omega)]; exact hw.1
    rw [f_M_downNote_233, f6, if_pos hw.2, if_pos h4, if_pos (by unfold r32; omega), h.2.2 13 w 35 _ (by omega), h35, if_pos (by unfold r32; omega), if_pos (by omega), if_pos (by unfold r32; omega), rptT, List.nil_append]
    by_cases z : m ≤ 0
    · rw [if_pos z, if_neg (show ¬ (0 < m ∧ _ ∧ _) from fun c => by have := c.1; omega), List.nil_append]
      exact e300 T F B (by omega) h
    · rw [if_neg z, if_pos (by unfold r32; omega)]
      by_cases y : last = 0
      · obtain ⟨n1, n2, n3, n4, n5⟩ := hn y
        rw [if_pos y, if_pos (by omega), h.2.2 13 w 30 _ (by omega), h.2.2 13 w 30 _ (by omega), if_pos n2, if_pos n3]
        by_cases u : q.2 13 w 30 (l4 + 1) = q.2 13 w 30 l4
        · obtain ⟨F1, B1, e1, w1⟩ := M_pt (Km := Km) (a := 126) (by omega) h
          obtain ⟨F2, B2, e2, w2⟩ := e300 _ F1 B1 (by rw [List.length_append, List.length_singleton]; omega) w1
          rw [if_pos u, if_pos (show 0 < m ∧ last = 0 ∧ _ from ⟨by omega, y, u⟩), e1, zb_s]
          refine ⟨F2, B2, e2, ?_⟩
          rw [List.append_assoc] at w2
          exact w2
        · rw [if_neg u, if_neg (show ¬ (0 < m ∧ last = 0 ∧ _) from fun c => u c.2.2), List.nil_append]
          exact e300 T F B (by omega) h
      · rw [if_neg y, if_neg (show ¬ (0 < m ∧ last = 0 ∧ _) from fun c => y c.2.1), List.nil_append]
        exact e300 T F B (by omega) h
  | succ d ih =>
    intro n k T F B e k0 hn' ht h
    obtain ⟨p, rfl⟩ : ∃ p, n = p + 1 := ⟨n - 1, by omega⟩
    have f6 : F 14 0 6 = w := by rw [h.2.1 14 0 6 (by omega)]; exact hw.1
    obtain ⟨F1, B1, e1, w1⟩ := M_pt (Km := Km) (a := 46) (by omega) h
    obtain ⟨F2, B2, e2, w2⟩ := ih p (k + 1) _ F1 B1 (by omega) (by omega) (by omega) (by rw [List.length_append, List.length_singleton]; omega) w1
    refine ⟨F2, B2, ?_, ?_⟩
    · rw [f_M_downNote_233, f6, if_pos hw.2, if_pos h4, if_pos (by unfold r32; omega), h.2.2 13 w 35 _ (by omega), h35, if_pos (by unfold r32; omega), if_neg (by omega), e1, zb_s]
      exact e2
    · rw [List.append_assoc] at w2
      exact w2
/-- a note of the reference; its event has m tones -/
theorem M_dn {x : Int} {T : List Int} {F : zF} {B : zB} (hK : 200 ≤ Km) (hw : q.1 14 0 6 = w ∧ 0 ≤ w ∧ w < 3) (v0 : 0 ≤ v ∧ v < 4) (i0 : 0 ≤ i ∧ i < 800) (he : -1 ≤ q.2 13 w 30 (800 * v + i) ∧ q.2 13 w 30 (800 * v + i) < 1000) (hx : x = 1000 * v + q.2 13 w 30 (800 * v + i)) (hme : m = if q.2 13 w 30 (800 * v + i) < 0 then 0 else q.2 13 w 21 x) (hm : 0 ≤ m ∧ m ≤ 6) (hp : ∀ k, 0 ≤ k → k < m → q.2 13 w 28 (6 * x + k) = st k ∧ q.2 13 w 29 (6 * x + k) = al k ∧ (0 ≤ st k ∧ st k ≤ 62) ∧ (-7 ≤ al k ∧ al k ≤ 7)) (hv : 0 ≤ vv ∧ vv < 24) (h34 : q.2 13 w 34 (800 * v + i) = vv / 3) (h35 : q.2 13 w 35 (800 * v + i) = 2 - vv % 3) (hl : last = 0 ∨ last = 1) (hn : last = 0 → i < 799 ∧ r32 (q.2 13 w 30 (800 * v + i + 1)) ∧ r32 (q.2 13 w 31 (800 * v + i + 1)) ∧ r32 (q.2 13 w 31 (800 * v + i))) (ht : T.length ≤ 3000) (h : TM q T F B) : ∃ F' B', f_M_downNote Km v i last F B = some (0, F', B') ∧ TM q (T ++ (ntA m st al vv ++ ((if 0 < m ∧ last = 0 ∧ q.2 13 w 30 (800 * v + i + 1) = q.2 13 w 30 (800 * v + i) then [126] else []) ++ (32 :: (if last = 0 ∧ q.2 13 w 31 (800 * v + i + 1) = q.2 13 w 31 (800 * v + i) then [] else [124, 10]))))) F' B' := by
  have f6 : F 14 0 6 = w := by rw [h.2.1 14 0 6 (by omega)]; exact hw.1
  have s7 := sh7e hv.1 hv.2
  obtain ⟨y, ey, em⟩ : ∃ y, f_M_downNote Km v i last F B = f_M_downNote_39 Km y (800 * v + i) last m F B ∧ (0 < m → y = x) := by
    unfold f_M_downNote f_M_sounding f_M_sounding_32 f_M_sounding_43
    rw [f6, if_pos hw.2, if_pos hw.2, if_pos (by omega), h.2.2 13 w 30 _ (by omega), if_pos (by unfold r32; omega)]
    by_cases z : q.2 13 w 30 (800 * v + i) < 0
    · rw [if_pos z, zb_s, if_pos (by decide), if_neg (by decide)]
      rw [if_pos z] at hme
      exact ⟨-1, by rw [hme], fun c => by omega⟩
    · rw [if_neg z] at hme
      rw [if_neg z, if_pos (by omega), h.2.2 13 w 21 _ (by omega), ← hx, ← hme, if_pos (by unfold r32; omega)]
      by_cases u : m = 0
      · rw [if_pos u, zb_s, if_pos (by decide), if_neg (by decide)]
        exact ⟨-1, by rw [u], fun c => by omega⟩
      · rw [if_neg u, zb_s, if_pos (by unfold r32; omega), if_pos (by omega), f6, if_pos hw.2, if_pos (by omega), h.2.2 13 w 21 _ (by omega), ← hme]
        exact ⟨x, rfl, fun _ => rfl⟩
  rw [ey]
  obtain ⟨F1, B1, e1, w1⟩ : ∃ F1 B1, f_M_downNote_39 Km y (800 * v + i) last m F B = f_M_downNote_52 Km m y (800 * v + i) last F1 B1 ∧ TM q (T ++ (if m = 0 then [114] else [])) F1 B1 := by
    unfold f_M_downNote_39
    rw [if_pos (by unfold r32; omega)]
    by_cases z : m = 0
    · obtain ⟨F1, B1, e1, w1⟩ := M_pt (Km := Km) (a := 114) (by omega) h
      rw [if_pos z, if_pos z, e1, zb_s]; exact ⟨F1, B1, rfl, w1⟩
    · rw [if_neg z, if_neg z, List.append_nil]; exact ⟨F, B, rfl, h⟩
  have l1 := if_l (c := m = 0) (x := 114)
  have l2 := if_l (c := 1 < m) (x := 60)
  have l3 := if_l (c := 1 < m) (x := 62)
  obtain ⟨F2, B2, e2, w2⟩ : ∃ F2 B2, f_M_downNote_52 Km m y (800 * v + i) last F1 B1 = f_M_downNote_67 Km Km 0 m y (800 * v + i) last F2 B2 ∧ TM q (T ++ (if m = 0 then [114] else []) ++ (if 1 < m then [60] else [])) F2 B2 := by
    unfold f_M_downNote_52 f_M_downNote_64
    rw [if_pos (by unfold r32; omega)]
    by_cases z : m ≤ 1
    · rw [if_pos z, if_neg (show ¬ 1 < m by omega), List.append_nil]; exact ⟨F1, B1, rfl, w1⟩
    · obtain ⟨F2, B2, e2, w2⟩ := M_pt (Km := Km) (a := 60) (by rw [List.length_append]; omega) w1
      rw [if_neg z, if_pos (show 1 < m by omega), e2, zb_s]; exact ⟨F2, B2, rfl, w2⟩
  have hy : 0 < m → 0 ≤ y ∧ y < 4000 := fun c => by
    rw [em c]
    by_cases z : q.2 13 w 30 (800 * v + i) < 0
    · rw [if_pos z] at hme; omega
    · omega
  obtain ⟨F3, B3, e3, w3⟩ := M_67 (x := y) (l4 := 800 * v + i) (last := last) (st := st) (al := al) hK hw hy hm (fun k k0 k1 => by rw [em (by omega)]; exact hp k k0 k1) m.toNat Km 0 _ F2 B2 (by omega) (by omega) (by omega) (by rw [List.length_append, List.length_append]; omega) w2
  have cl := chT_l (st := st) (al := al) m.toNat 0 (fun j a b => (hp j a (by omega)).2.2.2)
  obtain ⟨F4, B4, e4, w4⟩ := M_pt (Km := Km) (a := 58) (by simp only [List.length_append]; omega) w3
  have g6 : F4 14 0 6 = w := by rw [w4.2.1 14 0 6 (by omega)]; exact hw.1
  obtain ⟨F5, B5, e5, w5⟩ := M_dec (Km := Km) hK s7.2 (by simp only [List.length_append, List.length_singleton]; omega) w4
  have dl := decT_l (v := zshl 1 (vv / 3))
  obtain ⟨F6, B6, e6, w6⟩ := M_233 (Km := Km) (l4 := 800 * v + i) (m := m) (last := last) hw (by omega) hm hv h35 hl (fun c => by
    obtain ⟨n1, n2, n3, n4⟩ := hn c
    exact ⟨by omega, n2, by unfold r32; omega, n3, n4⟩) (2 - vv % 3).toNat Km 0 _ F5 B5 (by omega) (by omega) (by omega) (by simp only [List.length_append, List.length_singleton]; omega) w5
  refine ⟨F6, B6, ?_, ?_⟩
  · rw [e1, e2, e3]
    unfold f_M_downNote_208
    rw [e4, zb_s, g6, if_pos hw.2, if_pos (by omega), w4.2.2 13 w 34 _ (by omega), h34, e5, zb_s, e6]
  · unfold ntA
    simp only [List.append_assoc, List.cons_append, List.nil_append, List.singleton_append] at w6 ⊢
    exact w6
end
end
end
section
section
/-! ===== spans of notes ===== -/
theorem fv_t : ∀ k : Fin 18, fv (k.val : Int) % 16 = 0 ∨ (k.val : Int) = 12 ∨ (k.val : Int) = 15 ∨ (k.val : Int) = 16 := by decide +kernel
theorem fv_g : ∀ k : Fin 18, 16 ≤ fv (k.val : Int) := by decide +kernel
theorem st_1 {n d a : Int} : 1 ≤ st n d a := by
  unfold st st5
  repeat' split
  all_goals omega
theorem mx_1 {a b : Int} (h : 1 ≤ b) : 1 ≤ mx a b := by unfold mx; split <;> omega
theorem bt_16 {n f : Int} (f16 : f % 16 = 0) : bt n 2 f (f + 16) = 1 := by
  unfold bt bt5 bc bw
  simp only [show (512 : Int) / 2 = 256 from rfl, show (256 : Int) / 2 = 128 from rfl, show (256 : Int) / 4 = 64 from rfl, show (256 : Int) / 8 = 32 from rfl, show (256 : Int) / 16 = 16 from rfl, show ¬ (8 : Int) ≤ 2 by decide, show (2 : Int) ≤ 4 by decide, false_and, if_false, if_true, Int.mul_one]
  rw [if_neg (by omega), if_neg (by omega), if_neg (by omega), if_neg (by omega), if_neg (by omega), if_neg (by omega), if_neg (by omega)]
theorem bt_xy {n f x y : Int} (f16 : f % 16 = 0) (h : (x = 56 ∧ y = 64) ∨ (x = 28 ∧ y = 32) ∨ (x = 24 ∧ y = 32)) : bt n 2 f (f + y) = bt n 2 f (f + x) := by
  unfold bt bt5 bc bw
  simp only [show (512 : Int) / 2 = 256 from rfl, show (256 : Int) / 2 = 128 from rfl, show (256 : Int) / 4 = 64 from rfl, show (256 : Int) / 8 = 32 from rfl, show (256 : Int) / 16 = 16 from rfl, show ¬ (8 : Int) ≤ 2 by decide, show (2 : Int) ≤ 4 by decide, false_and, if_false, if_true, Int.mul_one]
  have h0 : (n % 2 = 0 ∧ 2 * f < 256 * n ∧ 256 * n < 2 * (f + y)) ↔ (n % 2 = 0 ∧ 2 * f < 256 * n ∧ 256 * n < 2 * (f + x)) := by omega
  have h1 : ((f / 256 + 1) * 256 < f + y) ↔ ((f / 256 + 1) * 256 < f + x) := by omega
  have h2 : ((f / 128 + 1) * 128 < f + y) ↔ ((f / 128 + 1) * 128 < f + x) := by omega
  have h3 : ((f / 64 + 1) * 64 < f + y) ↔ ((f / 64 + 1) * 64 < f + x) := by omega
  have h4 : ((f / 32 + 1) * 32 < f + y) ↔ ((f / 32 + 1) * 32 < f + x) := by omega
  have h5 : ((f / 16 + 1) * 16 < f + y) ↔ ((f / 16 + 1) * 16 < f + x) := by omega
  simp only [h0, h1, h2, h3, h4, h5]
theorem st_x {n a : Int} (h : ¬ a % 16 = 0) : st n 2 a = 1 := by
  unfold st st5 bc
  simp only [show (512 : Int) / 2 = 256 from rfl, show (256 : Int) / 2 = 128 from rfl, show (256 : Int) / 4 = 64 from rfl, show (256 : Int) / 8 = 32 from rfl, show (256 : Int) / 16 = 16 from rfl, show ¬ (8 : Int) ≤ 2 by decide, show (2 : Int) ≤ 4 by decide, false_and, if_false, if_true, Int.mul_one]
  rw [if_neg (by omega), if_neg (by omega), if_neg (by omega), if_neg (by omega), if_neg (by omega), if_neg (by omega), if_neg (by omega), if_neg h]
theorem nv_16 {n f l : Int} (f16 : f % 16 = 0) (l0 : 0 < l) (l16 : l % 16 = 0) : fv (nvF n 2 f l) ≤ l ∧ fv (nvF n 2 f l) % 16 = 0 ∧ 16 ≤ fv (nvF n 2 f l) := by
  have v17 : fv 17 = 16 := by decide
  have p17 : decide (fv 17 ≤ l ∧ stnd n 2 f 17) = true := by
    refine decide_eq_true ⟨by omega, ?_⟩
    show bt n 2 f (f + fv 17) ≤ _
    rw [v17, bt_16 f16]
    exact mx_1 st_1
  unfold nvF
  generalize hk : fsN (fun k => decide (fv k ≤ l ∧ stnd n 2 f k)) 24 0 = k
  have nn := fsN_n (P := fun k => decide (fv k ≤ l ∧ stnd n 2 f k)) 24 (k := 0) (Int.le_refl _)
  rw [hk] at nn
  have k17 : k ≤ 17 ∧ 0 ≤ k := by
    refine ⟨?_, ?_⟩
    · rcases Int.lt_or_le 17 k with z | z
      · have := nn 17 (by omega) (by omega) (Or.inl z)
        have : false = true := this.symm.trans p17
        exact absurd this (by decide)
      · exact z
    · rcases Int.lt_or_le k 0 with z | z
      · have := nn 17 (by omega) (by omega) (Or.inr z)
        have : false = true := this.symm.trans p17
        exact absurd this (by decide)
      · exact z
  have hP : fv k ≤ l ∧ stnd n 2 f k := by
    rcases fsN_r (P := fun k => decide (fv k ≤ l ∧ stnd n 2 f k)) 24 (k := 0) (Int.le_refl _) with h | ⟨_, _, h⟩
    · rw [hk] at h; omega
    · rw [hk] at h; exact of_decide_eq_true h
  rw [if_neg (by omega)]
  have fg := fv_g ⟨k.toNat, by omega⟩
  have ft := fv_t ⟨k.toNat, by omega⟩
  rw [show (((⟨k.toNat, by omega⟩ : Fin 18).val : Nat) : Int) = k by show ((k.toNat : Nat) : Int) = k; omega] at fg ft
  refine ⟨hP.1, ?_, fg⟩
  have up : ∀ (x y j : Int), (x = 56 ∧ y = 64) ∨ (x = 28 ∧ y = 32) ∨ (x = 24 ∧ y = 32) → fv k = x → fv j = y → 0 ≤ j → j < k → False := fun x y j h hx hy j0 j1 => by
    have z := nn j (by omega) (by omega) (Or.inl j1)
    have hs : stnd n 2 f j := by
      show bt n 2 f (f + fv j) ≤ mx (st n 2 f) (st n 2 (f + fv j))
      have e2 : bt n 2 f (f + fv k) ≤ mx (st n 2 f) (st n 2 (f + fv k)) := hP.2
      have hl := hP.1
      rw [hx, ← bt_xy f16 h, st_x (a := f + x) (by omega)] at e2
      rw [hy]
      have s1 : 1 ≤ st n 2 (f + y) := st_1
      unfold mx at e2 ⊢
      split at e2 <;> split <;> omega
    have : decide (fv j ≤ l ∧ stnd n 2 f j) = true := decide_eq_true ⟨by have := hP.1; omega, hs⟩
    rw [this] at z
    exact absurd z (by decide)
  rcases ft with h | h | h | h
  · exact h
  · exact absurd (up 56 64 11 (by omega) (by rw [h]; decide) (by decide) (by decide) (by omega)) (fun x => x)
  · exact absurd (up 28 32 14 (by omega) (by rw [h]; decide) (by decide) (by decide) (by omega)) (fun x => x)
  · exact absurd (up 24 32 14 (by omega) (by rw [h]; decide) (by decide) (by decide) (by omega)) (fun x => x)
/-- the least step of a note -/
noncomputable def sdU (d : Int) : Int := if d = 2 then 16 else 4
theorem nv_s {n d f l : Int} (hd : d = 2 ∨ d = 4 ∨ d = 8 ∨ d = 16) (f4 : f % sdU d = 0) (l0 : 0 < l) (l4 : l % sdU d = 0) : fv (nvF n d f l) ≤ l ∧ fv (nvF n d f l) % sdU d = 0 ∧ sdU d ≤ fv (nvF n d f l) := by
  unfold sdU at *
  by_cases z : d = 2
  · subst z
    rw [if_pos rfl] at f4 l4 ⊢
    exact nv_16 f4 l0 l4
  · rw [if_neg z] at f4 l4 ⊢
    obtain ⟨a, b⟩ := nv_4 (n := n) (f := f) hd f4 l0 l4
    have kb := nvF_b (n := n) (d := d) (f := f) (l := l)
    have := fv_b kb.1 kb.2
    exact ⟨a, b, this.1⟩
/-- the value of the note at a in a span that ends at e -/
noncomputable def kvF (n d b a e : Int) : Int := nvF n d (a % b) (zmin (e - a) (b - a % b))
noncomputable def nxF (n d b a e : Int) : Int := a + fv (kvF n d b a e)
/-- what a bar is, and where notes stand -/
noncomputable def BRs (n d b : Int) : Prop := (1 ≤ n ∧ n ≤ 12) ∧ (d = 2 ∨ d = 4 ∨ d = 8 ∨ d = 16) ∧ b = 512 / d * n
theorem BRs_b {n d b : Int} (h : BRs n d b) : 32 ≤ b ∧ b ≤ 3072 ∧ b % sdU d = 0 ∧ (d ≠ 2 → b ≤ 1536) ∧ 0 < sdU d ∧ b % 16 = 0 := by
  obtain ⟨hn, hd, hb⟩ := h
  unfold sdU
  rcases hd with rfl | rfl | rfl | rfl
  · have : b = 256 * n := hb
    simp; omega
  · have : b = 128 * n := hb
    simp; omega
  · have : b = 64 * n := hb
    simp; omega
  · have : b = 32 * n := hb
    simp; omega
theorem nx_b {n d b a e : Int} (h : BRs n d b) (a0 : 0 ≤ a) (ae : a < e) (ha : a % sdU d = 0) (he : e % sdU d = 0) : (0 ≤ kvF n d b a e ∧ kvF n d b a e < 24) ∧ a + sdU d ≤ nxF n d b a e ∧ nxF n d b a e ≤ e ∧ nxF n d b a e % sdU d = 0 ∧ nxF n d b a e ≤ (a / b + 1) * b := by
  obtain ⟨b1, b2, b3, _, b5, _⟩ := BRs_b h
  have sd : sdU d = 16 ∨ sdU d = 4 := by unfold sdU; split <;> omega
  have dm := Int.emod_add_mul_ediv a b
  have m0 := Int.emod_nonneg a (show b ≠ 0 by omega)
  have m1 := Int.emod_lt_of_pos a (show 0 < b by omega)
  have am : (a % b) % sdU d = 0 := by
    obtain ⟨j, hj⟩ : ∃ j, b = sdU d * j := ⟨b / sdU d, by rcases sd with h | h <;> rw [h] at b3 ⊢ <;> omega⟩
    have : sdU d ∣ b := ⟨j, hj⟩
    rw [Int.emod_emod_of_dvd _ this]; exact ha
  have zm : zmin (e - a) (b - a % b) ≤ e - a ∧ zmin (e - a) (b - a % b) ≤ b - a % b ∧ 0 < zmin (e - a) (b - a % b) ∧ (zmin (e - a) (b - a % b) = e - a ∨ zmin (e - a) (b - a % b) = b - a % b) := by unfold zmin; split <;> omega
  have lm : zmin (e - a) (b - a % b) % sdU d = 0 := by
    rcases zm.2.2.2 with h | h <;> rw [h] <;> rcases sd with g | g <;> rw [g] at ha he b3 am ⊢ <;> omega
  obtain ⟨q1, q2, q3⟩ := nv_s (n := n) h.2.1 am zm.2.2.1 lm
  have e1 : (a / b + 1) * b = b * (a / b) + b := by rw [Int.add_mul, Int.mul_comm, Int.one_mul]
  unfold nxF kvF
  refine ⟨nvF_b, by omega, by omega, ?_, by omega⟩
  rcases sd with g | g <;> rw [g] at ha q2 ⊢ <;> omega
end
end
section
section
/-! ===== the text of a span ===== -/
noncomputable def spT (n d b m : Int) (st al : Int → Int) : Nat → Int → Int → List Int
  | 0, _, _ => []
  | f + 1, a, e => if a < e then ntA m st al (kvF n d b a e) ++ ((if nxF n d b a e < e ∧ ¬ m = 0 then [126] else []) ++ (32 :: ((if nxF n d b a e % b = 0 then [124, 10] else []) ++ spT n d b m st al f (nxF n d b a e) e))) else []
theorem spT_i {n d b m : Int} {st al : Int → Int} (h : BRs n d b) {e : Int} (he : e % sdU d = 0) : ∀ (f f' : Nat) (a : Int), 0 ≤ a → a % sdU d = 0 → e - a ≤ sdU d * f → e - a ≤ sdU d * f' → spT n d b m st al f a e = spT n d b m st al f' a e := by
  have s0 := (BRs_b h).2.2.2.2.1
  intro f
  induction f with
  | zero =>
    intro f' a a0 ha h1 h2
    have : ¬ a < e := by simp at h1; omega
    cases f' with
    | zero => rfl
    | succ f' => rw [spT, spT, if_neg this]
  | succ f ih =>
    intro f' a a0 ha h1 h2
    by_cases z : a < e
    · cases f' with
      | zero => simp at h2; omega
      | succ f' =>
        obtain ⟨_, n1, n2, n3, _⟩ := nx_b h a0 z ha he
        have e1 : sdU d * ((f + 1 : Nat) : Int) = sdU d * f + sdU d := by rw [show ((f + 1 : Nat) : Int) = (f : Int) + 1 by omega, Int.mul_add, Int.mul_one]
        have e2 : sdU d * ((f' + 1 : Nat) : Int) = sdU d * f' + sdU d := by rw [show ((f' + 1 : Nat) : Int) = (f' : Int) + 1 by omega, Int.mul_add, Int.mul_one]
        rw [spT, spT, if_pos z, if_pos z, ih f' (nxF n d b a e) (by omega) n3 (by omega) (by omega)]
    · cases f' with
      | zero => rw [spT, spT, if_neg z]
      | succ f' => rw [spT, spT, if_neg z, if_neg z]
/-- the text of a span -/
noncomputable def spX (n d b m : Int) (st al : Int → Int) (a e : Int) : List Int := spT n d b m st al (e - a).toNat a e
theorem spX_0 {n d b m a e : Int} {st al : Int → Int} (h : ¬ a < e) : spX n d b m st al a e = [] := by
  unfold spX
  rw [show (e - a).toNat = 0 by omega, spT]
theorem spX_u {n d b m a e : Int} {st al : Int → Int} (h : BRs n d b) (a0 : 0 ≤ a) (ha : a % sdU d = 0) (he : e % sdU d = 0) (z : a < e) : spX n d b m st al a e = ntA m st al (kvF n d b a e) ++ ((if nxF n d b a e < e ∧ ¬ m = 0 then [126] else []) ++ (32 :: ((if nxF n d b a e % b = 0 then [124, 10] else []) ++ spX n d b m st al (nxF n d b a e) e))) := by
  have s0 := (BRs_b h).2.2.2.2.1
  have sd : sdU d = 16 ∨ sdU d = 4 := by unfold sdU; split <;> omega
  obtain ⟨_, n1, n2, n3, _⟩ := nx_b h a0 z ha he
  unfold spX
  obtain ⟨f, hf⟩ : ∃ f, (e - a).toNat = f + 1 := ⟨(e - a).toNat - 1, by omega⟩
  rw [hf, spT, if_pos z, spT_i (m := m) (st := st) (al := al) h he f (e - nxF n d b a e).toNat (nxF n d b a e) (by omega) n3 (by rcases sd with g | g <;> rw [g] at n1 ⊢ <;> omega) (by rcases sd with g | g <;> rw [g] <;> omega)]
/-- what the scribe stands on while it writes: the page, the bar, the file's heads -/
noncomputable def SCq (K : zK) (o n d b : Int) (q : zF × zB) : Prop := (q.1 7 0 0 = o ∧ 0 ≤ o ∧ o < K.2 8) ∧ q.1 7 0 1 = 1 ∧ q.1 7 0 3 = b ∧ q.1 7 0 4 = 0 ∧ q.2 8 o 0 4 = n ∧ q.2 8 o 0 5 = d
noncomputable def EVq (m : Int) (st al : Int → Int) (q : zF × zB) : Prop := q.1 1 0 10 = m ∧ (0 ≤ m ∧ m ≤ 6) ∧ (∀ k, 0 ≤ k → k < m → q.2 1 0 12 k = st k ∧ q.2 1 0 13 k = al k ∧ (0 ≤ st k ∧ st k ≤ 62) ∧ (-7 ≤ al k ∧ al k ≤ 7))
noncomputable def KKq (K : zK) : Prop := 2 ≤ K.2 0 ∧ 0 < K.2 7 ∧ 0 < K.2 1 ∧ 60000 ≤ K.1
theorem C_sp {K : zK} {q : zF × zB} {o n d b m e : Int} {st al : Int → Int} (hK : KKq K) (h : BRs n d b) (hq : SCq K o n d b q) (hv : EVq m st al q) (he : e % sdU d = 0) (e1 : 0 ≤ e ∧ e ≤ 400000) : ∀ (f m1 : Nat) (cnt a : Int) (T : List Int) (F : zF) (B : zB), 0 ≤ a → a ≤ 400000 → a % sdU d = 0 → e - a ≤ sdU d * f → 0 ≤ cnt → cnt + f ≤ 51199 → f < m1 → TC q T F B → ∃ F' B', f_Scribe_writeSpan_5 K m1 cnt a 0 e F B = some (0, F', B') ∧ TC q (T ++ spT n d b m st al f a e) F' B' := by
  obtain ⟨k0, k7, k1, kf⟩ := hK
  obtain ⟨⟨q0, o0⟩, q1, q3, q4, p4, p5⟩ := hq
  obtain ⟨b1, b2, b3, _, b5, _⟩ := BRs_b h
  intro f
  induction f with
  | zero =>
    intro m1 cnt a T F B a0 a1 ha hf c0 cl hm w
    obtain ⟨p, rfl⟩ : ∃ p, m1 = p + 1 := ⟨m1 - 1, by omega⟩
    have z : ¬ a < e := by simp at hf; omega
    refine ⟨F, B, ?_, by rw [spT, List.append_nil]; exact w⟩
    rw [f_Scribe_writeSpan_5, if_pos (by unfold r32; omega), if_neg (by omega), if_pos (by unfold r32; omega), if_pos (by unfold r32; omega), if_pos (by omega), f_Scribe_writeSpan_122]
  | succ f ih =>
    intro m1 cnt a T F B a0 a1 ha hf c0 cl hm w
    obtain ⟨p, rfl⟩ : ∃ p, m1 = p + 1 := ⟨m1 - 1, by omega⟩
    by_cases z : a < e
    · obtain ⟨kb, n1, n2, n3, _⟩ := nx_b h a0 z ha he
      have f3 : F 7 0 3 = b := by rw [w.2.1 7 0 3 (by omega)]; exact q3
      have f0 : F 7 0 0 = o := by rw [w.2.1 7 0 0 (by omega)]; exact q0
      have zr : ∀ x, 0 ≤ x → x ≤ 400000 → zrm x b = x % b := fun x x0 x1 => zrm_e x0 (by unfold r32; omega) (by omega) (by unfold r32; omega)
      have m0 := Int.emod_nonneg a (show b ≠ 0 by omega)
      have m2 := Int.emod_lt_of_pos a (show 0 < b by omega)
      have zm : 0 ≤ zmin (e - a) (b - a % b) ∧ zmin (e - a) (b - a % b) ≤ b := by unfold zmin; split <;> omega
      have m3 := Int.emod_nonneg (nxF n d b a e) (show b ≠ 0 by omega)
      have m4 := Int.emod_lt_of_pos (nxF n d b a e) (show 0 < b by omega)
      obtain ⟨F1, B1, e1', w1⟩ := C_wn (g := if e ≤ nxF n d b a e then 0 else 1) k0 k7 k1 (by omega) q1 q4 hv.1 hv.2.1 hv.2.2 kb (by split <;> omega) w
      have g3 : F1 7 0 3 = b := by rw [w1.2.1 7 0 3 (by omega)]; exact q3
      have g1 : F1 7 0 1 = 1 := by rw [w1.2.1 7 0 1 (by omega)]; exact q1
      have ti : (if (if e ≤ nxF n d b a e then (0 : Int) else 1) = 1 ∧ ¬ m = 0 then [(126 : Int)] else []) = (if nxF n d b a e < e ∧ ¬ m = 0 then [126] else []) := by
        by_cases y : e ≤ nxF n d b a e
        · rw [if_pos y, if_neg (show ¬ ((0 : Int) = 1 ∧ _) from fun c => by have := c.1; omega), if_neg (show ¬ (nxF n d b a e < e ∧ _) from fun c => by have := c.1; omega)]
        · rw [if_neg y]
          by_cases u : m = 0
          · rw [if_neg (fun c => c.2 u), if_neg (fun c => c.2 u)]
          · rw [if_pos ⟨rfl, u⟩, if_pos ⟨by omega, u⟩]
      rw [ti] at w1
      obtain ⟨F2, B2, e2, w2⟩ : ∃ F2 B2, (if nxF n d b a e % b = 0 then zbind (f_ByteRow_putText K 1 13 F1 B1) (fun r24 F24 B24 => f_Scribe_writeSpan_116 (f_Scribe_writeSpan_5 K p) K (nxF n d b a e) cnt 0 e F24 B24) else f_Scribe_writeSpan_116 (f_Scribe_writeSpan_5 K p) K (nxF n d b a e) cnt 0 e F1 B1) = f_Scribe_writeSpan_5 K p (cnt + 1) (nxF n d b a e) 0 e F2 B2 ∧ TC q (T ++ (ntA m st al (kvF n d b a e) ++ ((if nxF n d b a e < e ∧ ¬ m = 0 then [126] else []) ++ [32])) ++ (if nxF n d b a e % b = 0 then [124, 10] else [])) F2 B2 := by
        by_cases y : nxF n d b a e % b = 0
        · obtain ⟨F2, B2, e2, w2⟩ := C_strg (s := 13) (U := [124, 10]) k0 (by omega) (by decide) (by decide) (by decide) (by decide) w1
          rw [if_pos y, if_pos y, e2, zb_s]
          exact ⟨F2, B2, rfl, w2⟩
        · rw [if_neg y, if_neg y, List.append_nil]
          exact ⟨F1, B1, rfl, w1⟩
      have es : sdU d * ((f + 1 : Nat) : Int) = sdU d * f + sdU d := by rw [show ((f + 1 : Nat) : Int) = (f : Int) + 1 by omega, Int.mul_add, Int.mul_one]
      obtain ⟨F3, B3, e3, w3⟩ := ih p (cnt + 1) (nxF n d b a e) _ F2 B2 (by omega) (by omega) n3 (by omega) (by omega) (by omega) (by omega) w2
      refine ⟨F3, B3, ?_, ?_⟩
      · have e95 : f_Scribe_writeSpan_95 (f_Scribe_writeSpan_5 K p) K (nxF n d b a e) cnt 0 e 0 (kvF n d b a e) (if e ≤ nxF n d b a e then 0 else 1) F B = some (0, F3, B3) := by
          unfold f_Scribe_writeSpan_95
          rw [if_pos ⟨by omega, k7⟩, e1', zb_s, if_pos ⟨by omega, k7⟩, g3, if_pos (iI_n0 (by omega) (by unfold r32; omega)), zr _ (by omega) (by omega), if_pos (by unfold r32; omega), g1, if_pos (show (0 : Int) ≤ 1 ∧ (1 : Int) < K.2 0 by omega), e2, e3]
        rw [f_Scribe_writeSpan_5, if_pos (by unfold r32; omega), if_neg (by omega), if_pos (by unfold r32; omega), if_pos (by unfold r32; omega), if_neg (by omega), if_pos ⟨by omega, k7⟩, f3, if_pos (by unfold r32; omega), if_neg (by omega), if_pos (iI_n0 (by omega) (by unfold r32; omega)), if_pos (by unfold r32; omega), zr a a0 a1, if_pos (by unfold r32; omega), f0, if_pos o0, w.2.2 8 o 0 4 (by omega), w.2.2 8 o 0 5 (by omega), p4, p5, C_next (by omega) h.1 h.2.1 m0 (by omega) zm.1 (by omega), zb_s]
        have ek : nvF n d (a % b) (zmin (e - a) (b - a % b)) = kvF n d b a e := rfl
        rw [ek, C_fine kb.1 kb.2, zb_s]
        have en : a + fv (kvF n d b a e) = nxF n d b a e := rfl
        rw [en, if_pos (by unfold r32; omega), ← e95]
        by_cases y : e ≤ nxF n d b a e
        · rw [if_pos y, if_pos y]
        · rw [if_neg y, if_neg y]
      · rw [spT, if_pos z]
        simp only [List.append_assoc, List.singleton_append, List.cons_append, List.nil_append] at w3 ⊢
        exact w3
    · refine ⟨F, B, ?_, by rw [spT, if_neg z, List.append_nil]; exact w⟩
      rw [f_Scribe_writeSpan_5, if_pos (by unfold r32; omega), if_neg (by omega), if_pos (by unfold r32; omega), if_pos (by unfold r32; omega), if_pos (by omega), f_Scribe_writeSpan_122]
/-- a span written by the class -/
theorem C_span {K : zK} {q : zF × zB} {o n d b m a e : Int} {st al : Int → Int} {T : List Int} {F : zF} {B : zB} (hK : KKq K) (h : BRs n d b) (hq : SCq K o n d b q) (hv : EVq m st al q) (a0 : 0 ≤ a ∧ a ≤ 400000) (ha : a % sdU d = 0) (he : e % sdU d = 0) (e1 : 0 ≤ e ∧ e ≤ 100 * b) (w : TC q T F B) : ∃ F' B', f_Scribe_writeSpan K 0 a e F B = some (0, F', B') ∧ TC q (T ++ spX n d b m st al a e) F' B' := by
  have hb := BRs_b h
  have sd : (sdU d = 16 ∧ d = 2) ∨ (sdU d = 4 ∧ d ≠ 2) := by unfold sdU; split <;> omega
  have s1 : e - a ≤ sdU d * (((e - a) / sdU d).toNat : Int) := by
    rcases sd with ⟨g, _⟩ | ⟨g, _⟩ <;> rw [g] at ha he ⊢ <;> omega
  have s2 : e - a ≤ sdU d * ((e - a).toNat : Int) := by
    rcases sd with ⟨g, _⟩ | ⟨g, _⟩ <;> rw [g] at ha he ⊢ <;> omega
  have s3 : (((e - a) / sdU d).toNat : Int) ≤ 38400 := by
    rcases sd with ⟨g, g'⟩ | ⟨g, g'⟩ <;> rw [g] at ha he ⊢ <;> omega
  obtain ⟨F1, B1, x1, x2⟩ := C_sp (m := m) (st := st) (al := al) hK h hq hv he (by omega) ((e - a) / sdU d).toNat K.1 0 a T F B a0.1 a0.2 ha s1 (by omega) (by omega) (by have := hK.2.2.2; omega) w
  refine ⟨F1, B1, x1, ?_⟩
  unfold spX
  rw [← spT_i (m := m) (st := st) (al := al) h he ((e - a) / sdU d).toNat (e - a).toNat a a0.1 ha s1 s2]
  exact x2
end
end
section
section
/-! ===== sounds that begin at one place ===== -/
noncomputable def gplF (g D t : Int) : Int := (2 * t * g + 4 * D) / (8 * D)
/-- what is known of the sounds of an opened file -/
noncomputable def DTq (g D N : Int) (bg en tn tk : Int → Int) : Prop := (g = 4 ∨ g = 8 ∨ g = 16 ∨ g = 32) ∧ (1 ≤ D ∧ D ≤ 960) ∧ (1 ≤ N ∧ N ≤ 400) ∧ (∀ i, 0 ≤ i → i < N → (0 ≤ tk i ∧ tk i ≤ 7) ∧ (0 ≤ tn i ∧ tn i < 128) ∧ (0 ≤ bg i ∧ bg i ≤ 402921619456) ∧ (0 ≤ en i ∧ en i ≤ 402921619456)) ∧ (∀ i, 0 ≤ i → i + 1 < N → tk i ≤ tk (i + 1) ∧ (tk i = tk (i + 1) → bg i ≤ bg (i + 1)))
theorem gpl_b {g D t : Int} (hg : g = 4 ∨ g = 8 ∨ g = 16 ∨ g = 32) (hD : 1 ≤ D ∧ D ≤ 960) (ht : 0 ≤ t ∧ t ≤ 402921619456) : 0 ≤ gplF g D t ∧ gplF g D t ≤ 30000000000000 := by
  have x0 : 0 ≤ 2 * t * g + 4 * D ∧ 2 * t * g + 4 * D ≤ 30000000000000 := by rcases hg with rfl | rfl | rfl | rfl <;> omega
  unfold gplF
  exact ⟨Int.ediv_nonneg x0.1 (by omega), Int.le_trans (Int.ediv_le_self _ x0.1) x0.2⟩
theorem gpl_m {g D t u : Int} (hg : g = 4 ∨ g = 8 ∨ g = 16 ∨ g = 32) (hD : 1 ≤ D ∧ D ≤ 960) (h : t ≤ u) : gplF g D t ≤ gplF g D u := by
  unfold gplF
  refine Int.ediv_le_ediv (by omega) ?_
  rcases hg with rfl | rfl | rfl | rfl <;> omega
/-- the file as the scribe has it -/
noncomputable def CFq (K : zK) (o g D N : Int) (bg en tn tk : Int → Int) (F : zF) (B : zB) : Prop := (F 7 0 0 = o ∧ 0 ≤ o ∧ o < K.2 8) ∧ F 7 0 2 = g ∧ B 8 o 0 1 = D ∧ F 8 o 2 = N ∧ ∀ i, 0 ≤ i → i < N → B 8 o 220 i = tk i ∧ B 8 o 222 i = tn i ∧ B 8 o 224 i = bg i ∧ B 8 o 225 i = en i
theorem CFq_f {K : zK} {o g D N : Int} {bg en tn tk : Int → Int} {F F' : zF} {B B' : zB} (h : CFq K o g D N bg en tn tk F B) (f0 : F' 7 0 0 = F 7 0 0) (f2 : F' 7 0 2 = F 7 0 2) (f8 : F' 8 o 2 = F 8 o 2) (b : ∀ k x, B' 8 o k x = B 8 o k x) : CFq K o g D N bg en tn tk F' B' := by
  obtain ⟨h1, h2, h3, h4, h5⟩ := h
  refine ⟨by rw [f0]; exact h1, by rw [f2]; exact h2, by rw [b]; exact h3, by rw [f8]; exact h4, fun i i0 i1 => ?_⟩
  rw [b, b, b, b]; exact h5 i i0 i1
theorem C_gp {K : zK} {o g D N : Int} {bg en tn tk : Int → Int} {F : zF} {B : zB} {t : Int} (h7 : 0 < K.2 7) (dq : DTq g D N bg en tn tk) (h : CFq K o g D N bg en tn tk F B) (ht : 0 ≤ t ∧ t ≤ 402921619456) : f_Scribe_gridPlace K 0 t F B = some (gplF g D t, F, B) := by
  obtain ⟨hg, hD, _⟩ := dq
  obtain ⟨h1, h2, h3, h4, h5⟩ := h
  have zm : zmax D 1 = D := by unfold zmax; split <;> omega
  have x0 : 0 ≤ 2 * t * g + 4 * D ∧ 2 * t * g + 4 * D ≤ 30000000000000 := by rcases hg with rfl | rfl | rfl | rfl <;> omega
  unfold f_Scribe_gridPlace gplF
  rw [if_pos ⟨by omega, h7⟩, h1.1, if_pos h1.2, h3, zm, h2, if_pos (by unfold r32; omega), if_pos (by unfold r32; omega), if_pos (by unfold r32; omega), if_pos (lI_n0 (by omega) (by unfold r64; omega)), zldv_e x0.1 (by omega) (by omega) (by omega)]
/-- the first sound behind s, of those before z, that begins at another place than v -/
noncomputable def grN (gB : Int → Int) (z v : Int) : Nat → Int → Int
  | 0, t => t
  | f + 1, t => if t < z ∧ gB t = v then grN gB z v f (t + 1) else t
noncomputable def mxR (gE : Int → Int) : Nat → Int → Int → Int
  | 0, _, a => a
  | f + 1, t, a => mxR gE f (t + 1) (zmax a (gE t))
theorem grN_p {gB : Int → Int} {z v : Int} : ∀ (f : Nat) (t : Int), z - t ≤ f → t ≤ z → t ≤ grN gB z v f t ∧ grN gB z v f t ≤ z ∧ (∀ i, t ≤ i → i < grN gB z v f t → gB i = v) ∧ (grN gB z v f t < z → ¬ gB (grN gB z v f t) = v) := by
  intro f
  induction f with
  | zero =>
    intro t h1 h2
    rw [grN]
    exact ⟨by omega, h2, fun i a b => by omega, fun a => by omega⟩
  | succ f ih =>
    intro t h1 h2
    rw [grN]
    by_cases c : t < z ∧ gB t = v
    · rw [if_pos c]
      obtain ⟨a1, a2, a3, a4⟩ := ih (t + 1) (by omega) (by omega)
      refine ⟨by omega, a2, fun i b1 b2 => ?_, a4⟩
      by_cases e : i = t
      · rw [e]; exact c.2
      · exact a3 i (by omega) b2
    · rw [if_neg c]
      exact ⟨by omega, h2, fun i a b => by omega, fun a e => c ⟨a, e⟩⟩
theorem grN_i {gB : Int → Int} {z v : Int} : ∀ (f f' : Nat) (t : Int), z - t ≤ f → z - t ≤ f' → grN gB z v f t = grN gB z v f' t := by
  intro f
  induction f with
  | zero =>
    intro f' t h1 h2
    cases f' with
    | zero => rfl
    | succ f' => rw [grN, grN, if_neg (by omega)]
  | succ f ih =>
    intro f' t h1 h2
    cases f' with
    | zero => rw [grN, grN, if_neg (by omega)]
    | succ f' =>
      rw [grN, grN]
      by_cases c : t < z ∧ gB t = v
      · rw [if_pos c, if_pos c]; exact ih f' (t + 1) (by omega) (by omega)
      · rw [if_neg c, if_neg c]
theorem mxR_b {gE : Int → Int} {M : Int} : ∀ (f : Nat) (t a : Int), a ≤ M → (∀ i, t ≤ i → i < t + f → gE i ≤ M) → a ≤ mxR gE f t a ∧ mxR gE f t a ≤ M := by
  intro f
  induction f with
  | zero => intro t a h1 h2; rw [mxR]; omega
  | succ f ih =>
    intro t a h1 h2
    have e := h2 t (by omega) (by omega)
    have zm : a ≤ zmax a (gE t) ∧ zmax a (gE t) ≤ M := by unfold zmax; split <;> omega
    have := ih (t + 1) (zmax a (gE t)) zm.2 (fun i a b => h2 i (by omega) (by omega))
    rw [mxR]; omega
theorem mxR_s {gE : Int → Int} : ∀ (f : Nat) (t a : Int), mxR gE (f + 1) t a = zmax (mxR gE f t a) (gE (t + f)) := by
  intro f
  induction f with
  | zero => intro t a; rw [mxR, mxR, mxR]; simp
  | succ f ih =>
    intro t a
    rw [mxR, ih (t + 1) (zmax a (gE t)), mxR, show t + 1 + (f : Int) = t + ((f + 1 : Nat) : Int) by omega]
/-- where the group that begins with s ends, and how long it sounds -/
noncomputable def nxG (gB : Int → Int) (s z : Int) : Int := grN gB z (gB s) 400 s
noncomputable def toG (gB gE : Int → Int) (s z : Int) : Int := if nxG gB s z < z then zmin (mxR gE (nxG gB s z - s).toNat s (gB s + 1)) (gB (nxG gB s z)) else mxR gE (nxG gB s z - s).toNat s (gB s + 1)
theorem nxG_p {gB : Int → Int} {s z : Int} (h : s < z) (hz : z ≤ 400) (s0 : 0 ≤ s) : s < nxG gB s z ∧ nxG gB s z ≤ z ∧ (∀ i, s ≤ i → i < nxG gB s z → gB i = gB s) ∧ (nxG gB s z < z → ¬ gB (nxG gB s z) = gB s) := by
  have h1 := grN_p (gB := gB) (z := z) (v := gB s) 400 s (by omega) (by omega)
  have h2 : nxG gB s z = grN gB z (gB s) 399 (s + 1) := by
    unfold nxG
    rw [grN, if_pos ⟨h, rfl⟩]
  have h3 := grN_p (gB := gB) (z := z) (v := gB s) 399 (s + 1) (by omega) (by omega)
  rw [← h2] at h3
  exact ⟨by omega, h1.2.1, h1.2.2.1, h1.2.2.2⟩
/-- the tones of the sounds s .. t - 1 -/
noncomputable def HTn (tn : Int → Int) (s t : Int) (B : zB) : Prop := (∀ i, s ≤ i → i < t → B 7 0 8 (tn i) = 1) ∧ (∀ x, 0 ≤ x → x < 128 → B 7 0 8 x = 0 ∨ (B 7 0 8 x = 1 ∧ ∃ i, s ≤ i ∧ i < t ∧ tn i = x))
noncomputable def gthF (F F' : zF) : Prop := ∀ c y k, ¬ (c = 7 ∧ y = 0 ∧ 5 ≤ k ∧ k ≤ 7) → F' c y k = F c y k
noncomputable def gthB (B B' : zB) : Prop := ∀ c y k x, ¬ (c = 7 ∧ y = 0 ∧ k = 8) → B' c y k x = B c y k x
section
variable {K : zK} {o g D N : Int} {bg en tn tk : Int → Int}
theorem C_g158 {z t v a : Int} {F : zF} {B : zB} (h7 : 0 < K.2 7) (dq : DTq g D N bg en tn tk) (h : CFq K o g D N bg en tn tk F B) (hz : z ≤ N) (t0 : 0 ≤ t ∧ t ≤ z) (f7 : F 7 0 7 = t) (f6 : F 7 0 6 = a) (ha : 0 ≤ a ∧ a ≤ 40000000000000) : f_Scribe_gatherEvent_158 K 0 z F B = some (0, zup3 F 7 0 6 (if t < z then zmin a (gplF g D (bg t)) else a), B) := by
  have h' := h
  obtain ⟨h1, h2, h3, h4, h5⟩ := h'
  have hN := dq.2.2.1
  unfold f_Scribe_gatherEvent_158 f_Scribe_gatherEvent_195
  rw [if_pos ⟨by omega, h7⟩, f7, if_pos (by unfold r32; omega), if_pos (by unfold r32; omega)]
  by_cases c : z ≤ t
  · rw [if_pos c, if_neg (by omega)]
    have : zup3 F 7 0 6 a = F := by
      funext c' y k
      rw [zup3_v]
      by_cases e : c' = 7 ∧ y = 0 ∧ k = 6
      · rw [if_pos e, e.1, e.2.1, e.2.2, f6]
      · rw [if_neg e]
    rw [this]
  · obtain ⟨_, _, b1, _⟩ := h5 t t0.1 (by omega)
    have bb := (dq.2.2.2.1 t t0.1 (by omega)).2.2.1
    have gb := gpl_b (t := bg t) dq.1 dq.2.1 bb
    rw [if_neg c, h1.1, if_pos h1.2, if_pos (by omega), b1, C_gp h7 dq h bb, zb_s, f6, if_pos (by unfold r64; omega), if_pos (by unfold r64; omega), if_pos (by omega)]
theorem C_g58 {z s : Int} (h7 : 0 < K.2 7) (dq : DTq g D N bg en tn tk) (hz : z ≤ N) (hs : 0 ≤ s ∧ s < z) : ∀ (f m : Nat) (t a : Int) (F : zF) (B : zB), z - t ≤ f → f < m → s ≤ t → t ≤ z → CFq K o g D N bg en tn tk F B → F 7 0 7 = t → F 7 0 6 = a → F 7 0 5 = gplF g D (bg s) → a = mxR (fun i => gplF g D (en i)) (t - s).toNat s (gplF g D (bg s) + 1) → HTn tn s t B → ∃ F' B', f_Scribe_gatherEvent_58 K m 0 z F B = some (0, F', B') ∧ gthF F F' ∧ gthB B B' ∧ F' 7 0 5 = gplF g D (bg s) ∧ F' 7 0 7 = grN (fun i => gplF g D (bg i)) z (gplF g D (bg s)) f t ∧ F' 7 0 6 = (if grN (fun i => gplF g D (bg i)) z (gplF g D (bg s)) f t < z then zmin (mxR (fun i => gplF g D (en i)) (grN (fun i => gplF g D (bg i)) z (gplF g D (bg s)) f t - s).toNat s (gplF g D (bg s) + 1)) (gplF g D (bg (grN (fun i => gplF g D (bg i)) z (gplF g D (bg s)) f t))) else mxR (fun i => gplF g D (en i)) (grN (fun i => gplF g D (bg i)) z (gplF g D (bg s)) f t - s).toNat s (gplF g D (bg s) + 1)) ∧ HTn tn s (grN (fun i => gplF g D (bg i)) z (gplF g D (bg s)) f t) B' := by
  have hN := dq.2.2.1
  have hb : ∀ i, 0 ≤ i → i < N → (0 ≤ gplF g D (bg i) ∧ gplF g D (bg i) ≤ 30000000000000) ∧ (0 ≤ gplF g D (en i) ∧ gplF g D (en i) ≤ 30000000000000) := fun i i0 i1 => ⟨gpl_b dq.1 dq.2.1 (dq.2.2.2.1 i i0 i1).2.2.1, gpl_b dq.1 dq.2.1 (dq.2.2.2.1 i i0 i1).2.2.2⟩
  have bs := (hb s hs.1 (by omega)).1
  have ab : ∀ t, s ≤ t → t ≤ z → 0 ≤ mxR (fun i => gplF g D (en i)) (t - s).toNat s (gplF g D (bg s) + 1) ∧ mxR (fun i => gplF g D (en i)) (t - s).toNat s (gplF g D (bg s) + 1) ≤ 40000000000000 := fun t t0 t1 => by
    have := mxR_b (gE := fun i => gplF g D (en i)) (M := 40000000000000) (t - s).toNat s (gplF g D (bg s) + 1) (by omega) (fun i i0 i1 => by have := (hb i (by omega) (by omega)).2; show gplF g D (en i) ≤ _; omega)
    omega
  -- the end of the group
  have fin : ∀ (t a : Int) (F : zF) (B : zB), s ≤ t → t ≤ z → CFq K o g D N bg en tn tk F B → F 7 0 7 = t → F 7 0 6 = a → F 7 0 5 = gplF g D (bg s) → a = mxR (fun i => gplF g D (en i)) (t - s).toNat s (gplF g D (bg s) + 1) → HTn tn s t B → ∃ F' B', f_Scribe_gatherEvent_158 K 0 z F B = some (0, F', B') ∧ gthF F F' ∧ gthB B B' ∧ F' 7 0 5 = gplF g D (bg s) ∧ F' 7 0 7 = t ∧ F' 7 0 6 = (if t < z then zmin (mxR (fun i => gplF g D (en i)) (t - s).toNat s (gplF g D (bg s) + 1)) (gplF g D (bg t)) else mxR (fun i => gplF g D (en i)) (t - s).toNat s (gplF g D (bg s) + 1)) ∧ HTn tn s t B' := fun t a F B st tz hc f7 f6 f5 ea ht => by
    have := ab t st tz
    refine ⟨_, B, C_g158 (v := 0) h7 dq hc hz (by omega) f7 f6 (by omega), fun c y k n => by rw [zup3_v, if_neg (by omega)], fun _ _ _ _ _ => rfl, by rw [zup3_v, if_neg (by omega)]; exact f5, by rw [zup3_v, if_neg (by omega)]; exact f7, by rw [zup3_v, if_pos (by omega), ea], ht⟩
  intro f
  induction f with
  | zero =>
    intro m t a F B hf hm st tz hc f7 f6 f5 ea ht
    obtain ⟨p, rfl⟩ : ∃ p, m = p + 1 := ⟨m - 1, by omega⟩
    obtain ⟨F1, B1, x1, x2⟩ := fin t a F B st tz hc f7 f6 f5 ea ht
    refine ⟨F1, B1, ?_, by rw [grN]; exact x2⟩
    rw [f_Scribe_gatherEvent_58, if_pos ⟨by omega, h7⟩, f7, if_pos (by unfold r32; omega), if_pos (by unfold r32; omega), if_pos (by omega), x1]
  | succ f ih =>
    intro m t a F B hf hm st tz hc f7 f6 f5 ea ht
    obtain ⟨p, rfl⟩ : ∃ p, m = p + 1 := ⟨m - 1, by omega⟩
    have hc' := hc
    obtain ⟨h1, h2, h3, h4, h5⟩ := hc'
    rw [grN]
    by_cases c : t < z ∧ gplF g D (bg t) = gplF g D (bg s)
    · obtain ⟨_, b2, b3, b4⟩ := h5 t (by omega) (by omega)
      obtain ⟨_, d2, d3, d4⟩ := dq.2.2.2.1 t (by omega) (by omega)
      have hbt := hb t (by omega) (by omega)
      have az := ab t st tz
      have za : zand (tn t) 127 = tn t := by rw [(rm128 d2.1 (by omega)).2]; omega
      have hc2 : CFq K o g D N bg en tn tk (zup3 (zup3 F 7 0 6 (zmax a (gplF g D (en t)))) 7 0 7 (t + 1)) (zup4 B 7 0 8 (tn t) 1) := CFq_f hc (by rw [zup3_v, if_neg (by omega), zup3_v, if_neg (by omega)]) (by rw [zup3_v, if_neg (by omega), zup3_v, if_neg (by omega)]) (by rw [zup3_v, if_neg (by omega), zup3_v, if_neg (by omega)]) (fun k x => by rw [zup4_v, if_neg (by omega)])
      obtain ⟨F1, B1, x1, x2, x3, x4⟩ := ih p (t + 1) (zmax a (gplF g D (en t))) _ _ (by omega) (by omega) (by omega) (by omega) hc2 (by rw [zup3_v, if_pos (by omega)]) (by rw [zup3_v, if_neg (by omega), zup3_v, if_pos (by omega)]) (by rw [zup3_v, if_neg (by omega), zup3_v, if_neg (by omega)]; exact f5) (by
        rw [show (t + 1 - s).toNat = (t - s).toNat + 1 by omega, mxR_s, ← ea, show s + ((t - s).toNat : Int) = t by omega]) ⟨fun i i0 i1 => by
          rw [zup4_v]
          by_cases e : tn i = tn t
          · rw [if_pos (by omega)]
          · rw [if_neg (by omega)]
            by_cases e' : i = t
            · rw [e'] at e; exact absurd rfl e
            · exact ht.1 i i0 (by omega), fun x x0 x1 => by
          rw [zup4_v]
          by_cases e : x = tn t
          · rw [if_pos (by omega)]; exact Or.inr ⟨rfl, t, by omega, by omega, e.symm⟩
          · rw [if_neg (by omega)]
            rcases ht.2 x x0 x1 with q | ⟨q, i, i0, i1, i2⟩
            · exact Or.inl q
            · exact Or.inr ⟨q, i, i0, by omega, i2⟩⟩
      refine ⟨F1, B1, ?_, fun c' y k n => ?_, fun c' y k x n => ?_, by rw [if_pos c]; exact x4⟩
      · rw [f_Scribe_gatherEvent_58, if_pos ⟨by omega, h7⟩, f7, if_pos (by unfold r32; omega), if_pos (by unfold r32; omega), if_neg (by omega), h1.1, if_pos h1.2, if_pos (by omega), b3, C_gp h7 dq hc d3, zb_s, if_pos (by unfold r64; omega), f5, if_pos (by unfold r64; omega), if_pos (zcmp_0.mpr c.2), h1.1, if_pos h1.2, f7, if_pos (by omega), b4, C_gp h7 dq hc d4, zb_s, f6, if_pos (by unfold r64; omega), if_pos (by unfold r64; omega), h1.1, if_pos h1.2, f7, if_pos (by omega), b2, za, if_pos (by omega)]
        exact x1
      · rw [x2 c' y k n, zup3_v, if_neg (by omega), zup3_v, if_neg (by omega)]
      · rw [x3 c' y k x n, zup4_v, if_neg (by omega)]
    · obtain ⟨F1, B1, x1, x2⟩ := fin t a F B st tz hc f7 f6 f5 ea ht
      refine ⟨F1, B1, ?_, by rw [if_neg c]; exact x2⟩
      rw [f_Scribe_gatherEvent_58, if_pos ⟨by omega, h7⟩, f7, if_pos (by unfold r32; omega), if_pos (by unfold r32; omega)]
      by_cases y : z ≤ t
      · rw [if_pos y, x1]
      · obtain ⟨_, b2, b3, b4⟩ := h5 t (by omega) (by omega)
        obtain ⟨_, d2, d3, d4⟩ := dq.2.2.2.1 t (by omega) (by omega)
        have hbt := hb t (by omega) (by omega)
        rw [if_neg y, h1.1, if_pos h1.2, if_pos (by omega), b3, C_gp h7 dq hc d3, zb_s, if_pos (by unfold r64; omega), f5, if_pos (by unfold r64; omega), if_neg (fun x => c ⟨by omega, zcmp_0.mp x⟩), x1]
end
end
end
section
section
/-! ===== the class: groups gathered, tracks, the last place ===== -/
section
variable {K : zK} {o g D N : Int} {bg en tn tk : Int → Int}
theorem C_g36 {z s : Int} (h7 : 0 < K.2 7) (hK : 600 ≤ K.1) (dq : DTq g D N bg en tn tk) (hz : z ≤ N) (hs : 0 ≤ s ∧ s < z) : ∀ (d m : Nat) (i : Int) (F : zF) (B : zB), i + d = 128 → 0 ≤ i → d < m → CFq K o g D N bg en tn tk F B → F 7 0 7 = s → F 7 0 6 = gplF g D (bg s) + 1 → F 7 0 5 = gplF g D (bg s) → (∀ x, 0 ≤ x → x < i → B 7 0 8 x = 0) → ∃ F' B', f_Scribe_gatherEvent_36 K m i 0 z F B = some (0, F', B') ∧ gthF F F' ∧ gthB B B' ∧ F' 7 0 5 = gplF g D (bg s) ∧ F' 7 0 7 = nxG (fun i => gplF g D (bg i)) s z ∧ F' 7 0 6 = toG (fun i => gplF g D (bg i)) (fun i => gplF g D (en i)) s z ∧ HTn tn s (nxG (fun i => gplF g D (bg i)) s z) B' := by
  have hN := dq.2.2.1
  intro d
  induction d with
  | zero =>
    intro m i F B e i0 hm hc f7 f6 f5 hx
    obtain ⟨p, rfl⟩ : ∃ p, m = p + 1 := ⟨m - 1, by omega⟩
    obtain ⟨F1, B1, x1, x2⟩ := C_g58 h7 dq hz hs 400 K.1 s (gplF g D (bg s) + 1) F B (by omega) (by omega) (by omega) (by omega) hc f7 f6 f5 (by rw [show (s - s).toNat = 0 by omega, mxR]) ⟨fun i a b => by omega, fun x x0 x1 => Or.inl (hx x x0 (by omega))⟩
    refine ⟨F1, B1, ?_, x2⟩
    rw [f_Scribe_gatherEvent_36, if_pos ⟨by omega, h7⟩, if_pos (by unfold r32; omega), if_pos (by omega), x1]
  | succ d ih =>
    intro m i F B e i0 hm hc f7 f6 f5 hx
    obtain ⟨p, rfl⟩ : ∃ p, m = p + 1 := ⟨m - 1, by omega⟩
    obtain ⟨F1, B1, x1, x2, x3, x4⟩ := ih p (i + 1) F (zup4 B 7 0 8 i 0) (by omega) (by omega) (by omega) (CFq_f hc rfl rfl rfl (fun k x => by rw [zup4_v, if_neg (by omega)])) f7 f6 f5 (fun x x0 x1 => by
      rw [zup4_v]
      by_cases c : x = i
      · rw [if_pos (by omega)]
      · rw [if_neg (by omega)]; exact hx x x0 (by omega))
    refine ⟨F1, B1, ?_, x2, fun c y k x n => by rw [x3 c y k x n, zup4_v, if_neg (by omega)], x4⟩
    rw [f_Scribe_gatherEvent_36, if_pos ⟨by omega, h7⟩, if_pos (by unfold r32; omega), if_neg (by omega), if_pos (by omega), x1]
theorem C_ga {z s : Int} {F : zF} {B : zB} (h7 : 0 < K.2 7) (hK : 600 ≤ K.1) (dq : DTq g D N bg en tn tk) (hz : z ≤ N) (hs : 0 ≤ s ∧ s < z) (hc : CFq K o g D N bg en tn tk F B) : ∃ F' B', f_Scribe_gatherEvent K 0 s z F B = some (0, F', B') ∧ gthF F F' ∧ gthB B B' ∧ F' 7 0 5 = gplF g D (bg s) ∧ F' 7 0 7 = nxG (fun i => gplF g D (bg i)) s z ∧ F' 7 0 6 = toG (fun i => gplF g D (bg i)) (fun i => gplF g D (en i)) s z ∧ HTn tn s (nxG (fun i => gplF g D (bg i)) s z) B' := by
  have hN := dq.2.2.1
  have hc' := hc
  obtain ⟨h1, h2, h3, h4, h5⟩ := hc'
  obtain ⟨_, _, b3, _⟩ := h5 s hs.1 (by omega)
  have d3 := (dq.2.2.2.1 s hs.1 (by omega)).2.2.1
  have hc2 : CFq K o g D N bg en tn tk (zup3 (zup3 (zup3 F 7 0 5 (gplF g D (bg s))) 7 0 6 (gplF g D (bg s) + 1)) 7 0 7 s) B := CFq_f hc (by rw [zup3_v, if_neg (by omega), zup3_v, if_neg (by omega), zup3_v, if_neg (by omega)]) (by rw [zup3_v, if_neg (by omega), zup3_v, if_neg (by omega), zup3_v, if_neg (by omega)]) (by rw [zup3_v, if_neg (by omega), zup3_v, if_neg (by omega), zup3_v, if_neg (by omega)]) (fun _ _ => rfl)
  obtain ⟨F1, B1, x1, x2, x3⟩ := C_g36 (z := z) (s := s) h7 hK dq hz hs 128 K.1 0 _ B (by omega) (by omega) (by omega) hc2 (by rw [zup3_v, if_pos (by omega)]) (by rw [zup3_v, if_neg (by omega), zup3_v, if_pos (by omega)]) (by rw [zup3_v, if_neg (by omega), zup3_v, if_neg (by omega), zup3_v, if_pos (by omega)]) (fun x _ _ => by omega)
  refine ⟨F1, B1, ?_, fun c y k n => ?_, x3⟩
  · unfold f_Scribe_gatherEvent
    rw [if_pos ⟨by omega, h7⟩, h1.1, if_pos h1.2, if_pos (by omega), b3, C_gp h7 dq hc d3, zb_s, x1]
  · rw [x2 c y k n, zup3_v, if_neg (by omega), zup3_v, if_neg (by omega), zup3_v, if_neg (by omega)]
theorem C_te12 {s : Int} {F : zF} {B : zB} (h7 : 0 < K.2 7) (dq : DTq g D N bg en tn tk) (hs : 0 ≤ s ∧ s < N) (hc : CFq K o g D N bg en tn tk F B) : ∀ (f m : Nat) (t : Int), N - t ≤ f → f < m → s ≤ t → t ≤ N → f_Scribe_trackEnd_12 K m t o 0 s F B = some (grN tk N (tk s) f t, F, B) := by
  have hN := dq.2.2.1
  obtain ⟨h1, h2, h3, h4, h5⟩ := hc
  intro f
  induction f with
  | zero =>
    intro m t hf hm st tz
    obtain ⟨p, rfl⟩ : ∃ p, m = p + 1 := ⟨m - 1, by omega⟩
    rw [f_Scribe_trackEnd_12, if_pos ⟨by omega, h7⟩, h1.1, if_pos h1.2, if_pos (by unfold r32; omega), h4, if_pos (by unfold r32; omega), if_pos (by omega), f_Scribe_trackEnd_39, grN]
  | succ f ih =>
    intro m t hf hm st tz
    obtain ⟨p, rfl⟩ : ∃ p, m = p + 1 := ⟨m - 1, by omega⟩
    rw [f_Scribe_trackEnd_12, if_pos ⟨by omega, h7⟩, h1.1, if_pos h1.2, if_pos (by unfold r32; omega), h4, if_pos (by unfold r32; omega), grN]
    by_cases c : N ≤ t
    · rw [if_pos c, if_neg (by omega), f_Scribe_trackEnd_39]
    · have b1 := (h5 t (by omega) (by omega)).1
      have b2 := (h5 s hs.1 hs.2).1
      have d1 := (dq.2.2.2.1 t (by omega) (by omega)).1
      have d2 := (dq.2.2.2.1 s hs.1 hs.2).1
      rw [if_neg c, if_pos h1.2, if_pos (by omega), if_pos (by omega), b1, b2, if_pos (by unfold r64; omega), if_pos (by unfold r64; omega)]
      by_cases y : tk t = tk s
      · rw [if_pos (zcmp_0.mpr y), if_pos ⟨by omega, y⟩, ih p (t + 1) (by omega) (by omega) (by omega) (by omega)]
      · rw [if_neg (fun x => y (zcmp_0.mp x)), if_neg (fun x => y x.2), f_Scribe_trackEnd_39]
theorem C_te {s : Int} {F : zF} {B : zB} (h7 : 0 < K.2 7) (hK : 600 ≤ K.1) (dq : DTq g D N bg en tn tk) (hs : 0 ≤ s ∧ s < N) (hc : CFq K o g D N bg en tn tk F B) : f_Scribe_trackEnd K 0 s F B = some (nxG tk s N, F, B) := by
  have hN := dq.2.2.1
  unfold f_Scribe_trackEnd
  rw [if_pos ⟨by omega, h7⟩, hc.1.1, if_pos hc.1.2]
  exact C_te12 h7 dq hs hc 400 K.1 s (by omega) (by omega) (by omega) (by omega)
/-- where the last group of s .. z - 1 ends -/
noncomputable def lsG (gB gE : Int → Int) (z : Int) : Nat → Int → Int → Int
  | 0, _, a => a
  | f + 1, s, a => if s < z then lsG gB gE z f (nxG gB s z) (toG gB gE s z) else a
theorem to_b {z s : Int} (dq : DTq g D N bg en tn tk) (hz : z ≤ N) (hs : 0 ≤ s ∧ s < z) : 0 ≤ toG (fun i => gplF g D (bg i)) (fun i => gplF g D (en i)) s z ∧ toG (fun i => gplF g D (bg i)) (fun i => gplF g D (en i)) s z ≤ 40000000000000 := by
  have hN := dq.2.2.1
  have hb : ∀ i, 0 ≤ i → i < N → (0 ≤ gplF g D (bg i) ∧ gplF g D (bg i) ≤ 30000000000000) ∧ (0 ≤ gplF g D (en i) ∧ gplF g D (en i) ≤ 30000000000000) := fun i i0 i1 => ⟨gpl_b dq.1 dq.2.1 (dq.2.2.2.1 i i0 i1).2.2.1, gpl_b dq.1 dq.2.1 (dq.2.2.2.1 i i0 i1).2.2.2⟩
  have bs := (hb s hs.1 (by omega)).1
  obtain ⟨p1, p2, _, _⟩ := nxG_p (gB := fun i => gplF g D (bg i)) hs.2 (by omega) hs.1
  have mb := mxR_b (gE := fun i => gplF g D (en i)) (M := 40000000000000) (nxG (fun i => gplF g D (bg i)) s z - s).toNat s (gplF g D (bg s) + 1) (by omega) (fun i i0 i1 => by have := (hb i (by omega) (by omega)).2; show gplF g D (en i) ≤ _; omega)
  simp only [toG]
  split
  · rename_i c
    have := (hb (nxG (fun i => gplF g D (bg i)) s z) (by omega) (by omega)).1
    unfold zmin
    split <;> omega
  · omega
theorem C_l41 {rec' : Int → Int → Int → Int → zF → zB → zO} {z first l3 l1 : Int} (h7 : 0 < K.2 7) (hK : 600 ≤ K.1) (dq : DTq g D N bg en tn tk) (hz : z ≤ N) : ∀ (f m : Nat) (n s a : Int) (F : zF) (B : zB), z - s ≤ f → f < m → 0 ≤ n → n ≤ s → 0 ≤ s → s ≤ z → CFq K o g D N bg en tn tk F B → F 7 0 7 = s → F 7 0 6 = a → (0 ≤ a ∧ a ≤ 40000000000000) → ∃ F' B', f_Scribe_lastPlace_41 rec' K m n z first l3 l1 0 F B = f_Scribe_lastPlace_78 rec' K first l3 l1 0 F' B' ∧ gthF F F' ∧ gthB B B' ∧ F' 7 0 6 = lsG (fun i => gplF g D (bg i)) (fun i => gplF g D (en i)) z f s a ∧ (0 ≤ F' 7 0 6 ∧ F' 7 0 6 ≤ 40000000000000) ∧ CFq K o g D N bg en tn tk F' B' := by
  have hN := dq.2.2.1
  intro f
  induction f with
  | zero =>
    intro m n s a F B hf hm n0 ns s0 sz hc f7 f6 ha
    obtain ⟨p, rfl⟩ : ∃ p, m = p + 1 := ⟨m - 1, by omega⟩
    have hc' := hc
    obtain ⟨h1, h2, h3, h4, h5⟩ := hc'
    refine ⟨F, B, ?_, fun _ _ _ _ => rfl, fun _ _ _ _ _ => rfl, by rw [lsG]; exact f6, by omega, hc⟩
    rw [f_Scribe_lastPlace_41, if_pos ⟨by omega, h7⟩, h1.1, if_pos h1.2, if_pos (by unfold r32; omega), h4, if_pos (by unfold r32; omega)]
    by_cases c : N ≤ n
    · rw [if_pos c]
    · rw [if_neg c, f7, if_pos (by unfold r32; omega), if_pos (by unfold r32; omega), if_pos (by omega)]
  | succ f ih =>
    intro m n s a F B hf hm n0 ns s0 sz hc f7 f6 ha
    obtain ⟨p, rfl⟩ : ∃ p, m = p + 1 := ⟨m - 1, by omega⟩
    have hc' := hc
    obtain ⟨h1, h2, h3, h4, h5⟩ := hc'
    by_cases y : s < z
    · obtain ⟨F1, B1, x1, x2, x3, x4, x5, x6, x7⟩ := C_ga (K := K) h7 hK dq hz ⟨s0, y⟩ hc
      obtain ⟨p1, p2, _, _⟩ := nxG_p (gB := fun i => gplF g D (bg i)) y (by omega) s0
      have hc1 : CFq K o g D N bg en tn tk F1 B1 := CFq_f hc (x2 7 0 0 (by omega)) (x2 7 0 2 (by omega)) (x2 8 o 2 (by omega)) (fun k x => x3 8 o k x (by omega))
      obtain ⟨F2, B2, y1, y2, y3, y4, y5, y6⟩ := ih p (n + 1) _ _ F1 B1 (by omega) (by omega) (by omega) (by omega) (by omega) p2 hc1 x5 x6 (to_b dq hz ⟨s0, y⟩)
      refine ⟨F2, B2, ?_, fun c y k n => by rw [y2 c y k n, x2 c y k n], fun c y k x n => by rw [y3 c y k x n, x3 c y k x n], by rw [lsG, if_pos y]; exact y4, y5, y6⟩
      rw [f_Scribe_lastPlace_41, if_pos ⟨by omega, h7⟩, h1.1, if_pos h1.2, if_pos (by unfold r32; omega), h4, if_pos (by unfold r32; omega), if_neg (by omega), f7, if_pos (by unfold r32; omega), if_pos (by unfold r32; omega), if_neg (by omega), x1, zb_s]
      exact y1
    · refine ⟨F, B, ?_, fun _ _ _ _ => rfl, fun _ _ _ _ _ => rfl, by rw [lsG, if_neg y]; exact f6, by omega, hc⟩
      rw [f_Scribe_lastPlace_41, if_pos ⟨by omega, h7⟩, h1.1, if_pos h1.2, if_pos (by unfold r32; omega), h4, if_pos (by unfold r32; omega)]
      by_cases c : N ≤ n
      · rw [if_pos c]
      · rw [if_neg c, f7, if_pos (by unfold r32; omega), if_pos (by unfold r32; omega), if_pos (by omega)]
/-- the last place of all tracks that become voices -/
noncomputable def lpB (gB gE tk : Int → Int) (N : Int) : Nat → Int → Int → Int → Int
  | 0, _, _, a => a
  | f + 1, s, v, a => if s < N ∧ v < 4 then lpB gB gE tk N f (nxG tk s N) (v + 1) (zmax a (lsG gB gE (nxG tk s N) 400 s 0)) else a
theorem lsG_a {gB gE : Int → Int} {z : Int} : ∀ (f : Nat) (s a a' : Int), s < z → lsG gB gE z (f + 1) s a = lsG gB gE z (f + 1) s a' := by
  intro f s a a' h
  rw [lsG, lsG, if_pos h, if_pos h]
theorem C_lp7 (h7 : 0 < K.2 7) (hK : 600 ≤ K.1) (dq : DTq g D N bg en tn tk) : ∀ (f m : Nat) (s v a : Int) (F : zF) (B : zB), N - s ≤ f → f < m → 0 ≤ s → s ≤ N → 0 ≤ v → v ≤ 4 → (0 ≤ a ∧ a ≤ 40000000000000) → (0 ≤ F 7 0 6 ∧ F 7 0 6 ≤ 40000000000000) → CFq K o g D N bg en tn tk F B → ∃ F' B', f_Scribe_lastPlace_7 K m s v a 0 F B = some (lpB (fun i => gplF g D (bg i)) (fun i => gplF g D (en i)) tk N f s v a, F', B') ∧ gthF F F' ∧ gthB B B' ∧ (0 ≤ lpB (fun i => gplF g D (bg i)) (fun i => gplF g D (en i)) tk N f s v a ∧ lpB (fun i => gplF g D (bg i)) (fun i => gplF g D (en i)) tk N f s v a ≤ 40000000000000) ∧ CFq K o g D N bg en tn tk F' B' := by
  have hN := dq.2.2.1
  intro f
  induction f with
  | zero =>
    intro m s v a F B hf hm s0 sz v0 v4 ha h6 hc
    obtain ⟨p, rfl⟩ : ∃ p, m = p + 1 := ⟨m - 1, by omega⟩
    have hc' := hc
    obtain ⟨h1, h2, h3, h4, h5⟩ := hc'
    refine ⟨F, B, ?_, fun _ _ _ _ => rfl, fun _ _ _ _ _ => rfl, by rw [lpB]; exact ha, hc⟩
    rw [f_Scribe_lastPlace_7, if_pos ⟨by omega, h7⟩, h1.1, if_pos h1.2, if_pos (by unfold r32; omega), h4, if_pos (by unfold r32; omega), if_pos (by omega), f_Scribe_lastPlace_101, lpB]
  | succ f ih =>
    intro m s v a F B hf hm s0 sz v0 v4 ha h6 hc
    obtain ⟨p, rfl⟩ : ∃ p, m = p + 1 := ⟨m - 1, by omega⟩
    have hc' := hc
    obtain ⟨h1, h2, h3, h4, h5⟩ := hc'
    rw [f_Scribe_lastPlace_7, if_pos ⟨by omega, h7⟩, h1.1, if_pos h1.2, if_pos (by unfold r32; omega), h4, if_pos (by unfold r32; omega), lpB]
    by_cases c : N ≤ s
    · rw [if_pos c, if_neg (by omega), f_Scribe_lastPlace_101]
      exact ⟨F, B, rfl, fun _ _ _ _ => rfl, fun _ _ _ _ _ => rfl, ha, hc⟩
    · rw [if_neg c, if_pos (by unfold r32; omega)]
      by_cases y : 4 ≤ v
      · rw [if_pos y, if_neg (by omega), f_Scribe_lastPlace_101]
        exact ⟨F, B, rfl, fun _ _ _ _ => rfl, fun _ _ _ _ _ => rfl, ha, hc⟩
      · obtain ⟨p1, p2, _, _⟩ := nxG_p (gB := tk) (show s < N by omega) (by omega) s0
        rw [if_neg y, if_pos ⟨by omega, by omega⟩, C_te h7 hK dq ⟨s0, by omega⟩ hc, zb_s]
        have hc1 : CFq K o g D N bg en tn tk (zup3 F 7 0 7 s) B := CFq_f hc (by rw [zup3_v, if_neg (by omega)]) (by rw [zup3_v, if_neg (by omega)]) (by rw [zup3_v, if_neg (by omega)]) (fun _ _ => rfl)
        obtain ⟨F1, B1, x1, x2, x3, x4, x5, x6⟩ := C_l41 (rec' := f_Scribe_lastPlace_7 K p) (z := nxG tk s N) (first := s) (l3 := v) (l1 := a) h7 hK dq p2 400 K.1 0 s (F 7 0 6) (zup3 F 7 0 7 s) B (by omega) (by omega) (by omega) s0 s0 (by omega) hc1 (by rw [zup3_v, if_pos (by omega)]) (by rw [zup3_v, if_neg (by omega)]) h6
        have la : F1 7 0 6 = lsG (fun i => gplF g D (bg i)) (fun i => gplF g D (en i)) (nxG tk s N) 400 s 0 := by rw [x4]; exact lsG_a 399 s _ _ p1
        have zb : 0 ≤ zmax a (F1 7 0 6) ∧ zmax a (F1 7 0 6) ≤ 40000000000000 := by unfold zmax; split <;> omega
        obtain ⟨F2, B2, y1, y2, y3, y4, y5⟩ := ih p (nxG tk s N) (v + 1) (zmax a (F1 7 0 6)) F1 B1 (by omega) (by omega) (by omega) p2 (by omega) (by omega) zb x5 x6
        rw [la] at y1 y4
        refine ⟨F2, B2, ?_, fun c y k n => by rw [y2 c y k n, x2 c y k n, zup3_v, if_neg (by omega)], fun c y k x n => by rw [y3 c y k x n, x3 c y k x n], y4, y5⟩
        rw [x1]
        unfold f_Scribe_lastPlace_78
        rw [if_pos ⟨by omega, h7⟩, if_pos (by unfold r64; omega), if_pos (by unfold r64; omega), C_te h7 hK dq ⟨s0, by omega⟩ x6, zb_s, la]
        exact y1
end
end
end
section
section
/-! ===== a tone spelled, both sides ===== -/
noncomputable def fmB (a b : Int) : Bool := decide (r32 (zxor a b)) && (if 0 ≤ zxor a b then decide (zrm a b = a % b) else (decide (r32 (zrm a b)) && (if zrm a b = 0 then decide (zrm a b = a % b) else decide (zrm a b + b = a % b))))
noncomputable def fdB (a b : Int) : Bool := decide (r32 (zxor a b)) && (decide (r32 a) && (if 0 ≤ zxor a b then decide (zdv a b = a / b) else (decide (r32 (zdv a b * b)) && (if zdv a b * b = a then decide (zdv a b = a / b) else decide (zdv a b - 1 = a / b)))))
theorem C_fmB {K : zK} {a b : Int} {F : zF} {B : zB} (hb : 0 < b) (rb : r32 b) (h : fmB a b = true) : f_Math_floorMod K a b F B = some (a % b, F, B) := by
  unfold fmB at h
  rw [Bool.and_eq_true] at h
  obtain ⟨h1, h2⟩ := h
  unfold f_Math_floorMod f_Math_floorMod_18
  rw [if_pos (iI_n0 hb rb), if_pos (of_decide_eq_true h1)]
  by_cases c : 0 ≤ zxor a b
  · rw [if_pos c] at h2 ⊢
    rw [of_decide_eq_true h2]
  · rw [if_neg c, Bool.and_eq_true] at h2
    obtain ⟨h3, h4⟩ := h2
    rw [if_neg c, if_pos (of_decide_eq_true h3)]
    by_cases d : zrm a b = 0
    · rw [if_pos d] at h4 ⊢
      rw [of_decide_eq_true h4]
    · rw [if_neg d] at h4 ⊢
      rw [of_decide_eq_true h4]
theorem C_fdB {K : zK} {a b : Int} {F : zF} {B : zB} (hb : 0 < b) (rb : r32 b) (h : fdB a b = true) : f_Math_floorDiv K a b F B = some (a / b, F, B) := by
  unfold fdB at h
  rw [Bool.and_eq_true, Bool.and_eq_true] at h
  obtain ⟨h1, h0, h2⟩ := h
  unfold f_Math_floorDiv f_Math_floorDiv_21
  rw [if_pos (iI_n0 hb rb), if_pos (of_decide_eq_true h1)]
  by_cases c : 0 ≤ zxor a b
  · rw [if_pos c] at h2 ⊢
    rw [of_decide_eq_true h2]
  · rw [if_neg c, Bool.and_eq_true] at h2
    obtain ⟨h3, h4⟩ := h2
    rw [if_neg c, if_pos (of_decide_eq_true h3), if_pos (of_decide_eq_true h0)]
    by_cases d : zdv a b * b = a
    · rw [if_pos d] at h4 ⊢
      rw [of_decide_eq_true h4]
    · rw [if_neg d] at h4 ⊢
      rw [of_decide_eq_true h4]
theorem fm12 : ∀ x : Fin 1000, fmB ((x.val : Int) - 60) 12 = true := by decide +kernel
theorem fm7 : ∀ x : Fin 128, fmB ((x.val : Int) - 60) 7 = true := by decide +kernel
theorem fd12 : ∀ x : Fin 256, fdB ((x.val : Int) - 60) 12 = true := by decide +kernel
theorem fd7 : ∀ x : Fin 128, fdB ((x.val : Int) - 60) 7 = true := by decide +kernel
theorem C_m12 {K : zK} {a : Int} {F : zF} {B : zB} (h : -60 ≤ a ∧ a < 940) : f_Math_floorMod K a 12 F B = some (a % 12, F, B) := by
  have := fm12 ⟨(a + 60).toNat, by omega⟩
  rw [show (((⟨(a + 60).toNat, by omega⟩ : Fin 1000).val : Nat) : Int) - 60 = a by show (((a + 60).toNat : Nat) : Int) - 60 = a; omega] at this
  exact C_fmB (by decide) (by decide) this
theorem C_m7 {K : zK} {a : Int} {F : zF} {B : zB} (h : -60 ≤ a ∧ a < 68) : f_Math_floorMod K a 7 F B = some (a % 7, F, B) := by
  have := fm7 ⟨(a + 60).toNat, by omega⟩
  rw [show (((⟨(a + 60).toNat, by omega⟩ : Fin 128).val : Nat) : Int) - 60 = a by show (((a + 60).toNat : Nat) : Int) - 60 = a; omega] at this
  exact C_fmB (by decide) (by decide) this
theorem C_d12 {K : zK} {a : Int} {F : zF} {B : zB} (h : -60 ≤ a ∧ a < 196) : f_Math_floorDiv K a 12 F B = some (a / 12, F, B) := by
  have := fd12 ⟨(a + 60).toNat, by omega⟩
  rw [show (((⟨(a + 60).toNat, by omega⟩ : Fin 256).val : Nat) : Int) - 60 = a by show (((a + 60).toNat : Nat) : Int) - 60 = a; omega] at this
  exact C_fdB (by decide) (by decide) this
theorem C_d7 {K : zK} {a : Int} {F : zF} {B : zB} (h : -60 ≤ a ∧ a < 68) : f_Math_floorDiv K a 7 F B = some (a / 7, F, B) := by
  have := fd7 ⟨(a + 60).toNat, by omega⟩
  rw [show (((⟨(a + 60).toNat, by omega⟩ : Fin 128).val : Nat) : Int) - 60 = a by show (((a + 60).toNat : Nat) : Int) - 60 = a; omega] at this
  exact C_fdB (by decide) (by decide) this
/-- the natural tone of a letter -/
noncomputable def ntl (l : Int) : Int := 2 * l - (if l ≤ 2 then 0 else 1)
theorem ntl_t : ztl 5 = 7 ∧ (∀ k : Fin 7, ztv 5 (k.val : Int) = ntl (k.val : Int)) := by decide +kernel
/-- which fifth, letter, alteration and octave a tone has in a key -/
noncomputable def fiT (f t : Int) : Int := f - 5 + (7 * t - (f - 5)) % 12
noncomputable def leT (f t : Int) : Int := (4 * fiT f t) % 7
noncomputable def alT (f t : Int) : Int := (fiT f t + 1) / 7
noncomputable def ocT (f t : Int) : Int := (t - ntl (leT f t) - alT f t) / 12 - 1
theorem fif_k : ∀ x : Fin 26, (ntl ((4 * ((x.val : Int) - 12)) % 7) + ((x.val : Int) - 12 + 1) / 7 - 7 * ((x.val : Int) - 12)) % 12 = 0 ∧ (-2 ≤ ((x.val : Int) - 12 + 1) / 7 ∧ ((x.val : Int) - 12 + 1) / 7 ≤ 2) := by decide +kernel
theorem fi_p {f t : Int} (hf : -7 ≤ f ∧ f ≤ 7) (ht : 0 ≤ t ∧ t < 128) : (-12 ≤ fiT f t ∧ fiT f t ≤ 13) ∧ (7 * fiT f t - t) % 12 = 0 ∧ (0 ≤ leT f t ∧ leT f t < 7) ∧ (-2 ≤ alT f t ∧ alT f t ≤ 2) ∧ (t - ntl (leT f t) - alT f t) % 12 = 0 ∧ (0 ≤ ntl (leT f t) ∧ ntl (leT f t) ≤ 11) := by
  have a1 : -12 ≤ fiT f t ∧ fiT f t ≤ 13 := by unfold fiT; omega
  have a2 : (7 * fiT f t - t) % 12 = 0 := by unfold fiT; omega
  have a3 : 0 ≤ leT f t ∧ leT f t < 7 := by unfold leT; omega
  have k := fif_k ⟨(fiT f t + 12).toNat, by omega⟩
  rw [show (((⟨(fiT f t + 12).toNat, by omega⟩ : Fin 26).val : Nat) : Int) - 12 = fiT f t by show (((fiT f t + 12).toNat : Nat) : Int) - 12 = fiT f t; omega] at k
  have e1 : leT f t = (4 * fiT f t) % 7 := rfl
  have e2 : alT f t = (fiT f t + 1) / 7 := rfl
  rw [← e1, ← e2] at k
  refine ⟨a1, a2, a3, k.2, by omega, ?_⟩
  unfold ntl
  split <;> omega
/-- the class spells a tone: it puts this step in, if there is such an octave -/
theorem C_spl {K : zK} {o f t : Int} {F : zF} {B : zB} (h7 : 0 < K.2 7) (h1 : 0 < K.2 1) (hf : -7 ≤ f ∧ f ≤ 7) (ht : 0 ≤ t ∧ t < 128) (f0 : F 7 0 0 = o ∧ 0 ≤ o ∧ o < K.2 8) (f4 : F 7 0 4 = 0) (b2 : B 8 o 0 2 = f) : f_Scribe_spell K 0 t F B = if 0 ≤ ocT f t ∧ ocT f t ≤ 8 then zbind (f_Event_insert K 0 (7 * ocT f t + leT f t) (alT f t) F B) (fun _ F B => some (0, F, B)) else some (0, F, B) := by
  obtain ⟨a1, a2, a3, a4, a5, a6⟩ := fi_p hf ht
  have e1 : f - 5 + (7 * t - (f - 5)) % 12 = fiT f t := rfl
  have e2 : (4 * fiT f t) % 7 = leT f t := rfl
  have e3 : (fiT f t + 1) / 7 = alT f t := rfl
  have e4 : (t - ntl (leT f t) - alT f t) / 12 - 1 = ocT f t := rfl
  have zt := ntl_t.2 ⟨(leT f t).toNat, by omega⟩
  rw [show (((⟨(leT f t).toNat, by omega⟩ : Fin 7).val : Nat) : Int) = leT f t by show (((leT f t).toNat : Nat) : Int) = leT f t; omega] at zt
  unfold f_Scribe_spell f_Scribe_spell_96
  rw [if_pos ⟨by omega, h7⟩, f0.1, if_pos f0.2, b2, C_m12 (by omega), zb_s, e1, C_m7 (by omega), zb_s, e2, C_d7 (by omega), zb_s, e3, ntl_t.1, if_pos a3, zt, C_d12 (by omega), zb_s, e4, if_pos (by unfold r32; omega), f4, if_pos (show (0 : Int) ≤ 0 ∧ (0 : Int) < K.2 1 from ⟨by omega, h1⟩)]
  by_cases c : ocT f t < 0
  · rw [if_pos c, if_neg (by omega)]
  · rw [if_neg c]
    by_cases d : 8 < ocT f t
    · rw [if_pos d, if_neg (by omega)]
    · rw [if_neg d, if_pos (by omega)]
/-- the reference finds the fifth -/
theorem L_s10 {Km : Nat} {f t x : Int} {F : zF} {B : zB} (hf : -7 ≤ f ∧ f ≤ 7) (ht : 0 ≤ t ∧ t < 128) : ∀ (d n : Nat) (j : Int), j + d = fiT f t → f - 5 ≤ j → d < n → f_M_spell_10 Km n j x t F B = f_M_spell_53 Km Km 0 (alT f t) (leT f t) x t F B := by
  obtain ⟨a1, a2, a3, a4, a5, a6⟩ := fi_p hf ht
  have e2 : (4 * fiT f t) % 7 = leT f t := rfl
  have e3 : (fiT f t + 1) / 7 = alT f t := rfl
  have e1 : fiT f t = f - 5 + (7 * t - (f - 5)) % 12 := rfl
  intro d
  induction d with
  | zero =>
    intro n j e jl hn
    obtain ⟨p, rfl⟩ : ∃ p, n = p + 1 := ⟨n - 1, by omega⟩
    have : j = fiT f t := by omega
    subst this
    rw [f_M_spell_10, L_mod (by unfold r32; omega) (by decide) (by decide), zb_s, if_pos (by unfold r32; omega), if_pos a2, L_mod (by unfold r32; omega) (by decide) (by decide), zb_s, L_floor (by unfold r32; omega) (by decide) (by decide), zb_s, e2, e3]
  | succ d ih =>
    intro n j e jl hn
    obtain ⟨p, rfl⟩ : ∃ p, n = p + 1 := ⟨n - 1, by omega⟩
    rw [f_M_spell_10, L_mod (by unfold r32; omega) (by decide) (by decide), zb_s, if_pos (by unfold r32; omega), if_neg (by omega), ih p (j + 1) (by omega) (by omega) (by omega)]
/-- the octaves that don't fit -/
theorem L_s53n {Km : Nat} {f t x : Int} {F : zF} {B : zB} (hf : -7 ≤ f ∧ f ≤ 7) (ht : 0 ≤ t ∧ t < 128) : ∀ (d n : Nat) (j : Int), j + d = 9 → 0 ≤ j → d < n → (ocT f t < j ∨ 8 < ocT f t) → f_M_spell_53 Km n j (alT f t) (leT f t) x t F B = some (0, F, B) := by
  obtain ⟨a1, a2, a3, a4, a5, a6⟩ := fi_p hf ht
  have e4 : ocT f t = (t - ntl (leT f t) - alT f t) / 12 - 1 := rfl
  intro d
  induction d with
  | zero =>
    intro n j e j0 hn ho
    obtain ⟨p, rfl⟩ : ∃ p, n = p + 1 := ⟨n - 1, by omega⟩
    rw [f_M_spell_53, if_pos (by unfold r32; omega), if_pos (by omega)]
  | succ d ih =>
    intro n j e j0 hn ho
    obtain ⟨p, rfl⟩ : ∃ p, n = p + 1 := ⟨n - 1, by omega⟩
    have s1 : (7 * j + leT f t) / 7 = j := by omega
    have s2 : (7 * j + leT f t) % 7 = leT f t := by omega
    have e5 : 2 * leT f t - (if leT f t ≤ 2 then 0 else 1) = ntl (leT f t) := rfl
    rw [f_M_spell_53, if_pos (by unfold r32; omega), if_neg (by omega), L_tone (by omega) (by omega), zb_s, s1, s2, e5, if_pos (by unfold r32; omega), if_pos (by unfold r32; omega), if_neg (by omega), f_M_spell_248, ih p (j + 1) (by omega) (by omega) (by omega) (by omega)]
theorem L_s53y {Km : Nat} {f t x w : Int} {F : zF} {B : zB} (hw : F 14 0 6 = w) (h6 : 0 ≤ w ∧ w < 3) (hx : 0 ≤ x ∧ x < 4000) (hf : -7 ≤ f ∧ f ≤ 7) (ht : 0 ≤ t ∧ t < 128) (ho : 0 ≤ ocT f t ∧ ocT f t ≤ 8) : ∀ (d n : Nat) (j : Int), j + d = ocT f t → 0 ≤ j → d < n → ∃ p : Nat, n = p + d + 1 ∧ f_M_spell_53 Km n j (alT f t) (leT f t) x t F B = f_M_spell_106 (f_M_spell_53 Km p) Km Km (6 * x) (6 * x + B 13 w 21 x) (7 * ocT f t + leT f t) (ocT f t) (alT f t) (leT f t) x t F B := by
  obtain ⟨a1, a2, a3, a4, a5, a6⟩ := fi_p hf ht
  have e4 : ocT f t = (t - ntl (leT f t) - alT f t) / 12 - 1 := rfl
  intro d
  induction d with
  | zero =>
    intro n j e j0 hn
    obtain ⟨p, rfl⟩ : ∃ p, n = p + 1 := ⟨n - 1, by omega⟩
    have : j = ocT f t := by omega
    subst this
    have s1 : (7 * ocT f t + leT f t) / 7 = ocT f t := by omega
    have s2 : (7 * ocT f t + leT f t) % 7 = leT f t := by omega
    have e5 : 2 * leT f t - (if leT f t ≤ 2 then 0 else 1) = ntl (leT f t) := rfl
    refine ⟨p, by omega, ?_⟩
    rw [f_M_spell_53, if_pos (by unfold r32; omega), if_neg (by omega), L_tone (by omega) (by omega), zb_s, s1, s2, e5, if_pos (by unfold r32; omega), if_pos (by unfold r32; omega), if_pos (by omega), hw, if_pos h6, if_pos hx]
  | succ d ih =>
    intro n j e j0 hn
    obtain ⟨p, rfl⟩ : ∃ p, n = p + 1 := ⟨n - 1, by omega⟩
    have s1 : (7 * j + leT f t) / 7 = j := by omega
    have s2 : (7 * j + leT f t) % 7 = leT f t := by omega
    have e5 : 2 * leT f t - (if leT f t ≤ 2 then 0 else 1) = ntl (leT f t) := rfl
    obtain ⟨r, er, h⟩ := ih p (j + 1) (by omega) (by omega) (by omega)
    refine ⟨r, by omega, ?_⟩
    rw [f_M_spell_53, if_pos (by unfold r32; omega), if_neg (by omega), L_tone (by omega) (by omega), zb_s, s1, s2, e5, if_pos (by unfold r32; omega), if_pos (by unfold r32; omega), if_neg (by omega), f_M_spell_248, h]
/-- a step that is there already -/
theorem L106y {Km : Nat} {rec' : Int → Int → Int → Int → Int → zF → zB → zO} {F : zF} {B : zB} {w s l6 al le x t h a f : Int} (hw : F 14 0 6 = w) (h6 : 0 ≤ w ∧ w < 3) (hs : r32 s) (hh : 0 ≤ h ∧ h ≤ 24000) (hr : ∀ k, 0 ≤ k → k < h → f ≤ k → r32 (B 13 w 28 k)) (ha : B 13 w 28 a = s) (ah : a < h) : ∀ (j n : Nat) {l : Int}, 0 ≤ l → f ≤ l → l ≤ a → (h - l).toNat = j → j < n → f_M_spell_106 rec' Km n l h s l6 al le x t F B = some (0, F, B) := by
  intro j
  induction j with
  | zero => intro n l l0 lf l1 hj hn; omega
  | succ j ih =>
    intro n l l0 lf l1 hj hn
    obtain ⟨n, rfl⟩ : ∃ m, n = m + 1 := ⟨n - 1, by omega⟩
    unfold f_M_spell_106
    rw [hw, if_pos (by unfold r32; omega), if_pos (by unfold r32; omega), if_neg (by omega), if_pos h6, if_pos (by omega), if_pos (hr l (by omega) (by omega) lf), if_pos hs]
    by_cases c : B 13 w 28 l = s
    · rw [if_pos c]
    · have la : ¬ l = a := fun z => c (by rw [z]; exact ha)
      rw [if_neg c, ih n (by omega) (by omega) (by omega) (by omega) (by omega)]
theorem L106n {Km : Nat} {rec' : Int → Int → Int → Int → Int → zF → zB → zO} {F : zF} {B : zB} {w s l6 al le x t h f : Int} (hw : F 14 0 6 = w) (h6 : 0 ≤ w ∧ w < 3) (hs : r32 s) (hh : 0 ≤ h ∧ h ≤ 24000) (hr : ∀ k, 0 ≤ k → k < h → f ≤ k → r32 (B 13 w 28 k) ∧ ¬ B 13 w 28 k = s) : ∀ (j n : Nat) {l : Int}, 0 ≤ l → f ≤ l → l ≤ h → (h - l).toNat = j → j < n → f_M_spell_106 rec' Km n l h s l6 al le x t F B = f_M_spell_135 rec' Km Km h s l6 al le x t F B := by
  intro j
  induction j with
  | zero =>
    intro n l l0 lf l1 hj hn
    obtain ⟨n, rfl⟩ : ∃ m, n = m + 1 := ⟨n - 1, by omega⟩
    unfold f_M_spell_106
    rw [if_pos (by unfold r32; omega), if_pos (by unfold r32; omega), if_pos (by omega)]
  | succ j ih =>
    intro n l l0 lf l1 hj hn
    obtain ⟨n, rfl⟩ : ∃ m, n = m + 1 := ⟨n - 1, by omega⟩
    unfold f_M_spell_106
    rw [hw, if_pos (by unfold r32; omega), if_pos (by unfold r32; omega), if_neg (by omega), if_pos h6, if_pos (by omega), if_pos (hr l (by omega) (by omega) lf).1, if_pos hs, if_neg (hr l (by omega) (by omega) lf).2, ih n (by omega) (by omega) (by omega) (by omega) (by omega)]
theorem L135 {Km : Nat} {rec' : Int → Int → Int → Int → Int → zF → zB → zO} {F : zF} {w s l6 al le x t a : Int} (hw : F 14 0 6 = w) (h6 : 0 ≤ w ∧ w < 3) (s0 : 0 ≤ s) (s1 : s ≤ 62) (hx : 0 ≤ x ∧ x < 4000) (fa : 6 * x ≤ a) : ∀ (j n : Nat) {l : Int} {B : zB}, l = a + j → l < 24000 → j < n → (∀ k, 6 * x ≤ k → k < l → r32 (B 13 w 28 k)) → (∀ k, a ≤ k → k < l → s < B 13 w 28 k) → (a = 6 * x ∨ B 13 w 28 (a - 1) ≤ s) → ∃ B', f_M_spell_135 rec' Km n l s l6 al le x t F B = rec' (l6 + 1) al le x t F B' ∧ (∀ k, B' 13 w 28 k = shf a l s (B 13 w 28) k) ∧ (∀ k, B' 13 w 29 k = shf a l al (B 13 w 29) k) ∧ B' 13 w 21 x = B 13 w 21 x + 1 ∧ ∀ c i k y, ¬ (c = 13 ∧ i = w ∧ (k = 28 ∨ k = 29 ∨ (k = 21 ∧ y = x))) → B' c i k y = B c i k y := by
  intro j
  induction j with
  | zero =>
    intro n l B hl h5 hn hr hg hm
    obtain ⟨n, rfl⟩ : ∃ m, n = m + 1 := ⟨n - 1, by omega⟩
    have hl : l = a := by omega
    subst hl
    have e99 : f_M_spell_135 rec' Km (n + 1) l s l6 al le x t F B = f_M_spell_211 rec' Km l s l6 al le x t F B := by
      unfold f_M_spell_135
      rw [hw, if_pos (by unfold r32; omega), if_pos (by unfold r32; omega)]
      by_cases c : l ≤ 6 * x
      · rw [if_pos c]
      · rw [if_neg c, if_pos h6, if_pos (by omega), if_pos (hr (l - 1) (by omega) (by omega)), if_pos (by unfold r32; omega), if_pos (by omega)]
    refine ⟨_, by rw [e99]; unfold f_M_spell_211 f_M_spell_248; rw [hw, if_pos h6, if_pos (by omega), if_pos hx], ?_, ?_, ?_, ?_⟩
    · exact fun k => shf_0 (fun k h => by rw [zup4_v, if_neg (by omega), zup4_v, if_neg (by omega), zup4_v, if_neg (by omega)]) (by rw [zup4_v, if_neg (by omega), zup4_v, if_neg (by omega), zup4_v, if_pos (by omega)]) k
    · exact fun k => shf_0 (fun k h => by rw [zup4_v, if_neg (by omega), zup4_v, if_neg (by omega), zup4_v, if_neg (by omega)]) (by rw [zup4_v, if_neg (by omega), zup4_v, if_pos (by omega)]) k
    · rw [zup4_v, if_pos (by omega), zup4_v, if_neg (by omega), zup4_v, if_neg (by omega)]
    · intro c i k y h
      rw [zup4_v, if_neg (by omega), zup4_v, if_neg (by omega), zup4_v, if_neg (by omega)]
  | succ j ih =>
    intro n l B hl h5 hn hr hg hm
    obtain ⟨n, rfl⟩ : ∃ m, n = m + 1 := ⟨n - 1, by omega⟩
    have e : ∀ k, ¬ k = l → (zup4 (zup4 B 13 w 28 l (B 13 w 28 (l - 1))) 13 w 29 l ((zup4 B 13 w 28 l (B 13 w 28 (l - 1))) 13 w 29 (l - 1))) 13 w 28 k = B 13 w 28 k := fun k h => by rw [zup4_v, if_neg (by omega), zup4_v, if_neg (by omega)]
    obtain ⟨B', h, g1, g2, g3, g4⟩ := ih n (l := l - 1) (B := zup4 (zup4 B 13 w 28 l (B 13 w 28 (l - 1))) 13 w 29 l ((zup4 B 13 w 28 l (B 13 w 28 (l - 1))) 13 w 29 (l - 1))) (by omega) (by omega) (by omega) (fun k p q => by rw [e k (by omega)]; exact hr k p (by omega)) (fun k p q => by rw [e k (by omega)]; exact hg k p (by omega)) (by rw [e (a - 1) (by omega)]; exact hm)
    have gl := hg (l - 1) (by omega) (by omega)
    refine ⟨B', ?_, ?_, ?_, ?_, ?_⟩
    · unfold f_M_spell_135
      rw [hw, if_pos (by unfold r32; omega), if_pos (by unfold r32; omega), if_neg (by omega), if_pos h6, if_pos (by omega), if_pos (hr (l - 1) (by omega) (by omega)), if_pos (by unfold r32; omega), if_neg (by omega), if_pos (by omega), h]
    · intro k
      rw [g1, shf_s (g := B 13 w 28) (by omega) e (by rw [zup4_v, if_neg (by omega), zup4_v, if_pos (by omega)])]
    · intro k
      rw [g2, shf_s (g := B 13 w 29) (by omega) (fun k h => by rw [zup4_v, if_neg (by omega), zup4_v, if_neg (by omega)]) (by rw [zup4_v, if_pos (by omega), zup4_v, if_neg (by omega)])]
    · rw [g3, zup4_v, if_neg (by omega), zup4_v, if_neg (by omega)]
    · intro c i k y h
      rw [g4 c i k y h, zup4_v, if_neg (by omega), zup4_v, if_neg (by omega)]
end
end
section
section
/-! ===== a tone spelled into an event, both sides ===== -/
noncomputable def spF (F F' : zF) : Prop := ∀ c y k, ¬ (c = 1 ∧ y = 0 ∧ k = 10) → F' c y k = F c y k
noncomputable def spB (B B' : zB) : Prop := ∀ c y k x, ¬ (c = 1 ∧ y = 0 ∧ (k = 12 ∨ k = 13)) → B' c y k x = B c y k x
noncomputable def spM (x w : Int) (B B' : zB) : Prop := ∀ c i k y, ¬ (c = 13 ∧ i = w ∧ (((k = 28 ∨ k = 29) ∧ 6 * x ≤ y ∧ y < 6 * x + 6) ∨ (k = 21 ∧ y = x))) → B' c i k y = B c i k y
theorem P_spl {K : zK} {Km : Nat} {o f t x w c : Int} {F : zF} {B : zB} {Fm : zF} {Bm : zB} (h7 : 0 < K.2 7) (h1 : 0 < K.2 1) (hK : 100 ≤ K.1) (hKm : 100 ≤ Km) (hf : -7 ≤ f ∧ f ≤ 7) (ht : 0 ≤ t ∧ t < 128) (f0 : F 7 0 0 = o ∧ 0 ≤ o ∧ o < K.2 8) (f4 : F 7 0 4 = 0) (b2 : B 8 o 0 2 = f) (hw : Fm 14 0 6 = w) (h6 : 0 ≤ w ∧ w < 3) (m2 : Fm 13 w 2 = f) (hx : 0 ≤ x ∧ x < 4000) (hE : EPR 0 x w c F B Bm) (c5 : c ≤ 5) : zP (f_Scribe_spell K 0 t F B) (f_M_spell Km x t Fm Bm) (fun _ F' B' _ Fm' Bm' => Fm' = Fm ∧ spF F F' ∧ spB B B' ∧ spM x w Bm Bm' ∧ ∃ c', (c ≤ c' ∧ c' ≤ c + 1) ∧ EPR 0 x w c' F' B' Bm') := by
  obtain ⟨a1, a2, a3, a4, a5, a6⟩ := fi_p hf ht
  have e0 : fiT f t = f - 5 + (7 * t - (f - 5)) % 12 := rfl
  have em : f_M_spell Km x t Fm Bm = f_M_spell_53 Km Km 0 (alT f t) (leT f t) x t Fm Bm := by
    unfold f_M_spell
    rw [hw, if_pos h6, m2, L_s10 hf ht (fiT f t - (f - 5)).toNat Km (f - 5) (by omega) (by omega) (by omega)]
  rw [C_spl h7 h1 hf ht f0 f4 b2, em]
  by_cases oc : 0 ≤ ocT f t ∧ ocT f t ≤ 8
  · rw [if_pos oc]
    obtain ⟨p, ep, el⟩ := L_s53y (Km := Km) (B := Bm) hw h6 hx hf ht oc (ocT f t).toNat Km 0 (by omega) (by omega) (by omega)
    rw [el]
    generalize hs : 7 * ocT f t + leT f t = s
    have s0 : 0 ≤ s ∧ s ≤ 62 := by omega
    obtain ⟨E1, E2, E3, E4, E5⟩ := hE
    obtain ⟨a, ha, ⟨u1, u2⟩, u3, u4⟩ := C24 (K := K) (F := F) (B := B) (al := alT f t) (c0 := c) (e := 0) ⟨by omega, h1⟩ (s := s) (by unfold r32; omega) (by omega) (fun k u v => by have := (E4 k u v).2.2.1; unfold r32; omega) c.toNat K.1 (by omega) (by omega)
    rw [show ((c.toNat : Nat) : Int) = c by omega] at ha u2 u3
    have ci : f_Event_insert K 0 s (alT f t) F B = f_Event_insert_49 K a 0 s (alT f t) F B := by
      unfold f_Event_insert
      rw [if_pos ⟨by omega, h1⟩, E1, if_pos (by unfold r32; omega), if_pos (by omega), ha]
    have rr : ∀ k, 0 ≤ k → k < 6 * x + c → 6 * x ≤ k → r32 (Bm 13 w 28 k) := fun k u v z => by
      have := E4 (k - 6 * x) (by omega) (by omega)
      rw [show 6 * x + (k - 6 * x) = k by omega] at this
      have h1 := this.1
      have h2 := this.2.2.1
      unfold r32
      omega
    rw [ci, E2]
    by_cases z : a < c ∧ B 1 0 12 a = s
    · have h49 : f_Event_insert_49 K a 0 s (alT f t) F B = some (0, F, B) := by
        unfold f_Event_insert_49
        rw [if_pos ⟨by omega, h1⟩, if_pos (by unfold r32; omega), E1, if_pos (by unfold r32; omega), if_neg (by omega), if_pos (by omega), z.2, if_pos (by unfold r32; omega), if_pos (by unfold r32; omega), if_pos rfl]
      rw [h49, zb_s, L106y hw h6 (by unfold r32; omega) (by omega) rr (a := 6 * x + a) (by rw [← (E4 a u1 z.1).1]; exact z.2) (by omega) c.toNat Km (by omega) (by omega) (by omega) (by omega) (by omega)]
      exact P_some ⟨rfl, fun _ _ _ _ => rfl, fun _ _ _ _ _ => rfl, fun _ _ _ _ _ => rfl, c, by omega, E1, E2, E3, E4, E5⟩
    · have lt : ∀ k, 0 ≤ k → k < a → B 1 0 12 k < s := fun k u v => by
        rcases u4 with q | q
        · omega
        · by_cases y : k = a - 1
          · rw [y]; exact q
          · have := E5 k (a - 1) u (by omega) (by omega)
            omega
      have gt : ∀ k, a ≤ k → k < c → s < B 1 0 12 k := fun k u v => by
        have h1 := u3 k u v
        by_cases y : k = a
        · subst y
          by_cases q : B 1 0 12 k = s
          · exact absurd ⟨v, q⟩ z
          · omega
        · have := E5 a k u1 (by omega) v
          have := u3 a (by omega) (by omega)
          omega
      have h49 : f_Event_insert_49 K a 0 s (alT f t) F B = f_Event_insert_75 K K.1 c a 0 s (alT f t) F B := by
        unfold f_Event_insert_49 f_Event_insert_69
        rw [if_pos ⟨by omega, h1⟩, if_pos (by unfold r32; omega), E1, if_pos (by unfold r32; omega)]
        by_cases y : c ≤ a
        · rw [if_pos y, if_pos ⟨by omega, h1⟩]
        · have g := gt a (by omega) (by omega)
          have g2 := (E4 a (by omega) (by omega)).2.2.1
          rw [if_neg y, if_pos (by omega), if_pos (by unfold r32; omega), if_pos (by unfold r32; omega), if_neg (by omega), if_pos ⟨by omega, h1⟩]
      have eqR : ∀ k, 6 * x ≤ k → k < 6 * x + c → Bm 13 w 28 k = B 1 0 12 (k - 6 * x) := fun k u v => by
        rw [(E4 (k - 6 * x) (by omega) (by omega)).1, show 6 * x + (k - 6 * x) = k by omega]
      obtain ⟨B', g, g1, g2, g3⟩ := C75 (K := K) (F := F) (e := 0) (s := s) (al := alT f t) (a := a) ⟨by omega, h1⟩ u1 (c - a).toNat K.1 (l := c) (B := B) (by omega) (by omega) (by omega)
      obtain ⟨Bm', m, m1, m2', m3, m4⟩ := L135 (Km := Km) (rec' := f_M_spell_53 Km p) (F := Fm) (w := w) (s := s) (l6 := ocT f t) (al := alT f t) (le := leT f t) (x := x) (t := t) (a := 6 * x + a) hw h6 s0.1 s0.2 hx (by omega) (c - a).toNat Km (l := 6 * x + c) (B := Bm) (by omega) (by omega) (by omega) (fun k u v => rr k (by omega) v u) (fun k u v => by rw [eqR k (by omega) v]; exact gt _ (by omega) (by omega)) (by
        by_cases y : a = 0
        · exact Or.inl (by omega)
        · right
          rw [eqR _ (by omega) (by omega)]
          have := lt (6 * x + a - 1 - 6 * x) (by omega) (by omega)
          omega)
      have nx : f_M_spell_53 Km p (ocT f t + 1) (alT f t) (leT f t) x t Fm Bm' = some (0, Fm, Bm') := L_s53n hf ht (9 - (ocT f t + 1)).toNat p (ocT f t + 1) (by omega) (by omega) (by omega) (Or.inl (by omega))
      rw [h49, g, zb_s, L106n hw h6 (by unfold r32; omega) (by omega) (fun k u v y => ⟨rr k u v y, by
        rw [eqR k y v]
        by_cases q : k - 6 * x < a
        · have := lt _ (by omega) q
          omega
        · have := gt (k - 6 * x) (by omega) (by omega)
          omega⟩) c.toNat Km (by omega) (by omega) (by omega) (by omega) (by omega), m, nx]
      refine P_some ⟨rfl, fun c y k n => by rw [zup3_v, if_neg (by omega)], g3, fun c' i k y n => ?_, c + 1, by omega, ?_, ?_, by omega, ?_, ?_⟩
      · by_cases q : c' = 13 ∧ i = w ∧ (k = 28 ∨ k = 29)
        · obtain ⟨rfl, rfl, q⟩ := q
          rcases q with rfl | rfl
          · rw [m1, shf_o (by omega)]
          · rw [m2', shf_o (by omega)]
        · exact m4 c' i k y (by omega)
      · rw [E1, zup3_v, if_pos (by omega)]
      · rw [m3, E2]
      · intro k u v
        rw [g1, g2, m1, m2']
        by_cases y : k = a
        · rw [shf_a y, shf_a y, shf_a (by omega), shf_a (by omega)]
          exact ⟨rfl, rfl, s0, a4⟩
        · by_cases q : a < k
          · rw [shf_m q (by omega), shf_m q (by omega), shf_m (by omega) (by omega), shf_m (by omega) (by omega)]
            have := E4 (k - 1) (by omega) (by omega)
            rw [show 6 * x + (k - 1) = 6 * x + k - 1 by omega] at this
            exact this
          · rw [shf_o (by omega), shf_o (by omega), shf_o (by omega), shf_o (by omega)]
            exact E4 k u (by omega)
      · intro j k u v q
        rw [g1, g1]
        have val : ∀ k, 0 ≤ k → k < c + 1 → (k < a → shf a c s (B 1 0 12) k = B 1 0 12 k) ∧ (k = a → shf a c s (B 1 0 12) k = s) ∧ (a < k → shf a c s (B 1 0 12) k = B 1 0 12 (k - 1)) := fun k k0 k1 => ⟨fun h => shf_o (by omega), fun h => shf_a h, fun h => shf_m h (by omega)⟩
        obtain ⟨j1, j2, j3⟩ := val j u (by omega)
        obtain ⟨k1, k2, k3⟩ := val k (by omega) q
        by_cases y : j < a
        · rw [j1 y]
          by_cases y2 : k < a
          · rw [k1 y2]; exact E5 j k u v (by omega)
          · by_cases y3 : k = a
            · rw [k2 y3]; exact lt j u y
            · rw [k3 (by omega)]
              have := lt j u y
              have := gt (k - 1) (by omega) (by omega)
              omega
        · by_cases y2 : j = a
          · rw [j2 y2, k3 (by omega)]; exact gt (k - 1) (by omega) (by omega)
          · rw [j3 (by omega), k3 (by omega)]
            exact E5 (j - 1) (k - 1) (by omega) (by omega) (by omega)
  · rw [if_neg oc]
    have e4 : ocT f t = (t - ntl (leT f t) - alT f t) / 12 - 1 := rfl
    rw [L_s53n hf ht 9 Km 0 (by omega) (by omega) (by omega) (by omega)]
    exact P_some ⟨rfl, fun _ _ _ _ => rfl, fun _ _ _ _ _ => rfl, fun _ _ _ _ _ => rfl, c, by omega, hE⟩
/-- six tones at most, from the lowest on -/
noncomputable def SXt (S : Int → Prop) (c : Int) (τ : Int → Int) : Prop := (0 ≤ c ∧ c ≤ 6) ∧ (∀ k, 0 ≤ k → k < c → S (τ k) ∧ 0 ≤ τ k ∧ τ k < 128) ∧ (∀ j k, 0 ≤ j → j < k → k < c → τ j < τ k) ∧ (∀ x, S x → (∃ k, 0 ≤ k ∧ k < c ∧ τ k = x) ∨ (c = 6 ∧ τ 5 < x))
theorem P_spE {K : zK} {Km : Nat} {o f x w c : Int} {S : Int → Prop} {τ : Int → Int} {Fm : zF} (h7 : 0 < K.2 7) (h1 : 0 < K.2 1) (hK : 200 ≤ K.1) (hKm : 200 ≤ Km) (hf : -7 ≤ f ∧ f ≤ 7) (hw : Fm 14 0 6 = w) (h6 : 0 ≤ w ∧ w < 3) (m2 : Fm 13 w 2 = f) (hx : 0 ≤ x ∧ x < 4000) (sx : SXt S c τ) : ∀ (d m1 m3 : Nat) (l k n : Int) (F : zF) (B : zB) (Bm : zB), l + d = 128 → 0 ≤ l → d < m1 → 0 ≤ k → k ≤ c → (c - k).toNat < m3 → n ≤ k → (∀ j, 0 ≤ j → j < k → τ j < l) → (∀ j, k ≤ j → j < c → l ≤ τ j) → (∀ y, 0 ≤ y → y < 128 → (B 7 0 8 y = 0 ∧ ¬ S y) ∨ (B 7 0 8 y = 1 ∧ S y)) → (F 7 0 0 = o ∧ 0 ≤ o ∧ o < K.2 8) → F 7 0 4 = 0 → B 8 o 0 2 = f → (∀ j, 0 ≤ j → j < c → Bm 14 0 95 j = τ j) → EPR 0 x w n F B Bm → zP (f_Scribe_spellEvent_12 K m1 l k 0 F B) (f_M_downEvent_102 Km m3 k x c Fm Bm) (fun _ F' B' _ Fm' Bm' => Fm' = Fm ∧ spF F F' ∧ spB B B' ∧ spM x w Bm Bm' ∧ ∃ n', EPR 0 x w n' F' B' Bm') := by
  obtain ⟨c0, s1, s2, s3⟩ := sx
  have fin : ∀ (m3 : Nat) (F : zF) (B : zB) (Bm : zB) (n : Int), 0 < m3 → EPR 0 x w n F B Bm → zP (some (0, F, B)) (f_M_downEvent_102 Km m3 c x c Fm Bm) (fun _ F' B' _ Fm' Bm' => Fm' = Fm ∧ spF F F' ∧ spB B B' ∧ spM x w Bm Bm' ∧ ∃ n', EPR 0 x w n' F' B' Bm') := fun m3 F B Bm n hm hE => by
    obtain ⟨p, rfl⟩ : ∃ p, m3 = p + 1 := ⟨m3 - 1, by omega⟩
    rw [f_M_downEvent_102, if_pos (by unfold r32; omega), if_pos (by unfold r32; omega), if_pos (by omega)]
    exact P_some ⟨rfl, fun _ _ _ _ => rfl, fun _ _ _ _ _ => rfl, fun _ _ _ _ _ => rfl, n, hE⟩
  intro d
  induction d with
  | zero =>
    intro m1 m3 l k n F B Bm e l0 lm k0 kc mm nk hl hg hB f0 f4 b2 h95 hE
    obtain ⟨p, rfl⟩ : ∃ p, m1 = p + 1 := ⟨m1 - 1, by omega⟩
    have kc' : k = c := by
      rcases Int.lt_or_le k c with z | z
      · have := hg k (by omega) z
        have := (s1 k k0 z).2
        omega
      · omega
    subst kc'
    rw [f_Scribe_spellEvent_12, if_pos ⟨by omega, h7⟩, if_pos (by unfold r32; omega), if_pos (by omega), f_Scribe_spellEvent_50]
    exact fin m3 F B Bm n (by omega) hE
  | succ d ih =>
    intro m1 m3 l k n F B Bm e l0 lm k0 kc mm nk hl hg hB f0 f4 b2 h95 hE
    obtain ⟨p, rfl⟩ : ∃ p, m1 = p + 1 := ⟨m1 - 1, by omega⟩
    rw [f_Scribe_spellEvent_12, if_pos ⟨by omega, h7⟩, if_pos (by unfold r32; omega), if_neg (by omega), if_pos (by unfold r32; omega)]
    by_cases k6 : 6 ≤ k
    · have kc' : k = c := by omega
      subst kc'
      rw [if_pos k6, f_Scribe_spellEvent_50]
      exact fin m3 F B Bm n (by omega) hE
    · rw [if_neg k6, if_pos (by omega)]
      rcases hB l l0 (by omega) with ⟨z1, z2⟩ | ⟨z1, z2⟩
      · rw [z1, if_pos (by decide), if_pos rfl, f_Scribe_spellEvent_44]
        refine ih p m3 (l + 1) k n F B Bm (by omega) (by omega) (by omega) k0 kc mm nk (fun j a b => by have := hl j a b; omega) (fun j a b => ?_) hB f0 f4 b2 h95 hE
        have := hg j a b
        by_cases y : τ j = l
        · have := (s1 j (by omega) b).1
          rw [y] at this
          exact absurd this z2
        · omega
      · have ek : k < c ∧ τ k = l := by
          rcases s3 l z2 with ⟨j, j0, j1, j2⟩ | ⟨c6, c7⟩
          · by_cases y : j < k
            · have := hl j j0 y; omega
            · by_cases y2 : j = k
              · rw [← y2]; exact ⟨j1, j2⟩
              · have := s2 k j k0 (by omega) j1
                have := hg k (by omega) (by omega)
                omega
          · have := hg 5
            by_cases y : k ≤ 5
            · have := hg 5 y (by omega)
              omega
            · omega
        obtain ⟨r, rfl⟩ : ∃ p, m3 = p + 1 := ⟨m3 - 1, by omega⟩
        rw [z1, if_pos (by decide), if_neg (by decide), f_M_downEvent_102, if_pos (by unfold r32; omega), if_pos (by unfold r32; omega), if_neg (by omega), if_pos (by omega), h95 k k0 ek.1, ek.2]
        have hc : n ≤ 5 := by omega
        refine P_bind (P_spl (Km := Km) h7 h1 (by omega) (by omega) hf ⟨l0, by omega⟩ f0 f4 b2 hw h6 m2 hx hE hc) (fun _ F1 B1 _ G1 D1 y => ?_)
        obtain ⟨rfl, y1, y2, y3, n', y4, y5⟩ := y
        rw [f_Scribe_spellEvent_44]
        obtain ⟨a1, F2, B2, a2, G2, D2, x1, x2, rfl, x3, x4, x5, x6⟩ := ih p r (l + 1) (k + 1) n' F1 B1 D1 (by omega) (by omega) (by omega) (by omega) (by omega) (by omega) (by omega) (fun j a b => by
          by_cases y : j = k
          · rw [y, ek.2]; omega
          · have := hl j a (by omega); omega) (fun j a b => by have := s2 k j k0 (by omega) b; omega) (fun y a b => by rw [y2 7 0 8 y (by omega)]; exact hB y a b) (by rw [y1 7 0 0 (by omega)]; exact f0) (by rw [y1 7 0 4 (by omega)]; exact f4) (by rw [y2 8 o 0 2 (by omega)]; exact b2) (fun j a b => by rw [y3 14 0 95 j (by omega)]; exact h95 j a b) y5
        exact ⟨a1, F2, B2, a2, _, D2, x1, x2, rfl, fun c y k n => by rw [x3 c y k n, y1 c y k n], fun c y k x n => by rw [x4 c y k x n, y2 c y k x n], fun c y k x n => by rw [x5 c y k x n, y3 c y k x n], x6⟩
end
end

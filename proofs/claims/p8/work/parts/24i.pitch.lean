section
/-! ===== one pitch of an event, both sides ===== -/
theorem C_wref {K : zK} {F : zF} {B : zB} {s p : Int} (h11 : 0 < K.2 11) (h : F 11 0 2 = 0) : f_Walker_refuse K 0 s p F B = some (0, zup3 F 11 0 2 (s + 16 * p), B) := by
  unfold f_Walker_refuse f_Walker_refuse_17
  rw [if_pos ⟨Int.le_refl _, h11⟩, h, if_pos (by decide), if_pos rfl]
theorem C_wrefB {K : zK} {F : zF} {B : zB} {s p : Int} (h11 : 0 < K.2 11) (h : r32 (F 11 0 2)) (h' : ¬ F 11 0 2 = 0) : f_Walker_refuse K 0 s p F B = some (0, F, B) := by
  unfold f_Walker_refuse f_Walker_refuse_17
  rw [if_pos ⟨Int.le_refl _, h11⟩, if_pos h, if_neg h']
theorem shf_a {a l v k : Int} {g : Int → Int} (h : k = a) : shf a l v g k = v := by
  unfold shf
  rw [if_pos h]
theorem shf_m {a l v k : Int} {g : Int → Int} (h : a < k) (h' : k ≤ l) : shf a l v g k = g (k - 1) := by
  unfold shf
  rw [if_neg (by first | decide | omega), if_pos ⟨h, h'⟩]
theorem shf_o {a l v k : Int} {g : Int → Int} (h : k < a ∨ (l < k ∧ ¬ k = a)) : shf a l v g k = g k := by
  unfold shf
  rw [if_neg (by first | decide | omega), if_neg (by first | decide | omega)]
def pOK (e x w c : Int) (F : zF) (B : zB) (Fm : zF) (Bm : zB) (F' : zF) (B' : zB) (Fm' : zF) (Bm' : zB) : Prop := F' = zup3 F 1 e 10 (c + 1) ∧ Fm' = Fm ∧ EPR e x w (c + 1) F' B' Bm' ∧ (∀ c i k y, ¬ (c = 1 ∧ i = e ∧ (k = 12 ∨ k = 13)) → B' c i k y = B c i k y) ∧ (∀ c i k y, ¬ (c = 13 ∧ i = w ∧ (((k = 28 ∨ k = 29) ∧ 6 * x ≤ y ∧ y < 6 * x + 6) ∨ (k = 21 ∧ y = x))) → Bm' c i k y = Bm c i k y)
def pNO (p : Int) (F : zF) (B : zB) (Fm : zF) (Bm : zB) (F' : zF) (B' : zB) (Fm' : zF) (Bm' : zB) : Prop := F' = zup3 F 11 0 2 (9 + 16 * Bm 14 0 8 p) ∧ B' = B ∧ Fm' = flM Fm Bm 9 p ∧ Bm' = Bm
theorem P_pitch {K : zK} {Km : Nat} {e x w c p pt : Int} {n : Nat} {F : zF} {B : zB} {Fm : zF} {Bm : zB} (hK : 100 < K.1) (hKm : 100 < Km) (h11 : 0 < K.2 11) (h3 : 0 < K.2 3) (hE : EPR e x w c F B Bm) (c5 : c ≤ 5) (he : 0 ≤ e ∧ e < K.2 1) (hx : 0 ≤ x ∧ x < 4000) (h0 : F 11 0 0 = 0) (hwr : F 11 0 2 = 0) (h17 : Fm 14 0 17 = 0) (hw : Fm 14 0 6 = w) (h6 : 0 ≤ w ∧ w < 3) (hn : F 11 0 18 = n) (hn' : Fm 14 0 45 = n) (n64 : n ≤ 64) (hc : ∀ k, 0 ≤ k → k < n → CRk B Bm k) (hpt : 0 ≤ pt ∧ pt < 1500) (hp : 0 ≤ p ∧ p < 3001) (e8 : B 3 0 8 pt = Bm 14 0 9 p) (e9 : B 3 0 9 pt = Bm 14 0 10 p) (e10 : B 3 0 10 pt = Bm 14 0 8 p) (v0 : 0 ≤ Bm 14 0 9 p ∧ Bm 14 0 9 p ≤ 62) (a0 : -2 ≤ Bm 14 0 10 p ∧ Bm 14 0 10 p ≤ 2) : zP (f_Walker_addPitch K 0 e pt F B) (f_M_pitchOf Km x p Fm Bm) (fun _ F' B' _ Fm' Bm' => pOK e x w c F B Fm Bm F' B' Fm' Bm' ∨ pNO p F B Fm Bm F' B' Fm' Bm') := by
  have okp : okP (Bm 14 0 9 p) (tnv (Bm 14 0 9 p) + Bm 14 0 10 p) := ⟨v0, (by first | decide | omega)⟩
  have l1 : f_M_pitchOf Km x p Fm Bm = crM Km x p Fm Bm (crr B n (Bm 14 0 9 p) (tnv (Bm 14 0 9 p) + Bm 14 0 10 p)) := by
    unfold f_M_pitchOf
    rw [if_pos hp, L_tonP v0.1 v0.2, zb_s, hn', L32 (by rw [hw]; exact h6) hx n Km (by first | decide | omega) n64 hc okp]
  have c1 : f_Walker_addPitch K 0 e pt F B = crC K e pt F B (crr B n (Bm 14 0 9 p) (tnv (Bm 14 0 9 p) + Bm 14 0 10 p)) := by
    unfold f_Walker_addPitch
    rw [if_pos ⟨Int.le_refl _, h11⟩, h0, if_pos ⟨Int.le_refl _, h3⟩, if_pos hpt, e8, C_nat v0.1 v0.2, zb_s, h0, if_pos ⟨Int.le_refl _, h3⟩, hn, e9, C37 h11 n K.1 (by first | decide | omega) n64 hc okp]
  have no : f_Walker_addPitch_142 K 0 pt F B = some (0, zup3 F 11 0 2 (9 + 16 * Bm 14 0 8 p), B) := by
    unfold f_Walker_addPitch_142 f_Walker_addPitch_157
    rw [if_pos ⟨Int.le_refl _, h11⟩, h0, if_pos ⟨Int.le_refl _, h3⟩, if_pos hpt, C_wref h11 hwr, zb_s, e10]
  rw [l1, c1]
  cases hr : crr B n (Bm 14 0 9 p) (tnv (Bm 14 0 9 p) + Bm 14 0 10 p) with
  | none =>
    show zP (f_Walker_addPitch_142 K 0 pt F B) (f_M_pitchOf_146 Km p Fm Bm) _
    rw [no, f_M_pitchOf_146, L_failAt h17 hp, zb_s]
    exact zP_s (Or.inr ⟨rfl, rfl, rfl, rfl⟩)
  | some st =>
    obtain ⟨s, t⟩ := st
    obtain ⟨⟨s0, s1⟩, t0, t1⟩ := crr_ok okp hr
    obtain ⟨E1, E2, E3, E4, E5⟩ := hE
    show zP (f_Walker_addPitch_122 K 1 t s 0 e pt F B) (f_M_pitchOf_184 Km Km (6 * x) (6 * x + Bm 13 (Fm 14 0 6) 21 x) (6 * x) t s x p Fm Bm) _
    obtain ⟨a, ha, ⟨a1, a2⟩, a3, a4⟩ := C24 (K := K) (F := F) (B := B) (al := t - tnv s) (c0 := c) he (s := s) (by unfold r32; omega) (by first | decide | omega) (fun k u v => by have := (E4 k u v).2.2.1; unfold r32; omega) c.toNat K.1 (by first | decide | omega) (by first | decide | omega)
    rw [show ((c.toNat : Nat) : Int) = c by omega] at ha a2 a3
    have ci : f_Event_insert K e s (t - tnv s) F B = f_Event_insert_49 K a e s (t - tnv s) F B := by
      unfold f_Event_insert
      rw [if_pos he, E1, if_pos (by unfold r32; omega), if_pos (by first | decide | omega), ha]
    have rr : ∀ k, 0 ≤ k → k < 6 * x + c → 6 * x ≤ k → r32 (Bm 13 w 28 k) := fun k u v z => by
      have := E4 (k - 6 * x) (by first | decide | omega) (by first | decide | omega)
      rw [show 6 * x + (k - 6 * x) = k by omega] at this
      have h1 := this.1
      have h2 := this.2.2.1
      unfold r32
      omega
    rw [f_Walker_addPitch_122, if_pos (by decide), if_neg (by decide), C_nat s0 s1, zb_s, if_pos he, ci, hw, E2]
    by_cases z : a < c ∧ B 1 e 12 a = s
    · have h49 : f_Event_insert_49 K a e s (t - tnv s) F B = some (0, F, B) := by
        unfold f_Event_insert_49
        rw [if_pos he, if_pos (by unfold r32; omega), E1, if_pos (by unfold r32; omega), if_neg (by first | decide | omega), if_pos (by first | decide | omega), z.2, if_pos (by unfold r32; omega), if_pos (by unfold r32; omega), if_pos rfl]
      rw [h49, zb_s, if_pos (by decide), if_pos rfl, no, L184y hw h6 h17 (by unfold r32; omega) hp (by first | decide | omega) rr (a := 6 * x + a) (by rw [← (E4 a a1 z.1).1]; exact z.2) (by first | decide | omega) c.toNat Km (by first | decide | omega) (by first | decide | omega) (by first | decide | omega) (by first | decide | omega) (by first | decide | omega)]
      exact zP_s (Or.inr ⟨rfl, rfl, rfl, rfl⟩)
    · have lt : ∀ k, 0 ≤ k → k < a → B 1 e 12 k < s := fun k u v => by
        rcases a4 with q | q
        · omega
        · by_cases y : k = a - 1
          · rw [y]; exact q
          · have := E5 k (a - 1) u (by first | decide | omega) (by first | decide | omega)
            omega
      have gt : ∀ k, a ≤ k → k < c → s < B 1 e 12 k := fun k u v => by
        have h1 := a3 k u v
        by_cases y : k = a
        · subst y
          by_cases q : B 1 e 12 k = s
          · exact absurd ⟨v, q⟩ z
          · omega
        · have := E5 a k a1 (by first | decide | omega) v
          have := a3 a (by first | decide | omega) (by first | decide | omega)
          omega
      have h49 : f_Event_insert_49 K a e s (t - tnv s) F B = f_Event_insert_75 K K.1 c a e s (t - tnv s) F B := by
        unfold f_Event_insert_49 f_Event_insert_69
        rw [if_pos he, if_pos (by unfold r32; omega), E1, if_pos (by unfold r32; omega)]
        by_cases y : c ≤ a
        · rw [if_pos y, if_pos he]
        · have g := gt a (by first | decide | omega) (by first | decide | omega)
          have g2 := (E4 a (by first | decide | omega) (by first | decide | omega)).2.2.1
          rw [if_neg y, if_pos (by first | decide | omega), if_pos (by unfold r32; omega), if_pos (by unfold r32; omega), if_neg (by first | decide | omega), if_pos he]
      have eqR : ∀ k, 6 * x ≤ k → k < 6 * x + c → Bm 13 w 28 k = B 1 e 12 (k - 6 * x) := fun k u v => by
        rw [(E4 (k - 6 * x) (by first | decide | omega) (by first | decide | omega)).1, show 6 * x + (k - 6 * x) = k by omega]
      obtain ⟨B', g, g1, g2, g3⟩ := C75 (K := K) (F := F) (e := e) (s := s) (al := t - tnv s) (a := a) he a1 (c - a).toNat K.1 (l := c) (B := B) (by first | decide | omega) (by first | decide | omega) (by first | decide | omega)
      obtain ⟨Bm', m, m1, m2, m3, m4⟩ := L226 (K := Km) (F := Fm) (w := w) (t := t) (s := s) (x := x) (a := 6 * x + a) (f := 6 * x) hw h6 s0 s1 hx (by first | decide | omega) (by first | decide | omega) (c - a).toNat Km (l := 6 * x + c) (B := Bm) (by first | decide | omega) (by first | decide | omega) (by first | decide | omega) (fun k u v => rr k (by first | decide | omega) v u) (fun k u v => by rw [eqR k (by first | decide | omega) v]; exact gt _ (by first | decide | omega) (by first | decide | omega)) (by
        by_cases y : a = 0
        · exact Or.inl (by first | decide | omega)
        · right
          rw [eqR _ (by first | decide | omega) (by first | decide | omega)]
          have := lt (6 * x + a - 1 - 6 * x) (by first | decide | omega) (by first | decide | omega)
          omega)
      rw [h49, g, zb_s, if_pos (by decide), if_neg (by decide), f_Walker_addPitch_157, L184n hw h6 h17 (by unfold r32; omega) (by first | decide | omega) (fun k u v y => ⟨rr k u v y, by
        rw [eqR k y v]
        by_cases q : k - 6 * x < a
        · have := lt _ (by first | decide | omega) q
          omega
        · have := gt (k - 6 * x) (by first | decide | omega) (by first | decide | omega)
          omega⟩) c.toNat Km (by first | decide | omega) (by first | decide | omega) (by first | decide | omega) (by first | decide | omega) (by first | decide | omega), m]
      refine zP_s (Or.inl ⟨by rw [E1], rfl, ⟨?_, ?_, (by first | decide | omega), ?_, ?_⟩, g3, ?_⟩)
      · rw [E1, zup3_v, if_pos (by first | decide | omega)]
      · rw [m3, E2]
      · intro k u v
        rw [g1, g2, m1, m2]
        by_cases y : k = a
        · rw [shf_a y, shf_a y, shf_a (by first | decide | omega), shf_a (by first | decide | omega)]
          exact ⟨rfl, rfl, ⟨s0, s1⟩, t0, t1⟩
        · by_cases q : a < k ∧ k ≤ c
          · rw [shf_m q.1 q.2, shf_m q.1 q.2, shf_m (by first | decide | omega) (by first | decide | omega), shf_m (by first | decide | omega) (by first | decide | omega)]
            have := E4 (k - 1) (by first | decide | omega) (by first | decide | omega)
            rw [show 6 * x + (k - 1) = 6 * x + k - 1 by omega] at this
            exact this
          · rw [shf_o (by first | decide | omega), shf_o (by first | decide | omega), shf_o (by first | decide | omega), shf_o (by first | decide | omega)]
            exact E4 k u (by first | decide | omega)
      · intro j k u v y
        rw [g1, g1]
        unfold shf
        by_cases q1 : j = a
        · rw [if_pos q1, if_neg (by first | decide | omega), if_pos (by first | decide | omega)]
          exact gt (k - 1) (by first | decide | omega) (by first | decide | omega)
        rw [if_neg q1]
        by_cases q2 : a < j ∧ j ≤ c
        · rw [if_pos q2, if_neg (by first | decide | omega), if_pos (by first | decide | omega)]
          exact E5 (j - 1) (k - 1) (by first | decide | omega) (by first | decide | omega) (by first | decide | omega)
        rw [if_neg q2]
        have := lt j u (by first | decide | omega)
        by_cases q3 : k = a
        · rw [if_pos q3]; exact this
        rw [if_neg q3]
        by_cases q4 : a < k ∧ k ≤ c
        · rw [if_pos q4]
          have := gt (k - 1) (by first | decide | omega) (by first | decide | omega)
          omega
        · rw [if_neg q4]
          exact E5 j k u v (by first | decide | omega)
      · intro c' i k y h
        by_cases q : c' = 13 ∧ i = w ∧ (k = 28 ∨ k = 29)
        · obtain ⟨rfl, rfl, q⟩ := q
          have hy : ¬ (6 * x ≤ y ∧ y < 6 * x + 6) := fun z => h ⟨rfl, rfl, Or.inl ⟨q, z⟩⟩
          rcases q with rfl | rfl
          · rw [m1]
            unfold shf
            rw [if_neg (by first | decide | omega), if_neg (by first | decide | omega)]
          · rw [m2]
            unfold shf
            rw [if_neg (by first | decide | omega), if_neg (by first | decide | omega)]
        · exact m4 c' i k y (fun z => by
            obtain ⟨z1, z2, z3⟩ := z
            rcases z3 with z3 | z3 | z3
            · exact q ⟨z1, z2, Or.inl z3⟩
            · exact q ⟨z1, z2, Or.inr z3⟩
            · exact h ⟨z1, z2, Or.inr z3⟩)
end

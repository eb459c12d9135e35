section
/-! ===== a tone spelled into an event, both sides ===== -/
def spF (F F' : zF) : Prop := ∀ c y k, ¬ (c = 1 ∧ y = 0 ∧ k = 10) → F' c y k = F c y k
def spB (B B' : zB) : Prop := ∀ c y k x, ¬ (c = 1 ∧ y = 0 ∧ (k = 12 ∨ k = 13)) → B' c y k x = B c y k x
def spM (x w : Int) (B B' : zB) : Prop := ∀ c i k y, ¬ (c = 13 ∧ i = w ∧ (((k = 28 ∨ k = 29) ∧ 6 * x ≤ y ∧ y < 6 * x + 6) ∨ (k = 21 ∧ y = x))) → B' c i k y = B c i k y
theorem P_spl {K : zK} {Km : Nat} {o f t x w c : Int} {F : zF} {B : zB} {Fm : zF} {Bm : zB} (h7 : 0 < K.2 7) (h1 : 0 < K.2 1) (hK : 100 ≤ K.1) (hKm : 100 ≤ Km) (hf : -7 ≤ f ∧ f ≤ 7) (ht : 0 ≤ t ∧ t < 128) (f0 : F 7 0 0 = o ∧ 0 ≤ o ∧ o < K.2 8) (f4 : F 7 0 4 = 0) (b2 : B 8 o 0 2 = f) (hw : Fm 14 0 6 = w) (h6 : 0 ≤ w ∧ w < 3) (m2 : Fm 13 w 2 = f) (hx : 0 ≤ x ∧ x < 4000) (hE : EPR 0 x w c F B Bm) (c5 : c ≤ 5) : zP (f_Scribe_spell K 0 t F B) (f_M_spell Km x t Fm Bm) (fun _ F' B' _ Fm' Bm' => Fm' = Fm ∧ spF F F' ∧ spB B B' ∧ spM x w Bm Bm' ∧ ∃ c', (c ≤ c' ∧ c' ≤ c + 1) ∧ EPR 0 x w c' F' B' Bm') := by
  obtain ⟨a1, a2, a3, a4, a5, a6⟩ := fi_p hf ht
  have e0 : fiT f t = f - 5 + (7 * t - (f - 5)) % 12 := rfl
  have em : f_M_spell Km x t Fm Bm = f_M_spell_53 Km Km 0 (alT f t) (leT f t) x t Fm Bm := by
    unfold f_M_spell
    rw [hw, if_pos h6, m2, L_s10 hf ht (fiT f t - (f - 5)).toNat Km (f - 5) (by first | decide | omega) (by first | decide | omega) (by first | decide | omega)]
  rw [C_spl h7 h1 hf ht f0 f4 b2, em]
  by_cases oc : 0 ≤ ocT f t ∧ ocT f t ≤ 8
  · rw [if_pos oc]
    obtain ⟨p, ep, el⟩ := L_s53y (Km := Km) (B := Bm) hw h6 hx hf ht oc (ocT f t).toNat Km 0 (by first | decide | omega) (by first | decide | omega) (by first | decide | omega)
    rw [el]
    generalize hs : 7 * ocT f t + leT f t = s
    have s0 : 0 ≤ s ∧ s ≤ 62 := by omega
    obtain ⟨E1, E2, E3, E4, E5⟩ := hE
    obtain ⟨a, ha, ⟨u1, u2⟩, u3, u4⟩ := C24 (K := K) (F := F) (B := B) (al := alT f t) (c0 := c) (e := 0) ⟨(by first | decide | omega), h1⟩ (s := s) (by unfold r32; omega) (by first | decide | omega) (fun k u v => by have := (E4 k u v).2.2.1; unfold r32; omega) c.toNat K.1 (by first | decide | omega) (by first | decide | omega)
    rw [show ((c.toNat : Nat) : Int) = c by omega] at ha u2 u3
    have ci : f_Event_insert K 0 s (alT f t) F B = f_Event_insert_49 K a 0 s (alT f t) F B := by
      unfold f_Event_insert
      rw [if_pos ⟨(by first | decide | omega), h1⟩, E1, if_pos (by unfold r32; omega), if_pos (by first | decide | omega), ha]
    have rr : ∀ k, 0 ≤ k → k < 6 * x + c → 6 * x ≤ k → r32 (Bm 13 w 28 k) := fun k u v z => by
      have := E4 (k - 6 * x) (by first | decide | omega) (by first | decide | omega)
      rw [show 6 * x + (k - 6 * x) = k by omega] at this
      have h1 := this.1
      have h2 := this.2.2.1
      unfold r32
      omega
    rw [ci, E2]
    by_cases z : a < c ∧ B 1 0 12 a = s
    · have h49 : f_Event_insert_49 K a 0 s (alT f t) F B = some (0, F, B) := by
        unfold f_Event_insert_49
        rw [if_pos ⟨(by first | decide | omega), h1⟩, if_pos (by unfold r32; omega), E1, if_pos (by unfold r32; omega), if_neg (by first | decide | omega), if_pos (by first | decide | omega), z.2, if_pos (by unfold r32; omega), if_pos (by unfold r32; omega), if_pos rfl]
      rw [h49, zb_s, L106y hw h6 (by unfold r32; omega) (by first | decide | omega) rr (a := 6 * x + a) (by rw [← (E4 a u1 z.1).1]; exact z.2) (by first | decide | omega) c.toNat Km (by first | decide | omega) (by first | decide | omega) (by first | decide | omega) (by first | decide | omega) (by first | decide | omega)]
      exact P_some ⟨rfl, fun _ _ _ _ => rfl, fun _ _ _ _ _ => rfl, fun _ _ _ _ _ => rfl, c, (by first | decide | omega), E1, E2, E3, E4, E5⟩
    · have lt : ∀ k, 0 ≤ k → k < a → B 1 0 12 k < s := fun k u v => by
        rcases u4 with q | q
        · omega
        · by_cases y : k = a - 1
          · rw [y]; exact q
          · have := E5 k (a - 1) u (by first | decide | omega) (by first | decide | omega)
            omega
      have gt : ∀ k, a ≤ k → k < c → s < B 1 0 12 k := fun k u v => by
        have h1 := u3 k u v
        by_cases y : k = a
        · subst y
          by_cases q : B 1 0 12 k = s
          · exact absurd ⟨v, q⟩ z
          · omega
        · have := E5 a k u1 (by first | decide | omega) v
          have := u3 a (by first | decide | omega) (by first | decide | omega)
          omega
      have h49 : f_Event_insert_49 K a 0 s (alT f t) F B = f_Event_insert_75 K K.1 c a 0 s (alT f t) F B := by
        unfold f_Event_insert_49 f_Event_insert_69
        rw [if_pos ⟨(by first | decide | omega), h1⟩, if_pos (by unfold r32; omega), E1, if_pos (by unfold r32; omega)]
        by_cases y : c ≤ a
        · rw [if_pos y, if_pos ⟨(by first | decide | omega), h1⟩]
        · have g := gt a (by first | decide | omega) (by first | decide | omega)
          have g2 := (E4 a (by first | decide | omega) (by first | decide | omega)).2.2.1
          rw [if_neg y, if_pos (by first | decide | omega), if_pos (by unfold r32; omega), if_pos (by unfold r32; omega), if_neg (by first | decide | omega), if_pos ⟨(by first | decide | omega), h1⟩]
      have eqR : ∀ k, 6 * x ≤ k → k < 6 * x + c → Bm 13 w 28 k = B 1 0 12 (k - 6 * x) := fun k u v => by
        rw [(E4 (k - 6 * x) (by first | decide | omega) (by first | decide | omega)).1, show 6 * x + (k - 6 * x) = k by omega]
      obtain ⟨B', g, g1, g2, g3⟩ := C75 (K := K) (F := F) (e := 0) (s := s) (al := alT f t) (a := a) ⟨(by first | decide | omega), h1⟩ u1 (c - a).toNat K.1 (l := c) (B := B) (by first | decide | omega) (by first | decide | omega) (by first | decide | omega)
      obtain ⟨Bm', m, m1, m2', m3, m4⟩ := L135 (Km := Km) (rec' := f_M_spell_53 Km p) (F := Fm) (w := w) (s := s) (l6 := ocT f t) (al := alT f t) (le := leT f t) (x := x) (t := t) (a := 6 * x + a) hw h6 s0.1 s0.2 hx (by first | decide | omega) (c - a).toNat Km (l := 6 * x + c) (B := Bm) (by first | decide | omega) (by first | decide | omega) (by first | decide | omega) (fun k u v => rr k (by first | decide | omega) v u) (fun k u v => by rw [eqR k (by first | decide | omega) v]; exact gt _ (by first | decide | omega) (by first | decide | omega)) (by
        by_cases y : a = 0
        · exact Or.inl (by first | decide | omega)
        · right
          rw [eqR _ (by first | decide | omega) (by first | decide | omega)]
          have := lt (6 * x + a - 1 - 6 * x) (by first | decide | omega) (by first | decide | omega)
          omega)
      have nx : f_M_spell_53 Km p (ocT f t + 1) (alT f t) (leT f t) x t Fm Bm' = some (0, Fm, Bm') := L_s53n hf ht (9 - (ocT f t + 1)).toNat p (ocT f t + 1) (by first | decide | omega) (by first | decide | omega) (by first | decide | omega) (Or.inl (by first | decide | omega))
      rw [h49, g, zb_s, L106n hw h6 (by unfold r32; omega) (by first | decide | omega) (fun k u v y => ⟨rr k u v y, by
        rw [eqR k y v]
        by_cases q : k - 6 * x < a
        · have := lt _ (by first | decide | omega) q
          omega
        · have := gt (k - 6 * x) (by first | decide | omega) (by first | decide | omega)
          omega⟩) c.toNat Km (by first | decide | omega) (by first | decide | omega) (by first | decide | omega) (by first | decide | omega) (by first | decide | omega), m, nx]
      refine P_some ⟨rfl, fun c y k n => by rw [zup3_v, if_neg (by first | decide | omega)], g3, fun c' i k y n => ?_, c + 1, (by first | decide | omega), ?_, ?_, (by first | decide | omega), ?_, ?_⟩
      · by_cases q : c' = 13 ∧ i = w ∧ (k = 28 ∨ k = 29)
        · obtain ⟨rfl, rfl, q⟩ := q
          rcases q with rfl | rfl
          · rw [m1, shf_o (by first | decide | omega)]
          · rw [m2', shf_o (by first | decide | omega)]
        · exact m4 c' i k y (by first | decide | omega)
      · rw [E1, zup3_v, if_pos (by first | decide | omega)]
      · rw [m3, E2]
      · intro k u v
        rw [g1, g2, m1, m2']
        by_cases y : k = a
        · rw [shf_a y, shf_a y, shf_a (by first | decide | omega), shf_a (by first | decide | omega)]
          exact ⟨rfl, rfl, s0, a4⟩
        · by_cases q : a < k
          · rw [shf_m q (by first | decide | omega), shf_m q (by first | decide | omega), shf_m (by first | decide | omega) (by first | decide | omega), shf_m (by first | decide | omega) (by first | decide | omega)]
            have := E4 (k - 1) (by first | decide | omega) (by first | decide | omega)
            rw [show 6 * x + (k - 1) = 6 * x + k - 1 by omega] at this
            exact this
          · rw [shf_o (by first | decide | omega), shf_o (by first | decide | omega), shf_o (by first | decide | omega), shf_o (by first | decide | omega)]
            exact E4 k u (by first | decide | omega)
      · intro j k u v q
        rw [g1, g1]
        have val : ∀ k, 0 ≤ k → k < c + 1 → (k < a → shf a c s (B 1 0 12) k = B 1 0 12 k) ∧ (k = a → shf a c s (B 1 0 12) k = s) ∧ (a < k → shf a c s (B 1 0 12) k = B 1 0 12 (k - 1)) := fun k k0 k1 => ⟨fun h => shf_o (by first | decide | omega), fun h => shf_a h, fun h => shf_m h (by first | decide | omega)⟩
        obtain ⟨j1, j2, j3⟩ := val j u (by first | decide | omega)
        obtain ⟨k1, k2, k3⟩ := val k (by first | decide | omega) q
        by_cases y : j < a
        · rw [j1 y]
          by_cases y2 : k < a
          · rw [k1 y2]; exact E5 j k u v (by first | decide | omega)
          · by_cases y3 : k = a
            · rw [k2 y3]; exact lt j u y
            · rw [k3 (by first | decide | omega)]
              have := lt j u y
              have := gt (k - 1) (by first | decide | omega) (by first | decide | omega)
              omega
        · by_cases y2 : j = a
          · rw [j2 y2, k3 (by first | decide | omega)]; exact gt (k - 1) (by first | decide | omega) (by first | decide | omega)
          · rw [j3 (by first | decide | omega), k3 (by first | decide | omega)]
            exact E5 (j - 1) (k - 1) (by first | decide | omega) (by first | decide | omega) (by first | decide | omega)
  · rw [if_neg oc]
    have e4 : ocT f t = (t - ntl (leT f t) - alT f t) / 12 - 1 := rfl
    rw [L_s53n hf ht 9 Km 0 (by first | decide | omega) (by first | decide | omega) (by first | decide | omega) (by first | decide | omega)]
    exact P_some ⟨rfl, fun _ _ _ _ => rfl, fun _ _ _ _ _ => rfl, fun _ _ _ _ _ => rfl, c, (by first | decide | omega), hE⟩
/-- six tones at most, from the lowest on -/
def SXt (S : Int → Prop) (c : Int) (τ : Int → Int) : Prop := (0 ≤ c ∧ c ≤ 6) ∧ (∀ k, 0 ≤ k → k < c → S (τ k) ∧ 0 ≤ τ k ∧ τ k < 128) ∧ (∀ j k, 0 ≤ j → j < k → k < c → τ j < τ k) ∧ (∀ x, S x → (∃ k, 0 ≤ k ∧ k < c ∧ τ k = x) ∨ (c = 6 ∧ τ 5 < x))
theorem P_spE {K : zK} {Km : Nat} {o f x w c : Int} {S : Int → Prop} {τ : Int → Int} {Fm : zF} (h7 : 0 < K.2 7) (h1 : 0 < K.2 1) (hK : 200 ≤ K.1) (hKm : 200 ≤ Km) (hf : -7 ≤ f ∧ f ≤ 7) (hw : Fm 14 0 6 = w) (h6 : 0 ≤ w ∧ w < 3) (m2 : Fm 13 w 2 = f) (hx : 0 ≤ x ∧ x < 4000) (sx : SXt S c τ) : ∀ (d m1 m3 : Nat) (l k n : Int) (F : zF) (B : zB) (Bm : zB), l + d = 128 → 0 ≤ l → d < m1 → 0 ≤ k → k ≤ c → (c - k).toNat < m3 → n ≤ k → (∀ j, 0 ≤ j → j < k → τ j < l) → (∀ j, k ≤ j → j < c → l ≤ τ j) → (∀ y, 0 ≤ y → y < 128 → (B 7 0 8 y = 0 ∧ ¬ S y) ∨ (B 7 0 8 y = 1 ∧ S y)) → (F 7 0 0 = o ∧ 0 ≤ o ∧ o < K.2 8) → F 7 0 4 = 0 → B 8 o 0 2 = f → (∀ j, 0 ≤ j → j < c → Bm 14 0 95 j = τ j) → EPR 0 x w n F B Bm → zP (f_Scribe_spellEvent_12 K m1 l k 0 F B) (f_M_downEvent_102 Km m3 k x c Fm Bm) (fun _ F' B' _ Fm' Bm' => Fm' = Fm ∧ spF F F' ∧ spB B B' ∧ spM x w Bm Bm' ∧ ∃ n', EPR 0 x w n' F' B' Bm') := by
  obtain ⟨c0, s1, s2, s3⟩ := sx
  have fin : ∀ (m3 : Nat) (F : zF) (B : zB) (Bm : zB) (n : Int), 0 < m3 → EPR 0 x w n F B Bm → zP (some (0, F, B)) (f_M_downEvent_102 Km m3 c x c Fm Bm) (fun _ F' B' _ Fm' Bm' => Fm' = Fm ∧ spF F F' ∧ spB B B' ∧ spM x w Bm Bm' ∧ ∃ n', EPR 0 x w n' F' B' Bm') := fun m3 F B Bm n hm hE => by
    obtain ⟨p, rfl⟩ : ∃ p, m3 = p + 1 := ⟨m3 - 1, (by first | decide | omega)⟩
    rw [f_M_downEvent_102, if_pos (by unfold r32; omega), if_pos (by unfold r32; omega), if_pos (by first | decide | omega)]
    exact P_some ⟨rfl, fun _ _ _ _ => rfl, fun _ _ _ _ _ => rfl, fun _ _ _ _ _ => rfl, n, hE⟩
  intro d
  induction d with
  | zero =>
    intro m1 m3 l k n F B Bm e l0 lm k0 kc mm nk hl hg hB f0 f4 b2 h95 hE
    obtain ⟨p, rfl⟩ : ∃ p, m1 = p + 1 := ⟨m1 - 1, (by first | decide | omega)⟩
    have kc' : k = c := by
      rcases Int.lt_or_le k c with z | z
      · have := hg k (by first | decide | omega) z
        have := (s1 k k0 z).2
        omega
      · omega
    subst kc'
    rw [f_Scribe_spellEvent_12, if_pos ⟨(by first | decide | omega), h7⟩, if_pos (by unfold r32; omega), if_pos (by first | decide | omega), f_Scribe_spellEvent_50]
    exact fin m3 F B Bm n (by first | decide | omega) hE
  | succ d ih =>
    intro m1 m3 l k n F B Bm e l0 lm k0 kc mm nk hl hg hB f0 f4 b2 h95 hE
    obtain ⟨p, rfl⟩ : ∃ p, m1 = p + 1 := ⟨m1 - 1, (by first | decide | omega)⟩
    rw [f_Scribe_spellEvent_12, if_pos ⟨(by first | decide | omega), h7⟩, if_pos (by unfold r32; omega), if_neg (by first | decide | omega), if_pos (by unfold r32; omega)]
    by_cases k6 : 6 ≤ k
    · have kc' : k = c := by omega
      subst kc'
      rw [if_pos k6, f_Scribe_spellEvent_50]
      exact fin m3 F B Bm n (by first | decide | omega) hE
    · rw [if_neg k6, if_pos (by first | decide | omega)]
      rcases hB l l0 (by first | decide | omega) with ⟨z1, z2⟩ | ⟨z1, z2⟩
      · rw [z1, if_pos (by decide), if_pos rfl, f_Scribe_spellEvent_44]
        refine ih p m3 (l + 1) k n F B Bm (by first | decide | omega) (by first | decide | omega) (by first | decide | omega) k0 kc mm nk (fun j a b => by have := hl j a b; omega) (fun j a b => ?_) hB f0 f4 b2 h95 hE
        have := hg j a b
        by_cases y : τ j = l
        · have := (s1 j (by first | decide | omega) b).1
          rw [y] at this
          exact absurd this z2
        · omega
      · have ek : k < c ∧ τ k = l := by
          rcases s3 l z2 with ⟨j, j0, j1, j2⟩ | ⟨c6, c7⟩
          · by_cases y : j < k
            · have := hl j j0 y; omega
            · by_cases y2 : j = k
              · rw [← y2]; exact ⟨j1, j2⟩
              · have := s2 k j k0 (by first | decide | omega) j1
                have := hg k (by first | decide | omega) (by first | decide | omega)
                omega
          · have := hg 5
            by_cases y : k ≤ 5
            · have := hg 5 y (by first | decide | omega)
              omega
            · omega
        obtain ⟨r, rfl⟩ : ∃ p, m3 = p + 1 := ⟨m3 - 1, (by first | decide | omega)⟩
        rw [z1, if_pos (by decide), if_neg (by decide), f_M_downEvent_102, if_pos (by unfold r32; omega), if_pos (by unfold r32; omega), if_neg (by first | decide | omega), if_pos (by first | decide | omega), h95 k k0 ek.1, ek.2]
        have hc : n ≤ 5 := by omega
        refine P_bind (P_spl (Km := Km) h7 h1 (by first | decide | omega) (by first | decide | omega) hf ⟨l0, (by first | decide | omega)⟩ f0 f4 b2 hw h6 m2 hx hE hc) (fun _ F1 B1 _ G1 D1 y => ?_)
        obtain ⟨rfl, y1, y2, y3, n', y4, y5⟩ := y
        rw [f_Scribe_spellEvent_44]
        obtain ⟨a1, F2, B2, a2, G2, D2, x1, x2, rfl, x3, x4, x5, x6⟩ := ih p r (l + 1) (k + 1) n' F1 B1 D1 (by first | decide | omega) (by first | decide | omega) (by first | decide | omega) (by first | decide | omega) (by first | decide | omega) (by first | decide | omega) (by first | decide | omega) (fun j a b => by
          by_cases y : j = k
          · rw [y, ek.2]; omega
          · have := hl j a (by first | decide | omega); omega) (fun j a b => by have := s2 k j k0 (by first | decide | omega) b; omega) (fun y a b => by rw [y2 7 0 8 y (by first | decide | omega)]; exact hB y a b) (by rw [y1 7 0 0 (by first | decide | omega)]; exact f0) (by rw [y1 7 0 4 (by first | decide | omega)]; exact f4) (by rw [y2 8 o 0 2 (by first | decide | omega)]; exact b2) (fun j a b => by rw [y3 14 0 95 j (by first | decide | omega)]; exact h95 j a b) y5
        exact ⟨a1, F2, B2, a2, _, D2, x1, x2, rfl, fun c y k n => by rw [x3 c y k n, y1 c y k n], fun c y k x n => by rw [x4 c y k x n, y2 c y k x n], fun c y k x n => by rw [x5 c y k x n, y3 c y k x n], x6⟩
end

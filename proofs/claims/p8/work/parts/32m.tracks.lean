section
/-! ===== the reference: tracks become voices ===== -/
def sm60 (tn : Int → Int) (a : Int) : Nat → Int
  | 0 => 0
  | n + 1 => sm60 tn a n + (tn (a + n) - 60)
/-- which sounds belong to the track k: those from a to z -/
def BLK (tk : Int → Int) (N a z k : Int) : Prop := (0 ≤ a ∧ a < z ∧ z ≤ N) ∧ (∀ i, 0 ≤ i → i < N → (tk i = k ↔ a ≤ i ∧ i < z))
theorem sm_b {tn : Int → Int} {a : Int} : ∀ (n : Nat), (∀ i, a ≤ i → i < a + n → 0 ≤ tn i ∧ tn i < 128) → -(60 * (n : Int)) ≤ sm60 tn a n ∧ sm60 tn a n ≤ 68 * n := by
  intro n
  induction n with
  | zero => intro _; rw [sm60]; simp
  | succ n ih =>
    intro h
    have := ih (fun i a b => h i a (by first | decide | omega))
    have := h (a + n) (by first | decide | omega) (by first | decide | omega)
    rw [sm60]
    omega
section
variable {Km : Nat} {K : zK} {o f w g D N : Int} {bg en tn tk : Int → Int}
theorem tkk_m (dq : DTq g D N bg en tn tk) : ∀ (d : Nat) (i : Int), 0 ≤ i → i + d < N → tk i ≤ tk (i + d) := by
  intro d
  induction d with
  | zero => intro i _ _; simp
  | succ d ih =>
    intro i i0 i1
    have a := ih i i0 (by first | decide | omega)
    have b := (dq.2.2.2.2 (i + d) (by first | decide | omega) (by first | decide | omega)).1
    rw [show i + ((d + 1 : Nat) : Int) = i + d + 1 by omega]
    omega
theorem blk_o {a : Int} (dq : DTq g D N bg en tn tk) (ha : 0 ≤ a ∧ a < N) (hl : ∀ i, 0 ≤ i → i < a → tk i < tk a) : BLK tk N a (nxG tk a N) (tk a) := by
  have hN := dq.2.2.1
  obtain ⟨p1, p2, p3, p4⟩ := nxG_p (gB := tk) ha.2 (by first | decide | omega) ha.1
  refine ⟨⟨ha.1, p1, p2⟩, fun i i0 i1 => ⟨fun e => ⟨?_, ?_⟩, fun h => p3 i h.1 h.2⟩⟩
  · rcases Int.lt_or_le i a with z | z
    · have := hl i i0 z; omega
    · exact z
  · rcases Int.lt_or_le i (nxG tk a N) with z | z
    · exact z
    · have n1 := p4 (by first | decide | omega)
      have m1 := tkk_m dq (nxG tk a N - a).toNat a ha.1 (by first | decide | omega)
      have m2 := tkk_m dq (i - nxG tk a N).toNat (nxG tk a N) (by first | decide | omega) (by first | decide | omega)
      rw [show a + ((nxG tk a N - a).toNat : Int) = nxG tk a N by omega] at m1
      rw [show nxG tk a N + ((i - nxG tk a N).toNat : Int) = i by omega] at m2
      omega
theorem blk_m {a z k : Int} (dq : DTq g D N bg en tn tk) (h : BLK tk N a z k) : ∀ i, a ≤ i → i + 1 < z → bg i ≤ bg (i + 1) := fun i i0 i1 => by
  obtain ⟨⟨h1, h2, h3⟩, h4⟩ := h
  have a1 := (h4 i (by first | decide | omega) (by first | decide | omega)).mpr ⟨i0, (by first | decide | omega)⟩
  have a2 := (h4 (i + 1) (by first | decide | omega) (by first | decide | omega)).mpr ⟨(by first | decide | omega), i1⟩
  exact (dq.2.2.2.2 i (by first | decide | omega) (by first | decide | omega)).2 (by first | decide | omega)
theorem M_hs4 {k : Int} {F : zF} {B : zB} (dq : DTq g D N bg en tn tk) (hM : MFq w D N bg en tn tk F B) (hk : 0 ≤ k ∧ k < 8) : ∀ (d m : Nat) (i r : Int), i + d = N → 0 ≤ i → d < m → (r = 0 ∨ r = 1) → ∃ r', f_M_hasSounds_4 Km m i r k F B = some (r', F, B) ∧ (r' = 0 ∨ r' = 1) ∧ (r' = 1 ↔ r = 1 ∨ ∃ j, i ≤ j ∧ j < N ∧ tk j = k) := by
  have hN := dq.2.2.1
  obtain ⟨h1, h2, h3, h4⟩ := hM
  intro d
  induction d with
  | zero =>
    intro m i r e i0 hm hr
    obtain ⟨p, rfl⟩ : ∃ p, m = p + 1 := ⟨m - 1, (by first | decide | omega)⟩
    refine ⟨r, ?_, hr, ⟨Or.inl, fun h => ?_⟩⟩
    · rw [f_M_hasSounds_4, if_pos (by unfold r32; omega), h3, if_pos (by unfold r32; omega), if_pos (by first | decide | omega), if_pos hr]
    · rcases h with h | ⟨j, a, b, _⟩
      · exact h
      · omega
  | succ d ih =>
    intro m i r e i0 hm hr
    obtain ⟨p, rfl⟩ : ∃ p, m = p + 1 := ⟨m - 1, (by first | decide | omega)⟩
    have b := (h4 i i0 (by first | decide | omega)).1
    have dd := (dq.2.2.2.1 i i0 (by first | decide | omega)).1
    rw [f_M_hasSounds_4, if_pos (by unfold r32; omega), h3, if_pos (by unfold r32; omega), if_neg (by first | decide | omega), if_pos (by unfold r32; omega)]
    unfold f_M_hasSounds_29 f_M_hasSounds_34
    have fin : ∀ r0 : Int, (r0 = 0 ∨ r0 = 1) → (r0 = 1 ↔ r = 1 ∨ tk i = k) → ∃ r', f_M_hasSounds_4 Km p (i + 1) r0 k F B = some (r', F, B) ∧ (r' = 0 ∨ r' = 1) ∧ (r' = 1 ↔ r = 1 ∨ ∃ j, i ≤ j ∧ j < N ∧ tk j = k) := fun r0 hr0 hi => by
      obtain ⟨r', x1, x2, x3⟩ := ih p (i + 1) r0 (by first | decide | omega) (by first | decide | omega) (by first | decide | omega) hr0
      refine ⟨r', x1, x2, x3.trans ⟨fun h => ?_, fun h => ?_⟩⟩
      · rcases h with h | ⟨j, a, b, c⟩
        · rcases hi.mp h with q | q
          · exact Or.inl q
          · exact Or.inr ⟨i, (by first | decide | omega), (by first | decide | omega), q⟩
        · exact Or.inr ⟨j, (by first | decide | omega), b, c⟩
      · rcases h with h | ⟨j, a, b, c⟩
        · exact Or.inl (hi.mpr (Or.inl h))
        · by_cases y : j = i
          · exact Or.inl (hi.mpr (Or.inr (by rw [← y]; exact c)))
          · exact Or.inr ⟨j, (by first | decide | omega), b, c⟩
    by_cases z : r = 0
    · rw [if_pos z, if_pos (by first | decide | omega), b, if_pos (by unfold r32; omega), if_pos (by unfold r32; omega)]
      by_cases y : tk i = k
      · rw [if_pos y]; exact fin 1 (Or.inr rfl) ⟨fun _ => Or.inr y, fun _ => rfl⟩
      · rw [if_neg y]; exact fin 0 (Or.inl rfl) ⟨fun h => (by first | decide | omega), fun h => h.elim (fun q => (by first | decide | omega)) (fun q => absurd q y)⟩
    · rw [if_neg z]; exact fin 1 (Or.inr rfl) ⟨fun _ => Or.inl (by first | decide | omega), fun _ => rfl⟩
theorem M_t37 {a z k v : Int} {F : zF} {B : zB} (dq : DTq g D N bg en tn tk) (hM : MFq w D N bg en tn tk F B) (hb : BLK tk N a z k) (hk : 0 ≤ k ∧ k < 8) : ∀ (d m : Nat) (i : Int), i + d = N → 0 ≤ i → d < m → f_M_trackEvents_37 Km m i (((if i ≤ a then 0 else if i ≤ z then i - a else z - a).toNat : Nat) : Int) (sm60 tn a (if i ≤ a then 0 else if i ≤ z then i - a else z - a).toNat) 0 k v g F B = f_M_trackEvents_108 Km (z - a) 0 k v g w v (if sm60 tn a (z - a).toNat < 0 then 1 else 0) F B := by
  have hN := dq.2.2.1
  obtain ⟨⟨b1, b2, b3⟩, b4⟩ := hb
  obtain ⟨h1, h2, h3, h4⟩ := hM
  have sb : ∀ n : Nat, a + n ≤ z → -30000 ≤ sm60 tn a n ∧ sm60 tn a n ≤ 30000 := fun n hn => by
    have := sm_b (tn := tn) (a := a) n (fun i i0 i1 => (dq.2.2.2.1 i (by first | decide | omega) (by first | decide | omega)).2.1)
    omega
  intro d
  induction d with
  | zero =>
    intro m i e i0 hm
    obtain ⟨p, rfl⟩ : ∃ p, m = p + 1 := ⟨m - 1, (by first | decide | omega)⟩
    have en' : (if i ≤ a then 0 else if i ≤ z then i - a else z - a) = z - a := by
      rw [if_neg (by first | decide | omega)]
      by_cases y : i ≤ z
      · rw [if_pos y]; omega
      · rw [if_neg y]
    have s1 := sb (z - a).toNat (by first | decide | omega)
    rw [en', f_M_trackEvents_37, if_pos (by unfold r32; omega), h3, if_pos (by unfold r32; omega), if_pos (by first | decide | omega), h1.1, if_pos h1.2, if_pos (by unfold r64; omega), show (((z - a).toNat : Nat) : Int) = z - a by omega]
    by_cases y : sm60 tn a (z - a).toNat < 0
    · rw [if_pos (zcmp_lt.mpr y), if_pos y]
    · rw [if_neg (fun q => y (zcmp_lt.mp q)), if_neg y]
  | succ d ih =>
    intro m i e i0 hm
    obtain ⟨p, rfl⟩ : ∃ p, m = p + 1 := ⟨m - 1, (by first | decide | omega)⟩
    have b := h4 i i0 (by first | decide | omega)
    have dd := dq.2.2.2.1 i i0 (by first | decide | omega)
    have ihi := ih p (i + 1) (by first | decide | omega) (by first | decide | omega) (by first | decide | omega)
    rw [f_M_trackEvents_37, if_pos (by unfold r32; omega), h3, if_pos (by unfold r32; omega), if_neg (by first | decide | omega), if_pos (by first | decide | omega), b.1, if_pos (by unfold r32; omega), if_pos (by unfold r32; omega), b.2.1]
    unfold f_M_trackEvents_82
    by_cases y : a ≤ i ∧ i < z
    · have e1 : (if i ≤ a then 0 else if i ≤ z then i - a else z - a) = i - a := by
        by_cases u : i ≤ a
        · rw [if_pos u]; omega
        · rw [if_neg u, if_pos (by first | decide | omega)]
      have e2 : (if i + 1 ≤ a then 0 else if i + 1 ≤ z then i + 1 - a else z - a) = i + 1 - a := by rw [if_neg (by first | decide | omega), if_pos (by first | decide | omega)]
      rw [e2, show (i + 1 - a).toNat = (i - a).toNat + 1 by omega, sm60, show a + ((i - a).toNat : Int) = i by omega, show (((i - a).toNat + 1 : Nat) : Int) = ((i - a).toNat : Int) + 1 by omega] at ihi
      rw [if_pos ((b4 i i0 (by first | decide | omega)).mpr y), if_pos (by unfold r32; omega), e1, ihi]
    · have e1 : (if i + 1 ≤ a then 0 else if i + 1 ≤ z then i + 1 - a else z - a) = (if i ≤ a then 0 else if i ≤ z then i - a else z - a) := by
        by_cases u : i + 1 ≤ a
        · rw [if_pos u, if_pos (by first | decide | omega)]
        · rw [if_neg u, if_neg (by first | decide | omega), if_neg (by first | decide | omega)]
          by_cases u2 : i ≤ z
          · rw [if_pos u2]; omega
          · rw [if_neg u2]
      rw [e1] at ihi
      rw [if_neg (fun q => y ((b4 i i0 (by first | decide | omega)).mp q)), ihi]
theorem M_t112 {a z k v c : Int} {F : zF} {B : zB} (dq : DTq g D N bg en tn tk) (hM : MFq w D N bg en tn tk F B) (hb : BLK tk N a z k) (hk : 0 ≤ k ∧ k < 8) : ∀ (d m : Nat) (i : Int), i + d = a → 0 ≤ i → d < m → f_M_trackEvents_112 Km m i c 0 k v g F B = f_M_trackEvents_136 Km Km (a + c) a 0 v g F B := by
  have hN := dq.2.2.1
  obtain ⟨⟨b1, b2, b3⟩, b4⟩ := hb
  obtain ⟨h1, h2, h3, h4⟩ := hM
  intro d
  induction d with
  | zero =>
    intro m i e i0 hm
    obtain ⟨p, rfl⟩ : ∃ p, m = p + 1 := ⟨m - 1, (by first | decide | omega)⟩
    have : i = a := by omega
    subst this
    have b := (h4 i i0 (by first | decide | omega)).1
    have dd := (dq.2.2.2.1 i i0 (by first | decide | omega)).1
    rw [f_M_trackEvents_112, if_pos (by first | decide | omega), b, if_pos (by unfold r32; omega), if_pos (by unfold r32; omega), if_pos ((b4 i i0 (by first | decide | omega)).mpr (by first | decide | omega))]
  | succ d ih =>
    intro m i e i0 hm
    obtain ⟨p, rfl⟩ : ∃ p, m = p + 1 := ⟨m - 1, (by first | decide | omega)⟩
    have b := (h4 i i0 (by first | decide | omega)).1
    have dd := (dq.2.2.2.1 i i0 (by first | decide | omega)).1
    rw [f_M_trackEvents_112, if_pos (by first | decide | omega), b, if_pos (by unfold r32; omega), if_pos (by unfold r32; omega), if_neg (fun q => by have := (b4 i i0 (by first | decide | omega)).mp q; omega), ih p (i + 1) (by first | decide | omega) (by first | decide | omega) (by first | decide | omega)]
/-- what the rows of a voice may change into -/
def tvM (w v : Int) (B B' : zB) : Prop := ∀ c i k y, ¬ (c = 13 ∧ i = w ∧ (((k = 8 ∨ k = 9 ∨ k = 12) ∧ y = v) ∨ ((k = 16 ∨ k = 17 ∨ k = 18 ∨ k = 21 ∨ k = 22) ∧ 1000 * v ≤ y ∧ y < 1000 * v + 1000) ∨ ((k = 28 ∨ k = 29) ∧ 6000 * v ≤ y ∧ y < 6000 * v + 6000))) → ¬ (c = 14 ∧ i = 0 ∧ k = 95) → B' c i k y = B c i k y
/-- voice v, out of the sounds from a on: its clef, its program's number, its spans -/
def VOk (K : zK) (o f w g D N : Int) (bg en tn tk nb : Int → Int) (B : zB) (v a : Int) : Prop := (B 13 w 8 v = if sm60 tn a (nxG tk a N - a).toNat < 0 then 1 else 0) ∧ B 13 w 9 v = nb (tk a) ∧ ∃ EL, GLp K o f (fun i => gplF g D (bg i)) (fun i => gplF g D (en i)) tn (nxG tk a N) 400 a 0 EL ∧ B 13 w 12 v = (EL.length : Int) ∧ (EL.length : Int) ≤ 800 ∧ EVL g w v B 0 EL
theorem M_te {a v : Int} {nb : Int → Int} {F : zF} {B : zB} (h7 : 0 < K.2 7) (h1 : 0 < K.2 1) (hK : 200 ≤ K.1) (hKm : 1000 ≤ Km) (ho : 0 ≤ o ∧ o < K.2 8) (hf : -7 ≤ f ∧ f ≤ 7) (dq : DTq g D N bg en tn tk) (v0 : 0 ≤ v ∧ v < 4) (ha : 0 ≤ a ∧ a < N) (hl : ∀ i, 0 ≤ i → i < a → tk i < tk a) (hM : MFq w D N bg en tn tk F B) (m2 : F 13 w 2 = f) (hnb : B 14 0 81 (tk a) = nb (tk a)) : ∃ F' B', f_M_trackEvents Km (tk a) v g F B = some (lsG (fun i => gplF g D (bg i)) (fun i => gplF g D (en i)) (nxG tk a N) 400 a 0, F', B') ∧ (∀ c y k, ¬ (c = 14 ∧ y = 0 ∧ k ≤ 1) → F' c y k = F c y k) ∧ tvM w v B B' ∧ VOk K o f w g D N bg en tn tk nb B' v a ∧ (0 ≤ lsG (fun i => gplF g D (bg i)) (fun i => gplF g D (en i)) (nxG tk a N) 400 a 0 ∧ lsG (fun i => gplF g D (bg i)) (fun i => gplF g D (en i)) (nxG tk a N) 400 a 0 ≤ 40000000000000) := by
  have hN := dq.2.2.1
  have hb := blk_o dq ha hl
  have dk := (dq.2.2.2.1 a ha.1 ha.2).1
  have hw := hM.1
  have hb' := hb
  obtain ⟨⟨b1, b2, b3⟩, b4⟩ := hb'
  generalize hB1 : zup4 (zup4 B 13 w 12 v 0) 13 w 9 v (nb (tk a)) = B1
  have n1 : ∀ c i k y, ¬ (c = 13 ∧ i = w ∧ (k = 9 ∨ k = 12) ∧ y = v) → B1 c i k y = B c i k y := fun c i k y n => by rw [← hB1, zup4_v, if_neg (by first | decide | omega), zup4_v, if_neg (by first | decide | omega)]
  have hM1 : MFq w D N bg en tn tk F B1 := MFq_f hM rfl (fun k x _ _ => n1 14 0 k x (by first | decide | omega))
  have e37 := M_t37 (Km := Km) (v := v) dq hM1 hb ⟨dk.1, (by first | decide | omega)⟩ N.toNat Km 0 (by first | decide | omega) (by first | decide | omega) (by first | decide | omega)
  rw [if_pos (show (0 : Int) ≤ a from ha.1), show (0 : Int).toNat = 0 from rfl] at e37
  generalize hcl : (if sm60 tn a (nxG tk a N - a).toNat < 0 then (1 : Int) else 0) = cl at e37
  generalize hB2 : zup4 B1 13 w 8 v cl = B2
  have n2 : ∀ c i k y, ¬ (c = 13 ∧ i = w ∧ k = 8 ∧ y = v) → B2 c i k y = B1 c i k y := fun c i k y n => by rw [← hB2, zup4_v, if_neg (by first | decide | omega)]
  have hM2 : MFq w D N bg en tn tk F B2 := MFq_f hM1 rfl (fun k x _ _ => n2 14 0 k x (by first | decide | omega))
  obtain ⟨F3, B3, EL, u1, u2, u3, u4, u5, u6, u7, u8⟩ := M_t136 (Km := Km) (K := K) (o := o) (f := f) (w := w) (z := nxG tk a N) (s0 := a) (v := v) h7 h1 hK hKm ho hf dq b3 v0 (blk_m dq hb) 400 Km a 0 0 F B2 (by first | decide | omega) (by first | decide | omega) ha.1 (by first | decide | omega) (by first | decide | omega) (by first | decide | omega) (by first | decide | omega) (fun _ => (gpl_b dq.1 dq.2.1 (dq.2.2.2.1 a ha.1 ha.2).2.2.1).1) (by first | decide | omega) (by first | decide | omega) hM2 m2 (by rw [n2 13 w 12 v (by first | decide | omega), ← hB1]; simp [zup4_v])
  refine ⟨F3, B3, ?_, u2, fun c i k y n n' => ?_, ⟨?_, ?_, EL, u5, by rw [u4]; simp, (by first | decide | omega), u6⟩, u8⟩
  · unfold f_M_trackEvents
    have e81 : (zup4 B 13 w 12 v 0) 14 0 81 (tk a) = nb (tk a) := by rw [zup4_v, if_neg (by first | decide | omega)]; exact hnb
    rw [hw.1, if_pos hw.2, if_pos v0, if_pos (by first | decide | omega), e81, hB1]
    have e37' : f_M_trackEvents_37 Km Km 0 0 0 0 (tk a) v g F B1 = f_M_trackEvents_108 Km (nxG tk a N - a) 0 (tk a) v g w v cl F B1 := e37
    rw [e37']
    unfold f_M_trackEvents_108
    rw [if_pos hw.2, if_pos v0, hB2, M_t112 dq hM2 hb ⟨dk.1, (by first | decide | omega)⟩ a.toNat Km 0 (by first | decide | omega) (by first | decide | omega) (by first | decide | omega), show a + (nxG tk a N - a) = nxG tk a N by omega]
    exact u1
  · rw [u3 c i k y (by first | decide | omega) n', n2 c i k y (by first | decide | omega), n1 c i k y (by first | decide | omega)]
  · rw [u3 13 w 8 v (by first | decide | omega) (by first | decide | omega), ← hB2, zup4_v, if_pos (by first | decide | omega), hcl]
  · rw [u3 13 w 9 v (by first | decide | omega) (by first | decide | omega), n2 13 w 9 v (by first | decide | omega), ← hB1, zup4_v, if_pos (by first | decide | omega)]
end
end

section
section
/-! ===== the reference: tracks become voices ===== -/
def sm60 (tn : Int → Int) (a : Int) : Nat → Int
  | 0 => 0
  | n + 1 => sm60 tn a n + (tn (a + n) - 60)
/-- which sounds belong to the track k: those from a to z -/
def BLK (tk : Int → Int) (N a z k : Int) : Prop := (0 ≤ a ∧ a < z ∧ z ≤ N) ∧ (∀ i, 0 ≤ i → i < N → (tk i = k ↔ a ≤ i ∧ i < z))
theorem sm_b {tn : Int → Int} {a : Int} : ∀ (n : Nat), (∀ i, a ≤ i → i < a + n → 0 ≤ tn i ∧ tn i < 128) → -(60 * (n : Int)) ≤ sm60 tn a n ∧ sm60 tn a n ≤ 68 * n := by
  intro n
  induction n with
  | zero => intro _; rw [sm60]; simp
  | succ n ih =>
    intro h
    have := ih (fun i a b => h i a (by first | decide | omega))
    have := h (a + n) (by first | decide | omega) (by first | decide | omega)
    rw [sm60]
    omega
section
variable {Km : Nat} {K : zK} {o f w g D N : Int} {bg en tn tk : Int → Int}
theorem tkk_m (dq : DTq g D N bg en tn tk) : ∀ (d : Nat) (i : Int), 0 ≤ i → i + d < N → tk i ≤ tk (i + d) := by
  intro d
  induction d with
  | zero => intro i _ _; simp
  | succ d ih =>
    intro i i0 i1
    have a := ih i i0 (by first | decide | omega)
    have b := (dq.2.2.2.2 (i + d) (by first | decide | omega) (by first | decide | omega)).1
    rw [show i + ((d + 1 : Nat) : Int) = i + d + 1 by omega]
    omega
theorem blk_o {a : Int} (dq : DTq g D N bg en tn tk) (ha : 0 ≤ a ∧ a < N) (hl : ∀ i, 0 ≤ i → i < a → tk i < tk a) : BLK tk N a (nxG tk a N) (tk a) := by
  have hN := dq.2.2.1
  obtain ⟨p1, p2, p3, p4⟩ := nxG_p (gB := tk) ha.2 (by first | decide | omega) ha.1
  refine ⟨⟨ha.1, p1, p2⟩, fun i i0 i1 => ⟨fun e => ⟨?_, ?_⟩, fun h => p3 i h.1 h.2⟩⟩
  · rcases Int.lt_or_le i a with z | z
    · have := hl i i0 z; omega
    · exact z
  · rcases Int.lt_or_le i (nxG tk a N) with z | z
    · exact z
    · have n1 := p4 (by first | decide | omega)
      have m1 := tkk_m dq (nxG tk a N - a).toNat a ha.1 (by first | decide | omega)
      have m2 := tkk_m dq (i - nxG tk a N).toNat (nxG tk a N) (by first | decide | omega) (by first | decide | omega)
      rw [show a + ((nxG tk a N - a).toNat : Int) = nxG tk a N by omega] at m1
      rw [show nxG tk a N + ((i - nxG tk a N).toNat : Int) = i by omega] at m2
      omega
theorem blk_m {a z k : Int} (dq : DTq g D N bg en tn tk) (h : BLK tk N a z k) : ∀ i, a ≤ i → i + 1 < z → bg i ≤ bg (i + 1) := fun i i0 i1 => by
  obtain ⟨⟨h1, h2, h3⟩, h4⟩ := h
  have a1 := (h4 i (by first | decide | omega) (by first | decide | omega)).mpr ⟨i0, (by first | decide | omega)⟩
  have a2 := (h4 (i + 1) (by first | decide | omega) (by first | decide | omega)).mpr ⟨(by first | decide | omega), i1⟩
  exact (dq.2.2.2.2 i (by first | decide | omega) (by first | decide | omega)).2 (by first | decide | omega)
theorem M_hs4 {k : Int} {F : zF} {B : zB} (dq : DTq g D N bg en tn tk) (hM : MFq w D N bg en tn tk F B) (hk : 0 ≤ k ∧ k < 8) : ∀ (d m : Nat) (i r : Int), i + d = N → 0 ≤ i → d < m → (r = 0 ∨ r = 1) → ∃ r', f_M_hasSounds_4 Km m i r k F B = some (r', F, B) ∧ (r' = 0 ∨ r' = 1) ∧ (r' = 1 ↔ r = 1 ∨ ∃ j, i ≤ j ∧ j < N ∧ tk j = k) := by
  have hN := dq.2.2.1
  obtain ⟨h1, h2, h3, h4⟩ := hM
  intro d
  induction d with
  | zero =>
    intro m i r e i0 hm hr
    obtain ⟨p, rfl⟩ : ∃ p, m = p + 1 := ⟨m - 1, (by first | decide | omega)⟩
    refine ⟨r, ?_, hr, ⟨Or.inl, fun h => ?_⟩⟩
    · rw [f_M_hasSounds_4, if_pos (by unfold r32; omega), h3, if_pos (by unfold r32; omega), if_pos (by first | decide | omega), if_pos hr]
    · rcases h with h | ⟨j, a, b, _⟩
      · exact h
      · omega
  | succ d ih =>
    intro m i r e i0 hm hr
    obtain ⟨p, rfl⟩ : ∃ p, m = p + 1 := ⟨m - 1, (by first | decide | omega)⟩
    have b := (h4 i i0 (by first | decide | omega)).1
    have dd := (dq.2.2.2.1 i i0 (by first | decide | omega)).1
    rw [f_M_hasSounds_4, if_pos (by unfold r32; omega), h3, if_pos (by unfold r32; omega), if_neg (by first | decide | omega), if_pos (by unfold r32; omega)]
    unfold f_M_hasSounds_29 f_M_hasSounds_34
    have fin : ∀ r0 : Int, (r0 = 0 ∨ r0 = 1) → (r0 = 1 ↔ r = 1 ∨ tk i = k) → ∃ r', f_M_hasSounds_4 Km p (i + 1) r0 k F B = some (r', F, B) ∧ (r' = 0 ∨ r' = 1) ∧ (r' = 1 ↔ r = 1 ∨ ∃ j, i ≤ j ∧ j < N ∧ tk j = k) := fun r0 hr0 hi => by
      obtain ⟨r', x1, x2, x3⟩ := ih p (i + 1) r0 (by first | decide | omega) (by first | decide | omega) (by first | decide | omega) hr0
      refine ⟨r', x1, x2, x3.trans ⟨fun h => ?_, fun h => ?_⟩⟩
      · rcases h with h | ⟨j, a, b, c⟩
        · rcases hi.mp h with q | q
          · exact Or.inl q
          · exact Or.inr ⟨i, (by first | decide | omega), (by first | decide | omega), q⟩
        · exact Or.inr ⟨j, (by first | decide | omega), b, c⟩
      · rcases h with h | ⟨j, a, b, c⟩
        · exact Or.inl (hi.mpr (Or.inl h))
        · by_cases y : j = i
          · exact Or.inl (hi.mpr (Or.inr (by rw [← y]; exact c)))
          · exact Or.inr ⟨j, (by first | decide | omega), b, c⟩
    by_cases z : r = 0
    · rw [if_pos z, if_pos (by first | decide | omega), b, if_pos (by unfold r32; omega), if_pos (by unfold r32; omega)]
      by_cases y : tk i = k
      · rw [if_pos y]; exact fin 1 (Or.inr rfl) ⟨fun _ => Or.inr y, fun _ => rfl⟩
      · rw [if_neg y]; exact fin 0 (Or.inl rfl) ⟨fun h => (by first | decide | omega), fun h => h.elim (fun q => (by first | decide | omega)) (fun q => absurd q y)⟩
    · rw [if_neg z]; exact fin 1 (Or.inr rfl) ⟨fun _ => Or.inl (by first | decide | omega), fun _ => rfl⟩
theorem M_t37 {a z k v : Int} {F : zF} {B : zB} (dq : DTq g D N bg en tn tk) (hM : MFq w D N bg en tn tk F B) (hb : BLK tk N a z k) (hk : 0 ≤ k ∧ k < 8) : ∀ (d m : Nat) (i : Int), i + d = N → 0 ≤ i → d < m → f_M_trackEvents_37 Km m i (((if i ≤ a then 0 else if i ≤ z then i - a else z - a).toNat : Nat) : Int) (sm60 tn a (if i ≤ a then 0 else if i ≤ z then i - a else z - a).toNat) 0 k v g F B = f_M_trackEvents_108 Km (z - a) 0 k v g w v (if sm60 tn a (z - a).toNat < 0 then 1 else 0) F B := by
  have hN := dq.2.2.1
  obtain ⟨⟨b1, b2, b3⟩, b4⟩ := hb
  obtain ⟨h1, h2, h3, h4⟩ := hM
  have sb : ∀ n : Nat, a + n ≤ z → -30000 ≤ sm60 tn a n ∧ sm60 tn a n ≤ 30000 := fun n hn => by
    have := sm_b (tn := tn) (a := a) n (fun i i0 i1 => (dq.2.2.2.1 i (by first | decide | omega) (by first | decide | omega)).2.1)
    omega
  intro d
  induction d with
  | zero =>
    intro m i e i0 hm
    obtain ⟨p, rfl⟩ : ∃ p, m = p + 1 := ⟨m - 1, (by first | decide | omega)⟩
    have en' : (if i ≤ a then 0 else if i ≤ z then i - a else z - a) = z - a := by
      rw [if_neg (by first | decide | omega)]
      by_cases y : i ≤ z
      · rw [if_pos y]; omega
      · rw [if_neg y]
    have s1 := sb (z - a).toNat (by first | decide | omega)
    rw [en', f_M_trackEvents_37, if_pos (by unfold r32; omega), h3, if_pos (by unfold r32; omega), if_pos (by first | decide | omega), h1.1, if_pos h1.2, if_pos (by unfold r64; omega), show (((z - a).toNat : Nat) : Int) = z - a by omega]
    by_cases y : sm60 tn a (z - a).toNat < 0
    · rw [if_pos (zcmp_lt.mpr y), if_pos y]
    · rw [if_neg (fun q => y (zcmp_lt.mp q)), if_neg y]
  | succ d ih =>
    intro m i e i0 hm
    obtain ⟨p, rfl⟩ : ∃ p, m = p + 1 := ⟨m - 1, (by first | decide | omega)⟩
    have b := h4 i i0 (by first | decide | omega)
    have dd := dq.2.2.2.1 i i0 (by first | decide | omega)
    have ihi := ih p (i + 1) (by first | decide | omega) (by first | decide | omega) (by first | decide | omega)
    rw [f_M_trackEvents_37, if_pos (by unfold r32; omega), h3, if_pos (by unfold r32; omega), if_neg (by first | decide | omega), if_pos (by first | decide | omega), b.1, if_pos (by unfold r32; omega), if_pos (by unfold r32; omega), b.2.1]
    unfold f_M_trackEvents_82
    by_cases y : a ≤ i ∧ i < z
    · have e1 : (if i ≤ a then 0 else if i ≤ z then i - a else z - a) = i - a := by
        by_cases u : i ≤ a
        · rw [if_pos u]; omega
        · rw [if_neg u, if_pos (by first | decide | omega)]
      have e2 : (if i + 1 ≤ a then 0 else if i + 1 ≤ z then i + 1 - a else z - a) = i + 1 - a := by rw [if_neg (by first | decide | omega), if_pos (by first | decide | omega)]
      rw [e2, show (i + 1 - a).toNat = (i - a).toNat + 1 by omega, sm60, show a + ((i - a).toNat : Int) = i by omega, show (((i - a).toNat + 1 : Nat) : Int) = ((i - a).toNat : Int) + 1 by omega] at ihi
      rw [if_pos ((b4 i i0 (by first | decide | omega)).mpr y), if_pos (by unfold r32; omega), e1, ihi]
    · have e1 : (if i + 1 ≤ a then 0 else if i + 1 ≤ z then i + 1 - a else z - a) = (if i ≤ a then 0 else if i ≤ z then i - a else z - a) := by
        by_cases u : i + 1 ≤ a
        · rw [if_pos u, if_pos (by first | decide | omega)]
        · rw [if_neg u, if_neg (by first | decide | omega), if_neg (by first | decide | omega)]
          by_cases u2 : i ≤ z
          · rw [if_pos u2]; omega
          · rw [if_neg u2]
      rw [e1] at ihi
      rw [if_neg (fun q => y ((b4 i i0 (by first | decide | omega)).mp q)), ihi]
theorem M_t112 {a z k v c : Int} {F : zF} {B : zB} (dq : DTq g D N bg en tn tk) (hM : MFq w D N bg en tn tk F B) (hb : BLK tk N a z k) (hk : 0 ≤ k ∧ k < 8) : ∀ (d m : Nat) (i : Int), i + d = a → 0 ≤ i → d < m → f_M_trackEvents_112 Km m i c 0 k v g F B = f_M_trackEvents_136 Km Km (a + c) a 0 v g F B := by
  have hN := dq.2.2.1
  obtain ⟨⟨b1, b2, b3⟩, b4⟩ := hb
  obtain ⟨h1, h2, h3, h4⟩ := hM
  intro d
  induction d with
  | zero =>
    intro m i e i0 hm
    obtain ⟨p, rfl⟩ : ∃ p, m = p + 1 := ⟨m - 1, (by first | decide | omega)⟩
    have : i = a := by omega
    subst this
    have b := (h4 i i0 (by first | decide | omega)).1
    have dd := (dq.2.2.2.1 i i0 (by first | decide | omega)).1
    rw [f_M_trackEvents_112, if_pos (by first | decide | omega), b, if_pos (by unfold r32; omega), if_pos (by unfold r32; omega), if_pos ((b4 i i0 (by first | decide | omega)).mpr (by first | decide | omega))]
  | succ d ih =>
    intro m i e i0 hm
    obtain ⟨p, rfl⟩ : ∃ p, m = p + 1 := ⟨m - 1, (by first | decide | omega)⟩
    have b := (h4 i i0 (by first | decide | omega)).1
    have dd := (dq.2.2.2.1 i i0 (by first | decide | omega)).1
    rw [f_M_trackEvents_112, if_pos (by first | decide | omega), b, if_pos (by unfold r32; omega), if_pos (by unfold r32; omega), if_neg (fun q => by have := (b4 i i0 (by first | decide | omega)).mp q; omega), ih p (i + 1) (by first | decide | omega) (by first | decide | omega) (by first | decide | omega)]
/-- what the rows of a voice may change into -/
def tvM (w v : Int) (B B' : zB) : Prop := ∀ c i k y, ¬ (c = 13 ∧ i = w ∧ (((k = 8 ∨ k = 9 ∨ k = 12) ∧ y = v) ∨ ((k = 16 ∨ k = 17 ∨ k = 18 ∨ k = 21 ∨ k = 22) ∧ 1000 * v ≤ y ∧ y < 1000 * v + 1000) ∨ ((k = 28 ∨ k = 29) ∧ 6000 * v ≤ y ∧ y < 6000 * v + 6000))) → ¬ (c = 14 ∧ i = 0 ∧ k = 95) → B' c i k y = B c i k y
/-- voice v, out of the sounds from a on: its clef, its program's number, its spans -/
def VOk (K : zK) (o f w g D N : Int) (bg en tn tk nb : Int → Int) (B : zB) (v a : Int) : Prop := (B 13 w 8 v = if sm60 tn a (nxG tk a N - a).toNat < 0 then 1 else 0) ∧ B 13 w 9 v = nb (tk a) ∧ ∃ EL, GLp K o f (fun i => gplF g D (bg i)) (fun i => gplF g D (en i)) tn (nxG tk a N) 400 a 0 EL ∧ B 13 w 12 v = (EL.length : Int) ∧ (EL.length : Int) ≤ 800 ∧ EVL g w v B 0 EL
theorem M_te {a v : Int} {nb : Int → Int} {F : zF} {B : zB} (h7 : 0 < K.2 7) (h1 : 0 < K.2 1) (hK : 200 ≤ K.1) (hKm : 1000 ≤ Km) (ho : 0 ≤ o ∧ o < K.2 8) (hf : -7 ≤ f ∧ f ≤ 7) (dq : DTq g D N bg en tn tk) (v0 : 0 ≤ v ∧ v < 4) (ha : 0 ≤ a ∧ a < N) (hl : ∀ i, 0 ≤ i → i < a → tk i < tk a) (hM : MFq w D N bg en tn tk F B) (m2 : F 13 w 2 = f) (hnb : B 14 0 81 (tk a) = nb (tk a)) : ∃ F' B', f_M_trackEvents Km (tk a) v g F B = some (lsG (fun i => gplF g D (bg i)) (fun i => gplF g D (en i)) (nxG tk a N) 400 a 0, F', B') ∧ (∀ c y k, ¬ (c = 14 ∧ y = 0 ∧ k ≤ 1) → F' c y k = F c y k) ∧ tvM w v B B' ∧ VOk K o f w g D N bg en tn tk nb B' v a ∧ (0 ≤ lsG (fun i => gplF g D (bg i)) (fun i => gplF g D (en i)) (nxG tk a N) 400 a 0 ∧ lsG (fun i => gplF g D (bg i)) (fun i => gplF g D (en i)) (nxG tk a N) 400 a 0 ≤ 40000000000000) := by
  have hN := dq.2.2.1
  have hb := blk_o dq ha hl
  have dk := (dq.2.2.2.1 a ha.1 ha.2).1
  have hw := hM.1
  have hb' := hb
  obtain ⟨⟨b1, b2, b3⟩, b4⟩ := hb'
  generalize hB1 : zup4 (zup4 B 13 w 12 v 0) 13 w 9 v (nb (tk a)) = B1
  have n1 : ∀ c i k y, ¬ (c = 13 ∧ i = w ∧ (k = 9 ∨ k = 12) ∧ y = v) → B1 c i k y = B c i k y := fun c i k y n => by rw [← hB1, zup4_v, if_neg (by first | decide | omega), zup4_v, if_neg (by first | decide | omega)]
  have hM1 : MFq w D N bg en tn tk F B1 := MFq_f hM rfl (fun k x _ _ => n1 14 0 k x (by first | decide | omega))
  have e37 := M_t37 (Km := Km) (v := v) dq hM1 hb ⟨dk.1, (by first | decide | omega)⟩ N.toNat Km 0 (by first | decide | omega) (by first | decide | omega) (by first | decide | omega)
  rw [if_pos (show (0 : Int) ≤ a from ha.1), show (0 : Int).toNat = 0 from rfl] at e37
  generalize hcl : (if sm60 tn a (nxG tk a N - a).toNat < 0 then (1 : Int) else 0) = cl at e37
  generalize hB2 : zup4 B1 13 w 8 v cl = B2
  have n2 : ∀ c i k y, ¬ (c = 13 ∧ i = w ∧ k = 8 ∧ y = v) → B2 c i k y = B1 c i k y := fun c i k y n => by rw [← hB2, zup4_v, if_neg (by first | decide | omega)]
  have hM2 : MFq w D N bg en tn tk F B2 := MFq_f hM1 rfl (fun k x _ _ => n2 14 0 k x (by first | decide | omega))
  obtain ⟨F3, B3, EL, u1, u2, u3, u4, u5, u6, u7, u8⟩ := M_t136 (Km := Km) (K := K) (o := o) (f := f) (w := w) (z := nxG tk a N) (s0 := a) (v := v) h7 h1 hK hKm ho hf dq b3 v0 (blk_m dq hb) 400 Km a 0 0 F B2 (by first | decide | omega) (by first | decide | omega) ha.1 (by first | decide | omega) (by first | decide | omega) (by first | decide | omega) (by first | decide | omega) (fun _ => (gpl_b dq.1 dq.2.1 (dq.2.2.2.1 a ha.1 ha.2).2.2.1).1) (by first | decide | omega) (by first | decide | omega) hM2 m2 (by rw [n2 13 w 12 v (by first | decide | omega), ← hB1]; simp [zup4_v])
  refine ⟨F3, B3, ?_, u2, fun c i k y n n' => ?_, ⟨?_, ?_, EL, u5, by rw [u4]; simp, (by first | decide | omega), u6⟩, u8⟩
  · unfold f_M_trackEvents
    have e81 : (zup4 B 13 w 12 v 0) 14 0 81 (tk a) = nb (tk a) := by rw [zup4_v, if_neg (by first | decide | omega)]; exact hnb
    rw [hw.1, if_pos hw.2, if_pos v0, if_pos (by first | decide | omega), e81, hB1]
    have e37' : f_M_trackEvents_37 Km Km 0 0 0 0 (tk a) v g F B1 = f_M_trackEvents_108 Km (nxG tk a N - a) 0 (tk a) v g w v cl F B1 := e37
    rw [e37']
    unfold f_M_trackEvents_108
    rw [if_pos hw.2, if_pos v0, hB2, M_t112 dq hM2 hb ⟨dk.1, (by first | decide | omega)⟩ a.toNat Km 0 (by first | decide | omega) (by first | decide | omega) (by first | decide | omega), show a + (nxG tk a N - a) = nxG tk a N by omega]
    exact u1
  · rw [u3 c i k y (by first | decide | omega) n', n2 c i k y (by first | decide | omega), n1 c i k y (by first | decide | omega)]
  · rw [u3 13 w 8 v (by first | decide | omega) (by first | decide | omega), ← hB2, zup4_v, if_pos (by first | decide | omega), hcl]
  · rw [u3 13 w 9 v (by first | decide | omega) (by first | decide | omega), n2 13 w 9 v (by first | decide | omega), ← hB1, zup4_v, if_pos (by first | decide | omega)]
end
end
end
section
section
/-! ===== the reference: all tracks become voices ===== -/
/-- where the sounds of each voice begin -/
def vlB (tk : Int → Int) (N : Int) : Nat → Int → Int → List Int
  | 0, _, _ => []
  | f + 1, s, v => if s < N ∧ v < 4 then s :: vlB tk N f (nxG tk s N) (v + 1) else []
def VOs (K : zK) (o f w g D N : Int) (bg en tn tk nb : Int → Int) (B : zB) : Int → List Int → Prop
  | _, [] => True
  | v, a :: as => VOk K o f w g D N bg en tn tk nb B v a ∧ VOs K o f w g D N bg en tn tk nb B (v + 1) as
section
variable {Km : Nat} {K : zK} {o f w g D N : Int} {bg en tn tk nb : Int → Int}
theorem VOk_f {B B' : zB} {v a : Int} (h : VOk K o f w g D N bg en tn tk nb B v a) (v' : Int) (e : ∀ c i k y, ¬ (c = 13 ∧ i = w ∧ (((k = 8 ∨ k = 9 ∨ k = 12) ∧ v' ≤ y) ∨ ((k = 16 ∨ k = 17 ∨ k = 18 ∨ k = 21 ∨ k = 22) ∧ 1000 * v' ≤ y) ∨ ((k = 28 ∨ k = 29) ∧ 6000 * v' ≤ y))) → ¬ (c = 14 ∧ i = 0 ∧ k = 95) → B' c i k y = B c i k y) (hv : v < v') : VOk K o f w g D N bg en tn tk nb B' v a := by
  obtain ⟨h1, h2, EL, h3, h4, h5, h6⟩ := h
  exact ⟨by rw [e 13 w 8 v (by first | decide | omega) (by first | decide | omega)]; exact h1, by rw [e 13 w 9 v (by first | decide | omega) (by first | decide | omega)]; exact h2, EL, h3, by rw [e 13 w 12 v (by first | decide | omega) (by first | decide | omega)]; exact h4, h5, EVL_f EL 0 h6 (fun k y hk a b => e 13 w k y (by first | decide | omega) (by first | decide | omega)) (fun k y hk a b => e 13 w k y (by first | decide | omega) (by first | decide | omega))⟩
theorem M_d121 {h : Int} (h7 : 0 < K.2 7) (h1 : 0 < K.2 1) (hK : 200 ≤ K.1) (hKm : 1000 ≤ Km) (ho : 0 ≤ o ∧ o < K.2 8) (hf : -7 ≤ f ∧ f ≤ 7) (hh : 1 ≤ h ∧ h ≤ 8) (dq : DTq g D N bg en tn tk) (htk : ∀ i, 0 ≤ i → i < N → tk i < h) : ∀ (d m fu : Nat) (k s v last : Int) (F : zF) (B : zB), k + d = h → 0 ≤ k → d < m → N - s ≤ fu → 0 ≤ s → s ≤ N → (∀ i, 0 ≤ i → i < s → tk i < k) → (∀ i, s ≤ i → i < N → k ≤ tk i) → 0 ≤ v → v ≤ 4 → (0 ≤ last ∧ last ≤ 40000000000000) → MFq w D N bg en tn tk F B → B 14 0 73 0 = h → F 13 w 2 = f → F 13 w 1 = v → (∀ k, 0 ≤ k → k < h → B 14 0 81 k = nb k) → ∃ F' B', f_M_down_121 Km m k last g F B = f_M_down_200 Km (lpB (fun i => gplF g D (bg i)) (fun i => gplF g D (en i)) tk N fu s v last) g F' B' ∧ (∀ c y k, ¬ (c = 14 ∧ y = 0 ∧ k ≤ 1) → ¬ (c = 13 ∧ y = w ∧ k = 1) → F' c y k = F c y k) ∧ F' 13 w 1 = v + ((vlB tk N fu s v).length : Int) ∧ (∀ c i k y, ¬ (c = 13 ∧ i = w ∧ (((k = 8 ∨ k = 9 ∨ k = 12) ∧ v ≤ y) ∨ ((k = 16 ∨ k = 17 ∨ k = 18 ∨ k = 21 ∨ k = 22) ∧ 1000 * v ≤ y) ∨ ((k = 28 ∨ k = 29) ∧ 6000 * v ≤ y))) → ¬ (c = 14 ∧ i = 0 ∧ k = 95) → B' c i k y = B c i k y) ∧ VOs K o f w g D N bg en tn tk nb B' v (vlB tk N fu s v) ∧ v + ((vlB tk N fu s v).length : Int) ≤ 4 ∧ (0 ≤ lpB (fun i => gplF g D (bg i)) (fun i => gplF g D (en i)) tk N fu s v last ∧ lpB (fun i => gplF g D (bg i)) (fun i => gplF g D (en i)) tk N fu s v last ≤ 40000000000000) := by
  have hN := dq.2.2.1
  have stop : ∀ (fu : Nat) (s v last : Int), ¬ (s < N ∧ v < 4) → lpB (fun i => gplF g D (bg i)) (fun i => gplF g D (en i)) tk N fu s v last = last ∧ vlB tk N fu s v = [] := fun fu s v last h => by
    cases fu with
    | zero => exact ⟨rfl, rfl⟩
    | succ fu => exact ⟨by rw [lpB, if_neg h], by rw [vlB, if_neg h]⟩
  intro d
  induction d with
  | zero =>
    intro m fu k s v last F B e k0 hm hfu s0 sN sl sg v0 v4 hl hM h73 m2 m1 h81
    obtain ⟨p, rfl⟩ : ∃ p, m = p + 1 := ⟨m - 1, (by first | decide | omega)⟩
    have sE : s = N := by
      rcases Int.lt_or_le s N with z | z
      · have := sg s (by first | decide | omega) z
        have := htk s s0 z
        omega
      · omega
    obtain ⟨e1, e2⟩ := stop fu s v last (by first | decide | omega)
    refine ⟨F, B, ?_, fun _ _ _ _ _ => rfl, by rw [e2]; simp [m1], fun _ _ _ _ _ _ => rfl, by rw [e2]; trivial, by rw [e2]; simp; omega, by rw [e1]; exact hl⟩
    rw [f_M_down_121, if_pos (by unfold r32; omega), h73, if_pos (by unfold r32; omega), if_pos (by first | decide | omega), e1]
  | succ d ih =>
    intro m fu k s v last F B e k0 hm hfu s0 sN sl sg v0 v4 hl hM h73 m2 m1 h81
    obtain ⟨p, rfl⟩ : ∃ p, m = p + 1 := ⟨m - 1, (by first | decide | omega)⟩
    have hw := hM.1
    rw [f_M_down_121, if_pos (by unfold r32; omega), h73, if_pos (by unfold r32; omega), if_neg (by first | decide | omega), hw.1, if_pos hw.2, m1, if_pos (by unfold r32; omega)]
    by_cases v4' : 4 ≤ v
    · obtain ⟨e1, e2⟩ := stop fu s v last (by first | decide | omega)
      rw [if_pos v4', e1]
      exact ⟨F, B, rfl, fun _ _ _ _ _ => rfl, by rw [e2]; simp [m1], fun _ _ _ _ _ _ => rfl, by rw [e2]; trivial, by rw [e2]; simp; omega, hl⟩
    · rw [if_neg v4']
      obtain ⟨r, x1, x2, x3⟩ := M_hs4 (Km := Km) (k := k) dq hM (by first | decide | omega) N.toNat Km 0 0 (by first | decide | omega) (by first | decide | omega) (by first | decide | omega) (Or.inl rfl)
      have x1' : f_M_hasSounds Km k F B = some (r, F, B) := x1
      rw [x1', zb_s, if_pos (by unfold r32; omega)]
      unfold f_M_down_194
      by_cases y : s < N ∧ tk s = k
      · have r1 : r = 1 := x3.mpr (Or.inr ⟨s, s0, y.1, y.2⟩)
        have hls : ∀ i, 0 ≤ i → i < s → tk i < tk s := fun i i0 i1 => by have := sl i i0 i1; omega
        obtain ⟨F1, B1, u1, u2, u3, u4, u5⟩ := M_te (Km := Km) (K := K) (o := o) (f := f) (w := w) (nb := nb) (v := v) h7 h1 hK hKm ho hf dq ⟨v0, (by first | decide | omega)⟩ ⟨s0, y.1⟩ hls hM m2 (by rw [y.2]; exact h81 k k0 (by first | decide | omega))
        obtain ⟨p1, p2, p3, p4⟩ := nxG_p (gB := tk) y.1 (by first | decide | omega) s0
        obtain ⟨fu', rfl⟩ : ∃ q, fu = q + 1 := ⟨fu - 1, (by first | decide | omega)⟩
        have bk := blk_o dq ⟨s0, y.1⟩ hls
        rw [r1, if_neg (by decide), hw.1, if_pos hw.2, m1, ← y.2, u1, zb_s, if_pos (by unfold r64; omega), if_pos (by unfold r64; omega)]
        generalize hls' : lsG (fun i => gplF g D (bg i)) (fun i => gplF g D (en i)) (nxG tk s N) 400 s 0 = e0 at *
        have zb : 0 ≤ zmax last e0 ∧ zmax last e0 ≤ 40000000000000 := by unfold zmax; split <;> omega
        have w1 : F1 14 0 6 = w := by rw [u2 14 0 6 (by first | decide | omega)]; exact hw.1
        have e181 : ∀ l, f_M_down_181 (f_M_down_121 Km p) Km (tk s) l g F1 B1 = f_M_down_121 Km p (tk s + 1) l g (zup3 F1 13 w 1 (v + 1)) B1 := fun l => by
          unfold f_M_down_181 f_M_down_194
          rw [w1, if_pos hw.2, u2 13 w 1 (by first | decide | omega), m1]
        have hM1 : MFq w D N bg en tn tk (zup3 F1 13 w 1 (v + 1)) B1 := MFq_f hM (by rw [zup3_v, if_neg (by first | decide | omega), u2 14 0 6 (by first | decide | omega)]) (fun k x _ _ => u3 14 0 k x (by first | decide | omega) (by first | decide | omega))
        obtain ⟨F2, B2, t1, t2, t3, t4, t5, t6, t7⟩ := ih p fu' (tk s + 1) (nxG tk s N) (v + 1) (zmax last e0) (zup3 F1 13 w 1 (v + 1)) B1 (by first | decide | omega) (by first | decide | omega) (by first | decide | omega) (by first | decide | omega) (by first | decide | omega) p2 (fun i i0 i1 => by
          have q := tkk_m dq
          rcases Int.lt_or_le i s with z | z
          · have := hls i i0 z; omega
          · have := p3 i z i1; omega) (fun i i0 i1 => by
          have q := sg i (by first | decide | omega) i1
          have q2 := (bk.2 i (by first | decide | omega) i1)
          by_cases z : tk i = tk s
          · have := q2.mp z; omega
          · omega) (by first | decide | omega) (by first | decide | omega) zb hM1 (by rw [u3 14 0 73 0 (by first | decide | omega) (by first | decide | omega)]; exact h73) (by rw [zup3_v, if_neg (by first | decide | omega), u2 13 w 2 (by first | decide | omega)]; exact m2) (by rw [zup3_v, if_pos (by first | decide | omega)]) (fun k a b => by rw [u3 14 0 81 k (by first | decide | omega) (by first | decide | omega)]; exact h81 k a b)
        have eL : vlB tk N (fu' + 1) s v = s :: vlB tk N fu' (nxG tk s N) (v + 1) := by rw [vlB, if_pos ⟨y.1, (by first | decide | omega)⟩]
        have eP : lpB (fun i => gplF g D (bg i)) (fun i => gplF g D (en i)) tk N (fu' + 1) s v last = lpB (fun i => gplF g D (bg i)) (fun i => gplF g D (en i)) tk N fu' (nxG tk s N) (v + 1) (zmax last e0) := by rw [lpB, if_pos ⟨y.1, (by first | decide | omega)⟩, hls']
        rw [eL, eP]
        refine ⟨F2, B2, ?_, fun c y k n n' => ?_, by rw [t3, List.length_cons]; omega, fun c i k y n n' => by rw [t4 c i k y (by first | decide | omega) n', u3 c i k y (by first | decide | omega) n'], ⟨VOk_f u4 (v + 1) t4 (by first | decide | omega), t5⟩, by rw [List.length_cons]; omega, t7⟩
        · have zc : (if zcmp e0 last ≤ 0 then f_M_down_181 (f_M_down_121 Km p) Km (tk s) last g F1 B1 else f_M_down_181 (f_M_down_121 Km p) Km (tk s) e0 g F1 B1) = f_M_down_121 Km p (tk s + 1) (zmax last e0) g (zup3 F1 13 w 1 (v + 1)) B1 := by
            unfold zmax
            by_cases q : e0 ≤ last
            · rw [if_pos (zcmp_m.mpr q), if_neg (by first | decide | omega), e181]
            · rw [if_neg (fun z => q (zcmp_m.mp z)), if_pos (by first | decide | omega), e181]
          rw [zc, t1]
        · rw [t2 c y k n n', zup3_v, if_neg (by first | decide | omega), u2 c y k n]
      · have r0 : r = 0 := by
          rcases x2 with z | z
          · exact z
          · rcases x3.mp z with q | ⟨j, j0, j1, j2⟩
            · exact absurd q (by decide)
            · rcases Int.lt_or_le j s with a | a
              · have := sl j j0 a; omega
              · have m := tkk_m dq (j - s).toNat s s0 (by first | decide | omega)
                rw [show s + ((j - s).toNat : Int) = j by omega] at m
                have := sg s (by first | decide | omega) (by first | decide | omega)
                exact absurd ⟨(by first | decide | omega), (by first | decide | omega)⟩ y
        rw [if_pos r0]
        exact ih p fu (k + 1) s v last F B (by first | decide | omega) (by first | decide | omega) (by first | decide | omega) hfu s0 sN (fun i a b => by have := sl i a b; omega) (fun i a b => by
          have := sg i a b
          have m := tkk_m dq (i - s).toNat s s0 (by first | decide | omega)
          rw [show s + ((i - s).toNat : Int) = i by omega] at m
          have q := sg s (by first | decide | omega) (by first | decide | omega)
          by_cases z : tk s = k
          · exact absurd ⟨(by first | decide | omega), z⟩ y
          · omega) v0 v4 hl hM h73 m2 m1 h81
end
end
end
section
section
/-! ===== the notes of spans, as the reference keeps them ===== -/
/-- the notes of a span: event, bar, value -/
def spR (n d b ev : Int) : Nat → Int → Int → List (Int × Int × Int)
  | 0, _, _ => []
  | f + 1, a, e => if a < e then (ev, a / b, kvF n d b a e) :: spR n d b ev f (nxF n d b a e) e else []
def spN (n d b ev a e : Int) : List (Int × Int × Int) := spR n d b ev (e - a).toNat a e
theorem spR_i {n d b ev : Int} (h : BRs n d b) {e : Int} (he : e % sdU d = 0) : ∀ (f f' : Nat) (a : Int), 0 ≤ a → a % sdU d = 0 → e - a ≤ sdU d * f → e - a ≤ sdU d * f' → spR n d b ev f a e = spR n d b ev f' a e := by
  have s0 := (BRs_b h).2.2.2.2.1
  intro f
  induction f with
  | zero =>
    intro f' a a0 ha h1 h2
    have : ¬ a < e := by simp at h1; omega
    cases f' with
    | zero => rfl
    | succ f' => rw [spR, spR, if_neg this]
  | succ f ih =>
    intro f' a a0 ha h1 h2
    by_cases z : a < e
    · cases f' with
      | zero => simp at h2; omega
      | succ f' =>
        obtain ⟨_, n1, n2, n3, _⟩ := nx_b h a0 z ha he
        have e1 : sdU d * ((f + 1 : Nat) : Int) = sdU d * f + sdU d := by rw [show ((f + 1 : Nat) : Int) = (f : Int) + 1 by omega, Int.mul_add, Int.mul_one]
        have e2 : sdU d * ((f' + 1 : Nat) : Int) = sdU d * f' + sdU d := by rw [show ((f' + 1 : Nat) : Int) = (f' : Int) + 1 by omega, Int.mul_add, Int.mul_one]
        rw [spR, spR, if_pos z, if_pos z, ih f' (nxF n d b a e) (by first | decide | omega) n3 (by first | decide | omega) (by first | decide | omega)]
    · cases f' with
      | zero => rw [spR, spR, if_neg z]
      | succ f' => rw [spR, spR, if_neg z, if_neg z]
theorem spN_0 {n d b ev a e : Int} (h : ¬ a < e) : spN n d b ev a e = [] := by
  unfold spN
  rw [show (e - a).toNat = 0 by omega, spR]
theorem spN_u {n d b ev a e : Int} (h : BRs n d b) (a0 : 0 ≤ a) (ha : a % sdU d = 0) (he : e % sdU d = 0) (z : a < e) : spN n d b ev a e = (ev, a / b, kvF n d b a e) :: spN n d b ev (nxF n d b a e) e := by
  have sd : sdU d = 16 ∨ sdU d = 4 := by unfold sdU; split <;> omega
  obtain ⟨_, n1, n2, n3, _⟩ := nx_b h a0 z ha he
  unfold spN
  obtain ⟨f, hf⟩ : ∃ f, (e - a).toNat = f + 1 := ⟨(e - a).toNat - 1, (by first | decide | omega)⟩
  rw [hf, spR, if_pos z, spR_i h he f (e - nxF n d b a e).toNat (nxF n d b a e) (by first | decide | omega) n3 (by rcases sd with g | g <;> rw [g] at n1 ⊢ <;> omega) (by rcases sd with g | g <;> rw [g] <;> omega)]
/-- rows i, i + 1, .. hold the notes of the list -/
def NRW (w v : Int) (B : zB) : Int → List (Int × Int × Int) → Prop
  | _, [] => True
  | i, r :: rs => (B 13 w 30 (800 * v + i) = r.1 ∧ B 13 w 31 (800 * v + i) = r.2.1 ∧ B 13 w 34 (800 * v + i) = r.2.2 / 3 ∧ B 13 w 35 (800 * v + i) = 2 - r.2.2 % 3) ∧ NRW w v B (i + 1) rs
theorem NRW_f {w v : Int} {B B' : zB} : ∀ (L : List (Int × Int × Int)) (i : Int), NRW w v B i L → (∀ k y, 30 ≤ k → k ≤ 35 → 800 * v + i ≤ y → y < 800 * v + i + (L.length : Int) → B' 13 w k y = B 13 w k y) → NRW w v B' i L := by
  intro L
  induction L with
  | nil => intro i _ _; trivial
  | cons r rs ih =>
    intro i h e
    have ll : ((r :: rs).length : Int) = (rs.length : Int) + 1 := by rw [List.length_cons]; omega
    rw [ll] at e
    refine ⟨?_, ih (i + 1) h.2 (fun k y a b c d => e k y a b (by first | decide | omega) (by first | decide | omega))⟩
    rw [e 30 _ (by first | decide | omega) (by first | decide | omega) (by first | decide | omega) (by first | decide | omega), e 31 _ (by first | decide | omega) (by first | decide | omega) (by first | decide | omega) (by first | decide | omega), e 34 _ (by first | decide | omega) (by first | decide | omega) (by first | decide | omega) (by first | decide | omega), e 35 _ (by first | decide | omega) (by first | decide | omega) (by first | decide | omega) (by first | decide | omega)]
    exact h.1
theorem NRW_a {w v : Int} {B : zB} : ∀ (L : List (Int × Int × Int)) (i : Int) (r : Int × Int × Int), NRW w v B i L → NRW w v B (i + (L.length : Int)) [r] → NRW w v B i (L ++ [r]) := by
  intro L
  induction L with
  | nil =>
    intro i r _ h
    rw [List.length_nil, show i + ((0 : Nat) : Int) = i by omega] at h
    exact h
  | cons s rs ih =>
    intro i r h h'
    rw [List.length_cons, show i + ((rs.length + 1 : Nat) : Int) = i + 1 + (rs.length : Int) by omega] at h'
    exact ⟨h.1, ih (i + 1) r h.2 h'⟩
/-- the notes so far: kept, or more than there is room for -/
def NSt (w v : Int) (L : List (Int × Int × Int)) (B : zB) : Prop := (L.length ≤ 800 ∧ B 13 w 13 v = (L.length : Int) ∧ NRW w v B 0 L) ∨ (800 < L.length ∧ B 13 w 13 v = 801)
theorem NSt_c {w v : Int} {L : List (Int × Int × Int)} {B : zB} (h : NSt w v L B) : ∃ c, B 13 w 13 v = c ∧ 0 ≤ c ∧ c ≤ 801 ∧ (c ≤ 800 ↔ L.length ≤ 800) := by
  rcases h with ⟨a, b, _⟩ | ⟨a, b⟩
  · exact ⟨_, b, (by first | decide | omega), (by first | decide | omega), (by first | decide | omega)⟩
  · exact ⟨_, b, (by first | decide | omega), (by first | decide | omega), (by first | decide | omega)⟩
theorem NSt_m {w v : Int} {L M : List (Int × Int × Int)} {B : zB} (h : NSt w v L B) (hl : 800 < L.length) : NSt w v (L ++ M) B := by
  rcases h with ⟨a, _⟩ | ⟨_, b⟩
  · omega
  · exact Or.inr ⟨by rw [List.length_append]; omega, b⟩
theorem M_nt {Km : Nat} {w v ev bar k : Int} {L : List (Int × Int × Int)} {F : zF} {B : zB} (v0 : 0 ≤ v ∧ v < 4) (w0 : 0 ≤ w ∧ w < 3) (hN : NSt w v L B) (hl : L.length ≤ 800) : ∃ B', f_M_note_1 Km w v ev bar (k / 3) (2 - k % 3) F B = some (0, F, B') ∧ nM' v w B B' ∧ NSt w v (L ++ [(ev, bar, k)]) B' := by
  obtain ⟨l1, n13, hr⟩ : L.length ≤ 800 ∧ B 13 w 13 v = (L.length : Int) ∧ NRW w v B 0 L := by
    rcases hN with h | h
    · exact h
    · omega
  have ll : (L ++ [(ev, bar, k)]).length = L.length + 1 := by rw [List.length_append]; rfl
  generalize hc : (L.length : Int) = c at *
  have e13 : (zup4 B 13 w 13 v (c + 1)) 13 w 13 v = c + 1 := by rw [zup4_v, if_pos (by first | decide | omega)]
  unfold f_M_note_1
  rw [if_pos w0, if_pos v0, n13, e13, if_pos (show r32 (c + 1) by unfold r32; omega)]
  by_cases z : c < 800
  · rw [if_pos (show c + 1 ≤ 800 by omega), if_pos (show 0 ≤ 800 * v + c ∧ 800 * v + c < 3200 by omega)]
    generalize hM' : zup4 (zup4 (zup4 (zup4 (zup4 (zup4 (zup4 B 13 w 13 v (c + 1)) 13 w 30 (800 * v + c) ev) 13 w 31 (800 * v + c) bar) 13 w 32 (800 * v + c) (F 14 0 54)) 13 w 33 (800 * v + c) (F 14 0 55)) 13 w 34 (800 * v + c) (k / 3)) 13 w 35 (800 * v + c) (2 - k % 3) = M'
    have mn : ∀ d y k x, ¬ (d = 13 ∧ y = w ∧ k = 13 ∧ x = v) → ¬ (d = 13 ∧ y = w ∧ (30 ≤ k ∧ k ≤ 35) ∧ x = 800 * v + c) → M' d y k x = B d y k x := fun d y k x h h' => by rw [← hM', zup4_v, if_neg (by first | decide | omega), zup4_v, if_neg (by first | decide | omega), zup4_v, if_neg (by first | decide | omega), zup4_v, if_neg (by first | decide | omega), zup4_v, if_neg (by first | decide | omega), zup4_v, if_neg (by first | decide | omega), zup4_v, if_neg (by first | decide | omega)]
    have m13 : M' 13 w 13 v = c + 1 := by rw [← hM']; simp [zup4_v]
    have m30 : M' 13 w 30 (800 * v + c) = ev := by rw [← hM']; simp [zup4_v]
    have m31 : M' 13 w 31 (800 * v + c) = bar := by rw [← hM']; simp [zup4_v]
    have m34 : M' 13 w 34 (800 * v + c) = k / 3 := by rw [← hM']; simp [zup4_v]
    have m35 : M' 13 w 35 (800 * v + c) = 2 - k % 3 := by rw [← hM']; simp [zup4_v]
    refine ⟨M', rfl, fun d y k x h h' => mn d y k x h (by first | decide | omega), Or.inl ⟨(by first | decide | omega), by rw [m13, ll]; omega, NRW_a L 0 _ (NRW_f L 0 hr (fun k y a b cc dd => mn 13 w k y (by first | decide | omega) (by first | decide | omega))) ?_⟩⟩
    rw [hc, show 0 + c = c by omega]
    exact ⟨⟨m30, m31, m34, m35⟩, trivial⟩
  · rw [if_neg (show ¬ c + 1 ≤ 800 by omega)]
    refine ⟨_, rfl, fun d y k x h h' => by rw [zup4_v, if_neg (by first | decide | omega)], Or.inr ⟨(by first | decide | omega), by rw [zup4_v, if_pos (by first | decide | omega)]; omega⟩⟩
/-- places within one bar -/
theorem bar_q {b nb a : Int} (b0 : 0 < b) (h1 : nb * b ≤ a) (h2 : a < (nb + 1) * b) : a / b = nb ∧ a % b = a - nb * b := by
  have e : a / b = nb := by
    refine Int.le_antisymm ?_ ?_
    · have := (Int.ediv_lt_iff_lt_mul b0 (a := a) (b := nb + 1)).mpr h2
      omega
    · exact (Int.le_ediv_iff_mul_le b0).mpr h1
  refine ⟨e, ?_⟩
  have := Int.emod_add_mul_ediv a b
  rw [e, Int.mul_comm] at this
  omega
theorem kv_e {n d b nb a e t : Int} (b0 : 0 < b) (h1 : nb * b ≤ a) (h2 : a < t) (ht : t ≤ (nb + 1) * b ∧ t ≤ e ∧ (t = e ∨ t = (nb + 1) * b)) : kvF n d b a e = nvF n d (a - nb * b) (t - a) ∧ a / b = nb := by
  obtain ⟨q1, q2⟩ := bar_q b0 h1 (show a < (nb + 1) * b by omega)
  have nb1 : (nb + 1) * b = nb * b + b := by rw [Int.add_mul, Int.one_mul]
  refine ⟨?_, q1⟩
  unfold kvF
  rw [q2]
  have : zmin (e - a) (b - (a - nb * b)) = t - a := by unfold zmin; split <;> omega
  rw [this]
theorem sp_s {n d b nb ev e t : Int} (hb : BRs n d b) (nb0 : 0 ≤ nb * b) (he : e % sdU d = 0) (tm : t % sdU d = 0) (ht : t ≤ (nb + 1) * b ∧ t ≤ e ∧ (t = e ∨ t = (nb + 1) * b)) : ∀ (r : Nat) (a : Int), t - a ≤ 4 * r → nb * b ≤ a → a ≤ t → a % sdU d = 0 → ∃ P, spN n d b ev a e = P ++ spN n d b ev t e := by
  obtain ⟨b1, b2, b3, _, b5, b6⟩ := BRs_b hb
  have sd : (sdU d = 16) ∨ (sdU d = 4) := by unfold sdU; split <;> omega
  intro r
  induction r with
  | zero =>
    intro a hr a1 a2 ha
    have : a = t := by omega
    subst this
    exact ⟨[], rfl⟩
  | succ r ih =>
    intro a hr a1 a2 ha
    by_cases z : a = t
    · subst z; exact ⟨[], rfl⟩
    · obtain ⟨kb, n1, n2, n3, n4⟩ := nx_b hb (by first | decide | omega) (show a < e by omega) ha he
      obtain ⟨k1, k2⟩ := kv_e (n := n) (d := d) (by first | decide | omega) a1 (show a < t by omega) ht
      have am : (a - nb * b) % sdU d = 0 ∧ (t - a) % sdU d = 0 := by
        obtain ⟨j, hj⟩ : ∃ j, b = sdU d * j := ⟨b / sdU d, by rcases sd with h | h <;> rw [h] at b3 ⊢ <;> omega⟩
        have nbm : (nb * b) % sdU d = 0 := by
          rw [hj, show nb * (sdU d * j) = sdU d * (nb * j) by ac_rfl]
          exact Int.mul_emod_right _ _
        rcases sd with g | g <;> rw [g] at ha tm nbm ⊢ <;> omega
      obtain ⟨q1, _, _⟩ := nv_s (n := n) hb.2.1 am.1 (show 0 < t - a by omega) am.2
      have nt : nxF n d b a e ≤ t := by unfold nxF; rw [k1]; omega
      obtain ⟨P, hP⟩ := ih (nxF n d b a e) (by rcases sd with g | g <;> rw [g] at n1 <;> omega) (by first | decide | omega) nt n3
      exact ⟨(ev, a / b, kvF n d b a e) :: P, by rw [spN_u hb (by first | decide | omega) ha he (by first | decide | omega), hP]; rfl⟩
/-- what the bar's part of a span gives -/
theorem M_cut {Km : Nat} {v w n d b nb ev e t : Int} (hKm : 70000000000 < Km) (v0 : 0 ≤ v ∧ v < 4) (w0 : 0 ≤ w ∧ w < 3) (hb : BRs n d b) (hnb : 0 ≤ nb ∧ nb ≤ 100) (he : e % sdU d = 0) (ht : nb * b ≤ t ∧ t ≤ (nb + 1) * b ∧ t ≤ e ∧ (t = e ∨ t = (nb + 1) * b)) : ∀ (r n2 : Nat) (a : Int) (L : List (Int × Int × Int)) (Fm : zF) (Bm : zB), t - a ≤ 4 * r → nb * b ≤ a → a ≤ t → a % sdU d = 0 → r < n2 → Fm 13 w 4 = n → Fm 13 w 5 = d → Fm 14 0 52 = nu (X5 * (t - a)) → Fm 14 0 53 = de (X5 * (t - a)) → Fm 14 0 54 = nu (X5 * (a - nb * b)) → Fm 14 0 55 = de (X5 * (a - nb * b)) → NSt w v L Bm → ∃ Fm' Bm' P, f_M_part_174 Km n2 1 1 0 w v ev nb Fm Bm = some (0, Fm', Bm') ∧ nG Fm Fm' ∧ nM' v w Bm Bm' ∧ NSt w v (L ++ P) Bm' ∧ spN n d b ev a e = P ++ spN n d b ev t e := by
  obtain ⟨b1, b2, b3, _, b5, b6⟩ := BRs_b hb
  have hn := hb.1
  have hd := hb.2.1
  have sd : (sdU d = 16) ∨ (sdU d = 4) := by unfold sdU; split <;> omega
  have xa : ∀ y : Int, X5 * y = 1587600 * y := fun _ => rfl
  have nb1 : (nb + 1) * b = nb * b + b := by rw [Int.add_mul, Int.one_mul]
  have tm : t % sdU d = 0 := by
    rcases ht.2.2.2 with z | z
    · rw [z]; exact he
    · rw [z]
      obtain ⟨j, hj⟩ : ∃ j, b = sdU d * j := ⟨b / sdU d, by rcases sd with h | h <;> rw [h] at b3 ⊢ <;> omega⟩
      rw [hj, show (nb + 1) * (sdU d * j) = sdU d * ((nb + 1) * j) by ac_rfl]
      exact Int.mul_emod_right _ _
  have nbm : (nb * b) % sdU d = 0 := by
    obtain ⟨j, hj⟩ : ∃ j, b = sdU d * j := ⟨b / sdU d, by rcases sd with h | h <;> rw [h] at b3 ⊢ <;> omega⟩
    rw [hj, show nb * (sdU d * j) = sdU d * (nb * j) by ac_rfl]
    exact Int.mul_emod_right _ _
  have nb0 : 0 ≤ nb * b := Int.mul_nonneg hnb.1 (by first | decide | omega)
  intro r
  induction r with
  | zero =>
    intro n2 a L Fm Bm hr a1 a2 ha hn2 m4 m5 h52 h53 h54 h55 hN
    obtain ⟨n2, rfl⟩ : ∃ k, n2 = k + 1 := ⟨n2 - 1, (by first | decide | omega)⟩
    have : a = t := by omega
    subst this
    obtain ⟨z1, z2⟩ := nu_0 (l := a - a) (by first | decide | omega) (by first | decide | omega)
    refine ⟨Fm, Bm, [], ?_, fun _ _ _ _ => rfl, fun _ _ _ _ _ _ => rfl, by rw [List.append_nil]; exact hN, rfl⟩
    rw [f_M_part_174, h52, if_pos z2, if_pos (z1.mpr (by first | decide | omega)), f_M_part_338]
  | succ r ih =>
    intro n2 a L Fm Bm hr a1 a2 ha hn2 m4 m5 h52 h53 h54 h55 hN
    obtain ⟨n2, rfl⟩ : ∃ k, n2 = k + 1 := ⟨n2 - 1, (by first | decide | omega)⟩
    obtain ⟨z1, z2⟩ := nu_0 (l := t - a) (by first | decide | omega) (by first | decide | omega)
    obtain ⟨c, c1, c2, c3, c4⟩ := NSt_c hN
    by_cases lz : t - a = 0
    · have : a = t := by omega
      subst this
      refine ⟨Fm, Bm, [], ?_, fun _ _ _ _ => rfl, fun _ _ _ _ _ _ => rfl, by rw [List.append_nil]; exact hN, rfl⟩
      rw [f_M_part_174, h52, if_pos z2, if_pos (z1.mpr (by first | decide | omega)), f_M_part_338]
    by_cases lc : 800 < L.length
    · -- too many already
      obtain ⟨P, hP⟩ := sp_s (ev := ev) hb nb0 he tm ht.2 (r + 1) a hr a1 a2 ha
      refine ⟨Fm, Bm, P, ?_, fun _ _ _ _ => rfl, fun _ _ _ _ _ _ => rfl, NSt_m hN lc, hP⟩
      rw [f_M_part_174, h52, if_pos z2, if_neg (fun h => lz (z1.mp h)), if_pos w0, if_pos v0, c1, if_pos (by unfold r32; omega), if_pos (by first | decide | omega), f_M_part_338]
    · obtain ⟨kb, n1, n2', n3, n4⟩ := nx_b hb (by first | decide | omega) (show a < e by omega) ha he
      obtain ⟨k1, k2⟩ := kv_e (n := n) (d := d) (by first | decide | omega) a1 (show a < t by omega) ht.2
      have am : (a - nb * b) % sdU d = 0 ∧ (t - a) % sdU d = 0 := by
        rcases sd with g | g <;> rw [g] at ha tm nbm ⊢ <;> omega
      have am4 : (a - nb * b) % 4 = 0 ∧ (t - a) % 4 = 0 := by
        rcases sd with g | g <;> rw [g] at am <;> omega
      obtain ⟨q1, _, q3⟩ := nv_s (n := n) hd am.1 (show 0 < t - a by omega) am.2
      have nt : nxF n d b a e ≤ t := by unfold nxF; rw [k1]; omega
      generalize hf : a - nb * b = f at *
      generalize hl : t - a = l at *
      have hS : ∀ asks : Int, asks = 0 ∨ asks = 1 → CHS w n d f l asks Fm := fun asks ha => by
        refine ⟨w0, m4, m5, hn, hd, by rw [h52, h53]; exact FR_r (by have := xa l; omega), (by first | decide | omega), ?_⟩
        rcases ha with h | h
        · exact Or.inl h
        · exact Or.inr ⟨h, by rw [h54, h55]; exact FR_r (by have := xa f; omega), (by first | decide | omega)⟩
      have p1 : (fun k => decide (chP n d f l 1 k)) = (fun k => decide (fv k ≤ l ∧ stnd n d f k)) := by
        funext k
        congr 1
        exact propext ⟨fun h => ⟨h.1, h.2.resolve_left (by decide)⟩, fun h => ⟨h.1, Or.inr h.2⟩⟩
      have p0 : ∀ a, (fun k => decide (chP n d a l 0 k)) = (fun k => decide (fv k ≤ l)) := fun a => by
        funext k
        congr 1
        exact propext ⟨fun h => h.1, fun h => ⟨h, Or.inl rfl⟩⟩
      have ch : ∃ G, chF Fm G ∧ G 14 0 56 = nvF n d f l / 3 ∧ G 14 0 57 = 2 - nvF n d f l % 3 ∧ f_M_part_174 Km (n2 + 1) 1 1 0 w v ev nb Fm Bm = f_M_part_216 (f_M_part_174 Km n2) Km 1 1 0 w v ev nb G Bm := by
        obtain ⟨G1, g1, g2, g3⟩ := L_choose (K := Km) (B := Bm) (by first | decide | omega) (hS 1 (Or.inr rfl))
        rw [p1] at g1 g3
        rw [f_M_part_174, h52, if_pos z2, if_neg (fun h => lz (z1.mp h)), if_pos w0, if_pos v0, c1, if_pos (show r32 c by unfold r32; omega), if_neg (by first | decide | omega), if_pos (by decide), if_pos rfl, g1, zb_s]
        unfold nvF
        by_cases y : fsN (fun k => decide (fv k ≤ l ∧ stnd n d f k)) 24 0 < 0
        · obtain ⟨G2, h1, h2, h3⟩ := L_choose (K := Km) (B := Bm) (by first | decide | omega) (CHS_f (hS 0 (Or.inl rfl)) g2)
          rw [p0] at h1 h3
          have gz := (gv_4 (show 0 < l by omega) am4.2).2.2
          obtain ⟨h4', h5'⟩ := h3 gz
          rw [if_pos y, if_pos y, if_pos (show r32 0 by decide), if_pos (show (0 : Int) = 0 from rfl), f_M_part_209, h1, zb_s]
          refine ⟨G2, chF_t g2 h2, ?_, ?_, rfl⟩
          · rw [h4']; unfold gvF; rw [if_neg (by first | decide | omega)]
          · rw [h5']; unfold gvF; rw [if_neg (by first | decide | omega)]
        · obtain ⟨h4', h5'⟩ := g3 (by first | decide | omega)
          rw [if_neg y, if_neg y, if_pos (show r32 1 by decide), if_neg (show ¬ (1 : Int) = 0 by decide)]
          exact ⟨G1, g2, h4', h5', rfl⟩
      obtain ⟨G, gc, g56, g57, eM⟩ := ch
      have kb' := nvF_b (n := n) (d := d) (f := f) (l := l)
      generalize hk : nvF n d f l = k at *
      have fb := fv_b kb'.1 kb'.2
      have g54 : G 14 0 54 = nu (X5 * f) := by rw [gc _ _ _ (by first | decide | omega)]; exact h54
      have g55 : G 14 0 55 = de (X5 * f) := by rw [gc _ _ _ (by first | decide | omega)]; exact h55
      obtain ⟨M1, a2', a5, a6⟩ := M_nt (Km := Km) (ev := ev) (bar := nb) (k := k) (F := G) v0 w0 hN (by first | decide | omega)
      obtain ⟨G', y1, y2, y3, y4, y5, y6⟩ := L_216 (K := Km) (rec := f_M_part_174 Km n2) (k := k) (l := l) (pl := X5 * f) (s := X5 * fv k) (dn := 1) (up := 1) (wi := 0) (w := w) (v := v) (ev := ev) (bar := nb) (F := G) (B := Bm) (B' := M1) hKm kb' g56 g57 (by rw [gc _ _ _ (by first | decide | omega)]; exact h52) (by rw [gc _ _ _ (by first | decide | omega)]; exact h53) g54 g55 q1 (by first | decide | omega) (by have := xa f; omega) (by decide) (by decide) (by have := xa (fv k); omega) rfl a2'
      have gG := nG_t (nG_c gc) y2
      have x1 := xa f
      have x2 := xa (fv k)
      have x3 := xa (f + fv k)
      have en : nxF n d b a e = a + fv k := by unfold nxF; rw [k1]
      rw [en] at n1 n2' n3 nt
      obtain ⟨F2, B2, P, u1, u2, u3, u4, u5⟩ := ih n2 (a + fv k) (L ++ [(ev, nb, k)]) G' M1 (by first | decide | omega) (by first | decide | omega) nt n3 (by first | decide | omega) (by rw [gG 13 w 4 (by first | decide | omega)]; exact m4) (by rw [gG 13 w 5 (by first | decide | omega)]; exact m5) (by rw [y3]; congr 2; omega) (by rw [y4]; congr 2; omega) (by rw [y5]; congr 1; rw [show a + fv k - nb * b = f + fv k by omega]; omega) (by rw [y6]; congr 1; rw [show a + fv k - nb * b = f + fv k by omega]; omega) a6
      refine ⟨F2, B2, (ev, nb, k) :: P, by rw [eM, y1]; exact u1, nG_t gG u2, nM_t a5 u3, by rw [List.append_assoc] at u4; exact u4, ?_⟩
      rw [spN_u hb (by first | decide | omega) ha he (by first | decide | omega), k2, k1, en, u5]
      rfl
end
end
section
section
/-! ===== the reference: the notes of a span ===== -/
theorem L_pstep0 {K n2 : Nat} {v w n d ev a t c : Int} {F : zF} {B : zB} (hK : 812851200 < K) (v0 : 0 ≤ v ∧ v < 4) (w0 : 0 ≤ w ∧ w < 3) (hn : 1 ≤ n ∧ n ≤ 12) (hd : d = 2 ∨ d = 4 ∨ d = 8 ∨ d = 16) (m4 : F 13 w 4 = n) (m5 : F 13 w 5 = d) (a0 : 0 ≤ a) (at' : a < t) (t1 : t ≤ 310272) (hc : B 13 w 13 v = c) (c0 : 0 ≤ c ∧ c ≤ 800) : ∃ G, nG F G ∧ G 14 0 54 = nu (X5 * (a % (512 / d * n))) ∧ G 14 0 55 = de (X5 * (a % (512 / d * n))) ∧ f_M_pieces_16 K (n2 + 1) (de (X5 * (t - a))) (nu (X5 * (t - a))) (de (X5 * a)) (nu (X5 * a)) w v ev 0 F B = zbind (f_M_part K w v ev (a / (512 / d * n)) (nu (X5 * (cuE (512 / d * n) a t - a))) (de (X5 * (cuE (512 / d * n) a t - a))) 0 G B) (fun _ F1 B1 => f_M_pieces_16 K n2 (de (X5 * (t - cuE (512 / d * n) a t))) (nu (X5 * (t - cuE (512 / d * n) a t))) (de (X5 * cuE (512 / d * n) a t)) (nu (X5 * cuE (512 / d * n) a t)) w v ev 0 (fr (fr F1 (X5 * cuE (512 / d * n) a t)) (X5 * (t - cuE (512 / d * n) a t))) B1) := by
  have hu := un_d hd
  have b3 := un_3 hu (n := n) (by first | decide | omega)
  have b4 := un_4 hu (n := n) (by first | decide | omega)
  obtain ⟨bv1, _, _, bv4, bv5⟩ := bar_v hn hd
  rw [bar5 (n := n) hd] at bv1 bv4 bv5
  generalize hb : 512 / d * n = b at *
  have rn : r32 n := by unfold r32; omega
  have rd : r32 d := by unfold r32; omega
  have xa : ∀ y : Int, X5 * y = 1587600 * y := fun _ => rfl
  have x1 := xa a
  have x2 := xa t
  have x3 := xa b
  have x6 := xa (t - a)
  have e1 := Int.mul_ediv_add_emod a b
  have e2 := Int.emod_nonneg a (show b ≠ 0 by omega)
  have e3 := Int.emod_lt_of_pos a (show 0 < b by omega)
  have q0 : 0 ≤ a / b := Int.ediv_nonneg a0 (by first | decide | omega)
  have q1 : a / b ≤ a := Int.ediv_le_self _ a0
  have q2 : (a / b + 1) * b = b * (a / b) + b := by rw [Int.add_mul, Int.one_mul, Int.mul_comm]
  have q3 : (a / b + 1) * (X5 * b) = X5 * ((a / b + 1) * b) := by ac_rfl
  have x4 := xa ((a / b + 1) * b)
  obtain ⟨k1, k2, k3, k4, k5⟩ := cuE_b (b := b) (a := a) (t := t) (by first | decide | omega) a0 at'
  have x5 := xa (cuE b a t)
  have x7 := xa (t - cuE b a t)
  have x8 := xa (cuE b a t - a)
  have x9 := xa (a % b)
  have x10 := xa (b * (a / b))
  obtain ⟨nz1, nz2⟩ := nu_L (l := t - a) (by first | decide | omega) (by first | decide | omega)
  have hr : X5 * ((a / b + 1) * b) - X5 * a = X5 * ((a / b + 1) * b - a) := by have := xa ((a / b + 1) * b - a); omega
  have f1 : FR ((a / b + 1) * n) d (X5 * ((a / b + 1) * b)) := by rw [← q3]; exact FR_k bv1 (by first | decide | omega)
  have f2 : FR (a / b * n) d (X5 * (b * (a / b))) := by
    have := FR_k bv1 q0
    rwa [show a / b * (X5 * b) = X5 * (b * (a / b)) by ac_rfl] at this
  have hm : X5 * a - X5 * (b * (a / b)) = X5 * (a % b) := by omega
  have cmp : ∀ x y : Int, r32 (if x < y then (-1 : Int) else if x = y then 0 else 1) ∧ (0 ≤ (if x < y then (-1 : Int) else if x = y then 0 else 1) ↔ y ≤ x) := fun x y => by
    by_cases z : x < y
    · rw [if_pos z]; exact ⟨by decide, (by first | decide | omega)⟩
    · rw [if_neg z]
      by_cases z' : x = y
      · rw [if_pos z']; exact ⟨by decide, (by first | decide | omega)⟩
      · rw [if_neg z']; exact ⟨by decide, (by first | decide | omega)⟩
  -- the second half
  have e111 : ∀ G : zF, (∀ c y k, ¬ (c = 14 ∧ y = 0 ∧ k ≤ 1) → G c y k = F c y k) → f_M_pieces_111 (f_M_pieces_16 K n2) K (de (X5 * (cuE b a t - a))) (nu (X5 * (cuE b a t - a))) (a / b) (de (X5 * (t - a))) (nu (X5 * (t - a))) (de (X5 * a)) (nu (X5 * a)) w v ev 0 G B = zbind (f_M_part K w v ev (a / b) (nu (X5 * (cuE b a t - a))) (de (X5 * (cuE b a t - a))) 0 (zup3 (zup3 (fr G (X5 * (a % b))) 14 0 54 (nu (X5 * (a % b)))) 14 0 55 (de (X5 * (a % b)))) B) (fun _ F1 B1 => f_M_pieces_16 K n2 (de (X5 * (t - cuE b a t))) (nu (X5 * (t - cuE b a t))) (de (X5 * cuE b a t)) (nu (X5 * cuE b a t)) w v ev 0 (fr (fr F1 (X5 * cuE b a t)) (X5 * (t - cuE b a t))) B1) := fun G hG => by
    unfold f_M_pieces_111
    rw [if_pos w0, hG 13 w 4 (by first | decide | omega), hG 13 w 5 (by first | decide | omega), m4, m5, if_pos rn, if_pos rd, L_minusR hK (FR_r (by first | decide | omega)) f2 (by first | decide | omega) (by first | decide | omega), zb_s, if_pos (show r32 (a / b) by unfold r32; omega), hm, fr_0, fr_1]
    congr 1
    funext r1 F1 B1
    rw [L_plusR hK (FR_r (by first | decide | omega)) (FR_r (by first | decide | omega)) (by first | decide | omega), zb_s, L_minusR hK (FR_r (by first | decide | omega)) (FR_r (by first | decide | omega)) (by first | decide | omega) (by first | decide | omega), zb_s, show X5 * a + X5 * (cuE b a t - a) = X5 * cuE b a t by omega, show X5 * (t - a) - X5 * (cuE b a t - a) = X5 * (t - cuE b a t) by omega, fr_0, fr_1, fr_0, fr_1]
  refine ⟨zup3 (zup3 (fr (fr F (X5 * ((a / b + 1) * b - a))) (X5 * (a % b))) 14 0 54 (nu (X5 * (a % b)))) 14 0 55 (de (X5 * (a % b))), fun c y k h => by rw [zup3_v, if_neg (by first | decide | omega), zup3_v, if_neg (by first | decide | omega), fr_n (by first | decide | omega), fr_n (by first | decide | omega)], by rw [zup3_v, if_neg (by first | decide | omega), zup3_v, if_pos (by first | decide | omega)], by rw [zup3_v, if_pos (by first | decide | omega)], ?_⟩
  rw [f_M_pieces_16, if_pos nz2, if_neg (fun h => by have := nz1.mp h; omega), if_pos w0, if_pos v0, hc, if_pos (show r32 c by unfold r32; omega), if_neg (show ¬ 800 < c by omega), m4, m5, if_pos rn, if_pos rd, L_oftR (FR_r (by first | decide | omega)) bv5 (by first | decide | omega) (by first | decide | omega) (by first | decide | omega) (by first | decide | omega) (by first | decide | omega) (by first | decide | omega), zb_s, X5_d, m4, m5, if_pos rn, if_pos rd, L_minusR hK f1 (FR_r (by first | decide | omega)) (by first | decide | omega) (by first | decide | omega), zb_s, hr, fr_0, fr_1, L_cmpR hK (FR_r (by first | decide | omega)) (FR_r (by have := xa ((a / b + 1) * b - a); omega)) (by first | decide | omega) (by have := xa ((a / b + 1) * b - a); omega), zb_s, if_pos (cmp _ _).1]
  have x11 := xa ((a / b + 1) * b - a)
  by_cases z : (a / b + 1) * b ≤ t
  · have ce : cuE b a t = (a / b + 1) * b := by unfold cuE; split <;> omega
    rw [if_pos ((cmp _ _).2.mpr (by first | decide | omega)), show (a / b + 1) * b - a = cuE b a t - a by rw [ce]]
    exact e111 _ (fun c y k h => fr_n h)
  · have ce : cuE b a t = t := by unfold cuE; rw [if_neg (by first | decide | omega)]
    rw [if_neg (fun h => z (by have := (cmp _ _).2.mp h; omega))]
    have := e111 (fr F (X5 * ((a / b + 1) * b - a))) (fun c y k h => fr_n h)
    rw [show cuE b a t - a = t - a by rw [ce]] at this ⊢
    exact this
theorem L_part0 {Km : Nat} {v w ev nb l : Int} {Fm : zF} {Bm : zB} (hKm : 70000000000 < Km) (v0 : 0 ≤ v ∧ v < 4) (w0 : 0 ≤ w ∧ w < 3) (hE : ev = -1 ∨ ((0 ≤ ev ∧ ev < 1000) ∧ r32 (Bm 13 w 21 (1000 * v + ev)) ∧ Bm 13 w 22 (1000 * v + ev) = 0)) (l0 : 0 ≤ l ∧ l ≤ 3072) : f_M_part Km w v ev nb (nu (X5 * l)) (de (X5 * l)) 0 Fm Bm = f_M_part_174 Km Km 1 1 0 w v ev nb (zup3 (zup3 (fr Fm (X5 * l)) 14 0 52 (nu (X5 * l))) 14 0 53 (de (X5 * l))) Bm := by
  have xa : ∀ y : Int, X5 * y = 1587600 * y := fun _ => rfl
  have x1 := xa l
  have e146 : f_M_part_146 Km 1 1 0 w v ev nb (nu (X5 * l)) (de (X5 * l)) Fm Bm = f_M_part_174 Km Km 1 1 0 w v ev nb (zup3 (zup3 (fr Fm (X5 * l)) 14 0 52 (nu (X5 * l))) 14 0 53 (de (X5 * l))) Bm := by
    unfold f_M_part_146
    rw [L_timesR (r := X5 * l) hKm (FR_r (by first | decide | omega)) (by first | decide | omega) (by decide) (by decide) (by decide) (by decide) (by first | decide | omega) rfl, zb_s, fr_0, fr_1]
  have e87 : ∀ ro : Int, (ro = 0 ∨ ro = 1) → f_M_part_87 Km 1 0 ro w v ev nb (nu (X5 * l)) (de (X5 * l)) 0 1 Fm Bm = f_M_part_146 Km 1 1 0 w v ev nb (nu (X5 * l)) (de (X5 * l)) Fm Bm := fun ro hr => by
    unfold f_M_part_87
    rcases hr with z | z
    · rw [z, if_pos (by decide), if_pos rfl]
    · rw [z, if_pos (by decide), if_neg (by decide), if_pos (by decide), if_pos rfl, if_pos (by decide), if_pos rfl]
  have e48 : ∀ l10 ro, (ro = 0 ∨ ro = 1) → f_M_part_48 Km ro l10 w v ev nb (nu (X5 * l)) (de (X5 * l)) 0 Fm Bm = f_M_part_146 Km 1 1 0 w v ev nb (nu (X5 * l)) (de (X5 * l)) Fm Bm := fun l10 ro hr => by
    unfold f_M_part_48 f_M_part_49
    rw [if_pos (by decide), if_pos rfl, f_M_part_68, if_pos (by decide), if_pos rfl, e87 ro hr]
  rw [← e146]
  unfold f_M_part f_M_part_23
  rcases hE with h1 | ⟨h1, h2, h3⟩
  · rw [h1] at e48 ⊢
    rw [if_pos (show r32 (-1) by decide), if_pos (by decide), f_M_part_28, if_pos (show r32 (-1) by decide), if_pos (by decide), e48 _ 1 (Or.inr rfl)]
  · have e28 : ∀ ro, (ro = 0 ∨ ro = 1) → f_M_part_28 Km (1000 * v + ev) w v ev nb (nu (X5 * l)) (de (X5 * l)) 0 ro Fm Bm = f_M_part_146 Km 1 1 0 w v ev nb (nu (X5 * l)) (de (X5 * l)) Fm Bm := fun ro hr => by
      unfold f_M_part_28
      rw [if_pos (by unfold r32; omega), if_neg (by first | decide | omega), if_pos w0, if_pos (by first | decide | omega), h3, if_pos (by decide), if_pos (by decide), e48 _ ro hr]
    rw [if_pos (by unfold r32; omega), if_neg (by first | decide | omega), if_pos w0, if_pos (by first | decide | omega), if_pos h2]
    by_cases z : Bm 13 w 21 (1000 * v + ev) = 0
    · rw [if_pos z, e28 1 (Or.inr rfl)]
    · rw [if_neg z, e28 0 (Or.inl rfl)]
theorem M_pcs {Km : Nat} {v w n d b ev e : Int} (hKm : 70000000000 < Km) (v0 : 0 ≤ v ∧ v < 4) (w0 : 0 ≤ w ∧ w < 3) (hb : BRs n d b) (he : e % sdU d = 0) (e1 : e ≤ 100 * b) : ∀ (r n2 : Nat) (a : Int) (L : List (Int × Int × Int)) (Fm : zF) (Bm : zB), e - a ≤ r → r < n2 → 0 ≤ a → a ≤ e → a % sdU d = 0 → Fm 13 w 4 = n → Fm 13 w 5 = d → (ev = -1 ∨ ((0 ≤ ev ∧ ev < 1000) ∧ r32 (Bm 13 w 21 (1000 * v + ev)) ∧ Bm 13 w 22 (1000 * v + ev) = 0)) → NSt w v L Bm → ∃ Fm' Bm', f_M_pieces_16 Km n2 (de (X5 * (e - a))) (nu (X5 * (e - a))) (de (X5 * a)) (nu (X5 * a)) w v ev 0 Fm Bm = some (0, Fm', Bm') ∧ nG Fm Fm' ∧ nM' v w Bm Bm' ∧ NSt w v (L ++ spN n d b ev a e) Bm' := by
  obtain ⟨b1, b2, b3, _, b5, b6⟩ := BRs_b hb
  have hn := hb.1
  have hd := hb.2.1
  have eb := hb.2.2
  have sd : (sdU d = 16) ∨ (sdU d = 4) := by unfold sdU; split <;> omega
  have stop : ∀ (n2 : Nat) (a : Int) (L : List (Int × Int × Int)) (Fm : zF) (Bm : zB), 0 < n2 → 0 ≤ a → ¬ a < e → a ≤ e → NSt w v L Bm → ∃ Fm' Bm', f_M_pieces_16 Km n2 (de (X5 * (e - a))) (nu (X5 * (e - a))) (de (X5 * a)) (nu (X5 * a)) w v ev 0 Fm Bm = some (0, Fm', Bm') ∧ nG Fm Fm' ∧ nM' v w Bm Bm' ∧ NSt w v (L ++ spN n d b ev a e) Bm' := fun n2 a L Fm Bm h0 a0 z ae hN => by
    obtain ⟨p, rfl⟩ : ∃ p, n2 = p + 1 := ⟨n2 - 1, (by first | decide | omega)⟩
    obtain ⟨nz1, nz2⟩ := nu_L (l := e - a) (by first | decide | omega) (by first | decide | omega)
    refine ⟨Fm, Bm, ?_, fun _ _ _ _ => rfl, fun _ _ _ _ _ _ => rfl, by rw [spN_0 z, List.append_nil]; exact hN⟩
    rw [f_M_pieces_16, if_pos nz2, if_pos (nz1.mpr (by first | decide | omega)), f_M_pieces_215]
  intro r
  induction r with
  | zero =>
    intro n2 a L Fm Bm hr hn2 a0 ae ha m4 m5 hE hN
    exact stop n2 a L Fm Bm hn2 a0 (by first | decide | omega) ae hN
  | succ r ih =>
    intro n2 a L Fm Bm hr hn2 a0 ae ha m4 m5 hE hN
    by_cases z : a < e
    · obtain ⟨p, rfl⟩ : ∃ p, n2 = p + 1 := ⟨n2 - 1, (by first | decide | omega)⟩
      obtain ⟨c, c1, c2, c3, c4⟩ := NSt_c hN
      by_cases lc : 800 < L.length
      · obtain ⟨nz1, nz2⟩ := nu_L (l := e - a) (by first | decide | omega) (by first | decide | omega)
        refine ⟨Fm, Bm, ?_, fun _ _ _ _ => rfl, fun _ _ _ _ _ _ => rfl, NSt_m hN lc⟩
        rw [f_M_pieces_16, if_pos nz2, if_neg (fun h => by have := nz1.mp h; omega), if_pos w0, if_pos v0, c1, if_pos (by unfold r32; omega), if_pos (by first | decide | omega), f_M_pieces_215]
      · obtain ⟨G, g1, g2, g3, g4⟩ := L_pstep0 (K := Km) (n2 := p) (v := v) (w := w) (ev := ev) (a := a) (t := e) (c := c) (F := Fm) (B := Bm) (by first | decide | omega) v0 w0 hn hd m4 m5 a0 z (by first | decide | omega) c1 (by first | decide | omega)
        rw [← eb] at g2 g3 g4
        have m0 := Int.emod_nonneg a (show b ≠ 0 by omega)
        have m1 := Int.emod_lt_of_pos a (show 0 < b by omega)
        have dm := Int.emod_add_mul_ediv a b
        have q0 : 0 ≤ a / b := Int.ediv_nonneg a0 (by first | decide | omega)
        have cm : a / b * b = b * (a / b) := Int.mul_comm _ _
        have nb1 : (a / b + 1) * b = a / b * b + b := by rw [Int.add_mul, Int.one_mul]
        have q1 : a / b ≤ 100 := by
          have := (Int.ediv_lt_iff_lt_mul (show 0 < b by omega) (a := a) (b := 100)).mpr (by first | decide | omega)
          omega
        have ce : cuE b a e = (if (a / b + 1) * b ≤ e then (a / b + 1) * b else e) := by
          unfold cuE
          split <;> split <;> omega
        have ct : cuE b a e ≤ (a / b + 1) * b ∧ cuE b a e ≤ e ∧ (cuE b a e = e ∨ cuE b a e = (a / b + 1) * b) ∧ a < cuE b a e := by rw [ce]; split <;> omega
        rw [g4, L_part0 hKm v0 w0 hE (by first | decide | omega)]
        have af : a % b = a - a / b * b := by omega
        obtain ⟨F1, B1, P, u1, u2, u3, u4, u5⟩ := M_cut (Km := Km) (v := v) (w := w) (n := n) (d := d) (b := b) (nb := a / b) (ev := ev) (e := e) (t := cuE b a e) hKm v0 w0 hb ⟨q0, q1⟩ he ⟨(by first | decide | omega), ct.1, ct.2.1, ct.2.2.1⟩ 1000 Km a L (zup3 (zup3 (fr G (X5 * (cuE b a e - a))) 14 0 52 (nu (X5 * (cuE b a e - a)))) 14 0 53 (de (X5 * (cuE b a e - a)))) Bm (by first | decide | omega) (by first | decide | omega) (by first | decide | omega) ha (by first | decide | omega) (by rw [zup3_v, if_neg (by first | decide | omega), zup3_v, if_neg (by first | decide | omega), fr_n (by first | decide | omega), g1 13 w 4 (by first | decide | omega)]; exact m4) (by rw [zup3_v, if_neg (by first | decide | omega), zup3_v, if_neg (by first | decide | omega), fr_n (by first | decide | omega), g1 13 w 5 (by first | decide | omega)]; exact m5) (by rw [zup3_v, if_neg (by first | decide | omega), zup3_v, if_pos (by first | decide | omega)]) (by rw [zup3_v, if_pos (by first | decide | omega)]) (by rw [zup3_v, if_neg (by first | decide | omega), zup3_v, if_neg (by first | decide | omega), fr_n (by first | decide | omega), g2, af]) (by rw [zup3_v, if_neg (by first | decide | omega), zup3_v, if_neg (by first | decide | omega), fr_n (by first | decide | omega), g3, af]) hN
        rw [u1, zb_s]
        have gF : nG Fm F1 := nG_t g1 (fun c y k h => by rw [u2 c y k h, zup3_v, if_neg (by first | decide | omega), zup3_v, if_neg (by first | decide | omega), fr_n (by first | decide | omega)])
        have gF2 : nG Fm (fr (fr F1 (X5 * cuE b a e)) (X5 * (e - cuE b a e))) := fun c y k h => by rw [fr_n (by first | decide | omega), fr_n (by first | decide | omega), gF c y k h]
        have tm : cuE b a e % sdU d = 0 := by
          rcases ct.2.2.1 with q | q
          · rw [q]; exact he
          · rw [q]
            obtain ⟨j, hj⟩ : ∃ j, b = sdU d * j := ⟨b / sdU d, by rcases sd with h | h <;> rw [h] at b3 ⊢ <;> omega⟩
            rw [show (a / b + 1) * b = sdU d * ((a / b + 1) * j) by rw [hj]; ac_rfl]
            exact Int.mul_emod_right _ _
        obtain ⟨F2, B2, y1, y2, y3, y4⟩ := ih p (cuE b a e) (L ++ P) (fr (fr F1 (X5 * cuE b a e)) (X5 * (e - cuE b a e))) B1 (by first | decide | omega) (by first | decide | omega) (by first | decide | omega) ct.2.1 tm (by rw [gF2 13 w 4 (by first | decide | omega)]; exact m4) (by rw [gF2 13 w 5 (by first | decide | omega)]; exact m5) (by
          rcases hE with h | ⟨h1, h2, h3⟩
          · exact Or.inl h
          · exact Or.inr ⟨h1, by rw [u3 13 w 21 _ (by first | decide | omega) (by first | decide | omega)]; exact h2, by rw [u3 13 w 22 _ (by first | decide | omega) (by first | decide | omega)]; exact h3⟩) u4
        refine ⟨F2, B2, y1, nG_t gF2 y2, nM_t u3 y3, ?_⟩
        rw [u5]
        rw [List.append_assoc] at y4
        exact y4
    · exact stop n2 a L Fm Bm (by first | decide | omega) a0 z ae hN
end
end
section
section
/-! ===== the reference: places of the events of a voice ===== -/
/-- spans that follow one another from p on -/
def CHN : Int → List (Int × Int × Int × (Int → Int) × (Int → Int)) → Prop
  | _, [] => True
  | p, r :: rs => r.1 = p ∧ p < r.2.1 ∧ CHN r.2.1 rs
def endN : Int → List (Int × Int × Int × (Int → Int) × (Int → Int)) → Int
  | p, [] => p
  | _, r :: rs => endN r.2.1 rs
theorem CHN_e : ∀ (EL : List (Int × Int × Int × (Int → Int) × (Int → Int))) (p : Int), CHN p EL → p ≤ endN p EL := by
  intro EL
  induction EL with
  | nil => intro p _; exact Int.le_refl _
  | cons r rs ih =>
    intro p h
    have := ih r.2.1 h.2.2
    have := h.2.1
    show p ≤ endN r.2.1 rs
    omega
theorem GL_c {K : zK} {o f g D N : Int} {bg en tn tk : Int → Int} {z s0 : Int} (dq : DTq g D N bg en tn tk) (hz : z ≤ N) (mono : ∀ i, s0 ≤ i → i + 1 < z → bg i ≤ bg (i + 1)) : ∀ (fu : Nat) (s come : Int) (EL : List (Int × Int × Int × (Int → Int) × (Int → Int))), z - s ≤ fu → 0 ≤ s → s0 ≤ s → (s < z → come ≤ gplF g D (bg s)) → GLp K o f (fun i => gplF g D (bg i)) (fun i => gplF g D (en i)) tn z fu s come EL → CHN come EL ∧ endN come EL = lsG (fun i => gplF g D (bg i)) (fun i => gplF g D (en i)) z fu s come := by
  have hN := dq.2.2.1
  intro fu
  induction fu with
  | zero =>
    intro s come EL hf s0' ss hc h
    rw [GLp] at h
    subst h
    exact ⟨trivial, rfl⟩
  | succ fu ih =>
    intro s come EL hf s0' ss hc h
    rw [GLp] at h
    rw [lsG]
    by_cases c : s < z
    · rw [if_pos c] at h ⊢
      obtain ⟨m, st, al, rest, e, _, h'⟩ := h
      obtain ⟨tg1, tg2⟩ := to_g dq hz ⟨s0', c⟩ ss mono
      obtain ⟨p1, p2, _, _⟩ := nxG_p (gB := fun i => gplF g D (bg i)) c (by first | decide | omega) s0'
      obtain ⟨i1, i2⟩ := ih _ _ rest (by first | decide | omega) (by first | decide | omega) (by first | decide | omega) tg2 h'
      have hc' := hc c
      subst e
      by_cases y : come < gplF g D (bg s)
      · rw [if_pos y]
        exact ⟨⟨rfl, y, rfl, tg1, i1⟩, i2⟩
      · rw [if_neg y]
        exact ⟨⟨by show gplF g D (bg s) = come; omega, by show come < toG _ _ s z; omega, i1⟩, i2⟩
    · rw [if_neg c] at h ⊢
      subst h
      exact ⟨trivial, rfl⟩
/-- rows of events with lengths as places; u is the grid's step -/
def EVn (u w v : Int) (B : zB) : Int → List (Int × Int × Int × (Int → Int) × (Int → Int)) → Prop
  | _, [] => True
  | j, r :: rs => ((0 ≤ r.2.2.1 ∧ r.2.2.1 ≤ 6) ∧ B 13 w 16 (1000 * v + j) = nu (X5 * (u * (r.2.1 - r.1))) ∧ B 13 w 17 (1000 * v + j) = de (X5 * (u * (r.2.1 - r.1))) ∧ B 13 w 22 (1000 * v + j) = 0 ∧ B 13 w 21 (1000 * v + j) = r.2.2.1 ∧ ∀ k, 0 ≤ k → k < r.2.2.1 → B 13 w 28 (6 * (1000 * v + j) + k) = r.2.2.2.1 k ∧ B 13 w 29 (6 * (1000 * v + j) + k) = r.2.2.2.2 k ∧ (0 ≤ r.2.2.2.1 k ∧ r.2.2.2.1 k ≤ 62) ∧ (-7 ≤ r.2.2.2.2 k ∧ r.2.2.2.2 k ≤ 7)) ∧ EVn u w v B (j + 1) rs
def PLn (u w v : Int) (B : zB) : Int → List (Int × Int × Int × (Int → Int) × (Int → Int)) → Prop
  | _, [] => True
  | j, r :: rs => (B 13 w 14 (1000 * v + j) = nu (X5 * (u * r.1)) ∧ B 13 w 15 (1000 * v + j) = de (X5 * (u * r.1))) ∧ PLn u w v B (j + 1) rs
theorem gu {g : Int} (hg : g = 4 ∨ g = 8 ∨ g = 16 ∨ g = 32) : (512 / g) * g = 512 ∧ (512 / g = 128 ∨ 512 / g = 64 ∨ 512 / g = 32 ∨ 512 / g = 16) := by
  rcases hg with rfl | rfl | rfl | rfl <;> decide
theorem len_f {g len : Int} (hg : g = 4 ∨ g = 8 ∨ g = 16 ∨ g = 32) (hl : 0 ≤ len) : len / gc len g = nu (X5 * (512 / g * len)) ∧ g / gc len g = de (X5 * (512 / g * len)) := by
  have xa : X5 * (512 / g * len) = 1587600 * (512 / g * len) := rfl
  have e : len * WW = X5 * (512 / g * len) * g := by
    have WWe : WW = 812851200 := rfl
    rcases hg with rfl | rfl | rfl | rfl
    · show len * 812851200 = 1587600 * (128 * len) * 4; omega
    · show len * 812851200 = 1587600 * (64 * len) * 8; omega
    · show len * 812851200 = 1587600 * (32 * len) * 16; omega
    · show len * 812851200 = 1587600 * (16 * len) * 32; omega
  have p0 : 0 ≤ X5 * (512 / g * len) := by
    rcases hg with rfl | rfl | rfl | rfl
    · show 0 ≤ 1587600 * (128 * len); omega
    · show 0 ≤ 1587600 * (64 * len); omega
    · show 0 ≤ 1587600 * (32 * len); omega
    · show 0 ≤ 1587600 * (16 * len); omega
  exact red_u (W := WW) (by decide) p0 hl (by first | decide | omega) e
theorem EVL_n {g w v : Int} {B : zB} (hg : g = 4 ∨ g = 8 ∨ g = 16 ∨ g = 32) : ∀ (EL : List (Int × Int × Int × (Int → Int) × (Int → Int))) (j p : Int), CHN p EL → EVL g w v B j EL → EVn (512 / g) w v B j EL := by
  intro EL
  induction EL with
  | nil => intro j p _ _; trivial
  | cons r rs ih =>
    intro j p hc h
    obtain ⟨h0, h1, h2, h3, h4, h5, h6⟩ := h.1
    have := hc.1
    have := hc.2.1
    obtain ⟨l1, l2⟩ := len_f (len := r.2.1 - r.1) hg (by first | decide | omega)
    exact ⟨⟨h0, by rw [h1, l1], by rw [h2, l2], h4, h5, h6⟩, ih (j + 1) r.2.1 hc.2.2 h.2⟩
theorem EVn_f {u w v : Int} {B B' : zB} : ∀ (EL : List (Int × Int × Int × (Int → Int) × (Int → Int))) (j : Int), EVn u w v B j EL → (∀ k y, k = 16 ∨ k = 17 ∨ k = 21 ∨ k = 22 → 1000 * v + j ≤ y → y < 1000 * v + j + (EL.length : Int) → B' 13 w k y = B 13 w k y) → (∀ k y, k = 28 ∨ k = 29 → 6 * (1000 * v + j) ≤ y → y < 6 * (1000 * v + j + (EL.length : Int)) → B' 13 w k y = B 13 w k y) → EVn u w v B' j EL := by
  intro EL
  induction EL with
  | nil => intro j _ _ _; trivial
  | cons r rs ih =>
    intro j h e e2
    have ll : ((r :: rs).length : Int) = (rs.length : Int) + 1 := by rw [List.length_cons]; omega
    rw [ll] at e e2
    obtain ⟨⟨h0, h1, h2, h4, h5, h6⟩, h'⟩ := h
    refine ⟨⟨h0, by rw [e 16 _ (by first | decide | omega) (by first | decide | omega) (by first | decide | omega)]; exact h1, by rw [e 17 _ (by first | decide | omega) (by first | decide | omega) (by first | decide | omega)]; exact h2, by rw [e 22 _ (by first | decide | omega) (by first | decide | omega) (by first | decide | omega)]; exact h4, by rw [e 21 _ (by first | decide | omega) (by first | decide | omega) (by first | decide | omega)]; exact h5, fun k k0 k1 => ?_⟩, ih (j + 1) h' (fun k y hk a b => e k y hk (by first | decide | omega) (by first | decide | omega)) (fun k y hk a b => e2 k y hk (by first | decide | omega) (by first | decide | omega))⟩
    rw [e2 28 _ (by first | decide | omega) (by first | decide | omega) (by first | decide | omega), e2 29 _ (by first | decide | omega) (by first | decide | omega) (by first | decide | omega)]
    exact h6 k k0 k1
theorem EVn_a {u w v : Int} {B : zB} : ∀ (EL : List (Int × Int × Int × (Int → Int) × (Int → Int))) (j : Int) (r : Int × Int × Int × (Int → Int) × (Int → Int)), EVn u w v B j EL → EVn u w v B (j + (EL.length : Int)) [r] → EVn u w v B j (EL ++ [r]) := by
  intro EL
  induction EL with
  | nil =>
    intro j r _ h
    rw [List.length_nil, show j + ((0 : Nat) : Int) = j by omega] at h
    exact h
  | cons s rs ih =>
    intro j r h h'
    rw [List.length_cons, show j + ((rs.length + 1 : Nat) : Int) = j + 1 + (rs.length : Int) by omega] at h'
    exact ⟨h.1, ih (j + 1) r h.2 h'⟩
theorem CHN_a : ∀ (EL : List (Int × Int × Int × (Int → Int) × (Int → Int))) (p : Int) (r : Int × Int × Int × (Int → Int) × (Int → Int)), CHN p EL → r.1 = endN p EL → r.1 < r.2.1 → CHN p (EL ++ [r]) ∧ endN p (EL ++ [r]) = r.2.1 := by
  intro EL
  induction EL with
  | nil => intro p r _ h1 h2; exact ⟨⟨h1, by have : r.1 = p := h1; omega, trivial⟩, rfl⟩
  | cons s rs ih =>
    intro p r h h1 h2
    obtain ⟨a, b⟩ := ih s.2.1 r h.2.2 h1 h2
    exact ⟨⟨h.1, h.2.1, a⟩, b⟩
/-- places written: the reference alone -/
theorem M_pl8 {Km : Nat} {u w v M : Int} (hKm : 812851200 < Km) (v0 : 0 ≤ v ∧ v < 4) (w0 : 0 ≤ w ∧ w < 3) (hu : u = 128 ∨ u = 64 ∨ u = 32 ∨ u = 16) (hM : u * M ≤ 400000) : ∀ (EL : List (Int × Int × Int × (Int → Int) × (Int → Int))) (m : Nat) (j p : Int) (F : zF) (B : zB), EL.length < m → 0 ≤ j → j + (EL.length : Int) ≤ 1000 → 0 ≤ p → CHN p EL → endN p EL ≤ M → B 13 w 12 v = j + (EL.length : Int) → F 14 0 0 = nu (X5 * (u * p)) → F 14 0 1 = de (X5 * (u * p)) → EVn u w v B j EL → ∃ F' B', f_M_places_8 Km m j w v F B = some (0, F', B') ∧ (∀ c y k, ¬ (c = 14 ∧ y = 0 ∧ k ≤ 1) → F' c y k = F c y k) ∧ F' 14 0 0 = nu (X5 * (u * endN p EL)) ∧ F' 14 0 1 = de (X5 * (u * endN p EL)) ∧ (∀ c i k y, ¬ (c = 13 ∧ i = w ∧ (k = 14 ∨ k = 15) ∧ 1000 * v + j ≤ y ∧ y < 1000 * v + 1000) → B' c i k y = B c i k y) ∧ PLn u w v B' j EL := by
  have xa : ∀ y : Int, X5 * y = 1587600 * y := fun _ => rfl
  intro EL
  induction EL with
  | nil =>
    intro m j p F B hm j0 jl p0 hc hE h12 f0 f1 hv
    obtain ⟨q, rfl⟩ : ∃ q, m = q + 1 := ⟨m - 1, by simp at hm; omega⟩
    rw [List.length_nil] at h12 jl
    refine ⟨F, B, ?_, fun _ _ _ _ => rfl, f0, f1, fun _ _ _ _ _ => rfl, trivial⟩
    rw [f_M_places_8, if_pos w0, if_pos v0, if_pos (by unfold r32; omega), h12, if_pos (by unfold r32; omega), if_pos (by first | decide | omega)]
  | cons r rs ih =>
    intro m j p F B hm j0 jl p0 hc hE h12 f0 f1 hv
    rw [List.length_cons] at hm jl h12
    obtain ⟨q, rfl⟩ : ∃ q, m = q + 1 := ⟨m - 1, (by first | decide | omega)⟩
    obtain ⟨c1, c2, c3⟩ := hc
    have ce := CHN_e rs r.2.1 c3
    have hE' : endN r.2.1 rs ≤ M := hE
    obtain ⟨⟨h0, h1, h2, h4, h5, h6⟩, h'⟩ := hv
    have pb : 0 ≤ u * p ∧ 0 ≤ u * (r.2.1 - r.1) ∧ u * p + u * (r.2.1 - r.1) = u * r.2.1 ∧ u * r.2.1 ≤ 400000 := by rcases hu with rfl | rfl | rfl | rfl <;> omega
    have x1 := xa (u * p)
    have x2 := xa (u * (r.2.1 - r.1))
    have x3 := xa (u * r.2.1)
    generalize hB1 : zup4 (zup4 B 13 w 14 (1000 * v + j) (F 14 0 0)) 13 w 15 (1000 * v + j) (F 14 0 1) = B1
    have bn : ∀ c i k y, ¬ (c = 13 ∧ i = w ∧ (k = 14 ∨ k = 15) ∧ y = 1000 * v + j) → B1 c i k y = B c i k y := fun c i k y n => by rw [← hB1, zup4_v, if_neg (by first | decide | omega), zup4_v, if_neg (by first | decide | omega)]
    have b14 : B1 13 w 14 (1000 * v + j) = F 14 0 0 := by rw [← hB1]; simp [zup4_v]
    have b15 : B1 13 w 15 (1000 * v + j) = F 14 0 1 := by rw [← hB1]; simp [zup4_v]
    have fn : ∀ c y k, ¬ (c = 14 ∧ y = 0 ∧ k ≤ 1) → fr F (X5 * (u * r.2.1)) c y k = F c y k := fun c y k n => fr_n n
    obtain ⟨F2, B2, u1, u2, u3, u4, u5, u6⟩ := ih q (j + 1) r.2.1 (fr F (X5 * (u * r.2.1))) B1 (by first | decide | omega) (by first | decide | omega) (by first | decide | omega) (by first | decide | omega) c3 hE' (by rw [bn 13 w 12 v (by first | decide | omega), h12]; omega) (by rw [fr_0]) (by rw [fr_1]) (EVn_f rs (j + 1) h' (fun k y hk a b => bn 13 w k y (by first | decide | omega)) (fun k y hk a b => bn 13 w k y (by first | decide | omega)))
    refine ⟨F2, B2, ?_, fun c y k n => by rw [u2 c y k n, fn c y k n], u3, u4, fun c i k y n => by rw [u5 c i k y (by first | decide | omega), bn c i k y (by first | decide | omega)], ?_, u6⟩
    · rw [f_M_places_8, if_pos w0, if_pos v0, if_pos (by unfold r32; omega), h12, if_pos (by unfold r32; omega), if_neg (by first | decide | omega), if_pos (by first | decide | omega), hB1, bn 13 w 16 _ (by first | decide | omega), bn 13 w 17 _ (by first | decide | omega), h1, h2, f0, f1, L_plusR hKm (FR_r (by first | decide | omega)) (FR_r (by first | decide | omega)) (by first | decide | omega), zb_s, show X5 * (u * p) + X5 * (u * (r.2.1 - r.1)) = X5 * (u * r.2.1) by omega]
      exact u1
    · rw [u5 13 w 14 _ (by first | decide | omega), u5 13 w 15 _ (by first | decide | omega), b14, b15, f0, f1, c1]
      exact ⟨rfl, rfl⟩
end
end
section
section
/-! ===== the reference: the notes of a voice ===== -/
/-- the notes of all spans -/
def spA (n d b u : Int) : Int → List (Int × Int × Int × (Int → Int) × (Int → Int)) → List (Int × Int × Int)
  | _, [] => []
  | j, r :: rs => spN n d b j (u * r.1) (u * r.2.1) ++ spA n d b u (j + 1) rs
/-- the end of the bar in which a place lies -/
def cbE (b e : Int) : Int := if e % b = 0 then e else (e / b + 1) * b
def nG7 (w : Int) (F F' : zF) : Prop := ∀ c y k, ¬ (c = 14 ∧ y = 0 ∧ (k ≤ 1 ∨ 52 ≤ k ∧ k ≤ 57)) → ¬ (c = 13 ∧ y = w ∧ k = 7) → F' c y k = F c y k
theorem u_sd {u d p : Int} (hu : u = 128 ∨ u = 64 ∨ u = 32 ∨ u = 16) : (u * p) % sdU d = 0 := by
  have sd : (sdU d = 16) ∨ (sdU d = 4) := by unfold sdU; split <;> omega
  rcases sd with h | h <;> rw [h] <;> rcases hu with rfl | rfl | rfl | rfl <;> omega
theorem M_n22 {Km : Nat} {u v w n d b M : Int} (hKm : 70000000000 < Km) (v0 : 0 ≤ v ∧ v < 4) (w0 : 0 ≤ w ∧ w < 3) (hb : BRs n d b) (hu : u = 128 ∨ u = 64 ∨ u = 32 ∨ u = 16) (hM : 0 ≤ M ∧ u * M ≤ 100 * b) : ∀ (EL : List (Int × Int × Int × (Int → Int) × (Int → Int))) (m : Nat) (j p : Int) (L : List (Int × Int × Int)) (F : zF) (B : zB), EL.length < m → 0 ≤ j → j + (EL.length : Int) ≤ 1000 → 0 ≤ p → p ≤ M → CHN p EL → endN p EL ≤ M → B 13 w 12 v = j + (EL.length : Int) → F 13 w 4 = n → F 13 w 5 = d → EVn u w v B j EL → PLn u w v B j EL → NSt w v L B → ∃ p' F' B', f_M_notes_22 Km m j (de (X5 * (u * p))) (nu (X5 * (u * p))) w v 0 F B = f_M_notes_150 Km (de (X5 * (u * p'))) (nu (X5 * (u * p'))) w v 0 F' B' ∧ nG F F' ∧ nM' v w B B' ∧ NSt w v (L ++ spA n d b u j EL) B' ∧ (0 ≤ p' ∧ p' ≤ M) ∧ (p' = endN p EL ∨ 800 < (L ++ spA n d b u j EL).length) := by
  have hbb := BRs_b hb
  have xa : ∀ y : Int, X5 * y = 1587600 * y := fun _ => rfl
  intro EL
  induction EL with
  | nil =>
    intro m j p L F B hm j0 jl p0 pM hc hE h12 m4 m5 hv hpl hN
    obtain ⟨q, rfl⟩ : ∃ q, m = q + 1 := ⟨m - 1, by simp at hm; omega⟩
    rw [List.length_nil] at h12 jl
    refine ⟨p, F, B, ?_, fun _ _ _ _ => rfl, fun _ _ _ _ _ _ => rfl, by rw [spA, List.append_nil]; exact hN, ⟨p0, pM⟩, Or.inl rfl⟩
    rw [f_M_notes_22, if_pos w0, if_pos v0, if_pos (by unfold r32; omega), h12, if_pos (by unfold r32; omega), if_pos (by first | decide | omega)]
  | cons r rs ih =>
    intro m j p L F B hm j0 jl p0 pM hc hE h12 m4 m5 hv hpl hN
    rw [List.length_cons] at hm jl h12
    obtain ⟨q, rfl⟩ : ∃ q, m = q + 1 := ⟨m - 1, (by first | decide | omega)⟩
    obtain ⟨c1, c2, c3⟩ := hc
    have ce := CHN_e rs r.2.1 c3
    have hE' : endN r.2.1 rs ≤ M := hE
    obtain ⟨⟨h0, h1, h2, h4, h5, h6⟩, h'⟩ := hv
    obtain ⟨⟨g1, g2⟩, g'⟩ := hpl
    obtain ⟨c, cc1, cc2, cc3, cc4⟩ := NSt_c hN
    have pb : 0 ≤ u * p ∧ 0 ≤ u * (r.2.1 - r.1) ∧ u * p + u * (r.2.1 - r.1) = u * r.2.1 ∧ u * r.2.1 ≤ u * M ∧ u * p ≤ u * r.2.1 ∧ u * r.1 = u * p := by rcases hu with rfl | rfl | rfl | rfl <;> omega
    by_cases lc : 800 < L.length
    · refine ⟨p, F, B, ?_, fun _ _ _ _ => rfl, fun _ _ _ _ _ _ => rfl, NSt_m hN lc, ⟨p0, pM⟩, Or.inr (by rw [List.length_append]; omega)⟩
      rw [f_M_notes_22, if_pos w0, if_pos v0, if_pos (by unfold r32; omega), h12, if_pos (by unfold r32; omega), if_neg (by first | decide | omega), cc1, if_pos (by unfold r32; omega), if_pos (by first | decide | omega)]
    · have x1 := xa (u * p)
      have x2 := xa (u * (r.2.1 - r.1))
      have x3 := xa (u * r.2.1)
      have hE1 : ((j = -1) ∨ ((0 ≤ j ∧ j < 1000) ∧ r32 (B 13 w 21 (1000 * v + j)) ∧ B 13 w 22 (1000 * v + j) = 0)) := Or.inr ⟨(by first | decide | omega), by rw [h5]; unfold r32; omega, h4⟩
      obtain ⟨F1, B1, u1, u2, u3, u4⟩ := M_pcs (Km := Km) (ev := j) (e := u * r.2.1) hKm v0 w0 hb (u_sd hu) (by first | decide | omega) (u * r.2.1 - u * p).toNat Km (u * p) L F B (by first | decide | omega) (by first | decide | omega) pb.1 (by first | decide | omega) (u_sd hu) m4 m5 hE1 hN
      have el : u * r.2.1 - u * p = u * (r.2.1 - r.1) := by omega
      rw [el] at u1
      have fn : ∀ c y k, ¬ (c = 14 ∧ y = 0 ∧ k ≤ 1) → fr F1 (X5 * (u * r.2.1)) c y k = F1 c y k := fun c y k n => fr_n n
      have mm : ∀ k y, ¬ k = 13 → ¬ (30 ≤ k ∧ k ≤ 35) → B1 13 w k y = B 13 w k y := fun k y a b => u3 13 w k y (by first | decide | omega) (by first | decide | omega)
      have hPf : PLn u w v B1 (j + 1) rs := by
        have : ∀ (rs : List (Int × Int × Int × (Int → Int) × (Int → Int))) (j : Int), PLn u w v B j rs → PLn u w v B1 j rs := by
          intro rs
          induction rs with
          | nil => intro j _; trivial
          | cons s ss ih2 => intro j h; exact ⟨by rw [mm 14 _ (by first | decide | omega) (by first | decide | omega), mm 15 _ (by first | decide | omega) (by first | decide | omega)]; exact h.1, ih2 (j + 1) h.2⟩
        exact this rs (j + 1) g'
      obtain ⟨p', F2, B2, y1, y2, y3, y4, y5, y6⟩ := ih q (j + 1) r.2.1 (L ++ spN n d b j (u * p) (u * r.2.1)) (fr F1 (X5 * (u * r.2.1))) B1 (by first | decide | omega) (by first | decide | omega) (by first | decide | omega) (by first | decide | omega) (by first | decide | omega) c3 hE' (by rw [mm 12 v (by first | decide | omega) (by first | decide | omega), h12]; omega) (by rw [fn 13 w 4 (by first | decide | omega), u2 13 w 4 (by first | decide | omega)]; exact m4) (by rw [fn 13 w 5 (by first | decide | omega), u2 13 w 5 (by first | decide | omega)]; exact m5) (EVn_f rs (j + 1) h' (fun k y hk a b => mm k y (by first | decide | omega) (by first | decide | omega)) (fun k y hk a b => mm k y (by first | decide | omega) (by first | decide | omega))) hPf u4
      refine ⟨p', F2, B2, ?_, fun c y k n => by rw [y2 c y k n, fn c y k (by first | decide | omega), u2 c y k n], nM_t u3 y3, ?_, y5, ?_⟩
      · rw [f_M_notes_22, if_pos w0, if_pos v0, if_pos (by unfold r32; omega), h12, if_pos (by unfold r32; omega), if_neg (by first | decide | omega), cc1, if_pos (by unfold r32; omega), if_neg (by first | decide | omega), if_pos (by first | decide | omega), g1, g2, h1, h2, pb.2.2.2.2.2]
        have e0 : f_M_pieces Km w v j (nu (X5 * (u * p))) (de (X5 * (u * p))) (nu (X5 * (u * (r.2.1 - r.1)))) (de (X5 * (u * (r.2.1 - r.1)))) 0 F B = some (0, F1, B1) := u1
        rw [e0, zb_s, mm 14 _ (by first | decide | omega) (by first | decide | omega), mm 15 _ (by first | decide | omega) (by first | decide | omega), mm 16 _ (by first | decide | omega) (by first | decide | omega), mm 17 _ (by first | decide | omega) (by first | decide | omega), g1, g2, h1, h2, pb.2.2.2.2.2, L_plusR (by first | decide | omega) (FR_r (by first | decide | omega)) (FR_r (by first | decide | omega)) (by first | decide | omega), zb_s, show X5 * (u * p) + X5 * (u * (r.2.1 - r.1)) = X5 * (u * r.2.1) by omega, fr_0, fr_1]
        exact y1
      · rw [spA, pb.2.2.2.2.2]
        rw [List.append_assoc] at y4
        exact y4
      · rw [spA, pb.2.2.2.2.2]
        rw [List.append_assoc] at y6
        exact y6
theorem M_n150 {Km : Nat} {v w n d b E : Int} {L : List (Int × Int × Int)} {F : zF} {B : zB} (hKm : 70000000000 < Km) (v0 : 0 ≤ v ∧ v < 4) (w0 : 0 ≤ w ∧ w < 3) (hb : BRs n d b) (e0 : 0 ≤ E ∧ E ≤ 100 * b) (he : E % sdU d = 0) (m4 : F 13 w 4 = n) (m5 : F 13 w 5 = d) (hN : NSt w v L B) : ∃ c F' B', f_M_notes_150 Km (de (X5 * E)) (nu (X5 * E)) w v 0 F B = some (c, F', B') ∧ nG7 w F F' ∧ nM' v w B B' ∧ NSt w v (L ++ spN n d b (-1) E (cbE b E)) B' ∧ B' 13 w 13 v = c := by
  obtain ⟨b1, b2, b3, _, b5, b6⟩ := BRs_b hb
  have hn := hb.1
  have hd := hb.2.1
  have eb := hb.2.2
  have sd : (sdU d = 16) ∨ (sdU d = 4) := by unfold sdU; split <;> omega
  obtain ⟨bv1, _, _, bv4, bv5⟩ := bar_v hn hd
  rw [bar5 (n := n) hd, ← eb] at bv1 bv4 bv5
  have xa : ∀ y : Int, X5 * y = 1587600 * y := fun _ => rfl
  have x1 := xa E
  have x2 := xa b
  have rn : r32 n := by unfold r32; omega
  have rd : r32 d := by unfold r32; omega
  have q0 : 0 ≤ E / b := Int.ediv_nonneg e0.1 (by first | decide | omega)
  have q1 : E / b ≤ E := Int.ediv_le_self _ e0.1
  have mo : (X5 * E) % (X5 * b) = X5 * (E % b) := Int.mul_emod_mul_of_pos E b (by decide)
  have m0 := Int.emod_nonneg E (show b ≠ 0 by omega)
  have m1 := Int.emod_lt_of_pos E (show 0 < b by omega)
  have dm := Int.emod_add_mul_ediv E b
  have x3 := xa (E % b)
  unfold f_M_notes_150
  rw [if_pos w0, m4, m5, if_pos rn, if_pos rd, L_oftR (FR_r (by first | decide | omega)) bv5 (by first | decide | omega) (by first | decide | omega) (by first | decide | omega) (by first | decide | omega) (by first | decide | omega) (by first | decide | omega), zb_s, X5_d, if_pos (by unfold r32; omega), m4, m5, if_pos rn, if_pos rd, L_multR (FR_r (by first | decide | omega)) bv5 (by first | decide | omega) (by first | decide | omega) (by first | decide | omega) (by first | decide | omega) (by first | decide | omega) (by first | decide | omega), zb_s, mo]
  have z7 : ∀ (r : Int) c y k, ¬ (c = 13 ∧ y = w ∧ k = 7) → (zup3 F 13 w 7 r) c y k = F c y k := fun r c y k n => by rw [zup3_v, if_neg n]
  by_cases z : E % b = 0
  · have ce : cbE b E = E := by unfold cbE; rw [if_pos z]
    rw [if_pos (show X5 * (E % b) = 0 by omega), if_pos (show r32 1 by decide), if_neg (show ¬ (1 : Int) = 0 by decide), f_M_notes_248, if_pos w0, if_pos v0, ce, spN_0 (by first | decide | omega), List.append_nil]
    exact ⟨_, _, B, rfl, fun c y k n n' => z7 _ c y k n', fun _ _ _ _ _ _ => rfl, hN, rfl⟩
  · have ce : cbE b E = (E / b + 1) * b := by unfold cbE; rw [if_neg z]
    have nb1 : (E / b + 1) * b = b * (E / b) + b := by rw [Int.add_mul, Int.one_mul, Int.mul_comm]
    have cb1 : (E / b + 1) * b ≤ 100 * b := by
      have l1 := (Int.ediv_lt_iff_lt_mul (show 0 < b by omega) (a := E) (b := 100)).mpr (by
        by_cases y : E = 100 * b
        · rw [y, Int.mul_emod_left] at z; exact absurd rfl z
        · omega)
      exact Int.mul_le_mul_of_nonneg_right (by first | decide | omega) (by first | decide | omega)
    have x4 := xa ((E / b + 1) * b)
    have f1 : FR ((E / b + 1) * n) d (X5 * ((E / b + 1) * b)) := by
      have := FR_k bv1 (show 0 ≤ E / b + 1 by omega)
      rwa [show (E / b + 1) * (X5 * b) = X5 * ((E / b + 1) * b) by ac_rfl] at this
    have em : ((E / b + 1) * b) % sdU d = 0 := by
      obtain ⟨j, hj⟩ : ∃ j, b = sdU d * j := ⟨b / sdU d, by rcases sd with h | h <;> rw [h] at b3 ⊢ <;> omega⟩
      rw [show (E / b + 1) * b = sdU d * ((E / b + 1) * j) by rw [hj]; ac_rfl]
      exact Int.mul_emod_right _ _
    have x5 := xa ((E / b + 1) * b - E)
    rw [if_neg (show ¬ X5 * (E % b) = 0 by omega), if_pos (show r32 0 by decide), if_pos (show (0 : Int) = 0 from rfl), z7 _ 13 w 4 (by first | decide | omega), z7 _ 13 w 5 (by first | decide | omega), m4, m5, if_pos rn, if_pos rd, L_minusR (by first | decide | omega) f1 (FR_r (by first | decide | omega)) (by first | decide | omega) (by first | decide | omega), zb_s, show X5 * ((E / b + 1) * b) - X5 * E = X5 * ((E / b + 1) * b - E) by omega, fr_0, fr_1, ce]
    generalize hF1 : fr (zup3 (zup3 F 13 w 7 (E / b)) 13 w 7 (E / b + 1)) (X5 * ((E / b + 1) * b - E)) = F1
    have fn : ∀ c y k, ¬ (c = 14 ∧ y = 0 ∧ k ≤ 1) → ¬ (c = 13 ∧ y = w ∧ k = 7) → F1 c y k = F c y k := fun c y k n n' => by rw [← hF1, fr_n n, zup3_v, if_neg n', zup3_v, if_neg n']
    obtain ⟨F2, B2, u1, u2, u3, u4⟩ := M_pcs (Km := Km) (ev := -1) (e := (E / b + 1) * b) hKm v0 w0 hb em cb1 ((E / b + 1) * b - E).toNat Km E L F1 B (by first | decide | omega) (by first | decide | omega) e0.1 (by first | decide | omega) he (by rw [fn 13 w 4 (by first | decide | omega) (by first | decide | omega)]; exact m4) (by rw [fn 13 w 5 (by first | decide | omega) (by first | decide | omega)]; exact m5) (Or.inl rfl) hN
    have u1' : f_M_pieces Km w v (-1) (nu (X5 * E)) (de (X5 * E)) (nu (X5 * ((E / b + 1) * b - E))) (de (X5 * ((E / b + 1) * b - E))) 0 F1 B = some (0, F2, B2) := u1
    rw [u1', zb_s, f_M_notes_248, if_pos w0, if_pos v0]
    exact ⟨_, F2, B2, rfl, fun c y k n n' => by rw [u2 c y k n, fn c y k (by first | decide | omega) n'], u3, u4, rfl⟩
theorem M_nts {Km : Nat} {u v w n d b M : Int} {EL : List (Int × Int × Int × (Int → Int) × (Int → Int))} {F : zF} {B : zB} (hKm : 70000000000 < Km) (v0 : 0 ≤ v ∧ v < 4) (w0 : 0 ≤ w ∧ w < 3) (hb : BRs n d b) (hu : u = 128 ∨ u = 64 ∨ u = 32 ∨ u = 16) (hM : 0 ≤ M ∧ u * M ≤ 100 * b) (el : (EL.length : Int) ≤ 1000) (hc : CHN 0 EL) (hE : endN 0 EL ≤ M) (h12 : B 13 w 12 v = (EL.length : Int)) (m4 : F 13 w 4 = n) (m5 : F 13 w 5 = d) (hv : EVn u w v B 0 EL) (hpl : PLn u w v B 0 EL) : ∃ c F' B', f_M_notes Km w v 0 F B = some (c, F', B') ∧ nG7 w F F' ∧ nM' v w B B' ∧ NSt w v (spA n d b u 0 EL ++ spN n d b (-1) (u * endN 0 EL) (cbE b (u * endN 0 EL))) B' ∧ B' 13 w 13 v = c := by
  unfold f_M_notes
  rw [if_pos w0, if_pos v0, L_isR (by first | decide | omega) (p := 0) ⟨by decide, ⟨WW, by decide⟩, by decide, by decide⟩ (by decide), zb_s]
  have z13 : ∀ c i k y, ¬ (c = 13 ∧ i = w ∧ k = 13 ∧ y = v) → (zup4 B 13 w 13 v 0) c i k y = B c i k y := fun c i k y n => by rw [zup4_v, if_neg n]
  have hP : PLn u w v (zup4 B 13 w 13 v 0) 0 EL := by
    have : ∀ (rs : List (Int × Int × Int × (Int → Int) × (Int → Int))) (j : Int), PLn u w v B j rs → PLn u w v (zup4 B 13 w 13 v 0) j rs := by
      intro rs
      induction rs with
      | nil => intro j _; trivial
      | cons s ss ih2 => intro j h; exact ⟨by rw [z13 13 w 14 _ (by first | decide | omega), z13 13 w 15 _ (by first | decide | omega)]; exact h.1, ih2 (j + 1) h.2⟩
    exact this EL 0 hpl
  have hp0 : 0 ≤ M := hM.1
  obtain ⟨p', F1, B1, y1, y2, y3, y4, y5, y6⟩ := M_n22 (Km := Km) (u := u) (v := v) (w := w) (M := M) hKm v0 w0 hb hu hM EL Km 0 0 [] (fr F 0) (zup4 B 13 w 13 v 0) (by first | decide | omega) (by first | decide | omega) (by first | decide | omega) (by first | decide | omega) hp0 hc hE (by rw [z13 13 w 12 v (by first | decide | omega), h12]; omega) (by rw [fr_n (by first | decide | omega)]; exact m4) (by rw [fr_n (by first | decide | omega)]; exact m5) (EVn_f EL 0 hv (fun k y hk a b => z13 13 w k y (by first | decide | omega)) (fun k y hk a b => z13 13 w k y (by first | decide | omega))) hP (Or.inl ⟨by simp, by rw [zup4_v, if_pos (by first | decide | omega)]; simp, trivial⟩)
  have n0 : nu (X5 * (u * 0)) = 0 ∧ de (X5 * (u * 0)) = 1 := by
    rw [Int.mul_zero, Int.mul_zero]; decide
  rw [n0.1, n0.2] at y1
  have pe : 0 ≤ u * p' ∧ u * p' ≤ u * M := by rcases hu with rfl | rfl | rfl | rfl <;> omega
  obtain ⟨c, F2, B2, u1, u2, u3, u4, u5⟩ := M_n150 (Km := Km) (v := v) (w := w) (E := u * p') (L := [] ++ spA n d b u 0 EL) (F := F1) (B := B1) hKm v0 w0 hb (by first | decide | omega) (u_sd hu) (by rw [y2 13 w 4 (by first | decide | omega), fr_n (by first | decide | omega)]; exact m4) (by rw [y2 13 w 5 (by first | decide | omega), fr_n (by first | decide | omega)]; exact m5) y4
  refine ⟨c, F2, B2, by rw [y1, u1], fun c y k n n' => by rw [u2 c y k n n', y2 c y k n, fr_n (by first | decide | omega)], fun c i k y n n' => by rw [u3 c i k y n n', y3 c i k y n n', z13 c i k y n], ?_, u5⟩
  rcases y6 with q | q
  · rw [q, List.nil_append] at u4; exact u4
  · rw [List.nil_append] at q u4
    rcases u4 with ⟨a, _⟩ | ⟨_, b'⟩
    · rw [List.length_append] at a; omega
    · exact Or.inr ⟨by rw [List.length_append]; omega, b'⟩
end
end
section
section
/-! ===== the reference: a voice's notes as text ===== -/
def evD : List (Int × Int × Int × (Int → Int) × (Int → Int)) → Int → Int × (Int → Int) × (Int → Int)
  | [], _ => (0, (fun _ => 0), (fun _ => 0))
  | r :: rs, j => if j = 0 then r.2.2 else evD rs (j - 1)
def hdE : List (Int × Int × Int) → Int → Bool
  | [], _ => false
  | r :: _, e => decide (r.1 = e)
def hdB : List (Int × Int × Int) → Int → Bool
  | [], _ => false
  | r :: _, e => decide (r.2.1 = e)
/-- the text of notes -/
def rtx (EL : List (Int × Int × Int × (Int → Int) × (Int → Int))) : List (Int × Int × Int) → List Int
  | [] => []
  | r :: rs => ntA (evD EL r.1).1 (evD EL r.1).2.1 (evD EL r.1).2.2 r.2.2 ++ ((if 0 < (evD EL r.1).1 ∧ hdE rs r.1 = true then [126] else []) ++ (32 :: ((if hdB rs r.2.1 = true then [] else [124, 10]) ++ rtx EL rs)))
theorem evD_n : ∀ (EL : List (Int × Int × Int × (Int → Int) × (Int → Int))) (j : Int), j < 0 → (evD EL j).1 = 0 := by
  intro EL
  induction EL with
  | nil => intro j _; rfl
  | cons r rs ih => intro j h; rw [evD, if_neg (by first | decide | omega)]; exact ih (j - 1) (by first | decide | omega)
theorem evD_r {u w v : Int} {B : zB} : ∀ (EL : List (Int × Int × Int × (Int → Int) × (Int → Int))) (i j : Int), EVn u w v B i EL → 0 ≤ j → j < (EL.length : Int) → (0 ≤ (evD EL j).1 ∧ (evD EL j).1 ≤ 6) ∧ B 13 w 21 (1000 * v + (i + j)) = (evD EL j).1 ∧ ∀ k, 0 ≤ k → k < (evD EL j).1 → B 13 w 28 (6 * (1000 * v + (i + j)) + k) = (evD EL j).2.1 k ∧ B 13 w 29 (6 * (1000 * v + (i + j)) + k) = (evD EL j).2.2 k ∧ (0 ≤ (evD EL j).2.1 k ∧ (evD EL j).2.1 k ≤ 62) ∧ (-7 ≤ (evD EL j).2.2 k ∧ (evD EL j).2.2 k ≤ 7) := by
  intro EL
  induction EL with
  | nil => intro i j _ j0 j1; simp at j1; omega
  | cons r rs ih =>
    intro i j h j0 j1
    rw [List.length_cons] at j1
    obtain ⟨⟨h0, h1, h2, h4, h5, h6⟩, h'⟩ := h
    rw [evD]
    by_cases z : j = 0
    · rw [if_pos z, z, show i + 0 = i by omega]
      exact ⟨h0, h5, h6⟩
    · rw [if_neg z]
      have := ih (i + 1) (j - 1) h' (by first | decide | omega) (by first | decide | omega)
      rw [show i + 1 + (j - 1) = i + j by omega] at this
      exact this
theorem ntA_l {m v : Int} {st al : Int → Int} (hm : 0 ≤ m ∧ m ≤ 6) (ha : ∀ k, 0 ≤ k → k < m → -7 ≤ al k ∧ al k ≤ 7) : (ntA m st al v).length ≤ 80 ∧ 2 ≤ (ntA m st al v).length := by
  unfold ntA
  have l1 := if_l (c := m = 0) (x := 114)
  have l2 := if_l (c := 1 < m) (x := 60)
  have l3 := if_l (c := 1 < m) (x := 62)
  have cl := chT_l (st := st) (al := al) m.toNat 0 (fun j a b => ha j a (by first | decide | omega))
  have dl := decT_l (v := zshl 1 (v / 3))
  have rl := rptT_l (c := 46) (2 - v % 3).toNat
  simp only [List.length_append, List.length_cons]
  omega
theorem nt2_l {a b : Prop} [Decidable a] [Decidable b] : ((if a then [(126 : Int)] else []) ++ (32 :: (if b then [] else [124, 10]))).length ≤ 4 ∧ 1 ≤ ((if a then [(126 : Int)] else []) ++ (32 :: (if b then [] else [124, 10]))).length := by
  split <;> split <;> simp
section
variable {Km : Nat} {q : zF × zB} {u w v c : Int} {EL : List (Int × Int × Int × (Int → Int) × (Int → Int))}
theorem M_283 {T : List Int} {F : zF} {B : zB} (ht : T.length ≤ 19000) (h : TM q T F B) : ∃ F' B', f_M_downVoice_283 Km F B = some (0, F', B') ∧ TM q (T ++ [125, 10]) F' B' := by
  obtain ⟨F1, B1, e1, w1⟩ := M_pt (Km := Km) (a := 125) (by first | decide | omega) h
  obtain ⟨F2, B2, e2, w2⟩ := M_pt (Km := Km) (a := 10) (by rw [List.length_append, List.length_singleton]; omega) w1
  refine ⟨F2, B2, ?_, ?_⟩
  · unfold f_M_downVoice_283
    rw [e1, zb_s, e2, zb_s]
  · rw [List.append_assoc] at w2
    exact w2
theorem M_239 (hK : 2000 ≤ Km) (hw : q.1 14 0 6 = w ∧ 0 ≤ w ∧ w < 3) (v0 : 0 ≤ v ∧ v < 4) (el : (EL.length : Int) ≤ 1000) (hv : EVn u w v q.2 0 EL) (hc : 0 ≤ c ∧ c ≤ 800) : ∀ (rs : List (Int × Int × Int)) (m : Nat) (i : Int) (T : List Int) (F : zF) (B : zB), rs.length < m → i + (rs.length : Int) = c → 0 ≤ i → NRW w v q.2 i rs → (∀ r, r ∈ rs → (-1 ≤ r.1 ∧ r.1 < (EL.length : Int)) ∧ (0 ≤ r.2.1 ∧ r.2.1 ≤ 1000) ∧ (0 ≤ r.2.2 ∧ r.2.2 < 24)) → T.length ≤ 3200 → TM q T F B → ∃ F' B' T', f_M_downVoice_239 Km m i c v F B = some (0, F', B') ∧ TM q T' F' B' ∧ T'.length ≤ 4000 ∧ (T' = T ++ (rtx EL rs ++ [125, 10]) ∨ (3000 < T'.length ∧ T'.length ≤ 4000 ∧ 3000 < (T ++ rtx EL rs).length)) := by
  intro rs
  induction rs with
  | nil =>
    intro m i T F B hm hi i0 hr ho ht h
    obtain ⟨p, rfl⟩ : ∃ p, m = p + 1 := ⟨m - 1, by simp at hm; omega⟩
    rw [List.length_nil] at hi
    obtain ⟨F1, B1, e1, w1⟩ := M_283 (Km := Km) (by first | decide | omega) h
    refine ⟨F1, B1, _, ?_, w1, by rw [List.length_append]; simp; omega, Or.inl rfl⟩
    rw [f_M_downVoice_239, if_pos (by unfold r32; omega), if_pos (by unfold r32; omega), if_pos (by first | decide | omega), e1]
  | cons r rs ih =>
    intro m i T F B hm hi i0 hr ho ht h
    rw [List.length_cons] at hm hi
    obtain ⟨p, rfl⟩ : ∃ p, m = p + 1 := ⟨m - 1, (by first | decide | omega)⟩
    have l71 : F 14 0 71 = (T.length : Int) := h.1.1
    by_cases z : 3000 < T.length
    · obtain ⟨F1, B1, e1, w1⟩ := M_283 (Km := Km) (by first | decide | omega) h
      refine ⟨F1, B1, _, ?_, w1, by rw [List.length_append]; simp; omega, Or.inr ⟨by rw [List.length_append]; omega, by rw [List.length_append]; simp; omega, by rw [List.length_append]; omega⟩⟩
      rw [f_M_downVoice_239, if_pos (by unfold r32; omega), if_pos (by unfold r32; omega), if_neg (by first | decide | omega), l71, if_pos (by unfold r32; omega), if_pos (by first | decide | omega), e1]
    · obtain ⟨⟨r1, r2, r3, r4⟩, hr'⟩ := hr
      obtain ⟨o1, o2, o3⟩ := ho r (List.mem_cons_self ..)
      have evm : (0 ≤ (evD EL r.1).1 ∧ (evD EL r.1).1 ≤ 6) ∧ ((evD EL r.1).1 = if r.1 < 0 then 0 else q.2 13 w 21 (1000 * v + r.1)) ∧ ∀ k, 0 ≤ k → k < (evD EL r.1).1 → q.2 13 w 28 (6 * (1000 * v + r.1) + k) = (evD EL r.1).2.1 k ∧ q.2 13 w 29 (6 * (1000 * v + r.1) + k) = (evD EL r.1).2.2 k ∧ (0 ≤ (evD EL r.1).2.1 k ∧ (evD EL r.1).2.1 k ≤ 62) ∧ (-7 ≤ (evD EL r.1).2.2 k ∧ (evD EL r.1).2.2 k ≤ 7) := by
        by_cases y : r.1 < 0
        · have := evD_n EL r.1 y
          rw [if_pos y, this]
          exact ⟨(by first | decide | omega), rfl, fun k a b => (by first | decide | omega)⟩
        · have := evD_r EL 0 r.1 hv (by first | decide | omega) o1.2
          rw [show 0 + r.1 = r.1 by omega] at this
          rw [if_neg y]
          exact ⟨this.1, this.2.1.symm, this.2.2⟩
      generalize hlast : (if i + 1 = c then (1 : Int) else 0) = last
      have l01 : last = 0 ∨ last = 1 := by rw [← hlast]; split <;> omega
      have nx : last = 0 → ∃ s ss, rs = s :: ss := fun hl => by
        cases rs with
        | nil =>
          rw [List.length_nil] at hi
          rw [if_pos (by first | decide | omega)] at hlast
          omega
        | cons s ss => exact ⟨s, ss, rfl⟩
      have nx1 : last = 1 → rs = [] := fun hl => by
        cases rs with
        | nil => rfl
        | cons s ss =>
          rw [List.length_cons] at hi
          rw [if_neg (by first | decide | omega)] at hlast
          omega
      obtain ⟨F1, B1, e1, w1⟩ := M_dn (Km := Km) (q := q) (w := w) (v := v) (i := i) (m := (evD EL r.1).1) (vv := r.2.2) (last := last) (st := (evD EL r.1).2.1) (al := (evD EL r.1).2.2) (x := 1000 * v + r.1) (by first | decide | omega) hw v0 (by first | decide | omega) (by rw [r1]; omega) (by rw [r1]) (by rw [r1]; exact evm.2.1) evm.1 evm.2.2 o3 r3 r4 l01 (fun hl => by
        obtain ⟨s, ss, hs⟩ := nx hl
        subst hs
        obtain ⟨⟨s1, s2, _, _⟩, _⟩ := hr'
        obtain ⟨t1, t2, _⟩ := ho s (List.mem_cons_of_mem _ (List.mem_cons_self ..))
        rw [List.length_cons] at hi
        rw [show 800 * v + i + 1 = 800 * v + (i + 1) by omega, s1, s2, r2]
        exact ⟨(by first | decide | omega), by unfold r32; omega, by unfold r32; omega, by unfold r32; omega⟩) (by first | decide | omega) h
      have t1 : (if 0 < (evD EL r.1).1 ∧ last = 0 ∧ q.2 13 w 30 (800 * v + i + 1) = q.2 13 w 30 (800 * v + i) then [(126 : Int)] else []) = (if 0 < (evD EL r.1).1 ∧ hdE rs r.1 = true then [126] else []) := by
        rcases l01 with hl | hl
        · obtain ⟨s, ss, hs⟩ := nx hl
          subst hs
          have s1 := hr'.1.1
          rw [show 800 * v + (i + 1) = 800 * v + i + 1 by omega] at s1
          rw [s1, r1]
          by_cases y : s.1 = r.1
          · have : hdE (s :: ss) r.1 = true := decide_eq_true y
            rw [this]
            by_cases y2 : 0 < (evD EL r.1).1
            · rw [if_pos ⟨y2, hl, y⟩, if_pos ⟨y2, rfl⟩]
            · rw [if_neg (fun q => y2 q.1), if_neg (fun q => y2 q.1)]
          · have : ¬ hdE (s :: ss) r.1 = true := fun q => y (of_decide_eq_true q)
            rw [if_neg (fun q => y q.2.2), if_neg (fun q => this q.2)]
        · rw [nx1 hl, if_neg (fun q => by have := q.2.1; omega), if_neg (fun q => absurd q.2 (show ¬ false = true by decide))]
      have t2 : (if last = 0 ∧ q.2 13 w 31 (800 * v + i + 1) = q.2 13 w 31 (800 * v + i) then [] else [(124 : Int), 10]) = (if hdB rs r.2.1 = true then [] else [124, 10]) := by
        rcases l01 with hl | hl
        · obtain ⟨s, ss, hs⟩ := nx hl
          subst hs
          have s1 := hr'.1.2.1
          rw [show 800 * v + (i + 1) = 800 * v + i + 1 by omega] at s1
          rw [s1, r2]
          by_cases y : s.2.1 = r.2.1
          · have : hdB (s :: ss) r.2.1 = true := decide_eq_true y
            rw [this, if_pos ⟨hl, y⟩, if_pos rfl]
          · have : ¬ hdB (s :: ss) r.2.1 = true := fun q => y (of_decide_eq_true q)
            rw [if_neg (fun q => y q.2), if_neg this]
        · rw [nx1 hl, if_neg (fun q => by have := q.1; omega), if_neg (show ¬ hdB [] r.2.1 = true from (show ¬ false = true by decide))]
      rw [t1, t2] at w1
      have nl := ntA_l (st := (evD EL r.1).2.1) (v := r.2.2) evm.1 (fun k a b => (evm.2.2 k a b).2.2.2)
      have nl2 := nt2_l (a := 0 < (evD EL r.1).1 ∧ hdE rs r.1 = true) (b := hdB rs r.2.1 = true)
      obtain ⟨F2, B2, T', y1, y2, yl, y3⟩ := ih p (i + 1) _ F1 B1 (by first | decide | omega) (by first | decide | omega) (by first | decide | omega) hr' (fun s hs => ho s (List.mem_cons_of_mem _ hs)) (by rw [List.length_append, List.length_append]; omega) w1
      have ea : T ++ (ntA (evD EL r.1).1 (evD EL r.1).2.1 (evD EL r.1).2.2 r.2.2 ++ ((if 0 < (evD EL r.1).1 ∧ hdE rs r.1 = true then [126] else []) ++ (32 :: (if hdB rs r.2.1 = true then [] else [124, 10])))) ++ rtx EL rs = T ++ rtx EL (r :: rs) := by
        rw [rtx]
        simp only [List.append_assoc, List.cons_append]
      refine ⟨F2, B2, T', ?_, y2, yl, ?_⟩
      · have e274 : f_M_downVoice_274 (f_M_downVoice_239 Km p) Km i c v v i last F B = some (0, F2, B2) := by
          unfold f_M_downVoice_274
          rw [e1, zb_s, y1]
        rw [f_M_downVoice_239, if_pos (by unfold r32; omega), if_pos (by unfold r32; omega), if_neg (by first | decide | omega), l71, if_pos (by unfold r32; omega), if_neg (by first | decide | omega), if_pos (by unfold r32; omega), ← e274, ← hlast]
        by_cases y : i + 1 = c
        · rw [if_pos y, if_pos y]
        · rw [if_neg y, if_neg y]
      · rw [ea] at y3
        rcases y3 with y3 | y3
        · left
          rw [y3, ← List.append_assoc, ea, ← List.append_assoc]
        · exact Or.inr y3
end
end
end
section
section
/-! ===== notes as text: both ways of telling them are one ===== -/
/-- what must follow a span of event ev that ends at e -/
def HDc (b ev e : Int) : List (Int × Int × Int) → Prop
  | [] => e % b = 0
  | r :: _ => ¬ r.1 = ev ∧ r.2.1 = e / b
theorem bar_n {b a a' : Int} (b0 : 0 < b) (a0 : 0 ≤ a) (h1 : a < a') (h2 : a' ≤ (a / b + 1) * b) : a' / b = a / b ↔ ¬ a' % b = 0 := by
  have e1 := Int.mul_ediv_add_emod a b
  have e2 := Int.emod_nonneg a (show b ≠ 0 by omega)
  have e3 := Int.emod_lt_of_pos a b0
  have f1 := Int.mul_ediv_add_emod a' b
  have f2 := Int.emod_nonneg a' (show b ≠ 0 by omega)
  have f3 := Int.emod_lt_of_pos a' b0
  have q2 : (a / b + 1) * b = b * (a / b) + b := by rw [Int.add_mul, Int.one_mul, Int.mul_comm]
  constructor
  · intro h z
    rw [h, z] at f1
    omega
  · intro h
    have l1 : a / b ≤ a' / b := Int.ediv_le_ediv b0 (by first | decide | omega)
    have l2 : a' / b < a / b + 1 := by
      have : a' < (a / b + 1) * b := by
        rcases Int.lt_or_le a' ((a / b + 1) * b) with z | z
        · exact z
        · have : a' = (a / b + 1) * b := by omega
          rw [this, Int.mul_emod_left] at h
          exact absurd rfl h
      exact (Int.ediv_lt_iff_lt_mul b0).mpr this
    omega
theorem rtx_s {n d b : Int} {EL : List (Int × Int × Int × (Int → Int) × (Int → Int))} (hb : BRs n d b) {ev e : Int} {R : List (Int × Int × Int)} (hm : 0 ≤ (evD EL ev).1) (he : e % sdU d = 0) (hR : HDc b ev e R) : ∀ (r : Nat) (a : Int), e - a ≤ r → 0 ≤ a → a ≤ e → a % sdU d = 0 → rtx EL (spN n d b ev a e ++ R) = spX n d b (evD EL ev).1 (evD EL ev).2.1 (evD EL ev).2.2 a e ++ rtx EL R := by
  obtain ⟨b1, b2, b3, _, b5, b6⟩ := BRs_b hb
  intro r
  induction r with
  | zero =>
    intro a hr a0 ae ha
    rw [spN_0 (by first | decide | omega), spX_0 (by first | decide | omega), List.nil_append, List.nil_append]
  | succ r ih =>
    intro a hr a0 ae ha
    by_cases z : a < e
    · obtain ⟨kb, n1, n2, n3, n4⟩ := nx_b hb a0 z ha he
      have bn := bar_n (by first | decide | omega) a0 (show a < nxF n d b a e by omega) n4
      have ihx := ih (nxF n d b a e) (by first | decide | omega) (by first | decide | omega) n2 n3
      rw [spN_u hb a0 ha he z, spX_u hb a0 ha he z, List.cons_append, rtx, ihx]
      -- what follows this note
      have h1 : (hdE (spN n d b ev (nxF n d b a e) e ++ R) ev = true ↔ nxF n d b a e < e) ∧ (hdB (spN n d b ev (nxF n d b a e) e ++ R) (a / b) = true ↔ ¬ nxF n d b a e % b = 0) := by
        by_cases y : nxF n d b a e < e
        · rw [spN_u hb (by first | decide | omega) n3 he y, List.cons_append]
          refine ⟨⟨fun _ => y, fun _ => decide_eq_true rfl⟩, ⟨fun h => bn.mp (of_decide_eq_true h), fun h => decide_eq_true (bn.mpr h)⟩⟩
        · have ee : nxF n d b a e = e := by omega
          rw [spN_0 y, List.nil_append]
          cases R with
          | nil =>
            have hR' : e % b = 0 := hR
            refine ⟨⟨fun h => absurd h (show ¬ false = true by decide), fun h => absurd h y⟩, ⟨fun h => absurd h (show ¬ false = true by decide), fun h => ?_⟩⟩
            rw [ee] at h; exact absurd hR' h
          | cons s ss =>
            obtain ⟨s1, s2⟩ := hR
            refine ⟨⟨fun h => absurd (of_decide_eq_true h) s1, fun h => absurd h y⟩, ⟨fun h => ?_, fun h => ?_⟩⟩
            · have h' : s.2.1 = a / b := of_decide_eq_true h
              exact bn.mp (by rw [ee]; omega)
            · have := bn.mpr h
              rw [ee] at this
              exact decide_eq_true (by first | decide | omega)
      show ntA (evD EL ev).1 (evD EL ev).2.1 (evD EL ev).2.2 (kvF n d b a e) ++ ((if 0 < (evD EL ev).1 ∧ hdE (spN n d b ev (nxF n d b a e) e ++ R) ev = true then [126] else []) ++ (32 :: ((if hdB (spN n d b ev (nxF n d b a e) e ++ R) (a / b) = true then [] else [124, 10]) ++ (spX n d b (evD EL ev).1 (evD EL ev).2.1 (evD EL ev).2.2 (nxF n d b a e) e ++ rtx EL R)))) = _
      have t1 : (if 0 < (evD EL ev).1 ∧ hdE (spN n d b ev (nxF n d b a e) e ++ R) ev = true then [(126 : Int)] else []) = (if nxF n d b a e < e ∧ ¬ (evD EL ev).1 = 0 then [126] else []) := by
        by_cases y : nxF n d b a e < e
        · by_cases y2 : (evD EL ev).1 = 0
          · rw [if_neg (fun q => by have := q.1; omega), if_neg (fun q => q.2 y2)]
          · rw [if_pos ⟨(by first | decide | omega), h1.1.mpr y⟩, if_pos ⟨y, y2⟩]
        · rw [if_neg (fun q => y (h1.1.mp q.2)), if_neg (fun q => y q.1)]
      have t2 : (if hdB (spN n d b ev (nxF n d b a e) e ++ R) (a / b) = true then [] else [(124 : Int), 10]) = (if nxF n d b a e % b = 0 then [124, 10] else []) := by
        by_cases y : nxF n d b a e % b = 0
        · rw [if_neg (fun q => h1.2.mp q y), if_pos y]
        · rw [if_pos (h1.2.mpr y), if_neg y]
      rw [t1, t2]
      simp only [List.append_assoc, List.cons_append]
    · rw [spN_0 z, spX_0 z, List.nil_append, List.nil_append]
/-- the text of spans -/
def txA (n d b u : Int) : List (Int × Int × Int × (Int → Int) × (Int → Int)) → List Int
  | [] => []
  | r :: rs => spX n d b r.2.2.1 r.2.2.2.1 r.2.2.2.2 (u * r.1) (u * r.2.1) ++ txA n d b u rs
theorem rtx_A {n d b u : Int} {EL : List (Int × Int × Int × (Int → Int) × (Int → Int))} (hb : BRs n d b) (hu : u = 128 ∨ u = 64 ∨ u = 32 ∨ u = 16) {R : List (Int × Int × Int)} : ∀ (rs : List (Int × Int × Int × (Int → Int) × (Int → Int))) (j p : Int), 0 ≤ j → 0 ≤ p → CHN p rs → (∀ i, 0 ≤ i → evD EL (j + i) = evD rs i) → (∀ r, r ∈ rs → 0 ≤ r.2.2.1) → HDc b (-2) (u * endN p rs) R → (∀ i, 0 ≤ i → HDc b i (u * endN p rs) R) → rtx EL (spA n d b u j rs ++ R) = txA n d b u rs ++ rtx EL R := by
  intro rs
  induction rs with
  | nil => intro j p _ _ _ _ _ _ _; rw [spA, txA, List.nil_append, List.nil_append]
  | cons r rs ih =>
    intro j p j0 p0 hc hD hm hR hR2
    obtain ⟨c1, c2, c3⟩ := hc
    have ihx := ih (j + 1) r.2.1 (by first | decide | omega) (by first | decide | omega) c3 (fun i i0 => by
      have := hD (i + 1) (by first | decide | omega)
      rw [evD, if_neg (by first | decide | omega), show i + 1 - 1 = i by omega, show j + (i + 1) = j + 1 + i by omega] at this
      exact this) (fun s hs => hm s (List.mem_cons_of_mem _ hs)) hR hR2
    have e0 : evD EL j = r.2.2 := by
      have := hD 0 (by first | decide | omega)
      rw [evD, if_pos rfl, show j + 0 = j by omega] at this
      exact this
    have pb : 0 ≤ u * r.1 ∧ u * r.1 ≤ u * r.2.1 ∧ u * r.1 < u * r.2.1 := by rcases hu with rfl | rfl | rfl | rfl <;> omega
    have nxt : HDc b j (u * r.2.1) (spA n d b u (j + 1) rs ++ R) := by
      cases rs with
      | nil => rw [spA, List.nil_append]; exact hR2 j j0
      | cons s ss =>
        obtain ⟨s1, s2, s3⟩ := c3
        have sb : 0 ≤ u * s.1 ∧ u * s.1 < u * s.2.1 ∧ u * s.1 = u * r.2.1 := by rw [s1]; rcases hu with rfl | rfl | rfl | rfl <;> omega
        rw [spA, spN_u hb sb.1 (u_sd hu) (u_sd hu) sb.2.1]
        exact ⟨by show ¬ j + 1 = j; omega, by show u * s.1 / b = u * r.2.1 / b; rw [sb.2.2]⟩
    rw [spA, List.append_assoc, rtx_s (ev := j) hb (by rw [e0]; exact hm r (List.mem_cons_self ..)) (u_sd hu) nxt (u * r.2.1 - u * r.1).toNat (u * r.1) (by first | decide | omega) pb.1 pb.2.1 (u_sd hu), ihx, txA, e0, List.append_assoc]
/-- what the notes of a span are like -/
theorem spN_o {n d b ev e : Int} (hb : BRs n d b) (he : e % sdU d = 0) (e1 : e ≤ 100 * b) : ∀ (r : Nat) (a : Int), e - a ≤ r → 0 ≤ a → a % sdU d = 0 → ∀ s, s ∈ spN n d b ev a e → s.1 = ev ∧ (0 ≤ s.2.1 ∧ s.2.1 ≤ 1000) ∧ (0 ≤ s.2.2 ∧ s.2.2 < 24) := by
  obtain ⟨b1, b2, b3, _, b5, b6⟩ := BRs_b hb
  intro r
  induction r with
  | zero =>
    intro a hr a0 ha s hs
    rw [spN_0 (by first | decide | omega)] at hs
    exact absurd hs (List.not_mem_nil)
  | succ r ih =>
    intro a hr a0 ha s hs
    by_cases z : a < e
    · obtain ⟨kb, n1, n2, n3, n4⟩ := nx_b hb a0 z ha he
      rw [spN_u hb a0 ha he z] at hs
      rcases List.mem_cons.mp hs with h | h
      · rw [h]
        have q0 : 0 ≤ a / b := Int.ediv_nonneg a0 (by first | decide | omega)
        have q1 := (Int.ediv_lt_iff_lt_mul (show 0 < b by omega) (a := a) (b := 100)).mpr (by first | decide | omega)
        exact ⟨rfl, ⟨q0, by show a / b ≤ 1000; omega⟩, kb⟩
      · exact ih (nxF n d b a e) (by first | decide | omega) (by first | decide | omega) n3 s h
    · rw [spN_0 z] at hs
      exact absurd hs (List.not_mem_nil)
theorem spA_o {n d b u M : Int} (hb : BRs n d b) (hu : u = 128 ∨ u = 64 ∨ u = 32 ∨ u = 16) (hM : u * M ≤ 100 * b) : ∀ (rs : List (Int × Int × Int × (Int → Int) × (Int → Int))) (j p : Int), 0 ≤ p → CHN p rs → endN p rs ≤ M → ∀ s, s ∈ spA n d b u j rs → (j ≤ s.1 ∧ s.1 < j + (rs.length : Int)) ∧ (0 ≤ s.2.1 ∧ s.2.1 ≤ 1000) ∧ (0 ≤ s.2.2 ∧ s.2.2 < 24) := by
  intro rs
  induction rs with
  | nil => intro j p _ _ _ s hs; exact absurd hs (List.not_mem_nil)
  | cons r rs ih =>
    intro j p p0 hc hE s hs
    obtain ⟨c1, c2, c3⟩ := hc
    have ce := CHN_e rs r.2.1 c3
    have hE' : endN r.2.1 rs ≤ M := hE
    have pb : 0 ≤ u * r.1 ∧ u * r.2.1 ≤ u * M := by rcases hu with rfl | rfl | rfl | rfl <;> omega
    rw [List.length_cons]
    rw [spA] at hs
    rcases List.mem_append.mp hs with h | h
    · have := spN_o (ev := j) hb (u_sd hu) (show u * r.2.1 ≤ 100 * b by omega) (u * r.2.1 - u * r.1).toNat (u * r.1) (by first | decide | omega) pb.1 (u_sd hu) s h
      exact ⟨(by first | decide | omega), this.2⟩
    · have := ih (j + 1) r.2.1 (by first | decide | omega) c3 hE' s h
      exact ⟨(by first | decide | omega), this.2⟩
/-- a note takes four letters at least -/
theorem ntA_3 {m v : Int} {st al : Int → Int} (hm : 0 ≤ m) : 3 ≤ (ntA m st al v).length := by
  unfold ntA
  have dl := decT_l (v := zshl 1 (v / 3))
  simp only [List.length_append, List.length_cons]
  by_cases z : m = 0
  · rw [if_pos z]
    simp only [List.length_cons, List.length_nil]
    omega
  · have : 2 ≤ (chT st al m.toNat 0).length := by
      obtain ⟨k, hk⟩ : ∃ k, m.toNat = k + 1 := ⟨m.toNat - 1, (by first | decide | omega)⟩
      rw [hk, chT]
      unfold pitT
      simp only [List.length_append, List.length_cons, List.length_nil]
      omega
    omega
theorem rtx_l {EL : List (Int × Int × Int × (Int → Int) × (Int → Int))} : ∀ (L : List (Int × Int × Int)), (∀ s, s ∈ L → 0 ≤ (evD EL s.1).1) → 4 * L.length ≤ (rtx EL L).length := by
  intro L
  induction L with
  | nil => intro _; exact Nat.zero_le _
  | cons r rs ih =>
    intro h
    have i := ih (fun s hs => h s (List.mem_cons_of_mem _ hs))
    have t := ntA_3 (m := (evD EL r.1).1) (v := r.2.2) (st := (evD EL r.1).2.1) (al := (evD EL r.1).2.2) (h r (List.mem_cons_self ..))
    rw [rtx, List.length_cons]
    simp only [List.length_append, List.length_cons]
    omega
end
end
section
section
/-! ===== the reference writes a voice ===== -/
theorem ntA_0 {st al st' al' : Int → Int} {v : Int} : ntA 0 st al v = ntA 0 st' al' v := rfl
theorem spT_z {n d b : Int} {st al st' al' : Int → Int} : ∀ (f : Nat) (a e : Int), spT n d b 0 st al f a e = spT n d b 0 st' al' f a e := by
  intro f
  induction f with
  | zero => intro a e; rfl
  | succ f ih =>
    intro a e
    rw [spT, spT, ih (nxF n d b a e) e, ntA_0 (st := st) (al := al) (st' := st') (al' := al')]
theorem spX_z {n d b a e : Int} {st al st' al' : Int → Int} : spX n d b 0 st al a e = spX n d b 0 st' al' a e := spT_z _ _ _
theorem txA_a {n d b u : Int} : ∀ (L : List (Int × Int × Int × (Int → Int) × (Int → Int))) (r : Int × Int × Int × (Int → Int) × (Int → Int)), txA n d b u (L ++ [r]) = txA n d b u L ++ spX n d b r.2.2.1 r.2.2.2.1 r.2.2.2.2 (u * r.1) (u * r.2.1) := by
  intro L
  induction L with
  | nil => intro r; rw [List.nil_append, txA, txA, txA, List.append_nil, List.nil_append]
  | cons s ss ih => intro r; rw [List.cons_append, txA, txA, ih r, List.append_assoc]
theorem TM_c {q : zF × zB} {T : List Int} {F F' : zF} {B B' : zB} (h : TM q T F B) (f : F' 14 0 71 = F 14 0 71) (b : ∀ j, B' 14 0 70 j = B 14 0 70 j) : TM (F', B') T F' B' := ⟨⟨by rw [f]; exact h.1.1, fun j hj => by rw [b]; exact h.1.2 j hj⟩, fun _ _ _ _ => rfl, fun _ _ _ _ _ => rfl⟩
/-- the head of a voice's text, and its notes -/
def vHd (v cl num : Int) : List Int := [118, 111, 105, 99, 101, 32, 118] ++ ([97 + v] ++ ((if cl = 0 then [32, 116, 114, 101, 98, 108, 101, 32] else [32, 98, 97, 115, 115, 32]) ++ (decT num ++ [32, 123, 10])))
def vNt (n d b u last : Int) (EL : List (Int × Int × Int × (Int → Int) × (Int → Int))) : List Int := txA n d b u EL ++ (spX n d b 0 (fun _ => 0) (fun _ => 0) (u * endN 0 EL) (u * last) ++ spX n d b 0 (fun _ => 0) (fun _ => 0) (u * last) (cbE b (u * last)))
/-- what a voice written down may change -/
def dvM (w v : Int) (B B' : zB) : Prop := ∀ c i k y, ¬ (c = 13 ∧ i = w ∧ (((k = 12 ∨ k = 13) ∧ y = v) ∨ ((14 ≤ k ∧ k ≤ 22) ∧ 1000 * v ≤ y ∧ y < 1000 * v + 1000) ∨ ((30 ≤ k ∧ k ≤ 35) ∧ 800 * v ≤ y ∧ y < 800 * v + 800))) → ¬ (c = 14 ∧ i = 0 ∧ k = 70) → B' c i k y = B c i k y
def dvG (w : Int) (F F' : zF) : Prop := ∀ c y k, ¬ (c = 14 ∧ y = 0 ∧ (k ≤ 1 ∨ 52 ≤ k ∧ k ≤ 57 ∨ k = 71)) → ¬ (c = 13 ∧ y = w ∧ k = 7) → F' c y k = F c y k
/-- the notes, then the text -/
theorem M_dvN {Km : Nat} {u v w n d b M : Int} {EL : List (Int × Int × Int × (Int → Int) × (Int → Int))} {T : List Int} {F : zF} {B : zB} (hKm : 70000000000 < Km) (v0 : 0 ≤ v ∧ v < 4) (hw : F 14 0 6 = w ∧ 0 ≤ w ∧ w < 3) (hb : BRs n d b) (hu : u = 128 ∨ u = 64 ∨ u = 32 ∨ u = 16) (hM : 0 ≤ M ∧ u * M ≤ 100 * b) (el : (EL.length : Int) ≤ 900) (hc : CHN 0 EL) (hE : endN 0 EL = M) (h12 : B 13 w 12 v = (EL.length : Int)) (m4 : F 13 w 4 = n) (m5 : F 13 w 5 = d) (hv : EVn u w v B 0 EL) (hpl : PLn u w v B 0 EL) (ht : T.length ≤ 3100) (hT : TM (F, B) T F B) : ∃ F' B', f_M_downVoice_209 Km v F B = some (0, F', B') ∧ dvG w F F' ∧ dvM w v B B' ∧ ((TM (F', B') (T ++ (txA n d b u EL ++ (spX n d b 0 (fun _ => 0) (fun _ => 0) (u * M) (cbE b (u * M)) ++ [125, 10]))) F' B' ∧ (T ++ (txA n d b u EL ++ (spX n d b 0 (fun _ => 0) (fun _ => 0) (u * M) (cbE b (u * M)) ++ [125, 10]))).length ≤ 4000) ∨ ((3000 < F' 14 0 71 ∧ F' 14 0 71 ≤ 5000) ∧ 3000 < (T ++ (txA n d b u EL ++ (spX n d b 0 (fun _ => 0) (fun _ => 0) (u * M) (cbE b (u * M)) ++ [125, 10]))).length)) := by
  obtain ⟨b1, b2, b3, _, b5, b6⟩ := BRs_b hb
  obtain ⟨c, F1, B1, u1, u2, u3, u4, u5⟩ := M_nts (Km := Km) (u := u) (v := v) (w := w) (M := M) hKm v0 hw.2 hb hu hM (by first | decide | omega) hc (by first | decide | omega) h12 m4 m5 hv hpl
  rw [hE] at u4
  generalize hL : spA n d b u 0 EL ++ spN n d b (-1) (u * M) (cbE b (u * M)) = L at u4
  have M0 : 0 ≤ u * M ∧ u * M ≤ 100 * b := ⟨by rcases hu with rfl | rfl | rfl | rfl <;> omega, hM.2⟩
  have dm := Int.mul_ediv_add_emod (u * M) b
  have m0 := Int.emod_nonneg (u * M) (show b ≠ 0 by omega)
  have m1 := Int.emod_lt_of_pos (u * M) (show 0 < b by omega)
  have q0 : 0 ≤ u * M / b := Int.ediv_nonneg M0.1 (by first | decide | omega)
  have nb1 : (u * M / b + 1) * b = b * (u * M / b) + b := by rw [Int.add_mul, Int.one_mul, Int.mul_comm]
  have sd : (sdU d = 16) ∨ (sdU d = 4) := by unfold sdU; split <;> omega
  have cb : cbE b (u * M) % sdU d = 0 ∧ u * M ≤ cbE b (u * M) ∧ cbE b (u * M) ≤ 100 * b ∧ cbE b (u * M) % b = 0 := by
    unfold cbE
    by_cases z : u * M % b = 0
    · rw [if_pos z]; exact ⟨u_sd hu, (by first | decide | omega), (by first | decide | omega), z⟩
    · rw [if_neg z]
      refine ⟨?_, (by first | decide | omega), ?_, Int.mul_emod_left _ _⟩
      · obtain ⟨j, hj⟩ : ∃ j, b = sdU d * j := ⟨b / sdU d, by rcases sd with h | h <;> rw [h] at b3 ⊢ <;> omega⟩
        rw [show (u * M / b + 1) * b = sdU d * ((u * M / b + 1) * j) by rw [hj]; ac_rfl]
        exact Int.mul_emod_right _ _
      · have l1 := (Int.ediv_lt_iff_lt_mul (show 0 < b by omega) (a := u * M) (b := 100)).mpr (by
          by_cases y : u * M = 100 * b
          · rw [y, Int.mul_emod_left] at z; exact absurd rfl z
          · omega)
        exact Int.mul_le_mul_of_nonneg_right (by first | decide | omega) (by first | decide | omega)
  have mg : ∀ r, r ∈ EL → 0 ≤ r.2.2.1 := by
    have : ∀ (L : List (Int × Int × Int × (Int → Int) × (Int → Int))) (j : Int), EVn u w v B j L → ∀ r, r ∈ L → 0 ≤ r.2.2.1 := by
      intro L
      induction L with
      | nil => intro j _ r hr; exact absurd hr (List.not_mem_nil)
      | cons s ss ih =>
        intro j h r hr
        rcases List.mem_cons.mp hr with q | q
        · rw [q]; exact h.1.1.1
        · exact ih (j + 1) h.2 r q
    exact this EL 0 hv
  -- the text of all notes
  have ev1 : (evD EL (-1)).1 = 0 := evD_n EL (-1) (by first | decide | omega)
  have tx : rtx EL L = txA n d b u EL ++ spX n d b 0 (fun _ => 0) (fun _ => 0) (u * M) (cbE b (u * M)) := by
    have hR : ∀ i, (0 ≤ i ∨ i = -2) → HDc b i (u * M) (spN n d b (-1) (u * M) (cbE b (u * M))) := fun i hi => by
      by_cases z : u * M % b = 0
      · have : cbE b (u * M) = u * M := by unfold cbE; rw [if_pos z]
        rw [this, spN_0 (by first | decide | omega)]
        exact z
      · have : cbE b (u * M) = (u * M / b + 1) * b := by unfold cbE; rw [if_neg z]
        rw [spN_u hb M0.1 (u_sd hu) cb.1 (by first | decide | omega)]
        exact ⟨by show ¬ (-1 : Int) = i; omega, rfl⟩
    rw [← hL, rtx_A hb hu EL 0 0 (by first | decide | omega) (by first | decide | omega) hc (fun i _ => by rw [show 0 + i = i by omega]) mg (by rw [hE]; exact hR (-2) (Or.inr rfl)) (fun i i0 => by rw [hE]; exact hR i (Or.inl i0))]
    have last := rtx_s (EL := EL) (ev := -1) (R := []) hb (by first | decide | omega) cb.1 (show HDc b (-1) (cbE b (u * M)) [] from cb.2.2.2) (cbE b (u * M) - u * M).toNat (u * M) (by first | decide | omega) M0.1 cb.2.1 (u_sd hu)
    rw [List.append_nil, ev1, rtx, List.append_nil] at last
    rw [last, spX_z (st' := fun _ => 0) (al' := fun _ => 0)]
  have ok : ∀ s, s ∈ L → (-1 ≤ s.1 ∧ s.1 < (EL.length : Int)) ∧ (0 ≤ s.2.1 ∧ s.2.1 ≤ 1000) ∧ (0 ≤ s.2.2 ∧ s.2.2 < 24) := fun s hs => by
    rw [← hL] at hs
    rcases List.mem_append.mp hs with h | h
    · have := spA_o hb hu hM.2 EL 0 0 (by first | decide | omega) hc (by first | decide | omega) s h
      exact ⟨(by first | decide | omega), this.2⟩
    · have := spN_o (ev := -1) hb cb.1 cb.2.2.1 (cbE b (u * M) - u * M).toNat (u * M) (by first | decide | omega) M0.1 (u_sd hu) s h
      exact ⟨(by first | decide | omega), this.2⟩
  have evp : ∀ s, s ∈ L → 0 ≤ (evD EL s.1).1 := fun s hs => by
    have o := (ok s hs).1
    by_cases y : s.1 < 0
    · rw [evD_n EL s.1 y]; omega
    · exact (evD_r EL 0 s.1 hv (by first | decide | omega) o.2).1.1
  have lx := rtx_l (EL := EL) L evp
  have f6 : F1 14 0 6 = w := by rw [u2 14 0 6 (by first | decide | omega) (by first | decide | omega)]; exact hw.1
  have b70 : ∀ j, B1 14 0 70 j = B 14 0 70 j := fun j => u3 14 0 70 j (by first | decide | omega) (by first | decide | omega)
  have mB : dvM w v B B1 := fun c i k y n n' => u3 c i k y (by first | decide | omega) (by first | decide | omega)
  obtain ⟨cc, c1, c2, c3, c4⟩ := NSt_c u4
  have ec : cc = c := by rw [← c1, u5]
  subst ec
  unfold f_M_downVoice_209
  rw [hw.1, if_pos hw.2, u1, zb_s, if_pos (by unfold r32; omega)]
  have ea : T ++ (txA n d b u EL ++ (spX n d b 0 (fun _ => 0) (fun _ => 0) (u * M) (cbE b (u * M)) ++ [125, 10])) = T ++ (rtx EL L ++ [125, 10]) := by rw [tx, List.append_assoc]
  rw [ea]
  by_cases z : cc ≤ 800
  · rw [if_pos z]
    obtain ⟨l1, l2, l3⟩ : L.length ≤ 800 ∧ B1 13 w 13 v = (L.length : Int) ∧ NRW w v B1 0 L := by
      rcases u4 with h | h
      · exact h
      · omega
    have hT1 : TM (F1, B1) T F1 B1 := TM_c hT (by rw [u2 14 0 71 (by first | decide | omega) (by first | decide | omega)]) b70
    have hv1 : EVn u w v B1 0 EL := EVn_f EL 0 hv (fun k y hk a b => u3 13 w k y (by first | decide | omega) (by first | decide | omega)) (fun k y hk a b => u3 13 w k y (by first | decide | omega) (by first | decide | omega))
    obtain ⟨F2, B2, T', y1, y2, yl, y3⟩ := M_239 (Km := Km) (q := (F1, B1)) (u := u) (w := w) (v := v) (c := cc) (EL := EL) (by first | decide | omega) ⟨f6, hw.2⟩ v0 (by first | decide | omega) hv1 (by first | decide | omega) L Km 0 T F1 B1 (by first | decide | omega) (by first | decide | omega) (by first | decide | omega) l3 ok (by first | decide | omega) hT1
    refine ⟨F2, B2, y1, fun c y k n n' => ?_, fun c i k y n n' => ?_, ?_⟩
    · rw [y2.2.1 c y k (by first | decide | omega)]; exact u2 c y k (by first | decide | omega) n'
    · rw [y2.2.2 c i k y (by first | decide | omega)]; exact mB c i k y n n'
    · rcases y3 with y3 | ⟨y4, y5, y6⟩
      · rw [y3] at y2 yl; exact Or.inl ⟨TM_s y2, yl⟩
      · refine Or.inr ⟨by rw [y2.1.1]; omega, ?_⟩
        rw [← List.append_assoc, List.length_append]; omega
  · have l8 : 800 < L.length := by omega
    rw [if_neg z]
    unfold f_M_downVoice_236
    obtain ⟨p, ep⟩ : ∃ p, Km = p + 1 := ⟨Km - 1, (by first | decide | omega)⟩
    have hz : ∀ c y k, ¬ (c = 14 ∧ y = 0 ∧ k = 71) → (zup3 F1 14 0 71 3001) c y k = F1 c y k := fun c y k n => by rw [zup3_v, if_neg n]
    have ez : (zup3 F1 14 0 71 3001) 14 0 71 = 3001 := by rw [zup3_v, if_pos (by first | decide | omega)]
    have e239 : ∀ j, f_M_downVoice_239 Km (j + 1) 0 cc v (zup3 F1 14 0 71 3001) B1 = f_M_downVoice_283 Km (zup3 F1 14 0 71 3001) B1 := fun j => by
      rw [f_M_downVoice_239, if_pos (by decide), if_pos (by unfold r32; omega), if_neg (by first | decide | omega), ez, if_pos (by decide), if_pos (by decide)]
    have e' := e239 p
    rw [← ep] at e'
    rw [e']
    have pp : ∀ (x : Int) (F : zF) (B : zB), 0 ≤ F 14 0 71 → F 14 0 71 < 39000 → ∃ B', f_M_put_0 Km x F B = some (0, zup3 F 14 0 71 (F 14 0 71 + 1), B') ∧ (∀ c i k y, ¬ (c = 14 ∧ i = 0 ∧ k = 70) → B' c i k y = B c i k y) := fun x F B a b => by
      unfold f_M_put_0 f_M_put_0_20
      rw [if_pos (by unfold r32; omega), if_neg (by first | decide | omega), if_pos (by first | decide | omega)]
      exact ⟨_, rfl, fun c i k y n => by rw [zup4_v, if_neg (by first | decide | omega)]⟩
    obtain ⟨B2, y1, y2⟩ := pp 125 (zup3 F1 14 0 71 3001) B1 (by first | decide | omega) (by first | decide | omega)
    obtain ⟨B3, y3, y4⟩ := pp 10 (zup3 (zup3 F1 14 0 71 3001) 14 0 71 ((zup3 F1 14 0 71 3001) 14 0 71 + 1)) B2 (by rw [zup3_v, if_pos (by first | decide | omega)]; omega) (by rw [zup3_v, if_pos (by first | decide | omega)]; omega)
    unfold f_M_downVoice_283
    rw [y1, zb_s, y3, zb_s]
    refine ⟨_, B3, rfl, fun c y k n n' => ?_, fun c i k y n n' => ?_, Or.inr ⟨?_, ?_⟩⟩
    · rw [zup3_v, if_neg (by first | decide | omega), zup3_v, if_neg (by first | decide | omega), hz c y k (by first | decide | omega)]; exact u2 c y k (by first | decide | omega) n'
    · rw [y4 c i k y n', y2 c i k y n']; exact mB c i k y n n'
    · rw [zup3_v, if_pos (by first | decide | omega), zup3_v, if_pos (by first | decide | omega), ez]; omega
    · rw [List.length_append, List.length_append]; omega
end
end
section
section
/-! ===== the reference writes a voice whole ===== -/
theorem M_plc {Km : Nat} {u w v M : Int} {EL : List (Int × Int × Int × (Int → Int) × (Int → Int))} {F : zF} {B : zB} (hKm : 812851200 < Km) (v0 : 0 ≤ v ∧ v < 4) (w0 : 0 ≤ w ∧ w < 3) (hu : u = 128 ∨ u = 64 ∨ u = 32 ∨ u = 16) (hM : u * M ≤ 400000) (el : (EL.length : Int) ≤ 1000) (hc : CHN 0 EL) (hE : endN 0 EL ≤ M) (h12 : B 13 w 12 v = (EL.length : Int)) (hv : EVn u w v B 0 EL) : ∃ F' B', f_M_places Km w v F B = some (0, F', B') ∧ (∀ c y k, ¬ (c = 14 ∧ y = 0 ∧ k ≤ 1) → F' c y k = F c y k) ∧ F' 14 0 0 = nu (X5 * (u * endN 0 EL)) ∧ F' 14 0 1 = de (X5 * (u * endN 0 EL)) ∧ (∀ c i k y, ¬ (c = 13 ∧ i = w ∧ (k = 14 ∨ k = 15) ∧ 1000 * v ≤ y ∧ y < 1000 * v + 1000) → B' c i k y = B c i k y) ∧ PLn u w v B' 0 EL := by
  unfold f_M_places
  rw [L_isR hKm (p := 0) ⟨by decide, ⟨WW, by decide⟩, by decide, by decide⟩ (by decide), zb_s]
  obtain ⟨F1, B1, y1, y2, y3, y4, y5, y6⟩ := M_pl8 (Km := Km) (u := u) (w := w) (v := v) (M := M) hKm v0 w0 hu hM EL Km 0 0 (fr F 0) B (by first | decide | omega) (by first | decide | omega) (by first | decide | omega) (by first | decide | omega) hc hE (by rw [h12]; omega) (by rw [fr_0, Int.mul_zero, Int.mul_zero]) (by rw [fr_1, Int.mul_zero, Int.mul_zero]) hv
  exact ⟨F1, B1, y1, fun c y k n => by rw [y2 c y k n, fr_n n], y3, y4, fun c i k y n => y5 c i k y (by first | decide | omega), y6⟩
theorem M_dv {Km : Nat} {g v w n d b last cl num : Int} {EL : List (Int × Int × Int × (Int → Int) × (Int → Int))} {T : List Int} {F : zF} {B : zB} (hKm : 70000000000 < Km) (v0 : 0 ≤ v ∧ v < 4) (hw : F 14 0 6 = w ∧ 0 ≤ w ∧ w < 3) (hb : BRs n d b) (hg : g = 4 ∨ g = 8 ∨ g = 16 ∨ g = 32) (hl : 0 ≤ last ∧ 512 / g * last ≤ 100 * b) (el : (EL.length : Int) ≤ 800) (hc : CHN 0 EL) (hE : endN 0 EL ≤ last) (h12 : B 13 w 12 v = (EL.length : Int)) (m4 : F 13 w 4 = n) (m5 : F 13 w 5 = d) (hv : EVn (512 / g) w v B 0 EL) (h8 : B 13 w 8 v = cl ∧ (cl = 0 ∨ cl = 1)) (h9 : B 13 w 9 v = num ∧ 0 ≤ num ∧ num ≤ 3) (ht : T.length ≤ 3000) (hT : TM (F, B) T F B) : ∃ F' B', f_M_downVoice Km v last g F B = some (0, F', B') ∧ dvG w F F' ∧ dvM w v B B' ∧ ((TM (F', B') (T ++ (vHd v cl num ++ (vNt n d b (512 / g) last EL ++ [125, 10]))) F' B' ∧ (T ++ (vHd v cl num ++ (vNt n d b (512 / g) last EL ++ [125, 10]))).length ≤ 4000) ∨ ((3000 < F' 14 0 71 ∧ F' 14 0 71 ≤ 5000) ∧ 3000 < (T ++ (vHd v cl num ++ (vNt n d b (512 / g) last EL ++ [125, 10]))).length)) := by
  obtain ⟨b1, b2, b3, _, b5, b6⟩ := BRs_b hb
  obtain ⟨ug, hu⟩ := gu hg
  generalize eu : 512 / g = u at *
  have xa : ∀ y : Int, X5 * y = 1587600 * y := fun _ => rfl
  have l1 := if_l (c := cl = 0) (x := 0)
  -- the head
  obtain ⟨F1, B1, e1, w1⟩ := M_strg (Km := Km) (s := 43) (U := [118, 111, 105, 99, 101, 32, 118]) (by first | decide | omega) (by decide) (by decide) (by decide) (by decide) (by first | decide | omega) hT
  obtain ⟨F2, B2, e2, w2⟩ := M_pt (Km := Km) (a := 97 + v) (by rw [List.length_append]; simp; omega) w1
  have f2 : F2 14 0 6 = w := by rw [w2.2.1 14 0 6 (by first | decide | omega)]; exact hw.1
  have g8 : B2 13 w 8 v = cl := by rw [w2.2.2 13 w 8 v (by first | decide | omega)]; exact h8.1
  obtain ⟨F3, B3, e3, w3⟩ : ∃ F3 B3, f_M_put_1 Km (if cl = 0 then 44 else 45) F2 B2 = some (0, F3, B3) ∧ TM (F, B) (T ++ [118, 111, 105, 99, 101, 32, 118] ++ [97 + v] ++ (if cl = 0 then [32, 116, 114, 101, 98, 108, 101, 32] else [32, 98, 97, 115, 115, 32])) F3 B3 := by
    by_cases z : cl = 0
    · rw [if_pos z, if_pos z]
      exact M_strg (by first | decide | omega) (by decide) (by decide) (by decide) (by decide) (by rw [List.length_append, List.length_append]; simp; omega) w2
    · rw [if_neg z, if_neg z]
      exact M_strg (by first | decide | omega) (by decide) (by decide) (by decide) (by decide) (by rw [List.length_append, List.length_append]; simp; omega) w2
  have l3 : ((if cl = 0 then [32, 116, 114, 101, 98, 108, 101, 32] else [32, 98, 97, 115, 115, 32]) : List Int).length ≤ 8 := by split <;> simp
  have f3 : F3 14 0 6 = w := by rw [w3.2.1 14 0 6 (by first | decide | omega)]; exact hw.1
  obtain ⟨F4, B4, e4, w4⟩ := M_dec (Km := Km) (v := num) (by first | decide | omega) (by first | decide | omega) (by simp only [List.length_append, List.length_singleton]; simp; omega) w3
  have dl := decT_l (v := num)
  obtain ⟨F5, B5, e5, w5⟩ := M_strg (Km := Km) (s := 46) (U := [32, 123]) (by first | decide | omega) (by decide) (by decide) (by decide) (by decide) (by simp only [List.length_append, List.length_singleton]; simp; omega) w4
  obtain ⟨F6, B6, e6, w6⟩ := M_pt (Km := Km) (a := 10) (by simp only [List.length_append, List.length_singleton]; simp; omega) w5
  have tx : T ++ [118, 111, 105, 99, 101, 32, 118] ++ [97 + v] ++ (if cl = 0 then [32, 116, 114, 101, 98, 108, 101, 32] else [32, 98, 97, 115, 115, 32]) ++ decT num ++ [32, 123] ++ [10] = T ++ vHd v cl num := by
    unfold vHd
    simp only [List.append_assoc, List.cons_append, List.nil_append]
  rw [tx] at w6
  have hl6 : (T ++ vHd v cl num).length ≤ 3030 := by
    rw [← tx]
    simp only [List.length_append, List.length_cons, List.length_nil]
    omega
  have F6n : ∀ c y k, ¬ (c = 14 ∧ y = 0 ∧ k = 71) → F6 c y k = F c y k := w6.2.1
  have B6n : ∀ c i k y, ¬ (c = 14 ∧ i = 0 ∧ k = 70) → B6 c i k y = B c i k y := w6.2.2
  have hv6 : EVn u w v B6 0 EL := EVn_f EL 0 hv (fun k y hk a b => B6n 13 w k y (by first | decide | omega)) (fun k y hk a b => B6n 13 w k y (by first | decide | omega))
  have ub : u * last ≤ 400000 := by omega
  have e0 := CHN_e EL 0 hc
  -- the places
  obtain ⟨F7, B7, p1, p2, p3, p4, p5, p6⟩ := M_plc (Km := Km) (u := u) (w := w) (v := v) (M := last) (F := F6) (B := B6) (by first | decide | omega) v0 hw.2 hu ub (by first | decide | omega) hc hE (by rw [B6n 13 w 12 v (by first | decide | omega)]; exact h12) hv6
  have hv7 : EVn u w v B7 0 EL := EVn_f EL 0 hv6 (fun k y hk a b => p5 13 w k y (by first | decide | omega)) (fun k y hk a b => p5 13 w k y (by first | decide | omega))
  have ueb : 0 ≤ u * endN 0 EL ∧ u * endN 0 EL ≤ u * last ∧ 0 ≤ u * last := by rcases hu with rfl | rfl | rfl | rfl <;> omega
  have x1 := xa (u * endN 0 EL)
  have x2 := xa (u * last)
  have frl : FR last g (X5 * (u * last)) := by
    refine ⟨(by first | decide | omega), ?_, hl.1, ?_⟩
    · rcases hg with rfl | rfl | rfl | rfl
      · exact ⟨203212800, by decide⟩
      · exact ⟨101606400, by decide⟩
      · exact ⟨50803200, by decide⟩
      · exact ⟨25401600, by decide⟩
    · rw [← eu]
      rcases hg with rfl | rfl | rfl | rfl
      · show last * 812851200 = 1587600 * (128 * last) * 4; omega
      · show last * 812851200 = 1587600 * (64 * last) * 8; omega
      · show last * 812851200 = 1587600 * (32 * last) * 16; omega
      · show last * 812851200 = 1587600 * (16 * last) * 32; omega
  have f7 : F7 14 0 6 = w := by rw [p2 14 0 6 (by first | decide | omega), F6n 14 0 6 (by first | decide | omega)]; exact hw.1
  have cmp := L_cmpR (K := Km) (F := F7) (B := B7) (by first | decide | omega) (FR_r (p := X5 * (u * endN 0 EL)) (by first | decide | omega)) frl (by first | decide | omega) (by first | decide | omega)
  have hd37 : f_M_downVoice Km v last g F B = f_M_downVoice_37 Km v last g (if cl = 0 then 44 else 45) F2 B2 := by
    unfold f_M_downVoice
    rw [e1, zb_s, e2, zb_s, f2, if_pos hw.2, if_pos v0, g8, if_pos (by unfold r32; omega)]
    by_cases z : cl = 0
    · rw [if_pos z, if_pos z]
    · rw [if_neg z, if_neg z]
  have f5 : F6 14 0 6 = w := by rw [F6n 14 0 6 (by first | decide | omega)]; exact hw.1
  have e9 : B3 13 w 9 v = num := by rw [w3.2.2 13 w 9 v (by first | decide | omega)]; exact h9.1
  rw [hd37]
  unfold f_M_downVoice_37
  rw [e3, zb_s, f3, if_pos hw.2, if_pos v0, e9, e4, zb_s, e5, zb_s, e6, zb_s, f5, if_pos hw.2, p1, zb_s, if_pos (by unfold r32; omega), p3, p4, cmp, zb_s]
  have b70 : ∀ j, B7 14 0 70 j = B6 14 0 70 j := fun j => p5 14 0 70 j (by first | decide | omega)
  have hT7 : TM (F7, B7) (T ++ vHd v cl num) F7 B7 := TM_c w6 (p2 14 0 71 (by first | decide | omega)) b70
  have ea : T ++ (vHd v cl num ++ (vNt n d b u last EL ++ [125, 10])) = T ++ vHd v cl num ++ (txA n d b u EL ++ (spX n d b 0 (fun _ => 0) (fun _ => 0) (u * endN 0 EL) (u * last) ++ (spX n d b 0 (fun _ => 0) (fun _ => 0) (u * last) (cbE b (u * last)) ++ [125, 10]))) := by
    unfold vNt
    simp only [List.append_assoc]
  rw [ea]
  by_cases z : endN 0 EL = last
  · have cE : ¬ X5 * (u * endN 0 EL) < X5 * (u * last) ∧ X5 * (u * endN 0 EL) = X5 * (u * last) := by rw [z]; omega
    rw [if_neg cE.1, if_pos cE.2, if_pos (by decide), if_pos (by decide)]
    obtain ⟨F8, B8, y1, y2, y3, y4⟩ := M_dvN (Km := Km) (u := u) (v := v) (w := w) (M := last) (EL := EL) (T := T ++ vHd v cl num) (F := F7) (B := B7) hKm v0 ⟨f7, hw.2⟩ hb hu ⟨hl.1, hl.2⟩ (by first | decide | omega) hc z (by rw [p5 13 w 12 v (by first | decide | omega), B6n 13 w 12 v (by first | decide | omega)]; exact h12) (by rw [p2 13 w 4 (by first | decide | omega), F6n 13 w 4 (by first | decide | omega)]; exact m4) (by rw [p2 13 w 5 (by first | decide | omega), F6n 13 w 5 (by first | decide | omega)]; exact m5) hv7 p6 (by first | decide | omega) hT7
    refine ⟨F8, B8, y1, fun c y k n n' => by rw [y2 c y k n n', p2 c y k (by first | decide | omega), F6n c y k (by first | decide | omega)], fun c i k y n n' => by rw [y3 c i k y n n', p5 c i k y (by first | decide | omega), B6n c i k y n'], ?_⟩
    rw [z, spX_0 (a := u * last) (e := u * last) (by first | decide | omega), List.nil_append]
    exact y4
  · have cE : X5 * (u * endN 0 EL) < X5 * (u * last) := by
      have : u * endN 0 EL < u * last := by rcases hu with rfl | rfl | rfl | rfl <;> omega
      omega
    have ll : 0 ≤ u * (last - endN 0 EL) ∧ u * last - u * endN 0 EL = u * (last - endN 0 EL) := by rcases hu with rfl | rfl | rfl | rfl <;> omega
    have x3 := xa (u * (last - endN 0 EL))
    rw [if_pos cE, if_pos (show r32 (-1) by decide), if_neg (by decide), p3, p4, L_minusR (by first | decide | omega) frl (FR_r (by first | decide | omega)) (by first | decide | omega) (by first | decide | omega), zb_s, show X5 * (u * last) - X5 * (u * endN 0 EL) = X5 * (u * (last - endN 0 EL)) by omega]
    have fn : ∀ c y k, ¬ (c = 14 ∧ y = 0 ∧ k ≤ 1) → fr F7 (X5 * (u * (last - endN 0 EL))) c y k = F7 c y k := fun c y k n => fr_n n
    have h12' : B7 13 w 12 v = (EL.length : Int) := by rw [p5 13 w 12 v (by first | decide | omega), B6n 13 w 12 v (by first | decide | omega)]; exact h12
    rw [fn 14 0 6 (by first | decide | omega), f7, if_pos hw.2, h12', if_pos (by first | decide | omega), fr_0, fr_1]
    generalize hx : 1000 * v + (EL.length : Int) = x
    generalize hB8 : zup4 (zup4 (zup4 (zup4 (zup4 (zup4 B7 13 w 12 v ((EL.length : Int) + 1)) 13 w 16 x (nu (X5 * (u * (last - endN 0 EL))))) 13 w 17 x (de (X5 * (u * (last - endN 0 EL))))) 13 w 18 x 0) 13 w 22 x 0) 13 w 21 x 0 = B8
    have bn : ∀ c i k y, ¬ (c = 13 ∧ i = w ∧ ((k = 12 ∧ y = v) ∨ ((k = 16 ∨ k = 17 ∨ k = 18 ∨ k = 21 ∨ k = 22) ∧ y = x))) → B8 c i k y = B7 c i k y := fun c i k y n => by rw [← hB8, zup4_v, if_neg (by first | decide | omega), zup4_v, if_neg (by first | decide | omega), zup4_v, if_neg (by first | decide | omega), zup4_v, if_neg (by first | decide | omega), zup4_v, if_neg (by first | decide | omega), zup4_v, if_neg (by first | decide | omega)]
    have b12 : B8 13 w 12 v = (EL.length : Int) + 1 := by rw [← hB8]; simp [zup4_v]
    have b16 : B8 13 w 16 x = nu (X5 * (u * (last - endN 0 EL))) := by rw [← hB8]; simp [zup4_v]
    have b17 : B8 13 w 17 x = de (X5 * (u * (last - endN 0 EL))) := by rw [← hB8]; simp [zup4_v]
    have b22 : B8 13 w 22 x = 0 := by rw [← hB8]; simp [zup4_v]
    have b21 : B8 13 w 21 x = 0 := by rw [← hB8]; simp [zup4_v]
    generalize hr : ((endN 0 EL, last, 0, (fun _ => 0), (fun _ => 0)) : Int × Int × Int × (Int → Int) × (Int → Int)) = r
    have r1 : r.1 = endN 0 EL := by rw [← hr]
    have r2 : r.2.1 = last := by rw [← hr]
    have r3 : r.2.2.1 = 0 := by rw [← hr]
    have r4 : r.2.2.2.1 = fun _ => 0 := by rw [← hr]
    have r5 : r.2.2.2.2 = fun _ => 0 := by rw [← hr]
    have lr : (EL ++ [r]).length = EL.length + 1 := by rw [List.length_append]; rfl
    obtain ⟨ca, cb⟩ := CHN_a EL 0 r hc r1 (by rw [r1, r2]; omega)
    rw [r2] at cb
    have hv8 : EVn u w v B8 0 (EL ++ [r]) := EVn_a EL 0 r (EVn_f EL 0 hv7 (fun k y hk a b => bn 13 w k y (by first | decide | omega)) (fun k y hk a b => bn 13 w k y (by first | decide | omega))) ⟨⟨by rw [r3]; omega, by rw [show 0 + (EL.length : Int) = (EL.length : Int) by omega, hx, r1, r2]; exact b16, by rw [show 0 + (EL.length : Int) = (EL.length : Int) by omega, hx, r1, r2]; exact b17, by rw [show 0 + (EL.length : Int) = (EL.length : Int) by omega, hx]; exact b22, by rw [show 0 + (EL.length : Int) = (EL.length : Int) by omega, hx, r3]; exact b21, fun k a b => by rw [r3] at b; omega⟩, trivial⟩
    obtain ⟨F9, B9, q1, q2, q3, q4, q5, q6⟩ := M_plc (Km := Km) (u := u) (w := w) (v := v) (M := last) (EL := EL ++ [r]) (F := fr F7 (X5 * (u * (last - endN 0 EL)))) (B := B8) (by first | decide | omega) v0 hw.2 hu ub (by first | decide | omega) ca (by first | decide | omega) (by rw [b12, lr]; omega) hv8
    have hv9 : EVn u w v B9 0 (EL ++ [r]) := EVn_f (EL ++ [r]) 0 hv8 (fun k y hk a b => q5 13 w k y (by first | decide | omega)) (fun k y hk a b => q5 13 w k y (by first | decide | omega))
    have hT9 : TM (F9, B9) (T ++ vHd v cl num) F9 B9 := TM_c hT7 (by rw [q2 14 0 71 (by first | decide | omega), fn 14 0 71 (by first | decide | omega)]) (fun j => by rw [q5 14 0 70 j (by first | decide | omega), bn 14 0 70 j (by first | decide | omega)])
    rw [q1, zb_s]
    have Fn : ∀ c y k, ¬ (c = 14 ∧ y = 0 ∧ (k ≤ 1 ∨ k = 71)) → F9 c y k = F c y k := fun c y k n => by rw [q2 c y k (by first | decide | omega), fn c y k (by first | decide | omega), p2 c y k (by first | decide | omega), F6n c y k (by first | decide | omega)]
    obtain ⟨F10, B10, y1, y2, y3, y4⟩ := M_dvN (Km := Km) (u := u) (v := v) (w := w) (M := last) (EL := EL ++ [r]) (T := T ++ vHd v cl num) (F := F9) (B := B9) hKm v0 ⟨by rw [Fn 14 0 6 (by first | decide | omega)]; exact hw.1, hw.2⟩ hb hu ⟨hl.1, hl.2⟩ (by first | decide | omega) ca cb (by rw [q5 13 w 12 v (by first | decide | omega), b12, lr]; omega) (by rw [Fn 13 w 4 (by first | decide | omega)]; exact m4) (by rw [Fn 13 w 5 (by first | decide | omega)]; exact m5) hv9 q6 (by first | decide | omega) hT9
    refine ⟨F10, B10, y1, fun c y k n n' => by rw [y2 c y k n n', Fn c y k (by first | decide | omega)], fun c i k y n n' => by rw [y3 c i k y n n', q5 c i k y (by first | decide | omega), bn c i k y (by first | decide | omega), p5 c i k y (by first | decide | omega), B6n c i k y n'], ?_⟩
    rw [txA_a, r1, r2, r3, r4, r5] at y4
    simp only [List.append_assoc] at y4 ⊢
    exact y4
end
end
section
section
/-! ===== the class writes a voice ===== -/
def wvF (F F' : zF) : Prop := ∀ c y k, ¬ ((c = 7 ∧ y = 0 ∧ 5 ≤ k ∧ k ≤ 7) ∨ (c = 1 ∧ y = 0 ∧ k = 10) ∨ (c = 0 ∧ y = 1 ∧ 1 ≤ k ∧ k ≤ 2)) → F' c y k = F c y k
def wvB (B B' : zB) : Prop := ∀ c y k x, ¬ ((c = 7 ∧ y = 0 ∧ k = 8) ∨ (c = 1 ∧ y = 0 ∧ (k = 12 ∨ k = 13)) ∨ (c = 0 ∧ y = 1 ∧ k = 0)) → B' c y k x = B c y k x
theorem wvF_t {F F1 F2 : zF} (h : wvF F F1) (h' : wvF F1 F2) : wvF F F2 := fun c y k n => by rw [h' c y k n, h c y k n]
theorem wvB_t {B B1 B2 : zB} (h : wvB B B1) (h' : wvB B1 B2) : wvB B B2 := fun c y k x n => by rw [h' c y k x n, h c y k x n]
theorem TC_c {q : zF × zB} {T : List Int} {F F' : zF} {B B' : zB} (h : TC q T F B) (f : F' 0 1 1 = F 0 1 1 ∧ F' 0 1 2 = F 0 1 2) (b : ∀ j, B' 0 1 0 j = B 0 1 0 j) : TC (F', B') T F' B' := by
  refine ⟨?_, fun _ _ _ _ => rfl, fun _ _ _ _ _ => rfl⟩
  rw [f.1, f.2]
  rcases h.1 with ⟨a1, a2, a3, a4⟩ | a
  · exact Or.inl ⟨a1, a2, a3, fun j hj => by rw [b]; exact a4 j hj⟩
  · exact Or.inr a
theorem SCq_f {K : zK} {o n d b : Int} {F F' : zF} {B B' : zB} (h : SCq K o n d b (F, B)) (f : wvF F F') (g : wvB B B') : SCq K o n d b (F', B') := by
  obtain ⟨h1, h2, h3, h4, h5, h6⟩ := h
  exact ⟨by show F' 7 0 0 = o ∧ _; rw [f 7 0 0 (by first | decide | omega)]; exact h1, by show F' 7 0 1 = 1; rw [f 7 0 1 (by first | decide | omega)]; exact h2, by show F' 7 0 3 = b; rw [f 7 0 3 (by first | decide | omega)]; exact h3, by show F' 7 0 4 = 0; rw [f 7 0 4 (by first | decide | omega)]; exact h4, by show B' 8 o 0 4 = n; rw [g 8 o 0 4 (by first | decide | omega)]; exact h5, by show B' 8 o 0 5 = d; rw [g 8 o 0 5 (by first | decide | omega)]; exact h6⟩
theorem CFq_w {K : zK} {o g D N : Int} {bg en tn tk : Int → Int} {F F' : zF} {B B' : zB} (h : CFq K o g D N bg en tn tk F B) (f : wvF F F') (b : wvB B B') : CFq K o g D N bg en tn tk F' B' := CFq_f h (f 7 0 0 (by first | decide | omega)) (f 7 0 2 (by first | decide | omega)) (f 8 o 2 (by first | decide | omega)) (fun k x => b 8 o k x (by first | decide | omega))
/-- a span written, the frame told -/
theorem C_wspan {K : zK} {o n d b m a e : Int} {st al : Int → Int} {T : List Int} {F : zF} {B : zB} (hK : KKq K) (h : BRs n d b) (hq : SCq K o n d b (F, B)) (hv : EVq m st al (F, B)) (a0 : 0 ≤ a ∧ a ≤ 400000) (ha : a % sdU d = 0) (he : e % sdU d = 0) (e1 : 0 ≤ e ∧ e ≤ 100 * b) (w : TC (F, B) T F B) : ∃ F' B', f_Scribe_writeSpan K 0 a e F B = some (0, F', B') ∧ TC (F', B') (T ++ spX n d b m st al a e) F' B' ∧ (∀ c y k, ¬ (c = 0 ∧ y = 1 ∧ 1 ≤ k ∧ k ≤ 2) → F' c y k = F c y k) ∧ (∀ c y k x, ¬ (c = 0 ∧ y = 1 ∧ k = 0) → B' c y k x = B c y k x) := by
  obtain ⟨F1, B1, x1, x2⟩ := C_span hK h hq hv a0 ha he e1 w
  exact ⟨F1, B1, x1, TC_s x2, x2.2.1, x2.2.2⟩
theorem C_wrest {K : zK} {o n d b a e : Int} {T : List Int} {F : zF} {B : zB} (hK : KKq K) (h : BRs n d b) (hq : SCq K o n d b (F, B)) (a0 : 0 ≤ a ∧ a ≤ 400000) (ha : a % sdU d = 0) (he : e % sdU d = 0) (e1 : 0 ≤ e ∧ e ≤ 100 * b) (w : TC (F, B) T F B) : ∃ F' B', f_Scribe_writeRest K 0 a e F B = some (0, F', B') ∧ TC (F', B') (T ++ spX n d b 0 (fun _ => 0) (fun _ => 0) a e) F' B' ∧ (∀ c y k, ¬ ((c = 1 ∧ y = 0 ∧ k = 10) ∨ (c = 0 ∧ y = 1 ∧ 1 ≤ k ∧ k ≤ 2)) → F' c y k = F c y k) ∧ (∀ c y k x, ¬ (c = 0 ∧ y = 1 ∧ k = 0) → B' c y k x = B c y k x) := by
  have z10 : ∀ c y k, ¬ (c = 1 ∧ y = 0 ∧ k = 10) → (zup3 F 1 0 10 0) c y k = F c y k := fun c y k n => by rw [zup3_v, if_neg n]
  have hq1 : SCq K o n d b (zup3 F 1 0 10 0, B) := SCq_f hq (fun c y k n => z10 c y k (by first | decide | omega)) (fun _ _ _ _ _ => rfl)
  have w1 : TC (zup3 F 1 0 10 0, B) T (zup3 F 1 0 10 0) B := TC_c w ⟨z10 0 1 1 (by first | decide | omega), z10 0 1 2 (by first | decide | omega)⟩ (fun _ => rfl)
  obtain ⟨F1, B1, x1, x2, x3, x4⟩ := C_wspan (m := 0) (st := fun _ => 0) (al := fun _ => 0) hK h hq1 ⟨by show (zup3 F 1 0 10 0) 1 0 10 = 0; rw [zup3_v, if_pos (by first | decide | omega)], (by first | decide | omega), fun k a b => (by first | decide | omega)⟩ a0 ha he e1 w1
  refine ⟨F1, B1, ?_, x2, fun c y k n => by rw [x3 c y k (by first | decide | omega), z10 c y k (by first | decide | omega)], x4⟩
  have h4 : F 7 0 4 = 0 := hq.2.2.2.1
  unfold f_Scribe_writeRest
  rw [if_pos ⟨(by first | decide | omega), hK.2.1⟩, h4, if_pos ⟨(by first | decide | omega), hK.2.2.1⟩, x1, zb_s]
section
variable {K : zK} {o f n d b g D N : Int} {bg en tn tk : Int → Int}
theorem C_w157 {z s0 u last l3 : Int} (hK : KKq K) (hb : BRs n d b) (hu : u = 128 ∨ u = 64 ∨ u = 32 ∨ u = 16) (dq : DTq g D N bg en tn tk) (hz : z ≤ N) (mono : ∀ i, s0 ≤ i → i + 1 < z → bg i ≤ bg (i + 1)) (hl : 0 ≤ last ∧ u * last ≤ 100 * b) : ∀ (fu m : Nat) (cnt s come : Int) (EL : List (Int × Int × Int × (Int → Int) × (Int → Int))) (T : List Int) (F : zF) (B : zB), z - s ≤ fu → fu < m → 0 ≤ cnt → cnt ≤ s → 0 ≤ s → s0 ≤ s → s ≤ z → 0 ≤ come → come ≤ last → (s < z → come ≤ gplF g D (bg s)) → GLp K o f (fun i => gplF g D (bg i)) (fun i => gplF g D (en i)) tn z fu s come EL → endN come EL ≤ last → CFq K o g D N bg en tn tk F B → SCq K o n d b (F, B) → B 8 o 0 2 = f → F 7 0 7 = s → TC (F, B) T F B → ∃ F' B', f_Scribe_writeVoice_157 K m cnt (u * come) u z 0 l3 F B = f_Scribe_writeVoice_242 K (u * endN come EL) 0 l3 F' B' ∧ TC (F', B') (T ++ txA n d b u EL) F' B' ∧ wvF F F' ∧ wvB B B' := by
  have hN := dq.2.2.1
  have hbb := BRs_b hb
  intro fu
  induction fu with
  | zero =>
    intro m cnt s come EL T F B hfu hm c0 cs z0 zs sz cm cl cg hG hE hc hq b2 f7 w
    obtain ⟨p, rfl⟩ : ∃ p, m = p + 1 := ⟨m - 1, (by first | decide | omega)⟩
    rw [GLp] at hG
    subst hG
    obtain ⟨h1, h2, h3, h4, h5⟩ := hc
    refine ⟨F, B, ?_, by rw [txA, List.append_nil]; exact w, fun _ _ _ _ => rfl, fun _ _ _ _ _ => rfl⟩
    rw [f_Scribe_writeVoice_157, if_pos ⟨(by first | decide | omega), hK.2.1⟩, h1.1, if_pos h1.2, if_pos (by unfold r32; omega), h4, if_pos (by unfold r32; omega)]
    by_cases y : N ≤ cnt
    · rw [if_pos y]; rfl
    · rw [if_neg y, f7, if_pos (by unfold r32; omega), if_pos (by unfold r32; omega), if_pos (by first | decide | omega)]; rfl
  | succ fu ih =>
    intro m cnt s come EL T F B hfu hm c0 cs z0 zs sz cm cl cg hG hE hc hq b2 f7 w
    obtain ⟨p, rfl⟩ : ∃ p, m = p + 1 := ⟨m - 1, (by first | decide | omega)⟩
    have hc' := hc
    obtain ⟨h1, h2, h3, h4, h5⟩ := hc'
    have chain := GL_c dq hz mono (fu + 1) s come EL hfu z0 zs cg hG
    rw [GLp] at hG
    by_cases c : s < z
    · rw [if_pos c] at hG
      obtain ⟨mm, st, al, rest, e, pc, hG'⟩ := hG
      obtain ⟨p1, p2, p3, p4⟩ := nxG_p (gB := fun i => gplF g D (bg i)) c (by first | decide | omega) z0
      obtain ⟨tg1, tg2⟩ := to_g dq hz ⟨z0, c⟩ zs mono
      have cg' := cg c
      have gb := gpl_b (t := bg s) dq.1 dq.2.1 (dq.2.2.2.1 s z0 (by first | decide | omega)).2.2.1
      have chr := GL_c dq hz mono fu (nxG (fun i => gplF g D (bg i)) s z) (toG (fun i => gplF g D (bg i)) (fun i => gplF g D (en i)) s z) rest (by first | decide | omega) (by first | decide | omega) (by first | decide | omega) tg2 hG'
      have er : endN come EL = endN (toG (fun i => gplF g D (bg i)) (fun i => gplF g D (en i)) s z) rest := by
        subst e
        by_cases y : come < gplF g D (bg s)
        · rw [if_pos y]; rfl
        · rw [if_neg y]; rfl
      have ce := CHN_e rest _ chr.1
      have tol : toG (fun i => gplF g D (bg i)) (fun i => gplF g D (en i)) s z ≤ last := by omega
      generalize hTo : toG (fun i => gplF g D (bg i)) (fun i => gplF g D (en i)) s z = to' at *
      generalize hFr : gplF g D (bg s) = fr' at *
      have ub : 0 ≤ u * come ∧ u * come ≤ u * fr' ∧ u * fr' < u * to' ∧ u * to' ≤ u * last ∧ 0 ≤ u * fr' := by rcases hu with rfl | rfl | rfl | rfl <;> omega
      -- gather
      obtain ⟨F1, B1, x1, x2, x3, x4, x5, x6, x7⟩ := C_ga (K := K) hK.2.1 (by have := hK.2.2.2; omega) dq hz ⟨z0, c⟩ hc
      rw [hFr] at x4
      rw [hTo] at x6
      have wf1 : wvF F F1 := fun c y k n => x2 c y k (by first | decide | omega)
      have wb1 : wvB B B1 := fun c y k x n => x3 c y k x (by first | decide | omega)
      have q1 := SCq_f hq wf1 wb1
      have w1 : TC (F1, B1) T F1 B1 := TC_c w ⟨x2 0 1 1 (by first | decide | omega), x2 0 1 2 (by first | decide | omega)⟩ (fun j => x3 0 1 0 j (by first | decide | omega))
      -- a rest
      obtain ⟨F2, B2, y1, y2, y3, y4⟩ := C_wrest (a := u * come) (e := u * fr') hK hb q1 (by first | decide | omega) (u_sd hu) (u_sd hu) (by first | decide | omega) w1
      have wf2 : wvF F1 F2 := fun c y k n => y3 c y k (by first | decide | omega)
      have wb2 : wvB B1 B2 := fun c y k x n => y4 c y k x (by first | decide | omega)
      have q2 := SCq_f q1 wf2 wb2
      -- the chord
      have f20 : F2 7 0 0 = o ∧ 0 ≤ o ∧ o < K.2 8 := q2.1
      obtain ⟨rr, F3, B3, t1, t2, t3, t4⟩ := pc.2.2 F2 B2 f20 q2.2.2.2.1 (by rw [y4 8 o 0 2 (by first | decide | omega), x3 8 o 0 2 (by first | decide | omega)]; exact b2) ⟨fun i a b => by rw [y4 7 0 8 _ (by first | decide | omega)]; exact x7.1 i a b, fun x a b => by rw [y4 7 0 8 _ (by first | decide | omega)]; exact x7.2 x a b⟩
      have wf3 : wvF F2 F3 := fun c y k n => t2 c y k (by first | decide | omega)
      have wb3 : wvB B2 B3 := fun c y k x n => t3 c y k x (by first | decide | omega)
      have q3 := SCq_f q2 wf3 wb3
      have w3 : TC (F3, B3) (T ++ spX n d b 0 (fun _ => 0) (fun _ => 0) (u * come) (u * fr')) F3 B3 := TC_c y2 ⟨t2 0 1 1 (by first | decide | omega), t2 0 1 2 (by first | decide | omega)⟩ (fun j => t3 0 1 0 j (by first | decide | omega))
      obtain ⟨F4, B4, v1, v2, v3, v4⟩ := C_wspan (a := u * fr') (e := u * to') hK hb q3 t4 (by first | decide | omega) (u_sd hu) (u_sd hu) (by first | decide | omega) w3
      have wf4 : wvF F3 F4 := fun c y k n => v3 c y k (by first | decide | omega)
      have wb4 : wvB B3 B4 := fun c y k x n => v4 c y k x (by first | decide | omega)
      have wF := wvF_t wf1 (wvF_t wf2 (wvF_t wf3 wf4))
      have wB := wvB_t wb1 (wvB_t wb2 (wvB_t wb3 wb4))
      have k5 : F3 7 0 5 = fr' := by rw [t2 7 0 5 (by first | decide | omega), y3 7 0 5 (by first | decide | omega)]; exact x4
      have k6 : F3 7 0 6 = to' := by rw [t2 7 0 6 (by first | decide | omega), y3 7 0 6 (by first | decide | omega)]; exact x6
      have k64 : F4 7 0 6 = to' := by rw [v3 7 0 6 (by first | decide | omega)]; exact k6
      have k7 : F4 7 0 7 = nxG (fun i => gplF g D (bg i)) s z := by rw [v3 7 0 7 (by first | decide | omega), t2 7 0 7 (by first | decide | omega), y3 7 0 7 (by first | decide | omega)]; exact x5
      obtain ⟨F5, B5, r1, r2, r3, r4⟩ := ih p (cnt + 1) (nxG (fun i => gplF g D (bg i)) s z) to' rest _ F4 B4 (by first | decide | omega) (by first | decide | omega) (by first | decide | omega) (by first | decide | omega) (by first | decide | omega) (by first | decide | omega) p2 (by first | decide | omega) tol tg2 hG' (by first | decide | omega) (CFq_w hc wF wB) (SCq_f hq wF wB) (by rw [wB 8 o 0 2 (by first | decide | omega)]; exact b2) k7 v2
      refine ⟨F5, B5, ?_, ?_, wvF_t wF r3, wvB_t wB r4⟩
      · rw [f_Scribe_writeVoice_157, if_pos ⟨(by first | decide | omega), hK.2.1⟩, h1.1, if_pos h1.2, if_pos (by unfold r32; omega), h4, if_pos (by unfold r32; omega), if_neg (by first | decide | omega), f7, if_pos (by unfold r32; omega), if_pos (by unfold r32; omega), if_neg (by first | decide | omega), x1, zb_s, x4, Int.mul_comm fr' u, y1, zb_s, t1, zb_s, k5, k6, Int.mul_comm fr' u, Int.mul_comm to' u, v1, zb_s, k64, Int.mul_comm to' u, er]
        exact r1
      · subst e
        by_cases y : come < fr'
        · rw [if_pos y, List.cons_append, List.nil_append, txA, txA]
          simp only [List.append_assoc] at r2 ⊢
          exact r2
        · rw [if_neg y, List.nil_append, txA]
          rw [spX_0 (a := u * come) (e := u * fr') (by rcases hu with rfl | rfl | rfl | rfl <;> omega), List.append_nil] at r2
          simp only [List.append_assoc] at r2 ⊢
          exact r2
    · rw [if_neg c] at hG
      subst hG
      refine ⟨F, B, ?_, by rw [txA, List.append_nil]; exact w, fun _ _ _ _ => rfl, fun _ _ _ _ _ => rfl⟩
      rw [f_Scribe_writeVoice_157, if_pos ⟨(by first | decide | omega), hK.2.1⟩, h1.1, if_pos h1.2, if_pos (by unfold r32; omega), h4, if_pos (by unfold r32; omega)]
      by_cases y : N ≤ cnt
      · rw [if_pos y]; rfl
      · rw [if_neg y, f7, if_pos (by unfold r32; omega), if_pos (by unfold r32; omega), if_pos (by first | decide | omega)]; rfl
end
end
end
section
section
/-! ===== the class writes a voice whole ===== -/
theorem cb_z {b e : Int} (b0 : 0 < b ∧ b ≤ 3072) (e0 : 0 ≤ e ∧ e ≤ 400000) : zdv (e + b - 1) (zmax b 1) * b = cbE b e := by
  have zm : zmax b 1 = b := by unfold zmax; split <;> omega
  rw [zm, zdv_e (by first | decide | omega) (by unfold r32; omega) b0.1 (by unfold r32; omega)]
  have f1 := Int.mul_ediv_add_emod e b
  have f2 := Int.emod_nonneg e (show b ≠ 0 by omega)
  have f3 := Int.emod_lt_of_pos e b0.1
  have cm : e / b * b = b * (e / b) := Int.mul_comm _ _
  unfold cbE
  by_cases z : e % b = 0
  · rw [if_pos z]
    have : (e + b - 1) / b = e / b := by
      have q := bar_q (b := b) (nb := e / b) (a := e + b - 1) b0.1 (by first | decide | omega) (by rw [Int.add_mul, Int.one_mul]; omega)
      exact q.1
    rw [this]; omega
  · rw [if_neg z]
    have : (e + b - 1) / b = e / b + 1 := by
      have q := bar_q (b := b) (nb := e / b + 1) (a := e + b - 1) b0.1 (by rw [Int.add_mul, Int.one_mul]; omega) (by rw [Int.add_mul, Int.add_mul, Int.one_mul]; omega)
      exact q.1
    rw [this]
section
variable {K : zK} {o f n d b g D N : Int} {bg en tn tk nb : Int → Int}
theorem C_w242 {come last : Int} {T : List Int} {F : zF} {B : zB} (hK : KKq K) (hb : BRs n d b) (hq : SCq K o n d b (F, B)) (c0 : 0 ≤ come ∧ come ≤ 400000) (c1 : come % sdU d = 0) (l0 : 0 ≤ last ∧ last ≤ 100 * b) (l1 : last % sdU d = 0) (w : TC (F, B) T F B) : ∃ F' B', f_Scribe_writeVoice_242 K come 0 last F B = some (0, F', B') ∧ TC (F', B') (T ++ (spX n d b 0 (fun _ => 0) (fun _ => 0) come last ++ (spX n d b 0 (fun _ => 0) (fun _ => 0) last (cbE b last) ++ [125, 10]))) F' B' ∧ wvF F F' ∧ wvB B B' := by
  obtain ⟨b1, b2, b3, _, b5, b6⟩ := BRs_b hb
  have sd : (sdU d = 16) ∨ (sdU d = 4) := by unfold sdU; split <;> omega
  obtain ⟨F1, B1, x1, x2, x3, x4⟩ := C_wrest (a := come) (e := last) hK hb hq c0 c1 l1 l0 w
  have wf1 : wvF F F1 := fun c y k n => x3 c y k (by first | decide | omega)
  have wb1 : wvB B B1 := fun c y k x n => x4 c y k x (by first | decide | omega)
  have q1 := SCq_f hq wf1 wb1
  have f1 := Int.mul_ediv_add_emod last b
  have f2 := Int.emod_nonneg last (show b ≠ 0 by omega)
  have f3 := Int.emod_lt_of_pos last (show 0 < b by omega)
  have q0 : 0 ≤ last / b := Int.ediv_nonneg l0.1 (by first | decide | omega)
  have nb1 : (last / b + 1) * b = b * (last / b) + b := by rw [Int.add_mul, Int.one_mul, Int.mul_comm]
  have cb : cbE b last % sdU d = 0 ∧ last ≤ cbE b last ∧ cbE b last ≤ 100 * b := by
    unfold cbE
    by_cases z : last % b = 0
    · rw [if_pos z]; exact ⟨l1, (by first | decide | omega), (by first | decide | omega)⟩
    · rw [if_neg z]
      refine ⟨?_, (by first | decide | omega), ?_⟩
      · obtain ⟨j, hj⟩ : ∃ j, b = sdU d * j := ⟨b / sdU d, by rcases sd with h | h <;> rw [h] at b3 ⊢ <;> omega⟩
        rw [show (last / b + 1) * b = sdU d * ((last / b + 1) * j) by rw [hj]; ac_rfl]
        exact Int.mul_emod_right _ _
      · have l1 := (Int.ediv_lt_iff_lt_mul (show 0 < b by omega) (a := last) (b := 100)).mpr (by
          by_cases y : last = 100 * b
          · rw [y, Int.mul_emod_left] at z; exact absurd rfl z
          · omega)
        exact Int.mul_le_mul_of_nonneg_right (by first | decide | omega) (by first | decide | omega)
  obtain ⟨F2, B2, y1, y2, y3, y4⟩ := C_wrest (a := last) (e := cbE b last) hK hb q1 (by first | decide | omega) l1 cb.1 (by first | decide | omega) x2
  have wf2 : wvF F1 F2 := fun c y k n => y3 c y k (by first | decide | omega)
  have wb2 : wvB B1 B2 := fun c y k x n => y4 c y k x (by first | decide | omega)
  have q2 := SCq_f q1 wf2 wb2
  obtain ⟨F3, B3, t1, t2⟩ := C_strg (s := 12) (U := [125, 10]) hK.1 (by have := hK.2.2.2; omega) (by decide) (by decide) (by decide) (by decide) y2
  refine ⟨F3, B3, ?_, ?_, wvF_t wf1 (wvF_t wf2 (fun c y k n => t2.2.1 c y k (by first | decide | omega))), wvB_t wb1 (wvB_t wb2 (fun c y k x n => t2.2.2 c y k x (by first | decide | omega)))⟩
  · have k3 : F1 7 0 3 = b := q1.2.2.1
    have k1 : F2 7 0 1 = 1 := q2.2.1
    have zm : zmax b 1 = b := by unfold zmax; split <;> omega
    have h0 := hK.1
    unfold f_Scribe_writeVoice_242
    rw [if_pos ⟨(by first | decide | omega), hK.2.1⟩, x1, zb_s, k3, if_pos (by unfold r32; omega), if_pos (by rw [zm]; exact iI_n0 (by first | decide | omega) (by unfold r32; omega)), cb_z (by first | decide | omega) (by first | decide | omega), y1, zb_s, k1, if_pos (by first | decide | omega), t1, zb_s]
  · have := TC_s t2
    simp only [List.append_assoc] at this ⊢
    exact this
theorem C_w13 {z a v l3 : Int} {F : zF} {B : zB} (hK : KKq K) (dq : DTq g D N bg en tn tk) (hz : 0 ≤ a ∧ a ≤ z ∧ z ≤ N) (hc : CFq K o g D N bg en tn tk F B) : ∀ (d m : Nat) (i : Int), i + d = z → a ≤ i → d < m → ∃ m', f_Scribe_writeVoice_13 K m i (sm60 tn a (i - a).toNat + 60 * (i - a)) z 0 a v l3 F B = f_Scribe_writeVoice_13 K (m' + 1) z (sm60 tn a (z - a).toNat + 60 * (z - a)) z 0 a v l3 F B := by
  have hN := dq.2.2.1
  obtain ⟨h1, h2, h3, h4, h5⟩ := hc
  intro d
  induction d with
  | zero =>
    intro m i e ai hm
    obtain ⟨p, rfl⟩ : ∃ p, m = p + 1 := ⟨m - 1, (by first | decide | omega)⟩
    have : i = z := by omega
    subst this
    exact ⟨p, rfl⟩
  | succ d ih =>
    intro m i e ai hm
    obtain ⟨p, rfl⟩ : ∃ p, m = p + 1 := ⟨m - 1, (by first | decide | omega)⟩
    obtain ⟨m', hm'⟩ := ih p (i + 1) (by first | decide | omega) (by first | decide | omega) (by first | decide | omega)
    refine ⟨m', ?_⟩
    rw [← hm', f_Scribe_writeVoice_13, if_pos (by unfold r32; omega), if_pos (by unfold r32; omega), if_neg (by first | decide | omega), if_pos ⟨(by first | decide | omega), hK.2.1⟩, h1.1, if_pos h1.2, if_pos (by first | decide | omega), (h5 i (by first | decide | omega) (by first | decide | omega)).2.1]
    have : sm60 tn a (i - a).toNat + 60 * (i - a) + tn i = sm60 tn a (i + 1 - a).toNat + 60 * (i + 1 - a) := by
      rw [show (i + 1 - a).toNat = (i - a).toNat + 1 by omega, sm60, show a + ((i - a).toNat : Int) = i by omega]
      omega
    rw [this]
theorem C_wv {a v u last cl num : Int} {EL : List (Int × Int × Int × (Int → Int) × (Int → Int))} {T : List Int} {F : zF} {B : zB} (hK : KKq K) (hb : BRs n d b) (hgu : u = 512 / g) (dq : DTq g D N bg en tn tk) (ha : 0 ≤ a ∧ a < N) (hlt : ∀ i, 0 ≤ i → i < a → tk i < tk a) (hl : 0 ≤ last ∧ u * last ≤ 100 * b) (v0 : 0 ≤ v ∧ v < 4) (hG : GLp K o f (fun i => gplF g D (bg i)) (fun i => gplF g D (en i)) tn (nxG tk a N) 400 a 0 EL) (hE : endN 0 EL ≤ last) (hcl : cl = if sm60 tn a (nxG tk a N - a).toNat < 0 then 1 else 0) (hnum : zmax (B 8 o 3 (tk a)) 0 = num ∧ r32 (B 8 o 3 (tk a)) ∧ 0 ≤ num ∧ num ≤ 3) (hc : CFq K o g D N bg en tn tk F B) (hq : SCq K o n d b (F, B)) (b2 : B 8 o 0 2 = f) (w : TC (F, B) T F B) : ∃ F' B', f_Scribe_writeVoice K 0 a v (u * last) F B = some (0, F', B') ∧ TC (F', B') (T ++ (vHd v cl num ++ (vNt n d b u last EL ++ [125, 10]))) F' B' ∧ wvF F F' ∧ wvB B B' := by
  have hN := dq.2.2.1
  obtain ⟨k0, k7, k1, kf⟩ := hK
  obtain ⟨b1', b2', b3', _, b5', b6'⟩ := BRs_b hb
  have hu := (gu dq.1).2
  rw [← hgu] at hu
  have hb' := blk_o dq ha hlt
  obtain ⟨p1, p2, p3, p4⟩ := nxG_p (gB := tk) ha.2 (by first | decide | omega) ha.1
  have sb := sm_b (tn := tn) (a := a) (nxG tk a N - a).toNat (fun i i0 i1 => (dq.2.2.2.1 i (by first | decide | omega) (by first | decide | omega)).2.1)
  obtain ⟨m', hm'⟩ := C_w13 (v := v) (l3 := u * last) ⟨k0, k7, k1, kf⟩ dq (z := nxG tk a N) (a := a) ⟨ha.1, (by first | decide | omega), p2⟩ hc (nxG tk a N - a).toNat K.1 a (by first | decide | omega) (by first | decide | omega) (by first | decide | omega)
  rw [show (a - a).toNat = 0 by omega, sm60, show (0 : Int) + 60 * (a - a) = 0 by omega] at hm'
  obtain ⟨h1, h2, h3, h4, h5⟩ := hc
  have q11 : F 7 0 1 = 1 := hq.2.1
  obtain ⟨F1, B1, e1, w1⟩ := C_strg (s := 8) (U := [118, 111, 105, 99, 101, 32, 118]) k0 (by first | decide | omega) (by decide) (by decide) (by decide) (by decide) w
  have f11 : F1 7 0 1 = 1 := by rw [w1.2.1 7 0 1 (by first | decide | omega)]; exact q11
  obtain ⟨F2, B2, e2, w2⟩ := C_pt (a := 97 + v) k0 w1
  have f21 : F2 7 0 1 = 1 := by rw [w2.2.1 7 0 1 (by first | decide | omega)]; exact q11
  obtain ⟨F3, B3, e3, w3⟩ : ∃ F3 B3, f_ByteRow_putText K 1 (if cl = 0 then 9 else 10) F2 B2 = some (0, F3, B3) ∧ TC (F, B) (T ++ [118, 111, 105, 99, 101, 32, 118] ++ [97 + v] ++ (if cl = 0 then [32, 116, 114, 101, 98, 108, 101, 32] else [32, 98, 97, 115, 115, 32])) F3 B3 := by
    by_cases z : cl = 0
    · rw [if_pos z, if_pos z]
      exact C_strg k0 (by first | decide | omega) (by decide) (by decide) (by decide) (by decide) w2
    · rw [if_neg z, if_neg z]
      exact C_strg k0 (by first | decide | omega) (by decide) (by decide) (by decide) (by decide) w2
  have Fn3 : ∀ c y k, ¬ (c = 0 ∧ y = 1 ∧ 1 ≤ k ∧ k ≤ 2) → F3 c y k = F c y k := w3.2.1
  have Bn3 : ∀ c y k x, ¬ (c = 0 ∧ y = 1 ∧ k = 0) → B3 c y k x = B c y k x := w3.2.2
  obtain ⟨F4, B4, e4, w4⟩ := C_dec (v := num) k0 (by first | decide | omega) (by first | decide | omega) w3
  have f41 : F4 7 0 1 = 1 := by rw [w4.2.1 7 0 1 (by first | decide | omega)]; exact q11
  obtain ⟨F5, B5, e5, w5⟩ := C_strg (s := 11) (U := [32, 123, 10]) k0 (by first | decide | omega) (by decide) (by decide) (by decide) (by decide) w4
  have Fn5 : ∀ c y k, ¬ (c = 0 ∧ y = 1 ∧ 1 ≤ k ∧ k ≤ 2) → F5 c y k = F c y k := w5.2.1
  have Bn5 : ∀ c y k x, ¬ (c = 0 ∧ y = 1 ∧ k = 0) → B5 c y k x = B c y k x := w5.2.2
  have z7 : ∀ c y k, ¬ (c = 7 ∧ y = 0 ∧ k = 7) → (zup3 F5 7 0 7 a) c y k = F5 c y k := fun c y k n => by rw [zup3_v, if_neg n]
  have wf : wvF F (zup3 F5 7 0 7 a) := fun c y k n => by rw [z7 c y k (by first | decide | omega), Fn5 c y k (by first | decide | omega)]
  have wb : wvB B B5 := fun c y k x n => Bn5 c y k x (by first | decide | omega)
  have w5' : TC (zup3 F5 7 0 7 a, B5) (T ++ [118, 111, 105, 99, 101, 32, 118] ++ [97 + v] ++ (if cl = 0 then [32, 116, 114, 101, 98, 108, 101, 32] else [32, 98, 97, 115, 115, 32]) ++ decT num ++ [32, 123, 10]) (zup3 F5 7 0 7 a) B5 := TC_c w5 ⟨z7 0 1 1 (by first | decide | omega), z7 0 1 2 (by first | decide | omega)⟩ (fun _ => rfl)
  have hc0 : CFq K o g D N bg en tn tk F B := ⟨h1, h2, h3, h4, h5⟩
  have mono := blk_m dq hb'
  obtain ⟨ch1, ch2⟩ := GL_c dq p2 mono 400 a 0 EL (by first | decide | omega) ha.1 (by first | decide | omega) (fun _ => (gpl_b dq.1 dq.2.1 (dq.2.2.2.1 a ha.1 ha.2).2.2.1).1) hG
  obtain ⟨F6, B6, r1, r2, r3, r4⟩ := C_w157 (K := K) (o := o) (f := f) (z := nxG tk a N) (s0 := a) (u := u) (last := last) (l3 := u * last) ⟨k0, k7, k1, kf⟩ hb hu dq p2 mono hl 400 K.1 0 a 0 EL _ (zup3 F5 7 0 7 a) B5 (by first | decide | omega) (by first | decide | omega) (by first | decide | omega) ha.1 ha.1 (by first | decide | omega) (by first | decide | omega) (by first | decide | omega) hl.1 (fun _ => (gpl_b dq.1 dq.2.1 (dq.2.2.2.1 a ha.1 ha.2).2.2.1).1) hG hE (CFq_w hc0 wf wb) (SCq_f hq wf wb) (by rw [wb 8 o 0 2 (by first | decide | omega)]; exact b2) (by rw [zup3_v, if_pos (by first | decide | omega)]) w5'
  have e0 := CHN_e EL 0 ch1
  have ub : 0 ≤ u * endN 0 EL ∧ u * endN 0 EL ≤ u * last ∧ 0 ≤ u * last := by rcases hu with h | h | h | h <;> rw [h] <;> omega
  obtain ⟨F7, B7, s1, s2, s3, s4⟩ := C_w242 (come := u * endN 0 EL) (last := u * last) ⟨k0, k7, k1, kf⟩ hb (SCq_f hq (wvF_t wf r3) (wvB_t wb r4)) (by first | decide | omega) (u_sd hu) (by first | decide | omega) (u_sd hu) r2
  refine ⟨F7, B7, ?_, ?_, wvF_t wf (wvF_t r3 s3), wvB_t wb (wvB_t r4 s4)⟩
  · have dk := (dq.2.2.2.1 a ha.1 ha.2).1
    have f30 : F3 7 0 0 = o := by rw [Fn3 7 0 0 (by first | decide | omega)]; exact h1.1
    have f31 : F3 7 0 1 = 1 := by rw [Fn3 7 0 1 (by first | decide | omega)]; exact q11
    have t220 : B3 8 o 220 a = tk a := by rw [Bn3 8 o 220 a (by first | decide | omega)]; exact (h5 a ha.1 ha.2).1
    have t3 : B3 8 o 3 (tk a) = B 8 o 3 (tk a) := Bn3 8 o 3 _ (by first | decide | omega)
    have f52 : F5 7 0 2 = g := by rw [Fn5 7 0 2 (by first | decide | omega)]; exact h2
    have hg4 := dq.1
    have zu : zdv 512 g = u := by rw [hgu]; exact zdv_e (by first | decide | omega) (by decide) (by first | decide | omega) (by unfold r32; omega)
    have e89 : f_Scribe_writeVoice_89 K (nxG tk a N) 0 a (u * last) 1 (if cl = 0 then 9 else 10) F2 B2 = some (0, F7, B7) := by
      unfold f_Scribe_writeVoice_89
      rw [if_pos (by first | decide | omega), e3, zb_s, if_pos ⟨(by first | decide | omega), k7⟩, f30, if_pos h1.2, if_pos (by first | decide | omega), t220, if_pos (by first | decide | omega), f31, if_pos (by first | decide | omega), t3, if_pos hnum.2.1, hnum.1, e4, zb_s, f41, if_pos (by first | decide | omega), e5, zb_s, f52, if_pos (iI_n0 (by first | decide | omega) (by unfold r32; omega)), zu]
      have r1' : f_Scribe_writeVoice_157 K K.1 0 0 u (nxG tk a N) 0 (u * last) (zup3 F5 7 0 7 a) B5 = f_Scribe_writeVoice_242 K (u * endN 0 EL) 0 (u * last) F6 B6 := by
        rw [Int.mul_zero] at r1; exact r1
      rw [r1', s1]
    unfold f_Scribe_writeVoice
    rw [if_pos ⟨(by first | decide | omega), k7⟩, C_te k7 (by first | decide | omega) dq ha hc0, zb_s, hm', f_Scribe_writeVoice_13, if_pos (by unfold r32; omega), if_pos (by unfold r32; omega), if_pos (by first | decide | omega), if_pos ⟨(by first | decide | omega), k7⟩, q11, if_pos (by first | decide | omega), e1, zb_s, f11, if_pos (by first | decide | omega), e2, zb_s, if_pos (by unfold r32; omega), if_pos (by unfold r64; omega), if_pos (by unfold r64; omega), f21, ← e89, hcl]
    by_cases y : sm60 tn a (nxG tk a N - a).toNat < 0
    · rw [if_pos (zcmp_lt.mpr (by first | decide | omega)), if_pos y, if_neg (by decide)]
    · rw [if_neg (fun q => by have := zcmp_lt.mp q; omega), if_neg y, if_pos rfl]
  · unfold vHd vNt
    simp only [List.append_assoc, List.cons_append, List.nil_append] at s2 ⊢
    exact s2
end
end
end
section
section
/-! ===== the heads of the text; room ===== -/
def hdT (f mi n d te : Int) : List Int := [107, 101, 121, 32] ++ ((if f < 0 then [45] else []) ++ (decT (if 0 ≤ f then f else -f) ++ ((if mi = 1 then [32, 109, 105, 110, 111, 114] else [32, 109, 97, 106, 111, 114]) ++ ([10, 116, 105, 109, 101, 32] ++ (decT n ++ ([47] ++ (decT d ++ ([10, 116, 101, 109, 112, 111, 32] ++ (decT te ++ [10])))))))))
theorem hdT_l {f mi n d te : Int} : (hdT f mi n d te).length ≤ 60 := by
  unfold hdT
  have a1 := if_l (c := f < 0) (x := 45)
  have a2 := decT_l (v := if 0 ≤ f then f else -f)
  have a3 := decT_l (v := n)
  have a4 := decT_l (v := d)
  have a5 := decT_l (v := te)
  have a6 : ((if mi = 1 then [32, 109, 105, 110, 111, 114] else [32, 109, 97, 106, 111, 114]) : List Int).length = 6 := by split <;> rfl
  simp only [List.length_append, List.length_cons, List.length_nil]
  omega
theorem C_head {K : zK} {o f mi n d te : Int} {T : List Int} {F : zF} {B : zB} (k0 : 2 ≤ K.2 0) (k7 : 0 < K.2 7) (hK : 200 ≤ K.1) (hf : -7 ≤ f ∧ f ≤ 7) (hn : 0 ≤ n ∧ n < 1000) (hd : 0 ≤ d ∧ d < 1000) (hte : 0 ≤ te ∧ te < 1000) (hmi : mi = 0 ∨ mi = 1) (h0 : F 7 0 0 = o ∧ 0 ≤ o ∧ o < K.2 8) (h1 : F 7 0 1 = 1) (b2 : B 8 o 0 2 = f) (b3 : B 8 o 0 3 = mi) (b4 : B 8 o 0 4 = n) (b5 : B 8 o 0 5 = d) (b6 : B 8 o 0 6 = te) (w : TC (F, B) T F B) : ∃ F' B', f_Scribe_writeHead K 0 F B = some (0, F', B') ∧ TC (F, B) (T ++ hdT f mi n d te) F' B' := by
  have za : zabs f = (if 0 ≤ f then f else -f) := rfl
  have zr : 0 ≤ (if 0 ≤ f then f else -f) ∧ (if 0 ≤ f then f else -f) < 1000 := by split <;> omega
  obtain ⟨F1, B1, e1, w1⟩ : ∃ F1 B1, f_ByteRow_putText K 1 (if 0 ≤ f then 4 else 3) F B = some (0, F1, B1) ∧ TC (F, B) (T ++ ([107, 101, 121, 32] ++ (if f < 0 then [45] else []))) F1 B1 := by
    by_cases z : 0 ≤ f
    · rw [if_pos z, if_neg (by first | decide | omega)]
      exact C_strg k0 hK (by decide) (by decide) (by decide) (by decide) w
    · rw [if_neg z, if_pos (by first | decide | omega)]
      exact C_strg k0 hK (by decide) (by decide) (by decide) (by decide) w
  obtain ⟨F2, B2, e2, w2⟩ := C_dec (v := if 0 ≤ f then f else -f) k0 hK zr w1
  obtain ⟨F3, B3, e3, w3⟩ : ∃ F3 B3, f_ByteRow_putText K 1 (if mi = 1 then 5 else 6) F2 B2 = some (0, F3, B3) ∧ TC (F, B) (T ++ ([107, 101, 121, 32] ++ (if f < 0 then [45] else [])) ++ decT (if 0 ≤ f then f else -f) ++ ((if mi = 1 then [32, 109, 105, 110, 111, 114] else [32, 109, 97, 106, 111, 114]) ++ [10, 116, 105, 109, 101, 32])) F3 B3 := by
    by_cases z : mi = 1
    · rw [if_pos z, if_pos z]
      exact C_strg k0 hK (by decide) (by decide) (by decide) (by decide) w2
    · rw [if_neg z, if_neg z]
      exact C_strg k0 hK (by decide) (by decide) (by decide) (by decide) w2
  obtain ⟨F4, B4, e4, w4⟩ := C_dec (v := n) k0 hK hn w3
  obtain ⟨F5, B5, e5, w5⟩ := C_pt (a := 47) k0 w4
  obtain ⟨F6, B6, e6, w6⟩ := C_dec (v := d) k0 hK hd w5
  obtain ⟨F7, B7, e7, w7⟩ := C_strg (s := 7) (U := [10, 116, 101, 109, 112, 111, 32]) k0 hK (by decide) (by decide) (by decide) (by decide) w6
  obtain ⟨F8, B8, e8, w8⟩ := C_dec (v := te) k0 hK hte w7
  obtain ⟨F9, B9, e9, w9⟩ := C_pt (a := 10) k0 w8
  have g : ∀ {T : List Int} {F' : zF} {B' : zB}, TC (F, B) T F' B' → F' 7 0 0 = o ∧ F' 7 0 1 = 1 ∧ B' 8 o 0 3 = mi ∧ B' 8 o 0 4 = n ∧ B' 8 o 0 5 = d ∧ B' 8 o 0 6 = te := fun h => ⟨by rw [h.2.1 7 0 0 (by first | decide | omega)]; exact h0.1, by rw [h.2.1 7 0 1 (by first | decide | omega)]; exact h1, by rw [h.2.2 8 o 0 3 (by first | decide | omega)]; exact b3, by rw [h.2.2 8 o 0 4 (by first | decide | omega)]; exact b4, by rw [h.2.2 8 o 0 5 (by first | decide | omega)]; exact b5, by rw [h.2.2 8 o 0 6 (by first | decide | omega)]; exact b6⟩
  refine ⟨F9, B9, ?_, ?_⟩
  · have o0 : (0 : Int) ≤ 1 ∧ (1 : Int) < K.2 0 := by omega
    have e63 : f_Scribe_writeHead_63 K 0 1 (if mi = 1 then 5 else 6) F2 B2 = some (0, F9, B9) := by
      unfold f_Scribe_writeHead_63
      rw [if_pos o0, e3, zb_s, if_pos ⟨(by first | decide | omega), k7⟩, (g w3).1, if_pos h0.2, (g w3).2.1, if_pos o0, (g w3).2.2.2.1, e4, zb_s, (g w4).2.1, if_pos o0, e5, zb_s, (g w5).1, if_pos h0.2, (g w5).2.1, if_pos o0, (g w5).2.2.2.2.1, e6, zb_s, (g w6).2.1, if_pos o0, e7, zb_s, (g w7).1, if_pos h0.2, (g w7).2.1, if_pos o0, (g w7).2.2.2.2.2, e8, zb_s, (g w8).2.1, if_pos o0, e9, zb_s]
    have e25 : f_Scribe_writeHead_25 K f 0 1 (if 0 ≤ f then 4 else 3) F B = some (0, F9, B9) := by
      unfold f_Scribe_writeHead_25
      rw [if_pos o0, e1, zb_s, if_pos ⟨(by first | decide | omega), k7⟩, (g w1).2.1, if_pos o0, if_pos (by unfold r32; omega), za, e2, zb_s, (g w2).1, if_pos h0.2, (g w2).2.2.1, if_pos (by unfold r32; omega), (g w2).2.1, ← e63]
      by_cases z : mi = 1
      · rw [if_pos z, if_pos z]
      · rw [if_neg z, if_neg z]
    unfold f_Scribe_writeHead
    rw [if_pos ⟨(by first | decide | omega), k7⟩, h0.1, if_pos h0.2, b2, if_pos (by unfold r32; omega), h1, ← e25]
    by_cases z : 0 ≤ f
    · rw [if_pos z, if_pos z]
    · rw [if_neg z, if_neg z]
  · unfold hdT
    simp only [List.append_assoc, List.cons_append, List.nil_append] at w9 ⊢
    exact w9
theorem M_head {Km : Nat} {w' f mi n d te : Int} {F : zF} {B : zB} (hK : 200 ≤ Km) (hf : -7 ≤ f ∧ f ≤ 7) (hn : 0 ≤ n ∧ n < 1000) (hd : 0 ≤ d ∧ d < 1000) (hte : 0 ≤ te ∧ te < 1000) (hmi : mi = 0 ∨ mi = 1) (hw : F 14 0 6 = w' ∧ 0 ≤ w' ∧ w' < 3) (m2 : F 13 w' 2 = f) (m3 : F 13 w' 3 = mi) (m4 : F 13 w' 4 = n) (m5 : F 13 w' 5 = d) (b6 : B 14 0 73 6 = te) (w : TM (F, B) [] F B) : ∃ F' B', f_M_downHeads Km F B = some (0, F', B') ∧ TM (F, B) (hdT f mi n d te) F' B' := by
  have zr : 0 ≤ (if 0 ≤ f then f else -f) ∧ (if 0 ≤ f then f else -f) < 1000 := by split <;> omega
  have g : ∀ {T : List Int} {F' : zF} {B' : zB}, TM (F, B) T F' B' → F' 14 0 6 = w' ∧ F' 13 w' 2 = f ∧ F' 13 w' 3 = mi ∧ F' 13 w' 4 = n ∧ F' 13 w' 5 = d ∧ B' 14 0 73 6 = te := fun h => ⟨by rw [h.2.1 14 0 6 (by first | decide | omega)]; exact hw.1, by rw [h.2.1 13 w' 2 (by first | decide | omega)]; exact m2, by rw [h.2.1 13 w' 3 (by first | decide | omega)]; exact m3, by rw [h.2.1 13 w' 4 (by first | decide | omega)]; exact m4, by rw [h.2.1 13 w' 5 (by first | decide | omega)]; exact m5, by rw [h.2.2 14 0 73 6 (by first | decide | omega)]; exact b6⟩
  obtain ⟨F1, B1, e1, w1⟩ := M_strg (Km := Km) (s := 38) (U := [107, 101, 121, 32]) hK (by decide) (by decide) (by decide) (by decide) (by simp) w
  obtain ⟨F2, B2, e2, w2⟩ : ∃ F2 B2, (if 0 ≤ f then f_M_downHeads_23 Km F1 B1 else zbind (f_M_put_0 Km 45 F1 B1) (fun r5 F5 B5 => f_M_downHeads_23 Km F5 B5)) = f_M_downHeads_23 Km F2 B2 ∧ TM (F, B) ([] ++ [107, 101, 121, 32] ++ (if f < 0 then [45] else [])) F2 B2 := by
    by_cases z : 0 ≤ f
    · rw [if_pos z, if_neg (by first | decide | omega), List.append_nil]
      exact ⟨F1, B1, rfl, w1⟩
    · obtain ⟨F2, B2, e2, w2⟩ := M_pt (Km := Km) (a := 45) (by simp) w1
      rw [if_neg z, if_pos (by first | decide | omega), e2, zb_s]
      exact ⟨F2, B2, rfl, w2⟩
  have l2 := if_l (c := f < 0) (x := 45)
  obtain ⟨F3, B3, e3, w3⟩ := M_dec (Km := Km) (v := if 0 ≤ f then f else -f) hK zr (by simp only [List.length_append, List.length_cons, List.length_nil]; omega) w2
  have l3 := decT_l (v := if 0 ≤ f then f else -f)
  obtain ⟨F4, B4, e4, w4⟩ : ∃ F4 B4, f_M_put_1 Km (if mi = 0 then 40 else 39) F3 B3 = some (0, F4, B4) ∧ TM (F, B) ([] ++ [107, 101, 121, 32] ++ (if f < 0 then [45] else []) ++ decT (if 0 ≤ f then f else -f) ++ (if mi = 1 then [32, 109, 105, 110, 111, 114] else [32, 109, 97, 106, 111, 114])) F4 B4 := by
    rcases hmi with z | z
    · rw [z, if_pos (show (0 : Int) = 0 from rfl), if_neg (show ¬ (0 : Int) = 1 by decide)]
      exact M_strg hK (by decide) (by decide) (by decide) (by decide) (by simp only [List.length_append, List.length_cons, List.length_nil]; omega) w3
    · rw [z, if_neg (show ¬ (1 : Int) = 0 by decide), if_pos (show (1 : Int) = 1 from rfl)]
      exact M_strg hK (by decide) (by decide) (by decide) (by decide) (by simp only [List.length_append, List.length_cons, List.length_nil]; omega) w3
  have l4 : ((if mi = 1 then [32, 109, 105, 110, 111, 114] else [32, 109, 97, 106, 111, 114]) : List Int).length = 6 := by split <;> rfl
  obtain ⟨F5, B5, e5, w5⟩ := M_pt (Km := Km) (a := 10) (by simp only [List.length_append, List.length_cons, List.length_nil]; omega) w4
  obtain ⟨F6, B6, e6, w6⟩ := M_strg (Km := Km) (s := 41) (U := [116, 105, 109, 101, 32]) hK (by decide) (by decide) (by decide) (by decide) (by simp only [List.length_append, List.length_cons, List.length_nil]; omega) w5
  obtain ⟨F7, B7, e7, w7⟩ := M_dec (Km := Km) (v := n) hK hn (by simp only [List.length_append, List.length_cons, List.length_nil]; omega) w6
  have l7 := decT_l (v := n)
  obtain ⟨F8, B8, e8, w8⟩ := M_pt (Km := Km) (a := 47) (by simp only [List.length_append, List.length_cons, List.length_nil]; omega) w7
  obtain ⟨F9, B9, e9, w9⟩ := M_dec (Km := Km) (v := d) hK hd (by simp only [List.length_append, List.length_cons, List.length_nil]; omega) w8
  have l9 := decT_l (v := d)
  obtain ⟨F10, B10, e10, w10⟩ := M_pt (Km := Km) (a := 10) (by simp only [List.length_append, List.length_cons, List.length_nil]; omega) w9
  obtain ⟨F11, B11, e11, w11⟩ := M_strg (Km := Km) (s := 42) (U := [116, 101, 109, 112, 111, 32]) hK (by decide) (by decide) (by decide) (by decide) (by simp only [List.length_append, List.length_cons, List.length_nil]; omega) w10
  obtain ⟨F12, B12, e12, w12⟩ := M_dec (Km := Km) (v := te) hK hte (by simp only [List.length_append, List.length_cons, List.length_nil]; omega) w11
  have l12 := decT_l (v := te)
  obtain ⟨F13, B13, e13, w13⟩ := M_pt (Km := Km) (a := 10) (by simp only [List.length_append, List.length_cons, List.length_nil]; omega) w12
  refine ⟨F13, B13, ?_, ?_⟩
  · have e75 : f_M_downHeads_75 Km (if mi = 0 then 40 else 39) F3 B3 = some (0, F13, B13) := by
      unfold f_M_downHeads_75
      rw [e4, zb_s, e5, zb_s, e6, zb_s, (g w6).1, if_pos hw.2, (g w6).2.2.2.1, e7, zb_s, e8, zb_s, (g w8).1, if_pos hw.2, (g w8).2.2.2.2.1, e9, zb_s, e10, zb_s, e11, zb_s, (g w11).2.2.2.2.2, e12, zb_s, e13, zb_s]
    have e52 : f_M_downHeads_52 Km (if 0 ≤ f then f else -f) F2 B2 = some (0, F13, B13) := by
      unfold f_M_downHeads_52
      rw [e3, zb_s, (g w3).1, if_pos hw.2, (g w3).2.2.1, if_pos (by unfold r32; omega), ← e75]
      by_cases z : mi = 0
      · rw [if_pos z, if_pos z]
      · rw [if_neg z, if_neg z]
    have e23 : f_M_downHeads_23 Km F2 B2 = some (0, F13, B13) := by
      unfold f_M_downHeads_23
      rw [(g w2).1, if_pos hw.2, (g w2).2.1, if_pos (by unfold r32; omega), ← e52]
      by_cases z : 0 ≤ f
      · rw [if_pos z, if_pos z]
      · rw [if_neg z, if_neg z]
    unfold f_M_downHeads
    rw [e1, zb_s, (g w1).1, if_pos hw.2, (g w1).2.1, if_pos (by unfold r32; omega), e2, e23]
  · unfold hdT
    simp only [List.append_assoc, List.cons_append, List.nil_append] at w13 ⊢
    exact w13
theorem L_cmpG {Km : Nat} {g n d b last : Int} {F : zF} {B : zB} (hKm : 1000 ≤ Km) (hb : BRs n d b) (hg : g = 4 ∨ g = 8 ∨ g = 16 ∨ g = 32) (hl : 0 ≤ last ∧ last ≤ 40000000000000) : ∃ r, f_M_compare Km last g (100 * n) d F B = some (r, F, B) ∧ (0 < r ↔ 100 * b < 512 / g * last) ∧ (r = -1 ∨ r = 0 ∨ r = 1) := by
  obtain ⟨hn, hd, eb⟩ := hb
  have key : ∀ (x r1 y z : Int), gc g d = r1 → 0 < r1 → r1 ≤ 32 → d / r1 = y → g / r1 = z → (1 ≤ y ∧ y ≤ 16) → (1 ≤ z ∧ z ≤ 32) → (last * y ≤ 100 * n * z ↔ 512 / g * last ≤ 100 * b) → (0 ≤ last * y ∧ last * y ≤ 1000000000000000) → (0 ≤ 100 * n * z ∧ 100 * n * z ≤ 1000000) → ∃ r, f_M_compare Km last g (100 * n) d F B = some (r, F, B) ∧ (0 < r ↔ 100 * b < 512 / g * last) ∧ (r = -1 ∨ r = 0 ∨ r = 1) := fun x r1 y z e r0 r32' ey ez hy hz hi h1 h2 => by
    unfold f_M_compare f_M_compare_51
    rw [L_gcd (by first | decide | omega) (by first | decide | omega) (by first | decide | omega) (by first | decide | omega) (by first | decide | omega), zb_s, e, if_pos (lI_n0 r0 (by unfold r64; omega)), zldv_e (by first | decide | omega) (by first | decide | omega) r0 (by first | decide | omega), zldv_e (by first | decide | omega) (by first | decide | omega) r0 (by first | decide | omega), ey, ez, if_pos (by unfold r64; omega), if_pos (by unfold r64; omega)]
    by_cases c : 100 * n * z ≤ last * y
    · rw [if_pos (zcmp_o.mpr c)]
      by_cases c2 : last * y ≤ 100 * n * z
      · rw [if_pos (zcmp_m.mpr c2)]
        exact ⟨0, rfl, by have := hi.mp c2; omega, (by first | decide | omega)⟩
      · rw [if_neg (fun q => c2 (zcmp_m.mp q))]
        refine ⟨1, rfl, ⟨fun _ => ?_, fun _ => (by first | decide | omega)⟩, (by first | decide | omega)⟩
        rcases Int.lt_or_le (100 * b) (512 / g * last) with q | q
        · exact q
        · exact absurd (hi.mpr q) c2
    · rw [if_neg (fun q => c (zcmp_o.mp q))]
      have := hi.mp (by first | decide | omega)
      exact ⟨-1, rfl, (by first | decide | omega), (by first | decide | omega)⟩
  rcases hg with rfl | rfl | rfl | rfl <;> rcases hd with rfl | rfl | rfl | rfl
  · exact key 0 2 1 2 (by decide +kernel) (by decide) (by decide) (by decide) (by decide) (by decide) (by decide) (by show _ ↔ 128 * last ≤ _; have : b = 256 * n := eb; omega) (by first | decide | omega) (by first | decide | omega)
  · exact key 0 4 1 1 (by decide +kernel) (by decide) (by decide) (by decide) (by decide) (by decide) (by decide) (by show _ ↔ 128 * last ≤ _; have : b = 128 * n := eb; omega) (by first | decide | omega) (by first | decide | omega)
  · exact key 0 4 2 1 (by decide +kernel) (by decide) (by decide) (by decide) (by decide) (by decide) (by decide) (by show _ ↔ 128 * last ≤ _; have : b = 64 * n := eb; omega) (by first | decide | omega) (by first | decide | omega)
  · exact key 0 4 4 1 (by decide +kernel) (by decide) (by decide) (by decide) (by decide) (by decide) (by decide) (by show _ ↔ 128 * last ≤ _; have : b = 32 * n := eb; omega) (by first | decide | omega) (by first | decide | omega)
  · exact key 0 2 1 4 (by decide +kernel) (by decide) (by decide) (by decide) (by decide) (by decide) (by decide) (by show _ ↔ 64 * last ≤ _; have : b = 256 * n := eb; omega) (by first | decide | omega) (by first | decide | omega)
  · exact key 0 4 1 2 (by decide +kernel) (by decide) (by decide) (by decide) (by decide) (by decide) (by decide) (by show _ ↔ 64 * last ≤ _; have : b = 128 * n := eb; omega) (by first | decide | omega) (by first | decide | omega)
  · exact key 0 8 1 1 (by decide +kernel) (by decide) (by decide) (by decide) (by decide) (by decide) (by decide) (by show _ ↔ 64 * last ≤ _; have : b = 64 * n := eb; omega) (by first | decide | omega) (by first | decide | omega)
  · exact key 0 8 2 1 (by decide +kernel) (by decide) (by decide) (by decide) (by decide) (by decide) (by decide) (by show _ ↔ 64 * last ≤ _; have : b = 32 * n := eb; omega) (by first | decide | omega) (by first | decide | omega)
  · exact key 0 2 1 8 (by decide +kernel) (by decide) (by decide) (by decide) (by decide) (by decide) (by decide) (by show _ ↔ 32 * last ≤ _; have : b = 256 * n := eb; omega) (by first | decide | omega) (by first | decide | omega)
  · exact key 0 4 1 4 (by decide +kernel) (by decide) (by decide) (by decide) (by decide) (by decide) (by decide) (by show _ ↔ 32 * last ≤ _; have : b = 128 * n := eb; omega) (by first | decide | omega) (by first | decide | omega)
  · exact key 0 8 1 2 (by decide +kernel) (by decide) (by decide) (by decide) (by decide) (by decide) (by decide) (by show _ ↔ 32 * last ≤ _; have : b = 64 * n := eb; omega) (by first | decide | omega) (by first | decide | omega)
  · exact key 0 16 1 1 (by decide +kernel) (by decide) (by decide) (by decide) (by decide) (by decide) (by decide) (by show _ ↔ 32 * last ≤ _; have : b = 32 * n := eb; omega) (by first | decide | omega) (by first | decide | omega)
  · exact key 0 2 1 16 (by decide +kernel) (by decide) (by decide) (by decide) (by decide) (by decide) (by decide) (by show _ ↔ 16 * last ≤ _; have : b = 256 * n := eb; omega) (by first | decide | omega) (by first | decide | omega)
  · exact key 0 4 1 8 (by decide +kernel) (by decide) (by decide) (by decide) (by decide) (by decide) (by decide) (by show _ ↔ 16 * last ≤ _; have : b = 128 * n := eb; omega) (by first | decide | omega) (by first | decide | omega)
  · exact key 0 8 1 4 (by decide +kernel) (by decide) (by decide) (by decide) (by decide) (by decide) (by decide) (by show _ ↔ 16 * last ≤ _; have : b = 64 * n := eb; omega) (by first | decide | omega) (by first | decide | omega)
  · exact key 0 16 1 2 (by decide +kernel) (by decide) (by decide) (by decide) (by decide) (by decide) (by decide) (by show _ ↔ 16 * last ≤ _; have : b = 32 * n := eb; omega) (by first | decide | omega) (by first | decide | omega)
end
end
section
section
/-! ===== down: the voices one after another ===== -/
def clV (tn tk : Int → Int) (N s : Int) : Int := if sm60 tn s (nxG tk s N - s).toNat < 0 then 1 else 0
/-- the text of all voices from s on; the rows of the reference hold its spans -/
def VTx (K : zK) (o f w g D N : Int) (bg en tn tk nb : Int → Int) (n d b last : Int) (B : zB) : Nat → Int → Int → List Int → Prop
  | 0, _, _, U => U = []
  | fu + 1, s, v, U => if s < N ∧ v < 4 then ∃ EL U', (B 13 w 8 v = clV tn tk N s ∧ B 13 w 9 v = nb (tk s) ∧ B 13 w 12 v = (EL.length : Int) ∧ (EL.length : Int) ≤ 800 ∧ EVn (512 / g) w v B 0 EL) ∧ (GLp K o f (fun i => gplF g D (bg i)) (fun i => gplF g D (en i)) tn (nxG tk s N) 400 s 0 EL ∧ CHN 0 EL ∧ endN 0 EL ≤ last) ∧ U = (vHd v (clV tn tk N s) (nb (tk s)) ++ (vNt n d b (512 / g) last EL ++ [125, 10])) ++ U' ∧ VTx K o f w g D N bg en tn tk nb n d b last B fu (nxG tk s N) (v + 1) U' else U = []
def FRs (T : List Int) (r : Int) (F : zF) (B : zB) : Prop := ((T.length : Int) ≤ 3000 ∧ r = (T.length : Int) ∧ F 14 0 71 = (T.length : Int) ∧ ∀ j : Nat, j < T.length → B 14 0 70 j % 256 = tbA T j % 256) ∨ (3000 < (T.length : Int) ∧ r = -2 ∧ F 14 0 71 = 0)
def dvX (w : Int) (B B' : zB) : Prop := ∀ c i k y, ¬ (c = 13 ∧ i = w ∧ 8 ≤ k ∧ k ≤ 35) → ¬ (c = 14 ∧ i = 0 ∧ k = 70) → B' c i k y = B c i k y
section
variable {Km : Nat} {K : zK} {o f w g D N n d b last : Int} {bg en tn tk nb : Int → Int}
theorem VTx_f {B B' : zB} : ∀ (fu : Nat) (s v : Int) (U : List Int), VTx K o f w g D N bg en tn tk nb n d b last B fu s v U → (∀ k y, ((k = 8 ∨ k = 9 ∨ k = 12) ∧ v ≤ y) ∨ ((k = 16 ∨ k = 17 ∨ k = 21 ∨ k = 22) ∧ 1000 * v ≤ y) ∨ ((k = 28 ∨ k = 29) ∧ 6000 * v ≤ y) → B' 13 w k y = B 13 w k y) → VTx K o f w g D N bg en tn tk nb n d b last B' fu s v U := by
  intro fu
  induction fu with
  | zero => intro s v U h _; exact h
  | succ fu ih =>
    intro s v U h e
    rw [VTx] at h ⊢
    by_cases c : s < N ∧ v < 4
    · rw [if_pos c] at h ⊢
      obtain ⟨EL, U', ⟨h1, h2, h3, h4, h5⟩, h6, h7, h8⟩ := h
      refine ⟨EL, U', ⟨?_, ?_, ?_, h4, ?_⟩, h6, h7, ?_⟩
      · rw [e 8 v (by first | decide | omega)]; exact h1
      · rw [e 9 v (by first | decide | omega)]; exact h2
      · rw [e 12 v (by first | decide | omega)]; exact h3
      · exact EVn_f EL 0 h5 (fun k y hk a b => e k y (by first | decide | omega)) (fun k y hk a b => e k y (by first | decide | omega))
      · exact ih _ _ _ h8 (fun k y hk => e k y (by first | decide | omega))
    · rw [if_neg c] at h ⊢
      exact h
theorem lpB_a {gB gE : Int → Int} : ∀ (fu : Nat) (s v a : Int), a ≤ lpB gB gE tk N fu s v a := by
  intro fu
  induction fu with
  | zero => intro s v a; rw [lpB]; omega
  | succ fu ih =>
    intro s v a
    rw [lpB]
    split
    · have := ih (nxG tk s N) (v + 1) (zmax a (lsG gB gE (nxG tk s N) 400 s 0))
      have z : a ≤ zmax a (lsG gB gE (nxG tk s N) 400 s 0) := by unfold zmax; split <;> omega
      omega
    · omega
theorem tk_nx {s : Int} (dq : DTq g D N bg en tn tk) (hs : 0 ≤ s ∧ s < N) (hl : ∀ i, 0 ≤ i → i < s → tk i < tk s) : nxG tk s N < N → ∀ i, 0 ≤ i → i < nxG tk s N → tk i < tk (nxG tk s N) := fun h i i0 i1 => by
  have hN := dq.2.2.1
  obtain ⟨p1, p2, p3, p4⟩ := nxG_p (gB := tk) hs.2 (by first | decide | omega) hs.1
  have m := tkk_m dq (nxG tk s N - s).toNat s hs.1 (by first | decide | omega)
  rw [show s + ((nxG tk s N - s).toNat : Int) = nxG tk s N by omega] at m
  have := p4 h
  rcases Int.lt_or_le i s with z | z
  · have := hl i i0 z
    omega
  · have := p3 i z i1
    omega
theorem VT_e {B : zB} (dq : DTq g D N bg en tn tk) : ∀ (fu : Nat) (s v a : Int), N - s ≤ fu → 0 ≤ s → s ≤ N → (s < N → ∀ i, 0 ≤ i → i < s → tk i < tk s) → lpB (fun i => gplF g D (bg i)) (fun i => gplF g D (en i)) tk N fu s v a ≤ last → VOs K o f w g D N bg en tn tk nb B v (vlB tk N fu s v) → ∃ U, VTx K o f w g D N bg en tn tk nb n d b last B fu s v U := by
  have hN := dq.2.2.1
  intro fu
  induction fu with
  | zero => intro s v a _ _ _ _ _ _; exact ⟨[], rfl⟩
  | succ fu ih =>
    intro s v a hf s0 sN ho hl h
    rw [vlB] at h
    rw [lpB] at hl
    by_cases c : s < N ∧ v < 4
    · rw [if_pos c] at h hl
      obtain ⟨⟨h1, h2, EL, h3, h4, h5, h6⟩, h7⟩ := h
      obtain ⟨p1, p2, _, _⟩ := nxG_p (gB := tk) c.1 (by first | decide | omega) s0
      obtain ⟨c1, c2⟩ := GL_c (s0 := s) dq p2 (blk_m dq (blk_o dq ⟨s0, c.1⟩ (ho c.1))) 400 s 0 EL (by first | decide | omega) s0 (by first | decide | omega) (fun _ => (gpl_b dq.1 dq.2.1 (dq.2.2.2.1 s s0 c.1).2.2.1).1) h3
      have la := lpB_a (tk := tk) (N := N) (gB := fun i => gplF g D (bg i)) (gE := fun i => gplF g D (en i)) fu (nxG tk s N) (v + 1) (zmax a (lsG (fun i => gplF g D (bg i)) (fun i => gplF g D (en i)) (nxG tk s N) 400 s 0))
      have lz : lsG (fun i => gplF g D (bg i)) (fun i => gplF g D (en i)) (nxG tk s N) 400 s 0 ≤ zmax a (lsG (fun i => gplF g D (bg i)) (fun i => gplF g D (en i)) (nxG tk s N) 400 s 0) := by unfold zmax; split <;> omega
      obtain ⟨U, hU⟩ := ih (nxG tk s N) (v + 1) _ (by first | decide | omega) (by first | decide | omega) p2 (tk_nx dq ⟨s0, c.1⟩ (ho c.1)) hl h7
      refine ⟨(vHd v (clV tn tk N s) (nb (tk s)) ++ (vNt n d b (512 / g) last EL ++ [125, 10])) ++ U, ?_⟩
      rw [VTx, if_pos c]
      exact ⟨EL, U, ⟨h1, h2, h4, h5, EVL_n dq.1 EL 0 0 c1 h6⟩, ⟨h3, c1, (by first | decide | omega)⟩, rfl, hU⟩
    · refine ⟨[], ?_⟩
      rw [VTx, if_neg c]
theorem C_w95 {Bm : zB} (hK : KKq K) (hb : BRs n d b) (dq : DTq g D N bg en tn tk) (hl : 0 ≤ last ∧ 512 / g * last ≤ 100 * b) : ∀ (fu m : Nat) (s v : Int) (T U : List Int) (F : zF) (B : zB), N - s ≤ fu → fu < m → 0 ≤ s → s ≤ N → 0 ≤ v → v ≤ 4 → (s < N → ∀ i, 0 ≤ i → i < s → tk i < tk s) → VTx K o f w g D N bg en tn tk nb n d b last Bm fu s v U → (∀ i, 0 ≤ i → i < N → zmax (B 8 o 3 (tk i)) 0 = nb (tk i) ∧ r32 (B 8 o 3 (tk i)) ∧ 0 ≤ nb (tk i) ∧ nb (tk i) ≤ 3) → CFq K o g D N bg en tn tk F B → SCq K o n d b (F, B) → B 8 o 0 2 = f → TC (F, B) T F B → ∃ F' B', f_Scribe_writeDown_95 K m s v (512 / g * last) 0 o F B = f_Scribe_writeDown_135 K 0 F' B' ∧ TC (F', B') (T ++ U) F' B' ∧ wvF F F' ∧ wvB B B' := by
  have hN := dq.2.2.1
  intro fu
  induction fu with
  | zero =>
    intro m s v T U F B hf hm s0 sN v0 v4 ho hV hn hc hq b2 hT
    obtain ⟨p, rfl⟩ : ∃ p, m = p + 1 := ⟨m - 1, (by first | decide | omega)⟩
    obtain ⟨h1, h2, h3, h4, h5⟩ := hc
    rw [VTx] at hV
    rw [hV, List.append_nil]
    refine ⟨F, B, ?_, hT, fun _ _ _ _ => rfl, fun _ _ _ _ _ => rfl⟩
    rw [f_Scribe_writeDown_95, if_pos h1.2, if_pos (by unfold r32; omega), h4, if_pos (by unfold r32; omega), if_pos (by first | decide | omega)]
  | succ fu ih =>
    intro m s v T U F B hf hm s0 sN v0 v4 ho hV hn hc hq b2 hT
    obtain ⟨p, rfl⟩ : ∃ p, m = p + 1 := ⟨m - 1, (by first | decide | omega)⟩
    have hc' := hc
    obtain ⟨h1, h2, h3, h4, h5⟩ := hc'
    rw [VTx] at hV
    rw [f_Scribe_writeDown_95, if_pos h1.2, if_pos (by unfold r32; omega), h4, if_pos (by unfold r32; omega)]
    by_cases c : s < N ∧ v < 4
    · rw [if_pos c] at hV
      obtain ⟨EL, U', _, ⟨g1, g2, g3⟩, eU, hV'⟩ := hV
      obtain ⟨p1, p2, _, _⟩ := nxG_p (gB := tk) c.1 (by first | decide | omega) s0
      obtain ⟨F1, B1, e1, w1, w2, w3⟩ := C_wv (K := K) (o := o) (f := f) (a := s) (v := v) (u := 512 / g) (last := last) (cl := clV tn tk N s) (num := nb (tk s)) (EL := EL) (T := T) hK hb rfl dq ⟨s0, c.1⟩ (ho c.1) hl ⟨v0, c.2⟩ g1 g3 rfl (hn s s0 c.1) hc hq b2 hT
      have hc1 := CFq_w hc w2 w3
      obtain ⟨F2, B2, e2, x1, x2, x3⟩ := ih p (nxG tk s N) (v + 1) _ U' F1 B1 (by first | decide | omega) (by first | decide | omega) (by first | decide | omega) p2 (by first | decide | omega) (by first | decide | omega) (tk_nx dq ⟨s0, c.1⟩ (ho c.1)) hV' (fun i i0 i1 => by rw [w3 8 o 3 (tk i) (by first | decide | omega)]; exact hn i i0 i1) hc1 (SCq_f hq w2 w3) (by rw [w3 8 o 0 2 (by first | decide | omega)]; exact b2) w1
      refine ⟨F2, B2, ?_, ?_, fun c y k n => by rw [x2 c y k n, w2 c y k n], fun c y k x n => by rw [x3 c y k x n, w3 c y k x n]⟩
      · rw [if_neg (by first | decide | omega), if_pos (by unfold r32; omega), if_neg (by first | decide | omega), if_pos ⟨(by first | decide | omega), hK.2.1⟩, e1, zb_s, C_te hK.2.1 (by have := hK.2.2.2; omega) dq ⟨s0, c.1⟩ hc1, zb_s]
        exact e2
      · rw [eU, ← List.append_assoc]
        exact x1
    · rw [if_neg c] at hV
      rw [hV, List.append_nil]
      refine ⟨F, B, ?_, hT, fun _ _ _ _ => rfl, fun _ _ _ _ _ => rfl⟩
      by_cases z : N ≤ s
      · rw [if_pos z]
      · rw [if_neg z, if_pos (by unfold r32; omega), if_pos (by first | decide | omega)]
theorem M_284 {T : List Int} {F : zF} {B : zB} (h : T.length ≤ 8000) (hT : TM (F, B) T F B) : ∃ r F', f_M_down_284 Km 1 F B = some (r, F', B) ∧ FRs T r F' B ∧ (∀ c y k, ¬ (c = 14 ∧ y = 0 ∧ k = 71) → F' c y k = F c y k) := by
  unfold f_M_down_284 f_M_down_304
  rw [if_pos (by unfold r32; omega), if_neg (by decide), hT.1.1, if_pos (by unfold r32; omega)]
  by_cases c : 3000 < (T.length : Int)
  · rw [if_pos c]
    exact ⟨_, _, rfl, Or.inr ⟨c, rfl, by rw [zup3_v, if_pos (by first | decide | omega)]⟩, fun c y k n => by rw [zup3_v, if_neg n]⟩
  · rw [if_neg c]
    exact ⟨_, _, rfl, Or.inl ⟨(by first | decide | omega), rfl, hT.1.1, hT.1.2⟩, fun _ _ _ _ => rfl⟩
theorem M_284x {T : List Int} {F : zF} {B : zB} (h : 3000 < F 14 0 71 ∧ F 14 0 71 ≤ 5000) (hT : 3000 < (T.length : Int)) : ∃ r F', f_M_down_284 Km 1 F B = some (r, F', B) ∧ FRs T r F' B ∧ (∀ c y k, ¬ (c = 14 ∧ y = 0 ∧ k = 71) → F' c y k = F c y k) := by
  unfold f_M_down_284 f_M_down_304
  rw [if_pos (by unfold r32; omega), if_neg (by decide), if_pos (by unfold r32; omega), if_pos h.1]
  exact ⟨_, _, rfl, Or.inr ⟨hT, rfl, by rw [zup3_v, if_pos (by first | decide | omega)]⟩, fun c y k n => by rw [zup3_v, if_neg n]⟩
theorem vl_n (hN : N ≤ 400) : ∀ (fu : Nat) (s v : Int), 0 ≤ s → v ≤ 4 → v + ((vlB tk N fu s v).length : Int) ≤ 4 := by
  intro fu
  induction fu with
  | zero => intro s v _ h; rw [vlB]; simp only [List.length_nil]; omega
  | succ fu ih =>
    intro s v s0 h
    rw [vlB]
    split
    · rename_i c
      obtain ⟨p1, _, _, _⟩ := nxG_p (gB := tk) c.1 hN s0
      have := ih (nxG tk s N) (v + 1) (by first | decide | omega) (by first | decide | omega)
      rw [List.length_cons]
      omega
    · simp only [List.length_nil]; omega
theorem M_248 (hKm : 70000000000 < Km) (hb : BRs n d b) (dq : DTq g D N bg en tn tk) (hl : 0 ≤ last ∧ 512 / g * last ≤ 100 * b) (hnb : ∀ i, 0 ≤ i → i < N → 0 ≤ nb (tk i) ∧ nb (tk i) ≤ 3) : ∀ (fu m : Nat) (s v : Int) (T U : List Int) (F : zF) (B : zB), fu < m → 0 ≤ s → 0 ≤ v → v ≤ 4 → (F 14 0 6 = w ∧ 0 ≤ w ∧ w < 3) → F 13 w 1 = v + ((vlB tk N fu s v).length : Int) → F 13 w 4 = n → F 13 w 5 = d → VTx K o f w g D N bg en tn tk nb n d b last B fu s v U → T.length ≤ 8000 → TM (F, B) T F B → ∃ r F' B', f_M_down_248 Km m v 1 last g F B = some (r, F', B') ∧ FRs (T ++ U) r F' B' ∧ dvG w F F' ∧ dvX w B B' := by
  have hN := dq.2.2.1
  intro fu
  induction fu with
  | zero =>
    intro m s v T U F B hm s0 v0 v4 hw h1 m4 m5 hV ht hT
    obtain ⟨p, rfl⟩ : ∃ p, m = p + 1 := ⟨m - 1, (by first | decide | omega)⟩
    rw [VTx] at hV
    rw [vlB, List.length_nil] at h1
    rw [hV, List.append_nil]
    obtain ⟨r, F', e, e2, e3⟩ := M_284 (Km := Km) ht hT
    refine ⟨r, F', B, ?_, e2, fun c y k n _ => e3 c y k (by first | decide | omega), fun _ _ _ _ _ _ => rfl⟩
    rw [f_M_down_248, hw.1, if_pos hw.2, if_pos (by unfold r32; omega), h1, if_pos (by unfold r32; omega), if_pos (by first | decide | omega)]
    exact e
  | succ fu ih =>
    intro m s v T U F B hm s0 v0 v4 hw h1 m4 m5 hV ht hT
    obtain ⟨p, rfl⟩ : ∃ p, m = p + 1 := ⟨m - 1, (by first | decide | omega)⟩
    rw [VTx] at hV
    have b4 := vl_n (tk := tk) hN.2 (fu + 1) s v s0 v4
    rw [f_M_down_248, hw.1, if_pos hw.2, if_pos (by unfold r32; omega), h1, if_pos (by unfold r32; omega)]
    rw [vlB] at h1 b4 ⊢
    by_cases c : s < N ∧ v < 4
    · rw [if_pos c] at hV
      rw [if_pos c, List.length_cons] at h1 b4
      rw [if_pos c, List.length_cons, if_neg (by first | decide | omega), hT.1.1, if_pos (by unfold r32; omega)]
      obtain ⟨EL, U', ⟨r1, r2, r3, r4, r5⟩, ⟨g1, g2, g3⟩, eU, hV'⟩ := hV
      obtain ⟨p1, p2, _, _⟩ := nxG_p (gB := tk) c.1 (by first | decide | omega) s0
      by_cases z : 3000 < (T.length : Int)
      · rw [if_pos z]
        obtain ⟨r, F', e, e2, e3⟩ := M_284 (Km := Km) ht hT
        refine ⟨r, F', B, e, ?_, fun c y k n _ => e3 c y k (by first | decide | omega), fun _ _ _ _ _ _ => rfl⟩
        rcases e2 with q | q
        · omega
        · exact Or.inr ⟨by rw [List.length_append]; omega, q.2⟩
      · rw [if_neg z]
        have hcl : clV tn tk N s = 0 ∨ clV tn tk N s = 1 := by unfold clV; split <;> omega
        obtain ⟨F1, B1, e1, f1, f2, f3⟩ := M_dv (Km := Km) (g := g) (v := v) (w := w) (last := last) (T := T) hKm ⟨v0, c.2⟩ hw hb dq.1 hl r4 g2 g3 r3 m4 m5 r5 ⟨r1, hcl⟩ ⟨r2, hnb s s0 c.1⟩ (by first | decide | omega) hT
        have w1 : F1 14 0 6 = w ∧ 0 ≤ w ∧ w < 3 := ⟨by rw [f1 14 0 6 (by first | decide | omega) (by first | decide | omega)]; exact hw.1, hw.2⟩
        have q1 : F1 13 w 1 = v + 1 + ((vlB tk N fu (nxG tk s N) (v + 1)).length : Int) := by rw [f1 13 w 1 (by first | decide | omega) (by first | decide | omega), h1]; omega
        rw [e1, zb_s]
        rcases f3 with ⟨q, tl⟩ | ⟨q, q2⟩
        · obtain ⟨r, F', B', x1, x2, x3, x4⟩ := ih p (nxG tk s N) (v + 1) _ U' F1 B1 (by first | decide | omega) (by first | decide | omega) (by first | decide | omega) (by first | decide | omega) w1 q1 (by rw [f1 13 w 4 (by first | decide | omega) (by first | decide | omega)]; exact m4) (by rw [f1 13 w 5 (by first | decide | omega) (by first | decide | omega)]; exact m5) (VTx_f fu _ _ _ hV' (fun k y hk => f2 13 w k y (by first | decide | omega) (by first | decide | omega))) (by first | decide | omega) q
          refine ⟨r, F', B', x1, ?_, fun c y k n n' => by rw [x3 c y k n n', f1 c y k n n'], fun c i k y n n' => by rw [x4 c i k y n n', f2 c i k y (by first | decide | omega) n']⟩
          rw [eU, ← List.append_assoc]
          exact x2
        · have tl : 3000 < ((T ++ U).length : Int) := by
            rw [eU, ← List.append_assoc, List.length_append]
            omega
          obtain ⟨r, F', e, e2, e3⟩ := M_284x (Km := Km) (T := T ++ U) (B := B1) q tl
          refine ⟨r, F', B1, ?_, e2, fun c y k n n' => by rw [e3 c y k (by first | decide | omega), f1 c y k n n'], fun c i k y n n' => by rw [f2 c i k y (by first | decide | omega) n']⟩
          obtain ⟨p', rfl⟩ : ∃ p', p = p' + 1 := ⟨p - 1, (by first | decide | omega)⟩
          rw [f_M_down_248, w1.1, if_pos w1.2, if_pos (by unfold r32; omega), q1, if_pos (by unfold r32; omega)]
          by_cases y : v + 1 + ((vlB tk N fu (nxG tk s N) (v + 1)).length : Int) ≤ v + 1
          · rw [if_pos y]; exact e
          · rw [if_neg y, if_pos (by unfold r32; omega), if_pos q.1]; exact e
    · rw [if_neg c] at hV
      rw [if_neg c, List.length_nil] at h1
      rw [if_neg c, List.length_nil, if_pos (by first | decide | omega), hV, List.append_nil]
      obtain ⟨r, F', e, e2, e3⟩ := M_284 (Km := Km) ht hT
      exact ⟨r, F', B, e, e2, fun c y k n _ => e3 c y k (by first | decide | omega), fun _ _ _ _ _ _ => rfl⟩
end
end
end
section
section
/-! ===== down: each side whole ===== -/
def CRs (T : List Int) (r : Int) (F : zF) (B : zB) : Prop := F 0 1 2 = 0 ∧ (((T.length : Int) ≤ 3000 ∧ r = (T.length : Int) ∧ F 0 1 1 = (T.length : Int) ∧ ∀ j : Nat, j < T.length → B 0 1 0 j = tbA T j % 256) ∨ (3000 < (T.length : Int) ∧ r = -2 ∧ F 0 1 1 = 0))
def dnF (F F' : zF) : Prop := ∀ c y k, ¬ ((c = 7 ∧ y = 0 ∧ (k ≤ 3 ∨ 5 ≤ k ∧ k ≤ 7)) ∨ (c = 1 ∧ y = 0 ∧ k = 10) ∨ (c = 0 ∧ y = 1 ∧ 1 ≤ k ∧ k ≤ 2)) → F' c y k = F c y k
def dnG (w : Int) (F F' : zF) : Prop := ∀ c y k, ¬ (c = 14 ∧ y = 0 ∧ (k ≤ 1 ∨ 52 ≤ k ∧ k ≤ 57 ∨ k = 71)) → ¬ (c = 13 ∧ y = w ∧ 1 ≤ k ∧ k ≤ 7) → F' c y k = F c y k
def dnH (w : Int) (B B' : zB) : Prop := ∀ c i k y, ¬ (c = 13 ∧ i = w ∧ 8 ≤ k ∧ k ≤ 35) → ¬ (c = 14 ∧ i = 0 ∧ (k = 70 ∨ k = 95)) → B' c i k y = B c i k y
section
variable {Km : Nat} {K : zK} {o f w g D N n d b : Int} {bg en tn tk nb : Int → Int}
theorem C_l41x {rec' : Int → Int → Int → Int → zF → zB → zO} {z first l3 l1 : Int} (h7 : 0 < K.2 7) (hK : 600 ≤ K.1) (dq : DTq g D N bg en tn tk) (hz : z ≤ N) (m : Nat) (s : Int) (F : zF) (B : zB) (hm : 500 < m) (s0 : 0 ≤ s) (sz : s < z) (hc : CFq K o g D N bg en tn tk F B) (f7 : F 7 0 7 = s) : ∃ F' B', f_Scribe_lastPlace_41 rec' K m 0 z first l3 l1 0 F B = f_Scribe_lastPlace_78 rec' K first l3 l1 0 F' B' ∧ gthF F F' ∧ gthB B B' ∧ F' 7 0 6 = lsG (fun i => gplF g D (bg i)) (fun i => gplF g D (en i)) z 400 s 0 ∧ (0 ≤ F' 7 0 6 ∧ F' 7 0 6 ≤ 40000000000000) ∧ CFq K o g D N bg en tn tk F' B' := by
  have hN := dq.2.2.1
  obtain ⟨p, rfl⟩ : ∃ p, m = p + 1 := ⟨m - 1, (by first | decide | omega)⟩
  have hc' := hc
  obtain ⟨h1, h2, h3, h4, h5⟩ := hc'
  obtain ⟨F1, B1, x1, x2, x3, x4, x5, x6, x7⟩ := C_ga (K := K) h7 hK dq hz ⟨s0, sz⟩ hc
  obtain ⟨p1, p2, _, _⟩ := nxG_p (gB := fun i => gplF g D (bg i)) sz (by first | decide | omega) s0
  have hc1 : CFq K o g D N bg en tn tk F1 B1 := CFq_f hc (x2 7 0 0 (by first | decide | omega)) (x2 7 0 2 (by first | decide | omega)) (x2 8 o 2 (by first | decide | omega)) (fun k x => x3 8 o k x (by first | decide | omega))
  obtain ⟨F2, B2, y1, y2, y3, y4, y5, y6⟩ := C_l41 (rec' := rec') (first := first) (l3 := l3) (l1 := l1) h7 hK dq hz 399 p (0 + 1) _ _ F1 B1 (by first | decide | omega) (by first | decide | omega) (by first | decide | omega) (by first | decide | omega) (by first | decide | omega) p2 hc1 x5 x6 (to_b dq hz ⟨s0, sz⟩)
  refine ⟨F2, B2, ?_, fun c y k n => by rw [y2 c y k n, x2 c y k n], fun c y k x n => by rw [y3 c y k x n, x3 c y k x n], by rw [lsG, if_pos sz]; exact y4, y5, y6⟩
  rw [f_Scribe_lastPlace_41, if_pos ⟨(by first | decide | omega), h7⟩, h1.1, if_pos h1.2, if_pos (by unfold r32; omega), h4, if_pos (by unfold r32; omega), if_neg (by first | decide | omega), f7, if_pos (by unfold r32; omega), if_pos (by unfold r32; omega), if_neg (by first | decide | omega), x1, zb_s]
  exact y1
theorem C_lp {F : zF} {B : zB} (h7 : 0 < K.2 7) (hK : 600 ≤ K.1) (dq : DTq g D N bg en tn tk) (hc : CFq K o g D N bg en tn tk F B) : ∃ F' B', f_Scribe_lastPlace K 0 F B = some (lpB (fun i => gplF g D (bg i)) (fun i => gplF g D (en i)) tk N 400 0 0 0, F', B') ∧ gthF F F' ∧ gthB B B' ∧ (0 ≤ lpB (fun i => gplF g D (bg i)) (fun i => gplF g D (en i)) tk N 400 0 0 0 ∧ lpB (fun i => gplF g D (bg i)) (fun i => gplF g D (en i)) tk N 400 0 0 0 ≤ 40000000000000) ∧ CFq K o g D N bg en tn tk F' B' := by
  have hN := dq.2.2.1
  have hc' := hc
  obtain ⟨h1, h2, h3, h4, h5⟩ := hc'
  obtain ⟨p1, p2, _, _⟩ := nxG_p (gB := tk) (show (0 : Int) < N by omega) (by first | decide | omega) (by first | decide | omega)
  have key : ∀ p : Nat, 500 ≤ p → ∃ F' B', f_Scribe_lastPlace_7 K (p + 1) 0 0 0 0 F B = some (lpB (fun i => gplF g D (bg i)) (fun i => gplF g D (en i)) tk N 400 0 0 0, F', B') ∧ gthF F F' ∧ gthB B B' ∧ (0 ≤ lpB (fun i => gplF g D (bg i)) (fun i => gplF g D (en i)) tk N 400 0 0 0 ∧ lpB (fun i => gplF g D (bg i)) (fun i => gplF g D (en i)) tk N 400 0 0 0 ≤ 40000000000000) ∧ CFq K o g D N bg en tn tk F' B' := fun p hp => by
    rw [f_Scribe_lastPlace_7, if_pos ⟨(by first | decide | omega), h7⟩, h1.1, if_pos h1.2, if_pos (by unfold r32; omega), h4, if_pos (by unfold r32; omega), lpB, if_neg (by first | decide | omega), if_pos (by unfold r32; omega), if_neg (by first | decide | omega), if_pos ⟨(by first | decide | omega), (by first | decide | omega)⟩, C_te h7 hK dq ⟨(by first | decide | omega), (by first | decide | omega)⟩ hc, zb_s]
    have hc1 : CFq K o g D N bg en tn tk (zup3 F 7 0 7 0) B := CFq_f hc (by rw [zup3_v, if_neg (by first | decide | omega)]) (by rw [zup3_v, if_neg (by first | decide | omega)]) (by rw [zup3_v, if_neg (by first | decide | omega)]) (fun _ _ => rfl)
    obtain ⟨F1, B1, x1, x2, x3, x4, x5, x6⟩ := C_l41x (rec' := f_Scribe_lastPlace_7 K p) (z := nxG tk 0 N) (first := 0) (l3 := 0) (l1 := 0) h7 hK dq p2 K.1 0 (zup3 F 7 0 7 0) B (by first | decide | omega) (by first | decide | omega) p1 hc1 (by rw [zup3_v, if_pos (by first | decide | omega)])
    have zb : 0 ≤ zmax 0 (F1 7 0 6) ∧ zmax 0 (F1 7 0 6) ≤ 40000000000000 := by unfold zmax; split <;> omega
    obtain ⟨F2, B2, y1, y2, y3, y4, y5⟩ := C_lp7 h7 hK dq 399 p (nxG tk 0 N) (0 + 1) (zmax 0 (F1 7 0 6)) F1 B1 (by first | decide | omega) (by first | decide | omega) (by first | decide | omega) p2 (by first | decide | omega) (by first | decide | omega) zb x5 x6
    rw [x4] at y1 y4
    refine ⟨F2, B2, ?_, fun c y k n => by rw [y2 c y k n, x2 c y k n, zup3_v, if_neg (by first | decide | omega)], fun c y k x n => by rw [y3 c y k x n, x3 c y k x n], y4, y5⟩
    rw [x1]
    unfold f_Scribe_lastPlace_78
    rw [if_pos ⟨(by first | decide | omega), h7⟩, if_pos (by unfold r64; omega), if_pos (by unfold r64; omega), C_te h7 hK dq ⟨(by first | decide | omega), (by first | decide | omega)⟩ x6, zb_s, x4]
    exact y1
  have := key (K.1 - 1) (by first | decide | omega)
  rw [show K.1 - 1 + 1 = K.1 by omega] at this
  exact this
theorem C_135 {T : List Int} {F : zF} {B : zB} (k0 : 2 ≤ K.2 0) (k7 : 0 < K.2 7) (h1 : F 7 0 1 = 1) (w : TC (F, B) T F B) : ∃ r F', f_Scribe_writeDown_135 K 0 F B = some (r, F', B) ∧ CRs T r F' B ∧ (∀ c y k, ¬ (c = 0 ∧ y = 1 ∧ 1 ≤ k ∧ k ≤ 2) → F' c y k = F c y k) := by
  have o0 : (0 : Int) ≤ 1 ∧ (1 : Int) < K.2 0 := by omega
  have cl : f_Scribe_writeDown_158 K 0 F B = some (-2, zup3 (zup3 F 0 1 1 0) 0 1 2 0, B) := by
    unfold f_Scribe_writeDown_158 f_ByteRow_clear
    rw [if_pos ⟨(by first | decide | omega), k7⟩, h1, if_pos o0, if_pos o0, zb_s]
  have cw : ∀ h : 3000 < (T.length : Int), CRs T (-2) (zup3 (zup3 F 0 1 1 0) 0 1 2 0) B ∧ (∀ c y k, ¬ (c = 0 ∧ y = 1 ∧ 1 ≤ k ∧ k ≤ 2) → (zup3 (zup3 F 0 1 1 0) 0 1 2 0) c y k = F c y k) := fun h => ⟨⟨by rw [zup3_v, if_pos (by first | decide | omega)], Or.inr ⟨h, rfl, by rw [zup3_v, if_neg (by first | decide | omega), zup3_v, if_pos (by first | decide | omega)]⟩⟩, fun c y k n => by rw [zup3_v, if_neg (by first | decide | omega), zup3_v, if_neg (by first | decide | omega)]⟩
  unfold f_Scribe_writeDown_135
  rw [if_pos ⟨(by first | decide | omega), k7⟩, h1, if_pos o0]
  rcases w.1 with ⟨q1, q2, q3, q4⟩ | ⟨q1, q2, q3⟩
  · rw [q3, if_pos (by decide), if_pos rfl, q2, if_pos (by unfold r32; omega)]
    by_cases z : (T.length : Int) ≤ 3000
    · rw [if_pos z]
      exact ⟨_, F, rfl, ⟨q3, Or.inl ⟨z, rfl, q2, q4⟩⟩, fun _ _ _ _ => rfl⟩
    · rw [if_neg z, cl]
      exact ⟨_, _, rfl, cw (by first | decide | omega)⟩
  · rw [q3, if_pos (by decide), if_neg (by decide), cl]
    exact ⟨_, _, rfl, cw (by first | decide | omega)⟩
theorem C_down {Bm : zB} {mi te : Int} {U : List Int} {F : zF} {B : zB} (hK : KKq K) (hb : BRs n d b) (dq : DTq g D N bg en tn tk) (hV : VTx K o f w g D N bg en tn tk nb n d b (lpB (fun i => gplF g D (bg i)) (fun i => gplF g D (en i)) tk N 400 0 0 0) Bm 400 0 0 U) (ho : 0 ≤ o ∧ o < K.2 8) (hf : -7 ≤ f ∧ f ≤ 7) (hte : 0 ≤ te ∧ te < 1000) (hmi : mi = 0 ∨ mi = 1) (f4 : F 7 0 4 = 0) (b1 : B 8 o 0 1 = D) (b2 : B 8 o 0 2 = f) (b3 : B 8 o 0 3 = mi) (b4 : B 8 o 0 4 = n) (b5 : B 8 o 0 5 = d) (b6 : B 8 o 0 6 = te) (f2 : F 8 o 2 = N) (hr : ∀ i, 0 ≤ i → i < N → B 8 o 220 i = tk i ∧ B 8 o 222 i = tn i ∧ B 8 o 224 i = bg i ∧ B 8 o 225 i = en i) (hnu : ∀ i, 0 ≤ i → i < N → zmax (B 8 o 3 (tk i)) 0 = nb (tk i) ∧ r32 (B 8 o 3 (tk i)) ∧ 0 ≤ nb (tk i) ∧ nb (tk i) ≤ 3) : ∃ r F' B', f_Scribe_writeDown K 0 o g 1 F B = some (r, F', B') ∧ dnF F F' ∧ wvB B B' ∧ ((512 / g * lpB (fun i => gplF g D (bg i)) (fun i => gplF g D (en i)) tk N 400 0 0 0 ≤ 100 * b ∧ CRs (hdT f mi n d te ++ U) r F' B') ∨ (100 * b < 512 / g * lpB (fun i => gplF g D (bg i)) (fun i => gplF g D (en i)) tk N 400 0 0 0 ∧ r = -2 ∧ F' 0 1 1 = 0 ∧ F' 0 1 2 = 0)) := by
  obtain ⟨k0, k7, k1, kf⟩ := hK
  obtain ⟨x1, x2, x3, _, x5, x6⟩ := BRs_b hb
  obtain ⟨hn, hd, eb⟩ := hb
  have o0 : (0 : Int) ≤ 1 ∧ (1 : Int) < K.2 0 := by omega
  have hN := dq.2.2.1
  obtain ⟨ug, hu⟩ := gu dq.1
  have g0 : 4 ≤ g ∧ g ≤ 32 := by have := dq.1; omega
  have zg : zmax g 1 = g := by unfold zmax; rw [if_neg (by first | decide | omega)]
  have zd : zmax d 1 = d := by unfold zmax; rw [if_neg (by first | decide | omega)]
  have ed : zdv 512 d = 512 / d := zdv_e (by first | decide | omega) (by decide) (by first | decide | omega) (by unfold r32; omega)
  have eg : zdv 512 g = 512 / g := zdv_e (by first | decide | omega) (by decide) (by first | decide | omega) (by unfold r32; omega)
  generalize hF1 : zup3 (zup3 (zup3 (zup3 (zup3 (zup3 F 7 0 0 o) 7 0 1 1) 7 0 2 g) 7 0 3 b) 0 1 1 0) 0 1 2 0 = F1
  have c0 : F1 7 0 0 = o := by rw [← hF1]; simp [zup3_v]
  have c1 : F1 7 0 1 = 1 := by rw [← hF1]; simp [zup3_v]
  have c2 : F1 7 0 2 = g := by rw [← hF1]; simp [zup3_v]
  have c3 : F1 7 0 3 = b := by rw [← hF1]; simp [zup3_v]
  have p1 : F1 0 1 1 = 0 := by rw [← hF1]; simp [zup3_v]
  have p2 : F1 0 1 2 = 0 := by rw [← hF1]; simp [zup3_v]
  have fn : ∀ c y k, ¬ ((c = 7 ∧ y = 0 ∧ k ≤ 3) ∨ (c = 0 ∧ y = 1 ∧ 1 ≤ k ∧ k ≤ 2)) → F1 c y k = F c y k := fun c y k n => by
    rw [← hF1, zup3_v, if_neg (by first | decide | omega), zup3_v, if_neg (by first | decide | omega), zup3_v, if_neg (by first | decide | omega), zup3_v, if_neg (by first | decide | omega), zup3_v, if_neg (by first | decide | omega), zup3_v, if_neg (by first | decide | omega)]
  have hc1 : CFq K o g D N bg en tn tk F1 B := ⟨⟨c0, ho⟩, c2, b1, by rw [fn 8 o 2 (by first | decide | omega)]; exact f2, hr⟩
  obtain ⟨F2, B2, y1, y2, y3, y4, y5⟩ := C_lp (K := K) k7 (by first | decide | omega) dq hc1
  generalize hL : lpB (fun i => gplF g D (bg i)) (fun i => gplF g D (en i)) tk N 400 0 0 0 = last at *
  have ub : 0 ≤ 512 / g * last ∧ 512 / g * last ≤ 5120000000000000 := by rcases hu with h | h | h | h <;> rw [h] <;> omega
  have e2 : F2 7 0 2 = g := by rw [y2 7 0 2 (by first | decide | omega)]; exact c2
  have e3 : F2 7 0 3 = b := by rw [y2 7 0 3 (by first | decide | omega)]; exact c3
  have el : last * (512 / g) = 512 / g * last := Int.mul_comm _ _
  unfold f_Scribe_writeDown f_ByteRow_clear
  rw [if_pos ⟨(by first | decide | omega), k7⟩, if_pos ho, if_pos ho.2, if_pos o0, if_pos o0.2, if_pos (by unfold r32; omega), b5, if_pos (by unfold r32; omega), zd, if_pos (iI_n0 (by first | decide | omega) (by unfold r32; omega)), if_pos o0, zb_s, zg, ed, b4, ← eb, hF1, y1, zb_s, e2, if_pos (iI_n0 (by first | decide | omega) (by unfold r32; omega)), eg, if_pos (by unfold r32; omega), e3, if_pos (by unfold r32; omega), el, if_pos (by unfold r64; omega), if_pos (by unfold r64; omega)]
  by_cases c : 512 / g * last ≤ 100 * b
  · rw [if_pos (zcmp_m.mpr c)]
    have hT2 : TC (F2, B2) [] F2 B2 := ⟨Or.inl ⟨by simp, by rw [y2 0 1 1 (by first | decide | omega), p1]; rfl, by rw [y2 0 1 2 (by first | decide | omega), p2], fun j hj => absurd hj (by simp)⟩, fun _ _ _ _ => rfl, fun _ _ _ _ _ => rfl⟩
    have b' : ∀ k x, B2 8 o k x = B 8 o k x := fun k x => y3 8 o k x (by first | decide | omega)
    obtain ⟨F3, B3, z1, z2⟩ := C_head (K := K) (o := o) (f := f) (mi := mi) (n := n) (d := d) (te := te) k0 k7 (by first | decide | omega) hf (by first | decide | omega) (by first | decide | omega) hte hmi ⟨by rw [y2 7 0 0 (by first | decide | omega)]; exact c0, ho⟩ (by rw [y2 7 0 1 (by first | decide | omega)]; exact c1) (by rw [b']; exact b2) (by rw [b']; exact b3) (by rw [b']; exact b4) (by rw [b']; exact b5) (by rw [b']; exact b6) hT2
    have f3n := z2.2.1
    have b3n := z2.2.2
    have b'' : ∀ k x, B3 8 o k x = B 8 o k x := fun k x => by rw [b3n 8 o k x (by first | decide | omega)]; exact b' k x
    have hc3 : CFq K o g D N bg en tn tk F3 B3 := CFq_f y5 (f3n 7 0 0 (by first | decide | omega)) (f3n 7 0 2 (by first | decide | omega)) (f3n 8 o 2 (by first | decide | omega)) (fun k x => b3n 8 o k x (by first | decide | omega))
    have hq3 : SCq K o n d b (F3, B3) := ⟨⟨by show F3 7 0 0 = o; exact hc3.1.1, ho⟩, by show F3 7 0 1 = 1; rw [f3n 7 0 1 (by first | decide | omega)]; exact (y2 7 0 1 (by first | decide | omega)).trans c1, by show F3 7 0 3 = b; rw [f3n 7 0 3 (by first | decide | omega)]; exact e3, by show F3 7 0 4 = 0; rw [f3n 7 0 4 (by first | decide | omega)]; exact (y2 7 0 4 (by first | decide | omega)).trans ((fn 7 0 4 (by first | decide | omega)).trans f4), by show B3 8 o 0 4 = n; rw [b'']; exact b4, by show B3 8 o 0 5 = d; rw [b'']; exact b5⟩
    obtain ⟨F4, B4, u1, u2, u3, u4⟩ := C_w95 (K := K) (o := o) (f := f) (w := w) (nb := nb) (Bm := Bm) ⟨k0, k7, k1, kf⟩ ⟨hn, hd, eb⟩ dq ⟨y4.1, c⟩ 400 K.1 0 0 _ U F3 B3 (by first | decide | omega) (by first | decide | omega) (by first | decide | omega) (by first | decide | omega) (by first | decide | omega) (by first | decide | omega) (fun _ i a b => (by first | decide | omega)) hV (fun i a b => by rw [b'']; exact hnu i a b) hc3 hq3 (by rw [b'']; exact b2) (TC_c z2 ⟨rfl, rfl⟩ (fun _ => rfl))
    obtain ⟨r, F5, v1, v2, v3⟩ := C_135 (K := K) k0 k7 (by rw [u3 7 0 1 (by first | decide | omega)]; exact hq3.2.1) u2
    refine ⟨r, F5, B4, by rw [z1, zb_s, u1, v1], fun c y k h => ?_, fun c y k x h => ?_, Or.inl ⟨c, v2⟩⟩
    · rw [v3 c y k (by first | decide | omega), u3 c y k (by first | decide | omega), f3n c y k (by first | decide | omega)]
      exact (y2 c y k (by first | decide | omega)).trans (fn c y k (by first | decide | omega))
    · rw [u4 c y k x h, b3n c y k x (by first | decide | omega)]
      exact y3 c y k x (by first | decide | omega)
  · rw [if_neg (fun q => c (zcmp_m.mp q))]
    exact ⟨_, _, _, rfl, fun c y k h => by rw [y2 c y k (by first | decide | omega)]; exact fn c y k (by first | decide | omega), fun c y k x h => y3 c y k x (by first | decide | omega), Or.inr ⟨(by first | decide | omega), rfl, by rw [y2 0 1 1 (by first | decide | omega)]; exact p1, by rw [y2 0 1 2 (by first | decide | omega)]; exact p2⟩⟩
theorem M_down {mi te h : Int} {F : zF} {B : zB} (h7 : 0 < K.2 7) (h1 : 0 < K.2 1) (hK : 200 ≤ K.1) (hKm : 70000000000 < Km) (hb : BRs n d b) (ho : 0 ≤ o ∧ o < K.2 8) (hf : -7 ≤ f ∧ f ≤ 7) (hte : 0 ≤ te ∧ te < 1000) (hmi : mi = 0 ∨ mi = 1) (hh : 1 ≤ h ∧ h ≤ 8) (dq : DTq g D N bg en tn tk) (htk : ∀ i, 0 ≤ i → i < N → tk i < h) (hw : F 14 0 6 = w ∧ 0 ≤ w ∧ w < 3) (m0 : B 14 0 73 0 = h) (m1 : B 14 0 73 1 = D) (m2 : B 14 0 73 2 = f) (m3 : B 14 0 73 3 = mi) (m4 : B 14 0 73 4 = n) (m5 : B 14 0 73 5 = d) (m6 : B 14 0 73 6 = te) (m7 : B 14 0 73 7 = N) (hr : ∀ i, 0 ≤ i → i < N → B 14 0 75 i = tk i ∧ B 14 0 77 i = tn i ∧ B 14 0 79 i = bg i ∧ B 14 0 80 i = en i) (hnb : ∀ k, 0 ≤ k → k < h → B 14 0 81 k = nb k) (hnu : ∀ i, 0 ≤ i → i < N → 0 ≤ nb (tk i) ∧ nb (tk i) ≤ 3) : ∃ r F' B' U Bx, f_M_down_42 Km g F B = some (r, F', B') ∧ dnG w F F' ∧ dnH w B B' ∧ VTx K o f w g D N bg en tn tk nb n d b (lpB (fun i => gplF g D (bg i)) (fun i => gplF g D (en i)) tk N 400 0 0 0) Bx 400 0 0 U ∧ ((512 / g * lpB (fun i => gplF g D (bg i)) (fun i => gplF g D (en i)) tk N 400 0 0 0 ≤ 100 * b ∧ FRs (hdT f mi n d te ++ U) r F' B') ∨ (100 * b < 512 / g * lpB (fun i => gplF g D (bg i)) (fun i => gplF g D (en i)) tk N 400 0 0 0 ∧ r = -2 ∧ F' 14 0 71 = 0)) := by
  obtain ⟨x1, x2, x3, _, x5, x6⟩ := BRs_b hb
  have hb' := hb
  obtain ⟨hn, hd, eb⟩ := hb'
  have hN := dq.2.2.1
  generalize hF1 : zup3 (zup3 (zup3 (zup3 (zup3 (zup3 F 14 0 71 0) 13 w 1 0) 13 w 2 f) 13 w 3 mi) 13 w 4 n) 13 w 5 d = F1
  have c71 : F1 14 0 71 = 0 := by rw [← hF1]; simp [zup3_v]
  have c1 : F1 13 w 1 = 0 := by rw [← hF1]; simp [zup3_v]
  have c2 : F1 13 w 2 = f := by rw [← hF1]; simp [zup3_v]
  have c3 : F1 13 w 3 = mi := by rw [← hF1]; simp [zup3_v]
  have c4 : F1 13 w 4 = n := by rw [← hF1]; simp [zup3_v]
  have c5 : F1 13 w 5 = d := by rw [← hF1]; simp [zup3_v]
  have fn : ∀ c y k, ¬ (c = 14 ∧ y = 0 ∧ k = 71) → ¬ (c = 13 ∧ y = w ∧ 1 ≤ k ∧ k ≤ 5) → F1 c y k = F c y k := fun c y k n n' => by
    rw [← hF1, zup3_v, if_neg (by first | decide | omega), zup3_v, if_neg (by first | decide | omega), zup3_v, if_neg (by first | decide | omega), zup3_v, if_neg (by first | decide | omega), zup3_v, if_neg (by first | decide | omega), zup3_v, if_neg (by first | decide | omega)]
  have w1 : F1 14 0 6 = w := by rw [fn 14 0 6 (by first | decide | omega) (by first | decide | omega)]; exact hw.1
  obtain ⟨F2, B2, y1, y2, y3, y4, y5, y6, y7⟩ := M_d121 (Km := Km) (K := K) (o := o) (f := f) (w := w) (nb := nb) h7 h1 hK (by first | decide | omega) ho hf hh dq htk h.toNat Km 400 0 0 0 0 F1 B (by first | decide | omega) (by first | decide | omega) (by first | decide | omega) (by first | decide | omega) (by first | decide | omega) (by first | decide | omega) (fun i a b => (by first | decide | omega)) (fun i a b => (dq.2.2.2.1 i a b).1.1) (by first | decide | omega) (by first | decide | omega) (by first | decide | omega) ⟨⟨w1, hw.2⟩, m1, m7, hr⟩ m0 c2 c1 hnb
  obtain ⟨U, hU⟩ := VT_e (n := n) (d := d) (b := b) dq 400 0 0 0 (by first | decide | omega) (by first | decide | omega) (by first | decide | omega) (fun _ i a b => (by first | decide | omega)) (Int.le_refl _) y5
  generalize hL : lpB (fun i => gplF g D (bg i)) (fun i => gplF g D (en i)) tk N 400 0 0 0 = last at *
  have w2 : F2 14 0 6 = w := by rw [y2 14 0 6 (by first | decide | omega) (by first | decide | omega)]; exact w1
  have d2 : F2 13 w 2 = f := by rw [y2 13 w 2 (by first | decide | omega) (by first | decide | omega)]; exact c2
  have d3 : F2 13 w 3 = mi := by rw [y2 13 w 3 (by first | decide | omega) (by first | decide | omega)]; exact c3
  have d4 : F2 13 w 4 = n := by rw [y2 13 w 4 (by first | decide | omega) (by first | decide | omega)]; exact c4
  have d5 : F2 13 w 5 = d := by rw [y2 13 w 5 (by first | decide | omega) (by first | decide | omega)]; exact c5
  have d71 : F2 14 0 71 = 0 := by rw [y2 14 0 71 (by first | decide | omega) (by first | decide | omega)]; exact c71
  have start : f_M_down_42 Km g F B = f_M_down_200 Km last g F2 B2 := by
    have e87 : f_M_down_87 Km g w mi (zup3 (zup3 (zup3 F 14 0 71 0) 13 w 1 0) 13 w 2 f) B = f_M_down_200 Km last g F2 B2 := by
      unfold f_M_down_87
      have q6 : (zup3 (zup3 (zup3 F 14 0 71 0) 13 w 1 0) 13 w 2 f) 14 0 6 = w := by simp [zup3_v, hw.1]
      rw [if_pos hw.2, if_pos hmi, q6, if_pos hw.2, m4, m5, hF1, y1]
    unfold f_M_down_42
    rw [hw.1, if_pos hw.2, m3, if_pos (by unfold r32; omega), m2]
    rcases hmi with z | z
    · rw [z] at e87 ⊢
      rw [if_neg (by decide), e87]
    · rw [z] at e87 ⊢
      rw [if_pos rfl, e87]
  obtain ⟨r, r1, r2, r3⟩ := L_cmpG (Km := Km) (F := F2) (B := B2) (by first | decide | omega) hb dq.1 y7
  have fr2 : ∀ c y k, ¬ (c = 14 ∧ y = 0 ∧ (k ≤ 1 ∨ k = 71)) → ¬ (c = 13 ∧ y = w ∧ 1 ≤ k ∧ k ≤ 5) → F2 c y k = F c y k := fun c y k n n' => by rw [y2 c y k (by first | decide | omega) (by first | decide | omega)]; exact fn c y k (by first | decide | omega) n'
  have br2 : ∀ c i k y, ¬ (c = 13 ∧ i = w ∧ 8 ≤ k ∧ k ≤ 35) → ¬ (c = 14 ∧ i = 0 ∧ k = 95) → B2 c i k y = B c i k y := fun c i k y n n' => y4 c i k y (by first | decide | omega) n'
  have g0 : 4 ≤ g ∧ g ≤ 32 := by have := dq.1; omega
  rw [start]
  unfold f_M_down_200
  rw [if_pos (by unfold r32; omega), w2, if_pos hw.2, d4, if_pos (by unfold r32; omega), d5, if_pos (by unfold r32; omega), r1, zb_s, if_pos (by unfold r32; omega)]
  by_cases c : 512 / g * last ≤ 100 * b
  · rw [if_neg (fun q => by have := r2.mp q; omega)]
    unfold f_M_down_234
    rw [if_pos (by decide), if_neg (by decide)]
    have hT2 : TM (F2, B2) [] F2 B2 := ⟨⟨by rw [d71]; rfl, fun j hj => absurd hj (by simp)⟩, fun _ _ _ _ => rfl, fun _ _ _ _ _ => rfl⟩
    obtain ⟨F3, B3, z1, z2⟩ := M_head (Km := Km) (te := te) (by first | decide | omega) hf (show 0 ≤ n ∧ n < 1000 by omega) (show 0 ≤ d ∧ d < 1000 by omega) hte hmi ⟨w2, hw.2⟩ d2 d3 d4 d5 (by rw [br2 14 0 73 6 (by first | decide | omega) (by first | decide | omega)]; exact m6) hT2
    have f3n := z2.2.1
    have b3n := z2.2.2
    obtain ⟨r', F4, B4, u1, u2, u3, u4⟩ := M_248 (Km := Km) (K := K) (o := o) (f := f) (w := w) (nb := nb) hKm hb dq ⟨y7.1, c⟩ hnu 400 Km 0 0 _ U F3 B3 (by first | decide | omega) (by first | decide | omega) (by first | decide | omega) (by first | decide | omega) ⟨by rw [f3n 14 0 6 (by first | decide | omega)]; exact w2, hw.2⟩ (by rw [f3n 13 w 1 (by first | decide | omega)]; exact y3) (by rw [f3n 13 w 4 (by first | decide | omega)]; exact d4) (by rw [f3n 13 w 5 (by first | decide | omega)]; exact d5) (VTx_f 400 0 0 U hU (fun k y hk => b3n 13 w k y (by first | decide | omega))) (by have := hdT_l (f := f) (mi := mi) (n := n) (d := d) (te := te); omega) (TM_c z2 rfl (fun _ => rfl))
    refine ⟨r', F4, B4, U, B2, by rw [z1, zb_s, u1], fun c y k n n' => ?_, fun c i k y n n' => ?_, hU, Or.inl ⟨c, u2⟩⟩
    · rw [u3 c y k n (by first | decide | omega), f3n c y k (by first | decide | omega)]
      exact fr2 c y k (by first | decide | omega) (by first | decide | omega)
    · rw [u4 c i k y n (by first | decide | omega), b3n c i k y (by first | decide | omega)]
      exact br2 c i k y n (by first | decide | omega)
  · rw [if_pos (r2.mpr (by first | decide | omega))]
    unfold f_M_down_234 f_M_down_284 f_M_down_304
    rw [if_pos (by decide), if_pos rfl, if_pos (by decide), if_pos rfl]
    exact ⟨_, _, _, U, B2, rfl, fun c y k n n' => by rw [zup3_v, if_neg (by first | decide | omega)]; exact fr2 c y k (by first | decide | omega) (by first | decide | omega), fun c i k y n n' => br2 c i k y n (by first | decide | omega), hU, Or.inr ⟨(by first | decide | omega), rfl, by rw [zup3_v, if_pos (by first | decide | omega)]⟩⟩
end
end
end
section
section
/-! ===== the call of down, both sides ===== -/
def WI (F : zF) (B : zB) (Fm : zF) (Bm : zB) : Prop := F 0 1 1 = Fm 14 0 71 ∧ (0 ≤ F 0 1 1 ∧ F 0 1 1 ≤ 20480) ∧ ∀ j, 0 ≤ j → j < F 0 1 1 → B 0 1 0 j = Bm 14 0 70 j % 256
theorem IOp_f {K : zK} {F F' : zF} {B B' : zB} {Fm Fm' : zF} {Bm Bm' : zB} (h : IOp K F B Fm Bm) (f8 : F' 12 0 8 = F 12 0 8) (f9 : F' 12 0 9 = F 12 0 9) (f : ∀ o k, F' 8 o k = F 8 o k) (b : ∀ o k x, B' 8 o k x = B 8 o k x) (g : Fm' 14 0 72 = Fm 14 0 72) (m : ∀ k x, k = 73 ∨ (75 ≤ k ∧ k ≤ 81) → Bm' 14 0 k x = Bm 14 0 k x) : IOp K F' B' Fm' Bm' := by
  obtain ⟨h1, h2, h3, h4⟩ := h
  unfold IOp
  rw [f8, f9, g]
  refine ⟨h1, h2, h3, ?_⟩
  rcases h4 with h4 | ⟨a, c, e⟩
  · exact Or.inl h4
  · exact Or.inr ⟨a, c, OPN_f e (f _ _) (fun k x => b _ k x) m⟩
theorem P_dw {K : zK} {Km : Nat} {x w : Int} {F : zF} {B : zB} {Fm : zF} {Bm : zB} (hK : KKq K) (hKm : 70000000000 < Km) (h12 : 0 < K.2 12) (hx : r32 x) (f2 : F 12 0 2 = 1) (f6 : F 12 0 6 = 0) (f4 : F 7 0 4 = 0) (hw : Fm 14 0 6 = w ∧ 0 ≤ w ∧ w < 3) (hI : IOp K F B Fm Bm) (hW : WI F B Fm Bm) : ∃ r F' B' Fm' Bm', f_S_down K 0 x F B = some (r, F', B') ∧ f_M_down Km x Fm Bm = some (r, Fm', Bm') ∧ (-2 ≤ r ∧ r ≤ 3000) ∧ dnF F F' ∧ wvB B B' ∧ dnG w Fm Fm' ∧ dnH w Bm Bm' ∧ IOp K F' B' Fm' Bm' ∧ WI F' B' Fm' Bm' := by
  have hI' := hI
  obtain ⟨⟨i1, i2⟩, _, _, i5⟩ := hI'
  have out : f_S_down K 0 x F B = some (-1, F, B) → f_M_down Km x Fm Bm = some (-1, Fm, Bm) → ∃ r F' B' Fm' Bm', f_S_down K 0 x F B = some (r, F', B') ∧ f_M_down Km x Fm Bm = some (r, Fm', Bm') ∧ (-2 ≤ r ∧ r ≤ 3000) ∧ dnF F F' ∧ wvB B B' ∧ dnG w Fm Fm' ∧ dnH w Bm Bm' ∧ IOp K F' B' Fm' Bm' ∧ WI F' B' Fm' Bm' := fun a b => ⟨_, _, _, _, _, a, b, (by first | decide | omega), fun _ _ _ _ => rfl, fun _ _ _ _ _ => rfl, fun _ _ _ _ _ => rfl, fun _ _ _ _ _ _ => rfl, hI, hW⟩
  have grid : f_S_down K 0 x F B = f_S_down_28 K 0 x (if x = 4 ∨ x = 8 ∨ x = 16 ∨ x = 32 then 1 else 0) F B := by
    unfold f_S_down f_S_down_23
    rw [if_pos hx]
    by_cases a : x = 4
    · rw [if_pos a, if_pos (Or.inl a)]
    · rw [if_neg a]
      by_cases b : x = 8
      · rw [if_pos b, if_pos (by first | decide | omega)]
      · rw [if_neg b]
        by_cases c : x = 16
        · rw [if_pos c, if_pos (by first | decide | omega)]
        · rw [if_neg c]
          by_cases d : x = 32
          · rw [if_pos d, if_pos (by first | decide | omega)]
          · rw [if_neg d, if_neg (by first | decide | omega)]
  rcases i5 with ⟨a, c⟩ | ⟨a, c, hO⟩
  · refine out ?_ ?_
    · rw [grid]
      unfold f_S_down_28 f_S_down_50
      rw [if_pos ⟨(by first | decide | omega), h12⟩, if_pos a]
    · unfold f_M_down f_M_down_40
      rw [c, if_pos (by decide), if_pos rfl]
  · have hO' := hO
    obtain ⟨⟨o0, o1, o2, o3, o4, o5, o6⟩, ⟨p1, p2, p3⟩, q1, q2, q3, q4⟩ := hO'
    generalize eo : F 12 0 8 = o at *
    by_cases n0 : F 8 o 2 = 0
    · refine out ?_ ?_
      · rw [grid]
        unfold f_S_down_28 f_S_down_50
        rw [if_pos ⟨(by first | decide | omega), h12⟩, eo, if_neg (by first | decide | omega), if_pos ⟨a, i2⟩, if_pos (by unfold r32; omega), if_pos n0]
      · unfold f_M_down f_M_down_40
        rw [c, if_pos (by decide), if_neg (by decide), if_pos (by unfold r32; omega), if_pos (by first | decide | omega)]
    · have start : f_S_down K 0 x F B = if x = 4 ∨ x = 8 ∨ x = 16 ∨ x = 32 then zbind (f_Scribe_writeDown K 0 o x 1 F B) (fun r15 F15 B15 => some (r15, F15, B15)) else some (-1, F, B) := by
        rw [grid]
        have o1' : (0 : Int) ≤ 1 ∧ (1 : Int) < K.2 0 := by have := hK.1; omega
        unfold f_S_down_28 f_S_down_50
        rw [if_pos ⟨(by first | decide | omega), h12⟩, eo, if_neg (by first | decide | omega), if_pos ⟨a, i2⟩, if_pos (by unfold r32; omega), if_neg n0]
        by_cases g : x = 4 ∨ x = 8 ∨ x = 16 ∨ x = 32
        · rw [if_pos g, if_pos g, if_pos (by decide), if_neg (by decide), f6, if_pos ⟨(by first | decide | omega), hK.2.1⟩, f2, if_pos o1']
        · rw [if_neg g, if_neg g, if_pos (by decide), if_pos rfl]
      have startM : f_M_down Km x Fm Bm = if x = 4 ∨ x = 8 ∨ x = 16 ∨ x = 32 then f_M_down_42 Km x Fm Bm else some (-1, Fm, Bm) := by
        unfold f_M_down f_M_down_40
        rw [c, if_pos (by decide), if_neg (by decide), if_pos (by unfold r32; omega), if_neg (by first | decide | omega), if_pos hx]
        by_cases a : x = 4
        · rw [if_pos a, if_pos (Or.inl a)]
        · rw [if_neg a]
          by_cases b : x = 8
          · rw [if_pos b, if_pos (by first | decide | omega)]
          · rw [if_neg b]
            by_cases c : x = 16
            · rw [if_pos c, if_pos (by first | decide | omega)]
            · rw [if_neg c]
              by_cases d : x = 32
              · rw [if_pos d, if_pos (by first | decide | omega)]
              · rw [if_neg d, if_neg (by first | decide | omega)]
      by_cases g : x = 4 ∨ x = 8 ∨ x = 16 ∨ x = 32
      · have hb : BRs (Bm 14 0 73 4) (Bm 14 0 73 5) (512 / Bm 14 0 73 5 * Bm 14 0 73 4) := ⟨o4.2, o5.2, rfl⟩
        have dq : DTq x (Bm 14 0 73 1) (F 8 o 2) (fun i => Bm 14 0 79 i) (fun i => Bm 14 0 80 i) (fun i => Bm 14 0 77 i) (fun i => Bm 14 0 75 i) := ⟨g, o1.2, ⟨(by first | decide | omega), p3⟩, fun i a b => by have := q2 i a b; exact ⟨by show 0 ≤ Bm 14 0 75 i ∧ Bm 14 0 75 i ≤ 7; omega, this.2.2.1, this.2.2.2.2⟩, q3⟩
        have nu : ∀ k, 0 ≤ k → k < Bm 14 0 73 0 → zmax (B 8 o 3 k) 0 = Bm 14 0 81 k ∧ r32 (B 8 o 3 k) ∧ 0 ≤ Bm 14 0 81 k ∧ Bm 14 0 81 k ≤ 3 := fun k a b => by
          obtain ⟨e1, e2⟩ := q4 k a b
          rw [e2]
          unfold zmax
          refine ⟨?_, by unfold r32; omega, ?_⟩
          · by_cases z : B 8 o 3 k < 0
            · rw [if_pos z, if_neg (by first | decide | omega)]
            · rw [if_neg z, if_pos (by first | decide | omega)]
          · split <;> omega
        obtain ⟨r, Fm', Bm', U, Bx, y1, y2, y3, y4, y5⟩ := M_down (Km := Km) (K := K) (o := o) (f := Bm 14 0 73 2) (w := w) (g := x) (D := Bm 14 0 73 1) (N := F 8 o 2) (nb := fun k => Bm 14 0 81 k) (mi := Bm 14 0 73 3) (te := Bm 14 0 73 6) (h := Bm 14 0 73 0) (F := Fm) (B := Bm) hK.2.1 hK.2.2.1 (by have := hK.2.2.2; omega) hKm hb ⟨a, i2⟩ o2.2 (by first | decide | omega) (by first | decide | omega) o0.2 dq (fun i a b => (q2 i a b).1.2) hw rfl rfl rfl rfl rfl rfl rfl p1.symm (fun i a b => ⟨rfl, rfl, rfl, rfl⟩) (fun k a b => rfl) (fun i a b => (nu _ (q2 i a b).1.1 (q2 i a b).1.2).2.2)
        obtain ⟨r', F', B', z1, z2, z3, z4⟩ := C_down (K := K) (mi := Bm 14 0 73 3) (te := Bm 14 0 73 6) (F := F) (B := B) hK hb dq y4 ⟨a, i2⟩ o2.2 (by first | decide | omega) (by first | decide | omega) f4 o1.1 o2.1 o3.1 o4.1 o5.1 o6.1 rfl (fun i a b => by have := q1 i a b; exact ⟨this.1, this.2.2.1, this.2.2.2.2⟩) (fun i a b => nu _ (q2 i a b).1.1 (q2 i a b).1.2)
        have fin : r' = r ∧ (-2 ≤ r ∧ r ≤ 3000) ∧ WI F' B' Fm' Bm' := by
          rcases y5 with ⟨c1, y5⟩ | ⟨c1, y5, y6⟩
          · rcases z4 with ⟨_, _, z4⟩ | ⟨c2, _⟩
            · rcases y5 with ⟨l1, l2, l3, l4⟩ | ⟨l1, l2, l3⟩
              · rcases z4 with ⟨t1, t2, t3, t4⟩ | ⟨t1, _⟩
                · refine ⟨(by first | decide | omega), (by first | decide | omega), (by first | decide | omega), (by first | decide | omega), fun j j0 j1 => ?_⟩
                  have e1 := l4 j.toNat (by first | decide | omega)
                  have e2 := t4 j.toNat (by first | decide | omega)
                  rw [show ((j.toNat : Nat) : Int) = j by omega] at e1 e2
                  rw [e1, e2]
                · omega
              · rcases z4 with ⟨t1, _⟩ | ⟨t1, t2, t3⟩
                · omega
                · exact ⟨(by first | decide | omega), (by first | decide | omega), (by first | decide | omega), (by first | decide | omega), fun j j0 j1 => (by first | decide | omega)⟩
            · omega
          · rcases z4 with ⟨c2, _⟩ | ⟨_, z4, z5, _⟩
            · omega
            · exact ⟨(by first | decide | omega), (by first | decide | omega), (by first | decide | omega), (by first | decide | omega), fun j j0 j1 => (by first | decide | omega)⟩
        obtain ⟨rfl, rb, hW'⟩ := fin
        refine ⟨r', F', B', Fm', Bm', by rw [start, if_pos g, z1, zb_s], by rw [startM, if_pos g, y1], rb, z2, z3, y2, y3, ?_, hW'⟩
        exact IOp_f hI (z2 12 0 8 (by first | decide | omega)) (z2 12 0 9 (by first | decide | omega)) (fun o k => z2 8 o k (by first | decide | omega)) (fun o k x => z3 8 o k x (by first | decide | omega)) (y2 14 0 72 (by first | decide | omega) (by first | decide | omega)) (fun k x hk => y3 14 0 k x (by first | decide | omega) (by first | decide | omega))
      · exact out (by rw [start, if_neg g]) (by rw [startM, if_neg g])
end
end
section
section
/-! ===== what a study holds, class ===== -/
variable {V t : Int} {S : zV} {L : Int → Int → Int}
/-- the class's moments, exactly -/
def MXc (V t : Int) (S : zV) (T : Int → Int) (L : Int → Int → Int) (F : zF) (B : zB) : Prop := (∀ j, 0 ≤ j → j < F 9 t 0 → B 9 t 1 j = T j) ∧ (∀ u j, 0 ≤ u → u < V → 0 ≤ j → j < F 9 t 0 → B 9 t (280 + u.toNat) j = L u j) ∧ MO V S (F 9 t 0) T ∧ LI V S (F 9 t 0) T L
theorem MXc_f {T : Int → Int} {F F' : zF} {B B' : zB} (h : MXc V t S T L F B) (f : F' 9 t 0 = F 9 t 0) (b : ∀ k x, k = 1 ∨ (280 ≤ k ∧ k ≤ 283) → B' 9 t k x = B 9 t k x) (v4 : V ≤ 4) : MXc V t S T L F' B' := by
  obtain ⟨h1, h2, h3, h4⟩ := h
  unfold MXc
  rw [f]
  refine ⟨fun j j0 j1 => by rw [b 1 j (by first | decide | omega)]; exact h1 j j0 j1, fun u j u0 u1 j0 j1 => by rw [b _ j (by first | decide | omega)]; exact h2 u j u0 u1 j0 j1, h3, h4⟩
/-- the class's faults are s -/
def FCl (t : Int) (s : zQ) (F : zF) (B : zB) : Prop := F 9 t 2 = s.1 ∧ (0 ≤ s.1 ∧ s.1 ≤ 300) ∧ ∀ i, 0 ≤ i → i < s.1 → B 9 t 260 i = s.2 0 i ∧ B 9 t 261 i = s.2 1 i ∧ B 9 t 262 i = s.2 2 i ∧ B 9 t 263 i = s.2 3 i
/-- the study of a piece, class, exactly -/
def STX (V t : Int) (S : zV) (F : zF) (B : zB) : Prop := ∃ T L, MXc V t S T L F B ∧ FCl t (flQ S L V (F 9 t 0)) F B
theorem STX_e {F F' : zF} {B B' : zB} (h : STX V t S F B) (f : ∀ k, k = 0 ∨ k = 2 → F' 9 t k = F 9 t k) (b : ∀ k x, ¬ k = 10 → B' 9 t k x = B 9 t k x) (v4 : V ≤ 4) : STX V t S F' B' := by
  obtain ⟨T, L, h1, h2, h3, h4⟩ := h
  refine ⟨T, L, MXc_f h1 (f 0 (by first | decide | omega)) (fun k x hk => b k x (by first | decide | omega)) v4, ?_⟩
  rw [f 0 (by first | decide | omega)]
  refine ⟨by rw [f 2 (by first | decide | omega)]; exact h2, h3, fun i i0 i1 => ?_⟩
  rw [b 260 i (by first | decide | omega), b 261 i (by first | decide | omega), b 262 i (by first | decide | omega), b 263 i (by first | decide | omega)]
  exact h4 i i0 i1
/-- the moments and faults of a kept piece, both sides -/
def XTk (V p w : Int) (F : zF) (B : zB) (Fm : zF) (Bm : zB) : Prop := ∃ S, SG V S ∧ MXk V w S Fm Bm ∧ (F 6 p 13 = 1 → 0 ≤ F 6 p 12 ∧ STX V (F 6 p 12) S F B)
theorem XTk_e {p w : Int} {F F' : zF} {B B' : zB} {Fm Fm' : zF} {Bm Bm' : zB} (h : XTk V p w F B Fm Bm) (f6 : F' 6 p 12 = F 6 p 12 ∧ F' 6 p 13 = F 6 p 13) (ob : 0 ≤ F 6 p 12 → ∀ k, F' 9 (F 6 p 12) k = F 9 (F 6 p 12) k ∧ ∀ x, B' 9 (F 6 p 12) k x = B 9 (F 6 p 12) k x) (f : ∀ k, k ≤ 46 ∨ 72 ≤ k → Fm' 13 w k = Fm 13 w k) (b : ∀ k x, k ≤ 46 ∨ 72 ≤ k → Bm' 13 w k x = Bm 13 w k x) : XTk V p w F' B' Fm' Bm' := by
  obtain ⟨S, h1, h2, h3⟩ := h
  refine ⟨S, h1, MXk_e h2 (fun k hk => f k (by first | decide | omega)) (fun k x hk => b k x (by first | decide | omega)), ?_⟩
  rw [f6.1, f6.2]
  intro z
  obtain ⟨z0, sx⟩ := h3 z
  exact ⟨z0, STX_e sx (fun k _ => (ob z0 k).1) (fun k x _ => (ob z0 k).2 x) h1.1.2⟩
end
end
section
section
/-! ===== lines of a kept piece, both sides ===== -/
def ldV (fi b : Int) : Int := 24 + 5 * zabs fi + (if b = 0 then 12 else 0)
/-- the x of column c, in bar t of line i -/
def xV (fi wd n : Int) (l i t c : Int) (B : zB) : Int := ldV fi (B 2 l 7 i) + 6 * (t - B 2 l 7 i + 1) + smR (fun c => B 2 l 2 c) (B 2 l 5 (B 2 l 7 i)) (c - B 2 l 5 (B 2 l 7 i)).toNat + zdv ((if n ≤ i + 1 then 0 else zmax (wd - B 2 l 8 i) 0) * (c - B 2 l 5 (B 2 l 7 i))) (zmax (B 2 l 5 (B 2 l 7 (i + 1)) - B 2 l 5 (B 2 l 7 i)) 1)
/-- the lines as they stand: first bars rise, first columns rise -/
def LYs (l nb n : Int) (B : zB) : Prop := (0 ≤ n ∧ n ≤ 100) ∧ (0 ≤ nb ∧ nb ≤ 100) ∧ (∀ i, 0 ≤ i → i < n → 0 ≤ B 2 l 7 i ∧ B 2 l 7 i < B 2 l 7 (i + 1) ∧ B 2 l 7 (i + 1) ≤ nb ∧ r32 (B 2 l 8 i) ∧ 0 ≤ B 2 l 8 i) ∧ ∀ t, 0 ≤ t → t < nb → 0 ≤ B 2 l 5 t ∧ B 2 l 5 t ≤ B 2 l 5 (t + 1) ∧ B 2 l 5 (t + 1) ≤ 3200
/-- the lines and columns of layout l and of piece w are the same -/
def LYf (fi nb : Int) (l w : Int) (F : zF) (B : zB) (Fm : zF) (Bm : zB) : Prop := (F 2 l 0 = Fm 13 w 48 ∧ LYs l nb (F 2 l 0) B ∧ 0 < F 2 l 0) ∧ (B 2 l 7 0 = 0 ∧ B 2 l 7 (F 2 l 0) = nb) ∧ (∀ j, 0 ≤ j → j < F 2 l 0 → B 2 l 7 j = Bm 13 w 49 j ∧ B 2 l 7 (j + 1) = Bm 13 w 49 j + Bm 13 w 50 j ∧ B 2 l 8 j = Bm 13 w 51 j ∧ B 2 l 9 j = Bm 13 w 52 j) ∧ (∀ t, 0 ≤ t → t ≤ nb → Bm 13 w 42 t = B 2 l 5 t) ∧ (∀ t c, 0 ≤ t → t < nb → B 2 l 5 t ≤ c → c < B 2 l 5 (t + 1) → (Bm 13 w 43 c = nu (B 2 l 1 c) ∧ Bm 13 w 44 c = de (B 2 l 1 c)) ∧ Bm 13 w 45 c = B 2 l 2 c ∧ (0 ≤ B 2 l 1 c ∧ B 2 l 1 c ≤ 1000000000000)) ∧ ∀ k t c, 0 ≤ k → k < F 2 l 0 → B 2 l 7 k ≤ t → t < B 2 l 7 (k + 1) → B 2 l 5 t ≤ c → c < B 2 l 5 (t + 1) → B 2 l 3 c = xV fi (Fm 13 w 47) (F 2 l 0) l k t c B
theorem LYf_e {fi nb l w : Int} {F F' : zF} {B B' : zB} {Fm Fm' : zF} {Bm Bm' : zB} (h : LYf fi nb l w F B Fm Bm) (f : F' 2 l = F 2 l) (b : B' 2 l = B 2 l) (g : ∀ k, k = 47 ∨ k = 48 → Fm' 13 w k = Fm 13 w k) (m : ∀ k x, 42 ≤ k → k ≤ 52 → Bm' 13 w k x = Bm 13 w k x) : LYf fi nb l w F' B' Fm' Bm' := by
  have m42 : ∀ x, Bm' 13 w 42 x = Bm 13 w 42 x := fun x => m 42 x (by decide) (by decide)
  have m43 : ∀ x, Bm' 13 w 43 x = Bm 13 w 43 x := fun x => m 43 x (by decide) (by decide)
  have m44 : ∀ x, Bm' 13 w 44 x = Bm 13 w 44 x := fun x => m 44 x (by decide) (by decide)
  have m45 : ∀ x, Bm' 13 w 45 x = Bm 13 w 45 x := fun x => m 45 x (by decide) (by decide)
  have m49 : ∀ x, Bm' 13 w 49 x = Bm 13 w 49 x := fun x => m 49 x (by decide) (by decide)
  have m50 : ∀ x, Bm' 13 w 50 x = Bm 13 w 50 x := fun x => m 50 x (by decide) (by decide)
  have m51 : ∀ x, Bm' 13 w 51 x = Bm 13 w 51 x := fun x => m 51 x (by decide) (by decide)
  have m52 : ∀ x, Bm' 13 w 52 x = Bm 13 w 52 x := fun x => m 52 x (by decide) (by decide)
  unfold LYf LYs xV at *
  rw [f, b]
  simp only [m42, m43, m44, m45, m49, m50, m51, m52, g 47 (by first | decide | omega), g 48 (by first | decide | omega)]
  exact h
/-- either no lines, or the same -/
def LYk (p w : Int) (F : zF) (B : zB) (Fm : zF) (Bm : zB) : Prop := (Fm 13 w 48 = 0 ∧ (0 ≤ F 6 p 8 → F 2 (F 6 p 8) 0 = 0)) ∨ (0 ≤ F 6 p 8 ∧ LYf (F 6 p 2) (F 6 p 7) (F 6 p 8) w F B Fm Bm)
theorem LYk_e {p w : Int} {F F' : zF} {B B' : zB} {Fm Fm' : zF} {Bm Bm' : zB} (h : LYk p w F B Fm Bm) (f6 : ∀ k, k = 2 ∨ k = 7 ∨ k = 8 → F' 6 p k = F 6 p k) (ob : 0 ≤ F 6 p 8 → ∀ k, F' 2 (F 6 p 8) k = F 2 (F 6 p 8) k ∧ ∀ x, B' 2 (F 6 p 8) k x = B 2 (F 6 p 8) k x) (f : ∀ k, k = 47 ∨ k = 48 → Fm' 13 w k = Fm 13 w k) (b : ∀ k x, 42 ≤ k → k ≤ 52 → Bm' 13 w k x = Bm 13 w k x) : LYk p w F' B' Fm' Bm' := by
  unfold LYk
  rw [f6 2 (by first | decide | omega), f6 7 (by first | decide | omega), f6 8 (by first | decide | omega)]
  rcases h with ⟨h1, h2⟩ | ⟨h1, h2⟩
  · exact Or.inl ⟨by rw [f 48 (by first | decide | omega)]; exact h1, fun z => by rw [(ob z 0).1]; exact h2 z⟩
  · exact Or.inr ⟨h1, LYf_e h2 (by funext k; exact (ob h1 k).1) (by funext k x; exact (ob h1 k).2 x) f b⟩
end
end

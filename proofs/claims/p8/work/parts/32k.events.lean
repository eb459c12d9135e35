section
/-! ===== the reference: the events of a track ===== -/
/-- the spans of a voice: where each begins and ends, its tones -/
def GLp (K : zK) (o f : Int) (gB gE tn : Int → Int) (z : Int) : Nat → Int → Int → List (Int × Int × Int × (Int → Int) × (Int → Int)) → Prop
  | 0, _, _, EL => EL = []
  | fu + 1, s, come, EL => if s < z then ∃ m st al rest, EL = (if come < gB s then [(come, gB s, 0, (fun _ => 0), (fun _ => 0))] else []) ++ ((gB s, toG gB gE s z, m, st, al) :: rest) ∧ PCH K o f tn s (nxG gB s z) m st al ∧ GLp K o f gB gE tn z fu (nxG gB s z) (toG gB gE s z) rest else EL = []
def EVL (g w v : Int) (B : zB) : Int → List (Int × Int × Int × (Int → Int) × (Int → Int)) → Prop
  | _, [] => True
  | j, r :: rs => EVr g w (1000 * v + j) (r.2.1 - r.1) r.2.2.1 r.2.2.2.1 r.2.2.2.2 B ∧ EVL g w v B (j + 1) rs
def teM (w v j : Int) (B B' : zB) : Prop := ∀ c i k y, ¬ (c = 13 ∧ i = w ∧ ((k = 12 ∧ y = v) ∨ ((k = 16 ∨ k = 17 ∨ k = 18 ∨ k = 21 ∨ k = 22) ∧ 1000 * v + j ≤ y ∧ y < 1000 * v + 1000) ∨ ((k = 28 ∨ k = 29) ∧ 6 * (1000 * v + j) ≤ y ∧ y < 6 * (1000 * v + 1000)))) → ¬ (c = 14 ∧ i = 0 ∧ k = 95) → B' c i k y = B c i k y
theorem teM_t {w v j j' : Int} {B B1 B2 : zB} (h : teM w v j B B1) (h' : teM w v j' B1 B2) (l : j ≤ j') : teM w v j B B2 := fun c i k y n n' => by rw [h' c i k y (by first | decide | omega) n', h c i k y n n']
theorem EVr_f {g w x len m : Int} {st al : Int → Int} {B B' : zB} (h : EVr g w x len m st al B) (e : ∀ k, k = 16 ∨ k = 17 ∨ k = 18 ∨ k = 21 ∨ k = 22 → B' 13 w k x = B 13 w k x) (e2 : ∀ k y, k = 28 ∨ k = 29 → 6 * x ≤ y → y < 6 * x + 6 → B' 13 w k y = B 13 w k y) : EVr g w x len m st al B' := by
  obtain ⟨h0, h1, h2, h3, h4, h5, h6⟩ := h
  refine ⟨h0, by rw [e 16 (by first | decide | omega)]; exact h1, by rw [e 17 (by first | decide | omega)]; exact h2, by rw [e 18 (by first | decide | omega)]; exact h3, by rw [e 22 (by first | decide | omega)]; exact h4, by rw [e 21 (by first | decide | omega)]; exact h5, fun k k0 k1 => ?_⟩
  rw [e2 28 _ (by first | decide | omega) (by first | decide | omega) (by first | decide | omega), e2 29 _ (by first | decide | omega) (by first | decide | omega) (by first | decide | omega)]
  exact h6 k k0 k1
theorem EVL_f {g w v : Int} {B B' : zB} : ∀ (EL : List (Int × Int × Int × (Int → Int) × (Int → Int))) (j : Int), EVL g w v B j EL → (∀ k y, k = 16 ∨ k = 17 ∨ k = 18 ∨ k = 21 ∨ k = 22 → 1000 * v + j ≤ y → y < 1000 * v + j + (EL.length : Int) → B' 13 w k y = B 13 w k y) → (∀ k y, k = 28 ∨ k = 29 → 6 * (1000 * v + j) ≤ y → y < 6 * (1000 * v + j + (EL.length : Int)) → B' 13 w k y = B 13 w k y) → EVL g w v B' j EL := by
  intro EL
  induction EL with
  | nil => intro j _ _ _; trivial
  | cons r rs ih =>
    intro j h e e2
    have ll : ((r :: rs).length : Int) = (rs.length : Int) + 1 := by rw [List.length_cons]; omega
    rw [ll] at e e2
    exact ⟨EVr_f h.1 (fun k hk => e k _ hk (by first | decide | omega) (by first | decide | omega)) (fun k y hk a b => e2 k y hk (by first | decide | omega) (by first | decide | omega)), ih (j + 1) h.2 (fun k y hk a b => e k y hk (by first | decide | omega) (by first | decide | omega)) (fun k y hk a b => e2 k y hk (by first | decide | omega) (by first | decide | omega))⟩
section
variable {Km : Nat} {K : zK} {o f w g D N : Int} {bg en tn tk : Int → Int}
theorem M_dr {v j len : Int} {F : zF} {B : zB} (hKm : 500 ≤ Km) (hg : g = 4 ∨ g = 8 ∨ g = 16 ∨ g = 32) (hw : F 14 0 6 = w ∧ 0 ≤ w ∧ w < 3) (v0 : 0 ≤ v ∧ v < 4) (ej : B 13 w 12 v = j) (j0 : 0 ≤ j ∧ j < 1000) (hl : 0 ≤ len ∧ len ≤ 100000000000000) : ∃ F' B', f_M_downEvent Km v len g 0 F B = some (0, F', B') ∧ (∀ c y k, ¬ (c = 14 ∧ y = 0 ∧ k ≤ 1) → F' c y k = F c y k) ∧ deM w v (1000 * v + j) B B' ∧ B' 13 w 12 v = j + 1 ∧ EVr g w (1000 * v + j) len 0 (fun _ => 0) (fun _ => 0) B' := by
  unfold f_M_downEvent
  rw [hw.1, if_pos hw.2, if_pos v0, if_pos (by unfold r32; omega), ej, L_is hl.1 (by first | decide | omega) (by first | decide | omega) (by first | decide | omega) (by first | decide | omega), zb_s]
  generalize hF1 : zup3 (zup3 F 14 0 0 (len / gc len g)) 14 0 1 (g / gc len g) = F1
  have fn : ∀ c y k, ¬ (c = 14 ∧ y = 0 ∧ k ≤ 1) → F1 c y k = F c y k := fun c y k n => by rw [← hF1, zup3_v, if_neg (by first | decide | omega), zup3_v, if_neg (by first | decide | omega)]
  have v0' : F1 14 0 0 = len / gc len g := by rw [← hF1, zup3_v, if_neg (by first | decide | omega), zup3_v, if_pos (by first | decide | omega)]
  have v1' : F1 14 0 1 = g / gc len g := by rw [← hF1, zup3_v, if_pos (by first | decide | omega)]
  rw [fn 14 0 6 (by first | decide | omega), hw.1, if_pos hw.2, if_pos (by first | decide | omega), v0', v1']
  generalize hx : 1000 * v + j = x
  obtain ⟨p, ep⟩ : ∃ p, Km = p + 1 := ⟨Km - 1, (by first | decide | omega)⟩
  generalize hB1 : zup4 (zup4 (zup4 (zup4 (zup4 (zup4 B 13 w 12 v (j + 1)) 13 w 16 x (len / gc len g)) 13 w 17 x (g / gc len g)) 13 w 18 x 0) 13 w 22 x 0) 13 w 21 x 0 = B1
  have bn : deM w v x B B1 := fun c i k y n => by rw [← hB1, zup4_v, if_neg (by first | decide | omega), zup4_v, if_neg (by first | decide | omega), zup4_v, if_neg (by first | decide | omega), zup4_v, if_neg (by first | decide | omega), zup4_v, if_neg (by first | decide | omega), zup4_v, if_neg (by first | decide | omega)]
  have b12 : B1 13 w 12 v = j + 1 := by rw [← hB1]; simp [zup4_v]
  have b16 : B1 13 w 16 x = len / gc len g := by rw [← hB1]; simp [zup4_v]
  have b17 : B1 13 w 17 x = g / gc len g := by rw [← hB1]; simp [zup4_v]
  have b18 : B1 13 w 18 x = 0 := by rw [← hB1]; simp [zup4_v]
  have b22 : B1 13 w 22 x = 0 := by rw [← hB1]; simp [zup4_v]
  have b21 : B1 13 w 21 x = 0 := by rw [← hB1]; simp [zup4_v]
  refine ⟨F1, B1, ?_, fn, bn, b12, ⟨(by first | decide | omega), (by first | decide | omega)⟩, b16, b17, b18, b22, b21, fun k a b => (by first | decide | omega)⟩
  have : ∀ i D, f_M_downEvent_102 Km (i + 1) 0 x 0 F1 D = some (0, F1, D) := fun i D => by
    rw [f_M_downEvent_102, if_pos (by decide), if_pos (by decide), if_pos (by decide)]
  have t := this p B1
  rw [← ep] at t
  exact t
theorem M_t161 {rec' : Int → Int → Int → Int → Int → zF → zB → zO} {z s come v x : Int} {F : zF} {B : zB} (dq : DTq g D N bg en tn tk) (hM : MFq w D N bg en tn tk F B) (hz : z ≤ N) (hx : 0 ≤ x ∧ x ≤ 30000000000000) : ∀ (fu m : Nat) (t : Int), z - t ≤ fu → fu < m → 0 ≤ t → t ≤ z → f_M_trackEvents_161 rec' Km m t x z s come v g F B = f_M_trackEvents_192 rec' Km (grN (fun i => gplF g D (bg i)) z x fu t) x z s come v g F B := by
  have hN := dq.2.2.1
  have hM' := hM
  obtain ⟨h1, h2, h3, h4⟩ := hM'
  intro fu
  induction fu with
  | zero =>
    intro m t hf hm t0 tz
    obtain ⟨p, rfl⟩ : ∃ p, m = p + 1 := ⟨m - 1, (by first | decide | omega)⟩
    rw [f_M_trackEvents_161, if_pos (by unfold r32; omega), if_pos (by unfold r32; omega), if_pos (by first | decide | omega), grN]
  | succ fu ih =>
    intro m t hf hm t0 tz
    obtain ⟨p, rfl⟩ : ∃ p, m = p + 1 := ⟨m - 1, (by first | decide | omega)⟩
    rw [f_M_trackEvents_161, if_pos (by unfold r32; omega), if_pos (by unfold r32; omega), grN]
    by_cases c : z ≤ t
    · rw [if_pos c, if_neg (by first | decide | omega)]
    · have b := (h4 t t0 (by first | decide | omega)).2.2.1
      have dd := (dq.2.2.2.1 t t0 (by first | decide | omega)).2.2.1
      have gb := gpl_b (t := bg t) dq.1 dq.2.1 dd
      rw [if_neg c, if_pos (by first | decide | omega), b, M_gp dq hM dd, zb_s, if_pos (by unfold r64; omega), if_pos (by unfold r64; omega)]
      by_cases y : gplF g D (bg t) = x
      · rw [if_pos (zcmp_0.mpr y), if_pos ⟨(by first | decide | omega), y⟩, ih p (t + 1) (by first | decide | omega) (by first | decide | omega) (by first | decide | omega) (by first | decide | omega)]
      · rw [if_neg (fun q => y (zcmp_0.mp q)), if_neg (fun q => y q.2)]
theorem M_t232 {rec' : Int → Int → Int → Int → Int → zF → zB → zO} {z t v x c : Int} {F : zF} {B : zB} (dq : DTq g D N bg en tn tk) (hM : MFq w D N bg en tn tk F B) (hz : z ≤ N) (ht : 0 ≤ t ∧ t ≤ z) : ∀ (d m : Nat) (i a : Int), i + d = t → 0 ≤ i → d < m → (0 ≤ a ∧ a ≤ 40000000000000) → f_M_trackEvents_232 rec' Km m i a c t x z v g F B = f_M_trackEvents_316 rec' Km (if t < z then zmin (mxR (fun i => gplF g D (en i)) d i a) (gplF g D (bg t)) else mxR (fun i => gplF g D (en i)) d i a) c t x z v g F B := by
  have hN := dq.2.2.1
  have hM' := hM
  obtain ⟨h1, h2, h3, h4⟩ := hM'
  intro d
  induction d with
  | zero =>
    intro m i a e i0 hm ha
    obtain ⟨p, rfl⟩ : ∃ p, m = p + 1 := ⟨m - 1, (by first | decide | omega)⟩
    rw [f_M_trackEvents_232, if_pos (by unfold r32; omega), if_pos (by unfold r32; omega), if_pos (by first | decide | omega), if_pos (by unfold r32; omega), mxR]
    by_cases y : z ≤ t
    · rw [if_pos y, if_neg (by first | decide | omega)]
    · have b := (h4 t ht.1 (by first | decide | omega)).2.2.1
      have dd := (dq.2.2.2.1 t ht.1 (by first | decide | omega)).2.2.1
      have gb := gpl_b (t := bg t) dq.1 dq.2.1 dd
      rw [if_neg y, if_pos (by first | decide | omega), b, M_gp dq hM dd, zb_s, if_pos (by unfold r64; omega), if_pos (by unfold r64; omega), b, M_gp dq hM dd, zb_s, if_pos (show t < z by omega)]
      unfold zmin
      by_cases u : a ≤ gplF g D (bg t)
      · rw [if_pos (zcmp_m.mpr u), if_neg (by first | decide | omega)]
      · rw [if_neg (fun q => u (zcmp_m.mp q)), if_pos (by first | decide | omega)]
  | succ d ih =>
    intro m i a e i0 hm ha
    obtain ⟨p, rfl⟩ : ∃ p, m = p + 1 := ⟨m - 1, (by first | decide | omega)⟩
    have b := (h4 i i0 (by first | decide | omega)).2.2.2
    have dd := (dq.2.2.2.1 i i0 (by first | decide | omega)).2.2.2
    have gb := gpl_b (t := en i) dq.1 dq.2.1 dd
    rw [f_M_trackEvents_232, if_pos (by unfold r32; omega), if_pos (by unfold r32; omega), if_neg (by first | decide | omega), if_pos (by first | decide | omega), b, M_gp dq hM dd, zb_s, if_pos (by unfold r64; omega), if_pos (by unfold r64; omega), b, M_gp dq hM dd, zb_s, mxR]
    unfold f_M_trackEvents_271
    have zm : zmax a (gplF g D (en i)) = if gplF g D (en i) ≤ a then a else gplF g D (en i) := by unfold zmax; split <;> split <;> omega
    by_cases u : gplF g D (en i) ≤ a
    · rw [if_pos (zcmp_m.mpr u), ih p (i + 1) a (by first | decide | omega) (by first | decide | omega) (by first | decide | omega) ha]
      have : zmax a (gplF g D (en i)) = a := by rw [zm, if_pos u]
      simp only [this]
    · rw [if_neg (fun q => u (zcmp_m.mp q)), ih p (i + 1) (gplF g D (en i)) (by first | decide | omega) (by first | decide | omega) (by first | decide | omega) (by first | decide | omega)]
      have : zmax a (gplF g D (en i)) = gplF g D (en i) := by rw [zm, if_neg u]
      simp only [this]
/-- a group ends behind its beginning -/
theorem to_g {z s s0 : Int} (dq : DTq g D N bg en tn tk) (hz : z ≤ N) (hs : 0 ≤ s ∧ s < z) (h0 : s0 ≤ s) (mono : ∀ i, s0 ≤ i → i + 1 < z → bg i ≤ bg (i + 1)) : gplF g D (bg s) < toG (fun i => gplF g D (bg i)) (fun i => gplF g D (en i)) s z ∧ (nxG (fun i => gplF g D (bg i)) s z < z → toG (fun i => gplF g D (bg i)) (fun i => gplF g D (en i)) s z ≤ gplF g D (bg (nxG (fun i => gplF g D (bg i)) s z))) := by
  have hN := dq.2.2.1
  obtain ⟨p1, p2, p3, p4⟩ := nxG_p (gB := fun i => gplF g D (bg i)) hs.2 (by first | decide | omega) hs.1
  have hb : ∀ i, 0 ≤ i → i < N → (0 ≤ gplF g D (en i) ∧ gplF g D (en i) ≤ 30000000000000) := fun i i0 i1 => gpl_b dq.1 dq.2.1 (dq.2.2.2.1 i i0 i1).2.2.2
  have bs := gpl_b (t := bg s) dq.1 dq.2.1 (dq.2.2.2.1 s hs.1 (by first | decide | omega)).2.2.1
  have mb := mxR_b (gE := fun i => gplF g D (en i)) (M := 40000000000000) (nxG (fun i => gplF g D (bg i)) s z - s).toNat s (gplF g D (bg s) + 1) (by first | decide | omega) (fun i i0 i1 => by have := hb i (by first | decide | omega) (by first | decide | omega); show gplF g D (en i) ≤ _; omega)
  have mon : ∀ (d : Nat) (i : Int), s0 ≤ i → i + d < z → bg i ≤ bg (i + d) := by
    intro d
    induction d with
    | zero => intro i _ _; simp
    | succ d ih =>
      intro i i0 i1
      have a := ih i i0 (by first | decide | omega)
      have b := mono (i + d) (by first | decide | omega) (by first | decide | omega)
      rw [show i + ((d + 1 : Nat) : Int) = i + d + 1 by omega]
      omega
  simp only [toG]
  by_cases c : nxG (fun i => gplF g D (bg i)) s z < z
  · have m1 := mon (nxG (fun i => gplF g D (bg i)) s z - s).toNat s h0 (by first | decide | omega)
    rw [show s + ((nxG (fun i => gplF g D (bg i)) s z - s).toNat : Int) = nxG (fun i => gplF g D (bg i)) s z by omega] at m1
    have m2 := gpl_m (g := g) (D := D) dq.1 dq.2.1 m1
    have m3 : ¬ gplF g D (bg (nxG (fun i => gplF g D (bg i)) s z)) = gplF g D (bg s) := p4 c
    rw [if_pos c]
    unfold zmin
    split <;> exact ⟨(by first | decide | omega), fun _ => (by first | decide | omega)⟩
  · rw [if_neg c]
    exact ⟨(by first | decide | omega), fun h => absurd h c⟩
end
end

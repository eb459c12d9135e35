section
/-! ===== a tone spelled, both sides ===== -/
def fmB (a b : Int) : Bool := decide (r32 (zxor a b)) && (if 0 ≤ zxor a b then decide (zrm a b = a % b) else (decide (r32 (zrm a b)) && (if zrm a b = 0 then decide (zrm a b = a % b) else decide (zrm a b + b = a % b))))
def fdB (a b : Int) : Bool := decide (r32 (zxor a b)) && (decide (r32 a) && (if 0 ≤ zxor a b then decide (zdv a b = a / b) else (decide (r32 (zdv a b * b)) && (if zdv a b * b = a then decide (zdv a b = a / b) else decide (zdv a b - 1 = a / b)))))
theorem C_fmB {K : zK} {a b : Int} {F : zF} {B : zB} (hb : 0 < b) (rb : r32 b) (h : fmB a b = true) : f_Math_floorMod K a b F B = some (a % b, F, B) := by
  unfold fmB at h
  rw [Bool.and_eq_true] at h
  obtain ⟨h1, h2⟩ := h
  unfold f_Math_floorMod f_Math_floorMod_18
  rw [if_pos (iI_n0 hb rb), if_pos (of_decide_eq_true h1)]
  by_cases c : 0 ≤ zxor a b
  · rw [if_pos c] at h2 ⊢
    rw [of_decide_eq_true h2]
  · rw [if_neg c, Bool.and_eq_true] at h2
    obtain ⟨h3, h4⟩ := h2
    rw [if_neg c, if_pos (of_decide_eq_true h3)]
    by_cases d : zrm a b = 0
    · rw [if_pos d] at h4 ⊢
      rw [of_decide_eq_true h4]
    · rw [if_neg d] at h4 ⊢
      rw [of_decide_eq_true h4]
theorem C_fdB {K : zK} {a b : Int} {F : zF} {B : zB} (hb : 0 < b) (rb : r32 b) (h : fdB a b = true) : f_Math_floorDiv K a b F B = some (a / b, F, B) := by
  unfold fdB at h
  rw [Bool.and_eq_true, Bool.and_eq_true] at h
  obtain ⟨h1, h0, h2⟩ := h
  unfold f_Math_floorDiv f_Math_floorDiv_21
  rw [if_pos (iI_n0 hb rb), if_pos (of_decide_eq_true h1)]
  by_cases c : 0 ≤ zxor a b
  · rw [if_pos c] at h2 ⊢
    rw [of_decide_eq_true h2]
  · rw [if_neg c, Bool.and_eq_true] at h2
    obtain ⟨h3, h4⟩ := h2
    rw [if_neg c, if_pos (of_decide_eq_true h3), if_pos (of_decide_eq_true h0)]
    by_cases d : zdv a b * b = a
    · rw [if_pos d] at h4 ⊢
      rw [of_decide_eq_true h4]
    · rw [if_neg d] at h4 ⊢
      rw [of_decide_eq_true h4]
theorem fm12 : ∀ x : Fin 1000, fmB ((x.val : Int) - 60) 12 = true := by decide +kernel
theorem fm7 : ∀ x : Fin 128, fmB ((x.val : Int) - 60) 7 = true := by decide +kernel
theorem fd12 : ∀ x : Fin 256, fdB ((x.val : Int) - 60) 12 = true := by decide +kernel
theorem fd7 : ∀ x : Fin 128, fdB ((x.val : Int) - 60) 7 = true := by decide +kernel
theorem C_m12 {K : zK} {a : Int} {F : zF} {B : zB} (h : -60 ≤ a ∧ a < 940) : f_Math_floorMod K a 12 F B = some (a % 12, F, B) := by
  have := fm12 ⟨(a + 60).toNat, (by first | decide | omega)⟩
  rw [show (((⟨(a + 60).toNat, (by first | decide | omega)⟩ : Fin 1000).val : Nat) : Int) - 60 = a by show (((a + 60).toNat : Nat) : Int) - 60 = a; omega] at this
  exact C_fmB (by decide) (by decide) this
theorem C_m7 {K : zK} {a : Int} {F : zF} {B : zB} (h : -60 ≤ a ∧ a < 68) : f_Math_floorMod K a 7 F B = some (a % 7, F, B) := by
  have := fm7 ⟨(a + 60).toNat, (by first | decide | omega)⟩
  rw [show (((⟨(a + 60).toNat, (by first | decide | omega)⟩ : Fin 128).val : Nat) : Int) - 60 = a by show (((a + 60).toNat : Nat) : Int) - 60 = a; omega] at this
  exact C_fmB (by decide) (by decide) this
theorem C_d12 {K : zK} {a : Int} {F : zF} {B : zB} (h : -60 ≤ a ∧ a < 196) : f_Math_floorDiv K a 12 F B = some (a / 12, F, B) := by
  have := fd12 ⟨(a + 60).toNat, (by first | decide | omega)⟩
  rw [show (((⟨(a + 60).toNat, (by first | decide | omega)⟩ : Fin 256).val : Nat) : Int) - 60 = a by show (((a + 60).toNat : Nat) : Int) - 60 = a; omega] at this
  exact C_fdB (by decide) (by decide) this
theorem C_d7 {K : zK} {a : Int} {F : zF} {B : zB} (h : -60 ≤ a ∧ a < 68) : f_Math_floorDiv K a 7 F B = some (a / 7, F, B) := by
  have := fd7 ⟨(a + 60).toNat, (by first | decide | omega)⟩
  rw [show (((⟨(a + 60).toNat, (by first | decide | omega)⟩ : Fin 128).val : Nat) : Int) - 60 = a by show (((a + 60).toNat : Nat) : Int) - 60 = a; omega] at this
  exact C_fdB (by decide) (by decide) this
/-- the natural tone of a letter -/
def ntl (l : Int) : Int := 2 * l - (if l ≤ 2 then 0 else 1)
theorem ntl_t : ztl 5 = 7 ∧ (∀ k : Fin 7, ztv 5 (k.val : Int) = ntl (k.val : Int)) := by decide +kernel
/-- which fifth, letter, alteration and octave a tone has in a key -/
def fiT (f t : Int) : Int := f - 5 + (7 * t - (f - 5)) % 12
def leT (f t : Int) : Int := (4 * fiT f t) % 7
def alT (f t : Int) : Int := (fiT f t + 1) / 7
def ocT (f t : Int) : Int := (t - ntl (leT f t) - alT f t) / 12 - 1
theorem fif_k : ∀ x : Fin 26, (ntl ((4 * ((x.val : Int) - 12)) % 7) + ((x.val : Int) - 12 + 1) / 7 - 7 * ((x.val : Int) - 12)) % 12 = 0 ∧ (-2 ≤ ((x.val : Int) - 12 + 1) / 7 ∧ ((x.val : Int) - 12 + 1) / 7 ≤ 2) := by decide +kernel
theorem fi_p {f t : Int} (hf : -7 ≤ f ∧ f ≤ 7) (ht : 0 ≤ t ∧ t < 128) : (-12 ≤ fiT f t ∧ fiT f t ≤ 13) ∧ (7 * fiT f t - t) % 12 = 0 ∧ (0 ≤ leT f t ∧ leT f t < 7) ∧ (-2 ≤ alT f t ∧ alT f t ≤ 2) ∧ (t - ntl (leT f t) - alT f t) % 12 = 0 ∧ (0 ≤ ntl (leT f t) ∧ ntl (leT f t) ≤ 11) := by
  have a1 : -12 ≤ fiT f t ∧ fiT f t ≤ 13 := by unfold fiT; omega
  have a2 : (7 * fiT f t - t) % 12 = 0 := by unfold fiT; omega
  have a3 : 0 ≤ leT f t ∧ leT f t < 7 := by unfold leT; omega
  have k := fif_k ⟨(fiT f t + 12).toNat, (by first | decide | omega)⟩
  rw [show (((⟨(fiT f t + 12).toNat, (by first | decide | omega)⟩ : Fin 26).val : Nat) : Int) - 12 = fiT f t by show (((fiT f t + 12).toNat : Nat) : Int) - 12 = fiT f t; omega] at k
  have e1 : leT f t = (4 * fiT f t) % 7 := rfl
  have e2 : alT f t = (fiT f t + 1) / 7 := rfl
  rw [← e1, ← e2] at k
  refine ⟨a1, a2, a3, k.2, (by first | decide | omega), ?_⟩
  unfold ntl
  split <;> omega
/-- the class spells a tone: it puts this step in, if there is such an octave -/
theorem C_spl {K : zK} {o f t : Int} {F : zF} {B : zB} (h7 : 0 < K.2 7) (h1 : 0 < K.2 1) (hf : -7 ≤ f ∧ f ≤ 7) (ht : 0 ≤ t ∧ t < 128) (f0 : F 7 0 0 = o ∧ 0 ≤ o ∧ o < K.2 8) (f4 : F 7 0 4 = 0) (b2 : B 8 o 0 2 = f) : f_Scribe_spell K 0 t F B = if 0 ≤ ocT f t ∧ ocT f t ≤ 8 then zbind (f_Event_insert K 0 (7 * ocT f t + leT f t) (alT f t) F B) (fun _ F B => some (0, F, B)) else some (0, F, B) := by
  obtain ⟨a1, a2, a3, a4, a5, a6⟩ := fi_p hf ht
  have e1 : f - 5 + (7 * t - (f - 5)) % 12 = fiT f t := rfl
  have e2 : (4 * fiT f t) % 7 = leT f t := rfl
  have e3 : (fiT f t + 1) / 7 = alT f t := rfl
  have e4 : (t - ntl (leT f t) - alT f t) / 12 - 1 = ocT f t := rfl
  have zt := ntl_t.2 ⟨(leT f t).toNat, (by first | decide | omega)⟩
  rw [show (((⟨(leT f t).toNat, (by first | decide | omega)⟩ : Fin 7).val : Nat) : Int) = leT f t by show (((leT f t).toNat : Nat) : Int) = leT f t; omega] at zt
  unfold f_Scribe_spell f_Scribe_spell_96
  rw [if_pos ⟨(by first | decide | omega), h7⟩, f0.1, if_pos f0.2, b2, C_m12 (by first | decide | omega), zb_s, e1, C_m7 (by first | decide | omega), zb_s, e2, C_d7 (by first | decide | omega), zb_s, e3, ntl_t.1, if_pos a3, zt, C_d12 (by first | decide | omega), zb_s, e4, if_pos (by unfold r32; omega), f4, if_pos (show (0 : Int) ≤ 0 ∧ (0 : Int) < K.2 1 from ⟨(by first | decide | omega), h1⟩)]
  by_cases c : ocT f t < 0
  · rw [if_pos c, if_neg (by first | decide | omega)]
  · rw [if_neg c]
    by_cases d : 8 < ocT f t
    · rw [if_pos d, if_neg (by first | decide | omega)]
    · rw [if_neg d, if_pos (by first | decide | omega)]
/-- the reference finds the fifth -/
theorem L_s10 {Km : Nat} {f t x : Int} {F : zF} {B : zB} (hf : -7 ≤ f ∧ f ≤ 7) (ht : 0 ≤ t ∧ t < 128) : ∀ (d n : Nat) (j : Int), j + d = fiT f t → f - 5 ≤ j → d < n → f_M_spell_10 Km n j x t F B = f_M_spell_53 Km Km 0 (alT f t) (leT f t) x t F B := by
  obtain ⟨a1, a2, a3, a4, a5, a6⟩ := fi_p hf ht
  have e2 : (4 * fiT f t) % 7 = leT f t := rfl
  have e3 : (fiT f t + 1) / 7 = alT f t := rfl
  have e1 : fiT f t = f - 5 + (7 * t - (f - 5)) % 12 := rfl
  intro d
  induction d with
  | zero =>
    intro n j e jl hn
    obtain ⟨p, rfl⟩ : ∃ p, n = p + 1 := ⟨n - 1, (by first | decide | omega)⟩
    have : j = fiT f t := by omega
    subst this
    rw [f_M_spell_10, L_mod (by unfold r32; omega) (by decide) (by decide), zb_s, if_pos (by unfold r32; omega), if_pos a2, L_mod (by unfold r32; omega) (by decide) (by decide), zb_s, L_floor (by unfold r32; omega) (by decide) (by decide), zb_s, e2, e3]
  | succ d ih =>
    intro n j e jl hn
    obtain ⟨p, rfl⟩ : ∃ p, n = p + 1 := ⟨n - 1, (by first | decide | omega)⟩
    rw [f_M_spell_10, L_mod (by unfold r32; omega) (by decide) (by decide), zb_s, if_pos (by unfold r32; omega), if_neg (by first | decide | omega), ih p (j + 1) (by first | decide | omega) (by first | decide | omega) (by first | decide | omega)]
/-- the octaves that don't fit -/
theorem L_s53n {Km : Nat} {f t x : Int} {F : zF} {B : zB} (hf : -7 ≤ f ∧ f ≤ 7) (ht : 0 ≤ t ∧ t < 128) : ∀ (d n : Nat) (j : Int), j + d = 9 → 0 ≤ j → d < n → (ocT f t < j ∨ 8 < ocT f t) → f_M_spell_53 Km n j (alT f t) (leT f t) x t F B = some (0, F, B) := by
  obtain ⟨a1, a2, a3, a4, a5, a6⟩ := fi_p hf ht
  have e4 : ocT f t = (t - ntl (leT f t) - alT f t) / 12 - 1 := rfl
  intro d
  induction d with
  | zero =>
    intro n j e j0 hn ho
    obtain ⟨p, rfl⟩ : ∃ p, n = p + 1 := ⟨n - 1, (by first | decide | omega)⟩
    rw [f_M_spell_53, if_pos (by unfold r32; omega), if_pos (by first | decide | omega)]
  | succ d ih =>
    intro n j e j0 hn ho
    obtain ⟨p, rfl⟩ : ∃ p, n = p + 1 := ⟨n - 1, (by first | decide | omega)⟩
    have s1 : (7 * j + leT f t) / 7 = j := by omega
    have s2 : (7 * j + leT f t) % 7 = leT f t := by omega
    have e5 : 2 * leT f t - (if leT f t ≤ 2 then 0 else 1) = ntl (leT f t) := rfl
    rw [f_M_spell_53, if_pos (by unfold r32; omega), if_neg (by first | decide | omega), L_tone (by first | decide | omega) (by first | decide | omega), zb_s, s1, s2, e5, if_pos (by unfold r32; omega), if_pos (by unfold r32; omega), if_neg (by first | decide | omega), f_M_spell_248, ih p (j + 1) (by first | decide | omega) (by first | decide | omega) (by first | decide | omega) (by first | decide | omega)]
theorem L_s53y {Km : Nat} {f t x w : Int} {F : zF} {B : zB} (hw : F 14 0 6 = w) (h6 : 0 ≤ w ∧ w < 3) (hx : 0 ≤ x ∧ x < 4000) (hf : -7 ≤ f ∧ f ≤ 7) (ht : 0 ≤ t ∧ t < 128) (ho : 0 ≤ ocT f t ∧ ocT f t ≤ 8) : ∀ (d n : Nat) (j : Int), j + d = ocT f t → 0 ≤ j → d < n → ∃ p : Nat, n = p + d + 1 ∧ f_M_spell_53 Km n j (alT f t) (leT f t) x t F B = f_M_spell_106 (f_M_spell_53 Km p) Km Km (6 * x) (6 * x + B 13 w 21 x) (7 * ocT f t + leT f t) (ocT f t) (alT f t) (leT f t) x t F B := by
  obtain ⟨a1, a2, a3, a4, a5, a6⟩ := fi_p hf ht
  have e4 : ocT f t = (t - ntl (leT f t) - alT f t) / 12 - 1 := rfl
  intro d
  induction d with
  | zero =>
    intro n j e j0 hn
    obtain ⟨p, rfl⟩ : ∃ p, n = p + 1 := ⟨n - 1, (by first | decide | omega)⟩
    have : j = ocT f t := by omega
    subst this
    have s1 : (7 * ocT f t + leT f t) / 7 = ocT f t := by omega
    have s2 : (7 * ocT f t + leT f t) % 7 = leT f t := by omega
    have e5 : 2 * leT f t - (if leT f t ≤ 2 then 0 else 1) = ntl (leT f t) := rfl
    refine ⟨p, (by first | decide | omega), ?_⟩
    rw [f_M_spell_53, if_pos (by unfold r32; omega), if_neg (by first | decide | omega), L_tone (by first | decide | omega) (by first | decide | omega), zb_s, s1, s2, e5, if_pos (by unfold r32; omega), if_pos (by unfold r32; omega), if_pos (by first | decide | omega), hw, if_pos h6, if_pos hx]
  | succ d ih =>
    intro n j e j0 hn
    obtain ⟨p, rfl⟩ : ∃ p, n = p + 1 := ⟨n - 1, (by first | decide | omega)⟩
    have s1 : (7 * j + leT f t) / 7 = j := by omega
    have s2 : (7 * j + leT f t) % 7 = leT f t := by omega
    have e5 : 2 * leT f t - (if leT f t ≤ 2 then 0 else 1) = ntl (leT f t) := rfl
    obtain ⟨r, er, h⟩ := ih p (j + 1) (by first | decide | omega) (by first | decide | omega) (by first | decide | omega)
    refine ⟨r, (by first | decide | omega), ?_⟩
    rw [f_M_spell_53, if_pos (by unfold r32; omega), if_neg (by first | decide | omega), L_tone (by first | decide | omega) (by first | decide | omega), zb_s, s1, s2, e5, if_pos (by unfold r32; omega), if_pos (by unfold r32; omega), if_neg (by first | decide | omega), f_M_spell_248, h]
/-- a step that is there already -/
theorem L106y {Km : Nat} {rec' : Int → Int → Int → Int → Int → zF → zB → zO} {F : zF} {B : zB} {w s l6 al le x t h a f : Int} (hw : F 14 0 6 = w) (h6 : 0 ≤ w ∧ w < 3) (hs : r32 s) (hh : 0 ≤ h ∧ h ≤ 24000) (hr : ∀ k, 0 ≤ k → k < h → f ≤ k → r32 (B 13 w 28 k)) (ha : B 13 w 28 a = s) (ah : a < h) : ∀ (j n : Nat) {l : Int}, 0 ≤ l → f ≤ l → l ≤ a → (h - l).toNat = j → j < n → f_M_spell_106 rec' Km n l h s l6 al le x t F B = some (0, F, B) := by
  intro j
  induction j with
  | zero => intro n l l0 lf l1 hj hn; omega
  | succ j ih =>
    intro n l l0 lf l1 hj hn
    obtain ⟨n, rfl⟩ : ∃ m, n = m + 1 := ⟨n - 1, (by first | decide | omega)⟩
    unfold f_M_spell_106
    rw [hw, if_pos (by unfold r32; omega), if_pos (by unfold r32; omega), if_neg (by first | decide | omega), if_pos h6, if_pos (by first | decide | omega), if_pos (hr l (by first | decide | omega) (by first | decide | omega) lf), if_pos hs]
    by_cases c : B 13 w 28 l = s
    · rw [if_pos c]
    · have la : ¬ l = a := fun z => c (by rw [z]; exact ha)
      rw [if_neg c, ih n (by first | decide | omega) (by first | decide | omega) (by first | decide | omega) (by first | decide | omega) (by first | decide | omega)]
theorem L106n {Km : Nat} {rec' : Int → Int → Int → Int → Int → zF → zB → zO} {F : zF} {B : zB} {w s l6 al le x t h f : Int} (hw : F 14 0 6 = w) (h6 : 0 ≤ w ∧ w < 3) (hs : r32 s) (hh : 0 ≤ h ∧ h ≤ 24000) (hr : ∀ k, 0 ≤ k → k < h → f ≤ k → r32 (B 13 w 28 k) ∧ ¬ B 13 w 28 k = s) : ∀ (j n : Nat) {l : Int}, 0 ≤ l → f ≤ l → l ≤ h → (h - l).toNat = j → j < n → f_M_spell_106 rec' Km n l h s l6 al le x t F B = f_M_spell_135 rec' Km Km h s l6 al le x t F B := by
  intro j
  induction j with
  | zero =>
    intro n l l0 lf l1 hj hn
    obtain ⟨n, rfl⟩ : ∃ m, n = m + 1 := ⟨n - 1, (by first | decide | omega)⟩
    unfold f_M_spell_106
    rw [if_pos (by unfold r32; omega), if_pos (by unfold r32; omega), if_pos (by first | decide | omega)]
  | succ j ih =>
    intro n l l0 lf l1 hj hn
    obtain ⟨n, rfl⟩ : ∃ m, n = m + 1 := ⟨n - 1, (by first | decide | omega)⟩
    unfold f_M_spell_106
    rw [hw, if_pos (by unfold r32; omega), if_pos (by unfold r32; omega), if_neg (by first | decide | omega), if_pos h6, if_pos (by first | decide | omega), if_pos (hr l (by first | decide | omega) (by first | decide | omega) lf).1, if_pos hs, if_neg (hr l (by first | decide | omega) (by first | decide | omega) lf).2, ih n (by first | decide | omega) (by first | decide | omega) (by first | decide | omega) (by first | decide | omega) (by first | decide | omega)]
theorem L135 {Km : Nat} {rec' : Int → Int → Int → Int → Int → zF → zB → zO} {F : zF} {w s l6 al le x t a : Int} (hw : F 14 0 6 = w) (h6 : 0 ≤ w ∧ w < 3) (s0 : 0 ≤ s) (s1 : s ≤ 62) (hx : 0 ≤ x ∧ x < 4000) (fa : 6 * x ≤ a) : ∀ (j n : Nat) {l : Int} {B : zB}, l = a + j → l < 24000 → j < n → (∀ k, 6 * x ≤ k → k < l → r32 (B 13 w 28 k)) → (∀ k, a ≤ k → k < l → s < B 13 w 28 k) → (a = 6 * x ∨ B 13 w 28 (a - 1) ≤ s) → ∃ B', f_M_spell_135 rec' Km n l s l6 al le x t F B = rec' (l6 + 1) al le x t F B' ∧ (∀ k, B' 13 w 28 k = shf a l s (B 13 w 28) k) ∧ (∀ k, B' 13 w 29 k = shf a l al (B 13 w 29) k) ∧ B' 13 w 21 x = B 13 w 21 x + 1 ∧ ∀ c i k y, ¬ (c = 13 ∧ i = w ∧ (k = 28 ∨ k = 29 ∨ (k = 21 ∧ y = x))) → B' c i k y = B c i k y := by
  intro j
  induction j with
  | zero =>
    intro n l B hl h5 hn hr hg hm
    obtain ⟨n, rfl⟩ : ∃ m, n = m + 1 := ⟨n - 1, (by first | decide | omega)⟩
    have hl : l = a := by omega
    subst hl
    have e99 : f_M_spell_135 rec' Km (n + 1) l s l6 al le x t F B = f_M_spell_211 rec' Km l s l6 al le x t F B := by
      unfold f_M_spell_135
      rw [hw, if_pos (by unfold r32; omega), if_pos (by unfold r32; omega)]
      by_cases c : l ≤ 6 * x
      · rw [if_pos c]
      · rw [if_neg c, if_pos h6, if_pos (by first | decide | omega), if_pos (hr (l - 1) (by first | decide | omega) (by first | decide | omega)), if_pos (by unfold r32; omega), if_pos (by first | decide | omega)]
    refine ⟨_, by rw [e99]; unfold f_M_spell_211 f_M_spell_248; rw [hw, if_pos h6, if_pos (by first | decide | omega), if_pos hx], ?_, ?_, ?_, ?_⟩
    · exact fun k => shf_0 (fun k h => by rw [zup4_v, if_neg (by first | decide | omega), zup4_v, if_neg (by first | decide | omega), zup4_v, if_neg (by first | decide | omega)]) (by rw [zup4_v, if_neg (by first | decide | omega), zup4_v, if_neg (by first | decide | omega), zup4_v, if_pos (by first | decide | omega)]) k
    · exact fun k => shf_0 (fun k h => by rw [zup4_v, if_neg (by first | decide | omega), zup4_v, if_neg (by first | decide | omega), zup4_v, if_neg (by first | decide | omega)]) (by rw [zup4_v, if_neg (by first | decide | omega), zup4_v, if_pos (by first | decide | omega)]) k
    · rw [zup4_v, if_pos (by first | decide | omega), zup4_v, if_neg (by first | decide | omega), zup4_v, if_neg (by first | decide | omega)]
    · intro c i k y h
      rw [zup4_v, if_neg (by first | decide | omega), zup4_v, if_neg (by first | decide | omega), zup4_v, if_neg (by first | decide | omega)]
  | succ j ih =>
    intro n l B hl h5 hn hr hg hm
    obtain ⟨n, rfl⟩ : ∃ m, n = m + 1 := ⟨n - 1, (by first | decide | omega)⟩
    have e : ∀ k, ¬ k = l → (zup4 (zup4 B 13 w 28 l (B 13 w 28 (l - 1))) 13 w 29 l ((zup4 B 13 w 28 l (B 13 w 28 (l - 1))) 13 w 29 (l - 1))) 13 w 28 k = B 13 w 28 k := fun k h => by rw [zup4_v, if_neg (by first | decide | omega), zup4_v, if_neg (by first | decide | omega)]
    obtain ⟨B', h, g1, g2, g3, g4⟩ := ih n (l := l - 1) (B := zup4 (zup4 B 13 w 28 l (B 13 w 28 (l - 1))) 13 w 29 l ((zup4 B 13 w 28 l (B 13 w 28 (l - 1))) 13 w 29 (l - 1))) (by first | decide | omega) (by first | decide | omega) (by first | decide | omega) (fun k p q => by rw [e k (by first | decide | omega)]; exact hr k p (by first | decide | omega)) (fun k p q => by rw [e k (by first | decide | omega)]; exact hg k p (by first | decide | omega)) (by rw [e (a - 1) (by first | decide | omega)]; exact hm)
    have gl := hg (l - 1) (by first | decide | omega) (by first | decide | omega)
    refine ⟨B', ?_, ?_, ?_, ?_, ?_⟩
    · unfold f_M_spell_135
      rw [hw, if_pos (by unfold r32; omega), if_pos (by unfold r32; omega), if_neg (by first | decide | omega), if_pos h6, if_pos (by first | decide | omega), if_pos (hr (l - 1) (by first | decide | omega) (by first | decide | omega)), if_pos (by unfold r32; omega), if_neg (by first | decide | omega), if_pos (by first | decide | omega), h]
    · intro k
      rw [g1, shf_s (g := B 13 w 28) (by first | decide | omega) e (by rw [zup4_v, if_neg (by first | decide | omega), zup4_v, if_pos (by first | decide | omega)])]
    · intro k
      rw [g2, shf_s (g := B 13 w 29) (by first | decide | omega) (fun k h => by rw [zup4_v, if_neg (by first | decide | omega), zup4_v, if_neg (by first | decide | omega)]) (by rw [zup4_v, if_pos (by first | decide | omega), zup4_v, if_neg (by first | decide | omega)])]
    · rw [g3, zup4_v, if_neg (by first | decide | omega), zup4_v, if_neg (by first | decide | omega)]
    · intro c i k y h
      rw [g4 c i k y h, zup4_v, if_neg (by first | decide | omega), zup4_v, if_neg (by first | decide | omega)]
end

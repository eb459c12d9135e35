section
section
/-! ===== study: chords, class ===== -/
theorem zand63 (x : Int) : zand x 63 = x % 64 := by
  have h : (iI x &&& iI 63).toBitVec = BitVec.ofInt 32 x &&& 63#32 := rfl
  have hn : (BitVec.ofInt 32 x &&& 63#32).toNat = (x % 64).toNat := by
    rw [BitVec.toNat_and, BitVec.toNat_ofInt]
    show (x % (2 ^ 32 : Nat)).toNat &&& 63 = _
    rw [show (x % (2 ^ 32 : Nat)).toNat &&& 63 = (x % (2 ^ 32 : Nat)).toNat % 64 from Nat.and_two_pow_sub_one_eq_mod _ 6]
    omega
  show (iI x &&& iI 63).toBitVec.toInt = x % 64
  rw [h, BitVec.toInt_eq_toNat_of_lt (by rw [hn]; omega), hn]
  omega
theorem zand63_b (x : Int) : 0 ≤ zand x 63 ∧ zand x 63 ≤ 63 := by rw [zand63]; omega
theorem zt5_f : ztl 5 = 7 ∧ (∀ k : Fin 7, 0 ≤ ztv 5 (k.val : Int) ∧ ztv 5 (k.val : Int) ≤ 11) := by decide +kernel
theorem zt5_v {x : Int} (h0 : 0 ≤ x) (h1 : x < 7) : 0 ≤ ztv 5 x ∧ ztv 5 x ≤ 11 := by
  have k := zt5_f.2 ⟨x.toNat, (by first | decide | omega)⟩
  rw [show (((⟨x.toNat, (by first | decide | omega)⟩ : Fin 7).val : Nat) : Int) = x by show ((x.toNat : Nat) : Int) = x; omega] at k
  exact k
theorem zt16_f : ztl 16 = 16 ∧ ztl 17 = 16 ∧ (∀ k : Fin 16, r32 (ztv 16 (k.val : Int)) ∧ 0 ≤ ztv 17 (k.val : Int) ∧ ztv 17 (k.val : Int) ≤ 9) := by decide +kernel
theorem zt16_v {x : Int} (h0 : 0 ≤ x) (h1 : x < 16) : r32 (ztv 16 x) ∧ 0 ≤ ztv 17 x ∧ ztv 17 x ≤ 9 := by
  have k := zt16_f.2.2 ⟨x.toNat, (by first | decide | omega)⟩
  rw [show (((⟨x.toNat, (by first | decide | omega)⟩ : Fin 16).val : Nat) : Int) = x by show ((x.toNat : Nat) : Int) = x; omega] at k
  exact k
section
variable {K : zK} {V p t : Int} {F : zF} {B : zB}
theorem C_bit (x : Int) : ∃ r, f_Integer_bitCount K x F B = some (r, F, B) ∧ 0 ≤ r ∧ r ≤ 63 := ⟨_, rfl, zand63_b _⟩
theorem C_alt {l : Int} (ht : 0 ≤ t ∧ t < K.2 9) (hl : 0 ≤ l ∧ l < 7) : ∃ r, f_Study_alterationOf K t l F B = some (r, F, B) ∧ -2 ≤ r ∧ r ≤ 61 := by
  obtain ⟨r, e, r0, r1⟩ := C_bit (K := K) (F := F) (B := B) (B 9 t 10 l - 1)
  unfold f_Study_alterationOf
  rw [if_pos ht, if_pos hl, e, zb_s]
  exact ⟨_, rfl, (by first | decide | omega), (by first | decide | omega)⟩
theorem C_tonA {a b : Int} (ht : 0 ≤ t ∧ t < K.2 9) (hS : SBb t B) (ha : 0 ≤ a ∧ a < 7) (hb : 0 ≤ b ∧ b ≤ 6) : ∃ r, f_Study_tonesAbove K t a b F B = some (r, F, B) ∧ -12 ≤ r ∧ r ≤ 99 := by
  have ez : zrm (a + b) 7 = (a + b) % 7 := zrm_e (by first | decide | omega) (by unfold r32; omega) (by decide) (by decide)
  have q : 0 ≤ (a + b) % 7 ∧ (a + b) % 7 < 7 := by omega
  unfold f_Study_tonesAbove
  rw [ez]
  generalize (a + b) % 7 = i at q ⊢
  have s10 := (hS.2.2 i).2.2.2.2.2
  rw [if_pos ht, if_pos q, if_pos s10]
  by_cases c : B 9 t 10 i = 0
  · rw [if_pos c]; exact ⟨99, rfl, (by first | decide | omega), (by first | decide | omega)⟩
  obtain ⟨r, e, r0, r1⟩ := C_alt (F := F) (B := B) ht q
  obtain ⟨s, e', s0, s1⟩ := C_alt (F := F) (B := B) ht ha
  have z1 := zt5_v q.1 q.2
  have z2 := zt5_v ha.1 ha.2
  obtain ⟨m, F', B', em, rfl, rfl, m0, m1⟩ := s_fm (K := K) (a := ztv 5 i + r - ztv 5 a - s) (b := 12) (F := F) (B := B) (by unfold r32; omega) (by decide) (by decide)
  rw [if_neg c, zt5_f.1, if_pos q, e, zb_s, if_pos ha, e', zb_s, em, zb_s]
  exact ⟨m, rfl, (by first | decide | omega), (by first | decide | omega)⟩
theorem C_ck88 {v : Int} (hv : r32 v) : ∀ (d N : Nat) (i : Int), i + d = 16 → 0 ≤ i → d < N → ∃ r, f_Study_chordKind_88 K N i v F B = some (r, F, B) ∧ -1 ≤ r ∧ r ≤ 9 := by
  intro d
  induction d with
  | zero =>
    intro N i hi i0 hN
    obtain ⟨n, rfl⟩ : ∃ n, N = n + 1 := ⟨N - 1, (by first | decide | omega)⟩
    rw [f_Study_chordKind_88, zt16_f.1, if_pos (by unfold r32; omega), if_pos (by decide), if_pos (by first | decide | omega)]
    exact ⟨-1, rfl, (by first | decide | omega), (by first | decide | omega)⟩
  | succ d ih =>
    intro N i hi i0 hN
    obtain ⟨n, rfl⟩ : ∃ n, N = n + 1 := ⟨N - 1, (by first | decide | omega)⟩
    have z := zt16_v i0 (by first | decide | omega)
    rw [f_Study_chordKind_88, zt16_f.1, zt16_f.2.1, if_pos (by unfold r32; omega), if_pos (by decide), if_neg (by first | decide | omega), if_pos (by first | decide | omega), if_pos z.1, if_pos hv]
    by_cases c : ztv 16 i = v
    · rw [if_pos c, if_pos (by first | decide | omega)]; exact ⟨_, rfl, (by first | decide | omega), z.2.2⟩
    · rw [if_neg c]; exact ih n (i + 1) (by first | decide | omega) (by first | decide | omega) (by first | decide | omega)
theorem C_ck2 {a : Int} (hK : 60000 ≤ K.1) (ht : 0 ≤ t ∧ t < K.2 9) (hS : SBb t B) (ha : 0 ≤ a ∧ a < 7) : ∀ (d N : Nat) (i : Int), i + d = 7 → 0 ≤ i → d < N → ∃ r, f_Study_chordKind_2 K N i t a F B = some (r, F, B) ∧ -1 ≤ r ∧ r ≤ 9 := by
  intro d
  induction d with
  | zero =>
    intro N i hi i0 hN
    obtain ⟨n, rfl⟩ : ∃ n, N = n + 1 := ⟨N - 1, (by first | decide | omega)⟩
    have s10 := (hS.2.2 a).2.2.2.2.2
    rw [f_Study_chordKind_2, if_pos (by unfold r32; omega), if_pos (by first | decide | omega), if_pos ht, if_pos ha, if_pos s10]
    by_cases c : B 9 t 10 a = 0
    · rw [if_pos c]; exact ⟨-1, rfl, (by first | decide | omega), (by first | decide | omega)⟩
    obtain ⟨r1, e1, a1, b1⟩ := C_tonA (F := F) ht hS ha (b := 2) (by first | decide | omega)
    obtain ⟨r2, e2, a2, b2⟩ := C_tonA (F := F) ht hS ha (b := 4) (by first | decide | omega)
    obtain ⟨r3, e3, a3, b3⟩ := C_tonA (F := F) ht hS ha (b := 6) (by first | decide | omega)
    rw [if_neg c, e1, zb_s, e2, zb_s, e3, zb_s]
    exact C_ck88 (by unfold r32; omega) 16 K.1 0 (by first | decide | omega) (by decide) (by first | decide | omega)
  | succ d ih =>
    intro N i hi i0 hN
    obtain ⟨n, rfl⟩ : ∃ n, N = n + 1 := ⟨N - 1, (by first | decide | omega)⟩
    have o19 : ∀ s, (s = 0 ∨ s = 1) → ∃ r, f_Study_chordKind_19 (f_Study_chordKind_2 K n) K i t a s F B = some (r, F, B) ∧ -1 ≤ r ∧ r ≤ 9 := fun s hs => by
      have ez : zrm (a + i) 7 = (a + i) % 7 := zrm_e (by first | decide | omega) (by unfold r32; omega) (by decide) (by decide)
      obtain ⟨r, e, r0, r1⟩ := C_bit (K := K) (F := F) (B := B) (B 9 t 10 ((a + i) % 7))
      unfold f_Study_chordKind_19
      rw [ez, if_pos ht, if_pos (by first | decide | omega), e, zb_s, if_pos (by unfold r32; omega), if_pos (by unfold r32; omega)]
      by_cases c : r ≤ s
      · rw [if_pos c]; exact ih n (i + 1) (by first | decide | omega) (by first | decide | omega) (by first | decide | omega)
      · rw [if_neg c]; exact ⟨-1, rfl, (by first | decide | omega), (by first | decide | omega)⟩
    rw [f_Study_chordKind_2, if_pos (by unfold r32; omega), if_neg (by first | decide | omega), if_pos (zrm_R _ _)]
    by_cases c : zrm i 2 = 0
    · rw [if_pos c]; exact o19 1 (Or.inr rfl)
    · rw [if_neg c]; exact o19 0 (Or.inl rfl)
theorem C_isFo (hK : 60000 ≤ K.1) (h : PQs K V p F B) (ht : 0 ≤ t ∧ t < K.2 9) : ∀ (d N : Nat) (i : Int), i + d = 7 → 0 ≤ i → d < N → ∃ r, f_Study_isForeign_2 K N i t p F B = some (r, F, B) ∧ (r = 0 ∨ r = 1) := by
  intro d
  induction d with
  | zero =>
    intro N i hi i0 hN
    obtain ⟨n, rfl⟩ : ∃ n, N = n + 1 := ⟨N - 1, (by first | decide | omega)⟩
    rw [f_Study_isForeign_2, if_pos (by unfold r32; omega), if_pos (by first | decide | omega)]
    exact ⟨0, rfl, Or.inl rfl⟩
  | succ d ih =>
    intro N i hi i0 hN
    obtain ⟨n, rfl⟩ : ∃ n, N = n + 1 := ⟨N - 1, (by first | decide | omega)⟩
    obtain ⟨r, e, _⟩ := C_key (K := K) (F := F) (B := B) h.2.2.1 (s := i) i0 (by first | decide | omega)
    rw [f_Study_isForeign_2, if_pos (by unfold r32; omega), if_neg (by first | decide | omega), if_pos h.1, e, zb_s, if_pos ht, if_pos (by first | decide | omega), if_pos (zand_R _ _)]
    by_cases c : zand (B 9 t 10 i) (zxor (zshl 1 (r + 2)) (-1)) = 0
    · rw [if_pos c]; exact ih n (i + 1) (by first | decide | omega) (by first | decide | omega) (by first | decide | omega)
    · rw [if_neg c]; exact ⟨1, rfl, Or.inr rfl⟩
theorem C_bs32 {e u j : Int} {rec : Int → Int → Int → Int → Int → Int → zF → zB → zO} {Q : zO → Prop} (he : e < 0 ∨ EKc K e F B) (go : ∀ a b, (0 ≤ a ∧ a ≤ 62) → (0 ≤ b ∧ b ≤ 1000) → Q (rec (u + 1) a b t p j F B)) : ∀ (d N : Nat) (i a b : Int), (0 ≤ e → i + d = F 1 e 10) → (e < 0 → d = 0) → 0 ≤ i → d < N → (0 ≤ a ∧ a ≤ 62) → (0 ≤ b ∧ b ≤ 1000) → Q (f_Study_bassLetter_32 rec K N i e u a b t p j F B) := by
  intro d
  induction d with
  | zero =>
    intro N i a b hi hd i0 hN ha hb
    obtain ⟨n, rfl⟩ : ∃ n, N = n + 1 := ⟨N - 1, (by first | decide | omega)⟩
    rw [f_Study_bassLetter_32]
    rcases he with z | ek
    · rw [if_pos z]; exact go a b ha hb
    · have k := ek.1
      have k10 := ek.2.1
      have := hi k.1
      rw [if_neg (by first | decide | omega), if_pos ek.1, if_pos (by unfold r32; omega), if_pos (by unfold r32; omega), if_pos (by first | decide | omega)]
      exact go a b ha hb
  | succ d ih =>
    intro N i a b hi hd i0 hN ha hb
    obtain ⟨n, rfl⟩ : ∃ n, N = n + 1 := ⟨N - 1, (by first | decide | omega)⟩
    rw [f_Study_bassLetter_32]
    rcases he with z | ek
    · have := hd z; omega
    have k := ek.1
    have k10 := ek.2.1
    have hi' := hi k.1
    have kx := ek.2.2 i i0 (by first | decide | omega)
    have tb := tnv_r kx.1.1 kx.1.2 kx.2.1 kx.2.2
    have et := C_tone (K := K) (F := F) (B := B) (e := e) (k := i) ek.1 (by first | decide | omega) kx.1
    have nx : ∀ a b, (0 ≤ a ∧ a ≤ 62) → (0 ≤ b ∧ b ≤ 1000) → Q (f_Study_bassLetter_94 rec (f_Study_bassLetter_32 rec K n) K i e u a b t p j F B) := fun a b ha hb => ih n (i + 1) a b (fun _ => (by first | decide | omega)) (fun z => (by first | decide | omega)) (by first | decide | omega) (by first | decide | omega) ha hb
    have o81 : Q (f_Study_bassLetter_81 rec (f_Study_bassLetter_32 rec K n) K (tnv (B 1 e 12 i) + B 1 e 13 i) i e u t p j F B) := by
      unfold f_Study_bassLetter_81
      rw [if_pos ek.1, if_pos (by first | decide | omega)]
      exact nx _ _ kx.1 (by first | decide | omega)
    rw [if_neg (by first | decide | omega), if_pos ek.1, if_pos (by unfold r32; omega), if_pos (by unfold r32; omega), if_neg (by first | decide | omega), et, zb_s, if_pos (by unfold r32; omega), if_pos (by unfold r32; omega)]
    by_cases c1 : tnv (B 1 e 12 i) + B 1 e 13 i < b
    · rw [if_pos c1]; exact o81
    rw [if_neg c1]
    by_cases c2 : tnv (B 1 e 12 i) + B 1 e 13 i = b
    · rw [if_pos c2, if_pos (by first | decide | omega), if_pos (by unfold r32; omega), if_pos (by unfold r32; omega)]
      by_cases c3 : a ≤ B 1 e 12 i
      · rw [if_pos c3]; exact nx a b ha hb
      · rw [if_neg c3]; exact o81
    · rw [if_neg c2]; exact nx a b ha hb
theorem C_bs10 {j : Int} (hK : 60000 ≤ K.1) (h : PQs K V p F B) (ht : 0 ≤ t ∧ t < K.2 9) (hS : SBb t B) (hj : 0 ≤ j ∧ j < 800) : ∀ (d N : Nat) (u a b : Int), u + d = V → 0 ≤ u → d < N → (0 ≤ a ∧ a ≤ 62) → (0 ≤ b ∧ b ≤ 1000) → ∃ r, f_Study_bassLetter_10 K N u a b t p j F B = some (r, F, B) ∧ 0 ≤ r ∧ r ≤ 6 := by
  have hV := h.2.1
  intro d
  induction d with
  | zero =>
    intro N u a b hu u0 hN ha hb
    obtain ⟨n, rfl⟩ : ∃ n, N = n + 1 := ⟨N - 1, (by first | decide | omega)⟩
    rw [f_Study_bassLetter_10, if_pos h.1, if_pos (by unfold r32; omega), if_pos (by unfold r32; omega), if_pos (by first | decide | omega), zrm_e ha.1 (by unfold r32; omega) (by decide) (by decide)]
    exact ⟨_, rfl, (by first | decide | omega), (by first | decide | omega)⟩
  | succ d ih =>
    intro N u a b hu u0 hN ha hb
    obtain ⟨n, rfl⟩ : ∃ n, N = n + 1 := ⟨N - 1, (by first | decide | omega)⟩
    obtain ⟨r, e, hr⟩ := C_evO h ht hS u0 (by first | decide | omega) hj
    rw [f_Study_bassLetter_10, if_pos h.1, if_pos (by unfold r32; omega), if_pos (by unfold r32; omega), if_neg (by first | decide | omega), if_pos ht, e, zb_s]
    have he : r < 0 ∨ EKc K r F B := by
      rcases hr with z | z
      · exact Or.inl (by first | decide | omega)
      · exact Or.inr z.1
    have k10 : 0 ≤ r → 0 ≤ F 1 r 10 ∧ F 1 r 10 ≤ 6 := fun z => by
      rcases he with y | y
      · omega
      · exact y.2.1
    by_cases z : r < 0
    · exact C_bs32 (Q := fun x => ∃ r, x = some (r, F, B) ∧ 0 ≤ r ∧ r ≤ 6) (rec := f_Study_bassLetter_10 K n) he (fun a b ha hb => ih n (u + 1) a b (by first | decide | omega) (by first | decide | omega) (by first | decide | omega) ha hb) 0 K.1 0 a b (fun y => (by first | decide | omega)) (fun _ => rfl) (by decide) (by first | decide | omega) ha hb
    · have k := k10 (by first | decide | omega)
      exact C_bs32 (Q := fun x => ∃ r, x = some (r, F, B) ∧ 0 ≤ r ∧ r ≤ 6) (rec := f_Study_bassLetter_10 K n) he (fun a b ha hb => ih n (u + 1) a b (by first | decide | omega) (by first | decide | omega) (by first | decide | omega) ha hb) (F 1 r 10).toNat K.1 0 a b (fun y => (by first | decide | omega)) (fun y => (by first | decide | omega)) (by decide) (by first | decide | omega) ha hb
theorem C_ton (h : PQs K V p F B) : ∃ r, f_Study_tonic K p F B = some (r, F, B) ∧ -7 < r ∧ r < 14 := by
  have h2 := h.2.2.1
  have h3 := h.2.2.2.1
  have key : ∀ a b, r32 (a + b) → ∃ r, f_Study_tonic_19 K a b F B = some (r, F, B) ∧ -7 < r ∧ r < 14 := fun a b hab => by
    obtain ⟨m, F', B', em, rfl, rfl, m0, m1⟩ := s_fm (K := K) (a := a + b) (b := 7) (F := F) (B := B) hab (by decide) (by decide)
    unfold f_Study_tonic_19
    rw [em, zb_s]
    exact ⟨m, rfl, (by first | decide | omega), (by first | decide | omega)⟩
  unfold f_Study_tonic
  rw [if_pos h.1, if_pos (by unfold r32; omega)]
  by_cases c : F 6 p 3 = 1
  · rw [if_pos c]; exact key _ _ (by unfold r32; omega)
  · rw [if_neg c]; exact key _ _ (by unfold r32; omega)
theorem C_ct15 {j l3 : Int} (hK : 60000 ≤ K.1) (h : PQs K V p F B) (ht : 0 ≤ t ∧ t < K.2 9) (hS : SBb t B) (hj : 0 ≤ j ∧ j < 800) (h3 : r32 l3) : ∀ (d N : Nat) (i a b : Int), i + d = 7 → 0 ≤ i → d < N → (-1 ≤ a ∧ a ≤ 6) → (0 ≤ b ∧ b ≤ 100 * i) → zR (f_Study_chordTold_15 K N i a b t p j l3 F B) F B := by
  have hV := h.2.1
  intro d
  induction d with
  | zero =>
    intro N i a b hi i0 hN ha hb
    obtain ⟨n, rfl⟩ : ∃ n, N = n + 1 := ⟨N - 1, (by first | decide | omega)⟩
    rw [f_Study_chordTold_15, if_pos (by unfold r32; omega), if_pos (by first | decide | omega)]
    unfold f_Study_chordTold_89 f_Study_chordTold_189
    refine zR_g h3 (zR_i (fun _ => zR_g (by unfold r32; omega) zR_s) (fun _ => zR_g (by unfold r32; omega) (zR_i (fun _ => zR_i (fun _ => zR_s) (fun _ => zR_s)) (fun na => zR_i (fun _ => zR_g ht ?_) (fun _ => zR_i (fun _ => zR_s) (fun _ => zR_i (fun _ => zR_g ht ?_) (fun _ => zR_i (fun _ => zR_g ht ?_) (fun _ => zR_i (fun _ => ?_) (fun _ => zR_g ht ?_)))))))))
    · obtain ⟨r, e, r0, r1⟩ := C_ck2 (a := a) (F := F) hK ht hS (by first | decide | omega) 7 K.1 0 (by first | decide | omega) (by decide) (by first | decide | omega)
      have e' : f_Study_chordKind K t a F B = some (r, F, B) := e
      rw [e', zb_s]
      exact zR_g (by unfold r32; omega) zR_s
    · obtain ⟨r, e, r0, r1⟩ := C_alt (F := F) (B := B) ht (l := a) (by first | decide | omega)
      rw [e, zb_s]
      exact zR_g (by unfold r32; omega) zR_s
    · obtain ⟨r, e, r0, r1⟩ := C_bs10 hK h ht hS hj V.toNat K.1 0 0 1000 (by first | decide | omega) (by decide) (by first | decide | omega) (by first | decide | omega) (by first | decide | omega)
      have e' : f_Study_bassLetter K t p j F B = some (r, F, B) := e
      obtain ⟨m, F', B', em, rfl, rfl, m0, m1⟩ := s_fm (K := K) (a := r - a) (b := 7) (F := F) (B := B) (by unfold r32; omega) (by decide) (by decide)
      rw [e', zb_s, em, zb_s]
      exact zR_g (zdv_R _ _) zR_s
    · obtain ⟨r, e, r0, r1⟩ := C_ton h
      obtain ⟨m, F', B', em, rfl, rfl, m0, m1⟩ := s_fm (K := K) (a := a - r) (b := 7) (F := F) (B := B) (by unfold r32; omega) (by decide) (by decide)
      rw [e, zb_s, em, zb_s]
      exact zR_g (by unfold r32; omega) zR_s
    · obtain ⟨r, e, r01⟩ := C_isFo hK h ht 7 K.1 0 (by first | decide | omega) (by decide) (by first | decide | omega)
      have e' : f_Study_isForeign K t p F B = some (r, F, B) := e
      rw [e', zb_s]
      exact zR_g (by unfold r32; omega) (zR_i (fun _ => zR_s) (fun _ => zR_s))
  | succ d ih =>
    intro N i a b hi i0 hN ha hb
    obtain ⟨n, rfl⟩ : ∃ n, N = n + 1 := ⟨N - 1, (by first | decide | omega)⟩
    obtain ⟨r, e, r0, r1⟩ := C_bit (K := K) (F := F) (B := B) (B 9 t 10 i)
    obtain ⟨s, e2, s0, s1⟩ := C_ck2 (a := i) (F := F) hK ht hS (by first | decide | omega) 7 K.1 0 (by first | decide | omega) (by decide) (by first | decide | omega)
    have e2' : f_Study_chordKind K t i F B = some (s, F, B) := e2
    rw [f_Study_chordTold_15, if_pos (by unfold r32; omega), if_neg (by first | decide | omega), if_pos ht, if_pos (by first | decide | omega), e, zb_s, e2', zb_s, if_pos (by unfold r32; omega)]
    unfold f_Study_chordTold_54
    exact zR_i (fun _ => ih n (i + 1) a (b + r) (by first | decide | omega) (by first | decide | omega) (by first | decide | omega) ha (by first | decide | omega)) (fun _ => ih n (i + 1) i (b + r) (by first | decide | omega) (by first | decide | omega) (by first | decide | omega) (by first | decide | omega) (by first | decide | omega))
end
section
variable {K : zK} {V p t : Int} {F : zF}
def stT (t : Int) (B B' : zB) : Prop := ∀ c y k x, ¬ (c = 9 ∧ y = t ∧ k = 10) → B' c y k x = B c y k x
theorem stT_r {t : Int} {B : zB} : stT t B B := fun _ _ _ _ _ => rfl
theorem stT_t {t : Int} {B B1 B2 : zB} (h : stT t B B1) (h' : stT t B1 B2) : stT t B B2 := fun c y k x n => by rw [h' c y k x n, h c y k x n]
theorem stT_w {t i x : Int} {B : zB} : stT t B (zup4 B 9 t 10 i x) := fun c y j z n => by rw [zup4_v, if_neg (by first | decide | omega)]
theorem stT_B {t : Int} {B B' : zB} (h : stT t B B') : stB t B B' := fun c y k x n => h c y k x (by first | decide | omega)
theorem C_tc43 {e u j : Int} {B0 : zB} {rec : Int → Int → Int → Int → zF → zB → zO} {Q : zO → Prop} (ht : 0 ≤ t ∧ t < K.2 9) (he : e < 0 ∨ EKc K e F B0) (go : ∀ B, stT t B0 B → SBb t B → Q (rec (u + 1) t p j F B)) : ∀ (d N : Nat) (i : Int) (B : zB), (0 ≤ e → i + d = F 1 e 10) → (e < 0 → d = 0) → 0 ≤ i → d < N → stT t B0 B → SBb t B → Q (f_Study_takeClasses_43 rec K N i e u t p j F B) := by
  intro d
  induction d with
  | zero =>
    intro N i B hi hd i0 hN b hS
    obtain ⟨n, rfl⟩ : ∃ n, N = n + 1 := ⟨N - 1, (by first | decide | omega)⟩
    rw [f_Study_takeClasses_43]
    rcases he with z | ek
    · rw [if_pos z]; exact go B b hS
    · have k := ek.1
      have k10 := ek.2.1
      have := hi k.1
      rw [if_neg (by first | decide | omega), if_pos ek.1, if_pos (by unfold r32; omega), if_pos (by unfold r32; omega), if_pos (by first | decide | omega)]
      exact go B b hS
  | succ d ih =>
    intro N i B hi hd i0 hN b hS
    obtain ⟨n, rfl⟩ : ∃ n, N = n + 1 := ⟨N - 1, (by first | decide | omega)⟩
    rw [f_Study_takeClasses_43]
    rcases he with z | ek
    · have := hd z; omega
    have k := ek.1
    have k10 := ek.2.1
    have hi' := hi k.1
    have kx := ek.2.2 i i0 (by first | decide | omega)
    have e12 : B 1 e 12 i = B0 1 e 12 i := b 1 e 12 i (by first | decide | omega)
    have ez : zrm (B 1 e 12 i) 7 = B0 1 e 12 i % 7 := by rw [e12]; exact zrm_e kx.1.1 (by unfold r32; omega) (by decide) (by decide)
    rw [if_neg (by first | decide | omega), if_pos ek.1, if_pos (by unfold r32; omega), if_pos (by unfold r32; omega), if_neg (by first | decide | omega), if_pos ht, if_pos (by first | decide | omega), ez, if_pos (by first | decide | omega)]
    exact ih n (i + 1) _ (fun _ => (by first | decide | omega)) (fun z => (by first | decide | omega)) (by first | decide | omega) (by first | decide | omega) (stT_t b stT_w) (SB_w hS (by first | decide | omega) (by first | decide | omega) (by first | decide | omega) (by first | decide | omega) (fun _ => toI_r _))
theorem C_tc23 {j : Int} {B0 : zB} (hK : 60000 ≤ K.1) (h : PQs K V p F B0) (ht : 0 ≤ t ∧ t < K.2 9) (hj : 0 ≤ j ∧ j < 800) : ∀ (d N : Nat) (u : Int) (B : zB), u + d = V → 0 ≤ u → d < N → stT t B0 B → SBb t B → ∃ B', f_Study_takeClasses_23 K N u t p j F B = some (0, F, B') ∧ stT t B0 B' ∧ SBb t B' := by
  have hV := h.2.1
  intro d
  induction d with
  | zero =>
    intro N u B hu u0 hN b hS
    obtain ⟨n, rfl⟩ : ∃ n, N = n + 1 := ⟨N - 1, (by first | decide | omega)⟩
    rw [f_Study_takeClasses_23, if_pos h.1, if_pos (by unfold r32; omega), if_pos (by unfold r32; omega), if_pos (by first | decide | omega)]
    exact ⟨B, rfl, b, hS⟩
  | succ d ih =>
    intro N u B hu u0 hN b hS
    obtain ⟨n, rfl⟩ : ∃ n, N = n + 1 := ⟨N - 1, (by first | decide | omega)⟩
    obtain ⟨r, e, hr⟩ := C_evO (PKs_f h stF_r (stT_B b)) ht hS u0 (by first | decide | omega) hj
    rw [f_Study_takeClasses_23, if_pos h.1, if_pos (by unfold r32; omega), if_pos (by unfold r32; omega), if_neg (by first | decide | omega), if_pos ht, e, zb_s]
    have he : r < 0 ∨ EKc K r F B0 := by
      rcases hr with z | z
      · exact Or.inl (by first | decide | omega)
      · refine Or.inr ?_
        have ek := z.1
        unfold EKc at *
        simp only [b 1 r 12 _ (by first | decide | omega), b 1 r 13 _ (by first | decide | omega)] at ek
        exact ek
    have k10 : 0 ≤ r → 0 ≤ F 1 r 10 ∧ F 1 r 10 ≤ 6 := fun z => by
      rcases he with y | y
      · omega
      · exact y.2.1
    by_cases z : r < 0
    · exact C_tc43 (Q := fun x => ∃ B', x = some (0, F, B') ∧ stT t B0 B' ∧ SBb t B') (rec := f_Study_takeClasses_23 K n) ht he (fun B b hS => ih n (u + 1) B (by first | decide | omega) (by first | decide | omega) (by first | decide | omega) b hS) 0 K.1 0 B (fun y => (by first | decide | omega)) (fun _ => rfl) (by decide) (by first | decide | omega) b hS
    · have k := k10 (by first | decide | omega)
      exact C_tc43 (Q := fun x => ∃ B', x = some (0, F, B') ∧ stT t B0 B' ∧ SBb t B') (rec := f_Study_takeClasses_23 K n) ht he (fun B b hS => ih n (u + 1) B (by first | decide | omega) (by first | decide | omega) (by first | decide | omega) b hS) (F 1 r 10).toNat K.1 0 B (fun y => (by first | decide | omega)) (fun y => (by first | decide | omega)) (by decide) (by first | decide | omega) b hS
theorem C_tc2 {j : Int} (ht : 0 ≤ t ∧ t < K.2 9) : ∀ (d N : Nat) (i : Int) (B : zB), i + d = 7 → 0 ≤ i → d < N → SBb t B → ∃ B', f_Study_takeClasses_2 K N i t p j F B = f_Study_takeClasses_23 K K.1 0 t p j F B' ∧ stT t B B' ∧ SBb t B' := by
  intro d
  induction d with
  | zero =>
    intro N i B hi i0 hN hS
    obtain ⟨n, rfl⟩ : ∃ n, N = n + 1 := ⟨N - 1, (by first | decide | omega)⟩
    rw [f_Study_takeClasses_2, if_pos (by unfold r32; omega), if_pos (by first | decide | omega)]
    exact ⟨B, rfl, stT_r, hS⟩
  | succ d ih =>
    intro N i B hi i0 hN hS
    obtain ⟨n, rfl⟩ : ∃ n, N = n + 1 := ⟨N - 1, (by first | decide | omega)⟩
    rw [f_Study_takeClasses_2, if_pos (by unfold r32; omega), if_neg (by first | decide | omega), if_pos ht, if_pos (by first | decide | omega)]
    obtain ⟨B', g1, g2, g3⟩ := ih n (i + 1) (zup4 B 9 t 10 i 0) (by first | decide | omega) (by first | decide | omega) (by first | decide | omega) (SB_w hS (by first | decide | omega) (by first | decide | omega) (by first | decide | omega) (by first | decide | omega) (fun _ => by decide))
    exact ⟨B', g1, stT_t stT_w g2, g3⟩
theorem C_told2 {j l3 : Int} {B : zB} (hK : 60000 ≤ K.1) (h : PQs K V p F B) (ht : 0 ≤ t ∧ t < K.2 9) (hS : SBb t B) (hj : 0 ≤ j ∧ j < 800) (h3 : r32 l3) : ∃ r B', f_Study_chordTold K t p j l3 F B = some (r, F, B') ∧ stT t B B' ∧ SBb t B' := by
  have hV := h.2.1
  obtain ⟨B1, e1, g1, g2⟩ := C_tc2 (p := p) (j := j) (F := F) ht 7 K.1 0 B (by first | decide | omega) (by decide) (by first | decide | omega) hS
  obtain ⟨B2, e2, k1, k2⟩ := C_tc23 (F := F) (B0 := B1) hK (PKs_f h stF_r (stT_B g1)) ht hj V.toNat K.1 0 B1 (by first | decide | omega) (by decide) (by first | decide | omega) stT_r g2
  have e : f_Study_takeClasses K t p j F B = some (0, F, B2) := by
    unfold f_Study_takeClasses
    rw [e1, e2]
  obtain ⟨r, e3⟩ := C_ct15 (l3 := l3) hK (PKs_f h stF_r (stT_B (stT_t g1 k1))) ht k2 hj h3 7 K.1 0 (-1) 0 (by first | decide | omega) (by decide) (by first | decide | omega) (by first | decide | omega) (by first | decide | omega)
  unfold f_Study_chordTold
  rw [if_pos ht, e, zb_s, e3]
  exact ⟨r, B2, rfl, stT_t g1 k1, k2⟩
end
end
end
section
section
/-! ===== chords, reference ===== -/
def crdF (F F' : zF) : Prop := ∀ c y k, ¬ (c = 14 ∧ y = 0 ∧ 100 ≤ k ∧ k ≤ 105) → F' c y k = F c y k
def crdB (B B' : zB) : Prop := ∀ c y k x, ¬ (c = 14 ∧ y = 0 ∧ (k = 98 ∨ k = 99)) → B' c y k x = B c y k x
theorem crdF_t {F F1 F2 : zF} (h : crdF F F1) (h' : crdF F1 F2) : crdF F F2 := fun c y k n => by rw [h' c y k n, h c y k n]
theorem crdB_t {B B1 B2 : zB} (h : crdB B B1) (h' : crdB B1 B2) : crdB B B2 := fun c y k x n => by rw [h' c y k x n, h c y k x n]
theorem crdF_w {F : zF} {k : Nat} {x : Int} (h0 : 100 ≤ k) (h1 : k ≤ 105) : crdF F (zup3 F 14 0 k x) := fun c y j n => by rw [zup3_v, if_neg (by first | decide | omega)]
theorem crdB_w {B : zB} {k : Nat} {i x : Int} (hk : k = 98 ∨ k = 99) : crdB B (zup4 B 14 0 k i x) := fun c y j z n => by rw [zup4_v, if_neg (by first | decide | omega)]
/-- the classes told so far -/
def CLs (n : Int) (F : zF) (B : zB) : Prop := (F 14 0 100 = n ∧ 0 ≤ n ∧ n ≤ 24) ∧ ∀ i, 0 ≤ i → i < n → (0 ≤ B 14 0 98 i ∧ B 14 0 98 i ≤ 6) ∧ (-2 ≤ B 14 0 99 i ∧ B 14 0 99 i ≤ 2)
section
variable {K : Nat}
theorem L_cls2 {a b n : Int} {F : zF} {B : zB} (ha : 0 ≤ a ∧ a ≤ 6) (hb : -2 ≤ b ∧ b ≤ 2) (h : CLs n F B) (n1 : n ≤ 23) : ∀ (d N : Nat) (i : Int), i + d = n → 0 ≤ i → d < N → ∃ F' B' n', f_M_classOf_2 K N i a b F B = some (0, F', B') ∧ crdF F F' ∧ crdB B B' ∧ CLs n' F' B' ∧ (1 ≤ n' ∧ n' ≤ n + 1) ∧ ∀ k, ¬ k = 100 → F' 14 0 k = F 14 0 k := by
  obtain ⟨⟨h0, h1, h2⟩, h3⟩ := h
  intro d
  induction d with
  | zero =>
    intro N i hi i0 hN
    obtain ⟨m, rfl⟩ : ∃ m, N = m + 1 := ⟨N - 1, (by first | decide | omega)⟩
    rw [f_M_classOf_2, if_pos (by unfold r32; omega), h0, if_pos (by unfold r32; omega), if_pos (by first | decide | omega), if_pos (by first | decide | omega)]
    refine ⟨_, _, n + 1, rfl, crdF_w (by decide) (by decide), crdB_t (crdB_w (by first | decide | omega)) (crdB_w (by first | decide | omega)), ⟨⟨by rw [zup3_v, if_pos ⟨rfl, rfl, rfl⟩], (by first | decide | omega), (by first | decide | omega)⟩, fun j j0 j1 => ?_⟩, (by first | decide | omega), fun k hk => by rw [zup3_v, if_neg (by first | decide | omega)]⟩
    by_cases e : j = n
    · rw [e, zup4_v, if_neg (by first | decide | omega), zup4_v, if_pos ⟨rfl, rfl, rfl, rfl⟩, zup4_v, if_pos ⟨rfl, rfl, rfl, rfl⟩]
      exact ⟨ha, hb⟩
    · rw [zup4_v, if_neg (by first | decide | omega), zup4_v, if_neg (by first | decide | omega), zup4_v, if_neg (by first | decide | omega), zup4_v, if_neg (by first | decide | omega)]
      exact h3 j j0 (by first | decide | omega)
  | succ d ih =>
    intro N i hi i0 hN
    obtain ⟨m, rfl⟩ : ∃ m, N = m + 1 := ⟨N - 1, (by first | decide | omega)⟩
    have k := h3 i i0 (by first | decide | omega)
    rw [f_M_classOf_2, if_pos (by unfold r32; omega), h0, if_pos (by unfold r32; omega), if_neg (by first | decide | omega), if_pos (by first | decide | omega), if_pos (by unfold r32; omega), if_pos (by unfold r32; omega)]
    by_cases c : B 14 0 98 i = a
    · rw [if_pos c, if_pos (by unfold r32; omega), if_pos (by unfold r32; omega)]
      by_cases c1 : B 14 0 99 i = b
      · rw [if_pos c1]
        exact ⟨F, B, n, rfl, fun _ _ _ _ => rfl, fun _ _ _ _ _ => rfl, ⟨⟨h0, h1, h2⟩, h3⟩, (by first | decide | omega), fun _ _ => rfl⟩
      · rw [if_neg c1]; exact ih m (i + 1) (by first | decide | omega) (by first | decide | omega) (by first | decide | omega)
    · rw [if_neg c]; exact ih m (i + 1) (by first | decide | omega) (by first | decide | omega) (by first | decide | omega)
/-- the lowest tone told so far -/
def CLo (F : zF) : Prop := (F 14 0 100 = 0 ∧ F 14 0 101 = 1000) ∨ ((0 ≤ F 14 0 101 ∧ F 14 0 101 ≤ 200) ∧ 0 ≤ F 14 0 102 ∧ F 14 0 102 ≤ 62)
def CLq (n : Int) (F0 : zF) (B0 : zB) (F : zF) (B : zB) : Prop := crdF F0 F ∧ crdB B0 B ∧ (∃ m, CLs m F B ∧ m ≤ n) ∧ CLo F
theorem L_ca47 {V w u x j : Int} {F0 : zF} {B0 : zB} {rec : Int → Int → Int → zF → zB → zO} {Q : zO → Prop} (hK : 200 ≤ K) (hR : RDW V w F0 B0) (u0 : 0 ≤ u) (u1 : u < V) (x0 : 1000 * u ≤ x) (x1 : x < 1000 * u + B0 13 w 12 u) (go : ∀ F B, CLq (6 * (u + 1)) F0 B0 F B → Q (rec (u + 1) w j F B)) : ∀ (d N : Nat) (l : Int) (F : zF) (B : zB), l + d = 6 * x + B0 13 w 21 x → 6 * x ≤ l → d < N → CLq (6 * u + (l - 6 * x)) F0 B0 F B → Q (f_M_classesAt_47 rec K N l x u w j F B) := by
  have w0 := hR.1
  have hV := hR.2.1
  have hv := (rd_v hR u0 u1).1
  have he := (rd_e hR u0 u1 x0 x1).2.2.1
  intro d
  induction d with
  | zero =>
    intro N l F B hl l0 hN h
    obtain ⟨m, rfl⟩ : ∃ m, N = m + 1 := ⟨N - 1, (by first | decide | omega)⟩
    obtain ⟨f, b, ⟨m', hm, ml⟩, lo⟩ := h
    rw [f_M_classesAt_47, if_pos w0, if_pos (by first | decide | omega), if_pos (by unfold r32; omega), b 13 w 21 x (by first | decide | omega), if_pos (by unfold r32; omega), if_pos (by first | decide | omega)]
    exact go F B ⟨f, b, ⟨m', hm, (by first | decide | omega)⟩, lo⟩
  | succ d ih =>
    intro N l F B hl l0 hN h
    obtain ⟨m, rfl⟩ : ∃ m, N = m + 1 := ⟨N - 1, (by first | decide | omega)⟩
    obtain ⟨f, b, ⟨m', hm, ml⟩, lo⟩ := h
    have pp := rd_p hR u0 u1 x0 x1 (k := l - 6 * x) (by first | decide | omega) (by first | decide | omega)
    rw [show 6 * x + (l - 6 * x) = l by omega] at pp
    have m0 := hm.1
    have e28 : B 13 w 28 l = B0 13 w 28 l := b 13 w 28 l (by first | decide | omega)
    have e29 : B 13 w 29 l = B0 13 w 29 l := b 13 w 29 l (by first | decide | omega)
    have ez : zrm (B0 13 w 28 l) 7 = B0 13 w 28 l % 7 := zrm_e pp.1.1 (by unfold r32; omega) (by decide) (by decide)
    obtain ⟨F1, B1, n1, e1, f1, b1, c1, c2, c3⟩ := L_cls2 (K := K) (a := B0 13 w 28 l % 7) (b := B0 13 w 29 l) (F := F) (B := B) (by first | decide | omega) pp.2 hm (by first | decide | omega) m'.toNat K 0 (by first | decide | omega) (by decide) (by first | decide | omega)
    have e1' : f_M_classOf K (B0 13 w 28 l % 7) (B0 13 w 29 l) F B = some (0, F1, B1) := e1
    have g28 : B1 13 w 28 l = B0 13 w 28 l := by rw [b1 13 w 28 l (by first | decide | omega), e28]
    have g29 : B1 13 w 29 l = B0 13 w 29 l := by rw [b1 13 w 29 l (by first | decide | omega), e29]
    obtain ⟨r, F2, B2, e2, rfl, rfl, r0, r1⟩ := s_tone (K := K) (s := B0 13 w 28 l) (a := B0 13 w 29 l) (F := F1) (B := B1) pp.1.1 pp.1.2 pp.2.1 pp.2.2
    have k101 : F2 14 0 101 = F 14 0 101 := c3 101 (by decide)
    have k102 : F2 14 0 102 = F 14 0 102 := c3 102 (by decide)
    have r101 : r32 (F2 14 0 101) := by rw [k101]; unfold CLo at lo; unfold r32; omega
    have n100 := c1.1.1
    have fB := crdF_t f f1
    have bB := crdB_t b b1
    have nx : CLo F2 → Q (f_M_classesAt_168 rec (f_M_classesAt_47 rec K m) K l x u w j F2 B2) := fun lo2 => ih m (l + 1) F2 B2 (by first | decide | omega) (by first | decide | omega) (by first | decide | omega) ⟨fB, bB, ⟨n1, c1, (by first | decide | omega)⟩, lo2⟩
    have o140 : Q (f_M_classesAt_140 rec (f_M_classesAt_47 rec K m) K r l x u w j F2 B2) := by
      unfold f_M_classesAt_140
      rw [if_pos w0, if_pos (by first | decide | omega), g28, g29]
      refine ih m (l + 1) _ B2 (by first | decide | omega) (by first | decide | omega) (by first | decide | omega) ⟨crdF_t fB (crdF_t (crdF_w (by decide) (by decide)) (crdF_t (crdF_w (by decide) (by decide)) (crdF_w (by decide) (by decide)))), bB, ⟨n1, ⟨⟨by rw [zup3_v, if_neg (by first | decide | omega), zup3_v, if_neg (by first | decide | omega), zup3_v, if_neg (by first | decide | omega)]; exact n100, c1.1.2⟩, c1.2⟩, (by first | decide | omega)⟩, Or.inr ?_⟩
      rw [zup3_v, if_neg (by first | decide | omega), zup3_v, if_neg (by first | decide | omega), zup3_v, if_pos ⟨rfl, rfl, rfl⟩, zup3_v, if_neg (by first | decide | omega), zup3_v, if_pos ⟨rfl, rfl, rfl⟩]
      exact ⟨(by first | decide | omega), pp.1⟩
    rw [f_M_classesAt_47, if_pos w0, if_pos (by first | decide | omega), if_pos (by unfold r32; omega), b 13 w 21 x (by first | decide | omega), if_pos (by unfold r32; omega), if_neg (by first | decide | omega), if_pos (by first | decide | omega), e28, e29, ez, e1', zb_s, g28, g29, e2, zb_s, if_pos (by unfold r32; omega), if_pos r101]
    have lo' : F2 14 0 101 < r ∨ r = F2 14 0 101 → CLo F2 ∧ r32 (F2 14 0 102) := fun q => by
      unfold CLo at lo ⊢
      rw [k101] at q
      rw [k101, k102]
      have : (0 ≤ F 14 0 101 ∧ F 14 0 101 ≤ 200) ∧ 0 ≤ F 14 0 102 ∧ F 14 0 102 ≤ 62 := by
        rcases lo with z | z
        · omega
        · exact z
      exact ⟨Or.inr this, by unfold r32; omega⟩
    by_cases q1 : F2 14 0 101 < r
    · rw [if_pos q1]; exact nx (lo' (Or.inl q1)).1
    rw [if_neg q1]
    by_cases q2 : r = F2 14 0 101
    · rw [if_pos q2, g28, if_pos (by unfold r32; omega), if_pos (lo' (Or.inr q2)).2]
      by_cases q3 : B0 13 w 28 l < F2 14 0 102
      · rw [if_pos q3]; exact o140
      · rw [if_neg q3]; exact nx (lo' (Or.inr q2)).1
    · rw [if_neg q2]; exact o140
theorem L_ca14 {V w j : Int} {F0 : zF} {B0 : zB} (hK : 200 ≤ K) (hR : RDW V w F0 B0) (hM : MW5 V w F0 B0) (hj : 0 ≤ j ∧ j < F0 13 w 72) : ∀ (d N : Nat) (u : Int) (F : zF) (B : zB), u + d = V → 0 ≤ u → d < N → CLq (6 * u) F0 B0 F B → ∃ F' B', f_M_classesAt_14 K N u w j F B = some (0, F', B') ∧ CLq 24 F0 B0 F' B' := by
  have w0 := hR.1
  have hV := hR.2.1
  have h72 := hM.1
  intro d
  induction d with
  | zero =>
    intro N u F B hu u0 hN h
    obtain ⟨m, rfl⟩ : ∃ m, N = m + 1 := ⟨N - 1, (by first | decide | omega)⟩
    obtain ⟨f, b, ⟨m', hm, ml⟩, lo⟩ := h
    rw [f_M_classesAt_14, if_pos w0, if_pos (by unfold r32; omega), f 13 w 1 (by first | decide | omega), if_pos (by unfold r32; omega), if_pos (by first | decide | omega)]
    exact ⟨F, B, rfl, f, b, ⟨m', hm, (by first | decide | omega)⟩, lo⟩
  | succ d ih =>
    intro N u F B hu u0 hN h
    obtain ⟨m, rfl⟩ : ∃ m, N = m + 1 := ⟨N - 1, (by first | decide | omega)⟩
    have h' := h
    obtain ⟨f, b, ⟨m', hm, ml⟩, lo⟩ := h
    have k75 := hM.2.2 u j u0 (by first | decide | omega) hj.1 hj.2
    have he := (rd_e hR u0 (by first | decide | omega) (x := 1000 * u + B0 13 w 75 (4 * j + u)) (by first | decide | omega) (by first | decide | omega)).2.2.1
    rw [f_M_classesAt_14, if_pos w0, if_pos (by unfold r32; omega), f 13 w 1 (by first | decide | omega), if_pos (by unfold r32; omega), if_neg (by first | decide | omega), if_pos (by first | decide | omega), b 13 w 75 _ (by first | decide | omega)]
    exact L_ca47 (Q := fun x => ∃ F' B', x = some (0, F', B') ∧ CLq 24 F0 B0 F' B') (rec := f_M_classesAt_14 K m) hK hR u0 (by first | decide | omega) (by first | decide | omega) (by first | decide | omega) (fun F B q => ih m (u + 1) F B (by first | decide | omega) (by first | decide | omega) (by first | decide | omega) q) (B0 13 w 21 (1000 * u + B0 13 w 75 (4 * j + u))).toNat K (6 * (1000 * u + B0 13 w 75 (4 * j + u))) F B (by first | decide | omega) (Int.le_refl _) (by first | decide | omega) (by rw [show 6 * u + (6 * (1000 * u + B0 13 w 75 (4 * j + u)) - 6 * (1000 * u + B0 13 w 75 (4 * j + u))) = 6 * u by omega]; exact h')
theorem L_abv {n a b : Int} {F : zF} {B : zB} (h : CLs n F B) (ha : 0 ≤ a ∧ a < n) (hb : 0 ≤ b ∧ b < n) : ∃ r, f_M_above K a b F B = some (r, F, B) ∧ 0 ≤ r ∧ r < 12 := by
  have m0 := h.1
  have ka := h.2 a ha.1 ha.2
  have kb := h.2 b hb.1 hb.2
  obtain ⟨r, F1, B1, e, rfl, rfl, r0, r1⟩ := s_tone (K := K) (s := B 14 0 98 b) (a := B 14 0 99 b) (F := F) (B := B) kb.1.1 (by first | decide | omega) kb.2.1 kb.2.2
  obtain ⟨s, F2, B2, e2, rfl, rfl, s0, s1⟩ := s_tone (K := K) (s := B1 14 0 98 a) (a := B1 14 0 99 a) (F := F1) (B := B1) ka.1.1 (by first | decide | omega) ka.2.1 ka.2.2
  obtain ⟨m, F3, B3, e3, rfl, rfl, m1, m2⟩ := s_mod (K := K) (a := r - s) (b := 12) (F := F2) (B := B2) (by unfold r32; omega) (by decide) (by decide)
  unfold f_M_above
  rw [if_pos (by first | decide | omega), e, zb_s, if_pos (by first | decide | omega), e2, zb_s, e3, zb_s]
  exact ⟨m, rfl, m1, m2⟩
theorem L_ogt {a b : Int} {F : zF} {B : zB} (ha : r32 a) (hb : r32 b) : ∃ r, f_M_ofGreatThird K a b F B = some (r, F, B) ∧ -1 ≤ r ∧ r ≤ 9 := by
  have k28 : ∃ r, f_M_ofGreatThird_28 K b F B = some (r, F, B) ∧ -1 ≤ r ∧ r ≤ 9 := by
    unfold f_M_ofGreatThird_28 f_M_ofGreatThird_57
    rw [if_pos hb]
    by_cases c : 0 ≤ b
    · rw [if_pos c]
      by_cases c1 : b = 10
      · rw [if_pos c1]; exact ⟨_, rfl, by decide, by decide⟩
      · rw [if_neg c1]
        by_cases c2 : b = 11
        · rw [if_pos c2]; exact ⟨_, rfl, by decide, by decide⟩
        · rw [if_neg c2]; exact ⟨_, rfl, by decide, by decide⟩
    · rw [if_neg c]; exact ⟨_, rfl, by decide, by decide⟩
  unfold f_M_ofGreatThird f_M_ofGreatThird_15
  rw [if_pos ha]
  by_cases c : a = 8
  · rw [if_pos c, if_pos hb]
    by_cases c1 : 0 ≤ b
    · rw [if_pos c1]; exact ⟨_, rfl, by decide, by decide⟩
    · rw [if_neg c1]; exact ⟨_, rfl, by decide, by decide⟩
  rw [if_neg c]
  by_cases c1 : a < 0
  · rw [if_pos c1]; exact k28
  rw [if_neg c1]
  by_cases c2 : a = 7
  · rw [if_pos c2]; exact k28
  · rw [if_neg c2]; exact ⟨_, rfl, by decide, by decide⟩
theorem L_ost {a b : Int} {F : zF} {B : zB} (ha : r32 a) (hb : r32 b) : ∃ r, f_M_ofSmallThird K a b F B = some (r, F, B) ∧ -1 ≤ r ∧ r ≤ 9 := by
  have k50 : ∃ r, f_M_ofSmallThird_50 K b F B = some (r, F, B) ∧ -1 ≤ r ∧ r ≤ 9 := by
    unfold f_M_ofSmallThird_50 f_M_ofSmallThird_81
    rw [if_pos hb]
    by_cases c : 0 ≤ b
    · rw [if_pos c]
      by_cases c1 : b = 10
      · rw [if_pos c1]; exact ⟨_, rfl, by decide, by decide⟩
      · rw [if_neg c1]
        by_cases c2 : b = 11
        · rw [if_pos c2]; exact ⟨_, rfl, by decide, by decide⟩
        · rw [if_neg c2]; exact ⟨_, rfl, by decide, by decide⟩
    · rw [if_neg c]; exact ⟨_, rfl, by decide, by decide⟩
  unfold f_M_ofSmallThird f_M_ofSmallThird_37
  rw [if_pos ha]
  by_cases c : a = 6
  · rw [if_pos c, if_pos hb]
    by_cases c1 : 0 ≤ b
    · rw [if_pos c1]
      by_cases c2 : b = 10
      · rw [if_pos c2]; exact ⟨_, rfl, by decide, by decide⟩
      · rw [if_neg c2]
        by_cases c3 : b = 9
        · rw [if_pos c3]; exact ⟨_, rfl, by decide, by decide⟩
        · rw [if_neg c3]; exact ⟨_, rfl, by decide, by decide⟩
    · rw [if_neg c1]; exact ⟨_, rfl, by decide, by decide⟩
  rw [if_neg c]
  by_cases c1 : a < 0
  · rw [if_pos c1]; exact k50
  rw [if_neg c1]
  by_cases c2 : a = 7
  · rw [if_pos c2]; exact k50
  · rw [if_neg c2]; exact ⟨_, rfl, by decide, by decide⟩
theorem L_ko10 {n a : Int} {F : zF} {B : zB} (h : CLs n F B) (ha : 0 ≤ a ∧ a < n) : ∀ (d N : Nat) (i x y z : Int), i + d = n → 0 ≤ i → d < N → (-1 ≤ x ∧ x ≤ 12) → (-1 ≤ y ∧ y ≤ 12) → (-1 ≤ z ∧ z ≤ 12) → ∃ r, f_M_kindOn_10 K N i x y z a F B = some (r, F, B) ∧ -1 ≤ r ∧ r ≤ 9 := by
  have m0 := h.1
  intro d
  induction d with
  | zero =>
    intro N i x y z hi i0 hN hx hy hz
    obtain ⟨m, rfl⟩ : ∃ m, N = m + 1 := ⟨N - 1, (by first | decide | omega)⟩
    rw [f_M_kindOn_10, if_pos (by unfold r32; omega), if_pos (by unfold r32; omega), if_pos (by first | decide | omega), if_pos (by unfold r32; omega)]
    unfold f_M_kindOn_146
    by_cases c : z = 4
    · obtain ⟨r, e, r0, r1⟩ := L_ogt (K := K) (a := y) (b := x) (F := F) (B := B) (by unfold r32; omega) (by unfold r32; omega)
      rw [if_pos c, e, zb_s]; exact ⟨r, rfl, r0, r1⟩
    · rw [if_neg c]
      by_cases c1 : z = 3
      · obtain ⟨r, e, r0, r1⟩ := L_ost (K := K) (a := y) (b := x) (F := F) (B := B) (by unfold r32; omega) (by unfold r32; omega)
        rw [if_pos c1, e, zb_s]; exact ⟨r, rfl, r0, r1⟩
      · rw [if_neg c1]; exact ⟨-1, rfl, by decide, by decide⟩
  | succ d ih =>
    intro N i x y z hi i0 hN hx hy hz
    obtain ⟨m, rfl⟩ : ∃ m, N = m + 1 := ⟨N - 1, (by first | decide | omega)⟩
    have ki := h.2 i i0 (by first | decide | omega)
    have ka := h.2 a ha.1 ha.2
    have nx : ∀ x y z, (-1 ≤ x ∧ x ≤ 12) → (-1 ≤ y ∧ y ≤ 12) → (-1 ≤ z ∧ z ≤ 12) → ∃ r, f_M_kindOn_111 (f_M_kindOn_10 K m) K z i x y a F B = some (r, F, B) ∧ -1 ≤ r ∧ r ≤ 9 := fun x y z hx hy hz => ih m (i + 1) x y z (by first | decide | omega) (by first | decide | omega) (by first | decide | omega) hx hy hz
    have no : ∃ r, f_M_kindOn_109 K F B = some (r, F, B) ∧ -1 ≤ r ∧ r ≤ 9 := ⟨-1, rfl, by decide, by decide⟩
    rw [f_M_kindOn_10, if_pos (by unfold r32; omega), if_pos (by unfold r32; omega), if_neg (by first | decide | omega), if_pos (by unfold r32; omega)]
    by_cases c : i = a
    · rw [if_pos c]; exact nx x y z hx hy hz
    obtain ⟨r, F1, B1, e, rfl, rfl, r0, r1⟩ := s_mod (K := K) (a := B 14 0 98 i - B 14 0 98 a) (b := 7) (F := F) (B := B) (by unfold r32; omega) (by decide) (by decide)
    obtain ⟨s, e2, s0, s1⟩ := L_abv (K := K) h ha (b := i) (by first | decide | omega)
    rw [if_neg c, if_pos (by first | decide | omega), if_pos (by first | decide | omega), e, zb_s, e2, zb_s, if_pos (by unfold r32; omega)]
    have o90 : ∃ q, f_M_kindOn_90 (f_M_kindOn_10 K m) K s r i x y z a F1 B1 = some (q, F1, B1) ∧ -1 ≤ q ∧ q ≤ 9 := by
      unfold f_M_kindOn_90
      rw [if_pos (by unfold r32; omega)]
      by_cases c1 : r = 6
      · rw [if_pos c1, if_pos (by unfold r32; omega)]
        by_cases c2 : 0 ≤ x
        · rw [if_pos c2]; exact no
        · rw [if_neg c2]; exact nx s y z (by first | decide | omega) hy hz
      · rw [if_neg c1]; exact no
    have o74 : ∃ q, f_M_kindOn_74 (f_M_kindOn_10 K m) K s r i x y z a F1 B1 = some (q, F1, B1) ∧ -1 ≤ q ∧ q ≤ 9 := by
      unfold f_M_kindOn_74
      rw [if_pos (by unfold r32; omega)]
      by_cases c1 : r = 4
      · rw [if_pos c1, if_pos (by unfold r32; omega)]
        by_cases c2 : 0 ≤ y
        · rw [if_pos c2]; exact o90
        · rw [if_neg c2]; exact nx x s z hx (by first | decide | omega) hz
      · rw [if_neg c1]; exact o90
    by_cases c1 : r = 2
    · rw [if_pos c1, if_pos (by unfold r32; omega)]
      by_cases c2 : 0 ≤ z
      · rw [if_pos c2]; exact o74
      · rw [if_neg c2]; exact nx x y s hx hy (by first | decide | omega)
    · rw [if_neg c1]; exact o74
theorem L_ca13 {n : Int} {F0 : zF} {B : zB} (hK : 200 ≤ K) : ∀ (d N : Nat) (i : Int) (F : zF), i + d = n → 0 ≤ i → d < N → crdF F0 F → CLs n F B → CLo F → (-1 ≤ F 14 0 104 ∧ F 14 0 104 ≤ 9) → (0 ≤ F 14 0 104 → 0 ≤ F 14 0 105 ∧ F 14 0 105 < n) → ∃ F', f_M_chordAt_13 K N i F B = some (0, F', B) ∧ crdF F0 F' ∧ CLs n F' B ∧ CLo F' ∧ (-1 ≤ F' 14 0 104 ∧ F' 14 0 104 ≤ 9) ∧ (0 ≤ F' 14 0 104 → 0 ≤ F' 14 0 105 ∧ F' 14 0 105 < n) := by
  intro d
  induction d with
  | zero =>
    intro N i F hi i0 hN f h lo h4 h5
    obtain ⟨m, rfl⟩ : ∃ m, N = m + 1 := ⟨N - 1, (by first | decide | omega)⟩
    have m0 := h.1
    rw [f_M_chordAt_13, if_pos (by unfold r32; omega), if_pos (by unfold r32; omega), if_pos (by first | decide | omega)]
    exact ⟨F, rfl, f, h, lo, h4, h5⟩
  | succ d ih =>
    intro N i F hi i0 hN f h lo h4 h5
    obtain ⟨m, rfl⟩ : ∃ m, N = m + 1 := ⟨N - 1, (by first | decide | omega)⟩
    have m0 := h.1
    rw [f_M_chordAt_13, if_pos (by unfold r32; omega), if_pos (by unfold r32; omega), if_neg (by first | decide | omega), if_pos (by unfold r32; omega)]
    by_cases c : 0 ≤ F 14 0 104
    · rw [if_pos c]; exact ⟨F, rfl, f, h, lo, h4, h5⟩
    have h1 : CLs n (zup3 F 14 0 105 i) B := ⟨⟨by rw [zup3_v, if_neg (by first | decide | omega)]; exact m0.1, m0.2⟩, h.2⟩
    obtain ⟨r, e, r0, r1⟩ := L_ko10 (K := K) h1 (a := i) (by first | decide | omega) n.toNat K 0 (-1) (-1) (-1) (by first | decide | omega) (by decide) (by first | decide | omega) (by first | decide | omega) (by first | decide | omega) (by first | decide | omega)
    have e' : f_M_kindOn K i (zup3 F 14 0 105 i) B = some (r, zup3 F 14 0 105 i, B) := e
    rw [if_neg c, e', zb_s]
    refine ih m (i + 1) _ (by first | decide | omega) (by first | decide | omega) (by first | decide | omega) (crdF_t f (crdF_t (crdF_w (by decide) (by decide)) (crdF_w (by decide) (by decide)))) ⟨⟨by rw [zup3_v, if_neg (by first | decide | omega)]; exact h1.1.1, m0.2⟩, h.2⟩ ?_ (by rw [zup3_v, if_pos ⟨rfl, rfl, rfl⟩]; omega) (fun _ => by rw [zup3_v, if_neg (by first | decide | omega), zup3_v, if_pos ⟨rfl, rfl, rfl⟩]; omega)
    unfold CLo at *
    rw [zup3_v, if_neg (by first | decide | omega), zup3_v, if_neg (by first | decide | omega), zup3_v, if_neg (by first | decide | omega), zup3_v, if_neg (by first | decide | omega), zup3_v, if_neg (by first | decide | omega), zup3_v, if_neg (by first | decide | omega)]
    exact lo
theorem L_chA {V w j : Int} {F : zF} {B : zB} (hK : 200 ≤ K) (hR : RDW V w F B) (hM : MW5 V w F B) (hj : 0 ≤ j ∧ j < F 13 w 72) : ∃ n F' B', f_M_chordAt K w j F B = some (0, F', B') ∧ crdF F F' ∧ crdB B B' ∧ CLs n F' B' ∧ CLo F' ∧ (-1 ≤ F' 14 0 104 ∧ F' 14 0 104 ≤ 9) ∧ (0 ≤ F' 14 0 104 → 0 ≤ F' 14 0 105 ∧ F' 14 0 105 < n) := by
  have hV := hR.2.1
  have w0 := hR.1
  have f0 : crdF F (zup3 (zup3 F 14 0 100 0) 14 0 101 1000) := crdF_t (crdF_w (by decide) (by decide)) (crdF_w (by decide) (by decide))
  obtain ⟨F1, B1, e1, f1, b1, ⟨n, c1, c2⟩, lo⟩ := L_ca14 (F0 := F) (B0 := B) hK hR hM hj V.toNat K 0 (zup3 (zup3 F 14 0 100 0) 14 0 101 1000) B (by first | decide | omega) (by decide) (by first | decide | omega) ⟨f0, fun _ _ _ _ _ => rfl, ⟨0, ⟨⟨by rw [zup3_v, if_neg (by first | decide | omega), zup3_v, if_pos ⟨rfl, rfl, rfl⟩], by decide, by decide⟩, fun i i0 i1 => (by first | decide | omega)⟩, by decide⟩, Or.inl ⟨by rw [zup3_v, if_neg (by first | decide | omega), zup3_v, if_pos ⟨rfl, rfl, rfl⟩], by rw [zup3_v, if_pos ⟨rfl, rfl, rfl⟩]⟩⟩
  have e1' : f_M_classesAt K w j F B = some (0, F1, B1) := e1
  have lo' : CLo (zup3 F1 14 0 104 (-1)) := by
    unfold CLo at *
    rw [zup3_v, if_neg (by first | decide | omega), zup3_v, if_neg (by first | decide | omega), zup3_v, if_neg (by first | decide | omega)]
    exact lo
  have m0 := c1.1
  obtain ⟨F2, e2, g1, g2, g3, g4, g5⟩ := L_ca13 (n := n) (F0 := F) (B := B1) hK n.toNat K 0 (zup3 F1 14 0 104 (-1)) (by first | decide | omega) (by decide) (by first | decide | omega) (crdF_t f1 (crdF_w (by decide) (by decide))) ⟨⟨by rw [zup3_v, if_neg (by first | decide | omega)]; exact m0.1, m0.2⟩, c1.2⟩ lo' (by rw [zup3_v, if_pos ⟨rfl, rfl, rfl⟩]; omega) (fun z => by rw [zup3_v, if_pos ⟨rfl, rfl, rfl⟩] at z; omega)
  unfold f_M_chordAt
  rw [e1', zb_s, e2]
  exact ⟨n, F2, B1, rfl, g1, b1, g2, g3, g4, g5⟩
theorem L_isF4 {n w : Int} {F : zF} {B : zB} (w0 : 0 ≤ w ∧ w < 3) (h2 : -7 ≤ F 13 w 2 ∧ F 13 w 2 ≤ 7) (h : CLs n F B) : ∀ (d N : Nat) (i s : Int), i + d = n → 0 ≤ i → d < N → (s = 0 ∨ s = 1) → ∃ r, f_M_isForeign_4 K N i s w F B = some (r, F, B) ∧ (r = 0 ∨ r = 1) := by
  have m0 := h.1
  intro d
  induction d with
  | zero =>
    intro N i s hi i0 hN hs
    obtain ⟨m, rfl⟩ : ∃ m, N = m + 1 := ⟨N - 1, (by first | decide | omega)⟩
    rw [f_M_isForeign_4, if_pos (by unfold r32; omega), if_pos (by unfold r32; omega), if_pos (by first | decide | omega), if_pos hs]
    exact ⟨s, rfl, hs⟩
  | succ d ih =>
    intro N i s hi i0 hN hs
    obtain ⟨m, rfl⟩ : ∃ m, N = m + 1 := ⟨N - 1, (by first | decide | omega)⟩
    have ki := h.2 i i0 (by first | decide | omega)
    rw [f_M_isForeign_4, if_pos (by unfold r32; omega), if_pos (by unfold r32; omega), if_neg (by first | decide | omega), if_pos (by unfold r32; omega)]
    unfold f_M_isForeign_38 f_M_isForeign_43
    by_cases c : s = 0
    · obtain ⟨r, F1, B1, e, rfl, rfl, r0, r1⟩ := s_inKey (K := K) (a := F 13 w 2) (s := B 14 0 98 i) (F := F) (B := B) h2.1 h2.2 ki.1.1 ki.1.2
      rw [if_pos c, if_pos w0, if_pos (by first | decide | omega), e, zb_s, if_pos (by unfold r32; omega), if_pos (by unfold r32; omega)]
      by_cases c1 : r = B1 14 0 99 i
      · rw [if_pos c1]; exact ih m (i + 1) 0 (by first | decide | omega) (by first | decide | omega) (by first | decide | omega) (Or.inl rfl)
      · rw [if_neg c1]; exact ih m (i + 1) 1 (by first | decide | omega) (by first | decide | omega) (by first | decide | omega) (Or.inr rfl)
    · rw [if_neg c]; exact ih m (i + 1) 1 (by first | decide | omega) (by first | decide | omega) (by first | decide | omega) (Or.inr rfl)
theorem L_tonL {w : Int} {F : zF} {B : zB} (w0 : 0 ≤ w ∧ w < 3) (h2 : -7 ≤ F 13 w 2 ∧ F 13 w 2 ≤ 7) (h3 : F 13 w 3 = 0 ∨ F 13 w 3 = 1) : ∃ r, f_M_tonicLetter K w F B = some (r, F, B) ∧ 0 ≤ r ∧ r < 7 := by
  have key : ∀ a b, r32 (a + b) → ∃ r, f_M_tonicLetter_18 K a b F B = some (r, F, B) ∧ 0 ≤ r ∧ r < 7 := fun a b hab => by
    obtain ⟨m, F1, B1, e, rfl, rfl, m1, m2⟩ := s_mod (K := K) (a := a + b) (b := 7) (F := F) (B := B) hab (by decide) (by decide)
    unfold f_M_tonicLetter_18
    rw [e, zb_s]; exact ⟨m, rfl, m1, m2⟩
  unfold f_M_tonicLetter
  rw [if_pos w0, if_pos (by unfold r32; omega)]
  by_cases c : F 13 w 3 = 0
  · rw [if_pos c]; exact key _ _ (by unfold r32; omega)
  · rw [if_neg c]; exact key _ _ (by unfold r32; omega)
end
end
end
section
section
/-! ===== keys heard; the study made; frames of calls ===== -/
variable {cc : Int}
theorem fmK : ∀ x : Fin 36, (0 ≤ zxor ((x.val : Int) - 24) 12 → 0 ≤ zrm ((x.val : Int) - 24) 12 ∧ zrm ((x.val : Int) - 24) 12 < 12) ∧ (¬ 0 ≤ zxor ((x.val : Int) - 24) 12 → ¬ zrm ((x.val : Int) - 24) 12 = 0 → 0 ≤ zrm ((x.val : Int) - 24) 12 + 12 ∧ zrm ((x.val : Int) - 24) 12 + 12 < 12) := by decide +kernel
theorem C_fmK {K : zK} {a : Int} {F : zF} {B : zB} (h : -24 ≤ a ∧ a ≤ 11) : ∃ r, f_Math_floorMod K a 12 F B = some (r, F, B) ∧ 0 ≤ r ∧ r < 12 := by
  have k := fmK ⟨(a + 24).toNat, (by first | decide | omega)⟩
  rw [show (((⟨(a + 24).toNat, (by first | decide | omega)⟩ : Fin 36).val : Nat) : Int) - 24 = a by show (((a + 24).toNat : Nat) : Int) - 24 = a; omega] at k
  unfold f_Math_floorMod f_Math_floorMod_18
  rw [if_pos (iI_n0 (by decide) (by decide)), if_pos (show r32 (zxor a 12) from toI_r _)]
  by_cases c : 0 ≤ zxor a 12
  · rw [if_pos c]; exact ⟨_, rfl, k.1 c⟩
  · rw [if_neg c, if_pos (zrm_R _ _)]
    by_cases c1 : zrm a 12 = 0
    · rw [if_pos c1]; exact ⟨_, rfl, (by first | decide | omega), (by first | decide | omega)⟩
    · rw [if_neg c1]; exact ⟨_, rfl, k.2 c c1⟩
theorem zt11_f : ztl 11 = 12 ∧ ztl 12 = 12 ∧ (∀ k : Fin 12, (0 ≤ ztv 11 (k.val : Int) ∧ ztv 11 (k.val : Int) ≤ 1000) ∧ (0 ≤ ztv 12 (k.val : Int) ∧ ztv 12 (k.val : Int) ≤ 1000)) := by decide +kernel
theorem zt11_v {x : Int} (h0 : 0 ≤ x) (h1 : x < 12) : (0 ≤ ztv 11 x ∧ ztv 11 x ≤ 1000) ∧ (0 ≤ ztv 12 x ∧ ztv 12 x ≤ 1000) := by
  have k := zt11_f.2.2 ⟨x.toNat, (by first | decide | omega)⟩
  rw [show (((⟨x.toNat, (by first | decide | omega)⟩ : Fin 12).val : Nat) : Int) = x by show ((x.toNat : Nat) : Int) = x; omega] at k
  exact k
/-- what hearing a key may change -/
def khB (s : Int) (B B' : zB) : Prop := ∀ c y k x, ¬ (c = 5 ∧ y = s ∧ k = 10) → B' c y k x = B c y k x
theorem khB_t {s : Int} {B B1 B2 : zB} (h : khB s B B1) (h' : khB s B1 B2) : khB s B B2 := fun c y k x n => by rw [h' c y k x n, h c y k x n]
theorem khB_w {s i x : Int} {B : zB} : khB s B (zup4 B 5 s 10 i x) := fun c y j z n => by rw [zup4_v, if_neg (by first | decide | omega)]
section
variable {K : zK} {s c : Int} {F : zF}
theorem C_kh112 {B : zB} {l4 l2 l1 : Int} {rec : Int → Int → Int → Int → zF → zB → zO} (hs : 0 ≤ s ∧ s < K.2 5) (hB : ∀ i, 0 ≤ i → i < 12 → 0 ≤ B 5 s 10 i ∧ B 5 s 10 i ≤ 1000000000) (h4 : 0 ≤ l4 ∧ l4 < 24) (h2 : -1 ≤ l2 ∧ l2 ≤ 12000000000000) (go : ∀ a b, (-1 ≤ a ∧ a ≤ 12000000000000) → zR (rec (l4 + 1) a b s F B) F B) : ∀ (d N : Nat) (i v : Int), i + d = 12 → 0 ≤ i → d < N → (0 ≤ v ∧ v ≤ 1000000000000 * i) → zR (f_Performance_keyHeard_112 rec K N i v l4 l2 l1 s F B) F B := by
  intro d
  induction d with
  | zero =>
    intro N i v hi i0 hN hv
    obtain ⟨m, rfl⟩ : ∃ m, N = m + 1 := ⟨N - 1, (by first | decide | omega)⟩
    rw [f_Performance_keyHeard_112, if_pos (by unfold r32; omega), if_pos (by first | decide | omega)]
    unfold f_Performance_keyHeard_186
    exact zR_g (by unfold r64; omega) (zR_g (by unfold r64; omega) (zR_i (fun _ => go _ _ h2) (fun _ => go _ _ (by first | decide | omega))))
  | succ d ih =>
    intro N i v hi i0 hN hv
    obtain ⟨m, rfl⟩ : ∃ m, N = m + 1 := ⟨N - 1, (by first | decide | omega)⟩
    obtain ⟨r, e, r0, r1⟩ := C_fmK (K := K) (a := i - l4) (F := F) (B := B) (by first | decide | omega)
    have z := zt11_v r0 r1
    have b := hB i i0 (by first | decide | omega)
    have nx : ∀ x, (0 ≤ x ∧ x ≤ 1000) → zR (f_Performance_keyHeard_162 rec (f_Performance_keyHeard_112 rec K m) K i l4 l2 l1 s v (B 5 s 10 i) x F B) F B := fun x hx => by
      have m1 : B 5 s 10 i * x ≤ 1000000000 * 1000 := Int.mul_le_mul b.2 hx.2 hx.1 (by first | decide | omega)
      have m2 : 0 ≤ B 5 s 10 i * x := Int.mul_nonneg b.1 hx.1
      unfold f_Performance_keyHeard_162
      exact zR_g (by unfold r32; omega) (ih m (i + 1) _ (by first | decide | omega) (by first | decide | omega) (by first | decide | omega) (by first | decide | omega))
    rw [f_Performance_keyHeard_112, if_pos (by unfold r32; omega), if_neg (by first | decide | omega), e, zb_s, zt11_f.1, zt11_f.2.1]
    exact zR_g hs (zR_g (by first | decide | omega) (zR_g (by unfold r32; omega) (zR_i (fun _ => zR_g (by first | decide | omega) (nx _ z.2)) (fun _ => zR_g (by first | decide | omega) (nx _ z.1)))))
theorem C_kh99 {B : zB} (hK : 60000 ≤ K.1) (hs : 0 ≤ s ∧ s < K.2 5) (hB : ∀ i, 0 ≤ i → i < 12 → 0 ≤ B 5 s 10 i ∧ B 5 s 10 i ≤ 1000000000) : ∀ (d N : Nat) (i a b : Int), i + d = 24 → 0 ≤ i → d < N → (-1 ≤ a ∧ a ≤ 12000000000000) → zR (f_Performance_keyHeard_99 K N i a b s F B) F B := by
  intro d
  induction d with
  | zero =>
    intro N i a b hi i0 hN ha
    obtain ⟨m, rfl⟩ : ∃ m, N = m + 1 := ⟨N - 1, (by first | decide | omega)⟩
    rw [f_Performance_keyHeard_99, if_pos (by unfold r32; omega), if_pos (by first | decide | omega)]
    exact zR_s
  | succ d ih =>
    intro N i a b hi i0 hN ha
    obtain ⟨m, rfl⟩ : ∃ m, N = m + 1 := ⟨N - 1, (by first | decide | omega)⟩
    rw [f_Performance_keyHeard_99, if_pos (by unfold r32; omega), if_neg (by first | decide | omega)]
    exact C_kh112 hs hB (by first | decide | omega) ha (fun a b ha => ih m (i + 1) a b (by first | decide | omega) (by first | decide | omega) (by first | decide | omega) ha) 12 K.1 0 0 (by first | decide | omega) (by decide) (by first | decide | omega) (by first | decide | omega)
theorem C_kh39 {B0 : zB} (hK : 60000 ≤ K.1) (hs : 0 ≤ s ∧ s < K.2 5) (hc : F 5 s 0 = c ∧ 0 ≤ c ∧ c ≤ 2000) (hS : SB s c B0) : ∀ (d N : Nat) (i : Int) (B : zB), i + d = c → 0 ≤ i → d < N → khB s B0 B → (∀ x, 0 ≤ x → x < 12 → 0 ≤ B 5 s 10 x ∧ B 5 s 10 x ≤ 500000 * i) → ∃ r B', f_Performance_keyHeard_39 K N i s F B = some (r, F, B') ∧ khB s B0 B' := by
  intro d
  induction d with
  | zero =>
    intro N i B hi i0 hN b hB
    obtain ⟨m, rfl⟩ : ∃ m, N = m + 1 := ⟨N - 1, (by first | decide | omega)⟩
    obtain ⟨r, e⟩ := C_kh99 (F := F) (B := B) hK hs (fun x x0 x1 => by have := hB x x0 x1; omega) 24 K.1 0 (-1) 0 (by first | decide | omega) (by decide) (by first | decide | omega) (by first | decide | omega)
    rw [f_Performance_keyHeard_39, if_pos hs, if_pos (by unfold r32; omega), hc.1, if_pos (by unfold r32; omega), if_pos (by first | decide | omega), e]
    exact ⟨r, B, rfl, b⟩
  | succ d ih =>
    intro N i B hi i0 hN b hB
    obtain ⟨m, rfl⟩ : ∃ m, N = m + 1 := ⟨N - 1, (by first | decide | omega)⟩
    obtain ⟨a0, a1, a2, a3, a4, a5, a6⟩ := hS i i0 (by first | decide | omega)
    have e2 : B 5 s 342 i = B0 5 s 342 i := b 5 s 342 i (by first | decide | omega)
    have e4 : B 5 s 344 i = B0 5 s 344 i := b 5 s 344 i (by first | decide | omega)
    have e5 : B 5 s 345 i = B0 5 s 345 i := b 5 s 345 i (by first | decide | omega)
    have ez : zrm (B0 5 s 342 i) 12 = B0 5 s 342 i % 12 := zrm_e a2.1 (by unfold r32; omega) (by decide) (by decide)
    rw [f_Performance_keyHeard_39, if_pos hs, if_pos (by unfold r32; omega), hc.1, if_pos (by unfold r32; omega), if_neg (by first | decide | omega), if_pos (by first | decide | omega), e2, e4, e5, ez, if_pos (by first | decide | omega), if_pos (by unfold r32; omega)]
    refine ih m (i + 1) _ (by first | decide | omega) (by first | decide | omega) (by first | decide | omega) (khB_t b khB_w) (fun x x0 x1 => ?_)
    have k := hB x x0 x1
    rw [zup4_v]
    split
    · have k' := hB (B0 5 s 342 i % 12) (by first | decide | omega) (by first | decide | omega)
      omega
    · omega
theorem C_kh18 {B0 : zB} (hs : 0 ≤ s ∧ s < K.2 5) : ∀ (d N : Nat) (i : Int) (B : zB), i + d = 12 → 0 ≤ i → d < N → khB s B0 B → (∀ x, 0 ≤ x → x < i → B 5 s 10 x = 0) → ∃ B', f_Performance_keyHeard_18 K N i s F B = f_Performance_keyHeard_39 K K.1 0 s F B' ∧ khB s B0 B' ∧ ∀ x, 0 ≤ x → x < 12 → B' 5 s 10 x = 0 := by
  intro d
  induction d with
  | zero =>
    intro N i B hi i0 hN b hB
    obtain ⟨m, rfl⟩ : ∃ m, N = m + 1 := ⟨N - 1, (by first | decide | omega)⟩
    rw [f_Performance_keyHeard_18, if_pos (by unfold r32; omega), if_pos (by first | decide | omega)]
    exact ⟨B, rfl, b, fun x x0 x1 => hB x x0 (by first | decide | omega)⟩
  | succ d ih =>
    intro N i B hi i0 hN b hB
    obtain ⟨m, rfl⟩ : ∃ m, N = m + 1 := ⟨N - 1, (by first | decide | omega)⟩
    rw [f_Performance_keyHeard_18, if_pos (by unfold r32; omega), if_neg (by first | decide | omega), if_pos hs, if_pos (by first | decide | omega)]
    refine ih m (i + 1) _ (by first | decide | omega) (by first | decide | omega) (by first | decide | omega) (khB_t b khB_w) (fun x x0 x1 => ?_)
    by_cases e : x = i
    · rw [e, zup4_v, if_pos ⟨rfl, rfl, rfl, rfl⟩]
    · rw [zup4_v, if_neg (by first | decide | omega)]; exact hB x x0 (by first | decide | omega)
theorem C_khd {B : zB} (hK : 60000 ≤ K.1) (hs : 0 ≤ s ∧ s < K.2 5) (h1 : F 5 s 1 = 0 ∨ F 5 s 1 = 1) (hc : F 5 s 1 = 0 → 0 ≤ F 5 s 0 ∧ F 5 s 0 ≤ 2000 ∧ SB s (F 5 s 0) B) : ∃ r B', f_Performance_keyHeard K s F B = some (r, F, B') ∧ khB s B B' := by
  unfold f_Performance_keyHeard f_Performance_keyHeard_14
  rw [if_pos hs, if_pos (by unfold r32; omega)]
  by_cases c1 : F 5 s 1 = 0
  · obtain ⟨c0, c2, hS⟩ := hc c1
    rw [if_pos c1, if_pos (by unfold r32; omega)]
    by_cases c3 : F 5 s 0 = 0
    · rw [if_pos c3]; exact ⟨-1, B, rfl, fun _ _ _ _ _ => rfl⟩
    · obtain ⟨B1, e, b1, z1⟩ := C_kh18 (F := F) (B0 := B) hs 12 K.1 0 B (by first | decide | omega) (by decide) (by first | decide | omega) (fun _ _ _ _ _ => rfl) (fun x x0 x1 => (by first | decide | omega))
      obtain ⟨r, B2, e2, b2⟩ := C_kh39 (F := F) (B0 := B) hK hs ⟨rfl, c0, c2⟩ hS (F 5 s 0).toNat K.1 0 B1 (by first | decide | omega) (by decide) (by first | decide | omega) b1 (fun x x0 x1 => by rw [z1 x x0 x1]; omega)
      rw [if_neg c3, e, e2]
      exact ⟨r, B2, rfl, b2⟩
  · rw [if_neg c1]; exact ⟨-1, B, rfl, fun _ _ _ _ _ => rfl⟩
end
section
variable {K : Nat} {F : zF} {B : zB}
/-- the sounds gathered, as hearing wants them -/
def GHs (n : Int) (B : zB) : Prop := ∀ j, 0 ≤ j → j < n → (0 ≤ B 14 0 63 j ∧ B 14 0 63 j < B 14 0 64 j ∧ B 14 0 64 j ≤ 500000) ∧ (0 ≤ B 14 0 65 j ∧ B 14 0 65 j ≤ 127)
theorem L_kh42 {n l6 l5 l3 : Int} {rec : Int → Int → Int → Int → zF → zB → zO} (hT : TQm B) (h : GHs n B) (n0 : 0 ≤ n ∧ n ≤ 2000) (h6 : 0 ≤ l6 ∧ l6 < 24) (h3 : -1 ≤ l3 ∧ l3 ≤ 2000000000000) (go : ∀ a b, (-1 ≤ a ∧ a ≤ 2000000000000) → zR (rec (l6 + 1) b a n F B) F B) : ∀ (d N : Nat) (i v : Int), i + d = n → 0 ≤ i → d < N → (0 ≤ v ∧ v ≤ 500000000 * i) → zR (f_M_keyHeard_42 rec K N i v l6 l5 l3 n F B) F B := by
  intro d
  induction d with
  | zero =>
    intro N i v hi i0 hN hv
    obtain ⟨m, rfl⟩ : ∃ m, N = m + 1 := ⟨N - 1, (by first | decide | omega)⟩
    rw [f_M_keyHeard_42, if_pos (by unfold r32; omega), if_pos (by unfold r32; omega), if_pos (by first | decide | omega)]
    unfold f_M_keyHeard_126
    exact zR_g (by unfold r64; omega) (zR_g (by unfold r64; omega) (zR_i (fun _ => go _ _ (by first | decide | omega)) (fun _ => go _ _ h3)))
  | succ d ih =>
    intro N i v hi i0 hN hv
    obtain ⟨m, rfl⟩ : ∃ m, N = m + 1 := ⟨N - 1, (by first | decide | omega)⟩
    obtain ⟨k1, k2⟩ := h i i0 (by first | decide | omega)
    have ez : zrm l6 12 = l6 % 12 := zrm_e h6.1 (by unfold r32; omega) (by decide) (by decide)
    have ed : zdv l6 12 = l6 / 12 := zdv_e h6.1 (by unfold r32; omega) (by decide) (by decide)
    obtain ⟨r, F1, B1, e, rfl, rfl, r0, r1⟩ := s_mod (K := K) (a := B 14 0 65 i - l6 % 12) (b := 12) (F := F) (B := B) (by unfold r32; omega) (by decide) (by decide)
    have t := hT.2.2 (l6 / 12 * 12 + r) (by first | decide | omega) (by first | decide | omega)
    rw [f_M_keyHeard_42, ez, ed, if_pos (by unfold r32; omega), if_pos (by unfold r32; omega), if_neg (by first | decide | omega), if_pos (by first | decide | omega), if_pos (by unfold r32; omega), e, zb_s, if_pos (by first | decide | omega), if_pos (by unfold r32; omega)]
    generalize B1 14 0 106 (l6 / 12 * 12 + r) = x at t ⊢
    have m1 : (B1 14 0 64 i - B1 14 0 63 i) * x ≤ 500000 * 1000 := Int.mul_le_mul (by first | decide | omega) t.2 t.1 (by first | decide | omega)
    have m2 : 0 ≤ (B1 14 0 64 i - B1 14 0 63 i) * x := Int.mul_nonneg (by first | decide | omega) t.1
    exact ih m (i + 1) _ (by first | decide | omega) (by first | decide | omega) (by first | decide | omega) (by first | decide | omega)
theorem L_kh29 {n : Int} (hK : 5000 ≤ K) (hT : TQm B) (h : GHs n B) (n0 : 0 ≤ n ∧ n ≤ 2000) : ∀ (d N : Nat) (i a b : Int), i + d = 24 → 0 ≤ i → d < N → (-1 ≤ a ∧ a ≤ 2000000000000) → zR (f_M_keyHeard_29 K N i b a n F B) F B := by
  intro d
  induction d with
  | zero =>
    intro N i a b hi i0 hN ha
    obtain ⟨m, rfl⟩ : ∃ m, N = m + 1 := ⟨N - 1, (by first | decide | omega)⟩
    rw [f_M_keyHeard_29, if_pos (by unfold r32; omega), if_pos (by first | decide | omega)]
    exact zR_s
  | succ d ih =>
    intro N i a b hi i0 hN ha
    obtain ⟨m, rfl⟩ : ∃ m, N = m + 1 := ⟨N - 1, (by first | decide | omega)⟩
    rw [f_M_keyHeard_29, if_pos (by unfold r32; omega), if_neg (by first | decide | omega)]
    exact L_kh42 hT h n0 (by first | decide | omega) ha (fun a b ha => ih m (i + 1) a b (by first | decide | omega) (by first | decide | omega) (by first | decide | omega) ha) n.toNat K 0 0 (by first | decide | omega) (by decide) (by first | decide | omega) (by first | decide | omega)
end
theorem L_key {K : Nat} {V s w : Int} {Fc : zF} {Bc : zB} {F F' : zF} {B B' : zB} (hK : 5000 ≤ K) (e : f_M_gather K w F B = some (F' 14 0 62, F', B')) (hG : GA V s Fc Bc F' B') (b0 : 0 ≤ F' 14 0 62 ∧ F' 14 0 62 ≤ 100000000) (hT : TQm B') : ∃ r, f_M_keyHeard K w F B = some (r, F', B') := by
  unfold f_M_keyHeard f_M_keyHeard_17
  rw [e, zb_s]
  refine zR_g (by unfold r32; omega) (zR_i (fun _ => zR_s) (fun n0 => zR_i (fun n1 => ?_) (fun _ => zR_s)))
  refine L_kh29 hK hT (fun j j0 j1 => ?_) (by first | decide | omega) 24 K 0 (-1) (-1) (by first | decide | omega) (by decide) (by first | decide | omega) (by first | decide | omega)
  rcases hG with ⟨g1, g2, g3, g4, g5⟩ | ⟨g1, g2, g3⟩
  · obtain ⟨a1, a2, a3, a4, a5, a6, a7⟩ := g5 j j0 (by first | decide | omega)
    rw [← a5.1, ← a6.1, ← a3.1]
    exact ⟨⟨a5.2, a7.1, a6.2⟩, a3.2⟩
  · omega
/-- the reference's scratch may change -/
theorem IV_s {Km : Nat} {K : zK} {F Fm Fm' : zF} {B Bm Bm' : zB} (h : IV cc Km K F B Fm Bm) (g : ∀ i y k, ¬ (i = 14 ∧ y = 0 ∧ (k ≤ 1 ∨ k = 62 ∨ (100 ≤ k ∧ k ≤ 105))) → Fm' i y k = Fm i y k) (m : ∀ c y k x, ¬ (c = 14 ∧ y = 0 ∧ ((63 ≤ k ∧ k ≤ 69) ∨ k = 98 ∨ k = 99)) → Bm' c y k x = Bm c y k x) : IV cc Km K F B Fm' Bm' := by
  obtain ⟨p, p0, p1, w, w0, w1, hE, hW, hO, h7, hX, hK⟩ := h
  have hT' : IT F B Fm' Bm' := by
    obtain ⟨t1, t2, t3, t4, t5⟩ := hE.1.2.2.2.1
    exact ⟨by rw [g 14 0 3 (by first | decide | omega)]; exact t1, t2, t3, t4, by funext y; rw [← t5]; show Bm' 14 0 2 y % 256 = Bm 14 0 2 y % 256; rw [m 14 0 2 y (by first | decide | omega)]⟩
  refine ⟨p, p0, p1, w, w0, w1, IE_f hE rfl (fun _ _ => rfl) (Int.le_refl _) (fun _ _ _ _ _ _ _ _ => rfl) (fun _ _ _ _ _ _ _ _ _ => rfl) (fun i k => ⟨fun _ => g 13 i k (by first | decide | omega), g 14 0 6 (by first | decide | omega)⟩) ⟨fun i k x _ => m 13 i k x (by first | decide | omega), fun k x hk => m 14 0 k x (by first | decide | omega)⟩ hT', ⟨by rw [g 14 0 71 (by first | decide | omega)]; exact hW.1, hW.2.1, fun j j0 j1 => by rw [m 14 0 70 j (by first | decide | omega)]; exact hW.2.2 j j0 j1⟩, IOp_f hO rfl rfl (fun _ _ => rfl) (fun _ _ _ => rfl) (g 14 0 72 (by first | decide | omega)) (fun k x hk => m 14 0 k x (by first | decide | omega)), h7, fun y y0 y1 => by rw [m 14 0 4 y (by first | decide | omega)]; exact hX y y0 y1, hK⟩
/-- a place: empty, or a kept piece with all that stands -/
theorem slotE {Km : Nat} {K : zK} {F Fm : zF} {B Bm : zB} (h : IV cc Km K F B Fm Bm) {a1 : Int} (h1 : r32 a1) : (∃ q, q < 0 ∧ f_S_pieceAt K 0 a1 F B = some (q, F, B) ∧ f_M_piece Km a1 Fm Bm = some (-1, Fm, Bm)) ∨ ∃ p p0 p1 w w0 w1 q v V, IE cc K Km p p0 p1 w w0 w1 F B Fm Bm ∧ IZ K F B Fm Bm ∧ ((q = p0 ∧ v = w0) ∨ (q = p1 ∧ v = w1)) ∧ PK K V q v F B Fm Bm ∧ MK V v Fm Bm ∧ PD K V q v F B Fm Bm ∧ Fm 13 v 0 = 1 ∧ (0 ≤ v ∧ v < 3) ∧ f_S_pieceAt K 0 a1 F B = some (q, F, B) ∧ f_M_piece Km a1 Fm Bm = some (v, Fm, Bm) ∧ LNk q v F B Fm Bm ∧ 0 ≤ q := by
  obtain ⟨p, p0, p1, w, w0, w1, hE, hZ⟩ := h
  have hA := hE.1.1
  obtain ⟨n1, n2, n3, n4, n5, n6⟩ := hE.1.2.2.2.2.1
  have hWw := hE.1.2.2.2.2.2.1
  have s0 := hE.1.2.2.2.2.2.2.2.2.2.1
  have s1 := hE.1.2.2.2.2.2.2.2.2.2.2
  have h12 : 0 < K.2 12 := by have := hA.2.2; omega
  by_cases z : a1 < 0 ∨ 2 ≤ a1
  · exact Or.inl ⟨-1, by decide, C_atx h1 z, L_atx h1 z⟩
  · have hl : 0 ≤ a1 ∧ a1 < 2 := by omega
    have go : ∀ q v, B 12 0 3 a1 = q → Bm 14 0 5 a1 = v → 0 ≤ v ∧ v < 3 → ((q = p0 ∧ v = w0) ∨ (q = p1 ∧ v = w1)) → SLD K q v F B Fm Bm → LNk q v F B Fm Bm → (∃ q, q < 0 ∧ f_S_pieceAt K 0 a1 F B = some (q, F, B) ∧ f_M_piece Km a1 Fm Bm = some (-1, Fm, Bm)) ∨ ∃ p p0 p1 w w0 w1 q v V, IE cc K Km p p0 p1 w w0 w1 F B Fm Bm ∧ IZ K F B Fm Bm ∧ ((q = p0 ∧ v = w0) ∨ (q = p1 ∧ v = w1)) ∧ PK K V q v F B Fm Bm ∧ MK V v Fm Bm ∧ PD K V q v F B Fm Bm ∧ Fm 13 v 0 = 1 ∧ (0 ≤ v ∧ v < 3) ∧ f_S_pieceAt K 0 a1 F B = some (q, F, B) ∧ f_M_piece Km a1 Fm Bm = some (v, Fm, Bm) ∧ LNk q v F B Fm Bm ∧ 0 ≤ q := fun q v eq ev hv hc hs ln => by
      have x1 := C_at (K := K) (F := F) h12 hl eq
      rcases hs with ⟨q0, m0⟩ | ⟨q0, m0, V, hP, hM, hD⟩
      · have x3 := L_at (Km := Km) (F := Fm) hl ev hv (Or.inl m0)
        rw [if_pos m0] at x3
        exact Or.inl ⟨q, q0, x1, x3⟩
      · have x3 := L_at (Km := Km) (F := Fm) hl ev hv (Or.inr m0)
        rw [if_neg (by first | decide | omega)] at x3
        exact Or.inr ⟨p, p0, p1, w, w0, w1, q, v, V, hE, hZ, hc, hP, hM, hD, m0, hv, x1, x3, ln, q0⟩
    rcases (show a1 = 0 ∨ a1 = 1 by omega) with e | e
    · exact go p0 w0 (by rw [e]; exact n2) (by rw [e]; exact n5) hWw.2.1 (Or.inl ⟨rfl, rfl⟩) (SLD_of s0 hE.2.2.2.1) hE.2.2.2.2.2.2.1
    · exact go p1 w1 (by rw [e]; exact n3) (by rw [e]; exact n6) hWw.2.2.1 (Or.inr ⟨rfl, rfl⟩) (SLD_of s1 hE.2.2.2.2.1) hE.2.2.2.2.2.2.2
end
end
section
section
/-! ===== the calls of fault, moment ===== -/
variable {cc : Int}
theorem PQs_k {Km : Nat} {K : zK} {F Fm : zF} {B Bm : zB} (h : IV cc Km K F B Fm Bm) {q V w : Int} (hP : PK K V q w F B Fm Bm) : PQs K V q F B := by
  obtain ⟨⟨h1, h2, h3, h4, h5⟩, ⟨g2, g3, _⟩, hv⟩ := id hP
  exact ⟨h1, ⟨h4, h3⟩, g2.2, g3.2, fun u u0 u1 => PKc_v h hP u0 u1 rfl⟩
theorem PQs_m {K K' : zK} {V p : Int} {F F' : zF} {B B' : zB} (h : PQs K V p F B) (kk : ∀ c, K.2 c ≤ K'.2 c) (f6 : ∀ k, k = 1 ∨ k = 2 ∨ k = 3 → F' 6 p k = F 6 p k) (b6 : ∀ x, B' 6 p 0 x = B 6 p 0 x) (f4 : ∀ y k, y < K.2 4 → F' 4 y k = F 4 y k) (b4 : ∀ y k x, y < K.2 4 → B' 4 y k x = B 4 y k x) (f1 : ∀ y k, y < K.2 1 → F' 1 y k = F 1 y k) (b1 : ∀ y k x, y < K.2 1 → B' 1 y k x = B 1 y k x) : PQs K' V p F' B' := by
  have k6 := kk 6
  have k4 := kk 4
  have k1 := kk 1
  obtain ⟨h1, h2, h3, h4, h5⟩ := h
  refine ⟨⟨h1.1, (by first | decide | omega)⟩, by rw [f6 1 (by first | decide | omega)]; exact h2, by rw [f6 2 (by first | decide | omega)]; exact h3, by rw [f6 3 (by first | decide | omega)]; exact h4, fun u u0 u1 => ?_⟩
  obtain ⟨m, q0, q1, q2, q3⟩ := h5 u u0 u1
  rw [b6]
  refine ⟨m, ⟨q0.1, (by first | decide | omega)⟩, by rw [f4 _ 6 q0.2]; exact q1, q2, fun i i0 i1 => ?_⟩
  obtain ⟨e1, e2, e3⟩ := q3 i i0 i1
  have l := e1.1.2
  rw [b4 _ 5 i q0.2, f1 _ 0 l, f1 _ 1 l]
  refine ⟨⟨⟨e1.1.1, (by first | decide | omega)⟩, by rw [f1 _ 10 l]; exact e1.2.1, fun k k0 k1' => ?_⟩, e2, e3⟩
  rw [f1 _ 10 l] at k1'
  rw [b1 _ 12 k l, b1 _ 13 k l]
  exact e1.2.2 k k0 k1'
/-- the study of a kept piece is made -/
def STm (K K1 : zK) (q s : Int) (F : zF) (B : zB) (F1 : zF) (B1 : zB) : Prop := K1.1 = K.1 ∧ (0 ≤ s ∧ s < K1.2 9) ∧ ((s = F 6 q 12 ∧ K1 = K) ∨ (F 6 q 12 < 0 ∧ s = K.2 9 ∧ K1 = (K.1, zinN K.2 9))) ∧ (F1 6 q 12 = s ∧ F1 6 q 13 = 1) ∧ (∀ c y k, y < K.2 c → ¬ (c = 6 ∧ y = q ∧ (k = 12 ∨ k = 13)) → ¬ (c = 9 ∧ y = s) → F1 c y k = F c y k) ∧ (∀ c y k x, y < K.2 c → ¬ (c = 9 ∧ y = s) → B1 c y k x = B c y k x) ∧ STu s F1 B1
/-- what the study that is made holds -/
def STz (K : zK) (q s : Int) (F : zF) (B : zB) (F1 : zF) (B1 : zB) : Prop := ∀ V S, SG V S → SCl K V q S F B → (F 6 q 13 = 1 → STX V (F 6 q 12) S F B) → STX V s S F1 B1
theorem C_stm {K : zK} {V q : Int} {F Fm : zF} {B Bm : zB} (hK : 60000 ≤ K.1) (g9 : 0 ≤ K.2 9) (hU : IU cc K F B Fm Bm) (hq : PQs K V q F B) (l12 : F 6 q 12 < K.2 9) : ∃ s F1 B1 K1, f_Piece_studyMade K q F B = some (s, F1, B1, K1) ∧ STm K K1 q s F B F1 B1 ∧ STz K q s F B F1 B1 ∧ PQs K1 V q F1 B1 := by
  have hp := hq.1
  have c13 := hU.2.2.2.2.1 q hp.1 hp.2
  -- an object that is there, not looked through
  have g18 : ∀ (K1 : zK) (F1 : zF) (B1 : zB) (s : Int), K1.1 = K.1 → PQs K1 V q F1 B1 → F1 6 q 12 = s → 0 ≤ s → s < K1.2 9 → F1 6 q 13 = 0 → SBb s B1 → ∃ F2 B2, f_Piece_studyMade_18 K1 q F1 B1 = some (s, F2, B2, K1) ∧ (F2 6 q 12 = s ∧ F2 6 q 13 = 1) ∧ (∀ c y k, ¬ (c = 6 ∧ y = q ∧ k = 13) → ¬ (c = 9 ∧ y = s) → F2 c y k = F1 c y k) ∧ stB s B1 B2 ∧ STu s F2 B2 ∧ PQs K1 V q F2 B2 ∧ ∀ V' S, SG V' S → SCl K1 V' q S F1 B1 → STX V' s S F2 B2 := fun K1 F1 B1 s k1 h1 e12 s0 s1 e13 hS => by
    obtain ⟨F2, B2, e, f, b, st⟩ := C_look (by rw [k1]; exact hK) h1 ⟨s0, s1⟩ hS
    have f12 : F2 6 q 12 = s := by rw [f 6 q 12 (by first | decide | omega)]; exact e12
    refine ⟨zup3 F2 6 q 13 1, B2, ?_, ⟨by rw [zup3_v, if_neg (by first | decide | omega)]; exact f12, by rw [zup3_v, if_pos ⟨rfl, rfl, rfl⟩]⟩, fun c y k n n' => by rw [zup3_v, if_neg n, f c y k (by first | decide | omega)], b, ?_, ?_, fun V' S hs hc => ?_⟩
    · unfold f_Piece_studyMade_18 f_Piece_studyMade_38
      rw [if_pos h1.1, e13, if_pos (by decide), if_pos rfl, e12, if_pos ⟨s0, s1⟩, e]
      simp only [zbN_s]
      rw [if_pos h1.1, zup3_v, if_neg (by first | decide | omega), f12]
    · unfold STu at *
      rw [zup3_v, if_neg (by first | decide | omega), zup3_v, if_neg (by first | decide | omega)]
      exact st
    · exact PQs_m (PKs_f h1 f b) (fun _ => Int.le_refl _) (fun k hk => by rw [zup3_v, if_neg (by first | decide | omega)]) (fun _ => rfl) (fun y k _ => by rw [zup3_v, if_neg (by first | decide | omega)]) (fun _ _ _ _ => rfl) (fun y k _ => by rw [zup3_v, if_neg (by first | decide | omega)]) (fun _ _ _ _ => rfl)
    · obtain ⟨F3, B3, e3, _, _, sx⟩ := C_lookx (by rw [k1]; exact hK) hs hc ⟨s0, s1⟩
      have ee := e3.symm.trans e
      simp only [Option.some.injEq, Prod.mk.injEq] at ee
      rw [ee.2.1, ee.2.2] at sx
      exact STX_e sx (fun k _ => by rw [zup3_v, if_neg (by first | decide | omega)]) (fun _ _ _ => rfl) hs.1.2
  unfold f_Piece_studyMade
  rw [if_pos hp]
  by_cases n : F 6 q 12 < 0
  · -- a study is made
    have e13 : F 6 q 13 = 0 := by
      rcases c13 with z | z
      · exact z
      · omega
    have k9 : zinN K.2 9 9 = K.2 9 + 1 := by rw [zinN_v, if_pos rfl]
    have kn : ∀ c, ¬ c = 9 → zinN K.2 9 c = K.2 c := fun c hc => by rw [zinN_v, if_neg hc]
    have kk : ∀ c, K.2 c ≤ zinN K.2 9 c := fun c => by
      by_cases e : c = 9
      · rw [e, k9]; omega
      · rw [kn c e]; exact Int.le_refl _
    generalize hF1 : zup3 (zinF F 9 (K.2 9) [0, 0, 0, 0, 0, 0, 0, 0, 0, 0, 0]) 6 q 12 (K.2 9) = F1
    generalize hB1 : zinB B 9 (K.2 9) (fun _ _ => 0) = B1
    have fn : ∀ c y k, ¬ (c = 9 ∧ y = K.2 9) → ¬ (c = 6 ∧ y = q ∧ k = 12) → F1 c y k = F c y k := fun c y k q1 q2 => by rw [← hF1, zup3_v, if_neg q2, zinF_v, if_neg q1]
    have bn : ∀ c y k x, ¬ (c = 9 ∧ y = K.2 9) → B1 c y k x = B c y k x := fun c y k x q1 => by rw [← hB1, zinB_v, if_neg q1]
    have bz : ∀ k x, B1 9 (K.2 9) k x = 0 := fun k x => by rw [← hB1, zinB_v, if_pos ⟨rfl, rfl⟩]
    have h1 : PQs (K.1, zinN K.2 9) V q F1 B1 := PQs_m hq kk (fun k hk => fn 6 q k (by first | decide | omega) (by first | decide | omega)) (fun x => bn 6 q 0 x (by first | decide | omega)) (fun y k _ => fn 4 y k (by first | decide | omega) (by first | decide | omega)) (fun y k x _ => bn 4 y k x (by first | decide | omega)) (fun y k _ => fn 1 y k (by first | decide | omega) (by first | decide | omega)) (fun y k x _ => bn 1 y k x (by first | decide | omega))
    obtain ⟨F2, B2, e, g1, g2, g3, g4, g5, g6⟩ := g18 (K.1, zinN K.2 9) F1 B1 (K.2 9) rfl h1 (by rw [← hF1, zup3_v, if_pos ⟨rfl, rfl, rfl⟩]) g9 (by show K.2 9 < zinN K.2 9 9; omega) (by rw [fn 6 q 13 (by first | decide | omega) (by first | decide | omega)]; exact e13) ⟨fun j => by rw [bz]; omega, fun k j _ _ => by rw [bz]; omega, fun j => by rw [bz, bz, bz, bz, bz, bz]; exact ⟨by decide, by decide, by decide, by decide, by decide, by decide⟩⟩
    refine ⟨K.2 9, F2, B2, (K.1, zinN K.2 9), ?_, ⟨rfl, ⟨g9, by show K.2 9 < zinN K.2 9 9; omega⟩, Or.inr ⟨n, rfl, rfl⟩, g1, fun c y k hy n1 n2 => by rw [g2 c y k (by first | decide | omega) n2, fn c y k n2 (by first | decide | omega)], fun c y k x hy n1 => by rw [g3 c y k x n1, bn c y k x n1], g4⟩, fun V' S hs hc _ => g6 V' S hs (SCl_m hc kk (fn 6 q 1 (by first | decide | omega) (by first | decide | omega)) (fun x => bn 6 q 0 x (by first | decide | omega)) (fun y k _ => fn 4 y k (by first | decide | omega) (by first | decide | omega)) (fun y k x _ => bn 4 y k x (by first | decide | omega)) (fun y k _ => fn 1 y k (by first | decide | omega) (by first | decide | omega)) (fun y k x _ => bn 1 y k x (by first | decide | omega))), g5⟩
    rw [if_pos n]
    unfold f_Study_init f_Piece_studyMade_15
    rw [if_pos g9]
    simp only [zbM_s]
    rw [if_pos (show 0 ≤ K.2 9 ∧ K.2 9 < zinN K.2 9 9 by omega), if_pos (show 0 ≤ q ∧ q < zinN K.2 9 6 by rw [kn 6 (by decide)]; exact hp), if_pos (show 0 ≤ q ∧ q < zinN K.2 9 6 by rw [kn 6 (by decide)]; exact hp), if_pos (show K.2 9 < zinN K.2 9 9 by omega), hF1, hB1]
    exact e
  · rw [if_neg n]
    have st := hU.2.2.2.1 (F 6 q 12) (by first | decide | omega) l12
    rcases c13 with e13 | ⟨e13, _⟩
    · obtain ⟨F2, B2, e, g1, g2, g3, g4, g5, g6⟩ := g18 K F B (F 6 q 12) rfl hq rfl (by first | decide | omega) l12 e13 st.2.2
      exact ⟨F 6 q 12, F2, B2, K, e, ⟨rfl, ⟨(by first | decide | omega), l12⟩, Or.inl ⟨rfl, rfl⟩, g1, fun c y k _ n1 n2 => g2 c y k (by first | decide | omega) n2, fun c y k x _ n1 => g3 c y k x n1, g4⟩, fun V' S hs hc _ => g6 V' S hs hc, g5⟩
    · refine ⟨F 6 q 12, F, B, K, ?_, ⟨rfl, ⟨(by first | decide | omega), l12⟩, Or.inl ⟨rfl, rfl⟩, ⟨rfl, e13⟩, fun _ _ _ _ _ _ => rfl, fun _ _ _ _ _ _ => rfl, st⟩, fun V' S _ _ hx => hx e13, hq⟩
      unfold f_Piece_studyMade_18 f_Piece_studyMade_38
      rw [if_pos hp, e13, if_pos (by decide), if_neg (by decide), if_pos hp]
/-- once made, it is made -/
theorem C_stm2 {K1 : zK} {q s : Int} {F1 : zF} {B1 : zB} (hp : 0 ≤ q ∧ q < K1.2 6) (s0 : 0 ≤ s) (e : F1 6 q 12 = s ∧ F1 6 q 13 = 1) : f_Piece_studyMade K1 q F1 B1 = some (s, F1, B1, K1) := by
  unfold f_Piece_studyMade f_Piece_studyMade_18 f_Piece_studyMade_38
  rw [if_pos hp, e.1, if_neg (by first | decide | omega), if_pos hp, e.2, if_pos (by decide), if_neg (by decide), if_pos hp]
theorem IV_st {Km : Nat} {K K1 : zK} {p p0 p1 w w0 w1 q v V s : Int} {F F1 Fm : zF} {B B1 Bm : zB} (hE : IE cc K Km p p0 p1 w w0 w1 F B Fm Bm) (hZ : IZ K F B Fm Bm) (hc : (q = p0 ∧ v = w0) ∨ (q = p1 ∧ v = w1)) (hP : PK K V q v F B Fm Bm) (hM : MK V v Fm Bm) (m0 : Fm 13 v 0 = 1) (hL : LNk q v F B Fm Bm) (h : STm K K1 q s F B F1 B1) (hz : STz K q s F B F1 B1) : IV cc Km K1 F1 B1 Fm Bm := by
  obtain ⟨k1, sb, sc, e12, f, b, st⟩ := h
  have hA := hE.1.1.2.2
  have kc : ∀ c, ¬ c = 9 → K1.2 c = K.2 c := fun c hc => by
    rcases sc with ⟨_, z⟩ | ⟨_, _, z⟩
    · rw [z]
    · rw [z]; show zinN K.2 9 c = K.2 c; rw [zinN_v, if_neg hc]
  have l2 := kc 2 (by decide)
  have l5 := kc 5 (by decide)
  have l6 := kc 6 (by decide)
  have hU' : IU cc K1 F1 B1 Fm Bm := by
    obtain ⟨c0, u1, u2, u3, u4, u5, u6⟩ := hE.2.2.2.2.2.1
    have kn : IKn K1 F1 := by
      rcases sc with ⟨z1, z2⟩ | ⟨z1, z2, z3⟩
      · refine IKn_f c0.2 (by rw [z2]) (by rw [z2]) (by rw [z2]) (by rw [z2]) (fun y k y0 y1 hk => ?_)
        by_cases e : y = q ∧ k = 12
        · rw [e.1, e.2, e12.1, z1]
        · exact f 6 y k y1 (by first | decide | omega) (by first | decide | omega)
      · have o := c0.2
        have k9 : K1.2 9 = K.2 9 + 1 := by rw [z3]; show zinN K.2 9 9 = K.2 9 + 1; rw [zinN_v, if_pos rfl]
        have g' := ngk_o (k := 12) (K := K) (K' := K1) (q := q) (F := F) (F' := F1) l6 o.1 hP.1.1 z1 (by rw [e12.1]; exact sb.1) (fun y y0 y1 n => f 6 y 12 y1 (by first | decide | omega) (by first | decide | omega))
        unfold IKn at *
        rw [ngk_e (k := 9) (K' := K1) (F' := F1) l6 (fun y y0 y1 => f 6 y 9 y1 (by first | decide | omega) (by first | decide | omega)), ngk_e (k := 8) (K' := K1) (F' := F1) l6 (fun y y0 y1 => f 6 y 8 y1 (by first | decide | omega) (by first | decide | omega)), l6, k9, l5, l2]
        omega
    refine ⟨⟨c0.1, kn⟩, fun l l0 l1 => ?_, fun x x0 x1 => ?_, fun t t0 t1 => ?_, fun y y0 y1 => ?_, u5, u6⟩
    · have hl : l < K.2 2 := by omega
      obtain ⟨a1, a2, a3⟩ := u1 l l0 hl
      refine ⟨by rw [f 2 l 0 hl (by first | decide | omega) (by first | decide | omega)]; exact a1, by rw [f 2 l 4 hl (by first | decide | omega) (by first | decide | omega)]; exact a2, fun j => ?_⟩
      have bb : ∀ k x, B1 2 l k x = B 2 l k x := fun k x => b 2 l k x hl (by first | decide | omega)
      rw [bb, bb, bb, bb, bb, bb, bb, bb, bb]
      exact a3 j
    · have hx : x < K.2 5 := by omega
      exact PXu_e (u2 x x0 hx) (fun k _ => f 5 x k hx (by first | decide | omega) (by first | decide | omega))
    · by_cases e : t = s
      · rw [e]; exact st
      · have ht : t < K.2 9 := by
          rcases sc with ⟨_, z⟩ | ⟨_, zs, z⟩
          · rw [z] at t1; exact t1
          · rw [z] at t1
            have t1 : t < zinN K.2 9 9 := t1
            rw [zinN_v, if_pos rfl] at t1
            omega
        have gg : ∀ k, F1 9 t k = F 9 t k := fun k => f 9 t k ht (by first | decide | omega) (by first | decide | omega)
        have bb : ∀ k x, B1 9 t k x = B 9 t k x := fun k x => b 9 t k x ht (by first | decide | omega)
        have := u3 t t0 ht
        unfold STu at *
        simp only [gg, bb]
        exact this
    · have hy : y < K.2 6 := by omega
      by_cases e : y = q
      · rw [e, e12.1, e12.2]; exact Or.inr ⟨rfl, sb.1⟩
      · rw [f 6 y 13 hy (by first | decide | omega) (by first | decide | omega), f 6 y 12 hy (by first | decide | omega) (by first | decide | omega)]
        exact u4 y y0 hy
  have hL1 : LNk q v F1 B1 Fm Bm := fun q0 => ⟨(hL q0).1, by
    have hq := hP.1.1
    have e1 := hP.1.2.2.2.1
    have nl := (hL q0).2.1
    have hq4 : ∀ u, 0 ≤ u → u < V → (0 ≤ B 6 q 0 u ∧ B 6 q 0 u < K.2 4) := fun u u0 u1 => (hP.2.2 u u0 u1).1.1
    rw [e1] at nl
    rw [f 6 q 1 hq.2 (by first | decide | omega) (by first | decide | omega), e1]
    exact NAl_e nl (fun u _ _ => b 6 q 0 u hq.2 (by first | decide | omega)) (fun u u0 u1 => f 4 _ 10 (hq4 u u0 u1).2 (by first | decide | omega) (by first | decide | omega)) (fun u u0 u1 k x => b 4 _ k x (hq4 u u0 u1).2 (by first | decide | omega)) (fun _ _ _ _ => rfl), by
    have hq := hP.1.1
    have e1 := hP.1.2.2.2.1
    obtain ⟨S, sg, mx, sx⟩ := (hL q0).2.2.1
    rw [e1] at sg mx sx
    rw [f 6 q 1 hq.2 (by first | decide | omega) (by first | decide | omega), e1]
    refine ⟨S, sg, mx, fun _ => ?_⟩
    rw [e12.1]
    exact ⟨sb.1, hz V S sg (SCl_k hP sg mx.1) (fun z => (sx z).2)⟩, by
    have hq := hP.1.1
    have o2 := (hE.1.2.2.2.2.2.2.2.2.1 q hq.1 hq.2).1
    exact LYk_e (hL q0).2.2.2 (fun k hk => f 6 q k hq.2 (by first | decide | omega) (by first | decide | omega)) (fun _ k => ⟨f 2 _ k o2 (by first | decide | omega) (by first | decide | omega), fun x => b 2 _ k x o2 (by first | decide | omega)⟩) (fun _ _ => rfl) (fun _ _ _ _ => rfl)⟩
  have hE1 := IE_ob (c0 := 9) (kk' := 12) (s := s) hE hc hP hM m0 (Or.inr ⟨rfl, rfl⟩) k1 sb sc e12.1 f b (fun _ _ _ _ _ => rfl) (fun _ _ _ _ _ _ => rfl) hU' hL1
  exact ⟨p, p0, p1, w, w0, w1, hE1, IZ_f hZ k1 (kc 8 (by decide)) (f 0 1 1 (by first | decide | omega) (by first | decide | omega) (by first | decide | omega)) (f 12 0 8 (by first | decide | omega) (by first | decide | omega) (by first | decide | omega)) (f 12 0 9 (by first | decide | omega) (by first | decide | omega) (by first | decide | omega)) (f 7 0 4 (by first | decide | omega) (by first | decide | omega) (by first | decide | omega)) (fun o k ho => f 8 o k ho (by first | decide | omega) (by first | decide | omega)) (fun x => b 0 1 0 x (by first | decide | omega) (by first | decide | omega)) (fun x => b 12 0 1 x (by first | decide | omega) (by first | decide | omega)) (fun o k x ho => b 8 o k x ho (by first | decide | omega)) (fun _ _ => rfl) (fun _ _ _ => rfl)⟩
theorem p_fault {Km : Nat} (a1 a2 a3 : Int) (h1 : r32 a1) (h2 : r32 a2) (h3 : r32 a3) {K : zK} {F Fm : zF} {B Bm : zB} (h : IV cc Km K F B Fm Bm) : ∃ r1 F1 B1 K1 r2 F2 B2, f_S_fault K 0 a1 a2 a3 F B = some (r1, F1, B1, K1) ∧ f_M_fault_0 Km a1 a2 a3 Fm Bm = some (r2, F2, B2) ∧ IV cc Km K1 F1 B1 F2 B2 := by
  have hK := (IV_k h).1
  have h12 := IV_12 h
  have hU := IV_u h
  rcases slotE h h1 with ⟨q, q0, x1, x3⟩ | ⟨p, p0, p1, w, w0, w1, q, v, V, hE, hZ, hc, hP, hM, hD, m0, hv, x1, x3, ln, q0⟩
  · refine ⟨-1, F, B, K, -1, Fm, Bm, ?_, ?_, h⟩
    · unfold f_S_fault f_S_fault_37
      rw [if_pos h12, x1]
      simp only [zbN_s]
      rw [if_pos q0]
    · unfold f_M_fault_0 f_M_fault_0_25
      rw [x3, zb_s, if_pos (by decide)]
  have hq := hP.1.1
  have hR : ∃ r, f_M_fault_0 Km a1 a2 a3 Fm Bm = some (r, Fm, Bm) := by
    have h76 := hM.2.2
    unfold f_M_fault_0 f_M_fault_0_25 f_M_fault_0_81
    rw [x3, zb_s]
    exact zR_i (fun _ => zR_s) (fun _ => zR_g h2 (zR_i (fun _ => zR_s) (fun n2 => zR_g hv (zR_g (by unfold r32; omega) (zR_i (fun l2 => zR_g h3 (zR_i (fun _ => zR_g (by first | decide | omega) zR_s) (fun _ => zR_i (fun _ => zR_g (by first | decide | omega) zR_s) (fun _ => zR_i (fun _ => zR_g (by first | decide | omega) zR_s) (fun _ => zR_i (fun _ => zR_g (by first | decide | omega) zR_s) (fun _ => zR_s)))))) (fun _ => zR_s))))))
  obtain ⟨r', eM⟩ := hR
  have l12 := (hE.1.2.2.2.2.2.2.2.2.1 q hq.1 hq.2).2.2
  have g9 : 0 ≤ K.2 9 := by have := hE.1.1.2.2; omega
  obtain ⟨s, F1, B1, K1, e, st, sz, hq1⟩ := C_stm hK g9 hU (PQs_k h hP) l12
  have hV1 := IV_st hE hZ hc hP hM m0 ln st sz
  have st2 := C_stm2 (B1 := B1) hq1.1 st.2.1.1 st.2.2.2.1
  have s2 := st.2.2.2.2.2.2.2.1
  by_cases b : a3 < 0 ∨ 4 ≤ a3 ∨ a2 < 0
  · refine ⟨-1, F, B, K, r', Fm, Bm, ?_, eM, h⟩
    unfold f_S_fault f_S_fault_37
    rw [if_pos h12, x1]
    simp only [zbN_s]
    rw [if_neg (by first | decide | omega), if_pos h3]
    by_cases b1 : a3 < 0
    · rw [if_pos b1]
    rw [if_neg b1]
    by_cases b2 : 4 ≤ a3
    · rw [if_pos b2]
    · rw [if_neg b2, if_pos h2, if_pos (by first | decide | omega)]
  by_cases c : a2 < F1 9 s 2
  · refine ⟨B1 9 s (260 + a3.toNat) a2, F1, B1, K1, r', Fm, Bm, ?_, eM, hV1⟩
    unfold f_S_fault f_S_fault_31 f_S_fault_44
    rw [if_pos h12, x1]
    simp only [zbN_s]
    rw [if_neg (by first | decide | omega), if_pos h3, if_neg (by first | decide | omega), if_neg (by first | decide | omega), if_pos h2, if_neg (by first | decide | omega), if_pos hq, if_pos hq.2, e]
    simp only [zbM_s]
    rw [if_pos st.2.1, if_pos h2, if_pos (by unfold r32; omega), if_pos c, if_pos hq1.1, st2]
    simp only [zbM_s]
    rw [if_pos st.2.1, if_pos (by first | decide | omega), if_pos (by first | decide | omega)]
  · refine ⟨-1, F1, B1, K1, r', Fm, Bm, ?_, eM, hV1⟩
    unfold f_S_fault f_S_fault_31 f_S_fault_37
    rw [if_pos h12, x1]
    simp only [zbN_s]
    rw [if_neg (by first | decide | omega), if_pos h3, if_neg (by first | decide | omega), if_neg (by first | decide | omega), if_pos h2, if_neg (by first | decide | omega), if_pos hq, if_pos hq.2, e]
    simp only [zbM_s]
    rw [if_pos st.2.1, if_pos h2, if_pos (by unfold r32; omega), if_neg c]
end
end
section
section
/-! ===== the calls of moment, look ===== -/
variable {cc : Int}
theorem L_mom {Km : Nat} {a1 a2 a3 v V : Int} {Fm : zF} {Bm : zB} (h2 : r32 a2) (h3 : r32 a3) (hK : 200 ≤ Km) (x3 : f_M_piece Km a1 Fm Bm = some (v, Fm, Bm)) (hR : RDW V v Fm Bm) (h33 : Fm 13 v 3 = 0 ∨ Fm 13 v 3 = 1) (hM : MW5 V v Fm Bm) : ∃ r Fm' Bm', f_M_moment_0 Km a1 a2 a3 Fm Bm = some (r, Fm', Bm') ∧ crdF Fm Fm' ∧ crdB Bm Bm' := by
  have hv := hR.1
  have k2 := hR.2.2.1
  have h72 := hM.1
  have same : ∀ r : Int, ∃ r' Fm' Bm', some (r, Fm, Bm) = some (r', Fm', Bm') ∧ crdF Fm Fm' ∧ crdB Bm Bm' := fun r => ⟨r, Fm, Bm, rfl, fun _ _ _ _ => rfl, fun _ _ _ _ _ => rfl⟩
  unfold f_M_moment_0 f_M_moment_0_35 f_M_moment_0_208
  rw [x3, zb_s, if_neg (by first | decide | omega), if_pos h2]
  by_cases c1 : a2 < 0
  · rw [if_pos c1]; exact same _
  rw [if_neg c1, if_pos hv, if_pos (by unfold r32; omega)]
  by_cases c2 : Fm 13 v 72 ≤ a2
  · rw [if_pos c2]; exact same _
  rw [if_neg c2, if_pos h3]
  by_cases c3 : a3 < 0
  · rw [if_pos c3]; exact same _
  rw [if_neg c3]
  by_cases c4 : ¬ a3 ≤ 8
  · rw [if_neg c4]; exact same _
  have c4' : a3 ≤ 8 := by omega
  rw [if_pos c4']
  by_cases d0 : a3 = 0
  · rw [if_pos d0, if_pos (by first | decide | omega)]; exact same _
  rw [if_neg d0]
  by_cases d1 : a3 = 1
  · rw [if_pos d1, if_pos (by first | decide | omega)]; exact same _
  rw [if_neg d1]
  obtain ⟨n, F1, B1, e, f, b, cl, lo, g4, g5⟩ := L_chA (K := Km) hK hR hM (j := a2) (by first | decide | omega)
  have n0 := cl.1
  rw [e, zb_s]
  have res : ∀ r : Int, ∃ r' Fm' Bm', some (r, F1, B1) = some (r', Fm', Bm') ∧ crdF Fm Fm' ∧ crdB Bm Bm' := fun r => ⟨r, F1, B1, rfl, f, b⟩
  by_cases d2 : a3 = 2
  · rw [if_pos d2, if_pos (by unfold r32; omega)]; exact res _
  rw [if_neg d2]
  by_cases d3 : a3 = 3
  · rw [if_pos d3, if_pos (by unfold r32; omega)]; exact res _
  rw [if_neg d3, if_pos (by unfold r32; omega)]
  by_cases d4 : ¬ 0 ≤ F1 14 0 104
  · rw [if_neg d4]; exact res _
  have d4' : 0 ≤ F1 14 0 104 := by omega
  obtain ⟨q0, q1⟩ := g5 d4'
  have kc := cl.2 (F1 14 0 105) q0 q1
  rw [if_pos d4']
  by_cases e4 : a3 = 4
  · rw [if_pos e4, if_pos (by first | decide | omega), if_pos (by unfold r32; omega)]; exact res _
  rw [if_neg e4]
  by_cases e5 : a3 = 5
  · rw [if_pos e5, if_pos (by first | decide | omega), if_pos (by unfold r32; omega)]; exact res _
  rw [if_neg e5]
  by_cases e6 : a3 = 6
  · have l2 : 0 ≤ F1 14 0 102 ∧ F1 14 0 102 ≤ 62 := by
      rcases lo with z | z
      · have := z.1; omega
      · exact z.2
    have ez : zrm (F1 14 0 102) 7 = F1 14 0 102 % 7 := zrm_e l2.1 (by unfold r32; omega) (by decide) (by decide)
    obtain ⟨r, F2, B2, e2, rfl, rfl, r0, r1⟩ := s_mod (K := Km) (a := F1 14 0 102 % 7 - B1 14 0 98 (F1 14 0 105)) (b := 7) (F := F1) (B := B1) (by unfold r32; omega) (by decide) (by decide)
    rw [if_pos e6, if_pos (by first | decide | omega), ez, e2, zb_s, if_pos (zdv_R _ _)]; exact res _
  rw [if_neg e6]
  have f2 : -7 ≤ F1 13 v 2 ∧ F1 13 v 2 ≤ 7 := by rw [f 13 v 2 (by first | decide | omega)]; exact k2
  have f3 : F1 13 v 3 = 0 ∨ F1 13 v 3 = 1 := by rw [f 13 v 3 (by first | decide | omega)]; exact h33
  by_cases e7 : a3 = 7
  · obtain ⟨t, et, t0, t1⟩ := L_tonL (K := Km) (B := B1) hv f2 f3
    obtain ⟨r, F2, B2, e2, rfl, rfl, r0, r1⟩ := s_mod (K := Km) (a := B1 14 0 98 (F1 14 0 105) - t) (b := 7) (F := F1) (B := B1) (by unfold r32; omega) (by decide) (by decide)
    rw [if_pos e7, if_pos (by first | decide | omega), et, zb_s, e2, zb_s, if_pos (by unfold r32; omega)]; exact res _
  · obtain ⟨r, er, r01⟩ := L_isF4 (K := Km) hv f2 cl n.toNat Km 0 0 (by first | decide | omega) (by decide) (by first | decide | omega) (Or.inl rfl)
    have er' : f_M_isForeign Km v F1 B1 = some (r, F1, B1) := er
    rw [if_neg e7, er', zb_s, if_pos (by unfold r32; omega)]
    by_cases z : r = 0
    · rw [if_pos z]; exact res _
    · rw [if_neg z]; exact res _
theorem p_moment {Km : Nat} (a1 a2 a3 : Int) (h1 : r32 a1) (h2 : r32 a2) (h3 : r32 a3) {K : zK} {F Fm : zF} {B Bm : zB} (h : IV cc Km K F B Fm Bm) : ∃ r1 F1 B1 K1 r2 F2 B2, f_S_moment K 0 a1 a2 a3 F B = some (r1, F1, B1, K1) ∧ f_M_moment_0 Km a1 a2 a3 Fm Bm = some (r2, F2, B2) ∧ IV cc Km K1 F1 B1 F2 B2 := by
  have hK := (IV_k h).1
  have hKm := (IV_k h).2.1
  have h12 := IV_12 h
  have hU := IV_u h
  rcases slotE h h1 with ⟨q, q0, x1, x3⟩ | ⟨p, p0, p1, w, w0, w1, q, v, V, hE, hZ, hc, hP, hM, hD, m0, hv, x1, x3, ln, q0⟩
  · refine ⟨-2147483648, F, B, K, -2147483648, Fm, Bm, ?_, ?_, h⟩
    · unfold f_S_moment f_S_moment_28
      rw [if_pos h12, x1]
      simp only [zbN_s]
      rw [if_pos q0]
    · unfold f_M_moment_0 f_M_moment_0_35
      rw [x3, zb_s, if_pos (by decide)]
  have hq := hP.1.1
  have h33 : Fm 13 v 3 = 0 ∨ Fm 13 v 3 = 1 := by have := hP.2.1.2.1; omega
  obtain ⟨r', Fm', Bm', eM, mf, mb⟩ := L_mom (a1 := a1) h2 h3 (by first | decide | omega) x3 (PK_r hP) h33 hM.1
  have fin : ∀ {K1 : zK} {F1 : zF} {B1 : zB}, IV cc Km K1 F1 B1 Fm Bm → IV cc Km K1 F1 B1 Fm' Bm' := fun hV => IV_s hV (fun i y k n => mf i y k (by first | decide | omega)) (fun c y k x n => mb c y k x (by first | decide | omega))
  by_cases c1 : a2 < 0
  · refine ⟨-2147483648, F, B, K, r', Fm', Bm', ?_, eM, fin h⟩
    unfold f_S_moment f_S_moment_28
    rw [if_pos h12, x1]
    simp only [zbN_s]
    rw [if_neg (by first | decide | omega), if_pos h2, if_pos c1]
  have l12 := (hE.1.2.2.2.2.2.2.2.2.1 q hq.1 hq.2).2.2
  have g9 : 0 ≤ K.2 9 := by have := hE.1.1.2.2; omega
  obtain ⟨s, F1, B1, K1, e, st, sz, hq1⟩ := C_stm hK g9 hU (PQs_k h hP) l12
  have hV1 := IV_st hE hZ hc hP hM m0 ln st sz
  have st2 := C_stm2 (B1 := B1) hq1.1 st.2.1.1 st.2.2.2.1
  obtain ⟨t1, t2, t3⟩ := st.2.2.2.2.2.2
  have hK1 : 60000 ≤ K1.1 := by rw [st.1]; exact hK
  unfold f_S_moment f_S_moment_22
  rw [if_pos h12, x1]
  simp only [zbN_s]
  rw [if_neg (by first | decide | omega), if_pos h2, if_neg c1, if_pos hq, if_pos hq.2, e]
  simp only [zbM_s]
  rw [if_pos st.2.1, if_pos h2, if_pos (by unfold r32; omega)]
  by_cases c2 : ¬ a2 < F1 9 s 0
  · rw [if_neg c2]
    exact ⟨_, F1, B1, K1, r', Fm', Bm', rfl, eM, fin hV1⟩
  have c2' : a2 < F1 9 s 0 := by omega
  rw [if_pos c2', if_pos hq1.1, if_pos hq1.1.2, st2]
  simp only [zbM_s]
  unfold f_S_moment_37 f_S_moment_100 f_S_moment_115
  rw [if_pos h3]
  have pl := t3.1 a2
  by_cases d0 : a3 = 0
  · obtain ⟨r, er⟩ := C_above (K := K1) (x := B1 9 s 1 a2) (F := F1) (B := B1) (by first | decide | omega) pl
    rw [if_pos d0, if_pos st.2.1, if_pos (by first | decide | omega), er]
    simp only [zbN_s]
    exact ⟨r, F1, B1, K1, r', Fm', Bm', rfl, eM, fin hV1⟩
  rw [if_neg d0]
  by_cases d1 : a3 = 1
  · obtain ⟨r, er⟩ := C_below (K := K1) (x := B1 9 s 1 a2) (F := F1) (B := B1) (by first | decide | omega) pl
    rw [if_pos d1, if_pos st.2.1, if_pos (by first | decide | omega), er]
    simp only [zbN_s]
    exact ⟨r, F1, B1, K1, r', Fm', Bm', rfl, eM, fin hV1⟩
  rw [if_neg d1]
  by_cases d2 : a3 < 0
  · rw [if_pos d2]; exact ⟨_, F1, B1, K1, r', Fm', Bm', rfl, eM, fin hV1⟩
  rw [if_neg d2]
  by_cases d3 : ¬ a3 ≤ 8
  · rw [if_neg d3]; exact ⟨_, F1, B1, K1, r', Fm', Bm', rfl, eM, fin hV1⟩
  have d3' : a3 ≤ 8 := by omega
  obtain ⟨r, B2, er, b2, s2⟩ := C_told2 (j := a2) (l3 := a3) hK1 hq1 st.2.1 t3 (by first | decide | omega) h3
  have stm2 : STm K K1 q s F B F1 B2 := by
    obtain ⟨k1, k2, k3, k4, k5, k6, k7⟩ := st
    exact ⟨k1, k2, k3, k4, k5, fun c y k x hy n => by rw [b2 c y k x (by first | decide | omega), k6 c y k x hy n], t1, t2, s2⟩
  have sz2 : STz K q s F B F1 B2 := fun V' S hs hc hx => STX_e (sz V' S hs hc hx) (fun _ _ => rfl) (fun k x hk => b2 9 s k x (by first | decide | omega)) hs.1.2
  rw [if_pos d3', if_pos st.2.1, if_pos hq1.1, er]
  simp only [zbN_s]
  exact ⟨r, F1, B2, K1, r', Fm', Bm', rfl, eM, fin (IV_st hE hZ hc hP hM m0 ln stm2 sz2)⟩
/-- the sounds of a kept piece are made -/
theorem IV_sm {Km : Nat} {K K1 : zK} {p p0 p1 w w0 w1 q v V s : Int} {F F1 Fm : zF} {B B1 B2 Bm : zB} (hE : IE cc K Km p p0 p1 w w0 w1 F B Fm Bm) (hZ : IZ K F B Fm Bm) (hc : (q = p0 ∧ v = w0) ∨ (q = p1 ∧ v = w1)) (hP : PK K V q v F B Fm Bm) (hM : MK V v Fm Bm) (hD : PD K V q v F B Fm Bm) (m0 : Fm 13 v 0 = 1) (hv : 0 ≤ v ∧ v < 3) (x2 : K1.1 = K.1) (x3 : 0 ≤ s ∧ s < K1.2 5) (x4 : (s = F 6 q 9 ∧ K1 = K) ∨ (F 6 q 9 < 0 ∧ s = K.2 5 ∧ K1 = (K.1, zinN K.2 5))) (x5 : SDR s V q v F1 B1 Fm Bm) (x6 : F1 6 q 9 = s ∧ F1 6 q 11 = 1) (x7 : rwS s F1) (x8 : smF K q s F F1) (x9 : smB K s B B1) (x10 : F 6 q 11 = 1 → F1 = F ∧ B1 = B) (x11 : pfU K s F F1) (kb : khB s B1 B2) : IV cc Km K1 F1 B2 Fm Bm := by
  obtain ⟨d10, d11, d9, dr, ds, dp, dz⟩ := hD
  have hp := hP.1.1
  have hA := hE.1.1.2.2
  have f10 : F1 6 q 10 = F 6 q 10 := x8 6 q 10 hp.2 (by first | decide | omega) (by first | decide | omega)
  have hD' : PD K1 V q v F1 B2 Fm Bm := by
    refine ⟨by rw [f10]; exact d10, Or.inr x6.2, by rw [x6.1]; exact x3.2, fun _ => by rw [x6.1]; exact x7, fun _ => ⟨by rw [x6.1]; exact x3.1, by rw [x6.1]; exact SDR_e x5 ⟨rfl, rfl⟩ (fun k x hk => kb 5 s k x (by first | decide | omega)) (fun _ _ _ => rfl) (fun _ _ _ => rfl)⟩, fun z => ⟨x6.2, ?_⟩, fun z => dz (by rw [← f10]; exact z)⟩
    rw [f10] at z
    obtain ⟨e11, c, pfd⟩ := dp z
    obtain ⟨rfl, rfl⟩ := x10 e11
    have es : F1 6 q 9 = s := x6.1
    rw [es] at pfd ⊢
    exact ⟨c, PFD_p pfd x7 (fun _ _ => rfl) (fun k x hk => kb 5 s k x (by first | decide | omega)) (fun _ _ => rfl) (fun _ _ _ _ => rfl) pfd.2.2.2.2.2.2⟩
  have pF : pfF K q s F F1 := fun c y k q0 q1 q2 => x8 c y k q0 (by first | decide | omega) q2
  have pB : pfB K s B B2 := fun c y k x q0 q1 => by rw [kb c y k x (by first | decide | omega), x9 c y k x q0 (by first | decide | omega)]
  have pG : pfG v Fm Fm := fun _ _ _ _ _ => rfl
  have pM : pfM v Bm Bm := fun _ _ _ _ _ _ => rfl
  have kc : ∀ c, ¬ c = 5 → K1.2 c = K.2 c := fun c hc => by
    rcases x4 with ⟨_, z⟩ | ⟨_, _, z⟩
    · rw [z]
    · rw [z]; show zinN K.2 5 c = K.2 c; rw [zinN_v, if_neg hc]
  exact ⟨p, p0, p1, w, w0, w1, IE_pf hE hc hP hM m0 x2 x3 x4 x6.1 pF pB pG pM hD' (IU_pf hE.2.2.2.2.2.1 x3 x4 pF pB pG pM x11 (Or.inr (fun _ _ => rfl)) hv hp x6.1), IZ_f hZ x2 (kc 8 (by decide)) (pF 0 1 1 (by first | decide | omega) (by first | decide | omega) (by first | decide | omega)) (pF 12 0 8 (by first | decide | omega) (by first | decide | omega) (by first | decide | omega)) (pF 12 0 9 (by first | decide | omega) (by first | decide | omega) (by first | decide | omega)) (pF 7 0 4 (by first | decide | omega) (by first | decide | omega) (by first | decide | omega)) (fun o k ho => pF 8 o k ho (by first | decide | omega) (by first | decide | omega)) (fun x => pB 0 1 0 x (by first | decide | omega) (by first | decide | omega)) (fun x => pB 12 0 1 x (by first | decide | omega) (by first | decide | omega)) (fun o k x ho => pB 8 o k x ho (by first | decide | omega)) (fun _ _ => rfl) (fun _ _ _ => rfl)⟩
end
end
section
section
/-! ===== the call of look ===== -/
variable {cc : Int}
theorem p_look {Km : Nat} (a1 a2 : Int) (h1 : r32 a1) (h2 : r32 a2) {K : zK} {F Fm : zF} {B Bm : zB} (h : IV cc Km K F B Fm Bm) : ∃ r1 F1 B1 K1 r2 F2 B2, f_S_look K 0 a1 a2 F B = some (r1, F1, B1, K1) ∧ f_M_look Km a1 a2 Fm Bm = some (r2, F2, B2) ∧ IV cc Km K1 F1 B1 F2 B2 := by
  have hK := (IV_k h).1
  have hKm := (IV_k h).2.1
  have h12 := IV_12 h
  have hU := IV_u h
  rcases slotE h h1 with ⟨q, q0, x1, x3⟩ | ⟨p, p0, p1, w, w0, w1, q, v, V, hE, hZ, hc, hP, hM, hD, m0, hv, x1, x3, ln, q0⟩
  · refine ⟨-1, F, B, K, -1, Fm, Bm, ?_, ?_, h⟩
    · unfold f_S_look
      rw [if_pos h12, x1]
      simp only [zbN_s]
      rw [if_pos q0]
    · unfold f_M_look
      rw [x3, zb_s, if_pos (by decide)]
  have hq := hP.1.1
  have o3 := hE.1.2.2.2.2.2.2.2.2.1 q hq.1 hq.2
  have h5 : 0 ≤ K.2 5 := by have := hE.1.1.2.2; omega
  have g9 : 0 ≤ K.2 9 := by have := hE.1.1.2.2; omega
  have h33 : Fm 13 v 3 = 0 ∨ Fm 13 v 3 = 1 := by have := hP.2.1.2.1; omega
  obtain ⟨s, F1, B1, K1, y1, y2, y3, y4, y5, y6, y7, y8, y9, y10, y11⟩ := C_made (by first | decide | omega) h5 hP hE.2.1 hD
  obtain ⟨Fm', Bm', z1, z2, z3, z4, z5, z6⟩ := SDR_ga (Km := Km) (by first | decide | omega) y5 hE.2.1
  have hsm : ∀ {B2 : zB}, khB s B1 B2 → IV cc Km K1 F1 B2 Fm Bm := fun kb => IV_sm hE hZ hc hP hM hD m0 hv y2 y3 y4 y5 y6 y7 y8 y9 y10 y11 kb
  have hV1 : IV cc Km K1 F1 B1 Fm Bm := hsm (fun _ _ _ _ _ => rfl)
  obtain ⟨t, F3, B3, K3, e3, st, sz, hq3⟩ := C_stm hK g9 hU (PQs_k h hP) o3.2.2
  have hV3 := IV_st hE hZ hc hP hM m0 ln st sz
  by_cases c9 : a2 = 9
  · -- the key heard
    have hS : F1 5 s 1 = 0 → 0 ≤ F1 5 s 0 ∧ F1 5 s 0 ≤ 2000 ∧ SB s (F1 5 s 0) B1 := fun z => by
      rcases z4 with ⟨g1, g2, g3, g4, g5⟩ | ⟨g1, g2, g3⟩
      · refine ⟨g3, g4, fun j j0 j1 => ?_⟩
        obtain ⟨b1, b2, b3, b4, b5, b6, b7⟩ := g5 j j0 j1
        exact ⟨b1.2, b2.2, b3.2, b4.2, b5.2, b7.1, b6.2⟩
      · omega
    have h51 : F1 5 s 1 = 0 ∨ F1 5 s 1 = 1 := by
      rcases z4 with ⟨g1, _⟩ | ⟨g1, _⟩
      · exact Or.inl g1
      · exact Or.inr g1
    obtain ⟨r, B2, ek, kb⟩ := C_khd (by rw [y2]; exact hK) y3 h51 hS
    obtain ⟨r', el⟩ := L_key (K := Km) (by first | decide | omega) z1 z4 ⟨z5, z6⟩ (TQm_e hU.2.2.2.2.2.2 (fun k x hk => z3 14 0 k x (by first | decide | omega)))
    refine ⟨r, F1, B2, K1, r', Fm', Bm', ?_, ?_, IV_s (hsm kb) (fun i y k n => z2 i y k (by first | decide | omega)) (fun c y k x n => z3 c y k x (by first | decide | omega))⟩
    · unfold f_S_look f_S_look_139
      rw [if_pos h12, x1]
      simp only [zbN_s]
      rw [if_neg (by first | decide | omega), if_pos h2, if_neg (by first | decide | omega), if_neg (by first | decide | omega), if_neg (by first | decide | omega), if_neg (by first | decide | omega), if_neg (by first | decide | omega), if_neg (by first | decide | omega), if_neg (by first | decide | omega), if_neg (by first | decide | omega), if_neg (by first | decide | omega), if_pos c9, if_pos hq, y1]
      simp only [zbM_s]
      rw [if_pos y3, ek]
      simp only [zbN_s]
    · unfold f_M_look
      rw [x3, zb_s, if_neg (by first | decide | omega), if_pos h2, if_neg (by first | decide | omega), if_neg (by first | decide | omega), if_neg (by first | decide | omega), if_neg (by first | decide | omega), if_neg (by first | decide | omega), if_neg (by first | decide | omega), if_neg (by first | decide | omega), if_neg (by first | decide | omega), if_neg (by first | decide | omega), if_pos c9, if_pos hv, el, zb_s]
  have hR : ∃ r, f_M_look Km a1 a2 Fm Bm = some (r, Fm, Bm) := by
    unfold f_M_look f_M_look_111
    rw [x3, zb_s]
    exact zR_i (fun _ => zR_s) (fun _ => zR_g h2 (zR_i (fun _ => zR_g hv zR_s) (fun _ => zR_i (fun _ => zR_g hv zR_s) (fun _ => zR_i (fun _ => zR_g hv zR_s) (fun _ => zR_i (fun _ => zR_g hv (zR_g (by unfold r32; omega) (zR_i (fun _ => zR_s) (fun _ => zR_s)))) (fun _ => zR_i (fun _ => zR_g hv zR_s) (fun _ => zR_i (fun _ => zR_g hv zR_s) (fun _ => zR_i (fun _ => zR_g hv zR_s) (fun _ => zR_i (fun _ => zR_g hv zR_s) (fun _ => zR_i (fun _ => zR_g hv zR_s) (fun _ => zR_i (fun a => absurd a c9) (fun _ => zR_i (fun _ => zR_g hv zR_s) (fun _ => zR_i (fun _ => zR_g hv zR_s) (fun _ => zR_i (fun _ => zR_g hv zR_s) (fun _ => zR_i (fun _ => zR_g hv zR_s) (fun _ => zR_s))))))))))))))))
  obtain ⟨r', eM⟩ := hR
  have d10 := hD.1
  unfold f_S_look f_S_look_123 f_S_look_131 f_S_look_161 f_S_look_173 f_S_look_180 f_S_look_193 f_S_look_201 f_S_look_213 f_S_look_220
  rw [if_pos h12, x1]
  simp only [zbN_s]
  rw [if_neg (by first | decide | omega), if_pos h2]
  have stay : ∀ r : Int, ∃ r1 F1 B1 K1 r2 F2 B2, some (r, F, B, K) = some (r1, F1, B1, K1) ∧ f_M_look Km a1 a2 Fm Bm = some (r2, F2, B2) ∧ IV cc Km K1 F1 B1 F2 B2 := fun r => ⟨r, F, B, K, r', Fm, Bm, rfl, eM, h⟩
  by_cases c0 : a2 = 0
  · rw [if_pos c0, if_pos hq]; exact stay _
  rw [if_neg c0]
  by_cases c1 : a2 = 1
  · rw [if_pos c1, if_pos hq]; exact stay _
  rw [if_neg c1]
  by_cases c2 : a2 = 2
  · rw [if_pos c2, if_pos hq]; exact stay _
  rw [if_neg c2]
  by_cases c3 : a2 = 3
  · rw [if_pos c3, if_pos hq]; exact stay _
  rw [if_neg c3]
  by_cases c4 : a2 = 4
  · rw [if_pos c4, if_pos hq]; exact stay _
  rw [if_neg c4]
  by_cases c5 : a2 = 5
  · rw [if_pos c5, if_pos hq]; exact stay _
  rw [if_neg c5]
  by_cases c6 : a2 = 6
  · rw [if_pos c6, if_pos hq]; exact stay _
  rw [if_neg c6]
  by_cases c7 : a2 = 7
  · rw [if_pos c7, if_pos hq, e3]
    simp only [zbM_s]
    rw [if_pos st.2.1]
    exact ⟨_, F3, B3, K3, r', Fm, Bm, rfl, eM, hV3⟩
  rw [if_neg c7]
  by_cases c8 : a2 = 8
  · rw [if_pos c8, if_pos hq, e3]
    simp only [zbM_s]
    rw [if_pos st.2.1]
    exact ⟨_, F3, B3, K3, r', Fm, Bm, rfl, eM, hV3⟩
  rw [if_neg c8, if_neg c9]
  by_cases c10 : a2 = 10
  · rw [if_pos c10, if_pos hq]
    by_cases n8 : F 6 q 8 < 0
    · rw [if_pos n8]; exact stay _
    · rw [if_neg n8, if_pos ⟨(by first | decide | omega), o3.1⟩]; exact stay _
  rw [if_neg c10]
  by_cases c11 : a2 = 11
  · rw [if_pos c11, if_pos hq, if_pos (by unfold r32; omega)]
    by_cases z : F 6 q 10 = 0
    · rw [if_pos z]; exact stay _
    · rw [if_neg z, y1]
      simp only [zbM_s]
      rw [if_pos y3]
      exact ⟨_, F1, B1, K1, r', Fm, Bm, rfl, eM, hV1⟩
  rw [if_neg c11]
  by_cases c12 : a2 = 12
  · rw [if_pos c12, if_pos hq, if_pos (by unfold r32; omega)]
    by_cases z : F 6 q 10 = 0
    · rw [if_pos z]; exact stay _
    · rw [if_neg z, y1]
      simp only [zbM_s]
      rw [if_pos y3]
      exact ⟨_, F1, B1, K1, r', Fm, Bm, rfl, eM, hV1⟩
  rw [if_neg c12]
  by_cases c13 : a2 = 13
  · rw [if_pos c13, if_pos hq, if_pos (by unfold r32; omega)]
    by_cases z : F 6 q 10 = 0
    · rw [if_pos z]; exact stay _
    · rw [if_neg z, y1]
      simp only [zbM_s]
      rw [if_pos y3]
      exact ⟨_, F1, B1, K1, r', Fm, Bm, rfl, eM, hV1⟩
  rw [if_neg c13]; exact stay _
end
end

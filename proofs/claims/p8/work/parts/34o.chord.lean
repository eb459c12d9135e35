section
/-! ===== study: chords, class ===== -/
theorem zand63 (x : Int) : zand x 63 = x % 64 := by
  have h : (iI x &&& iI 63).toBitVec = BitVec.ofInt 32 x &&& 63#32 := rfl
  have hn : (BitVec.ofInt 32 x &&& 63#32).toNat = (x % 64).toNat := by
    rw [BitVec.toNat_and, BitVec.toNat_ofInt]
    show (x % (2 ^ 32 : Nat)).toNat &&& 63 = _
    rw [show (x % (2 ^ 32 : Nat)).toNat &&& 63 = (x % (2 ^ 32 : Nat)).toNat % 64 from Nat.and_two_pow_sub_one_eq_mod _ 6]
    omega
  show (iI x &&& iI 63).toBitVec.toInt = x % 64
  rw [h, BitVec.toInt_eq_toNat_of_lt (by rw [hn]; omega), hn]
  omega
theorem zand63_b (x : Int) : 0 ≤ zand x 63 ∧ zand x 63 ≤ 63 := by rw [zand63]; omega
theorem zt5_f : ztl 5 = 7 ∧ (∀ k : Fin 7, 0 ≤ ztv 5 (k.val : Int) ∧ ztv 5 (k.val : Int) ≤ 11) := by decide +kernel
theorem zt5_v {x : Int} (h0 : 0 ≤ x) (h1 : x < 7) : 0 ≤ ztv 5 x ∧ ztv 5 x ≤ 11 := by
  have k := zt5_f.2 ⟨x.toNat, (by first | decide | omega)⟩
  rw [show (((⟨x.toNat, (by first | decide | omega)⟩ : Fin 7).val : Nat) : Int) = x by show ((x.toNat : Nat) : Int) = x; omega] at k
  exact k
theorem zt16_f : ztl 16 = 16 ∧ ztl 17 = 16 ∧ (∀ k : Fin 16, r32 (ztv 16 (k.val : Int)) ∧ 0 ≤ ztv 17 (k.val : Int) ∧ ztv 17 (k.val : Int) ≤ 9) := by decide +kernel
theorem zt16_v {x : Int} (h0 : 0 ≤ x) (h1 : x < 16) : r32 (ztv 16 x) ∧ 0 ≤ ztv 17 x ∧ ztv 17 x ≤ 9 := by
  have k := zt16_f.2.2 ⟨x.toNat, (by first | decide | omega)⟩
  rw [show (((⟨x.toNat, (by first | decide | omega)⟩ : Fin 16).val : Nat) : Int) = x by show ((x.toNat : Nat) : Int) = x; omega] at k
  exact k
section
variable {K : zK} {V p t : Int} {F : zF} {B : zB}
theorem C_bit (x : Int) : ∃ r, f_Integer_bitCount K x F B = some (r, F, B) ∧ 0 ≤ r ∧ r ≤ 63 := ⟨_, rfl, zand63_b _⟩
theorem C_alt {l : Int} (ht : 0 ≤ t ∧ t < K.2 9) (hl : 0 ≤ l ∧ l < 7) : ∃ r, f_Study_alterationOf K t l F B = some (r, F, B) ∧ -2 ≤ r ∧ r ≤ 61 := by
  obtain ⟨r, e, r0, r1⟩ := C_bit (K := K) (F := F) (B := B) (B 9 t 10 l - 1)
  unfold f_Study_alterationOf
  rw [if_pos ht, if_pos hl, e, zb_s]
  exact ⟨_, rfl, (by first | decide | omega), (by first | decide | omega)⟩
theorem C_tonA {a b : Int} (ht : 0 ≤ t ∧ t < K.2 9) (hS : SBb t B) (ha : 0 ≤ a ∧ a < 7) (hb : 0 ≤ b ∧ b ≤ 6) : ∃ r, f_Study_tonesAbove K t a b F B = some (r, F, B) ∧ -12 ≤ r ∧ r ≤ 99 := by
  have ez : zrm (a + b) 7 = (a + b) % 7 := zrm_e (by first | decide | omega) (by unfold r32; omega) (by decide) (by decide)
  have q : 0 ≤ (a + b) % 7 ∧ (a + b) % 7 < 7 := by omega
  unfold f_Study_tonesAbove
  rw [ez]
  generalize (a + b) % 7 = i at q ⊢
  have s10 := (hS.2.2 i).2.2.2.2.2
  rw [if_pos ht, if_pos q, if_pos s10]
  by_cases c : B 9 t 10 i = 0
  · rw [if_pos c]; exact ⟨99, rfl, (by first | decide | omega), (by first | decide | omega)⟩
  obtain ⟨r, e, r0, r1⟩ := C_alt (F := F) (B := B) ht q
  obtain ⟨s, e', s0, s1⟩ := C_alt (F := F) (B := B) ht ha
  have z1 := zt5_v q.1 q.2
  have z2 := zt5_v ha.1 ha.2
  obtain ⟨m, F', B', em, rfl, rfl, m0, m1⟩ := s_fm (K := K) (a := ztv 5 i + r - ztv 5 a - s) (b := 12) (F := F) (B := B) (by unfold r32; omega) (by decide) (by decide)
  rw [if_neg c, zt5_f.1, if_pos q, e, zb_s, if_pos ha, e', zb_s, em, zb_s]
  exact ⟨m, rfl, (by first | decide | omega), (by first | decide | omega)⟩
theorem C_ck88 {v : Int} (hv : r32 v) : ∀ (d N : Nat) (i : Int), i + d = 16 → 0 ≤ i → d < N → ∃ r, f_Study_chordKind_88 K N i v F B = some (r, F, B) ∧ -1 ≤ r ∧ r ≤ 9 := by
  intro d
  induction d with
  | zero =>
    intro N i hi i0 hN
    obtain ⟨n, rfl⟩ : ∃ n, N = n + 1 := ⟨N - 1, (by first | decide | omega)⟩
    rw [f_Study_chordKind_88, zt16_f.1, if_pos (by unfold r32; omega), if_pos (by decide), if_pos (by first | decide | omega)]
    exact ⟨-1, rfl, (by first | decide | omega), (by first | decide | omega)⟩
  | succ d ih =>
    intro N i hi i0 hN
    obtain ⟨n, rfl⟩ : ∃ n, N = n + 1 := ⟨N - 1, (by first | decide | omega)⟩
    have z := zt16_v i0 (by first | decide | omega)
    rw [f_Study_chordKind_88, zt16_f.1, zt16_f.2.1, if_pos (by unfold r32; omega), if_pos (by decide), if_neg (by first | decide | omega), if_pos (by first | decide | omega), if_pos z.1, if_pos hv]
    by_cases c : ztv 16 i = v
    · rw [if_pos c, if_pos (by first | decide | omega)]; exact ⟨_, rfl, (by first | decide | omega), z.2.2⟩
    · rw [if_neg c]; exact ih n (i + 1) (by first | decide | omega) (by first | decide | omega) (by first | decide | omega)
theorem C_ck2 {a : Int} (hK : 60000 ≤ K.1) (ht : 0 ≤ t ∧ t < K.2 9) (hS : SBb t B) (ha : 0 ≤ a ∧ a < 7) : ∀ (d N : Nat) (i : Int), i + d = 7 → 0 ≤ i → d < N → ∃ r, f_Study_chordKind_2 K N i t a F B = some (r, F, B) ∧ -1 ≤ r ∧ r ≤ 9 := by
  intro d
  induction d with
  | zero =>
    intro N i hi i0 hN
    obtain ⟨n, rfl⟩ : ∃ n, N = n + 1 := ⟨N - 1, (by first | decide | omega)⟩
    have s10 := (hS.2.2 a).2.2.2.2.2
    rw [f_Study_chordKind_2, if_pos (by unfold r32; omega), if_pos (by first | decide | omega), if_pos ht, if_pos ha, if_pos s10]
    by_cases c : B 9 t 10 a = 0
    · rw [if_pos c]; exact ⟨-1, rfl, (by first | decide | omega), (by first | decide | omega)⟩
    obtain ⟨r1, e1, a1, b1⟩ := C_tonA (F := F) ht hS ha (b := 2) (by first | decide | omega)
    obtain ⟨r2, e2, a2, b2⟩ := C_tonA (F := F) ht hS ha (b := 4) (by first | decide | omega)
    obtain ⟨r3, e3, a3, b3⟩ := C_tonA (F := F) ht hS ha (b := 6) (by first | decide | omega)
    rw [if_neg c, e1, zb_s, e2, zb_s, e3, zb_s]
    exact C_ck88 (by unfold r32; omega) 16 K.1 0 (by first | decide | omega) (by decide) (by first | decide | omega)
  | succ d ih =>
    intro N i hi i0 hN
    obtain ⟨n, rfl⟩ : ∃ n, N = n + 1 := ⟨N - 1, (by first | decide | omega)⟩
    have o19 : ∀ s, (s = 0 ∨ s = 1) → ∃ r, f_Study_chordKind_19 (f_Study_chordKind_2 K n) K i t a s F B = some (r, F, B) ∧ -1 ≤ r ∧ r ≤ 9 := fun s hs => by
      have ez : zrm (a + i) 7 = (a + i) % 7 := zrm_e (by first | decide | omega) (by unfold r32; omega) (by decide) (by decide)
      obtain ⟨r, e, r0, r1⟩ := C_bit (K := K) (F := F) (B := B) (B 9 t 10 ((a + i) % 7))
      unfold f_Study_chordKind_19
      rw [ez, if_pos ht, if_pos (by first | decide | omega), e, zb_s, if_pos (by unfold r32; omega), if_pos (by unfold r32; omega)]
      by_cases c : r ≤ s
      · rw [if_pos c]; exact ih n (i + 1) (by first | decide | omega) (by first | decide | omega) (by first | decide | omega)
      · rw [if_neg c]; exact ⟨-1, rfl, (by first | decide | omega), (by first | decide | omega)⟩
    rw [f_Study_chordKind_2, if_pos (by unfold r32; omega), if_neg (by first | decide | omega), if_pos (zrm_R _ _)]
    by_cases c : zrm i 2 = 0
    · rw [if_pos c]; exact o19 1 (Or.inr rfl)
    · rw [if_neg c]; exact o19 0 (Or.inl rfl)
theorem C_isFo (hK : 60000 ≤ K.1) (h : PQs K V p F B) (ht : 0 ≤ t ∧ t < K.2 9) : ∀ (d N : Nat) (i : Int), i + d = 7 → 0 ≤ i → d < N → ∃ r, f_Study_isForeign_2 K N i t p F B = some (r, F, B) ∧ (r = 0 ∨ r = 1) := by
  intro d
  induction d with
  | zero =>
    intro N i hi i0 hN
    obtain ⟨n, rfl⟩ : ∃ n, N = n + 1 := ⟨N - 1, (by first | decide | omega)⟩
    rw [f_Study_isForeign_2, if_pos (by unfold r32; omega), if_pos (by first | decide | omega)]
    exact ⟨0, rfl, Or.inl rfl⟩
  | succ d ih =>
    intro N i hi i0 hN
    obtain ⟨n, rfl⟩ : ∃ n, N = n + 1 := ⟨N - 1, (by first | decide | omega)⟩
    obtain ⟨r, e, _⟩ := C_key (K := K) (F := F) (B := B) h.2.2.1 (s := i) i0 (by first | decide | omega)
    rw [f_Study_isForeign_2, if_pos (by unfold r32; omega), if_neg (by first | decide | omega), if_pos h.1, e, zb_s, if_pos ht, if_pos (by first | decide | omega), if_pos (zand_R _ _)]
    by_cases c : zand (B 9 t 10 i) (zxor (zshl 1 (r + 2)) (-1)) = 0
    · rw [if_pos c]; exact ih n (i + 1) (by first | decide | omega) (by first | decide | omega) (by first | decide | omega)
    · rw [if_neg c]; exact ⟨1, rfl, Or.inr rfl⟩
theorem C_bs32 {e u j : Int} {rec : Int → Int → Int → Int → Int → Int → zF → zB → zO} {Q : zO → Prop} (he : e < 0 ∨ EKc K e F B) (go : ∀ a b, (0 ≤ a ∧ a ≤ 62) → (0 ≤ b ∧ b ≤ 1000) → Q (rec (u + 1) a b t p j F B)) : ∀ (d N : Nat) (i a b : Int), (0 ≤ e → i + d = F 1 e 10) → (e < 0 → d = 0) → 0 ≤ i → d < N → (0 ≤ a ∧ a ≤ 62) → (0 ≤ b ∧ b ≤ 1000) → Q (f_Study_bassLetter_32 rec K N i e u a b t p j F B) := by
  intro d
  induction d with
  | zero =>
    intro N i a b hi hd i0 hN ha hb
    obtain ⟨n, rfl⟩ : ∃ n, N = n + 1 := ⟨N - 1, (by first | decide | omega)⟩
    rw [f_Study_bassLetter_32]
    rcases he with z | ek
    · rw [if_pos z]; exact go a b ha hb
    · have k := ek.1
      have k10 := ek.2.1
      have := hi k.1
      rw [if_neg (by first | decide | omega), if_pos ek.1, if_pos (by unfold r32; omega), if_pos (by unfold r32; omega), if_pos (by first | decide | omega)]
      exact go a b ha hb
  | succ d ih =>
    intro N i a b hi hd i0 hN ha hb
    obtain ⟨n, rfl⟩ : ∃ n, N = n + 1 := ⟨N - 1, (by first | decide | omega)⟩
    rw [f_Study_bassLetter_32]
    rcases he with z | ek
    · have := hd z; omega
    have k := ek.1
    have k10 := ek.2.1
    have hi' := hi k.1
    have kx := ek.2.2 i i0 (by first | decide | omega)
    have tb := tnv_r kx.1.1 kx.1.2 kx.2.1 kx.2.2
    have et := C_tone (K := K) (F := F) (B := B) (e := e) (k := i) ek.1 (by first | decide | omega) kx.1
    have nx : ∀ a b, (0 ≤ a ∧ a ≤ 62) → (0 ≤ b ∧ b ≤ 1000) → Q (f_Study_bassLetter_94 rec (f_Study_bassLetter_32 rec K n) K i e u a b t p j F B) := fun a b ha hb => ih n (i + 1) a b (fun _ => (by first | decide | omega)) (fun z => (by first | decide | omega)) (by first | decide | omega) (by first | decide | omega) ha hb
    have o81 : Q (f_Study_bassLetter_81 rec (f_Study_bassLetter_32 rec K n) K (tnv (B 1 e 12 i) + B 1 e 13 i) i e u t p j F B) := by
      unfold f_Study_bassLetter_81
      rw [if_pos ek.1, if_pos (by first | decide | omega)]
      exact nx _ _ kx.1 (by first | decide | omega)
    rw [if_neg (by first | decide | omega), if_pos ek.1, if_pos (by unfold r32; omega), if_pos (by unfold r32; omega), if_neg (by first | decide | omega), et, zb_s, if_pos (by unfold r32; omega), if_pos (by unfold r32; omega)]
    by_cases c1 : tnv (B 1 e 12 i) + B 1 e 13 i < b
    · rw [if_pos c1]; exact o81
    rw [if_neg c1]
    by_cases c2 : tnv (B 1 e 12 i) + B 1 e 13 i = b
    · rw [if_pos c2, if_pos (by first | decide | omega), if_pos (by unfold r32; omega), if_pos (by unfold r32; omega)]
      by_cases c3 : a ≤ B 1 e 12 i
      · rw [if_pos c3]; exact nx a b ha hb
      · rw [if_neg c3]; exact o81
    · rw [if_neg c2]; exact nx a b ha hb
theorem C_bs10 {j : Int} (hK : 60000 ≤ K.1) (h : PQs K V p F B) (ht : 0 ≤ t ∧ t < K.2 9) (hS : SBb t B) (hj : 0 ≤ j ∧ j < 800) : ∀ (d N : Nat) (u a b : Int), u + d = V → 0 ≤ u → d < N → (0 ≤ a ∧ a ≤ 62) → (0 ≤ b ∧ b ≤ 1000) → ∃ r, f_Study_bassLetter_10 K N u a b t p j F B = some (r, F, B) ∧ 0 ≤ r ∧ r ≤ 6 := by
  have hV := h.2.1
  intro d
  induction d with
  | zero =>
    intro N u a b hu u0 hN ha hb
    obtain ⟨n, rfl⟩ : ∃ n, N = n + 1 := ⟨N - 1, (by first | decide | omega)⟩
    rw [f_Study_bassLetter_10, if_pos h.1, if_pos (by unfold r32; omega), if_pos (by unfold r32; omega), if_pos (by first | decide | omega), zrm_e ha.1 (by unfold r32; omega) (by decide) (by decide)]
    exact ⟨_, rfl, (by first | decide | omega), (by first | decide | omega)⟩
  | succ d ih =>
    intro N u a b hu u0 hN ha hb
    obtain ⟨n, rfl⟩ : ∃ n, N = n + 1 := ⟨N - 1, (by first | decide | omega)⟩
    obtain ⟨r, e, hr⟩ := C_evO h ht hS u0 (by first | decide | omega) hj
    rw [f_Study_bassLetter_10, if_pos h.1, if_pos (by unfold r32; omega), if_pos (by unfold r32; omega), if_neg (by first | decide | omega), if_pos ht, e, zb_s]
    have he : r < 0 ∨ EKc K r F B := by
      rcases hr with z | z
      · exact Or.inl (by first | decide | omega)
      · exact Or.inr z.1
    have k10 : 0 ≤ r → 0 ≤ F 1 r 10 ∧ F 1 r 10 ≤ 6 := fun z => by
      rcases he with y | y
      · omega
      · exact y.2.1
    by_cases z : r < 0
    · exact C_bs32 (Q := fun x => ∃ r, x = some (r, F, B) ∧ 0 ≤ r ∧ r ≤ 6) (rec := f_Study_bassLetter_10 K n) he (fun a b ha hb => ih n (u + 1) a b (by first | decide | omega) (by first | decide | omega) (by first | decide | omega) ha hb) 0 K.1 0 a b (fun y => (by first | decide | omega)) (fun _ => rfl) (by decide) (by first | decide | omega) ha hb
    · have k := k10 (by first | decide | omega)
      exact C_bs32 (Q := fun x => ∃ r, x = some (r, F, B) ∧ 0 ≤ r ∧ r ≤ 6) (rec := f_Study_bassLetter_10 K n) he (fun a b ha hb => ih n (u + 1) a b (by first | decide | omega) (by first | decide | omega) (by first | decide | omega) ha hb) (F 1 r 10).toNat K.1 0 a b (fun y => (by first | decide | omega)) (fun y => (by first | decide | omega)) (by decide) (by first | decide | omega) ha hb
theorem C_ton (h : PQs K V p F B) : ∃ r, f_Study_tonic K p F B = some (r, F, B) ∧ -7 < r ∧ r < 14 := by
  have h2 := h.2.2.1
  have h3 := h.2.2.2.1
  have key : ∀ a b, r32 (a + b) → ∃ r, f_Study_tonic_19 K a b F B = some (r, F, B) ∧ -7 < r ∧ r < 14 := fun a b hab => by
    obtain ⟨m, F', B', em, rfl, rfl, m0, m1⟩ := s_fm (K := K) (a := a + b) (b := 7) (F := F) (B := B) hab (by decide) (by decide)
    unfold f_Study_tonic_19
    rw [em, zb_s]
    exact ⟨m, rfl, (by first | decide | omega), (by first | decide | omega)⟩
  unfold f_Study_tonic
  rw [if_pos h.1, if_pos (by unfold r32; omega)]
  by_cases c : F 6 p 3 = 1
  · rw [if_pos c]; exact key _ _ (by unfold r32; omega)
  · rw [if_neg c]; exact key _ _ (by unfold r32; omega)
theorem C_ct15 {j l3 : Int} (hK : 60000 ≤ K.1) (h : PQs K V p F B) (ht : 0 ≤ t ∧ t < K.2 9) (hS : SBb t B) (hj : 0 ≤ j ∧ j < 800) (h3 : r32 l3) : ∀ (d N : Nat) (i a b : Int), i + d = 7 → 0 ≤ i → d < N → (-1 ≤ a ∧ a ≤ 6) → (0 ≤ b ∧ b ≤ 100 * i) → zR (f_Study_chordTold_15 K N i a b t p j l3 F B) F B := by
  have hV := h.2.1
  intro d
  induction d with
  | zero =>
    intro N i a b hi i0 hN ha hb
    obtain ⟨n, rfl⟩ : ∃ n, N = n + 1 := ⟨N - 1, (by first | decide | omega)⟩
    rw [f_Study_chordTold_15, if_pos (by unfold r32; omega), if_pos (by first | decide | omega)]
    unfold f_Study_chordTold_89 f_Study_chordTold_189
    refine zR_g h3 (zR_i (fun _ => zR_g (by unfold r32; omega) zR_s) (fun _ => zR_g (by unfold r32; omega) (zR_i (fun _ => zR_i (fun _ => zR_s) (fun _ => zR_s)) (fun na => zR_i (fun _ => zR_g ht ?_) (fun _ => zR_i (fun _ => zR_s) (fun _ => zR_i (fun _ => zR_g ht ?_) (fun _ => zR_i (fun _ => zR_g ht ?_) (fun _ => zR_i (fun _ => ?_) (fun _ => zR_g ht ?_)))))))))
    · obtain ⟨r, e, r0, r1⟩ := C_ck2 (a := a) (F := F) hK ht hS (by first | decide | omega) 7 K.1 0 (by first | decide | omega) (by decide) (by first | decide | omega)
      have e' : f_Study_chordKind K t a F B = some (r, F, B) := e
      rw [e', zb_s]
      exact zR_g (by unfold r32; omega) zR_s
    · obtain ⟨r, e, r0, r1⟩ := C_alt (F := F) (B := B) ht (l := a) (by first | decide | omega)
      rw [e, zb_s]
      exact zR_g (by unfold r32; omega) zR_s
    · obtain ⟨r, e, r0, r1⟩ := C_bs10 hK h ht hS hj V.toNat K.1 0 0 1000 (by first | decide | omega) (by decide) (by first | decide | omega) (by first | decide | omega) (by first | decide | omega)
      have e' : f_Study_bassLetter K t p j F B = some (r, F, B) := e
      obtain ⟨m, F', B', em, rfl, rfl, m0, m1⟩ := s_fm (K := K) (a := r - a) (b := 7) (F := F) (B := B) (by unfold r32; omega) (by decide) (by decide)
      rw [e', zb_s, em, zb_s]
      exact zR_g (zdv_R _ _) zR_s
    · obtain ⟨r, e, r0, r1⟩ := C_ton h
      obtain ⟨m, F', B', em, rfl, rfl, m0, m1⟩ := s_fm (K := K) (a := a - r) (b := 7) (F := F) (B := B) (by unfold r32; omega) (by decide) (by decide)
      rw [e, zb_s, em, zb_s]
      exact zR_g (by unfold r32; omega) zR_s
    · obtain ⟨r, e, r01⟩ := C_isFo hK h ht 7 K.1 0 (by first | decide | omega) (by decide) (by first | decide | omega)
      have e' : f_Study_isForeign K t p F B = some (r, F, B) := e
      rw [e', zb_s]
      exact zR_g (by unfold r32; omega) (zR_i (fun _ => zR_s) (fun _ => zR_s))
  | succ d ih =>
    intro N i a b hi i0 hN ha hb
    obtain ⟨n, rfl⟩ : ∃ n, N = n + 1 := ⟨N - 1, (by first | decide | omega)⟩
    obtain ⟨r, e, r0, r1⟩ := C_bit (K := K) (F := F) (B := B) (B 9 t 10 i)
    obtain ⟨s, e2, s0, s1⟩ := C_ck2 (a := i) (F := F) hK ht hS (by first | decide | omega) 7 K.1 0 (by first | decide | omega) (by decide) (by first | decide | omega)
    have e2' : f_Study_chordKind K t i F B = some (s, F, B) := e2
    rw [f_Study_chordTold_15, if_pos (by unfold r32; omega), if_neg (by first | decide | omega), if_pos ht, if_pos (by first | decide | omega), e, zb_s, e2', zb_s, if_pos (by unfold r32; omega)]
    unfold f_Study_chordTold_54
    exact zR_i (fun _ => ih n (i + 1) a (b + r) (by first | decide | omega) (by first | decide | omega) (by first | decide | omega) ha (by first | decide | omega)) (fun _ => ih n (i + 1) i (b + r) (by first | decide | omega) (by first | decide | omega) (by first | decide | omega) (by first | decide | omega) (by first | decide | omega))
end
section
variable {K : zK} {V p t : Int} {F : zF}
theorem C_tc43 {e u j : Int} {B0 : zB} {rec : Int → Int → Int → Int → zF → zB → zO} {Q : zO → Prop} (ht : 0 ≤ t ∧ t < K.2 9) (he : e < 0 ∨ EKc K e F B0) (go : ∀ B, stB t B0 B → SBb t B → Q (rec (u + 1) t p j F B)) : ∀ (d N : Nat) (i : Int) (B : zB), (0 ≤ e → i + d = F 1 e 10) → (e < 0 → d = 0) → 0 ≤ i → d < N → stB t B0 B → SBb t B → Q (f_Study_takeClasses_43 rec K N i e u t p j F B) := by
  intro d
  induction d with
  | zero =>
    intro N i B hi hd i0 hN b hS
    obtain ⟨n, rfl⟩ : ∃ n, N = n + 1 := ⟨N - 1, (by first | decide | omega)⟩
    rw [f_Study_takeClasses_43]
    rcases he with z | ek
    · rw [if_pos z]; exact go B b hS
    · have k := ek.1
      have k10 := ek.2.1
      have := hi k.1
      rw [if_neg (by first | decide | omega), if_pos ek.1, if_pos (by unfold r32; omega), if_pos (by unfold r32; omega), if_pos (by first | decide | omega)]
      exact go B b hS
  | succ d ih =>
    intro N i B hi hd i0 hN b hS
    obtain ⟨n, rfl⟩ : ∃ n, N = n + 1 := ⟨N - 1, (by first | decide | omega)⟩
    rw [f_Study_takeClasses_43]
    rcases he with z | ek
    · have := hd z; omega
    have k := ek.1
    have k10 := ek.2.1
    have hi' := hi k.1
    have kx := ek.2.2 i i0 (by first | decide | omega)
    have e12 : B 1 e 12 i = B0 1 e 12 i := b 1 e 12 i (by first | decide | omega)
    have ez : zrm (B 1 e 12 i) 7 = B0 1 e 12 i % 7 := by rw [e12]; exact zrm_e kx.1.1 (by unfold r32; omega) (by decide) (by decide)
    rw [if_neg (by first | decide | omega), if_pos ek.1, if_pos (by unfold r32; omega), if_pos (by unfold r32; omega), if_neg (by first | decide | omega), if_pos ht, if_pos (by first | decide | omega), ez, if_pos (by first | decide | omega)]
    exact ih n (i + 1) _ (fun _ => (by first | decide | omega)) (fun z => (by first | decide | omega)) (by first | decide | omega) (by first | decide | omega) (stB_t b stB_w) (SB_w hS (by first | decide | omega) (by first | decide | omega) (by first | decide | omega) (by first | decide | omega) (fun _ => toI_r _))
theorem C_tc23 {j : Int} {B0 : zB} (hK : 60000 ≤ K.1) (h : PQs K V p F B0) (ht : 0 ≤ t ∧ t < K.2 9) (hj : 0 ≤ j ∧ j < 800) : ∀ (d N : Nat) (u : Int) (B : zB), u + d = V → 0 ≤ u → d < N → stB t B0 B → SBb t B → ∃ B', f_Study_takeClasses_23 K N u t p j F B = some (0, F, B') ∧ stB t B0 B' ∧ SBb t B' := by
  have hV := h.2.1
  intro d
  induction d with
  | zero =>
    intro N u B hu u0 hN b hS
    obtain ⟨n, rfl⟩ : ∃ n, N = n + 1 := ⟨N - 1, (by first | decide | omega)⟩
    rw [f_Study_takeClasses_23, if_pos h.1, if_pos (by unfold r32; omega), if_pos (by unfold r32; omega), if_pos (by first | decide | omega)]
    exact ⟨B, rfl, b, hS⟩
  | succ d ih =>
    intro N u B hu u0 hN b hS
    obtain ⟨n, rfl⟩ : ∃ n, N = n + 1 := ⟨N - 1, (by first | decide | omega)⟩
    obtain ⟨r, e, hr⟩ := C_evO (PKs_f h stF_r b) ht hS u0 (by first | decide | omega) hj
    rw [f_Study_takeClasses_23, if_pos h.1, if_pos (by unfold r32; omega), if_pos (by unfold r32; omega), if_neg (by first | decide | omega), if_pos ht, e, zb_s]
    have he : r < 0 ∨ EKc K r F B0 := by
      rcases hr with z | z
      · exact Or.inl (by first | decide | omega)
      · refine Or.inr ?_
        have ek := z.1
        unfold EKc at *
        simp only [b 1 r 12 _ (by first | decide | omega), b 1 r 13 _ (by first | decide | omega)] at ek
        exact ek
    have k10 : 0 ≤ r → 0 ≤ F 1 r 10 ∧ F 1 r 10 ≤ 6 := fun z => by
      rcases he with y | y
      · omega
      · exact y.2.1
    by_cases z : r < 0
    · exact C_tc43 (Q := fun x => ∃ B', x = some (0, F, B') ∧ stB t B0 B' ∧ SBb t B') (rec := f_Study_takeClasses_23 K n) ht he (fun B b hS => ih n (u + 1) B (by first | decide | omega) (by first | decide | omega) (by first | decide | omega) b hS) 0 K.1 0 B (fun y => (by first | decide | omega)) (fun _ => rfl) (by decide) (by first | decide | omega) b hS
    · have k := k10 (by first | decide | omega)
      exact C_tc43 (Q := fun x => ∃ B', x = some (0, F, B') ∧ stB t B0 B' ∧ SBb t B') (rec := f_Study_takeClasses_23 K n) ht he (fun B b hS => ih n (u + 1) B (by first | decide | omega) (by first | decide | omega) (by first | decide | omega) b hS) (F 1 r 10).toNat K.1 0 B (fun y => (by first | decide | omega)) (fun y => (by first | decide | omega)) (by decide) (by first | decide | omega) b hS
theorem C_tc2 {j : Int} (ht : 0 ≤ t ∧ t < K.2 9) : ∀ (d N : Nat) (i : Int) (B : zB), i + d = 7 → 0 ≤ i → d < N → SBb t B → ∃ B', f_Study_takeClasses_2 K N i t p j F B = f_Study_takeClasses_23 K K.1 0 t p j F B' ∧ stB t B B' ∧ SBb t B' := by
  intro d
  induction d with
  | zero =>
    intro N i B hi i0 hN hS
    obtain ⟨n, rfl⟩ : ∃ n, N = n + 1 := ⟨N - 1, (by first | decide | omega)⟩
    rw [f_Study_takeClasses_2, if_pos (by unfold r32; omega), if_pos (by first | decide | omega)]
    exact ⟨B, rfl, stB_r, hS⟩
  | succ d ih =>
    intro N i B hi i0 hN hS
    obtain ⟨n, rfl⟩ : ∃ n, N = n + 1 := ⟨N - 1, (by first | decide | omega)⟩
    rw [f_Study_takeClasses_2, if_pos (by unfold r32; omega), if_neg (by first | decide | omega), if_pos ht, if_pos (by first | decide | omega)]
    obtain ⟨B', g1, g2, g3⟩ := ih n (i + 1) (zup4 B 9 t 10 i 0) (by first | decide | omega) (by first | decide | omega) (by first | decide | omega) (SB_w hS (by first | decide | omega) (by first | decide | omega) (by first | decide | omega) (by first | decide | omega) (fun _ => by decide))
    exact ⟨B', g1, stB_t stB_w g2, g3⟩
theorem C_told2 {j l3 : Int} {B : zB} (hK : 60000 ≤ K.1) (h : PQs K V p F B) (ht : 0 ≤ t ∧ t < K.2 9) (hS : SBb t B) (hj : 0 ≤ j ∧ j < 800) (h3 : r32 l3) : ∃ r B', f_Study_chordTold K t p j l3 F B = some (r, F, B') ∧ stB t B B' ∧ SBb t B' := by
  have hV := h.2.1
  obtain ⟨B1, e1, g1, g2⟩ := C_tc2 (p := p) (j := j) (F := F) ht 7 K.1 0 B (by first | decide | omega) (by decide) (by first | decide | omega) hS
  obtain ⟨B2, e2, k1, k2⟩ := C_tc23 (F := F) (B0 := B1) hK (PKs_f h stF_r g1) ht hj V.toNat K.1 0 B1 (by first | decide | omega) (by decide) (by first | decide | omega) stB_r g2
  have e : f_Study_takeClasses K t p j F B = some (0, F, B2) := by
    unfold f_Study_takeClasses
    rw [e1, e2]
  obtain ⟨r, e3⟩ := C_ct15 (l3 := l3) hK (PKs_f h stF_r (stB_t g1 k1)) ht k2 hj h3 7 K.1 0 (-1) 0 (by first | decide | omega) (by decide) (by first | decide | omega) (by first | decide | omega) (by first | decide | omega)
  unfold f_Study_chordTold
  rw [if_pos ht, e, zb_s, e3]
  exact ⟨r, B2, rfl, stB_t g1 k1, k2⟩
end
end

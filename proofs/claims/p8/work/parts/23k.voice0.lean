section
section
/-! ===== voices: what stands, and small steps ===== -/
def zPm (x : zOm) (y : zO) (Q : Int → zF → zB → zK → Int → zF → zB → Prop) : Prop := ∃ r F B K r' F' B', x = some (r, F, B, K) ∧ y = some (r', F', B') ∧ Q r F B K r' F' B'
theorem zPm_s {r r' : Int} {F F' : zF} {B B' : zB} {K : zK} {Q : Int → zF → zB → zK → Int → zF → zB → Prop} (h : Q r F B K r' F' B') : zPm (some (r, F, B, K)) (some (r', F', B')) Q := ⟨r, F, B, K, r', F', B', rfl, rfl, h⟩
theorem zPm_m {x : zOm} {y : zO} {R Q : Int → zF → zB → zK → Int → zF → zB → Prop} (h : zPm x y R) (hk : ∀ r F B K r' F' B', R r F B K r' F' B' → Q r F B K r' F' B') : zPm x y Q := by
  obtain ⟨r, F, B, K, r', F', B', e, e', q⟩ := h
  exact ⟨r, F, B, K, r', F', B', e, e', hk _ _ _ _ _ _ _ q⟩
theorem zPm_n {x y : zO} {k : Int → zF → zB → zOm} {k' : Int → zF → zB → zO} {R : Int → zF → zB → Int → zF → zB → Prop} {Q : Int → zF → zB → zK → Int → zF → zB → Prop} (h : zP x y R) (hk : ∀ r F B r' F' B', R r F B r' F' B' → zPm (k r F B) (k' r' F' B') Q) : zPm (zbindN x k) (zbind y k') Q := by
  obtain ⟨r, F, B, r', F', B', e, e', q⟩ := h
  rw [e, e']
  exact hk _ _ _ _ _ _ q
theorem zPm_c {x : zOm} {y : zO} {k : Int → zF → zB → zK → zOm} {k' : Int → zF → zB → zO} {R : Int → zF → zB → zK → Int → zF → zB → Prop} {Q : Int → zF → zB → zK → Int → zF → zB → Prop} (h : zPm x y R) (hk : ∀ r F B K r' F' B', R r F B K r' F' B' → zPm (k r F B K) (k' r' F' B') Q) : zPm (zbindM x k) (zbind y k') Q := by
  obtain ⟨r, F, B, K, r', F', B', e, e', q⟩ := h
  rw [e, e']
  exact hk _ _ _ _ _ _ _ q
/-- the class's objects: which part is whose, which event is whose -/
def GS (K : zK) (B : zB) : Prop := (∀ c, c = 1 ∨ c = 4 ∨ c = 6 → 0 ≤ K.2 c ∧ 1 ≤ K.2 1) ∧ (∀ p v, 0 ≤ p → p < K.2 6 → 0 ≤ v → v < 4 → B 6 p 0 v < K.2 4) ∧ (∀ p v p' v', 0 ≤ p → p < K.2 6 → 0 ≤ v → v < 4 → 0 ≤ p' → p' < K.2 6 → 0 ≤ v' → v' < 4 → 0 ≤ B 6 p 0 v → B 6 p 0 v = B 6 p' 0 v' → p = p' ∧ v = v') ∧ (∀ q x, 0 ≤ q → q < K.2 4 → 0 ≤ x → x < 200 → 1 ≤ B 4 q 5 x ∧ B 4 q 5 x < K.2 1) ∧ (∀ q x q' x', 0 ≤ q → q < K.2 4 → 0 ≤ x → x < 200 → 0 ≤ q' → q' < K.2 4 → 0 ≤ x' → x' < 200 → B 4 q 5 x = B 4 q' 5 x' → q = q' ∧ x = x')
theorem GS_B {K : zK} {B B' : zB} (h : GS K B) (h6 : ∀ p v, 0 ≤ p → p < K.2 6 → B' 6 p 0 v = B 6 p 0 v) (h4 : ∀ q x, 0 ≤ q → q < K.2 4 → B' 4 q 5 x = B 4 q 5 x) : GS K B' := by
  obtain ⟨a, b, c, d, e⟩ := h
  refine ⟨a, fun p v h1 h2 h3 h5 => ?_, fun p v p' v' h1 h2 h3 h5 h7 h8 h9 h10 h11 h12 => ?_, fun q x h1 h2 h3 h5 => ?_, fun q x q' x' h1 h2 h3 h5 h7 h8 h9 h10 h11 => ?_⟩
  · rw [h6 p v h1 h2]; exact b p v h1 h2 h3 h5
  · rw [h6 p v h1 h2] at h11 h12
    rw [h6 p' v' h7 h8] at h12
    exact c p v p' v' h1 h2 h3 h5 h7 h8 h9 h10 h11 h12
  · rw [h4 q x h1 h2]; exact d q x h1 h2 h3 h5
  · rw [h4 q x h1 h2, h4 q' x' h7 h8] at h11
    exact e q x q' x' h1 h2 h3 h5 h7 h8 h9 h10 h11
theorem GS_t {K : zK} {B B' : zB} (h : GS K B) (hB : tB B B') : GS K B' := GS_B h (fun p v _ _ => hB 6 p 0 v (fun z => absurd z.1 (by decide))) (fun q x _ _ => hB 4 q 5 x (fun z => absurd z.1 (by decide)))
/-- how many letters a name has -/
def ltr : Nat → Int → Int
  | 0, _ => 0
  | n + 1, w => if w ≤ 0 then 0 else 1 + ltr n (w / 256)
/-- a voice that is told, on both sides -/
def VR (K : zK) (p w v : Int) (F : zF) (B : zB) (Bm : zB) : Prop := (0 ≤ B 6 p 0 v ∧ B 6 p 0 v < K.2 4) ∧ F 4 (B 6 p 0 v) 0 = Bm 13 w 10 v ∧ (0 < F 4 (B 6 p 0 v) 0 ∧ F 4 (B 6 p 0 v) 0 < 9223372036854775808) ∧ (F 4 (B 6 p 0 v) 1 = Bm 13 w 8 v ∧ 0 ≤ F 4 (B 6 p 0 v) 1 ∧ F 4 (B 6 p 0 v) 1 < 4) ∧ (F 4 (B 6 p 0 v) 2 = Bm 13 w 9 v ∧ 0 ≤ F 4 (B 6 p 0 v) 2 ∧ F 4 (B 6 p 0 v) 2 ≤ 3) ∧ (F 4 (B 6 p 0 v) 3 = Bm 14 0 8 (Bm 14 0 28 v) ∧ 0 ≤ F 4 (B 6 p 0 v) 3 ∧ F 4 (B 6 p 0 v) 3 ≤ 3000) ∧ (0 ≤ Bm 14 0 28 v ∧ Bm 14 0 28 v ≤ 3000) ∧ (0 ≤ F 4 (B 6 p 0 v) 4 ∧ F 4 (B 6 p 0 v) 4 < 3000) ∧ (0 ≤ Bm 14 0 29 v ∧ Bm 14 0 29 v < 3000) ∧ F 4 (B 6 p 0 v) 6 = 0 ∧ Bm 13 w 11 v = ltr 9 (Bm 13 w 10 v) ∧ NZb (Bm 13 w 10 v)
/-- its block, as every later world that agrees sees it -/
def SVC (L hi ph e x a : Int) (B Bm : zB) : Prop := ∀ Bx By, agB L 0 hi 0 ph (-1) B Bx → agM L 0 e Bm By → BKf (IRd L 7) Bx By x a
def VI (K : zK) (Km : Nat) (N L V j p w : Int) (F : zF) (B : zB) (Fm : zF) (Bm : zB) : Prop := HI K Km N L j p w F B Fm Bm ∧ GS K B ∧ F 6 p 1 = V ∧ Fm 13 w 1 = V ∧ (0 ≤ V ∧ V ≤ 4) ∧ (∀ v, 0 ≤ v → v < V → VR K p w v F B Bm ∧ SVC L (F 3 0 14) (F 3 0 15) j (F 4 (B 6 p 0 v) 4) (Bm 14 0 29 v) B Bm)
theorem C_hPN {K : zK} {p w V : Int} {F : zF} {B : zB} (hp : 0 ≤ p ∧ p < K.2 6) (hV : F 6 p 1 = V) (h4 : 0 ≤ V ∧ V ≤ 4) (hq : ∀ v, 0 ≤ v → v < V → (0 ≤ B 6 p 0 v ∧ B 6 p 0 v < K.2 4) ∧ r64 (F 4 (B 6 p 0 v) 0)) (hw : r64 w) : ∀ {n : Nat} {x : Int}, 0 ≤ x → x ≤ V → V - x < n → f_Piece_hasPartNamed_2 K n x p w F B = some (if fdR (fun v => F 4 (B 6 p 0 v) 0) V w n x < 0 then 0 else 1, F, B) := by
  intro n
  induction n with
  | zero => intro x _ _ h; omega
  | succ n ih =>
    intro x a b d
    unfold f_Piece_hasPartNamed_2 fdR
    rw [if_pos hp, if_pos (by first | decide | omega), hV, if_pos (by first | decide | omega)]
    by_cases h : V ≤ x
    · rw [if_pos h, if_pos h, if_pos (by decide)]
    · have q := hq x a (by first | decide | omega)
      rw [if_neg h, if_neg h, if_pos (by first | decide | omega), if_pos q.1, if_pos q.2, if_pos hw]
      by_cases e : F 4 (B 6 p 0 x) 0 = w
      · rw [if_pos (zcmp_0.mpr e), if_pos e, if_neg (by first | decide | omega)]
      · rw [if_neg (fun z => e (zcmp_0.mp z)), if_neg e]
        exact ih (by first | decide | omega) (by first | decide | omega) (by first | decide | omega)
theorem C_hasPart {K : zK} {p w V : Int} {F : zF} {B : zB} (hK : 3002 ≤ K.1) (hp : 0 ≤ p ∧ p < K.2 6) (hV : F 6 p 1 = V) (h4 : 0 ≤ V ∧ V ≤ 4) (hq : ∀ v, 0 ≤ v → v < V → (0 ≤ B 6 p 0 v ∧ B 6 p 0 v < K.2 4) ∧ r64 (F 4 (B 6 p 0 v) 0)) (hw : r64 w) : f_Piece_hasPartNamed K p w F B = some (if fdR (fun v => F 4 (B 6 p 0 v) 0) V w 22 0 < 0 then 0 else 1, F, B) := by
  unfold f_Piece_hasPartNamed
  rw [C_hPN hp hV h4 hq hw (by first | decide | omega) (by first | decide | omega) (by first | decide | omega), fdR_f (f := K.1) (g := 22) (by first | decide | omega) (by first | decide | omega) (by first | decide | omega) (by first | decide | omega)]
/-- the reference counts a name's letters -/
theorem zlshr8 {w : Int} (h0 : 0 ≤ w) (h1 : w < 9223372036854775808) : zlshr w 8 = w / 256 := by
  have e : (lI w).toInt = w := lI_to ⟨(by first | decide | omega), h1⟩
  unfold zlshr
  have e8 : ((iI 8).toInt64 &&& 63) = (8 : Int64) := by decide
  rw [e8]
  have hs : (lI w >>> (8 : Int64)).toInt = (lI w).toInt >>> 8 := by
    rw [← Int64.toInt_toBitVec, Int64.toBitVec_shiftRight]
    show (BitVec.sshiftRight' (lI w).toBitVec _).toInt = _
    rw [BitVec.sshiftRight_eq']
    rw [BitVec.toInt_sshiftRight]
    rfl
  rw [hs, e, Int.shiftRight_eq_div_pow]
  rfl
end
end
section
section
/-! ===== a voice, on both sides ===== -/
theorem zcmp_le {x : Int} : zcmp x 0 ≤ 0 ↔ x ≤ 0 := by
  unfold zcmp
  split
  · exact ⟨fun _ => (by first | decide | omega), fun _ => by decide⟩
  · split
    · exact ⟨fun _ => (by first | decide | omega), fun _ => by decide⟩
    · exact ⟨fun z => (by first | decide | omega), fun z => (by first | decide | omega)⟩
theorem L_108 {Km : Nat} {v : Int} {F : zF} {B : zB} : ∀ {m n : Nat} {x c : Int}, m < n → 0 ≤ x → x < 256 ^ m → x < 9223372036854775808 → f_M_voiceText_108 Km n x c v F B = f_M_voiceText_108 Km 1 0 (c + ltr m x) v F B := by
  intro m
  induction m with
  | zero =>
    intro n x c hn h0 h1 h2
    obtain ⟨n, rfl⟩ : ∃ y, n = y + 1 := ⟨n - 1, (by first | decide | omega)⟩
    have : x = 0 := by
      have : (256 : Int) ^ 0 = 1 := rfl
      omega
    subst this
    rw [show c + ltr 0 0 = c by unfold ltr; omega]
    rw [f_M_voiceText_108, f_M_voiceText_108]
    rw [if_pos (show r64 0 by decide), if_pos (show r64 0 by decide), if_pos (zcmp_le.mpr (by first | decide | omega)), if_pos (zcmp_le.mpr (by first | decide | omega))]
  | succ m ih =>
    intro n x c hn h0 h1 h2
    obtain ⟨n, rfl⟩ : ∃ y, n = y + 1 := ⟨n - 1, (by first | decide | omega)⟩
    by_cases e : x ≤ 0
    · have : x = 0 := by omega
      subst this
      rw [show c + ltr (m + 1) 0 = c by unfold ltr; rw [if_pos (by first | decide | omega)]; omega]
      rw [f_M_voiceText_108, f_M_voiceText_108]
      rw [if_pos (show r64 0 by decide), if_pos (show r64 0 by decide), if_pos (zcmp_le.mpr (by first | decide | omega)), if_pos (zcmp_le.mpr (by first | decide | omega))]
    · have hp : (256 : Int) ^ (m + 1) = 256 ^ m * 256 := Int.pow_succ 256 m
      rw [f_M_voiceText_108]
      rw [if_pos (show r64 x by omega), if_neg (fun z => e (zcmp_le.mp z)), zlshr8 h0 h2, ih (by first | decide | omega) (by first | decide | omega) (by first | decide | omega) (by first | decide | omega)]
      rw [show c + 1 + ltr m (x / 256) = c + ltr (m + 1) x by
        rw [show ltr (m + 1) x = 1 + ltr m (x / 256) by rw [ltr]; rw [if_neg e]]
        omega]
theorem EV_K {K K' : zK} {Km : Nat} {N : Int} {B Bm : zB} (h : EV K Km N B Bm) (hK : Kle K K') : EV K' Km N B Bm := by
  obtain ⟨a, b, c, d, e, f, g⟩ := h
  exact ⟨a, b, c, Int.lt_of_lt_of_le d (hK.2 3), Int.lt_of_lt_of_le e (hK.2 10), by rw [hK.1]; exact f, g⟩
/-- how many places of a piece hold no part -/
def em (B : zB) (p : Int) : Int := (if B 6 p 0 0 < 0 then 1 else 0) + (if B 6 p 0 1 < 0 then 1 else 0) + (if B 6 p 0 2 < 0 then 1 else 0) + (if B 6 p 0 3 < 0 then 1 else 0)
theorem em_e {B B' : zB} {p : Int} (h : ∀ v, B' 6 p 0 v = B 6 p 0 v) : em B' p = em B p := by
  unfold em
  rw [h, h, h, h]
theorem em_1 {B B' : zB} {p V : Int} (hV : 0 ≤ V ∧ V < 4) (h : ∀ v, ¬ v = V → B' 6 p 0 v = B 6 p 0 v) (h0 : B 6 p 0 V < 0) (h1 : 0 ≤ B' 6 p 0 V) : em B' p + 1 = em B p := by
  have : V = 0 ∨ V = 1 ∨ V = 2 ∨ V = 3 := by omega
  unfold em
  rcases this with rfl | rfl | rfl | rfl
  · rw [h 1 (by decide), h 2 (by decide), h 3 (by decide), if_neg (by first | decide | omega), if_pos h0]; omega
  · rw [h 0 (by decide), h 2 (by decide), h 3 (by decide), if_neg (show ¬ B' 6 p 0 1 < 0 by omega), if_pos h0]; omega
  · rw [h 0 (by decide), h 1 (by decide), h 3 (by decide), if_neg (show ¬ B' 6 p 0 2 < 0 by omega), if_pos h0]; omega
  · rw [h 0 (by decide), h 1 (by decide), h 2 (by decide), if_neg (show ¬ B' 6 p 0 3 < 0 by omega), if_pos h0]; omega
def VF (K : zK) (p w : Int) (F : zF) (B : zB) (Fm : zF) (Bm : zB) (K' : zK) (F' : zF) (B' : zB) (Fm' : zF) (Bm' : zB) : Prop := Kle K K' ∧ (∀ c y k, y < K.2 c → ¬ (c = 10 ∧ y = 0) → ¬ (c = 3 ∧ y = 0 ∧ k ≠ 11) → ¬ (c = 6 ∧ y = p ∧ 1 ≤ k ∧ k ≤ 6) → ¬ (c = 4 ∧ ∃ v, 0 ≤ v ∧ v < 4 ∧ y = B 6 p 0 v) → F' c y k = F c y k) ∧ (∀ c y k x, y < K.2 c → ¬ (c = 3 ∧ y = 0) → ¬ (c = 6 ∧ y = p ∧ k = 0) → B' c y k x = B c y k x) ∧ (∀ v, 0 ≤ v → v < 4 → B' 6 p 0 v = B 6 p 0 v ∨ (B 6 p 0 v < 0 ∧ K.2 4 ≤ B' 6 p 0 v)) ∧ (∀ c i k, ¬ (c = 14 ∧ i = 0 ∧ 16 ≤ k ∧ k ≤ 27) → ¬ (c = 13 ∧ i = w ∧ 1 ≤ k ∧ k ≤ 6) → Fm' c i k = Fm c i k) ∧ (∀ c i k x, ¬ (c = 14 ∧ i = 0 ∧ 25 ≤ k ∧ k ≤ 34) → ¬ (c = 13 ∧ i = w ∧ 8 ≤ k ∧ k ≤ 11) → Bm' c i k x = Bm c i k x) ∧ (∀ q s, K.2 4 ≤ q → q < K'.2 4 → r32 (B' 4 q 12 s)) ∧ ((∀ c, ¬ (c = 1 ∨ c = 4) → K'.2 c = K.2 c) ∧ K'.2 1 = K.2 1 + 200 * (K'.2 4 - K.2 4) ∧ K'.2 4 + em B' p = K.2 4 + em B p) ∧ (F' 6 p 1 = F 6 p 1 ∨ (0 ≤ F' 6 p 1 ∧ F' 6 p 1 ≤ 4))
theorem VF_r {K : zK} {p w : Int} {F : zF} {B : zB} {Fm : zF} {Bm : zB} : VF K p w F B Fm Bm K F B Fm Bm := ⟨Kle_r, fun _ _ _ _ _ _ _ _ => rfl, fun _ _ _ _ _ _ _ => rfl, fun _ _ _ => Or.inl rfl, fun _ _ _ _ _ => rfl, fun _ _ _ _ _ _ => rfl, fun q s a b => (by first | decide | omega), ⟨fun _ _ => rfl, (by first | decide | omega), rfl⟩, Or.inl rfl⟩
theorem VF_t {K : zK} {p w : Int} {F : zF} {B : zB} {Fm : zF} {Bm : zB} {K' : zK} {F' : zF} {B' : zB} {Fm' : zF} {Bm' : zB} {K'' : zK} {F'' : zF} {B'' : zB} {Fm'' : zF} {Bm'' : zB} (h : VF K p w F B Fm Bm K' F' B' Fm' Bm') (h' : VF K' p w F' B' Fm' Bm' K'' F'' B'' Fm'' Bm'') : VF K p w F B Fm Bm K'' F'' B'' Fm'' Bm'' := by
  obtain ⟨a1, a2, a3, a4, a5, a6, a7, ⟨a8, a9, a10⟩, a11⟩ := h
  obtain ⟨b1, b2, b3, b4, b5, b6, b7, ⟨b8, b9, b10⟩, b11⟩ := h'
  refine ⟨Kle_t a1 b1, fun c y k h h1 h2 h3 h4 => ?_, fun c y k x h h1 h2 => ?_, fun v v0 v1 => ?_, fun c i k h h1 => ?_, fun c i k x h h1 => ?_, fun q s h0 h1 => ?_, ⟨fun c hc => by rw [b8 c hc, a8 c hc], (by first | decide | omega), (by first | decide | omega)⟩, (by first | decide | omega)⟩
  · rw [b2 c y k (Int.lt_of_lt_of_le h (a1.2 c)) h1 h2 h3 ?_]
    · exact a2 c y k h h1 h2 h3 h4
    · rintro ⟨z, v, v0, v1, e⟩
      subst z
      rcases a4 v v0 v1 with q | q
      · exact h4 ⟨rfl, v, v0, v1, e.trans q⟩
      · omega
  · rw [b3 c y k x (Int.lt_of_lt_of_le h (a1.2 c)) h1 h2]; exact a3 c y k x h h1 h2
  · have k4 := a1.2 4
    rcases b4 v v0 v1 with q | q
    · rw [q]; exact a4 v v0 v1
    · rcases a4 v v0 v1 with s | s
      · exact Or.inr ⟨(by first | decide | omega), (by first | decide | omega)⟩
      · omega
  · rw [b5 c i k h h1]; exact a5 c i k h h1
  · rw [b6 c i k x h h1]; exact a6 c i k x h h1
  · by_cases e : q < K'.2 4
    · rw [b3 4 q 12 s e (by first | decide | omega) (by first | decide | omega)]; exact a7 q s h0 e
    · exact b7 q s (by first | decide | omega) h1
/-- frames of heads and lets are frames of voices -/
theorem VF_h {K : zK} {p w : Int} {F : zF} {B : zB} {Fm : zF} {Bm : zB} {F' : zF} {B' : zB} {Fm' : zF} {Bm' : zB} (h1 : hF p F F') (h2 : hG w Fm Fm') (h3 : tB B B') (h4 : tM Bm Bm') : VF K p w F B Fm Bm K F' B' Fm' Bm' := ⟨Kle_r, fun c y k _ a b d _ => h1 c y k a b (fun z => d ⟨z.1, z.2.1, by have := z.2.2.1; omega, z.2.2.2⟩), fun c y k x _ a _ => h3 c y k x a, fun v _ _ => Or.inl (h3 6 p 0 v (fun z => absurd z.1 (by decide))), fun c i k a b => h2 c i k a (fun z => b ⟨z.1, z.2.1, by have := z.2.2.1; omega, z.2.2.2⟩), fun c i k x a _ => h4 c i k x a, fun q s a b => (by first | decide | omega), ⟨fun _ _ => rfl, (by first | decide | omega), by rw [em_e (fun v => h3 6 p 0 v (fun z => absurd z.1 (by decide)))]⟩, Or.inl (h1 6 p 1 (fun z => absurd z.1 (by decide)) (fun z => absurd z.1 (by decide)) (fun z => absurd z.2.2.1 (by decide)))⟩
theorem SVC_t {L hi hi' ph ph' e e' x a : Int} {B Bm B' Bm' : zB} (h : SVC L hi ph e x a B Bm) (aB : agB L 0 hi 0 ph (-1) B B') (aM : agM L 0 e Bm Bm') (h1 : hi ≤ hi') (h2 : ph ≤ ph') (h3 : e ≤ e') : SVC L hi' ph' e' x a B' Bm' := fun Bx By ab am => h Bx By (agB_t aB (agB_m ab (Int.le_refl _) h1 (Int.le_refl _) h2 (Or.inl rfl))) (agM_t aM (agM_m am (Int.le_refl _) h3))
end
end

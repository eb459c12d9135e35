section
/-! ===== accidentals: they return ===== -/
theorem C_fm {K : zK} {s : Int} {F : zF} {B : zB} (h0 : 0 ≤ s) (h1 : s ≤ 62) : f_Math_floorMod K s 7 F B = some (s % 7, F, B) := by
  have h := nat_f ⟨s.toNat, (by first | decide | omega)⟩
  rw [show (((⟨s.toNat, (by first | decide | omega)⟩ : Fin 63).val : Nat) : Int) = s by show ((s.toNat : Nat) : Int) = s; omega] at h
  obtain ⟨x0, x1, d, r, t⟩ := h
  unfold f_Math_floorMod f_Math_floorMod_18
  rw [if_pos (iI_n0 (by decide) (by decide)), if_pos (by first | decide | omega), if_pos x0, r]
theorem zt7 : ztl 7 = 7 ∧ (∀ k : Fin 7, 0 ≤ ztv 7 (k.val : Int) ∧ ztv 7 (k.val : Int) ≤ 100) := by decide +kernel
theorem C_key {K : zK} {f s : Int} {F : zF} {B : zB} (hf : -7 ≤ f ∧ f ≤ 7) (h0 : 0 ≤ s) (h1 : s ≤ 6) : ∃ r, f_S_keyAlteration K f s F B = some (r, F, B) ∧ (-1 ≤ r ∧ r ≤ 1) := by
  have z := zt7.2 ⟨s.toNat, (by first | decide | omega)⟩
  rw [show (((⟨s.toNat, (by first | decide | omega)⟩ : Fin 7).val : Nat) : Int) = s by show ((s.toNat : Nat) : Int) = s; omega] at z
  unfold f_S_keyAlteration f_S_keyAlteration_25 f_S_keyAlteration_40
  rw [C_fm h0 (by first | decide | omega), zb_s, show s % 7 = s by omega, zt7.1, if_pos (by first | decide | omega), if_pos (by unfold r32; omega)]
  by_cases c : f ≤ 0
  · rw [if_pos c, if_pos (by unfold r32; omega), if_pos (by unfold r32; omega)]
    by_cases y : -f ≤ 6 - ztv 7 s
    · rw [if_pos y]; exact ⟨0, rfl, by decide⟩
    · rw [if_neg y]; exact ⟨-1, rfl, by decide⟩
  · rw [if_neg c, if_pos (by unfold r32; omega)]
    by_cases y : f ≤ ztv 7 s
    · rw [if_pos y]; exact ⟨0, rfl, by decide⟩
    · rw [if_neg y]; exact ⟨1, rfl, by decide⟩
theorem C_tied {K : zK} {q c t k : Int} {m : Nat} {F : zF} {B : zB} (hK : 3002 ≤ K.1) (h : QN K q m c F B) (t0 : 0 ≤ t) (t1 : t < m) (k0 : 0 ≤ k) (k1 : k < F 1 (B 4 q 5 t) 10) : ∃ r, f_Part_isTiedFrom K q t k F B = some (r, F, B) ∧ (r = 0 ∨ r = 1) := by
  obtain ⟨h4, ⟨h6, m1⟩, _, hc, hn, he, _⟩ := h
  obtain ⟨e1, e2, e3, e4⟩ := he t t0 t1
  unfold f_Part_isTiedFrom f_Part_isTiedFrom_56 f_Part_isTiedFrom_57
  rw [if_pos h4, if_pos (by first | decide | omega), if_pos (by unfold r32; omega)]
  by_cases z : t ≤ 0
  · rw [if_pos z, if_pos (Or.inl rfl)]; exact ⟨0, rfl, Or.inl rfl⟩
  obtain ⟨d1, d2, d3, d4⟩ := he (t - 1) (by first | decide | omega) (by first | decide | omega)
  rw [if_neg z, if_pos (by first | decide | omega), if_pos d1, C_has d1, zb_s]
  by_cases y : zand (F 1 (B 4 q 5 (t - 1)) 7) 1 = 0
  · rw [if_pos y, if_pos (by decide), if_pos rfl, if_pos (Or.inl rfl)]; exact ⟨0, rfl, Or.inl rfl⟩
  · have ek := e4 k k0 k1
    rw [if_neg y, if_pos (by decide), if_neg (by decide), if_pos e1, if_pos (by first | decide | omega), if_pos d1, C_hasP hK d1 rfl d3.2 d3.1 (fun j u s => by have := d4 j u s; unfold r32; omega) (by unfold r32; omega) (by unfold r32; omega), zb_s]
    by_cases x : fP (B 1 (B 4 q 5 (t - 1)) 12) (B 1 (B 4 q 5 (t - 1)) 13) (F 1 (B 4 q 5 (t - 1)) 10) (B 1 (B 4 q 5 t) 12 k) (B 1 (B 4 q 5 t) 13 k) 7 0 < 0
    · rw [if_pos x, if_pos (by decide), if_pos rfl, if_pos (Or.inl rfl)]; exact ⟨0, rfl, Or.inl rfl⟩
    · rw [if_neg x, if_pos (by decide), if_neg (by decide), if_pos (Or.inr rfl)]; exact ⟨1, rfl, Or.inr rfl⟩
theorem C_acc12 {K : zK} {q c t : Int} {m : Nat} {F : zF} (hK : 3002 ≤ K.1) (t0 : 0 ≤ t) (t1 : t < m) : ∀ (r n : Nat) {k x : Int} {B : zB}, 0 ≤ k → k + r = F 1 (B 4 q 5 t) 10 → r < n → r32 x → QN K q m c F B → ∃ y B', f_Part_accidentalsOf_12 K n k x (B 4 q 5 t) q t F B = some (y, F, B') ∧ qB q B B' ∧ QN K q m c F B' ∧ qR q B B' ∧ r32 y := by
  intro r
  induction r with
  | zero =>
    intro n k x B k0 kr hn rx h
    obtain ⟨n, rfl⟩ : ∃ j, n = j + 1 := ⟨n - 1, (by first | decide | omega)⟩
    have h' := h
    obtain ⟨h4, ⟨h6, m1⟩, _, hc, hno, he, _⟩ := h
    obtain ⟨e1, e2, e3, e4⟩ := he t t0 t1
    rw [f_Part_accidentalsOf_12, if_pos e1, if_pos (by unfold r32; omega), if_pos (by unfold r32; omega), if_pos (by first | decide | omega)]
    exact ⟨x, B, rfl, qB_r, h', qR_r, rx⟩
  | succ r ih =>
    intro n k x B k0 kr hn rx h
    obtain ⟨n, rfl⟩ : ∃ j, n = j + 1 := ⟨n - 1, (by first | decide | omega)⟩
    have h' := h
    obtain ⟨h4, ⟨h6, m1⟩, _, hc, hno, he, h12⟩ := h
    obtain ⟨e1, e2, e3, e4⟩ := he t t0 t1
    obtain ⟨z, ez, zb⟩ := C_tied hK h' t0 t1 k0 (by first | decide | omega)
    have ek := e4 k k0 (by first | decide | omega)
    rw [f_Part_accidentalsOf_12, if_pos e1, if_pos (by unfold r32; omega), if_pos (by unfold r32; omega), if_neg (by first | decide | omega), if_pos (by first | decide | omega), if_pos h4, ez, zb_s]
    simp only [f_Part_accidentalsOf_78]
    rcases zb with rfl | rfl
    · rw [if_pos (by decide), if_pos rfl, if_pos (by first | decide | omega), if_pos (h12 _ (by first | decide | omega) (by first | decide | omega)), if_pos (by unfold r32; omega)]
      by_cases y : B 4 q 12 (B 1 (B 4 q 5 t) 12 k) = B 1 (B 4 q 5 t) 13 k
      · rw [if_pos y]
        exact ih n (k := k + 1) (by first | decide | omega) (by first | decide | omega) (by first | decide | omega) rx h'
      · rw [if_neg y]
        generalize hC : zup4 B 4 q 12 (B 1 (B 4 q 5 t) 12 k) (B 1 (B 4 q 5 t) 13 k) = C
        have f : qB q B C := fun d y j s nn => by rw [← hC, zup4_v, if_neg (by first | decide | omega)]
        have hC' : QN K q m c F C := QN_f h' f (fun s a b => by
          rw [← hC, zup4_v]
          split
          · unfold r32; omega
          · exact h12 s a b)
        have e5 : C 4 q 5 t = B 4 q 5 t := f 4 q 5 t (by first | decide | omega)
        obtain ⟨y', B', g1, g2, g3, g4, g5⟩ := ih n (k := k + 1) (x := zor x (zshl 1 k)) (B := C) (by first | decide | omega) (by rw [e5]; omega) (by first | decide | omega) (toI_r _) hC'
        rw [e5] at g1
        exact ⟨y', B', g1, qB_t f g2, g3, qR_t (qR_q (fun k x n => by rw [← hC, zup4_v, if_neg (by first | decide | omega)])) g4, g5⟩
    · rw [if_pos (by decide), if_neg (by decide)]
      exact ih n (k := k + 1) (by first | decide | omega) (by first | decide | omega) (by first | decide | omega) rx h'
theorem C_acc36 {K : zK} {q c f i b : Int} {m : Nat} {F : zF} {rec : Int → Int → Int → Int → zF → zB → zO} (hf : -7 ≤ f ∧ f ≤ 7) : ∀ (r n : Nat) {s : Int} {B : zB}, 0 ≤ s → s + r = 63 → r < n → QN K q m c F B → ∃ B', f_Part_setAccidentals_36 rec K n s b i q f F B = f_Part_setAccidentals_65 rec K i b q f F B' ∧ qB q B B' ∧ QN K q m c F B' ∧ qR q B B' := by
  intro r
  induction r with
  | zero =>
    intro n s B s0 sr hn h
    obtain ⟨n, rfl⟩ : ∃ j, n = j + 1 := ⟨n - 1, (by first | decide | omega)⟩
    rw [f_Part_setAccidentals_36, if_pos (by unfold r32; omega), if_pos (by first | decide | omega)]
    exact ⟨B, rfl, qB_r, h, qR_r⟩
  | succ r ih =>
    intro n s B s0 sr hn h
    obtain ⟨n, rfl⟩ : ∃ j, n = j + 1 := ⟨n - 1, (by first | decide | omega)⟩
    have h' := h
    obtain ⟨h4, _, _, _, _, _, h12⟩ := h
    have m1 := Int.emod_nonneg s (show (7 : Int) ≠ 0 by decide)
    have m2 := Int.emod_lt_of_pos s (show (0 : Int) < 7 by decide)
    obtain ⟨z, ez, zb⟩ := C_key (K := K) (F := F) (B := B) hf (s := s % 7) m1 (by first | decide | omega)
    rw [f_Part_setAccidentals_36, if_pos (by unfold r32; omega), if_neg (by first | decide | omega), if_pos h4, zrm_e s0 (by unfold r32; omega) (by decide) (by decide), ez, zb_s, if_pos (by first | decide | omega)]
    generalize hC : zup4 B 4 q 12 s z = C
    have f' : qB q B C := fun d y j s nn => by rw [← hC, zup4_v, if_neg (by first | decide | omega)]
    have hC' : QN K q m c F C := QN_f h' f' (fun s a b => by
      rw [← hC, zup4_v]
      split
      · unfold r32; omega
      · exact h12 s a b)
    obtain ⟨B', g1, g2, g3, g4⟩ := ih n (s := s + 1) (B := C) (by first | decide | omega) (by first | decide | omega) (by first | decide | omega) hC'
    exact ⟨B', g1, qB_t f' g2, g3, qR_t (qR_q (fun k x n => by rw [← hC, zup4_v, if_neg (by first | decide | omega)])) g4⟩
theorem C_acc {K : zK} {q c f : Int} {m : Nat} {F : zF} (hK : 3002 ≤ K.1) (hf : -7 ≤ f ∧ f ≤ 7) : ∀ (r n : Nat) {i b : Int} {B : zB}, 0 ≤ i → i + r = c → r < n → r32 b → QN K q m c F B → ∃ B', f_Part_setAccidentals_4 K n i b q f F B = some (0, F, B') ∧ qB q B B' ∧ QN K q m c F B' ∧ qR q B B' ∧ ∀ j, i ≤ j → j < c → r32 (B' 4 q 367 j) := by
  intro r
  induction r with
  | zero =>
    intro n i b B i0 ir hn rb h
    obtain ⟨n, rfl⟩ : ∃ k, n = k + 1 := ⟨n - 1, (by first | decide | omega)⟩
    have h' := h
    obtain ⟨h4, ⟨h6, m1⟩, ⟨h10, c0, c1⟩, _⟩ := h
    rw [f_Part_setAccidentals_4, if_pos h4, if_pos (by unfold r32; omega), h10, if_pos (by unfold r32; omega), if_pos (by first | decide | omega)]
    exact ⟨B, rfl, qB_r, h', qR_r, fun j a b => (by first | decide | omega)⟩
  | succ r ih =>
    intro n i b B i0 ir hn rb h
    obtain ⟨n, rfl⟩ : ∃ k, n = k + 1 := ⟨n - 1, (by first | decide | omega)⟩
    -- one note
    have note : ∀ (b' : Int) (C : zB), r32 b' → QN K q m c F C → ∃ B', f_Part_setAccidentals_65 (f_Part_setAccidentals_4 K n) K i b' q f F C = some (0, F, B') ∧ qB q C B' ∧ QN K q m c F B' ∧ qR q C B' ∧ ∀ j, i ≤ j → j < c → r32 (B' 4 q 367 j) := by
      intro b' C rb' hC
      have hC' := hC
      obtain ⟨h4, ⟨h6, m1⟩, ⟨h10, c0, c1⟩, hc, hno, he, _⟩ := hC
      have put : ∀ (x : Int) (D : zB), r32 x → QN K q m c F D → qB q C D → qR q C D → ∃ B', f_Part_setAccidentals_117 (f_Part_setAccidentals_4 K n) K i b' q f q i x F D = some (0, F, B') ∧ qB q C B' ∧ QN K q m c F B' ∧ qR q C B' ∧ ∀ j, i ≤ j → j < c → r32 (B' 4 q 367 j) := fun x D hx hD fD rD => by
        obtain ⟨w1, w2⟩ := QN_w (k := 367) (i := i) (x := x) hD (by decide)
        obtain ⟨B', g1, g2, g3, g4, g5⟩ := ih n (i := i + 1) (b := b') (by first | decide | omega) (by first | decide | omega) (by first | decide | omega) rb' w1
        refine ⟨B', ?_, qB_t fD (qB_t w2 g2), g3, qR_t rD (qR_t (qR_w hx) g4), fun j j0 j1 => by
          by_cases ej : j = i
          · rw [ej]
            exact g4 367 i (by decide) (by rw [zup4_v, if_pos ⟨rfl, rfl, rfl, rfl⟩]; exact hx)
          · exact g5 j (by first | decide | omega) j1⟩
        unfold f_Part_setAccidentals_117
        rw [if_pos h4, if_pos (by first | decide | omega)]
        exact g1
      obtain ⟨r1, e1, z1, z2⟩ := C_rn hC' i0 (by first | decide | omega)
      unfold f_Part_setAccidentals_65 f_Part_setAccidentals_85 f_Part_setAccidentals_86
      rw [if_pos h4, e1, zb_s]
      rcases z1 with rfl | rfl
      · obtain ⟨y1, y2, y3⟩ := z2 rfl
        obtain ⟨r2, e2, z3⟩ := C_ct hC' i0 (by first | decide | omega)
        rw [if_pos (show r32 0 by decide), if_pos (show (0 : Int) = 0 from rfl), e2, zb_s]
        rcases z3 with rfl | rfl
        · obtain ⟨y', D, g1, g2, g3, g4, g5⟩ := C_acc12 hK y1 y2 (F 1 (C 4 q 5 (C 4 q 360 i)) 10).toNat K.1 (k := 0) (x := 0) (B := C) (by decide) (by have := (he _ y1 y2).2.2.1; omega) (by have := (he _ y1 y2).2.2.1; omega) (by decide) hC'
          rw [if_pos (show r32 0 by decide), if_pos (show (0 : Int) = 0 from rfl), if_pos h4, if_pos (show r32 1 by decide), if_neg (show ¬ (1 : Int) = 0 by decide), if_pos (show 0 ≤ i ∧ i < 800 by omega), f_Part_accidentalsOf, if_pos h4, if_pos (show 0 ≤ C 4 q 360 i ∧ C 4 q 360 i < 200 by omega), g1, zb_s]
          exact put _ D g5 g3 g2 g4
        · rw [if_pos (show r32 1 by decide), if_neg (show ¬ (1 : Int) = 0 by decide), if_pos h4, if_pos (show r32 0 by decide), if_pos (show (0 : Int) = 0 from rfl)]
          exact put 0 C (by decide) hC' qB_r qR_r
      · rw [if_pos (show r32 1 by decide), if_neg (show ¬ (1 : Int) = 0 by decide), if_pos h4, if_pos (show r32 0 by decide), if_pos (show (0 : Int) = 0 from rfl)]
        exact put 0 C (by decide) hC' qB_r qR_r
    have h' := h
    obtain ⟨h4, ⟨h6, m1⟩, ⟨h10, c0, c1⟩, hc, hno, he, _⟩ := h
    obtain ⟨n1, n2, n3, n4⟩ := hno i i0 (by first | decide | omega)
    rw [f_Part_setAccidentals_4, if_pos h4, if_pos (by unfold r32; omega), h10, if_pos (by unfold r32; omega), if_neg (by first | decide | omega), if_pos (by first | decide | omega), if_pos (by unfold r32; omega), if_pos rb]
    by_cases z : B 4 q 361 i = b
    · rw [if_pos z]
      exact note b B rb h'
    · rw [if_neg z]
      obtain ⟨C, g1, g2, g3, g4⟩ := C_acc36 (rec := f_Part_setAccidentals_4 K n) (i := i) (b := B 4 q 361 i) hf 63 K.1 (s := 0) (B := B) (by decide) (by decide) (by first | decide | omega) h'
      rw [g1]
      obtain ⟨B', k1, k2, k3, k4, k5⟩ := note (B 4 q 361 i) C (by unfold r32; omega) g3
      exact ⟨B', k1, qB_t g2 k2, k3, qR_t g4 k4, k5⟩
end

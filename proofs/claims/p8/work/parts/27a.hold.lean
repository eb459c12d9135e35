section
/-! ===== the class's notes: what is made of them returns ===== -/
/-- what stands of a voice's notes and events -/
def QN (K : zK) (q : Int) (m : Nat) (c : Int) (F : zF) (B : zB) : Prop := (0 ≤ q ∧ q < K.2 4) ∧ (F 4 q 6 = m ∧ m ≤ 200) ∧ (F 4 q 10 = c ∧ 0 ≤ c ∧ c ≤ 800) ∧ (0 ≤ F 4 q 1 ∧ F 4 q 1 < 4) ∧ (∀ i, 0 ≤ i → i < c → (-1 ≤ B 4 q 360 i ∧ B 4 q 360 i < m) ∧ (0 ≤ B 4 q 361 i ∧ B 4 q 361 i ≤ 100) ∧ (0 ≤ B 4 q 9 i ∧ B 4 q 9 i ≤ 1000000000000) ∧ (0 ≤ B 4 q 364 i ∧ B 4 q 364 i ≤ 9)) ∧ (∀ t : Int, 0 ≤ t → t < m → (0 ≤ B 4 q 5 t ∧ B 4 q 5 t < K.2 1) ∧ (0 ≤ F 1 (B 4 q 5 t) 7 ∧ F 1 (B 4 q 5 t) 7 < 128) ∧ (0 ≤ F 1 (B 4 q 5 t) 10 ∧ F 1 (B 4 q 5 t) 10 ≤ 6) ∧ ∀ k, 0 ≤ k → k < F 1 (B 4 q 5 t) 10 → (0 ≤ B 1 (B 4 q 5 t) 12 k ∧ B 1 (B 4 q 5 t) 12 k ≤ 62) ∧ (-2 ≤ B 1 (B 4 q 5 t) 13 k ∧ B 1 (B 4 q 5 t) 13 k ≤ 2)) ∧ (∀ s, 0 ≤ s → s < 63 → r32 (B 4 q 12 s))
/-- what making changes -/
def qB (q : Int) (B B' : zB) : Prop := ∀ c y k x, ¬ (c = 4 ∧ y = q ∧ (k = 12 ∨ 366 ≤ k)) → B' c y k x = B c y k x
theorem qB_r {q : Int} {B : zB} : qB q B B := fun _ _ _ _ _ => rfl
theorem qB_t {q : Int} {B B1 B2 : zB} (h : qB q B B1) (h' : qB q B1 B2) : qB q B B2 := fun c y k x n => by rw [h' c y k x n, h c y k x n]
theorem QN_f {K : zK} {q c : Int} {m : Nat} {F : zF} {B B' : zB} (h : QN K q m c F B) (f : qB q B B') (r12 : ∀ s, 0 ≤ s → s < 63 → r32 (B' 4 q 12 s)) : QN K q m c F B' := by
  obtain ⟨a1, a2, a3, a4, a5, a6, _⟩ := h
  refine ⟨a1, a2, a3, a4, fun i u t => ?_, fun t u s => ?_, r12⟩
  · rw [f 4 q 360 i (by first | decide | omega), f 4 q 361 i (by first | decide | omega), f 4 q 9 i (by first | decide | omega), f 4 q 364 i (by first | decide | omega)]
    exact a5 i u t
  · rw [f 4 q 5 t (by first | decide | omega)]
    obtain ⟨b1, b2, b3, b4⟩ := a6 t u s
    refine ⟨b1, b2, b3, fun k x y => ?_⟩
    rw [f 1 _ 12 k (by first | decide | omega), f 1 _ 13 k (by first | decide | omega)]
    exact b4 k x y
theorem QN_w {K : zK} {q c : Int} {m : Nat} {F : zF} {B : zB} {k : Nat} {i x : Int} (h : QN K q m c F B) (hk : 366 ≤ k) : QN K q m c F (zup4 B 4 q k i x) ∧ qB q B (zup4 B 4 q k i x) := by
  have f : qB q B (zup4 B 4 q k i x) := fun c y k x n => by rw [zup4_v, if_neg (by first | decide | omega)]
  exact ⟨QN_f h f (fun s a b => by rw [zup4_v, if_neg (by first | decide | omega)]; exact h.2.2.2.2.2.2 s a b), f⟩
/-- rows behind 366 that are numbers stay so -/
def qR (q : Int) (B B' : zB) : Prop := ∀ k x, 366 ≤ k → r32 (B 4 q k x) → r32 (B' 4 q k x)
theorem qR_r {q : Int} {B : zB} : qR q B B := fun _ _ _ h => h
theorem qR_t {q : Int} {B B1 B2 : zB} (h : qR q B B1) (h' : qR q B1 B2) : qR q B B2 := fun k x n z => h' k x n (h k x n z)
theorem qR_w {q : Int} {B : zB} {k : Nat} {i x : Int} (hx : r32 x) : qR q B (zup4 B 4 q k i x) := fun k' x' _ z => by
  rw [zup4_v]
  split
  · exact hx
  · exact z
theorem qR_q {q : Int} {B B' : zB} (h : ∀ k x, 366 ≤ k → B' 4 q k x = B 4 q k x) : qR q B B' := fun k x n z => by rw [h k x n]; exact z
theorem C_rn {K : zK} {q c i : Int} {m : Nat} {F : zF} {B : zB} (h : QN K q m c F B) (i0 : 0 ≤ i) (i1 : i < c) : ∃ r, f_Part_isRestNote K q i F B = some (r, F, B) ∧ (r = 0 ∨ r = 1) ∧ (r = 0 → 0 ≤ B 4 q 360 i ∧ B 4 q 360 i < m ∧ 1 ≤ F 1 (B 4 q 5 (B 4 q 360 i)) 10) := by
  obtain ⟨h4, ⟨h6, m1⟩, ⟨h10, c0, c1⟩, hc, hn, he, _⟩ := h
  obtain ⟨n1, n2, n3, n4⟩ := hn i i0 i1
  unfold f_Part_isRestNote f_Part_isRestNote_33 f_Part_isRestNote_38
  rw [if_pos h4, if_pos (by first | decide | omega), if_pos (by unfold r32; omega)]
  by_cases z : B 4 q 360 i < 0
  · rw [if_pos z, if_pos (Or.inr rfl)]
    exact ⟨1, rfl, Or.inr rfl, fun y => absurd y (by decide)⟩
  obtain ⟨e1, e2, e3, e4⟩ := he (B 4 q 360 i) (by first | decide | omega) n1.2
  rw [if_neg z, h6, if_pos (by unfold r32; omega), if_neg (by first | decide | omega), if_pos (by first | decide | omega), if_pos e1, if_pos (by unfold r32; omega)]
  by_cases y : F 1 (B 4 q 5 (B 4 q 360 i)) 10 = 0
  · rw [if_pos y, if_pos (Or.inr rfl)]
    exact ⟨1, rfl, Or.inr rfl, fun y => absurd y (by decide)⟩
  · rw [if_neg y, if_pos (Or.inl rfl)]
    exact ⟨0, rfl, Or.inl rfl, fun _ => ⟨(by first | decide | omega), n1.2, (by first | decide | omega)⟩⟩
theorem C_ct {K : zK} {q c i : Int} {m : Nat} {F : zF} {B : zB} (h : QN K q m c F B) (i0 : 0 ≤ i) (i1 : i ≤ 800) : ∃ r, f_Part_continues K q i F B = some (r, F, B) ∧ (r = 0 ∨ r = 1) := by
  obtain ⟨h4, ⟨h6, m1⟩, ⟨h10, c0, c1⟩, hc, hn, he, _⟩ := h
  unfold f_Part_continues f_Part_continues_37 f_Part_continues_38
  rw [if_pos (by unfold r32; omega)]
  by_cases z : i ≤ 0
  · rw [if_pos z, if_pos (Or.inl rfl)]; exact ⟨0, rfl, Or.inl rfl⟩
  rw [if_neg z, if_pos h4, h10, if_pos (by unfold r32; omega)]
  by_cases y : c ≤ i
  · rw [if_pos y, if_pos (Or.inl rfl)]; exact ⟨0, rfl, Or.inl rfl⟩
  have a := hn i (by first | decide | omega) (by first | decide | omega)
  have b := hn (i - 1) (by first | decide | omega) (by first | decide | omega)
  rw [if_neg y, if_pos (by first | decide | omega), if_pos (by first | decide | omega), if_pos (by unfold r32; omega), if_pos (by unfold r32; omega)]
  by_cases x : B 4 q 360 i = B 4 q 360 (i - 1)
  · rw [if_pos x, if_pos (Or.inr rfl)]; exact ⟨1, rfl, Or.inr rfl⟩
  · rw [if_neg x, if_pos (Or.inl rfl)]; exact ⟨0, rfl, Or.inl rfl⟩
theorem C_tp {K : zK} {q c t : Int} {m : Nat} {F : zF} {B : zB} (hK : 3002 ≤ K.1) (h : QN K q m c F B) (t0 : 0 ≤ t) (t1 : t < m) : ∃ r, f_Part_tiedPitches K q t F B = some (r, F, B) ∧ 0 ≤ r ∧ r < 64 := by
  obtain ⟨h4, ⟨h6, m1⟩, _, hc, hn, he, _⟩ := h
  obtain ⟨e1, e2, e3, e4⟩ := he t t0 t1
  unfold f_Part_tiedPitches f_Part_tiedPitches_27
  rw [if_pos (by unfold r32; omega), if_neg (by first | decide | omega), if_pos h4, if_pos (by unfold r32; omega), h6, if_pos (by unfold r32; omega)]
  by_cases z : (m : Int) ≤ t + 1
  · rw [if_pos z]; exact ⟨0, rfl, by decide, by decide⟩
  obtain ⟨d1, d2, d3, d4⟩ := he (t + 1) (by first | decide | omega) (by first | decide | omega)
  rw [if_neg z, if_pos (by first | decide | omega), if_pos e1, C_has e1, zb_s]
  by_cases y : zand (F 1 (B 4 q 5 t) 7) 1 = 0
  · rw [if_pos y, if_pos (by decide), if_pos rfl]; exact ⟨0, rfl, by decide, by decide⟩
  · have sh := C_shared (K := K) (F := F) (B := B) hK e1 d1 rfl e3 rfl d3 (fun k u s => by have := e4 k u s; unfold r32; omega) (fun k u s => by have := d4 k u s; unfold r32; omega)
    have sb := shM_b (h := shB (B 4 q 5 t) (B 4 q 5 (t + 1)) (F 1 (B 4 q 5 (t + 1)) 10) B) (F 1 (B 4 q 5 t) 10).toNat
    have p64 : (2 : Int) ^ (F 1 (B 4 q 5 t) 10).toNat ≤ 64 := by
      obtain ⟨k, hk⟩ : ∃ k : Nat, F 1 (B 4 q 5 t) 10 = k := ⟨(F 1 (B 4 q 5 t) 10).toNat, (by first | decide | omega)⟩
      have : k = 0 ∨ k = 1 ∨ k = 2 ∨ k = 3 ∨ k = 4 ∨ k = 5 ∨ k = 6 := by omega
      rw [hk]
      rcases this with rfl | rfl | rfl | rfl | rfl | rfl | rfl <;> decide
    rw [if_neg y, if_pos (by decide), if_neg (by decide), if_pos (by first | decide | omega), if_pos e1, if_pos d1, sh, zb_s]
    exact ⟨_, rfl, sb.1, (by first | decide | omega)⟩
theorem C_hold {K : zK} {q c : Int} {m : Nat} {F : zF} (hK : 3002 ≤ K.1) : ∀ (r n : Nat) {i : Int} {B : zB}, 0 ≤ i → i + r = c → r < n → QN K q m c F B → ∃ B', f_Part_hold_2 K n i q F B = some (0, F, B') ∧ qB q B B' ∧ QN K q m c F B' ∧ qR q B B' ∧ ∀ j, i ≤ j → j < c → r32 (B' 4 q 366 j) := by
  intro r
  induction r with
  | zero =>
    intro n i B i0 ir hn h
    obtain ⟨n, rfl⟩ : ∃ k, n = k + 1 := ⟨n - 1, (by first | decide | omega)⟩
    have h' := h
    obtain ⟨h4, ⟨h6, m1⟩, ⟨h10, c0, c1⟩, _⟩ := h
    rw [f_Part_hold_2, if_pos h4, if_pos (by unfold r32; omega), h10, if_pos (by unfold r32; omega), if_pos (by first | decide | omega)]
    exact ⟨B, rfl, qB_r, h', qR_r, fun j a b => (by first | decide | omega)⟩
  | succ r ih =>
    intro n i B i0 ir hn h
    obtain ⟨n, rfl⟩ : ∃ k, n = k + 1 := ⟨n - 1, (by first | decide | omega)⟩
    have h' := h
    obtain ⟨h4, ⟨h6, m1⟩, ⟨h10, c0, c1⟩, hc, hno, he, _⟩ := h
    obtain ⟨r1, e1, z1, z2⟩ := C_rn h' i0 (by first | decide | omega)
    rw [f_Part_hold_2, if_pos h4, if_pos (by unfold r32; omega), h10, if_pos (by unfold r32; omega), if_neg (by first | decide | omega), if_pos (by first | decide | omega), e1, zb_s]
    have go : ∀ x : Int, r32 x → ∃ B', f_Part_hold_89 (f_Part_hold_2 K n) K i q F (zup4 B 4 q 366 i x) = some (0, F, B') ∧ qB q B B' ∧ QN K q m c F B' ∧ qR q B B' ∧ ∀ j, i ≤ j → j < c → r32 (B' 4 q 366 j) := fun x hx => by
      obtain ⟨w1, w2⟩ := QN_w (k := 366) (i := i) (x := x) h' (by decide)
      obtain ⟨B', a, b, c, d, e⟩ := ih n (i := i + 1) (by first | decide | omega) (by first | decide | omega) (by first | decide | omega) w1
      refine ⟨B', a, qB_t w2 b, c, qR_t (qR_w hx) d, fun j j0 j1 => ?_⟩
      by_cases ej : j = i
      · rw [ej]
        exact d 366 i (by decide) (by rw [zup4_v, if_pos ⟨rfl, rfl, rfl, rfl⟩]; exact hx)
      · exact e j (by first | decide | omega) j1
    have sh : ∀ k : Fin 7, r32 (zshl 1 (k.val : Int) - 1) := by decide +kernel
    rcases z1 with rfl | rfl
    · obtain ⟨y1, y2, y3⟩ := z2 rfl
      obtain ⟨r2, e2, z3⟩ := C_ct h' (i := i + 1) (by first | decide | omega) (by first | decide | omega)
      rw [if_pos (by decide), if_pos rfl, e2, zb_s]
      rcases z3 with rfl | rfl
      · obtain ⟨r3, e3, b3⟩ := C_tp hK h' y1 y2
        rw [if_pos (by decide), if_pos rfl, e3, zb_s]
        exact go _ (by unfold r32; omega)
      · rw [if_pos (by decide), if_neg (by decide), if_pos (by first | decide | omega), if_pos (he _ y1 y2).1]
        refine go _ ?_
        have y4 := (he _ y1 y2).2.2.1
        have z := sh ⟨(F 1 (B 4 q 5 (B 4 q 360 i)) 10).toNat, (by first | decide | omega)⟩
        rw [show (((⟨(F 1 (B 4 q 5 (B 4 q 360 i)) 10).toNat, (by first | decide | omega)⟩ : Fin 7).val : Nat) : Int) = F 1 (B 4 q 5 (B 4 q 360 i)) 10 by show (((F 1 (B 4 q 5 (B 4 q 360 i)) 10).toNat : Nat) : Int) = _; omega] at z
        exact z
    · rw [if_pos (by decide), if_neg (by decide)]
      exact go _ (by decide)
theorem zt8 : ztl 8 = 4 ∧ (∀ k : Fin 4, 0 ≤ ztv 8 (k.val : Int) ∧ ztv 8 (k.val : Int) ≤ 100) := by decide +kernel
theorem C_hts {K : zK} {q c i : Int} {m : Nat} {F : zF} {B : zB} (h : QN K q m c F B) (i0 : 0 ≤ i) (i1 : i < c) (y1 : 0 ≤ B 4 q 360 i) (y2 : B 4 q 360 i < m) (y3 : 1 ≤ F 1 (B 4 q 5 (B 4 q 360 i)) 10) : ∃ a b, f_Part_leastHeight K q i F B = some (a, F, B) ∧ f_Part_greatestHeight K q i F B = some (b, F, B) ∧ (-100 ≤ a ∧ a ≤ 62) ∧ (-100 ≤ b ∧ b ≤ 62) := by
  obtain ⟨h4, ⟨h6, m1⟩, ⟨h10, c0, c1⟩, hc, hno, he, _⟩ := h
  obtain ⟨e1, e2, e3, e4⟩ := he _ y1 y2
  have z := zt8.2 ⟨(F 4 q 1).toNat, (by first | decide | omega)⟩
  rw [show (((⟨(F 4 q 1).toNat, (by first | decide | omega)⟩ : Fin 4).val : Nat) : Int) = F 4 q 1 by show (((F 4 q 1).toNat : Nat) : Int) = F 4 q 1; omega] at z
  have zm : zmax (F 1 (B 4 q 5 (B 4 q 360 i)) 10 - 1) 0 = F 1 (B 4 q 5 (B 4 q 360 i)) 10 - 1 := by unfold zmax; split <;> omega
  have k0 := (e4 0 (by decide) (by first | decide | omega)).1
  have k1 := (e4 (F 1 (B 4 q 5 (B 4 q 360 i)) 10 - 1) (by first | decide | omega) (by first | decide | omega)).1
  unfold f_Part_leastHeight f_Part_greatestHeight
  rw [if_pos h4, if_pos (by first | decide | omega), if_pos (by first | decide | omega), if_pos e1, zt8.1, if_pos hc, if_pos h4, if_pos (by first | decide | omega), if_pos (by first | decide | omega), if_pos e1, if_pos (by unfold r32; omega), zm, if_pos (by first | decide | omega), if_pos hc]
  exact ⟨_, _, rfl, rfl, (by first | decide | omega), (by first | decide | omega)⟩
theorem C_ledg {K : zK} {q c : Int} {m : Nat} {F : zF} : ∀ (r n : Nat) {i : Int} {B : zB}, 0 ≤ i → i + r = c → r < n → QN K q m c F B → ∃ B', f_Part_setLedgers_2 K n i q F B = some (0, F, B') ∧ qB q B B' ∧ QN K q m c F B' ∧ qR q B B' ∧ ∀ j, i ≤ j → j < c → r32 (B' 4 q 368 j) := by
  intro r
  induction r with
  | zero =>
    intro n i B i0 ir hn h
    obtain ⟨n, rfl⟩ : ∃ k, n = k + 1 := ⟨n - 1, (by first | decide | omega)⟩
    have h' := h
    obtain ⟨h4, ⟨h6, m1⟩, ⟨h10, c0, c1⟩, _⟩ := h
    rw [f_Part_setLedgers_2, if_pos h4, if_pos (by unfold r32; omega), h10, if_pos (by unfold r32; omega), if_pos (by first | decide | omega)]
    exact ⟨B, rfl, qB_r, h', qR_r, fun j a b => (by first | decide | omega)⟩
  | succ r ih =>
    intro n i B i0 ir hn h
    obtain ⟨n, rfl⟩ : ∃ k, n = k + 1 := ⟨n - 1, (by first | decide | omega)⟩
    have h' := h
    obtain ⟨h4, ⟨h6, m1⟩, ⟨h10, c0, c1⟩, hc, hno, he, _⟩ := h
    obtain ⟨r1, e1, z1, z2⟩ := C_rn h' i0 (by first | decide | omega)
    have go : ∀ x : Int, r32 x → ∃ B', f_Part_setLedgers_52 (f_Part_setLedgers_2 K n) K x i q F B = some (0, F, B') ∧ qB q B B' ∧ QN K q m c F B' ∧ qR q B B' ∧ ∀ j, i ≤ j → j < c → r32 (B' 4 q 368 j) := fun x hx => by
      obtain ⟨w1, w2⟩ := QN_w (k := 368) (i := i) (x := x) h' (by decide)
      obtain ⟨B', a, b, c, d, e⟩ := ih n (i := i + 1) (by first | decide | omega) (by first | decide | omega) (by first | decide | omega) w1
      refine ⟨B', ?_, qB_t w2 b, c, qR_t (qR_w hx) d, fun j j0 j1 => by
        by_cases ej : j = i
        · rw [ej]
          exact d 368 i (by decide) (by rw [zup4_v, if_pos ⟨rfl, rfl, rfl, rfl⟩]; exact hx)
        · exact e j (by first | decide | omega) j1⟩
      unfold f_Part_setLedgers_52
      rw [if_pos h4, if_pos (by first | decide | omega)]
      exact a
    rw [f_Part_setLedgers_2, if_pos h4, if_pos (by unfold r32; omega), h10, if_pos (by unfold r32; omega), if_neg (by first | decide | omega), e1, zb_s]
    rcases z1 with rfl | rfl
    · obtain ⟨y1, y2, y3⟩ := z2 rfl
      obtain ⟨a, b, ea, eb, ba, bb⟩ := C_hts h' i0 (by first | decide | omega) y1 y2 y3
      rw [if_pos (by decide), if_pos rfl, eb, zb_s, if_pos (by unfold r32; omega), ea, zb_s, if_pos (by unfold r32; omega)]
      refine go _ ?_
      have hz : ∀ t : Int, t ≤ 200 → 0 ≤ zdv (zmax t 0) 2 ∧ zdv (zmax t 0) 2 ≤ 100 := fun t ht => by
        have q0 : 0 ≤ zmax t 0 ∧ zmax t 0 ≤ 200 := by unfold zmax; split <;> omega
        rw [zdv_e q0.1 (by unfold r32; omega) (by decide) (by decide)]
        omega
      have h1 := hz (b - 8) (by first | decide | omega)
      have h2 := hz (-a) (by first | decide | omega)
      unfold r32
      omega
    · rw [if_pos (by decide), if_neg (by decide)]
      exact go 0 (by decide)
end

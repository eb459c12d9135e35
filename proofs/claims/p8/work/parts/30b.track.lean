section
/-! ===== tracks: their beginning and their end ===== -/
theorem C_txt {K : zK} {s : Nat} {k : Int} {F : zF} {B : zB} (h0 : 2 ≤ K.2 0) (m : Nat) (hs : s < strL.length) (hz : zshr (zsl s) 0 = zsl s) (k0 : 0 ≤ k) (k1 : k < zsl s) (k2 : zsl s ≤ 1000) : f_ByteRow_putText_2 K (m + 1) k 1 s F B = zbind (f_ByteRow_put K 1 (zsc s k) F B) (fun _ F B => f_ByteRow_putText_2 K m (k + 1) 1 s F B) := by
  unfold f_ByteRow_putText_2
  rw [if_pos hs, C_slen hs hz, zb_s, if_pos (by unfold r32; omega), if_pos (by unfold r32; omega), if_neg (by first | decide | omega), C_schar hs k0 k1 k2, zb_s, if_pos (by first | decide | omega)]
  cases m <;> rfl
theorem C_txtE {K : zK} {s : Nat} {F : zF} {B : zB} (m : Nat) (hs : s < strL.length) (hz : zshr (zsl s) 0 = zsl s) (k2 : 0 ≤ zsl s ∧ zsl s ≤ 1000) : f_ByteRow_putText_2 K (m + 1) (zsl s) 1 s F B = some (0, F, B) := by
  unfold f_ByteRow_putText_2
  rw [if_pos hs, C_slen hs hz, zb_s, if_pos (by unfold r32; omega), if_pos (by unfold r32; omega), if_pos (by first | decide | omega)]
theorem L_txt {Km : Nat} {s : Nat} {k : Int} {F : zF} {B : zB} (m : Nat) (hs : s < strL.length) (hz : zshr (zsl s) 0 = zsl s) (k0 : 0 ≤ k) (k1 : k < zsl s) (k2 : zsl s ≤ 1000) : f_M_put_1_2 Km (m + 1) k s F B = zbind (f_M_put_0 Km (zsc s k) F B) (fun _ F B => f_M_put_1_2 Km m (k + 1) s F B) := by
  unfold f_M_put_1_2
  rw [if_pos hs, L_slen hs hz, zb_s, if_pos (by unfold r32; omega), if_pos (by unfold r32; omega), if_neg (by first | decide | omega), L_schar hs k0 k1 k2, zb_s]
  cases m <;> rfl
theorem L_txtE {Km : Nat} {s : Nat} {F : zF} {B : zB} (m : Nat) (hs : s < strL.length) (hz : zshr (zsl s) 0 = zsl s) (k2 : 0 ≤ zsl s ∧ zsl s ≤ 1000) : f_M_put_1_2 Km (m + 1) (zsl s) s F B = some (0, F, B) := by
  unfold f_M_put_1_2
  rw [if_pos hs, L_slen hs hz, zb_s, if_pos (by unfold r32; omega), if_pos (by unfold r32; omega), if_pos (by first | decide | omega)]
theorem P_tx {K : zK} {Km : Nat} {q : zF × zB × zF × zB} {s t : Nat} (h0 : 2 ≤ K.2 0) (hs : s < strL.length) (ht : t < strL.length) (es : zsl s = 4) (et : zsl t = 4) (e : ∀ k, 0 ≤ k → k < 4 → zsc s k = zsc t k) : ∀ (d : Nat) (k n : Int) (m1 m2 : Nat) (F : zF) (B : zB) (Fm : zF) (Bm : zB), k = 4 - d → 0 ≤ k → d < m1 → d < m2 → n < 20475 - d → WB q n F B Fm Bm → zP (f_ByteRow_putText_2 K m1 k 1 s F B) (f_M_put_1_2 Km m2 k t Fm Bm) (WA q (n + d)) := by
  have hz : zshr (zsl s) 0 = zsl s := by rw [es]; decide
  have hy : zshr (zsl t) 0 = zsl t := by rw [et]; decide
  intro d
  induction d with
  | zero =>
    intro k n m1 m2 F B Fm Bm ek k0 l1 l2 hn h
    obtain ⟨a, rfl⟩ : ∃ a, m1 = a + 1 := ⟨m1 - 1, (by first | decide | omega)⟩
    obtain ⟨b, rfl⟩ : ∃ b, m2 = b + 1 := ⟨m2 - 1, (by first | decide | omega)⟩
    have e4 : k = 4 := by omega
    have c := C_txtE (K := K) (F := F) (B := B) a hs hz (by first | decide | omega)
    have l := L_txtE (Km := Km) (F := Fm) (B := Bm) b ht hy (by first | decide | omega)
    rw [es] at c
    rw [et] at l
    rw [e4, c, l]
    refine P_some ?_
    show WB q (n + ((0 : Nat) : Int)) F B Fm Bm
    rw [show n + ((0 : Nat) : Int) = n by omega]
    exact h
  | succ d ih =>
    intro k n m1 m2 F B Fm Bm ek k0 l1 l2 hn h
    obtain ⟨a, rfl⟩ : ∃ a, m1 = a + 1 := ⟨m1 - 1, (by first | decide | omega)⟩
    obtain ⟨b, rfl⟩ : ∃ b, m2 = b + 1 := ⟨m2 - 1, (by first | decide | omega)⟩
    rw [C_txt h0 a hs hz k0 (by first | decide | omega) (by first | decide | omega), L_txt b ht hy k0 (by first | decide | omega) (by first | decide | omega)]
    refine P_put h0 h (by first | decide | omega) (by rw [e k k0 (by first | decide | omega)]) (fun F1 B1 G1 D1 w1 => ?_)
    have := ih (k + 1) (n + 1) a b F1 B1 G1 D1 (by first | decide | omega) (by first | decide | omega) (by first | decide | omega) (by first | decide | omega) (by first | decide | omega) w1
    rw [show n + 1 + (d : Int) = n + ((d + 1 : Nat) : Int) by omega] at this
    exact this
theorem str_h : ∀ k, 0 ≤ k → k < 4 → zsc 1 k = zsc 36 k := fun k k0 k1 => by
  have : k = 0 ∨ k = 1 ∨ k = 2 ∨ k = 3 := by omega
  rcases this with rfl | rfl | rfl | rfl <;> decide
theorem str_t : ∀ k, 0 ≤ k → k < 4 → zsc 2 k = zsc 37 k := fun k k0 k1 => by
  have : k = 0 ∨ k = 1 ∨ k = 2 ∨ k = 3 := by omega
  rcases this with rfl | rfl | rfl | rfl <;> decide
theorem P_head {K : zK} {Km : Nat} {q : zF × zB × zF × zB} {n : Int} {F : zF} {B : zB} {Fm : zF} {Bm : zB} (h0 : 2 ≤ K.2 0) (hK : 10 ≤ K.1) (hKm : 10 ≤ Km) (hn : n < 20400) (h : WB q n F B Fm Bm) : zP (f_ByteRow_putText K 1 1 F B) (f_M_put_1 Km 36 Fm Bm) (WA q (n + 4)) :=
  P_tx h0 (by decide) (by decide) (by decide) (by decide) str_h 4 0 n _ _ F B Fm Bm (by first | decide | omega) (by first | decide | omega) (by first | decide | omega) (by first | decide | omega) (by first | decide | omega) h
/-- a track begun: the answer is the place behind its head -/
def WT2 (q : zF × zB × zF × zB) (n : Int) : Int → zF → zB → Int → zF → zB → Prop := fun r F B r' Fm Bm => (r = n ∧ r' = n) ∧ WB q n F B Fm Bm
theorem P_trk {K : zK} {Km : Nat} {q : zF × zB × zF × zB} {n : Int} {F : zF} {B : zB} {Fm : zF} {Bm : zB} (h0 : 2 ≤ K.2 0) (hK : 10 ≤ K.1) (hKm : 10 ≤ Km) (hn : n < 20400) (h : WB q n F B Fm Bm) : zP (f_Performance_beginTrack K 1 F B) (f_M_beginTrack Km Fm Bm) (WT2 q (n + 8)) := by
  unfold f_Performance_beginTrack f_M_beginTrack
  rw [if_pos (by first | decide | omega)]
  refine P_bind (P_tx (Km := Km) (q := q) h0 (by decide) (by decide) (by decide) (by decide) str_t 4 0 n _ _ F B Fm Bm (by first | decide | omega) (by first | decide | omega) (by first | decide | omega) (by first | decide | omega) (by first | decide | omega) h) (fun r F1 B1 r' G1 D1 w1 => ?_)
  refine P_four h0 hK hKm (by decide) w1 (by first | decide | omega) (fun F2 B2 G2 D2 w2 => ?_)
  refine P_some ⟨⟨?_, ?_⟩, ?_⟩
  · rw [w2.1.1]; omega
  · rw [w2.1.2.1]; omega
  · rw [show n + ((4 : Nat) : Int) + 4 = n + 8 by omega] at w2; exact w2
/-- a byte set -/
theorem W_set {q : zF × zB × zF × zB} {n x a b : Int} {F : zF} {B : zB} {Fm : zF} {Bm : zB} (e : a = b % 256) (h : WB q n F B Fm Bm) : WB q n F (zup4 B 0 1 0 x a) Fm (zup4 Bm 14 0 70 x (zi2b (zi2b b))) := by
  obtain ⟨h1, hb, gF, gB, gM, gN⟩ := h
  refine ⟨h1, fun j j0 j1 => ?_, gF, fun c y k z g => ?_, gM, fun c y k z g => ?_⟩
  · rw [zup4_v, zup4_v]
    by_cases z : j = x
    · rw [if_pos (by first | decide | omega), if_pos (by first | decide | omega), zi2b_m]; exact e
    · rw [if_neg (by first | decide | omega), if_neg (by first | decide | omega)]; exact hb j j0 j1
  · rw [zup4_v, if_neg (by first | decide | omega)]; exact gB c y k z g
  · rw [zup4_v, if_neg (by first | decide | omega)]; exact gN c y k z g
theorem P_sw {K : zK} {Km : Nat} {q : zF × zB × zF × zB} {n x v : Int} (h0 : 2 ≤ K.2 0) (hv : r32 v) (hx : 4 ≤ x ∧ x ≤ n) (hn : n ≤ 20480) : ∀ (d : Nat) (k : Int) (m1 m2 : Nat) (F : zF) (B : zB) (Fm : zF) (Bm : zB), k = 4 - d → 0 ≤ k → d < m1 → d < m2 → WB q n F B Fm Bm → zP (f_ByteRow_setWide_2 K m1 k 1 (x - 4) v F B) (f_M_endTrack_32 Km m2 k v x Fm Bm) (WA q n) := by
  have ln : ((lnC 0 1 0 : Nat) : Int) = 20480 := by decide
  intro d
  induction d with
  | zero =>
    intro k m1 m2 F B Fm Bm ek k0 l1 l2 h
    obtain ⟨a, rfl⟩ : ∃ a, m1 = a + 1 := ⟨m1 - 1, (by first | decide | omega)⟩
    obtain ⟨b, rfl⟩ : ∃ b, m2 = b + 1 := ⟨m2 - 1, (by first | decide | omega)⟩
    unfold f_ByteRow_setWide_2 f_M_endTrack_32
    rw [if_pos (by unfold r32; omega), if_pos (by first | decide | omega), if_pos (by unfold r32; omega), if_pos (by first | decide | omega)]
    exact P_some h
  | succ d ih =>
    intro k m1 m2 F B Fm Bm ek k0 l1 l2 h
    obtain ⟨a, rfl⟩ : ∃ a, m1 = a + 1 := ⟨m1 - 1, (by first | decide | omega)⟩
    obtain ⟨b, rfl⟩ : ∃ b, m2 = b + 1 := ⟨m2 - 1, (by first | decide | omega)⟩
    unfold f_ByteRow_setWide_2 f_M_endTrack_32 f_ByteRow_setWide_44
    rw [h.1.1, ln]
    rw [if_pos (show r32 k by unfold r32; omega), if_neg (show ¬ 4 ≤ k by omega), if_pos (show r32 (x - 4 + k) by unfold r32; omega), if_neg (show ¬ x - 4 + k < 0 by omega), if_pos (show (0 : Int) ≤ 1 ∧ 1 < K.2 0 by omega), if_pos (show r32 n by unfold r32; omega), if_neg (show ¬ n ≤ x - 4 + k by omega), if_pos (show 0 ≤ x - 4 + k ∧ x - 4 + k < 20480 by omega)]
    rw [if_pos (show r32 k by unfold r32; omega), if_neg (show ¬ 4 ≤ k by omega), if_pos (show 0 ≤ x - 4 + k ∧ x - 4 + k < 40000 by omega)]
    exact ih (k + 1) a b F _ Fm _ (by first | decide | omega) (by first | decide | omega) (by first | decide | omega) (by first | decide | omega) (W_set (by rw [zushr_byte (by first | decide | omega), zshr_byte hv (by first | decide | omega)]) h)
theorem P_end {K : zK} {Km : Nat} {q : zF × zB × zF × zB} {n x : Int} {F : zF} {B : zB} {Fm : zF} {Bm : zB} (h0 : 2 ≤ K.2 0) (hK : 10 ≤ K.1) (hKm : 10 ≤ Km) (hn : n < 20400) (hx : 4 ≤ x ∧ x ≤ n) (h : WB q n F B Fm Bm) : zP (f_Performance_endTrack K 1 x F B) (f_M_endTrack Km x Fm Bm) (WA q (n + 4)) := by
  unfold f_Performance_endTrack f_M_endTrack
  refine P_meta h0 h (by first | decide | omega) (fun F1 B1 G1 D1 w1 => ?_)
  rw [if_pos (by first | decide | omega), w1.1.1, w1.1.2.1]
  unfold f_ByteRow_setWide
  obtain ⟨r, F2, B2, r', G2, D2, x1, x2, x3⟩ := P_sw (Km := Km) (q := q) (v := n + 4 - x) h0 (by unfold r32; omega) (show 4 ≤ x ∧ x ≤ n + 4 by omega) (by first | decide | omega) 4 0 K.1 Km F1 B1 G1 D1 (by first | decide | omega) (by first | decide | omega) (by first | decide | omega) (by first | decide | omega) w1
  rw [x1, x2, zb_s]
  exact P_some x3
end

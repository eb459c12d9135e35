section
/-! ===== a note written, both sides ===== -/
theorem L_timesR {K : Nat} {F : zF} {B : zB} {a b c d p r : Int} (hK : 70000000000 < K) (h : FR a b p) (hp : p ≤ 2000000000000) (c0 : 0 < c) (c1 : c ≤ 81) (d0 : 0 < d) (d1 : d ≤ 81) (r0 : 0 ≤ r) (e : p * c = r * d) : f_M_times K a b c d F B = some (0, fr F r, B) := by
  have hb := FR_b h
  have WWe : WW = 812851200 := rfl
  obtain ⟨b0, _, a0, ab⟩ := h
  have g1 := gc_pos (a := a) d0
  have g2 := gc_pos (a := c) b0
  have l1 := gc_le (a := a) d0
  have l2 := gc_le (a := c) b0
  obtain ⟨a', ha⟩ := gc_dl (a := a) (b := d) a0
  obtain ⟨d', hd⟩ := gc_dr (a := a) (b := d) (Int.le_of_lt d0)
  obtain ⟨c', hc⟩ := gc_dl (a := c) (b := b) (Int.le_of_lt c0)
  obtain ⟨b', hb'⟩ := gc_dr (a := c) (b := b) (Int.le_of_lt b0)
  unfold f_M_times
  rw [L_gcd a0 (by first | decide | omega) (Int.le_of_lt d0) (by first | decide | omega) (by first | decide | omega), zb_s, L_gcd (Int.le_of_lt c0) (by first | decide | omega) (Int.le_of_lt b0) (by first | decide | omega) (by first | decide | omega), zb_s, if_pos (lI_n0 g1 (by unfold r64; omega)), if_pos (lI_n0 g2 (by unfold r64; omega)), zldv_e a0 (by first | decide | omega) g1 (by first | decide | omega), zldv_e (Int.le_of_lt c0) (by first | decide | omega) g2 (by first | decide | omega), zldv_e (Int.le_of_lt b0) (by first | decide | omega) g2 (by first | decide | omega), zldv_e (Int.le_of_lt d0) (by first | decide | omega) g1 (by first | decide | omega)]
  generalize gc a d = x at *
  generalize gc c b = y at *
  have qa : a / x = a' := by rw [ha, Int.mul_ediv_cancel_left _ (Int.ne_of_gt g1)]
  have qd : d / x = d' := by rw [hd, Int.mul_ediv_cancel_left _ (Int.ne_of_gt g1)]
  have qc : c / y = c' := by rw [hc, Int.mul_ediv_cancel_left _ (Int.ne_of_gt g2)]
  have qb : b / y = b' := by rw [hb', Int.mul_ediv_cancel_left _ (Int.ne_of_gt g2)]
  have pos : ∀ {s t u : Int}, 0 < s → 0 < u → u = s * t → 0 < t ∧ t ≤ u := fun {s t u} hs hu e => by
    have t0 : 0 < t := by
      rcases Int.lt_or_le 0 t with z | z
      · exact z
      · have := Int.mul_nonpos_of_nonneg_of_nonpos (Int.le_of_lt hs) z
        omega
    have := Int.mul_le_mul_of_nonneg_right (show (1 : Int) ≤ s by omega) (Int.le_of_lt t0)
    exact ⟨t0, (by first | decide | omega)⟩
  obtain ⟨d0', d1'⟩ := pos g1 d0 hd
  obtain ⟨c0', c1'⟩ := pos g2 c0 hc
  obtain ⟨b0', b1'⟩ := pos g2 b0 hb'
  have a0' : 0 ≤ a' ∧ a' ≤ a := by
    have t0 : 0 ≤ a' := by
      rcases Int.lt_or_le a' 0 with z | z
      · have := Int.mul_neg_of_pos_of_neg g1 z
        omega
      · exact z
    have := Int.mul_le_mul_of_nonneg_right (show (1 : Int) ≤ x by omega) t0
    exact ⟨t0, (by first | decide | omega)⟩
  rw [qa, qd, qc, qb]
  have u0 : 0 ≤ a' * c' := Int.mul_nonneg a0'.1 (by first | decide | omega)
  have u1 : a' * c' ≤ 2000000000000 * 81 := Int.mul_le_mul (by first | decide | omega) (by first | decide | omega) (by first | decide | omega) (by decide)
  have v0 : 0 < b' * d' := Int.mul_pos b0' d0'
  have v1 : b' * d' ≤ 812851200 * 81 := Int.mul_le_mul (by first | decide | omega) (by first | decide | omega) (by first | decide | omega) (by decide)
  have eq : a' * c' * WW = r * (b' * d') := by
    have : x * y * (a' * c' * WW) = x * y * (r * (b' * d')) := by
      calc x * y * (a' * c' * WW) = (x * a') * WW * (y * c') := by ac_rfl
        _ = a * WW * c := by rw [← ha, ← hc]
        _ = p * b * c := by rw [ab]
        _ = p * c * b := by ac_rfl
        _ = r * d * b := by rw [e]
        _ = r * (x * d') * (y * b') := by rw [← hd, ← hb']
        _ = x * y * (r * (b' * d')) := by ac_rfl
    exact Int.eq_of_mul_eq_mul_left (Int.ne_of_gt (Int.mul_pos g1 g2)) this
  rw [L_is u0 (by first | decide | omega) v0 (by first | decide | omega) (by first | decide | omega), zb_s]
  obtain ⟨r1, r2⟩ := red_u (W := WW) (by decide) r0 u0 v0 eq
  rw [r1, r2]
  rfl
/-- note i as both sides have written it -/
def NE (q v w : Int) (m : Nat) (Z : Int → Int → Prop) (B Bm : zB) (i : Int) : Prop := (B 4 q 360 i = Bm 13 w 30 (800 * v + i) ∧ -1 ≤ B 4 q 360 i ∧ B 4 q 360 i < m) ∧ (B 4 q 361 i = Bm 13 w 31 (800 * v + i) ∧ 0 ≤ B 4 q 361 i ∧ B 4 q 361 i ≤ 100) ∧ (0 ≤ B 4 q 9 i ∧ B 4 q 9 i ≤ 1000000000000 ∧ Bm 13 w 32 (800 * v + i) = nu (B 4 q 9 i) ∧ Bm 13 w 33 (800 * v + i) = de (B 4 q 9 i)) ∧ (B 4 q 364 i = Bm 13 w 34 (800 * v + i) ∧ 0 ≤ B 4 q 364 i ∧ B 4 q 364 i ≤ 9) ∧ (B 4 q 365 i = Bm 13 w 35 (800 * v + i) ∧ 0 ≤ B 4 q 365 i ∧ B 4 q 365 i ≤ 2) ∧ Z (B 4 q 361 i) (B 4 q 9 i)
def NW (q v w : Int) (m : Nat) (Z : Int → Int → Prop) (c : Int) (F : zF) (B Bm : zB) : Prop := (0 ≤ c ∧ c ≤ 800) ∧ F 4 q 10 = c ∧ F 4 q 11 = 0 ∧ Bm 13 w 13 v = c ∧ ∀ i, 0 ≤ i → i < c → NE q v w m Z B Bm i
def NX (q v w : Int) (F : zF) (Bm : zB) : Prop := F 4 q 10 = 800 ∧ F 4 q 11 = 1 ∧ Bm 13 w 13 v = 801
/-- what writing notes may change -/
def nF (q : Int) (F F' : zF) : Prop := ∀ c y k, ¬ (c = 4 ∧ y = q ∧ (k = 10 ∨ k = 11)) → F' c y k = F c y k
def nB (q : Int) (B B' : zB) : Prop := ∀ c y k x, ¬ (c = 4 ∧ y = q ∧ (k = 9 ∨ 360 ≤ k)) → B' c y k x = B c y k x
def nG (F F' : zF) : Prop := ∀ c y k, ¬ (c = 14 ∧ y = 0 ∧ (k ≤ 1 ∨ 52 ≤ k ∧ k ≤ 57)) → F' c y k = F c y k
def nM' (v w : Int) (B B' : zB) : Prop := ∀ c y k x, ¬ (c = 13 ∧ y = w ∧ k = 13 ∧ x = v) → ¬ (c = 13 ∧ y = w ∧ 30 ≤ k ∧ k ≤ 35 ∧ 800 * v ≤ x ∧ x < 800 * v + 800) → B' c y k x = B c y k x
theorem P_add {K : zK} {Km m : Nat} {Z : Int → Int → Prop} {q v w ev bar pl val fo po : Int} {F : zF} {B : zB} {Fm : zF} {Bm : zB} (h4 : 0 ≤ q ∧ q < K.2 4) (v0 : 0 ≤ v ∧ v < 4) (w0 : 0 ≤ w ∧ w < 3) (he : -1 ≤ ev ∧ ev < m) (hb : 0 ≤ bar ∧ bar ≤ 100) (hp : 0 ≤ pl ∧ pl ≤ 1000000000000) (hv : 0 ≤ val ∧ val ≤ 29) (hfo : fo = val / 3) (hpo : po = 2 - val % 3) (h54 : Fm 14 0 54 = nu pl) (h55 : Fm 14 0 55 = de pl) (hZ : Z bar pl) {c : Int} (hN : NW q v w m Z c F B Bm) : ∃ F' B' Bm', f_Part_addNote K q ev bar pl val F B = some (0, F', B') ∧ f_M_note_1 Km w v ev bar fo po Fm Bm = some (0, Fm, Bm') ∧ nF q F F' ∧ nB q B B' ∧ nM' v w Bm Bm' ∧ ((c < 800 ∧ NW q v w m Z (c + 1) F' B' Bm') ∨ NX q v w F' Bm') := by
  obtain ⟨c0, n10, n11, n13, hne⟩ := hN
  have zd : zdv val 3 = fo := by rw [zdv_e hv.1 (by unfold r32; omega) (by decide) (by decide)]; exact hfo.symm
  have zm : 2 - zrm val 3 = po := by rw [zrm_e hv.1 (by unfold r32; omega) (by decide) (by decide)]; exact hpo.symm
  have e13 : (zup4 Bm 13 w 13 v (c + 1)) 13 w 13 v = c + 1 := by rw [zup4_v, if_pos (by first | decide | omega)]
  unfold f_Part_addNote f_M_note_1
  rw [if_pos h4, n10, if_pos (show r32 c by unfold r32; omega), if_pos w0, if_pos v0, n13, e13, if_pos (show r32 (c + 1) by unfold r32; omega), zd, zm]
  by_cases z : c < 800
  · rw [if_pos z, if_pos (show 0 ≤ c ∧ c < 800 by omega), if_pos (show c + 1 ≤ 800 by omega), if_pos (show 0 ≤ 800 * v + c ∧ 800 * v + c < 3200 by omega), h54, h55]
    generalize hB' : zup4 (zup4 (zup4 (zup4 (zup4 B 4 q 360 c ev) 4 q 361 c bar) 4 q 9 c pl) 4 q 364 c fo) 4 q 365 c po = B'
    generalize hM' : zup4 (zup4 (zup4 (zup4 (zup4 (zup4 (zup4 Bm 13 w 13 v (c + 1)) 13 w 30 (800 * v + c) ev) 13 w 31 (800 * v + c) bar) 13 w 32 (800 * v + c) (nu pl)) 13 w 33 (800 * v + c) (de pl)) 13 w 34 (800 * v + c) fo) 13 w 35 (800 * v + c) po = M'
    have bn : ∀ d y k x, ¬ (d = 4 ∧ y = q ∧ (k = 9 ∨ k = 360 ∨ k = 361 ∨ k = 364 ∨ k = 365) ∧ x = c) → B' d y k x = B d y k x := fun d y k x h => by rw [← hB', zup4_v, if_neg (by first | decide | omega), zup4_v, if_neg (by first | decide | omega), zup4_v, if_neg (by first | decide | omega), zup4_v, if_neg (by first | decide | omega), zup4_v, if_neg (by first | decide | omega)]
    have mn : ∀ d y k x, ¬ (d = 13 ∧ y = w ∧ k = 13 ∧ x = v) → ¬ (d = 13 ∧ y = w ∧ (30 ≤ k ∧ k ≤ 35) ∧ x = 800 * v + c) → M' d y k x = Bm d y k x := fun d y k x h h' => by rw [← hM', zup4_v, if_neg (by first | decide | omega), zup4_v, if_neg (by first | decide | omega), zup4_v, if_neg (by first | decide | omega), zup4_v, if_neg (by first | decide | omega), zup4_v, if_neg (by first | decide | omega), zup4_v, if_neg (by first | decide | omega), zup4_v, if_neg (by first | decide | omega)]
    refine ⟨_, B', M', rfl, rfl, fun d y k h => by rw [zup3_v, if_neg (by first | decide | omega)], fun d y k x h => bn d y k x (by first | decide | omega), fun d y k x h h' => mn d y k x h (by first | decide | omega), Or.inl ⟨z, (by first | decide | omega), by rw [zup3_v, if_pos (by first | decide | omega)], by rw [zup3_v, if_neg (by first | decide | omega)]; exact n11, ?_, fun i i0 i1 => ?_⟩⟩
    · rw [← hM', zup4_v, if_neg (by first | decide | omega), zup4_v, if_neg (by first | decide | omega), zup4_v, if_neg (by first | decide | omega), zup4_v, if_neg (by first | decide | omega), zup4_v, if_neg (by first | decide | omega), zup4_v, if_neg (by first | decide | omega), zup4_v, if_pos (by first | decide | omega)]
    · by_cases y : i = c
      · subst y
        have b360 : B' 4 q 360 i = ev := by rw [← hB']; simp [zup4_v]
        have b361 : B' 4 q 361 i = bar := by rw [← hB']; simp [zup4_v]
        have b9 : B' 4 q 9 i = pl := by rw [← hB']; simp [zup4_v]
        have b364 : B' 4 q 364 i = fo := by rw [← hB']; simp [zup4_v]
        have b365 : B' 4 q 365 i = po := by rw [← hB']; simp [zup4_v]
        have m30 : M' 13 w 30 (800 * v + i) = ev := by rw [← hM']; simp [zup4_v]
        have m31 : M' 13 w 31 (800 * v + i) = bar := by rw [← hM']; simp [zup4_v]
        have m32 : M' 13 w 32 (800 * v + i) = nu pl := by rw [← hM']; simp [zup4_v]
        have m33 : M' 13 w 33 (800 * v + i) = de pl := by rw [← hM']; simp [zup4_v]
        have m34 : M' 13 w 34 (800 * v + i) = fo := by rw [← hM']; simp [zup4_v]
        have m35 : M' 13 w 35 (800 * v + i) = po := by rw [← hM']; simp [zup4_v]
        unfold NE
        rw [b360, b361, b9, b364, b365, m30, m31, m32, m33, m34, m35]
        exact ⟨⟨rfl, he⟩, ⟨rfl, hb⟩, ⟨hp.1, hp.2, rfl, rfl⟩, ⟨rfl, (by first | decide | omega), (by first | decide | omega)⟩, ⟨rfl, (by first | decide | omega), (by first | decide | omega)⟩, hZ⟩
      · have := hne i i0 (by first | decide | omega)
        unfold NE at this ⊢
        rw [bn 4 q 360 i (by first | decide | omega), bn 4 q 361 i (by first | decide | omega), bn 4 q 9 i (by first | decide | omega), bn 4 q 364 i (by first | decide | omega), bn 4 q 365 i (by first | decide | omega), mn 13 w 30 _ (by first | decide | omega) (by first | decide | omega), mn 13 w 31 _ (by first | decide | omega) (by first | decide | omega), mn 13 w 32 _ (by first | decide | omega) (by first | decide | omega), mn 13 w 33 _ (by first | decide | omega) (by first | decide | omega), mn 13 w 34 _ (by first | decide | omega) (by first | decide | omega), mn 13 w 35 _ (by first | decide | omega) (by first | decide | omega)]
        exact this
  · rw [if_neg z, if_neg (show ¬ c + 1 ≤ 800 by omega)]
    refine ⟨_, B, _, rfl, rfl, fun d y k h => by rw [zup3_v, if_neg (by first | decide | omega)], fun _ _ _ _ _ => rfl, fun d y k x h h' => by rw [zup4_v, if_neg (by first | decide | omega)], Or.inr ⟨by rw [zup3_v, if_neg (by first | decide | omega)]; omega, by rw [zup3_v, if_pos (by first | decide | omega)], by rw [zup4_v, if_pos (by first | decide | omega)]; omega⟩⟩
end

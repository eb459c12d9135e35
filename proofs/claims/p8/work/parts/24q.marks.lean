section
/-! ===== what was made is turned round: the marks ===== -/
def cmk (a t : Int) : Int := zor (zor (zor (zand a (-8)) (if zand a 2 = 0 then 0 else 4)) (if zand a 4 = 0 then 0 else 2)) t
def rmk (a t : Int) : Int := zor (zor (zor (zand a (-8)) t) (if zand a 4 ≤ 0 then 0 else 2)) (if zand a 2 ≤ 0 then 0 else 4)
theorem mk_f : ∀ a : Fin 128, ∀ t : Fin 2, cmk (a.val : Int) (t.val : Int) = rmk (a.val : Int) (t.val : Int) ∧ 0 ≤ cmk (a.val : Int) (t.val : Int) ∧ cmk (a.val : Int) (t.val : Int) < 128 := by decide +kernel
theorem mk_e {a t : Int} (a0 : 0 ≤ a) (a1 : a < 128) (t0 : t = 0 ∨ t = 1) : cmk a t = rmk a t ∧ 0 ≤ cmk a t ∧ cmk a t < 128 := by
  have h := mk_f ⟨a.toNat, (by first | decide | omega)⟩ ⟨t.toNat, (by first | decide | omega)⟩
  rw [show (((⟨a.toNat, (by first | decide | omega)⟩ : Fin 128).val : Nat) : Int) = a by show ((a.toNat : Nat) : Int) = a; omega, show (((⟨t.toNat, (by first | decide | omega)⟩ : Fin 2).val : Nat) : Int) = t by show ((t.toNat : Nat) : Int) = t; omega] at h
  exact h
theorem tie_f : ∀ a : Fin 128, zand (a.val : Int) 1 = 0 ∨ zand (a.val : Int) 1 = 1 := by decide +kernel
theorem tie_e {a : Int} (a0 : 0 ≤ a) (a1 : a < 128) : zand a 1 = 0 ∨ zand a 1 = 1 := by
  have h := tie_f ⟨a.toNat, (by first | decide | omega)⟩
  rw [show (((⟨a.toNat, (by first | decide | omega)⟩ : Fin 128).val : Nat) : Int) = a by show ((a.toNat : Nat) : Int) = a; omega] at h
  exact h
theorem C_has {K : zK} {e m : Int} {F : zF} {B : zB} (he : 0 ≤ e ∧ e < K.2 1) : f_Event_has K e m F B = some (if zand (F 1 e 7) m = 0 then 0 else 1, F, B) := by
  unfold f_Event_has f_Event_has_14
  rw [if_pos he, if_pos (zand_r32 _ _)]
  by_cases c : zand (F 1 e 7) m = 0
  · rw [if_pos c, if_pos c, if_pos (by decide)]
  · rw [if_neg c, if_neg c, if_pos (by decide)]
def tieC (q m : Int) (F : zF) (B : zB) (j : Int) : Int := if j + 1 < m then (if zand (F 1 (B 4 q 5 (j + 1)) 7) 1 = 0 then 0 else 1) else 0
theorem C_53s {K : zK} {q m l : Int} {F : zF} {B : zB} {n : Nat} (h4 : 0 ≤ q ∧ q < K.2 4) (hm : F 4 q 6 = m) (m2 : m ≤ 200) (l0 : 0 ≤ l) (lm : l < m) (hV : ∀ t, 0 ≤ t → t < 200 → 0 ≤ B 4 q 5 t ∧ B 4 q 5 t < K.2 1) : f_Part_turn_53 K (n + 1) l q F B = f_Part_turn_53 K n (l + 1) q (zup3 F 1 (B 4 q 5 l) 7 (cmk (F 1 (B 4 q 5 l) 7) (tieC q m F B l))) B := by
  have v1 := hV l l0 (by first | decide | omega)
  have e149 : ∀ (rec : Int → Int → zF → zB → zO) a b, f_Part_turn_149 rec K (B 4 q 5 l) l q a b F B = rec (l + 1) q (zup3 F 1 (B 4 q 5 l) 7 (zor a b)) B := fun rec a b => by
    unfold f_Part_turn_149
    rw [if_pos v1]
  have e114 : ∀ (rec : Int → Int → zF → zB → zO) a b, f_Part_turn_114 rec K (B 4 q 5 l) l q a b F B = rec (l + 1) q (zup3 F 1 (B 4 q 5 l) 7 (zor (zor a b) (tieC q m F B l))) B := fun rec a b => by
    unfold f_Part_turn_114 f_Part_turn_148 tieC
    rw [if_pos h4, hm, if_pos (by unfold r32; omega), if_pos (by unfold r32; omega), e149]
    by_cases c : m ≤ l + 1
    · rw [if_pos c, if_neg (by first | decide | omega)]
    · have v2 := hV (l + 1) (by first | decide | omega) (by first | decide | omega)
      rw [if_neg c, if_pos (show 0 ≤ l + 1 ∧ l + 1 < 200 by omega), if_pos v2, C_has v2, zb_s, e149, if_pos (show l + 1 < m by omega)]
      by_cases z : zand (F 1 (B 4 q 5 (l + 1)) 7) 1 = 0
      · rw [if_pos z, if_pos (by decide), if_pos rfl]
      · rw [if_neg z, if_pos (by decide), if_neg (by decide), e149]
  have e95 : ∀ (rec : Int → Int → zF → zB → zO) a b, f_Part_turn_95 rec K (B 4 q 5 l) l q a b F B = rec (l + 1) q (zup3 F 1 (B 4 q 5 l) 7 (zor (zor (zor a b) (if zand (F 1 (B 4 q 5 l) 7) 4 = 0 then 0 else 2)) (tieC q m F B l))) B := fun rec a b => by
    unfold f_Part_turn_95
    rw [if_pos v1, C_has v1, zb_s, e114, e114]
    by_cases z : zand (F 1 (B 4 q 5 l) 7) 4 = 0
    · rw [if_pos z, if_pos z, if_pos (by decide), if_pos rfl]
    · rw [if_neg z, if_neg z, if_pos (by decide), if_neg (by decide)]
  rw [f_Part_turn_53, if_pos h4, hm, if_pos (by unfold r32; omega), if_pos (by unfold r32; omega), if_neg (by first | decide | omega), if_pos (by first | decide | omega), if_pos v1, C_has v1, zb_s, e95, e95]
  unfold cmk
  by_cases z : zand (F 1 (B 4 q 5 l) 7) 2 = 0
  · rw [if_pos z, if_pos z, if_pos (by decide), if_pos rfl]
  · rw [if_neg z, if_neg z, if_pos (by decide), if_neg (by decide)]
theorem C_53 {K : zK} {q m : Int} {B : zB} (h4 : 0 ≤ q ∧ q < K.2 4) (m2 : m ≤ 200) (hV : ∀ t, 0 ≤ t → t < 200 → 0 ≤ B 4 q 5 t ∧ B 4 q 5 t < K.2 1) (hI : inJ q B) : ∀ (d n : Nat) {l : Int} {F : zF}, (m - l).toNat = d → d < n → 0 ≤ l → l ≤ 200 → -1 ≤ m → F 4 q 6 = m → ∃ F', f_Part_turn_53 K n l q F B = some (0, F', B) ∧ (∀ j, l ≤ j → j < m → F' 1 (B 4 q 5 j) 7 = cmk (F 1 (B 4 q 5 j) 7) (tieC q m F B j)) ∧ ∀ c y k, ¬ (c = 1 ∧ k = 7 ∧ ∃ j, l ≤ j ∧ j < m ∧ B 4 q 5 j = y) → F' c y k = F c y k := by
  intro d
  induction d with
  | zero =>
    intro n l F hd hn l0 l2 m1 hm
    obtain ⟨n, rfl⟩ : ∃ m, n = m + 1 := ⟨n - 1, (by first | decide | omega)⟩
    exact ⟨F, by rw [f_Part_turn_53, if_pos h4, hm, if_pos (by unfold r32; omega), if_pos (by unfold r32; omega), if_pos (by first | decide | omega)], fun j a b => (by first | decide | omega), fun _ _ _ _ => rfl⟩
  | succ d ih =>
    intro n l F hd hn l0 l2 m1 hm
    obtain ⟨n, rfl⟩ : ∃ m, n = m + 1 := ⟨n - 1, (by first | decide | omega)⟩
    obtain ⟨F', e, g1, g2⟩ := ih n (l := l + 1) (F := zup3 F 1 (B 4 q 5 l) 7 (cmk (F 1 (B 4 q 5 l) 7) (tieC q m F B l))) (by first | decide | omega) (by first | decide | omega) (by first | decide | omega) (by first | decide | omega) m1 (by rw [zup3_v, if_neg (by first | decide | omega)]; exact hm)
    have ne : ∀ j, l < j → j < m → ¬ B 4 q 5 j = B 4 q 5 l := fun j a b y => by
      have := hI j l (by first | decide | omega) (by first | decide | omega) (by first | decide | omega) (by first | decide | omega) y
      omega
    refine ⟨F', by rw [C_53s h4 hm m2 l0 (by first | decide | omega) hV, e], fun j a b => ?_, fun c y k h => ?_⟩
    · by_cases jl : j = l
      · subst jl
        rw [g2 1 _ 7 (fun ⟨_, _, t, t0, t1, t2⟩ => ne t (by first | decide | omega) t1 t2), zup3_v, if_pos ⟨rfl, rfl, rfl⟩]
      · rw [g1 j (by first | decide | omega) b, zup3_v, if_neg (fun z => ne j (by first | decide | omega) b z.2.1)]
        congr 1
        generalize cmk (F 1 (B 4 q 5 l) 7) (tieC q m F B l) = val
        unfold tieC
        by_cases c : j + 1 < m
        · rw [if_pos c, if_pos c, zup3_v, if_neg (show ¬ ((1 : Nat) = 1 ∧ B 4 q 5 (j + 1) = B 4 q 5 l ∧ (7 : Nat) = 7) from fun z => ne (j + 1) (by first | decide | omega) c z.2.1)]
        · rw [if_neg c, if_neg c]
    · rw [g2 c y k (fun ⟨p1, p2, t, t0, t1, t2⟩ => h ⟨p1, p2, t, (by first | decide | omega), t1, t2⟩), zup3_v, if_neg (fun z => h ⟨z.1, z.2.2, l, Int.le_refl _, (by first | decide | omega), z.2.1.symm⟩)]
def tieM (v w m : Int) (B : zB) (j : Int) : Int := if j + 1 < m then zand (B 13 w 18 (1000 * v + j + 1)) 1 else 0
theorem L_92s {o : oT_W} {K : Nat} {F : zF} {B : zB} {v w m l : Int} {n : Nat} (hv : F 14 0 35 = v) (v0 : 0 ≤ v ∧ v < 4) (hw : F 14 0 6 = w) (w0 : 0 ≤ w ∧ w < 3) (hm : F 14 0 36 = m) (m2 : m ≤ 200) (l0 : 0 ≤ l) (lm : l < m) : f_M_goBack_92 o K (n + 1) l F B = f_M_goBack_92 o K n (l + 1) F (zup4 B 13 w 18 (1000 * v + l) (rmk (B 13 w 18 (1000 * v + l)) (tieM v w m B l))) := by
  have e180 : ∀ (rec : Int → zF → zB → zO) a b c d, f_M_goBack_180 o rec K a b c (1000 * v + l) l d F B = rec (l + 1) F (zup4 B 13 w 18 (1000 * v + l) (zor (zor (zor (zand c (-8)) b) a) d)) := fun rec a b c d => by
    unfold f_M_goBack_180
    rw [hw, if_pos w0, if_pos (by first | decide | omega)]
  have e152 : ∀ (rec : Int → zF → zB → zO) c s, f_M_goBack_152 o rec K c (1000 * v + l) l s F B = rec (l + 1) F (zup4 B 13 w 18 (1000 * v + l) (rmk c s)) := fun rec c s => by
    unfold f_M_goBack_152 f_M_goBack_166 rmk
    rw [if_pos (zand_r32 _ _)]
    by_cases z : zand c 4 ≤ 0
    · rw [if_pos z, if_pos z, if_pos (zand_r32 _ _)]
      by_cases y : zand c 2 ≤ 0
      · rw [if_pos y, if_pos y, e180]
      · rw [if_neg y, if_neg y, e180]
    · rw [if_neg z, if_neg z, if_pos (zand_r32 _ _)]
      by_cases y : zand c 2 ≤ 0
      · rw [if_pos y, if_pos y, e180]
      · rw [if_neg y, if_neg y, e180]
  rw [f_M_goBack_92, hm, hv, hw, if_pos (by unfold r32; omega), if_pos (by unfold r32; omega), if_neg (by first | decide | omega), if_pos w0, if_pos (by first | decide | omega), if_pos (by unfold r32; omega), e152]
  unfold tieM
  by_cases c : m - 1 ≤ l
  · rw [if_pos c, if_neg (by first | decide | omega)]
  · rw [if_neg c, if_pos (by first | decide | omega), if_pos (by first | decide | omega), e152]
theorem L_92 {o : oT_W} {K : Nat} {F : zF} {v w m : Int} (hv : F 14 0 35 = v) (v0 : 0 ≤ v ∧ v < 4) (hw : F 14 0 6 = w) (w0 : 0 ≤ w ∧ w < 3) (hm : F 14 0 36 = m) (m1 : -1 ≤ m) (m2 : m ≤ 200) : ∀ (d n : Nat) {l : Int} {B : zB}, (m - l).toNat = d → d < n → 0 ≤ l → l ≤ 200 → ∃ B', f_M_goBack_92 o K n l F B = some (0, F, B') ∧ (∀ j, l ≤ j → j < m → B' 13 w 18 (1000 * v + j) = rmk (B 13 w 18 (1000 * v + j)) (tieM v w m B j)) ∧ ∀ c i k y, ¬ (c = 13 ∧ i = w ∧ k = 18 ∧ 1000 * v + l ≤ y ∧ y < 1000 * v + m) → B' c i k y = B c i k y := by
  intro d
  induction d with
  | zero =>
    intro n l B hd hn l0 l2
    obtain ⟨n, rfl⟩ : ∃ m, n = m + 1 := ⟨n - 1, (by first | decide | omega)⟩
    exact ⟨B, by rw [f_M_goBack_92, hm, if_pos (by unfold r32; omega), if_pos (by unfold r32; omega), if_pos (by first | decide | omega)], fun j a b => (by first | decide | omega), fun _ _ _ _ _ => rfl⟩
  | succ d ih =>
    intro n l B hd hn l0 l2
    obtain ⟨n, rfl⟩ : ∃ m, n = m + 1 := ⟨n - 1, (by first | decide | omega)⟩
    obtain ⟨B', e, g1, g2⟩ := ih n (l := l + 1) (B := zup4 B 13 w 18 (1000 * v + l) (rmk (B 13 w 18 (1000 * v + l)) (tieM v w m B l))) (by first | decide | omega) (by first | decide | omega) (by first | decide | omega) (by first | decide | omega)
    refine ⟨B', by rw [L_92s hv v0 hw w0 hm m2 l0 (by first | decide | omega), e], fun j a b => ?_, fun c i k y h => ?_⟩
    · by_cases jl : j = l
      · subst jl
        rw [g2 _ _ _ _ (by first | decide | omega), zup4_v, if_pos ⟨rfl, rfl, rfl, rfl⟩]
      · rw [g1 j (by first | decide | omega) b, zup4_v, if_neg (by first | decide | omega)]
        congr 1
        unfold tieM
        by_cases c : j + 1 < m
        · rw [if_pos c, if_pos c, zup4_v, if_neg (by first | decide | omega)]
        · rw [if_neg c, if_neg c]
    · rw [g2 c i k y (by first | decide | omega), zup4_v, if_neg (by first | decide | omega)]
end

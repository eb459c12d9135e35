section
/-! ===== strokes written ===== -/
theorem C_toldK {K : zK} {s t c on v to ev j T : Int} {F : zF} {B : zB} (hs : 0 ≤ s ∧ s < K.2 5) (hc : F 5 s 0 = c ∧ 0 ≤ c ∧ c ≤ 2000) (hr : rwS s F) (t0 : 0 ≤ t) (t1 : t < 2 * c) (hT : 0 ≤ T ∧ T ≤ 500000) (ho : 0 ≤ on ∧ on ≤ 1) (hv : 0 ≤ v ∧ v < 4) (h2 : 0 ≤ to ∧ to ≤ 127) (he : 0 ≤ ev ∧ ev < 200) (hj : 0 ≤ j ∧ j < 2000) (e : B 5 s (F 5 s 8).toNat t = skV T on v to ev j) : f_Performance_strokeTold K s t 0 F B = some (T, F, B) ∧ f_Performance_strokeTold K s t 1 F B = some (v, F, B) ∧ f_Performance_strokeTold K s t 2 F B = some (to, F, B) ∧ f_Performance_strokeTold K s t 3 F B = some (if on = 0 then 0 else B 5 s 343 j, F, B) := by
  obtain ⟨b1, b2, b3, b4, b5, b6⟩ := sk_b hT ho hv h2 he hj
  obtain ⟨z1, z2, z3, z4, z5⟩ := sk_z b1.1 b1.2
  rw [b2] at z1
  rw [b4] at z2
  rw [b5] at z3
  rw [b3] at z4
  rw [b6] at z5
  obtain ⟨l1, l2⟩ : ((lnC 5 s (F 5 s 8).toNat : Nat) : Int) = 4000 ∧ zk 5 (F 5 s 8).toNat = (3, 1) := by
    rcases hr with ⟨e8, _⟩ | ⟨e8, _⟩
    · rw [e8]; exact ⟨rfl, by decide⟩
    · rw [e8]; exact ⟨rfl, by decide⟩
  have l3 : lnC 5 s (F 5 s 8).toNat ≤ 2147483647 := by omega
  have g : ∀ k, f_Performance_strokeTold K s t k F B = if r32 k then (if k = 0 then some (T, F, B) else (if k = 1 then some (v, F, B) else (if k = 2 then some (to, F, B) else (if k = 3 then some (if on = 0 then 0 else B 5 s 343 j, F, B) else some ((-1), F, B))))) else none := fun k => by
    unfold f_Performance_strokeTold f_Performance_strokeTold_110
    rw [if_pos (by unfold r32; omega), if_neg (by omega), if_pos hs, hc.1, if_pos (by unfold r32; omega), if_pos t1, if_pos (by omega), if_pos l2, if_pos l3, e, z1, z2, z3, z4, z5]
    rw [if_pos (show r64 on by unfold r64; omega)]
    by_cases z : on = 0
    · rw [if_pos (zcmp_0.mpr z), if_pos z]
    · rw [if_neg (fun y => z (zcmp_0.mp y)), if_pos hj, if_neg z]
  refine ⟨?_, ?_, ?_, ?_⟩
  · rw [g 0, if_pos (by decide), if_pos rfl]
  · rw [g 1, if_pos (by decide), if_neg (by decide), if_pos rfl]
  · rw [g 2, if_pos (by decide), if_neg (by decide), if_neg (by decide), if_pos rfl]
  · rw [g 3, if_pos (by decide), if_neg (by decide), if_neg (by decide), if_neg (by decide), if_pos rfl]
/-- the strokes of a piece performed, as the reference keeps them -/
theorem PFD_s {s w c t : Int} {F : zF} {B : zB} {Fm : zF} {Bm : zB} (h : PFD s w c F B Fm Bm) (t0 : 0 ≤ t) (t1 : t < 2 * c) : ∃ on ev j, B 5 s (F 5 s 8).toNat t = skV (Bm 13 w 61 t) on (Bm 13 w 62 t) (Bm 13 w 63 t) ev j ∧ (0 ≤ Bm 13 w 61 t ∧ Bm 13 w 61 t ≤ 500000) ∧ (0 ≤ on ∧ on ≤ 1) ∧ (0 ≤ Bm 13 w 62 t ∧ Bm 13 w 62 t < 4) ∧ (0 ≤ Bm 13 w 63 t ∧ Bm 13 w 63 t ≤ 127) ∧ (0 ≤ ev ∧ ev < 200) ∧ (0 ≤ j ∧ j < 2000) ∧ (if on = 0 then 0 else B 5 s 343 j) = Bm 13 w 64 t ∧ (0 ≤ Bm 13 w 64 t ∧ Bm 13 w 64 t ≤ 127) := by
  obtain ⟨⟨_, _, c0, c1⟩, _, sb, _, _, hz⟩ := h
  obtain ⟨z, z0, z1, ez, x1, x2, x3, x4⟩ := hz t t0 t1
  obtain ⟨b0, b1, b2, b3, b4, b5, b6⟩ := sb (z / 2) (by omega) (by omega)
  rw [ez, x1, x2, x3, x4]
  unfold kz
  by_cases y : z % 2 = 0
  · rw [if_pos y, if_pos y, if_pos y]
    exact ⟨1, _, z / 2, rfl, ⟨b4, by omega⟩, by omega, b0, b2, b1, by omega, by rw [if_neg (by decide)], b3⟩
  · rw [if_neg y, if_neg y, if_neg y]
    exact ⟨0, _, z / 2, rfl, ⟨by omega, b6⟩, by omega, b0, b2, b1, by omega, by rw [if_pos rfl], by omega⟩
theorem C_told {K : zK} {q : zF × zB × zF × zB} {s w c n t : Int} {F : zF} {B : zB} {Fm : zF} {Bm : zB} (hs : 0 ≤ s ∧ s < K.2 5) (hP : PFD s w c q.1 q.2.1 q.2.2.1 q.2.2.2) (hr : rwS s q.1) (h : WB q n F B Fm Bm) (t0 : 0 ≤ t) (t1 : t < 2 * c) : f_Performance_strokeTold K s t 0 F B = some (q.2.2.2 13 w 61 t, F, B) ∧ f_Performance_strokeTold K s t 1 F B = some (q.2.2.2 13 w 62 t, F, B) ∧ f_Performance_strokeTold K s t 2 F B = some (q.2.2.2 13 w 63 t, F, B) ∧ f_Performance_strokeTold K s t 3 F B = some (q.2.2.2 13 w 64 t, F, B) := by
  obtain ⟨on, ev, j, e, hT, ho, hv, h2, he, hj, e4, _⟩ := PFD_s hP t0 t1
  obtain ⟨_, _, gF, gB, _, _⟩ := h
  have f8 : F 5 s 8 = q.1 5 s 8 := gF 5 s 8 (by omega)
  have f9 : F 5 s 9 = q.1 5 s 9 := gF 5 s 9 (by omega)
  have f0 : F 5 s 0 = q.1 5 s 0 := gF 5 s 0 (by omega)
  have hr' : rwS s F := by unfold rwS at hr ⊢; rw [f8, f9]; exact hr
  have e' : B 5 s (F 5 s 8).toNat t = skV (q.2.2.2 13 w 61 t) on (q.2.2.2 13 w 62 t) (q.2.2.2 13 w 63 t) ev j := by
    rw [f8, gB 5 s _ t (by omega)]; exact e
  obtain ⟨y1, y2, y3, y4⟩ := C_toldK hs ⟨f0.trans hP.1.2.1, hP.1.2.2.1, hP.1.2.2.2⟩ hr' t0 t1 hT ho hv h2 he hj e'
  rw [gB 5 s 343 j (by omega), e4] at y4
  exact ⟨y1, y2, y3, y4⟩
theorem PFD_m {s w c : Int} {F : zF} {B : zB} {Fm : zF} {Bm : zB} (h : PFD s w c F B Fm Bm) : ∀ (d : Nat) (t : Int), 0 ≤ t → t + d < 2 * c → Bm 13 w 61 t ≤ Bm 13 w 61 (t + d) := by
  intro d
  induction d with
  | zero => intro t t0 t1; rw [show t + ((0 : Nat) : Int) = t by omega]; omega
  | succ d ih =>
    intro t t0 t1
    have i := ih t t0 (by omega)
    rw [show t + ((d + 1 : Nat) : Int) = t + d + 1 by omega]
    have lt := h.2.2.2.2.1 (t + d) (by omega) (by omega)
    obtain ⟨on, ev, j, e, a1, a2, a3, a4, a5, a6, _⟩ := PFD_s h (t := t + d) (by omega) (by omega)
    obtain ⟨on', ev', j', e', a1', a2', a3', a4', a5', a6', _⟩ := PFD_s h (t := t + d + 1) (by omega) (by omega)
    have b := (sk_b a1 a2 a3 a4 a5 a6).2.1
    have b' := (sk_b a1' a2' a3' a4' a5' a6').2.1
    rw [e, e'] at lt
    omega
/-- how many of the first m are v; how many are below v -/
def ce (g : Int → Int) (v : Int) : Nat → Int
  | 0 => 0
  | m + 1 => ce g v m + (if g m = v then 1 else 0)
def cu (g : Int → Int) (v : Int) : Nat → Int
  | 0 => 0
  | m + 1 => cu g v m + (if g m < v then 1 else 0)
theorem cu_s (g : Int → Int) (v : Int) : ∀ m, cu g (v + 1) m = cu g v m + ce g v m
  | 0 => rfl
  | m + 1 => by
    have i := cu_s g v m
    show cu g (v + 1) m + _ = cu g v m + _ + (ce g v m + _)
    by_cases y : g m = v
    · rw [if_pos (by omega), if_neg (by omega), if_pos y]; omega
    · rw [if_neg y]
      by_cases z : g m < v
      · rw [if_pos (by omega), if_pos z]; omega
      · rw [if_neg (by omega), if_neg z]; omega
theorem cu_b (g : Int → Int) (v : Int) : ∀ m, 0 ≤ cu g v m ∧ cu g v m ≤ m
  | 0 => ⟨Int.le_refl _, Int.le_refl _⟩
  | m + 1 => by
    have i := cu_b g v m
    show 0 ≤ cu g v m + _ ∧ cu g v m + _ ≤ _
    by_cases z : g m < v
    · rw [if_pos z]; omega
    · rw [if_neg z]; omega
theorem ce_m (g : Int → Int) (v : Int) : ∀ d m, ce g v m ≤ ce g v (m + d)
  | 0, m => Int.le_refl _
  | d + 1, m => by
    have i := ce_m g v d m
    show ce g v m ≤ ce g v (m + d) + (if g ((m + d : Nat) : Int) = v then 1 else 0)
    by_cases z : g ((m + d : Nat) : Int) = v
    · rw [if_pos z]; omega
    · rw [if_neg z]; omega
end

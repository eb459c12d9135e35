section
/-! ===== more of the class's steps over tokens, exactly ===== -/
theorem CX_b {K : zK} {F : zF} {B : zB} {k : Nat} {x v : Int} (h : CX K F B) : CX K F (zup4 B 3 0 k x v) := by
  obtain ⟨k3, k10, e11, hk, hv, hx, h5, hK⟩ := h
  refine ⟨k3, k10, e11, hk, hv, hx, fun j => ?_, hK⟩
  rw [zup4_v, if_neg (fun z => absurd z.1 (by decide))]
  exact h5 j
theorem advF_b {F : zF} {B : zB} {k : Nat} {x v : Int} : advF F (zup4 B 3 0 k x v) = advF F B := by
  unfold advF
  simp only [zup4_v]
  simp
theorem C_lN {K : zK} {F : zF} {B : zB} {w : Int} (h : CX K F B) (hl : 0 ≤ F 3 0 16 ∧ F 3 0 16 ≤ 6) (hr : ∀ x, 0 ≤ x → x < F 3 0 16 → r64 (B 3 0 12 x)) (hw : r64 w) : ∀ {n : Nat} {x : Int}, 0 ≤ x → x ≤ F 3 0 16 → F 3 0 16 - x < n → f_Parser_letNamed_2 K n x 0 w F B = some (if fdR (B 3 0 12) (F 3 0 16) w n x < 0 then -1 else B 3 0 13 (fdR (B 3 0 12) (F 3 0 16) w n x), F, B) := by
  obtain ⟨k3, k10, e11, hk, hv, hx, h5, hK⟩ := h
  intro n
  induction n with
  | zero => intro x _ _ h; omega
  | succ n ih =>
    intro x a b d
    unfold f_Parser_letNamed_2 fdR
    rw [if_pos ⟨(by first | decide | omega), k3⟩, if_pos (by first | decide | omega), if_pos (by first | decide | omega)]
    by_cases h : F 3 0 16 ≤ x
    · rw [if_pos h, if_pos h, if_pos (by decide)]
    · rw [if_neg h, if_neg h, if_pos (by first | decide | omega), if_pos (hr x a (by first | decide | omega)), if_pos hw]
      by_cases q : B 3 0 12 x = w
      · rw [if_pos (zcmp_0.mpr q), if_pos q, if_neg (by first | decide | omega)]
      · rw [if_neg (fun z => q (zcmp_0.mp z)), if_neg q]
        exact ih (by first | decide | omega) (by first | decide | omega) (by first | decide | omega)
theorem C_letNamed {K : zK} {F : zF} {B : zB} {w : Int} (h : CX K F B) (hl : 0 ≤ F 3 0 16 ∧ F 3 0 16 ≤ 6) (hr : ∀ x, 0 ≤ x → x < F 3 0 16 → r64 (B 3 0 12 x)) (hw : r64 w) : f_Parser_letNamed K 0 w F B = some (if fdR (B 3 0 12) (F 3 0 16) w 22 0 < 0 then -1 else B 3 0 13 (fdR (B 3 0 12) (F 3 0 16) w 22 0), F, B) := by
  have hK := h.2.2.2.2.2.2.2
  unfold f_Parser_letNamed
  rw [C_lN h hl hr hw (by first | decide | omega) (by first | decide | omega) (by first | decide | omega), fdR_f (f := K.1) (g := 22) (by first | decide | omega) (by first | decide | omega) (by first | decide | omega) (by first | decide | omega)]
theorem C_takeNumber {K : zK} {F : zF} {B : zB} {lo hi pw : Int} (h : CX K F B) (hl : r32 lo) (hh : r32 hi) (hp : pw = 0 ∨ pw = 1 ∧ 1 ≤ lo ∧ hi ≤ 32) : (F 10 0 0 = 3 → nOK (F 10 0 2) lo hi pw → f_Parser_takeNumber K 0 lo hi pw F B = some (1, advF (zup3 F 3 0 19 (F 10 0 2)) B, B)) ∧ (F 10 0 0 = 3 → ¬ nOK (F 10 0 2) lo hi pw → f_Parser_takeNumber K 0 lo hi pw F B = some (0, refF F 5, B)) ∧ (¬ F 10 0 0 = 3 → f_Parser_takeNumber K 0 lo hi pw F B = some (0, refF F 2, B)) := by
  have r2 := C_refuse (s := 2) h
  have r5 := C_refuse (s := 5) h
  have ad := C_adv (CX_u (k := 19) (v := F 10 0 2) h (by decide))
  obtain ⟨k3, k10, e11, hk, hv, hx, h5, hK⟩ := h
  have z79 : f_Parser_takeNumber_79 K 0 F B = some (1, advF (zup3 F 3 0 19 (F 10 0 2)) B, B) := by
    unfold f_Parser_takeNumber_79
    rw [e11, if_pos ⟨(by first | decide | omega), k3⟩, if_pos ⟨(by first | decide | omega), k10⟩, ad]; rfl
  have z73 : f_Parser_takeNumber_73 K 0 F B = some (0, refF F 5, B) := by
    unfold f_Parser_takeNumber_73
    rw [if_pos ⟨(by first | decide | omega), k3⟩, r5]; rfl
  unfold f_Parser_takeNumber f_Parser_takeNumber_47 f_Parser_takeNumber_48
  rw [e11, if_pos ⟨(by first | decide | omega), k3⟩, if_pos ⟨(by first | decide | omega), k10⟩, if_pos (by first | decide | omega)]
  refine ⟨fun a n => ?_, fun a n => ?_, fun a => ?_⟩
  · obtain ⟨n1, n2, n3⟩ := n
    rw [if_pos a, if_pos hl, if_pos (by first | decide | omega), if_pos (by first | decide | omega), if_neg (by rw [zcmp_lt]; omega), if_pos hh, if_pos (by first | decide | omega), if_neg (by rw [zcmp_g]; omega), if_pos (by decide), if_neg (by decide), if_pos (by first | decide | omega)]
    rcases hp with rfl | ⟨rfl, p1, p2⟩
    · rw [if_pos rfl, z79]
    · obtain ⟨r, b1, b2, b3⟩ := bitC (K := K) (F := F) (B := B) ⟨(F 10 0 2).toNat, (by first | decide | omega)⟩
      rw [show (((⟨(F 10 0 2).toNat, (by first | decide | omega)⟩ : Fin 33).val : Nat) : Int) = F 10 0 2 by show (((F 10 0 2).toNat : Nat) : Int) = _; omega] at b1 b3
      rw [if_neg (by decide), if_pos ⟨(by first | decide | omega), k3⟩, if_pos ⟨(by first | decide | omega), k10⟩, b1]
      simp only [zb_s]
      rw [if_pos b2, if_pos (b3.mpr (n3.resolve_left (by decide))), z79]
  · rw [if_pos a, if_pos hl, if_pos (by first | decide | omega), if_pos (by first | decide | omega), z73]
    by_cases n1 : F 10 0 2 < lo
    · rw [if_pos (zcmp_lt.mpr n1), if_pos (by decide), if_pos rfl]
    · rw [if_neg (fun z => n1 (zcmp_lt.mp z)), if_pos hh, if_pos (by first | decide | omega)]
      by_cases n2 : hi < F 10 0 2
      · rw [if_pos (zcmp_g.mpr n2), if_pos (by decide), if_pos rfl]
      · rw [if_neg (fun z => n2 (zcmp_g.mp z)), if_pos (by decide), if_neg (by decide), if_pos (by first | decide | omega)]
        rcases hp with rfl | ⟨rfl, p1, p2⟩
        · exact absurd ⟨(by first | decide | omega), (by first | decide | omega), Or.inl rfl⟩ n
        · obtain ⟨r, b1, b2, b3⟩ := bitC (K := K) (F := F) (B := B) ⟨(F 10 0 2).toNat, (by first | decide | omega)⟩
          rw [show (((⟨(F 10 0 2).toNat, (by first | decide | omega)⟩ : Fin 33).val : Nat) : Int) = F 10 0 2 by show (((F 10 0 2).toNat : Nat) : Int) = _; omega] at b1 b3
          rw [if_neg (by decide), if_pos ⟨(by first | decide | omega), k3⟩, if_pos ⟨(by first | decide | omega), k10⟩, b1]
          simp only [zb_s]
          rw [if_pos b2, if_neg (fun z => n ⟨(by first | decide | omega), (by first | decide | omega), Or.inr (b3.mp z)⟩), z73]
  · rw [if_neg a, r2]; rfl
def newB (B : zB) (x s p : Int) : zB := zup4 (zup4 (zup4 (zup4 (zup4 (zup4 (zup4 (zup4 B 3 0 0 x s) 3 0 1 x p) 3 0 2 x 0) 3 0 3 x (-1)) 3 0 4 x (-1)) 3 0 5 x (-1)) 3 0 6 x 0) 3 0 7 x 0
theorem C_newItem {K : zK} {F : zF} {B : zB} {s : Int} (h : CX K F B) (hi : 0 ≤ F 3 0 14 ∧ F 3 0 14 < 3000) : f_Parser_newItem K 0 s F B = some (F 3 0 14, zup3 F 3 0 14 (F 3 0 14 + 1), newB B (F 3 0 14) s (F 10 0 1)) := by
  obtain ⟨k3, k10, e11, hk, hv, hx, h5, hK⟩ := h
  have z : zmin (F 3 0 14) 2999 = F 3 0 14 := by unfold zmin; rw [if_neg (by first | decide | omega)]
  unfold f_Parser_newItem
  rw [z, e11, if_pos ⟨(by first | decide | omega), k3⟩, if_pos (by first | decide | omega), if_pos (by first | decide | omega), if_pos ⟨(by first | decide | omega), k10⟩]
  rfl
theorem CX_n {K : zK} {F : zF} {B : zB} {x s p : Int} (h : CX K F B) : CX K F (newB B x s p) := CX_b (CX_b (CX_b (CX_b (CX_b (CX_b (CX_b (CX_b h)))))))
theorem advF_n {F : zF} {B : zB} {x s p : Int} : advF F (newB B x s p) = advF F B := by
  unfold newB
  simp only [advF_b]
def isrt (k v : Int) : Int := if k = 4 then (if fiL wB v 0 = -1 then (if v = 114 then 0 else -1) else 4 + fiL wB v 0) else if k = 2 then 0 else if k = 5 then (if v = 60 then 0 else if v = 124 then 1 else if v = 33 then 2 else if v = 91 then 3 else -1) else -1
theorem fiL_c {w : Int} {L : List Int} : -1 ≤ fiL L w 0 ∧ (fiL L w 0 = -1 ∨ fiL L w 0 < L.length) := by
  rcases fiL_r (w := w) (L := L) (k := 0) (by first | decide | omega) with ⟨x, y⟩ | ⟨x, y, z⟩ <;> omega
theorem isrt_r (k v : Int) : -1 ≤ isrt k v ∧ isrt k v ≤ 9 := by
  have b := fiL_c (w := v) (L := wB)
  have l : wB.length = 6 := rfl
  unfold isrt
  split
  · split
    · split <;> omega
    · omega
  · split
    · omega
    · split
      · split
        · omega
        · split
          · omega
          · split
            · omega
            · split <;> omega
      · omega
theorem C_itemSort {K : zK} {F : zF} {B : zB} (h : CX K F B) : f_Parser_itemSort K 0 F B = some (isrt (F 10 0 0) (F 10 0 2), F, B) := by
  have s60 := C_isSign (c := 60) h (by decide)
  have s124 := C_isSign (c := 124) h (by decide)
  have s33 := C_isSign (c := 33) h (by decide)
  have s91 := C_isSign (c := 91) h (by decide)
  obtain ⟨k3, k10, e11, hk, hv, hx, h5, hK⟩ := h
  have b := fiL_b (w := F 10 0 2) (L := wB)
  have l : wB.length = 6 := rfl
  unfold f_Parser_itemSort f_Parser_itemSort_53 f_Parser_itemSort_77 f_Parser_itemSort_124 isrt
  rw [e11, if_pos ⟨(by first | decide | omega), k3⟩, if_pos ⟨(by first | decide | omega), k10⟩, if_pos (by first | decide | omega)]
  by_cases a : F 10 0 0 = 4
  · rw [if_pos a, if_pos a, C_ixB hK (by first | decide | omega)]
    simp only [zb_s]
    rw [if_pos (by first | decide | omega)]
    by_cases n : fiL wB (F 10 0 2) 0 = -1
    · rw [if_pos n, if_pos n, e11, if_pos ⟨(by first | decide | omega), k10⟩, if_pos (by first | decide | omega)]
      by_cases w : F 10 0 2 = 114
      · rw [if_pos (zcmp_0.mpr w), if_pos w]
      · rw [if_neg (fun z => w (zcmp_0.mp z)), if_neg w]
    · rw [if_neg n, if_neg n]
  · rw [if_neg a, if_neg a]
    by_cases a2 : F 10 0 0 = 2
    · rw [if_pos a2, if_pos a2]
    · rw [if_neg a2, if_neg a2, s60]
      have r60 := sgn_r F 60
      have r124 := sgn_r F 124
      have r33 := sgn_r F 33
      have r91 := sgn_r F 91
      simp only [zb_s]
      rw [if_pos (by first | decide | omega)]
      by_cases a5 : F 10 0 0 = 5
      · rw [if_pos a5]
        by_cases c60 : F 10 0 2 = 60
        · rw [if_neg (by rw [sgn_0]; exact fun z => z ⟨a5, c60⟩), if_pos c60]
        · rw [if_pos (by rw [sgn_0]; exact fun z => c60 z.2), if_neg c60, e11, if_pos ⟨(by first | decide | omega), k10⟩, s124]
          simp only [zb_s]
          rw [if_pos (by first | decide | omega)]
          by_cases c124 : F 10 0 2 = 124
          · rw [if_neg (by rw [sgn_0]; exact fun z => z ⟨a5, c124⟩), if_pos c124]
          · rw [if_pos (by rw [sgn_0]; exact fun z => c124 z.2), if_neg c124, e11, if_pos ⟨(by first | decide | omega), k10⟩, s33]
            simp only [zb_s]
            rw [if_pos (by first | decide | omega)]
            by_cases c33 : F 10 0 2 = 33
            · rw [if_neg (by rw [sgn_0]; exact fun z => z ⟨a5, c33⟩), if_pos c33]
            · rw [if_pos (by rw [sgn_0]; exact fun z => c33 z.2), if_neg c33, e11, if_pos ⟨(by first | decide | omega), k10⟩, s91]
              simp only [zb_s]
              rw [if_pos (by first | decide | omega)]
              by_cases c91 : F 10 0 2 = 91
              · rw [if_neg (by rw [sgn_0]; exact fun z => z ⟨a5, c91⟩), if_pos c91]
              · rw [if_pos (by rw [sgn_0]; exact fun z => c91 z.2), if_neg c91]
      · have n : ∀ c, sgn F c = 0 := fun c => sgn_0.mpr (fun z => a5 z.1)
        rw [if_neg a5, if_pos (n 60), e11, if_pos ⟨(by first | decide | omega), k10⟩, s124]
        simp only [zb_s]
        rw [if_pos (by first | decide | omega), if_pos (n 124), e11, if_pos ⟨(by first | decide | omega), k10⟩, s33]
        simp only [zb_s]
        rw [if_pos (by first | decide | omega), if_pos (n 33), e11, if_pos ⟨(by first | decide | omega), k10⟩, s91]
        simp only [zb_s]
        rw [if_pos (by first | decide | omega), if_pos (n 91)]
def pitB (F : zF) (B : zB) (x : Int) : zB := zup4 (zup4 (zup4 (zup4 B 3 0 8 (F 3 0 15) (F 10 0 3)) 3 0 9 (F 3 0 15) (F 10 0 4)) 3 0 10 (F 3 0 15) (F 10 0 1)) 3 0 6 x (B 3 0 6 x + 1)
theorem C_takePitch {K : zK} {F : zF} {B : zB} {x : Int} (h : CX K F B) (hp : 0 ≤ F 3 0 15 ∧ F 3 0 15 < 1500) (hx : 0 ≤ x ∧ x < 3000) : f_Parser_takePitch K 0 x F B = some (0, advF (zup3 F 3 0 15 (F 3 0 15 + 1)) B, pitB F B x) := by
  have ad := C_adv (B := pitB F B x) (CX_b (CX_b (CX_b (CX_b (CX_u (k := 15) (v := F 3 0 15 + 1) h (by decide))))))
  have ea : advF (zup3 F 3 0 15 (F 3 0 15 + 1)) (pitB F B x) = advF (zup3 F 3 0 15 (F 3 0 15 + 1)) B := by unfold pitB; simp only [advF_b]
  have e6 : (zup4 (zup4 (zup4 B 3 0 8 (F 3 0 15) (F 10 0 3)) 3 0 9 (F 3 0 15) (F 10 0 4)) 3 0 10 (F 3 0 15) (F 10 0 1)) 3 0 6 x = B 3 0 6 x := by simp [zup4_v]
  obtain ⟨k3, k10, e11, hk, hv, hx', h5, hK⟩ := h
  unfold f_Parser_takePitch f_Parser_takePitch_80
  rw [e11, if_pos ⟨(by first | decide | omega), k3⟩, if_pos (by first | decide | omega), if_neg (by first | decide | omega), if_pos ⟨(by first | decide | omega), k10⟩, if_pos hp, if_pos hx, if_pos ⟨(by first | decide | omega), k3⟩, e6]
  rw [show (zup3 F 3 0 15 (F 3 0 15 + 1)) 3 0 11 = 0 by simp [zup3_v, e11], if_pos ⟨(by first | decide | omega), k10⟩]
  rw [show zup4 (zup4 (zup4 (zup4 B 3 0 8 (F 3 0 15) (F 10 0 3)) 3 0 9 (F 3 0 15) (F 10 0 4)) 3 0 10 (F 3 0 15) (F 10 0 1)) 3 0 6 x (B 3 0 6 x + 1) = pitB F B x from rfl, ad, ea]
  rfl
theorem C_takeLoud {K : zK} {F : zF} {B : zB} {x : Int} (h : CX K F B) (hx : 0 ≤ x ∧ x < 3000) : (F 10 0 0 = 4 → F 10 0 2 ∈ wL → f_Parser_takeLoud K 0 x F B = some (1, advF F B, zup4 B 3 0 2 x (fiL wL (F 10 0 2) 0))) ∧ (¬ (F 10 0 0 = 4 ∧ F 10 0 2 ∈ wL) → f_Parser_takeLoud K 0 x F B = some (0, refF F 2, B)) := by
  have r2 := C_refuse (s := 2) h
  have ad := C_adv (CX_b (k := 2) (x := x) (v := fiL wL (F 10 0 2) 0) h)
  rw [advF_b] at ad
  obtain ⟨k3, k10, e11, hk, hv, hx', h5, hK⟩ := h
  have b := fiL_b (w := F 10 0 2) (L := wL)
  have l : wL.length = 8 := rfl
  unfold f_Parser_takeLoud f_Parser_takeLoud_28
  rw [e11, if_pos ⟨(by first | decide | omega), k3⟩, if_pos ⟨(by first | decide | omega), k10⟩, if_pos (by first | decide | omega)]
  refine ⟨fun a m => ?_, fun n => ?_⟩
  · rw [if_pos a, C_ixL hK (by first | decide | omega)]
    simp only [zb_s]
    rw [if_pos (by first | decide | omega), if_neg (fun z => fiL_n.mp z m), if_pos ⟨(by first | decide | omega), k3⟩, if_pos hx, e11, if_pos ⟨(by first | decide | omega), k10⟩, ad]
    rfl
  · by_cases a : F 10 0 0 = 4
    · rw [if_pos a, C_ixL hK (by first | decide | omega)]
      simp only [zb_s]
      rw [if_pos (by first | decide | omega), if_pos (fiL_n.mpr (fun z => n ⟨a, z⟩)), if_pos ⟨(by first | decide | omega), k3⟩, r2]
      rfl
    · rw [if_neg a, if_pos (by decide), if_pos rfl, if_pos ⟨(by first | decide | omega), k3⟩, r2]
      rfl
end

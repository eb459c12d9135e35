section
/-! ===== the reference's smallest steps over tokens, exactly ===== -/
def MX (F : zF) (B : zB) (j : Int) : Prop := F 14 0 16 = j ∧ (0 ≤ j ∧ j ≤ 3000) ∧ (0 ≤ B 14 0 7 j ∧ B 14 0 7 j ≤ 5) ∧ (B 14 0 7 j = 5 ∨ B 14 0 7 j = 3 → 0 ≤ B 14 0 9 j ∧ B 14 0 9 j ≤ 9999) ∧ (B 14 0 7 j = 4 → 0 < B 14 0 11 j ∧ B 14 0 11 j < 9223372036854775808)
def sgm (B : zB) (j c : Int) : Int := if B 14 0 7 j = 5 ∧ B 14 0 9 j = c then 1 else 0
def wdm (B : zB) (j c : Int) : Int := if B 14 0 7 j = 4 ∧ B 14 0 11 j = c then 1 else 0
theorem sgm_0 {B : zB} {j c : Int} : sgm B j c = 0 ↔ ¬ (B 14 0 7 j = 5 ∧ B 14 0 9 j = c) := by unfold sgm; split <;> simp_all
theorem wdm_0 {B : zB} {j c : Int} : wdm B j c = 0 ↔ ¬ (B 14 0 7 j = 4 ∧ B 14 0 11 j = c) := by unfold wdm; split <;> simp_all
theorem sgm_r (B : zB) (j c : Int) : sgm B j c = 0 ∨ sgm B j c = 1 := by unfold sgm; split <;> simp
theorem wdm_r (B : zB) (j c : Int) : wdm B j c = 0 ∨ wdm B j c = 1 := by unfold wdm; split <;> simp
theorem L_good {K : Nat} {F : zF} {B : zB} (h : F 14 0 17 = 0) : f_M_good K F B = some (1, F, B) := by
  unfold f_M_good f_M_good_12
  rw [if_pos (by first | decide | omega), if_pos h, if_pos (by decide)]
def bad (F : zF) : Prop := 1 ≤ F 14 0 17 ∧ F 14 0 17 ≤ 15
theorem L_goodB {K : Nat} {F : zF} {B : zB} (h : bad F) : f_M_good K F B = some (0, F, B) := by
  unfold bad at h
  unfold f_M_good f_M_good_12
  rw [if_pos (by first | decide | omega), if_neg (by first | decide | omega), if_pos (by decide)]
theorem L_isSign {K : Nat} {F : zF} {B : zB} {j c : Int} (h : MX F B j) (hc : r32 c) : f_M_isSign K c F B = some (sgm B j c, F, B) := by
  obtain ⟨rfl, h0, hk, hv, hw⟩ := h
  unfold f_M_isSign f_M_isSign_30 f_M_isSign_31 sgm
  rw [if_pos (by first | decide | omega), if_pos (by first | decide | omega)]
  by_cases a : B 14 0 7 (F 14 0 16) = 5
  · have v := hv (Or.inl a)
    rw [if_pos a, if_pos (by first | decide | omega), if_pos hc]
    by_cases b : B 14 0 9 (F 14 0 16) = c
    · rw [if_pos b, if_pos (by decide), if_pos ⟨a, b⟩]
    · rw [if_neg b, if_pos (by decide), if_neg (fun z => b z.2)]
  · rw [if_neg a, if_pos (by decide), if_neg (fun z => a z.1)]
theorem L_isWord {K : Nat} {F : zF} {B : zB} {j c : Int} (h : MX F B j) (hc : r64 c) : f_M_isWord K c F B = some (wdm B j c, F, B) := by
  obtain ⟨rfl, h0, hk, hv, hw⟩ := h
  unfold f_M_isWord f_M_isWord_31 f_M_isWord_32 wdm
  rw [if_pos (by first | decide | omega), if_pos (by first | decide | omega)]
  by_cases a : B 14 0 7 (F 14 0 16) = 4
  · have v := hw a
    rw [if_pos a, if_pos (by first | decide | omega), if_pos hc]
    by_cases b : B 14 0 11 (F 14 0 16) = c
    · rw [if_pos (zcmp_0.mpr b), if_pos (by decide), if_pos ⟨a, b⟩]
    · rw [if_neg (fun z => b (zcmp_0.mp z)), if_pos (by decide), if_neg (fun z => b z.2)]
  · rw [if_neg a, if_pos (by decide), if_neg (fun z => a z.1)]
def errM (F : zF) (B : zB) (s : Int) : zF := zup3 (zup3 F 14 0 17 s) 14 0 18 (B 14 0 8 (F 14 0 16))
theorem L_fail {K : Nat} {F : zF} {B : zB} {s : Int} (h : F 14 0 17 = 0) (h0 : 0 ≤ F 14 0 16 ∧ F 14 0 16 ≤ 3000) : f_M_fail K s F B = some (0, errM F B s, B) := by
  unfold f_M_fail f_M_failAt errM
  rw [if_pos (by first | decide | omega), if_pos (by first | decide | omega), if_pos (by first | decide | omega)]
  rfl
theorem L_failB {K : Nat} {F : zF} {B : zB} {s : Int} (h : bad F) : f_M_fail K s F B = some (0, F, B) := by
  unfold bad at h
  unfold f_M_fail f_M_failAt
  rw [if_pos (by first | decide | omega), if_neg (by first | decide | omega)]
  rfl
def wr (B : zB) (j : Int) : Int := if B 14 0 7 j = 1 then 1 else 2
theorem L_wrong {K : Nat} {F : zF} {B : zB} {j : Int} (h : F 14 0 17 = 0) (hm : MX F B j) : f_M_wrong K F B = some (0, errM F B (wr B j), B) := by
  obtain ⟨rfl, h0, hk, hv, hw⟩ := hm
  unfold f_M_wrong f_M_wrong_19 wr
  rw [if_pos (by first | decide | omega), if_pos (by first | decide | omega)]
  by_cases a : B 14 0 7 (F 14 0 16) = 1
  · rw [if_pos a, if_pos a, L_fail h h0]; rfl
  · rw [if_neg a, if_neg a, L_fail h h0]; rfl
theorem L_wrongB {K : Nat} {F : zF} {B : zB} {j : Int} (h : bad F) (hm : MX F B j) : f_M_wrong K F B = some (0, F, B) := by
  obtain ⟨rfl, h0, hk, hv, hw⟩ := hm
  unfold f_M_wrong f_M_wrong_19
  rw [if_pos (by first | decide | omega), if_pos (by first | decide | omega), L_failB h, L_failB h]
  by_cases a : B 14 0 7 (F 14 0 16) = 1
  · rw [if_pos a]; rfl
  · rw [if_neg a]; rfl
theorem L_need {K : Nat} {F : zF} {B : zB} {j c : Int} (h : F 14 0 17 = 0) (hm : MX F B j) (hc : r32 c) : f_M_need K c F B = if sgm B j c = 0 then some (0, errM F B (wr B j), B) else some (0, zup3 F 14 0 16 (j + 1), B) := by
  have s := sgm_r B j c
  unfold f_M_need f_M_need_33
  rw [L_good h]
  simp only [zb_s]
  rw [if_pos (by decide), if_neg (by decide), L_isSign hm hc]
  simp only [zb_s]
  rw [if_pos (by first | decide | omega), L_wrong h hm, hm.1]
  rfl
theorem L_needB {K : Nat} {F : zF} {B : zB} {c : Int} (h : bad F) : f_M_need K c F B = some (0, F, B) := by
  unfold f_M_need
  rw [L_goodB h]
  simp only [zb_s]
  rw [if_pos (by decide), if_pos (by decide)]
theorem L_opening {K : Nat} {F : zF} {B : zB} {j c : Int} (h : F 14 0 17 = 0) (hm : MX F B j) (hc : r32 c) (hd : 0 ≤ F 14 0 19 ∧ F 14 0 19 ≤ 8) : f_M_opening K c F B = if sgm B j c = 0 then some (0, errM F B (wr B j), B) else if F 14 0 19 = 8 then some (0, errM F B 3, B) else some (0, zup3 (zup3 F 14 0 19 (F 14 0 19 + 1)) 14 0 16 (j + 1), B) := by
  have s := sgm_r B j c
  unfold f_M_opening f_M_opening_60
  rw [L_good h]
  simp only [zb_s]
  rw [if_pos (by decide), if_neg (by decide), L_isSign hm hc]
  simp only [zb_s]
  have l3 := L_fail (K := K) (F := F) (B := B) (s := 3) h (by have := hm.1; have := hm.2.1; omega)
  rw [if_pos (by first | decide | omega)]
  by_cases a : sgm B j c = 0
  · rw [if_pos a, if_pos a, L_wrong h hm]; rfl
  · rw [if_neg a, if_neg a, if_pos (by first | decide | omega), l3, hm.1]; rfl
theorem L_openingB {K : Nat} {F : zF} {B : zB} {c : Int} (h : bad F) : f_M_opening K c F B = some (0, F, B) := by
  unfold f_M_opening
  rw [L_goodB h]
  simp only [zb_s]
  rw [if_pos (by decide), if_pos (by decide)]
theorem MX_row {F : zF} {B : zB} {j : Int} {k : Nat} {x v : Int} (h : MX F B j) (h7 : k ≠ 7) (h9 : k ≠ 9) (h11 : k ≠ 11) : MX F (zup4 B 14 0 k x v) j := by
  unfold MX at *
  simp only [zup4_v]
  rw [if_neg (fun z => h7 z.2.2.1.symm), if_neg (fun z => h9 z.2.2.1.symm), if_neg (fun z => h11 z.2.2.1.symm)]
  exact h
theorem L_closing {K : Nat} {F : zF} {B : zB} {j c fr : Int} (h : F 14 0 17 = 0) (hm : MX F B j) (hc : r32 c) (hf : 0 ≤ fr ∧ fr ≤ 3000) : f_M_closing K fr c F B = if sgm B j c = 0 then some (0, zup3 (errM F B (wr B j)) 14 0 19 (F 14 0 19 - 1), zup4 B 14 0 30 fr j) else some (0, zup3 (zup3 F 14 0 16 (j + 1)) 14 0 19 (F 14 0 19 - 1), zup4 B 14 0 30 fr j) := by
  have s := sgm_r B j c
  have e1 : sgm (zup4 B 14 0 30 fr j) j c = sgm B j c := by simp [sgm, zup4_v]
  have e2 : wr (zup4 B 14 0 30 fr j) j = wr B j := by simp [wr, zup4_v]
  have e3 : errM F (zup4 B 14 0 30 fr j) (wr B j) = errM F B (wr B j) := by simp [errM, zup4_v]
  have n := L_need (K := K) (c := c) h (MX_row (k := 30) (x := fr) (v := j) hm (by decide) (by decide) (by decide)) hc
  rw [e1, e2, e3] at n
  unfold f_M_closing
  rw [L_good h]
  simp only [zb_s]
  rw [if_pos (by decide), if_neg (by decide), if_pos (by first | decide | omega), hm.1, n]
  by_cases a : sgm B j c = 0
  · rw [if_pos a, if_pos a]
    simp only [zb_s]
    simp [errM, zup3_v]
  · rw [if_neg a, if_neg a]
    simp only [zb_s]
    simp [zup3_v]
theorem L_closingB {K : Nat} {F : zF} {B : zB} {c fr : Int} (h : bad F) : f_M_closing K fr c F B = some (0, F, B) := by
  unfold f_M_closing
  rw [L_goodB h]
  simp only [zb_s]
  rw [if_pos (by decide), if_pos (by decide)]
def nOK (v lo hi pw : Int) : Prop := lo ≤ v ∧ v ≤ hi ∧ (pw = 0 ∨ pw2 v)
theorem pw2_and : ∀ v : Fin 33, 1 ≤ v.val → (zand (v.val : Int) ((v.val : Int) - 1) = 0 ↔ pw2 (v.val : Int)) := by
  unfold pw2
  decide +kernel
theorem zand_r32 (a b : Int) : r32 (zand a b) := toI_r _
theorem L_number {K : Nat} {F : zF} {B : zB} {j lo hi pw : Int} (h : F 14 0 17 = 0) (hm : MX F B j) (hl : r32 lo) (hh : r32 hi) (hp : pw = 0 ∨ pw = 1 ∧ 1 ≤ lo ∧ hi ≤ 32) : (B 14 0 7 j = 3 → nOK (B 14 0 9 j) lo hi pw → f_M_number K lo hi pw F B = some (B 14 0 9 j, zup3 F 14 0 16 (j + 1), B)) ∧ (B 14 0 7 j = 3 → ¬ nOK (B 14 0 9 j) lo hi pw → f_M_number K lo hi pw F B = some (B 14 0 9 j, errM F B 5, B)) ∧ (¬ B 14 0 7 j = 3 → f_M_number K lo hi pw F B = some (0, errM F B (wr B j), B)) := by
  have w := L_wrong (K := K) h hm
  have f5 := L_fail (K := K) (F := F) (B := B) (s := 5) h (by have := hm.1; have := hm.2.1; omega)
  obtain ⟨rfl, h0, hk, hv, hw⟩ := hm
  unfold f_M_number f_M_number_65 f_M_number_73 f_M_number_83
  rw [L_good h]
  simp only [zb_s]
  rw [if_pos (by decide), if_neg (by decide), if_pos (by first | decide | omega), if_pos (by first | decide | omega), f5, w]
  simp only [zb_s]
  refine ⟨fun a n => ?_, fun a n => ?_, fun a => ?_⟩
  · have v := hv (Or.inr a)
    obtain ⟨n1, n2, n3⟩ := n
    rw [if_pos a, if_pos (by first | decide | omega), if_pos hl, if_neg (by first | decide | omega), if_pos hh, if_neg (by first | decide | omega), if_pos (by first | decide | omega)]
    rcases hp with rfl | ⟨rfl, p1, p2⟩
    · rw [if_pos rfl]
    · have b := pw2_and ⟨(B 14 0 9 (F 14 0 16)).toNat, (by first | decide | omega)⟩ (by show 1 ≤ (B 14 0 9 (F 14 0 16)).toNat; omega)
      rw [show (((⟨(B 14 0 9 (F 14 0 16)).toNat, (by first | decide | omega)⟩ : Fin 33).val : Nat) : Int) = B 14 0 9 (F 14 0 16) by show (((B 14 0 9 (F 14 0 16)).toNat : Nat) : Int) = _; omega] at b
      rw [if_neg (by decide), if_pos (zand_r32 _ _), if_pos (b.mpr (n3.resolve_left (by decide)))]
  · have v := hv (Or.inr a)
    rw [if_pos a, if_pos (by first | decide | omega), if_pos hl]
    by_cases n1 : B 14 0 9 (F 14 0 16) < lo
    · rw [if_pos n1]
    · rw [if_neg n1, if_pos hh]
      by_cases n2 : hi < B 14 0 9 (F 14 0 16)
      · rw [if_pos n2]
      · rw [if_neg n2, if_pos (by first | decide | omega)]
        rcases hp with rfl | ⟨rfl, p1, p2⟩
        · exact absurd ⟨(by first | decide | omega), (by first | decide | omega), Or.inl rfl⟩ n
        · have b := pw2_and ⟨(B 14 0 9 (F 14 0 16)).toNat, (by first | decide | omega)⟩ (by show 1 ≤ (B 14 0 9 (F 14 0 16)).toNat; omega)
          rw [show (((⟨(B 14 0 9 (F 14 0 16)).toNat, (by first | decide | omega)⟩ : Fin 33).val : Nat) : Int) = B 14 0 9 (F 14 0 16) by show (((B 14 0 9 (F 14 0 16)).toNat : Nat) : Int) = _; omega] at b
          rw [if_neg (by decide), if_pos (zand_r32 _ _), if_neg (fun z => n ⟨(by first | decide | omega), (by first | decide | omega), Or.inr (b.mp z)⟩)]
  · rw [if_neg a]
theorem L_numberB {K : Nat} {F : zF} {B : zB} {lo hi pw : Int} (h : bad F) : f_M_number K lo hi pw F B = some (0, F, B) := by
  unfold f_M_number
  rw [L_goodB h]
  simp only [zb_s]
  rw [if_pos (by decide), if_pos (by decide)]
def mkm (B : zB) (j : Int) : Int := if B 14 0 7 j = 5 then (if B 14 0 9 j = 126 then 1 else if B 14 0 9 j = 40 then 2 else if B 14 0 9 j = 41 then 4 else if B 14 0 9 j = 39 then 8 else if B 14 0 9 j = 94 then 16 else if B 14 0 9 j = 45 then 32 else if B 14 0 9 j = 37 then 64 else 0) else 0
theorem L_markHere {K : Nat} {F : zF} {B : zB} {j : Int} (hm : MX F B j) : f_M_markHere K F B = some (mkm B j, F, B) := by
  unfold f_M_markHere f_M_markHere_84
  have s126 := L_isSign (K := K) (c := 126) hm (by decide)
  have s40 := L_isSign (K := K) (c := 40) hm (by decide)
  have s41 := L_isSign (K := K) (c := 41) hm (by decide)
  have s39 := L_isSign (K := K) (c := 39) hm (by decide)
  have s94 := L_isSign (K := K) (c := 94) hm (by decide)
  have s45 := L_isSign (K := K) (c := 45) hm (by decide)
  have s37 := L_isSign (K := K) (c := 37) hm (by decide)
  simp only [zb_s, s126, s40, s41, s39, s94, s45, s37]
  unfold mkm sgm
  by_cases a : B 14 0 7 j = 5
  · simp only [a, true_and, if_true]
    by_cases b1 : B 14 0 9 j = 126
    · simp [b1] <;> decide
    · by_cases b2 : B 14 0 9 j = 40
      · simp [b2] <;> decide
      · by_cases b3 : B 14 0 9 j = 41
        · simp [b3] <;> decide
        · by_cases b4 : B 14 0 9 j = 39
          · simp [b4] <;> decide
          · by_cases b5 : B 14 0 9 j = 94
            · simp [b5] <;> decide
            · by_cases b6 : B 14 0 9 j = 45
              · simp [b6] <;> decide
              · by_cases b7 : B 14 0 9 j = 37
                · simp [b7] <;> decide
                · simp [b1, b2, b3, b4, b5, b6, b7] <;> decide
  · simp [a] <;> decide
end

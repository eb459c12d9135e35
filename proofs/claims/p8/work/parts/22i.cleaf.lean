section
/-! ===== the class's smallest steps over tokens, exactly ===== -/
theorem zcmp_0 {a b : Int} : zcmp a b = 0 ↔ a = b := by
  unfold zcmp
  split
  · exact ⟨fun z => (by first | decide | omega), fun z => (by first | decide | omega)⟩
  · split
    · exact ⟨fun _ => by assumption, fun _ => rfl⟩
    · exact ⟨fun z => (by first | decide | omega), fun z => by contradiction⟩
theorem zcmp_lt {a b : Int} : zcmp a b < 0 ↔ a < b := by
  unfold zcmp
  split
  · exact ⟨fun _ => by assumption, fun _ => by decide⟩
  · split
    · exact ⟨fun z => (by first | decide | omega), fun z => (by first | decide | omega)⟩
    · exact ⟨fun z => (by first | decide | omega), fun z => (by first | decide | omega)⟩
theorem zcmp_g {a b : Int} : 0 < zcmp a b ↔ b < a := by
  unfold zcmp
  split
  · exact ⟨fun z => (by first | decide | omega), fun z => (by first | decide | omega)⟩
  · split
    · exact ⟨fun z => (by first | decide | omega), fun z => (by first | decide | omega)⟩
    · exact ⟨fun _ => (by first | decide | omega), fun _ => by decide⟩
/-- what the class's parser stands on -/
def CX (K : zK) (F : zF) (B : zB) : Prop := 0 < K.2 3 ∧ 0 < K.2 10 ∧ F 3 0 11 = 0 ∧ (0 ≤ F 10 0 0 ∧ F 10 0 0 ≤ 5) ∧ (0 ≤ F 10 0 2 ∧ F 10 0 2 < 9223372036854775808) ∧ (0 ≤ F 10 0 8 ∧ F 10 0 8 < 3001) ∧ (∀ j, r32 (B 10 0 5 j)) ∧ 3002 ≤ K.1
def sgn (F : zF) (c : Int) : Int := if F 10 0 0 = 5 ∧ F 10 0 2 = c then 1 else 0
def wdn (F : zF) (c : Int) : Int := if F 10 0 0 = 4 ∧ F 10 0 2 = c then 1 else 0
theorem sgn_0 {F : zF} {c : Int} : sgn F c = 0 ↔ ¬ (F 10 0 0 = 5 ∧ F 10 0 2 = c) := by unfold sgn; split <;> simp_all
theorem wdn_0 {F : zF} {c : Int} : wdn F c = 0 ↔ ¬ (F 10 0 0 = 4 ∧ F 10 0 2 = c) := by unfold wdn; split <;> simp_all
theorem sgn_r (F : zF) (c : Int) : sgn F c = 0 ∨ sgn F c = 1 := by unfold sgn; split <;> simp
theorem wdn_r (F : zF) (c : Int) : wdn F c = 0 ∨ wdn F c = 1 := by unfold wdn; split <;> simp
theorem C_isSign {K : zK} {F : zF} {B : zB} {c : Int} (h : CX K F B) (hc : r32 c) : f_Tokens_isSign K 0 c F B = some (sgn F c, F, B) := by
  obtain ⟨k3, k10, e11, hk, hv, hx, h5, hK⟩ := h
  unfold f_Tokens_isSign f_Tokens_isSign_22 f_Tokens_isSign_23 sgn
  rw [if_pos ⟨(by first | decide | omega), k10⟩, if_pos (by first | decide | omega)]
  by_cases a : F 10 0 0 = 5
  · rw [if_pos a, if_pos hc, if_pos (by first | decide | omega), if_pos (by first | decide | omega)]
    by_cases b : F 10 0 2 = c
    · rw [if_pos (zcmp_0.mpr b), if_pos (by decide), if_pos ⟨a, b⟩]
    · rw [if_neg (fun z => b (zcmp_0.mp z)), if_pos (by decide), if_neg (fun z => b z.2)]
  · rw [if_neg a, if_pos (by decide), if_neg (fun z => a z.1)]
theorem C_isWord {K : zK} {F : zF} {B : zB} {c : Int} (h : CX K F B) (hc : r64 c) : f_Tokens_isWord K 0 c F B = some (wdn F c, F, B) := by
  obtain ⟨k3, k10, e11, hk, hv, hx, h5, hK⟩ := h
  unfold f_Tokens_isWord f_Tokens_isWord_21 f_Tokens_isWord_22 wdn
  rw [if_pos ⟨(by first | decide | omega), k10⟩, if_pos (by first | decide | omega)]
  by_cases a : F 10 0 0 = 4
  · rw [if_pos a, if_pos (by first | decide | omega), if_pos hc]
    by_cases b : F 10 0 2 = c
    · rw [if_pos (zcmp_0.mpr b), if_pos (by decide), if_pos ⟨a, b⟩]
    · rw [if_neg (fun z => b (zcmp_0.mp z)), if_pos (by decide), if_neg (fun z => b z.2)]
  · rw [if_neg a, if_pos (by decide), if_neg (fun z => a z.1)]
def refF (F : zF) (s : Int) : zF := zup3 F 3 0 21 ((if F 10 0 0 = 1 then 1 else s) + 16 * F 10 0 1)
theorem C_refuse {K : zK} {F : zF} {B : zB} {s : Int} (h : CX K F B) : f_Parser_refuse K 0 s F B = some (0, refF F s, B) := by
  obtain ⟨k3, k10, e11, hk, hv, hx, h5, hK⟩ := h
  unfold f_Parser_refuse f_Parser_refuse_17 refF
  rw [e11, if_pos ⟨(by first | decide | omega), k3⟩, if_pos ⟨(by first | decide | omega), k10⟩, if_pos (by first | decide | omega)]
  by_cases a : F 10 0 0 = 1
  · rw [if_pos a, if_pos ⟨(by first | decide | omega), k3⟩, if_pos ⟨(by first | decide | omega), k10⟩, if_pos ⟨(by first | decide | omega), k3⟩, if_pos a]
  · rw [if_neg a, if_pos ⟨(by first | decide | omega), k3⟩, if_pos ⟨(by first | decide | omega), k10⟩, if_pos ⟨(by first | decide | omega), k3⟩, if_neg a]
theorem C_adv {K : zK} {F : zF} {B : zB} (h : CX K F B) : f_Tokens_advance K 0 F B = some (0, advF F B, B) := by
  obtain ⟨k3, k10, e11, hk, hv, hx, h5, hK⟩ := h
  exact C_advance k10 hx.1 hx.2 (h5 _)
theorem CX_u {K : zK} {F : zF} {B : zB} {k : Nat} {v : Int} (h : CX K F B) (hk : k ≠ 11) : CX K (zup3 F 3 0 k v) B := by
  unfold CX at *
  simp only [zup3_v]
  rw [if_neg (fun z => hk z.2.2.symm)]
  simpa using h
theorem C_takeSign {K : zK} {F : zF} {B : zB} {c : Int} (h : CX K F B) (hc : r32 c) : f_Parser_takeSign K 0 c F B = if sgn F c = 0 then some (0, refF F 2, B) else some (1, advF F B, B) := by
  have s := sgn_r F c
  have i := C_isSign h hc
  have r := C_refuse (s := 2) h
  have a := C_adv h
  obtain ⟨k3, k10, e11, hk, hv, hx, h5, hK⟩ := h
  unfold f_Parser_takeSign
  rw [e11, if_pos ⟨(by first | decide | omega), k3⟩, if_pos ⟨(by first | decide | omega), k10⟩, i]
  simp only [zb_s]
  rw [if_pos (by first | decide | omega)]
  by_cases z : sgn F c = 0
  · rw [if_pos z, if_pos z, r]
    rfl
  · rw [if_neg z, if_neg z, e11, if_pos ⟨(by first | decide | omega), k10⟩, a]
    rfl
theorem C_takeClosing {K : zK} {F : zF} {B : zB} {c : Int} (h : CX K F B) (hc : r32 c) : f_Parser_takeClosing K 0 c F B = if sgn F c = 0 then some (0, refF (zup3 F 3 0 18 (F 3 0 18 - 1)) 2, B) else some (1, advF (zup3 F 3 0 18 (F 3 0 18 - 1)) B, B) := by
  have i := C_takeSign (CX_u (k := 18) (v := F 3 0 18 - 1) h (by decide)) hc
  have e : sgn (zup3 F 3 0 18 (F 3 0 18 - 1)) c = sgn F c := by simp [sgn, zup3_v]
  rw [e] at i
  unfold f_Parser_takeClosing
  rw [if_pos ⟨(by first | decide | omega), h.1⟩, i]
  by_cases z : sgn F c = 0
  · rw [if_pos z]; rfl
  · rw [if_neg z]; rfl
theorem C_takeOpening {K : zK} {F : zF} {B : zB} {c : Int} (h : CX K F B) (hc : r32 c) (hd : 0 ≤ F 3 0 18 ∧ F 3 0 18 ≤ 8) : f_Parser_takeOpening K 0 c F B = if sgn F c = 0 then some (0, refF F 2, B) else if F 3 0 18 = 8 then some (0, refF F 3, B) else some (1, advF (zup3 F 3 0 18 (F 3 0 18 + 1)) B, B) := by
  have s := sgn_r F c
  have i := C_isSign h hc
  have r := C_refuse (s := 2) h
  have r3 := C_refuse (s := 3) h
  have a := C_adv (CX_u (k := 18) (v := F 3 0 18 + 1) h (by decide))
  obtain ⟨k3, k10, e11, hk, hv, hx, h5, hK⟩ := h
  unfold f_Parser_takeOpening
  rw [e11, if_pos ⟨(by first | decide | omega), k3⟩, if_pos ⟨(by first | decide | omega), k10⟩, i]
  simp only [zb_s]
  rw [if_pos (by first | decide | omega)]
  by_cases z : sgn F c = 0
  · rw [if_pos z, if_pos z, r]
    rfl
  · rw [if_neg z, if_neg z, if_pos (by first | decide | omega)]
    by_cases y : F 3 0 18 = 8
    · rw [if_neg (by first | decide | omega), if_pos y, r3]; rfl
    · rw [if_pos (by first | decide | omega), if_neg y, e11, if_pos ⟨(by first | decide | omega), k10⟩, a]; rfl
/-- is a number a power of two, as bits count -/
def pw2 (v : Int) : Prop := v = 1 ∨ v = 2 ∨ v = 4 ∨ v = 8 ∨ v = 16 ∨ v = 32
theorem bitC {K : zK} {F : zF} {B : zB} : ∀ v : Fin 33, ∃ r, f_Long_bitCount K (v.val : Int) F B = some (r, F, B) ∧ r32 r ∧ (r = 1 ↔ pw2 (v.val : Int)) := by
  intro v
  unfold f_Long_bitCount
  refine ⟨_, rfl, ?_⟩
  revert v
  unfold pw2 r32
  decide +kernel
end

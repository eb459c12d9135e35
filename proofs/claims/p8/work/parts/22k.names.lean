section
/-! ===== words in tables ===== -/
def fiL : List Int → Int → Int → Int
  | [], _, _ => -1
  | a :: L, w, k => if a = w then k else fiL L w (k + 1)
theorem fiL_r {w : Int} : ∀ {L : List Int} {k : Int}, 0 ≤ k → (fiL L w k = -1 ∧ w ∉ L) ∨ (k ≤ fiL L w k ∧ fiL L w k < k + L.length ∧ w ∈ L) := by
  intro L
  induction L with
  | nil => intro k _; exact Or.inl ⟨rfl, by simp⟩
  | cons a L ih =>
    intro k hk
    unfold fiL
    by_cases h : a = w
    · rw [if_pos h]
      refine Or.inr ⟨Int.le_refl _, by rw [List.length_cons]; omega, by rw [h]; simp⟩
    · rw [if_neg h]
      rcases ih (k := k + 1) (by first | decide | omega) with ⟨x, y⟩ | ⟨x, y, z⟩
      · exact Or.inl ⟨x, by simp only [List.mem_cons, not_or]; exact ⟨fun q => h q.symm, y⟩⟩
      · exact Or.inr ⟨(by first | decide | omega), by rw [List.length_cons]; omega, by simp only [List.mem_cons]; exact Or.inr z⟩
theorem fiL_n {w : Int} {L : List Int} : fiL L w 0 = -1 ↔ w ∉ L := by
  rcases fiL_r (w := w) (L := L) (k := 0) (by first | decide | omega) with ⟨x, y⟩ | ⟨x, y, z⟩
  · exact ⟨fun _ => y, fun _ => x⟩
  · exact ⟨fun q => (by first | decide | omega), fun q => absurd z q⟩
theorem fiL_b {w : Int} {L : List Int} : -1 ≤ fiL L w 0 ∧ fiL L w 0 < L.length + 1 := by
  rcases fiL_r (w := w) (L := L) (k := 0) (by first | decide | omega) with ⟨x, y⟩ | ⟨x, y, z⟩ <;> omega
def wC : List Int := [128034676042853, 1650553715, 1634497647, 499917942642]
def wL : List Int := [7368816, 28784, 112, 28016, 28006, 102, 26214, 6710886]
def wB : List Int := [125780002955636, 7697253, 1836021349, 120299659095922, 1650549611, 1936486263]
def wO : List Int := [7038329, 469785800562, 469920280434, 1953066341, 499917877359, 7103860, 508675318629, 6384756, 114]
def wM : List Int := [7038329, 469785800562, 469920280434, 1953066341, 499917877359, 7103860, 508675318629, 125780002955636, 6384756, 7697253, 1836021349, 120299659095922, 1650549611, 1936486263, 114]
theorem wM_m {w : Int} : w ∉ wM ↔ w ∉ wB ∧ w ∉ wO := by
  unfold wM wB wO
  simp only [List.mem_cons, List.not_mem_nil, or_false, not_or]
  constructor
  · rintro ⟨a, b, c, d, e, f, g, h, i, j, k, l, m, n, o⟩
    exact ⟨⟨h, j, k, l, m, n⟩, a, b, c, d, e, f, g, i, o⟩
  · rintro ⟨⟨h, j, k, l, m, n⟩, a, b, c, d, e, f, g, i, o⟩
    exact ⟨a, b, c, d, e, f, g, h, i, j, k, l, m, n, o⟩
def nmC (w : Int) : Prop := w ∉ wC ∧ w ∉ wL ∧ w ∉ wB ∧ w ∉ wO
theorem C_ix {K : zK} {s : Nat} {w : Int} {F : zF} {B : zB} (h : s < staL.length) (hb : (zta s).2.2.2.1 = true) (hl : ztl s ≤ 100) (hr : ∀ k, r64 (ztv s k)) (hw : r64 w) : ∀ {n : Nat} {k : Nat}, k ≤ (zta s).2.2.2.2.length → (zta s).2.2.2.2.length < n + k → f_Parser_indexOf_2 K n (k : Int) s w F B = some (fiL ((zta s).2.2.2.2.drop k) w k, F, B) := by
  intro n
  induction n with
  | zero => intro k a b; omega
  | succ n ih =>
    intro k a b
    unfold ztl at hl
    unfold f_Parser_indexOf_2
    rw [if_pos h, if_pos (by first | decide | omega), show ztl s = ((zta s).2.2.2.2.length : Int) from rfl, if_pos (by first | decide | omega)]
    by_cases e : k = (zta s).2.2.2.2.length
    · rw [if_pos (by first | decide | omega), e, List.drop_length]; rfl
    · have hk : k < (zta s).2.2.2.2.length := by omega
      rw [if_neg (by first | decide | omega), if_pos hb, if_pos (by first | decide | omega), if_pos (hr _), if_pos hw, List.drop_eq_getElem_cons hk]
      have hv : ztv s (k : Int) = (zta s).2.2.2.2[k] := by
        unfold ztv
        rw [show ((k : Int)).toNat = k by omega, List.getD_eq_getElem?_getD, List.getElem?_eq_getElem hk]; rfl
      unfold fiL
      by_cases q : ztv s (k : Int) = w
      · rw [if_pos (zcmp_0.mpr q), if_pos (hv ▸ q)]
      · rw [if_neg (fun z => q (zcmp_0.mp z)), if_neg (fun z => q (hv.trans z))]
        exact ih (k := k + 1) (by first | decide | omega) (by first | decide | omega)
theorem C_index {K : zK} {s : Nat} {w : Int} {F : zF} {B : zB} {L : List Int} (hK : 3002 ≤ K.1) (h : s < staL.length) (hb : (zta s).2.2.2.1 = true) (hL : (zta s).2.2.2.2 = L) (hl : L.length ≤ 100) (hr : ∀ x ∈ L, r64 x) (hw : r64 w) : f_Parser_indexOf K s w F B = some (fiL L w 0, F, B) := by
  have hr' : ∀ k, r64 (ztv s k) := by
    intro k
    unfold ztv
    rw [hL, List.getD_eq_getElem?_getD]
    cases e : L[k.toNat]? with
    | none => exact ⟨by decide, by decide⟩
    | some x => exact hr x (List.mem_of_getElem? e)
  have i := C_ix (K := K) (F := F) (B := B) h hb (by unfold ztl; rw [hL]; omega) hr' hw (n := K.1) (k := 0) (by first | decide | omega) (by rw [hL]; omega)
  unfold f_Parser_indexOf
  rw [show (0 : Int) = ((0 : Nat) : Int) from rfl, i, List.drop_zero, hL]
theorem C_ixC {K : zK} {w : Int} {F : zF} {B : zB} (hK : 3002 ≤ K.1) (hw : r64 w) : f_Parser_indexOf K 0 w F B = some (fiL wC w 0, F, B) := C_index hK (by decide) (by decide) (by decide) (by decide) (by decide) hw
theorem C_ixL {K : zK} {w : Int} {F : zF} {B : zB} (hK : 3002 ≤ K.1) (hw : r64 w) : f_Parser_indexOf K 1 w F B = some (fiL wL w 0, F, B) := C_index hK (by decide) (by decide) (by decide) (by decide) (by decide) hw
theorem C_ixB {K : zK} {w : Int} {F : zF} {B : zB} (hK : 3002 ≤ K.1) (hw : r64 w) : f_Parser_indexOf K 2 w F B = some (fiL wB w 0, F, B) := C_index hK (by decide) (by decide) (by decide) (by decide) (by decide) hw
theorem C_ixO {K : zK} {w : Int} {F : zF} {B : zB} (hK : 3002 ≤ K.1) (hw : r64 w) : f_Parser_indexOf K 3 w F B = some (fiL wO w 0, F, B) := C_index hK (by decide) (by decide) (by decide) (by decide) (by decide) hw
noncomputable def nmF (k w : Int) : Int := by
  classical
  exact if k = 4 ∧ nmC w then 1 else 0
theorem nmF_1 {k w : Int} (h : k = 4 ∧ nmC w) : nmF k w = 1 := by unfold nmF; rw [if_pos h]
theorem nmF_0 {k w : Int} (h : ¬ (k = 4 ∧ nmC w)) : nmF k w = 0 := by unfold nmF; rw [if_neg h]
theorem C_isName {K : zK} {F : zF} {B : zB} (h : CX K F B) : f_Parser_isName K 0 F B = some (nmF (F 10 0 0) (F 10 0 2), F, B) := by
  obtain ⟨k3, k10, e11, hk, hv, hx, h5, hK⟩ := h
  have bC := fiL_b (w := F 10 0 2) (L := wC)
  have bL := fiL_b (w := F 10 0 2) (L := wL)
  have bB := fiL_b (w := F 10 0 2) (L := wB)
  have bO := fiL_b (w := F 10 0 2) (L := wO)
  have lC : wC.length = 4 := rfl
  have lL : wL.length = 8 := rfl
  have lB : wB.length = 6 := rfl
  have lO : wO.length = 9 := rfl
  unfold f_Parser_isName f_Parser_isName_67 f_Parser_isName_68
  rw [e11, if_pos ⟨(by first | decide | omega), k3⟩, if_pos ⟨(by first | decide | omega), k10⟩, if_pos (by first | decide | omega)]
  by_cases a : F 10 0 0 = 4
  · rw [if_pos a, C_ixC hK (by first | decide | omega)]
    simp only [zb_s]
    rw [if_pos (by first | decide | omega)]
    by_cases nC : fiL wC (F 10 0 2) 0 = -1
    · rw [if_pos nC, C_ixL hK (by first | decide | omega)]
      simp only [zb_s]
      rw [if_pos (by first | decide | omega)]
      by_cases nL : fiL wL (F 10 0 2) 0 = -1
      · rw [if_pos nL, C_ixB hK (by first | decide | omega)]
        simp only [zb_s]
        rw [if_pos (by first | decide | omega)]
        by_cases nB : fiL wB (F 10 0 2) 0 = -1
        · rw [if_pos nB, C_ixO hK (by first | decide | omega)]
          simp only [zb_s]
          rw [if_pos (by first | decide | omega)]
          by_cases nO : fiL wO (F 10 0 2) 0 = -1
          · rw [if_pos nO, if_pos (by decide), nmF_1 ⟨a, fiL_n.mp nC, fiL_n.mp nL, fiL_n.mp nB, fiL_n.mp nO⟩]
          · rw [if_neg nO, if_pos (by decide), nmF_0 (fun z => nO (fiL_n.mpr z.2.2.2.2))]
        · rw [if_neg nB, if_pos (by decide), nmF_0 (fun z => nB (fiL_n.mpr z.2.2.2.1))]
      · rw [if_neg nL, if_pos (by decide), nmF_0 (fun z => nL (fiL_n.mpr z.2.2.1))]
    · rw [if_neg nC, if_pos (by decide), nmF_0 (fun z => nC (fiL_n.mpr z.2.1))]
  · rw [if_neg a, if_pos (by decide), nmF_0 (fun z => a z.1)]
/-- the place of a word in the first m of a row, -1 if it isn't there -/
def fdR (row : Int → Int) (m w : Int) : Nat → Int → Int
  | 0, _ => -1
  | f + 1, k => if m ≤ k then -1 else if row k = w then k else fdR row m w f (k + 1)
theorem fdR_f {row : Int → Int} {m w : Int} : ∀ {f g : Nat} {k : Int}, m - k < f → m - k < g → 0 < f → 0 < g → fdR row m w f k = fdR row m w g k := by
  intro f
  induction f with
  | zero => intro g k _ _ h _; omega
  | succ f ih =>
    intro g k a b _ d
    obtain ⟨g, rfl⟩ : ∃ x, g = x + 1 := ⟨g - 1, (by first | decide | omega)⟩
    unfold fdR
    by_cases h : m ≤ k
    · rw [if_pos h, if_pos h]
    · rw [if_neg h, if_neg h]
      by_cases q : row k = w
      · rw [if_pos q, if_pos q]
      · rw [if_neg q, if_neg q]
        exact ih (by first | decide | omega) (by first | decide | omega) (by first | decide | omega) (by first | decide | omega)
theorem fdR_r {row : Int → Int} {m w : Int} : ∀ {f : Nat} {k : Int}, 0 ≤ k → fdR row m w f k = -1 ∨ (k ≤ fdR row m w f k ∧ fdR row m w f k < m ∧ row (fdR row m w f k) = w) := by
  intro f
  induction f with
  | zero => intro k _; exact Or.inl rfl
  | succ f ih =>
    intro k h0
    unfold fdR
    by_cases h : m ≤ k
    · rw [if_pos h]; exact Or.inl rfl
    · rw [if_neg h]
      by_cases q : row k = w
      · rw [if_pos q]; exact Or.inr ⟨Int.le_refl _, (by first | decide | omega), q⟩
      · rw [if_neg q]
        rcases ih (k := k + 1) (by first | decide | omega) with x | x
        · exact Or.inl x
        · exact Or.inr ⟨(by first | decide | omega), x.2⟩
theorem fdR_c {row row' : Int → Int} {m w : Int} : ∀ {f : Nat} {k : Int}, (∀ x, k ≤ x → x < m → row x = row' x) → fdR row m w f k = fdR row' m w f k := by
  intro f
  induction f with
  | zero => intro k _; rfl
  | succ f ih =>
    intro k h
    unfold fdR
    by_cases a : m ≤ k
    · rw [if_pos a, if_pos a]
    · rw [if_neg a, if_neg a, h k (by first | decide | omega) (by first | decide | omega), ih (fun x p q => h x (by first | decide | omega) q)]
def rowIs (row : Int → Int) : List Int → Int → Prop
  | [], _ => True
  | a :: L, k => row k = a ∧ rowIs row L (k + 1)
theorem fdR_L {row : Int → Int} {m w : Int} : ∀ {L : List Int} {f : Nat} {k : Int}, rowIs row L k → m = k + L.length → L.length < f → fdR row m w f k = fiL L w k := by
  intro L
  induction L with
  | nil =>
    intro f k _ hm hf
    obtain ⟨f, rfl⟩ : ∃ x, f = x + 1 := ⟨f - 1, by rw [List.length_nil] at hf; omega⟩
    unfold fdR fiL
    rw [if_pos (by rw [hm, List.length_nil]; omega)]
  | cons a L ih =>
    intro f k hr hm hf
    rw [List.length_cons] at hm hf
    obtain ⟨f, rfl⟩ : ∃ x, f = x + 1 := ⟨f - 1, (by first | decide | omega)⟩
    unfold fdR fiL
    rw [if_neg (by first | decide | omega), hr.1, ih hr.2 (by first | decide | omega) (by first | decide | omega)]
theorem L_fd {K : Nat} {c : Nat} {i : Int} {k : Nat} {m w : Int} {F : zF} {B : zB} (hi : 0 ≤ i ∧ i < nM c) (hl : m ≤ (lnM c i k : Int)) (hl2 : lnM c i k ≤ 2147483647) (hz : zk c k = (3, 1)) (hm : 0 ≤ m ∧ m ≤ 1000) (hr : ∀ x, 0 ≤ x → x < m → r64 (B c i k x)) (hw : r64 w) : ∀ {n : Nat} {x : Int}, 0 ≤ x → x ≤ m → m - x < n → f_M_find_3 K n x c i k m w F B = some (fdR (B c i k) m w n x, F, B) := by
  intro n
  induction n with
  | zero => intro x _ _ h; omega
  | succ n ih =>
    intro x a b d
    unfold f_M_find_3 fdR
    rw [if_pos (by first | decide | omega), if_pos (by first | decide | omega)]
    by_cases h : m ≤ x
    · rw [if_pos h, if_pos h]
    · rw [if_neg h, if_neg h, if_pos hi, if_pos (by first | decide | omega), if_pos hz, if_pos hl2, if_pos (hr x a (by first | decide | omega)), if_pos hw]
      by_cases q : B c i k x = w
      · rw [if_pos (zcmp_0.mpr q), if_pos q]
      · rw [if_neg (fun z => q (zcmp_0.mp z)), if_neg q]
        exact ih (by first | decide | omega) (by first | decide | omega) (by first | decide | omega)
theorem L_find {K : Nat} {c : Nat} {i : Int} {k : Nat} {m w : Int} {F : zF} {B : zB} (hK : 3002 ≤ K) (hi : 0 ≤ i ∧ i < nM c) (hl : m ≤ (lnM c i k : Int)) (hl2 : lnM c i k ≤ 2147483647) (hz : zk c k = (3, 1)) (hm : 0 ≤ m ∧ m ≤ 20) (hr : ∀ x, 0 ≤ x → x < m → r64 (B c i k x)) (hw : r64 w) : f_M_find K c i k m w F B = some (fdR (B c i k) m w 22 0, F, B) := by
  unfold f_M_find
  rw [L_fd hi hl hl2 hz (by first | decide | omega) hr hw (by first | decide | omega) (by first | decide | omega) (by first | decide | omega), fdR_f (f := K) (g := 22) (by first | decide | omega) (by first | decide | omega) (by first | decide | omega) (by first | decide | omega)]
/-- the reference's words -/
def MW (B : zB) : Prop := rowIs (B 14 0 13) wC 0 ∧ rowIs (B 14 0 14) wL 0 ∧ rowIs (B 14 0 15) wM 0
theorem rowIs_r {row : Int → Int} : ∀ {L : List Int} {k : Int}, rowIs row L k → (∀ x ∈ L, r64 x) → ∀ x, k ≤ x → x < k + L.length → r64 (row x) := by
  intro L
  induction L with
  | nil => intro k _ _ x a b; rw [List.length_nil] at b; omega
  | cons a L ih =>
    intro k h hr x p q
    rw [List.length_cons] at q
    by_cases e : x = k
    · rw [e, h.1]; exact hr a (by simp)
    · exact ih h.2 (fun y hy => hr y (by simp [hy])) x (by first | decide | omega) (by first | decide | omega)
theorem L_fC {K : Nat} {w : Int} {F : zF} {B : zB} (hK : 3002 ≤ K) (h : MW B) (hw : r64 w) : f_M_find K 14 0 13 4 w F B = some (fiL wC w 0, F, B) := by
  rw [L_find hK (by decide) (by decide) (by decide) (by decide) (by decide) (fun x a b => rowIs_r h.1 (by decide) x a (by rw [show wC.length = 4 from rfl]; omega)) hw, fdR_L h.1 (by decide) (by decide)]
theorem L_fL {K : Nat} {w : Int} {F : zF} {B : zB} (hK : 3002 ≤ K) (h : MW B) (hw : r64 w) : f_M_find K 14 0 14 8 w F B = some (fiL wL w 0, F, B) := by
  rw [L_find hK (by decide) (by decide) (by decide) (by decide) (by decide) (fun x a b => rowIs_r h.2.1 (by decide) x a (by rw [show wL.length = 8 from rfl]; omega)) hw, fdR_L h.2.1 (by decide) (by decide)]
theorem L_fM {K : Nat} {w : Int} {F : zF} {B : zB} (hK : 3002 ≤ K) (h : MW B) (hw : r64 w) : f_M_find K 14 0 15 15 w F B = some (fiL wM w 0, F, B) := by
  rw [L_find hK (by decide) (by decide) (by decide) (by decide) (by decide) (fun x a b => rowIs_r h.2.2 (by decide) x a (by rw [show wM.length = 15 from rfl]; omega)) hw, fdR_L h.2.2 (by decide) (by decide)]
theorem L_isName {K : Nat} {F : zF} {B : zB} {j : Int} (hK : 3002 ≤ K) (hm : MX F B j) (hW : MW B) : f_M_isName K F B = some (nmF (B 14 0 7 j) (B 14 0 11 j), F, B) := by
  obtain ⟨rfl, h0, hk, hv, hw⟩ := hm
  have bC := fiL_b (w := B 14 0 11 (F 14 0 16)) (L := wC)
  have bL := fiL_b (w := B 14 0 11 (F 14 0 16)) (L := wL)
  have bM := fiL_b (w := B 14 0 11 (F 14 0 16)) (L := wM)
  have lC : wC.length = 4 := rfl
  have lL : wL.length = 8 := rfl
  have lM : wM.length = 15 := rfl
  unfold f_M_isName f_M_isName_79 f_M_isName_80
  rw [if_pos (by first | decide | omega), if_pos (by first | decide | omega)]
  by_cases a : B 14 0 7 (F 14 0 16) = 4
  · have w4 := hw a
    rw [if_pos a, L_fM hK hW (by first | decide | omega)]
    simp only [zb_s]
    rw [if_pos (by first | decide | omega)]
    by_cases nM : fiL wM (B 14 0 11 (F 14 0 16)) 0 = -1
    · rw [if_neg (by first | decide | omega), if_pos (by first | decide | omega), L_fC hK hW (by first | decide | omega)]
      simp only [zb_s]
      rw [if_pos (by first | decide | omega)]
      by_cases nC : fiL wC (B 14 0 11 (F 14 0 16)) 0 = -1
      · rw [if_neg (by first | decide | omega), if_pos (by first | decide | omega), L_fL hK hW (by first | decide | omega)]
        simp only [zb_s]
        rw [if_pos (by first | decide | omega)]
        by_cases nL : fiL wL (B 14 0 11 (F 14 0 16)) 0 = -1
        · have z := wM_m.mp (fiL_n.mp nM)
          rw [if_neg (by first | decide | omega), if_pos (by decide), nmF_1 ⟨a, fiL_n.mp nC, fiL_n.mp nL, z.1, z.2⟩]
        · rw [if_pos (by first | decide | omega), if_pos (by decide), nmF_0 (fun z => nL (fiL_n.mpr z.2.2.1))]
      · rw [if_pos (by first | decide | omega), if_pos (by decide), nmF_0 (fun z => nC (fiL_n.mpr z.2.1))]
    · rw [if_pos (by first | decide | omega), if_pos (by decide), nmF_0 (fun z => nM (fiL_n.mpr (wM_m.mpr ⟨z.2.2.2.1, z.2.2.2.2⟩)))]
  · rw [if_neg a, if_pos (by decide), nmF_0 (fun z => a z.1)]
end

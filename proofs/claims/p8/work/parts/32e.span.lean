section
/-! ===== the text of a span ===== -/
def spT (n d b m : Int) (st al : Int → Int) : Nat → Int → Int → List Int
  | 0, _, _ => []
  | f + 1, a, e => if a < e then ntA m st al (kvF n d b a e) ++ ((if nxF n d b a e < e ∧ ¬ m = 0 then [126] else []) ++ (32 :: ((if nxF n d b a e % b = 0 then [124, 10] else []) ++ spT n d b m st al f (nxF n d b a e) e))) else []
theorem spT_i {n d b m : Int} {st al : Int → Int} (h : BRs n d b) {e : Int} (he : e % sdU d = 0) : ∀ (f f' : Nat) (a : Int), 0 ≤ a → a % sdU d = 0 → e - a ≤ sdU d * f → e - a ≤ sdU d * f' → spT n d b m st al f a e = spT n d b m st al f' a e := by
  have s0 := (BRs_b h).2.2.2.2.1
  intro f
  induction f with
  | zero =>
    intro f' a a0 ha h1 h2
    have : ¬ a < e := by simp at h1; omega
    cases f' with
    | zero => rfl
    | succ f' => rw [spT, spT, if_neg this]
  | succ f ih =>
    intro f' a a0 ha h1 h2
    by_cases z : a < e
    · cases f' with
      | zero => simp at h2; omega
      | succ f' =>
        obtain ⟨_, n1, n2, n3, _⟩ := nx_b h a0 z ha he
        have e1 : sdU d * ((f + 1 : Nat) : Int) = sdU d * f + sdU d := by rw [show ((f + 1 : Nat) : Int) = (f : Int) + 1 by omega, Int.mul_add, Int.mul_one]
        have e2 : sdU d * ((f' + 1 : Nat) : Int) = sdU d * f' + sdU d := by rw [show ((f' + 1 : Nat) : Int) = (f' : Int) + 1 by omega, Int.mul_add, Int.mul_one]
        rw [spT, spT, if_pos z, if_pos z, ih f' (nxF n d b a e) (by first | decide | omega) n3 (by first | decide | omega) (by first | decide | omega)]
    · cases f' with
      | zero => rw [spT, spT, if_neg z]
      | succ f' => rw [spT, spT, if_neg z, if_neg z]
/-- the text of a span -/
def spX (n d b m : Int) (st al : Int → Int) (a e : Int) : List Int := spT n d b m st al (e - a).toNat a e
theorem spX_0 {n d b m a e : Int} {st al : Int → Int} (h : ¬ a < e) : spX n d b m st al a e = [] := by
  unfold spX
  rw [show (e - a).toNat = 0 by omega, spT]
theorem spX_u {n d b m a e : Int} {st al : Int → Int} (h : BRs n d b) (a0 : 0 ≤ a) (ha : a % sdU d = 0) (he : e % sdU d = 0) (z : a < e) : spX n d b m st al a e = ntA m st al (kvF n d b a e) ++ ((if nxF n d b a e < e ∧ ¬ m = 0 then [126] else []) ++ (32 :: ((if nxF n d b a e % b = 0 then [124, 10] else []) ++ spX n d b m st al (nxF n d b a e) e))) := by
  have s0 := (BRs_b h).2.2.2.2.1
  have sd : sdU d = 16 ∨ sdU d = 4 := by unfold sdU; split <;> omega
  obtain ⟨_, n1, n2, n3, _⟩ := nx_b h a0 z ha he
  unfold spX
  obtain ⟨f, hf⟩ : ∃ f, (e - a).toNat = f + 1 := ⟨(e - a).toNat - 1, (by first | decide | omega)⟩
  rw [hf, spT, if_pos z, spT_i (m := m) (st := st) (al := al) h he f (e - nxF n d b a e).toNat (nxF n d b a e) (by first | decide | omega) n3 (by rcases sd with g | g <;> rw [g] at n1 ⊢ <;> omega) (by rcases sd with g | g <;> rw [g] <;> omega)]
/-- what the scribe stands on while it writes: the page, the bar, the file's heads -/
def SCq (K : zK) (o n d b : Int) (q : zF × zB) : Prop := (q.1 7 0 0 = o ∧ 0 ≤ o ∧ o < K.2 8) ∧ q.1 7 0 1 = 1 ∧ q.1 7 0 3 = b ∧ q.1 7 0 4 = 0 ∧ q.2 8 o 0 4 = n ∧ q.2 8 o 0 5 = d
def EVq (m : Int) (st al : Int → Int) (q : zF × zB) : Prop := q.1 1 0 10 = m ∧ (0 ≤ m ∧ m ≤ 6) ∧ (∀ k, 0 ≤ k → k < m → q.2 1 0 12 k = st k ∧ q.2 1 0 13 k = al k ∧ (0 ≤ st k ∧ st k ≤ 62) ∧ (-7 ≤ al k ∧ al k ≤ 7))
def KKq (K : zK) : Prop := 2 ≤ K.2 0 ∧ 0 < K.2 7 ∧ 0 < K.2 1 ∧ 60000 ≤ K.1
theorem C_sp {K : zK} {q : zF × zB} {o n d b m e : Int} {st al : Int → Int} (hK : KKq K) (h : BRs n d b) (hq : SCq K o n d b q) (hv : EVq m st al q) (he : e % sdU d = 0) (e1 : 0 ≤ e ∧ e ≤ 400000) : ∀ (f m1 : Nat) (cnt a : Int) (T : List Int) (F : zF) (B : zB), 0 ≤ a → a ≤ 400000 → a % sdU d = 0 → e - a ≤ sdU d * f → 0 ≤ cnt → cnt + f ≤ 51199 → f < m1 → TC q T F B → ∃ F' B', f_Scribe_writeSpan_5 K m1 cnt a 0 e F B = some (0, F', B') ∧ TC q (T ++ spT n d b m st al f a e) F' B' := by
  obtain ⟨k0, k7, k1, kf⟩ := hK
  obtain ⟨⟨q0, o0⟩, q1, q3, q4, p4, p5⟩ := hq
  obtain ⟨b1, b2, b3, _, b5, _⟩ := BRs_b h
  intro f
  induction f with
  | zero =>
    intro m1 cnt a T F B a0 a1 ha hf c0 cl hm w
    obtain ⟨p, rfl⟩ : ∃ p, m1 = p + 1 := ⟨m1 - 1, (by first | decide | omega)⟩
    have z : ¬ a < e := by simp at hf; omega
    refine ⟨F, B, ?_, by rw [spT, List.append_nil]; exact w⟩
    rw [f_Scribe_writeSpan_5, if_pos (by unfold r32; omega), if_neg (by first | decide | omega), if_pos (by unfold r32; omega), if_pos (by unfold r32; omega), if_pos (by first | decide | omega), f_Scribe_writeSpan_122]
  | succ f ih =>
    intro m1 cnt a T F B a0 a1 ha hf c0 cl hm w
    obtain ⟨p, rfl⟩ : ∃ p, m1 = p + 1 := ⟨m1 - 1, (by first | decide | omega)⟩
    by_cases z : a < e
    · obtain ⟨kb, n1, n2, n3, _⟩ := nx_b h a0 z ha he
      have f3 : F 7 0 3 = b := by rw [w.2.1 7 0 3 (by first | decide | omega)]; exact q3
      have f0 : F 7 0 0 = o := by rw [w.2.1 7 0 0 (by first | decide | omega)]; exact q0
      have zr : ∀ x, 0 ≤ x → x ≤ 400000 → zrm x b = x % b := fun x x0 x1 => zrm_e x0 (by unfold r32; omega) (by first | decide | omega) (by unfold r32; omega)
      have m0 := Int.emod_nonneg a (show b ≠ 0 by omega)
      have m2 := Int.emod_lt_of_pos a (show 0 < b by omega)
      have zm : 0 ≤ zmin (e - a) (b - a % b) ∧ zmin (e - a) (b - a % b) ≤ b := by unfold zmin; split <;> omega
      have m3 := Int.emod_nonneg (nxF n d b a e) (show b ≠ 0 by omega)
      have m4 := Int.emod_lt_of_pos (nxF n d b a e) (show 0 < b by omega)
      obtain ⟨F1, B1, e1', w1⟩ := C_wn (g := if e ≤ nxF n d b a e then 0 else 1) k0 k7 k1 (by first | decide | omega) q1 q4 hv.1 hv.2.1 hv.2.2 kb (by split <;> omega) w
      have g3 : F1 7 0 3 = b := by rw [w1.2.1 7 0 3 (by first | decide | omega)]; exact q3
      have g1 : F1 7 0 1 = 1 := by rw [w1.2.1 7 0 1 (by first | decide | omega)]; exact q1
      have ti : (if (if e ≤ nxF n d b a e then (0 : Int) else 1) = 1 ∧ ¬ m = 0 then [(126 : Int)] else []) = (if nxF n d b a e < e ∧ ¬ m = 0 then [126] else []) := by
        by_cases y : e ≤ nxF n d b a e
        · rw [if_pos y, if_neg (show ¬ ((0 : Int) = 1 ∧ _) from fun c => by have := c.1; omega), if_neg (show ¬ (nxF n d b a e < e ∧ _) from fun c => by have := c.1; omega)]
        · rw [if_neg y]
          by_cases u : m = 0
          · rw [if_neg (fun c => c.2 u), if_neg (fun c => c.2 u)]
          · rw [if_pos ⟨rfl, u⟩, if_pos ⟨(by first | decide | omega), u⟩]
      rw [ti] at w1
      obtain ⟨F2, B2, e2, w2⟩ : ∃ F2 B2, (if nxF n d b a e % b = 0 then zbind (f_ByteRow_putText K 1 13 F1 B1) (fun r24 F24 B24 => f_Scribe_writeSpan_116 (f_Scribe_writeSpan_5 K p) K (nxF n d b a e) cnt 0 e F24 B24) else f_Scribe_writeSpan_116 (f_Scribe_writeSpan_5 K p) K (nxF n d b a e) cnt 0 e F1 B1) = f_Scribe_writeSpan_5 K p (cnt + 1) (nxF n d b a e) 0 e F2 B2 ∧ TC q (T ++ (ntA m st al (kvF n d b a e) ++ ((if nxF n d b a e < e ∧ ¬ m = 0 then [126] else []) ++ [32])) ++ (if nxF n d b a e % b = 0 then [124, 10] else [])) F2 B2 := by
        by_cases y : nxF n d b a e % b = 0
        · obtain ⟨F2, B2, e2, w2⟩ := C_strg (s := 13) (U := [124, 10]) k0 (by first | decide | omega) (by decide) (by decide) (by decide) (by decide) w1
          rw [if_pos y, if_pos y, e2, zb_s]
          exact ⟨F2, B2, rfl, w2⟩
        · rw [if_neg y, if_neg y, List.append_nil]
          exact ⟨F1, B1, rfl, w1⟩
      have es : sdU d * ((f + 1 : Nat) : Int) = sdU d * f + sdU d := by rw [show ((f + 1 : Nat) : Int) = (f : Int) + 1 by omega, Int.mul_add, Int.mul_one]
      obtain ⟨F3, B3, e3, w3⟩ := ih p (cnt + 1) (nxF n d b a e) _ F2 B2 (by first | decide | omega) (by first | decide | omega) n3 (by first | decide | omega) (by first | decide | omega) (by first | decide | omega) (by first | decide | omega) w2
      refine ⟨F3, B3, ?_, ?_⟩
      · have e95 : f_Scribe_writeSpan_95 (f_Scribe_writeSpan_5 K p) K (nxF n d b a e) cnt 0 e 0 (kvF n d b a e) (if e ≤ nxF n d b a e then 0 else 1) F B = some (0, F3, B3) := by
          unfold f_Scribe_writeSpan_95
          rw [if_pos ⟨(by first | decide | omega), k7⟩, e1', zb_s, if_pos ⟨(by first | decide | omega), k7⟩, g3, if_pos (iI_n0 (by first | decide | omega) (by unfold r32; omega)), zr _ (by first | decide | omega) (by first | decide | omega), if_pos (by unfold r32; omega), g1, if_pos (show (0 : Int) ≤ 1 ∧ (1 : Int) < K.2 0 by omega), e2, e3]
        rw [f_Scribe_writeSpan_5, if_pos (by unfold r32; omega), if_neg (by first | decide | omega), if_pos (by unfold r32; omega), if_pos (by unfold r32; omega), if_neg (by first | decide | omega), if_pos ⟨(by first | decide | omega), k7⟩, f3, if_pos (by unfold r32; omega), if_neg (by first | decide | omega), if_pos (iI_n0 (by first | decide | omega) (by unfold r32; omega)), if_pos (by unfold r32; omega), zr a a0 a1, if_pos (by unfold r32; omega), f0, if_pos o0, w.2.2 8 o 0 4 (by first | decide | omega), w.2.2 8 o 0 5 (by first | decide | omega), p4, p5, C_next (by first | decide | omega) h.1 h.2.1 m0 (by first | decide | omega) zm.1 (by first | decide | omega), zb_s]
        have ek : nvF n d (a % b) (zmin (e - a) (b - a % b)) = kvF n d b a e := rfl
        rw [ek, C_fine kb.1 kb.2, zb_s]
        have en : a + fv (kvF n d b a e) = nxF n d b a e := rfl
        rw [en, if_pos (by unfold r32; omega), ← e95]
        by_cases y : e ≤ nxF n d b a e
        · rw [if_pos y, if_pos y]
        · rw [if_neg y, if_neg y]
      · rw [spT, if_pos z]
        simp only [List.append_assoc, List.singleton_append, List.cons_append, List.nil_append] at w3 ⊢
        exact w3
    · refine ⟨F, B, ?_, by rw [spT, if_neg z, List.append_nil]; exact w⟩
      rw [f_Scribe_writeSpan_5, if_pos (by unfold r32; omega), if_neg (by first | decide | omega), if_pos (by unfold r32; omega), if_pos (by unfold r32; omega), if_pos (by first | decide | omega), f_Scribe_writeSpan_122]
/-- a span written by the class -/
theorem C_span {K : zK} {q : zF × zB} {o n d b m a e : Int} {st al : Int → Int} {T : List Int} {F : zF} {B : zB} (hK : KKq K) (h : BRs n d b) (hq : SCq K o n d b q) (hv : EVq m st al q) (a0 : 0 ≤ a ∧ a ≤ 400000) (ha : a % sdU d = 0) (he : e % sdU d = 0) (e1 : 0 ≤ e ∧ e ≤ 100 * b) (w : TC q T F B) : ∃ F' B', f_Scribe_writeSpan K 0 a e F B = some (0, F', B') ∧ TC q (T ++ spX n d b m st al a e) F' B' := by
  have hb := BRs_b h
  have sd : (sdU d = 16 ∧ d = 2) ∨ (sdU d = 4 ∧ d ≠ 2) := by unfold sdU; split <;> omega
  have s1 : e - a ≤ sdU d * (((e - a) / sdU d).toNat : Int) := by
    rcases sd with ⟨g, _⟩ | ⟨g, _⟩ <;> rw [g] at ha he ⊢ <;> omega
  have s2 : e - a ≤ sdU d * ((e - a).toNat : Int) := by
    rcases sd with ⟨g, _⟩ | ⟨g, _⟩ <;> rw [g] at ha he ⊢ <;> omega
  have s3 : (((e - a) / sdU d).toNat : Int) ≤ 38400 := by
    rcases sd with ⟨g, g'⟩ | ⟨g, g'⟩ <;> rw [g] at ha he ⊢ <;> omega
  obtain ⟨F1, B1, x1, x2⟩ := C_sp (m := m) (st := st) (al := al) hK h hq hv he (by first | decide | omega) ((e - a) / sdU d).toNat K.1 0 a T F B a0.1 a0.2 ha s1 (by first | decide | omega) (by first | decide | omega) (by have := hK.2.2.2; omega) w
  refine ⟨F1, B1, x1, ?_⟩
  unfold spX
  rw [← spT_i (m := m) (st := st) (al := al) h he ((e - a) / sdU d).toNat (e - a).toNat a a0.1 ha s1 s2]
  exact x2
end

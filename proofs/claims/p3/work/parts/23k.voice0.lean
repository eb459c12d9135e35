section
/-! ===== voices: what stands, and small steps ===== -/
def zPm (x : zOm) (y : zO) (Q : Int → zF → zB → zK → Int → zF → zB → Prop) : Prop := ∃ r F B K r' F' B', x = some (r, F, B, K) ∧ y = some (r', F', B') ∧ Q r F B K r' F' B'
theorem zPm_s {r r' : Int} {F F' : zF} {B B' : zB} {K : zK} {Q : Int → zF → zB → zK → Int → zF → zB → Prop} (h : Q r F B K r' F' B') : zPm (some (r, F, B, K)) (some (r', F', B')) Q := ⟨r, F, B, K, r', F', B', rfl, rfl, h⟩
theorem zPm_m {x : zOm} {y : zO} {R Q : Int → zF → zB → zK → Int → zF → zB → Prop} (h : zPm x y R) (hk : ∀ r F B K r' F' B', R r F B K r' F' B' → Q r F B K r' F' B') : zPm x y Q := by
  obtain ⟨r, F, B, K, r', F', B', e, e', q⟩ := h
  exact ⟨r, F, B, K, r', F', B', e, e', hk _ _ _ _ _ _ _ q⟩
theorem zPm_n {x y : zO} {k : Int → zF → zB → zOm} {k' : Int → zF → zB → zO} {R : Int → zF → zB → Int → zF → zB → Prop} {Q : Int → zF → zB → zK → Int → zF → zB → Prop} (h : zP x y R) (hk : ∀ r F B r' F' B', R r F B r' F' B' → zPm (k r F B) (k' r' F' B') Q) : zPm (zbindN x k) (zbind y k') Q := by
  obtain ⟨r, F, B, r', F', B', e, e', q⟩ := h
  rw [e, e']
  exact hk _ _ _ _ _ _ q
theorem zPm_c {x : zOm} {y : zO} {k : Int → zF → zB → zK → zOm} {k' : Int → zF → zB → zO} {R : Int → zF → zB → zK → Int → zF → zB → Prop} {Q : Int → zF → zB → zK → Int → zF → zB → Prop} (h : zPm x y R) (hk : ∀ r F B K r' F' B', R r F B K r' F' B' → zPm (k r F B K) (k' r' F' B') Q) : zPm (zbindM x k) (zbind y k') Q := by
  obtain ⟨r, F, B, K, r', F', B', e, e', q⟩ := h
  rw [e, e']
  exact hk _ _ _ _ _ _ _ q
/-- the class's objects: which part is whose, which event is whose -/
def GS (K : zK) (B : zB) : Prop := (∀ c, c = 1 ∨ c = 4 ∨ c = 6 → 0 ≤ K.2 c ∧ 1 ≤ K.2 1) ∧ (∀ p v, 0 ≤ p → p < K.2 6 → 0 ≤ v → v < 4 → B 6 p 0 v < K.2 4) ∧ (∀ p v p' v', 0 ≤ p → p < K.2 6 → 0 ≤ v → v < 4 → 0 ≤ p' → p' < K.2 6 → 0 ≤ v' → v' < 4 → 0 ≤ B 6 p 0 v → B 6 p 0 v = B 6 p' 0 v' → p = p' ∧ v = v') ∧ (∀ q x, 0 ≤ q → q < K.2 4 → 0 ≤ x → x < 200 → 1 ≤ B 4 q 5 x ∧ B 4 q 5 x < K.2 1) ∧ (∀ q x q' x', 0 ≤ q → q < K.2 4 → 0 ≤ x → x < 200 → 0 ≤ q' → q' < K.2 4 → 0 ≤ x' → x' < 200 → B 4 q 5 x = B 4 q' 5 x' → q = q' ∧ x = x')
theorem GS_B {K : zK} {B B' : zB} (h : GS K B) (h6 : ∀ p v, 0 ≤ p → p < K.2 6 → B' 6 p 0 v = B 6 p 0 v) (h4 : ∀ q x, 0 ≤ q → q < K.2 4 → B' 4 q 5 x = B 4 q 5 x) : GS K B' := by
  obtain ⟨a, b, c, d, e⟩ := h
  refine ⟨a, fun p v h1 h2 h3 h5 => ?_, fun p v p' v' h1 h2 h3 h5 h7 h8 h9 h10 h11 h12 => ?_, fun q x h1 h2 h3 h5 => ?_, fun q x q' x' h1 h2 h3 h5 h7 h8 h9 h10 h11 => ?_⟩
  · rw [h6 p v h1 h2]; exact b p v h1 h2 h3 h5
  · rw [h6 p v h1 h2] at h11 h12
    rw [h6 p' v' h7 h8] at h12
    exact c p v p' v' h1 h2 h3 h5 h7 h8 h9 h10 h11 h12
  · rw [h4 q x h1 h2]; exact d q x h1 h2 h3 h5
  · rw [h4 q x h1 h2, h4 q' x' h7 h8] at h11
    exact e q x q' x' h1 h2 h3 h5 h7 h8 h9 h10 h11
theorem GS_t {K : zK} {B B' : zB} (h : GS K B) (hB : tB B B') : GS K B' := GS_B h (fun p v _ _ => hB 6 p 0 v (fun z => absurd z.1 (by decide))) (fun q x _ _ => hB 4 q 5 x (fun z => absurd z.1 (by decide)))
/-- how many letters a name has -/
def ltr : Nat → Int → Int
  | 0, _ => 0
  | n + 1, w => if w ≤ 0 then 0 else 1 + ltr n (w / 256)
/-- a voice that is told, on both sides -/
def VR (K : zK) (p w v : Int) (F : zF) (B : zB) (Bm : zB) : Prop := (0 ≤ B 6 p 0 v ∧ B 6 p 0 v < K.2 4) ∧ F 4 (B 6 p 0 v) 0 = Bm 13 w 10 v ∧ (0 < F 4 (B 6 p 0 v) 0 ∧ F 4 (B 6 p 0 v) 0 < 9223372036854775808) ∧ (F 4 (B 6 p 0 v) 1 = Bm 13 w 8 v ∧ 0 ≤ F 4 (B 6 p 0 v) 1 ∧ F 4 (B 6 p 0 v) 1 < 4) ∧ (F 4 (B 6 p 0 v) 2 = Bm 13 w 9 v ∧ 0 ≤ F 4 (B 6 p 0 v) 2 ∧ F 4 (B 6 p 0 v) 2 ≤ 3) ∧ (F 4 (B 6 p 0 v) 3 = Bm 14 0 8 (Bm 14 0 28 v) ∧ 0 ≤ F 4 (B 6 p 0 v) 3 ∧ F 4 (B 6 p 0 v) 3 ≤ 3000) ∧ (0 ≤ Bm 14 0 28 v ∧ Bm 14 0 28 v ≤ 3000) ∧ (0 ≤ F 4 (B 6 p 0 v) 4 ∧ F 4 (B 6 p 0 v) 4 < 3000) ∧ (0 ≤ Bm 14 0 29 v ∧ Bm 14 0 29 v < 3000) ∧ F 4 (B 6 p 0 v) 6 = 0 ∧ Bm 13 w 11 v = ltr 9 (Bm 13 w 10 v) ∧ NZb (Bm 13 w 10 v)
/-- its block, as every later world that agrees sees it -/
def SVC (L hi ph e x a : Int) (B Bm : zB) : Prop := ∀ Bx By, agB L 0 hi 0 ph (-1) B Bx → agM L 0 e Bm By → BKf (IRd L 7) Bx By x a
def VI (K : zK) (Km : Nat) (N L V j p w : Int) (F : zF) (B : zB) (Fm : zF) (Bm : zB) : Prop := HI K Km N L j p w F B Fm Bm ∧ GS K B ∧ F 6 p 1 = V ∧ Fm 13 w 1 = V ∧ (0 ≤ V ∧ V ≤ 4) ∧ (∀ v, 0 ≤ v → v < V → VR K p w v F B Bm ∧ SVC L (F 3 0 14) (F 3 0 15) j (F 4 (B 6 p 0 v) 4) (Bm 14 0 29 v) B Bm)
theorem C_hPN {K : zK} {p w V : Int} {F : zF} {B : zB} (hp : 0 ≤ p ∧ p < K.2 6) (hV : F 6 p 1 = V) (h4 : 0 ≤ V ∧ V ≤ 4) (hq : ∀ v, 0 ≤ v → v < V → (0 ≤ B 6 p 0 v ∧ B 6 p 0 v < K.2 4) ∧ r64 (F 4 (B 6 p 0 v) 0)) (hw : r64 w) : ∀ {n : Nat} {x : Int}, 0 ≤ x → x ≤ V → V - x < n → f_Piece_hasPartNamed_2 K n x p w F B = some (if fdR (fun v => F 4 (B 6 p 0 v) 0) V w n x < 0 then 0 else 1, F, B) := by
  intro n
  induction n with
  | zero => intro x _ _ h; omega
  | succ n ih =>
    intro x a b d
    unfold f_Piece_hasPartNamed_2 fdR
    rw [if_pos hp, if_pos (by omega), hV, if_pos (by omega)]
    by_cases h : V ≤ x
    · rw [if_pos h, if_pos h, if_pos (by decide)]
    · have q := hq x a (by omega)
      rw [if_neg h, if_neg h, if_pos (by omega), if_pos q.1, if_pos q.2, if_pos hw]
      by_cases e : F 4 (B 6 p 0 x) 0 = w
      · rw [if_pos (zcmp_0.mpr e), if_pos e, if_neg (by omega)]
      · rw [if_neg (fun z => e (zcmp_0.mp z)), if_neg e]
        exact ih (by omega) (by omega) (by omega)
theorem C_hasPart {K : zK} {p w V : Int} {F : zF} {B : zB} (hK : 3002 ≤ K.1) (hp : 0 ≤ p ∧ p < K.2 6) (hV : F 6 p 1 = V) (h4 : 0 ≤ V ∧ V ≤ 4) (hq : ∀ v, 0 ≤ v → v < V → (0 ≤ B 6 p 0 v ∧ B 6 p 0 v < K.2 4) ∧ r64 (F 4 (B 6 p 0 v) 0)) (hw : r64 w) : f_Piece_hasPartNamed K p w F B = some (if fdR (fun v => F 4 (B 6 p 0 v) 0) V w 22 0 < 0 then 0 else 1, F, B) := by
  unfold f_Piece_hasPartNamed
  rw [C_hPN hp hV h4 hq hw (by omega) (by omega) (by omega), fdR_f (f := K.1) (g := 22) (by omega) (by omega) (by omega) (by omega)]
/-- the reference counts a name's letters -/
theorem zlshr8 {w : Int} (h0 : 0 ≤ w) (h1 : w < 9223372036854775808) : zlshr w 8 = w / 256 := by
  have e : (lI w).toInt = w := lI_to ⟨by omega, h1⟩
  unfold zlshr
  have e8 : ((iI 8).toInt64 &&& 63) = (8 : Int64) := by decide
  rw [e8]
  have hs : (lI w >>> (8 : Int64)).toInt = (lI w).toInt >>> 8 := by
    rw [← Int64.toInt_toBitVec, Int64.toBitVec_shiftRight]
    show (BitVec.sshiftRight' (lI w).toBitVec _).toInt = _
    rw [BitVec.sshiftRight_eq']
    rw [BitVec.toInt_sshiftRight]
    rfl
  rw [hs, e, Int.shiftRight_eq_div_pow]
  rfl
end

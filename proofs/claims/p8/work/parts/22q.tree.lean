section
/-! ===== the class's items and the reference's tokens: one tree ===== -/
def tnv (s : Int) : Int := 12 * (s / 7 + 1) + (2 * (s % 7) - (if s % 7 ≤ 2 then 0 else 1))
theorem nat_f : ∀ s : Fin 63, 0 ≤ zxor (s.val : Int) 7 ∧ zxor (s.val : Int) 7 < 1000 ∧ zdv (s.val : Int) 7 = (s.val : Int) / 7 ∧ zrm (s.val : Int) 7 = (s.val : Int) % 7 ∧ ztv 5 ((s.val : Int) % 7) = 2 * ((s.val : Int) % 7) - (if (s.val : Int) % 7 ≤ 2 then 0 else 1) := by decide +kernel
theorem C_nat {K : zK} {s : Int} {F : zF} {B : zB} (h0 : 0 ≤ s) (h1 : s ≤ 62) : f_S_naturalTone K s F B = some (tnv s, F, B) := by
  have h := nat_f ⟨s.toNat, (by first | decide | omega)⟩
  rw [show (((⟨s.toNat, (by first | decide | omega)⟩ : Fin 63).val : Nat) : Int) = s by show ((s.toNat : Nat) : Int) = s; omega] at h
  obtain ⟨x0, x1, d, r, t⟩ := h
  unfold f_S_naturalTone f_Math_floorDiv f_Math_floorMod f_Math_floorDiv_21 f_Math_floorMod_18
  rw [if_pos (iI_n0 (by decide) (by decide)), if_pos (by first | decide | omega), if_pos x0]
  simp only [zb_s]
  rw [if_pos (iI_n0 (by decide) (by decide)), if_pos (by first | decide | omega), if_pos x0, r]
  simp only [zb_s]
  rw [if_pos (by rw [show ztl 5 = 7 by decide]; omega), d, t]
  rfl
theorem tnv_b {s : Int} (h0 : 0 ≤ s) (h1 : s ≤ 62) : 12 ≤ tnv s ∧ tnv s ≤ 120 := by
  unfold tnv
  split <;> omega
def wdAt (Bm : zB) (i w : Int) : Prop := Bm 14 0 7 i = 4 ∧ Bm 14 0 11 i = w
def sgAt (Bm : zB) (i c : Int) : Prop := Bm 14 0 7 i = 5 ∧ Bm 14 0 9 i = c
def nmAt (Bm : zB) (i v lo hi : Int) : Prop := Bm 14 0 7 i = 3 ∧ Bm 14 0 9 i = v ∧ lo ≤ v ∧ v ≤ hi
/-- an event -/
def evR (B Bm : zB) (x i : Int) : Prop := B 3 0 2 x = lenV (Bm 14 0 32 i) (Bm 14 0 33 i) ∧ pw2 (Bm 14 0 32 i) ∧ (0 ≤ Bm 14 0 33 i ∧ Bm 14 0 33 i ≤ 2) ∧ B 3 0 7 x = Bm 14 0 34 i ∧ (0 ≤ B 3 0 7 x ∧ B 3 0 7 x < 128) ∧ (0 ≤ B 3 0 3 x ∧ B 3 0 3 x + B 3 0 6 x ≤ 1500) ∧ ((wdAt Bm i 114 ∧ B 3 0 6 x = 0) ∨ (B 3 0 6 x = 1 ∧ pitR B Bm (B 3 0 3 x) i 1) ∨ (sgAt Bm i 60 ∧ (2 ≤ B 3 0 6 x ∧ B 3 0 6 x ≤ 6) ∧ pitR B Bm (B 3 0 3 x) (i + 1) (B 3 0 6 x) ∧ ¬ Bm 14 0 7 (i + 1 + B 3 0 6 x) = 2))
/-- a use of the let q, one of the first L -/
def usR (L : Int) (B Bm : zB) (x i : Int) : Prop := wdAt Bm i 7697253 ∧ ∃ q, (0 ≤ q ∧ q < L) ∧ Bm 14 0 25 q = Bm 14 0 11 (i + 1) ∧ B 3 0 2 x = B 3 0 13 q ∧ ∀ p, 0 ≤ p → p < q → ¬ Bm 14 0 25 p = Bm 14 0 11 (i + 1)
/-- an item without a block -/
def IRl (L : Int) (B Bm : zB) (x i : Int) : Prop := B 3 0 1 x = Bm 14 0 8 i ∧ ((B 3 0 0 x = 0 ∧ evR B Bm x i) ∨ (B 3 0 0 x = 1 ∧ sgAt Bm i 124) ∨ (B 3 0 0 x = 2 ∧ sgAt Bm i 33 ∧ B 3 0 2 x = fiL wL (Bm 14 0 11 (i + 1)) 0 ∧ 0 ≤ B 3 0 2 x) ∨ (B 3 0 0 x = 5 ∧ usR L B Bm x i))
def LRf (R : zB → zB → Int → Int → Prop) (B Bm : zB) : Nat → Int → Int → Int → Prop
  | 0, x, i, e => x = -1 ∧ i = e
  | n + 1, x, i, e => (0 ≤ x ∧ x < 3000) ∧ (i < Bm 14 0 31 i ∧ Bm 14 0 31 i ≤ e) ∧ R B Bm x i ∧ LRf R B Bm n (B 3 0 5 x) (Bm 14 0 31 i) e
/-- the block that opens at token a hangs at x -/
def BKf (R : zB → zB → Int → Int → Prop) (B Bm : zB) (x a : Int) : Prop := a < Bm 14 0 30 a ∧ Bm 14 0 30 a ≤ 3000 ∧ ∃ m, LRf R B Bm m (B 3 0 4 x) (a + 1) (Bm 14 0 30 a)
def ALf (R : zB → zB → Int → Int → Prop) (B Bm : zB) : Nat → Int → Int → Int → Prop
  | 0, _, _, _ => False
  | n + 1, y, a, e => (0 ≤ y ∧ y < 3000) ∧ BKf R B Bm y a ∧ ((B 3 0 5 y = -1 ∧ Bm 14 0 30 a + 1 = e) ∨ (Bm 14 0 30 a + 1 < e ∧ ALf R B Bm n (B 3 0 5 y) (Bm 14 0 30 a + 1) e))
def mvV (Bm : zB) (i : Int) : Int := tnv (Bm 14 0 9 i) + Bm 14 0 10 i
/-- an item with blocks -/
def IRn (R : zB → zB → Int → Int → Prop) (B Bm : zB) (x i : Int) : Prop := B 3 0 1 x = Bm 14 0 8 i ∧
  ((B 3 0 0 x = 3 ∧ sgAt Bm i 91 ∧ nmAt Bm (i + 1) (B 3 0 2 x) 2 9 ∧ nmAt Bm (i + 3) (B 3 0 3 x) 1 9 ∧ i + 4 < Bm 14 0 30 i ∧ Bm 14 0 30 i ≤ 3000 ∧ ∃ m, LRf R B Bm m (B 3 0 4 x) (i + 5) (Bm 14 0 30 i)) ∨
   (B 3 0 0 x = 4 ∧ wdAt Bm i 125780002955636 ∧ nmAt Bm (i + 1) (B 3 0 2 x) 2 4 ∧ BKf R B Bm x (i + 2) ∧ ((B 3 0 3 x = -1 ∧ Bm 14 0 30 (i + 2) + 1 = Bm 14 0 31 i) ∨ (∃ n, ALf R B Bm n (B 3 0 3 x) (Bm 14 0 30 (i + 2) + 2) (Bm 14 0 31 i)))) ∨
   (B 3 0 0 x = 6 ∧ wdAt Bm i 1836021349 ∧ Bm 14 0 7 (i + 1) = 2 ∧ Bm 14 0 7 (i + 2) = 2 ∧ B 3 0 2 x = Bm 14 0 9 (i + 2) - Bm 14 0 9 (i + 1) ∧ B 3 0 3 x = mvV Bm (i + 2) - mvV Bm (i + 1) ∧ BKf R B Bm x (i + 3)) ∨
   (B 3 0 0 x = 7 ∧ wdAt Bm i 120299659095922 ∧ Bm 14 0 7 (i + 1) = 2 ∧ B 3 0 2 x = 2 * Bm 14 0 9 (i + 1) ∧ B 3 0 3 x = 2 * mvV Bm (i + 1) ∧ BKf R B Bm x (i + 2)) ∨
   (B 3 0 0 x = 8 ∧ wdAt Bm i 1650549611 ∧ BKf R B Bm x (i + 1)) ∨
   (B 3 0 0 x = 9 ∧ wdAt Bm i 1936486263 ∧ nmAt Bm (i + 1) (B 3 0 2 x) 1 8 ∧ nmAt Bm (i + 3) (B 3 0 3 x) 1 8 ∧ BKf R B Bm x (i + 4)))
def IRd (L : Int) : Nat → zB → zB → Int → Int → Prop
  | 0 => IRl L
  | d + 1 => fun B Bm x i => IRl L B Bm x i ∨ IRn (IRd L d) B Bm x i
/-- a later world agrees with this one on the items lo .. hi (but for what follows x) and the pitches pl .. ph -/
def agB (L lo hi pl ph x : Int) (B Bx : zB) : Prop := (∀ k y, k ≤ 7 → lo ≤ y → y < hi → ¬ (k = 5 ∧ y = x) → Bx 3 0 k y = B 3 0 k y) ∧ (∀ k y, 8 ≤ k → k ≤ 10 → pl ≤ y → y < ph → Bx 3 0 k y = B 3 0 k y) ∧ (∀ q, 0 ≤ q → q < L → Bx 3 0 13 q = B 3 0 13 q)
def agM (L i e : Int) (Bm Bx : zB) : Prop := (∀ k y, 30 ≤ k → k ≤ 34 → i ≤ y → y < e → Bx 14 0 k y = Bm 14 0 k y) ∧ (∀ k, 7 ≤ k → k ≤ 11 → Bx 14 0 k = Bm 14 0 k) ∧ (∀ q, 0 ≤ q → q < L → Bx 14 0 25 q = Bm 14 0 25 q)
theorem agB_r {L lo hi pl ph x : Int} {B : zB} : agB L lo hi pl ph x B B := ⟨fun _ _ _ _ _ _ => rfl, fun _ _ _ _ _ _ => rfl, fun _ _ _ => rfl⟩
theorem agM_r {L i e : Int} {B : zB} : agM L i e B B := ⟨fun _ _ _ _ _ _ => rfl, fun _ _ _ => rfl, fun _ _ _ => rfl⟩
theorem agB_t {L lo hi pl ph x : Int} {B B' B'' : zB} (h : agB L lo hi pl ph x B B') (h' : agB L lo hi pl ph x B' B'') : agB L lo hi pl ph x B B'' := ⟨fun k y a b c d => by rw [h'.1 k y a b c d, h.1 k y a b c d], fun k y a b c d => by rw [h'.2.1 k y a b c d, h.2.1 k y a b c d], fun q a b => by rw [h'.2.2 q a b, h.2.2 q a b]⟩
theorem agM_t {L i e : Int} {B B' B'' : zB} (h : agM L i e B B') (h' : agM L i e B' B'') : agM L i e B B'' := ⟨fun k y a b c d => by rw [h'.1 k y a b c d, h.1 k y a b c d], fun k a b => by rw [h'.2.1 k a b, h.2.1 k a b], fun q a b => by rw [h'.2.2 q a b, h.2.2 q a b]⟩
theorem agB_m {L lo hi pl ph x lo' hi' pl' ph' x' : Int} {B B' : zB} (h : agB L lo hi pl ph x B B') (h1 : lo ≤ lo') (h2 : hi' ≤ hi) (h3 : pl ≤ pl') (h4 : ph' ≤ ph) (h5 : x' = x ∨ x < lo' ∨ hi' ≤ x) : agB L lo' hi' pl' ph' x' B B' := ⟨fun k y a b c d => h.1 k y a (by first | decide | omega) (by first | decide | omega) (fun z => by rcases h5 with q | q | q <;> omega), fun k y a b c d => h.2.1 k y a b (by first | decide | omega) (by first | decide | omega), h.2.2⟩
theorem agM_m {L i e i' e' : Int} {B B' : zB} (h : agM L i e B B') (h1 : i ≤ i') (h2 : e' ≤ e) : agM L i' e' B B' := ⟨fun k y a b c d => h.1 k y a b (by first | decide | omega) (by first | decide | omega), h.2⟩
/-- frames give agreement -/
theorem agB_f {L lo hi pl ph x lo' pl' : Int} {B B' : zB} (h : fB lo' pl' B B') (h1 : hi ≤ lo') (h2 : ph ≤ pl') : agB L lo hi pl ph x B B' := ⟨fun k y a b c d => h 3 0 k y (fun z => by have := z.2.2.2; omega) (fun z => by have := z.2.2.1; omega), fun k y a b c d => h 3 0 k y (fun z => by have := z.2.2.1; omega) (fun z => by have := z.2.2.2.2; omega), fun q a b => h 3 0 13 q (fun z => absurd z.2.2.1 (by decide)) (fun z => absurd z.2.2.2.1 (by decide))⟩
theorem agM_f {L i e fr : Int} {B B' : zB} (h : fH fr B B') (h1 : e ≤ fr) : agM L i e B B' := ⟨fun k y a b c d => h 14 0 k y (fun z => by have := z.2.2.2.2; omega), fun k a b => fH_k h k (by first | decide | omega), fun q a b => h 14 0 25 q (fun z => absurd z.2.2.1 (by decide))⟩
def SIR (L : Int) (d : Nat) (x i hi pl ph e : Int) (B Bm : zB) : Prop := ∀ Bx By, agB L x hi pl ph x B Bx → agM L i e Bm By → IRd L d Bx By x i
def SLR (L : Int) (d : Nat) (n : Nat) (y i e lo hi pl ph : Int) (B Bm : zB) : Prop := ∀ Bx By, agB L lo hi pl ph (-1) B Bx → agM L i e Bm By → LRf (IRd L d) Bx By n y i e
theorem SIR_t {L : Int} {d : Nat} {x i hi pl ph e : Int} {B Bm B' Bm' : zB} (h : SIR L d x i hi pl ph e B Bm) (hB : agB L x hi pl ph x B B') (hM : agM L i e Bm Bm') : SIR L d x i hi pl ph e B' Bm' := fun Bx By a b => h Bx By (agB_t hB a) (agM_t hM b)
theorem SLR_t {L : Int} {d n : Nat} {y i e lo hi pl ph : Int} {B Bm B' Bm' : zB} (h : SLR L d n y i e lo hi pl ph B Bm) (hB : agB L lo hi pl ph (-1) B B') (hM : agM L i e Bm Bm') : SLR L d n y i e lo hi pl ph B' Bm' := fun Bx By a b => h Bx By (agB_t hB a) (agM_t hM b)
end

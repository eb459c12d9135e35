section
/-! ===== a function returns: one side alone ===== -/
def zS (x : zO) (Q : Int → zF → zB → Prop) : Prop := ∃ r F B, x = some (r, F, B) ∧ Q r F B
theorem zS_s {r : Int} {F : zF} {B : zB} {Q : Int → zF → zB → Prop} (h : Q r F B) : zS (some (r, F, B)) Q := ⟨r, F, B, rfl, h⟩
theorem zS_g {c : Prop} [Decidable c] {x : zO} {Q : Int → zF → zB → Prop} (h : c) (hx : zS x Q) : zS (if c then x else none) Q := by rw [if_pos h]; exact hx
theorem zS_i {c : Prop} [Decidable c] {x y : zO} {Q : Int → zF → zB → Prop} (h1 : c → zS x Q) (h2 : ¬ c → zS y Q) : zS (if c then x else y) Q := by
  by_cases h : c
  · rw [if_pos h]; exact h1 h
  · rw [if_neg h]; exact h2 h
theorem zS_b {x : zO} {k : Int → zF → zB → zO} {P Q : Int → zF → zB → Prop} (h : zS x P) (hk : ∀ r F B, P r F B → zS (k r F B) Q) : zS (zbind x k) Q := by
  obtain ⟨r, F, B, e, hp⟩ := h
  rw [e, zb_s]
  exact hk r F B hp
theorem zS_m {x : zO} {P Q : Int → zF → zB → Prop} (h : zS x P) (hk : ∀ r F B, P r F B → Q r F B) : zS x Q := by
  obtain ⟨r, F, B, e, hp⟩ := h
  exact ⟨r, F, B, e, hk r F B hp⟩
theorem zS_e {x : zO} {r : Int} {F : zF} {B : zB} {P : Int → Prop} (e : x = some (r, F, B)) (h : P r) : zS x (fun r F' B' => F' = F ∧ B' = B ∧ P r) := ⟨r, F, B, e, rfl, rfl, h⟩
theorem zand_R (a b : Int) : r32 (zand a b) := toI_r _
theorem zor_R (a b : Int) : r32 (zor a b) := toI_r _
theorem zshl_R (a b : Int) : r32 (zshl a b) := toI_r _
theorem zdv_R (a b : Int) : r32 (zdv a b) := toI_r _
theorem zrm_R (a b : Int) : r32 (zrm a b) := toI_r _
theorem zshr_R (a b : Int) : r32 (zshr a b) := toI_r _
/-! ===== a piece that has been read, as the reference keeps it ===== -/
/-- event x of voice u -/
def RE (u w : Int) (B : zB) (x : Int) : Prop := (0 ≤ B 13 w 18 x ∧ B 13 w 18 x < 128) ∧ (0 ≤ B 13 w 19 x ∧ B 13 w 19 x ≤ 7) ∧ (0 ≤ B 13 w 21 x ∧ B 13 w 21 x ≤ 6) ∧ (B 13 w 27 x = 0 ∨ B 13 w 27 x = 1) ∧ (zand (B 13 w 18 x) 1 ≤ 0 ∨ x + 1 < 1000 * u + B 13 w 12 u)
def RP (w : Int) (B : zB) (x : Int) : Prop := ∀ k, 0 ≤ k → k < B 13 w 21 x → (0 ≤ B 13 w 28 (6 * x + k) ∧ B 13 w 28 (6 * x + k) ≤ 62) ∧ (-2 ≤ B 13 w 29 (6 * x + k) ∧ B 13 w 29 (6 * x + k) ≤ 2)
def RF (w : Int) (B : zB) (x : Int) : Prop := ∃ p g : Int, (0 ≤ p ∧ 1 ≤ g ∧ p + g ≤ 1000000000000) ∧ B 13 w 14 x = nu p ∧ B 13 w 15 x = de p ∧ B 13 w 16 x = nu g ∧ B 13 w 17 x = de g
/-- note y of voice u -/
def RN (u w T E : Int) (B : zB) (y : Int) : Prop := (-1 ≤ B 13 w 30 y ∧ B 13 w 30 y < B 13 w 12 u) ∧ (0 ≤ B 13 w 31 y ∧ B 13 w 31 y < E) ∧ (0 ≤ B 13 w 34 y ∧ B 13 w 34 y ≤ 9) ∧ (0 ≤ B 13 w 35 y ∧ B 13 w 35 y ≤ 2) ∧ ∃ p, (0 ≤ p ∧ p < T) ∧ B 13 w 32 y = nu p ∧ B 13 w 33 y = de p
def RDW (V w : Int) (F : zF) (B : zB) : Prop := (0 ≤ w ∧ w < 3) ∧ (F 13 w 1 = V ∧ 1 ≤ V ∧ V ≤ 4) ∧ (-7 ≤ F 13 w 2 ∧ F 13 w 2 ≤ 7) ∧ (1 ≤ F 13 w 4 ∧ F 13 w 4 ≤ 12) ∧ (F 13 w 5 = 2 ∨ F 13 w 5 = 4 ∨ F 13 w 5 = 8 ∨ F 13 w 5 = 16) ∧ (0 ≤ F 13 w 7 ∧ F 13 w 7 ≤ 100) ∧ ∀ u, 0 ≤ u → u < V → ((1 ≤ B 13 w 12 u ∧ B 13 w 12 u ≤ 200) ∧ (0 ≤ B 13 w 13 u ∧ B 13 w 13 u ≤ 800) ∧ (0 ≤ B 13 w 8 u ∧ B 13 w 8 u < 4)) ∧ (∀ x, 1000 * u ≤ x → x < 1000 * u + B 13 w 12 u → RE u w B x ∧ RP w B x ∧ RF w B x) ∧ (∀ y, 800 * u ≤ y → y < 800 * u + B 13 w 13 u → RN u w (barV (F 13 w 4) (F 13 w 5)) (F 13 w 7) B y)
theorem rd_5 {V w : Int} {F : zF} {B : zB} (h : RDW V w F B) : F 13 w 5 = 2 ∨ F 13 w 5 = 4 ∨ F 13 w 5 = 8 ∨ F 13 w 5 = 16 := h.2.2.2.2.1
theorem rd_0 {V w : Int} {F : zF} {B : zB} (h : RDW V w F B) : (0 ≤ w ∧ w < 3) ∧ (F 13 w 1 = V ∧ 1 ≤ V ∧ V ≤ 4) ∧ (-7 ≤ F 13 w 2 ∧ F 13 w 2 ≤ 7) ∧ (1 ≤ F 13 w 4 ∧ F 13 w 4 ≤ 12) ∧ (2 ≤ F 13 w 5 ∧ F 13 w 5 ≤ 16) ∧ (0 ≤ F 13 w 7 ∧ F 13 w 7 ≤ 100) := ⟨h.1, h.2.1, h.2.2.1, h.2.2.2.1, by have := rd_5 h; omega, h.2.2.2.2.2.1⟩
theorem rd_v {V w u : Int} {F : zF} {B : zB} (h : RDW V w F B) (u0 : 0 ≤ u) (u1 : u < V) : (1 ≤ B 13 w 12 u ∧ B 13 w 12 u ≤ 200) ∧ (0 ≤ B 13 w 13 u ∧ B 13 w 13 u ≤ 800) ∧ (0 ≤ B 13 w 8 u ∧ B 13 w 8 u < 4) := (h.2.2.2.2.2.2 u u0 u1).1
theorem rd_e {V w u x : Int} {F : zF} {B : zB} (h : RDW V w F B) (u0 : 0 ≤ u) (u1 : u < V) (x0 : 1000 * u ≤ x) (x1 : x < 1000 * u + B 13 w 12 u) : (0 ≤ B 13 w 18 x ∧ B 13 w 18 x < 128) ∧ (0 ≤ B 13 w 19 x ∧ B 13 w 19 x ≤ 7) ∧ (0 ≤ B 13 w 21 x ∧ B 13 w 21 x ≤ 6) ∧ (0 ≤ B 13 w 27 x ∧ B 13 w 27 x ≤ 1) := by
  obtain ⟨a, b, c, d, _⟩ := ((h.2.2.2.2.2.2 u u0 u1).2.1 x x0 x1).1
  exact ⟨a, b, c, (by first | decide | omega)⟩
theorem rd_t {V w u x : Int} {F : zF} {B : zB} (h : RDW V w F B) (u0 : 0 ≤ u) (u1 : u < V) (x0 : 1000 * u ≤ x) (x1 : x < 1000 * u + B 13 w 12 u) : zand (B 13 w 18 x) 1 ≤ 0 ∨ x + 1 < 1000 * u + B 13 w 12 u := ((h.2.2.2.2.2.2 u u0 u1).2.1 x x0 x1).1.2.2.2.2
theorem rd_p {V w u x k : Int} {F : zF} {B : zB} (h : RDW V w F B) (u0 : 0 ≤ u) (u1 : u < V) (x0 : 1000 * u ≤ x) (x1 : x < 1000 * u + B 13 w 12 u) (k0 : 0 ≤ k) (k1 : k < B 13 w 21 x) : (0 ≤ B 13 w 28 (6 * x + k) ∧ B 13 w 28 (6 * x + k) ≤ 62) ∧ (-2 ≤ B 13 w 29 (6 * x + k) ∧ B 13 w 29 (6 * x + k) ≤ 2) := ((h.2.2.2.2.2.2 u u0 u1).2.1 x x0 x1).2.1 k k0 k1
theorem rd_f {V w u x : Int} {F : zF} {B : zB} (h : RDW V w F B) (u0 : 0 ≤ u) (u1 : u < V) (x0 : 1000 * u ≤ x) (x1 : x < 1000 * u + B 13 w 12 u) : ∃ p g : Int, (0 ≤ p ∧ 1 ≤ g ∧ p + g ≤ 1000000000000) ∧ B 13 w 14 x = nu p ∧ B 13 w 15 x = de p ∧ B 13 w 16 x = nu g ∧ B 13 w 17 x = de g := ((h.2.2.2.2.2.2 u u0 u1).2.1 x x0 x1).2.2
theorem rd_n {V w u y : Int} {F : zF} {B : zB} (h : RDW V w F B) (u0 : 0 ≤ u) (u1 : u < V) (y0 : 800 * u ≤ y) (y1 : y < 800 * u + B 13 w 13 u) : (-1 ≤ B 13 w 30 y ∧ B 13 w 30 y < B 13 w 12 u) ∧ (0 ≤ B 13 w 31 y ∧ B 13 w 31 y < F 13 w 7) ∧ (0 ≤ B 13 w 34 y ∧ B 13 w 34 y ≤ 9) ∧ (0 ≤ B 13 w 35 y ∧ B 13 w 35 y ≤ 2) := by
  obtain ⟨a, b, c, d, _⟩ := (h.2.2.2.2.2.2 u u0 u1).2.2 y y0 y1
  exact ⟨a, b, c, d⟩
theorem rd_q {V w u y : Int} {F : zF} {B : zB} (h : RDW V w F B) (u0 : 0 ≤ u) (u1 : u < V) (y0 : 800 * u ≤ y) (y1 : y < 800 * u + B 13 w 13 u) : ∃ p, (0 ≤ p ∧ p < barV (F 13 w 4) (F 13 w 5)) ∧ B 13 w 32 y = nu p ∧ B 13 w 33 y = de p := by
  obtain ⟨_, _, _, _, h⟩ := (h.2.2.2.2.2.2 u u0 u1).2.2 y y0 y1
  exact h
/-- only these rows and fields matter -/
theorem RDW_f {V w : Int} {F F' : zF} {B B' : zB} (h : RDW V w F B) (f : ∀ k, 1 ≤ k → k ≤ 7 → F' 13 w k = F 13 w k) (b : ∀ k x, 8 ≤ k → k ≤ 35 → B' 13 w k x = B 13 w k x) : RDW V w F' B' := by
  obtain ⟨a1, a2, a3, a4, a5, a6, a7⟩ := h
  unfold RDW RE RP RF RN at *
  have b8 := fun x => b 8 x (by decide) (by decide)
  have b12 := fun x => b 12 x (by decide) (by decide)
  have b13 := fun x => b 13 x (by decide) (by decide)
  have b14 := fun x => b 14 x (by decide) (by decide)
  have b15 := fun x => b 15 x (by decide) (by decide)
  have b16 := fun x => b 16 x (by decide) (by decide)
  have b17 := fun x => b 17 x (by decide) (by decide)
  have b18 := fun x => b 18 x (by decide) (by decide)
  have b19 := fun x => b 19 x (by decide) (by decide)
  have b21 := fun x => b 21 x (by decide) (by decide)
  have b27 := fun x => b 27 x (by decide) (by decide)
  have b28 := fun x => b 28 x (by decide) (by decide)
  have b29 := fun x => b 29 x (by decide) (by decide)
  have b30 := fun x => b 30 x (by decide) (by decide)
  have b31 := fun x => b 31 x (by decide) (by decide)
  have b32 := fun x => b 32 x (by decide) (by decide)
  have b33 := fun x => b 33 x (by decide) (by decide)
  have b34 := fun x => b 34 x (by decide) (by decide)
  have b35 := fun x => b 35 x (by decide) (by decide)
  rw [f 1 (by decide) (by decide), f 2 (by decide) (by decide), f 4 (by decide) (by decide), f 5 (by decide) (by decide), f 7 (by decide) (by decide)]
  refine ⟨a1, a2, a3, a4, a5, a6, fun u u0 u1 => ?_⟩
  have := a7 u u0 u1
  simp only [b8, b12, b13, b14, b15, b16, b17, b18, b19, b21, b27, b28, b29, b30, b31, b32, b33, b34, b35]
  exact this
theorem RDW_u {V w i j v : Int} {c k : Nat} {F : zF} {B : zB} (h : RDW V w F B) (hk : ¬ (c = 13 ∧ i = w ∧ k ≤ 35)) : RDW V w F (zup4 B c i k j v) := RDW_f h (fun _ _ _ => rfl) (fun k' x _ h' => by rw [zup4_v, if_neg (by first | decide | omega)])
theorem RDW_F {V w i v : Int} {c k : Nat} {F : zF} {B : zB} (h : RDW V w F B) (hk : ¬ (c = 13 ∧ i = w ∧ k ≤ 7)) : RDW V w (zup3 F c i k v) B := RDW_f h (fun k' _ h' => by rw [zup3_v, if_neg (by first | decide | omega)]) (fun _ _ _ _ => rfl)
theorem RDW_fr {V w p : Int} {F : zF} {B : zB} (h : RDW V w F B) : RDW V w (fr F p) B := RDW_f h (fun k _ _ => fr_n (by first | decide | omega)) (fun _ _ _ _ => rfl)
/-- rows that hold whole ints -/
def XS (B : zB) : Prop := (∀ s, r32 (B 14 0 58 s)) ∧ ∀ i x, r32 (B 13 i 36 x) ∧ r32 (B 13 i 37 x) ∧ r32 (B 13 i 38 x) ∧ r32 (B 13 i 39 x) ∧ r32 (B 13 i 40 x) ∧ r32 (B 13 i 41 x)
/-- what the staves change -/
def SQ (w : Int) (B B' : zB) : Prop := XS B' ∧ ∀ c i k x, ¬ (c = 13 ∧ i = w ∧ 36 ≤ k ∧ k ≤ 41) → ¬ (c = 14 ∧ i = 0 ∧ k = 58) → B' c i k x = B c i k x
theorem SQ_r {w : Int} {B : zB} (h : XS B) : SQ w B B := ⟨h, fun _ _ _ _ _ _ => rfl⟩
theorem SQ_t {w : Int} {B B1 B2 : zB} (h : SQ w B B1) (h' : SQ w B1 B2) : SQ w B B2 := ⟨h'.1, fun c i k x a b => by rw [h'.2 c i k x a b, h.2 c i k x a b]⟩
theorem SQ_u {w j v : Int} {k : Nat} {B B1 : zB} (h : SQ w B B1) (k0 : 36 ≤ k) (k1 : k ≤ 41) (hv : r32 v) : SQ w B (zup4 B1 13 w k j v) := by
  refine ⟨⟨fun s => by rw [zup4_v, if_neg (by first | decide | omega)]; exact h.1.1 s, fun i x => ?_⟩, fun c i k' x a b => by rw [zup4_v, if_neg (by first | decide | omega)]; exact h.2 c i k' x a b⟩
  have key : ∀ k', r32 (B1 13 i k' x) → r32 (zup4 B1 13 w k j v 13 i k' x) := fun k' hh => by
    rw [zup4_v]
    split
    · exact hv
    · exact hh
  obtain ⟨a1, a2, a3, a4, a5, a6⟩ := h.1.2 i x
  exact ⟨key _ a1, key _ a2, key _ a3, key _ a4, key _ a5, key _ a6⟩
theorem SQ_8 {w j v : Int} {B B1 : zB} (h : SQ w B B1) (hv : r32 v) : SQ w B (zup4 B1 14 0 58 j v) := by
  refine ⟨⟨fun s => ?_, fun i x => ?_⟩, fun c i k' x a b => by rw [zup4_v, if_neg (by first | decide | omega)]; exact h.2 c i k' x a b⟩
  · rw [zup4_v]
    split
    · exact hv
    · exact h.1.1 s
  · rw [zup4_v, if_neg (by first | decide | omega), zup4_v, if_neg (by first | decide | omega), zup4_v, if_neg (by first | decide | omega), zup4_v, if_neg (by first | decide | omega), zup4_v, if_neg (by first | decide | omega), zup4_v, if_neg (by first | decide | omega)]
    exact h.1.2 i x
theorem RDW_q {V w : Int} {F : zF} {B B' : zB} (h : RDW V w F B) (q : SQ w B B') : RDW V w F B' := RDW_f h (fun _ _ _ => rfl) (fun k x _ h' => q.2 13 w k x (by first | decide | omega) (by first | decide | omega))
end

section
/-! ===== notes as text: both ways of telling them are one ===== -/
/-- what must follow a span of event ev that ends at e -/
def HDc (b ev e : Int) : List (Int × Int × Int) → Prop
  | [] => e % b = 0
  | r :: _ => ¬ r.1 = ev ∧ r.2.1 = e / b
theorem bar_n {b a a' : Int} (b0 : 0 < b) (a0 : 0 ≤ a) (h1 : a < a') (h2 : a' ≤ (a / b + 1) * b) : a' / b = a / b ↔ ¬ a' % b = 0 := by
  have e1 := Int.mul_ediv_add_emod a b
  have e2 := Int.emod_nonneg a (show b ≠ 0 by omega)
  have e3 := Int.emod_lt_of_pos a b0
  have f1 := Int.mul_ediv_add_emod a' b
  have f2 := Int.emod_nonneg a' (show b ≠ 0 by omega)
  have f3 := Int.emod_lt_of_pos a' b0
  have q2 : (a / b + 1) * b = b * (a / b) + b := by rw [Int.add_mul, Int.one_mul, Int.mul_comm]
  constructor
  · intro h z
    rw [h, z] at f1
    omega
  · intro h
    have l1 : a / b ≤ a' / b := Int.ediv_le_ediv b0 (by first | decide | omega)
    have l2 : a' / b < a / b + 1 := by
      have : a' < (a / b + 1) * b := by
        rcases Int.lt_or_le a' ((a / b + 1) * b) with z | z
        · exact z
        · have : a' = (a / b + 1) * b := by omega
          rw [this, Int.mul_emod_left] at h
          exact absurd rfl h
      exact (Int.ediv_lt_iff_lt_mul b0).mpr this
    omega
theorem rtx_s {n d b : Int} {EL : List (Int × Int × Int × (Int → Int) × (Int → Int))} (hb : BRs n d b) {ev e : Int} {R : List (Int × Int × Int)} (hm : 0 ≤ (evD EL ev).1) (he : e % sdU d = 0) (hR : HDc b ev e R) : ∀ (r : Nat) (a : Int), e - a ≤ r → 0 ≤ a → a ≤ e → a % sdU d = 0 → rtx EL (spN n d b ev a e ++ R) = spX n d b (evD EL ev).1 (evD EL ev).2.1 (evD EL ev).2.2 a e ++ rtx EL R := by
  obtain ⟨b1, b2, b3, _, b5, b6⟩ := BRs_b hb
  intro r
  induction r with
  | zero =>
    intro a hr a0 ae ha
    rw [spN_0 (by first | decide | omega), spX_0 (by first | decide | omega), List.nil_append, List.nil_append]
  | succ r ih =>
    intro a hr a0 ae ha
    by_cases z : a < e
    · obtain ⟨kb, n1, n2, n3, n4⟩ := nx_b hb a0 z ha he
      have bn := bar_n (by first | decide | omega) a0 (show a < nxF n d b a e by omega) n4
      have ihx := ih (nxF n d b a e) (by first | decide | omega) (by first | decide | omega) n2 n3
      rw [spN_u hb a0 ha he z, spX_u hb a0 ha he z, List.cons_append, rtx, ihx]
      -- what follows this note
      have h1 : (hdE (spN n d b ev (nxF n d b a e) e ++ R) ev = true ↔ nxF n d b a e < e) ∧ (hdB (spN n d b ev (nxF n d b a e) e ++ R) (a / b) = true ↔ ¬ nxF n d b a e % b = 0) := by
        by_cases y : nxF n d b a e < e
        · rw [spN_u hb (by first | decide | omega) n3 he y, List.cons_append]
          refine ⟨⟨fun _ => y, fun _ => decide_eq_true rfl⟩, ⟨fun h => bn.mp (of_decide_eq_true h), fun h => decide_eq_true (bn.mpr h)⟩⟩
        · have ee : nxF n d b a e = e := by omega
          rw [spN_0 y, List.nil_append]
          cases R with
          | nil =>
            have hR' : e % b = 0 := hR
            refine ⟨⟨fun h => absurd h (show ¬ false = true by decide), fun h => absurd h y⟩, ⟨fun h => absurd h (show ¬ false = true by decide), fun h => ?_⟩⟩
            rw [ee] at h; exact absurd hR' h
          | cons s ss =>
            obtain ⟨s1, s2⟩ := hR
            refine ⟨⟨fun h => absurd (of_decide_eq_true h) s1, fun h => absurd h y⟩, ⟨fun h => ?_, fun h => ?_⟩⟩
            · have h' : s.2.1 = a / b := of_decide_eq_true h
              exact bn.mp (by rw [ee]; omega)
            · have := bn.mpr h
              rw [ee] at this
              exact decide_eq_true (by first | decide | omega)
      show ntA (evD EL ev).1 (evD EL ev).2.1 (evD EL ev).2.2 (kvF n d b a e) ++ ((if 0 < (evD EL ev).1 ∧ hdE (spN n d b ev (nxF n d b a e) e ++ R) ev = true then [126] else []) ++ (32 :: ((if hdB (spN n d b ev (nxF n d b a e) e ++ R) (a / b) = true then [] else [124, 10]) ++ (spX n d b (evD EL ev).1 (evD EL ev).2.1 (evD EL ev).2.2 (nxF n d b a e) e ++ rtx EL R)))) = _
      have t1 : (if 0 < (evD EL ev).1 ∧ hdE (spN n d b ev (nxF n d b a e) e ++ R) ev = true then [(126 : Int)] else []) = (if nxF n d b a e < e ∧ ¬ (evD EL ev).1 = 0 then [126] else []) := by
        by_cases y : nxF n d b a e < e
        · by_cases y2 : (evD EL ev).1 = 0
          · rw [if_neg (fun q => by have := q.1; omega), if_neg (fun q => q.2 y2)]
          · rw [if_pos ⟨(by first | decide | omega), h1.1.mpr y⟩, if_pos ⟨y, y2⟩]
        · rw [if_neg (fun q => y (h1.1.mp q.2)), if_neg (fun q => y q.1)]
      have t2 : (if hdB (spN n d b ev (nxF n d b a e) e ++ R) (a / b) = true then [] else [(124 : Int), 10]) = (if nxF n d b a e % b = 0 then [124, 10] else []) := by
        by_cases y : nxF n d b a e % b = 0
        · rw [if_neg (fun q => h1.2.mp q y), if_pos y]
        · rw [if_pos (h1.2.mpr y), if_neg y]
      rw [t1, t2]
      simp only [List.append_assoc, List.cons_append]
    · rw [spN_0 z, spX_0 z, List.nil_append, List.nil_append]
/-- the text of spans -/
def txA (n d b u : Int) : List (Int × Int × Int × (Int → Int) × (Int → Int)) → List Int
  | [] => []
  | r :: rs => spX n d b r.2.2.1 r.2.2.2.1 r.2.2.2.2 (u * r.1) (u * r.2.1) ++ txA n d b u rs
theorem rtx_A {n d b u : Int} {EL : List (Int × Int × Int × (Int → Int) × (Int → Int))} (hb : BRs n d b) (hu : u = 128 ∨ u = 64 ∨ u = 32 ∨ u = 16) {R : List (Int × Int × Int)} : ∀ (rs : List (Int × Int × Int × (Int → Int) × (Int → Int))) (j p : Int), 0 ≤ j → 0 ≤ p → CHN p rs → (∀ i, 0 ≤ i → evD EL (j + i) = evD rs i) → (∀ r, r ∈ rs → 0 ≤ r.2.2.1) → HDc b (-2) (u * endN p rs) R → (∀ i, 0 ≤ i → HDc b i (u * endN p rs) R) → rtx EL (spA n d b u j rs ++ R) = txA n d b u rs ++ rtx EL R := by
  intro rs
  induction rs with
  | nil => intro j p _ _ _ _ _ _ _; rw [spA, txA, List.nil_append, List.nil_append]
  | cons r rs ih =>
    intro j p j0 p0 hc hD hm hR hR2
    obtain ⟨c1, c2, c3⟩ := hc
    have ihx := ih (j + 1) r.2.1 (by first | decide | omega) (by first | decide | omega) c3 (fun i i0 => by
      have := hD (i + 1) (by first | decide | omega)
      rw [evD, if_neg (by first | decide | omega), show i + 1 - 1 = i by omega, show j + (i + 1) = j + 1 + i by omega] at this
      exact this) (fun s hs => hm s (List.mem_cons_of_mem _ hs)) hR hR2
    have e0 : evD EL j = r.2.2 := by
      have := hD 0 (by first | decide | omega)
      rw [evD, if_pos rfl, show j + 0 = j by omega] at this
      exact this
    have pb : 0 ≤ u * r.1 ∧ u * r.1 ≤ u * r.2.1 ∧ u * r.1 < u * r.2.1 := by rcases hu with rfl | rfl | rfl | rfl <;> omega
    have nxt : HDc b j (u * r.2.1) (spA n d b u (j + 1) rs ++ R) := by
      cases rs with
      | nil => rw [spA, List.nil_append]; exact hR2 j j0
      | cons s ss =>
        obtain ⟨s1, s2, s3⟩ := c3
        have sb : 0 ≤ u * s.1 ∧ u * s.1 < u * s.2.1 ∧ u * s.1 = u * r.2.1 := by rw [s1]; rcases hu with rfl | rfl | rfl | rfl <;> omega
        rw [spA, spN_u hb sb.1 (u_sd hu) (u_sd hu) sb.2.1]
        exact ⟨by show ¬ j + 1 = j; omega, by show u * s.1 / b = u * r.2.1 / b; rw [sb.2.2]⟩
    rw [spA, List.append_assoc, rtx_s (ev := j) hb (by rw [e0]; exact hm r (List.mem_cons_self ..)) (u_sd hu) nxt (u * r.2.1 - u * r.1).toNat (u * r.1) (by first | decide | omega) pb.1 pb.2.1 (u_sd hu), ihx, txA, e0, List.append_assoc]
/-- what the notes of a span are like -/
theorem spN_o {n d b ev e : Int} (hb : BRs n d b) (he : e % sdU d = 0) (e1 : e ≤ 100 * b) : ∀ (r : Nat) (a : Int), e - a ≤ r → 0 ≤ a → a % sdU d = 0 → ∀ s, s ∈ spN n d b ev a e → s.1 = ev ∧ (0 ≤ s.2.1 ∧ s.2.1 ≤ 1000) ∧ (0 ≤ s.2.2 ∧ s.2.2 < 24) := by
  obtain ⟨b1, b2, b3, _, b5, b6⟩ := BRs_b hb
  intro r
  induction r with
  | zero =>
    intro a hr a0 ha s hs
    rw [spN_0 (by first | decide | omega)] at hs
    exact absurd hs (List.not_mem_nil)
  | succ r ih =>
    intro a hr a0 ha s hs
    by_cases z : a < e
    · obtain ⟨kb, n1, n2, n3, n4⟩ := nx_b hb a0 z ha he
      rw [spN_u hb a0 ha he z] at hs
      rcases List.mem_cons.mp hs with h | h
      · rw [h]
        have q0 : 0 ≤ a / b := Int.ediv_nonneg a0 (by first | decide | omega)
        have q1 := (Int.ediv_lt_iff_lt_mul (show 0 < b by omega) (a := a) (b := 100)).mpr (by first | decide | omega)
        exact ⟨rfl, ⟨q0, by show a / b ≤ 1000; omega⟩, kb⟩
      · exact ih (nxF n d b a e) (by first | decide | omega) (by first | decide | omega) n3 s h
    · rw [spN_0 z] at hs
      exact absurd hs (List.not_mem_nil)
theorem spA_o {n d b u M : Int} (hb : BRs n d b) (hu : u = 128 ∨ u = 64 ∨ u = 32 ∨ u = 16) (hM : u * M ≤ 100 * b) : ∀ (rs : List (Int × Int × Int × (Int → Int) × (Int → Int))) (j p : Int), 0 ≤ p → CHN p rs → endN p rs ≤ M → ∀ s, s ∈ spA n d b u j rs → (j ≤ s.1 ∧ s.1 < j + (rs.length : Int)) ∧ (0 ≤ s.2.1 ∧ s.2.1 ≤ 1000) ∧ (0 ≤ s.2.2 ∧ s.2.2 < 24) := by
  intro rs
  induction rs with
  | nil => intro j p _ _ _ s hs; exact absurd hs (List.not_mem_nil)
  | cons r rs ih =>
    intro j p p0 hc hE s hs
    obtain ⟨c1, c2, c3⟩ := hc
    have ce := CHN_e rs r.2.1 c3
    have hE' : endN r.2.1 rs ≤ M := hE
    have pb : 0 ≤ u * r.1 ∧ u * r.2.1 ≤ u * M := by rcases hu with rfl | rfl | rfl | rfl <;> omega
    rw [List.length_cons]
    rw [spA] at hs
    rcases List.mem_append.mp hs with h | h
    · have := spN_o (ev := j) hb (u_sd hu) (show u * r.2.1 ≤ 100 * b by omega) (u * r.2.1 - u * r.1).toNat (u * r.1) (by first | decide | omega) pb.1 (u_sd hu) s h
      exact ⟨(by first | decide | omega), this.2⟩
    · have := ih (j + 1) r.2.1 (by first | decide | omega) c3 hE' s h
      exact ⟨(by first | decide | omega), this.2⟩
/-- a note takes four letters at least -/
theorem ntA_3 {m v : Int} {st al : Int → Int} (hm : 0 ≤ m) : 3 ≤ (ntA m st al v).length := by
  unfold ntA
  have dl := decT_l (v := zshl 1 (v / 3))
  simp only [List.length_append, List.length_cons]
  by_cases z : m = 0
  · rw [if_pos z]
    simp only [List.length_cons, List.length_nil]
    omega
  · have : 2 ≤ (chT st al m.toNat 0).length := by
      obtain ⟨k, hk⟩ : ∃ k, m.toNat = k + 1 := ⟨m.toNat - 1, (by first | decide | omega)⟩
      rw [hk, chT]
      unfold pitT
      simp only [List.length_append, List.length_cons, List.length_nil]
      omega
    omega
theorem rtx_l {EL : List (Int × Int × Int × (Int → Int) × (Int → Int))} : ∀ (L : List (Int × Int × Int)), (∀ s, s ∈ L → 0 ≤ (evD EL s.1).1) → 4 * L.length ≤ (rtx EL L).length := by
  intro L
  induction L with
  | nil => intro _; exact Nat.zero_le _
  | cons r rs ih =>
    intro h
    have i := ih (fun s hs => h s (List.mem_cons_of_mem _ hs))
    have t := ntA_3 (m := (evD EL r.1).1) (v := r.2.2) (st := (evD EL r.1).2.1) (al := (evD EL r.1).2.2) (h r (List.mem_cons_self ..))
    rw [rtx, List.length_cons]
    simp only [List.length_append, List.length_cons]
    omega
end

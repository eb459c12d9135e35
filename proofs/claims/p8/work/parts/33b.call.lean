section
/-! ===== the call of down, both sides ===== -/
def WI (F : zF) (B : zB) (Fm : zF) (Bm : zB) : Prop := F 0 1 1 = Fm 14 0 71 ∧ (0 ≤ F 0 1 1 ∧ F 0 1 1 ≤ 20480) ∧ ∀ j, 0 ≤ j → j < F 0 1 1 → B 0 1 0 j = Bm 14 0 70 j % 256
theorem IOp_f {K : zK} {F F' : zF} {B B' : zB} {Fm Fm' : zF} {Bm Bm' : zB} (h : IOp K F B Fm Bm) (f8 : F' 12 0 8 = F 12 0 8) (f9 : F' 12 0 9 = F 12 0 9) (f : ∀ o k, F' 8 o k = F 8 o k) (b : ∀ o k x, B' 8 o k x = B 8 o k x) (g : Fm' 14 0 72 = Fm 14 0 72) (m : ∀ k x, k = 73 ∨ (75 ≤ k ∧ k ≤ 81) → Bm' 14 0 k x = Bm 14 0 k x) : IOp K F' B' Fm' Bm' := by
  obtain ⟨h1, h2, h3, h4⟩ := h
  unfold IOp
  rw [f8, f9, g]
  refine ⟨h1, h2, h3, ?_⟩
  rcases h4 with h4 | ⟨a, c, e⟩
  · exact Or.inl h4
  · exact Or.inr ⟨a, c, OPN_f e (f _ _) (fun k x => b _ k x) m⟩
theorem P_dw {K : zK} {Km : Nat} {x w : Int} {F : zF} {B : zB} {Fm : zF} {Bm : zB} (hK : KKq K) (hKm : 70000000000 < Km) (h12 : 0 < K.2 12) (hx : r32 x) (f2 : F 12 0 2 = 1) (f6 : F 12 0 6 = 0) (f4 : F 7 0 4 = 0) (hw : Fm 14 0 6 = w ∧ 0 ≤ w ∧ w < 3) (hI : IOp K F B Fm Bm) (hW : WI F B Fm Bm) : ∃ r F' B' Fm' Bm', f_S_down K 0 x F B = some (r, F', B') ∧ f_M_down Km x Fm Bm = some (r, Fm', Bm') ∧ (-2 ≤ r ∧ r ≤ 3000) ∧ dnF F F' ∧ wvB B B' ∧ dnG w Fm Fm' ∧ dnH w Bm Bm' ∧ IOp K F' B' Fm' Bm' ∧ WI F' B' Fm' Bm' := by
  have hI' := hI
  obtain ⟨⟨i1, i2⟩, _, _, i5⟩ := hI'
  have out : f_S_down K 0 x F B = some (-1, F, B) → f_M_down Km x Fm Bm = some (-1, Fm, Bm) → ∃ r F' B' Fm' Bm', f_S_down K 0 x F B = some (r, F', B') ∧ f_M_down Km x Fm Bm = some (r, Fm', Bm') ∧ (-2 ≤ r ∧ r ≤ 3000) ∧ dnF F F' ∧ wvB B B' ∧ dnG w Fm Fm' ∧ dnH w Bm Bm' ∧ IOp K F' B' Fm' Bm' ∧ WI F' B' Fm' Bm' := fun a b => ⟨_, _, _, _, _, a, b, (by first | decide | omega), fun _ _ _ _ => rfl, fun _ _ _ _ _ => rfl, fun _ _ _ _ _ => rfl, fun _ _ _ _ _ _ => rfl, hI, hW⟩
  have grid : f_S_down K 0 x F B = f_S_down_28 K 0 x (if x = 4 ∨ x = 8 ∨ x = 16 ∨ x = 32 then 1 else 0) F B := by
    unfold f_S_down f_S_down_23
    rw [if_pos hx]
    by_cases a : x = 4
    · rw [if_pos a, if_pos (Or.inl a)]
    · rw [if_neg a]
      by_cases b : x = 8
      · rw [if_pos b, if_pos (by first | decide | omega)]
      · rw [if_neg b]
        by_cases c : x = 16
        · rw [if_pos c, if_pos (by first | decide | omega)]
        · rw [if_neg c]
          by_cases d : x = 32
          · rw [if_pos d, if_pos (by first | decide | omega)]
          · rw [if_neg d, if_neg (by first | decide | omega)]
  rcases i5 with ⟨a, c⟩ | ⟨a, c, hO⟩
  · refine out ?_ ?_
    · rw [grid]
      unfold f_S_down_28 f_S_down_50
      rw [if_pos ⟨(by first | decide | omega), h12⟩, if_pos a]
    · unfold f_M_down f_M_down_40
      rw [c, if_pos (by decide), if_pos rfl]
  · have hO' := hO
    obtain ⟨⟨o0, o1, o2, o3, o4, o5, o6⟩, ⟨p1, p2, p3⟩, q1, q2, q3, q4⟩ := hO'
    generalize eo : F 12 0 8 = o at *
    by_cases n0 : F 8 o 2 = 0
    · refine out ?_ ?_
      · rw [grid]
        unfold f_S_down_28 f_S_down_50
        rw [if_pos ⟨(by first | decide | omega), h12⟩, eo, if_neg (by first | decide | omega), if_pos ⟨a, i2⟩, if_pos (by unfold r32; omega), if_pos n0]
      · unfold f_M_down f_M_down_40
        rw [c, if_pos (by decide), if_neg (by decide), if_pos (by unfold r32; omega), if_pos (by first | decide | omega)]
    · have start : f_S_down K 0 x F B = if x = 4 ∨ x = 8 ∨ x = 16 ∨ x = 32 then zbind (f_Scribe_writeDown K 0 o x 1 F B) (fun r15 F15 B15 => some (r15, F15, B15)) else some (-1, F, B) := by
        rw [grid]
        have o1' : (0 : Int) ≤ 1 ∧ (1 : Int) < K.2 0 := by have := hK.1; omega
        unfold f_S_down_28 f_S_down_50
        rw [if_pos ⟨(by first | decide | omega), h12⟩, eo, if_neg (by first | decide | omega), if_pos ⟨a, i2⟩, if_pos (by unfold r32; omega), if_neg n0]
        by_cases g : x = 4 ∨ x = 8 ∨ x = 16 ∨ x = 32
        · rw [if_pos g, if_pos g, if_pos (by decide), if_neg (by decide), f6, if_pos ⟨(by first | decide | omega), hK.2.1⟩, f2, if_pos o1']
        · rw [if_neg g, if_neg g, if_pos (by decide), if_pos rfl]
      have startM : f_M_down Km x Fm Bm = if x = 4 ∨ x = 8 ∨ x = 16 ∨ x = 32 then f_M_down_42 Km x Fm Bm else some (-1, Fm, Bm) := by
        unfold f_M_down f_M_down_40
        rw [c, if_pos (by decide), if_neg (by decide), if_pos (by unfold r32; omega), if_neg (by first | decide | omega), if_pos hx]
        by_cases a : x = 4
        · rw [if_pos a, if_pos (Or.inl a)]
        · rw [if_neg a]
          by_cases b : x = 8
          · rw [if_pos b, if_pos (by first | decide | omega)]
          · rw [if_neg b]
            by_cases c : x = 16
            · rw [if_pos c, if_pos (by first | decide | omega)]
            · rw [if_neg c]
              by_cases d : x = 32
              · rw [if_pos d, if_pos (by first | decide | omega)]
              · rw [if_neg d, if_neg (by first | decide | omega)]
      by_cases g : x = 4 ∨ x = 8 ∨ x = 16 ∨ x = 32
      · have hb : BRs (Bm 14 0 73 4) (Bm 14 0 73 5) (512 / Bm 14 0 73 5 * Bm 14 0 73 4) := ⟨o4.2, o5.2, rfl⟩
        have dq : DTq x (Bm 14 0 73 1) (F 8 o 2) (fun i => Bm 14 0 79 i) (fun i => Bm 14 0 80 i) (fun i => Bm 14 0 77 i) (fun i => Bm 14 0 75 i) := ⟨g, o1.2, ⟨(by first | decide | omega), p3⟩, fun i a b => by have := q2 i a b; exact ⟨by show 0 ≤ Bm 14 0 75 i ∧ Bm 14 0 75 i ≤ 7; omega, this.2.2.1, this.2.2.2.2⟩, q3⟩
        have nu : ∀ k, 0 ≤ k → k < Bm 14 0 73 0 → zmax (B 8 o 3 k) 0 = Bm 14 0 81 k ∧ r32 (B 8 o 3 k) ∧ 0 ≤ Bm 14 0 81 k ∧ Bm 14 0 81 k ≤ 3 := fun k a b => by
          obtain ⟨e1, e2⟩ := q4 k a b
          rw [e2]
          unfold zmax
          refine ⟨?_, by unfold r32; omega, ?_⟩
          · by_cases z : B 8 o 3 k < 0
            · rw [if_pos z, if_neg (by first | decide | omega)]
            · rw [if_neg z, if_pos (by first | decide | omega)]
          · split <;> omega
        obtain ⟨r, Fm', Bm', U, Bx, y1, y2, y3, y4, y5⟩ := M_down (Km := Km) (K := K) (o := o) (f := Bm 14 0 73 2) (w := w) (g := x) (D := Bm 14 0 73 1) (N := F 8 o 2) (nb := fun k => Bm 14 0 81 k) (mi := Bm 14 0 73 3) (te := Bm 14 0 73 6) (h := Bm 14 0 73 0) (F := Fm) (B := Bm) hK.2.1 hK.2.2.1 (by have := hK.2.2.2; omega) hKm hb ⟨a, i2⟩ o2.2 (by first | decide | omega) (by first | decide | omega) o0.2 dq (fun i a b => (q2 i a b).1.2) hw rfl rfl rfl rfl rfl rfl rfl p1.symm (fun i a b => ⟨rfl, rfl, rfl, rfl⟩) (fun k a b => rfl) (fun i a b => (nu _ (q2 i a b).1.1 (q2 i a b).1.2).2.2)
        obtain ⟨r', F', B', z1, z2, z3, z4⟩ := C_down (K := K) (mi := Bm 14 0 73 3) (te := Bm 14 0 73 6) (F := F) (B := B) hK hb dq y4 ⟨a, i2⟩ o2.2 (by first | decide | omega) (by first | decide | omega) f4 o1.1 o2.1 o3.1 o4.1 o5.1 o6.1 rfl (fun i a b => by have := q1 i a b; exact ⟨this.1, this.2.2.1, this.2.2.2.2⟩) (fun i a b => nu _ (q2 i a b).1.1 (q2 i a b).1.2)
        have fin : r' = r ∧ (-2 ≤ r ∧ r ≤ 3000) ∧ WI F' B' Fm' Bm' := by
          rcases y5 with ⟨c1, y5⟩ | ⟨c1, y5, y6⟩
          · rcases z4 with ⟨_, _, z4⟩ | ⟨c2, _⟩
            · rcases y5 with ⟨l1, l2, l3, l4⟩ | ⟨l1, l2, l3⟩
              · rcases z4 with ⟨t1, t2, t3, t4⟩ | ⟨t1, _⟩
                · refine ⟨(by first | decide | omega), (by first | decide | omega), (by first | decide | omega), (by first | decide | omega), fun j j0 j1 => ?_⟩
                  have e1 := l4 j.toNat (by first | decide | omega)
                  have e2 := t4 j.toNat (by first | decide | omega)
                  rw [show ((j.toNat : Nat) : Int) = j by omega] at e1 e2
                  rw [e1, e2]
                · omega
              · rcases z4 with ⟨t1, _⟩ | ⟨t1, t2, t3⟩
                · omega
                · exact ⟨(by first | decide | omega), (by first | decide | omega), (by first | decide | omega), (by first | decide | omega), fun j j0 j1 => (by first | decide | omega)⟩
            · omega
          · rcases z4 with ⟨c2, _⟩ | ⟨_, z4, z5, _⟩
            · omega
            · exact ⟨(by first | decide | omega), (by first | decide | omega), (by first | decide | omega), (by first | decide | omega), fun j j0 j1 => (by first | decide | omega)⟩
        obtain ⟨rfl, rb, hW'⟩ := fin
        refine ⟨r', F', B', Fm', Bm', by rw [start, if_pos g, z1, zb_s], by rw [startM, if_pos g, y1], rb, z2, z3, y2, y3, ?_, hW'⟩
        exact IOp_f hI (z2 12 0 8 (by first | decide | omega)) (z2 12 0 9 (by first | decide | omega)) (fun o k => z2 8 o k (by first | decide | omega)) (fun o k x => z3 8 o k x (by first | decide | omega)) (y2 14 0 72 (by first | decide | omega) (by first | decide | omega)) (fun k x hk => y3 14 0 k x (by first | decide | omega) (by first | decide | omega))
      · exact out (by rw [start, if_neg g]) (by rw [startM, if_neg g])
end

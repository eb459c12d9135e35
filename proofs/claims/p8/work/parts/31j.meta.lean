section
/-! ===== a meta event, both sides ===== -/
theorem HD_t {o : Int} {F F' : zF} {B : zB} {Fm Fm' : zF} {Bm : zB} (h : HD o F B Fm Bm) (f : tkF o F F') (g : tkG Fm Fm') : HD o F' B Fm' Bm := by
  unfold HD at *
  rw [f 8 o 12 (by first | decide | omega), f 8 o 13 (by first | decide | omega), f 8 o 14 (by first | decide | omega), g 14 0 91 (by first | decide | omega), g 14 0 92 (by first | decide | omega), g 14 0 93 (by first | decide | omega)]
  exact h
theorem tk_mF {o : Int} {F F' : zF} (f : tkF o F F') : mtF o F F' := fun c y k n => f c y k (by first | decide | omega)
theorem tk_mG {F F' : zF} (f : tkG F F') : mtG F F' := fun c y k n => f c y k (by first | decide | omega)
theorem SK_meta {Km : Nat} {a n w : Int} (hn : 0 ≤ n ∧ n < 268435456) : SKW Km n (fun m k F B => f_M_meta_18 Km m k a n w F B) (fun F B => f_M_meta_42 Km a n w F B) := by
  refine ⟨fun m k F B k0 k1 g => ?_, fun m k F B k0 k1 k2 => ?_, fun m k F B k0 k1 g => ?_⟩
  · show f_M_meta_18 Km (m + 1) k a n w F B = _
    rw [f_M_meta_18, if_pos (by unfold r32; omega), if_pos (by unfold r32; omega), if_neg (by first | decide | omega), L_good g, zb_s, if_pos (by decide), if_neg (by decide)]
  · show f_M_meta_18 Km (m + 1) k a n w F B = _
    rw [f_M_meta_18, if_pos (by unfold r32; omega), if_pos (by unfold r32; omega), if_pos (by first | decide | omega)]
  · show f_M_meta_18 Km (m + 1) k a n w F B = _
    rw [f_M_meta_18, if_pos (by unfold r32; omega), if_pos (by unfold r32; omega)]
    by_cases z : n ≤ k
    · rw [if_pos z]
    · have e : f_M_good Km F B = some (0, F, B) := by
        unfold f_M_good f_M_good_12
        rw [g, if_pos (by decide), if_neg (by decide), if_pos (by decide)]
      rw [if_neg z, e, zb_s, if_pos (by decide), if_pos rfl]
theorem L_42X {Km : Nat} {o a n w : Int} {F : zF} {Fm : zF} {Bm : zB} (x : RX o F Fm) : f_M_meta_42 Km a n w Fm Bm = some (0, Fm, Bm) := by
  unfold f_M_meta_42
  rw [L_goodX x, zb_s, if_pos (by decide), if_pos rfl]
theorem L_18X {Km m : Nat} {o a n w : Int} {F : zF} {Fm : zF} {Bm : zB} (hn : 0 ≤ n ∧ n < 268435456) (x : RX o F Fm) : f_M_meta_18 Km (m + 1) 0 a n w Fm Bm = some (0, Fm, Bm) := by
  rw [f_M_meta_18, if_pos (by decide), if_pos (by unfold r32; omega)]
  by_cases z : n ≤ 0
  · rw [if_pos z, L_42X x]
  · rw [if_neg z, L_goodX x, zb_s, if_pos (by decide), if_pos rfl, L_42X x]
def MTo (o a : Int) (F : zF) (B : zB) (Fm : zF) (Bm : zB) : Int → zF → zB → Int → zF → zB → Prop := fun _ F' B' r' Fm' Bm' => mtF o F F' ∧ mtB o B B' ∧ mtG Fm Fm' ∧ mtH Bm Bm' ∧ HD o F' B' Fm' Bm' ∧ (r' = 0 ∨ r' = 1) ∧ ((∃ a', a < a' ∧ RG o a' F' Fm' ∧ 0 ≤ F' 8 o 6 ∧ F' 8 o 11 = r') ∨ (RX o F' Fm' ∧ F' 8 o 6 ≤ F' 0 0 1))
theorem P_mt {K : zK} {Km : Nat} {o a : Int} {F : zF} {B : zB} {Fm : zF} {Bm : zB} (h0 : 2 ≤ K.2 0) (ho : 0 ≤ o ∧ o < K.2 8) (hK : 10 ≤ K.1) (hKm : 4000 ≤ Km) (hO : RO o F B Fm Bm) (hG : RG o a F Fm) (h6 : 0 ≤ F 8 o 6) (hd : HD o F B Fm Bm) : zP (f_SoundFile_loadMeta K o F B) (f_M_meta Km Fm Bm) (MTo o a F B Fm Bm) := by
  unfold f_SoundFile_loadMeta f_M_meta
  rw [if_pos ho]
  have a0 := hG.2.2.1.2.2.1
  refine P_bind (P_data (Km := Km) h0 ho a0 hO (Or.inl ⟨hG, h6⟩)) (fun w F1 B1 w' G1 D1 y => ?_)
  obtain ⟨rfl, rfl, y3, y4, y5, y6, y7, y8⟩ := y
  have hO1 := RO_t hO y3 y4
  have hd1 := HD_t hd y3 y4
  refine P_bind (P_dlt (Km := Km) h0 ho hK (by first | decide | omega) (by first | decide | omega) hO1 y7) (fun n F2 B2 n' G2 D2 u => ?_)
  obtain ⟨rfl, rfl, u3, u4, u5, u6, u7⟩ := u
  have hO2 := RO_t hO1 u3 u4
  have hd2 := HD_t hd1 u3 u4
  have f2 := tkF_t y3 u3
  have g2 := tkG_t y4 u4
  rw [if_pos (show r32 n by unfold r32; omega)]
  obtain ⟨m, em⟩ : ∃ m, Km = m + 1 := ⟨Km - 1, (by first | decide | omega)⟩
  rcases u7 with ⟨a1, lt1, g, g6, rfl, gg⟩ | ⟨x, x6⟩
  · obtain ⟨_, rfl, wl⟩ := y8 gg
    obtain ⟨F3, G3, e1, e2, s3, s4, s5⟩ := P_skp (K := K) (Bm := D2) (SK_meta (Km := Km) (a := a1) (n := n') (w := w') u6) (m := Km) (by first | decide | omega) ho (by first | decide | omega) hO2 g g6
    rw [e1, zb_s, g.2.2.1.1, g.2.2.1.2.1]
    have e2' : f_M_meta_18 Km Km 0 a1 n' w' G2 D2 = f_M_meta_42 Km a1 n' w' G3 D2 := e2
    rw [e2']
    have hO3 := RO_t hO2 s3 s4
    have hd3 := HD_t hd2 s3 s4
    have f3 := tkF_t f2 s3
    have g3 := tkG_t g2 s4
    rcases s5 with ⟨q, q6, ql⟩ | ⟨x, x6⟩
    · have h4 := hO3.1
      obtain ⟨n1, n2, n3⟩ := hO3.2.1
      have q3 := q.2.2.2.2.2.1
      have qa := q.2.2.1
      have qe := q.2.2.2.2.2.2.2
      have ga := g.2.2.1
      have tb : ∀ y, tmB D2 y = B2 0 0 0 y := fun y => by rw [hO3.2.2.2]
      have bb := hO3.2.2.1
      rw [q.1, if_pos (show r32 0 by decide), if_pos (show (0 : Int) = 0 from rfl), h4, if_neg (by decide), if_pos (show (0 : Int) ≤ 0 ∧ (0 : Int) < K.2 0 by omega), C_atF (by first | decide | omega) (by first | decide | omega) (by first | decide | omega), zb_s, h4, if_pos (show (0 : Int) ≤ 0 ∧ (0 : Int) < K.2 0 by omega), C_atF (by first | decide | omega) (by first | decide | omega) (by first | decide | omega), zb_s]
      have e42 : f_M_meta_42 Km a1 n' w' G3 D2 = f_M_meta_82 Km (if n' ≤ 0 then 0 else tmB D2 a1) a1 n' w' (if n' ≤ 1 then 0 else tmB D2 (a1 + 1)) G3 D2 := by
        unfold f_M_meta_42 f_M_meta_64
        rw [L_good q.2.1, zb_s, if_pos (show r32 1 by decide), if_neg (show ¬ (1 : Int) = 0 by decide), if_pos (show r32 n' by unfold r32; omega), if_pos (show r32 n' by unfold r32; omega)]
        by_cases z : n' ≤ 0
        · rw [if_pos z, if_pos (by first | decide | omega), if_pos z, if_pos (by first | decide | omega)]
        · rw [if_neg z, L_byteA (by first | decide | omega) (by first | decide | omega), zb_s, if_neg z]
          by_cases z1 : n' ≤ 1
          · rw [if_pos z1, if_pos (by first | decide | omega), if_pos z1]
          · rw [if_neg z1, if_pos (by first | decide | omega), if_neg z1, L_byteA (by first | decide | omega) (by first | decide | omega), zb_s]
      rw [e42]
      have key := P_mb (K := K) (Km := Km) (o := o) (a := a1) (n := n') (w := w') (c1 := if a1 < F3 0 0 1 then B2 0 0 0 a1 else -1) (c2 := if a1 + 1 < F3 0 0 1 then B2 0 0 0 (a1 + 1) else -1) (m1 := if n' ≤ 0 then 0 else tmB D2 a1) (m2 := if n' ≤ 1 then 0 else tmB D2 (a1 + 1)) (t := tmB D2 (a1 + 2)) (F := F3) (B := B2) (Fm := G3) (Bm := D2) ho h4 (by first | decide | omega) u6 y6 (fun z => by
          rw [if_pos (show a1 < F3 0 0 1 by omega), if_pos (show a1 + 1 < F3 0 0 1 by omega), if_neg (show ¬ n' ≤ 0 by omega), if_neg (show ¬ n' ≤ 1 by omega), tb, tb]
          exact ⟨rfl, rfl, bb _, bb _⟩) (fun z => by
          refine ⟨?_, fun Fm => L_byteA (by first | decide | omega) (by first | decide | omega), ?_⟩
          · rw [C_atF (by first | decide | omega) (by first | decide | omega) (by first | decide | omega), if_pos (by first | decide | omega), tb]
          · rw [tb]; exact bb _) hd3
      obtain ⟨r, F4, B4, r', G4, D4, e3, e4, k1, k2, k3, k4, k5, k6, k7⟩ := key
      refine ⟨r, F4, B4, r', G4, D4, e3, e4, fun c y k z => ?_, k2, fun c y k z => ?_, k4, k5, k7, Or.inl ⟨a1 + n', (by first | decide | omega), ?_, ?_, k6⟩⟩
      · rw [k1 c y k (by first | decide | omega), f3 c y k (by first | decide | omega)]
      · rw [k3 c y k (by first | decide | omega), g3 c y k (by first | decide | omega)]
      · exact RG_f q (k1 8 o 5 (by first | decide | omega)) (k1 8 o 6 (by first | decide | omega)) (k1 8 o 7 (by first | decide | omega)) (k3 14 0 17 (by first | decide | omega)) (k3 14 0 89 (by first | decide | omega)) (k3 14 0 90 (by first | decide | omega)) (k3 14 0 3 (by first | decide | omega))
      · rw [k1 8 o 6 (by first | decide | omega)]; exact q6
    · rw [L_42X x]
      have h7 : r32 (F3 8 o 7) ∧ ¬ F3 8 o 7 = 0 := by
        obtain ⟨x7, x17, x18, _⟩ := x
        unfold r32
        omega
      rw [if_pos h7.1, if_neg h7.2]
      exact P_some ⟨tk_mF f3, fun _ _ _ _ _ => rfl, tk_mG g3, fun _ _ _ _ _ => rfl, hd3, Or.inl rfl, Or.inr ⟨x, x6⟩⟩
  · have e : f_M_meta_18 Km Km 0 (G2 14 0 89) n' w' G2 D2 = some (0, G2, D2) := by
      have := L_18X (Km := Km) (m := m) (a := G2 14 0 89) (n := n') (w := w') (Bm := D2) u6 x
      rw [← em] at this
      exact this
    have h7 : r32 (F2 8 o 7) ∧ ¬ F2 8 o 7 = 0 := by
      obtain ⟨x7, x17, x18, _⟩ := x
      unfold r32
      omega
    rw [C_skipX ho (by first | decide | omega) x, zb_s, e, if_pos h7.1, if_neg h7.2]
    exact P_some ⟨tk_mF f2, fun _ _ _ _ _ => rfl, tk_mG g2, fun _ _ _ _ _ => rfl, hd2, Or.inl rfl, Or.inr ⟨x, x6⟩⟩
end

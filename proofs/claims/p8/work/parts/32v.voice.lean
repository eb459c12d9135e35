section
/-! ===== the reference writes a voice whole ===== -/
theorem M_plc {Km : Nat} {u w v M : Int} {EL : List (Int × Int × Int × (Int → Int) × (Int → Int))} {F : zF} {B : zB} (hKm : 812851200 < Km) (v0 : 0 ≤ v ∧ v < 4) (w0 : 0 ≤ w ∧ w < 3) (hu : u = 128 ∨ u = 64 ∨ u = 32 ∨ u = 16) (hM : u * M ≤ 400000) (el : (EL.length : Int) ≤ 1000) (hc : CHN 0 EL) (hE : endN 0 EL ≤ M) (h12 : B 13 w 12 v = (EL.length : Int)) (hv : EVn u w v B 0 EL) : ∃ F' B', f_M_places Km w v F B = some (0, F', B') ∧ (∀ c y k, ¬ (c = 14 ∧ y = 0 ∧ k ≤ 1) → F' c y k = F c y k) ∧ F' 14 0 0 = nu (X5 * (u * endN 0 EL)) ∧ F' 14 0 1 = de (X5 * (u * endN 0 EL)) ∧ (∀ c i k y, ¬ (c = 13 ∧ i = w ∧ (k = 14 ∨ k = 15) ∧ 1000 * v ≤ y ∧ y < 1000 * v + 1000) → B' c i k y = B c i k y) ∧ PLn u w v B' 0 EL := by
  unfold f_M_places
  rw [L_isR hKm (p := 0) ⟨by decide, ⟨WW, by decide⟩, by decide, by decide⟩ (by decide), zb_s]
  obtain ⟨F1, B1, y1, y2, y3, y4, y5, y6⟩ := M_pl8 (Km := Km) (u := u) (w := w) (v := v) (M := M) hKm v0 w0 hu hM EL Km 0 0 (fr F 0) B (by first | decide | omega) (by first | decide | omega) (by first | decide | omega) (by first | decide | omega) hc hE (by rw [h12]; omega) (by rw [fr_0, Int.mul_zero, Int.mul_zero]) (by rw [fr_1, Int.mul_zero, Int.mul_zero]) hv
  exact ⟨F1, B1, y1, fun c y k n => by rw [y2 c y k n, fr_n n], y3, y4, fun c i k y n => y5 c i k y (by first | decide | omega), y6⟩
theorem M_dv {Km : Nat} {g v w n d b last cl num : Int} {EL : List (Int × Int × Int × (Int → Int) × (Int → Int))} {T : List Int} {F : zF} {B : zB} (hKm : 70000000000 < Km) (v0 : 0 ≤ v ∧ v < 4) (hw : F 14 0 6 = w ∧ 0 ≤ w ∧ w < 3) (hb : BRs n d b) (hg : g = 4 ∨ g = 8 ∨ g = 16 ∨ g = 32) (hl : 0 ≤ last ∧ 512 / g * last ≤ 100 * b) (el : (EL.length : Int) ≤ 800) (hc : CHN 0 EL) (hE : endN 0 EL ≤ last) (h12 : B 13 w 12 v = (EL.length : Int)) (m4 : F 13 w 4 = n) (m5 : F 13 w 5 = d) (hv : EVn (512 / g) w v B 0 EL) (h8 : B 13 w 8 v = cl ∧ (cl = 0 ∨ cl = 1)) (h9 : B 13 w 9 v = num ∧ 0 ≤ num ∧ num ≤ 3) (ht : T.length ≤ 3000) (hT : TM (F, B) T F B) : ∃ F' B', f_M_downVoice Km v last g F B = some (0, F', B') ∧ dvG w F F' ∧ dvM w v B B' ∧ ((TM (F', B') (T ++ (vHd v cl num ++ (vNt n d b (512 / g) last EL ++ [125, 10]))) F' B' ∧ (T ++ (vHd v cl num ++ (vNt n d b (512 / g) last EL ++ [125, 10]))).length ≤ 4000) ∨ ((3000 < F' 14 0 71 ∧ F' 14 0 71 ≤ 5000) ∧ 3000 < (T ++ (vHd v cl num ++ (vNt n d b (512 / g) last EL ++ [125, 10]))).length)) := by
  obtain ⟨b1, b2, b3, _, b5, b6⟩ := BRs_b hb
  obtain ⟨ug, hu⟩ := gu hg
  generalize eu : 512 / g = u at *
  have xa : ∀ y : Int, X5 * y = 1587600 * y := fun _ => rfl
  have l1 := if_l (c := cl = 0) (x := 0)
  -- the head
  obtain ⟨F1, B1, e1, w1⟩ := M_strg (Km := Km) (s := 43) (U := [118, 111, 105, 99, 101, 32, 118]) (by first | decide | omega) (by decide) (by decide) (by decide) (by decide) (by first | decide | omega) hT
  obtain ⟨F2, B2, e2, w2⟩ := M_pt (Km := Km) (a := 97 + v) (by rw [List.length_append]; simp; omega) w1
  have f2 : F2 14 0 6 = w := by rw [w2.2.1 14 0 6 (by first | decide | omega)]; exact hw.1
  have g8 : B2 13 w 8 v = cl := by rw [w2.2.2 13 w 8 v (by first | decide | omega)]; exact h8.1
  obtain ⟨F3, B3, e3, w3⟩ : ∃ F3 B3, f_M_put_1 Km (if cl = 0 then 44 else 45) F2 B2 = some (0, F3, B3) ∧ TM (F, B) (T ++ [118, 111, 105, 99, 101, 32, 118] ++ [97 + v] ++ (if cl = 0 then [32, 116, 114, 101, 98, 108, 101, 32] else [32, 98, 97, 115, 115, 32])) F3 B3 := by
    by_cases z : cl = 0
    · rw [if_pos z, if_pos z]
      exact M_strg (by first | decide | omega) (by decide) (by decide) (by decide) (by decide) (by rw [List.length_append, List.length_append]; simp; omega) w2
    · rw [if_neg z, if_neg z]
      exact M_strg (by first | decide | omega) (by decide) (by decide) (by decide) (by decide) (by rw [List.length_append, List.length_append]; simp; omega) w2
  have l3 : ((if cl = 0 then [32, 116, 114, 101, 98, 108, 101, 32] else [32, 98, 97, 115, 115, 32]) : List Int).length ≤ 8 := by split <;> simp
  have f3 : F3 14 0 6 = w := by rw [w3.2.1 14 0 6 (by first | decide | omega)]; exact hw.1
  obtain ⟨F4, B4, e4, w4⟩ := M_dec (Km := Km) (v := num) (by first | decide | omega) (by first | decide | omega) (by simp only [List.length_append, List.length_singleton]; simp; omega) w3
  have dl := decT_l (v := num)
  obtain ⟨F5, B5, e5, w5⟩ := M_strg (Km := Km) (s := 46) (U := [32, 123]) (by first | decide | omega) (by decide) (by decide) (by decide) (by decide) (by simp only [List.length_append, List.length_singleton]; simp; omega) w4
  obtain ⟨F6, B6, e6, w6⟩ := M_pt (Km := Km) (a := 10) (by simp only [List.length_append, List.length_singleton]; simp; omega) w5
  have tx : T ++ [118, 111, 105, 99, 101, 32, 118] ++ [97 + v] ++ (if cl = 0 then [32, 116, 114, 101, 98, 108, 101, 32] else [32, 98, 97, 115, 115, 32]) ++ decT num ++ [32, 123] ++ [10] = T ++ vHd v cl num := by
    unfold vHd
    simp only [List.append_assoc, List.cons_append, List.nil_append]
  rw [tx] at w6
  have hl6 : (T ++ vHd v cl num).length ≤ 3030 := by
    rw [← tx]
    simp only [List.length_append, List.length_cons, List.length_nil]
    omega
  have F6n : ∀ c y k, ¬ (c = 14 ∧ y = 0 ∧ k = 71) → F6 c y k = F c y k := w6.2.1
  have B6n : ∀ c i k y, ¬ (c = 14 ∧ i = 0 ∧ k = 70) → B6 c i k y = B c i k y := w6.2.2
  have hv6 : EVn u w v B6 0 EL := EVn_f EL 0 hv (fun k y hk a b => B6n 13 w k y (by first | decide | omega)) (fun k y hk a b => B6n 13 w k y (by first | decide | omega))
  have ub : u * last ≤ 400000 := by omega
  have e0 := CHN_e EL 0 hc
  -- the places
  obtain ⟨F7, B7, p1, p2, p3, p4, p5, p6⟩ := M_plc (Km := Km) (u := u) (w := w) (v := v) (M := last) (F := F6) (B := B6) (by first | decide | omega) v0 hw.2 hu ub (by first | decide | omega) hc hE (by rw [B6n 13 w 12 v (by first | decide | omega)]; exact h12) hv6
  have hv7 : EVn u w v B7 0 EL := EVn_f EL 0 hv6 (fun k y hk a b => p5 13 w k y (by first | decide | omega)) (fun k y hk a b => p5 13 w k y (by first | decide | omega))
  have ueb : 0 ≤ u * endN 0 EL ∧ u * endN 0 EL ≤ u * last ∧ 0 ≤ u * last := by rcases hu with rfl | rfl | rfl | rfl <;> omega
  have x1 := xa (u * endN 0 EL)
  have x2 := xa (u * last)
  have frl : FR last g (X5 * (u * last)) := by
    refine ⟨(by first | decide | omega), ?_, hl.1, ?_⟩
    · rcases hg with rfl | rfl | rfl | rfl
      · exact ⟨203212800, by decide⟩
      · exact ⟨101606400, by decide⟩
      · exact ⟨50803200, by decide⟩
      · exact ⟨25401600, by decide⟩
    · rw [← eu]
      rcases hg with rfl | rfl | rfl | rfl
      · show last * 812851200 = 1587600 * (128 * last) * 4; omega
      · show last * 812851200 = 1587600 * (64 * last) * 8; omega
      · show last * 812851200 = 1587600 * (32 * last) * 16; omega
      · show last * 812851200 = 1587600 * (16 * last) * 32; omega
  have f7 : F7 14 0 6 = w := by rw [p2 14 0 6 (by first | decide | omega), F6n 14 0 6 (by first | decide | omega)]; exact hw.1
  have cmp := L_cmpR (K := Km) (F := F7) (B := B7) (by first | decide | omega) (FR_r (p := X5 * (u * endN 0 EL)) (by first | decide | omega)) frl (by first | decide | omega) (by first | decide | omega)
  have hd37 : f_M_downVoice Km v last g F B = f_M_downVoice_37 Km v last g (if cl = 0 then 44 else 45) F2 B2 := by
    unfold f_M_downVoice
    rw [e1, zb_s, e2, zb_s, f2, if_pos hw.2, if_pos v0, g8, if_pos (by unfold r32; omega)]
    by_cases z : cl = 0
    · rw [if_pos z, if_pos z]
    · rw [if_neg z, if_neg z]
  have f5 : F6 14 0 6 = w := by rw [F6n 14 0 6 (by first | decide | omega)]; exact hw.1
  have e9 : B3 13 w 9 v = num := by rw [w3.2.2 13 w 9 v (by first | decide | omega)]; exact h9.1
  rw [hd37]
  unfold f_M_downVoice_37
  rw [e3, zb_s, f3, if_pos hw.2, if_pos v0, e9, e4, zb_s, e5, zb_s, e6, zb_s, f5, if_pos hw.2, p1, zb_s, if_pos (by unfold r32; omega), p3, p4, cmp, zb_s]
  have b70 : ∀ j, B7 14 0 70 j = B6 14 0 70 j := fun j => p5 14 0 70 j (by first | decide | omega)
  have hT7 : TM (F7, B7) (T ++ vHd v cl num) F7 B7 := TM_c w6 (p2 14 0 71 (by first | decide | omega)) b70
  have ea : T ++ (vHd v cl num ++ (vNt n d b u last EL ++ [125, 10])) = T ++ vHd v cl num ++ (txA n d b u EL ++ (spX n d b 0 (fun _ => 0) (fun _ => 0) (u * endN 0 EL) (u * last) ++ (spX n d b 0 (fun _ => 0) (fun _ => 0) (u * last) (cbE b (u * last)) ++ [125, 10]))) := by
    unfold vNt
    simp only [List.append_assoc]
  rw [ea]
  by_cases z : endN 0 EL = last
  · have cE : ¬ X5 * (u * endN 0 EL) < X5 * (u * last) ∧ X5 * (u * endN 0 EL) = X5 * (u * last) := by rw [z]; omega
    rw [if_neg cE.1, if_pos cE.2, if_pos (by decide), if_pos (by decide)]
    obtain ⟨F8, B8, y1, y2, y3, y4⟩ := M_dvN (Km := Km) (u := u) (v := v) (w := w) (M := last) (EL := EL) (T := T ++ vHd v cl num) (F := F7) (B := B7) hKm v0 ⟨f7, hw.2⟩ hb hu ⟨hl.1, hl.2⟩ (by first | decide | omega) hc z (by rw [p5 13 w 12 v (by first | decide | omega), B6n 13 w 12 v (by first | decide | omega)]; exact h12) (by rw [p2 13 w 4 (by first | decide | omega), F6n 13 w 4 (by first | decide | omega)]; exact m4) (by rw [p2 13 w 5 (by first | decide | omega), F6n 13 w 5 (by first | decide | omega)]; exact m5) hv7 p6 (by first | decide | omega) hT7
    refine ⟨F8, B8, y1, fun c y k n n' => by rw [y2 c y k n n', p2 c y k (by first | decide | omega), F6n c y k (by first | decide | omega)], fun c i k y n n' => by rw [y3 c i k y n n', p5 c i k y (by first | decide | omega), B6n c i k y n'], ?_⟩
    rw [z, spX_0 (a := u * last) (e := u * last) (by first | decide | omega), List.nil_append]
    exact y4
  · have cE : X5 * (u * endN 0 EL) < X5 * (u * last) := by
      have : u * endN 0 EL < u * last := by rcases hu with rfl | rfl | rfl | rfl <;> omega
      omega
    have ll : 0 ≤ u * (last - endN 0 EL) ∧ u * last - u * endN 0 EL = u * (last - endN 0 EL) := by rcases hu with rfl | rfl | rfl | rfl <;> omega
    have x3 := xa (u * (last - endN 0 EL))
    rw [if_pos cE, if_pos (show r32 (-1) by decide), if_neg (by decide), p3, p4, L_minusR (by first | decide | omega) frl (FR_r (by first | decide | omega)) (by first | decide | omega) (by first | decide | omega), zb_s, show X5 * (u * last) - X5 * (u * endN 0 EL) = X5 * (u * (last - endN 0 EL)) by omega]
    have fn : ∀ c y k, ¬ (c = 14 ∧ y = 0 ∧ k ≤ 1) → fr F7 (X5 * (u * (last - endN 0 EL))) c y k = F7 c y k := fun c y k n => fr_n n
    have h12' : B7 13 w 12 v = (EL.length : Int) := by rw [p5 13 w 12 v (by first | decide | omega), B6n 13 w 12 v (by first | decide | omega)]; exact h12
    rw [fn 14 0 6 (by first | decide | omega), f7, if_pos hw.2, h12', if_pos (by first | decide | omega), fr_0, fr_1]
    generalize hx : 1000 * v + (EL.length : Int) = x
    generalize hB8 : zup4 (zup4 (zup4 (zup4 (zup4 (zup4 B7 13 w 12 v ((EL.length : Int) + 1)) 13 w 16 x (nu (X5 * (u * (last - endN 0 EL))))) 13 w 17 x (de (X5 * (u * (last - endN 0 EL))))) 13 w 18 x 0) 13 w 22 x 0) 13 w 21 x 0 = B8
    have bn : ∀ c i k y, ¬ (c = 13 ∧ i = w ∧ ((k = 12 ∧ y = v) ∨ ((k = 16 ∨ k = 17 ∨ k = 18 ∨ k = 21 ∨ k = 22) ∧ y = x))) → B8 c i k y = B7 c i k y := fun c i k y n => by rw [← hB8, zup4_v, if_neg (by first | decide | omega), zup4_v, if_neg (by first | decide | omega), zup4_v, if_neg (by first | decide | omega), zup4_v, if_neg (by first | decide | omega), zup4_v, if_neg (by first | decide | omega), zup4_v, if_neg (by first | decide | omega)]
    have b12 : B8 13 w 12 v = (EL.length : Int) + 1 := by rw [← hB8]; simp [zup4_v]
    have b16 : B8 13 w 16 x = nu (X5 * (u * (last - endN 0 EL))) := by rw [← hB8]; simp [zup4_v]
    have b17 : B8 13 w 17 x = de (X5 * (u * (last - endN 0 EL))) := by rw [← hB8]; simp [zup4_v]
    have b22 : B8 13 w 22 x = 0 := by rw [← hB8]; simp [zup4_v]
    have b21 : B8 13 w 21 x = 0 := by rw [← hB8]; simp [zup4_v]
    generalize hr : ((endN 0 EL, last, 0, (fun _ => 0), (fun _ => 0)) : Int × Int × Int × (Int → Int) × (Int → Int)) = r
    have r1 : r.1 = endN 0 EL := by rw [← hr]
    have r2 : r.2.1 = last := by rw [← hr]
    have r3 : r.2.2.1 = 0 := by rw [← hr]
    have r4 : r.2.2.2.1 = fun _ => 0 := by rw [← hr]
    have r5 : r.2.2.2.2 = fun _ => 0 := by rw [← hr]
    have lr : (EL ++ [r]).length = EL.length + 1 := by rw [List.length_append]; rfl
    obtain ⟨ca, cb⟩ := CHN_a EL 0 r hc r1 (by rw [r1, r2]; omega)
    rw [r2] at cb
    have hv8 : EVn u w v B8 0 (EL ++ [r]) := EVn_a EL 0 r (EVn_f EL 0 hv7 (fun k y hk a b => bn 13 w k y (by first | decide | omega)) (fun k y hk a b => bn 13 w k y (by first | decide | omega))) ⟨⟨by rw [r3]; omega, by rw [show 0 + (EL.length : Int) = (EL.length : Int) by omega, hx, r1, r2]; exact b16, by rw [show 0 + (EL.length : Int) = (EL.length : Int) by omega, hx, r1, r2]; exact b17, by rw [show 0 + (EL.length : Int) = (EL.length : Int) by omega, hx]; exact b22, by rw [show 0 + (EL.length : Int) = (EL.length : Int) by omega, hx, r3]; exact b21, fun k a b => by rw [r3] at b; omega⟩, trivial⟩
    obtain ⟨F9, B9, q1, q2, q3, q4, q5, q6⟩ := M_plc (Km := Km) (u := u) (w := w) (v := v) (M := last) (EL := EL ++ [r]) (F := fr F7 (X5 * (u * (last - endN 0 EL)))) (B := B8) (by first | decide | omega) v0 hw.2 hu ub (by first | decide | omega) ca (by first | decide | omega) (by rw [b12, lr]; omega) hv8
    have hv9 : EVn u w v B9 0 (EL ++ [r]) := EVn_f (EL ++ [r]) 0 hv8 (fun k y hk a b => q5 13 w k y (by first | decide | omega)) (fun k y hk a b => q5 13 w k y (by first | decide | omega))
    have hT9 : TM (F9, B9) (T ++ vHd v cl num) F9 B9 := TM_c hT7 (by rw [q2 14 0 71 (by first | decide | omega), fn 14 0 71 (by first | decide | omega)]) (fun j => by rw [q5 14 0 70 j (by first | decide | omega), bn 14 0 70 j (by first | decide | omega)])
    rw [q1, zb_s]
    have Fn : ∀ c y k, ¬ (c = 14 ∧ y = 0 ∧ (k ≤ 1 ∨ k = 71)) → F9 c y k = F c y k := fun c y k n => by rw [q2 c y k (by first | decide | omega), fn c y k (by first | decide | omega), p2 c y k (by first | decide | omega), F6n c y k (by first | decide | omega)]
    obtain ⟨F10, B10, y1, y2, y3, y4⟩ := M_dvN (Km := Km) (u := u) (v := v) (w := w) (M := last) (EL := EL ++ [r]) (T := T ++ vHd v cl num) (F := F9) (B := B9) hKm v0 ⟨by rw [Fn 14 0 6 (by first | decide | omega)]; exact hw.1, hw.2⟩ hb hu ⟨hl.1, hl.2⟩ (by first | decide | omega) ca cb (by rw [q5 13 w 12 v (by first | decide | omega), b12, lr]; omega) (by rw [Fn 13 w 4 (by first | decide | omega)]; exact m4) (by rw [Fn 13 w 5 (by first | decide | omega)]; exact m5) hv9 q6 (by first | decide | omega) hT9
    refine ⟨F10, B10, y1, fun c y k n n' => by rw [y2 c y k n n', Fn c y k (by first | decide | omega)], fun c i k y n n' => by rw [y3 c i k y n n', q5 c i k y (by first | decide | omega), bn c i k y (by first | decide | omega), p5 c i k y (by first | decide | omega), B6n c i k y n'], ?_⟩
    rw [txA_a, r1, r2, r3, r4, r5] at y4
    simp only [List.append_assoc] at y4 ⊢
    exact y4
end

section
section
/-! ===== the reference writes a voice ===== -/
theorem ntA_0 {st al st' al' : Int → Int} {v : Int} : ntA 0 st al v = ntA 0 st' al' v := rfl
theorem spT_z {n d b : Int} {st al st' al' : Int → Int} : ∀ (f : Nat) (a e : Int), spT n d b 0 st al f a e = spT n d b 0 st' al' f a e := by
  intro f
  induction f with
  | zero => intro a e; rfl
  | succ f ih =>
    intro a e
    rw [spT, spT, ih (nxF n d b a e) e, ntA_0 (st := st) (al := al) (st' := st') (al' := al')]
theorem spX_z {n d b a e : Int} {st al st' al' : Int → Int} : spX n d b 0 st al a e = spX n d b 0 st' al' a e := spT_z _ _ _
theorem txA_a {n d b u : Int} : ∀ (L : List (Int × Int × Int × (Int → Int) × (Int → Int))) (r : Int × Int × Int × (Int → Int) × (Int → Int)), txA n d b u (L ++ [r]) = txA n d b u L ++ spX n d b r.2.2.1 r.2.2.2.1 r.2.2.2.2 (u * r.1) (u * r.2.1) := by
  intro L
  induction L with
  | nil => intro r; rw [List.nil_append, txA, txA, txA, List.append_nil, List.nil_append]
  | cons s ss ih => intro r; rw [List.cons_append, txA, txA, ih r, List.append_assoc]
theorem TM_c {q : zF × zB} {T : List Int} {F F' : zF} {B B' : zB} (h : TM q T F B) (f : F' 14 0 71 = F 14 0 71) (b : ∀ j, B' 14 0 70 j = B 14 0 70 j) : TM (F', B') T F' B' := ⟨⟨by rw [f]; exact h.1.1, fun j hj => by rw [b]; exact h.1.2 j hj⟩, fun _ _ _ _ => rfl, fun _ _ _ _ _ => rfl⟩
/-- the head of a voice's text, and its notes -/
noncomputable def vHd (v cl num : Int) : List Int := [118, 111, 105, 99, 101, 32, 118] ++ ([97 + v] ++ ((if cl = 0 then [32, 116, 114, 101, 98, 108, 101, 32] else [32, 98, 97, 115, 115, 32]) ++ (decT num ++ [32, 123, 10])))
noncomputable def vNt (n d b u last : Int) (EL : List (Int × Int × Int × (Int → Int) × (Int → Int))) : List Int := txA n d b u EL ++ (spX n d b 0 (fun _ => 0) (fun _ => 0) (u * endN 0 EL) (u * last) ++ spX n d b 0 (fun _ => 0) (fun _ => 0) (u * last) (cbE b (u * last)))
/-- what a voice written down may change -/
noncomputable def dvM (w v : Int) (B B' : zB) : Prop := ∀ c i k y, ¬ (c = 13 ∧ i = w ∧ (((k = 12 ∨ k = 13) ∧ y = v) ∨ ((14 ≤ k ∧ k ≤ 22) ∧ 1000 * v ≤ y ∧ y < 1000 * v + 1000) ∨ ((30 ≤ k ∧ k ≤ 35) ∧ 800 * v ≤ y ∧ y < 800 * v + 800))) → ¬ (c = 14 ∧ i = 0 ∧ k = 70) → B' c i k y = B c i k y
noncomputable def dvG (w : Int) (F F' : zF) : Prop := ∀ c y k, ¬ (c = 14 ∧ y = 0 ∧ (k ≤ 1 ∨ 52 ≤ k ∧ k ≤ 57 ∨ k = 71)) → ¬ (c = 13 ∧ y = w ∧ k = 7) → F' c y k = F c y k
/-- the notes, then the text -/
theorem M_dvN {Km : Nat} {u v w n d b M : Int} {EL : List (Int × Int × Int × (Int → Int) × (Int → Int))} {T : List Int} {F : zF} {B : zB} (hKm : 70000000000 < Km) (v0 : 0 ≤ v ∧ v < 4) (hw : F 14 0 6 = w ∧ 0 ≤ w ∧ w < 3) (hb : BRs n d b) (hu : u = 128 ∨ u = 64 ∨ u = 32 ∨ u = 16) (hM : 0 ≤ M ∧ u * M ≤ 100 * b) (el : (EL.length : Int) ≤ 900) (hc : CHN 0 EL) (hE : endN 0 EL = M) (h12 : B 13 w 12 v = (EL.length : Int)) (m4 : F 13 w 4 = n) (m5 : F 13 w 5 = d) (hv : EVn u w v B 0 EL) (hpl : PLn u w v B 0 EL) (ht : T.length ≤ 3100) (hT : TM (F, B) T F B) : ∃ F' B', f_M_downVoice_209 Km v F B = some (0, F', B') ∧ dvG w F F' ∧ dvM w v B B' ∧ ((TM (F', B') (T ++ (txA n d b u EL ++ (spX n d b 0 (fun _ => 0) (fun _ => 0) (u * M) (cbE b (u * M)) ++ [125, 10]))) F' B' ∧ (T ++ (txA n d b u EL ++ (spX n d b 0 (fun _ => 0) (fun _ => 0) (u * M) (cbE b (u * M)) ++ [125, 10]))).length ≤ 4000) ∨ ((3000 < F' 14 0 71 ∧ F' 14 0 71 ≤ 5000) ∧ 3000 < (T ++ (txA n d b u EL ++ (spX n d b 0 (fun _ => 0) (fun _ => 0) (u * M) (cbE b (u * M)) ++ [125, 10]))).length)) := by
  obtain ⟨b1, b2, b3, _, b5, b6⟩ := BRs_b hb
  obtain ⟨c, F1, B1, u1, u2, u3, u4, u5⟩ := M_nts (Km := Km) (u := u) (v := v) (w := w) (M := M) hKm v0 hw.2 hb hu hM (by omega) hc (by omega) h12 m4 m5 hv hpl
  rw [hE] at u4
  generalize hL : spA n d b u 0 EL ++ spN n d b (-1) (u * M) (cbE b (u * M)) = L at u4
  have M0 : 0 ≤ u * M ∧ u * M ≤ 100 * b := ⟨by rcases hu with rfl | rfl | rfl | rfl <;> omega, hM.2⟩
  have dm := Int.mul_ediv_add_emod (u * M) b
  have m0 := Int.emod_nonneg (u * M) (show b ≠ 0 by omega)
  have m1 := Int.emod_lt_of_pos (u * M) (show 0 < b by omega)
  have q0 : 0 ≤ u * M / b := Int.ediv_nonneg M0.1 (by omega)
  have nb1 : (u * M / b + 1) * b = b * (u * M / b) + b := by rw [Int.add_mul, Int.one_mul, Int.mul_comm]
  have sd : (sdU d = 16) ∨ (sdU d = 4) := by unfold sdU; split <;> omega
  have cb : cbE b (u * M) % sdU d = 0 ∧ u * M ≤ cbE b (u * M) ∧ cbE b (u * M) ≤ 100 * b ∧ cbE b (u * M) % b = 0 := by
    unfold cbE
    by_cases z : u * M % b = 0
    · rw [if_pos z]; exact ⟨u_sd hu, by omega, by omega, z⟩
    · rw [if_neg z]
      refine ⟨?_, by omega, ?_, Int.mul_emod_left _ _⟩
      · obtain ⟨j, hj⟩ : ∃ j, b = sdU d * j := ⟨b / sdU d, by rcases sd with h | h <;> rw [h] at b3 ⊢ <;> omega⟩
        rw [show (u * M / b + 1) * b = sdU d * ((u * M / b + 1) * j) by rw [hj]; ac_rfl]
        exact Int.mul_emod_right _ _
      · have l1 := (Int.ediv_lt_iff_lt_mul (show 0 < b by omega) (a := u * M) (b := 100)).mpr (by
          by_cases y : u * M = 100 * b
          · rw [y, Int.mul_emod_left] at z; exact absurd rfl z
          · omega)
        exact Int.mul_le_mul_of_nonneg_right (by omega) (by omega)
  have mg : ∀ r, r ∈ EL → 0 ≤ r.2.2.1 := by
    have : ∀ (L : List (Int × Int × Int × (Int → Int) × (Int → Int))) (j : Int), EVn u w v B j L → ∀ r, r ∈ L → 0 ≤ r.2.2.1 := by
      intro L
      induction L with
      | nil => intro j _ r hr; exact absurd hr (List.not_mem_nil)
      | cons s ss ih =>
        intro j h r hr
        rcases List.mem_cons.mp hr with q | q
        · rw [q]; exact h.1.1.1
        · exact ih (j + 1) h.2 r q
    exact this EL 0 hv
  -- the text of all notes
  have ev1 : (evD EL (-1)).1 = 0 := evD_n EL (-1) (by omega)
  have tx : rtx EL L = txA n d b u EL ++ spX n d b 0 (fun _ => 0) (fun _ => 0) (u * M) (cbE b (u * M)) := by
    have hR : ∀ i, (0 ≤ i ∨ i = -2) → HDc b i (u * M) (spN n d b (-1) (u * M) (cbE b (u * M))) := fun i hi => by
      by_cases z : u * M % b = 0
      · have : cbE b (u * M) = u * M := by unfold cbE; rw [if_pos z]
        rw [this, spN_0 (by omega)]
        exact z
      · have : cbE b (u * M) = (u * M / b + 1) * b := by unfold cbE; rw [if_neg z]
        rw [spN_u hb M0.1 (u_sd hu) cb.1 (by omega)]
        exact ⟨by show ¬ (-1 : Int) = i; omega, rfl⟩
    rw [← hL, rtx_A hb hu EL 0 0 (by omega) (by omega) hc (fun i _ => by rw [show 0 + i = i by omega]) mg (by rw [hE]; exact hR (-2) (Or.inr rfl)) (fun i i0 => by rw [hE]; exact hR i (Or.inl i0))]
    have last := rtx_s (EL := EL) (ev := -1) (R := []) hb (by omega) cb.1 (show HDc b (-1) (cbE b (u * M)) [] from cb.2.2.2) (cbE b (u * M) - u * M).toNat (u * M) (by omega) M0.1 cb.2.1 (u_sd hu)
    rw [List.append_nil, ev1, rtx, List.append_nil] at last
    rw [last, spX_z (st' := fun _ => 0) (al' := fun _ => 0)]
  have ok : ∀ s, s ∈ L → (-1 ≤ s.1 ∧ s.1 < (EL.length : Int)) ∧ (0 ≤ s.2.1 ∧ s.2.1 ≤ 1000) ∧ (0 ≤ s.2.2 ∧ s.2.2 < 24) := fun s hs => by
    rw [← hL] at hs
    rcases List.mem_append.mp hs with h | h
    · have := spA_o hb hu hM.2 EL 0 0 (by omega) hc (by omega) s h
      exact ⟨by omega, this.2⟩
    · have := spN_o (ev := -1) hb cb.1 cb.2.2.1 (cbE b (u * M) - u * M).toNat (u * M) (by omega) M0.1 (u_sd hu) s h
      exact ⟨by omega, this.2⟩
  have evp : ∀ s, s ∈ L → 0 ≤ (evD EL s.1).1 := fun s hs => by
    have o := (ok s hs).1
    by_cases y : s.1 < 0
    · rw [evD_n EL s.1 y]; omega
    · exact (evD_r EL 0 s.1 hv (by omega) o.2).1.1
  have lx := rtx_l (EL := EL) L evp
  have f6 : F1 14 0 6 = w := by rw [u2 14 0 6 (by omega) (by omega)]; exact hw.1
  have b70 : ∀ j, B1 14 0 70 j = B 14 0 70 j := fun j => u3 14 0 70 j (by omega) (by omega)
  have mB : dvM w v B B1 := fun c i k y n n' => u3 c i k y (by omega) (by omega)
  obtain ⟨cc, c1, c2, c3, c4⟩ := NSt_c u4
  have ec : cc = c := by rw [← c1, u5]
  subst ec
  unfold f_M_downVoice_209
  rw [hw.1, if_pos hw.2, u1, zb_s, if_pos (by unfold r32; omega)]
  have ea : T ++ (txA n d b u EL ++ (spX n d b 0 (fun _ => 0) (fun _ => 0) (u * M) (cbE b (u * M)) ++ [125, 10])) = T ++ (rtx EL L ++ [125, 10]) := by rw [tx, List.append_assoc]
  rw [ea]
  by_cases z : cc ≤ 800
  · rw [if_pos z]
    obtain ⟨l1, l2, l3⟩ : L.length ≤ 800 ∧ B1 13 w 13 v = (L.length : Int) ∧ NRW w v B1 0 L := by
      rcases u4 with h | h
      · exact h
      · omega
    have hT1 : TM (F1, B1) T F1 B1 := TM_c hT (by rw [u2 14 0 71 (by omega) (by omega)]) b70
    have hv1 : EVn u w v B1 0 EL := EVn_f EL 0 hv (fun k y hk a b => u3 13 w k y (by omega) (by omega)) (fun k y hk a b => u3 13 w k y (by omega) (by omega))
    obtain ⟨F2, B2, T', y1, y2, yl, y3⟩ := M_239 (Km := Km) (q := (F1, B1)) (u := u) (w := w) (v := v) (c := cc) (EL := EL) (by omega) ⟨f6, hw.2⟩ v0 (by omega) hv1 (by omega) L Km 0 T F1 B1 (by omega) (by omega) (by omega) l3 ok (by omega) hT1
    refine ⟨F2, B2, y1, fun c y k n n' => ?_, fun c i k y n n' => ?_, ?_⟩
    · rw [y2.2.1 c y k (by omega)]; exact u2 c y k (by omega) n'
    · rw [y2.2.2 c i k y (by omega)]; exact mB c i k y n n'
    · rcases y3 with y3 | ⟨y4, y5, y6⟩
      · rw [y3] at y2 yl; exact Or.inl ⟨TM_s y2, yl⟩
      · refine Or.inr ⟨by rw [y2.1.1]; omega, ?_⟩
        rw [← List.append_assoc, List.length_append]; omega
  · have l8 : 800 < L.length := by omega
    rw [if_neg z]
    unfold f_M_downVoice_236
    obtain ⟨p, ep⟩ : ∃ p, Km = p + 1 := ⟨Km - 1, by omega⟩
    have hz : ∀ c y k, ¬ (c = 14 ∧ y = 0 ∧ k = 71) → (zup3 F1 14 0 71 3001) c y k = F1 c y k := fun c y k n => by rw [zup3_v, if_neg n]
    have ez : (zup3 F1 14 0 71 3001) 14 0 71 = 3001 := by rw [zup3_v, if_pos (by omega)]
    have e239 : ∀ j, f_M_downVoice_239 Km (j + 1) 0 cc v (zup3 F1 14 0 71 3001) B1 = f_M_downVoice_283 Km (zup3 F1 14 0 71 3001) B1 := fun j => by
      rw [f_M_downVoice_239, if_pos (by decide), if_pos (by unfold r32; omega), if_neg (by omega), ez, if_pos (by decide), if_pos (by decide)]
    have e' := e239 p
    rw [← ep] at e'
    rw [e']
    have pp : ∀ (x : Int) (F : zF) (B : zB), 0 ≤ F 14 0 71 → F 14 0 71 < 39000 → ∃ B', f_M_put_0 Km x F B = some (0, zup3 F 14 0 71 (F 14 0 71 + 1), B') ∧ (∀ c i k y, ¬ (c = 14 ∧ i = 0 ∧ k = 70) → B' c i k y = B c i k y) := fun x F B a b => by
      unfold f_M_put_0 f_M_put_0_20
      rw [if_pos (by unfold r32; omega), if_neg (by omega), if_pos (by omega)]
      exact ⟨_, rfl, fun c i k y n => by rw [zup4_v, if_neg (by omega)]⟩
    obtain ⟨B2, y1, y2⟩ := pp 125 (zup3 F1 14 0 71 3001) B1 (by omega) (by omega)
    obtain ⟨B3, y3, y4⟩ := pp 10 (zup3 (zup3 F1 14 0 71 3001) 14 0 71 ((zup3 F1 14 0 71 3001) 14 0 71 + 1)) B2 (by rw [zup3_v, if_pos (by omega)]; omega) (by rw [zup3_v, if_pos (by omega)]; omega)
    unfold f_M_downVoice_283
    rw [y1, zb_s, y3, zb_s]
    refine ⟨_, B3, rfl, fun c y k n n' => ?_, fun c i k y n n' => ?_, Or.inr ⟨?_, ?_⟩⟩
    · rw [zup3_v, if_neg (by omega), zup3_v, if_neg (by omega), hz c y k (by omega)]; exact u2 c y k (by omega) n'
    · rw [y4 c i k y n', y2 c i k y n']; exact mB c i k y n n'
    · rw [zup3_v, if_pos (by omega), zup3_v, if_pos (by omega), ez]; omega
    · rw [List.length_append, List.length_append]; omega
end
end
section
section
/-! ===== the reference writes a voice whole ===== -/
theorem M_plc {Km : Nat} {u w v M : Int} {EL : List (Int × Int × Int × (Int → Int) × (Int → Int))} {F : zF} {B : zB} (hKm : 812851200 < Km) (v0 : 0 ≤ v ∧ v < 4) (w0 : 0 ≤ w ∧ w < 3) (hu : u = 128 ∨ u = 64 ∨ u = 32 ∨ u = 16) (hM : u * M ≤ 400000) (el : (EL.length : Int) ≤ 1000) (hc : CHN 0 EL) (hE : endN 0 EL ≤ M) (h12 : B 13 w 12 v = (EL.length : Int)) (hv : EVn u w v B 0 EL) : ∃ F' B', f_M_places Km w v F B = some (0, F', B') ∧ (∀ c y k, ¬ (c = 14 ∧ y = 0 ∧ k ≤ 1) → F' c y k = F c y k) ∧ F' 14 0 0 = nu (X5 * (u * endN 0 EL)) ∧ F' 14 0 1 = de (X5 * (u * endN 0 EL)) ∧ (∀ c i k y, ¬ (c = 13 ∧ i = w ∧ (k = 14 ∨ k = 15) ∧ 1000 * v ≤ y ∧ y < 1000 * v + 1000) → B' c i k y = B c i k y) ∧ PLn u w v B' 0 EL := by
  unfold f_M_places
  rw [L_isR hKm (p := 0) ⟨by decide, ⟨WW, by decide⟩, by decide, by decide⟩ (by decide), zb_s]
  obtain ⟨F1, B1, y1, y2, y3, y4, y5, y6⟩ := M_pl8 (Km := Km) (u := u) (w := w) (v := v) (M := M) hKm v0 w0 hu hM EL Km 0 0 (fr F 0) B (by omega) (by omega) (by omega) (by omega) hc hE (by rw [h12]; omega) (by rw [fr_0, Int.mul_zero, Int.mul_zero]) (by rw [fr_1, Int.mul_zero, Int.mul_zero]) hv
  exact ⟨F1, B1, y1, fun c y k n => by rw [y2 c y k n, fr_n n], y3, y4, fun c i k y n => y5 c i k y (by omega), y6⟩
theorem M_dv {Km : Nat} {g v w n d b last cl num : Int} {EL : List (Int × Int × Int × (Int → Int) × (Int → Int))} {T : List Int} {F : zF} {B : zB} (hKm : 70000000000 < Km) (v0 : 0 ≤ v ∧ v < 4) (hw : F 14 0 6 = w ∧ 0 ≤ w ∧ w < 3) (hb : BRs n d b) (hg : g = 4 ∨ g = 8 ∨ g = 16 ∨ g = 32) (hl : 0 ≤ last ∧ 512 / g * last ≤ 100 * b) (el : (EL.length : Int) ≤ 800) (hc : CHN 0 EL) (hE : endN 0 EL ≤ last) (h12 : B 13 w 12 v = (EL.length : Int)) (m4 : F 13 w 4 = n) (m5 : F 13 w 5 = d) (hv : EVn (512 / g) w v B 0 EL) (h8 : B 13 w 8 v = cl ∧ (cl = 0 ∨ cl = 1)) (h9 : B 13 w 9 v = num ∧ 0 ≤ num ∧ num ≤ 3) (ht : T.length ≤ 3000) (hT : TM (F, B) T F B) : ∃ F' B', f_M_downVoice Km v last g F B = some (0, F', B') ∧ dvG w F F' ∧ dvM w v B B' ∧ ((TM (F', B') (T ++ (vHd v cl num ++ (vNt n d b (512 / g) last EL ++ [125, 10]))) F' B' ∧ (T ++ (vHd v cl num ++ (vNt n d b (512 / g) last EL ++ [125, 10]))).length ≤ 4000) ∨ ((3000 < F' 14 0 71 ∧ F' 14 0 71 ≤ 5000) ∧ 3000 < (T ++ (vHd v cl num ++ (vNt n d b (512 / g) last EL ++ [125, 10]))).length)) := by
  obtain ⟨b1, b2, b3, _, b5, b6⟩ := BRs_b hb
  obtain ⟨ug, hu⟩ := gu hg
  generalize eu : 512 / g = u at *
  have xa : ∀ y : Int, X5 * y = 1587600 * y := fun _ => rfl
  have l1 := if_l (c := cl = 0) (x := 0)
  -- the head
  obtain ⟨F1, B1, e1, w1⟩ := M_strg (Km := Km) (s := 43) (U := [118, 111, 105, 99, 101, 32, 118]) (by omega) (by decide) (by decide) (by decide) (by decide) (by omega) hT
  obtain ⟨F2, B2, e2, w2⟩ := M_pt (Km := Km) (a := 97 + v) (by rw [List.length_append]; simp; omega) w1
  have f2 : F2 14 0 6 = w := by rw [w2.2.1 14 0 6 (by omega)]; exact hw.1
  have g8 : B2 13 w 8 v = cl := by rw [w2.2.2 13 w 8 v (by omega)]; exact h8.1
  obtain ⟨F3, B3, e3, w3⟩ : ∃ F3 B3, f_M_put_1 Km (if cl = 0 then 44 else 45) F2 B2 = some (0, F3, B3) ∧ TM (F, B) (T ++ [118, 111, 105, 99, 101, 32, 118] ++ [97 + v] ++ (if cl = 0 then [32, 116, 114, 101, 98, 108, 101, 32] else [32, 98, 97, 115, 115, 32])) F3 B3 := by
    by_cases z : cl = 0
    · rw [if_pos z, if_pos z]
      exact M_strg (by omega) (by decide) (by decide) (by decide) (by decide) (by rw [List.length_append, List.length_append]; simp; omega) w2
    · rw [if_neg z, if_neg z]
      exact M_strg (by omega) (by decide) (by decide) (by decide) (by decide) (by rw [List.length_append, List.length_append]; simp; omega) w2
  have l3 : ((if cl = 0 then [32, 116, 114, 101, 98, 108, 101, 32] else [32, 98, 97, 115, 115, 32]) : List Int).length ≤ 8 := by split <;> simp
  have f3 : F3 14 0 6 = w := by rw [w3.2.1 14 0 6 (by omega)]; exact hw.1
  obtain ⟨F4, B4, e4, w4⟩ := M_dec (Km := Km) (v := num) (by omega) (by omega) (by simp only [List.length_append, List.length_singleton]; simp; omega) w3
  have dl := decT_l (v := num)
  obtain ⟨F5, B5, e5, w5⟩ := M_strg (Km := Km) (s := 46) (U := [32, 123]) (by omega) (by decide) (by decide) (by decide) (by decide) (by simp only [List.length_append, List.length_singleton]; simp; omega) w4
  obtain ⟨F6, B6, e6, w6⟩ := M_pt (Km := Km) (a := 10) (by simp only [List.length_append, List.length_singleton]; simp; omega) w5
  have tx : T ++ [118, 111, 105, 99, 101, 32, 118] ++ [97 + v] ++ (if cl = 0 then [32, 116, 114, 101, 98, 108, 101, 32] else [32, 98, 97, 115, 115, 32]) ++ decT num ++ [32, 123] ++ [10] = T ++ vHd v cl num := by
    unfold vHd
    simp only [List.append_assoc, List.cons_append, List.nil_append]
  rw [tx] at w6
  have hl6 : (T ++ vHd v cl num).length ≤ 3030 := by
    rw [← tx]
    simp only [List.length_append, List.length_cons, List.length_nil]
    omega
  have F6n : ∀ c y k, ¬ (c = 14 ∧ y = 0 ∧ k = 71) → F6 c y k = F c y k := w6.2.1
  have B6n : ∀ c i k y, ¬ (c = 14 ∧ i = 0 ∧ k = 70) → B6 c i k y = B c i k y := w6.2.2
  have hv6 : EVn u w v B6 0 EL := EVn_f EL 0 hv (fun k y hk a b => B6n 13 w k y (by omega)) (fun k y hk a b => B6n 13 w k y (by omega))
  have ub : u * last ≤ 400000 := by omega
  have e0 := CHN_e EL 0 hc
  -- the places
  obtain ⟨F7, B7, p1, p2, p3, p4, p5, p6⟩ := M_plc (Km := Km) (u := u) (w := w) (v := v) (M := last) (F := F6) (B := B6) (by omega) v0 hw.2 hu ub (by omega) hc hE (by rw [B6n 13 w 12 v (by omega)]; exact h12) hv6
  have hv7 : EVn u w v B7 0 EL := EVn_f EL 0 hv6 (fun k y hk a b => p5 13 w k y (by omega)) (fun k y hk a b => p5 13 w k y (by omega))
  have ueb : 0 ≤ u * endN 0 EL ∧ u * endN 0 EL ≤ u * last ∧ 0 ≤ u * last := by rcases hu with rfl | rfl | rfl | rfl <;> omega
  have x1 := xa (u * endN 0 EL)
  have x2 := xa (u * last)
  have frl : FR last g (X5 * (u * last)) := by
    refine ⟨by omega, ?_, hl.1, ?_⟩
    · rcases hg with rfl | rfl | rfl | rfl
      · exact ⟨203212800, by decide⟩
      · exact ⟨101606400, by decide⟩
      · exact ⟨50803200, by decide⟩
      · exact ⟨25401600, by decide⟩
    · rw [← eu]
      rcases hg with rfl | rfl | rfl | rfl
      · show last * 812851200 = 1587600 * (128 * last) * 4; omega
      · show last * 812851200 = 1587600 * (64 * last) * 8; omega
      · show last * 812851200 = 1587600 * (32 * last) * 16; omega
      · show last * 812851200 = 1587600 * (16 * last) * 32; omega
  have f7 : F7 14 0 6 = w := by rw [p2 14 0 6 (by omega), F6n 14 0 6 (by omega)]; exact hw.1
  have cmp := L_cmpR (K := Km) (F := F7) (B := B7) (by omega) (FR_r (p := X5 * (u * endN 0 EL)) (by omega)) frl (by omega) (by omega)
  have hd37 : f_M_downVoice Km v last g F B = f_M_downVoice_37 Km v last g (if cl = 0 then 44 else 45) F2 B2 := by
    unfold f_M_downVoice
    rw [e1, zb_s, e2, zb_s, f2, if_pos hw.2, if_pos v0, g8, if_pos (by unfold r32; omega)]
    by_cases z : cl = 0
    · rw [if_pos z, if_pos z]
    · rw [if_neg z, if_neg z]
  have f5 : F6 14 0 6 = w := by rw [F6n 14 0 6 (by omega)]; exact hw.1
  have e9 : B3 13 w 9 v = num := by rw [w3.2.2 13 w 9 v (by omega)]; exact h9.1
  rw [hd37]
  unfold f_M_downVoice_37
  rw [e3, zb_s, f3, if_pos hw.2, if_pos v0, e9, e4, zb_s, e5, zb_s, e6, zb_s, f5, if_pos hw.2, p1, zb_s, if_pos (by unfold r32; omega), p3, p4, cmp, zb_s]
  have b70 : ∀ j, B7 14 0 70 j = B6 14 0 70 j := fun j => p5 14 0 70 j (by omega)
  have hT7 : TM (F7, B7) (T ++ vHd v cl num) F7 B7 := TM_c w6 (p2 14 0 71 (by omega)) b70
  have ea : T ++ (vHd v cl num ++ (vNt n d b u last EL ++ [125, 10])) = T ++ vHd v cl num ++ (txA n d b u EL ++ (spX n d b 0 (fun _ => 0) (fun _ => 0) (u * endN 0 EL) (u * last) ++ (spX n d b 0 (fun _ => 0) (fun _ => 0) (u * last) (cbE b (u * last)) ++ [125, 10]))) := by
    unfold vNt
    simp only [List.append_assoc]
  rw [ea]
  by_cases z : endN 0 EL = last
  · have cE : ¬ X5 * (u * endN 0 EL) < X5 * (u * last) ∧ X5 * (u * endN 0 EL) = X5 * (u * last) := by rw [z]; omega
    rw [if_neg cE.1, if_pos cE.2, if_pos (by decide), if_pos (by decide)]
    obtain ⟨F8, B8, y1, y2, y3, y4⟩ := M_dvN (Km := Km) (u := u) (v := v) (w := w) (M := last) (EL := EL) (T := T ++ vHd v cl num) (F := F7) (B := B7) hKm v0 ⟨f7, hw.2⟩ hb hu ⟨hl.1, hl.2⟩ (by omega) hc z (by rw [p5 13 w 12 v (by omega), B6n 13 w 12 v (by omega)]; exact h12) (by rw [p2 13 w 4 (by omega), F6n 13 w 4 (by omega)]; exact m4) (by rw [p2 13 w 5 (by omega), F6n 13 w 5 (by omega)]; exact m5) hv7 p6 (by omega) hT7
    refine ⟨F8, B8, y1, fun c y k n n' => by rw [y2 c y k n n', p2 c y k (by omega), F6n c y k (by omega)], fun c i k y n n' => by rw [y3 c i k y n n', p5 c i k y (by omega), B6n c i k y n'], ?_⟩
    rw [z, spX_0 (a := u * last) (e := u * last) (by omega), List.nil_append]
    exact y4
  · have cE : X5 * (u * endN 0 EL) < X5 * (u * last) := by
      have : u * endN 0 EL < u * last := by rcases hu with rfl | rfl | rfl | rfl <;> omega
      omega
    have ll : 0 ≤ u * (last - endN 0 EL) ∧ u * last - u * endN 0 EL = u * (last - endN 0 EL) := by rcases hu with rfl | rfl | rfl | rfl <;> omega
    have x3 := xa (u * (last - endN 0 EL))
    rw [if_pos cE, if_pos (show r32 (-1) by decide), if_neg (by decide), p3, p4, L_minusR (by omega) frl (FR_r (by omega)) (by omega) (by omega), zb_s, show X5 * (u * last) - X5 * (u * endN 0 EL) = X5 * (u * (last - endN 0 EL)) by omega]
    have fn : ∀ c y k, ¬ (c = 14 ∧ y = 0 ∧ k ≤ 1) → fr F7 (X5 * (u * (last - endN 0 EL))) c y k = F7 c y k := fun c y k n => fr_n n
    have h12' : B7 13 w 12 v = (EL.length : Int) := by rw [p5 13 w 12 v (by omega), B6n 13 w 12 v (by omega)]; exact h12
    rw [fn 14 0 6 (by omega), f7, if_pos hw.2, h12', if_pos (by omega), fr_0, fr_1]
    generalize hx : 1000 * v + (EL.length : Int) = x
    generalize hB8 : zup4 (zup4 (zup4 (zup4 (zup4 (zup4 B7 13 w 12 v ((EL.length : Int) + 1)) 13 w 16 x (nu (X5 * (u * (last - endN 0 EL))))) 13 w 17 x (de (X5 * (u * (last - endN 0 EL))))) 13 w 18 x 0) 13 w 22 x 0) 13 w 21 x 0 = B8
    have bn : ∀ c i k y, ¬ (c = 13 ∧ i = w ∧ ((k = 12 ∧ y = v) ∨ ((k = 16 ∨ k = 17 ∨ k = 18 ∨ k = 21 ∨ k = 22) ∧ y = x))) → B8 c i k y = B7 c i k y := fun c i k y n => by rw [← hB8, zup4_v, if_neg (by omega), zup4_v, if_neg (by omega), zup4_v, if_neg (by omega), zup4_v, if_neg (by omega), zup4_v, if_neg (by omega), zup4_v, if_neg (by omega)]
    have b12 : B8 13 w 12 v = (EL.length : Int) + 1 := by rw [← hB8]; simp [zup4_v]
    have b16 : B8 13 w 16 x = nu (X5 * (u * (last - endN 0 EL))) := by rw [← hB8]; simp [zup4_v]
    have b17 : B8 13 w 17 x = de (X5 * (u * (last - endN 0 EL))) := by rw [← hB8]; simp [zup4_v]
    have b22 : B8 13 w 22 x = 0 := by rw [← hB8]; simp [zup4_v]
    have b21 : B8 13 w 21 x = 0 := by rw [← hB8]; simp [zup4_v]
    generalize hr : ((endN 0 EL, last, 0, (fun _ => 0), (fun _ => 0)) : Int × Int × Int × (Int → Int) × (Int → Int)) = r
    have r1 : r.1 = endN 0 EL := by rw [← hr]
    have r2 : r.2.1 = last := by rw [← hr]
    have r3 : r.2.2.1 = 0 := by rw [← hr]
    have r4 : r.2.2.2.1 = fun _ => 0 := by rw [← hr]
    have r5 : r.2.2.2.2 = fun _ => 0 := by rw [← hr]
    have lr : (EL ++ [r]).length = EL.length + 1 := by rw [List.length_append]; rfl
    obtain ⟨ca, cb⟩ := CHN_a EL 0 r hc r1 (by rw [r1, r2]; omega)
    rw [r2] at cb
    have hv8 : EVn u w v B8 0 (EL ++ [r]) := EVn_a EL 0 r (EVn_f EL 0 hv7 (fun k y hk a b => bn 13 w k y (by omega)) (fun k y hk a b => bn 13 w k y (by omega))) ⟨⟨by rw [r3]; omega, by rw [show 0 + (EL.length : Int) = (EL.length : Int) by omega, hx, r1, r2]; exact b16, by rw [show 0 + (EL.length : Int) = (EL.length : Int) by omega, hx, r1, r2]; exact b17, by rw [show 0 + (EL.length : Int) = (EL.length : Int) by omega, hx]; exact b22, by rw [show 0 + (EL.length : Int) = (EL.length : Int) by omega, hx, r3]; exact b21, fun k a b => by rw [r3] at b; omega⟩, trivial⟩
    obtain ⟨F9, B9, q1, q2, q3, q4, q5, q6⟩ := M_plc (Km := Km) (u := u) (w := w) (v := v) (M := last) (EL := EL ++ [r]) (F := fr F7 (X5 * (u * (last - endN 0 EL)))) (B := B8) (by omega) v0 hw.2 hu ub (by omega) ca (by omega) (by rw [b12, lr]; omega) hv8
    have hv9 : EVn u w v B9 0 (EL ++ [r]) := EVn_f (EL ++ [r]) 0 hv8 (fun k y hk a b => q5 13 w k y (by omega)) (fun k y hk a b => q5 13 w k y (by omega))
    have hT9 : TM (F9, B9) (T ++ vHd v cl num) F9 B9 := TM_c hT7 (by rw [q2 14 0 71 (by omega), fn 14 0 71 (by omega)]) (fun j => by rw [q5 14 0 70 j (by omega), bn 14 0 70 j (by omega)])
    rw [q1, zb_s]
    have Fn : ∀ c y k, ¬ (c = 14 ∧ y = 0 ∧ (k ≤ 1 ∨ k = 71)) → F9 c y k = F c y k := fun c y k n => by rw [q2 c y k (by omega), fn c y k (by omega), p2 c y k (by omega), F6n c y k (by omega)]
    obtain ⟨F10, B10, y1, y2, y3, y4⟩ := M_dvN (Km := Km) (u := u) (v := v) (w := w) (M := last) (EL := EL ++ [r]) (T := T ++ vHd v cl num) (F := F9) (B := B9) hKm v0 ⟨by rw [Fn 14 0 6 (by omega)]; exact hw.1, hw.2⟩ hb hu ⟨hl.1, hl.2⟩ (by omega) ca cb (by rw [q5 13 w 12 v (by omega), b12, lr]; omega) (by rw [Fn 13 w 4 (by omega)]; exact m4) (by rw [Fn 13 w 5 (by omega)]; exact m5) hv9 q6 (by omega) hT9
    refine ⟨F10, B10, y1, fun c y k n n' => by rw [y2 c y k n n', Fn c y k (by omega)], fun c i k y n n' => by rw [y3 c i k y n n', q5 c i k y (by omega), bn c i k y (by omega), p5 c i k y (by omega), B6n c i k y n'], ?_⟩
    rw [txA_a, r1, r2, r3, r4, r5] at y4
    simp only [List.append_assoc] at y4 ⊢
    exact y4
end
end
section
section
/-! ===== the class writes a voice ===== -/
noncomputable def wvF (F F' : zF) : Prop := ∀ c y k, ¬ ((c = 7 ∧ y = 0 ∧ 5 ≤ k ∧ k ≤ 7) ∨ (c = 1 ∧ y = 0 ∧ k = 10) ∨ (c = 0 ∧ y = 1 ∧ 1 ≤ k ∧ k ≤ 2)) → F' c y k = F c y k
noncomputable def wvB (B B' : zB) : Prop := ∀ c y k x, ¬ ((c = 7 ∧ y = 0 ∧ k = 8) ∨ (c = 1 ∧ y = 0 ∧ (k = 12 ∨ k = 13)) ∨ (c = 0 ∧ y = 1 ∧ k = 0)) → B' c y k x = B c y k x
theorem wvF_t {F F1 F2 : zF} (h : wvF F F1) (h' : wvF F1 F2) : wvF F F2 := fun c y k n => by rw [h' c y k n, h c y k n]
theorem wvB_t {B B1 B2 : zB} (h : wvB B B1) (h' : wvB B1 B2) : wvB B B2 := fun c y k x n => by rw [h' c y k x n, h c y k x n]
theorem TC_c {q : zF × zB} {T : List Int} {F F' : zF} {B B' : zB} (h : TC q T F B) (f : F' 0 1 1 = F 0 1 1 ∧ F' 0 1 2 = F 0 1 2) (b : ∀ j, B' 0 1 0 j = B 0 1 0 j) : TC (F', B') T F' B' := by
  refine ⟨?_, fun _ _ _ _ => rfl, fun _ _ _ _ _ => rfl⟩
  rw [f.1, f.2]
  rcases h.1 with ⟨a1, a2, a3, a4⟩ | a
  · exact Or.inl ⟨a1, a2, a3, fun j hj => by rw [b]; exact a4 j hj⟩
  · exact Or.inr a
theorem SCq_f {K : zK} {o n d b : Int} {F F' : zF} {B B' : zB} (h : SCq K o n d b (F, B)) (f : wvF F F') (g : wvB B B') : SCq K o n d b (F', B') := by
  obtain ⟨h1, h2, h3, h4, h5, h6⟩ := h
  exact ⟨by show F' 7 0 0 = o ∧ _; rw [f 7 0 0 (by omega)]; exact h1, by show F' 7 0 1 = 1; rw [f 7 0 1 (by omega)]; exact h2, by show F' 7 0 3 = b; rw [f 7 0 3 (by omega)]; exact h3, by show F' 7 0 4 = 0; rw [f 7 0 4 (by omega)]; exact h4, by show B' 8 o 0 4 = n; rw [g 8 o 0 4 (by omega)]; exact h5, by show B' 8 o 0 5 = d; rw [g 8 o 0 5 (by omega)]; exact h6⟩
theorem CFq_w {K : zK} {o g D N : Int} {bg en tn tk : Int → Int} {F F' : zF} {B B' : zB} (h : CFq K o g D N bg en tn tk F B) (f : wvF F F') (b : wvB B B') : CFq K o g D N bg en tn tk F' B' := CFq_f h (f 7 0 0 (by omega)) (f 7 0 2 (by omega)) (f 8 o 2 (by omega)) (fun k x => b 8 o k x (by omega))
/-- a span written, the frame told -/
theorem C_wspan {K : zK} {o n d b m a e : Int} {st al : Int → Int} {T : List Int} {F : zF} {B : zB} (hK : KKq K) (h : BRs n d b) (hq : SCq K o n d b (F, B)) (hv : EVq m st al (F, B)) (a0 : 0 ≤ a ∧ a ≤ 400000) (ha : a % sdU d = 0) (he : e % sdU d = 0) (e1 : 0 ≤ e ∧ e ≤ 100 * b) (w : TC (F, B) T F B) : ∃ F' B', f_Scribe_writeSpan K 0 a e F B = some (0, F', B') ∧ TC (F', B') (T ++ spX n d b m st al a e) F' B' ∧ (∀ c y k, ¬ (c = 0 ∧ y = 1 ∧ 1 ≤ k ∧ k ≤ 2) → F' c y k = F c y k) ∧ (∀ c y k x, ¬ (c = 0 ∧ y = 1 ∧ k = 0) → B' c y k x = B c y k x) := by
  obtain ⟨F1, B1, x1, x2⟩ := C_span hK h hq hv a0 ha he e1 w
  exact ⟨F1, B1, x1, TC_s x2, x2.2.1, x2.2.2⟩
theorem C_wrest {K : zK} {o n d b a e : Int} {T : List Int} {F : zF} {B : zB} (hK : KKq K) (h : BRs n d b) (hq : SCq K o n d b (F, B)) (a0 : 0 ≤ a ∧ a ≤ 400000) (ha : a % sdU d = 0) (he : e % sdU d = 0) (e1 : 0 ≤ e ∧ e ≤ 100 * b) (w : TC (F, B) T F B) : ∃ F' B', f_Scribe_writeRest K 0 a e F B = some (0, F', B') ∧ TC (F', B') (T ++ spX n d b 0 (fun _ => 0) (fun _ => 0) a e) F' B' ∧ (∀ c y k, ¬ ((c = 1 ∧ y = 0 ∧ k = 10) ∨ (c = 0 ∧ y = 1 ∧ 1 ≤ k ∧ k ≤ 2)) → F' c y k = F c y k) ∧ (∀ c y k x, ¬ (c = 0 ∧ y = 1 ∧ k = 0) → B' c y k x = B c y k x) := by
  have z10 : ∀ c y k, ¬ (c = 1 ∧ y = 0 ∧ k = 10) → (zup3 F 1 0 10 0) c y k = F c y k := fun c y k n => by rw [zup3_v, if_neg n]
  have hq1 : SCq K o n d b (zup3 F 1 0 10 0, B) := SCq_f hq (fun c y k n => z10 c y k (by omega)) (fun _ _ _ _ _ => rfl)
  have w1 : TC (zup3 F 1 0 10 0, B) T (zup3 F 1 0 10 0) B := TC_c w ⟨z10 0 1 1 (by omega), z10 0 1 2 (by omega)⟩ (fun _ => rfl)
  obtain ⟨F1, B1, x1, x2, x3, x4⟩ := C_wspan (m := 0) (st := fun _ => 0) (al := fun _ => 0) hK h hq1 ⟨by show (zup3 F 1 0 10 0) 1 0 10 = 0; rw [zup3_v, if_pos (by omega)], by omega, fun k a b => by omega⟩ a0 ha he e1 w1
  refine ⟨F1, B1, ?_, x2, fun c y k n => by rw [x3 c y k (by omega), z10 c y k (by omega)], x4⟩
  have h4 : F 7 0 4 = 0 := hq.2.2.2.1
  unfold f_Scribe_writeRest
  rw [if_pos ⟨by omega, hK.2.1⟩, h4, if_pos ⟨by omega, hK.2.2.1⟩, x1, zb_s]
section
variable {K : zK} {o f n d b g D N : Int} {bg en tn tk : Int → Int}
theorem C_w157 {z s0 u last l3 : Int} (hK : KKq K) (hb : BRs n d b) (hu : u = 128 ∨ u = 64 ∨ u = 32 ∨ u = 16) (dq : DTq g D N bg en tn tk) (hz : z ≤ N) (mono : ∀ i, s0 ≤ i → i + 1 < z → bg i ≤ bg (i + 1)) (hl : 0 ≤ last ∧ u * last ≤ 100 * b) : ∀ (fu m : Nat) (cnt s come : Int) (EL : List (Int × Int × Int × (Int → Int) × (Int → Int))) (T : List Int) (F : zF) (B : zB), z - s ≤ fu → fu < m → 0 ≤ cnt → cnt ≤ s → 0 ≤ s → s0 ≤ s → s ≤ z → 0 ≤ come → come ≤ last → (s < z → come ≤ gplF g D (bg s)) → GLp K o f (fun i => gplF g D (bg i)) (fun i => gplF g D (en i)) tn z fu s come EL → endN come EL ≤ last → CFq K o g D N bg en tn tk F B → SCq K o n d b (F, B) → B 8 o 0 2 = f → F 7 0 7 = s → TC (F, B) T F B → ∃ F' B', f_Scribe_writeVoice_157 K m cnt (u * come) u z 0 l3 F B = f_Scribe_writeVoice_242 K (u * endN come EL) 0 l3 F' B' ∧ TC (F', B') (T ++ txA n d b u EL) F' B' ∧ wvF F F' ∧ wvB B B' := by
  have hN := dq.2.2.1
  have hbb := BRs_b hb
  intro fu
  induction fu with
  | zero =>
    intro m cnt s come EL T F B hfu hm c0 cs z0 zs sz cm cl cg hG hE hc hq b2 f7 w
    obtain ⟨p, rfl⟩ : ∃ p, m = p + 1 := ⟨m - 1, by omega⟩
    rw [GLp] at hG
    subst hG
    obtain ⟨h1, h2, h3, h4, h5⟩ := hc
    refine ⟨F, B, ?_, by rw [txA, List.append_nil]; exact w, fun _ _ _ _ => rfl, fun _ _ _ _ _ => rfl⟩
    rw [f_Scribe_writeVoice_157, if_pos ⟨by omega, hK.2.1⟩, h1.1, if_pos h1.2, if_pos (by unfold r32; omega), h4, if_pos (by unfold r32; omega)]
    by_cases y : N ≤ cnt
    · rw [if_pos y]; rfl
    · rw [if_neg y, f7, if_pos (by unfold r32; omega), if_pos (by unfold r32; omega), if_pos (by omega)]; rfl
  | succ fu ih =>
    intro m cnt s come EL T F B hfu hm c0 cs z0 zs sz cm cl cg hG hE hc hq b2 f7 w
    obtain ⟨p, rfl⟩ : ∃ p, m = p + 1 := ⟨m - 1, by omega⟩
    have hc' := hc
    obtain ⟨h1, h2, h3, h4, h5⟩ := hc'
    have chain := GL_c dq hz mono (fu + 1) s come EL hfu z0 zs cg hG
    rw [GLp] at hG
    by_cases c : s < z
    · rw [if_pos c] at hG
      obtain ⟨mm, st, al, rest, e, pc, hG'⟩ := hG
      obtain ⟨p1, p2, p3, p4⟩ := nxG_p (gB := fun i => gplF g D (bg i)) c (by omega) z0
      obtain ⟨tg1, tg2⟩ := to_g dq hz ⟨z0, c⟩ zs mono
      have cg' := cg c
      have gb := gpl_b (t := bg s) dq.1 dq.2.1 (dq.2.2.2.1 s z0 (by omega)).2.2.1
      have chr := GL_c dq hz mono fu (nxG (fun i => gplF g D (bg i)) s z) (toG (fun i => gplF g D (bg i)) (fun i => gplF g D (en i)) s z) rest (by omega) (by omega) (by omega) tg2 hG'
      have er : endN come EL = endN (toG (fun i => gplF g D (bg i)) (fun i => gplF g D (en i)) s z) rest := by
        subst e
        by_cases y : come < gplF g D (bg s)
        · rw [if_pos y]; rfl
        · rw [if_neg y]; rfl
      have ce := CHN_e rest _ chr.1
      have tol : toG (fun i => gplF g D (bg i)) (fun i => gplF g D (en i)) s z ≤ last := by omega
      generalize hTo : toG (fun i => gplF g D (bg i)) (fun i => gplF g D (en i)) s z = to' at *
      generalize hFr : gplF g D (bg s) = fr' at *
      have ub : 0 ≤ u * come ∧ u * come ≤ u * fr' ∧ u * fr' < u * to' ∧ u * to' ≤ u * last ∧ 0 ≤ u * fr' := by rcases hu with rfl | rfl | rfl | rfl <;> omega
      -- gather
      obtain ⟨F1, B1, x1, x2, x3, x4, x5, x6, x7⟩ := C_ga (K := K) hK.2.1 (by have := hK.2.2.2; omega) dq hz ⟨z0, c⟩ hc
      rw [hFr] at x4
      rw [hTo] at x6
      have wf1 : wvF F F1 := fun c y k n => x2 c y k (by omega)
      have wb1 : wvB B B1 := fun c y k x n => x3 c y k x (by omega)
      have q1 := SCq_f hq wf1 wb1
      have w1 : TC (F1, B1) T F1 B1 := TC_c w ⟨x2 0 1 1 (by omega), x2 0 1 2 (by omega)⟩ (fun j => x3 0 1 0 j (by omega))
      -- a rest
      obtain ⟨F2, B2, y1, y2, y3, y4⟩ := C_wrest (a := u * come) (e := u * fr') hK hb q1 (by omega) (u_sd hu) (u_sd hu) (by omega) w1
      have wf2 : wvF F1 F2 := fun c y k n => y3 c y k (by omega)
      have wb2 : wvB B1 B2 := fun c y k x n => y4 c y k x (by omega)
      have q2 := SCq_f q1 wf2 wb2
      -- the chord
      have f20 : F2 7 0 0 = o ∧ 0 ≤ o ∧ o < K.2 8 := q2.1
      obtain ⟨rr, F3, B3, t1, t2, t3, t4⟩ := pc.2.2 F2 B2 f20 q2.2.2.2.1 (by rw [y4 8 o 0 2 (by omega), x3 8 o 0 2 (by omega)]; exact b2) ⟨fun i a b => by rw [y4 7 0 8 _ (by omega)]; exact x7.1 i a b, fun x a b => by rw [y4 7 0 8 _ (by omega)]; exact x7.2 x a b⟩
      have wf3 : wvF F2 F3 := fun c y k n => t2 c y k (by omega)
      have wb3 : wvB B2 B3 := fun c y k x n => t3 c y k x (by omega)
      have q3 := SCq_f q2 wf3 wb3
      have w3 : TC (F3, B3) (T ++ spX n d b 0 (fun _ => 0) (fun _ => 0) (u * come) (u * fr')) F3 B3 := TC_c y2 ⟨t2 0 1 1 (by omega), t2 0 1 2 (by omega)⟩ (fun j => t3 0 1 0 j (by omega))
      obtain ⟨F4, B4, v1, v2, v3, v4⟩ := C_wspan (a := u * fr') (e := u * to') hK hb q3 t4 (by omega) (u_sd hu) (u_sd hu) (by omega) w3
      have wf4 : wvF F3 F4 := fun c y k n => v3 c y k (by omega)
      have wb4 : wvB B3 B4 := fun c y k x n => v4 c y k x (by omega)
      have wF := wvF_t wf1 (wvF_t wf2 (wvF_t wf3 wf4))
      have wB := wvB_t wb1 (wvB_t wb2 (wvB_t wb3 wb4))
      have k5 : F3 7 0 5 = fr' := by rw [t2 7 0 5 (by omega), y3 7 0 5 (by omega)]; exact x4
      have k6 : F3 7 0 6 = to' := by rw [t2 7 0 6 (by omega), y3 7 0 6 (by omega)]; exact x6
      have k64 : F4 7 0 6 = to' := by rw [v3 7 0 6 (by omega)]; exact k6
      have k7 : F4 7 0 7 = nxG (fun i => gplF g D (bg i)) s z := by rw [v3 7 0 7 (by omega), t2 7 0 7 (by omega), y3 7 0 7 (by omega)]; exact x5
      obtain ⟨F5, B5, r1, r2, r3, r4⟩ := ih p (cnt + 1) (nxG (fun i => gplF g D (bg i)) s z) to' rest _ F4 B4 (by omega) (by omega) (by omega) (by omega) (by omega) (by omega) p2 (by omega) tol tg2 hG' (by omega) (CFq_w hc wF wB) (SCq_f hq wF wB) (by rw [wB 8 o 0 2 (by omega)]; exact b2) k7 v2
      refine ⟨F5, B5, ?_, ?_, wvF_t wF r3, wvB_t wB r4⟩
      · rw [f_Scribe_writeVoice_157, if_pos ⟨by omega, hK.2.1⟩, h1.1, if_pos h1.2, if_pos (by unfold r32; omega), h4, if_pos (by unfold r32; omega), if_neg (by omega), f7, if_pos (by unfold r32; omega), if_pos (by unfold r32; omega), if_neg (by omega), x1, zb_s, x4, Int.mul_comm fr' u, y1, zb_s, t1, zb_s, k5, k6, Int.mul_comm fr' u, Int.mul_comm to' u, v1, zb_s, k64, Int.mul_comm to' u, er]
        exact r1
      · subst e
        by_cases y : come < fr'
        · rw [if_pos y, List.cons_append, List.nil_append, txA, txA]
          simp only [List.append_assoc] at r2 ⊢
          exact r2
        · rw [if_neg y, List.nil_append, txA]
          rw [spX_0 (a := u * come) (e := u * fr') (by rcases hu with rfl | rfl | rfl | rfl <;> omega), List.append_nil] at r2
          simp only [List.append_assoc] at r2 ⊢
          exact r2
    · rw [if_neg c] at hG
      subst hG
      refine ⟨F, B, ?_, by rw [txA, List.append_nil]; exact w, fun _ _ _ _ => rfl, fun _ _ _ _ _ => rfl⟩
      rw [f_Scribe_writeVoice_157, if_pos ⟨by omega, hK.2.1⟩, h1.1, if_pos h1.2, if_pos (by unfold r32; omega), h4, if_pos (by unfold r32; omega)]
      by_cases y : N ≤ cnt
      · rw [if_pos y]; rfl
      · rw [if_neg y, f7, if_pos (by unfold r32; omega), if_pos (by unfold r32; omega), if_pos (by omega)]; rfl
end
end
end
section
section
/-! ===== the class writes a voice whole ===== -/
theorem cb_z {b e : Int} (b0 : 0 < b ∧ b ≤ 3072) (e0 : 0 ≤ e ∧ e ≤ 400000) : zdv (e + b - 1) (zmax b 1) * b = cbE b e := by
  have zm : zmax b 1 = b := by unfold zmax; split <;> omega
  rw [zm, zdv_e (by omega) (by unfold r32; omega) b0.1 (by unfold r32; omega)]
  have f1 := Int.mul_ediv_add_emod e b
  have f2 := Int.emod_nonneg e (show b ≠ 0 by omega)
  have f3 := Int.emod_lt_of_pos e b0.1
  have cm : e / b * b = b * (e / b) := Int.mul_comm _ _
  unfold cbE
  by_cases z : e % b = 0
  · rw [if_pos z]
    have : (e + b - 1) / b = e / b := by
      have q := bar_q (b := b) (nb := e / b) (a := e + b - 1) b0.1 (by omega) (by rw [Int.add_mul, Int.one_mul]; omega)
      exact q.1
    rw [this]; omega
  · rw [if_neg z]
    have : (e + b - 1) / b = e / b + 1 := by
      have q := bar_q (b := b) (nb := e / b + 1) (a := e + b - 1) b0.1 (by rw [Int.add_mul, Int.one_mul]; omega) (by rw [Int.add_mul, Int.add_mul, Int.one_mul]; omega)
      exact q.1
    rw [this]
section
variable {K : zK} {o f n d b g D N : Int} {bg en tn tk nb : Int → Int}
theorem C_w242 {come last : Int} {T : List Int} {F : zF} {B : zB} (hK : KKq K) (hb : BRs n d b) (hq : SCq K o n d b (F, B)) (c0 : 0 ≤ come ∧ come ≤ 400000) (c1 : come % sdU d = 0) (l0 : 0 ≤ last ∧ last ≤ 100 * b) (l1 : last % sdU d = 0) (w : TC (F, B) T F B) : ∃ F' B', f_Scribe_writeVoice_242 K come 0 last F B = some (0, F', B') ∧ TC (F', B') (T ++ (spX n d b 0 (fun _ => 0) (fun _ => 0) come last ++ (spX n d b 0 (fun _ => 0) (fun _ => 0) last (cbE b last) ++ [125, 10]))) F' B' ∧ wvF F F' ∧ wvB B B' := by
  obtain ⟨b1, b2, b3, _, b5, b6⟩ := BRs_b hb
  have sd : (sdU d = 16) ∨ (sdU d = 4) := by unfold sdU; split <;> omega
  obtain ⟨F1, B1, x1, x2, x3, x4⟩ := C_wrest (a := come) (e := last) hK hb hq c0 c1 l1 l0 w
  have wf1 : wvF F F1 := fun c y k n => x3 c y k (by omega)
  have wb1 : wvB B B1 := fun c y k x n => x4 c y k x (by omega)
  have q1 := SCq_f hq wf1 wb1
  have f1 := Int.mul_ediv_add_emod last b
  have f2 := Int.emod_nonneg last (show b ≠ 0 by omega)
  have f3 := Int.emod_lt_of_pos last (show 0 < b by omega)
  have q0 : 0 ≤ last / b := Int.ediv_nonneg l0.1 (by omega)
  have nb1 : (last / b + 1) * b = b * (last / b) + b := by rw [Int.add_mul, Int.one_mul, Int.mul_comm]
  have cb : cbE b last % sdU d = 0 ∧ last ≤ cbE b last ∧ cbE b last ≤ 100 * b := by
    unfold cbE
    by_cases z : last % b = 0
    · rw [if_pos z]; exact ⟨l1, by omega, by omega⟩
    · rw [if_neg z]
      refine ⟨?_, by omega, ?_⟩
      · obtain ⟨j, hj⟩ : ∃ j, b = sdU d * j := ⟨b / sdU d, by rcases sd with h | h <;> rw [h] at b3 ⊢ <;> omega⟩
        rw [show (last / b + 1) * b = sdU d * ((last / b + 1) * j) by rw [hj]; ac_rfl]
        exact Int.mul_emod_right _ _
      · have l1 := (Int.ediv_lt_iff_lt_mul (show 0 < b by omega) (a := last) (b := 100)).mpr (by
          by_cases y : last = 100 * b
          · rw [y, Int.mul_emod_left] at z; exact absurd rfl z
          · omega)
        exact Int.mul_le_mul_of_nonneg_right (by omega) (by omega)
  obtain ⟨F2, B2, y1, y2, y3, y4⟩ := C_wrest (a := last) (e := cbE b last) hK hb q1 (by omega) l1 cb.1 (by omega) x2
  have wf2 : wvF F1 F2 := fun c y k n => y3 c y k (by omega)
  have wb2 : wvB B1 B2 := fun c y k x n => y4 c y k x (by omega)
  have q2 := SCq_f q1 wf2 wb2
  obtain ⟨F3, B3, t1, t2⟩ := C_strg (s := 12) (U := [125, 10]) hK.1 (by have := hK.2.2.2; omega) (by decide) (by decide) (by decide) (by decide) y2
  refine ⟨F3, B3, ?_, ?_, wvF_t wf1 (wvF_t wf2 (fun c y k n => t2.2.1 c y k (by omega))), wvB_t wb1 (wvB_t wb2 (fun c y k x n => t2.2.2 c y k x (by omega)))⟩
  · have k3 : F1 7 0 3 = b := q1.2.2.1
    have k1 : F2 7 0 1 = 1 := q2.2.1
    have zm : zmax b 1 = b := by unfold zmax; split <;> omega
    have h0 := hK.1
    unfold f_Scribe_writeVoice_242
    rw [if_pos ⟨by omega, hK.2.1⟩, x1, zb_s, k3, if_pos (by unfold r32; omega), if_pos (by rw [zm]; exact iI_n0 (by omega) (by unfold r32; omega)), cb_z (by omega) (by omega), y1, zb_s, k1, if_pos (by omega), t1, zb_s]
  · have := TC_s t2
    simp only [List.append_assoc] at this ⊢
    exact this
theorem C_w13 {z a v l3 : Int} {F : zF} {B : zB} (hK : KKq K) (dq : DTq g D N bg en tn tk) (hz : 0 ≤ a ∧ a ≤ z ∧ z ≤ N) (hc : CFq K o g D N bg en tn tk F B) : ∀ (d m : Nat) (i : Int), i + d = z → a ≤ i → d < m → ∃ m', f_Scribe_writeVoice_13 K m i (sm60 tn a (i - a).toNat + 60 * (i - a)) z 0 a v l3 F B = f_Scribe_writeVoice_13 K (m' + 1) z (sm60 tn a (z - a).toNat + 60 * (z - a)) z 0 a v l3 F B := by
  have hN := dq.2.2.1
  obtain ⟨h1, h2, h3, h4, h5⟩ := hc
  intro d
  induction d with
  | zero =>
    intro m i e ai hm
    obtain ⟨p, rfl⟩ : ∃ p, m = p + 1 := ⟨m - 1, by omega⟩
    have : i = z := by omega
    subst this
    exact ⟨p, rfl⟩
  | succ d ih =>
    intro m i e ai hm
    obtain ⟨p, rfl⟩ : ∃ p, m = p + 1 := ⟨m - 1, by omega⟩
    obtain ⟨m', hm'⟩ := ih p (i + 1) (by omega) (by omega) (by omega)
    refine ⟨m', ?_⟩
    rw [← hm', f_Scribe_writeVoice_13, if_pos (by unfold r32; omega), if_pos (by unfold r32; omega), if_neg (by omega), if_pos ⟨by omega, hK.2.1⟩, h1.1, if_pos h1.2, if_pos (by omega), (h5 i (by omega) (by omega)).2.1]
    have : sm60 tn a (i - a).toNat + 60 * (i - a) + tn i = sm60 tn a (i + 1 - a).toNat + 60 * (i + 1 - a) := by
      rw [show (i + 1 - a).toNat = (i - a).toNat + 1 by omega, sm60, show a + ((i - a).toNat : Int) = i by omega]
      omega
    rw [this]
theorem C_wv {a v u last cl num : Int} {EL : List (Int × Int × Int × (Int → Int) × (Int → Int))} {T : List Int} {F : zF} {B : zB} (hK : KKq K) (hb : BRs n d b) (hgu : u = 512 / g) (dq : DTq g D N bg en tn tk) (ha : 0 ≤ a ∧ a < N) (hlt : ∀ i, 0 ≤ i → i < a → tk i < tk a) (hl : 0 ≤ last ∧ u * last ≤ 100 * b) (v0 : 0 ≤ v ∧ v < 4) (hG : GLp K o f (fun i => gplF g D (bg i)) (fun i => gplF g D (en i)) tn (nxG tk a N) 400 a 0 EL) (hE : endN 0 EL ≤ last) (hcl : cl = if sm60 tn a (nxG tk a N - a).toNat < 0 then 1 else 0) (hnum : zmax (B 8 o 3 (tk a)) 0 = num ∧ r32 (B 8 o 3 (tk a)) ∧ 0 ≤ num ∧ num ≤ 3) (hc : CFq K o g D N bg en tn tk F B) (hq : SCq K o n d b (F, B)) (b2 : B 8 o 0 2 = f) (w : TC (F, B) T F B) : ∃ F' B', f_Scribe_writeVoice K 0 a v (u * last) F B = some (0, F', B') ∧ TC (F', B') (T ++ (vHd v cl num ++ (vNt n d b u last EL ++ [125, 10]))) F' B' ∧ wvF F F' ∧ wvB B B' := by
  have hN := dq.2.2.1
  obtain ⟨k0, k7, k1, kf⟩ := hK
  obtain ⟨b1', b2', b3', _, b5', b6'⟩ := BRs_b hb
  have hu := (gu dq.1).2
  rw [← hgu] at hu
  have hb' := blk_o dq ha hlt
  obtain ⟨p1, p2, p3, p4⟩ := nxG_p (gB := tk) ha.2 (by omega) ha.1
  have sb := sm_b (tn := tn) (a := a) (nxG tk a N - a).toNat (fun i i0 i1 => (dq.2.2.2.1 i (by omega) (by omega)).2.1)
  obtain ⟨m', hm'⟩ := C_w13 (v := v) (l3 := u * last) ⟨k0, k7, k1, kf⟩ dq (z := nxG tk a N) (a := a) ⟨ha.1, by omega, p2⟩ hc (nxG tk a N - a).toNat K.1 a (by omega) (by omega) (by omega)
  rw [show (a - a).toNat = 0 by omega, sm60, show (0 : Int) + 60 * (a - a) = 0 by omega] at hm'
  obtain ⟨h1, h2, h3, h4, h5⟩ := hc
  have q11 : F 7 0 1 = 1 := hq.2.1
  obtain ⟨F1, B1, e1, w1⟩ := C_strg (s := 8) (U := [118, 111, 105, 99, 101, 32, 118]) k0 (by omega) (by decide) (by decide) (by decide) (by decide) w
  have f11 : F1 7 0 1 = 1 := by rw [w1.2.1 7 0 1 (by omega)]; exact q11
  obtain ⟨F2, B2, e2, w2⟩ := C_pt (a := 97 + v) k0 w1
  have f21 : F2 7 0 1 = 1 := by rw [w2.2.1 7 0 1 (by omega)]; exact q11
  obtain ⟨F3, B3, e3, w3⟩ : ∃ F3 B3, f_ByteRow_putText K 1 (if cl = 0 then 9 else 10) F2 B2 = some (0, F3, B3) ∧ TC (F, B) (T ++ [118, 111, 105, 99, 101, 32, 118] ++ [97 + v] ++ (if cl = 0 then [32, 116, 114, 101, 98, 108, 101, 32] else [32, 98, 97, 115, 115, 32])) F3 B3 := by
    by_cases z : cl = 0
    · rw [if_pos z, if_pos z]
      exact C_strg k0 (by omega) (by decide) (by decide) (by decide) (by decide) w2
    · rw [if_neg z, if_neg z]
      exact C_strg k0 (by omega) (by decide) (by decide) (by decide) (by decide) w2
  have Fn3 : ∀ c y k, ¬ (c = 0 ∧ y = 1 ∧ 1 ≤ k ∧ k ≤ 2) → F3 c y k = F c y k := w3.2.1
  have Bn3 : ∀ c y k x, ¬ (c = 0 ∧ y = 1 ∧ k = 0) → B3 c y k x = B c y k x := w3.2.2
  obtain ⟨F4, B4, e4, w4⟩ := C_dec (v := num) k0 (by omega) (by omega) w3
  have f41 : F4 7 0 1 = 1 := by rw [w4.2.1 7 0 1 (by omega)]; exact q11
  obtain ⟨F5, B5, e5, w5⟩ := C_strg (s := 11) (U := [32, 123, 10]) k0 (by omega) (by decide) (by decide) (by decide) (by decide) w4
  have Fn5 : ∀ c y k, ¬ (c = 0 ∧ y = 1 ∧ 1 ≤ k ∧ k ≤ 2) → F5 c y k = F c y k := w5.2.1
  have Bn5 : ∀ c y k x, ¬ (c = 0 ∧ y = 1 ∧ k = 0) → B5 c y k x = B c y k x := w5.2.2
  have z7 : ∀ c y k, ¬ (c = 7 ∧ y = 0 ∧ k = 7) → (zup3 F5 7 0 7 a) c y k = F5 c y k := fun c y k n => by rw [zup3_v, if_neg n]
  have wf : wvF F (zup3 F5 7 0 7 a) := fun c y k n => by rw [z7 c y k (by omega), Fn5 c y k (by omega)]
  have wb : wvB B B5 := fun c y k x n => Bn5 c y k x (by omega)
  have w5' : TC (zup3 F5 7 0 7 a, B5) (T ++ [118, 111, 105, 99, 101, 32, 118] ++ [97 + v] ++ (if cl = 0 then [32, 116, 114, 101, 98, 108, 101, 32] else [32, 98, 97, 115, 115, 32]) ++ decT num ++ [32, 123, 10]) (zup3 F5 7 0 7 a) B5 := TC_c w5 ⟨z7 0 1 1 (by omega), z7 0 1 2 (by omega)⟩ (fun _ => rfl)
  have hc0 : CFq K o g D N bg en tn tk F B := ⟨h1, h2, h3, h4, h5⟩
  have mono := blk_m dq hb'
  obtain ⟨ch1, ch2⟩ := GL_c dq p2 mono 400 a 0 EL (by omega) ha.1 (by omega) (fun _ => (gpl_b dq.1 dq.2.1 (dq.2.2.2.1 a ha.1 ha.2).2.2.1).1) hG
  obtain ⟨F6, B6, r1, r2, r3, r4⟩ := C_w157 (K := K) (o := o) (f := f) (z := nxG tk a N) (s0 := a) (u := u) (last := last) (l3 := u * last) ⟨k0, k7, k1, kf⟩ hb hu dq p2 mono hl 400 K.1 0 a 0 EL _ (zup3 F5 7 0 7 a) B5 (by omega) (by omega) (by omega) ha.1 ha.1 (by omega) (by omega) (by omega) hl.1 (fun _ => (gpl_b dq.1 dq.2.1 (dq.2.2.2.1 a ha.1 ha.2).2.2.1).1) hG hE (CFq_w hc0 wf wb) (SCq_f hq wf wb) (by rw [wb 8 o 0 2 (by omega)]; exact b2) (by rw [zup3_v, if_pos (by omega)]) w5'
  have e0 := CHN_e EL 0 ch1
  have ub : 0 ≤ u * endN 0 EL ∧ u * endN 0 EL ≤ u * last ∧ 0 ≤ u * last := by rcases hu with h | h | h | h <;> rw [h] <;> omega
  obtain ⟨F7, B7, s1, s2, s3, s4⟩ := C_w242 (come := u * endN 0 EL) (last := u * last) ⟨k0, k7, k1, kf⟩ hb (SCq_f hq (wvF_t wf r3) (wvB_t wb r4)) (by omega) (u_sd hu) (by omega) (u_sd hu) r2
  refine ⟨F7, B7, ?_, ?_, wvF_t wf (wvF_t r3 s3), wvB_t wb (wvB_t r4 s4)⟩
  · have dk := (dq.2.2.2.1 a ha.1 ha.2).1
    have f30 : F3 7 0 0 = o := by rw [Fn3 7 0 0 (by omega)]; exact h1.1
    have f31 : F3 7 0 1 = 1 := by rw [Fn3 7 0 1 (by omega)]; exact q11
    have t220 : B3 8 o 220 a = tk a := by rw [Bn3 8 o 220 a (by omega)]; exact (h5 a ha.1 ha.2).1
    have t3 : B3 8 o 3 (tk a) = B 8 o 3 (tk a) := Bn3 8 o 3 _ (by omega)
    have f52 : F5 7 0 2 = g := by rw [Fn5 7 0 2 (by omega)]; exact h2
    have hg4 := dq.1
    have zu : zdv 512 g = u := by rw [hgu]; exact zdv_e (by omega) (by decide) (by omega) (by unfold r32; omega)
    have e89 : f_Scribe_writeVoice_89 K (nxG tk a N) 0 a (u * last) 1 (if cl = 0 then 9 else 10) F2 B2 = some (0, F7, B7) := by
      unfold f_Scribe_writeVoice_89
      rw [if_pos (by omega), e3, zb_s, if_pos ⟨by omega, k7⟩, f30, if_pos h1.2, if_pos (by omega), t220, if_pos (by omega), f31, if_pos (by omega), t3, if_pos hnum.2.1, hnum.1, e4, zb_s, f41, if_pos (by omega), e5, zb_s, f52, if_pos (iI_n0 (by omega) (by unfold r32; omega)), zu]
      have r1' : f_Scribe_writeVoice_157 K K.1 0 0 u (nxG tk a N) 0 (u * last) (zup3 F5 7 0 7 a) B5 = f_Scribe_writeVoice_242 K (u * endN 0 EL) 0 (u * last) F6 B6 := by
        rw [Int.mul_zero] at r1; exact r1
      rw [r1', s1]
    unfold f_Scribe_writeVoice
    rw [if_pos ⟨by omega, k7⟩, C_te k7 (by omega) dq ha hc0, zb_s, hm', f_Scribe_writeVoice_13, if_pos (by unfold r32; omega), if_pos (by unfold r32; omega), if_pos (by omega), if_pos ⟨by omega, k7⟩, q11, if_pos (by omega), e1, zb_s, f11, if_pos (by omega), e2, zb_s, if_pos (by unfold r32; omega), if_pos (by unfold r64; omega), if_pos (by unfold r64; omega), f21, ← e89, hcl]
    by_cases y : sm60 tn a (nxG tk a N - a).toNat < 0
    · rw [if_pos (zcmp_lt.mpr (by omega)), if_pos y, if_neg (by decide)]
    · rw [if_neg (fun q => by have := zcmp_lt.mp q; omega), if_neg y, if_pos rfl]
  · unfold vHd vNt
    simp only [List.append_assoc, List.cons_append, List.nil_append] at s2 ⊢
    exact s2
end
end
end
section
section
/-! ===== the heads of the text; room ===== -/
noncomputable def hdT (f mi n d te : Int) : List Int := [107, 101, 121, 32] ++ ((if f < 0 then [45] else []) ++ (decT (if 0 ≤ f then f else -f) ++ ((if mi = 1 then [32, 109, 105, 110, 111, 114] else [32, 109, 97, 106, 111, 114]) ++ ([10, 116, 105, 109, 101, 32] ++ (decT n ++ ([47] ++ (decT d ++ ([10, 116, 101, 109, 112, 111, 32] ++ (decT te ++ [10])))))))))
theorem hdT_l {f mi n d te : Int} : (hdT f mi n d te).length ≤ 60 := by
  unfold hdT
  have a1 := if_l (c := f < 0) (x := 45)
  have a2 := decT_l (v := if 0 ≤ f then f else -f)
  have a3 := decT_l (v := n)
  have a4 := decT_l (v := d)
  have a5 := decT_l (v := te)
  have a6 : ((if mi = 1 then [32, 109, 105, 110, 111, 114] else [32, 109, 97, 106, 111, 114]) : List Int).length = 6 := by split <;> rfl
  simp only [List.length_append, List.length_cons, List.length_nil]
  omega
theorem C_head {K : zK} {o f mi n d te : Int} {T : List Int} {F : zF} {B : zB} (k0 : 2 ≤ K.2 0) (k7 : 0 < K.2 7) (hK : 200 ≤ K.1) (hf : -7 ≤ f ∧ f ≤ 7) (hn : 0 ≤ n ∧ n < 1000) (hd : 0 ≤ d ∧ d < 1000) (hte : 0 ≤ te ∧ te < 1000) (hmi : mi = 0 ∨ mi = 1) (h0 : F 7 0 0 = o ∧ 0 ≤ o ∧ o < K.2 8) (h1 : F 7 0 1 = 1) (b2 : B 8 o 0 2 = f) (b3 : B 8 o 0 3 = mi) (b4 : B 8 o 0 4 = n) (b5 : B 8 o 0 5 = d) (b6 : B 8 o 0 6 = te) (w : TC (F, B) T F B) : ∃ F' B', f_Scribe_writeHead K 0 F B = some (0, F', B') ∧ TC (F, B) (T ++ hdT f mi n d te) F' B' := by
  have za : zabs f = (if 0 ≤ f then f else -f) := rfl
  have zr : 0 ≤ (if 0 ≤ f then f else -f) ∧ (if 0 ≤ f then f else -f) < 1000 := by split <;> omega
  obtain ⟨F1, B1, e1, w1⟩ : ∃ F1 B1, f_ByteRow_putText K 1 (if 0 ≤ f then 4 else 3) F B = some (0, F1, B1) ∧ TC (F, B) (T ++ ([107, 101, 121, 32] ++ (if f < 0 then [45] else []))) F1 B1 := by
    by_cases z : 0 ≤ f
    · rw [if_pos z, if_neg (by omega)]
      exact C_strg k0 hK (by decide) (by decide) (by decide) (by decide) w
    · rw [if_neg z, if_pos (by omega)]
      exact C_strg k0 hK (by decide) (by decide) (by decide) (by decide) w
  obtain ⟨F2, B2, e2, w2⟩ := C_dec (v := if 0 ≤ f then f else -f) k0 hK zr w1
  obtain ⟨F3, B3, e3, w3⟩ : ∃ F3 B3, f_ByteRow_putText K 1 (if mi = 1 then 5 else 6) F2 B2 = some (0, F3, B3) ∧ TC (F, B) (T ++ ([107, 101, 121, 32] ++ (if f < 0 then [45] else [])) ++ decT (if 0 ≤ f then f else -f) ++ ((if mi = 1 then [32, 109, 105, 110, 111, 114] else [32, 109, 97, 106, 111, 114]) ++ [10, 116, 105, 109, 101, 32])) F3 B3 := by
    by_cases z : mi = 1
    · rw [if_pos z, if_pos z]
      exact C_strg k0 hK (by decide) (by decide) (by decide) (by decide) w2
    · rw [if_neg z, if_neg z]
      exact C_strg k0 hK (by decide) (by decide) (by decide) (by decide) w2
  obtain ⟨F4, B4, e4, w4⟩ := C_dec (v := n) k0 hK hn w3
  obtain ⟨F5, B5, e5, w5⟩ := C_pt (a := 47) k0 w4
  obtain ⟨F6, B6, e6, w6⟩ := C_dec (v := d) k0 hK hd w5
  obtain ⟨F7, B7, e7, w7⟩ := C_strg (s := 7) (U := [10, 116, 101, 109, 112, 111, 32]) k0 hK (by decide) (by decide) (by decide) (by decide) w6
  obtain ⟨F8, B8, e8, w8⟩ := C_dec (v := te) k0 hK hte w7
  obtain ⟨F9, B9, e9, w9⟩ := C_pt (a := 10) k0 w8
  have g : ∀ {T : List Int} {F' : zF} {B' : zB}, TC (F, B) T F' B' → F' 7 0 0 = o ∧ F' 7 0 1 = 1 ∧ B' 8 o 0 3 = mi ∧ B' 8 o 0 4 = n ∧ B' 8 o 0 5 = d ∧ B' 8 o 0 6 = te := fun h => ⟨by rw [h.2.1 7 0 0 (by omega)]; exact h0.1, by rw [h.2.1 7 0 1 (by omega)]; exact h1, by rw [h.2.2 8 o 0 3 (by omega)]; exact b3, by rw [h.2.2 8 o 0 4 (by omega)]; exact b4, by rw [h.2.2 8 o 0 5 (by omega)]; exact b5, by rw [h.2.2 8 o 0 6 (by omega)]; exact b6⟩
  refine ⟨F9, B9, ?_, ?_⟩
  · have o0 : (0 : Int) ≤ 1 ∧ (1 : Int) < K.2 0 := by omega
    have e63 : f_Scribe_writeHead_63 K 0 1 (if mi = 1 then 5 else 6) F2 B2 = some (0, F9, B9) := by
      unfold f_Scribe_writeHead_63
      rw [if_pos o0, e3, zb_s, if_pos ⟨by omega, k7⟩, (g w3).1, if_pos h0.2, (g w3).2.1, if_pos o0, (g w3).2.2.2.1, e4, zb_s, (g w4).2.1, if_pos o0, e5, zb_s, (g w5).1, if_pos h0.2, (g w5).2.1, if_pos o0, (g w5).2.2.2.2.1, e6, zb_s, (g w6).2.1, if_pos o0, e7, zb_s, (g w7).1, if_pos h0.2, (g w7).2.1, if_pos o0, (g w7).2.2.2.2.2, e8, zb_s, (g w8).2.1, if_pos o0, e9, zb_s]
    have e25 : f_Scribe_writeHead_25 K f 0 1 (if 0 ≤ f then 4 else 3) F B = some (0, F9, B9) := by
      unfold f_Scribe_writeHead_25
      rw [if_pos o0, e1, zb_s, if_pos ⟨by omega, k7⟩, (g w1).2.1, if_pos o0, if_pos (by unfold r32; omega), za, e2, zb_s, (g w2).1, if_pos h0.2, (g w2).2.2.1, if_pos (by unfold r32; omega), (g w2).2.1, ← e63]
      by_cases z : mi = 1
      · rw [if_pos z, if_pos z]
      · rw [if_neg z, if_neg z]
    unfold f_Scribe_writeHead
    rw [if_pos ⟨by omega, k7⟩, h0.1, if_pos h0.2, b2, if_pos (by unfold r32; omega), h1, ← e25]
    by_cases z : 0 ≤ f
    · rw [if_pos z, if_pos z]
    · rw [if_neg z, if_neg z]
  · unfold hdT
    simp only [List.append_assoc, List.cons_append, List.nil_append] at w9 ⊢
    exact w9
theorem M_head {Km : Nat} {w' f mi n d te : Int} {F : zF} {B : zB} (hK : 200 ≤ Km) (hf : -7 ≤ f ∧ f ≤ 7) (hn : 0 ≤ n ∧ n < 1000) (hd : 0 ≤ d ∧ d < 1000) (hte : 0 ≤ te ∧ te < 1000) (hmi : mi = 0 ∨ mi = 1) (hw : F 14 0 6 = w' ∧ 0 ≤ w' ∧ w' < 3) (m2 : F 13 w' 2 = f) (m3 : F 13 w' 3 = mi) (m4 : F 13 w' 4 = n) (m5 : F 13 w' 5 = d) (b6 : B 14 0 73 6 = te) (w : TM (F, B) [] F B) : ∃ F' B', f_M_downHeads Km F B = some (0, F', B') ∧ TM (F, B) (hdT f mi n d te) F' B' := by
  have zr : 0 ≤ (if 0 ≤ f then f else -f) ∧ (if 0 ≤ f then f else -f) < 1000 := by split <;> omega
  have g : ∀ {T : List Int} {F' : zF} {B' : zB}, TM (F, B) T F' B' → F' 14 0 6 = w' ∧ F' 13 w' 2 = f ∧ F' 13 w' 3 = mi ∧ F' 13 w' 4 = n ∧ F' 13 w' 5 = d ∧ B' 14 0 73 6 = te := fun h => ⟨by rw [h.2.1 14 0 6 (by omega)]; exact hw.1, by rw [h.2.1 13 w' 2 (by omega)]; exact m2, by rw [h.2.1 13 w' 3 (by omega)]; exact m3, by rw [h.2.1 13 w' 4 (by omega)]; exact m4, by rw [h.2.1 13 w' 5 (by omega)]; exact m5, by rw [h.2.2 14 0 73 6 (by omega)]; exact b6⟩
  obtain ⟨F1, B1, e1, w1⟩ := M_strg (Km := Km) (s := 38) (U := [107, 101, 121, 32]) hK (by decide) (by decide) (by decide) (by decide) (by simp) w
  obtain ⟨F2, B2, e2, w2⟩ : ∃ F2 B2, (if 0 ≤ f then f_M_downHeads_23 Km F1 B1 else zbind (f_M_put_0 Km 45 F1 B1) (fun r5 F5 B5 => f_M_downHeads_23 Km F5 B5)) = f_M_downHeads_23 Km F2 B2 ∧ TM (F, B) ([] ++ [107, 101, 121, 32] ++ (if f < 0 then [45] else [])) F2 B2 := by
    by_cases z : 0 ≤ f
    · rw [if_pos z, if_neg (by omega), List.append_nil]
      exact ⟨F1, B1, rfl, w1⟩
    · obtain ⟨F2, B2, e2, w2⟩ := M_pt (Km := Km) (a := 45) (by simp) w1
      rw [if_neg z, if_pos (by omega), e2, zb_s]
      exact ⟨F2, B2, rfl, w2⟩
  have l2 := if_l (c := f < 0) (x := 45)
  obtain ⟨F3, B3, e3, w3⟩ := M_dec (Km := Km) (v := if 0 ≤ f then f else -f) hK zr (by simp only [List.length_append, List.length_cons, List.length_nil]; omega) w2
  have l3 := decT_l (v := if 0 ≤ f then f else -f)
  obtain ⟨F4, B4, e4, w4⟩ : ∃ F4 B4, f_M_put_1 Km (if mi = 0 then 40 else 39) F3 B3 = some (0, F4, B4) ∧ TM (F, B) ([] ++ [107, 101, 121, 32] ++ (if f < 0 then [45] else []) ++ decT (if 0 ≤ f then f else -f) ++ (if mi = 1 then [32, 109, 105, 110, 111, 114] else [32, 109, 97, 106, 111, 114])) F4 B4 := by
    rcases hmi with z | z
    · rw [z, if_pos (show (0 : Int) = 0 from rfl), if_neg (show ¬ (0 : Int) = 1 by decide)]
      exact M_strg hK (by decide) (by decide) (by decide) (by decide) (by simp only [List.length_append, List.length_cons, List.length_nil]; omega) w3
    · rw [z, if_neg (show ¬ (1 : Int) = 0 by decide), if_pos (show (1 : Int) = 1 from rfl)]
      exact M_strg hK (by decide) (by decide) (by decide) (by decide) (by simp only [List.length_append, List.length_cons, List.length_nil]; omega) w3
  have l4 : ((if mi = 1 then [32, 109, 105, 110, 111, 114] else [32, 109, 97, 106, 111, 114]) : List Int).length = 6 := by split <;> rfl
  obtain ⟨F5, B5, e5, w5⟩ := M_pt (Km := Km) (a := 10) (by simp only [List.length_append, List.length_cons, List.length_nil]; omega) w4
  obtain ⟨F6, B6, e6, w6⟩ := M_strg (Km := Km) (s := 41) (U := [116, 105, 109, 101, 32]) hK (by decide) (by decide) (by decide) (by decide) (by simp only [List.length_append, List.length_cons, List.length_nil]; omega) w5
  obtain ⟨F7, B7, e7, w7⟩ := M_dec (Km := Km) (v := n) hK hn (by simp only [List.length_append, List.length_cons, List.length_nil]; omega) w6
  have l7 := decT_l (v := n)
  obtain ⟨F8, B8, e8, w8⟩ := M_pt (Km := Km) (a := 47) (by simp only [List.length_append, List.length_cons, List.length_nil]; omega) w7
  obtain ⟨F9, B9, e9, w9⟩ := M_dec (Km := Km) (v := d) hK hd (by simp only [List.length_append, List.length_cons, List.length_nil]; omega) w8
  have l9 := decT_l (v := d)
  obtain ⟨F10, B10, e10, w10⟩ := M_pt (Km := Km) (a := 10) (by simp only [List.length_append, List.length_cons, List.length_nil]; omega) w9
  obtain ⟨F11, B11, e11, w11⟩ := M_strg (Km := Km) (s := 42) (U := [116, 101, 109, 112, 111, 32]) hK (by decide) (by decide) (by decide) (by decide) (by simp only [List.length_append, List.length_cons, List.length_nil]; omega) w10
  obtain ⟨F12, B12, e12, w12⟩ := M_dec (Km := Km) (v := te) hK hte (by simp only [List.length_append, List.length_cons, List.length_nil]; omega) w11
  have l12 := decT_l (v := te)
  obtain ⟨F13, B13, e13, w13⟩ := M_pt (Km := Km) (a := 10) (by simp only [List.length_append, List.length_cons, List.length_nil]; omega) w12
  refine ⟨F13, B13, ?_, ?_⟩
  · have e75 : f_M_downHeads_75 Km (if mi = 0 then 40 else 39) F3 B3 = some (0, F13, B13) := by
      unfold f_M_downHeads_75
      rw [e4, zb_s, e5, zb_s, e6, zb_s, (g w6).1, if_pos hw.2, (g w6).2.2.2.1, e7, zb_s, e8, zb_s, (g w8).1, if_pos hw.2, (g w8).2.2.2.2.1, e9, zb_s, e10, zb_s, e11, zb_s, (g w11).2.2.2.2.2, e12, zb_s, e13, zb_s]
    have e52 : f_M_downHeads_52 Km (if 0 ≤ f then f else -f) F2 B2 = some (0, F13, B13) := by
      unfold f_M_downHeads_52
      rw [e3, zb_s, (g w3).1, if_pos hw.2, (g w3).2.2.1, if_pos (by unfold r32; omega), ← e75]
      by_cases z : mi = 0
      · rw [if_pos z, if_pos z]
      · rw [if_neg z, if_neg z]
    have e23 : f_M_downHeads_23 Km F2 B2 = some (0, F13, B13) := by
      unfold f_M_downHeads_23
      rw [(g w2).1, if_pos hw.2, (g w2).2.1, if_pos (by unfold r32; omega), ← e52]
      by_cases z : 0 ≤ f
      · rw [if_pos z, if_pos z]
      · rw [if_neg z, if_neg z]
    unfold f_M_downHeads
    rw [e1, zb_s, (g w1).1, if_pos hw.2, (g w1).2.1, if_pos (by unfold r32; omega), e2, e23]
  · unfold hdT
    simp only [List.append_assoc, List.cons_append, List.nil_append] at w13 ⊢
    exact w13
theorem L_cmpG {Km : Nat} {g n d b last : Int} {F : zF} {B : zB} (hKm : 1000 ≤ Km) (hb : BRs n d b) (hg : g = 4 ∨ g = 8 ∨ g = 16 ∨ g = 32) (hl : 0 ≤ last ∧ last ≤ 40000000000000) : ∃ r, f_M_compare Km last g (100 * n) d F B = some (r, F, B) ∧ (0 < r ↔ 100 * b < 512 / g * last) ∧ (r = -1 ∨ r = 0 ∨ r = 1) := by
  obtain ⟨hn, hd, eb⟩ := hb
  have key : ∀ (x r1 y z : Int), gc g d = r1 → 0 < r1 → r1 ≤ 32 → d / r1 = y → g / r1 = z → (1 ≤ y ∧ y ≤ 16) → (1 ≤ z ∧ z ≤ 32) → (last * y ≤ 100 * n * z ↔ 512 / g * last ≤ 100 * b) → (0 ≤ last * y ∧ last * y ≤ 1000000000000000) → (0 ≤ 100 * n * z ∧ 100 * n * z ≤ 1000000) → ∃ r, f_M_compare Km last g (100 * n) d F B = some (r, F, B) ∧ (0 < r ↔ 100 * b < 512 / g * last) ∧ (r = -1 ∨ r = 0 ∨ r = 1) := fun x r1 y z e r0 r32' ey ez hy hz hi h1 h2 => by
    unfold f_M_compare f_M_compare_51
    rw [L_gcd (by omega) (by omega) (by omega) (by omega) (by omega), zb_s, e, if_pos (lI_n0 r0 (by unfold r64; omega)), zldv_e (by omega) (by omega) r0 (by omega), zldv_e (by omega) (by omega) r0 (by omega), ey, ez, if_pos (by unfold r64; omega), if_pos (by unfold r64; omega)]
    by_cases c : 100 * n * z ≤ last * y
    · rw [if_pos (zcmp_o.mpr c)]
      by_cases c2 : last * y ≤ 100 * n * z
      · rw [if_pos (zcmp_m.mpr c2)]
        exact ⟨0, rfl, by have := hi.mp c2; omega, by omega⟩
      · rw [if_neg (fun q => c2 (zcmp_m.mp q))]
        refine ⟨1, rfl, ⟨fun _ => ?_, fun _ => by omega⟩, by omega⟩
        rcases Int.lt_or_le (100 * b) (512 / g * last) with q | q
        · exact q
        · exact absurd (hi.mpr q) c2
    · rw [if_neg (fun q => c (zcmp_o.mp q))]
      have := hi.mp (by omega)
      exact ⟨-1, rfl, by omega, by omega⟩
  rcases hg with rfl | rfl | rfl | rfl <;> rcases hd with rfl | rfl | rfl | rfl
  · exact key 0 2 1 2 (by decide +kernel) (by decide) (by decide) (by decide) (by decide) (by decide) (by decide) (by show _ ↔ 128 * last ≤ _; have : b = 256 * n := eb; omega) (by omega) (by omega)
  · exact key 0 4 1 1 (by decide +kernel) (by decide) (by decide) (by decide) (by decide) (by decide) (by decide) (by show _ ↔ 128 * last ≤ _; have : b = 128 * n := eb; omega) (by omega) (by omega)
  · exact key 0 4 2 1 (by decide +kernel) (by decide) (by decide) (by decide) (by decide) (by decide) (by decide) (by show _ ↔ 128 * last ≤ _; have : b = 64 * n := eb; omega) (by omega) (by omega)
  · exact key 0 4 4 1 (by decide +kernel) (by decide) (by decide) (by decide) (by decide) (by decide) (by decide) (by show _ ↔ 128 * last ≤ _; have : b = 32 * n := eb; omega) (by omega) (by omega)
  · exact key 0 2 1 4 (by decide +kernel) (by decide) (by decide) (by decide) (by decide) (by decide) (by decide) (by show _ ↔ 64 * last ≤ _; have : b = 256 * n := eb; omega) (by omega) (by omega)
  · exact key 0 4 1 2 (by decide +kernel) (by decide) (by decide) (by decide) (by decide) (by decide) (by decide) (by show _ ↔ 64 * last ≤ _; have : b = 128 * n := eb; omega) (by omega) (by omega)
  · exact key 0 8 1 1 (by decide +kernel) (by decide) (by decide) (by decide) (by decide) (by decide) (by decide) (by show _ ↔ 64 * last ≤ _; have : b = 64 * n := eb; omega) (by omega) (by omega)
  · exact key 0 8 2 1 (by decide +kernel) (by decide) (by decide) (by decide) (by decide) (by decide) (by decide) (by show _ ↔ 64 * last ≤ _; have : b = 32 * n := eb; omega) (by omega) (by omega)
  · exact key 0 2 1 8 (by decide +kernel) (by decide) (by decide) (by decide) (by decide) (by decide) (by decide) (by show _ ↔ 32 * last ≤ _; have : b = 256 * n := eb; omega) (by omega) (by omega)
  · exact key 0 4 1 4 (by decide +kernel) (by decide) (by decide) (by decide) (by decide) (by decide) (by decide) (by show _ ↔ 32 * last ≤ _; have : b = 128 * n := eb; omega) (by omega) (by omega)
  · exact key 0 8 1 2 (by decide +kernel) (by decide) (by decide) (by decide) (by decide) (by decide) (by decide) (by show _ ↔ 32 * last ≤ _; have : b = 64 * n := eb; omega) (by omega) (by omega)
  · exact key 0 16 1 1 (by decide +kernel) (by decide) (by decide) (by decide) (by decide) (by decide) (by decide) (by show _ ↔ 32 * last ≤ _; have : b = 32 * n := eb; omega) (by omega) (by omega)
  · exact key 0 2 1 16 (by decide +kernel) (by decide) (by decide) (by decide) (by decide) (by decide) (by decide) (by show _ ↔ 16 * last ≤ _; have : b = 256 * n := eb; omega) (by omega) (by omega)
  · exact key 0 4 1 8 (by decide +kernel) (by decide) (by decide) (by decide) (by decide) (by decide) (by decide) (by show _ ↔ 16 * last ≤ _; have : b = 128 * n := eb; omega) (by omega) (by omega)
  · exact key 0 8 1 4 (by decide +kernel) (by decide) (by decide) (by decide) (by decide) (by decide) (by decide) (by show _ ↔ 16 * last ≤ _; have : b = 64 * n := eb; omega) (by omega) (by omega)
  · exact key 0 16 1 2 (by decide +kernel) (by decide) (by decide) (by decide) (by decide) (by decide) (by decide) (by show _ ↔ 16 * last ≤ _; have : b = 32 * n := eb; omega) (by omega) (by omega)
end
end
section
section
/-! ===== down: the voices one after another ===== -/
noncomputable def clV (tn tk : Int → Int) (N s : Int) : Int := if sm60 tn s (nxG tk s N - s).toNat < 0 then 1 else 0
/-- the text of all voices from s on; the rows of the reference hold its spans -/
noncomputable def VTx (K : zK) (o f w g D N : Int) (bg en tn tk nb : Int → Int) (n d b last : Int) (B : zB) : Nat → Int → Int → List Int → Prop
  | 0, _, _, U => U = []
  | fu + 1, s, v, U => if s < N ∧ v < 4 then ∃ EL U', (B 13 w 8 v = clV tn tk N s ∧ B 13 w 9 v = nb (tk s) ∧ B 13 w 12 v = (EL.length : Int) ∧ (EL.length : Int) ≤ 800 ∧ EVn (512 / g) w v B 0 EL) ∧ (GLp K o f (fun i => gplF g D (bg i)) (fun i => gplF g D (en i)) tn (nxG tk s N) 400 s 0 EL ∧ CHN 0 EL ∧ endN 0 EL ≤ last) ∧ U = (vHd v (clV tn tk N s) (nb (tk s)) ++ (vNt n d b (512 / g) last EL ++ [125, 10])) ++ U' ∧ VTx K o f w g D N bg en tn tk nb n d b last B fu (nxG tk s N) (v + 1) U' else U = []
noncomputable def FRs (T : List Int) (r : Int) (F : zF) (B : zB) : Prop := ((T.length : Int) ≤ 3000 ∧ r = (T.length : Int) ∧ F 14 0 71 = (T.length : Int) ∧ ∀ j : Nat, j < T.length → B 14 0 70 j % 256 = tbA T j % 256) ∨ (3000 < (T.length : Int) ∧ r = -2 ∧ F 14 0 71 = 0)
noncomputable def dvX (w : Int) (B B' : zB) : Prop := ∀ c i k y, ¬ (c = 13 ∧ i = w ∧ 8 ≤ k ∧ k ≤ 35) → ¬ (c = 14 ∧ i = 0 ∧ k = 70) → B' c i k y = B c i k y
section
variable {Km : Nat} {K : zK} {o f w g D N n d b last : Int} {bg en tn tk nb : Int → Int}
theorem VTx_f {B B' : zB} : ∀ (fu : Nat) (s v : Int) (U : List Int), VTx K o f w g D N bg en tn tk nb n d b last B fu s v U → (∀ k y, ((k = 8 ∨ k = 9 ∨ k = 12) ∧ v ≤ y) ∨ ((k = 16 ∨ k = 17 ∨ k = 21 ∨ k = 22) ∧ 1000 * v ≤ y) ∨ ((k = 28 ∨ k = 29) ∧ 6000 * v ≤ y) → B' 13 w k y = B 13 w k y) → VTx K o f w g D N bg en tn tk nb n d b last B' fu s v U := by
  intro fu
  induction fu with
  | zero => intro s v U h _; exact h
  | succ fu ih =>
    intro s v U h e
    rw [VTx] at h ⊢
    by_cases c : s < N ∧ v < 4
    · rw [if_pos c] at h ⊢
      obtain ⟨EL, U', ⟨h1, h2, h3, h4, h5⟩, h6, h7, h8⟩ := h
      refine ⟨EL, U', ⟨?_, ?_, ?_, h4, ?_⟩, h6, h7, ?_⟩
      · rw [e 8 v (by omega)]; exact h1
      · rw [e 9 v (by omega)]; exact h2
      · rw [e 12 v (by omega)]; exact h3
      · exact EVn_f EL 0 h5 (fun k y hk a b => e k y (by omega)) (fun k y hk a b => e k y (by omega))
      · exact ih _ _ _ h8 (fun k y hk => e k y (by omega))
    · rw [if_neg c] at h ⊢
      exact h
theorem lpB_a {gB gE : Int → Int} : ∀ (fu : Nat) (s v a : Int), a ≤ lpB gB gE tk N fu s v a := by
  intro fu
  induction fu with
  | zero => intro s v a; rw [lpB]; omega
  | succ fu ih =>
    intro s v a
    rw [lpB]
    split
    · have := ih (nxG tk s N) (v + 1) (zmax a (lsG gB gE (nxG tk s N) 400 s 0))
      have z : a ≤ zmax a (lsG gB gE (nxG tk s N) 400 s 0) := by unfold zmax; split <;> omega
      omega
    · omega
theorem tk_nx {s : Int} (dq : DTq g D N bg en tn tk) (hs : 0 ≤ s ∧ s < N) (hl : ∀ i, 0 ≤ i → i < s → tk i < tk s) : nxG tk s N < N → ∀ i, 0 ≤ i → i < nxG tk s N → tk i < tk (nxG tk s N) := fun h i i0 i1 => by
  have hN := dq.2.2.1
  obtain ⟨p1, p2, p3, p4⟩ := nxG_p (gB := tk) hs.2 (by omega) hs.1
  have m := tkk_m dq (nxG tk s N - s).toNat s hs.1 (by omega)
  rw [show s + ((nxG tk s N - s).toNat : Int) = nxG tk s N by omega] at m
  have := p4 h
  rcases Int.lt_or_le i s with z | z
  · have := hl i i0 z
    omega
  · have := p3 i z i1
    omega
theorem VT_e {B : zB} (dq : DTq g D N bg en tn tk) : ∀ (fu : Nat) (s v a : Int), N - s ≤ fu → 0 ≤ s → s ≤ N → (s < N → ∀ i, 0 ≤ i → i < s → tk i < tk s) → lpB (fun i => gplF g D (bg i)) (fun i => gplF g D (en i)) tk N fu s v a ≤ last → VOs K o f w g D N bg en tn tk nb B v (vlB tk N fu s v) → ∃ U, VTx K o f w g D N bg en tn tk nb n d b last B fu s v U := by
  have hN := dq.2.2.1
  intro fu
  induction fu with
  | zero => intro s v a _ _ _ _ _ _; exact ⟨[], rfl⟩
  | succ fu ih =>
    intro s v a hf s0 sN ho hl h
    rw [vlB] at h
    rw [lpB] at hl
    by_cases c : s < N ∧ v < 4
    · rw [if_pos c] at h hl
      obtain ⟨⟨h1, h2, EL, h3, h4, h5, h6⟩, h7⟩ := h
      obtain ⟨p1, p2, _, _⟩ := nxG_p (gB := tk) c.1 (by omega) s0
      obtain ⟨c1, c2⟩ := GL_c (s0 := s) dq p2 (blk_m dq (blk_o dq ⟨s0, c.1⟩ (ho c.1))) 400 s 0 EL (by omega) s0 (by omega) (fun _ => (gpl_b dq.1 dq.2.1 (dq.2.2.2.1 s s0 c.1).2.2.1).1) h3
      have la := lpB_a (tk := tk) (N := N) (gB := fun i => gplF g D (bg i)) (gE := fun i => gplF g D (en i)) fu (nxG tk s N) (v + 1) (zmax a (lsG (fun i => gplF g D (bg i)) (fun i => gplF g D (en i)) (nxG tk s N) 400 s 0))
      have lz : lsG (fun i => gplF g D (bg i)) (fun i => gplF g D (en i)) (nxG tk s N) 400 s 0 ≤ zmax a (lsG (fun i => gplF g D (bg i)) (fun i => gplF g D (en i)) (nxG tk s N) 400 s 0) := by unfold zmax; split <;> omega
      obtain ⟨U, hU⟩ := ih (nxG tk s N) (v + 1) _ (by omega) (by omega) p2 (tk_nx dq ⟨s0, c.1⟩ (ho c.1)) hl h7
      refine ⟨(vHd v (clV tn tk N s) (nb (tk s)) ++ (vNt n d b (512 / g) last EL ++ [125, 10])) ++ U, ?_⟩
      rw [VTx, if_pos c]
      exact ⟨EL, U, ⟨h1, h2, h4, h5, EVL_n dq.1 EL 0 0 c1 h6⟩, ⟨h3, c1, by omega⟩, rfl, hU⟩
    · refine ⟨[], ?_⟩
      rw [VTx, if_neg c]
theorem C_w95 {Bm : zB} (hK : KKq K) (hb : BRs n d b) (dq : DTq g D N bg en tn tk) (hl : 0 ≤ last ∧ 512 / g * last ≤ 100 * b) : ∀ (fu m : Nat) (s v : Int) (T U : List Int) (F : zF) (B : zB), N - s ≤ fu → fu < m → 0 ≤ s → s ≤ N → 0 ≤ v → v ≤ 4 → (s < N → ∀ i, 0 ≤ i → i < s → tk i < tk s) → VTx K o f w g D N bg en tn tk nb n d b last Bm fu s v U → (∀ i, 0 ≤ i → i < N → zmax (B 8 o 3 (tk i)) 0 = nb (tk i) ∧ r32 (B 8 o 3 (tk i)) ∧ 0 ≤ nb (tk i) ∧ nb (tk i) ≤ 3) → CFq K o g D N bg en tn tk F B → SCq K o n d b (F, B) → B 8 o 0 2 = f → TC (F, B) T F B → ∃ F' B', f_Scribe_writeDown_95 K m s v (512 / g * last) 0 o F B = f_Scribe_writeDown_135 K 0 F' B' ∧ TC (F', B') (T ++ U) F' B' ∧ wvF F F' ∧ wvB B B' := by
  have hN := dq.2.2.1
  intro fu
  induction fu with
  | zero =>
    intro m s v T U F B hf hm s0 sN v0 v4 ho hV hn hc hq b2 hT
    obtain ⟨p, rfl⟩ : ∃ p, m = p + 1 := ⟨m - 1, by omega⟩
    obtain ⟨h1, h2, h3, h4, h5⟩ := hc
    rw [VTx] at hV
    rw [hV, List.append_nil]
    refine ⟨F, B, ?_, hT, fun _ _ _ _ => rfl, fun _ _ _ _ _ => rfl⟩
    rw [f_Scribe_writeDown_95, if_pos h1.2, if_pos (by unfold r32; omega), h4, if_pos (by unfold r32; omega), if_pos (by omega)]
  | succ fu ih =>
    intro m s v T U F B hf hm s0 sN v0 v4 ho hV hn hc hq b2 hT
    obtain ⟨p, rfl⟩ : ∃ p, m = p + 1 := ⟨m - 1, by omega⟩
    have hc' := hc
    obtain ⟨h1, h2, h3, h4, h5⟩ := hc'
    rw [VTx] at hV
    rw [f_Scribe_writeDown_95, if_pos h1.2, if_pos (by unfold r32; omega), h4, if_pos (by unfold r32; omega)]
    by_cases c : s < N ∧ v < 4
    · rw [if_pos c] at hV
      obtain ⟨EL, U', _, ⟨g1, g2, g3⟩, eU, hV'⟩ := hV
      obtain ⟨p1, p2, _, _⟩ := nxG_p (gB := tk) c.1 (by omega) s0
      obtain ⟨F1, B1, e1, w1, w2, w3⟩ := C_wv (K := K) (o := o) (f := f) (a := s) (v := v) (u := 512 / g) (last := last) (cl := clV tn tk N s) (num := nb (tk s)) (EL := EL) (T := T) hK hb rfl dq ⟨s0, c.1⟩ (ho c.1) hl ⟨v0, c.2⟩ g1 g3 rfl (hn s s0 c.1) hc hq b2 hT
      have hc1 := CFq_w hc w2 w3
      obtain ⟨F2, B2, e2, x1, x2, x3⟩ := ih p (nxG tk s N) (v + 1) _ U' F1 B1 (by omega) (by omega) (by omega) p2 (by omega) (by omega) (tk_nx dq ⟨s0, c.1⟩ (ho c.1)) hV' (fun i i0 i1 => by rw [w3 8 o 3 (tk i) (by omega)]; exact hn i i0 i1) hc1 (SCq_f hq w2 w3) (by rw [w3 8 o 0 2 (by omega)]; exact b2) w1
      refine ⟨F2, B2, ?_, ?_, fun c y k n => by rw [x2 c y k n, w2 c y k n], fun c y k x n => by rw [x3 c y k x n, w3 c y k x n]⟩
      · rw [if_neg (by omega), if_pos (by unfold r32; omega), if_neg (by omega), if_pos ⟨by omega, hK.2.1⟩, e1, zb_s, C_te hK.2.1 (by have := hK.2.2.2; omega) dq ⟨s0, c.1⟩ hc1, zb_s]
        exact e2
      · rw [eU, ← List.append_assoc]
        exact x1
    · rw [if_neg c] at hV
      rw [hV, List.append_nil]
      refine ⟨F, B, ?_, hT, fun _ _ _ _ => rfl, fun _ _ _ _ _ => rfl⟩
      by_cases z : N ≤ s
      · rw [if_pos z]
      · rw [if_neg z, if_pos (by unfold r32; omega), if_pos (by omega)]
theorem M_284 {T : List Int} {F : zF} {B : zB} (h : T.length ≤ 8000) (hT : TM (F, B) T F B) : ∃ r F', f_M_down_284 Km 1 F B = some (r, F', B) ∧ FRs T r F' B ∧ (∀ c y k, ¬ (c = 14 ∧ y = 0 ∧ k = 71) → F' c y k = F c y k) := by
  unfold f_M_down_284 f_M_down_304
  rw [if_pos (by unfold r32; omega), if_neg (by decide), hT.1.1, if_pos (by unfold r32; omega)]
  by_cases c : 3000 < (T.length : Int)
  · rw [if_pos c]
    exact ⟨_, _, rfl, Or.inr ⟨c, rfl, by rw [zup3_v, if_pos (by omega)]⟩, fun c y k n => by rw [zup3_v, if_neg n]⟩
  · rw [if_neg c]
    exact ⟨_, _, rfl, Or.inl ⟨by omega, rfl, hT.1.1, hT.1.2⟩, fun _ _ _ _ => rfl⟩
theorem M_284x {T : List Int} {F : zF} {B : zB} (h : 3000 < F 14 0 71 ∧ F 14 0 71 ≤ 5000) (hT : 3000 < (T.length : Int)) : ∃ r F', f_M_down_284 Km 1 F B = some (r, F', B) ∧ FRs T r F' B ∧ (∀ c y k, ¬ (c = 14 ∧ y = 0 ∧ k = 71) → F' c y k = F c y k) := by
  unfold f_M_down_284 f_M_down_304
  rw [if_pos (by unfold r32; omega), if_neg (by decide), if_pos (by unfold r32; omega), if_pos h.1]
  exact ⟨_, _, rfl, Or.inr ⟨hT, rfl, by rw [zup3_v, if_pos (by omega)]⟩, fun c y k n => by rw [zup3_v, if_neg n]⟩
theorem vl_n (hN : N ≤ 400) : ∀ (fu : Nat) (s v : Int), 0 ≤ s → v ≤ 4 → v + ((vlB tk N fu s v).length : Int) ≤ 4 := by
  intro fu
  induction fu with
  | zero => intro s v _ h; rw [vlB]; simp only [List.length_nil]; omega
  | succ fu ih =>
    intro s v s0 h
    rw [vlB]
    split
    · rename_i c
      obtain ⟨p1, _, _, _⟩ := nxG_p (gB := tk) c.1 hN s0
      have := ih (nxG tk s N) (v + 1) (by omega) (by omega)
      rw [List.length_cons]
      omega
    · simp only [List.length_nil]; omega
theorem M_248 (hKm : 70000000000 < Km) (hb : BRs n d b) (dq : DTq g D N bg en tn tk) (hl : 0 ≤ last ∧ 512 / g * last ≤ 100 * b) (hnb : ∀ i, 0 ≤ i → i < N → 0 ≤ nb (tk i) ∧ nb (tk i) ≤ 3) : ∀ (fu m : Nat) (s v : Int) (T U : List Int) (F : zF) (B : zB), fu < m → 0 ≤ s → 0 ≤ v → v ≤ 4 → (F 14 0 6 = w ∧ 0 ≤ w ∧ w < 3) → F 13 w 1 = v + ((vlB tk N fu s v).length : Int) → F 13 w 4 = n → F 13 w 5 = d → VTx K o f w g D N bg en tn tk nb n d b last B fu s v U → T.length ≤ 8000 → TM (F, B) T F B → ∃ r F' B', f_M_down_248 Km m v 1 last g F B = some (r, F', B') ∧ FRs (T ++ U) r F' B' ∧ dvG w F F' ∧ dvX w B B' := by
  have hN := dq.2.2.1
  intro fu
  induction fu with
  | zero =>
    intro m s v T U F B hm s0 v0 v4 hw h1 m4 m5 hV ht hT
    obtain ⟨p, rfl⟩ : ∃ p, m = p + 1 := ⟨m - 1, by omega⟩
    rw [VTx] at hV
    rw [vlB, List.length_nil] at h1
    rw [hV, List.append_nil]
    obtain ⟨r, F', e, e2, e3⟩ := M_284 (Km := Km) ht hT
    refine ⟨r, F', B, ?_, e2, fun c y k n _ => e3 c y k (by omega), fun _ _ _ _ _ _ => rfl⟩
    rw [f_M_down_248, hw.1, if_pos hw.2, if_pos (by unfold r32; omega), h1, if_pos (by unfold r32; omega), if_pos (by omega)]
    exact e
  | succ fu ih =>
    intro m s v T U F B hm s0 v0 v4 hw h1 m4 m5 hV ht hT
    obtain ⟨p, rfl⟩ : ∃ p, m = p + 1 := ⟨m - 1, by omega⟩
    rw [VTx] at hV
    have b4 := vl_n (tk := tk) hN.2 (fu + 1) s v s0 v4
    rw [f_M_down_248, hw.1, if_pos hw.2, if_pos (by unfold r32; omega), h1, if_pos (by unfold r32; omega)]
    rw [vlB] at h1 b4 ⊢
    by_cases c : s < N ∧ v < 4
    · rw [if_pos c] at hV
      rw [if_pos c, List.length_cons] at h1 b4
      rw [if_pos c, List.length_cons, if_neg (by omega), hT.1.1, if_pos (by unfold r32; omega)]
      obtain ⟨EL, U', ⟨r1, r2, r3, r4, r5⟩, ⟨g1, g2, g3⟩, eU, hV'⟩ := hV
      obtain ⟨p1, p2, _, _⟩ := nxG_p (gB := tk) c.1 (by omega) s0
      by_cases z : 3000 < (T.length : Int)
      · rw [if_pos z]
        obtain ⟨r, F', e, e2, e3⟩ := M_284 (Km := Km) ht hT
        refine ⟨r, F', B, e, ?_, fun c y k n _ => e3 c y k (by omega), fun _ _ _ _ _ _ => rfl⟩
        rcases e2 with q | q
        · omega
        · exact Or.inr ⟨by rw [List.length_append]; omega, q.2⟩
      · rw [if_neg z]
        have hcl : clV tn tk N s = 0 ∨ clV tn tk N s = 1 := by unfold clV; split <;> omega
        obtain ⟨F1, B1, e1, f1, f2, f3⟩ := M_dv (Km := Km) (g := g) (v := v) (w := w) (last := last) (T := T) hKm ⟨v0, c.2⟩ hw hb dq.1 hl r4 g2 g3 r3 m4 m5 r5 ⟨r1, hcl⟩ ⟨r2, hnb s s0 c.1⟩ (by omega) hT
        have w1 : F1 14 0 6 = w ∧ 0 ≤ w ∧ w < 3 := ⟨by rw [f1 14 0 6 (by omega) (by omega)]; exact hw.1, hw.2⟩
        have q1 : F1 13 w 1 = v + 1 + ((vlB tk N fu (nxG tk s N) (v + 1)).length : Int) := by rw [f1 13 w 1 (by omega) (by omega), h1]; omega
        rw [e1, zb_s]
        rcases f3 with ⟨q, tl⟩ | ⟨q, q2⟩
        · obtain ⟨r, F', B', x1, x2, x3, x4⟩ := ih p (nxG tk s N) (v + 1) _ U' F1 B1 (by omega) (by omega) (by omega) (by omega) w1 q1 (by rw [f1 13 w 4 (by omega) (by omega)]; exact m4) (by rw [f1 13 w 5 (by omega) (by omega)]; exact m5) (VTx_f fu _ _ _ hV' (fun k y hk => f2 13 w k y (by omega) (by omega))) (by omega) q
          refine ⟨r, F', B', x1, ?_, fun c y k n n' => by rw [x3 c y k n n', f1 c y k n n'], fun c i k y n n' => by rw [x4 c i k y n n', f2 c i k y (by omega) n']⟩
          rw [eU, ← List.append_assoc]
          exact x2
        · have tl : 3000 < ((T ++ U).length : Int) := by
            rw [eU, ← List.append_assoc, List.length_append]
            omega
          obtain ⟨r, F', e, e2, e3⟩ := M_284x (Km := Km) (T := T ++ U) (B := B1) q tl
          refine ⟨r, F', B1, ?_, e2, fun c y k n n' => by rw [e3 c y k (by omega), f1 c y k n n'], fun c i k y n n' => by rw [f2 c i k y (by omega) n']⟩
          obtain ⟨p', rfl⟩ : ∃ p', p = p' + 1 := ⟨p - 1, by omega⟩
          rw [f_M_down_248, w1.1, if_pos w1.2, if_pos (by unfold r32; omega), q1, if_pos (by unfold r32; omega)]
          by_cases y : v + 1 + ((vlB tk N fu (nxG tk s N) (v + 1)).length : Int) ≤ v + 1
          · rw [if_pos y]; exact e
          · rw [if_neg y, if_pos (by unfold r32; omega), if_pos q.1]; exact e
    · rw [if_neg c] at hV
      rw [if_neg c, List.length_nil] at h1
      rw [if_neg c, List.length_nil, if_pos (by omega), hV, List.append_nil]
      obtain ⟨r, F', e, e2, e3⟩ := M_284 (Km := Km) ht hT
      exact ⟨r, F', B, e, e2, fun c y k n _ => e3 c y k (by omega), fun _ _ _ _ _ _ => rfl⟩
end
end
end
section
section
/-! ===== down: each side whole ===== -/
noncomputable def CRs (T : List Int) (r : Int) (F : zF) (B : zB) : Prop := F 0 1 2 = 0 ∧ (((T.length : Int) ≤ 3000 ∧ r = (T.length : Int) ∧ F 0 1 1 = (T.length : Int) ∧ ∀ j : Nat, j < T.length → B 0 1 0 j = tbA T j % 256) ∨ (3000 < (T.length : Int) ∧ r = -2 ∧ F 0 1 1 = 0))
noncomputable def dnF (F F' : zF) : Prop := ∀ c y k, ¬ ((c = 7 ∧ y = 0 ∧ (k ≤ 3 ∨ 5 ≤ k ∧ k ≤ 7)) ∨ (c = 1 ∧ y = 0 ∧ k = 10) ∨ (c = 0 ∧ y = 1 ∧ 1 ≤ k ∧ k ≤ 2)) → F' c y k = F c y k
noncomputable def dnG (w : Int) (F F' : zF) : Prop := ∀ c y k, ¬ (c = 14 ∧ y = 0 ∧ (k ≤ 1 ∨ 52 ≤ k ∧ k ≤ 57 ∨ k = 71)) → ¬ (c = 13 ∧ y = w ∧ 1 ≤ k ∧ k ≤ 7) → F' c y k = F c y k
noncomputable def dnH (w : Int) (B B' : zB) : Prop := ∀ c i k y, ¬ (c = 13 ∧ i = w ∧ 8 ≤ k ∧ k ≤ 35) → ¬ (c = 14 ∧ i = 0 ∧ (k = 70 ∨ k = 95)) → B' c i k y = B c i k y
section
variable {Km : Nat} {K : zK} {o f w g D N n d b : Int} {bg en tn tk nb : Int → Int}
theorem C_l41x {rec' : Int → Int → Int → Int → zF → zB → zO} {z first l3 l1 : Int} (h7 : 0 < K.2 7) (hK : 600 ≤ K.1) (dq : DTq g D N bg en tn tk) (hz : z ≤ N) (m : Nat) (s : Int) (F : zF) (B : zB) (hm : 500 < m) (s0 : 0 ≤ s) (sz : s < z) (hc : CFq K o g D N bg en tn tk F B) (f7 : F 7 0 7 = s) : ∃ F' B', f_Scribe_lastPlace_41 rec' K m 0 z first l3 l1 0 F B = f_Scribe_lastPlace_78 rec' K first l3 l1 0 F' B' ∧ gthF F F' ∧ gthB B B' ∧ F' 7 0 6 = lsG (fun i => gplF g D (bg i)) (fun i => gplF g D (en i)) z 400 s 0 ∧ (0 ≤ F' 7 0 6 ∧ F' 7 0 6 ≤ 40000000000000) ∧ CFq K o g D N bg en tn tk F' B' := by
  have hN := dq.2.2.1
  obtain ⟨p, rfl⟩ : ∃ p, m = p + 1 := ⟨m - 1, by omega⟩
  have hc' := hc
  obtain ⟨h1, h2, h3, h4, h5⟩ := hc'
  obtain ⟨F1, B1, x1, x2, x3, x4, x5, x6, x7⟩ := C_ga (K := K) h7 hK dq hz ⟨s0, sz⟩ hc
  obtain ⟨p1, p2, _, _⟩ := nxG_p (gB := fun i => gplF g D (bg i)) sz (by omega) s0
  have hc1 : CFq K o g D N bg en tn tk F1 B1 := CFq_f hc (x2 7 0 0 (by omega)) (x2 7 0 2 (by omega)) (x2 8 o 2 (by omega)) (fun k x => x3 8 o k x (by omega))
  obtain ⟨F2, B2, y1, y2, y3, y4, y5, y6⟩ := C_l41 (rec' := rec') (first := first) (l3 := l3) (l1 := l1) h7 hK dq hz 399 p (0 + 1) _ _ F1 B1 (by omega) (by omega) (by omega) (by omega) (by omega) p2 hc1 x5 x6 (to_b dq hz ⟨s0, sz⟩)
  refine ⟨F2, B2, ?_, fun c y k n => by rw [y2 c y k n, x2 c y k n], fun c y k x n => by rw [y3 c y k x n, x3 c y k x n], by rw [lsG, if_pos sz]; exact y4, y5, y6⟩
  rw [f_Scribe_lastPlace_41, if_pos ⟨by omega, h7⟩, h1.1, if_pos h1.2, if_pos (by unfold r32; omega), h4, if_pos (by unfold r32; omega), if_neg (by omega), f7, if_pos (by unfold r32; omega), if_pos (by unfold r32; omega), if_neg (by omega), x1, zb_s]
  exact y1
theorem C_lp {F : zF} {B : zB} (h7 : 0 < K.2 7) (hK : 600 ≤ K.1) (dq : DTq g D N bg en tn tk) (hc : CFq K o g D N bg en tn tk F B) : ∃ F' B', f_Scribe_lastPlace K 0 F B = some (lpB (fun i => gplF g D (bg i)) (fun i => gplF g D (en i)) tk N 400 0 0 0, F', B') ∧ gthF F F' ∧ gthB B B' ∧ (0 ≤ lpB (fun i => gplF g D (bg i)) (fun i => gplF g D (en i)) tk N 400 0 0 0 ∧ lpB (fun i => gplF g D (bg i)) (fun i => gplF g D (en i)) tk N 400 0 0 0 ≤ 40000000000000) ∧ CFq K o g D N bg en tn tk F' B' := by
  have hN := dq.2.2.1
  have hc' := hc
  obtain ⟨h1, h2, h3, h4, h5⟩ := hc'
  obtain ⟨p1, p2, _, _⟩ := nxG_p (gB := tk) (show (0 : Int) < N by omega) (by omega) (by omega)
  have key : ∀ p : Nat, 500 ≤ p → ∃ F' B', f_Scribe_lastPlace_7 K (p + 1) 0 0 0 0 F B = some (lpB (fun i => gplF g D (bg i)) (fun i => gplF g D (en i)) tk N 400 0 0 0, F', B') ∧ gthF F F' ∧ gthB B B' ∧ (0 ≤ lpB (fun i => gplF g D (bg i)) (fun i => gplF g D (en i)) tk N 400 0 0 0 ∧ lpB (fun i => gplF g D (bg i)) (fun i => gplF g D (en i)) tk N 400 0 0 0 ≤ 40000000000000) ∧ CFq K o g D N bg en tn tk F' B' := fun p hp => by
    rw [f_Scribe_lastPlace_7, if_pos ⟨by omega, h7⟩, h1.1, if_pos h1.2, if_pos (by unfold r32; omega), h4, if_pos (by unfold r32; omega), lpB, if_neg (by omega), if_pos (by unfold r32; omega), if_neg (by omega), if_pos ⟨by omega, by omega⟩, C_te h7 hK dq ⟨by omega, by omega⟩ hc, zb_s]
    have hc1 : CFq K o g D N bg en tn tk (zup3 F 7 0 7 0) B := CFq_f hc (by rw [zup3_v, if_neg (by omega)]) (by rw [zup3_v, if_neg (by omega)]) (by rw [zup3_v, if_neg (by omega)]) (fun _ _ => rfl)
    obtain ⟨F1, B1, x1, x2, x3, x4, x5, x6⟩ := C_l41x (rec' := f_Scribe_lastPlace_7 K p) (z := nxG tk 0 N) (first := 0) (l3 := 0) (l1 := 0) h7 hK dq p2 K.1 0 (zup3 F 7 0 7 0) B (by omega) (by omega) p1 hc1 (by rw [zup3_v, if_pos (by omega)])
    have zb : 0 ≤ zmax 0 (F1 7 0 6) ∧ zmax 0 (F1 7 0 6) ≤ 40000000000000 := by unfold zmax; split <;> omega
    obtain ⟨F2, B2, y1, y2, y3, y4, y5⟩ := C_lp7 h7 hK dq 399 p (nxG tk 0 N) (0 + 1) (zmax 0 (F1 7 0 6)) F1 B1 (by omega) (by omega) (by omega) p2 (by omega) (by omega) zb x5 x6
    rw [x4] at y1 y4
    refine ⟨F2, B2, ?_, fun c y k n => by rw [y2 c y k n, x2 c y k n, zup3_v, if_neg (by omega)], fun c y k x n => by rw [y3 c y k x n, x3 c y k x n], y4, y5⟩
    rw [x1]
    unfold f_Scribe_lastPlace_78
    rw [if_pos ⟨by omega, h7⟩, if_pos (by unfold r64; omega), if_pos (by unfold r64; omega), C_te h7 hK dq ⟨by omega, by omega⟩ x6, zb_s, x4]
    exact y1
  have := key (K.1 - 1) (by omega)
  rw [show K.1 - 1 + 1 = K.1 by omega] at this
  exact this
theorem C_135 {T : List Int} {F : zF} {B : zB} (k0 : 2 ≤ K.2 0) (k7 : 0 < K.2 7) (h1 : F 7 0 1 = 1) (w : TC (F, B) T F B) : ∃ r F', f_Scribe_writeDown_135 K 0 F B = some (r, F', B) ∧ CRs T r F' B ∧ (∀ c y k, ¬ (c = 0 ∧ y = 1 ∧ 1 ≤ k ∧ k ≤ 2) → F' c y k = F c y k) := by
  have o0 : (0 : Int) ≤ 1 ∧ (1 : Int) < K.2 0 := by omega
  have cl : f_Scribe_writeDown_158 K 0 F B = some (-2, zup3 (zup3 F 0 1 1 0) 0 1 2 0, B) := by
    unfold f_Scribe_writeDown_158 f_ByteRow_clear
    rw [if_pos ⟨by omega, k7⟩, h1, if_pos o0, if_pos o0, zb_s]
  have cw : ∀ h : 3000 < (T.length : Int), CRs T (-2) (zup3 (zup3 F 0 1 1 0) 0 1 2 0) B ∧ (∀ c y k, ¬ (c = 0 ∧ y = 1 ∧ 1 ≤ k ∧ k ≤ 2) → (zup3 (zup3 F 0 1 1 0) 0 1 2 0) c y k = F c y k) := fun h => ⟨⟨by rw [zup3_v, if_pos (by omega)], Or.inr ⟨h, rfl, by rw [zup3_v, if_neg (by omega), zup3_v, if_pos (by omega)]⟩⟩, fun c y k n => by rw [zup3_v, if_neg (by omega), zup3_v, if_neg (by omega)]⟩
  unfold f_Scribe_writeDown_135
  rw [if_pos ⟨by omega, k7⟩, h1, if_pos o0]
  rcases w.1 with ⟨q1, q2, q3, q4⟩ | ⟨q1, q2, q3⟩
  · rw [q3, if_pos (by decide), if_pos rfl, q2, if_pos (by unfold r32; omega)]
    by_cases z : (T.length : Int) ≤ 3000
    · rw [if_pos z]
      exact ⟨_, F, rfl, ⟨q3, Or.inl ⟨z, rfl, q2, q4⟩⟩, fun _ _ _ _ => rfl⟩
    · rw [if_neg z, cl]
      exact ⟨_, _, rfl, cw (by omega)⟩
  · rw [q3, if_pos (by decide), if_neg (by decide), cl]
    exact ⟨_, _, rfl, cw (by omega)⟩
theorem C_down {Bm : zB} {mi te : Int} {U : List Int} {F : zF} {B : zB} (hK : KKq K) (hb : BRs n d b) (dq : DTq g D N bg en tn tk) (hV : VTx K o f w g D N bg en tn tk nb n d b (lpB (fun i => gplF g D (bg i)) (fun i => gplF g D (en i)) tk N 400 0 0 0) Bm 400 0 0 U) (ho : 0 ≤ o ∧ o < K.2 8) (hf : -7 ≤ f ∧ f ≤ 7) (hte : 0 ≤ te ∧ te < 1000) (hmi : mi = 0 ∨ mi = 1) (f4 : F 7 0 4 = 0) (b1 : B 8 o 0 1 = D) (b2 : B 8 o 0 2 = f) (b3 : B 8 o 0 3 = mi) (b4 : B 8 o 0 4 = n) (b5 : B 8 o 0 5 = d) (b6 : B 8 o 0 6 = te) (f2 : F 8 o 2 = N) (hr : ∀ i, 0 ≤ i → i < N → B 8 o 220 i = tk i ∧ B 8 o 222 i = tn i ∧ B 8 o 224 i = bg i ∧ B 8 o 225 i = en i) (hnu : ∀ i, 0 ≤ i → i < N → zmax (B 8 o 3 (tk i)) 0 = nb (tk i) ∧ r32 (B 8 o 3 (tk i)) ∧ 0 ≤ nb (tk i) ∧ nb (tk i) ≤ 3) : ∃ r F' B', f_Scribe_writeDown K 0 o g 1 F B = some (r, F', B') ∧ dnF F F' ∧ wvB B B' ∧ ((512 / g * lpB (fun i => gplF g D (bg i)) (fun i => gplF g D (en i)) tk N 400 0 0 0 ≤ 100 * b ∧ CRs (hdT f mi n d te ++ U) r F' B') ∨ (100 * b < 512 / g * lpB (fun i => gplF g D (bg i)) (fun i => gplF g D (en i)) tk N 400 0 0 0 ∧ r = -2 ∧ F' 0 1 1 = 0 ∧ F' 0 1 2 = 0)) := by
  obtain ⟨k0, k7, k1, kf⟩ := hK
  obtain ⟨x1, x2, x3, _, x5, x6⟩ := BRs_b hb
  obtain ⟨hn, hd, eb⟩ := hb
  have o0 : (0 : Int) ≤ 1 ∧ (1 : Int) < K.2 0 := by omega
  have hN := dq.2.2.1
  obtain ⟨ug, hu⟩ := gu dq.1
  have g0 : 4 ≤ g ∧ g ≤ 32 := by have := dq.1; omega
  have zg : zmax g 1 = g := by unfold zmax; rw [if_neg (by omega)]
  have zd : zmax d 1 = d := by unfold zmax; rw [if_neg (by omega)]
  have ed : zdv 512 d = 512 / d := zdv_e (by omega) (by decide) (by omega) (by unfold r32; omega)
  have eg : zdv 512 g = 512 / g := zdv_e (by omega) (by decide) (by omega) (by unfold r32; omega)
  generalize hF1 : zup3 (zup3 (zup3 (zup3 (zup3 (zup3 F 7 0 0 o) 7 0 1 1) 7 0 2 g) 7 0 3 b) 0 1 1 0) 0 1 2 0 = F1
  have c0 : F1 7 0 0 = o := by rw [← hF1]; simp [zup3_v]
  have c1 : F1 7 0 1 = 1 := by rw [← hF1]; simp [zup3_v]
  have c2 : F1 7 0 2 = g := by rw [← hF1]; simp [zup3_v]
  have c3 : F1 7 0 3 = b := by rw [← hF1]; simp [zup3_v]
  have p1 : F1 0 1 1 = 0 := by rw [← hF1]; simp [zup3_v]
  have p2 : F1 0 1 2 = 0 := by rw [← hF1]; simp [zup3_v]
  have fn : ∀ c y k, ¬ ((c = 7 ∧ y = 0 ∧ k ≤ 3) ∨ (c = 0 ∧ y = 1 ∧ 1 ≤ k ∧ k ≤ 2)) → F1 c y k = F c y k := fun c y k n => by
    rw [← hF1, zup3_v, if_neg (by omega), zup3_v, if_neg (by omega), zup3_v, if_neg (by omega), zup3_v, if_neg (by omega), zup3_v, if_neg (by omega), zup3_v, if_neg (by omega)]
  have hc1 : CFq K o g D N bg en tn tk F1 B := ⟨⟨c0, ho⟩, c2, b1, by rw [fn 8 o 2 (by omega)]; exact f2, hr⟩
  obtain ⟨F2, B2, y1, y2, y3, y4, y5⟩ := C_lp (K := K) k7 (by omega) dq hc1
  generalize hL : lpB (fun i => gplF g D (bg i)) (fun i => gplF g D (en i)) tk N 400 0 0 0 = last at *
  have ub : 0 ≤ 512 / g * last ∧ 512 / g * last ≤ 5120000000000000 := by rcases hu with h | h | h | h <;> rw [h] <;> omega
  have e2 : F2 7 0 2 = g := by rw [y2 7 0 2 (by omega)]; exact c2
  have e3 : F2 7 0 3 = b := by rw [y2 7 0 3 (by omega)]; exact c3
  have el : last * (512 / g) = 512 / g * last := Int.mul_comm _ _
  unfold f_Scribe_writeDown f_ByteRow_clear
  rw [if_pos ⟨by omega, k7⟩, if_pos ho, if_pos ho.2, if_pos o0, if_pos o0.2, if_pos (by unfold r32; omega), b5, if_pos (by unfold r32; omega), zd, if_pos (iI_n0 (by omega) (by unfold r32; omega)), if_pos o0, zb_s, zg, ed, b4, ← eb, hF1, y1, zb_s, e2, if_pos (iI_n0 (by omega) (by unfold r32; omega)), eg, if_pos (by unfold r32; omega), e3, if_pos (by unfold r32; omega), el, if_pos (by unfold r64; omega), if_pos (by unfold r64; omega)]
  by_cases c : 512 / g * last ≤ 100 * b
  · rw [if_pos (zcmp_m.mpr c)]
    have hT2 : TC (F2, B2) [] F2 B2 := ⟨Or.inl ⟨by simp, by rw [y2 0 1 1 (by omega), p1]; rfl, by rw [y2 0 1 2 (by omega), p2], fun j hj => absurd hj (by simp)⟩, fun _ _ _ _ => rfl, fun _ _ _ _ _ => rfl⟩
    have b' : ∀ k x, B2 8 o k x = B 8 o k x := fun k x => y3 8 o k x (by omega)
    obtain ⟨F3, B3, z1, z2⟩ := C_head (K := K) (o := o) (f := f) (mi := mi) (n := n) (d := d) (te := te) k0 k7 (by omega) hf (by omega) (by omega) hte hmi ⟨by rw [y2 7 0 0 (by omega)]; exact c0, ho⟩ (by rw [y2 7 0 1 (by omega)]; exact c1) (by rw [b']; exact b2) (by rw [b']; exact b3) (by rw [b']; exact b4) (by rw [b']; exact b5) (by rw [b']; exact b6) hT2
    have f3n := z2.2.1
    have b3n := z2.2.2
    have b'' : ∀ k x, B3 8 o k x = B 8 o k x := fun k x => by rw [b3n 8 o k x (by omega)]; exact b' k x
    have hc3 : CFq K o g D N bg en tn tk F3 B3 := CFq_f y5 (f3n 7 0 0 (by omega)) (f3n 7 0 2 (by omega)) (f3n 8 o 2 (by omega)) (fun k x => b3n 8 o k x (by omega))
    have hq3 : SCq K o n d b (F3, B3) := ⟨⟨by show F3 7 0 0 = o; exact hc3.1.1, ho⟩, by show F3 7 0 1 = 1; rw [f3n 7 0 1 (by omega)]; exact (y2 7 0 1 (by omega)).trans c1, by show F3 7 0 3 = b; rw [f3n 7 0 3 (by omega)]; exact e3, by show F3 7 0 4 = 0; rw [f3n 7 0 4 (by omega)]; exact (y2 7 0 4 (by omega)).trans ((fn 7 0 4 (by omega)).trans f4), by show B3 8 o 0 4 = n; rw [b'']; exact b4, by show B3 8 o 0 5 = d; rw [b'']; exact b5⟩
    obtain ⟨F4, B4, u1, u2, u3, u4⟩ := C_w95 (K := K) (o := o) (f := f) (w := w) (nb := nb) (Bm := Bm) ⟨k0, k7, k1, kf⟩ ⟨hn, hd, eb⟩ dq ⟨y4.1, c⟩ 400 K.1 0 0 _ U F3 B3 (by omega) (by omega) (by omega) (by omega) (by omega) (by omega) (fun _ i a b => by omega) hV (fun i a b => by rw [b'']; exact hnu i a b) hc3 hq3 (by rw [b'']; exact b2) (TC_c z2 ⟨rfl, rfl⟩ (fun _ => rfl))
    obtain ⟨r, F5, v1, v2, v3⟩ := C_135 (K := K) k0 k7 (by rw [u3 7 0 1 (by omega)]; exact hq3.2.1) u2
    refine ⟨r, F5, B4, by rw [z1, zb_s, u1, v1], fun c y k h => ?_, fun c y k x h => ?_, Or.inl ⟨c, v2⟩⟩
    · rw [v3 c y k (by omega), u3 c y k (by omega), f3n c y k (by omega)]
      exact (y2 c y k (by omega)).trans (fn c y k (by omega))
    · rw [u4 c y k x h, b3n c y k x (by omega)]
      exact y3 c y k x (by omega)
  · rw [if_neg (fun q => c (zcmp_m.mp q))]
    exact ⟨_, _, _, rfl, fun c y k h => by rw [y2 c y k (by omega)]; exact fn c y k (by omega), fun c y k x h => y3 c y k x (by omega), Or.inr ⟨by omega, rfl, by rw [y2 0 1 1 (by omega)]; exact p1, by rw [y2 0 1 2 (by omega)]; exact p2⟩⟩
theorem M_down {mi te h : Int} {F : zF} {B : zB} (h7 : 0 < K.2 7) (h1 : 0 < K.2 1) (hK : 200 ≤ K.1) (hKm : 70000000000 < Km) (hb : BRs n d b) (ho : 0 ≤ o ∧ o < K.2 8) (hf : -7 ≤ f ∧ f ≤ 7) (hte : 0 ≤ te ∧ te < 1000) (hmi : mi = 0 ∨ mi = 1) (hh : 1 ≤ h ∧ h ≤ 8) (dq : DTq g D N bg en tn tk) (htk : ∀ i, 0 ≤ i → i < N → tk i < h) (hw : F 14 0 6 = w ∧ 0 ≤ w ∧ w < 3) (m0 : B 14 0 73 0 = h) (m1 : B 14 0 73 1 = D) (m2 : B 14 0 73 2 = f) (m3 : B 14 0 73 3 = mi) (m4 : B 14 0 73 4 = n) (m5 : B 14 0 73 5 = d) (m6 : B 14 0 73 6 = te) (m7 : B 14 0 73 7 = N) (hr : ∀ i, 0 ≤ i → i < N → B 14 0 75 i = tk i ∧ B 14 0 77 i = tn i ∧ B 14 0 79 i = bg i ∧ B 14 0 80 i = en i) (hnb : ∀ k, 0 ≤ k → k < h → B 14 0 81 k = nb k) (hnu : ∀ i, 0 ≤ i → i < N → 0 ≤ nb (tk i) ∧ nb (tk i) ≤ 3) : ∃ r F' B' U Bx, f_M_down_42 Km g F B = some (r, F', B') ∧ dnG w F F' ∧ dnH w B B' ∧ VTx K o f w g D N bg en tn tk nb n d b (lpB (fun i => gplF g D (bg i)) (fun i => gplF g D (en i)) tk N 400 0 0 0) Bx 400 0 0 U ∧ ((512 / g * lpB (fun i => gplF g D (bg i)) (fun i => gplF g D (en i)) tk N 400 0 0 0 ≤ 100 * b ∧ FRs (hdT f mi n d te ++ U) r F' B') ∨ (100 * b < 512 / g * lpB (fun i => gplF g D (bg i)) (fun i => gplF g D (en i)) tk N 400 0 0 0 ∧ r = -2 ∧ F' 14 0 71 = 0)) := by
  obtain ⟨x1, x2, x3, _, x5, x6⟩ := BRs_b hb
  have hb' := hb
  obtain ⟨hn, hd, eb⟩ := hb'
  have hN := dq.2.2.1
  generalize hF1 : zup3 (zup3 (zup3 (zup3 (zup3 (zup3 F 14 0 71 0) 13 w 1 0) 13 w 2 f) 13 w 3 mi) 13 w 4 n) 13 w 5 d = F1
  have c71 : F1 14 0 71 = 0 := by rw [← hF1]; simp [zup3_v]
  have c1 : F1 13 w 1 = 0 := by rw [← hF1]; simp [zup3_v]
  have c2 : F1 13 w 2 = f := by rw [← hF1]; simp [zup3_v]
  have c3 : F1 13 w 3 = mi := by rw [← hF1]; simp [zup3_v]
  have c4 : F1 13 w 4 = n := by rw [← hF1]; simp [zup3_v]
  have c5 : F1 13 w 5 = d := by rw [← hF1]; simp [zup3_v]
  have fn : ∀ c y k, ¬ (c = 14 ∧ y = 0 ∧ k = 71) → ¬ (c = 13 ∧ y = w ∧ 1 ≤ k ∧ k ≤ 5) → F1 c y k = F c y k := fun c y k n n' => by
    rw [← hF1, zup3_v, if_neg (by omega), zup3_v, if_neg (by omega), zup3_v, if_neg (by omega), zup3_v, if_neg (by omega), zup3_v, if_neg (by omega), zup3_v, if_neg (by omega)]
  have w1 : F1 14 0 6 = w := by rw [fn 14 0 6 (by omega) (by omega)]; exact hw.1
  obtain ⟨F2, B2, y1, y2, y3, y4, y5, y6, y7⟩ := M_d121 (Km := Km) (K := K) (o := o) (f := f) (w := w) (nb := nb) h7 h1 hK (by omega) ho hf hh dq htk h.toNat Km 400 0 0 0 0 F1 B (by omega) (by omega) (by omega) (by omega) (by omega) (by omega) (fun i a b => by omega) (fun i a b => (dq.2.2.2.1 i a b).1.1) (by omega) (by omega) (by omega) ⟨⟨w1, hw.2⟩, m1, m7, hr⟩ m0 c2 c1 hnb
  obtain ⟨U, hU⟩ := VT_e (n := n) (d := d) (b := b) dq 400 0 0 0 (by omega) (by omega) (by omega) (fun _ i a b => by omega) (Int.le_refl _) y5
  generalize hL : lpB (fun i => gplF g D (bg i)) (fun i => gplF g D (en i)) tk N 400 0 0 0 = last at *
  have w2 : F2 14 0 6 = w := by rw [y2 14 0 6 (by omega) (by omega)]; exact w1
  have d2 : F2 13 w 2 = f := by rw [y2 13 w 2 (by omega) (by omega)]; exact c2
  have d3 : F2 13 w 3 = mi := by rw [y2 13 w 3 (by omega) (by omega)]; exact c3
  have d4 : F2 13 w 4 = n := by rw [y2 13 w 4 (by omega) (by omega)]; exact c4
  have d5 : F2 13 w 5 = d := by rw [y2 13 w 5 (by omega) (by omega)]; exact c5
  have d71 : F2 14 0 71 = 0 := by rw [y2 14 0 71 (by omega) (by omega)]; exact c71
  have start : f_M_down_42 Km g F B = f_M_down_200 Km last g F2 B2 := by
    have e87 : f_M_down_87 Km g w mi (zup3 (zup3 (zup3 F 14 0 71 0) 13 w 1 0) 13 w 2 f) B = f_M_down_200 Km last g F2 B2 := by
      unfold f_M_down_87
      have q6 : (zup3 (zup3 (zup3 F 14 0 71 0) 13 w 1 0) 13 w 2 f) 14 0 6 = w := by simp [zup3_v, hw.1]
      rw [if_pos hw.2, if_pos hmi, q6, if_pos hw.2, m4, m5, hF1, y1]
    unfold f_M_down_42
    rw [hw.1, if_pos hw.2, m3, if_pos (by unfold r32; omega), m2]
    rcases hmi with z | z
    · rw [z] at e87 ⊢
      rw [if_neg (by decide), e87]
    · rw [z] at e87 ⊢
      rw [if_pos rfl, e87]
  obtain ⟨r, r1, r2, r3⟩ := L_cmpG (Km := Km) (F := F2) (B := B2) (by omega) hb dq.1 y7
  have fr2 : ∀ c y k, ¬ (c = 14 ∧ y = 0 ∧ (k ≤ 1 ∨ k = 71)) → ¬ (c = 13 ∧ y = w ∧ 1 ≤ k ∧ k ≤ 5) → F2 c y k = F c y k := fun c y k n n' => by rw [y2 c y k (by omega) (by omega)]; exact fn c y k (by omega) n'
  have br2 : ∀ c i k y, ¬ (c = 13 ∧ i = w ∧ 8 ≤ k ∧ k ≤ 35) → ¬ (c = 14 ∧ i = 0 ∧ k = 95) → B2 c i k y = B c i k y := fun c i k y n n' => y4 c i k y (by omega) n'
  have g0 : 4 ≤ g ∧ g ≤ 32 := by have := dq.1; omega
  rw [start]
  unfold f_M_down_200
  rw [if_pos (by unfold r32; omega), w2, if_pos hw.2, d4, if_pos (by unfold r32; omega), d5, if_pos (by unfold r32; omega), r1, zb_s, if_pos (by unfold r32; omega)]
  by_cases c : 512 / g * last ≤ 100 * b
  · rw [if_neg (fun q => by have := r2.mp q; omega)]
    unfold f_M_down_234
    rw [if_pos (by decide), if_neg (by decide)]
    have hT2 : TM (F2, B2) [] F2 B2 := ⟨⟨by rw [d71]; rfl, fun j hj => absurd hj (by simp)⟩, fun _ _ _ _ => rfl, fun _ _ _ _ _ => rfl⟩
    obtain ⟨F3, B3, z1, z2⟩ := M_head (Km := Km) (te := te) (by omega) hf (show 0 ≤ n ∧ n < 1000 by omega) (show 0 ≤ d ∧ d < 1000 by omega) hte hmi ⟨w2, hw.2⟩ d2 d3 d4 d5 (by rw [br2 14 0 73 6 (by omega) (by omega)]; exact m6) hT2
    have f3n := z2.2.1
    have b3n := z2.2.2
    obtain ⟨r', F4, B4, u1, u2, u3, u4⟩ := M_248 (Km := Km) (K := K) (o := o) (f := f) (w := w) (nb := nb) hKm hb dq ⟨y7.1, c⟩ hnu 400 Km 0 0 _ U F3 B3 (by omega) (by omega) (by omega) (by omega) ⟨by rw [f3n 14 0 6 (by omega)]; exact w2, hw.2⟩ (by rw [f3n 13 w 1 (by omega)]; exact y3) (by rw [f3n 13 w 4 (by omega)]; exact d4) (by rw [f3n 13 w 5 (by omega)]; exact d5) (VTx_f 400 0 0 U hU (fun k y hk => b3n 13 w k y (by omega))) (by have := hdT_l (f := f) (mi := mi) (n := n) (d := d) (te := te); omega) (TM_c z2 rfl (fun _ => rfl))
    refine ⟨r', F4, B4, U, B2, by rw [z1, zb_s, u1], fun c y k n n' => ?_, fun c i k y n n' => ?_, hU, Or.inl ⟨c, u2⟩⟩
    · rw [u3 c y k n (by omega), f3n c y k (by omega)]
      exact fr2 c y k (by omega) (by omega)
    · rw [u4 c i k y n (by omega), b3n c i k y (by omega)]
      exact br2 c i k y n (by omega)
  · rw [if_pos (r2.mpr (by omega))]
    unfold f_M_down_234 f_M_down_284 f_M_down_304
    rw [if_pos (by decide), if_pos rfl, if_pos (by decide), if_pos rfl]
    exact ⟨_, _, _, U, B2, rfl, fun c y k n n' => by rw [zup3_v, if_neg (by omega)]; exact fr2 c y k (by omega) (by omega), fun c i k y n n' => br2 c i k y n (by omega), hU, Or.inr ⟨by omega, rfl, by rw [zup3_v, if_pos (by omega)]⟩⟩
end
end
end
section
section
/-! ===== the call of down, both sides ===== -/
noncomputable def WI (F : zF) (B : zB) (Fm : zF) (Bm : zB) : Prop := F 0 1 1 = Fm 14 0 71 ∧ (0 ≤ F 0 1 1 ∧ F 0 1 1 ≤ 20480) ∧ ∀ j, 0 ≤ j → j < F 0 1 1 → B 0 1 0 j = Bm 14 0 70 j % 256
theorem IOp_f {K : zK} {F F' : zF} {B B' : zB} {Fm Fm' : zF} {Bm Bm' : zB} (h : IOp K F B Fm Bm) (f8 : F' 12 0 8 = F 12 0 8) (f9 : F' 12 0 9 = F 12 0 9) (f : ∀ o k, F' 8 o k = F 8 o k) (b : ∀ o k x, B' 8 o k x = B 8 o k x) (g : Fm' 14 0 72 = Fm 14 0 72) (m : ∀ k x, k = 73 ∨ (75 ≤ k ∧ k ≤ 81) → Bm' 14 0 k x = Bm 14 0 k x) : IOp K F' B' Fm' Bm' := by
  obtain ⟨h1, h2, h3, h4⟩ := h
  unfold IOp
  rw [f8, f9, g]
  refine ⟨h1, h2, h3, ?_⟩
  rcases h4 with h4 | ⟨a, c, e⟩
  · exact Or.inl h4
  · exact Or.inr ⟨a, c, OPN_f e (f _ _) (fun k x => b _ k x) m⟩
theorem P_dw {K : zK} {Km : Nat} {x w : Int} {F : zF} {B : zB} {Fm : zF} {Bm : zB} (hK : KKq K) (hKm : 70000000000 < Km) (h12 : 0 < K.2 12) (hx : r32 x) (f2 : F 12 0 2 = 1) (f6 : F 12 0 6 = 0) (f4 : F 7 0 4 = 0) (hw : Fm 14 0 6 = w ∧ 0 ≤ w ∧ w < 3) (hI : IOp K F B Fm Bm) (hW : WI F B Fm Bm) : ∃ r F' B' Fm' Bm', f_S_down K 0 x F B = some (r, F', B') ∧ f_M_down Km x Fm Bm = some (r, Fm', Bm') ∧ (-2 ≤ r ∧ r ≤ 3000) ∧ dnF F F' ∧ wvB B B' ∧ dnG w Fm Fm' ∧ dnH w Bm Bm' ∧ IOp K F' B' Fm' Bm' ∧ WI F' B' Fm' Bm' := by
  have hI' := hI
  obtain ⟨⟨i1, i2⟩, _, _, i5⟩ := hI'
  have out : f_S_down K 0 x F B = some (-1, F, B) → f_M_down Km x Fm Bm = some (-1, Fm, Bm) → ∃ r F' B' Fm' Bm', f_S_down K 0 x F B = some (r, F', B') ∧ f_M_down Km x Fm Bm = some (r, Fm', Bm') ∧ (-2 ≤ r ∧ r ≤ 3000) ∧ dnF F F' ∧ wvB B B' ∧ dnG w Fm Fm' ∧ dnH w Bm Bm' ∧ IOp K F' B' Fm' Bm' ∧ WI F' B' Fm' Bm' := fun a b => ⟨_, _, _, _, _, a, b, by omega, fun _ _ _ _ => rfl, fun _ _ _ _ _ => rfl, fun _ _ _ _ _ => rfl, fun _ _ _ _ _ _ => rfl, hI, hW⟩
  have grid : f_S_down K 0 x F B = f_S_down_28 K 0 x (if x = 4 ∨ x = 8 ∨ x = 16 ∨ x = 32 then 1 else 0) F B := by
    unfold f_S_down f_S_down_23
    rw [if_pos hx]
    by_cases a : x = 4
    · rw [if_pos a, if_pos (Or.inl a)]
    · rw [if_neg a]
      by_cases b : x = 8
      · rw [if_pos b, if_pos (by omega)]
      · rw [if_neg b]
        by_cases c : x = 16
        · rw [if_pos c, if_pos (by omega)]
        · rw [if_neg c]
          by_cases d : x = 32
          · rw [if_pos d, if_pos (by omega)]
          · rw [if_neg d, if_neg (by omega)]
  rcases i5 with ⟨a, c⟩ | ⟨a, c, hO⟩
  · refine out ?_ ?_
    · rw [grid]
      unfold f_S_down_28 f_S_down_50
      rw [if_pos ⟨by omega, h12⟩, if_pos a]
    · unfold f_M_down f_M_down_40
      rw [c, if_pos (by decide), if_pos rfl]
  · have hO' := hO
    obtain ⟨⟨o0, o1, o2, o3, o4, o5, o6⟩, ⟨p1, p2, p3⟩, q1, q2, q3, q4⟩ := hO'
    generalize eo : F 12 0 8 = o at *
    by_cases n0 : F 8 o 2 = 0
    · refine out ?_ ?_
      · rw [grid]
        unfold f_S_down_28 f_S_down_50
        rw [if_pos ⟨by omega, h12⟩, eo, if_neg (by omega), if_pos ⟨a, i2⟩, if_pos (by unfold r32; omega), if_pos n0]
      · unfold f_M_down f_M_down_40
        rw [c, if_pos (by decide), if_neg (by decide), if_pos (by unfold r32; omega), if_pos (by omega)]
    · have start : f_S_down K 0 x F B = if x = 4 ∨ x = 8 ∨ x = 16 ∨ x = 32 then zbind (f_Scribe_writeDown K 0 o x 1 F B) (fun r15 F15 B15 => some (r15, F15, B15)) else some (-1, F, B) := by
        rw [grid]
        have o1' : (0 : Int) ≤ 1 ∧ (1 : Int) < K.2 0 := by have := hK.1; omega
        unfold f_S_down_28 f_S_down_50
        rw [if_pos ⟨by omega, h12⟩, eo, if_neg (by omega), if_pos ⟨a, i2⟩, if_pos (by unfold r32; omega), if_neg n0]
        by_cases g : x = 4 ∨ x = 8 ∨ x = 16 ∨ x = 32
        · rw [if_pos g, if_pos g, if_pos (by decide), if_neg (by decide), f6, if_pos ⟨by omega, hK.2.1⟩, f2, if_pos o1']
        · rw [if_neg g, if_neg g, if_pos (by decide), if_pos rfl]
      have startM : f_M_down Km x Fm Bm = if x = 4 ∨ x = 8 ∨ x = 16 ∨ x = 32 then f_M_down_42 Km x Fm Bm else some (-1, Fm, Bm) := by
        unfold f_M_down f_M_down_40
        rw [c, if_pos (by decide), if_neg (by decide), if_pos (by unfold r32; omega), if_neg (by omega), if_pos hx]
        by_cases a : x = 4
        · rw [if_pos a, if_pos (Or.inl a)]
        · rw [if_neg a]
          by_cases b : x = 8
          · rw [if_pos b, if_pos (by omega)]
          · rw [if_neg b]
            by_cases c : x = 16
            · rw [if_pos c, if_pos (by omega)]
            · rw [if_neg c]
              by_cases d : x = 32
              · rw [if_pos d, if_pos (by omega)]
              · rw [if_neg d, if_neg (by omega)]
      by_cases g : x = 4 ∨ x = 8 ∨ x = 16 ∨ x = 32
      · have hb : BRs (Bm 14 0 73 4) (Bm 14 0 73 5) (512 / Bm 14 0 73 5 * Bm 14 0 73 4) := ⟨o4.2, o5.2, rfl⟩
        have dq : DTq x (Bm 14 0 73 1) (F 8 o 2) (fun i => Bm 14 0 79 i) (fun i => Bm 14 0 80 i) (fun i => Bm 14 0 77 i) (fun i => Bm 14 0 75 i) := ⟨g, o1.2, ⟨by omega, p3⟩, fun i a b => by have := q2 i a b; exact ⟨by show 0 ≤ Bm 14 0 75 i ∧ Bm 14 0 75 i ≤ 7; omega, this.2.2.1, this.2.2.2.2⟩, q3⟩
        have nu : ∀ k, 0 ≤ k → k < Bm 14 0 73 0 → zmax (B 8 o 3 k) 0 = Bm 14 0 81 k ∧ r32 (B 8 o 3 k) ∧ 0 ≤ Bm 14 0 81 k ∧ Bm 14 0 81 k ≤ 3 := fun k a b => by
          obtain ⟨e1, e2⟩ := q4 k a b
          rw [e2]
          unfold zmax
          refine ⟨?_, by unfold r32; omega, ?_⟩
          · by_cases z : B 8 o 3 k < 0
            · rw [if_pos z, if_neg (by omega)]
            · rw [if_neg z, if_pos (by omega)]
          · split <;> omega
        obtain ⟨r, Fm', Bm', U, Bx, y1, y2, y3, y4, y5⟩ := M_down (Km := Km) (K := K) (o := o) (f := Bm 14 0 73 2) (w := w) (g := x) (D := Bm 14 0 73 1) (N := F 8 o 2) (nb := fun k => Bm 14 0 81 k) (mi := Bm 14 0 73 3) (te := Bm 14 0 73 6) (h := Bm 14 0 73 0) (F := Fm) (B := Bm) hK.2.1 hK.2.2.1 (by have := hK.2.2.2; omega) hKm hb ⟨a, i2⟩ o2.2 (by omega) (by omega) o0.2 dq (fun i a b => (q2 i a b).1.2) hw rfl rfl rfl rfl rfl rfl rfl p1.symm (fun i a b => ⟨rfl, rfl, rfl, rfl⟩) (fun k a b => rfl) (fun i a b => (nu _ (q2 i a b).1.1 (q2 i a b).1.2).2.2)
        obtain ⟨r', F', B', z1, z2, z3, z4⟩ := C_down (K := K) (mi := Bm 14 0 73 3) (te := Bm 14 0 73 6) (F := F) (B := B) hK hb dq y4 ⟨a, i2⟩ o2.2 (by omega) (by omega) f4 o1.1 o2.1 o3.1 o4.1 o5.1 o6.1 rfl (fun i a b => by have := q1 i a b; exact ⟨this.1, this.2.2.1, this.2.2.2.2⟩) (fun i a b => nu _ (q2 i a b).1.1 (q2 i a b).1.2)
        have fin : r' = r ∧ (-2 ≤ r ∧ r ≤ 3000) ∧ WI F' B' Fm' Bm' := by
          rcases y5 with ⟨c1, y5⟩ | ⟨c1, y5, y6⟩
          · rcases z4 with ⟨_, _, z4⟩ | ⟨c2, _⟩
            · rcases y5 with ⟨l1, l2, l3, l4⟩ | ⟨l1, l2, l3⟩
              · rcases z4 with ⟨t1, t2, t3, t4⟩ | ⟨t1, _⟩
                · refine ⟨by omega, by omega, by omega, by omega, fun j j0 j1 => ?_⟩
                  have e1 := l4 j.toNat (by omega)
                  have e2 := t4 j.toNat (by omega)
                  rw [show ((j.toNat : Nat) : Int) = j by omega] at e1 e2
                  rw [e1, e2]
                · omega
              · rcases z4 with ⟨t1, _⟩ | ⟨t1, t2, t3⟩
                · omega
                · exact ⟨by omega, by omega, by omega, by omega, fun j j0 j1 => by omega⟩
            · omega
          · rcases z4 with ⟨c2, _⟩ | ⟨_, z4, z5, _⟩
            · omega
            · exact ⟨by omega, by omega, by omega, by omega, fun j j0 j1 => by omega⟩
        obtain ⟨rfl, rb, hW'⟩ := fin
        refine ⟨r', F', B', Fm', Bm', by rw [start, if_pos g, z1, zb_s], by rw [startM, if_pos g, y1], rb, z2, z3, y2, y3, ?_, hW'⟩
        exact IOp_f hI (z2 12 0 8 (by omega)) (z2 12 0 9 (by omega)) (fun o k => z2 8 o k (by omega)) (fun o k x => z3 8 o k x (by omega)) (y2 14 0 72 (by omega) (by omega)) (fun k x hk => y3 14 0 k x (by omega) (by omega))
      · exact out (by rw [start, if_neg g]) (by rw [startM, if_neg g])
end
end
section
section
/-! ===== what a study holds, class ===== -/
variable {V t : Int} {S : zV} {L : Int → Int → Int}
/-- the class's moments, exactly -/
noncomputable def MXc (V t : Int) (S : zV) (T : Int → Int) (L : Int → Int → Int) (F : zF) (B : zB) : Prop := (∀ j, 0 ≤ j → j < F 9 t 0 → B 9 t 1 j = T j) ∧ (∀ u j, 0 ≤ u → u < V → 0 ≤ j → j < F 9 t 0 → B 9 t (280 + u.toNat) j = L u j) ∧ MO V S (F 9 t 0) T ∧ LI V S (F 9 t 0) T L
theorem MXc_f {T : Int → Int} {F F' : zF} {B B' : zB} (h : MXc V t S T L F B) (f : F' 9 t 0 = F 9 t 0) (b : ∀ k x, k = 1 ∨ (280 ≤ k ∧ k ≤ 283) → B' 9 t k x = B 9 t k x) (v4 : V ≤ 4) : MXc V t S T L F' B' := by
  obtain ⟨h1, h2, h3, h4⟩ := h
  unfold MXc
  rw [f]
  refine ⟨fun j j0 j1 => by rw [b 1 j (by omega)]; exact h1 j j0 j1, fun u j u0 u1 j0 j1 => by rw [b _ j (by omega)]; exact h2 u j u0 u1 j0 j1, h3, h4⟩
/-- the class's faults are s -/
noncomputable def FCl (t : Int) (s : zQ) (F : zF) (B : zB) : Prop := F 9 t 2 = s.1 ∧ (0 ≤ s.1 ∧ s.1 ≤ 300) ∧ ∀ i, 0 ≤ i → i < s.1 → B 9 t 260 i = s.2 0 i ∧ B 9 t 261 i = s.2 1 i ∧ B 9 t 262 i = s.2 2 i ∧ B 9 t 263 i = s.2 3 i
/-- the study of a piece, class, exactly -/
noncomputable def STX (V t : Int) (S : zV) (F : zF) (B : zB) : Prop := ∃ T L, MXc V t S T L F B ∧ FCl t (flQ S L V (F 9 t 0)) F B
theorem STX_e {F F' : zF} {B B' : zB} (h : STX V t S F B) (f : ∀ k, k = 0 ∨ k = 2 → F' 9 t k = F 9 t k) (b : ∀ k x, ¬ k = 10 → B' 9 t k x = B 9 t k x) (v4 : V ≤ 4) : STX V t S F' B' := by
  obtain ⟨T, L, h1, h2, h3, h4⟩ := h
  refine ⟨T, L, MXc_f h1 (f 0 (by omega)) (fun k x hk => b k x (by omega)) v4, ?_⟩
  rw [f 0 (by omega)]
  refine ⟨by rw [f 2 (by omega)]; exact h2, h3, fun i i0 i1 => ?_⟩
  rw [b 260 i (by omega), b 261 i (by omega), b 262 i (by omega), b 263 i (by omega)]
  exact h4 i i0 i1
/-- the moments and faults of a kept piece, both sides -/
noncomputable def XTk (V p w : Int) (F : zF) (B : zB) (Fm : zF) (Bm : zB) : Prop := ∃ S, SG V S ∧ MXk V w S Fm Bm ∧ (F 6 p 13 = 1 → 0 ≤ F 6 p 12 ∧ STX V (F 6 p 12) S F B)
theorem XTk_e {p w : Int} {F F' : zF} {B B' : zB} {Fm Fm' : zF} {Bm Bm' : zB} (h : XTk V p w F B Fm Bm) (f6 : F' 6 p 12 = F 6 p 12 ∧ F' 6 p 13 = F 6 p 13) (ob : 0 ≤ F 6 p 12 → ∀ k, F' 9 (F 6 p 12) k = F 9 (F 6 p 12) k ∧ ∀ x, B' 9 (F 6 p 12) k x = B 9 (F 6 p 12) k x) (f : ∀ k, k ≤ 46 ∨ 72 ≤ k → Fm' 13 w k = Fm 13 w k) (b : ∀ k x, k ≤ 46 ∨ 72 ≤ k → Bm' 13 w k x = Bm 13 w k x) : XTk V p w F' B' Fm' Bm' := by
  obtain ⟨S, h1, h2, h3⟩ := h
  refine ⟨S, h1, MXk_e h2 (fun k hk => f k (by omega)) (fun k x hk => b k x (by omega)), ?_⟩
  rw [f6.1, f6.2]
  intro z
  obtain ⟨z0, sx⟩ := h3 z
  exact ⟨z0, STX_e sx (fun k _ => (ob z0 k).1) (fun k x _ => (ob z0 k).2 x) h1.1.2⟩
end
end
section
section
/-! ===== lines of a kept piece, both sides ===== -/
noncomputable def ldV (fi b : Int) : Int := 24 + 5 * zabs fi + (if b = 0 then 12 else 0)
/-- the x of column c, in bar t of line i -/
noncomputable def xV (fi wd n : Int) (l i t c : Int) (B : zB) : Int := ldV fi (B 2 l 7 i) + 6 * (t - B 2 l 7 i + 1) + smR (fun c => B 2 l 2 c) (B 2 l 5 (B 2 l 7 i)) (c - B 2 l 5 (B 2 l 7 i)).toNat + zdv ((if n ≤ i + 1 then 0 else zmax (wd - B 2 l 8 i) 0) * (c - B 2 l 5 (B 2 l 7 i))) (zmax (B 2 l 5 (B 2 l 7 (i + 1)) - B 2 l 5 (B 2 l 7 i)) 1)
/-- the lines as they stand: first bars rise, first columns rise -/
noncomputable def LYs (l nb n : Int) (B : zB) : Prop := (0 ≤ n ∧ n ≤ 100) ∧ (0 ≤ nb ∧ nb ≤ 100) ∧ (∀ i, 0 ≤ i → i < n → 0 ≤ B 2 l 7 i ∧ B 2 l 7 i < B 2 l 7 (i + 1) ∧ B 2 l 7 (i + 1) ≤ nb ∧ r32 (B 2 l 8 i) ∧ 0 ≤ B 2 l 8 i) ∧ ∀ t, 0 ≤ t → t < nb → 0 ≤ B 2 l 5 t ∧ B 2 l 5 t ≤ B 2 l 5 (t + 1) ∧ B 2 l 5 (t + 1) ≤ 3200
/-- the lines and columns of layout l and of piece w are the same -/
noncomputable def LYf (fi nb : Int) (l w : Int) (F : zF) (B : zB) (Fm : zF) (Bm : zB) : Prop := (F 2 l 0 = Fm 13 w 48 ∧ LYs l nb (F 2 l 0) B ∧ 0 < F 2 l 0) ∧ (B 2 l 7 0 = 0 ∧ B 2 l 7 (F 2 l 0) = nb) ∧ (∀ j, 0 ≤ j → j < F 2 l 0 → B 2 l 7 j = Bm 13 w 49 j ∧ B 2 l 7 (j + 1) = Bm 13 w 49 j + Bm 13 w 50 j ∧ B 2 l 8 j = Bm 13 w 51 j ∧ B 2 l 9 j = Bm 13 w 52 j) ∧ (∀ t, 0 ≤ t → t ≤ nb → Bm 13 w 42 t = B 2 l 5 t) ∧ (∀ t c, 0 ≤ t → t < nb → B 2 l 5 t ≤ c → c < B 2 l 5 (t + 1) → (Bm 13 w 43 c = nu (B 2 l 1 c) ∧ Bm 13 w 44 c = de (B 2 l 1 c)) ∧ Bm 13 w 45 c = B 2 l 2 c ∧ (0 ≤ B 2 l 1 c ∧ B 2 l 1 c ≤ 1000000000000)) ∧ ∀ k t c, 0 ≤ k → k < F 2 l 0 → B 2 l 7 k ≤ t → t < B 2 l 7 (k + 1) → B 2 l 5 t ≤ c → c < B 2 l 5 (t + 1) → B 2 l 3 c = xV fi (Fm 13 w 47) (F 2 l 0) l k t c B
theorem LYf_e {fi nb l w : Int} {F F' : zF} {B B' : zB} {Fm Fm' : zF} {Bm Bm' : zB} (h : LYf fi nb l w F B Fm Bm) (f : F' 2 l = F 2 l) (b : B' 2 l = B 2 l) (g : ∀ k, k = 47 ∨ k = 48 → Fm' 13 w k = Fm 13 w k) (m : ∀ k x, 42 ≤ k → k ≤ 52 → Bm' 13 w k x = Bm 13 w k x) : LYf fi nb l w F' B' Fm' Bm' := by
  have m42 : ∀ x, Bm' 13 w 42 x = Bm 13 w 42 x := fun x => m 42 x (by decide) (by decide)
  have m43 : ∀ x, Bm' 13 w 43 x = Bm 13 w 43 x := fun x => m 43 x (by decide) (by decide)
  have m44 : ∀ x, Bm' 13 w 44 x = Bm 13 w 44 x := fun x => m 44 x (by decide) (by decide)
  have m45 : ∀ x, Bm' 13 w 45 x = Bm 13 w 45 x := fun x => m 45 x (by decide) (by decide)
  have m49 : ∀ x, Bm' 13 w 49 x = Bm 13 w 49 x := fun x => m 49 x (by decide) (by decide)
  have m50 : ∀ x, Bm' 13 w 50 x = Bm 13 w 50 x := fun x => m 50 x (by decide) (by decide)
  have m51 : ∀ x, Bm' 13 w 51 x = Bm 13 w 51 x := fun x => m 51 x (by decide) (by decide)
  have m52 : ∀ x, Bm' 13 w 52 x = Bm 13 w 52 x := fun x => m 52 x (by decide) (by decide)
  unfold LYf LYs xV at *
  rw [f, b]
  simp only [m42, m43, m44, m45, m49, m50, m51, m52, g 47 (by omega), g 48 (by omega)]
  exact h
/-- either no lines, or the same -/
noncomputable def LYk (p w : Int) (F : zF) (B : zB) (Fm : zF) (Bm : zB) : Prop := (Fm 13 w 48 = 0 ∧ (0 ≤ F 6 p 8 → F 2 (F 6 p 8) 0 = 0)) ∨ (0 ≤ F 6 p 8 ∧ LYf (F 6 p 2) (F 6 p 7) (F 6 p 8) w F B Fm Bm)
theorem LYk_e {p w : Int} {F F' : zF} {B B' : zB} {Fm Fm' : zF} {Bm Bm' : zB} (h : LYk p w F B Fm Bm) (f6 : ∀ k, k = 2 ∨ k = 7 ∨ k = 8 → F' 6 p k = F 6 p k) (ob : 0 ≤ F 6 p 8 → ∀ k, F' 2 (F 6 p 8) k = F 2 (F 6 p 8) k ∧ ∀ x, B' 2 (F 6 p 8) k x = B 2 (F 6 p 8) k x) (f : ∀ k, k = 47 ∨ k = 48 → Fm' 13 w k = Fm 13 w k) (b : ∀ k x, 42 ≤ k → k ≤ 52 → Bm' 13 w k x = Bm 13 w k x) : LYk p w F' B' Fm' Bm' := by
  unfold LYk
  rw [f6 2 (by omega), f6 7 (by omega), f6 8 (by omega)]
  rcases h with ⟨h1, h2⟩ | ⟨h1, h2⟩
  · exact Or.inl ⟨by rw [f 48 (by omega)]; exact h1, fun z => by rw [(ob z 0).1]; exact h2 z⟩
  · exact Or.inr ⟨h1, LYf_e h2 (by funext k; exact (ob h1 k).1) (by funext k x; exact (ob h1 k).2 x) f b⟩
end
end
section
section
/-- the reference's weights of keys are the class's -/
noncomputable def wtK (x : Int) : Int := if x < 12 then ztv 11 x else ztv 12 (x - 12)
end
end
section
section
/-! ===== one invariant: what calls that touch no piece keep ===== -/
theorem PD_e {K K' : zK} {V p w : Int} {F F' : zF} {B B' : zB} {Fm Fm' : zF} {Bm Bm' : zB} (h : PD K V p w F B Fm Bm) (hk : K.2 5 ≤ K'.2 5) (f6 : ∀ k, 9 ≤ k → k ≤ 11 → F' 6 p k = F 6 p k) (f5 : 0 ≤ F 6 p 9 → F' 5 (F 6 p 9) = F 5 (F 6 p 9)) (b5 : 0 ≤ F 6 p 9 → B' 5 (F 6 p 9) = B 5 (F 6 p 9)) (fm : ∀ k, Fm' 13 w k = Fm 13 w k) (bm : ∀ k x, Bm' 13 w k x = Bm 13 w k x) : PD K' V p w F' B' Fm' Bm' := by
  obtain ⟨h1, h2, h3, h4, h5, h6, h7⟩ := h
  have e9 := f6 9 (by omega) (by omega)
  have e10 := f6 10 (by omega) (by omega)
  have e11 := f6 11 (by omega) (by omega)
  unfold PD
  rw [e9, e10, e11, fm 53, fm 54, fm 60, fm 65]
  refine ⟨h1, h2, by omega, fun z => ?_, fun z => ?_, fun z => ?_, h7⟩
  · have := h4 z
    unfold rwS at *
    rw [f5 z]; exact this
  · obtain ⟨z0, K0, F0, B0, F1, B1, a1, a2, a3, a4, a5, a6, a7⟩ := h5 z
    exact ⟨z0, K0, F0, B0, F1, B1, a1, a2, PK_e a3 (fun _ => Int.le_refl _) (fun _ _ => rfl) rfl (fun _ _ _ => rfl) (fun _ _ _ => rfl) (fun _ _ _ _ _ _ => rfl) (fun _ _ _ _ _ _ => rfl) (fun k _ _ => fm k) (fun k x _ => bm k x), a4, by rw [f5 z0]; exact a5, by rw [f5 z0]; exact a6, fun k x hk => by rw [b5 z0]; exact a7 k x hk⟩
  · obtain ⟨z1, c, hc⟩ := h6 z
    have z0 := (h5 z1).1
    exact ⟨z1, c, PFD_e hc (f5 z0) (b5 z0) (fun k _ => fm k) (fun k x _ _ => bm k x)⟩
/-- a kept piece's sounds -/
noncomputable def SDk (K : zK) (p w : Int) (F : zF) (B : zB) (Fm : zF) (Bm : zB) : Prop := 0 ≤ p → PD K (F 6 p 1) p w F B Fm Bm
theorem SLD_of {K : zK} {p w : Int} {F : zF} {B : zB} {Fm : zF} {Bm : zB} (h : SL K p w F B Fm Bm) (d : SDk K p w F B Fm Bm) : SLD K p w F B Fm Bm := by
  rcases h with h | ⟨a, b, V, c, e⟩
  · exact Or.inl h
  · have := d a
    rw [c.1.2.2.2.1] at this
    exact Or.inr ⟨a, b, V, c, e, this⟩
/-- which piece owns which object of sounds, of study, of lines -/
noncomputable def IS (K : zK) (F : zF) : Prop := (∀ y, 0 ≤ y → y < K.2 6 → 0 ≤ F 6 y 9 → rwS (F 6 y 9) F) ∧ ∀ k, k = 8 ∨ k = 9 ∨ k = 12 → ∀ y y', 0 ≤ y → y < K.2 6 → 0 ≤ y' → y' < K.2 6 → ¬ y = y' → 0 ≤ F 6 y k → ¬ F 6 y k = F 6 y' k
/-- the cells of the objects that lines, sounds and study keep: bounds that hold always -/
noncomputable def LXu (l : Int) (F : zF) (B : zB) : Prop := (0 ≤ F 2 l 0 ∧ F 2 l 0 ≤ 100) ∧ (0 ≤ F 2 l 4 ∧ F 2 l 4 ≤ 3200) ∧ ∀ j, r64 (B 2 l 1 j) ∧ (0 ≤ B 2 l 2 j ∧ B 2 l 2 j ≤ 200) ∧ (0 ≤ B 2 l 5 j ∧ B 2 l 5 j ≤ 3200) ∧ (0 ≤ B 2 l 6 j ∧ B 2 l 6 j ≤ 640006) ∧ (0 ≤ B 2 l 7 j ∧ B 2 l 7 j ≤ 100) ∧ (0 ≤ B 2 l 8 j ∧ B 2 l 8 j ≤ 100000000) ∧ (0 ≤ B 2 l 10 j ∧ B 2 l 10 j ≤ 1152921504606846976) ∧ (0 ≤ B 2 l 11 j ∧ B 2 l 11 j ≤ 100) ∧ (0 ≤ B 2 l 12 j ∧ B 2 l 12 j ≤ 800)
noncomputable def PXu (cc s : Int) (F : zF) : Prop := (0 ≤ F 5 s 2 ∧ F 5 s 2 ≤ cc) ∧ (0 ≤ F 5 s 3 ∧ F 5 s 3 ≤ 1000) ∧ (-32768 ≤ F 5 s 11 ∧ F 5 s 11 ≤ 32767) ∧ (-32768 ≤ F 5 s 12 ∧ F 5 s 12 ≤ 32767) ∧ (0 ≤ F 5 s 13 ∧ F 5 s 13 ≤ 88)
noncomputable def STu (t : Int) (F : zF) (B : zB) : Prop := (0 ≤ F 9 t 0 ∧ F 9 t 0 ≤ 800) ∧ (0 ≤ F 9 t 2 ∧ F 9 t 2 ≤ 300) ∧ (∀ j, 0 ≤ B 9 t 1 j ∧ B 9 t 1 j ≤ 1000000000000) ∧ (∀ k j, 280 ≤ k → k ≤ 283 → -1 ≤ B 9 t k j ∧ B 9 t k j ≤ 199) ∧ ∀ j, (-1 ≤ B 9 t 5 j ∧ B 9 t 5 j ≤ 200) ∧ (-1 ≤ B 9 t 6 j ∧ B 9 t 6 j ≤ 200) ∧ (-1 ≤ B 9 t 7 j ∧ B 9 t 7 j ≤ 200) ∧ (-1 ≤ B 9 t 8 j ∧ B 9 t 8 j ≤ 200) ∧ (0 ≤ B 9 t 9 j ∧ B 9 t 9 j ≤ 1) ∧ r32 (B 9 t 10 j)
noncomputable def PMu (cc i : Int) (Fm : zF) : Prop := (0 ≤ Fm 13 i 65 ∧ Fm 13 i 65 ≤ cc) ∧ (0 ≤ Fm 13 i 66 ∧ Fm 13 i 66 ≤ 1000) ∧ (-32768 ≤ Fm 13 i 67 ∧ Fm 13 i 67 ≤ 32767) ∧ (-32768 ≤ Fm 13 i 68 ∧ Fm 13 i 68 ≤ 32767) ∧ (0 ≤ Fm 13 i 69 ∧ Fm 13 i 69 ≤ 88)
noncomputable def TQm (Bm : zB) : Prop := (∀ x, 0 ≤ x → x < 89 → 7 ≤ Bm 14 0 96 x ∧ Bm 14 0 96 x ≤ 32767) ∧ (∀ x, 0 ≤ x → x < 8 → -1 ≤ Bm 14 0 97 x ∧ Bm 14 0 97 x ≤ 8) ∧ ∀ x, 0 ≤ x → x < 24 → (0 ≤ Bm 14 0 106 x ∧ Bm 14 0 106 x ≤ 1000) ∧ Bm 14 0 106 x = wtK x
theorem TQm_e {B B' : zB} (h : TQm B) (f : ∀ k x, k = 96 ∨ k = 97 ∨ k = 106 → B' 14 0 k x = B 14 0 k x) : TQm B' := by
  obtain ⟨h1, h2, h3⟩ := h
  refine ⟨fun x x0 x1 => ?_, fun x x0 x1 => ?_, fun x x0 x1 => ?_⟩
  · rw [f 96 x (by omega)]; exact h1 x x0 x1
  · rw [f 97 x (by omega)]; exact h2 x x0 x1
  · rw [f 106 x (by omega)]; exact h3 x x0 x1
/-- how many pieces have no such object yet: objects are no more than pieces -/
noncomputable def ng3 (n a0 a1 a2 : Int) : Int := (if 0 < n ∧ a0 < 0 then 1 else 0) + (if 1 < n ∧ a1 < 0 then 1 else 0) + (if 2 < n ∧ a2 < 0 then 1 else 0)
theorem ng3_0 (n a0 a1 a2 : Int) : 0 ≤ ng3 n a0 a1 a2 := by
  unfold ng3
  split <;> split <;> split <;> omega
theorem ng3_e {n a0 a1 a2 b0 b1 b2 : Int} (h0 : 0 < n → b0 = a0) (h1 : 1 < n → b1 = a1) (h2 : 2 < n → b2 = a2) : ng3 n b0 b1 b2 = ng3 n a0 a1 a2 := by
  unfold ng3
  by_cases c0 : 0 < n
  · rw [h0 c0]
    by_cases c1 : 1 < n
    · rw [h1 c1]
      by_cases c2 : 2 < n
      · rw [h2 c2]
      · rw [if_neg (show ¬ (2 < n ∧ b2 < 0) from fun q => c2 q.1), if_neg (show ¬ (2 < n ∧ a2 < 0) from fun q => c2 q.1)]
    · rw [if_neg (show ¬ (1 < n ∧ b1 < 0) from fun q => c1 q.1), if_neg (show ¬ (1 < n ∧ a1 < 0) from fun q => c1 q.1), if_neg (show ¬ (2 < n ∧ b2 < 0) from fun q => by omega), if_neg (show ¬ (2 < n ∧ a2 < 0) from fun q => by omega)]
  · rw [if_neg (show ¬ (0 < n ∧ b0 < 0) from fun q => c0 q.1), if_neg (show ¬ (0 < n ∧ a0 < 0) from fun q => c0 q.1), if_neg (show ¬ (1 < n ∧ b1 < 0) from fun q => by omega), if_neg (show ¬ (1 < n ∧ a1 < 0) from fun q => by omega), if_neg (show ¬ (2 < n ∧ b2 < 0) from fun q => by omega), if_neg (show ¬ (2 < n ∧ a2 < 0) from fun q => by omega)]
noncomputable def ngk (k : Nat) (K : zK) (F : zF) : Int := ng3 (K.2 6) (F 6 0 k) (F 6 1 k) (F 6 2 k)
theorem ngk_e {k : Nat} {K K' : zK} {F F' : zF} (h6 : K'.2 6 = K.2 6) (f : ∀ y, 0 ≤ y → y < K.2 6 → F' 6 y k = F 6 y k) : ngk k K' F' = ngk k K F := by
  unfold ngk
  rw [h6]
  exact ng3_e (fun c => f 0 (by omega) c) (fun c => f 1 (by omega) c) (fun c => f 2 (by omega) c)
/-- one piece gets its object -/
theorem ngk_o {k : Nat} {K K' : zK} {q : Int} {F F' : zF} (h6 : K'.2 6 = K.2 6) (h3 : K.2 6 ≤ 3) (hq : 0 ≤ q ∧ q < K.2 6) (n : F 6 q k < 0) (n' : 0 ≤ F' 6 q k) (f : ∀ y, 0 ≤ y → y < K.2 6 → ¬ y = q → F' 6 y k = F 6 y k) : ngk k K' F' + 1 = ngk k K F := by
  unfold ngk
  rw [h6]
  have : q = 0 ∨ q = 1 ∨ q = 2 := by omega
  unfold ng3
  rcases this with rfl | rfl | rfl
  · rw [if_neg (show ¬ (0 < K.2 6 ∧ F' 6 0 k < 0) from fun z => by omega), if_pos (show 0 < K.2 6 ∧ F 6 0 k < 0 from ⟨hq.2, n⟩)]
    have e := ng3_e (n := K.2 6) (a0 := 0) (b0 := 0) (a1 := F 6 1 k) (b1 := F' 6 1 k) (a2 := F 6 2 k) (b2 := F' 6 2 k) (fun _ => rfl) (fun c => f 1 (by omega) c (by omega)) (fun c => f 2 (by omega) c (by omega))
    unfold ng3 at e
    omega
  · rw [if_neg (show ¬ (1 < K.2 6 ∧ F' 6 1 k < 0) from fun z => by omega), if_pos (show 1 < K.2 6 ∧ F 6 1 k < 0 from ⟨hq.2, n⟩)]
    have e := ng3_e (n := K.2 6) (a0 := F 6 0 k) (b0 := F' 6 0 k) (a1 := 0) (b1 := 0) (a2 := F 6 2 k) (b2 := F' 6 2 k) (fun c => f 0 (by omega) c (by omega)) (fun _ => rfl) (fun c => f 2 (by omega) c (by omega))
    unfold ng3 at e
    omega
  · rw [if_neg (show ¬ (2 < K.2 6 ∧ F' 6 2 k < 0) from fun z => by omega), if_pos (show 2 < K.2 6 ∧ F 6 2 k < 0 from ⟨hq.2, n⟩)]
    have e := ng3_e (n := K.2 6) (a0 := F 6 0 k) (b0 := F' 6 0 k) (a1 := F 6 1 k) (b1 := F' 6 1 k) (a2 := 0) (b2 := 0) (fun c => f 0 (by omega) c (by omega)) (fun c => f 1 (by omega) c (by omega)) (fun _ => rfl)
    unfold ng3 at e
    omega
/-- a new piece -/
theorem ngk_n {k : Nat} {K K' : zK} {F F' : zF} (h0 : 0 ≤ K.2 6) (h3 : K.2 6 ≤ 2) (h6 : K'.2 6 = K.2 6 + 1) (n : F' 6 (K.2 6) k < 0) (f : ∀ y, 0 ≤ y → y < K.2 6 → F' 6 y k = F 6 y k) : ngk k K' F' = ngk k K F + 1 := by
  unfold ngk
  rw [h6]
  have o : K.2 6 = 0 ∨ K.2 6 = 1 ∨ K.2 6 = 2 := by omega
  unfold ng3
  rcases o with z | z | z
  · rw [z] at n ⊢
    rw [if_pos (show (0 : Int) < 0 + 1 ∧ F' 6 0 k < 0 from ⟨by decide, n⟩), if_neg (show ¬ ((1 : Int) < 0 + 1 ∧ F' 6 1 k < 0) from fun q => by omega), if_neg (show ¬ ((2 : Int) < 0 + 1 ∧ F' 6 2 k < 0) from fun q => by omega), if_neg (show ¬ ((0 : Int) < 0 ∧ F 6 0 k < 0) from fun q => by omega), if_neg (show ¬ ((1 : Int) < 0 ∧ F 6 1 k < 0) from fun q => by omega), if_neg (show ¬ ((2 : Int) < 0 ∧ F 6 2 k < 0) from fun q => by omega)]
    omega
  · have e0 := f 0 (by omega) (by omega)
    rw [z] at n ⊢
    rw [e0, if_pos (show (1 : Int) < 1 + 1 ∧ F' 6 1 k < 0 from ⟨by decide, n⟩), if_neg (show ¬ ((2 : Int) < 1 + 1 ∧ F' 6 2 k < 0) from fun q => by omega), if_neg (show ¬ ((1 : Int) < 1 ∧ F 6 1 k < 0) from fun q => by omega), if_neg (show ¬ ((2 : Int) < 1 ∧ F 6 2 k < 0) from fun q => by omega)]
    by_cases c : F 6 0 k < 0
    · rw [if_pos ⟨by decide, c⟩, if_pos ⟨by decide, c⟩]; omega
    · rw [if_neg (fun q => c q.2), if_neg (fun q => c q.2)]; omega
  · have e0 := f 0 (by omega) (by omega)
    have e1 := f 1 (by omega) (by omega)
    rw [z] at n ⊢
    rw [e0, e1, if_pos (show (2 : Int) < 2 + 1 ∧ F' 6 2 k < 0 from ⟨by decide, n⟩), if_neg (show ¬ ((2 : Int) < 2 ∧ F 6 2 k < 0) from fun q => by omega)]
    split <;> split <;> split <;> split <;> omega
noncomputable def IKn (K : zK) (F : zF) : Prop := K.2 6 ≤ 3 ∧ K.2 2 + ngk 8 K F ≤ K.2 6 ∧ K.2 5 + ngk 9 K F ≤ K.2 6 ∧ K.2 9 + ngk 12 K F ≤ K.2 6
theorem IKn_f {K K' : zK} {F F' : zF} (h : IKn K F) (k2 : K'.2 2 = K.2 2) (k5 : K'.2 5 = K.2 5) (k6 : K'.2 6 = K.2 6) (k9 : K'.2 9 = K.2 9) (f : ∀ y k, 0 ≤ y → y < K.2 6 → k = 8 ∨ k = 9 ∨ k = 12 → F' 6 y k = F 6 y k) : IKn K' F' := by
  unfold IKn at *
  rw [ngk_e k6 (fun y y0 y1 => f y 8 y0 y1 (by omega)), ngk_e k6 (fun y y0 y1 => f y 9 y0 y1 (by omega)), ngk_e k6 (fun y y0 y1 => f y 12 y0 y1 (by omega)), k2, k5, k6, k9]
  exact h
noncomputable def IU (cc : Int) (K : zK) (F : zF) (B : zB) (Fm : zF) (Bm : zB) : Prop := (0 ≤ cc ∧ IKn K F) ∧ (∀ l, 0 ≤ l → l < K.2 2 → LXu l F B) ∧ (∀ s, 0 ≤ s → s < K.2 5 → PXu cc s F) ∧ (∀ t, 0 ≤ t → t < K.2 9 → STu t F B) ∧ (∀ y, 0 ≤ y → y < K.2 6 → F 6 y 13 = 0 ∨ (F 6 y 13 = 1 ∧ 0 ≤ F 6 y 12)) ∧ (∀ i, 0 ≤ i → i < 3 → ¬ Fm 13 i 53 = 0 → PMu cc i Fm) ∧ TQm Bm
theorem PXu_e {cc s : Int} {F F' : zF} (h : PXu cc s F) (f : ∀ k, k = 2 ∨ k = 3 ∨ k = 11 ∨ k = 12 ∨ k = 13 → F' 5 s k = F 5 s k) : PXu cc s F' := by
  unfold PXu at *
  rw [f 2 (by omega), f 3 (by omega), f 11 (by omega), f 12 (by omega), f 13 (by omega)]
  exact h
theorem PXu_z {cc s : Int} {F F' : zF} (hc : 0 ≤ cc) (h : PXu cc s F) (f : ∀ k, k = 2 ∨ k = 3 ∨ k = 11 ∨ k = 12 ∨ k = 13 → F' 5 s k = 0 ∨ F' 5 s k = F 5 s k) : PXu cc s F' := by
  unfold PXu at *
  have f2 := f 2 (by omega)
  have f3 := f 3 (by omega)
  have f11 := f 11 (by omega)
  have f12 := f 12 (by omega)
  have f13 := f 13 (by omega)
  omega
theorem PMu_e {cc i : Int} {F F' : zF} (h : PMu cc i F) (f : ∀ k, 65 ≤ k → k ≤ 69 → F' 13 i k = F 13 i k) : PMu cc i F' := by
  unfold PMu at *
  rw [f 65 (by omega) (by omega), f 66 (by omega) (by omega), f 67 (by omega) (by omega), f 68 (by omega) (by omega), f 69 (by omega) (by omega)]
  exact h
theorem PMu_0 {cc i : Int} {F : zF} (hc : 0 ≤ cc) (f : ∀ k, 65 ≤ k → k ≤ 69 → F 13 i k = 0) : PMu cc i F := by
  unfold PMu
  rw [f 65 (by omega) (by omega), f 66 (by omega) (by omega), f 67 (by omega) (by omega), f 68 (by omega) (by omega), f 69 (by omega) (by omega)]
  omega
theorem IU_f {cc : Int} {K K' : zK} {F F' : zF} {B B' : zB} {Fm Fm' : zF} {Bm Bm' : zB} (h : IU cc K F B Fm Bm) (kn : IKn K' F') (k2 : K'.2 2 = K.2 2) (k9 : K'.2 9 = K.2 9) (f2 : ∀ l, 0 ≤ l → l < K.2 2 → (F' 2 l 0 = F 2 l 0 ∨ F' 2 l 0 = 0) ∧ F' 2 l 4 = F 2 l 4 ∧ ∀ k x, B' 2 l k x = B 2 l k x) (f5 : ∀ s, 0 ≤ s → s < K'.2 5 → PXu cc s F') (f9 : ∀ t, 0 ≤ t → t < K.2 9 → (∀ k, F' 9 t k = F 9 t k) ∧ ∀ k x, B' 9 t k x = B 9 t k x) (f6 : ∀ y, 0 ≤ y → y < K'.2 6 → F' 6 y 13 = 0 ∨ (y < K.2 6 ∧ F' 6 y 13 = F 6 y 13 ∧ F' 6 y 12 = F 6 y 12)) (m : ∀ i, 0 ≤ i → i < 3 → ¬ Fm' 13 i 53 = 0 → PMu cc i Fm') (q : ∀ k x, k = 96 ∨ k = 97 ∨ k = 106 → Bm' 14 0 k x = Bm 14 0 k x) : IU cc K' F' B' Fm' Bm' := by
  obtain ⟨h0, h1, h2, h3, h4, h5, h6⟩ := h
  refine ⟨⟨h0.1, kn⟩, fun l l0 l1 => ?_, f5, fun t t0 t1 => ?_, fun y y0 y1 => ?_, m, TQm_e h6 q⟩
  · obtain ⟨g0, g4, gb⟩ := f2 l l0 (by omega)
    obtain ⟨a1, a2, a3⟩ := h1 l l0 (by omega)
    refine ⟨by omega, by omega, fun j => ?_⟩
    rw [gb, gb, gb, gb, gb, gb, gb, gb, gb]
    exact a3 j
  · obtain ⟨g, gb⟩ := f9 t t0 (by omega)
    obtain ⟨a1, a2, a3, a4, a5⟩ := h3 t t0 (by omega)
    unfold STu
    simp only [g, gb]
    exact ⟨a1, a2, a3, a4, a5⟩
  · rcases f6 y y0 y1 with z | ⟨z1, z2, z3⟩
    · exact Or.inl z
    · rw [z2, z3]; exact h4 y y0 z1
/-- lines of a kept piece, reference -/
noncomputable def LNok (w : Int) (Fm : zF) (Bm : zB) : Prop := (1 ≤ Fm 13 w 48 ∧ Fm 13 w 48 ≤ 100) ∧ r32 (Fm 13 w 47) ∧ (∀ j, 0 ≤ j → j < Fm 13 w 48 → 0 ≤ Bm 13 w 49 j ∧ 1 ≤ Bm 13 w 50 j ∧ Bm 13 w 49 j + Bm 13 w 50 j ≤ Fm 13 w 7 ∧ r32 (Bm 13 w 51 j)) ∧ Bm 13 w 49 0 = 0 ∧ (∀ j, 0 ≤ j → j + 1 < Fm 13 w 48 → Bm 13 w 49 (j + 1) = Bm 13 w 49 j + Bm 13 w 50 j) ∧ Bm 13 w 49 (Fm 13 w 48 - 1) + Bm 13 w 50 (Fm 13 w 48 - 1) = Fm 13 w 7
/-- what else a kept piece has alike: the signs of its notes -/
noncomputable def LNk (p w : Int) (F : zF) (B : zB) (Fm : zF) (Bm : zB) : Prop := 0 ≤ p → (Fm 13 w 48 = 0 ∨ LNok w Fm Bm) ∧ NAl (F 6 p 1) p w F B Bm ∧ XTk (F 6 p 1) p w F B Fm Bm ∧ LYk p w F B Fm Bm
theorem LNk_e {K : zK} {p w : Int} {F F' : zF} {B B' : zB} {Fm Fm' : zF} {Bm Bm' : zB} (h : LNk p w F B Fm Bm) (s : SL K p w F B Fm Bm) (f6 : 0 ≤ p → p < K.2 6 → ∀ k, k ≤ 8 ∨ k = 12 ∨ k = 13 → F' 6 p k = F 6 p k) (b6 : 0 ≤ p → p < K.2 6 → ∀ v, B' 6 p 0 v = B 6 p 0 v) (f4 : ∀ q k, 0 ≤ q → q < K.2 4 → (∃ u, 0 ≤ u ∧ u < 4 ∧ B 6 p 0 u = q) → 0 ≤ p → p < K.2 6 → F' 4 q k = F 4 q k ∧ ∀ x, B' 4 q k x = B 4 q k x) (ob : ∀ (c j : Nat), (c = 2 ∧ j = 8) ∨ (c = 9 ∧ j = 12) → 0 ≤ p → p < K.2 6 → 0 ≤ F 6 p j → ∀ k, F' c (F 6 p j) k = F c (F 6 p j) k ∧ ∀ x, B' c (F 6 p j) k x = B c (F 6 p j) k x) (f : ∀ k, k ≤ 52 ∨ 72 ≤ k → Fm' 13 w k = Fm 13 w k) (b : ∀ k x, k ≤ 52 ∨ 72 ≤ k → Bm' 13 w k x = Bm 13 w k x) : LNk p w F' B' Fm' Bm' := fun p0 => by
  rcases s with ⟨a, _⟩ | ⟨_, _, V, c, _⟩
  · omega
  have hp := c.1.1
  have hV := c.1.2.2.1
  have hq : ∀ u, 0 ≤ u → u < V → (0 ≤ B 6 p 0 u ∧ B 6 p 0 u < K.2 4) := fun u u0 u1 => (c.2.2 u u0 u1).1.1
  have e1 : F 6 p 1 = V := c.1.2.2.2.1
  obtain ⟨h1, h2, h3, h4⟩ := h p0
  have e49 : ∀ x, Bm' 13 w 49 x = Bm 13 w 49 x := fun x => b 49 x (by omega)
  have e50 : ∀ x, Bm' 13 w 50 x = Bm 13 w 50 x := fun x => b 50 x (by omega)
  have e51 : ∀ x, Bm' 13 w 51 x = Bm 13 w 51 x := fun x => b 51 x (by omega)
  refine ⟨?_, ?_, ?_, LYk_e h4 (fun k hk => f6 hp.1 hp.2 k (by omega)) (fun z => ob 2 8 (Or.inl ⟨rfl, rfl⟩) hp.1 hp.2 z) (fun k hk => f k (by omega)) (fun k x _ _ => b k x (by omega))⟩
  · unfold LNok
    rw [f 7 (by omega), f 47 (by omega), f 48 (by omega)]
    simp only [e49, e50, e51]
    exact h1
  · rw [f6 hp.1 hp.2 1 (by omega), e1]
    rw [e1] at h2
    exact NAl_e h2 (fun u _ _ => b6 hp.1 hp.2 u) (fun u u0 u1 => (f4 _ 10 (hq u u0 u1).1 (hq u u0 u1).2 ⟨u, u0, by omega, rfl⟩ hp.1 hp.2).1) (fun u u0 u1 k x => (f4 _ k (hq u u0 u1).1 (hq u u0 u1).2 ⟨u, u0, by omega, rfl⟩ hp.1 hp.2).2 x) (fun k x _ _ => b k x (by omega))
  · rw [f6 hp.1 hp.2 1 (by omega)]
    exact XTk_e h3 ⟨f6 hp.1 hp.2 12 (by omega), f6 hp.1 hp.2 13 (by omega)⟩ (fun z => ob 9 12 (Or.inr ⟨rfl, rfl⟩) hp.1 hp.2 z) (fun k hk => f k (by omega)) (fun k x hk => b k x (by omega))
noncomputable def IE (cc : Int) (K : zK) (Km : Nat) (p p0 p1 w w0 w1 : Int) (F : zF) (B : zB) (Fm : zF) (Bm : zB) : Prop := IC K Km p p0 p1 w w0 w1 F B Fm Bm ∧ T61 Bm ∧ IS K F ∧ SDk K p0 w0 F B Fm Bm ∧ SDk K p1 w1 F B Fm Bm ∧ IU cc K F B Fm Bm ∧ LNk p0 w0 F B Fm Bm ∧ LNk p1 w1 F B Fm Bm
/-- what touches no piece -/
noncomputable def noF (F F' : zF) : Prop := ∀ c y k, ¬ c = 0 → ¬ c = 7 → ¬ c = 8 → ¬ (c = 1 ∧ y = 0) → ¬ (c = 12 ∧ y = 0 ∧ 8 ≤ k) → F' c y k = F c y k
noncomputable def noB (B B' : zB) : Prop := ∀ c y k x, ¬ c = 0 → ¬ c = 7 → ¬ c = 8 → ¬ (c = 1 ∧ y = 0) → ¬ (c = 12 ∧ y = 0 ∧ k = 1) → B' c y k x = B c y k x
noncomputable def noG (w : Int) (F F' : zF) : Prop := ∀ i k, (i ≠ w ∨ k = 0 ∨ 8 ≤ k → F' 13 i k = F 13 i k) ∧ F' 14 0 6 = F 14 0 6
noncomputable def noH (w : Int) (B B' : zB) : Prop := (∀ i k x, ¬ (i = w ∧ 8 ≤ k ∧ k ≤ 35) → B' 13 i k x = B 13 i k x) ∧ ∀ k x, k = 5 ∨ k = 13 ∨ k = 14 ∨ k = 15 ∨ k = 58 ∨ k = 61 ∨ k = 96 ∨ k = 97 ∨ k = 106 → B' 14 0 k x = B 14 0 k x
theorem IE_f {cc : Int} {K K' : zK} {Km : Nat} {p p0 p1 w w0 w1 : Int} {F F' : zF} {B B' : zB} {Fm Fm' : zF} {Bm Bm' : zB} (h : IE cc K Km p p0 p1 w w0 w1 F B Fm Bm) (k1 : K'.1 = K.1) (kc : ∀ c, ¬ c = 8 → K'.2 c = K.2 c) (k8 : K.2 8 ≤ K'.2 8) (f : noF F F') (b : noB B B') (g : noG w Fm Fm') (m : noH w Bm Bm') (hT' : IT F' B' Fm' Bm') : IE cc K' Km p p0 p1 w w0 w1 F' B' Fm' Bm' := by
  obtain ⟨⟨⟨a1, a2, a3⟩, hB, ⟨d1, d2, d3, d4, d5, d6, d7⟩, hT, ⟨n1, n2, n3, n4, n5, n6⟩, hW, hQ, hG, hF, s0, s1⟩, t61, hS, e0, e1, hU, l0, l1⟩ := h
  have f12 : ∀ k, k < 8 → F' 12 0 k = F 12 0 k := fun k hk => f 12 0 k (by omega) (by omega) (by omega) (by omega) (by omega)
  have f3 : ∀ k, F' 3 0 k = F 3 0 k := fun k => f 3 0 k (by omega) (by omega) (by omega) (by omega) (by omega)
  have f4 : ∀ q k, F' 4 q k = F 4 q k := fun q k => f 4 q k (by omega) (by omega) (by omega) (by omega) (by omega)
  have f5 : ∀ q k, F' 5 q k = F 5 q k := fun q k => f 5 q k (by omega) (by omega) (by omega) (by omega) (by omega)
  have f6 : ∀ q k, F' 6 q k = F 6 q k := fun q k => f 6 q k (by omega) (by omega) (by omega) (by omega) (by omega)
  have b4 : ∀ q k x, B' 4 q k x = B 4 q k x := fun q k x => b 4 q k x (by omega) (by omega) (by omega) (by omega) (by omega)
  have b5 : ∀ q k x, B' 5 q k x = B 5 q k x := fun q k x => b 5 q k x (by omega) (by omega) (by omega) (by omega) (by omega)
  have b6 : ∀ q k x, B' 6 q k x = B 6 q k x := fun q k x => b 6 q k x (by omega) (by omega) (by omega) (by omega) (by omega)
  have b10 : ∀ x, B' 10 0 5 x = B 10 0 5 x := fun x => b 10 0 5 x (by omega) (by omega) (by omega) (by omega) (by omega)
  have b3 : ∀ x, B' 12 0 3 x = B 12 0 3 x := fun x => b 12 0 3 x (by omega) (by omega) (by omega) (by omega) (by omega)
  have kk : ∀ c, K.2 c ≤ K'.2 c := fun c => by
    by_cases z : c = 8
    · rw [z]; exact k8
    · rw [kc c z]; exact Int.le_refl _
  have q1 := kc 1 (by decide)
  have q4 := kc 4 (by decide)
  have q6 := kc 6 (by decide)
  have m14 : ∀ k, k = 5 ∨ k = 13 ∨ k = 14 ∨ k = 15 ∨ k = 58 ∨ k = 61 → Bm' 14 0 k = Bm 14 0 k := fun k hk => by funext x; exact m.2 k x (by omega)
  have gs : GS K' B' := by
    have := GS_B d1 (B' := B') (fun p v _ _ => b6 p 0 v) (fun q x _ _ => b4 q 5 x)
    obtain ⟨g1, g2, g3, g4, g5⟩ := this
    refine ⟨fun c hc => ?_, by rw [q6, q4]; exact g2, by rw [q6]; exact g3, by rw [q4, q1]; exact g4, by rw [q4]; exact g5⟩
    have := g1 c hc
    rw [q1, kc c (by omega)]
    exact this
  have hsl : ∀ y v, ¬ v = w → SL K y v F B Fm Bm → SL K' y v F' B' Fm' Bm' := fun y v hv s => SL_e s kk (fun _ _ k _ => f6 y k) (fun _ _ v => b6 y 0 v) (fun q k _ _ _ _ _ => ⟨f4 q k, fun x => b4 q k x⟩) (fun q i k a1 a2 _ _ _ i0 i1 => by
    have := d1.2.2.2.1 q i a1 a2 i0 i1
    exact ⟨f 1 _ k (by omega) (by omega) (by omega) (by omega) (by omega), fun x => b 1 _ k x (by omega) (by omega) (by omega) (by omega) (by omega)⟩) (fun k => (g v k).1 (Or.inl hv)) (fun k x => m.1 v k x (by omega))
  have hsd : ∀ y v, ¬ v = w → SDk K y v F B Fm Bm → SDk K' y v F' B' Fm' Bm' := fun y v hv s y0 => by
    rw [f6]
    exact PD_e (s y0) (kk 5) (fun k _ _ => f6 y k) (fun _ => by funext k; exact f5 _ k) (fun _ => by funext k x; exact b5 _ k x) (fun k => (g v k).1 (Or.inl hv)) (fun k x => m.1 v k x (by omega))
  have hln : ∀ y v, ¬ v = w → SL K y v F B Fm Bm → LNk y v F B Fm Bm → LNk y v F' B' Fm' Bm' := fun y v hv s l => LNk_e l s (fun _ _ k _ => f6 y k) (fun _ _ v => b6 y 0 v) (fun q k _ _ _ _ _ => ⟨f4 q k, fun x => b4 q k x⟩) (fun c j hc _ _ _ k => ⟨f c _ k (by omega) (by omega) (by omega) (by omega) (by omega), fun x => b c _ k x (by omega) (by omega) (by omega) (by omega) (by omega)⟩) (fun k _ => (g v k).1 (Or.inl hv)) (fun k x _ => m.1 v k x (by omega))
  have ex : ∀ k, 36 ≤ k → ∀ i x, Bm' 13 i k x = Bm 13 i k x := fun k hk i x => m.1 i k x (by omega)
  refine ⟨⟨⟨by rw [k1]; exact a1, a2, ?_⟩, ?_, ⟨gs, fun j => by rw [b10]; exact d2 j, fun q s h1 h2 h3 h4 => by rw [b4]; exact d3 q s h1 (by omega) h3 h4, ?_, ?_, ?_, ?_⟩, hT', ⟨by rw [f12 7 (by omega)]; exact n1, by rw [b3]; exact n2, by rw [b3]; exact n3, by rw [(g 0 0).2]; exact n4, by rw [m.2 5 0 (by omega)]; exact n5, by rw [m.2 5 1 (by omega)]; exact n6⟩, hW, ?_, ?_, ?_, hsl p0 w0 hW.2.2.2.1 s0, hsl p1 w1 hW.2.2.2.2.1 s1⟩, ?_, ?_, hsd p0 w0 hW.2.2.2.1 e0, hsd p1 w1 hW.2.2.2.2.1 e1, ?_, hln p0 w0 hW.2.2.2.1 s0 l0, hln p1 w1 hW.2.2.2.2.1 s1 l1⟩
  · rw [kc 0 (by decide), kc 2 (by decide), kc 3 (by decide), kc 5 (by decide), kc 7 (by decide), kc 9 (by decide), kc 10 (by decide), kc 11 (by decide), kc 12 (by decide)]
    omega
  · unfold IB at *
    rw [f12 0 (by omega), f12 2 (by omega), f12 4 (by omega), f12 5 (by omega), f12 6 (by omega), f3]; exact hB
  · unfold MW at *
    rw [m14 13 (by omega), m14 14 (by omega), m14 15 (by omega)]; exact d4
  · unfold XS at *
    simp only [m14 58 (by omega), ex 36 (by decide), ex 37 (by decide), ex 38 (by decide), ex 39 (by decide), ex 40 (by decide), ex 41 (by decide)]; exact d5
  · unfold XC at *
    simp only [ex 42 (by decide), ex 45 (by decide), ex 46 (by decide)]; exact d6
  · unfold X77 at *
    simp only [ex 77 (by decide), ex 78 (by decide), ex 79 (by decide), ex 80 (by decide)]; exact d7
  · unfold IQp at *
    rw [q6]; exact hQ
  · unfold IG at *
    rw [q6, q4, q1, slE_e (fun _ v => b6 p 0 v), slE_e (fun _ v => b6 p0 0 v), slE_e (fun _ v => b6 p1 0 v)]; exact hG
  · intro y y0 y1
    rw [f6, f6, f6, kc 2 (by decide), kc 5 (by decide), kc 9 (by decide)]
    exact hF y y0 (by omega)
  · unfold T61 at *
    rw [m14 61 (by omega)]; exact t61
  · refine ⟨fun y y0 y1 z => ?_, fun k hk y y' y0 y1 z0 z1 n => ?_⟩
    · rw [f6] at z ⊢
      have := hS.1 y y0 (by omega) z
      unfold rwS at *
      rw [f5, f5]; exact this
    · rw [f6, f6]
      exact hS.2 k hk y y' y0 (by omega) z0 (by omega) n
  · have u0 := hU
    obtain ⟨c0, _, hU5, _, _, hUm, _⟩ := u0
    refine IU_f hU (IKn_f c0.2 (kc 2 (by decide)) (kc 5 (by decide)) (kc 6 (by decide)) (kc 9 (by decide)) (fun y k _ _ _ => f6 y k)) (kc 2 (by decide)) (kc 9 (by decide)) (fun l _ _ => ⟨Or.inl (f 2 l 0 (by omega) (by omega) (by omega) (by omega) (by omega)), f 2 l 4 (by omega) (by omega) (by omega) (by omega) (by omega), fun k x => b 2 l k x (by omega) (by omega) (by omega) (by omega) (by omega)⟩) (fun s s0 s1 => PXu_e (hU5 s s0 (by rw [← kc 5 (by decide)]; exact s1)) (fun k _ => f5 s k)) (fun t _ _ => ⟨fun k => f 9 t k (by omega) (by omega) (by omega) (by omega) (by omega), fun k x => b 9 t k x (by omega) (by omega) (by omega) (by omega) (by omega)⟩) (fun y _ y1 => Or.inr ⟨by rw [← q6]; exact y1, f6 y 13, f6 y 12⟩) (fun i i0 i1 z => ?_) (fun k x hk => m.2 k x (by omega))
    rw [(g i 53).1 (by omega)] at z
    exact PMu_e (hUm i i0 i1 z) (fun k k0 k1 => (g i k).1 (by omega))
end
end

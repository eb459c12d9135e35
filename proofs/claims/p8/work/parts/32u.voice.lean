section
/-! ===== the reference writes a voice ===== -/
theorem ntA_0 {st al st' al' : Int → Int} {v : Int} : ntA 0 st al v = ntA 0 st' al' v := rfl
theorem spT_z {n d b : Int} {st al st' al' : Int → Int} : ∀ (f : Nat) (a e : Int), spT n d b 0 st al f a e = spT n d b 0 st' al' f a e := by
  intro f
  induction f with
  | zero => intro a e; rfl
  | succ f ih =>
    intro a e
    rw [spT, spT, ih (nxF n d b a e) e, ntA_0 (st := st) (al := al) (st' := st') (al' := al')]
theorem spX_z {n d b a e : Int} {st al st' al' : Int → Int} : spX n d b 0 st al a e = spX n d b 0 st' al' a e := spT_z _ _ _
theorem txA_a {n d b u : Int} : ∀ (L : List (Int × Int × Int × (Int → Int) × (Int → Int))) (r : Int × Int × Int × (Int → Int) × (Int → Int)), txA n d b u (L ++ [r]) = txA n d b u L ++ spX n d b r.2.2.1 r.2.2.2.1 r.2.2.2.2 (u * r.1) (u * r.2.1) := by
  intro L
  induction L with
  | nil => intro r; rw [List.nil_append, txA, txA, txA, List.append_nil, List.nil_append]
  | cons s ss ih => intro r; rw [List.cons_append, txA, txA, ih r, List.append_assoc]
theorem TM_c {q : zF × zB} {T : List Int} {F F' : zF} {B B' : zB} (h : TM q T F B) (f : F' 14 0 71 = F 14 0 71) (b : ∀ j, B' 14 0 70 j = B 14 0 70 j) : TM (F', B') T F' B' := ⟨⟨by rw [f]; exact h.1.1, fun j hj => by rw [b]; exact h.1.2 j hj⟩, fun _ _ _ _ => rfl, fun _ _ _ _ _ => rfl⟩
/-- the head of a voice's text, and its notes -/
def vHd (v cl num : Int) : List Int := [118, 111, 105, 99, 101, 32, 118] ++ ([97 + v] ++ ((if cl = 0 then [32, 116, 114, 101, 98, 108, 101, 32] else [32, 98, 97, 115, 115, 32]) ++ (decT num ++ [32, 123, 10])))
def vNt (n d b u last : Int) (EL : List (Int × Int × Int × (Int → Int) × (Int → Int))) : List Int := txA n d b u EL ++ (spX n d b 0 (fun _ => 0) (fun _ => 0) (u * endN 0 EL) (u * last) ++ spX n d b 0 (fun _ => 0) (fun _ => 0) (u * last) (cbE b (u * last)))
/-- what a voice written down may change -/
def dvM (w v : Int) (B B' : zB) : Prop := ∀ c i k y, ¬ (c = 13 ∧ i = w ∧ (((k = 12 ∨ k = 13) ∧ y = v) ∨ ((14 ≤ k ∧ k ≤ 22) ∧ 1000 * v ≤ y ∧ y < 1000 * v + 1000) ∨ ((30 ≤ k ∧ k ≤ 35) ∧ 800 * v ≤ y ∧ y < 800 * v + 800))) → ¬ (c = 14 ∧ i = 0 ∧ k = 70) → B' c i k y = B c i k y
def dvG (w : Int) (F F' : zF) : Prop := ∀ c y k, ¬ (c = 14 ∧ y = 0 ∧ (k ≤ 1 ∨ 52 ≤ k ∧ k ≤ 57 ∨ k = 71)) → ¬ (c = 13 ∧ y = w ∧ k = 7) → F' c y k = F c y k
/-- the notes, then the text -/
theorem M_dvN {Km : Nat} {u v w n d b M : Int} {EL : List (Int × Int × Int × (Int → Int) × (Int → Int))} {T : List Int} {F : zF} {B : zB} (hKm : 70000000000 < Km) (v0 : 0 ≤ v ∧ v < 4) (hw : F 14 0 6 = w ∧ 0 ≤ w ∧ w < 3) (hb : BRs n d b) (hu : u = 128 ∨ u = 64 ∨ u = 32 ∨ u = 16) (hM : 0 ≤ M ∧ u * M ≤ 100 * b) (el : (EL.length : Int) ≤ 900) (hc : CHN 0 EL) (hE : endN 0 EL = M) (h12 : B 13 w 12 v = (EL.length : Int)) (m4 : F 13 w 4 = n) (m5 : F 13 w 5 = d) (hv : EVn u w v B 0 EL) (hpl : PLn u w v B 0 EL) (ht : T.length ≤ 3100) (hT : TM (F, B) T F B) : ∃ F' B', f_M_downVoice_209 Km v F B = some (0, F', B') ∧ dvG w F F' ∧ dvM w v B B' ∧ ((TM (F', B') (T ++ (txA n d b u EL ++ (spX n d b 0 (fun _ => 0) (fun _ => 0) (u * M) (cbE b (u * M)) ++ [125, 10]))) F' B' ∧ (T ++ (txA n d b u EL ++ (spX n d b 0 (fun _ => 0) (fun _ => 0) (u * M) (cbE b (u * M)) ++ [125, 10]))).length ≤ 4000) ∨ ((3000 < F' 14 0 71 ∧ F' 14 0 71 ≤ 5000) ∧ 3000 < (T ++ (txA n d b u EL ++ (spX n d b 0 (fun _ => 0) (fun _ => 0) (u * M) (cbE b (u * M)) ++ [125, 10]))).length)) := by
  obtain ⟨b1, b2, b3, _, b5, b6⟩ := BRs_b hb
  obtain ⟨c, F1, B1, u1, u2, u3, u4, u5⟩ := M_nts (Km := Km) (u := u) (v := v) (w := w) (M := M) hKm v0 hw.2 hb hu hM (by first | decide | omega) hc (by first | decide | omega) h12 m4 m5 hv hpl
  rw [hE] at u4
  generalize hL : spA n d b u 0 EL ++ spN n d b (-1) (u * M) (cbE b (u * M)) = L at u4
  have M0 : 0 ≤ u * M ∧ u * M ≤ 100 * b := ⟨by rcases hu with rfl | rfl | rfl | rfl <;> omega, hM.2⟩
  have dm := Int.mul_ediv_add_emod (u * M) b
  have m0 := Int.emod_nonneg (u * M) (show b ≠ 0 by omega)
  have m1 := Int.emod_lt_of_pos (u * M) (show 0 < b by omega)
  have q0 : 0 ≤ u * M / b := Int.ediv_nonneg M0.1 (by first | decide | omega)
  have nb1 : (u * M / b + 1) * b = b * (u * M / b) + b := by rw [Int.add_mul, Int.one_mul, Int.mul_comm]
  have sd : (sdU d = 16) ∨ (sdU d = 4) := by unfold sdU; split <;> omega
  have cb : cbE b (u * M) % sdU d = 0 ∧ u * M ≤ cbE b (u * M) ∧ cbE b (u * M) ≤ 100 * b ∧ cbE b (u * M) % b = 0 := by
    unfold cbE
    by_cases z : u * M % b = 0
    · rw [if_pos z]; exact ⟨u_sd hu, (by first | decide | omega), (by first | decide | omega), z⟩
    · rw [if_neg z]
      refine ⟨?_, (by first | decide | omega), ?_, Int.mul_emod_left _ _⟩
      · obtain ⟨j, hj⟩ : ∃ j, b = sdU d * j := ⟨b / sdU d, by rcases sd with h | h <;> rw [h] at b3 ⊢ <;> omega⟩
        rw [show (u * M / b + 1) * b = sdU d * ((u * M / b + 1) * j) by rw [hj]; ac_rfl]
        exact Int.mul_emod_right _ _
      · have l1 := (Int.ediv_lt_iff_lt_mul (show 0 < b by omega) (a := u * M) (b := 100)).mpr (by
          by_cases y : u * M = 100 * b
          · rw [y, Int.mul_emod_left] at z; exact absurd rfl z
          · omega)
        exact Int.mul_le_mul_of_nonneg_right (by first | decide | omega) (by first | decide | omega)
  have mg : ∀ r, r ∈ EL → 0 ≤ r.2.2.1 := by
    have : ∀ (L : List (Int × Int × Int × (Int → Int) × (Int → Int))) (j : Int), EVn u w v B j L → ∀ r, r ∈ L → 0 ≤ r.2.2.1 := by
      intro L
      induction L with
      | nil => intro j _ r hr; exact absurd hr (List.not_mem_nil)
      | cons s ss ih =>
        intro j h r hr
        rcases List.mem_cons.mp hr with q | q
        · rw [q]; exact h.1.1.1
        · exact ih (j + 1) h.2 r q
    exact this EL 0 hv
  -- the text of all notes
  have ev1 : (evD EL (-1)).1 = 0 := evD_n EL (-1) (by first | decide | omega)
  have tx : rtx EL L = txA n d b u EL ++ spX n d b 0 (fun _ => 0) (fun _ => 0) (u * M) (cbE b (u * M)) := by
    have hR : ∀ i, (0 ≤ i ∨ i = -2) → HDc b i (u * M) (spN n d b (-1) (u * M) (cbE b (u * M))) := fun i hi => by
      by_cases z : u * M % b = 0
      · have : cbE b (u * M) = u * M := by unfold cbE; rw [if_pos z]
        rw [this, spN_0 (by first | decide | omega)]
        exact z
      · have : cbE b (u * M) = (u * M / b + 1) * b := by unfold cbE; rw [if_neg z]
        rw [spN_u hb M0.1 (u_sd hu) cb.1 (by first | decide | omega)]
        exact ⟨by show ¬ (-1 : Int) = i; omega, rfl⟩
    rw [← hL, rtx_A hb hu EL 0 0 (by first | decide | omega) (by first | decide | omega) hc (fun i _ => by rw [show 0 + i = i by omega]) mg (by rw [hE]; exact hR (-2) (Or.inr rfl)) (fun i i0 => by rw [hE]; exact hR i (Or.inl i0))]
    have last := rtx_s (EL := EL) (ev := -1) (R := []) hb (by first | decide | omega) cb.1 (show HDc b (-1) (cbE b (u * M)) [] from cb.2.2.2) (cbE b (u * M) - u * M).toNat (u * M) (by first | decide | omega) M0.1 cb.2.1 (u_sd hu)
    rw [List.append_nil, ev1, rtx, List.append_nil] at last
    rw [last, spX_z (st' := fun _ => 0) (al' := fun _ => 0)]
  have ok : ∀ s, s ∈ L → (-1 ≤ s.1 ∧ s.1 < (EL.length : Int)) ∧ (0 ≤ s.2.1 ∧ s.2.1 ≤ 1000) ∧ (0 ≤ s.2.2 ∧ s.2.2 < 24) := fun s hs => by
    rw [← hL] at hs
    rcases List.mem_append.mp hs with h | h
    · have := spA_o hb hu hM.2 EL 0 0 (by first | decide | omega) hc (by first | decide | omega) s h
      exact ⟨(by first | decide | omega), this.2⟩
    · have := spN_o (ev := -1) hb cb.1 cb.2.2.1 (cbE b (u * M) - u * M).toNat (u * M) (by first | decide | omega) M0.1 (u_sd hu) s h
      exact ⟨(by first | decide | omega), this.2⟩
  have evp : ∀ s, s ∈ L → 0 ≤ (evD EL s.1).1 := fun s hs => by
    have o := (ok s hs).1
    by_cases y : s.1 < 0
    · rw [evD_n EL s.1 y]; omega
    · exact (evD_r EL 0 s.1 hv (by first | decide | omega) o.2).1.1
  have lx := rtx_l (EL := EL) L evp
  have f6 : F1 14 0 6 = w := by rw [u2 14 0 6 (by first | decide | omega) (by first | decide | omega)]; exact hw.1
  have b70 : ∀ j, B1 14 0 70 j = B 14 0 70 j := fun j => u3 14 0 70 j (by first | decide | omega) (by first | decide | omega)
  have mB : dvM w v B B1 := fun c i k y n n' => u3 c i k y (by first | decide | omega) (by first | decide | omega)
  obtain ⟨cc, c1, c2, c3, c4⟩ := NSt_c u4
  have ec : cc = c := by rw [← c1, u5]
  subst ec
  unfold f_M_downVoice_209
  rw [hw.1, if_pos hw.2, u1, zb_s, if_pos (by unfold r32; omega)]
  have ea : T ++ (txA n d b u EL ++ (spX n d b 0 (fun _ => 0) (fun _ => 0) (u * M) (cbE b (u * M)) ++ [125, 10])) = T ++ (rtx EL L ++ [125, 10]) := by rw [tx, List.append_assoc]
  rw [ea]
  by_cases z : cc ≤ 800
  · rw [if_pos z]
    obtain ⟨l1, l2, l3⟩ : L.length ≤ 800 ∧ B1 13 w 13 v = (L.length : Int) ∧ NRW w v B1 0 L := by
      rcases u4 with h | h
      · exact h
      · omega
    have hT1 : TM (F1, B1) T F1 B1 := TM_c hT (by rw [u2 14 0 71 (by first | decide | omega) (by first | decide | omega)]) b70
    have hv1 : EVn u w v B1 0 EL := EVn_f EL 0 hv (fun k y hk a b => u3 13 w k y (by first | decide | omega) (by first | decide | omega)) (fun k y hk a b => u3 13 w k y (by first | decide | omega) (by first | decide | omega))
    obtain ⟨F2, B2, T', y1, y2, yl, y3⟩ := M_239 (Km := Km) (q := (F1, B1)) (u := u) (w := w) (v := v) (c := cc) (EL := EL) (by first | decide | omega) ⟨f6, hw.2⟩ v0 (by first | decide | omega) hv1 (by first | decide | omega) L Km 0 T F1 B1 (by first | decide | omega) (by first | decide | omega) (by first | decide | omega) l3 ok (by first | decide | omega) hT1
    refine ⟨F2, B2, y1, fun c y k n n' => ?_, fun c i k y n n' => ?_, ?_⟩
    · rw [y2.2.1 c y k (by first | decide | omega)]; exact u2 c y k (by first | decide | omega) n'
    · rw [y2.2.2 c i k y (by first | decide | omega)]; exact mB c i k y n n'
    · rcases y3 with y3 | ⟨y4, y5, y6⟩
      · rw [y3] at y2 yl; exact Or.inl ⟨TM_s y2, yl⟩
      · refine Or.inr ⟨by rw [y2.1.1]; omega, ?_⟩
        rw [← List.append_assoc, List.length_append]; omega
  · have l8 : 800 < L.length := by omega
    rw [if_neg z]
    unfold f_M_downVoice_236
    obtain ⟨p, ep⟩ : ∃ p, Km = p + 1 := ⟨Km - 1, (by first | decide | omega)⟩
    have hz : ∀ c y k, ¬ (c = 14 ∧ y = 0 ∧ k = 71) → (zup3 F1 14 0 71 3001) c y k = F1 c y k := fun c y k n => by rw [zup3_v, if_neg n]
    have ez : (zup3 F1 14 0 71 3001) 14 0 71 = 3001 := by rw [zup3_v, if_pos (by first | decide | omega)]
    have e239 : ∀ j, f_M_downVoice_239 Km (j + 1) 0 cc v (zup3 F1 14 0 71 3001) B1 = f_M_downVoice_283 Km (zup3 F1 14 0 71 3001) B1 := fun j => by
      rw [f_M_downVoice_239, if_pos (by decide), if_pos (by unfold r32; omega), if_neg (by first | decide | omega), ez, if_pos (by decide), if_pos (by decide)]
    have e' := e239 p
    rw [← ep] at e'
    rw [e']
    have pp : ∀ (x : Int) (F : zF) (B : zB), 0 ≤ F 14 0 71 → F 14 0 71 < 39000 → ∃ B', f_M_put_0 Km x F B = some (0, zup3 F 14 0 71 (F 14 0 71 + 1), B') ∧ (∀ c i k y, ¬ (c = 14 ∧ i = 0 ∧ k = 70) → B' c i k y = B c i k y) := fun x F B a b => by
      unfold f_M_put_0 f_M_put_0_20
      rw [if_pos (by unfold r32; omega), if_neg (by first | decide | omega), if_pos (by first | decide | omega)]
      exact ⟨_, rfl, fun c i k y n => by rw [zup4_v, if_neg (by first | decide | omega)]⟩
    obtain ⟨B2, y1, y2⟩ := pp 125 (zup3 F1 14 0 71 3001) B1 (by first | decide | omega) (by first | decide | omega)
    obtain ⟨B3, y3, y4⟩ := pp 10 (zup3 (zup3 F1 14 0 71 3001) 14 0 71 ((zup3 F1 14 0 71 3001) 14 0 71 + 1)) B2 (by rw [zup3_v, if_pos (by first | decide | omega)]; omega) (by rw [zup3_v, if_pos (by first | decide | omega)]; omega)
    unfold f_M_downVoice_283
    rw [y1, zb_s, y3, zb_s]
    refine ⟨_, B3, rfl, fun c y k n n' => ?_, fun c i k y n n' => ?_, Or.inr ⟨?_, ?_⟩⟩
    · rw [zup3_v, if_neg (by first | decide | omega), zup3_v, if_neg (by first | decide | omega), hz c y k (by first | decide | omega)]; exact u2 c y k (by first | decide | omega) n'
    · rw [y4 c i k y n', y2 c i k y n']; exact mB c i k y n n'
    · rw [zup3_v, if_pos (by first | decide | omega), zup3_v, if_pos (by first | decide | omega), ez]; omega
    · rw [List.length_append, List.length_append]; omega
end

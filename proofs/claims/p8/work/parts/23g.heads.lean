section
/-! ===== time and key, on both sides ===== -/
theorem P_nump {K : zK} {Km : Nat} {N j lo hi : Int} {F : zF} {B : zB} {Fm : zF} {Bm : zB} (hE : EV K Km N B Bm) (hS : PS N j F B Fm Bm) (hl : r32 lo) (hh : r32 hi) (h1 : 1 ≤ lo) (h2 : hi ≤ 32) : (Bm 14 0 7 j = 3 ∧ lo ≤ Bm 14 0 9 j ∧ Bm 14 0 9 j ≤ hi ∧ pw2 (Bm 14 0 9 j) ∧ f_Parser_takeNumber K 0 lo hi 1 F B = some (1, advF (zup3 F 3 0 19 (Bm 14 0 9 j)) B, B) ∧ f_M_number Km lo hi 1 Fm Bm = some (Bm 14 0 9 j, zup3 Fm 14 0 16 (j + 1), Bm) ∧ PS N (j + 1) (advF (zup3 F 3 0 19 (Bm 14 0 9 j)) B) B (zup3 Fm 14 0 16 (j + 1)) Bm) ∨ (∃ s s' v, f_Parser_takeNumber K 0 lo hi 1 F B = some (0, refF F s, B) ∧ f_M_number Km lo hi 1 Fm Bm = some (v, errM Fm Bm s', Bm) ∧ ERR (refF F s) (errM Fm Bm s')) := by
  have hg := hS.2.2.2.1
  have cn := C_takeNumber (lo := lo) (hi := hi) (pw := 1) (PS_CX hE hS) hl hh (Or.inr ⟨rfl, h1, h2⟩)
  have mn := L_number (K := Km) (lo := lo) (hi := hi) (pw := 1) hg (PS_MX hE hS) hl hh (Or.inr ⟨rfl, h1, h2⟩)
  by_cases k : Bm 14 0 7 j = 3
  · obtain ⟨e0, e2⟩ := nm_of hE hS k
    by_cases n : nOK (Bm 14 0 9 j) lo hi 1
    · left
      have c := cn.1 e0 (by rw [e2]; exact n)
      rw [e2] at c
      exact ⟨k, n.1, n.2.1, n.2.2.resolve_left (by decide), c, mn.1 k n, PS_step hE (PS_u (k := 19) hS (by decide)) (by first | decide | omega)⟩
    · right
      exact ⟨5, 5, _, cn.2.1 e0 (by rw [e2]; exact n), mn.2.1 k n, PS_err hE hS (by rw [if_neg (by first | decide | omega)]) (by decide)⟩
  · right
    have e0 := hS.2.1.2.1
    exact ⟨2, wr Bm j, 0, cn.2.2 (by rw [e0]; exact k), mn.2.2 k, PS_err2 hE hS⟩
theorem bad_cg {F F' : zF} (h : bad F) (e : F' 14 0 17 = F 14 0 17) : bad F' := by
  unfold bad at *
  rw [e]; exact h
theorem P_time {K : zK} {Km : Nat} {N j p w : Int} {F : zF} {B : zB} {Fm : zF} {Bm : zB} (hE : EV K Km N B Bm) (hS : PS N j F B Fm Bm) (hP : HP K p w F Fm) (wd : wdAt Bm j 1953066341) (h23 : Fm 14 0 23 = 0) : zP (f_Parser_takeHead K 0 p F B) (f_M_head Km Fm Bm) (fun r F' B' _ Fm' Bm' => HPO K N j p w 1 F B Fm Bm r F' B' Fm' Bm') := by
  have hX := PS_CX hE hS
  have hM := PS_MX hE hS
  have k3 := hE.2.2.2.1
  have k10 := hE.2.2.2.2.1
  have h4 := wd.1
  have ek := hS.2.1.2.1
  have tk := hE.1.2.2 j hS.2.1.1.1 hS.2.1.1.2
  have ev : F 10 0 2 = 1953066341 := by rw [hS.2.1.2.2.2.1, (tk.2.2.2.2.2.2.1 h4).1]; exact wd.2
  have hs : hds (F 10 0 0) (F 10 0 2) = 2 := by rw [ek, h4, ev]; decide
  have t : ∀ c, r64 c → f_M_isWord Km c Fm Bm = some (if 1953066341 = c then 1 else 0, Fm, Bm) := fun c hc => L_wd hM wd hc
  obtain ⟨p0, w0, h6, q2, q3, q4, q5, q6, q17, q22, q23, q24⟩ := hP
  have z8 := (zor8i q22 q23 q24).2.1 h23
  rw [← q17] at z8
  have hSu : PS N j (zup3 F 3 0 17 (zor (F 3 0 17) 2)) B (zup3 Fm 14 0 23 1) Bm := PS_cg (PS_u (k := 17) (v := zor (F 3 0 17) 2) hS (by decide)) (fun _ => rfl) (fun _ _ => rfl) (fun k hk => by rw [zup3_v, if_neg (fun z => by have := z.2.2; omega)])
  have hS1 := PS_step hE hSu (by first | decide | omega)
  unfold f_Parser_takeHead f_M_head f_M_head_38 f_M_head_152 f_Parser_takeTime f_Parser_takeTime_41
  rw [if_pos ⟨(by first | decide | omega), k3⟩, C_headSort hX, hs]
  simp only [t 7038329 (by decide), t 1953066341 (by decide), zb_s, ir0, ir1, if_true, if_false, Int.reduceEq, h23, h6, hM.1]
  rw [hX.2.2.1, if_pos ⟨(by first | decide | omega), k10⟩, C_adv (CX_u hX (by decide)), if_pos w0]
  simp only [zb_s, if_true, if_false, Int.reduceEq]
  rw [if_pos (show r32 2 by decide), if_pos ⟨Int.le_refl _, k3⟩]
  rcases P_num hE hS1 (lo := 1) (hi := 12) (by decide) (by decide) with ⟨n1, n2, n3, c1, m1, hS2⟩ | ⟨s, s', v, c1, m1, er⟩
  · rw [c1, m1]
    simp only [zb_s, ir1, i10]
    rw [if_pos p0]
    have e19 : (advF (zup3 (advF (zup3 F 3 0 17 (zor (F 3 0 17) 2)) B) 3 0 19 (Bm 14 0 9 (j + 1))) B) 3 0 19 = Bm 14 0 9 (j + 1) := by rw [advF_o (by decide)]; simp [zup3_v]
    rw [e19]
    have hS2' : PS N (j + 1 + 1) (zup3 (advF (zup3 (advF (zup3 F 3 0 17 (zor (F 3 0 17) 2)) B) 3 0 19 (Bm 14 0 9 (j + 1))) B) 6 p 4 (Bm 14 0 9 (j + 1))) B (zup3 (zup3 (zup3 (zup3 Fm 14 0 23 1) 14 0 16 (j + 1)) 14 0 16 (j + 1 + 1)) 13 w 4 (Bm 14 0 9 (j + 1))) Bm := PS_cg hS2 (fun k => by simp [zup3_v]) (fun k _ => by simp [zup3_v]) (fun k _ => by simp [zup3_v])
    have gF2 : hF p F (zup3 (advF (zup3 (advF (zup3 F 3 0 17 (zor (F 3 0 17) 2)) B) 3 0 19 (Bm 14 0 9 (j + 1))) B) 6 p 4 (Bm 14 0 9 (j + 1))) := hF_6 (hF_a (hF_u (hF_a (hF_u hF_r (by decide))) (by decide))) (by decide) (by decide)
    have gG2 : hG w Fm (zup3 (zup3 (zup3 (zup3 Fm 14 0 23 1) 14 0 16 (j + 1)) 14 0 16 (j + 1 + 1)) 13 w 4 (Bm 14 0 9 (j + 1))) := hG_3 (hG_u (hG_u (hG_u hG_r (by decide) (by decide)) (by decide) (by decide)) (by decide) (by decide)) (by decide) (by decide)
    rcases P_sig hE hS2' (c := 47) (by decide) with ⟨_, c2, m2, hS3⟩ | ⟨c2, m2, er⟩
    · rw [c2, m2]
      simp only [zb_s, ir1, i10]
      have e6 : (zup3 (zup3 (zup3 (zup3 (zup3 Fm 14 0 23 1) 14 0 16 (j + 1)) 14 0 16 (j + 1 + 1)) 13 w 4 (Bm 14 0 9 (j + 1))) 14 0 16 (j + 1 + 1 + 1)) 14 0 6 = w := by simp [zup3_v]; exact h6
      rw [e6, if_pos w0]
      rcases P_nump hE hS3 (lo := 2) (hi := 16) (by decide) (by decide) (by decide) (by decide) with ⟨u1, u2, u3, u4, c3, m3, hS4⟩ | ⟨s, s', v, c3, m3, er⟩
      · rw [c3, m3]
        simp only [zb_s, ir1, i10]
        have e19' : (advF (zup3 (advF (zup3 (advF (zup3 (advF (zup3 F 3 0 17 (zor (F 3 0 17) 2)) B) 3 0 19 (Bm 14 0 9 (j + 1))) B) 6 p 4 (Bm 14 0 9 (j + 1))) B) 3 0 19 (Bm 14 0 9 (j + 1 + 1 + 1))) B) 3 0 19 = Bm 14 0 9 (j + 1 + 1 + 1) := by rw [advF_o (by decide)]; simp [zup3_v]
        rw [e19']
        unfold pw2 at u4
        refine zP_s ⟨rfl, rfl, hF_6 (hF_a (hF_u (hF_a gF2) (by decide))) (by decide) (by decide), hG_3 (hG_u (hG_u gG2 (by decide) (by decide)) (by decide) (by decide)) (by decide) (by decide), Or.inl ⟨rfl, j + 1 + 1 + 1 + 1, (by first | decide | omega), ?_, ?_, ?_, ?_, ?_, ?_, ?_, ?_⟩⟩
        · exact PS_cg hS4 (fun k => by simp [zup3_v]) (fun k _ => by simp [zup3_v]) (fun k _ => by simp [zup3_v])
        · refine ⟨p0, w0, ?_, ?_, ?_, ?_, ?_, ?_, ?_, ?_, ?_, ?_⟩ <;> simp [zup3_v, advF_o] <;> first | assumption | omega
        · simp [zup3_v, advF_o]
        · simp [zup3_v, advF_o]
        · simp [zup3_v, advF_o]
        · simp [zup3_v, advF_o]
        · simp [zup3_v, advF_o]
        · simp [zup3_v, advF_o] <;> omega
      · rw [c3, m3]
        simp only [zb_s, ir0, i00]
        refine zP_s ⟨rfl, rfl, hF_e (hF_a gF2), hG_3 (hG_e (hG_u gG2 (by decide) (by decide))) (by decide) (by decide), Or.inr ⟨rfl, ERR_cg er rfl (by simp [zup3_v]) (by simp [zup3_v])⟩⟩
    · rw [c2, m2]
      simp only [zb_s, ir0, i00]
      have e6 : (errM (zup3 (zup3 (zup3 (zup3 Fm 14 0 23 1) 14 0 16 (j + 1)) 14 0 16 (j + 1 + 1)) 13 w 4 (Bm 14 0 9 (j + 1))) Bm (wr Bm (j + 1 + 1))) 14 0 6 = w := by unfold errM; simp [zup3_v]; exact h6
      rw [e6, if_pos w0, L_numberB er.2]
      simp only [zb_s]
      refine zP_s ⟨rfl, rfl, hF_e gF2, hG_3 (hG_e gG2) (by decide) (by decide), Or.inr ⟨rfl, ERR_cg er rfl (by simp [zup3_v]) (by simp [zup3_v])⟩⟩
  · rw [c1, m1]
    simp only [zb_s, ir0, i00]
    have er2 : bad (zup3 (errM (zup3 (zup3 Fm 14 0 23 1) 14 0 16 (j + 1)) Bm s') 13 w 4 v) := bad_cg er.2 (by simp [zup3_v])
    rw [L_needB er2]
    simp only [zb_s]
    have e6 : (zup3 (errM (zup3 (zup3 Fm 14 0 23 1) 14 0 16 (j + 1)) Bm s') 13 w 4 v) 14 0 6 = w := by unfold errM; simp [zup3_v]; exact h6
    rw [e6, if_pos w0, L_numberB er2]
    simp only [zb_s]
    rw [if_pos (by decide)]
    refine zP_s ⟨rfl, rfl, hF_e (hF_a (hF_u hF_r (by decide))), hG_3 (hG_3 (hG_e (hG_u (hG_u hG_r (by decide) (by decide)) (by decide) (by decide))) (by decide) (by decide)) (by decide) (by decide), Or.inr ⟨rfl, ERR_cg er rfl (by simp [zup3_v]) (by simp [zup3_v])⟩⟩
end

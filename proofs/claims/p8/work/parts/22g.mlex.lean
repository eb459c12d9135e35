section
/-! ===== the reference finds the same tokens ===== -/
def tokQ (t : Int → Int) (a : Int × Int) (v al w : Int) : Prop := (tokK t a = 3 → v = tokV t a) ∧ (tokK t a = 4 → w = tokV t a) ∧ (tokK t a = 2 → 8 * v + al + 2 = tokV t a ∧ 0 ≤ v ∧ v ≤ 62 ∧ -2 ≤ al ∧ al ≤ 2) ∧ (tokK t a = 5 → v = tokV t a)
def lexM (t : Int → Int) (n : Int) : List (Int × Int) → Int → zB → Prop
  | [], T, B => B 14 0 7 T = 0 ∧ B 14 0 8 T = n
  | a :: L, T, B => B 14 0 7 T = tokK t a ∧ B 14 0 8 T = a.1 ∧ tokQ t a (B 14 0 9 T) (B 14 0 10 T) (B 14 0 11 T) ∧ lexM t n L (T + 1) B
theorem lexM_1 {t : Int → Int} {n : Int} {a : Int × Int} {L : List (Int × Int)} {T : Int} {B B' : zB} (h7 : B 14 0 7 T = tokK t a) (h8 : B 14 0 8 T = a.1) (hq : tokQ t a (B 14 0 9 T) (B 14 0 10 T) (B 14 0 11 T)) (f : frG 14 [7, 8, 9, 10, 11] (T + 1) B B') (h : lexM t n L (T + 1) B') : lexM t n (a :: L) T B' := by
  have g : ∀ k, B' 14 0 k T = B 14 0 k T := fun k => f 14 0 k T (fun z => by have := z.2.2.2; omega)
  refine ⟨?_, ?_, ?_, h⟩
  · rw [g]; exact h7
  · rw [g]; exact h8
  · rw [g, g, g]; exact hq
theorem runK_2 {t : Int → Int} {p s : Int} (h : runK t p s = 2) : pitS t p s = 1 := by
  rw [runK_c] at h
  by_cases g : pitS t p s = 1
  · exact g
  · rw [if_neg g] at h
    split at h
    · omega
    · split at h <;> omega
theorem runK_3 {t : Int → Int} {p s : Int} (h : runK t p s = 3) : cnt bDig t p s.toNat = s ∧ s ≤ 4 := by
  unfold runK at h
  by_cases g : cnt bDig t p s.toNat = s ∧ s ≤ 4
  · exact g
  · rw [if_neg g] at h
    split at h
    · omega
    · split at h <;> omega
theorem runK_4 {t : Int → Int} {p s : Int} (h : runK t p s = 4) : cnt bLet t p s.toNat = s ∧ s ≤ 8 := by
  unfold runK at h
  by_cases g : cnt bDig t p s.toNat = s ∧ s ≤ 4
  · rw [if_pos g] at h; omega
  · rw [if_neg g] at h
    by_cases k : cnt bLet t p s.toNat = s ∧ s ≤ 8
    · exact k
    · rw [if_neg k] at h
      split at h <;> omega
theorem tokQ_run {t : Int → Int} {p q v al w : Int} (hp : p < q) (hr : ¬ bRun (t p) = 0) (h3 : runK t p (q - p) = 3 → v = nmv t 10 48 p (q - p).toNat) (h4 : runK t p (q - p) = 4 → w = wrd t p (q - p).toNat) (h2 : runK t p (q - p) = 2 → v = pitV t p q ∧ al = pitA t p (q - p)) : tokQ t (p, q) v al w := by
  have hk : tokK t (p, q) = runK t p (q - p) := by simp [tokK, hr]
  have hv : tokV t (p, q) = runV t p q := by simp [tokV, hr]
  unfold tokQ
  rw [hk, hv]
  refine ⟨fun z => ?_, fun z => ?_, fun z => ?_, fun z => ?_⟩
  · rw [h3 z]; unfold runV; rw [z, if_neg (by decide), if_pos rfl]
  · have k := runK_4 z
    have e := wrd_e (t := t) (p := p) (m := (q - p).toNat) (by first | decide | omega) (fun j hj => bLet_is (cnt_all (t := t) (p := p) bLet_b (m := (q - p).toNat) (by first | decide | omega) hj))
    rw [h4 z, e.1]; unfold runV; rw [z, if_neg (by decide), if_neg (by decide), if_pos rfl]
  · have k := pitS_k (runK_2 z)
    have e := h2 z
    rw [show p + (q - p) - 1 = q - 1 by omega] at k
    have hA : -2 ≤ pitA t p (q - p) ∧ pitA t p (q - p) ≤ 2 := by unfold pitA; split <;> omega
    have hV : 0 ≤ pitV t p q ∧ pitV t p q ≤ 62 := by unfold pitV; omega
    have hR : runV t p q = 8 * pitV t p q + pitA t p (q - p) + 2 := by unfold runV; rw [if_pos z]
    omega
  · have := runK_r t p (q - p); omega
theorem zup3_2 {F : zF} {c k : Nat} {i v w : Int} : zup3 (zup3 F c i k v) c i k w = zup3 F c i k w := by
  funext c' i' k'
  rw [zup3_v, zup3_v, zup3_v]
  split
  · rfl
  · rfl
theorem tmB_fr {ks : List Nat} {T : Int} {B B' : zB} (h : frT ks T B B') (hk : 2 ∉ ks) : tmB B' = tmB B := by
  funext y
  unfold tmB
  rw [h 14 0 2 y (fun z => hk z.2.2.1)]
def lexR (t : Int → Int) (n p T : Int) (F : zF) (B : zB) (F' : zF) (B' : zB) : Prop := F' = zup3 F 14 0 12 (T + (lexF t n p).length) ∧ lexM t n (lexF t n p) T B' ∧ frG 14 [7, 8, 9, 10, 11] T B B'
theorem L_c7 {K : Nat} {t : Int → Int} {n : Int} (hK : 3002 ≤ K) (n0 : 0 ≤ n) (n2 : n ≤ 3000) : ∀ {m : Nat} {p T : Int} {F : zF} {B : zB}, F 14 0 3 = n → F 14 0 12 = T → 0 ≤ T → T ≤ p → p ≤ n → n - p < m → tmB B = t → zW (f_M_cut_7 K m p F B) (fun _ F' B' => lexR t n p T F B F' B') := by
  intro m
  induction m with
  | zero => intro p T F B _ _ _ _ _ _; omega
  | succ m ih =>
    intro p T F B hn hT T0 T1 p1 hm ht
    subst hT
    have hbp := tmB_b B p
    rw [ht] at hbp
    have t2 : tmB (zup4 (zup4 B 14 0 8 (F 14 0 12) p) 14 0 11 (F 14 0 12) 0) = t := (tmB_up (by decide)).trans ((tmB_up (by decide)).trans ht)
    unfold f_M_cut_7
    refine zW_g (by first | decide | omega) ?_
    refine zW_g (by first | decide | omega) ?_
    refine zW_i (fun h1 => ?_) (fun h1 => ?_)
    · skip
      refine zW_g (by first | decide | omega) ?_
      refine zW_s ?_
      refine ⟨?_, ?_, frG_u (frG_u frG_r (by decide) (by first | decide | omega)) (by decide) (by first | decide | omega)⟩
      · rw [lexF_0 (by first | decide | omega)]; exact (zup3_id (by simp)).symm
      · rw [lexF_0 (by first | decide | omega)]
        refine ⟨?_, ?_⟩
        · simp [zup4_v]
        · simp [zup4_v, hn]
    · skip
      have hby : f_M_byteAt K p F B = some (t p, F, B) := by
        rw [← ht]; exact L_byteA (by first | decide | omega) (by first | decide | omega)
      refine zW_e (hby) ?_
      refine zW_g (by first | decide | omega) ?_
      refine zW_i (fun h2 => ?_) (fun h2 => ?_)
      · skip
        unfold f_M_cut_45
        have hbl : ¬ bBlank (t p) = 0 := by rw [bBlank_0]; omega
        rw [show lexR t n p (F 14 0 12) F B = lexR t n (p + 1) (F 14 0 12) F B by unfold lexR; rw [lexF_b n2 (by first | decide | omega) (by first | decide | omega) hbl]]
        exact ih hn rfl (by first | decide | omega) (by first | decide | omega) (by first | decide | omega) (by first | decide | omega) ht
      · skip
        refine zW_i (fun h3 => ?_) (fun h3 => ?_)
        · skip
          unfold f_M_cut_45
          have hbl : ¬ bBlank (t p) = 0 := by rw [bBlank_0]; omega
          rw [show lexR t n p (F 14 0 12) F B = lexR t n (p + 1) (F 14 0 12) F B by unfold lexR; rw [lexF_b n2 (by first | decide | omega) (by first | decide | omega) hbl]]
          exact ih hn rfl (by first | decide | omega) (by first | decide | omega) (by first | decide | omega) (by first | decide | omega) ht
        · skip
          refine zW_i (fun h4 => ?_) (fun h4 => ?_)
          · skip
            unfold f_M_cut_45
            have hbl : ¬ bBlank (t p) = 0 := by rw [bBlank_0]; omega
            rw [show lexR t n p (F 14 0 12) F B = lexR t n (p + 1) (F 14 0 12) F B by unfold lexR; rw [lexF_b n2 (by first | decide | omega) (by first | decide | omega) hbl]]
            exact ih hn rfl (by first | decide | omega) (by first | decide | omega) (by first | decide | omega) (by first | decide | omega) ht
          · skip
            refine zW_i (fun h5 => ?_) (fun h5 => ?_)
            · skip
              unfold f_M_cut_45
              have hbl : ¬ bBlank (t p) = 0 := by rw [bBlank_0]; omega
              rw [show lexR t n p (F 14 0 12) F B = lexR t n (p + 1) (F 14 0 12) F B by unfold lexR; rw [lexF_b n2 (by first | decide | omega) (by first | decide | omega) hbl]]
              exact ih hn rfl (by first | decide | omega) (by first | decide | omega) (by first | decide | omega) (by first | decide | omega) ht
            · skip
              refine zW_g (by first | decide | omega) ?_
              refine zW_e (L_Run (by first | decide | omega)) ?_
              refine zW_g (by exact bRun_r _) ?_
              refine zW_i (fun h6 => ?_) (fun h6 => ?_)
              · skip
                refine zW_e (L_sign (by first | decide | omega) (by first | decide | omega) (by first | decide | omega)) ?_
                refine zW_g (by have := bSg_2 (t p); omega) ?_
                refine zW_i (fun h7 => ?_) (fun h7 => ?_)
                · skip
                  unfold f_M_cut_110
                  refine zW_g (by first | decide | omega) ?_
                  refine zW_g (by first | decide | omega) ?_
                  unfold f_M_cut_124
                  have hbl : bBlank (t p) = 0 := by rw [bBlank_0]; omega
                  have hk : tokK t (p, p + 1) = 1 := by simp [tokK, h6, h7]
                  refine zW_m (ih (p := p + 1) (T := F 14 0 12 + 1) (by simp [zup3_v]; exact hn) (by simp [zup3_v]) (by first | decide | omega) (by first | decide | omega) (by first | decide | omega) (by first | decide | omega) ((tmB_up (by decide)).trans ((tmB_up (by decide)).trans t2))) (fun r F' B' hh => ?_)
                  obtain ⟨g1, g2, g3⟩ := hh
                  refine ⟨?_, ?_, frG_t (frG_u (frG_u (frG_u (frG_u (cc := 14) (ks := [7, 8, 9, 10, 11]) (T := F 14 0 12) frG_r (by decide) (by first | decide | omega)) (by decide) (by first | decide | omega)) (by decide) (by first | decide | omega)) (by decide) (by first | decide | omega)) (frG_m g3 (by first | decide | omega))⟩
                  · rw [g1, zup3_2, lexF_s n2 (by first | decide | omega) (by first | decide | omega) hbl h6]
                    rw [show F 14 0 12 + 1 + ((lexF t n (p + 1)).length : Int) = F 14 0 12 + (((p, p + 1) :: lexF t n (p + 1)).length : Int) by rw [List.length_cons]; omega]
                  · rw [lexF_s n2 (by first | decide | omega) (by first | decide | omega) hbl h6]
                    refine lexM_1 ?_ ?_ ?_ g3 g2
                    · rw [hk]; simp [zup4_v]
                    · simp [zup4_v]
                    · refine ⟨fun z => ?_, fun z => ?_, fun z => ?_, fun z => ?_⟩
                      · omega
                      · omega
                      · omega
                      · omega
                · skip
                  unfold f_M_cut_110
                  refine zW_g (by first | decide | omega) ?_
                  refine zW_g (by first | decide | omega) ?_
                  unfold f_M_cut_124
                  have hbl : bBlank (t p) = 0 := by rw [bBlank_0]; omega
                  have hk : tokK t (p, p + 1) = 5 := by simp [tokK, h6, h7]
                  refine zW_m (ih (p := p + 1) (T := F 14 0 12 + 1) (by simp [zup3_v]; exact hn) (by simp [zup3_v]) (by first | decide | omega) (by first | decide | omega) (by first | decide | omega) (by first | decide | omega) ((tmB_up (by decide)).trans ((tmB_up (by decide)).trans t2))) (fun r F' B' hh => ?_)
                  obtain ⟨g1, g2, g3⟩ := hh
                  refine ⟨?_, ?_, frG_t (frG_u (frG_u (frG_u (frG_u (cc := 14) (ks := [7, 8, 9, 10, 11]) (T := F 14 0 12) frG_r (by decide) (by first | decide | omega)) (by decide) (by first | decide | omega)) (by decide) (by first | decide | omega)) (by decide) (by first | decide | omega)) (frG_m g3 (by first | decide | omega))⟩
                  · rw [g1, zup3_2, lexF_s n2 (by first | decide | omega) (by first | decide | omega) hbl h6]
                    rw [show F 14 0 12 + 1 + ((lexF t n (p + 1)).length : Int) = F 14 0 12 + (((p, p + 1) :: lexF t n (p + 1)).length : Int) by rw [List.length_cons]; omega]
                  · rw [lexF_s n2 (by first | decide | omega) (by first | decide | omega) hbl h6]
                    refine lexM_1 ?_ ?_ ?_ g3 g2
                    · rw [hk]; simp [zup4_v]
                    · simp [zup4_v]
                    · refine ⟨fun z => ?_, fun z => ?_, fun z => ?_, fun z => ?_⟩
                      · omega
                      · omega
                      · omega
                      · simp [zup4_v, tokV, h6]
              · skip
                refine zW_b (L_cutRun hK (by first | decide | omega) (by first | decide | omega) (by first | decide | omega) (by first | decide | omega) (by first | decide | omega) t2 h6) (fun r23 F23 B23 er23 => ?_)
                unfold f_M_cut_124
                have hbl : bBlank (t p) = 0 := by rw [bBlank_0]; omega
                obtain ⟨e23, E23, k1, k2⟩ := er23
                rw [hn] at e23 k2
                have hq := runQ_b (t := t) (n := n) (p := p) n2 (by first | decide | omega) (by first | decide | omega) h6
                rw [e23, E23]
                refine zW_m (ih (p := runQ t n p) (T := F 14 0 12 + 1) (by simp [zup3_v]; exact hn) (by simp [zup3_v]) (by first | decide | omega) (by first | decide | omega) (by first | decide | omega) (by first | decide | omega) ((tmB_fr k1 (by decide)).trans t2)) (fun r F' B' hh => ?_)
                obtain ⟨g1, g2, g3⟩ := hh
                refine ⟨?_, ?_, frG_t (frG_t (frG_u (frG_u frG_r (by decide) (by first | decide | omega)) (by decide) (by first | decide | omega)) (frG_f k1 (by decide))) (frG_m g3 (by first | decide | omega))⟩
                · rw [g1, zup3_2, lexF_r n2 (by first | decide | omega) (by first | decide | omega) hbl h6]
                  rw [show F 14 0 12 + 1 + ((lexF t n (runQ t n p)).length : Int) = F 14 0 12 + (((p, runQ t n p) :: lexF t n (runQ t n p)).length : Int) by rw [List.length_cons]; omega]
                · rw [lexF_r n2 (by first | decide | omega) (by first | decide | omega) hbl h6]
                  refine lexM_1 ?_ ?_ (tokQ_run hq.1 h6 k2.2.1 k2.2.2.1 k2.2.2.2) g3 g2
                  · rw [k2.1]; simp [tokK, h6]
                  · rw [k1 14 0 8 _ (by simp)]; simp [zup4_v]
theorem L_cut {K : Nat} {F : zF} {B : zB} {t : Int → Int} {n : Int} (hK : 3002 ≤ K) (hn : F 14 0 3 = n) (h0 : 0 ≤ n) (h2 : n ≤ 3000) (ht : tmB B = t) : zW (f_M_cut K F B) (fun _ F' B' => lexR t n 0 0 F B F' B') := by
  unfold f_M_cut
  refine zW_m (L_c7 hK h0 h2 (T := 0) (F := zup3 F 14 0 12 0) (by simp [zup3_v]; exact hn) (by simp [zup3_v]) (by first | decide | omega) (by first | decide | omega) (by first | decide | omega) (by first | decide | omega) ht) (fun r F' B' hh => ?_)
  obtain ⟨g1, g2, g3⟩ := hh
  exact ⟨by rw [g1, zup3_2], g2, g3⟩
end

section
/-! ===== the reference: a track's events whole ===== -/
section
variable {Km : Nat} {K : zK} {o f w g D N : Int} {bg en tn tk : Int → Int}
theorem M_t136 {z s0 v : Int} (h7 : 0 < K.2 7) (h1 : 0 < K.2 1) (hK : 200 ≤ K.1) (hKm : 1000 ≤ Km) (ho : 0 ≤ o ∧ o < K.2 8) (hf : -7 ≤ f ∧ f ≤ 7) (dq : DTq g D N bg en tn tk) (hz : z ≤ N) (v0 : 0 ≤ v ∧ v < 4) (mono : ∀ i, s0 ≤ i → i + 1 < z → bg i ≤ bg (i + 1)) : ∀ (fu m : Nat) (s come j : Int) (F : zF) (B : zB), z - s ≤ fu → fu < m → 0 ≤ s → s0 ≤ s → s ≤ z → 0 ≤ come → come ≤ 40000000000000 → (s < z → come ≤ gplF g D (bg s)) → 0 ≤ j → j + 2 * (z - s) ≤ 900 → MFq w D N bg en tn tk F B → F 13 w 2 = f → B 13 w 12 v = j → ∃ F' B' EL, f_M_trackEvents_136 Km m z s come v g F B = some (lsG (fun i => gplF g D (bg i)) (fun i => gplF g D (en i)) z fu s come, F', B') ∧ (∀ c y k, ¬ (c = 14 ∧ y = 0 ∧ k ≤ 1) → F' c y k = F c y k) ∧ teM w v j B B' ∧ B' 13 w 12 v = j + (EL.length : Int) ∧ GLp K o f (fun i => gplF g D (bg i)) (fun i => gplF g D (en i)) tn z fu s come EL ∧ EVL g w v B' j EL ∧ (EL.length : Int) ≤ 2 * (z - s) ∧ (0 ≤ lsG (fun i => gplF g D (bg i)) (fun i => gplF g D (en i)) z fu s come ∧ lsG (fun i => gplF g D (bg i)) (fun i => gplF g D (en i)) z fu s come ≤ 40000000000000) := by
  have hN := dq.2.2.1
  intro fu
  induction fu with
  | zero =>
    intro m s come j F B hfu hm z0 zs sz c0 c1 cl j0 jl hM m2 ej
    obtain ⟨p, rfl⟩ : ∃ p, m = p + 1 := ⟨m - 1, (by first | decide | omega)⟩
    refine ⟨F, B, [], ?_, fun _ _ _ _ => rfl, fun _ _ _ _ _ _ => rfl, by simp [ej], by rw [GLp], trivial, by simp; omega, by rw [lsG]; omega⟩
    rw [f_M_trackEvents_136, if_pos (by unfold r32; omega), if_pos (by unfold r32; omega), if_pos (by first | decide | omega), lsG]
  | succ fu ih =>
    intro m s come j F B hfu hm z0 zs sz c0 c1 cl j0 jl hM m2 ej
    obtain ⟨p, rfl⟩ : ∃ p, m = p + 1 := ⟨m - 1, (by first | decide | omega)⟩
    by_cases c : s < z
    · have hM' := hM
      obtain ⟨q1, q2, q3, q4⟩ := hM'
      have b := (q4 s z0 (by first | decide | omega)).2.2.1
      have dd := (dq.2.2.2.1 s z0 (by first | decide | omega)).2.2.1
      have gb := gpl_b (t := bg s) dq.1 dq.2.1 dd
      obtain ⟨p1, p2, p3, p4⟩ := nxG_p (gB := fun i => gplF g D (bg i)) c (by first | decide | omega) z0
      obtain ⟨tg1, tg2⟩ := to_g dq hz ⟨z0, c⟩ zs mono
      have tb := to_b dq hz ⟨z0, c⟩
      have cl' := cl c
      rw [f_M_trackEvents_136, if_pos (by unfold r32; omega), if_pos (by unfold r32; omega), if_neg (by first | decide | omega), if_pos (by first | decide | omega), b, M_gp dq hM dd, zb_s, M_t161 dq hM hz gb 400 Km s (by first | decide | omega) (by first | decide | omega) z0 (by first | decide | omega)]
      have en1 : grN (fun i => gplF g D (bg i)) z (gplF g D (bg s)) 400 s = nxG (fun i => gplF g D (bg i)) s z := rfl
      rw [en1]
      -- a rest before the group, if there is a gap
      obtain ⟨F1, B1, j1, R, r1, r2, r3, r4, r5, r6, r7⟩ : ∃ (F1 : zF) (B1 : zB) (j1 : Int) (R : List (Int × Int × Int × (Int → Int) × (Int → Int))), f_M_trackEvents_192 (f_M_trackEvents_136 Km p) Km (nxG (fun i => gplF g D (bg i)) s z) (gplF g D (bg s)) z s come v g F B = f_M_trackEvents_212 (f_M_trackEvents_136 Km p) Km (nxG (fun i => gplF g D (bg i)) s z) (gplF g D (bg s)) z s v g F1 B1 ∧ (∀ c y k, ¬ (c = 14 ∧ y = 0 ∧ k ≤ 1) → F1 c y k = F c y k) ∧ teM w v j B B1 ∧ B1 13 w 12 v = j1 ∧ j1 = j + (R.length : Int) ∧ (R = if come < gplF g D (bg s) then [(come, gplF g D (bg s), 0, (fun _ => 0), (fun _ => 0))] else []) ∧ (come < gplF g D (bg s) → EVr g w (1000 * v + j) (gplF g D (bg s) - come) 0 (fun _ => 0) (fun _ => 0) B1) := by
        unfold f_M_trackEvents_192
        rw [if_pos (by unfold r64; omega), if_pos (by unfold r64; omega)]
        by_cases y : gplF g D (bg s) ≤ come
        · rw [if_pos (zcmp_m.mpr y), if_neg (show ¬ come < gplF g D (bg s) by omega)]
          exact ⟨F, B, j, [], rfl, fun _ _ _ _ => rfl, fun _ _ _ _ _ _ => rfl, ej, by simp, rfl, fun h => (by first | decide | omega)⟩
        · obtain ⟨F1, B1, x1, x2, x3, x4, x5⟩ := M_dr (Km := Km) (w := w) (len := gplF g D (bg s) - come) (B := B) (by first | decide | omega) dq.1 q1 v0 ej (by first | decide | omega) (by first | decide | omega)
          rw [if_neg (fun q => y (zcmp_m.mp q)), x1, zb_s, if_pos (show come < gplF g D (bg s) by omega)]
          exact ⟨F1, B1, j + 1, [(come, gplF g D (bg s), 0, (fun _ => 0), (fun _ => 0))], rfl, x2, fun c i k y n n' => x3 c i k y (by first | decide | omega), x4, by simp, rfl, fun _ => x5⟩
      have Rl : (R.length : Int) ≤ 1 := by rw [r6]; split <;> simp
      have hM1 : MFq w D N bg en tn tk F1 B1 := MFq_f hM (r2 14 0 6 (by first | decide | omega)) (fun k x _ _ => r3 14 0 k x (by first | decide | omega) (by first | decide | omega))
      rw [r1]
      unfold f_M_trackEvents_212
      obtain ⟨n6, B2, y1, y2, y3⟩ := M_six (Km := Km) (s := s) (t := nxG (fun i => gplF g D (bg i)) s z) dq (by first | decide | omega) ⟨z0, (by first | decide | omega), (by first | decide | omega)⟩ hM1
      have hM2 : MFq w D N bg en tn tk F1 B2 := MFq_f hM1 rfl (fun k x _ _ => y3 14 0 k x (by first | decide | omega))
      rw [y1, zb_s, M_t232 dq hM2 hz ⟨(by first | decide | omega), p2⟩ (nxG (fun i => gplF g D (bg i)) s z - s).toNat Km s (gplF g D (bg s) + 1) (by first | decide | omega) z0 (by first | decide | omega) (by first | decide | omega)]
      have et : (if nxG (fun i => gplF g D (bg i)) s z < z then zmin (mxR (fun i => gplF g D (en i)) (nxG (fun i => gplF g D (bg i)) s z - s).toNat s (gplF g D (bg s) + 1)) (gplF g D (bg (nxG (fun i => gplF g D (bg i)) s z))) else mxR (fun i => gplF g D (en i)) (nxG (fun i => gplF g D (bg i)) s z - s).toNat s (gplF g D (bg s) + 1)) = toG (fun i => gplF g D (bg i)) (fun i => gplF g D (en i)) s z := rfl
      rw [et]
      unfold f_M_trackEvents_316
      obtain ⟨rr, F3, B3, mm, st, al, x1, x2, x3, x4, x5, x6⟩ := M_de (Km := Km) (K := K) (o := o) (f := f) (w := w) (g := g) (tn := tn) (v := v) (j := j1) (len := toG (fun i => gplF g D (bg i)) (fun i => gplF g D (en i)) s z - gplF g D (bg s)) (s := s) (t := nxG (fun i => gplF g D (bg i)) s z) (c := n6) (F := F1) (B := B2) h7 h1 hK (by first | decide | omega) dq.1 hf hM1.1 (by rw [r2 13 w 2 (by first | decide | omega)]; exact m2) v0 (by rw [y3 13 w 12 v (by first | decide | omega)]; exact r4) (by first | decide | omega) (by first | decide | omega) (fun i i0 i1 => (dq.2.2.2.1 i (by first | decide | omega) (by first | decide | omega)).2.1) ho y2
      rw [x1, zb_s]
      have hM3 : MFq w D N bg en tn tk F3 B3 := MFq_f hM2 (x2 14 0 6 (by first | decide | omega)) (fun k x _ _ => x3 14 0 k x (by first | decide | omega))
      obtain ⟨F4, B4, EL, u1, u2, u3, u4, u5, u6, u7, u8⟩ := ih p (nxG (fun i => gplF g D (bg i)) s z) (toG (fun i => gplF g D (bg i)) (fun i => gplF g D (en i)) s z) (j1 + 1) F3 B3 (by first | decide | omega) (by first | decide | omega) (by first | decide | omega) (by first | decide | omega) p2 tb.1 tb.2 tg2 (by first | decide | omega) (by first | decide | omega) hM3 (by rw [x2 13 w 2 (by first | decide | omega), r2 13 w 2 (by first | decide | omega)]; exact m2) x4
      have t3 : teM w v j B B3 := fun c i k y n n' => by rw [x3 c i k y (by first | decide | omega), y3 c i k y n', r3 c i k y n n']
      refine ⟨F4, B4, R ++ ((gplF g D (bg s), toG (fun i => gplF g D (bg i)) (fun i => gplF g D (en i)) s z, mm, st, al) :: EL), ?_, fun c y k n => by rw [u2 c y k n, x2 c y k n, r2 c y k n], teM_t t3 u3 (by first | decide | omega), ?_, ?_, ?_, ?_, ?_⟩
      · rw [lsG, if_pos c]; exact u1
      · rw [u4, List.length_append, List.length_cons]; omega
      · rw [GLp, if_pos c]
        exact ⟨mm, st, al, EL, by rw [r6], x6, u5⟩
      · have big : EVr g w (1000 * v + j1) (toG (fun i => gplF g D (bg i)) (fun i => gplF g D (en i)) s z - gplF g D (bg s)) mm st al B4 := EVr_f x5 (fun k hk => u3 13 w k _ (by first | decide | omega) (by first | decide | omega)) (fun k y hk a b => u3 13 w k y (by first | decide | omega) (by first | decide | omega))
        by_cases y : come < gplF g D (bg s)
        · rw [if_pos y] at r6
          subst r6
          have j1e : j1 = j + 1 := by rw [r5]; simp
          refine ⟨?_, by rw [← j1e]; exact ⟨big, u6⟩⟩
          refine EVr_f (r7 y) (fun k hk => ?_) (fun k y' hk a b => ?_)
          · rw [u3 13 w k _ (by first | decide | omega) (by first | decide | omega), x3 13 w k _ (by first | decide | omega), y3 13 w k _ (by first | decide | omega)]
          · rw [u3 13 w k _ (by first | decide | omega) (by first | decide | omega), x3 13 w k _ (by first | decide | omega), y3 13 w k _ (by first | decide | omega)]
        · rw [if_neg y] at r6
          subst r6
          have j1e : j1 = j := by rw [r5]; simp
          rw [← j1e]
          exact ⟨big, u6⟩
      · rw [List.length_append, List.length_cons]; omega
      · rw [lsG, if_pos c]; exact u8
    · refine ⟨F, B, [], ?_, fun _ _ _ _ => rfl, fun _ _ _ _ _ _ => rfl, by simp [ej], by rw [GLp, if_neg c], trivial, by simp; omega, by rw [lsG, if_neg c]; omega⟩
      rw [f_M_trackEvents_136, if_pos (by unfold r32; omega), if_pos (by unfold r32; omega), if_pos (by first | decide | omega), lsG, if_neg c]
end
end

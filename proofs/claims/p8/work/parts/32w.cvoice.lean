section
/-! ===== the class writes a voice ===== -/
def wvF (F F' : zF) : Prop := ∀ c y k, ¬ ((c = 7 ∧ y = 0 ∧ 5 ≤ k ∧ k ≤ 7) ∨ (c = 1 ∧ y = 0 ∧ k = 10) ∨ (c = 0 ∧ y = 1 ∧ 1 ≤ k ∧ k ≤ 2)) → F' c y k = F c y k
def wvB (B B' : zB) : Prop := ∀ c y k x, ¬ ((c = 7 ∧ y = 0 ∧ k = 8) ∨ (c = 1 ∧ y = 0 ∧ (k = 12 ∨ k = 13)) ∨ (c = 0 ∧ y = 1 ∧ k = 0)) → B' c y k x = B c y k x
theorem wvF_t {F F1 F2 : zF} (h : wvF F F1) (h' : wvF F1 F2) : wvF F F2 := fun c y k n => by rw [h' c y k n, h c y k n]
theorem wvB_t {B B1 B2 : zB} (h : wvB B B1) (h' : wvB B1 B2) : wvB B B2 := fun c y k x n => by rw [h' c y k x n, h c y k x n]
theorem TC_c {q : zF × zB} {T : List Int} {F F' : zF} {B B' : zB} (h : TC q T F B) (f : F' 0 1 1 = F 0 1 1 ∧ F' 0 1 2 = F 0 1 2) (b : ∀ j, B' 0 1 0 j = B 0 1 0 j) : TC (F', B') T F' B' := by
  refine ⟨?_, fun _ _ _ _ => rfl, fun _ _ _ _ _ => rfl⟩
  rw [f.1, f.2]
  rcases h.1 with ⟨a1, a2, a3, a4⟩ | a
  · exact Or.inl ⟨a1, a2, a3, fun j hj => by rw [b]; exact a4 j hj⟩
  · exact Or.inr a
theorem SCq_f {K : zK} {o n d b : Int} {F F' : zF} {B B' : zB} (h : SCq K o n d b (F, B)) (f : wvF F F') (g : wvB B B') : SCq K o n d b (F', B') := by
  obtain ⟨h1, h2, h3, h4, h5, h6⟩ := h
  exact ⟨by show F' 7 0 0 = o ∧ _; rw [f 7 0 0 (by first | decide | omega)]; exact h1, by show F' 7 0 1 = 1; rw [f 7 0 1 (by first | decide | omega)]; exact h2, by show F' 7 0 3 = b; rw [f 7 0 3 (by first | decide | omega)]; exact h3, by show F' 7 0 4 = 0; rw [f 7 0 4 (by first | decide | omega)]; exact h4, by show B' 8 o 0 4 = n; rw [g 8 o 0 4 (by first | decide | omega)]; exact h5, by show B' 8 o 0 5 = d; rw [g 8 o 0 5 (by first | decide | omega)]; exact h6⟩
theorem CFq_w {K : zK} {o g D N : Int} {bg en tn tk : Int → Int} {F F' : zF} {B B' : zB} (h : CFq K o g D N bg en tn tk F B) (f : wvF F F') (b : wvB B B') : CFq K o g D N bg en tn tk F' B' := CFq_f h (f 7 0 0 (by first | decide | omega)) (f 7 0 2 (by first | decide | omega)) (f 8 o 2 (by first | decide | omega)) (fun k x => b 8 o k x (by first | decide | omega))
/-- a span written, the frame told -/
theorem C_wspan {K : zK} {o n d b m a e : Int} {st al : Int → Int} {T : List Int} {F : zF} {B : zB} (hK : KKq K) (h : BRs n d b) (hq : SCq K o n d b (F, B)) (hv : EVq m st al (F, B)) (a0 : 0 ≤ a ∧ a ≤ 400000) (ha : a % sdU d = 0) (he : e % sdU d = 0) (e1 : 0 ≤ e ∧ e ≤ 100 * b) (w : TC (F, B) T F B) : ∃ F' B', f_Scribe_writeSpan K 0 a e F B = some (0, F', B') ∧ TC (F', B') (T ++ spX n d b m st al a e) F' B' ∧ (∀ c y k, ¬ (c = 0 ∧ y = 1 ∧ 1 ≤ k ∧ k ≤ 2) → F' c y k = F c y k) ∧ (∀ c y k x, ¬ (c = 0 ∧ y = 1 ∧ k = 0) → B' c y k x = B c y k x) := by
  obtain ⟨F1, B1, x1, x2⟩ := C_span hK h hq hv a0 ha he e1 w
  exact ⟨F1, B1, x1, TC_s x2, x2.2.1, x2.2.2⟩
theorem C_wrest {K : zK} {o n d b a e : Int} {T : List Int} {F : zF} {B : zB} (hK : KKq K) (h : BRs n d b) (hq : SCq K o n d b (F, B)) (a0 : 0 ≤ a ∧ a ≤ 400000) (ha : a % sdU d = 0) (he : e % sdU d = 0) (e1 : 0 ≤ e ∧ e ≤ 100 * b) (w : TC (F, B) T F B) : ∃ F' B', f_Scribe_writeRest K 0 a e F B = some (0, F', B') ∧ TC (F', B') (T ++ spX n d b 0 (fun _ => 0) (fun _ => 0) a e) F' B' ∧ (∀ c y k, ¬ ((c = 1 ∧ y = 0 ∧ k = 10) ∨ (c = 0 ∧ y = 1 ∧ 1 ≤ k ∧ k ≤ 2)) → F' c y k = F c y k) ∧ (∀ c y k x, ¬ (c = 0 ∧ y = 1 ∧ k = 0) → B' c y k x = B c y k x) := by
  have z10 : ∀ c y k, ¬ (c = 1 ∧ y = 0 ∧ k = 10) → (zup3 F 1 0 10 0) c y k = F c y k := fun c y k n => by rw [zup3_v, if_neg n]
  have hq1 : SCq K o n d b (zup3 F 1 0 10 0, B) := SCq_f hq (fun c y k n => z10 c y k (by first | decide | omega)) (fun _ _ _ _ _ => rfl)
  have w1 : TC (zup3 F 1 0 10 0, B) T (zup3 F 1 0 10 0) B := TC_c w ⟨z10 0 1 1 (by first | decide | omega), z10 0 1 2 (by first | decide | omega)⟩ (fun _ => rfl)
  obtain ⟨F1, B1, x1, x2, x3, x4⟩ := C_wspan (m := 0) (st := fun _ => 0) (al := fun _ => 0) hK h hq1 ⟨by show (zup3 F 1 0 10 0) 1 0 10 = 0; rw [zup3_v, if_pos (by first | decide | omega)], (by first | decide | omega), fun k a b => (by first | decide | omega)⟩ a0 ha he e1 w1
  refine ⟨F1, B1, ?_, x2, fun c y k n => by rw [x3 c y k (by first | decide | omega), z10 c y k (by first | decide | omega)], x4⟩
  have h4 : F 7 0 4 = 0 := hq.2.2.2.1
  unfold f_Scribe_writeRest
  rw [if_pos ⟨(by first | decide | omega), hK.2.1⟩, h4, if_pos ⟨(by first | decide | omega), hK.2.2.1⟩, x1, zb_s]
section
variable {K : zK} {o f n d b g D N : Int} {bg en tn tk : Int → Int}
theorem C_w157 {z s0 u last l3 : Int} (hK : KKq K) (hb : BRs n d b) (hu : u = 128 ∨ u = 64 ∨ u = 32 ∨ u = 16) (dq : DTq g D N bg en tn tk) (hz : z ≤ N) (mono : ∀ i, s0 ≤ i → i + 1 < z → bg i ≤ bg (i + 1)) (hl : 0 ≤ last ∧ u * last ≤ 100 * b) : ∀ (fu m : Nat) (cnt s come : Int) (EL : List (Int × Int × Int × (Int → Int) × (Int → Int))) (T : List Int) (F : zF) (B : zB), z - s ≤ fu → fu < m → 0 ≤ cnt → cnt ≤ s → 0 ≤ s → s0 ≤ s → s ≤ z → 0 ≤ come → come ≤ last → (s < z → come ≤ gplF g D (bg s)) → GLp K o f (fun i => gplF g D (bg i)) (fun i => gplF g D (en i)) tn z fu s come EL → endN come EL ≤ last → CFq K o g D N bg en tn tk F B → SCq K o n d b (F, B) → B 8 o 0 2 = f → F 7 0 7 = s → TC (F, B) T F B → ∃ F' B', f_Scribe_writeVoice_157 K m cnt (u * come) u z 0 l3 F B = f_Scribe_writeVoice_242 K (u * endN come EL) 0 l3 F' B' ∧ TC (F', B') (T ++ txA n d b u EL) F' B' ∧ wvF F F' ∧ wvB B B' := by
  have hN := dq.2.2.1
  have hbb := BRs_b hb
  intro fu
  induction fu with
  | zero =>
    intro m cnt s come EL T F B hfu hm c0 cs z0 zs sz cm cl cg hG hE hc hq b2 f7 w
    obtain ⟨p, rfl⟩ : ∃ p, m = p + 1 := ⟨m - 1, (by first | decide | omega)⟩
    rw [GLp] at hG
    subst hG
    obtain ⟨h1, h2, h3, h4, h5⟩ := hc
    refine ⟨F, B, ?_, by rw [txA, List.append_nil]; exact w, fun _ _ _ _ => rfl, fun _ _ _ _ _ => rfl⟩
    rw [f_Scribe_writeVoice_157, if_pos ⟨(by first | decide | omega), hK.2.1⟩, h1.1, if_pos h1.2, if_pos (by unfold r32; omega), h4, if_pos (by unfold r32; omega)]
    by_cases y : N ≤ cnt
    · rw [if_pos y]; rfl
    · rw [if_neg y, f7, if_pos (by unfold r32; omega), if_pos (by unfold r32; omega), if_pos (by first | decide | omega)]; rfl
  | succ fu ih =>
    intro m cnt s come EL T F B hfu hm c0 cs z0 zs sz cm cl cg hG hE hc hq b2 f7 w
    obtain ⟨p, rfl⟩ : ∃ p, m = p + 1 := ⟨m - 1, (by first | decide | omega)⟩
    have hc' := hc
    obtain ⟨h1, h2, h3, h4, h5⟩ := hc'
    have chain := GL_c dq hz mono (fu + 1) s come EL hfu z0 zs cg hG
    rw [GLp] at hG
    by_cases c : s < z
    · rw [if_pos c] at hG
      obtain ⟨mm, st, al, rest, e, pc, hG'⟩ := hG
      obtain ⟨p1, p2, p3, p4⟩ := nxG_p (gB := fun i => gplF g D (bg i)) c (by first | decide | omega) z0
      obtain ⟨tg1, tg2⟩ := to_g dq hz ⟨z0, c⟩ zs mono
      have cg' := cg c
      have gb := gpl_b (t := bg s) dq.1 dq.2.1 (dq.2.2.2.1 s z0 (by first | decide | omega)).2.2.1
      have chr := GL_c dq hz mono fu (nxG (fun i => gplF g D (bg i)) s z) (toG (fun i => gplF g D (bg i)) (fun i => gplF g D (en i)) s z) rest (by first | decide | omega) (by first | decide | omega) (by first | decide | omega) tg2 hG'
      have er : endN come EL = endN (toG (fun i => gplF g D (bg i)) (fun i => gplF g D (en i)) s z) rest := by
        subst e
        by_cases y : come < gplF g D (bg s)
        · rw [if_pos y]; rfl
        · rw [if_neg y]; rfl
      have ce := CHN_e rest _ chr.1
      have tol : toG (fun i => gplF g D (bg i)) (fun i => gplF g D (en i)) s z ≤ last := by omega
      generalize hTo : toG (fun i => gplF g D (bg i)) (fun i => gplF g D (en i)) s z = to' at *
      generalize hFr : gplF g D (bg s) = fr' at *
      have ub : 0 ≤ u * come ∧ u * come ≤ u * fr' ∧ u * fr' < u * to' ∧ u * to' ≤ u * last ∧ 0 ≤ u * fr' := by rcases hu with rfl | rfl | rfl | rfl <;> omega
      -- gather
      obtain ⟨F1, B1, x1, x2, x3, x4, x5, x6, x7⟩ := C_ga (K := K) hK.2.1 (by have := hK.2.2.2; omega) dq hz ⟨z0, c⟩ hc
      rw [hFr] at x4
      rw [hTo] at x6
      have wf1 : wvF F F1 := fun c y k n => x2 c y k (by first | decide | omega)
      have wb1 : wvB B B1 := fun c y k x n => x3 c y k x (by first | decide | omega)
      have q1 := SCq_f hq wf1 wb1
      have w1 : TC (F1, B1) T F1 B1 := TC_c w ⟨x2 0 1 1 (by first | decide | omega), x2 0 1 2 (by first | decide | omega)⟩ (fun j => x3 0 1 0 j (by first | decide | omega))
      -- a rest
      obtain ⟨F2, B2, y1, y2, y3, y4⟩ := C_wrest (a := u * come) (e := u * fr') hK hb q1 (by first | decide | omega) (u_sd hu) (u_sd hu) (by first | decide | omega) w1
      have wf2 : wvF F1 F2 := fun c y k n => y3 c y k (by first | decide | omega)
      have wb2 : wvB B1 B2 := fun c y k x n => y4 c y k x (by first | decide | omega)
      have q2 := SCq_f q1 wf2 wb2
      -- the chord
      have f20 : F2 7 0 0 = o ∧ 0 ≤ o ∧ o < K.2 8 := q2.1
      obtain ⟨rr, F3, B3, t1, t2, t3, t4⟩ := pc.2.2 F2 B2 f20 q2.2.2.2.1 (by rw [y4 8 o 0 2 (by first | decide | omega), x3 8 o 0 2 (by first | decide | omega)]; exact b2) ⟨fun i a b => by rw [y4 7 0 8 _ (by first | decide | omega)]; exact x7.1 i a b, fun x a b => by rw [y4 7 0 8 _ (by first | decide | omega)]; exact x7.2 x a b⟩
      have wf3 : wvF F2 F3 := fun c y k n => t2 c y k (by first | decide | omega)
      have wb3 : wvB B2 B3 := fun c y k x n => t3 c y k x (by first | decide | omega)
      have q3 := SCq_f q2 wf3 wb3
      have w3 : TC (F3, B3) (T ++ spX n d b 0 (fun _ => 0) (fun _ => 0) (u * come) (u * fr')) F3 B3 := TC_c y2 ⟨t2 0 1 1 (by first | decide | omega), t2 0 1 2 (by first | decide | omega)⟩ (fun j => t3 0 1 0 j (by first | decide | omega))
      obtain ⟨F4, B4, v1, v2, v3, v4⟩ := C_wspan (a := u * fr') (e := u * to') hK hb q3 t4 (by first | decide | omega) (u_sd hu) (u_sd hu) (by first | decide | omega) w3
      have wf4 : wvF F3 F4 := fun c y k n => v3 c y k (by first | decide | omega)
      have wb4 : wvB B3 B4 := fun c y k x n => v4 c y k x (by first | decide | omega)
      have wF := wvF_t wf1 (wvF_t wf2 (wvF_t wf3 wf4))
      have wB := wvB_t wb1 (wvB_t wb2 (wvB_t wb3 wb4))
      have k5 : F3 7 0 5 = fr' := by rw [t2 7 0 5 (by first | decide | omega), y3 7 0 5 (by first | decide | omega)]; exact x4
      have k6 : F3 7 0 6 = to' := by rw [t2 7 0 6 (by first | decide | omega), y3 7 0 6 (by first | decide | omega)]; exact x6
      have k64 : F4 7 0 6 = to' := by rw [v3 7 0 6 (by first | decide | omega)]; exact k6
      have k7 : F4 7 0 7 = nxG (fun i => gplF g D (bg i)) s z := by rw [v3 7 0 7 (by first | decide | omega), t2 7 0 7 (by first | decide | omega), y3 7 0 7 (by first | decide | omega)]; exact x5
      obtain ⟨F5, B5, r1, r2, r3, r4⟩ := ih p (cnt + 1) (nxG (fun i => gplF g D (bg i)) s z) to' rest _ F4 B4 (by first | decide | omega) (by first | decide | omega) (by first | decide | omega) (by first | decide | omega) (by first | decide | omega) (by first | decide | omega) p2 (by first | decide | omega) tol tg2 hG' (by first | decide | omega) (CFq_w hc wF wB) (SCq_f hq wF wB) (by rw [wB 8 o 0 2 (by first | decide | omega)]; exact b2) k7 v2
      refine ⟨F5, B5, ?_, ?_, wvF_t wF r3, wvB_t wB r4⟩
      · rw [f_Scribe_writeVoice_157, if_pos ⟨(by first | decide | omega), hK.2.1⟩, h1.1, if_pos h1.2, if_pos (by unfold r32; omega), h4, if_pos (by unfold r32; omega), if_neg (by first | decide | omega), f7, if_pos (by unfold r32; omega), if_pos (by unfold r32; omega), if_neg (by first | decide | omega), x1, zb_s, x4, Int.mul_comm fr' u, y1, zb_s, t1, zb_s, k5, k6, Int.mul_comm fr' u, Int.mul_comm to' u, v1, zb_s, k64, Int.mul_comm to' u, er]
        exact r1
      · subst e
        by_cases y : come < fr'
        · rw [if_pos y, List.cons_append, List.nil_append, txA, txA]
          simp only [List.append_assoc] at r2 ⊢
          exact r2
        · rw [if_neg y, List.nil_append, txA]
          rw [spX_0 (a := u * come) (e := u * fr') (by rcases hu with rfl | rfl | rfl | rfl <;> omega), List.append_nil] at r2
          simp only [List.append_assoc] at r2 ⊢
          exact r2
    · rw [if_neg c] at hG
      subst hG
      refine ⟨F, B, ?_, by rw [txA, List.append_nil]; exact w, fun _ _ _ _ => rfl, fun _ _ _ _ _ => rfl⟩
      rw [f_Scribe_writeVoice_157, if_pos ⟨(by first | decide | omega), hK.2.1⟩, h1.1, if_pos h1.2, if_pos (by unfold r32; omega), h4, if_pos (by unfold r32; omega)]
      by_cases y : N ≤ cnt
      · rw [if_pos y]; rfl
      · rw [if_neg y, f7, if_pos (by unfold r32; omega), if_pos (by unfold r32; omega), if_pos (by first | decide | omega)]; rfl
end
end

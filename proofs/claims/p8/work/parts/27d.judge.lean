section
/-! ===== a voice judged, both sides ===== -/
def inW (v w : Int) (c : Nat) (i : Int) (k : Nat) (x : Int) : Prop := c = 13 ∧ i = w ∧ (((k = 12 ∨ k = 13) ∧ x = v) ∨ (14 ≤ k ∧ k ≤ 27 ∧ 1000 * v ≤ x ∧ x < 1000 * v + 1000) ∨ (28 ≤ k ∧ k ≤ 29 ∧ 6000 * v ≤ x ∧ x < 6000 * v + 6000) ∨ (30 ≤ k ∧ k ≤ 35 ∧ 800 * v ≤ x ∧ x < 800 * v + 800))
/-- what a voice's walk and judgement may change -/
def VFR (q v w : Int) (F : zF) (B : zB) (Fm : zF) (Bm : zB) (F' : zF) (B' : zB) (Fm' : zF) (Bm' : zB) : Prop :=
  (∀ c y k, ¬ (c = 11 ∧ y = 0) → ¬ (c = 4 ∧ y = q ∧ 6 ≤ k) → ¬ (c = 1 ∧ ownE B q y) → F' c y k = F c y k) ∧
  (∀ c y k x, ¬ (c = 11 ∧ y = 0) → ¬ (c = 4 ∧ y = q ∧ 5 ≤ k) → ¬ (c = 1 ∧ ownE B q y) → B' c y k x = B c y k x) ∧
  (∀ y, ownE B' q y ↔ ownE B q y) ∧
  (∀ c i k, ¬ (c = 14 ∧ i = 0 ∧ (k ≤ 1 ∨ k = 17 ∨ k = 18 ∨ (36 ≤ k ∧ k ≤ 57))) → ¬ (c = 13 ∧ i = w ∧ k = 7) → Fm' c i k = Fm c i k) ∧
  (∀ c i k x, ¬ (c = 14 ∧ i = 0 ∧ 42 ≤ k ∧ k ≤ 51) → ¬ inW v w c i k x → Bm' c i k x = Bm c i k x) ∧
  (inJ q B → inJ q B')
theorem VFR_t {q v w : Int} {F F1 F2 : zF} {B B1 B2 : zB} {Fm Fm1 Fm2 : zF} {Bm Bm1 Bm2 : zB} (h : VFR q v w F B Fm Bm F1 B1 Fm1 Bm1) (h' : VFR q v w F1 B1 Fm1 Bm1 F2 B2 Fm2 Bm2) : VFR q v w F B Fm Bm F2 B2 Fm2 Bm2 :=
  ⟨fun c y k a b d => by rw [h'.1 c y k a b (fun z => d ⟨z.1, (h.2.2.1 y).mp z.2⟩), h.1 c y k a b d], fun c y k x a b d => by rw [h'.2.1 c y k x a b (fun z => d ⟨z.1, (h.2.2.1 y).mp z.2⟩), h.2.1 c y k x a b d], fun y => (h'.2.2.1 y).trans (h.2.2.1 y), fun c i k a b => by rw [h'.2.2.2.1 c i k a b, h.2.2.2.1 c i k a b], fun c i k x a b => by rw [h'.2.2.2.2.1 c i k x a b, h.2.2.2.2.1 c i k x a b], fun z => h'.2.2.2.2.2 (h.2.2.2.2.2 z)⟩
theorem VFR_5 {q v w : Int} {F F' : zF} {B B' : zB} {Fm Fm' : zF} {Bm Bm' : zB} (h : WF5 q v w F B Fm Bm F' B' Fm' Bm') : VFR q v w F B Fm Bm F' B' Fm' Bm' := by
  obtain ⟨a1, a2, a3, a4, a5, a6⟩ := h
  exact ⟨fun c y k a b d => a1 c y k a (by first | decide | omega) d, fun c y k x a b d => a2 c y k x a (by first | decide | omega) d, a3, fun c i k a b => a4 c i k (by first | decide | omega), fun c i k x a b => a5 c i k x a (by unfold inV; unfold inW at b; omega), fun _ => a6⟩
/-- frames with the rows of events as they were -/
theorem VFR_s {q v w : Int} {F F' : zF} {B B' : zB} {Fm Fm' : zF} {Bm Bm' : zB} (f1 : ∀ c y k, ¬ (c = 4 ∧ y = q ∧ 6 ≤ k) → ¬ (c = 1 ∧ ownE B q y) → F' c y k = F c y k) (f2 : ∀ c y k x, ¬ (c = 4 ∧ y = q ∧ 6 ≤ k) → B' c y k x = B c y k x) (f4 : ∀ c i k, ¬ (c = 14 ∧ i = 0 ∧ (k ≤ 1 ∨ k = 17 ∨ k = 18 ∨ (36 ≤ k ∧ k ≤ 57))) → ¬ (c = 13 ∧ i = w ∧ k = 7) → Fm' c i k = Fm c i k) (f5 : ∀ c i k x, ¬ inW v w c i k x → Bm' c i k x = Bm c i k x) : VFR q v w F B Fm Bm F' B' Fm' Bm' := by
  have e5 : ∀ t, B' 4 q 5 t = B 4 q 5 t := fun t => f2 4 q 5 t (by first | decide | omega)
  refine ⟨fun c y k a b d => f1 c y k b d, fun c y k x a b d => f2 c y k x (by first | decide | omega), fun y => ?_, f4, fun c i k x a b => f5 c i k x b, fun h t t' a b a' b' e => ?_⟩
  · unfold ownE
    simp only [e5]
  · rw [e5, e5] at e
    exact h t t' a b a' b' e
/-- a note stands within its bar, and the bar within the voice -/
def zZ (T E b p : Int) : Prop := p < T ∧ b < E
def VD (K : zK) (q v w : Int) (m : Nat) (bar : Int) (g : Int → Int) (F : zF) (B Bm : zB) : Prop := (F 4 q 6 = m ∧ 1 ≤ m ∧ m ≤ 200) ∧ Bm 13 w 12 v = m ∧ (∀ j : Int, 0 ≤ j → j < m → 1 ≤ g j) ∧ sumZ g m ≤ 100 * bar ∧ F 4 q 7 = sumZ g m ∧ (∀ i : Nat, i < m → EVW w (B 4 q 5 i) (1000 * v + i) F B Bm ∧ F 1 (B 4 q 5 i) 0 = sumZ g i ∧ Bm 13 w 14 (1000 * v + i) = nu (sumZ g i) ∧ Bm 13 w 15 (1000 * v + i) = de (sumZ g i) ∧ F 1 (B 4 q 5 i) 1 = g i) ∧ SLs q v w m B F Bm ∧ BW q m bar g F B ∧ ∃ c, NW q v w m (zZ bar (clB (sumZ g m) bar)) c F B Bm ∧ QN K q m c F B ∧ GBw q c B
/-- what judging a voice comes to -/
def JO (K : zK) (q v w bar : Int) (F : zF) (B : zB) (Fm : zF) (Bm : zB) (r : Int) (F' : zF) (B' : zB) (Fm' : zF) (Bm' : zB) : Prop := VFR q v w F B Fm Bm F' B' Fm' Bm' ∧ (∀ s, 0 ≤ s → s < 63 → r32 (B' 4 q 12 s)) ∧ ((r = 0 ∧ Fm' 14 0 17 = 0 ∧ ∃ m g, VD K q v w m bar g F' B' Bm' ∧ Fm' 13 w 7 = clB (F' 4 q 7) bar) ∨ (bad Fm' ∧ r = Fm' 14 0 17 + 16 * Fm' 14 0 18 ∧ 0 ≤ Fm' 14 0 18 ∧ Fm' 14 0 18 ≤ 3000))
theorem P_judge {K : zK} {Km : Nat} {q p v w n d : Int} {F : zF} {B : zB} {Fm : zF} {Bm : zB} (hK : 3002 ≤ K.1) (hKm : 70000000000 < Km) (h4 : 0 ≤ q ∧ q < K.2 4) (hp : 0 ≤ p ∧ p < K.2 6) (v0 : 0 ≤ v ∧ v < 4) (w0 : 0 ≤ w ∧ w < 3) (hn : 1 ≤ n ∧ n ≤ 12) (hd : d = 2 ∨ d = 4 ∨ d = 8 ∨ d = 16) (e4 : F 6 p 4 = n) (e5 : F 6 p 5 = d) (e2 : -7 ≤ F 6 p 2 ∧ F 6 p 2 ≤ 7) (m4 : Fm 13 w 4 = n) (m5 : Fm 13 w 5 = d) (hV : ∀ t, 0 ≤ t → t < 200 → 0 ≤ B 4 q 5 t ∧ B 4 q 5 t < K.2 1) (hI : inJ q B) (hcl : 0 ≤ F 4 q 1 ∧ F 4 q 1 < 4) (h12 : ∀ s, 0 ≤ s → s < 63 → r32 (B 4 q 12 s)) (htk : F 4 q 3 = Bm 14 0 8 (Bm 14 0 28 v)) (h28 : 0 ≤ Bm 14 0 28 v ∧ Bm 14 0 28 v ≤ 3000) (htb : 0 ≤ F 4 q 3 ∧ F 4 q 3 ≤ 3000) (hS : WS q v w (barV n d) 0 F B Fm Bm) (hsum : sumZ (fun j => F 1 (B 4 q 5 j) 1) (F 4 q 6).toNat ≤ 100 * barV n d) (hm12 : Bm 13 w 12 v = Fm 14 0 36) : zP (f_Part_judge K q p F B) (f_M_judge Km Fm Bm) (fun r F' B' _ Fm' Bm' => JO K q v w (barV n d) F B Fm Bm r F' B' Fm' Bm') := by
  obtain ⟨⟨_, _, _, a4⟩, ⟨b1, b2, _, _⟩, _, _, _, _, _, _, _, _, _, _, ⟨o1, o2, o3, o4⟩⟩ := hS
  obtain ⟨bv1, _, bv3, bv4, bv5⟩ := bar_v hn hd
  obtain ⟨m, hm⟩ : ∃ m : Nat, F 4 q 6 = m := ⟨(F 4 q 6).toNat, (by first | decide | omega)⟩
  have rm : r32 (m : Int) := by unfold r32; omega
  have tp : 0 ≤ Bm 14 0 8 (Bm 14 0 28 v) ∧ Bm 14 0 8 (Bm 14 0 28 v) ≤ 3000 := by rw [← htk]; exact htb
  unfold f_Part_judge f_M_judge
  rw [if_pos h4, hm, if_pos rm, ← o1, hm, if_pos rm]
  by_cases mz : (m : Int) = 0
  · rw [if_pos mz, if_pos mz, b1, if_pos v0, L_failAt a4 (by first | decide | omega), zb_s]
    refine zP_s ⟨VFR_s (fun _ _ _ _ _ => rfl) (fun _ _ _ _ _ => rfl) (fun c i k h _ => by rw [flM_n (by first | decide | omega)]) (fun _ _ _ _ _ => rfl), h12, Or.inr ⟨flM_b (by decide) (by decide), by rw [flM_17, flM_18, htk], by rw [flM_18]; exact tp⟩⟩
  rw [if_neg mz, if_neg mz, b2, if_pos w0, b1]
  -- the places
  have hg : ∀ j : Int, 0 ≤ j → j < m → 1 ≤ (fun j => F 1 (B 4 q 5 j) 1) j := fun j j0 j1 => by
    have := (o4 j j0 (by first | decide | omega)).2.2.2.2.1.2.2.1
    exact this
  have hs' : sumZ (fun j => F 1 (B 4 q 5 j) 1) m ≤ 100 * barV n d := by
    rw [hm] at hsum
    exact hsum
  have hgd : (fun j => F 1 (B 4 q 5 j) 1) = (fun j => F 1 (B 4 q 5 j) 1) := rfl
  generalize hgg : (fun j : Int => F 1 (B 4 q 5 j) 1) = g at hg hs'
  have gv : ∀ j : Int, g j = F 1 (B 4 q 5 j) 1 := fun j => by rw [← hgg]
  obtain ⟨r1, F1, B1, r1', Fm1, Bm1, y1, y2, eB, f7, pl, pf1, pf2, pf3⟩ := P_places (K := K) (Km := Km) (m := m) (q := q) (v := v) (w := w) (B := B) (g := g) (F := F) (Fm := Fm) (Bm := Bm) hK (by first | decide | omega) h4 v0 w0 hV hI (by first | decide | omega) hg (by first | decide | omega) hm (by rw [hm12, ← o1]; exact hm) (fun j j0 j1 => by
    have ev := o4 j j0 (by first | decide | omega)
    have l := ev.2.2.2.2.1
    exact ⟨(gv j).symm, by rw [l.1, gv], by rw [l.2.1, gv]⟩)
  subst eB
  rw [y1, y2, zb_s, zb_s]
  have own : ∀ y, (∃ j : Int, 0 ≤ j ∧ j < m ∧ B1 4 q 5 j = y) → ownE B1 q y := fun y ⟨j, j0, j1, j2⟩ => ⟨j, j0, (by first | decide | omega), j2⟩
  have fA : VFR q v w F B1 Fm Bm F1 B1 Fm1 Bm1 := by
    refine VFR_s (fun c y k h h' => pf1 c y k (by first | decide | omega) (fun z => h' ⟨z.1, own y (by obtain ⟨j, j0, j1, j2⟩ := z.2.2; exact ⟨j, j0, j1, j2⟩)⟩)) (fun _ _ _ _ _ => rfl) (fun c i k h _ => pf2 c i k (by first | decide | omega)) (fun c i k x h => pf3 c i k x (fun z => h ?_))
    unfold inW
    omega
  have hJ : JS K q v w m (barV n d) g F1 B1 Fm1 Bm1 := by
    refine ⟨⟨by rw [pf1 4 q 6 (by first | decide | omega) (by first | decide | omega)]; exact hm, by rw [pf2 14 0 36 (by first | decide | omega), ← o1]; exact hm, by rw [pf2 14 0 35 (by first | decide | omega)]; exact b1, by rw [pf2 14 0 6 (by first | decide | omega)]; exact b2, (by first | decide | omega), (by first | decide | omega)⟩, hg, hs', fun i hi => ?_, hV⟩
    obtain ⟨q1, q2, q3⟩ := pl i hi
    have ev := o4 i (by first | decide | omega) (by first | decide | omega)
    refine ⟨EVW_h ev (fun k h h' => pf1 1 _ k (by first | decide | omega) (fun z => (by first | decide | omega))) (fun _ _ => rfl) (fun k h h' => pf3 13 w k _ (by first | decide | omega)) (fun k y h h' _ _ => pf3 13 w k y (by first | decide | omega)) (fun y => pf3 14 0 8 y (by first | decide | omega)), q1, q2, q3, ?_⟩
    rw [pf1 1 _ 1 (by first | decide | omega) (by first | decide | omega), gv]
  -- the frames of judging, as frames of the voice
  have fJ : ∀ {F2 : zF} {Fm2 : zF} {Bm2 : zB}, JFr q v w m B1 F1 Fm1 Bm1 F2 Fm2 Bm2 → VFR q v w F B1 Fm Bm F2 B1 Fm2 Bm2 := fun {F2 Fm2 Bm2} hf => by
    refine VFR_t fA (VFR_s (fun c y k h h' => hf.1 c y k (fun z => h' ⟨z.1, own y z.2.2⟩)) (fun _ _ _ _ _ => rfl) (fun c i k h _ => hf.2.1 c i k (by first | decide | omega)) (fun c i k x h => hf.2.2 c i k x (fun z => h ?_)))
    unfold inW
    omega
  refine P_jl (K := K) (Km := Km) (m := m) (q := q) (p := p) (v := v) (w := w) (n := n) (d := d) (g := g) (B := B1) (F0 := F1) (Fm0 := Fm1) (Bm0 := Bm1) hK (by first | decide | omega) h4 hp v0 w0 hn hd (by rw [pf1 6 p 4 (by first | decide | omega) (by first | decide | omega)]; exact e4) (by rw [pf1 6 p 5 (by first | decide | omega) (by first | decide | omega)]; exact e5) (by rw [pf2 13 w 4 (by first | decide | omega)]; exact m4) (by rw [pf2 13 w 5 (by first | decide | omega)]; exact m5) hI ?_ ?_ m K.1 Km 0 (by first | decide | omega) (by first | decide | omega) (by first | decide | omega) (Or.inl rfl) hJ (by rw [pf2 14 0 17 (by first | decide | omega)]; exact a4) JFr_r (fun j hj => (by first | decide | omega)) (fun t ht => (by first | decide | omega))
  · -- behind the last event
    intro n1 n2 op F2 Fm2 Bm2 hop hJ2 h17 hf hsl hbs
    have hJ2' := hJ2
    obtain ⟨⟨c6, c36, c35, cw, mm0, mm1⟩, _, _, he2, _⟩ := hJ2
    have tk2 : F2 4 q 3 = Bm2 14 0 8 (Bm2 14 0 28 v) := by
      rw [hf.1 4 q 3 (by first | decide | omega), pf1 4 q 3 (by first | decide | omega) (by first | decide | omega), hf.2.2 14 0 28 v (by first | decide | omega), pf3 14 0 28 v (by first | decide | omega), hf.2.2 14 0 8 _ (by first | decide | omega), pf3 14 0 8 _ (by first | decide | omega)]
      exact htk
    have t28 : Bm2 14 0 28 v = Bm 14 0 28 v := by rw [hf.2.2 14 0 28 v (by first | decide | omega), pf3 14 0 28 v (by first | decide | omega)]
    have tp2 : 0 ≤ Bm2 14 0 8 (Bm2 14 0 28 v) ∧ Bm2 14 0 8 (Bm2 14 0 28 v) ≤ 3000 := by
      rw [t28, hf.2.2 14 0 8 _ (by first | decide | omega), pf3 14 0 8 _ (by first | decide | omega)]
      exact tp
    have F6k : ∀ k, F2 6 p k = F 6 p k := fun k => by rw [hf.1 6 p k (by first | decide | omega), pf1 6 p k (by first | decide | omega) (by first | decide | omega)]
    have M4 : Fm2 13 w 4 = n := by rw [hf.2.1 13 w 4 (by first | decide | omega), pf2 13 w 4 (by first | decide | omega)]; exact m4
    have M5 : Fm2 13 w 5 = d := by rw [hf.2.1 13 w 5 (by first | decide | omega), pf2 13 w 5 (by first | decide | omega)]; exact m5
    rw [f_Part_judge_26, if_pos h4, if_pos rm, c6, if_pos rm, if_pos (Int.le_refl _), joS_e, if_pos rm, c36, if_pos rm, if_pos (Int.le_refl _)]
    unfold f_M_judge_265
    rcases hop with rfl | rfl
    case inr =>
      have bd : bad (flM Fm2 Bm2 11 (Bm2 14 0 28 v)) := flM_b (by decide) (by decide)
      unfold f_M_judge_284 f_M_judge_325
      rw [if_pos (show r32 1 by decide), if_neg (show ¬ (1 : Int) = 0 by decide), if_pos (show r32 1 by decide), if_neg (show ¬ (1 : Int) = 0 by decide), c35, if_pos v0, L_failAt h17 (by rw [t28]; omega), zb_s, L_goodB bd, zb_s, if_pos (show r32 0 by decide), if_pos (show (0 : Int) = 0 from rfl)]
      refine zP_s ⟨VFR_t (fJ hf) (VFR_s (fun _ _ _ _ _ => rfl) (fun _ _ _ _ _ => rfl) (fun c i k h _ => by rw [flM_n (by first | decide | omega)]) (fun _ _ _ _ _ => rfl)), h12, Or.inr ⟨bd, by rw [flM_17, flM_18, tk2], by rw [flM_18]; exact tp2⟩⟩
    rw [if_pos (show r32 0 by decide), if_pos (show (0 : Int) = 0 from rfl), if_pos (show r32 0 by decide), if_pos (show (0 : Int) = 0 from rfl)]
    unfold f_M_judge_284 f_M_judge_325
    rw [L_good h17, zb_s, if_pos (show r32 1 by decide), if_neg (show ¬ (1 : Int) = 0 by decide), cw, if_pos w0, c35]
    have h0 : ∀ i : Nat, i < m → F2 1 (B1 4 q 5 i) 5 = 0 → g i % 6350400 = 0 := fun i hi hz => by
      obtain ⟨ev, _, _, _, gi⟩ := he2 i hi
      obtain ⟨z, z1, z2⟩ := ev.2.2.2.1
      obtain ⟨t1, t2⟩ := ev.2.2.2.2.2.2.1.2.2.2 hz
      rw [t1, Int.one_mul] at z1
      rw [t2, Int.mul_one, ← z1, gi] at z2
      omega
    obtain ⟨w1, w2⟩ := BS_all bv4 hg h0 (fun i hi => (hbs i hi).1)
    have hW : BW q m (barV n d) g F2 B1 := ⟨w1, h0, w2, fun i hi => (hbs i hi).2⟩
    have h12' : Bm2 13 w 12 v = m := by rw [hf.2.2 13 w 12 v (by first | decide | omega), pf3 13 w 12 v (by first | decide | omega), hm12, ← o1]; exact hm
    have h7' : F2 4 q 7 = sumZ g m := by rw [hf.1 4 q 7 (by first | decide | omega)]; exact f7
    obtain ⟨F3, B3, Fm3, Bm3, rr, x1, x2, x3, x4, x5, x6, x7⟩ := P_writeN (K := K) (Km := Km) (m := m) (q := q) (p := p) (v := v) (w := w) (n := n) (d := d) (g := g) (F := F2) (B := B1) (Fm := Fm2) (Bm := Bm2) hK hKm h4 hp v0 w0 hn hd (by rw [F6k]; exact e4) (by rw [F6k]; exact e5) M4 M5 h12' h7' hJ2' hW (Z := zZ (barV n d) (clB (sumZ g m) (barV n d))) (fun nb y _ a _ b => ⟨b, a⟩)
    rw [x1, x2, zb_s]
    have fW : VFR q v w F2 B1 Fm2 Bm2 F3 B3 Fm3 Bm3 := by
      refine VFR_s (fun c y k h h' => x3 c y k (by first | decide | omega)) (fun c y k x h => x4 c y k x (by first | decide | omega)) (fun c i k h h' => x5 c i k (by first | decide | omega) h') (fun c i k x h => x6 c i k x (fun z => h ?_) (fun z => h ?_))
      · unfold inW; omega
      · unfold inW; omega
    have e35 : Fm3 14 0 35 = v := by rw [x5 14 0 35 (by first | decide | omega) (by first | decide | omega)]; exact c35
    have f3 : F3 4 q 3 = Bm3 14 0 8 (Bm3 14 0 28 v) := by
      rw [x3 4 q 3 (by first | decide | omega), x6 14 0 28 v (by first | decide | omega) (by first | decide | omega), x6 14 0 8 _ (by first | decide | omega) (by first | decide | omega)]
      exact tk2
    rcases x7 with ⟨hNW, hbars⟩ | ⟨rfl, hX⟩
    · -- the notes fit
      have hJ3 := JS_n hJ2' x3 x4 (fun k h => x5 14 0 k (by first | decide | omega) (by first | decide | omega)) x6
      obtain ⟨⟨c6', _⟩, _, _, he3, hV3⟩ := hJ3
      have hQ : QN K q m rr F3 B3 := by
        refine ⟨h4, ⟨c6', mm1⟩, ⟨hNW.2.1, hNW.1⟩, by rw [x3 4 q 1 (by first | decide | omega), hf.1 4 q 1 (by first | decide | omega), pf1 4 q 1 (by first | decide | omega) (by first | decide | omega)]; exact hcl, fun i i0 i1 => ?_, fun t t0 t1 => ?_, fun s s0 s1 => by rw [x4 4 q 12 s (by first | decide | omega)]; exact h12 s s0 s1⟩
        · obtain ⟨n1', n2', n3', n4', n5'⟩ := hNW.2.2.2.2 i i0 i1
          exact ⟨n1'.2, n2'.2, ⟨n3'.1, n3'.2.1⟩, n4'.2⟩
        · obtain ⟨k, hk⟩ : ∃ k : Nat, t = k := ⟨t.toNat, (by first | decide | omega)⟩
          rw [hk]
          obtain ⟨ev, _⟩ := he3 k (by first | decide | omega)
          have ep := ev.2.2.2.2.2.2.2.2.2.2.2
          exact ⟨hV3 k (by first | decide | omega) (by first | decide | omega), ev.2.2.2.2.2.2.2.2.1.2, ep.2.2.1, fun j j0 j1 => (ep.2.2.2.1 j j0 j1).2.2⟩
      obtain ⟨B4, u1, u2, u3, u4⟩ := C_101 (p := p) (n := n) (d := d) hK hp (by rw [x3 6 p 4 (by first | decide | omega), F6k]; exact e4) (by rw [x3 6 p 5 (by first | decide | omega), F6k]; exact e5) hn hd (by rw [x3 6 p 2 (by first | decide | omega), F6k]; exact e2) hNW.2.2.1 hQ
      rw [u1, zb_s, hNW.2.2.1, if_pos (show r32 0 by decide), if_pos (show (0 : Int) = 0 from rfl), f_Part_judge_227, if_pos (show r32 rr by have := hNW.1; unfold r32; omega), if_pos (show rr ≤ 800 by have := hNW.1; omega)]
      have fQ : VFR q v w F3 B3 Fm3 Bm3 F3 B4 Fm3 Bm3 := VFR_s (fun _ _ _ _ _ => rfl) (fun c y k x h => u2 c y k x (by first | decide | omega)) (fun _ _ _ _ _ => rfl) (fun _ _ _ _ _ => rfl)
      refine zP_s ⟨VFR_t (fJ hf) (VFR_t fW fQ), u3.2.2.2.2.2.2, Or.inl ⟨rfl, by rw [x5 14 0 17 (by first | decide | omega) (by first | decide | omega)]; exact h17, m, g, ?_, by rw [hbars, x5 13 w 4 (by first | decide | omega) (by first | decide | omega), x5 13 w 5 (by first | decide | omega) (by first | decide | omega), M4, M5]⟩⟩
      have b5 : ∀ i, B4 4 q 5 i = B3 4 q 5 i := fun i => u2 4 q 5 i (by first | decide | omega)
      have bx5 : ∀ i, B3 4 q 5 i = B1 4 q 5 i := fun i => x4 4 q 5 i (by first | decide | omega)
      refine ⟨⟨c6', mm0, mm1⟩, by rw [x6 13 w 12 v (by first | decide | omega) (by first | decide | omega)]; exact h12', hg, hs', by rw [x3 4 q 7 (by first | decide | omega)]; exact h7', fun i hi => ?_, fun j hj => ?_, ?_, rr, ⟨hNW.1, hNW.2.1, hNW.2.2.1, hNW.2.2.2.1, fun i i0 i1 => ?_⟩, u3, u4⟩
      · obtain ⟨ev, q1, q2, q3, q4⟩ := he3 i hi
        rw [b5]
        exact ⟨EVW_h ev (fun _ _ _ => rfl) (fun k y => u2 1 _ k y (by first | decide | omega)) (fun _ _ _ => rfl) (fun _ _ _ _ _ _ => rfl) (fun _ => rfl), q1, q2, q3, q4⟩
      · rw [b5, bx5, x3 1 _ 11 (by first | decide | omega), x6 13 w 27 _ (by first | decide | omega) (by first | decide | omega)]
        exact hsl j hj
      · have := BW_n hW x3 x4
        unfold BW TIk at this ⊢
        simp only [b5]
        exact this
      · have := hNW.2.2.2.2 i i0 i1
        unfold NE at this ⊢
        rw [u2 4 q 360 i (by first | decide | omega), u2 4 q 361 i (by first | decide | omega), u2 4 q 9 i (by first | decide | omega), u2 4 q 364 i (by first | decide | omega), u2 4 q 365 i (by first | decide | omega)]
        exact this
    · -- too many
      have x17 : Fm3 14 0 17 = 0 := by rw [x5 14 0 17 (by first | decide | omega) (by first | decide | omega)]; exact h17
      have bd : bad (flM Fm3 Bm3 14 (Bm3 14 0 28 v)) := flM_b (by decide) (by decide)
      have b28 : Bm3 14 0 28 v = Bm 14 0 28 v := by rw [x6 14 0 28 v (by first | decide | omega) (by first | decide | omega)]; exact t28
      unfold f_Part_writeNotes_101 f_Part_writeNotes_136
      rw [if_pos h4, hX.2.1, if_pos (show r32 1 by decide), if_neg (show ¬ (1 : Int) = 0 by decide), zb_s, hX.2.1, if_pos (show r32 1 by decide), if_neg (show ¬ (1 : Int) = 0 by decide), f_Part_judge_227, if_pos (show r32 801 by decide), if_neg (show ¬ (801 : Int) ≤ 800 by decide), e35, if_pos v0, L_failAt x17 (by rw [b28]; omega), zb_s]
      refine zP_s ⟨VFR_t (fJ hf) (VFR_t fW (VFR_s (fun _ _ _ _ _ => rfl) (fun _ _ _ _ _ => rfl) (fun c i k h _ => by rw [flM_n (by first | decide | omega)]) (fun _ _ _ _ _ => rfl))), fun s s0 s1 => by rw [x4 4 q 12 s (by first | decide | omega)]; exact h12 s s0 s1, Or.inr ⟨bd, by rw [flM_17, flM_18, f3], ?_⟩⟩
      rw [flM_18, b28, x6 14 0 8 _ (by first | decide | omega) (by first | decide | omega), hf.2.2 14 0 8 _ (by first | decide | omega), pf3 14 0 8 _ (by first | decide | omega)]
      exact tp
  · -- a fault in the loop
    intro rr F2 r' Fm2 Bm2 hf bd er hr
    exact ⟨fJ hf, h12, Or.inr ⟨bd, er, hr.1, hr.2⟩⟩
end

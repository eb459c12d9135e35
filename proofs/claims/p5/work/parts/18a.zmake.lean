/-! ===== worlds with cells that are not yet objects of theirs (R), and how they are taken in ===== -/
theorem vaP_mem {D : va_G} {ws : va_W} {H : Heap} : va_P D cls ws H ↔ ∀ x ∈ ws, va_at D cls x H :=
  ⟨fun h x hx => by obtain ⟨k, hk⟩ := List.mem_iff_getElem?.mp hx; exact h k x hk, fun h k q hk => h q (List.mem_of_getElem? hk)⟩
theorem vaD_mem {A : Nat → Prop} {ws : va_W} : va_D A ws ↔ (ws.map Prod.fst).Nodup ∧ ∀ x ∈ ws, A x.1 := by
  constructor
  · intro h
    refine ⟨?_, fun x hx => by obtain ⟨k, hk⟩ := List.mem_iff_getElem?.mp hx; exact h.2 k x hk⟩
    refine List.pairwise_iff_getElem.mpr (fun i j hi hj hij e => ?_)
    rw [List.length_map] at hi hj
    rw [List.getElem_map, List.getElem_map] at e
    have := h.1 i j _ _ (List.getElem?_eq_getElem hi) (List.getElem?_eq_getElem hj) e
    omega
  · intro h
    refine ⟨fun i j p q hp hq e => ?_, fun k q hk => h.2 q (List.mem_of_getElem? hk)⟩
    have hi := (List.getElem?_eq_some_iff.mp hp).1
    have hj := (List.getElem?_eq_some_iff.mp hq).1
    have hn := List.pairwise_iff_getElem.mp h.1
    have ei : ws[i] = p := (List.getElem?_eq_some_iff.mp hp).2
    have ej : ws[j] = q := (List.getElem?_eq_some_iff.mp hq).2
    rcases Nat.lt_trichotomy i j with g | g | g
    · exact absurd (by rw [List.getElem_map, List.getElem_map, ei, ej]; exact e) (hn i j (by rw [List.length_map]; exact hi) (by rw [List.length_map]; exact hj) g)
    · exact g
    · exact absurd (by rw [List.getElem_map, List.getElem_map, ei, ej]; exact e.symm) (hn j i (by rw [List.length_map]; exact hj) (by rw [List.length_map]; exact hi) g)
theorem vapl_map {L : List Nat} {f : Nat → va_E} : (va_pl L f).map Prod.fst = L := by
  unfold va_pl
  rw [List.map_map]
  exact List.map_id'' (fun _ => rfl) L
theorem vapl_mem {L : List Nat} {f : Nat → va_E} {x : Nat × va_E} : x ∈ va_pl L f ↔ x.1 ∈ L ∧ x.2 = f x.1 := by
  unfold va_pl
  rw [List.mem_map]
  exact ⟨fun ⟨a, h, e⟩ => by subst e; exact ⟨h, rfl⟩, fun ⟨h, e⟩ => ⟨x.1, h, by rw [← e]⟩⟩
noncomputable def zHx (D : va_G) (ca : Nat → ClassId) (ad : Nat → Int → Nat → Nat) (ln : Nat → Int → Nat → Nat) (N : Nat → Int) (L : List Nat) (F : zF) (B : zB) (R : va_W) (A : Nat → Prop) (H : Heap) : Prop :=
  zInj ad N ∧ ∃ f, va_P D cls (R ++ va_pl L f) H ∧ va_D A (R ++ va_pl L f) ∧ zRep ca ad ln N L F B f
/-- the world has grown: what was alive stands where it stood -/
noncomputable def zG (ad : Nat → Int → Nat → Nat) (N : Nat → Int) (ad' : Nat → Int → Nat → Nat) (N' : Nat → Int) : Prop := (∀ c, N c ≤ N' c) ∧ ∀ (c : Nat) (i : Int) (k : Nat), 0 ≤ i → i < N c → ad' c i k = ad c i k
noncomputable def zinF (F : zF) (c : Nat) (i : Int) (l : List Int) : zF := fun c' i' k' => if c' = c ∧ i' = i then l.getD k' 0 else F c' i' k'
noncomputable def zinB (B : zB) (c : Nat) (i : Int) (b : Nat → Int → Int) : zB := fun c' i' k' => if c' = c ∧ i' = i then b k' else B c' i' k'
noncomputable def zinN (N : Nat → Int) (c : Nat) : Nat → Int := fun c' => if c' = c then N c + 1 else N c'
noncomputable def zinA (ad : Nat → Int → Nat → Nat) (c : Nat) (i : Int) (l : List (Nat × Nat)) : Nat → Int → Nat → Nat := fun c' i' k' => if c' = c ∧ i' = i then (l.lookup k').getD 0 else ad c' i' k'
noncomputable def zfvI (ad : Nat → Int → Nat → Nat) (l : List (Nat × Nat)) (fi : List Int) (c k : Nat) : Value := match zk c k with
  | (0, _) => .int (iI (fi.getD k 0))
  | (1, _) => .long (lI (fi.getD k 0))
  | (2, t) => va_rf (zrf ad t (fi.getD k 0))
  | (5, _) => .ref ((l.lookup ((fi.getD k 0).toNat + 1)).getD 0)
  | _ => .ref ((l.lookup (k + 1)).getD 0)
noncomputable def zAll {α : Type} : List α → (α → Prop) → Prop
  | [], _ => True
  | x :: xs, p => p x ∧ zAll xs p
theorem zAll_mem {α : Type} {p : α → Prop} : ∀ {xs : List α}, zAll xs p → ∀ x ∈ xs, p x
  | [], _, _, h => absurd h List.not_mem_nil
  | y :: ys, ⟨h1, h2⟩, x, h => by
    rcases List.mem_cons.mp h with rfl | h
    · exact h1
    · exact zAll_mem h2 x h
section ZMK
variable {D : va_G} {ca : Nat → ClassId} {ad ad' ad'' : Nat → Int → Nat → Nat} {ln : Nat → Int → Nat → Nat} {N N' N'' : Nat → Int} {L L' : List Nat} {aS vS : Nat → Nat} {F F1 : zF} {B B1 : zB} {A A1 : Nat → Prop} {H H1 : Heap} {R : va_W}
theorem zHx.of (h : zH D ca ad ln N L F B A H) : zHx D ca ad ln N L F B [] A H := by
  obtain ⟨hj, f, hM, hR⟩ := h
  exact ⟨hj, f, hM.1, hM.2, hR⟩
theorem zHx.to (h : zHx D ca ad ln N L F B [] A H) : zH D ca ad ln N L F B A H := by
  obtain ⟨hj, f, h1, h2, hR⟩ := h
  exact ⟨hj, f, ⟨h1, h2⟩, hR⟩
theorem zG.rf : zG ad N ad N := ⟨fun _ => Int.le_refl _, fun _ _ _ _ _ => rfl⟩
theorem zG.tr (h : zG ad N ad' N') (h2 : zG ad' N' ad'' N'') : zG ad N ad'' N'' := ⟨fun c => Int.le_trans (h.1 c) (h2.1 c), fun c i k h0 h1 => (h2.2 c i k h0 (Int.lt_of_lt_of_le h1 (h.1 c))).trans (h.2 c i k h0 h1)⟩
theorem zG.rf2 (h : zG ad N ad' N') {t : Nat} {x : Int} (hx : x < N t) : zrf ad' t x = zrf ad t x := by
  unfold zrf
  by_cases g : x < 0
  · rw [if_pos g, if_pos g]
  · rw [if_neg g, if_neg g, h.2 t x 0 (by omega) hx]
theorem zH.inA (h : zH D ca ad ln N L F B A H) : ∀ q ∈ L, A q := by
  obtain ⟨hj, f, hM, hR⟩ := h
  intro q hq
  exact (vaD_mem.mp hM.2).2 (q, f q) (vapl_mem.mpr ⟨hq, rfl⟩)
theorem zinA_new {c : Nat} {i : Int} {l : List (Nat × Nat)} {k : Nat} : zinA ad c i l c i k = (l.lookup k).getD 0 := by
  unfold zinA
  rw [if_pos ⟨rfl, rfl⟩]
theorem zinA_old {c : Nat} {i : Int} {l : List (Nat × Nat)} {c' : Nat} {i' : Int} {k : Nat} (h : ¬ (c' = c ∧ i' = i)) : zinA ad c i l c' i' k = ad c' i' k := by
  unfold zinA
  rw [if_neg h]
theorem zinA_G {c : Nat} {l : List (Nat × Nat)} : zG ad N (zinA ad c (N c) l) (zinN N c) := by
  refine ⟨fun c' => ?_, fun c' i k h0 h1 => zinA_old (fun q => ?_)⟩
  · unfold zinN
    by_cases e : c' = c
    · rw [if_pos e, e]; omega
    · rw [if_neg e]; exact Int.le_refl _
  · obtain ⟨rfl, rfl⟩ := q
    omega
theorem zlk_some {R : va_W} (hn : (R.map Prod.fst).Nodup) {q : Nat} {e : va_E} (h : (q, e) ∈ R) : R.lookup q = some e := by
  induction R with
  | nil => exact absurd h List.not_mem_nil
  | cons x xs ih =>
    obtain ⟨a, b⟩ := x
    rw [List.map_cons, List.nodup_cons] at hn
    rw [List.lookup_cons]
    rcases List.mem_cons.mp h with g | g
    · cases g
      simp
    · have hne : ¬ q = a := fun e2 => hn.1 (List.mem_map.mpr ⟨(q, e), g, e2⟩)
      have hb : (q == a) = false := by simpa using hne
      rw [hb]
      exact ih hn.2 g
theorem zlk_none {R : va_W} {q : Nat} (h : q ∉ R.map Prod.fst) : R.lookup q = none := by
  induction R with
  | nil => rfl
  | cons x xs ih =>
    obtain ⟨a, b⟩ := x
    rw [List.map_cons, List.mem_cons] at h
    rw [List.lookup_cons]
    have hb : (q == a) = false := by simpa using (fun e2 => h (Or.inl e2) : ¬ q = a)
    rw [hb]
    exact ih (fun g => h (Or.inr g))
theorem zRw_G (h : zG ad N ad' N') {n t : Nat} {b : Int → Int} (hb : 4 ≤ t → ∀ j : Nat, b j < N (t - 10)) : zRw ca ad' n t b = zRw ca ad n t b := by
  match t, hb with
  | 0, _ => rfl
  | 1, _ => rfl
  | 2, _ => rfl
  | 3, _ => rfl
  | t + 4, hb =>
    show (Sum.inl (ca (zct (t + 4)), n, _) : va_E) = Sum.inl (ca (zct (t + 4)), n, _)
    congr 6
    refine congrArg Sum.inr ?_
    funext j
    exact h.rf2 (hb (by omega) j)
theorem ztake {c : Nat} {l : List (Nat × Nat)} {fi : List Int} {b : Nat → Int → Int} (hx : zHx D ca ad ln N L F B R A H) (h0 : 0 ≤ N c)
    (hobj : ((l.lookup 0).getD 0, .inr (c, rg (zN c) (zfvI ad l fi c))) ∈ R)
    (hrow : ∀ k t, zk c k = (3, t) → ((l.lookup (k + 1)).getD 0, zRw ca ad (ln c (N c) k) t (b k)) ∈ R)
    (hrr : ∀ k t, zk c k = (4, t) → ((l.lookup (k + 1)).getD 0, .inl (ca (t + 8), zrn c k, .inr (.inr (.inr (.inr (fun j => some ((l.lookup (200 + 20 * k + j + 1)).getD 0))))))) ∈ R)
    (hli : ∀ k k', zOk c k → zOk c k' → (l.lookup k).getD 0 = (l.lookup k').getD 0 → k = k')
    (href : ∀ k t, zk c k = (2, t) → fi.getD k 0 < N t) (hrefs : ∀ k t, zk c k = (3, t) → 4 ≤ t → ∀ j : Nat, b k j < N (t - 10)) :
    zH D ca (zinA ad c (N c) l) ln (zinN N c) (R.map Prod.fst ++ L) (zinF F c (N c) fi) (zinB B c (N c) b) A H := by
  obtain ⟨hj, f, hP, hD, hR⟩ := hx
  have hG : zG ad N (zinA ad c (N c) l) (zinN N c) := zinA_G
  obtain ⟨hn, hA⟩ := vaD_mem.mp hD
  rw [List.map_append, vapl_map] at hn
  obtain ⟨n1, n2, n3⟩ := List.nodup_append.mp hn
  have hf : ∀ x ∈ R, (R.lookup x.1).getD (f x.1) = x.2 := fun x hx => by rw [zlk_some n1 (e := x.2) hx]; rfl
  have hfL : ∀ q ∈ L, (R.lookup q).getD (f q) = f q := fun q hq => by rw [zlk_none (fun g => n3 q g q hq rfl)]; rfl
  have hin : ∀ k, zOk c k → (l.lookup k).getD 0 ∈ R.map Prod.fst := by
    intro k hk
    rcases hk with rfl | ⟨t, h | h⟩
    · exact List.mem_map_of_mem (f := Prod.fst) hobj
    · by_cases e : k = 0
      · subst e; exact List.mem_map_of_mem (f := Prod.fst) hobj
      · have := List.mem_map_of_mem (f := Prod.fst) (hrow _ t h)
        rwa [show k - 1 + 1 = k by omega] at this
    · by_cases e : k = 0
      · subst e; exact List.mem_map_of_mem (f := Prod.fst) hobj
      · have := List.mem_map_of_mem (f := Prod.fst) (hrr _ t h)
        rwa [show k - 1 + 1 = k by omega] at this
  have hinL : ∀ (c' : Nat) (i' : Int) (k : Nat), 0 ≤ i' → i' < N c' → zOk c' k → ad c' i' k ∈ L := by
    intro c' i' k g0 g1 hk
    obtain ⟨⟨a1, -⟩, a3, a4, -⟩ := hR c' i' g0 g1
    rcases hk with rfl | ⟨t, h | h⟩
    · exact a1
    · by_cases e : k = 0
      · subst e; exact a1
      · have := (a3 _ t h).1
        rwa [show k - 1 + 1 = k by omega] at this
    · by_cases e : k = 0
      · subst e; exact a1
      · have := (a4 _ t h).1
        rwa [show k - 1 + 1 = k by omega] at this
  have hlt : ∀ (c' : Nat) (i' : Int), i' < zinN N c c' → ¬ (c' = c ∧ i' = N c) → i' < N c' := by
    intro c' i' g h
    unfold zinN at g
    by_cases e : c' = c
    · rw [if_pos e] at g
      subst e
      have : ¬ i' = N c' := fun q => h ⟨rfl, q⟩
      omega
    · rw [if_neg e] at g
      exact g
  have hz : zInj (zinA ad c (N c) l) (zinN N c) := by
    intro c1 i1 k1 c2 i2 k2 p1 p2 p3 p4 o1 o2 e
    by_cases e1 : c1 = c ∧ i1 = N c
    · obtain ⟨rfl, rfl⟩ := e1
      rw [zinA_new] at e
      by_cases e2 : c2 = c1 ∧ i2 = N c1
      · obtain ⟨rfl, rfl⟩ := e2
        rw [zinA_new] at e
        exact ⟨rfl, rfl, hli _ _ o1 o2 e⟩
      · rw [zinA_old e2] at e
        exact absurd e (n3 _ (hin _ o1) _ (hinL _ _ _ p3 (hlt _ _ p4 e2) o2))
    · rw [zinA_old e1] at e
      by_cases e2 : c2 = c ∧ i2 = N c
      · obtain ⟨rfl, rfl⟩ := e2
        rw [zinA_new] at e
        exact absurd e.symm (n3 _ (hin _ o2) _ (hinL _ _ _ p1 (hlt _ _ p2 e1) o1))
      · rw [zinA_old e2] at e
        exact hj _ _ _ _ _ _ p1 (hlt _ _ p2 e1) p3 (hlt _ _ p4 e2) o1 o2 e
  have hpl : va_pl (R.map Prod.fst ++ L) (fun q => (R.lookup q).getD (f q)) = R ++ va_pl L f := by
    unfold va_pl
    rw [List.map_append, List.map_map]
    congr 1
    · conv => rhs; rw [← List.map_id R]
      exact List.map_congr_left (fun x hx => by show (x.1, (R.lookup x.1).getD (f x.1)) = x; rw [hf x hx])
    · exact List.map_congr_left (fun q hq => by show (q, (R.lookup q).getD (f q)) = (q, f q); rw [hfL q hq])
  refine ⟨hz, fun q => (R.lookup q).getD (f q), ⟨by rw [hpl]; exact hP, by rw [hpl]; exact hD⟩, ?_⟩
  have hmem : ∀ {q : Nat} {e : va_E}, (q, e) ∈ R → q ∈ R.map Prod.fst ++ L ∧ (R.lookup q).getD (f q) = e := fun h => ⟨List.mem_append.mpr (Or.inl (List.mem_map_of_mem (f := Prod.fst) h)), hf _ h⟩
  intro c' i' g0 g1
  by_cases e1 : c' = c ∧ i' = N c
  · obtain ⟨rfl, rfl⟩ := e1
    have hF' : ∀ k, zinF F c' (N c') fi c' (N c') k = fi.getD k 0 := fun k => by unfold zinF; rw [if_pos ⟨rfl, rfl⟩]
    have hB' : ∀ k, zinB B c' (N c') b c' (N c') k = b k := fun k => by unfold zinB; rw [if_pos ⟨rfl, rfl⟩]
    refine ⟨?_, fun k t hk => ?_, fun k t hk => ?_, fun k t hk => ?_, fun k t hk ht j => ?_⟩
    · rw [zinA_new]
      have hv : zfv (zinA ad c' (N c') l) (zinF F c' (N c') fi) c' (N c') = zfvI ad l fi c' := by
        funext k
        unfold zfv zfvI
        rw [hF']
        obtain ⟨u, w, hk⟩ : ∃ u w, zk c' k = (u, w) := ⟨_, _, rfl⟩
        have hr := href k
        rw [hk] at hr ⊢
        match u, hr with
        | 0, _ => rfl
        | 1, _ => rfl
        | 2, hr => exact congrArg va_rf (hG.rf2 (hr w rfl))
        | 3, _ => exact congrArg Value.ref zinA_new
        | 4, _ => exact congrArg Value.ref zinA_new
        | 5, _ => exact congrArg Value.ref zinA_new
        | u + 6, _ => exact congrArg Value.ref zinA_new
      rw [hv]
      exact hmem hobj
    · rw [zinA_new, hB', zRw_G hG (hrefs k t hk)]
      exact hmem (hrow k t hk)
    · rw [zinA_new]
      have : zRR ca (zinA ad c' (N c') l) c' (N c') k t = .inl (ca (t + 8), zrn c' k, .inr (.inr (.inr (.inr (fun j => some ((l.lookup (200 + 20 * k + j + 1)).getD 0)))))) := by
        unfold zRR
        simp only [zinA_new]
      rw [this]
      exact hmem (hrr k t hk)
    · rw [hF']
      exact Int.lt_of_lt_of_le (href k t hk) (hG.1 t)
    · rw [hB']
      exact Int.lt_of_lt_of_le (hrefs k t hk ht j) (hG.1 _)
  · have g2 := hlt _ _ g1 e1
    obtain ⟨⟨a1, a2⟩, a3, a4, a5, a6⟩ := hR c' i' g0 g2
    have hA' : ∀ k, zinA ad c (N c) l c' i' k = ad c' i' k := fun k => zinA_old e1
    have hF' : ∀ k, zinF F c (N c) fi c' i' k = F c' i' k := fun k => by unfold zinF; rw [if_neg e1]
    have hB' : ∀ k, zinB B c (N c) b c' i' k = B c' i' k := fun k => by unfold zinB; rw [if_neg e1]
    have hmL : ∀ {q : Nat}, q ∈ L → q ∈ R.map Prod.fst ++ L := fun h => List.mem_append.mpr (Or.inr h)
    refine ⟨?_, fun k t hk => ?_, fun k t hk => ?_, fun k t hk => ?_, fun k t hk ht j => ?_⟩
    · rw [hA']
      have hv : zfv (zinA ad c (N c) l) (zinF F c (N c) fi) c' i' = zfv ad F c' i' := by
        funext k
        unfold zfv
        rw [hF']
        obtain ⟨u, w, hk⟩ : ∃ u w, zk c' k = (u, w) := ⟨_, _, rfl⟩
        have hr := a5 k
        rw [hk] at hr ⊢
        match u, hr with
        | 0, _ => rfl
        | 1, _ => rfl
        | 2, hr => exact congrArg va_rf (hG.rf2 (hr w rfl))
        | 3, _ => exact congrArg Value.ref (hA' _)
        | 4, _ => exact congrArg Value.ref (hA' _)
        | 5, _ => exact congrArg Value.ref (hA' _)
        | u + 6, _ => exact congrArg Value.ref (hA' _)
      rw [hv]
      exact ⟨hmL a1, (hfL _ a1).trans a2⟩
    · rw [hA', hB', zRw_G hG (a6 k t hk)]
      exact ⟨hmL (a3 k t hk).1, (hfL _ (a3 k t hk).1).trans (a3 k t hk).2⟩
    · rw [hA']
      have : zRR ca (zinA ad c (N c) l) c' i' k t = zRR ca ad c' i' k t := by
        unfold zRR
        simp only [hA']
      rw [this]
      exact ⟨hmL (a4 k t hk).1, (hfL _ (a4 k t hk).1).trans (a4 k t hk).2⟩
    · rw [hF']
      exact Int.lt_of_lt_of_le (a5 k t hk) (hG.1 t)
    · rw [hB']
      exact Int.lt_of_lt_of_le (a6 k t hk ht j) (hG.1 _)
end ZMK

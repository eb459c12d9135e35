/-! ===== taking a finished object in, by finite lists ===== -/
theorem zk_lt {c k u t : Nat} (h : zk c k = (u, t)) (hu : ¬ u = 9) : k < 400 := by
  unfold zk at h
  by_cases h1 : k < 180
  · omega
  · rw [if_neg h1] at h
    by_cases h2 : k < 200
    · omega
    · rw [if_neg h2] at h
      by_cases h3 : (k - 200) % 20 < zrn c ((k - 200) / 20)
      · unfold zrn at h3
        by_cases e1 : (k - 200) / 20 ≤ 8
        · omega
        · exfalso
          rw [if_neg (by omega), if_neg (by omega), if_neg (by omega), if_neg (by omega), if_neg (by omega)] at h3
          omega
      · rw [if_neg h3] at h
        exact absurd (congrArg Prod.fst h).symm hu
noncomputable def zrowL (c u : Nat) : List (Nat × Nat) := (List.range 400).filterMap (fun k => if (zk c k).1 = u then some (k, (zk c k).2) else none)
theorem zrowL_in {c u k t : Nat} (hu : ¬ u = 9) (h : zk c k = (u, t)) : (k, t) ∈ zrowL c u := by
  unfold zrowL
  refine List.mem_filterMap.mpr ⟨k, List.mem_range.mpr (zk_lt h hu), ?_⟩
  rw [h, if_pos rfl]
theorem rg_all {n : Nat} {f g : Nat → Value} (h : zAll (List.range n) (fun k => f k = g k)) : rg n f = rg n g := by
  unfold rg
  exact List.map_congr_left (fun k hk => zAll_mem h k hk)
theorem zlk_in {l : List (Nat × Nat)} {k : Nat} (h : k ∈ l.map Prod.fst) : ∃ v, l.lookup k = some v ∧ (k, v) ∈ l := by
  induction l with
  | nil => exact absurd h List.not_mem_nil
  | cons x xs ih =>
    obtain ⟨a, b⟩ := x
    rw [List.lookup_cons]
    by_cases e : k = a
    · subst e
      exact ⟨b, by simp, List.mem_cons_self⟩
    · have hb : (k == a) = false := by simpa using e
      rw [hb]
      rw [List.map_cons, List.mem_cons] at h
      obtain ⟨v, h1, h2⟩ := ih (h.resolve_left e)
      exact ⟨v, h1, List.mem_cons_of_mem _ h2⟩
theorem zsnd_inj {l : List (Nat × Nat)} (hn : (l.map Prod.snd).Nodup) {k k' v : Nat} (h1 : (k, v) ∈ l) (h2 : (k', v) ∈ l) : k = k' := by
  induction l with
  | nil => exact absurd h1 List.not_mem_nil
  | cons x xs ih =>
    rw [List.map_cons, List.nodup_cons] at hn
    rcases List.mem_cons.mp h1 with g1 | g1 <;> rcases List.mem_cons.mp h2 with g2 | g2
    · exact congrArg Prod.fst (g1.trans g2.symm)
    · subst g1
      exact absurd (List.mem_map.mpr ⟨(k', v), g2, rfl⟩) hn.1
    · subst g2
      exact absurd (List.mem_map.mpr ⟨(k, v), g1, rfl⟩) hn.1
    · exact ih hn.2 g1 g2
section ZT2
variable {D : va_G} {ca : Nat → ClassId} {ad : Nat → Int → Nat → Nat} {ln : Nat → Int → Nat → Nat} {N : Nat → Int} {L : List Nat} {F : zF} {B : zB} {A : Nat → Prop} {H : Heap} {R : va_W}
theorem ztake2 {c n : Nat} {l : List (Nat × Nat)} {fi : List Int} {b : Nat → Int → Int} {g : Nat → Value} {a : Nat} {r2 r3 r4 : List (Nat × Nat)} (hx : zHx D ca ad ln N L F B R A H) (h0 : 0 ≤ N c)
    (e2 : zrowL c 2 = r2) (e3 : zrowL c 3 = r3) (e4 : zrowL c 4 = r4) (hl : l.map Prod.snd = R.map Prod.fst) (hk0 : 0 ∈ l.map Prod.fst) (hk3 : zAll r3 (fun x => x.1 + 1 ∈ l.map Prod.fst)) (hk4 : zAll r4 (fun x => x.1 + 1 ∈ l.map Prod.fst))
    (hn : zN c = n) (ha : (l.lookup 0).getD 0 = a) (hobj : (a, .inr (c, rg n g)) ∈ R) (hg : zAll (List.range n) (fun k => g k = zfvI ad l fi c k))
    (h3 : zAll r3 (fun x => ((l.lookup (x.1 + 1)).getD 0, zRw ca ad (ln c (N c) x.1) x.2 (b x.1)) ∈ R))
    (h4 : zAll r4 (fun x => ((l.lookup (x.1 + 1)).getD 0, .inl (ca (x.2 + 8), zrn c x.1, .inr (.inr (.inr (.inr (fun j => some ((l.lookup (200 + 20 * x.1 + j + 1)).getD 0))))))) ∈ R))
    (h2 : zAll r2 (fun x => fi.getD x.1 0 < N x.2)) (h5 : zAll r3 (fun x => 4 ≤ x.2 → ∀ j : Nat, b x.1 j < N (x.2 - 10))) :
    zH D ca (zinA ad c (N c) l) ln (zinN N c) (R.map Prod.fst ++ L) (zinF F c (N c) fi) (zinB B c (N c) b) A H := by
  subst e2 e3 e4 hn ha
  have hnd : (l.map Prod.snd).Nodup := by
    obtain ⟨-, f, -, hD, -⟩ := id hx
    have := (vaD_mem.mp hD).1
    rw [List.map_append] at this
    rw [hl]
    exact (List.nodup_append.mp this).1
  have hkeys : ∀ k, zOk c k → k ∈ l.map Prod.fst := by
    intro k hk
    rcases hk with rfl | ⟨t, h | h⟩
    · exact hk0
    · by_cases e : k = 0
      · subst e; exact hk0
      · have := zAll_mem hk3 _ (zrowL_in (by decide) h)
        rwa [show k - 1 + 1 = k by omega] at this
    · by_cases e : k = 0
      · subst e; exact hk0
      · have := zAll_mem hk4 _ (zrowL_in (by decide) h)
        rwa [show k - 1 + 1 = k by omega] at this
  refine ztake hx h0 (by rw [← rg_all hg]; exact hobj) (fun k t hk => zAll_mem h3 _ (zrowL_in (by decide) hk)) (fun k t hk => zAll_mem h4 _ (zrowL_in (by decide) hk)) (fun k k' hk hk' e => ?_) (fun k t hk => zAll_mem h2 _ (zrowL_in (by decide) hk)) (fun k t hk => zAll_mem h5 _ (zrowL_in (by decide) hk))
  obtain ⟨v, v1, v2⟩ := zlk_in (hkeys k hk)
  obtain ⟨w, w1, w2⟩ := zlk_in (hkeys k' hk')
  rw [v1, w1] at e
  obtain rfl : v = w := e
  exact zsnd_inj hnd v2 w2
end ZT2
/-- an entry may be told otherwise where its cell is the same -/
theorem zHx.repl {D : va_G} {ca : Nat → ClassId} {ad : Nat → Int → Nat → Nat} {ln : Nat → Int → Nat → Nat} {N : Nat → Int} {L : List Nat} {F : zF} {B : zB} {A : Nat → Prop} {H : Heap} {R : va_W} (h : zHx D ca ad ln N L F B R A H) (i : Nat) {a : Nat} {cA : ClassId} {n : Nat} {u v : Nat → Option Nat} (hi : R[i]? = some (a, .inl (cA, n, .inr (.inr (.inr (.inr u)))))) (huv : zAll (List.range n) (fun j => u j = v j)) : zHx D ca ad ln N L F B (R.set i (a, .inl (cA, n, .inr (.inr (.inr (.inr v)))))) A H := by
  obtain ⟨hj, f, hP, hD, hR⟩ := h
  refine ⟨hj, f, ?_, ?_, hR⟩
  · rw [← zxset_at hi]
    refine hP.set hD (zxget_at hi) ?_ (fun _ _ => rfl)
    have h0 := hP i _ (zxget_at hi)
    show H[a]? = some (vp_cell cA (n, _))
    have h1 : H[a]? = some (vp_cell cA (n, .inr (.inr (.inr (.inr u))))) := h0
    rw [h1, vp_cell_q, vp_cell_q]
    congr 1
    unfold arrV
    congr 2
    funext j
    show va_rf (u j.val) = va_rf (v j.val)
    rw [zAll_mem huv j.val (List.mem_range.mpr j.isLt)]
  · rw [← zxset_at hi]
    exact hD.set (zxget_at hi)
/-! ===== functions that make objects ===== -/
noncomputable abbrev zOm : Type := Option (Int × zF × zB × zK)
noncomputable def zbindN (x : zO) (k : Int → zF → zB → zOm) : zOm := match x with
  | none => none
  | some q => k q.1 q.2.1 q.2.2
theorem gbindN {x : zO} {k : Int → zF → zB → zOm} {z : Int × zF × zB × zK} (h : zbindN x k = some z) : ∃ r F B, x = some (r, F, B) ∧ k r F B = some z := by
  cases x with
  | none => cases h
  | some q => exact ⟨q.1, q.2.1, q.2.2, rfl, h⟩
noncomputable def zbindM (x : zOm) (k : Int → zF → zB → zK → zOm) : zOm := match x with
  | none => none
  | some q => k q.1 q.2.1 q.2.2.1 q.2.2.2
theorem gbindM {x : zOm} {k : Int → zF → zB → zK → zOm} {z : Int × zF × zB × zK} (h : zbindM x k = some z) : ∃ r F B K, x = some (r, F, B, K) ∧ k r F B K = some z := by
  cases x with
  | none => cases h
  | some q => exact ⟨q.1, q.2.1, q.2.2.1, q.2.2.2, rfl, h⟩
noncomputable def zKle (K K' : zK) : Prop := ∀ c, K.2 c ≤ K'.2 c
theorem zKle.rf {K : zK} : zKle K K := fun _ => Int.le_refl _
theorem zKle.tr {K K' K'' : zK} (h : zKle K K') (h2 : zKle K' K'') : zKle K K'' := fun c => Int.le_trans (h c) (h2 c)
theorem zKle_in {n : Nat} {N : Nat → Int} {c : Nat} : zKle (n, N) (n, zinN N c) := fun c' => by
  show N c' ≤ zinN N c c'
  unfold zinN
  by_cases e : c' = c
  · rw [if_pos e, e]; omega
  · rw [if_neg e]; exact Int.le_refl _
/-- a call of a method that makes nothing, out of a world with raw cells -/
theorem zxtyped {D : va_G} {ca : Nat → ClassId} {ad : Nat → Int → Nat → Nat} {ln : Nat → Int → Nat → Nat} {N : Nat → Int} {L : List Nat} {F F1 : zF} {B B1 : zB} {A : Nat → Prop} {H H1 : Heap} {X : va_W} (hZ : zHx D ca ad ln N L F B X A H) (hF : ∀ q, zA L H.size q → A q) (hk : ∀ q : Nat, q < H.size → ¬ zA L H.size q → H1[q]? = H[q]?) {t : State} (ht : t.heap = H1) (hB : zPo D ca ad ln N L F1 B1 (zA L H.size) t) : zHx D ca ad ln N L F1 B1 X A H1 := by
  obtain ⟨hj, f, hP, hD, hR⟩ := hZ
  obtain ⟨⟨hj', f', ⟨hP', hD'⟩, hR'⟩, -⟩ := hB
  rw [ht] at hP'
  obtain ⟨hn, hA⟩ := vaD_mem.mp hD
  obtain ⟨hn', hA'⟩ := vaD_mem.mp hD'
  rw [List.map_append, vapl_map] at hn
  have h12 := List.nodup_append.mp hn
  have out : ∀ x ∈ X, ¬ zA L H.size x.1 := by
    intro x hx h
    have hm : x.1 ∈ X.map Prod.fst := List.mem_map_of_mem (f := Prod.fst) hx
    rcases h with h | h
    · exact h12.2.2 x.1 hm x.1 h rfl
    · have := (vaP_mem.mp hP x (List.mem_append.mpr (Or.inl hx))).lt
      omega
  refine ⟨hj', f', vaP_mem.mpr (fun x hx => ?_), vaD_mem.mpr ⟨?_, fun x hx => ?_⟩, hR'⟩
  · rcases List.mem_append.mp hx with h | h
    · have h0 := vaP_mem.mp hP x (List.mem_append.mpr (Or.inl h))
      exact h0.kept (hk x.1 h0.lt (out x h))
    · exact vaP_mem.mp hP' x h
  · rw [List.map_append]
    refine List.nodup_append.mpr ⟨h12.1, hn', fun u hu v hv e => ?_⟩
    obtain ⟨x, hx, rfl⟩ := List.mem_map.mp hu
    obtain ⟨y, hy, rfl⟩ := List.mem_map.mp hv
    exact out x hx (by rw [e]; exact hA' y hy)
  · rcases List.mem_append.mp hx with h | h
    · exact hA x (List.mem_append.mpr (Or.inl h))
    · exact hF _ (hA' x h)
theorem zrf_some {ad : Nat → Int → Nat → Nat} {t q : Nat} {r : Int} (h0 : 0 ≤ r) (h : ad t r 0 = q) : (some q) = zrf ad t r := by
  rw [zrf_pos h0, h]
theorem zup_lt {f : Int → Int} {z v b : Int} (hf : ∀ j : Nat, f (j : Int) < b) (hv : v < b) (j : Nat) : zup f z v (j : Int) < b := by
  unfold zup
  by_cases e : (j : Int) = z
  · rw [if_pos e]; exact hv
  · rw [if_neg e]; exact hf j
section ZXT
variable {D : va_G} {ca : Nat → ClassId} {ad : Nat → Int → Nat → Nat} {ln : Nat → Int → Nat → Nat} {N : Nat → Int} {L L0 : List Nat} {aS vS : Nat → Nat} {F : zF} {B : zB} {A : Nat → Prop} {H : Heap} {X : va_W} {p : Program} {s : State} {m : MethodId} {args : Array Value} {meth : Method} {c : Code} {cc : ByteArray} {n : Nat} {ret : Option FieldType} {cl : String} {locs : List Loc}
theorem zxTin (X0 : zX D ca L0 aS vS A p s m args meth c cc n ret cl) (hZ : zHx D ca ad ln N L F B X A H) (hS : va_S A s.heap H locs) : ∀ q, zA L H.size q → A q := fun q h => by
  obtain ⟨-, -, -, -, -, -, -, -, h1, -, -⟩ := X0
  rcases h with h | h
  · exact hZ.inA q (List.mem_append.mpr (Or.inr h))
  · exact h1 q (Nat.le_trans hS.1 h)
theorem zxPT (X0 : zX D ca L0 aS vS A p s m args meth c cc n ret cl) (hZ : zHx D ca ad ln N L F B X A H) (hS : va_S A s.heap H locs) (As : List Value) :
    PreS s H (va_Pc As (zPre D ca ad ln N L aS vS F B H.size)) As := by
  refine ⟨zBlind, fun U hU hW => ?_⟩
  obtain ⟨-, -, -, -, -, -, -, hK, -, -, hX⟩ := id X0
  refine ⟨rfl, by rw [hU], ?_, va_K.moved hW.alike hK, ?_⟩
  · rw [hU]
    obtain ⟨hj, f, hP, hD, hR⟩ := hZ
    refine ⟨hj, f, ⟨vaP_mem.mpr (fun x hx => vaP_mem.mp hP x (List.mem_append.mpr (Or.inr hx))), vaD_mem.mpr ⟨?_, fun _ _ => trivial⟩⟩, hR⟩
    have := (vaD_mem.mp hD).1
    rw [List.map_append] at this
    exact (List.nodup_append.mp this).2.1
  · exact hX.to hW (fun a h1 h2 => by rw [hU]; exact hS.2.1 a h1 h2) (zxTin X0 hZ hS)
end ZXT
section ZXA
variable {p : Program} {l : Launch} {e : Env} {R : Room} {s : State} {m : MethodId} {args : Array Value} {below : List Frame} {meth : Method} {c : Code} {H : Heap} {locs : List Loc} {cells slots : Nat} {Q : State → Prop}
variable {cc : ByteArray} {pc : Nat} {ls : Array Slot} {rest : List Value} {D : va_G} {A : Nat → Prop} {a : Nat} {tys : List (ClassId × FieldType)} {H0 : Heap}
variable {L : List Nat} {ca : Nat → ClassId} {ad : Nat → Int → Nat → Nat} {ln : Nat → Int → Nat → Nat} {N : Nat → Int} {F : zF} {B : zB} {X : va_W}
theorem zxaast {n t : Nat} {cA : ClassId} {f : Nat → Option Nat} {r : vw_C} (hx : p.tables.exec = Jvm.exec) (hb : c.code = cc) (hK : va_K D cls tys s) (hZ : zHx D ca ad ln N L F B X A H) (hS : va_S A H0 H locs) (q0 t0 : Nat) (he : X[q0]? = some (a, .inl (cA, n, .inr (.inr (.inr (.inr f)))))) (ht : tys[t0]? = some (cA, .object r.1)) (hc : cls[t]? = some r) {z v : Int} (v0 : 0 ≤ v) (v1 : v < N t) (h0 : 0 ≤ z) (h1 : z < n) (hn : n ≤ 2147483647) (hdg : decode cc pc = .ok (.aastore, 1))
    (kk : ∀ (H1 : Heap) (locs1 : List Loc), zHx D ca ad ln N L F B (X.set q0 (a, .inl (cA, n, .inr (.inr (.inr (.inr (va_up f z.toNat (some (ad t v 0)))))))) ) A H1 → va_S A H0 H1 locs1 → W p l e R s m args below meth c H1 locs1 cells slots Q (F0 m (pc + 1) ls rest)) : W p l e R s m args below meth c H locs cells slots Q (F0 m pc ls (.ref (ad t v 0) :: .int (iI z) :: .ref a :: rest)) := by
  obtain ⟨hj, g, hP, hD, hR⟩ := hZ
  obtain ⟨⟨b1, b2⟩, -⟩ := hR t v v0 v1
  obtain ⟨qk, hqk⟩ := va_pl_get (X := X) (f := g) b1
  rw [b2] at hqk
  refine va_astq hx hb hK hP hD hS q0 t0 qk t (zxget_at he) ht hqk hc (iI_in h0 h1 hn) hdg (fun H1 locs1 hP1 hD1 hS1 => ?_)
  rw [iI_cl h0 (by omega), zxset_at he] at hP1 hD1
  exact kk H1 locs1 ⟨hj, g, hP1, hD1, hR⟩ hS1
end ZXA
theorem zHx.perm {D : va_G} {ca : Nat → ClassId} {ad : Nat → Int → Nat → Nat} {ln : Nat → Int → Nat → Nat} {N : Nat → Int} {L : List Nat} {F : zF} {B : zB} {A : Nat → Prop} {H : Heap} {X X' : va_W} (hp : X.Perm X') (h : zHx D ca ad ln N L F B X A H) : zHx D ca ad ln N L F B X' A H := by
  obtain ⟨hj, f, hP, hD, hR⟩ := h
  have hq : (X ++ va_pl L f).Perm (X' ++ va_pl L f) := hp.append_right _
  refine ⟨hj, f, vaP_mem.mpr (fun x hx => vaP_mem.mp hP x (hq.mem_iff.mpr hx)), vaD_mem.mpr ⟨?_, fun x hx => (vaD_mem.mp hD).2 x (hq.mem_iff.mpr hx)⟩, hR⟩
  exact (hq.map Prod.fst).nodup_iff.mp (vaD_mem.mp hD).1
theorem zHx.rot {D : va_G} {ca : Nat → ClassId} {ad : Nat → Int → Nat → Nat} {ln : Nat → Int → Nat → Nat} {N : Nat → Int} {L : List Nat} {F : zF} {B : zB} {A : Nat → Prop} {H : Heap} {X : va_W} {e : Nat × va_E} (h : zHx D ca ad ln N L F B (X ++ [e]) A H) : zHx D ca ad ln N L F B (e :: X) A H := zHx.perm (List.perm_append_singleton e X) h
theorem zHx.swp {D : va_G} {ca : Nat → ClassId} {ad : Nat → Int → Nat → Nat} {ln : Nat → Int → Nat → Nat} {N : Nat → Int} {L : List Nat} {F : zF} {B : zB} {A : Nat → Prop} {H : Heap} {X : va_W} {e e' : Nat × va_E} (h : zHx D ca ad ln N L F B (e :: e' :: X) A H) : zHx D ca ad ln N L F B (e' :: e :: X) A H := zHx.perm (List.Perm.swap _ _ _) h

/-! ===== new T[n][k] with what lies in it ===== -/
noncomputable def gRI2 (cA comp : ClassId) (N M : Nat) (dv : Value) (u : State) (i : Nat) (F : State) : Prop :=
  F.heap.size = u.heap.size + 1 + i ∧ F.heap[u.heap.size]? = some (arrV cA N (fun j => if j < i then .ref (u.heap.size + 1 + j) else .null)) ∧ ∀ j : Nat, j < i → F.heap[u.heap.size + 1 + j]? = some (arrV comp M (fun _ => dv))
theorem gRows_inv2 {cA comp : ClassId} {N M : Nat} {dv : Value} {u : State} : ∀ i : Nat, gRI2 cA comp N M dv u i (gRows comp M dv u.heap.size (u.pushCell { cls := cA, slots := Array.replicate N .null }) i) := by
  intro i
  induction i with
  | zero =>
    refine ⟨?_, ?_, fun j hj => absurd hj (Nat.not_lt_zero _)⟩
    · show (u.heap.push _).size = _
      simp
    · show (u.pushCell _).heap[u.heap.size]? = _
      rw [State.heap_pushCell_size]
      exact congrArg some (arrV_new cA N .null)
  | succ i ih =>
    obtain ⟨z1, o1, z3⟩ := ih
    show gRI2 cA comp N M dv u (i + 1) (gPut u.heap.size i ((gRows comp M dv u.heap.size (u.pushCell { cls := cA, slots := Array.replicate N .null }) i).pushCell (gRow comp M dv)))
    generalize gRows comp M dv u.heap.size (u.pushCell { cls := cA, slots := Array.replicate N .null }) i = F at z1 o1 z3 ⊢
    have hlt : u.heap.size < F.heap.size := by omega
    have ho : (F.pushCell (gRow comp M dv)).heap[u.heap.size]? = some (arrV cA N (fun j => if j < i then .ref (u.heap.size + 1 + j) else .null)) := by rw [State.heap_pushCell_of_lt _ _ hlt]; exact o1
    have hz : (F.pushCell (gRow comp M dv)).heap.size = u.heap.size + 1 + (i + 1) := by
      show (F.heap.push _).size = _
      rw [Array.size_push, z1]
      omega
    rw [gPut_at ho]
    refine ⟨?_, ?_, fun j hj => ?_⟩
    · rw [← hz]
      simp [State.setCell]
    · rw [State.heap_setCell_self ho, arrV_store, hz]
      congr 2
      funext j
      unfold updV
      by_cases e : j = i
      · rw [if_pos e, if_pos (show j < i + 1 by omega), e]
        congr 1
      · rw [if_neg e]
        show (if j < i then Value.ref (u.heap.size + 1 + j) else Value.null) = _
        by_cases h : j < i
        · rw [if_pos h, if_pos (show j < i + 1 by omega)]
        · rw [if_neg h, if_neg (show ¬ j < i + 1 by omega)]
    · rw [State.heap_setCell_other (show u.heap.size ≠ u.heap.size + 1 + j by omega)]
      by_cases h : j < i
      · rw [State.heap_pushCell_of_lt _ _ (show u.heap.size + 1 + j < F.heap.size by omega)]
        exact z3 j h
      · obtain rfl : j = i := by omega
        rw [← z1, State.heap_pushCell_size]
        exact congrArg some (arrV_new comp M dv)
section GMY
variable {p : Program} {l : Launch} {e : Env} {R : Room} {s : State} {m : MethodId} {args : Array Value} {below : List Frame} {meth : Method} {c : Code} {H : Heap} {locs : List Loc} {cells slots : Nat} {Q : State → Prop}
variable {cc : ByteArray} {pc : Nat} {ls : Array Slot} {rest : List Value} {D : va_G} {A : Nat → Prop} {ws : va_W} {H0 : Heap}
theorem gmnaY {own nm : String} {index : Nat} {ty : FieldType} (hx : p.tables.exec = Jvm.exec) (hb : c.code = cc) (hts : ∀ w ∈ wAll, w.before args s = true) (hown : s.vm.findClass own = some m.cls) (hnm : nm = "[" ++ (FieldType.array ty).toString) (hcl : Cond.classLink own index nm ∈ wAll) (hover : (Cond.arrayOver (.array ty)).before #[] s = true) (harr : Cond.arrayClass ty ∈ wAll)
    {n k : Int32} {N' K' : Nat} (hn : ¬ n < 0) (hk : ¬ k < 0) (hN : n.toNatClampNeg = N') (hM : k.toNatClampNeg = K')
    (hb1 : N' * 4 ≤ 536870912) (hb2 : K' * componentBytes ty ≤ 536870912) (hb3 : K' ≤ 536870912) (hdf : fits ty (defaultValue ty) = true) (hdd : (defaultValue ty).isDefault = true) (hcells : cells + (1 + N') ≤ R.cells) (hslots : slots + (N' + N' * K') ≤ R.slots) (hdg : decode cc pc = .ok (.multianewarray index 2, 4))
    (kk : ∀ (H1 : Heap) (cA comp : ClassId), s.vm.findClass ("[" ++ (FieldType.array ty).toString) = some cA → s.vm.findClass (FieldType.array ty).toString = some comp → H1.size = H.size + 1 + N' → (∀ x : Nat, x < H.size → H1[x]? = H[x]?) → H1[H.size]? = some (arrV cA N' (fun j => if j < N' then .ref (H.size + 1 + j) else .null)) → (∀ j : Nat, j < N' → H1[H.size + 1 + j]? = some (arrV comp K' (fun _ => defaultValue ty))) → W p l e R s m args below meth c H1 locs (cells + 1 + N') (slots + N' + N' * K') Q (F0 m (pc + 4) ls (.ref H.size :: rest))) : W p l e R s m args below meth c H locs cells slots Q (F0 m pc ls (.int k :: .int n :: rest)) := by
  subst hnm
  intro T hT X
  subst hT
  obtain ⟨cA, comp, kA, g1, g2, g3, g4⟩ := gOver hover
  obtain ⟨comp', kC, c3, r1, r2, r3⟩ := Cond.arrayClass_spec (hts _ harr)
  obtain rfl : comp = comp' := Option.some.inj (g1.symm.trans r1)
  obtain ⟨c4, q1, q2⟩ := Cond.classLink_spec hown (hts _ hcl) e.platform (by rw [X.admits.platform])
  obtain rfl : cA = c4 := Option.some.inj (g2.symm.trans q1)
  obtain ⟨hg, hW, -⟩ := State.classEntry (e := e) X.warmed q2
  generalize T.vm.noted m.cls index (.cls cA) = vm1 at hg hW
  have X1 := X.noted hW
  obtain ⟨kA1, ha1, ha2⟩ := hW.alike.2.2 _ _ g3
  obtain ⟨kC1, hc1, hc2⟩ := hW.alike.2.2 _ _ r2
  have ha3 : kA1.kind = .array comp (.array ty) := by rw [ha2]; exact g4
  have hc3 : kC1.kind = .array c3 ty := by rw [hc2]; exact r3
  obtain ⟨room1, room2⟩ := X.roomAbove hcells hslots
  have big : ∀ x : Nat, x ≤ 536870912 → ¬ x > e.platform.arrayLengthLimit := fun x h => by rw [Launch.admits_arrayLengthLimit X.admits]; omega
  have big2 : ∀ x : Nat, x ≤ 536870912 → ¬ x > e.platform.maxHeapBytes := fun x h => by rw [Launch.admits_maxHeapBytes X.admits]; omega
  have XF := gRows_stand (cA := cA) (comp := comp) (N := N') (M := K') (dv := defaultValue ty) X1 N'
  have hF := gRows_inv (cA := cA) (comp := comp) (N := N') (M := K') (dv := defaultValue ty) (u := T.setVm vm1) N'
  have hF2 := gRows_inv2 (cA := cA) (comp := comp) (N := N') (M := K') (dv := defaultValue ty) (u := T.setVm vm1) N'
  obtain ⟨t, a1, b1⟩ := kk _ cA comp g2 g1 hF2.1 hF.2.2.1 hF2.2.1 hF2.2.2 _ rfl XF
  refine ⟨t, ?_, b1⟩
  jvm_step X.here [hx, (by rw [hb]; exact hdg : decode c.code (F0 m pc ls (.int k :: .int n :: rest)).pc = .ok (.multianewarray index 2, 4))]
  simp only [multianewarray.sem, wp_bind', W.resolveClassAt_links (State.method?_setTop (F0 m pc ls (.int k :: .int n :: rest)) X.here.top) hg]
  rw [W.popN, if_neg (by decide)]
  refine ⟨F0 m pc ls (.int k :: .int n :: rest), State.topJava?_setTop' (s := T.setVm vm1) _ X.here.top, [.int n, .int k], rest, rfl, rfl, ?_⟩
  simp only [List.mapM_cons, List.mapM_nil, wp_bind', wp_pure']
  have eS : ((T.setTop (F0 m pc ls (.int k :: .int n :: rest))).setVm vm1).setTop { F0 m pc ls (.int k :: .int n :: rest) with stack := rest } = (T.setVm vm1).setTop (F0 m pc ls rest) := by
    show ((T.setVm vm1).setTop _).setTop _ = _
    rw [State.setTop_setTop]
  rw [eS]
  refine gMake (u := T.setVm vm1) hN hM ha1 ha3 hc1 hc3 hn hk (big _ (by omega)) (big2 _ hb1) (big _ hb3) (big2 _ hb2) hdf room1 room2 (fun d' acts' => ?_)
  simp only [wp_bind', W.mark, W.pushRef, State.topJava?_setTop' _ XF.here.top, Option.some.injEq, exists_eq_left', State.setTop_setTop, State.heap_setTop]
  intro acts
  simp [jvm, XF.here.top]
  exact a1
variable {L : List Nat} {ca : Nat → ClassId} {ad : Nat → Int → Nat → Nat} {ln : Nat → Int → Nat → Nat} {N : Nat → Int} {F : zF} {B : zB} {X : va_W} {tys : List (ClassId × FieldType)}
theorem zxmna {own nm : String} {index : Nat} {ty : FieldType} (hx : p.tables.exec = Jvm.exec) (hb : c.code = cc) (hts : ∀ w ∈ wAll, w.before args s = true) (hown : s.vm.findClass own = some m.cls) (hnm : nm = "[" ++ (FieldType.array ty).toString) (hcl : Cond.classLink own index nm ∈ wAll) (hover : (Cond.arrayOver (.array ty)).before #[] s = true) (harr : Cond.arrayClass ty ∈ wAll)
    (hK : va_K D cls tys s) (t0 t1 : Nat) {c0 c1 : ClassId} (ht0 : tys[t0]? = some (c0, .array ty)) (ht1 : tys[t1]? = some (c1, ty)) (hr : ∀ U cA, va_RA U cA ty → U.vm.findClass (FieldType.array ty).toString = some cA) (hZ : zHx D ca ad ln N L F B X A H) (hS : va_S A H0 H locs) (hA : ∀ q, H0.size ≤ q → A q) {n k : Int32} {N' K' : Nat} {a0 : vp_A} (ha : ∀ cA : ClassId, vp_cell cA a0 = arrV cA K' (fun _ => defaultValue ty)) (hn : ¬ n < 0) (hk : ¬ k < 0) (hN : n.toNatClampNeg = N') (hM : k.toNatClampNeg = K')
    (hb1 : N' * 4 ≤ 536870912) (hb2 : K' * componentBytes ty ≤ 536870912) (hb3 : K' ≤ 536870912) (hdf : fits ty (defaultValue ty) = true) (hdd : (defaultValue ty).isDefault = true) (hcells : cells + (1 + N') ≤ R.cells) (hslots : slots + (N' + N' * K') ≤ R.slots) (hdg : decode cc pc = .ok (.multianewarray index 2, 4)) {g : Nat → Nat → Option Nat} (hg : ∀ q j, j < N' → g q j = some (q + 1 + j))
    (kk : ∀ (q : Nat) (H1 : Heap), zHx D ca ad ln N L F B (X ++ ((q, .inl (c0, N', .inr (.inr (.inr (.inr (g q)))))) :: (List.range N').map (fun j => (q + 1 + j, .inl (c1, a0))))) A H1 → va_S A H0 H1 locs → W p l e R s m args below meth c H1 locs (cells + 1 + N') (slots + N' + N' * K') Q (F0 m (pc + 4) ls (.ref q :: rest))) : W p l e R s m args below meth c H locs cells slots Q (F0 m pc ls (.int k :: .int n :: rest)) := by
  refine gmnaY hx hb hts hown hnm hcl hover harr hn hk hN hM hb1 hb2 hb3 hdf hdd hcells hslots hdg (fun H1 cA comp e1 e2 hz ho hq hrow => kk H.size H1 ?_ ?_)
  · obtain rfl : cA = c0 := Option.some.inj (e1.symm.trans (show s.vm.findClass ("[" ++ (FieldType.array ty).toString) = some c0 from (hK.2 t0 _ ht0).2))
    obtain rfl : comp = c1 := Option.some.inj (e2.symm.trans (hr s c1 (hK.2 t1 _ ht1).2))
    obtain ⟨hj, f, hP, hD, hR⟩ := hZ
    obtain ⟨dn, dA⟩ := vaD_mem.mp hD
    have lt : ∀ x ∈ X ++ va_pl L f, x.1 < H.size := fun x hx => (vaP_mem.mp hP x hx).lt
    have q1 : ∀ x ∈ X ++ va_pl L f, va_at D cls x H1 := fun x hx => (vaP_mem.mp hP x hx).kept (ho x.1 (lt x hx))
    refine ⟨hj, f, vaP_mem.mpr (fun x hx => ?_), vaD_mem.mpr ⟨?_, fun x hx => ?_⟩, hR⟩
    · rcases List.mem_append.mp hx with h | h
      · rcases List.mem_append.mp h with h | h
        · exact q1 x (List.mem_append.mpr (Or.inl h))
        · rcases List.mem_cons.mp h with rfl | h
          · show H1[H.size]? = some (vp_cell cA (N', _))
            rw [hq, vp_cell_q]
            congr 1
            unfold arrV
            congr 2
            funext j
            show (if j.val < N' then Value.ref (H.size + 1 + j.val) else Value.null) = va_rf (g H.size j.val)
            rw [if_pos j.isLt, hg _ _ j.isLt]
            rfl
          · obtain ⟨j, h1, rfl⟩ := List.mem_map.mp h
            show H1[H.size + 1 + j]? = some (vp_cell comp a0)
            rw [hrow j (List.mem_range.mp h1), ha]
      · exact q1 x (List.mem_append.mpr (Or.inr h))
    · rw [List.map_append, List.map_append, vapl_map, List.map_cons, List.map_map]
      rw [List.map_append, vapl_map] at dn
      obtain ⟨d1, d2, d3⟩ := List.nodup_append.mp dn
      have lX : ∀ u ∈ X.map Prod.fst, u < H.size := fun u hu => by obtain ⟨x, hx, rfl⟩ := List.mem_map.mp hu; exact lt x (List.mem_append.mpr (Or.inl hx))
      have lL : ∀ u ∈ L, u < H.size := fun u hu => lt (u, f u) (List.mem_append.mpr (Or.inr (vapl_mem.mpr ⟨hu, rfl⟩)))
      have hnew : ∀ u ∈ H.size :: (List.range N').map (Prod.fst ∘ fun j => ((H.size + 1 + j, Sum.inl (comp, a0)) : Nat × va_E)), H.size ≤ u := by
        intro u hu
        rcases List.mem_cons.mp hu with rfl | hu
        · exact Nat.le_refl _
        · obtain ⟨j, -, rfl⟩ := List.mem_map.mp hu
          show H.size ≤ H.size + 1 + j
          omega
      refine List.nodup_append.mpr ⟨List.nodup_append.mpr ⟨d1, List.nodup_cons.mpr ⟨fun hu => ?_, ?_⟩, fun u hu v hv e => ?_⟩, d2, fun u hu v hv e => ?_⟩
      · obtain ⟨j, -, h1⟩ := List.mem_map.mp hu
        have h1 : H.size + 1 + j = H.size := h1
        omega
      · refine List.pairwise_map.mpr (List.Pairwise.imp ?_ List.nodup_range)
        intro u v h e
        have e : H.size + 1 + u = H.size + 1 + v := e
        omega
      · have := lX u hu
        have := hnew v hv
        omega
      · rcases List.mem_append.mp hu with hu | hu
        · exact d3 u hu v hv e
        · have := hnew u hu
          have := lL v hv
          omega
    · rcases List.mem_append.mp hx with h | h
      · rcases List.mem_append.mp h with h | h
        · exact dA x (List.mem_append.mpr (Or.inl h))
        · refine hA _ (Nat.le_trans hS.1 ?_)
          rcases List.mem_cons.mp h with rfl | h
          · exact Nat.le_refl _
          · obtain ⟨j, h1, rfl⟩ := List.mem_map.mp h
            show H.size ≤ H.size + 1 + j
            omega
      · exact dA x (List.mem_append.mpr (Or.inr h))
  · exact ⟨by rw [hz]; exact Nat.le_trans hS.1 (by omega), fun x h1 h2 => (ho x (Nat.lt_of_lt_of_le h1 hS.1)).trans (hS.2.1 x h1 h2), hS.2.2⟩
end GMY
theorem ra_int (U : State) (cA : ClassId) (h : va_RA U cA .int) : U.vm.findClass (FieldType.array .int).toString = some cA := h
theorem ra_long (U : State) (cA : ClassId) (h : va_RA U cA .long) : U.vm.findClass (FieldType.array .long).toString = some cA := h

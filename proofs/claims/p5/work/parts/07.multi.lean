/-! ===== new T[n][k] that nobody looks into: the rows are made one by one into the outer array ===== -/
def gRow (comp : ClassId) (M : Nat) (dv : Value) : Cell := { cls := comp, slots := Array.replicate M dv }
def gPut (h0 i : Nat) (u : State) : State := match u.heap[h0]? with
  | some o => u.setCell h0 (o.setSlot i (.ref (u.heap.size - 1)))
  | none => u
def gRows (comp : ClassId) (M : Nat) (dv : Value) (h0 : Nat) (u : State) : Nat → State
  | 0 => u
  | i + 1 => gPut h0 i ((gRows comp M dv h0 u i).pushCell (gRow comp M dv))
theorem gPut_at {h0 i : Nat} {u : State} {o : Cell} (h : u.heap[h0]? = some o) : gPut h0 i u = u.setCell h0 (o.setSlot i (.ref (u.heap.size - 1))) := by
  unfold gPut
  rw [h]
theorem gRows_top {comp : ClassId} {M : Nat} {dv : Value} {h0 : Nat} {u : State} {f : JFrame} : ∀ i : Nat, gRows comp M dv h0 (u.setTop f) i = (gRows comp M dv h0 u i).setTop f := by
  intro i
  induction i with
  | zero => rfl
  | succ i ih =>
    show gPut h0 i ((gRows comp M dv h0 (u.setTop f) i).pushCell _) = (gPut h0 i ((gRows comp M dv h0 u i).pushCell _)).setTop f
    rw [ih, State.pushCell_setTop]
    generalize (gRows comp M dv h0 u i).pushCell (gRow comp M dv) = v
    unfold gPut
    rw [State.heap_setTop]
    cases hv : v.heap[h0]? with
    | none => rfl
    | some o => exact State.setCell_setTop ..
def gRI (cA : ClassId) (N M : Nat) (u : State) (i : Nat) (F : State) : Prop :=
  F.heap.size = u.heap.size + 1 + i ∧ (∃ o : Cell, F.heap[u.heap.size]? = some o ∧ o.cls = cA ∧ o.vm = .none ∧ o.slots.size = N) ∧ (∀ x : Nat, x < u.heap.size → F.heap[x]? = u.heap[x]?) ∧ F.vm = u.vm ∧ F.slotsUsed = u.slotsUsed + N + i * M
theorem gRows_inv {cA comp : ClassId} {N M : Nat} {dv : Value} {u : State} : ∀ i : Nat, gRI cA N M u i (gRows comp M dv u.heap.size (u.pushCell { cls := cA, slots := Array.replicate N .null }) i) := by
  intro i
  induction i with
  | zero =>
    refine ⟨?_, ⟨_, State.heap_pushCell_size _ _, rfl, rfl, by simp⟩, fun x hx => State.heap_pushCell_of_lt _ _ hx, rfl, ?_⟩
    · show (u.heap.push _).size = _
      simp
    · show u.slotsUsed + (Array.replicate N Value.null).size = _
      simp
  | succ i ih =>
    obtain ⟨z1, ⟨o, o1, o2, o3, o4⟩, z3, z4, z5⟩ := ih
    show gRI cA N M u (i + 1) (gPut u.heap.size i ((gRows comp M dv u.heap.size (u.pushCell { cls := cA, slots := Array.replicate N .null }) i).pushCell (gRow comp M dv)))
    generalize gRows comp M dv u.heap.size (u.pushCell { cls := cA, slots := Array.replicate N .null }) i = F at z1 o1 z3 z4 z5 ⊢
    have hlt : u.heap.size < F.heap.size := by omega
    have ho : (F.pushCell (gRow comp M dv)).heap[u.heap.size]? = some o := by rw [State.heap_pushCell_of_lt _ _ hlt]; exact o1
    have hz : (F.pushCell (gRow comp M dv)).heap.size = u.heap.size + 1 + (i + 1) := by
      show (F.heap.push _).size = _
      rw [Array.size_push, z1]
      omega
    rw [gPut_at ho]
    refine ⟨?_, ⟨_, State.heap_setCell_self ho, o2, o3, ?_⟩, fun x hx => ?_, z4, ?_⟩
    · rw [← hz]
      simp [State.setCell]
    · simp [Cell.setSlot, o4]
    · rw [State.heap_setCell_other (Nat.ne_of_gt hx), State.heap_pushCell_of_lt _ _ (Nat.lt_trans hx hlt)]
      exact z3 x hx
    · show F.slotsUsed + (Array.replicate M dv).size = _
      rw [z5, Array.size_replicate, Nat.succ_mul]
      omega
section GMN
variable {p : Program} {l : Launch} {e : Env} {R : Room} {s : State} {m : MethodId} {args : Array Value} {below : List Frame} {meth : Method} {c : Code} {H : Heap} {locs : List Loc} {cells slots : Nat} {Q : State → Prop}
variable {cc : ByteArray} {pc : Nat} {ls : Array Slot} {rest : List Value} {D : va_G} {A : Nat → Prop} {ws : va_W} {H0 : Heap}
theorem gRows_stand {T : State} {cA comp : ClassId} {N M : Nat} {dv : Value} (X : Stand p l e R s m args below meth c T locs cells slots) : ∀ i : Nat, Stand p l e R s m args below meth c (gRows comp M dv T.heap.size (T.pushCell { cls := cA, slots := Array.replicate N .null }) i) locs (cells + 1 + i) (slots + N + i * M) := by
  intro i
  induction i with
  | zero => simpa [gRows] using X.pushed { cls := cA, slots := Array.replicate N .null }
  | succ i ih =>
    obtain ⟨z1, ⟨o, o1, -⟩, -⟩ := gRows_inv (cA := cA) (comp := comp) (N := N) (M := M) (dv := dv) (u := T) i
    have hlt : T.heap.size < (gRows comp M dv T.heap.size (T.pushCell { cls := cA, slots := Array.replicate N .null }) i).heap.size := by omega
    have ho := (State.heap_pushCell_of_lt _ (gRow comp M dv) hlt).trans o1
    have h := ((ih.pushed (gRow comp M dv)).stored ho i (.ref (((gRows comp M dv T.heap.size (T.pushCell { cls := cA, slots := Array.replicate N .null }) i).pushCell (gRow comp M dv)).heap.size - 1))).dropFresh (fun x hx => by
      obtain rfl := List.mem_singleton.mp hx
      exact X.heapGrown)
    rw [← gPut_at ho] at h
    have e1 : cells + 1 + i + 1 = cells + 1 + (i + 1) := by omega
    have e2 : slots + N + i * M + (gRow comp M dv).slots.size = slots + N + (i + 1) * M := by
      show slots + N + i * M + (Array.replicate M dv).size = _
      rw [Array.size_replicate, Nat.succ_mul]
      omega
    rw [e1, e2] at h
    exact h
theorem gOver {U : State} {ty : FieldType} (h : (Cond.arrayOver (.array ty)).before args U = true) : ∃ (cA comp : ClassId) (k : Class), U.vm.findClass (FieldType.array ty).toString = some comp ∧ U.vm.findClass ("[" ++ (FieldType.array ty).toString) = some cA ∧ U.vm.classes[cA]? = some k ∧ k.kind = .array comp (.array ty) := by
  unfold Cond.before Cond.holds Cond.value at h
  cases hc : U.vm.findClass (FieldType.array ty).toString with
  | none => simp [hc] at h
  | some comp =>
    simp only [hc, Option.bind_some, Option.bind_eq_some_iff, Option.map_eq_some_iff, beq_iff_eq] at h
    obtain ⟨cA, hi, k, hk, hb⟩ := h
    have hp := (Array.findIdx?_eq_some_iff_getElem.mp hi).2.1
    rw [(Array.getElem?_eq_some_iff.mp hk).2] at hp
    cases hd : k.kind with
    | array c1 t1 =>
      simp [hd] at hb hp
      exact ⟨cA, comp, k, rfl, hb.2, hk, by rw [hd, hp, hb.1]⟩
    | _ => simp [hd] at hb
theorem gRefFits {ty : FieldType} {v : Value} (hv : v = .null ∨ ∃ a, v = .ref a) : fits (.array ty) v = true := by
  rcases hv with rfl | ⟨a, rfl⟩ <;> rfl
/-- one row: 'make comp [k]' over any state with room for it -/
theorem gMakeRow {E : CtlPost} {d : Bool} {acts : List Action} {u : State} {comp c3 : ClassId} {kC : Class} {ty : FieldType} {k : Int32} (h1 : u.vm.classes[comp]? = some kC) (h2 : kC.kind = .array c3 ty) (hk : ¬ k < 0) (hl : ¬ k.toNatClampNeg > e.platform.arrayLengthLimit) (hh : ¬ k.toNatClampNeg * componentBytes ty > e.platform.maxHeapBytes) (hdf : fits ty (defaultValue ty) = true)
    (hc : u.heap.size < e.platform.maxCells) (hs : u.slotsUsed + k.toNatClampNeg ≤ e.platform.maxSlots) {Q : Addr → Pre} (hq : ∀ acts', Q u.heap.size d acts' (u.pushCell (gRow comp k.toNatClampNeg (defaultValue ty)))) : wp (multianewarray.make comp [k]) Q E e d acts u := by
  rw [multianewarray.make]
  simp only [wp_bind', W.ite, hk, if_false, wp_pure', W.theClass, h1, h2, Option.some.injEq, exists_eq_left']
  exact W.newArray_of h1 h2 hl hh hc hs hdf hq
theorem gMake {E : CtlPost} {d : Bool} {acts : List Action} {u : State} {f : JFrame} {cA comp c3 : ClassId} {kA kC : Class} {ty : FieldType} {n k : Int32} {N M : Nat} (hN : n.toNatClampNeg = N) (hM : k.toNatClampNeg = M) (a1 : u.vm.classes[cA]? = some kA) (a2 : kA.kind = .array comp (.array ty)) (h1 : u.vm.classes[comp]? = some kC) (h2 : kC.kind = .array c3 ty) (hn : ¬ n < 0) (hk : ¬ k < 0)
    (hl1 : ¬ N > e.platform.arrayLengthLimit) (hh1 : ¬ N * componentBytes (.array ty) > e.platform.maxHeapBytes) (hl2 : ¬ M > e.platform.arrayLengthLimit) (hh2 : ¬ M * componentBytes ty > e.platform.maxHeapBytes) (hdf : fits ty (defaultValue ty) = true)
    (hc : u.heap.size + (1 + N) ≤ e.platform.maxCells) (hs : u.slotsUsed + (N + N * M) ≤ e.platform.maxSlots) {Q : Addr → Pre} (hq : ∀ d' acts', Q u.heap.size d' acts' ((gRows comp M (defaultValue ty) u.heap.size (u.pushCell { cls := cA, slots := Array.replicate N .null }) N).setTop f)) : wp (multianewarray.make cA [n, k]) Q E e d acts (u.setTop f) := by
  have hno : [k].find? (· < 0) = none := by simp [hk]
  have v0 : (u.setTop f).vm = u.vm := rfl
  have s0 : (u.setTop f).slotsUsed = u.slotsUsed := rfl
  rw [multianewarray.make]
  simp only [wp_bind', W.ite, hn, if_false, wp_pure', W.theClass, v0, a1, a2, Option.some.injEq, exists_eq_left']
  rw [hN]
  refine W.newArray_of (by rw [v0]; exact a1) a2 hl1 hh1 (by rw [State.heap_setTop]; omega) (by rw [s0]; have := Nat.zero_le (N * M); omega) (gRefFits (Or.inl rfl)) (fun acts' => ?_)
  simp only [hno, ite_self, wp_bind', Std.Legacy.Range.forIn_eq_forIn_range', State.heap_setTop]
  rw [State.pushCell_setTop]
  generalize hO : u.pushCell { cls := cA, slots := Array.replicate N .null } = O at hq ⊢
  have hsz : ([:N] : Std.Legacy.Range).size = N := by simp [Std.Legacy.Range.size]
  rw [hsz]
  refine wp_forIn_inv (fun rest w => ∃ i, i ≤ N ∧ rest = List.range' i (N - i) ∧ w = (gRows comp M (defaultValue ty) u.heap.size O i).setTop f) _ _ ⟨0, Nat.zero_le _, rfl, rfl⟩ ?_ ?_
  · intro x rest w d' acts2 Q2 hI hnext
    obtain ⟨i, hi, hr, rfl⟩ := hI
    have hlt : i < N := by
      rcases Nat.lt_or_ge i N with h | h
      · exact h
      · rw [Nat.sub_eq_zero_of_le h] at hr
        cases hr
    rw [show N - i = (N - (i + 1)) + 1 by omega, List.range'_succ] at hr
    obtain ⟨rfl, rfl⟩ := List.cons.inj hr
    have I := gRows_inv (cA := cA) (comp := comp) (N := N) (M := M) (dv := defaultValue ty) (u := u) x
    rw [hO] at I
    have hnx : (gRows comp M (defaultValue ty) u.heap.size O (x + 1)) = gPut u.heap.size x ((gRows comp M (defaultValue ty) u.heap.size O x).pushCell (gRow comp M (defaultValue ty))) := rfl
    have hnext := hnext (((gRows comp M (defaultValue ty) u.heap.size O (x + 1))).setTop f)
    generalize gRows comp M (defaultValue ty) u.heap.size O x = F at I hnx ⊢
    obtain ⟨z1, ⟨o, o1, o2, o3, o4⟩, z3, z4, z5⟩ := I
    have hmul : x * M + M ≤ N * M := by
      have h := Nat.mul_le_mul_right M (show x + 1 ≤ N from hlt)
      rw [Nat.succ_mul] at h
      exact h
    have v1 : (F.setTop f).vm = F.vm := rfl
    have s1 : (F.setTop f).slotsUsed = F.slotsUsed := rfl
    simp only [wp_bind']
    refine gMakeRow (by rw [v1, z4]; exact h1) h2 hk (by rw [hM]; exact hl2) (by rw [hM]; exact hh2) hdf (by rw [State.heap_setTop, z1]; omega) (by rw [s1, z5, hM]; omega) (fun acts3 => ?_)
    rw [hM, State.pushCell_setTop, State.heap_setTop]
    have hl0 : u.heap.size < F.heap.size := by omega
    have ho : (F.pushCell (gRow comp M (defaultValue ty))).heap[u.heap.size]? = some o := (State.heap_pushCell_of_lt _ _ hl0).trans o1
    simp only [wp_bind', W.writeLoc, wp_pure']
    refine ⟨o, by rw [State.heap_setTop]; exact ho, by rw [o3]; simp, by rw [o4]; exact hlt, ?_, ?_⟩
    · have v2 : ((F.pushCell (gRow comp M (defaultValue ty))).setTop f).vm = F.vm := rfl
      simp [State.fitsSlot, State.slotType?, o2, o3, v2, z4, a1, a2, gRefFits (Or.inr ⟨_, rfl⟩)]
    · have e9 : (((F.pushCell (gRow comp M (defaultValue ty))).setTop f).setCell u.heap.size (o.setSlot x (.ref F.heap.size))) = (gRows comp M (defaultValue ty) u.heap.size O (x + 1)).setTop f := by
        rw [hnx, gPut_at ho, State.setCell_setTop]
        have z9 : (F.pushCell (gRow comp M (defaultValue ty))).heap.size - 1 = F.heap.size := by
          show (F.heap.push _).size - 1 = _
          simp
        rw [z9]
      rw [e9]
      exact hnext _ _ ⟨x + 1, hlt, rfl, rfl⟩
  · intro w d' acts2 hI
    obtain ⟨i, hi, hr, rfl⟩ := hI
    have hz : N - i = 0 := by
      have h := congrArg List.length hr
      simpa using h.symm
    obtain rfl : i = N := by omega
    simp only [wp_pure']
    exact hq _ _
theorem gmnaX {own nm : String} {index : Nat} {ty : FieldType} (hx : p.tables.exec = Jvm.exec) (hb : c.code = cc) (hts : ∀ w ∈ wAll, w.before args s = true) (hown : s.vm.findClass own = some m.cls) (hnm : nm = "[" ++ (FieldType.array ty).toString) (hcl : Cond.classLink own index nm ∈ wAll) (hover : (Cond.arrayOver (.array ty)).before #[] s = true) (harr : Cond.arrayClass ty ∈ wAll)
    (hP : va_P D cls ws H) (hS : va_S A H0 H locs) {n k : Int32} {N' K' : Nat} (hn : ¬ n < 0) (hk : ¬ k < 0) (hN : n.toNatClampNeg = N') (hM : k.toNatClampNeg = K')
    (hb1 : N' * 4 ≤ 536870912) (hb2 : K' * componentBytes ty ≤ 536870912) (hb3 : K' ≤ 536870912) (hdf : fits ty (defaultValue ty) = true) (hdd : (defaultValue ty).isDefault = true) (hcells : cells + (1 + N') ≤ R.cells) (hslots : slots + (N' + N' * K') ≤ R.slots) (hdg : decode cc pc = .ok (.multianewarray index 2, 4))
    (kk : ∀ (q : Nat) (H1 : Heap), va_P D cls ws H1 → va_S A H0 H1 locs → W p l e R s m args below meth c H1 locs (cells + 1 + N') (slots + N' + N' * K') Q (F0 m (pc + 4) ls (.ref q :: rest))) : W p l e R s m args below meth c H locs cells slots Q (F0 m pc ls (.int k :: .int n :: rest)) := by
  subst hnm
  intro T hT X
  obtain ⟨cA, comp, kA, g1, g2, g3, g4⟩ := gOver hover
  obtain ⟨comp', kC, c3, r1, r2, r3⟩ := Cond.arrayClass_spec (hts _ harr)
  obtain rfl : comp = comp' := Option.some.inj (g1.symm.trans r1)
  obtain ⟨c4, q1, q2⟩ := Cond.classLink_spec hown (hts _ hcl) e.platform (by rw [X.admits.platform])
  obtain rfl : cA = c4 := Option.some.inj (g2.symm.trans q1)
  obtain ⟨hg, hW, -⟩ := State.classEntry (e := e) X.warmed q2
  generalize T.vm.noted m.cls index (.cls cA) = vm1 at hg hW
  have X1 := X.noted hW
  obtain ⟨kA1, ha1, ha2⟩ := hW.alike.2.2 _ _ g3
  obtain ⟨kC1, hc1, hc2⟩ := hW.alike.2.2 _ _ r2
  have ha3 : kA1.kind = .array comp (.array ty) := by rw [ha2]; exact g4
  have hc3 : kC1.kind = .array c3 ty := by rw [hc2]; exact r3
  obtain ⟨room1, room2⟩ := X.roomAbove hcells hslots
  have big : ∀ x : Nat, x ≤ 536870912 → ¬ x > e.platform.arrayLengthLimit := fun x h => by rw [Launch.admits_arrayLengthLimit X.admits]; omega
  have big2 : ∀ x : Nat, x ≤ 536870912 → ¬ x > e.platform.maxHeapBytes := fun x h => by rw [Launch.admits_maxHeapBytes X.admits]; omega
  have XF := gRows_stand (cA := cA) (comp := comp) (N := N') (M := K') (dv := defaultValue ty) X1 N'
  have hF := gRows_inv (cA := cA) (comp := comp) (N := N') (M := K') (dv := defaultValue ty) (u := T.setVm vm1) N'
  have hTh : (T.setVm vm1).heap = H := hT
  obtain ⟨t, a1, b1⟩ := kk T.heap.size _ (hP.kept (fun k9 x h9 => by rw [← hTh]; exact hF.2.2.1 x.1 (by rw [hTh]; exact (hP k9 x h9).lt))) ⟨by rw [hF.1, hTh]; exact Nat.le_trans hS.1 (by omega), fun x h1 h2 => by
    rw [hF.2.2.1 x (by rw [hTh]; exact Nat.lt_of_lt_of_le h1 hS.1), hTh]; exact hS.2.1 x h1 h2, hS.2.2⟩ _ rfl XF
  refine ⟨t, ?_, b1⟩
  jvm_step X.here [hx, (by rw [hb]; exact hdg : decode c.code (F0 m pc ls (.int k :: .int n :: rest)).pc = .ok (.multianewarray index 2, 4))]
  simp only [multianewarray.sem, wp_bind', W.resolveClassAt_links (State.method?_setTop (F0 m pc ls (.int k :: .int n :: rest)) X.here.top) hg]
  rw [W.popN, if_neg (by decide)]
  refine ⟨F0 m pc ls (.int k :: .int n :: rest), State.topJava?_setTop' (s := T.setVm vm1) _ X.here.top, [.int n, .int k], rest, rfl, rfl, ?_⟩
  simp only [List.mapM_cons, List.mapM_nil, wp_bind', wp_pure']
  have eS : ((T.setTop (F0 m pc ls (.int k :: .int n :: rest))).setVm vm1).setTop { F0 m pc ls (.int k :: .int n :: rest) with stack := rest } = (T.setVm vm1).setTop (F0 m pc ls rest) := by
    show ((T.setVm vm1).setTop _).setTop _ = _
    rw [State.setTop_setTop]
  rw [eS]
  refine gMake (u := T.setVm vm1) hN hM ha1 ha3 hc1 hc3 hn hk (big _ (by omega)) (big2 _ hb1) (big _ hb3) (big2 _ hb2) hdf room1 room2 (fun d' acts' => ?_)
  simp only [wp_bind', W.mark, W.pushRef, State.topJava?_setTop' _ XF.here.top, Option.some.injEq, exists_eq_left', State.setTop_setTop, State.heap_setTop]
  intro acts
  simp [jvm, XF.here.top]
  exact a1
end GMN

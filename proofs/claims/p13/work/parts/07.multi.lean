section
/-! ===== new T[n][k] that nobody looks into: the rows are made one by one into the outer array ===== -/
def gRow (comp : ClassId) (M : Nat) (dv : Value) : Cell := { cls := comp, slots := Array.replicate M dv }
def gPut (h0 i : Nat) (u : State) : State := match u.heap[h0]? with
  | some o => u.setCell h0 (o.setSlot i (.ref (u.heap.size - 1)))
  | none => u
def gRows (comp : ClassId) (M : Nat) (dv : Value) (h0 : Nat) (u : State) : Nat → State
  | 0 => u
  | i + 1 => gPut h0 i ((gRows comp M dv h0 u i).pushCell (gRow comp M dv))
theorem gPut_at {h0 i : Nat} {u : State} {o : Cell} (h : u.heap[h0]? = some o) : gPut h0 i u = u.setCell h0 (o.setSlot i (.ref (u.heap.size - 1))) := by
  unfold gPut
  rw [h]
theorem gRows_top {comp : ClassId} {M : Nat} {dv : Value} {h0 : Nat} {u : State} {f : JFrame} : ∀ i : Nat, gRows comp M dv h0 (u.setTop f) i = (gRows comp M dv h0 u i).setTop f := by
  intro i
  induction i with
  | zero => rfl
  | succ i ih =>
    show gPut h0 i ((gRows comp M dv h0 (u.setTop f) i).pushCell _) = (gPut h0 i ((gRows comp M dv h0 u i).pushCell _)).setTop f
    rw [ih, State.pushCell_setTop]
    generalize (gRows comp M dv h0 u i).pushCell (gRow comp M dv) = v
    unfold gPut
    rw [State.heap_setTop]
    cases hv : v.heap[h0]? with
    | none => rfl
    | some o => exact State.setCell_setTop ..
def gRI (cA : ClassId) (N M : Nat) (u : State) (i : Nat) (F : State) : Prop :=
  F.heap.size = u.heap.size + 1 + i ∧ (∃ o : Cell, F.heap[u.heap.size]? = some o ∧ o.cls = cA ∧ o.vm = .none ∧ o.slots.size = N) ∧ (∀ x : Nat, x < u.heap.size → F.heap[x]? = u.heap[x]?) ∧ F.vm = u.vm ∧ F.slotsUsed = u.slotsUsed + N + i * M
theorem gRows_inv {cA comp : ClassId} {N M : Nat} {dv : Value} {u : State} : ∀ i : Nat, gRI cA N M u i (gRows comp M dv u.heap.size (u.pushCell { cls := cA, slots := Array.replicate N .null }) i) := by
  intro i
  induction i with
  | zero =>
    refine ⟨?_, ⟨_, State.heap_pushCell_size _ _, rfl, rfl, by simp⟩, fun x hx => State.heap_pushCell_of_lt _ _ hx, rfl, ?_⟩
    · show (u.heap.push _).size = _
      simp
    · show u.slotsUsed + (Array.replicate N Value.null).size = _
      simp
  | succ i ih =>
    obtain ⟨z1, ⟨o, o1, o2, o3, o4⟩, z3, z4, z5⟩ := ih
    show gRI cA N M u (i + 1) (gPut u.heap.size i ((gRows comp M dv u.heap.size (u.pushCell { cls := cA, slots := Array.replicate N .null }) i).pushCell (gRow comp M dv)))
    generalize gRows comp M dv u.heap.size (u.pushCell { cls := cA, slots := Array.replicate N .null }) i = F at z1 o1 z3 z4 z5 ⊢
    have hlt : u.heap.size < F.heap.size := by omega
    have ho : (F.pushCell (gRow comp M dv)).heap[u.heap.size]? = some o := by rw [State.heap_pushCell_of_lt _ _ hlt]; exact o1
    have hz : (F.pushCell (gRow comp M dv)).heap.size = u.heap.size + 1 + (i + 1) := by
      show (F.heap.push _).size = _
      rw [Array.size_push, z1]
      omega
    rw [gPut_at ho]
    refine ⟨?_, ⟨_, State.heap_setCell_self ho, o2, o3, ?_⟩, fun x hx => ?_, z4, ?_⟩
    · rw [← hz]
      simp [State.setCell]
    · simp [Cell.setSlot, o4]
    · rw [State.heap_setCell_other (Nat.ne_of_gt hx), State.heap_pushCell_of_lt _ _ (Nat.lt_trans hx hlt)]
      exact z3 x hx
    · show F.slotsUsed + (Array.replicate M dv).size = _
      rw [z5, Array.size_replicate, Nat.succ_mul]
      omega
section GMN
variable {p : Program} {l : Launch} {e : Env} {R : Room} {s : State} {m : MethodId} {args : Array Value} {below : List Frame} {meth : Method} {c : Code} {H : Heap} {locs : List Loc} {cells slots : Nat} {Q : State → Prop}
variable {cc : ByteArray} {pc : Nat} {ls : Array Slot} {rest : List Value} {D : va_G} {A : Nat → Prop} {ws : va_W} {H0 : Heap}
theorem gRows_stand {T : State} {cA comp : ClassId} {N M : Nat} {dv : Value} (X : Stand p l e R s m args below meth c T locs cells slots) : ∀ i : Nat, Stand p l e R s m args below meth c (gRows comp M dv T.heap.size (T.pushCell { cls := cA, slots := Array.replicate N .null }) i) locs (cells + 1 + i) (slots + N + i * M) := by
  intro i
  induction i with
  | zero => simpa [gRows] using X.pushed { cls := cA, slots := Array.replicate N .null }
  | succ i ih =>
    obtain ⟨z1, ⟨o, o1, -⟩, -⟩ := gRows_inv (cA := cA) (comp := comp) (N := N) (M := M) (dv := dv) (u := T) i
    have hlt : T.heap.size < (gRows comp M dv T.heap.size (T.pushCell { cls := cA, slots := Array.replicate N .null }) i).heap.size := by omega
    have ho := (State.heap_pushCell_of_lt _ (gRow comp M dv) hlt).trans o1
    have h := ((ih.pushed (gRow comp M dv)).stored ho i (.ref (((gRows comp M dv T.heap.size (T.pushCell { cls := cA, slots := Array.replicate N .null }) i).pushCell (gRow comp M dv)).heap.size - 1))).dropFresh (fun x hx => by
      obtain rfl := List.mem_singleton.mp hx
      exact X.heapGrown)
    rw [← gPut_at ho] at h
    have e1 : cells + 1 + i + 1 = cells + 1 + (i + 1) := by omega
    have e2 : slots + N + i * M + (gRow comp M dv).slots.size = slots + N + (i + 1) * M := by
      show slots + N + i * M + (Array.replicate M dv).size = _
      rw [Array.size_replicate, Nat.succ_mul]
      omega
    rw [e1, e2] at h
    exact h
theorem gOver {U : State} {ty : FieldType} (h : (Cond.arrayOver (.array ty)).before args U = true) : ∃ (cA comp : ClassId) (k : Class), U.vm.findClass (FieldType.array ty).toString = some comp ∧ U.vm.findClass ("[" ++ (FieldType.array ty).toString) = some cA ∧ U.vm.classes[cA]? = some k ∧ k.kind = .array comp (.array ty) := by
  unfold Cond.before Cond.holds Cond.value at h
  cases hc : U.vm.findClass (FieldType.array ty).toString with
  | none => simp [hc] at h
  | some comp =>
    simp only [hc, Option.bind_some, Option.bind_eq_some_iff, Option.map_eq_some_iff, beq_iff_eq] at h
    obtain ⟨cA, hi, k, hk, hb⟩ := h
    have hp := (Array.findIdx?_eq_some_iff_getElem.mp hi).2.1
    rw [(Array.getElem?_eq_some_iff.mp hk).2] at hp
    cases hd : k.kind with
    | array c1 t1 =>
      simp [hd] at hb hp
      exact ⟨cA, comp, k, rfl, hb.2, hk, by rw [hd, hp, hb.1]⟩
    | _ => simp [hd] at hb
theorem gRefFits {ty : FieldType} {v : Value} (hv : v = .null ∨ ∃ a, v = .ref a) : fits (.array ty) v = true := by
  rcases hv with rfl | ⟨a, rfl⟩ <;> rfl
/-- one row: 'make comp [k]' over any state with room for it -/
theorem gMakeRow {E : CtlPost} {d : Bool} {acts : List Action} {u : State} {comp c3 : ClassId} {kC : Class} {ty : FieldType} {k : Int32} (h1 : u.vm.classes[comp]? = some kC) (h2 : kC.kind = .array c3 ty) (hk : ¬ k < 0) (hl : ¬ k.toNatClampNeg > e.platform.arrayLengthLimit) (hh : ¬ k.toNatClampNeg * componentBytes ty > e.platform.maxHeapBytes) (hdf : fits ty (defaultValue ty) = true)
    (hc : u.heap.size < e.platform.maxCells) (hs : u.slotsUsed + k.toNatClampNeg ≤ e.platform.maxSlots) {Q : Addr → Pre} (hq : ∀ acts', Q u.heap.size d acts' (u.pushCell (gRow comp k.toNatClampNeg (defaultValue ty)))) : wp (multianewarray.make comp [k]) Q E e d acts u := by
  rw [multianewarray.make]
  simp only [wp_bind', W.ite, hk, if_false, wp_pure', W.theClass, h1, h2, Option.some.injEq, exists_eq_left']
  exact W.newArray_of h1 h2 hl hh hc hs hdf hq
theorem gMake {E : CtlPost} {d : Bool} {acts : List Action} {u : State} {f : JFrame} {cA comp c3 : ClassId} {kA kC : Class} {ty : FieldType} {n k : Int32} {N M : Nat} (hN : n.toNatClampNeg = N) (hM : k.toNatClampNeg = M) (a1 : u.vm.classes[cA]? = some kA) (a2 : kA.kind = .array comp (.array ty)) (h1 : u.vm.classes[comp]? = some kC) (h2 : kC.kind = .array c3 ty) (hn : ¬ n < 0) (hk : ¬ k < 0)
    (hl1 : ¬ N > e.platform.arrayLengthLimit) (hh1 : ¬ N * componentBytes (.array ty) > e.platform.maxHeapBytes) (hl2 : ¬ M > e.platform.arrayLengthLimit) (hh2 : ¬ M * componentBytes ty > e.platform.maxHeapBytes) (hdf : fits ty (defaultValue ty) = true)
    (hc : u.heap.size + (1 + N) ≤ e.platform.maxCells) (hs : u.slotsUsed + (N + N * M) ≤ e.platform.maxSlots) {Q : Addr → Pre} (hq : ∀ d' acts', Q u.heap.size d' acts' ((gRows comp M (defaultValue ty) u.heap.size (u.pushCell { cls := cA, slots := Array.replicate N .null }) N).setTop f)) : wp (multianewarray.make cA [n, k]) Q E e d acts (u.setTop f) := by
  have hno : [k].find? (· < 0) = none := by simp [hk]
  have v0 : (u.setTop f).vm = u.vm := rfl
  have s0 : (u.setTop f).slotsUsed = u.slotsUsed := rfl
  rw [multianewarray.make]
  simp only [wp_bind', W.ite, hn, if_false, wp_pure', W.theClass, v0, a1, a2, Option.some.injEq, exists_eq_left']
  rw [hN]
  refine W.newArray_of (by rw [v0]; exact a1) a2 hl1 hh1 (by rw [State.heap_setTop]; omega) (by rw [s0]; have := Nat.zero_le (N * M); omega) (gRefFits (Or.inl rfl)) (fun acts' => ?_)
  simp only [hno, ite_self, wp_bind', Std.Legacy.Range.forIn_eq_forIn_range', State.heap_setTop]
  rw [State.pushCell_setTop]
  generalize hO : u.pushCell { cls := cA, slots := Array.replicate N .null } = O at hq ⊢
  have hsz : ([:N] : Std.Legacy.Range).size = N := by simp [Std.Legacy.Range.size]
  rw [hsz]
  refine wp_forIn_inv (fun rest w => ∃ i, i ≤ N ∧ rest = List.range' i (N - i) ∧ w = (gRows comp M (defaultValue ty) u.heap.size O i).setTop f) _ _ ⟨0, Nat.zero_le _, rfl, rfl⟩ ?_ ?_
  · intro x rest w d' acts2 Q2 hI hnext
    obtain ⟨i, hi, hr, rfl⟩ := hI
    have hlt : i < N := by
      rcases Nat.lt_or_ge i N with h | h
      · exact h
      · rw [Nat.sub_eq_zero_of_le h] at hr
        cases hr
    rw [show N - i = (N - (i + 1)) + 1 by omega, List.range'_succ] at hr
    obtain ⟨rfl, rfl⟩ := List.cons.inj hr
    have I := gRows_inv (cA := cA) (comp := comp) (N := N) (M := M) (dv := defaultValue ty) (u := u) x
    rw [hO] at I
    have hnx : (gRows comp M (defaultValue ty) u.heap.size O (x + 1)) = gPut u.heap.size x ((gRows comp M (defaultValue ty) u.heap.size O x).pushCell (gRow comp M (defaultValue ty))) := rfl
    have hnext := hnext (((gRows comp M (defaultValue ty) u.heap.size O (x + 1))).setTop f)
    generalize gRows comp M (defaultValue ty) u.heap.size O x = F at I hnx ⊢
    obtain ⟨z1, ⟨o, o1, o2, o3, o4⟩, z3, z4, z5⟩ := I
    have hmul : x * M + M ≤ N * M := by
      have h := Nat.mul_le_mul_right M (show x + 1 ≤ N from hlt)
      rw [Nat.succ_mul] at h
      exact h
    have v1 : (F.setTop f).vm = F.vm := rfl
    have s1 : (F.setTop f).slotsUsed = F.slotsUsed := rfl
    simp only [wp_bind']
    refine gMakeRow (by rw [v1, z4]; exact h1) h2 hk (by rw [hM]; exact hl2) (by rw [hM]; exact hh2) hdf (by rw [State.heap_setTop, z1]; omega) (by rw [s1, z5, hM]; omega) (fun acts3 => ?_)
    rw [hM, State.pushCell_setTop, State.heap_setTop]
    have hl0 : u.heap.size < F.heap.size := by omega
    have ho : (F.pushCell (gRow comp M (defaultValue ty))).heap[u.heap.size]? = some o := (State.heap_pushCell_of_lt _ _ hl0).trans o1
    simp only [wp_bind', W.writeLoc, wp_pure']
    refine ⟨o, by rw [State.heap_setTop]; exact ho, by rw [o3]; simp, by rw [o4]; exact hlt, ?_, ?_⟩
    · have v2 : ((F.pushCell (gRow comp M (defaultValue ty))).setTop f).vm = F.vm := rfl
      simp [State.fitsSlot, State.slotType?, o2, o3, v2, z4, a1, a2, gRefFits (Or.inr ⟨_, rfl⟩)]
    · have e9 : (((F.pushCell (gRow comp M (defaultValue ty))).setTop f).setCell u.heap.size (o.setSlot x (.ref F.heap.size))) = (gRows comp M (defaultValue ty) u.heap.size O (x + 1)).setTop f := by
        rw [hnx, gPut_at ho, State.setCell_setTop]
        have z9 : (F.pushCell (gRow comp M (defaultValue ty))).heap.size - 1 = F.heap.size := by
          show (F.heap.push _).size - 1 = _
          simp
        rw [z9]
      rw [e9]
      exact hnext _ _ ⟨x + 1, hlt, rfl, rfl⟩
  · intro w d' acts2 hI
    obtain ⟨i, hi, hr, rfl⟩ := hI
    have hz : N - i = 0 := by
      have h := congrArg List.length hr
      simpa using h.symm
    obtain rfl : i = N := by omega
    simp only [wp_pure']
    exact hq _ _
theorem gmnaX {own nm : String} {index : Nat} {ty : FieldType} (hx : p.tables.exec = Jvm.exec) (hb : c.code = cc) (hts : ∀ w ∈ wAll, w.before args s = true) (hown : s.vm.findClass own = some m.cls) (hnm : nm = "[" ++ (FieldType.array ty).toString) (hcl : Cond.classLink own index nm ∈ wAll) (hover : (Cond.arrayOver (.array ty)).before #[] s = true) (harr : Cond.arrayClass ty ∈ wAll)
    (hP : va_P D cls ws H) (hS : va_S A H0 H locs) {n k : Int32} {N' K' : Nat} (hn : ¬ n < 0) (hk : ¬ k < 0) (hN : n.toNatClampNeg = N') (hM : k.toNatClampNeg = K')
    (hb1 : N' * 4 ≤ 536870912) (hb2 : K' * componentBytes ty ≤ 536870912) (hb3 : K' ≤ 536870912) (hdf : fits ty (defaultValue ty) = true) (hdd : (defaultValue ty).isDefault = true) (hcells : cells + (1 + N') ≤ R.cells) (hslots : slots + (N' + N' * K') ≤ R.slots) (hdg : decode cc pc = .ok (.multianewarray index 2, 4))
    (kk : ∀ (q : Nat) (H1 : Heap), va_P D cls ws H1 → va_S A H0 H1 locs → W p l e R s m args below meth c H1 locs (cells + 1 + N') (slots + N' + N' * K') Q (F0 m (pc + 4) ls (.ref q :: rest))) : W p l e R s m args below meth c H locs cells slots Q (F0 m pc ls (.int k :: .int n :: rest)) := by
  subst hnm
  intro T hT X
  obtain ⟨cA, comp, kA, g1, g2, g3, g4⟩ := gOver hover
  obtain ⟨comp', kC, c3, r1, r2, r3⟩ := Cond.arrayClass_spec (hts _ harr)
  obtain rfl : comp = comp' := Option.some.inj (g1.symm.trans r1)
  obtain ⟨c4, q1, q2⟩ := Cond.classLink_spec hown (hts _ hcl) e.platform (by rw [X.admits.platform])
  obtain rfl : cA = c4 := Option.some.inj (g2.symm.trans q1)
  obtain ⟨hg, hW, -⟩ := State.classEntry (e := e) X.warmed q2
  generalize T.vm.noted m.cls index (.cls cA) = vm1 at hg hW
  have X1 := X.noted hW
  obtain ⟨kA1, ha1, ha2⟩ := hW.alike.2.2 _ _ g3
  obtain ⟨kC1, hc1, hc2⟩ := hW.alike.2.2 _ _ r2
  have ha3 : kA1.kind = .array comp (.array ty) := by rw [ha2]; exact g4
  have hc3 : kC1.kind = .array c3 ty := by rw [hc2]; exact r3
  obtain ⟨room1, room2⟩ := X.roomAbove hcells hslots
  have big : ∀ x : Nat, x ≤ 536870912 → ¬ x > e.platform.arrayLengthLimit := fun x h => by rw [Launch.admits_arrayLengthLimit X.admits]; omega
  have big2 : ∀ x : Nat, x ≤ 536870912 → ¬ x > e.platform.maxHeapBytes := fun x h => by rw [Launch.admits_maxHeapBytes X.admits]; omega
  have XF := gRows_stand (cA := cA) (comp := comp) (N := N') (M := K') (dv := defaultValue ty) X1 N'
  have hF := gRows_inv (cA := cA) (comp := comp) (N := N') (M := K') (dv := defaultValue ty) (u := T.setVm vm1) N'
  have hTh : (T.setVm vm1).heap = H := hT
  obtain ⟨t, a1, b1⟩ := kk T.heap.size _ (hP.kept (fun k9 x h9 => by rw [← hTh]; exact hF.2.2.1 x.1 (by rw [hTh]; exact (hP k9 x h9).lt))) ⟨by rw [hF.1, hTh]; exact Nat.le_trans hS.1 (by omega), fun x h1 h2 => by
    rw [hF.2.2.1 x (by rw [hTh]; exact Nat.lt_of_lt_of_le h1 hS.1), hTh]; exact hS.2.1 x h1 h2, hS.2.2⟩ _ rfl XF
  refine ⟨t, ?_, b1⟩
  jvm_step X.here [hx, (by rw [hb]; exact hdg : decode c.code (F0 m pc ls (.int k :: .int n :: rest)).pc = .ok (.multianewarray index 2, 4))]
  simp only [multianewarray.sem, wp_bind', W.resolveClassAt_links (State.method?_setTop (F0 m pc ls (.int k :: .int n :: rest)) X.here.top) hg]
  rw [W.popN, if_neg (by decide)]
  refine ⟨F0 m pc ls (.int k :: .int n :: rest), State.topJava?_setTop' (s := T.setVm vm1) _ X.here.top, [.int n, .int k], rest, rfl, rfl, ?_⟩
  simp only [List.mapM_cons, List.mapM_nil, wp_bind', wp_pure']
  have eS : ((T.setTop (F0 m pc ls (.int k :: .int n :: rest))).setVm vm1).setTop { F0 m pc ls (.int k :: .int n :: rest) with stack := rest } = (T.setVm vm1).setTop (F0 m pc ls rest) := by
    show ((T.setVm vm1).setTop _).setTop _ = _
    rw [State.setTop_setTop]
  rw [eS]
  refine gMake (u := T.setVm vm1) hN hM ha1 ha3 hc1 hc3 hn hk (big _ (by omega)) (big2 _ hb1) (big _ hb3) (big2 _ hb2) hdf room1 room2 (fun d' acts' => ?_)
  simp only [wp_bind', W.mark, W.pushRef, State.topJava?_setTop' _ XF.here.top, Option.some.injEq, exists_eq_left', State.setTop_setTop, State.heap_setTop]
  intro acts
  simp [jvm, XF.here.top]
  exact a1
end GMN
end
section
/-! ===== machine numbers by whole numbers ===== -/
def iI (z : Int) : Int32 := Int32.ofInt z
def lI (z : Int) : Int64 := Int64.ofInt z
abbrev r32 (z : Int) : Prop := -2147483648 ≤ z ∧ z < 2147483648
abbrev r64 (z : Int) : Prop := -9223372036854775808 ≤ z ∧ z < 9223372036854775808
theorem iI_to {z : Int} (h : r32 z) : (iI z).toInt = z := Int32.toInt_ofInt_of_le h.1 h.2
theorem lI_to {z : Int} (h : r64 z) : (lI z).toInt = z := Int64.toInt_ofInt_of_le h.1 h.2
theorem iI_of (x : Int32) : iI x.toInt = x := Int32.ofInt_toInt x
theorem lI_of (x : Int64) : lI x.toInt = x := Int64.ofInt_toInt x
theorem iI_add (a b : Int) : iI a + iI b = iI (a + b) := (Int32.ofInt_add a b).symm
theorem iI_sub (a b : Int) : iI a - iI b = iI (a - b) := (Int32.ofInt_sub a b).symm
theorem iI_mul (a b : Int) : iI a * iI b = iI (a * b) := (Int32.ofInt_mul a b).symm
theorem iI_neg (a : Int) : - iI a = iI (- a) := (Int32.ofInt_neg a).symm
theorem lI_add (a b : Int) : lI a + lI b = lI (a + b) := (Int64.ofInt_add a b).symm
theorem lI_sub (a b : Int) : lI a - lI b = lI (a - b) := (Int64.ofInt_sub a b).symm
theorem lI_mul (a b : Int) : lI a * lI b = lI (a * b) := (Int64.ofInt_mul a b).symm
theorem iI_lt {a b : Int} (ha : r32 a) (hb : r32 b) : iI a < iI b ↔ a < b := by rw [Int32.lt_iff_toInt_lt, iI_to ha, iI_to hb]
theorem iI_le {a b : Int} (ha : r32 a) (hb : r32 b) : iI a ≤ iI b ↔ a ≤ b := by rw [Int32.le_iff_toInt_le, iI_to ha, iI_to hb]
theorem iI_eq {a b : Int} (ha : r32 a) (hb : r32 b) : iI a = iI b ↔ a = b := by rw [← Int32.toInt_inj, iI_to ha, iI_to hb]
theorem iI_cl {a : Int} (h0 : 0 ≤ a) (h : a < 2147483648) : (iI a).toNatClampNeg = a.toNat := by
  rw [← Int32.toNat_toInt, iI_to ⟨by omega, h⟩]
theorem iI_in {a : Int} {n : Nat} (h0 : 0 ≤ a) (h1 : a < n) (hn : n ≤ 2147483647) : vp_in (iI a) n := by
  intro q
  rcases q with q | q
  · rw [show (0 : Int32) = iI 0 from rfl, iI_lt ⟨by omega, by omega⟩ ⟨by decide, by decide⟩] at q
    omega
  · rw [iI_cl h0 (by omega)] at q
    omega
theorem iI_div {a b : Int} (ha : r32 a) (hb : 0 < b) (hb2 : r32 b) : iI a / iI b = iI (a.tdiv b) := by
  apply Int32.toInt_inj.mp
  have h1 : r32 (a.tdiv b) := by
    have h3 : (a.tdiv b).natAbs ≤ a.natAbs := by rw [Int.natAbs_tdiv]; exact Nat.div_le_self _ _
    constructor
    · rcases Int.le_total 0 a with h | h
      · have := Int.tdiv_nonneg h (Int.le_of_lt hb); omega
      · omega
    · rcases Int.le_total 0 a with h | h
      · omega
      · have h4 : (-a).tdiv b = -(a.tdiv b) := Int.neg_tdiv a b
        have := Int.tdiv_nonneg (show 0 ≤ -a by omega) (Int.le_of_lt hb); omega
  rw [iI_to h1, Int32.toInt_div, iI_to ha, iI_to hb2]
  rw [Int.bmod_eq_of_le] <;> omega
theorem iI_rem {a b : Int} (ha : r32 a) (hb2 : r32 b) : iI a % iI b = iI (a.tmod b) := by
  apply Int32.toInt_inj.mp
  have h1 : r32 (a.tmod b) := by
    have h3 : (a.tmod b).natAbs ≤ a.natAbs := by rw [Int.natAbs_tmod]; exact Nat.mod_le _ _
    rcases Int.le_total 0 a with h | h
    · have := Int.tmod_nonneg b h; omega
    · have h4 : -(a.tmod b) = (-a).tmod b := by rw [Int.neg_tmod]
      have := Int.tmod_nonneg b (show 0 ≤ -a by omega); omega
  rw [iI_to h1, Int32.toInt_mod, iI_to ha, iI_to hb2]
def zAr (f : Int → Int) : Nat → Int32 := fun j => iI (f (j : Int))
def zLr (f : Int → Int) : Nat → Int64 := fun j => lI (f (j : Int))
def zup (f : Int → Int) (a v : Int) : Int → Int := fun x => if x = a then v else f x
theorem zAr_at {f : Int → Int} {a : Int} (h0 : 0 ≤ a) (h : a < 2147483648) : zAr f (iI a).toNatClampNeg = iI (f a) := by
  rw [iI_cl h0 h]
  unfold zAr
  rw [Int.toNat_of_nonneg h0]
theorem zLr_at {f : Int → Int} {a : Int} (h0 : 0 ≤ a) (h : a < 2147483648) : zLr f (iI a).toNatClampNeg = lI (f a) := by
  rw [iI_cl h0 h]
  unfold zLr
  rw [Int.toNat_of_nonneg h0]
theorem zAr_up {f : Int → Int} {a v : Int} (h0 : 0 ≤ a) (h : a < 2147483648) : upd (zAr f) (iI a).toNatClampNeg (iI v) = zAr (zup f a v) := by
  rw [iI_cl h0 h]
  funext j
  unfold upd zAr zup
  by_cases e : j = a.toNat
  · have e2 : (j : Int) = a := by omega
    simp [e, Int.toNat_of_nonneg h0]
  · have e2 : ¬ (j : Int) = a := by omega
    simp [e, e2]
theorem zLr_up {f : Int → Int} {a v : Int} (h0 : 0 ≤ a) (h : a < 2147483648) : vp_updL (zLr f) (iI a).toNatClampNeg (lI v) = zLr (zup f a v) := by
  rw [iI_cl h0 h]
  funext j
  unfold vp_updL zLr zup
  by_cases e : j = a.toNat
  · have e2 : (j : Int) = a := by omega
    simp [e, Int.toNat_of_nonneg h0]
  · have e2 : ¬ (j : Int) = a := by omega
    simp [e, e2]
end
section
/-! ===== worlds as maps from addresses: L the addresses, f what stands there ===== -/
def mH (D : va_G) (A : Nat → Prop) (L : List Nat) (f : Nat → va_E) (H : Heap) : Prop := va_P D cls (va_pl L f) H ∧ va_D A (va_pl L f)
section MP
variable {p : Program} {l : Launch} {e : Env} {R : Room} {s : State} {m : MethodId} {args : Array Value} {below : List Frame} {meth : Method} {c : Code} {H : Heap} {locs : List Loc} {cells slots : Nat} {Q : State → Prop}
variable {cc : ByteArray} {pc : Nat} {ls : Array Slot} {rest : List Value} {D : va_G} {A : Nat → Prop} {a : Nat} {tys : List (ClassId × FieldType)} {H0 : Heap}
variable {own C : String} {T : u_T} {N ci index : Nat} {g : Nat → Value} {L : List Nat} {f : Nat → va_E}
theorem mget (hx : p.tables.exec = Jvm.exec) (hb : c.code = cc) (hts : ∀ w ∈ wAll, w.before args s = true) (hin : ∀ w ∈ u_ws C T N, w ∈ wAll) (hown : s.vm.findClass own = some m.cls) (hK : va_K D cls tys s) (hM : mH D A L f H) (ha : a ∈ L) (hf : f a = .inr (ci, rg N g)) (hc : cls[ci]? = some (C, T, N)) {k : Nat} (hk : k < N)
    (hlink : Cond.fieldLink own index (T k).1 (T k).2.1 (T k).2.2.1 ∈ wAll) (hdg : decode cc pc = .ok (.getfield index, 3)) (kk : W p l e R s m args below meth c H locs cells slots Q (F0 m (pc + 3) ls (g k :: rest))) : W p l e R s m args below meth c H locs cells slots Q (F0 m pc ls (.ref a :: rest)) := by
  obtain ⟨q0, hq⟩ := va_pl_get (X := []) (f := f) ha
  rw [hf] at hq
  exact va_get hx hb hts hin hown hK hM.1 q0 hq hc k hk (hts _ hlink) (fun _ h => h) (rg_get hk rfl) hdg kk
theorem mput (hx : p.tables.exec = Jvm.exec) (hb : c.code = cc) (hts : ∀ w ∈ wAll, w.before args s = true) (hin : ∀ w ∈ u_ws C T N, w ∈ wAll) (ty0 : Nat → FieldType) (hty : ∀ k, k < N → parseFieldDescriptor (T k).2.2.1 = some (ty0 k)) (hnm : ∀ a, a < N → ∀ b, b < N → a ≠ b → (T a).2.1 ≠ (T b).2.1) (hown : s.vm.findClass own = some m.cls) (hK : va_K D cls tys s) (hM : mH D A L f H) (hS : va_S A H0 H locs) (ha : a ∈ L) (hf : f a = .inr (ci, rg N g)) (hc : cls[ci]? = some (C, T, N)) {k : Nat} (hk : k < N)
    (hlink : Cond.fieldLink own index (T k).1 (T k).2.1 (T k).2.2.1 ∈ wAll) (hfin : (T k).2.2.2 = false) {v : Value} (hn : narrow (ty0 k) v = v) (hfit : fits (ty0 k) v = true) (hdg : decode cc pc = .ok (.putfield index, 3))
    (kk : ∀ (H1 : Heap) (locs1 : List Loc), mH D A L (va_up f a (.inr (ci, rg N (va_up g k v)))) H1 → va_S A H0 H1 locs1 → W p l e R s m args below meth c H1 locs1 cells slots Q (F0 m (pc + 3) ls rest)) : W p l e R s m args below meth c H locs cells slots Q (F0 m pc ls (v :: .ref a :: rest)) := by
  obtain ⟨q0, hq⟩ := va_pl_get (X := []) (f := f) ha
  have hq2 := hq
  rw [hf] at hq2
  refine va_put hx hb hts hin ty0 hty hnm hown hK hM.1 hM.2 hS q0 hq2 hc k hk (hts _ hlink) (fun _ h => h) hfin (hty k hk) hn hfit (by rw [rg_len]; exact hk) hdg (fun H1 locs1 hP1 hD1 hS1 => ?_)
  rw [rg_set] at hP1 hD1
  have e := va_pl_set (X := []) (e := .inr (ci, rg N (va_up g k v))) hM.2 ha hq
  exact kk H1 locs1 ⟨by rw [← List.nil_append (va_pl L _), ← e]; exact hP1, by rw [← List.nil_append (va_pl L _), ← e]; exact hD1⟩ hS1
theorem mald {n : Nat} {cA : ClassId} {h : Int → Int} (hx : p.tables.exec = Jvm.exec) (hb : c.code = cc) (hK : va_K D cls tys s) (hM : mH D A L f H) (ha : a ∈ L) (hf : f a = .inl (cA, n, .inl (zAr h))) (t0 : Nat) (ht : tys[t0]? = some (cA, .int)) {z : Int} (h0 : 0 ≤ z) (h1 : z < n) (hn : n ≤ 2147483647) (hdg : decode cc pc = .ok (.iaload, 1))
    (kk : W p l e R s m args below meth c H locs cells slots Q (F0 m (pc + 1) ls (.int (iI (h z)) :: rest))) : W p l e R s m args below meth c H locs cells slots Q (F0 m pc ls (.int (iI z) :: .ref a :: rest)) := by
  obtain ⟨q0, hq⟩ := va_pl_get (X := []) (f := f) ha
  rw [hf] at hq
  exact va_iald hx hb hK hM.1 q0 t0 hq ht (iI_in h0 h1 hn) hdg (by rw [zAr_at h0 (by omega)]; exact kk)
theorem mast {n : Nat} {cA : ClassId} {h : Int → Int} (hx : p.tables.exec = Jvm.exec) (hb : c.code = cc) (hK : va_K D cls tys s) (hM : mH D A L f H) (hS : va_S A H0 H locs) (ha : a ∈ L) (hf : f a = .inl (cA, n, .inl (zAr h))) (t0 : Nat) (ht : tys[t0]? = some (cA, .int)) {z v : Int} (h0 : 0 ≤ z) (h1 : z < n) (hn : n ≤ 2147483647) (hdg : decode cc pc = .ok (.iastore, 1))
    (kk : ∀ (H1 : Heap) (locs1 : List Loc), mH D A L (va_up f a (.inl (cA, n, .inl (zAr (zup h z v))))) H1 → va_S A H0 H1 locs1 → W p l e R s m args below meth c H1 locs1 cells slots Q (F0 m (pc + 1) ls rest)) : W p l e R s m args below meth c H locs cells slots Q (F0 m pc ls (.int (iI v) :: .int (iI z) :: .ref a :: rest)) := by
  obtain ⟨q0, hq⟩ := va_pl_get (X := []) (f := f) ha
  have hq2 := hq
  rw [hf] at hq2
  refine va_iast hx hb hK hM.1 hM.2 hS q0 t0 hq2 ht (iI_in h0 h1 hn) hdg (fun H1 locs1 hP1 hD1 hS1 => ?_)
  rw [zAr_up h0 (by omega)] at hP1 hD1
  have e := va_pl_set (X := []) (e := .inl (cA, n, .inl (zAr (zup h z v)))) hM.2 ha hq
  exact kk H1 locs1 ⟨by rw [← List.nil_append (va_pl L _), ← e]; exact hP1, by rw [← List.nil_append (va_pl L _), ← e]; exact hD1⟩ hS1
theorem mlald {n : Nat} {cA : ClassId} {h : Int → Int} (hx : p.tables.exec = Jvm.exec) (hb : c.code = cc) (hK : va_K D cls tys s) (hM : mH D A L f H) (ha : a ∈ L) (hf : f a = .inl (cA, n, .inr (.inl (zLr h)))) (t0 : Nat) (ht : tys[t0]? = some (cA, .long)) {z : Int} (h0 : 0 ≤ z) (h1 : z < n) (hn : n ≤ 2147483647) (hdg : decode cc pc = .ok (.laload, 1))
    (kk : W p l e R s m args below meth c H locs cells slots Q (F0 m (pc + 1) ls (.long (lI (h z)) :: rest))) : W p l e R s m args below meth c H locs cells slots Q (F0 m pc ls (.int (iI z) :: .ref a :: rest)) := by
  obtain ⟨q0, hq⟩ := va_pl_get (X := []) (f := f) ha
  rw [hf] at hq
  exact va_lald hx hb hK hM.1 q0 t0 hq ht (iI_in h0 h1 hn) hdg (by rw [zLr_at h0 (by omega)]; exact kk)
theorem mlast {n : Nat} {cA : ClassId} {h : Int → Int} (hx : p.tables.exec = Jvm.exec) (hb : c.code = cc) (hK : va_K D cls tys s) (hM : mH D A L f H) (hS : va_S A H0 H locs) (ha : a ∈ L) (hf : f a = .inl (cA, n, .inr (.inl (zLr h)))) (t0 : Nat) (ht : tys[t0]? = some (cA, .long)) {z v : Int} (h0 : 0 ≤ z) (h1 : z < n) (hn : n ≤ 2147483647) (hdg : decode cc pc = .ok (.lastore, 1))
    (kk : ∀ (H1 : Heap) (locs1 : List Loc), mH D A L (va_up f a (.inl (cA, n, .inr (.inl (zLr (zup h z v)))))) H1 → va_S A H0 H1 locs1 → W p l e R s m args below meth c H1 locs1 cells slots Q (F0 m (pc + 1) ls rest)) : W p l e R s m args below meth c H locs cells slots Q (F0 m pc ls (.long (lI v) :: .int (iI z) :: .ref a :: rest)) := by
  obtain ⟨q0, hq⟩ := va_pl_get (X := []) (f := f) ha
  have hq2 := hq
  rw [hf] at hq2
  refine va_last hx hb hK hM.1 hM.2 hS q0 t0 hq2 ht (iI_in h0 h1 hn) hdg (fun H1 locs1 hP1 hD1 hS1 => ?_)
  rw [zLr_up h0 (by omega)] at hP1 hD1
  have e := va_pl_set (X := []) (e := .inl (cA, n, .inr (.inl (zLr (zup h z v))))) hM.2 ha hq
  exact kk H1 locs1 ⟨by rw [← List.nil_append (va_pl L _), ← e]; exact hP1, by rw [← List.nil_append (va_pl L _), ← e]; exact hD1⟩ hS1
end MP
end
section
def zk0 : List (Nat × Nat) := [(3, 0), (0, 0), (0, 1)]
def zk1 : List (Nat × Nat) := [(1, 0), (1, 0), (0, 0), (0, 0), (0, 0), (0, 0), (0, 0), (0, 0), (0, 0), (0, 0), (0, 0), (0, 1), (3, 0), (3, 0)]
def zk2 : List (Nat × Nat) := [(0, 0), (3, 1), (3, 0), (3, 0), (0, 0), (3, 0), (3, 0), (3, 0), (3, 0), (3, 1), (3, 1), (3, 0), (3, 0)]
def zk3 : List (Nat × Nat) := [(3, 0), (3, 0), (3, 0), (3, 0), (3, 0), (3, 0), (3, 0), (3, 0), (3, 0), (3, 0), (3, 0), (2, 10), (3, 1), (3, 0), (0, 0), (0, 0), (0, 0), (0, 0), (0, 0), (0, 0), (0, 0), (0, 0)]
def zk4 : List (Nat × Nat) := [(1, 0), (0, 0), (0, 0), (0, 0), (0, 0), (3, 11), (0, 0), (1, 0), (4, 0), (3, 1), (0, 0), (0, 1), (3, 0)]
def zk5 : List (Nat × Nat) := [(0, 0), (0, 1), (0, 0), (0, 0), (3, 0), (3, 0), (3, 0), (4, 0), (5, 0), (5, 0), (3, 1), (0, 0), (0, 0), (0, 0)]
def zk6 : List (Nat × Nat) := [(3, 14), (0, 0), (0, 0), (0, 0), (0, 0), (0, 0), (0, 0), (0, 0), (2, 2), (2, 5), (0, 1), (0, 1), (2, 9), (0, 1)]
def zk7 : List (Nat × Nat) := [(2, 8), (2, 0), (0, 0), (0, 0), (2, 1), (1, 0), (1, 0), (0, 0), (3, 3)]
def zk8 : List (Nat × Nat) := [(3, 0), (4, 1), (0, 0), (3, 0), (2, 0), (0, 0), (0, 0), (0, 0), (0, 0), (0, 0), (1, 0), (0, 1), (0, 1), (0, 1), (0, 1)]
def zk9 : List (Nat × Nat) := [(0, 0), (3, 1), (0, 0), (4, 0), (4, 0), (3, 0), (3, 0), (3, 0), (3, 0), (3, 3), (3, 0)]
def zk10 : List (Nat × Nat) := [(0, 0), (0, 0), (1, 0), (0, 0), (0, 0), (3, 0), (3, 0), (3, 1), (0, 0)]
def zk11 : List (Nat × Nat) := [(2, 3), (2, 4), (0, 0), (0, 0), (0, 0), (0, 0), (0, 0), (0, 0), (0, 0), (0, 0), (0, 0), (1, 0), (1, 0), (1, 0), (3, 0), (3, 0), (3, 0), (3, 0), (0, 0)]
def zk12 : List (Nat × Nat) := [(2, 0), (3, 0), (2, 0), (3, 16), (2, 3), (2, 11), (2, 7), (2, 6), (2, 8), (2, 8)]
def zk13 : List (Nat × Nat) := [(0, 1), (0, 0), (0, 0), (0, 1), (0, 0), (0, 0), (0, 0), (0, 0), (3, 0), (3, 0), (3, 1), (3, 0), (3, 0), (3, 0), (3, 1), (3, 1), (3, 1), (3, 1), (3, 0), (3, 0), (3, 0), (3, 0), (3, 0), (3, 0), (3, 0), (3, 0), (3, 0), (3, 3), (3, 0), (3, 0), (3, 0), (3, 0), (3, 1), (3, 1), (3, 0), (3, 0), (3, 0), (3, 0), (3, 0), (3, 0), (3, 0), (3, 0), (3, 0), (3, 1), (3, 1), (3, 0), (3, 0), (0, 0), (0, 0), (3, 0), (3, 0), (3, 0), (3, 1), (0, 1), (0, 0), (3, 0), (3, 0), (3, 0), (3, 0), (3, 0), (0, 0), (3, 0), (3, 0), (3, 0), (3, 0), (0, 0), (0, 0), (0, 0), (0, 0), (0, 0), (3, 0), (3, 0), (0, 0), (3, 1), (3, 1), (3, 0), (0, 0), (3, 0), (3, 0), (3, 0), (3, 0)]
def zk14 : List (Nat × Nat) := [(1, 0), (1, 0), (3, 2), (0, 0), (3, 2), (3, 23), (2, 13), (3, 0), (3, 0), (3, 0), (3, 0), (3, 1), (0, 0), (3, 1), (3, 1), (3, 1), (0, 0), (0, 0), (0, 0), (0, 0), (0, 0), (0, 0), (0, 1), (0, 1), (0, 1), (3, 1), (3, 0), (0, 0), (3, 0), (3, 0), (3, 0), (3, 0), (3, 0), (3, 0), (3, 0), (0, 0), (0, 0), (0, 0), (1, 0), (1, 0), (0, 0), (0, 0), (3, 3), (3, 0), (3, 0), (0, 0), (3, 0), (3, 0), (0, 0), (0, 0), (0, 0), (3, 0), (1, 0), (1, 0), (1, 0), (1, 0), (0, 0), (0, 0), (3, 0), (3, 1), (3, 0), (3, 0), (0, 0), (3, 0), (3, 0), (3, 0), (3, 0), (3, 0), (3, 0), (3, 0), (3, 2), (0, 0), (0, 1), (3, 0), (3, 0), (3, 0), (3, 0), (3, 0), (3, 0), (3, 1), (3, 1), (3, 0), (3, 0), (3, 0), (3, 0), (3, 0), (3, 1), (3, 1), (3, 0), (0, 0), (1, 0), (0, 1), (0, 1), (0, 1), (0, 0), (3, 0), (3, 0), (3, 0), (3, 0), (3, 0), (0, 0), (0, 0), (0, 0), (0, 0), (0, 0), (0, 0), (3, 0)]
def zkL : List (List (Nat × Nat)) := [zk0, zk1, zk2, zk3, zk4, zk5, zk6, zk7, zk8, zk9, zk10, zk11, zk12, zk13, zk14]
/-- how many rows the row of rows in field k has -/
def zrn (c k : Nat) : Nat := if c = 4 ∧ k = 8 then 12 else if c = 5 ∧ k = 7 then 6 else if c = 8 ∧ k = 1 then 6 else if c = 9 ∧ k = 3 then 4 else if c = 9 ∧ k = 4 then 4 else 0
/-- rows behind 180: the two rows that a performance swaps; from 200 on: row j of field k is 200 + 20 * k + j -/
def zk (c k : Nat) : Nat × Nat := if k < 180 then (zkL.getD c []).getD k (9, 0) else if k < 200 then (if c = 5 ∧ k < 182 then (3, 1) else (9, 0)) else if (k - 200) % 20 < zrn c ((k - 200) / 20) then (3, if c = 8 then 1 else 0) else (9, 0)
def zN (c : Nat) : Nat := ([3, 14, 13, 22, 13, 14, 14, 9, 15, 11, 9, 19, 10, 81, 107] : List Nat).getD c 0
/-! ===== worlds by class, object and field: F the fields (a reference is its object's number, below 0 none), B the rows ===== -/
def zup3 (F : Nat → Int → Nat → Int) (c : Nat) (i : Int) (k : Nat) (v : Int) : Nat → Int → Nat → Int := fun c' i' k' => if c' = c ∧ i' = i ∧ k' = k then v else F c' i' k'
def zup4 (B : Nat → Int → Nat → Int → Int) (c : Nat) (i : Int) (k : Nat) (j v : Int) : Nat → Int → Nat → Int → Int := fun c' i' k' => if c' = c ∧ i' = i ∧ k' = k then zup (B c i k) j v else B c' i' k'
def zrf (ad : Nat → Int → Nat → Nat) (t : Nat) (x : Int) : Option Nat := if x < 0 then none else some (ad t x 0)
def zfv (ad : Nat → Int → Nat → Nat) (F : Nat → Int → Nat → Int) (c : Nat) (i : Int) (k : Nat) : Value := match zk c k with
  | (0, _) => .int (iI (F c i k))
  | (1, _) => .long (lI (F c i k))
  | (2, t) => va_rf (zrf ad t (F c i k))
  | (5, _) => .ref (ad c i ((F c i k).toNat + 1))
  | _ => .ref (ad c i (k + 1))
def zct (t : Nat) : Nat := if t = 23 then 5 else if t = 16 then 4 else if t = 14 then 6 else if t = 11 then 7 else t
def zRw (ca : Nat → ClassId) (ad : Nat → Int → Nat → Nat) (n t : Nat) (h : Int → Int) : va_E := match t with
  | 0 => .inl (ca 0, n, .inl (zAr h))
  | 1 => .inl (ca 1, n, .inr (.inl (zLr h)))
  | 2 => .inl (ca 2, n, .inl (zAr h))
  | 3 => .inl (ca 3, n, .inl (zAr h))
  | t => .inl (ca (zct t), n, .inr (.inr (.inr (.inr (fun j => zrf ad (t - 10) (h (j : Int)))))))
def zRR (ca : Nat → ClassId) (ad : Nat → Int → Nat → Nat) (c : Nat) (i : Int) (k t : Nat) : va_E := .inl (ca (t + 8), zrn c k, .inr (.inr (.inr (.inr (fun j => some (ad c i (200 + 20 * k + j + 1)))))))
def zRep (ca : Nat → ClassId) (ad : Nat → Int → Nat → Nat) (ln : Nat → Int → Nat → Nat) (N : Nat → Int) (L : List Nat) (F : Nat → Int → Nat → Int) (B : Nat → Int → Nat → Int → Int) (f : Nat → va_E) : Prop :=
  ∀ (c : Nat) (i : Int), 0 ≤ i → i < N c → (ad c i 0 ∈ L ∧ f (ad c i 0) = .inr (c, rg (zN c) (zfv ad F c i))) ∧ (∀ k t : Nat, zk c k = (3, t) → ad c i (k + 1) ∈ L ∧ f (ad c i (k + 1)) = zRw ca ad (ln c i k) t (B c i k)) ∧ (∀ k t : Nat, zk c k = (4, t) → ad c i (k + 1) ∈ L ∧ f (ad c i (k + 1)) = zRR ca ad c i k t) ∧
    (∀ k t : Nat, zk c k = (2, t) → F c i k < N t) ∧ ∀ k t : Nat, zk c k = (3, t) → 4 ≤ t → ∀ j : Nat, B c i k j < N (t - 10)
def zOk (c k : Nat) : Prop := k = 0 ∨ ∃ t, zk c (k - 1) = (3, t) ∨ zk c (k - 1) = (4, t)
def zInj (ad : Nat → Int → Nat → Nat) (N : Nat → Int) : Prop := ∀ (c : Nat) (i : Int) (k c' : Nat) (i' : Int) (k' : Nat), 0 ≤ i → i < N c → 0 ≤ i' → i' < N c' → zOk c k → zOk c' k' → ad c i k = ad c' i' k' → c = c' ∧ i = i' ∧ k = k'
def zH (D : va_G) (ca : Nat → ClassId) (ad : Nat → Int → Nat → Nat) (ln : Nat → Int → Nat → Nat) (N : Nat → Int) (L : List Nat) (F : Nat → Int → Nat → Int) (B : Nat → Int → Nat → Int → Int) (A : Nat → Prop) (H : Heap) : Prop :=
  zInj ad N ∧ ∃ f, mH D A L f H ∧ zRep ca ad ln N L F B f
theorem zfv_up {ad : Nat → Int → Nat → Nat} {F : Nat → Int → Nat → Int} {c k : Nat} {i v : Int} {w : Value} (hw : ∀ G : Nat → Int → Nat → Int, G c i k = v → zfv ad G c i k = w) : zfv ad (zup3 F c i k v) c i = va_up (zfv ad F c i) k w := by
  funext j
  unfold va_up
  by_cases e : j = k
  · subst e
    rw [if_pos rfl]
    exact hw _ (by simp [zup3])
  · rw [if_neg e]
    have h : zup3 F c i k v c i j = F c i j := by simp [zup3, e]
    unfold zfv
    rw [h]
theorem zfv_ne {ad : Nat → Int → Nat → Nat} {F : Nat → Int → Nat → Int} {c k : Nat} {i v : Int} {c' : Nat} {i' : Int} (h : ¬ (c' = c ∧ i' = i)) : zfv ad (zup3 F c i k v) c' i' = zfv ad F c' i' := by
  funext j
  have h2 : zup3 F c i k v c' i' j = F c' i' j := by
    unfold zup3
    rw [if_neg]
    exact fun q => h ⟨q.1, q.2.1⟩
  unfold zfv
  rw [h2]
theorem zRep.put {ca : Nat → ClassId} {ad : Nat → Int → Nat → Nat} {ln : Nat → Int → Nat → Nat} {N : Nat → Int} {L : List Nat} {F : Nat → Int → Nat → Int} {B : Nat → Int → Nat → Int → Int} {f : Nat → va_E} {c k : Nat} {i v : Int} {w : Value} (hj : zInj ad N) (hR : zRep ca ad ln N L F B f) (h0 : 0 ≤ i) (h1 : i < N c) (hw : ∀ G : Nat → Int → Nat → Int, G c i k = v → zfv ad G c i k = w) (hv : ∀ t, zk c k = (2, t) → v < N t) :
    zRep ca ad ln N L (zup3 F c i k v) B (va_up f (ad c i 0) (.inr (c, rg (zN c) (va_up (zfv ad F c i) k w)))) := by
  intro c' i' g0 g1
  obtain ⟨⟨a1, a2⟩, a3⟩ := hR c' i' g0 g1
  refine ⟨⟨a1, ?_⟩, fun k' t hk => ⟨(a3.1 k' t hk).1, ?_⟩, fun k' t hk => ⟨(a3.2.1 k' t hk).1, ?_⟩, fun k' t hk => ?_, a3.2.2.2⟩
  · by_cases e : c' = c ∧ i' = i
    · obtain ⟨rfl, rfl⟩ := e
      rw [va_up_self, zfv_up hw]
    · rw [va_up_ne _ _ (fun q => e (by obtain ⟨x, y, -⟩ := hj _ _ _ _ _ _ g0 g1 h0 h1 (Or.inl rfl) (Or.inl rfl) q; exact ⟨x, y⟩)), a2, zfv_ne e]
  · rw [va_up_ne _ _ (fun q => by obtain ⟨-, -, z⟩ := hj _ _ _ _ _ _ g0 g1 h0 h1 (Or.inr ⟨t, Or.inl (by simpa using hk)⟩) (Or.inl rfl) q; exact absurd z (by omega))]
    exact (a3.1 k' t hk).2
  · rw [va_up_ne _ _ (fun q => by obtain ⟨-, -, z⟩ := hj _ _ _ _ _ _ g0 g1 h0 h1 (Or.inr ⟨t, Or.inr (by simpa using hk)⟩) (Or.inl rfl) q; exact absurd z (by omega))]
    exact (a3.2.1 k' t hk).2
  · unfold zup3
    by_cases e : c' = c ∧ i' = i ∧ k' = k
    · rw [if_pos e]
      obtain ⟨rfl, rfl, rfl⟩ := e
      exact hv t hk
    · rw [if_neg e]
      exact a3.2.2.1 k' t hk
theorem zup4_ne {B : Nat → Int → Nat → Int → Int} {c k : Nat} {i j v : Int} {c' k' : Nat} {i' : Int} (h : ¬ (c' = c ∧ i' = i ∧ k' = k)) : zup4 B c i k j v c' i' k' = B c' i' k' := by
  unfold zup4
  rw [if_neg h]
theorem zup4_self {B : Nat → Int → Nat → Int → Int} {c k : Nat} {i j v : Int} : zup4 B c i k j v c i k = zup (B c i k) j v := by
  unfold zup4
  rw [if_pos ⟨rfl, rfl, rfl⟩]
theorem zRep.st {ca : Nat → ClassId} {ad : Nat → Int → Nat → Nat} {ln : Nat → Int → Nat → Nat} {N : Nat → Int} {L : List Nat} {F : Nat → Int → Nat → Int} {B : Nat → Int → Nat → Int → Int} {f : Nat → va_E} {c k t : Nat} {i j v : Int} (hj : zInj ad N) (hR : zRep ca ad ln N L F B f) (h0 : 0 ≤ i) (h1 : i < N c) (hk : zk c k = (3, t)) (hv : 4 ≤ t → v < N (t - 10)) :
    zRep ca ad ln N L F (zup4 B c i k j v) (va_up f (ad c i (k + 1)) (zRw ca ad (ln c i k) t (zup (B c i k) j v))) := by
  intro c' i' g0 g1
  obtain ⟨⟨a1, a2⟩, a3⟩ := hR c' i' g0 g1
  refine ⟨⟨a1, ?_⟩, fun k' t' hk' => ⟨(a3.1 k' t' hk').1, ?_⟩, fun k' t' hk' => ⟨(a3.2.1 k' t' hk').1, ?_⟩, a3.2.2.1, fun k' t' hk' ht q => ?_⟩
  · rw [va_up_ne _ _ (fun q => by obtain ⟨-, -, z⟩ := hj _ _ _ _ _ _ g0 g1 h0 h1 (Or.inl rfl) (Or.inr ⟨t, Or.inl (by simpa using hk)⟩) q; exact absurd z (by omega))]
    exact a2
  · by_cases e : c' = c ∧ i' = i ∧ k' = k
    · obtain ⟨rfl, rfl, rfl⟩ := e
      rw [va_up_self, zup4_self]
      rw [hk] at hk'
      cases hk'
      rfl
    · rw [va_up_ne _ _ (fun q => e (by obtain ⟨x, y, z⟩ := hj _ _ _ _ _ _ g0 g1 h0 h1 (Or.inr ⟨t', Or.inl (by simpa using hk')⟩) (Or.inr ⟨t, Or.inl (by simpa using hk)⟩) q; exact ⟨x, y, by omega⟩)), (a3.1 k' t' hk').2, zup4_ne e]
  · rw [va_up_ne _ _ (fun q => by
      obtain ⟨x, y, z⟩ := hj _ _ _ _ _ _ g0 g1 h0 h1 (Or.inr ⟨t', Or.inr (by simpa using hk')⟩) (Or.inr ⟨t, Or.inl (by simpa using hk)⟩) q
      obtain rfl : k' = k := by omega
      subst x
      rw [hk] at hk'
      exact absurd (congrArg Prod.fst hk') (show ¬ (3 : Nat) = 4 by decide))]
    exact (a3.2.1 k' t' hk').2
  · by_cases e : c' = c ∧ i' = i ∧ k' = k
    · obtain ⟨rfl, rfl, rfl⟩ := e
      rw [zup4_self]
      rw [hk] at hk'
      cases hk'
      unfold zup
      by_cases e2 : (q : Int) = j
      · rw [if_pos e2]; exact hv ht
      · rw [if_neg e2]; exact a3.2.2.2 _ _ hk ht q
    · rw [zup4_ne e]
      exact a3.2.2.2 k' t' hk' ht q
theorem zno {c k : Nat} {p : Nat → Prop} (h : ¬ (zk c k).1 = 2) (t : Nat) (e : zk c k = (2, t)) : p t := absurd (congrArg Prod.fst e) h
theorem zyes {c k t0 : Nat} {p : Nat → Prop} (h : zk c k = (2, t0)) (hp : p t0) (t : Nat) (e : zk c k = (2, t)) : p t := by
  rw [h] at e
  cases e
  exact hp
section ZR
variable {p : Program} {l : Launch} {e : Env} {R : Room} {s : State} {m : MethodId} {args : Array Value} {below : List Frame} {meth : Method} {c : Code} {H : Heap} {locs : List Loc} {cells slots : Nat} {Q : State → Prop}
variable {cc : ByteArray} {pc : Nat} {ls : Array Slot} {rest : List Value} {D : va_G} {A : Nat → Prop} {tys : List (ClassId × FieldType)} {H0 : Heap}
variable {own C : String} {T : u_T} {index : Nat} {L : List Nat} {ca : Nat → ClassId} {ad : Nat → Int → Nat → Nat} {ln : Nat → Int → Nat → Nat} {N : Nat → Int} {F : Nat → Int → Nat → Int} {B : Nat → Int → Nat → Int → Int} {ci k : Nat} {i : Int}
theorem zget (hx : p.tables.exec = Jvm.exec) (hb : c.code = cc) (hts : ∀ w ∈ wAll, w.before args s = true) (hin : ∀ w ∈ u_ws C T (zN ci), w ∈ wAll) (hown : s.vm.findClass own = some m.cls) (hK : va_K D cls tys s) (hZ : zH D ca ad ln N L F B A H) (h0 : 0 ≤ i) (h1 : i < N ci) (hc : cls[ci]? = some (C, T, zN ci)) (hk : k < zN ci)
    (hlink : Cond.fieldLink own index (T k).1 (T k).2.1 (T k).2.2.1 ∈ wAll) {v : Value} (hv : zfv ad F ci i k = v) (hdg : decode cc pc = .ok (.getfield index, 3)) (kk : W p l e R s m args below meth c H locs cells slots Q (F0 m (pc + 3) ls (v :: rest))) : W p l e R s m args below meth c H locs cells slots Q (F0 m pc ls (.ref (ad ci i 0) :: rest)) := by
  obtain ⟨hj, f, hM, hR⟩ := hZ
  obtain ⟨⟨a1, a2⟩, -⟩ := hR ci i h0 h1
  exact mget hx hb hts hin hown hK hM a1 a2 hc hk hlink hdg (by rw [hv]; exact kk)
theorem zput (hx : p.tables.exec = Jvm.exec) (hb : c.code = cc) (hts : ∀ w ∈ wAll, w.before args s = true) (hin : ∀ w ∈ u_ws C T (zN ci), w ∈ wAll) (ty0 : Nat → FieldType) (hty : ∀ k, k < zN ci → parseFieldDescriptor (T k).2.2.1 = some (ty0 k)) (hnm : ∀ a, a < zN ci → ∀ b, b < zN ci → a ≠ b → (T a).2.1 ≠ (T b).2.1) (hown : s.vm.findClass own = some m.cls) (hK : va_K D cls tys s) (hZ : zH D ca ad ln N L F B A H) (hS : va_S A H0 H locs) (h0 : 0 ≤ i) (h1 : i < N ci) (hc : cls[ci]? = some (C, T, zN ci)) (hk : k < zN ci)
    (hlink : Cond.fieldLink own index (T k).1 (T k).2.1 (T k).2.2.1 ∈ wAll) (hfin : (T k).2.2.2 = false) {v : Int} {w : Value} (hw : ∀ G : Nat → Int → Nat → Int, G ci i k = v → zfv ad G ci i k = w) (hn : narrow (ty0 k) w = w) (hfit : fits (ty0 k) w = true) (hv : ∀ t, zk ci k = (2, t) → v < N t) (hdg : decode cc pc = .ok (.putfield index, 3))
    (kk : ∀ (H1 : Heap) (locs1 : List Loc), zH D ca ad ln N L (zup3 F ci i k v) B A H1 → va_S A H0 H1 locs1 → W p l e R s m args below meth c H1 locs1 cells slots Q (F0 m (pc + 3) ls rest)) : W p l e R s m args below meth c H locs cells slots Q (F0 m pc ls (w :: .ref (ad ci i 0) :: rest)) := by
  obtain ⟨hj, f, hM, hR⟩ := hZ
  obtain ⟨⟨a1, a2⟩, -⟩ := hR ci i h0 h1
  exact mput hx hb hts hin ty0 hty hnm hown hK hM hS a1 a2 hc hk hlink hfin hn hfit hdg (fun H1 locs1 hM1 hS1 => kk H1 locs1 ⟨hj, _, hM1, hR.put hj h0 h1 hw hv⟩ hS1)
theorem zald (hx : p.tables.exec = Jvm.exec) (hb : c.code = cc) (hK : va_K D cls tys s) (ht : tys[0]? = some (ca 0, .int)) (hZ : zH D ca ad ln N L F B A H) (h0 : 0 ≤ i) (h1 : i < N ci) (hk : zk ci k = (3, 0)) (hl : ln ci i k ≤ 2147483647) {z : Int} (z0 : 0 ≤ z) (z1 : z < ln ci i k) (hdg : decode cc pc = .ok (.iaload, 1))
    (kk : W p l e R s m args below meth c H locs cells slots Q (F0 m (pc + 1) ls (.int (iI (B ci i k z)) :: rest))) : W p l e R s m args below meth c H locs cells slots Q (F0 m pc ls (.int (iI z) :: .ref (ad ci i (k + 1)) :: rest)) := by
  obtain ⟨hj, f, hM, hR⟩ := hZ
  obtain ⟨a1, a2⟩ := (hR ci i h0 h1).2.1 k 0 hk
  exact mald hx hb hK hM a1 a2 0 ht z0 z1 hl hdg kk
theorem zast (hx : p.tables.exec = Jvm.exec) (hb : c.code = cc) (hK : va_K D cls tys s) (ht : tys[0]? = some (ca 0, .int)) (hZ : zH D ca ad ln N L F B A H) (hS : va_S A H0 H locs) (h0 : 0 ≤ i) (h1 : i < N ci) (hk : zk ci k = (3, 0)) (hl : ln ci i k ≤ 2147483647) {z v : Int} (z0 : 0 ≤ z) (z1 : z < ln ci i k) (hdg : decode cc pc = .ok (.iastore, 1))
    (kk : ∀ (H1 : Heap) (locs1 : List Loc), zH D ca ad ln N L F (zup4 B ci i k z v) A H1 → va_S A H0 H1 locs1 → W p l e R s m args below meth c H1 locs1 cells slots Q (F0 m (pc + 1) ls rest)) : W p l e R s m args below meth c H locs cells slots Q (F0 m pc ls (.int (iI v) :: .int (iI z) :: .ref (ad ci i (k + 1)) :: rest)) := by
  obtain ⟨hj, f, hM, hR⟩ := hZ
  obtain ⟨a1, a2⟩ := (hR ci i h0 h1).2.1 k 0 hk
  exact mast hx hb hK hM hS a1 a2 0 ht z0 z1 hl hdg (fun H1 locs1 hM1 hS1 => kk H1 locs1 ⟨hj, _, hM1, hR.st hj h0 h1 hk (fun h => absurd h (by decide))⟩ hS1)
theorem zlald (hx : p.tables.exec = Jvm.exec) (hb : c.code = cc) (hK : va_K D cls tys s) (ht : tys[1]? = some (ca 1, .long)) (hZ : zH D ca ad ln N L F B A H) (h0 : 0 ≤ i) (h1 : i < N ci) (hk : zk ci k = (3, 1)) (hl : ln ci i k ≤ 2147483647) {z : Int} (z0 : 0 ≤ z) (z1 : z < ln ci i k) (hdg : decode cc pc = .ok (.laload, 1))
    (kk : W p l e R s m args below meth c H locs cells slots Q (F0 m (pc + 1) ls (.long (lI (B ci i k z)) :: rest))) : W p l e R s m args below meth c H locs cells slots Q (F0 m pc ls (.int (iI z) :: .ref (ad ci i (k + 1)) :: rest)) := by
  obtain ⟨hj, f, hM, hR⟩ := hZ
  obtain ⟨a1, a2⟩ := (hR ci i h0 h1).2.1 k 1 hk
  exact mlald hx hb hK hM a1 a2 1 ht z0 z1 hl hdg kk
theorem zlast (hx : p.tables.exec = Jvm.exec) (hb : c.code = cc) (hK : va_K D cls tys s) (ht : tys[1]? = some (ca 1, .long)) (hZ : zH D ca ad ln N L F B A H) (hS : va_S A H0 H locs) (h0 : 0 ≤ i) (h1 : i < N ci) (hk : zk ci k = (3, 1)) (hl : ln ci i k ≤ 2147483647) {z v : Int} (z0 : 0 ≤ z) (z1 : z < ln ci i k) (hdg : decode cc pc = .ok (.lastore, 1))
    (kk : ∀ (H1 : Heap) (locs1 : List Loc), zH D ca ad ln N L F (zup4 B ci i k z v) A H1 → va_S A H0 H1 locs1 → W p l e R s m args below meth c H1 locs1 cells slots Q (F0 m (pc + 1) ls rest)) : W p l e R s m args below meth c H locs cells slots Q (F0 m pc ls (.long (lI v) :: .int (iI z) :: .ref (ad ci i (k + 1)) :: rest)) := by
  obtain ⟨hj, f, hM, hR⟩ := hZ
  obtain ⟨a1, a2⟩ := (hR ci i h0 h1).2.1 k 1 hk
  exact mlast hx hb hK hM hS a1 a2 1 ht z0 z1 hl hdg (fun H1 locs1 hM1 hS1 => kk H1 locs1 ⟨hj, _, hM1, hR.st hj h0 h1 hk (fun h => absurd h (by decide))⟩ hS1)
end ZR
end
section
section ZA
variable {p : Program} {l : Launch} {e : Env} {R : Room} {s : State} {m : MethodId} {args : Array Value} {below : List Frame} {meth : Method} {c : Code} {H : Heap} {locs : List Loc} {cells slots : Nat} {Q : State → Prop}
variable {cc : ByteArray} {pc : Nat} {ls : Array Slot} {rest : List Value} {a b : Int} {off : Int} {tgt : Nat}
theorem zadd (hx : p.tables.exec = Jvm.exec) (hb : c.code = cc) (hdg : decode cc pc = .ok (.iadd, 1)) (k : W p l e R s m args below meth c H locs cells slots Q (F0 m (pc + 1) ls (.int (iI (a + b)) :: rest))) : W p l e R s m args below meth c H locs cells slots Q (F0 m pc ls (.int (iI b) :: .int (iI a) :: rest)) := lv_iadd hx hb hdg (by rw [iI_add]; exact k)
theorem zsub (hx : p.tables.exec = Jvm.exec) (hb : c.code = cc) (hdg : decode cc pc = .ok (.isub, 1)) (k : W p l e R s m args below meth c H locs cells slots Q (F0 m (pc + 1) ls (.int (iI (a - b)) :: rest))) : W p l e R s m args below meth c H locs cells slots Q (F0 m pc ls (.int (iI b) :: .int (iI a) :: rest)) := lv_isub hx hb hdg (by rw [iI_sub]; exact k)
theorem zmul (hx : p.tables.exec = Jvm.exec) (hb : c.code = cc) (hdg : decode cc pc = .ok (.imul, 1)) (k : W p l e R s m args below meth c H locs cells slots Q (F0 m (pc + 1) ls (.int (iI (a * b)) :: rest))) : W p l e R s m args below meth c H locs cells slots Q (F0 m pc ls (.int (iI b) :: .int (iI a) :: rest)) := lv_imul hx hb hdg (by rw [iI_mul]; exact k)
theorem zneg (hx : p.tables.exec = Jvm.exec) (hb : c.code = cc) (hdg : decode cc pc = .ok (.ineg, 1)) (k : W p l e R s m args below meth c H locs cells slots Q (F0 m (pc + 1) ls (.int (iI (-a)) :: rest))) : W p l e R s m args below meth c H locs cells slots Q (F0 m pc ls (.int (iI a) :: rest)) := lv_ineg hx hb hdg (by rw [iI_neg]; exact k)
theorem iI_ne0 (h : r32 b) (hb : b ≠ 0) : ¬ iI b = 0 := fun q => hb ((iI_eq h ⟨by decide, by decide⟩).mp q)
theorem zdiv (hx : p.tables.exec = Jvm.exec) (hb : c.code = cc) (h1 : r32 a) (h2 : r32 b) (h3 : 0 < b) (hdg : decode cc pc = .ok (.idiv, 1)) (k : W p l e R s m args below meth c H locs cells slots Q (F0 m (pc + 1) ls (.int (iI (a.tdiv b)) :: rest))) : W p l e R s m args below meth c H locs cells slots Q (F0 m pc ls (.int (iI b) :: .int (iI a) :: rest)) := lv_idiv hx hb hdg (iI_ne0 h2 (by omega)) (by rw [iI_div h1 h3 h2]; exact k)
theorem zrem (hx : p.tables.exec = Jvm.exec) (hb : c.code = cc) (h1 : r32 a) (h2 : r32 b) (h3 : 0 < b) (hdg : decode cc pc = .ok (.irem, 1)) (k : W p l e R s m args below meth c H locs cells slots Q (F0 m (pc + 1) ls (.int (iI (a.tmod b)) :: rest))) : W p l e R s m args below meth c H locs cells slots Q (F0 m pc ls (.int (iI b) :: .int (iI a) :: rest)) := lv_irem hx hb hdg (iI_ne0 h2 (by omega)) (by rw [iI_div h1 h3 h2, iI_mul, iI_sub, show a - a.tdiv b * b = a.tmod b by rw [Int.tmod_def, Int.mul_comm]]; exact k)
theorem zlt (hx : p.tables.exec = Jvm.exec) (hb : c.code = cc) (h1 : r32 a) (h2 : r32 b) (hdg : decode cc pc = .ok (.if_icmp .lt off, 3)) (ht : (pc : Int) + off = (tgt : Int)) (kt : a < b → W p l e R s m args below meth c H locs cells slots Q (F0 m tgt ls rest)) (kf : ¬ a < b → W p l e R s m args below meth c H locs cells slots Q (F0 m (pc + 3) ls rest)) : W p l e R s m args below meth c H locs cells slots Q (F0 m pc ls (.int (iI b) :: .int (iI a) :: rest)) :=
  lv_icmp_lt hx hb hdg ht (fun q => kt ((iI_lt h1 h2).mp q)) (fun q => kf (fun z => q ((iI_lt h1 h2).mpr z)))
theorem zge (hx : p.tables.exec = Jvm.exec) (hb : c.code = cc) (h1 : r32 a) (h2 : r32 b) (hdg : decode cc pc = .ok (.if_icmp .ge off, 3)) (ht : (pc : Int) + off = (tgt : Int)) (kt : b ≤ a → W p l e R s m args below meth c H locs cells slots Q (F0 m tgt ls rest)) (kf : ¬ b ≤ a → W p l e R s m args below meth c H locs cells slots Q (F0 m (pc + 3) ls rest)) : W p l e R s m args below meth c H locs cells slots Q (F0 m pc ls (.int (iI b) :: .int (iI a) :: rest)) :=
  lv_icmp_ge hx hb hdg ht (fun q => kt ((iI_le h2 h1).mp q)) (fun q => kf (fun z => q ((iI_le h2 h1).mpr z)))
theorem zgt (hx : p.tables.exec = Jvm.exec) (hb : c.code = cc) (h1 : r32 a) (h2 : r32 b) (hdg : decode cc pc = .ok (.if_icmp .gt off, 3)) (ht : (pc : Int) + off = (tgt : Int)) (kt : b < a → W p l e R s m args below meth c H locs cells slots Q (F0 m tgt ls rest)) (kf : ¬ b < a → W p l e R s m args below meth c H locs cells slots Q (F0 m (pc + 3) ls rest)) : W p l e R s m args below meth c H locs cells slots Q (F0 m pc ls (.int (iI b) :: .int (iI a) :: rest)) :=
  lv_icmp_gt hx hb hdg ht (fun q => kt ((iI_lt h2 h1).mp q)) (fun q => kf (fun z => q ((iI_lt h2 h1).mpr z)))
theorem zle (hx : p.tables.exec = Jvm.exec) (hb : c.code = cc) (h1 : r32 a) (h2 : r32 b) (hdg : decode cc pc = .ok (.if_icmp .le off, 3)) (ht : (pc : Int) + off = (tgt : Int)) (kt : a ≤ b → W p l e R s m args below meth c H locs cells slots Q (F0 m tgt ls rest)) (kf : ¬ a ≤ b → W p l e R s m args below meth c H locs cells slots Q (F0 m (pc + 3) ls rest)) : W p l e R s m args below meth c H locs cells slots Q (F0 m pc ls (.int (iI b) :: .int (iI a) :: rest)) :=
  lv_icmp_le hx hb hdg ht (fun q => kt ((iI_le h1 h2).mp q)) (fun q => kf (fun z => q ((iI_le h1 h2).mpr z)))
theorem zeq (hx : p.tables.exec = Jvm.exec) (hb : c.code = cc) (h1 : r32 a) (h2 : r32 b) (hdg : decode cc pc = .ok (.if_icmp .eq off, 3)) (ht : (pc : Int) + off = (tgt : Int)) (kt : a = b → W p l e R s m args below meth c H locs cells slots Q (F0 m tgt ls rest)) (kf : ¬ a = b → W p l e R s m args below meth c H locs cells slots Q (F0 m (pc + 3) ls rest)) : W p l e R s m args below meth c H locs cells slots Q (F0 m pc ls (.int (iI b) :: .int (iI a) :: rest)) :=
  lv_icmp_eq hx hb hdg ht (fun q => kt ((iI_eq h1 h2).mp q)) (fun q => kf (fun z => q ((iI_eq h1 h2).mpr z)))
theorem z0 : r32 0 := ⟨by decide, by decide⟩
theorem z0lt (hx : p.tables.exec = Jvm.exec) (hb : c.code = cc) (h1 : r32 a) (hdg : decode cc pc = .ok (.ifCond .lt off, 3)) (ht : (pc : Int) + off = (tgt : Int)) (kt : a < 0 → W p l e R s m args below meth c H locs cells slots Q (F0 m tgt ls rest)) (kf : ¬ a < 0 → W p l e R s m args below meth c H locs cells slots Q (F0 m (pc + 3) ls rest)) : W p l e R s m args below meth c H locs cells slots Q (F0 m pc ls (.int (iI a) :: rest)) :=
  lv_if_lt hx hb hdg ht (fun q => kt ((iI_lt h1 z0).mp q)) (fun q => kf (fun z => q ((iI_lt h1 z0).mpr z)))
theorem z0ge (hx : p.tables.exec = Jvm.exec) (hb : c.code = cc) (h1 : r32 a) (hdg : decode cc pc = .ok (.ifCond .ge off, 3)) (ht : (pc : Int) + off = (tgt : Int)) (kt : 0 ≤ a → W p l e R s m args below meth c H locs cells slots Q (F0 m tgt ls rest)) (kf : ¬ 0 ≤ a → W p l e R s m args below meth c H locs cells slots Q (F0 m (pc + 3) ls rest)) : W p l e R s m args below meth c H locs cells slots Q (F0 m pc ls (.int (iI a) :: rest)) :=
  lv_if_ge hx hb hdg ht (fun q => kt ((iI_le z0 h1).mp q)) (fun q => kf (fun z => q ((iI_le z0 h1).mpr z)))
theorem z0gt (hx : p.tables.exec = Jvm.exec) (hb : c.code = cc) (h1 : r32 a) (hdg : decode cc pc = .ok (.ifCond .gt off, 3)) (ht : (pc : Int) + off = (tgt : Int)) (kt : 0 < a → W p l e R s m args below meth c H locs cells slots Q (F0 m tgt ls rest)) (kf : ¬ 0 < a → W p l e R s m args below meth c H locs cells slots Q (F0 m (pc + 3) ls rest)) : W p l e R s m args below meth c H locs cells slots Q (F0 m pc ls (.int (iI a) :: rest)) :=
  lv_if_gt hx hb hdg ht (fun q => kt ((iI_lt z0 h1).mp q)) (fun q => kf (fun z => q ((iI_lt z0 h1).mpr z)))
theorem z0le (hx : p.tables.exec = Jvm.exec) (hb : c.code = cc) (h1 : r32 a) (hdg : decode cc pc = .ok (.ifCond .le off, 3)) (ht : (pc : Int) + off = (tgt : Int)) (kt : a ≤ 0 → W p l e R s m args below meth c H locs cells slots Q (F0 m tgt ls rest)) (kf : ¬ a ≤ 0 → W p l e R s m args below meth c H locs cells slots Q (F0 m (pc + 3) ls rest)) : W p l e R s m args below meth c H locs cells slots Q (F0 m pc ls (.int (iI a) :: rest)) :=
  lv_if_le hx hb hdg ht (fun q => kt ((iI_le h1 z0).mp q)) (fun q => kf (fun z => q ((iI_le h1 z0).mpr z)))
theorem z0eq (hx : p.tables.exec = Jvm.exec) (hb : c.code = cc) (h1 : r32 a) (hdg : decode cc pc = .ok (.ifCond .eq off, 3)) (ht : (pc : Int) + off = (tgt : Int)) (kt : a = 0 → W p l e R s m args below meth c H locs cells slots Q (F0 m tgt ls rest)) (kf : ¬ a = 0 → W p l e R s m args below meth c H locs cells slots Q (F0 m (pc + 3) ls rest)) : W p l e R s m args below meth c H locs cells slots Q (F0 m pc ls (.int (iI a) :: rest)) :=
  lv_if_eq hx hb hdg ht (fun q => kt ((iI_eq h1 z0).mp q)) (fun q => kf (fun z => q ((iI_eq h1 z0).mpr z)))
theorem zne (hx : p.tables.exec = Jvm.exec) (hb : c.code = cc) (h1 : r32 a) (h2 : r32 b) (hdg : decode cc pc = .ok (.if_icmp .ne off, 3)) (ht : (pc : Int) + off = (tgt : Int)) (kt : ¬ a = b → W p l e R s m args below meth c H locs cells slots Q (F0 m tgt ls rest)) (kf : a = b → W p l e R s m args below meth c H locs cells slots Q (F0 m (pc + 3) ls rest)) : W p l e R s m args below meth c H locs cells slots Q (F0 m pc ls (.int (iI b) :: .int (iI a) :: rest)) :=
  lv_icmp_ne hx hb hdg ht (fun q => kt (fun z => q ((iI_eq h1 h2).mpr z))) (fun q => kf ((iI_eq h1 h2).mp q))
theorem z0ne (hx : p.tables.exec = Jvm.exec) (hb : c.code = cc) (h1 : r32 a) (hdg : decode cc pc = .ok (.ifCond .ne off, 3)) (ht : (pc : Int) + off = (tgt : Int)) (kt : ¬ a = 0 → W p l e R s m args below meth c H locs cells slots Q (F0 m tgt ls rest)) (kf : a = 0 → W p l e R s m args below meth c H locs cells slots Q (F0 m (pc + 3) ls rest)) : W p l e R s m args below meth c H locs cells slots Q (F0 m pc ls (.int (iI a) :: rest)) :=
  lv_if_ne hx hb hdg ht (fun q => kt (fun z => q ((iI_eq h1 z0).mpr z))) (fun q => kf ((iI_eq h1 z0).mp q))
theorem zladd (hx : p.tables.exec = Jvm.exec) (hb : c.code = cc) (hdg : decode cc pc = .ok (.ladd, 1)) (k : W p l e R s m args below meth c H locs cells slots Q (F0 m (pc + 1) ls (.long (lI (a + b)) :: rest))) : W p l e R s m args below meth c H locs cells slots Q (F0 m pc ls (.long (lI b) :: .long (lI a) :: rest)) := lv_ladd hx hb hdg (by rw [lI_add]; exact k)
theorem zlsub (hx : p.tables.exec = Jvm.exec) (hb : c.code = cc) (hdg : decode cc pc = .ok (.lsub, 1)) (k : W p l e R s m args below meth c H locs cells slots Q (F0 m (pc + 1) ls (.long (lI (a - b)) :: rest))) : W p l e R s m args below meth c H locs cells slots Q (F0 m pc ls (.long (lI b) :: .long (lI a) :: rest)) := lv_lsub hx hb hdg (by rw [lI_sub]; exact k)
theorem zlmul (hx : p.tables.exec = Jvm.exec) (hb : c.code = cc) (hdg : decode cc pc = .ok (.lmul, 1)) (k : W p l e R s m args below meth c H locs cells slots Q (F0 m (pc + 1) ls (.long (lI (a * b)) :: rest))) : W p l e R s m args below meth c H locs cells slots Q (F0 m pc ls (.long (lI b) :: .long (lI a) :: rest)) := lv_lmul hx hb hdg (by rw [lI_mul]; exact k)
theorem zi2l (hx : p.tables.exec = Jvm.exec) (hb : c.code = cc) (h1 : r32 a) (hdg : decode cc pc = .ok (.i2l, 1)) (k : W p l e R s m args below meth c H locs cells slots Q (F0 m (pc + 1) ls (.long (lI a) :: rest))) : W p l e R s m args below meth c H locs cells slots Q (F0 m pc ls (.int (iI a) :: rest)) := lv_i2l hx hb hdg (Int64.toInt_inj.mp (by rw [Int32.toInt_toInt64, iI_to h1, lI_to ⟨by omega, by omega⟩])) k
theorem zl2i (hx : p.tables.exec = Jvm.exec) (hb : c.code = cc) (h1 : r32 a) (hdg : decode cc pc = .ok (.l2i, 1)) (k : W p l e R s m args below meth c H locs cells slots Q (F0 m (pc + 1) ls (.int (iI a) :: rest))) : W p l e R s m args below meth c H locs cells slots Q (F0 m pc ls (.long (lI a) :: rest)) := lv_l2i hx hb hdg (Int32.toInt_inj.mp (by rw [Int64.toInt_toInt32, lI_to ⟨by omega, by omega⟩, iI_to h1, Int.bmod_eq_of_le] <;> omega)) k
theorem lI_lt {a b : Int} (ha : r64 a) (hb : r64 b) : lI a < lI b ↔ a < b := by rw [Int64.lt_iff_toInt_lt, lI_to ha, lI_to hb]
theorem lI_eq {a b : Int} (ha : r64 a) (hb : r64 b) : lI a = lI b ↔ a = b := by rw [← Int64.toInt_inj, lI_to ha, lI_to hb]
end ZA
end
section
/-! ===== contracts over the typed worlds ===== -/
abbrev zF : Type := Nat → Int → Nat → Int
abbrev zB : Type := Nat → Int → Nat → Int → Int
abbrev zO : Type := Option (Int × zF × zB)
def zA (L : List Nat) (sz : Nat) : Nat → Prop := fun q => q ∈ L ∨ sz ≤ q
section ZM
variable {D : va_G} {ca : Nat → ClassId} {ad : Nat → Int → Nat → Nat} {ln : Nat → Int → Nat → Nat} {N : Nat → Int} {L : List Nat} {aS vS : Nat → Nat} {F F1 : zF} {B B1 : zB} {A A1 : Nat → Prop} {H H1 : Heap}
theorem zpl_mem {f : Nat → va_E} {k : Nat} {q : Nat × va_E} (h : (va_pl L f)[k]? = some q) : q.1 ∈ L := by
  unfold va_pl at h
  rw [List.getElem?_map] at h
  cases hk : L[k]? with
  | none => rw [hk] at h; cases h
  | some a =>
    rw [hk] at h
    cases h
    exact List.mem_of_getElem? hk
theorem zH.weaken (h : zH D ca ad ln N L F B A H) (hA : ∀ q ∈ L, A1 q) : zH D ca ad ln N L F B A1 H := by
  obtain ⟨hj, f, hM, hR⟩ := h
  exact ⟨hj, f, ⟨hM.1, hM.2.weaken (fun k q hk _ => hA _ (zpl_mem hk))⟩, hR⟩
def zPre (D : va_G) (ca : Nat → ClassId) (ad : Nat → Int → Nat → Nat) (ln : Nat → Int → Nat → Nat) (N : Nat → Int) (L : List Nat) (aS vS : Nat → Nat) (F : zF) (B : zB) (sz : Nat) : State → Prop := fun U => U.heap.size = sz ∧ zH D ca ad ln N L F B (fun _ => True) U.heap ∧ va_K D cls (tyL ca) U ∧ gX aS vS (zA L sz) U U.heap
def zPo (D : va_G) (ca : Nat → ClassId) (ad : Nat → Int → Nat → Nat) (ln : Nat → Int → Nat → Nat) (N : Nat → Int) (L : List Nat) (F : zF) (B : zB) (A : Nat → Prop) (t : State) : Prop := zH D ca ad ln N L F B A t.heap ∧ va_K D cls (tyL ca) t
/-- what a walk stands on, the same from a method's beginning to its end -/
def zX (D : va_G) (ca : Nat → ClassId) (L : List Nat) (aS vS : Nat → Nat) (A : Nat → Prop) (p : Program) (s : State) (m : MethodId) (args : Array Value) (meth : Method) (c : Code) (cc : ByteArray) (n : Nat) (ret : Option FieldType) (cl : String) : Prop :=
  p.tables.exec = Jvm.exec ∧ c.code = cc ∧ meth.sig.returnType = ret ∧ c.maxLocals = n ∧ s.vm.findClass cl = some m.cls ∧ (∀ w ∈ wAll, w.before args s = true) ∧ meth.locks = false ∧ va_K D cls (tyL ca) s ∧ (∀ q, s.heap.size ≤ q → A q) ∧ (∀ q ∈ L, A q) ∧ gX aS vS A s s.heap
theorem zMet {l : Launch} {y : MethodName} {b : ByteArray} {n : Nat} {ret : Option FieldType} {rm : Room} {sz mc ms : Nat} {args : List Value} {Qc : (Nat → Prop) → Array Value → State → Outcome → State → Prop} {lv : List (Nat × Value)}
    (hy : plainName y.cls = true) (hn : (lg_sl args).length ≤ n) (hlv : lv_args 0 args = lv)
    (body : ∀ (A : Nat → Prop) p e s m below meth c ls, zX D ca L aS vS A p s m args.toArray meth c b n ret y.cls → zH D ca ad ln N L F B A s.heap → va_S A s.heap s.heap [] → lv_has ls n lv →
      W p l e rm s m args.toArray below meth c s.heap [] 0 0 (MQ below (Qc A) args.toArray s mc ms A) (F0 m 0 ls [])) :
    Met l y (Cond.code y b n ret :: wAll) rm (va_Pc args (zPre D ca ad ln N L aS vS F B sz)) (Qc (zA L sz)) mc ms (zA L sz) := by
  refine Met.ofW (cc := b) (maxL := n) (ret := ret) hy rfl ?_
  intro p e s m args' below meth c s₁ B' hml hv
  obtain ⟨rfl, hsz, hZ, hK, hX⟩ := hv
  have hts := atoms_spec (ws := Cond.code y b n ret :: wAll) B'.pre
  have hown : s.vm.findClass y.cls = some m.cls := findClass_of_methodNamed B'.named
  subst hsz
  have hl := lv_entry args (n := n) hn
  rw [hlv] at hl
  rw [lg_entry_eq]
  exact body (zA L s.heap.size) p e s m below meth c _ ⟨B'.exec, B'.bytes, B'.returns, hml, hown, fun w hw => hts w (List.mem_cons_of_mem _ hw), B'.notSynchronized, hK, fun q h => Or.inr h, fun q h => Or.inl h, hX⟩ (hZ.weaken (fun q h => Or.inl h)) va_S.rf hl
theorem zBlind {sz : Nat} {As : List Value} : FrameBlind (va_Pc As (zPre D ca ad ln N L aS vS F B sz)) := fun a U g mk q => by
  obtain ⟨q0, q1, qZ, qK, qX⟩ := q
  exact ⟨q0, q1, qZ, va_K.moved (u := U) (U := U.calling g mk a) (Vm.Alike.refl U.vm) qK, qX.same (U := U.calling g mk a) rfl rfl⟩
section
variable {p : Program} {s : State} {m : MethodId} {args : Array Value} {meth : Method} {c : Code} {cc : ByteArray} {n : Nat} {ret : Option FieldType} {cl : String} {locs : List Loc}
theorem zAin (X : zX D ca L aS vS A p s m args meth c cc n ret cl) (hS : va_S A s.heap H locs) : ∀ q, zA L H.size q → A q := fun q h => by
  obtain ⟨-, -, -, -, -, -, -, -, h1, h2, -⟩ := X
  rcases h with h | h
  · exact h2 q h
  · exact h1 q (Nat.le_trans hS.1 h)
theorem zAt (X : zX D ca L aS vS A p s m args meth c cc n ret cl) (hZ : zH D ca ad ln N L F B A H) (hS : va_S A s.heap H locs) (As : List Value) :
    ∀ U : State, U.heap = H → s.WarmedH U.vm → va_Pc As (zPre D ca ad ln N L aS vS F B H.size) As.toArray U := by
  intro U hU hW
  obtain ⟨-, -, -, -, -, -, -, hK, -, -, hX⟩ := id X
  refine ⟨rfl, by rw [hU], by rw [hU]; exact hZ.weaken (fun _ _ => trivial), va_K.moved hW.alike hK, ?_⟩
  exact hX.to hW (fun a h1 h2 => by rw [hU]; exact hS.2.1 a h1 h2) (zAin X hS)
theorem zPS (X : zX D ca L aS vS A p s m args meth c cc n ret cl) (hZ : zH D ca ad ln N L F B A H) (hS : va_S A s.heap H locs) (As : List Value) :
    PreS s H (va_Pc As (zPre D ca ad ln N L aS vS F B H.size)) As := ⟨zBlind, zAt X hZ hS As⟩
theorem zPV (X : zX D ca L aS vS A p s m args meth c cc n ret cl) (hZ : zH D ca ad ln N L F B A H) (hS : va_S A s.heap H locs) {ci : Nat} {i : Int} (h0 : 0 ≤ i) (h1 : i < N ci) {r : vw_C} (hc : cls[ci]? = some r) (As : List Value) :
    PreV s H r.1 (ad ci i 0) (va_Pc (.ref (ad ci i 0) :: As) (zPre D ca ad ln N L aS vS F B H.size)) As := by
  obtain ⟨-, -, -, -, -, -, -, hK, -, -, -⟩ := id X
  refine ⟨zBlind, ?_, zAt X hZ hS (.ref (ad ci i 0) :: As)⟩
  obtain ⟨-, f, hM, hR⟩ := hZ
  obtain ⟨⟨a1, a2⟩, -⟩ := hR ci i h0 h1
  obtain ⟨q0, hq⟩ := va_pl_get (X := []) (f := f) a1
  rw [a2] at hq
  exact va_recv hK hM.1 hc hq
theorem zBack (X : zX D ca L aS vS A p s m args meth c cc n ret cl) {t : State} (ht : t.heap = H1) (hB : zPo D ca ad ln N L F1 B1 A1 t) : zH D ca ad ln N L F1 B1 A H1 := by
  obtain ⟨-, -, -, -, -, -, -, -, -, h2, -⟩ := X
  rw [← ht]
  exact hB.1.weaken h2
end
end ZM
theorem gif {α : Type} {p : Prop} {d : Decidable p} {x : Option α} {y : α} (h : (@ite _ p d x none) = some y) : p ∧ x = some y := by
  by_cases hp : p
  · rw [if_pos hp] at h; exact ⟨hp, h⟩
  · rw [if_neg hp] at h; cases h
theorem gpos {α : Type} {p : Prop} {d : Decidable p} {x y z : Option α} (h : (@ite _ p d x y) = z) (hp : p) : x = z := by
  rw [if_pos hp] at h; exact h
theorem gneg {α : Type} {p : Prop} {d : Decidable p} {x y z : Option α} (h : (@ite _ p d x y) = z) (hp : ¬ p) : y = z := by
  rw [if_neg hp] at h; exact h
def zbind (x : zO) (k : Int → zF → zB → zO) : zO := match x with
  | none => none
  | some q => k q.1 q.2.1 q.2.2
theorem gbind {x : zO} {k : Int → zF → zB → zO} {z : Int × zF × zB} (h : zbind x k = some z) : ∃ r F B, x = some (r, F, B) ∧ k r F B = some z := by
  cases x with
  | none => cases h
  | some q => exact ⟨q.1, q.2.1, q.2.2, rfl, h⟩
end
section
def zand (a b : Int) : Int := (iI a &&& iI b).toInt
def zor (a b : Int) : Int := (iI a ||| iI b).toInt
def zshl (a b : Int) : Int := (iI a <<< (iI b &&& 31)).toInt
def zshr (a b : Int) : Int := (iI a >>> (iI b &&& 31)).toInt
def zdv (a b : Int) : Int := (iI a / iI b).toInt
def zrm (a b : Int) : Int := (iI a - iI a / iI b * iI b).toInt
def zi2b (a : Int) : Int := (iI a).toInt8.toInt32.toInt
def zland (a b : Int) : Int := (lI a &&& lI b).toInt
def zlor (a b : Int) : Int := (lI a ||| lI b).toInt
def zlshl (a b : Int) : Int := (lI a <<< ((iI b).toInt64 &&& 63)).toInt
def zlshr (a b : Int) : Int := (lI a >>> ((iI b).toInt64 &&& 63)).toInt
def zldv (a b : Int) : Int := (lI a / lI b).toInt
def zlrm (a b : Int) : Int := (lI a - lI a / lI b * lI b).toInt
def zcmp (a b : Int) : Int := if a < b then -1 else if a = b then 0 else 1
section ZN
variable {p : Program} {l : Launch} {e : Env} {R : Room} {s : State} {m : MethodId} {args : Array Value} {below : List Frame} {meth : Method} {c : Code} {H : Heap} {locs : List Loc} {cells slots : Nat} {Q : State → Prop}
variable {cc : ByteArray} {pc : Nat} {ls : Array Slot} {rest : List Value} {a b : Int} {off : Int} {tgt : Nat} {ad : Nat → Int → Nat → Nat} {t : Nat} {x : Int}
theorem zand_r (hx : p.tables.exec = Jvm.exec) (hb : c.code = cc) (hdg : decode cc pc = .ok (.iand, 1)) (k : W p l e R s m args below meth c H locs cells slots Q (F0 m (pc + 1) ls (.int (iI (zand a b)) :: rest))) : W p l e R s m args below meth c H locs cells slots Q (F0 m pc ls (.int (iI b) :: .int (iI a) :: rest)) := lv_iand hx hb hdg (by unfold zand at k; rw [iI_of] at k; exact k)
theorem zor_r (hx : p.tables.exec = Jvm.exec) (hb : c.code = cc) (hdg : decode cc pc = .ok (.ior, 1)) (k : W p l e R s m args below meth c H locs cells slots Q (F0 m (pc + 1) ls (.int (iI (zor a b)) :: rest))) : W p l e R s m args below meth c H locs cells slots Q (F0 m pc ls (.int (iI b) :: .int (iI a) :: rest)) := lv_ior hx hb hdg (by unfold zor at k; rw [iI_of] at k; exact k)
theorem zshl_r (hx : p.tables.exec = Jvm.exec) (hb : c.code = cc) (hdg : decode cc pc = .ok (.ishl, 1)) (k : W p l e R s m args below meth c H locs cells slots Q (F0 m (pc + 1) ls (.int (iI (zshl a b)) :: rest))) : W p l e R s m args below meth c H locs cells slots Q (F0 m pc ls (.int (iI b) :: .int (iI a) :: rest)) := lv_ishl hx hb hdg (by unfold zshl at k; rw [iI_of] at k; exact k)
theorem zshr_r (hx : p.tables.exec = Jvm.exec) (hb : c.code = cc) (hdg : decode cc pc = .ok (.ishr, 1)) (k : W p l e R s m args below meth c H locs cells slots Q (F0 m (pc + 1) ls (.int (iI (zshr a b)) :: rest))) : W p l e R s m args below meth c H locs cells slots Q (F0 m pc ls (.int (iI b) :: .int (iI a) :: rest)) := lv_ishr hx hb hdg (by unfold zshr at k; rw [iI_of] at k; exact k)
theorem zdv_r (hx : p.tables.exec = Jvm.exec) (hb : c.code = cc) (h : ¬ iI b = 0) (hdg : decode cc pc = .ok (.idiv, 1)) (k : W p l e R s m args below meth c H locs cells slots Q (F0 m (pc + 1) ls (.int (iI (zdv a b)) :: rest))) : W p l e R s m args below meth c H locs cells slots Q (F0 m pc ls (.int (iI b) :: .int (iI a) :: rest)) := lv_idiv hx hb hdg h (by unfold zdv at k; rw [iI_of] at k; exact k)
theorem zrm_r (hx : p.tables.exec = Jvm.exec) (hb : c.code = cc) (h : ¬ iI b = 0) (hdg : decode cc pc = .ok (.irem, 1)) (k : W p l e R s m args below meth c H locs cells slots Q (F0 m (pc + 1) ls (.int (iI (zrm a b)) :: rest))) : W p l e R s m args below meth c H locs cells slots Q (F0 m pc ls (.int (iI b) :: .int (iI a) :: rest)) := lv_irem hx hb hdg h (by unfold zrm at k; rw [iI_of] at k; exact k)
theorem zi2b_r (hx : p.tables.exec = Jvm.exec) (hb : c.code = cc) (hdg : decode cc pc = .ok (.i2b, 1)) (k : W p l e R s m args below meth c H locs cells slots Q (F0 m (pc + 1) ls (.int (iI (zi2b a)) :: rest))) : W p l e R s m args below meth c H locs cells slots Q (F0 m pc ls (.int (iI a) :: rest)) := lv_i2b hx hb hdg rfl (by unfold zi2b at k; rw [iI_of] at k; exact k)
theorem zland_r (hx : p.tables.exec = Jvm.exec) (hb : c.code = cc) (hdg : decode cc pc = .ok (.land, 1)) (k : W p l e R s m args below meth c H locs cells slots Q (F0 m (pc + 1) ls (.long (lI (zland a b)) :: rest))) : W p l e R s m args below meth c H locs cells slots Q (F0 m pc ls (.long (lI b) :: .long (lI a) :: rest)) := lv_land hx hb hdg (by unfold zland at k; rw [lI_of] at k; exact k)
theorem zlor_r (hx : p.tables.exec = Jvm.exec) (hb : c.code = cc) (hdg : decode cc pc = .ok (.lor, 1)) (k : W p l e R s m args below meth c H locs cells slots Q (F0 m (pc + 1) ls (.long (lI (zlor a b)) :: rest))) : W p l e R s m args below meth c H locs cells slots Q (F0 m pc ls (.long (lI b) :: .long (lI a) :: rest)) := lv_lor hx hb hdg (by unfold zlor at k; rw [lI_of] at k; exact k)
theorem zlshl_r (hx : p.tables.exec = Jvm.exec) (hb : c.code = cc) (hdg : decode cc pc = .ok (.lshl, 1)) (k : W p l e R s m args below meth c H locs cells slots Q (F0 m (pc + 1) ls (.long (lI (zlshl a b)) :: rest))) : W p l e R s m args below meth c H locs cells slots Q (F0 m pc ls (.int (iI b) :: .long (lI a) :: rest)) := lv_lshl hx hb hdg rfl (by unfold zlshl at k; rw [lI_of] at k; exact k)
theorem zlshr_r (hx : p.tables.exec = Jvm.exec) (hb : c.code = cc) (hdg : decode cc pc = .ok (.lshr, 1)) (k : W p l e R s m args below meth c H locs cells slots Q (F0 m (pc + 1) ls (.long (lI (zlshr a b)) :: rest))) : W p l e R s m args below meth c H locs cells slots Q (F0 m pc ls (.int (iI b) :: .long (lI a) :: rest)) := lv_lshr hx hb hdg rfl (by unfold zlshr at k; rw [lI_of] at k; exact k)
theorem zldv_r (hx : p.tables.exec = Jvm.exec) (hb : c.code = cc) (h : ¬ lI b = 0) (hdg : decode cc pc = .ok (.ldiv, 1)) (k : W p l e R s m args below meth c H locs cells slots Q (F0 m (pc + 1) ls (.long (lI (zldv a b)) :: rest))) : W p l e R s m args below meth c H locs cells slots Q (F0 m pc ls (.long (lI b) :: .long (lI a) :: rest)) := lv_ldiv hx hb hdg h (by unfold zldv at k; rw [lI_of] at k; exact k)
theorem zlrm_r (hx : p.tables.exec = Jvm.exec) (hb : c.code = cc) (h : ¬ lI b = 0) (hdg : decode cc pc = .ok (.lrem, 1)) (k : W p l e R s m args below meth c H locs cells slots Q (F0 m (pc + 1) ls (.long (lI (zlrm a b)) :: rest))) : W p l e R s m args below meth c H locs cells slots Q (F0 m pc ls (.long (lI b) :: .long (lI a) :: rest)) := lv_lrem hx hb hdg h (by unfold zlrm at k; rw [lI_of] at k; exact k)
theorem zcmp_l (h1 : r64 a) (h2 : r64 b) : lg_cmp (lI a) (lI b) = iI (zcmp a b) := by
  unfold lg_cmp zcmp
  simp only [lI_lt h2 h1, lI_eq h1 h2]
  by_cases x : a < b
  · rw [if_neg (show ¬ b < a by omega), if_neg (show ¬ a = b by omega), if_pos x]; rfl
  · by_cases z : a = b
    · rw [if_neg (show ¬ b < a by omega), if_pos z, if_neg x, if_pos z]; rfl
    · rw [if_pos (show b < a by omega), if_neg x, if_neg z]; rfl
theorem zcmp_r (hx : p.tables.exec = Jvm.exec) (hb : c.code = cc) (h1 : r64 a) (h2 : r64 b) (hdg : decode cc pc = .ok (.lcmp, 1)) (k : W p l e R s m args below meth c H locs cells slots Q (F0 m (pc + 1) ls (.int (iI (zcmp a b)) :: rest))) : W p l e R s m args below meth c H locs cells slots Q (F0 m pc ls (.long (lI b) :: .long (lI a) :: rest)) := W.lcmp hx hb hdg (by rw [zcmp_l h1 h2]; exact k)
theorem zcmp_32 : r32 (zcmp a b) := by unfold zcmp; split <;> (try split) <;> decide
theorem zaload_n {k : Fin 4} {i : Nat} {r : Option Nat} (hx : p.tables.exec = Jvm.exec) (hb : c.code = cc) (hdg : decode cc pc = .ok (.aload_n k, 1)) (hi : (k : Nat) = i) (hl : ls[i]? = some (.val (va_rf r))) (kk : W p l e R s m args below meth c H locs cells slots Q (F0 m (pc + 1) ls (va_rf r :: rest))) : W p l e R s m args below meth c H locs cells slots Q (F0 m pc ls rest) := by
  cases r with
  | none => exact lv_aload_nN hx hb hdg hi hl kk
  | some a => exact lv_aload_n hx hb hdg hi hl kk
theorem zaload {i : Nat} {r : Option Nat} (hx : p.tables.exec = Jvm.exec) (hb : c.code = cc) (hdg : decode cc pc = .ok (.aload i, 2)) (hl : ls[i]? = some (.val (va_rf r))) (kk : W p l e R s m args below meth c H locs cells slots Q (F0 m (pc + 2) ls (va_rf r :: rest))) : W p l e R s m args below meth c H locs cells slots Q (F0 m pc ls rest) := by
  cases r with
  | none => exact lv_aloadN hx hb hdg hl kk
  | some a => exact lv_aload hx hb hdg hl kk
theorem zastore_n {k : Fin 4} {i nL : Nat} {r : Option Nat} {lv lv' : List (Nat × Value)} (hx : p.tables.exec = Jvm.exec) (hb : c.code = cc) (hdg : decode cc pc = .ok (.astore_n k, 1)) (hi : (k : Nat) = i) (h : lv_has ls nL lv) (hn : i < nL) (hl : ∀ v : Value, v.category = 1 → (i, v) :: lv.filter (fun q => !(q.1 == i) && !(q.1 + 1 == i && q.2.category == 2)) = (i, v) :: lv') (kk : ∀ ls, lv_has ls nL ((i, va_rf r) :: lv') → W p l e R s m args below meth c H locs cells slots Q (F0 m (pc + 1) ls rest)) : W p l e R s m args below meth c H locs cells slots Q (F0 m pc ls (va_rf r :: rest)) := by
  cases r with
  | none => exact lv_astore_nN hx hb hdg hi h hn (hl _ rfl) kk
  | some a => exact lv_astore_n hx hb hdg hi h hn (hl _ rfl) kk
theorem zastore {i nL : Nat} {r : Option Nat} {lv lv' : List (Nat × Value)} (hx : p.tables.exec = Jvm.exec) (hb : c.code = cc) (hdg : decode cc pc = .ok (.astore i, 2)) (h : lv_has ls nL lv) (hn : i < nL) (hl : ∀ v : Value, v.category = 1 → (i, v) :: lv.filter (fun q => !(q.1 == i) && !(q.1 + 1 == i && q.2.category == 2)) = (i, v) :: lv') (kk : ∀ ls, lv_has ls nL ((i, va_rf r) :: lv') → W p l e R s m args below meth c H locs cells slots Q (F0 m (pc + 2) ls rest)) : W p l e R s m args below meth c H locs cells slots Q (F0 m pc ls (va_rf r :: rest)) := by
  cases r with
  | none => exact lv_astoreN hx hb hdg h hn (hl _ rfl) kk
  | some a => exact lv_astore hx hb hdg h hn (hl _ rfl) kk
theorem zrf_pos (h : 0 ≤ x) : zrf ad t x = some (ad t x 0) := by unfold zrf; rw [if_neg (by omega)]
theorem zrf_neg (h : x < 0) : zrf ad t x = none := by unfold zrf; rw [if_pos h]
theorem zunrf (h : 0 ≤ x) (kk : W p l e R s m args below meth c H locs cells slots Q (F0 m pc ls (.ref (ad t x 0) :: rest))) : W p l e R s m args below meth c H locs cells slots Q (F0 m pc ls (va_rf (zrf ad t x) :: rest)) := by
  rw [zrf_pos h]; exact kk
theorem zifnull (hx : p.tables.exec = Jvm.exec) (hb : c.code = cc) (hdg : decode cc pc = .ok (.ifnull off, 3)) (ht : (pc : Int) + off = (tgt : Int)) (kt : x < 0 → W p l e R s m args below meth c H locs cells slots Q (F0 m tgt ls rest)) (kf : ¬ x < 0 → W p l e R s m args below meth c H locs cells slots Q (F0 m (pc + 3) ls rest)) : W p l e R s m args below meth c H locs cells slots Q (F0 m pc ls (va_rf (zrf ad t x) :: rest)) := by
  by_cases h : x < 0
  · rw [zrf_neg h]; exact lv_ifnullN hx hb hdg ht (kt h)
  · rw [zrf_pos (by omega)]; exact lv_ifnull hx hb hdg (kf h)
theorem zifnonnull (hx : p.tables.exec = Jvm.exec) (hb : c.code = cc) (hdg : decode cc pc = .ok (.ifnonnull off, 3)) (ht : (pc : Int) + off = (tgt : Int)) (kt : ¬ x < 0 → W p l e R s m args below meth c H locs cells slots Q (F0 m tgt ls rest)) (kf : x < 0 → W p l e R s m args below meth c H locs cells slots Q (F0 m (pc + 3) ls rest)) : W p l e R s m args below meth c H locs cells slots Q (F0 m pc ls (va_rf (zrf ad t x) :: rest)) := by
  by_cases h : x < 0
  · rw [zrf_neg h]; exact lv_ifnonnullN hx hb hdg (kf h)
  · rw [zrf_pos (by omega)]; exact lv_ifnonnull hx hb hdg ht (kt h)
end ZN
end
section
/-! ===== texts ===== -/
def zsq (i : Nat) : String × Nat × String × Nat × List Int32 := strL.getD i ("", 0, "", 0, [])
def zsl (i : Nat) : Int := ((zsq i).2.2.2.1 : Int)
def zsb (i : Nat) (z : Int) : Int := ((zsq i).2.2.2.2.getD z.toNat 0).toInt
def zi2c (a : Int) : Int := ((iI a).toUInt32 % 65536).toInt32.toInt
theorem zsl_n (i : Nat) : Int32.ofNat (zsq i).2.2.2.1 = iI (zsl i) := rfl
theorem zsq_at {i : Nat} (h : i < strL.length) : strL[i]? = some (zsq i) := by
  unfold zsq
  rw [List.getD_eq_getElem?_getD, List.getElem?_eq_getElem h]
  rfl
theorem zsq_le : ∀ i, i < strL.length → (zsq i).2.2.2.1 ≤ 1000 := by decide +kernel
theorem zstr {aS vS : Nat → Nat} {A : Nat → Prop} {s : State} (hX : gX aS vS A s s.heap) {i : Nat} (h : i < strL.length) : va_OF "java/lang/String" "coder" "B" (.int 0) (aS i) A s s.heap ∧ va_OF "java/lang/String" "value" "[B" (.ref (vS i)) (aS i) A s s.heap ∧ va_T .byte (vS i) (zsq i).2.2.2.1 (fun j => .int ((zsq i).2.2.2.2.getD j 0)) A s s.heap ∧ vk_S 1 [(zsq i).2.2.2.1] [(zsq i).2.2.2.2] (fun _ => aS i) (fun _ => vS i) A s s.heap := by
  have q := (hX.2.2.2.2.1 i _ (zsq_at h)).2
  have r := q.1 0 (by decide)
  exact ⟨r.2.1, r.2.2.1, r.2.2.2, q⟩
theorem zsrecv {aS vS : Nat → Nat} {A : Nat → Prop} {s : State} (hX : gX aS vS A s s.heap) {i : Nat} (h : i < strL.length) {H : Heap} {locs : List Loc} (hS : va_S A s.heap H locs) : ∃ cell : Cell, H[aS i]? = some cell ∧ cell.vm.isStatics = false ∧ s.vm.findClass "java/lang/String" = some cell.cls :=
  vk_recv (i := 0) (zstr hX h).2.2.2 (by decide) hS
theorem zs_in {i : Nat} {z : Int} (h : i < strL.length) (hz : 0 ≤ z ∧ z < zsl i) : vp_in (iI z) (zsq i).2.2.2.1 := iI_in hz.1 hz.2 (Nat.le_trans (zsq_le i h) (by decide))
theorem zsb_v {i : Nat} {z : Int} (h : i < strL.length) (hz : 0 ≤ z ∧ z < zsl i) : (fun j => Value.int ((zsq i).2.2.2.2.getD j 0)) (iI z).toNatClampNeg = .int (iI (zsb i z)) := by
  have h2 := zsq_le i h
  have h3 : z < ((zsq i).2.2.2.1 : Int) := hz.2
  show Value.int ((zsq i).2.2.2.2.getD (iI z).toNatClampNeg 0) = _
  rw [iI_cl hz.1 (by omega)]
  unfold zsb
  rw [iI_of]
theorem zfmt {aS vS : Nat → Nat} {A : Nat → Prop} {s : State} (hX : gX aS vS A s s.heap) : ∃ o, va_Z "jdk/internal/util/Preconditions" "SIOOBE_FORMATTER" "Ljava/util/function/BiFunction;" (va_rf o) A s s.heap := by
  rcases hX.2.2.2.2.2.1.1 with h | ⟨t, h⟩
  · exact ⟨none, h⟩
  · exact ⟨some t, h⟩
theorem zchar {a : Int} (h : 0 ≤ a ∧ a < 65536) : narrow .char (.int (iI a)) = .int (iI a) := by
  obtain ⟨n, rfl⟩ : ∃ n : Nat, a = n := ⟨a.toNat, by omega⟩
  have e : UInt32.ofNat n % 65536 = UInt32.ofNat n := by
    apply UInt32.toNat_inj.mp
    rw [UInt32.toNat_mod, UInt32.toNat_ofNat']
    have e2 : (65536 : UInt32).toNat = 65536 := rfl
    rw [e2]
    omega
  exact congrArg (fun u : UInt32 => Value.int u.toInt32) e
theorem zbyte {a : Int} (h : -128 ≤ a ∧ a < 128) : narrow .byte (.int (iI a)) = .int (iI a) := by
  show Value.int ((iI a).toInt8.toInt32) = _
  refine congrArg Value.int (Int32.toInt_inj.mp ?_)
  rw [Int8.toInt_toInt32, Int32.toInt_toInt8, iI_to ⟨by omega, by omega⟩]
  rw [Int.bmod_eq_of_le] <;> omega
section ZI
variable {p : Program} {l : Launch} {e : Env} {R : Room} {s : State} {m : MethodId} {args : Array Value} {below : List Frame} {meth : Method} {c : Code} {H : Heap} {locs : List Loc} {cells slots : Nat} {Q : State → Prop}
variable {cc : ByteArray} {pc : Nat} {ls : Array Slot} {rest : List Value} {a : Int}
theorem zi2c_r (hx : p.tables.exec = Jvm.exec) (hb : c.code = cc) (hdg : decode cc pc = .ok (.i2c, 1)) (k : W p l e R s m args below meth c H locs cells slots Q (F0 m (pc + 1) ls (.int (iI (zi2c a)) :: rest))) : W p l e R s m args below meth c H locs cells slots Q (F0 m pc ls (.int (iI a) :: rest)) := lv_i2c hx hb hdg rfl (by unfold zi2c at k; rw [iI_of] at k; exact k)
end ZI
/-! ===== the class's static rows ===== -/
def zta (i : Nat) : String × String × String × Bool × List Int := staL.getD i ("", "", "", false, [])
def ztl (i : Nat) : Int := ((zta i).2.2.2.2.length : Int)
def ztv (i : Nat) (z : Int) : Int := (zta i).2.2.2.2.getD z.toNat 0
theorem zta_at {i : Nat} (h : i < staL.length) : staL[i]? = some (zta i) := by
  unfold zta
  rw [List.getD_eq_getElem?_getD, List.getElem?_eq_getElem h]
  rfl
theorem zta_le : ∀ i, i < staL.length → (zta i).2.2.2.2.length ≤ 1000 := by decide +kernel
theorem ztl_n (i : Nat) : Int32.ofNat (zta i).2.2.2.2.length = iI (ztl i) := rfl
theorem ztT {aS vS : Nat → Nat} {A : Nat → Prop} {s : State} (hX : gX aS vS A s s.heap) {i : Nat} (h : i < staL.length) : va_T (if (zta i).2.2.2.1 then .long else .int) (vS (1000 + i)) (zta i).2.2.2.2.length (fun j => if (zta i).2.2.2.1 then .long (Int64.ofInt ((zta i).2.2.2.2.getD j 0)) else .int (Int32.ofInt ((zta i).2.2.2.2.getD j 0))) A s s.heap := (hX.2.2.2.2.2.2 i _ (zta_at h)).2
theorem ztI {aS vS : Nat → Nat} {A : Nat → Prop} {s : State} (hX : gX aS vS A s s.heap) {i : Nat} (h : i < staL.length) (hb : (zta i).2.2.2.1 = false) : va_T .int (vS (1000 + i)) (zta i).2.2.2.2.length (fun j => .int (iI ((zta i).2.2.2.2.getD j 0))) A s s.heap := by
  have q := ztT hX h
  rw [hb] at q
  exact q
theorem ztL {aS vS : Nat → Nat} {A : Nat → Prop} {s : State} (hX : gX aS vS A s s.heap) {i : Nat} (h : i < staL.length) (hb : (zta i).2.2.2.1 = true) : va_T .long (vS (1000 + i)) (zta i).2.2.2.2.length (fun j => .long (lI ((zta i).2.2.2.2.getD j 0))) A s s.heap := by
  have q := ztT hX h
  rw [hb] at q
  exact q
theorem zt_in {i : Nat} {z : Int} (h : i < staL.length) (hz : 0 ≤ z ∧ z < ztl i) : vp_in (iI z) (zta i).2.2.2.2.length := iI_in hz.1 hz.2 (Nat.le_trans (zta_le i h) (by decide))
theorem ztI_v {i : Nat} {z : Int} (h : i < staL.length) (hz : 0 ≤ z ∧ z < ztl i) : (fun j => Value.int (iI ((zta i).2.2.2.2.getD j 0))) (iI z).toNatClampNeg = .int (iI (ztv i z)) := by
  have h2 := zta_le i h
  have h3 : z < ((zta i).2.2.2.2.length : Int) := hz.2
  show Value.int (iI ((zta i).2.2.2.2.getD (iI z).toNatClampNeg 0)) = _
  rw [iI_cl hz.1 (by omega)]
  rfl
theorem ztL_v {i : Nat} {z : Int} (h : i < staL.length) (hz : 0 ≤ z ∧ z < ztl i) : (fun j => Value.long (lI ((zta i).2.2.2.2.getD j 0))) (iI z).toNatClampNeg = .long (lI (ztv i z)) := by
  have h2 := zta_le i h
  have h3 : z < ((zta i).2.2.2.2.length : Int) := hz.2
  show Value.long (lI ((zta i).2.2.2.2.getD (iI z).toNatClampNeg 0)) = _
  rw [iI_cl hz.1 (by omega)]
  rfl
def zushr (a b : Int) : Int := ((iI a).toUInt32 >>> ((iI b).toUInt32 &&& Int32.toUInt32 31)).toInt32.toInt
def zlushr (a b : Int) : Int := ((lI a).toUInt64 >>> ((iI b).toInt64.toUInt64 &&& Int64.toUInt64 63)).toInt64.toInt
def zxor (a b : Int) : Int := (iI a ^^^ iI b).toInt
section ZU
variable {p : Program} {l : Launch} {e : Env} {R : Room} {s : State} {m : MethodId} {args : Array Value} {below : List Frame} {meth : Method} {c : Code} {H : Heap} {locs : List Loc} {cells slots : Nat} {Q : State → Prop}
variable {cc : ByteArray} {pc : Nat} {ls : Array Slot} {rest : List Value} {a b : Int}
theorem zushr_r (hx : p.tables.exec = Jvm.exec) (hb : c.code = cc) (hdg : decode cc pc = .ok (.iushr, 1)) (k : W p l e R s m args below meth c H locs cells slots Q (F0 m (pc + 1) ls (.int (iI (zushr a b)) :: rest))) : W p l e R s m args below meth c H locs cells slots Q (F0 m pc ls (.int (iI b) :: .int (iI a) :: rest)) := lv_iushr hx hb hdg rfl (by unfold zushr at k; rw [iI_of] at k; exact k)
theorem zlushr_r (hx : p.tables.exec = Jvm.exec) (hb : c.code = cc) (hdg : decode cc pc = .ok (.lushr, 1)) (k : W p l e R s m args below meth c H locs cells slots Q (F0 m (pc + 1) ls (.long (lI (zlushr a b)) :: rest))) : W p l e R s m args below meth c H locs cells slots Q (F0 m pc ls (.int (iI b) :: .long (lI a) :: rest)) := lv_lushr hx hb hdg rfl (by unfold zlushr at k; rw [lI_of] at k; exact k)
theorem zxor_r (hx : p.tables.exec = Jvm.exec) (hb : c.code = cc) (hdg : decode cc pc = .ok (.ixor, 1)) (k : W p l e R s m args below meth c H locs cells slots Q (F0 m (pc + 1) ls (.int (iI (zxor a b)) :: rest))) : W p l e R s m args below meth c H locs cells slots Q (F0 m pc ls (.int (iI b) :: .int (iI a) :: rest)) := lv_ixor hx hb hdg (by unfold zxor at k; rw [iI_of] at k; exact k)
end ZU
end
section
def nM (c : Nat) : Int := if c = 14 then 1 else if c = 13 then 3 else 0
theorem zbool {x : Int} (h : x = 0 ∨ x = 1) : narrow .boolean (.int (iI x)) = .int (iI x) := by
  rcases h with rfl | rfl <;> rfl
theorem zboolF {x : Int} (h : x = 0 ∨ x = 1) : fits .boolean (.int (iI x)) = true := by
  rcases h with rfl | rfl <;> rfl
theorem zrf_nar {t : FieldType} {n : String} (ht : t = .object n) (r : Option Nat) : narrow t (va_rf r) = va_rf r := by
  subst ht; cases r <;> rfl
theorem zrf_fit {t : FieldType} {n : String} (ht : t = .object n) (r : Option Nat) : fits t (va_rf r) = true := by
  subst ht; cases r <;> rfl
section ZQ
variable {p : Program} {l : Launch} {e : Env} {R : Room} {s : State} {m : MethodId} {args : Array Value} {below : List Frame} {meth : Method} {c : Code} {H : Heap} {locs : List Loc} {cells slots : Nat} {Q : State → Prop}
variable {cc : ByteArray} {pc : Nat} {ls : Array Slot} {rest : List Value} {D : va_G} {A : Nat → Prop} {tys : List (ClassId × FieldType)} {H0 : Heap} {a : Nat}
variable {L : List Nat} {f : Nat → va_E} {ca : Nat → ClassId} {ad : Nat → Int → Nat → Nat} {ln : Nat → Int → Nat → Nat} {N : Nat → Int} {F : Nat → Int → Nat → Int} {B : Nat → Int → Nat → Int → Int} {ci k : Nat} {i : Int}
theorem zbnar (v : Int) : vp_nar .byte (iI v) = iI (zi2b v) := by
  unfold zi2b
  rw [iI_of]
  rfl
theorem zznar {v : Int} (h : v = 0 ∨ v = 1) : vp_nar .boolean (iI v) = iI v := by
  rcases h with rfl | rfl <;> rfl
theorem zbald (hx : p.tables.exec = Jvm.exec) (hb : c.code = cc) (hK : va_K D cls tys s) (ht : tys[2]? = some (ca 2, .byte)) (hZ : zH D ca ad ln N L F B A H) (h0 : 0 ≤ i) (h1 : i < N ci) (hk : zk ci k = (3, 2)) (hl : ln ci i k ≤ 2147483647) {z : Int} (z0 : 0 ≤ z) (z1 : z < ln ci i k) (hdg : decode cc pc = .ok (.baload, 1))
    (kk : W p l e R s m args below meth c H locs cells slots Q (F0 m (pc + 1) ls (.int (iI (B ci i k z)) :: rest))) : W p l e R s m args below meth c H locs cells slots Q (F0 m pc ls (.int (iI z) :: .ref (ad ci i (k + 1)) :: rest)) := by
  obtain ⟨hj, f, hM, hR⟩ := hZ
  obtain ⟨a1, a2⟩ := (hR ci i h0 h1).2.1 k 2 hk
  obtain ⟨q0, hq⟩ := va_pl_get (X := []) (f := f) a1
  rw [a2] at hq
  exact va_bald hx hb hK hM.1 q0 2 hq ht (iI_in z0 z1 hl) hdg (by rw [zAr_at z0 (by omega)]; exact kk)
theorem zzald (hx : p.tables.exec = Jvm.exec) (hb : c.code = cc) (hK : va_K D cls tys s) (ht : tys[3]? = some (ca 3, .boolean)) (hZ : zH D ca ad ln N L F B A H) (h0 : 0 ≤ i) (h1 : i < N ci) (hk : zk ci k = (3, 3)) (hl : ln ci i k ≤ 2147483647) {z : Int} (z0 : 0 ≤ z) (z1 : z < ln ci i k) (hdg : decode cc pc = .ok (.baload, 1))
    (kk : W p l e R s m args below meth c H locs cells slots Q (F0 m (pc + 1) ls (.int (iI (B ci i k z)) :: rest))) : W p l e R s m args below meth c H locs cells slots Q (F0 m pc ls (.int (iI z) :: .ref (ad ci i (k + 1)) :: rest)) := by
  obtain ⟨hj, f, hM, hR⟩ := hZ
  obtain ⟨a1, a2⟩ := (hR ci i h0 h1).2.1 k 3 hk
  obtain ⟨q0, hq⟩ := va_pl_get (X := []) (f := f) a1
  rw [a2] at hq
  exact va_zald hx hb hK hM.1 q0 3 hq ht (iI_in z0 z1 hl) hdg (by rw [zAr_at z0 (by omega)]; exact kk)
theorem zbast (hx : p.tables.exec = Jvm.exec) (hb : c.code = cc) (hK : va_K D cls tys s) (ht : tys[2]? = some (ca 2, .byte)) (hZ : zH D ca ad ln N L F B A H) (hS : va_S A H0 H locs) (h0 : 0 ≤ i) (h1 : i < N ci) (hk : zk ci k = (3, 2)) (hl : ln ci i k ≤ 2147483647) {z v : Int} (z0 : 0 ≤ z) (z1 : z < ln ci i k) (hdg : decode cc pc = .ok (.bastore, 1))
    (kk : ∀ (H1 : Heap) (locs1 : List Loc), zH D ca ad ln N L F (zup4 B ci i k z (zi2b v)) A H1 → va_S A H0 H1 locs1 → W p l e R s m args below meth c H1 locs1 cells slots Q (F0 m (pc + 1) ls rest)) : W p l e R s m args below meth c H locs cells slots Q (F0 m pc ls (.int (iI v) :: .int (iI z) :: .ref (ad ci i (k + 1)) :: rest)) := by
  obtain ⟨hj, f, hM, hR⟩ := hZ
  obtain ⟨a1, a2⟩ := (hR ci i h0 h1).2.1 k 2 hk
  obtain ⟨q0, hq⟩ := va_pl_get (X := []) (f := f) a1
  have hq2 := hq
  rw [a2] at hq2
  refine va_bast hx hb hK hM.1 hM.2 hS q0 2 hq2 ht (iI_in z0 z1 hl) hdg (fun H1 locs1 hP1 hD1 hS1 => ?_)
  rw [zbnar v, zAr_up z0 (by omega)] at hP1 hD1
  have e := va_pl_set (X := []) (e := zRw ca ad (ln ci i k) 2 (zup (B ci i k) z (zi2b v))) hM.2 a1 hq
  exact kk H1 locs1 ⟨hj, _, ⟨by rw [← List.nil_append (va_pl L _), ← e]; exact hP1, by rw [← List.nil_append (va_pl L _), ← e]; exact hD1⟩, hR.st hj h0 h1 hk (fun h => absurd h (by decide))⟩ hS1
theorem zzast (hx : p.tables.exec = Jvm.exec) (hb : c.code = cc) (hK : va_K D cls tys s) (ht : tys[3]? = some (ca 3, .boolean)) (hZ : zH D ca ad ln N L F B A H) (hS : va_S A H0 H locs) (h0 : 0 ≤ i) (h1 : i < N ci) (hk : zk ci k = (3, 3)) (hl : ln ci i k ≤ 2147483647) {z v : Int} (hv : v = 0 ∨ v = 1) (z0 : 0 ≤ z) (z1 : z < ln ci i k) (hdg : decode cc pc = .ok (.bastore, 1))
    (kk : ∀ (H1 : Heap) (locs1 : List Loc), zH D ca ad ln N L F (zup4 B ci i k z (v)) A H1 → va_S A H0 H1 locs1 → W p l e R s m args below meth c H1 locs1 cells slots Q (F0 m (pc + 1) ls rest)) : W p l e R s m args below meth c H locs cells slots Q (F0 m pc ls (.int (iI v) :: .int (iI z) :: .ref (ad ci i (k + 1)) :: rest)) := by
  obtain ⟨hj, f, hM, hR⟩ := hZ
  obtain ⟨a1, a2⟩ := (hR ci i h0 h1).2.1 k 3 hk
  obtain ⟨q0, hq⟩ := va_pl_get (X := []) (f := f) a1
  have hq2 := hq
  rw [a2] at hq2
  refine va_zast hx hb hK hM.1 hM.2 hS q0 3 hq2 ht (iI_in z0 z1 hl) hdg (fun H1 locs1 hP1 hD1 hS1 => ?_)
  rw [zznar hv, zAr_up z0 (by omega)] at hP1 hD1
  have e := va_pl_set (X := []) (e := zRw ca ad (ln ci i k) 3 (zup (B ci i k) z (v))) hM.2 a1 hq
  exact kk H1 locs1 ⟨hj, _, ⟨by rw [← List.nil_append (va_pl L _), ← e]; exact hP1, by rw [← List.nil_append (va_pl L _), ← e]; exact hD1⟩, hR.st hj h0 h1 hk (fun h => absurd h (by decide))⟩ hS1
theorem zaldR {t x : Nat} {C : String} (hx : p.tables.exec = Jvm.exec) (hb : c.code = cc) (hK : va_K D cls tys s) (x0 : zct (t + 10) = x) (ht : tys[x]? = some (ca x, .object C)) (hZ : zH D ca ad ln N L F B A H) (h0 : 0 ≤ i) (h1 : i < N ci) (hk : zk ci k = (3, t + 10)) (hl : ln ci i k ≤ 2147483647) {z : Int} (z0 : 0 ≤ z) (z1 : z < ln ci i k) (hdg : decode cc pc = .ok (.aaload, 1))
    (kk : W p l e R s m args below meth c H locs cells slots Q (F0 m (pc + 1) ls (va_rf (zrf ad t (B ci i k z)) :: rest))) : W p l e R s m args below meth c H locs cells slots Q (F0 m pc ls (.int (iI z) :: .ref (ad ci i (k + 1)) :: rest)) := by
  obtain ⟨hj, f, hM, hR⟩ := hZ
  obtain ⟨a1, a2⟩ := (hR ci i h0 h1).2.1 k (t + 10) hk
  obtain ⟨q0, hq⟩ := va_pl_get (X := []) (f := f) a1
  rw [a2] at hq
  subst x0
  refine va_aldq hx hb hK hM.1 q0 (zct (t + 10)) hq ht (iI_in z0 z1 hl) hdg ?_
  rw [iI_cl z0 (by omega), Int.toNat_of_nonneg z0]
  exact kk
theorem zRw_up {t n : Nat} {h : Int → Int} {z v : Int} (z0 : 0 ≤ z) (v0 : 0 ≤ v) : zRw ca ad n (t + 10) (zup h z v) = .inl (ca (zct (t + 10)), n, .inr (.inr (.inr (.inr (va_up (fun j : Nat => zrf ad t (h (j : Int))) z.toNat (some (ad t v 0))))))) := by
  show (Sum.inl (ca (zct (t + 10)), n, _) : va_E) = _
  congr 6
  refine congrArg Sum.inr ?_
  funext j
  unfold va_up zup
  by_cases e : j = z.toNat
  · have e2 : (j : Int) = z := by omega
    rw [if_pos e, if_pos e2]
    exact zrf_pos v0
  · have e2 : ¬ (j : Int) = z := by omega
    rw [if_neg e, if_neg e2]
    rfl
theorem zastR {t x : Nat} {r : vw_C} (hx : p.tables.exec = Jvm.exec) (hb : c.code = cc) (hK : va_K D cls tys s) (x0 : zct (t + 10) = x) (ht : tys[x]? = some (ca x, .object r.1)) (hc : cls[t]? = some r) (hZ : zH D ca ad ln N L F B A H) (hS : va_S A H0 H locs) (h0 : 0 ≤ i) (h1 : i < N ci) (hk : zk ci k = (3, t + 10)) (hl : ln ci i k ≤ 2147483647) {z v : Int} (v0 : 0 ≤ v) (v1 : v < N t) (z0 : 0 ≤ z) (z1 : z < ln ci i k) (hdg : decode cc pc = .ok (.aastore, 1))
    (kk : ∀ (H1 : Heap) (locs1 : List Loc), zH D ca ad ln N L F (zup4 B ci i k z v) A H1 → va_S A H0 H1 locs1 → W p l e R s m args below meth c H1 locs1 cells slots Q (F0 m (pc + 1) ls rest)) : W p l e R s m args below meth c H locs cells slots Q (F0 m pc ls (.ref (ad t v 0) :: .int (iI z) :: .ref (ad ci i (k + 1)) :: rest)) := by
  obtain ⟨hj, f, hM, hR⟩ := hZ
  obtain ⟨a1, a2⟩ := (hR ci i h0 h1).2.1 k (t + 10) hk
  obtain ⟨⟨b1, b2⟩, -⟩ := hR t v v0 v1
  obtain ⟨q0, hq⟩ := va_pl_get (X := []) (f := f) a1
  obtain ⟨qk, hqk⟩ := va_pl_get (X := []) (f := f) b1
  have hq2 := hq
  rw [a2] at hq2
  rw [b2] at hqk
  subst x0
  refine va_astq hx hb hK hM.1 hM.2 hS q0 (zct (t + 10)) qk t hq2 ht hqk hc (iI_in z0 z1 hl) hdg (fun H1 locs1 hP1 hD1 hS1 => ?_)
  rw [iI_cl z0 (by omega)] at hP1 hD1
  have e := va_pl_set (X := []) (e := zRw ca ad (ln ci i k) (t + 10) (zup (B ci i k) z v)) hM.2 a1 hq
  have e1 := zRw_up (ca := ca) (ad := ad) (t := t) (n := ln ci i k) (h := B ci i k) z0 v0
  exact kk H1 locs1 ⟨hj, _, ⟨by rw [← List.nil_append (va_pl L _), ← e, e1]; exact hP1, by rw [← List.nil_append (va_pl L _), ← e, e1]; exact hD1⟩, hR.st hj h0 h1 hk (fun _ => by rw [Nat.add_sub_cancel]; exact v1)⟩ hS1
theorem zcat (r : Option Nat) : (va_rf r).category = 1 := by cases r <;> rfl
end ZQ
def lnP : List Nat := [0, 0, 0, 0, 0, 0, 0, 0, 4, 4, 4, 4, 4, 4, 4000, 4000, 4000, 4000, 4000, 4000, 4000, 4000, 4000, 4000, 4000, 4000, 4000, 4000, 24000, 24000, 3200, 3200, 3200, 3200, 3200, 3200, 3200, 3200, 3200, 3200, 3200, 3200, 101, 3200, 3200, 3200, 100, 0, 0, 100, 100, 100, 100, 0, 0, 2000, 2000, 2000, 2000, 2000, 0, 4000, 4000, 4000, 4000, 0, 0, 0, 0, 0, 1000, 1000, 0, 800, 800, 3200, 0, 300, 300, 300, 300]
def lnQ : List Nat := [0, 0, 3000, 0, 20, 2, 0, 3001, 3001, 3001, 3001, 3001, 0, 4, 8, 15, 0, 0, 0, 0, 0, 0, 0, 0, 0, 6, 6, 0, 4, 4, 3001, 3001, 3001, 3001, 3001, 0, 0, 0, 0, 0, 0, 0, 100, 100, 100, 0, 100, 100, 0, 0, 0, 8, 0, 0, 0, 0, 0, 0, 63, 101, 101, 8, 0, 2000, 2000, 2000, 2000, 2000, 2000, 4000, 40000, 0, 0, 8, 8, 400, 400, 400, 400, 400, 400, 8, 400, 400, 400, 400, 400, 400, 8, 0, 0, 0, 0, 0, 0, 6, 89, 8, 24, 24, 0, 0, 0, 0, 0, 0, 24]
def lnM (c : Nat) (_ : Int) (k : Nat) : Nat := if c = 14 then lnQ.getD k 0 else lnP.getD k 0
end
section
theorem k_3_79 : (Jvm.Cond.fieldLink "java/lang/String" (38 : Nat) "java/lang/String" "COMPACT_STRINGS" "Z") ∈ wAll := wA_3 (j := 79) rfl rfl
theorem k_15_171 : (Jvm.Cond.fieldLink "java/lang/String" (15 : Nat) "java/lang/String" "coder" "B") ∈ wAll := wA_15 (j := 171) rfl rfl
theorem k_15_170 : (Jvm.Cond.fieldLink "java/lang/String" (9 : Nat) "java/lang/String" "value" "[B") ∈ wAll := wA_15 (j := 170) rfl rfl
theorem k_3_85 : (Jvm.Cond.methodLink "java/lang/String" (335 : Nat) ({ cls := "java/lang/String", name := "coder", desc := "()B" } : Jvm.MethodName)) ∈ wAll := wA_3 (j := 85) rfl rfl
theorem k_3_86 : (Jvm.Cond.instanceMethod ({ cls := "java/lang/String", name := "coder", desc := "()B" } : Jvm.MethodName)) ∈ wAll := wA_3 (j := 86) rfl rfl
theorem k_3_87 : (Jvm.Cond.selects "java/lang/String" ({ cls := "java/lang/String", name := "coder", desc := "()B" } : Jvm.MethodName) ({ cls := "java/lang/String", name := "coder", desc := "()B" } : Jvm.MethodName)) ∈ wAll := wA_3 (j := 87) rfl rfl
theorem k_1_11 : (Jvm.Cond.initialized "java/lang/String") ∈ wAll := wA_1 (j := 11) rfl rfl
theorem k_3_88 : (Jvm.Cond.code ({ cls := "java/lang/String", name := "coder", desc := "()B" } : Jvm.MethodName) prog_21_method_152_code (1 : Nat) (Option.some Jvm.ClassFile.FieldType.byte)) ∈ wAll := wA_3 (j := 88) rfl rfl
theorem k_3_120 : (Jvm.Cond.fieldLink "java/lang/String" (1053 : Nat) "jdk/internal/util/Preconditions" "SIOOBE_FORMATTER" "Ljava/util/function/BiFunction;") ∈ wAll := wA_3 (j := 120) rfl rfl
theorem k_7_143 : (Jvm.Cond.methodLink "java/lang/String" (1059 : Nat) ({ cls := "jdk/internal/util/Preconditions", name := "checkIndex", desc := "(IILjava/util/function/BiFunction;)I" } : Jvm.MethodName)) ∈ wAll := wA_7 (j := 143) rfl rfl
theorem k_7_144 : (Jvm.Cond.static ({ cls := "jdk/internal/util/Preconditions", name := "checkIndex", desc := "(IILjava/util/function/BiFunction;)I" } : Jvm.MethodName)) ∈ wAll := wA_7 (j := 144) rfl rfl
theorem k_1_13 : (Jvm.Cond.initialized "jdk/internal/util/Preconditions") ∈ wAll := wA_1 (j := 13) rfl rfl
theorem k_7_145 : (Jvm.Cond.code ({ cls := "jdk/internal/util/Preconditions", name := "checkIndex", desc := "(IILjava/util/function/BiFunction;)I" } : Jvm.MethodName) prog_24_method_11_code (3 : Nat) (Option.some Jvm.ClassFile.FieldType.int)) ∈ wAll := wA_7 (j := 145) rfl rfl
theorem k_7_140 : (Jvm.Cond.methodLink "java/lang/StringLatin1" (9 : Nat) ({ cls := "java/lang/String", name := "checkIndex", desc := "(II)V" } : Jvm.MethodName)) ∈ wAll := wA_7 (j := 140) rfl rfl
theorem k_7_141 : (Jvm.Cond.static ({ cls := "java/lang/String", name := "checkIndex", desc := "(II)V" } : Jvm.MethodName)) ∈ wAll := wA_7 (j := 141) rfl rfl
theorem k_7_142 : (Jvm.Cond.code ({ cls := "java/lang/String", name := "checkIndex", desc := "(II)V" } : Jvm.MethodName) prog_21_method_155_code (2 : Nat) (Option.none : Option Jvm.ClassFile.FieldType)) ∈ wAll := wA_7 (j := 142) rfl rfl
theorem k_3_75 : (Jvm.Cond.methodLink "java/lang/String" (492 : Nat) ({ cls := "java/lang/String", name := "isLatin1", desc := "()Z" } : Jvm.MethodName)) ∈ wAll := wA_3 (j := 75) rfl rfl
theorem k_3_76 : (Jvm.Cond.instanceMethod ({ cls := "java/lang/String", name := "isLatin1", desc := "()Z" } : Jvm.MethodName)) ∈ wAll := wA_3 (j := 76) rfl rfl
theorem k_3_77 : (Jvm.Cond.selects "java/lang/String" ({ cls := "java/lang/String", name := "isLatin1", desc := "()Z" } : Jvm.MethodName) ({ cls := "java/lang/String", name := "isLatin1", desc := "()Z" } : Jvm.MethodName)) ∈ wAll := wA_3 (j := 77) rfl rfl
theorem k_3_78 : (Jvm.Cond.code ({ cls := "java/lang/String", name := "isLatin1", desc := "()Z" } : Jvm.MethodName) prog_21_method_154_code (1 : Nat) (Option.some Jvm.ClassFile.FieldType.boolean)) ∈ wAll := wA_3 (j := 78) rfl rfl
theorem k_7_137 : (Jvm.Cond.methodLink "java/lang/String" (495 : Nat) ({ cls := "java/lang/StringLatin1", name := "charAt", desc := "([BI)C" } : Jvm.MethodName)) ∈ wAll := wA_7 (j := 137) rfl rfl
theorem k_7_138 : (Jvm.Cond.static ({ cls := "java/lang/StringLatin1", name := "charAt", desc := "([BI)C" } : Jvm.MethodName)) ∈ wAll := wA_7 (j := 138) rfl rfl
theorem k_1_12 : (Jvm.Cond.initialized "java/lang/StringLatin1") ∈ wAll := wA_1 (j := 12) rfl rfl
theorem k_7_139 : (Jvm.Cond.code ({ cls := "java/lang/StringLatin1", name := "charAt", desc := "([BI)C" } : Jvm.MethodName) prog_22_method_2_code (2 : Nat) (Option.some Jvm.ClassFile.FieldType.char)) ∈ wAll := wA_7 (j := 139) rfl rfl
theorem W_prog_21_method_152_code_0 : chW prog_21_method_152_code 0 [178, 0, 38, 153, 0, 10, 42, 180, 0, 15, 167, 0, 4, 4, 172] := chW_of (by decide +kernel)
theorem d_21_152_0 : decode prog_21_method_152_code 0 = .ok (.getstatic 38, 3) := D_178 W_prog_21_method_152_code_0 0 rfl rfl rfl
theorem d_21_152_3 : decode prog_21_method_152_code 3 = .ok (.ifCond .eq 10, 3) := D_153 W_prog_21_method_152_code_0 3 rfl rfl rfl
theorem d_21_152_13 : decode prog_21_method_152_code 13 = .ok (.iconst 1, 1) := D_4 W_prog_21_method_152_code_0 13 rfl rfl
theorem d_21_152_6 : decode prog_21_method_152_code 6 = .ok (.aload_n 0, 1) := D_42 W_prog_21_method_152_code_0 6 rfl rfl
theorem d_21_152_7 : decode prog_21_method_152_code 7 = .ok (.getfield 15, 3) := D_180 W_prog_21_method_152_code_0 7 rfl rfl rfl
theorem d_21_152_10 : decode prog_21_method_152_code 10 = .ok (.goto 4, 3) := D_167 W_prog_21_method_152_code_0 10 rfl rfl rfl
theorem d_21_152_14 : decode prog_21_method_152_code 14 = .ok (.ireturn, 1) := D_172 W_prog_21_method_152_code_0 14 rfl rfl
theorem W_prog_21_method_154_code_0 : chW prog_21_method_154_code 0 [178, 0, 38, 153, 0, 14, 42, 180, 0, 15, 154, 0, 7, 4, 167, 0, 4, 3, 172] := chW_of (by decide +kernel)
theorem d_21_154_0 : decode prog_21_method_154_code 0 = .ok (.getstatic 38, 3) := D_178 W_prog_21_method_154_code_0 0 rfl rfl rfl
theorem d_21_154_3 : decode prog_21_method_154_code 3 = .ok (.ifCond .eq 14, 3) := D_153 W_prog_21_method_154_code_0 3 rfl rfl rfl
theorem d_21_154_6 : decode prog_21_method_154_code 6 = .ok (.aload_n 0, 1) := D_42 W_prog_21_method_154_code_0 6 rfl rfl
theorem d_21_154_7 : decode prog_21_method_154_code 7 = .ok (.getfield 15, 3) := D_180 W_prog_21_method_154_code_0 7 rfl rfl rfl
theorem d_21_154_10 : decode prog_21_method_154_code 10 = .ok (.ifCond .ne 7, 3) := D_154 W_prog_21_method_154_code_0 10 rfl rfl rfl
theorem d_21_154_13 : decode prog_21_method_154_code 13 = .ok (.iconst 1, 1) := D_4 W_prog_21_method_154_code_0 13 rfl rfl
theorem d_21_154_14 : decode prog_21_method_154_code 14 = .ok (.goto 4, 3) := D_167 W_prog_21_method_154_code_0 14 rfl rfl rfl
theorem d_21_154_18 : decode prog_21_method_154_code 18 = .ok (.ireturn, 1) := D_172 W_prog_21_method_154_code_0 18 rfl rfl
theorem d_21_154_17 : decode prog_21_method_154_code 17 = .ok (.iconst 0, 1) := D_3 W_prog_21_method_154_code_0 17 rfl rfl
theorem W_prog_21_method_54_code_0 : chW prog_21_method_54_code 0 [42, 180, 0, 9, 190, 42, 182, 1, 79, 122, 172] := chW_of (by decide +kernel)
theorem d_21_54_0 : decode prog_21_method_54_code 0 = .ok (.aload_n 0, 1) := D_42 W_prog_21_method_54_code_0 0 rfl rfl
theorem d_21_54_1 : decode prog_21_method_54_code 1 = .ok (.getfield 9, 3) := D_180 W_prog_21_method_54_code_0 1 rfl rfl rfl
theorem d_21_54_4 : decode prog_21_method_54_code 4 = .ok (.arraylength, 1) := D_190 W_prog_21_method_54_code_0 4 rfl rfl
theorem d_21_54_5 : decode prog_21_method_54_code 5 = .ok (.aload_n 0, 1) := D_42 W_prog_21_method_54_code_0 5 rfl rfl
theorem d_21_54_6 : decode prog_21_method_54_code 6 = .ok (.invokevirtual 335, 3) := D_182 W_prog_21_method_54_code_0 6 rfl rfl rfl
theorem d_21_54_9 : decode prog_21_method_54_code 9 = .ok (.ishr, 1) := D_122 W_prog_21_method_54_code_0 9 rfl rfl
theorem d_21_54_10 : decode prog_21_method_54_code 10 = .ok (.ireturn, 1) := D_172 W_prog_21_method_54_code_0 10 rfl rfl
theorem W_prog_24_method_11_code_0 : chW prog_24_method_11_code 0 [26, 155, 0, 8, 26, 27, 161, 0, 10, 44, 26, 27, 184, 0, 95, 191, 26, 172] := chW_of (by decide +kernel)
theorem d_24_11_0 : decode prog_24_method_11_code 0 = .ok (.iload_n 0, 1) := D_26 W_prog_24_method_11_code_0 0 rfl rfl
theorem d_24_11_1 : decode prog_24_method_11_code 1 = .ok (.ifCond .lt 8, 3) := D_155 W_prog_24_method_11_code_0 1 rfl rfl rfl
theorem d_24_11_4 : decode prog_24_method_11_code 4 = .ok (.iload_n 0, 1) := D_26 W_prog_24_method_11_code_0 4 rfl rfl
theorem d_24_11_5 : decode prog_24_method_11_code 5 = .ok (.iload_n 1, 1) := D_27 W_prog_24_method_11_code_0 5 rfl rfl
theorem d_24_11_6 : decode prog_24_method_11_code 6 = .ok (.if_icmp .lt 10, 3) := D_161 W_prog_24_method_11_code_0 6 rfl rfl rfl
theorem d_24_11_16 : decode prog_24_method_11_code 16 = .ok (.iload_n 0, 1) := D_26 W_prog_24_method_11_code_0 16 rfl rfl
theorem d_24_11_17 : decode prog_24_method_11_code 17 = .ok (.ireturn, 1) := D_172 W_prog_24_method_11_code_0 17 rfl rfl
theorem W_prog_21_method_155_code_0 : chW prog_21_method_155_code 0 [26, 27, 178, 4, 29, 184, 4, 35, 87, 177] := chW_of (by decide +kernel)
theorem d_21_155_0 : decode prog_21_method_155_code 0 = .ok (.iload_n 0, 1) := D_26 W_prog_21_method_155_code_0 0 rfl rfl
theorem d_21_155_1 : decode prog_21_method_155_code 1 = .ok (.iload_n 1, 1) := D_27 W_prog_21_method_155_code_0 1 rfl rfl
theorem d_21_155_2 : decode prog_21_method_155_code 2 = .ok (.getstatic 1053, 3) := D_178 W_prog_21_method_155_code_0 2 rfl rfl rfl
theorem d_21_155_5 : decode prog_21_method_155_code 5 = .ok (.invokestatic 1059, 3) := D_184 W_prog_21_method_155_code_0 5 rfl rfl rfl
theorem d_21_155_8 : decode prog_21_method_155_code 8 = .ok (.pop, 1) := D_87 W_prog_21_method_155_code_0 8 rfl rfl
theorem d_21_155_9 : decode prog_21_method_155_code 9 = .ok (.return_, 1) := D_177 W_prog_21_method_155_code_0 9 rfl rfl
theorem W_prog_22_method_2_code_0 : chW prog_22_method_2_code 0 [27, 42, 190, 184, 0, 9, 42, 27, 51, 17, 0, 255, 126, 146, 172] := chW_of (by decide +kernel)
theorem d_22_2_0 : decode prog_22_method_2_code 0 = .ok (.iload_n 1, 1) := D_27 W_prog_22_method_2_code_0 0 rfl rfl
theorem d_22_2_1 : decode prog_22_method_2_code 1 = .ok (.aload_n 0, 1) := D_42 W_prog_22_method_2_code_0 1 rfl rfl
theorem d_22_2_2 : decode prog_22_method_2_code 2 = .ok (.arraylength, 1) := D_190 W_prog_22_method_2_code_0 2 rfl rfl
theorem d_22_2_3 : decode prog_22_method_2_code 3 = .ok (.invokestatic 9, 3) := D_184 W_prog_22_method_2_code_0 3 rfl rfl rfl
theorem d_22_2_6 : decode prog_22_method_2_code 6 = .ok (.aload_n 0, 1) := D_42 W_prog_22_method_2_code_0 6 rfl rfl
theorem d_22_2_7 : decode prog_22_method_2_code 7 = .ok (.iload_n 1, 1) := D_27 W_prog_22_method_2_code_0 7 rfl rfl
theorem d_22_2_8 : decode prog_22_method_2_code 8 = .ok (.baload, 1) := D_51 W_prog_22_method_2_code_0 8 rfl rfl
theorem d_22_2_9 : decode prog_22_method_2_code 9 = .ok (.sipush 255, 3) := D_17 W_prog_22_method_2_code_0 9 rfl rfl rfl
theorem d_22_2_12 : decode prog_22_method_2_code 12 = .ok (.iand, 1) := D_126 W_prog_22_method_2_code_0 12 rfl rfl
theorem d_22_2_13 : decode prog_22_method_2_code 13 = .ok (.i2c, 1) := D_146 W_prog_22_method_2_code_0 13 rfl rfl
theorem d_22_2_14 : decode prog_22_method_2_code 14 = .ok (.ireturn, 1) := D_172 W_prog_22_method_2_code_0 14 rfl rfl
theorem W_prog_21_method_56_code_0 : chW prog_21_method_56_code 0 [42, 182, 1, 236, 153, 0, 12, 42, 180, 0, 9, 27, 184, 1, 239, 172, 42, 180, 0, 9, 27, 184, 1, 242, 172] := chW_of (by decide +kernel)
theorem d_21_56_0 : decode prog_21_method_56_code 0 = .ok (.aload_n 0, 1) := D_42 W_prog_21_method_56_code_0 0 rfl rfl
theorem d_21_56_1 : decode prog_21_method_56_code 1 = .ok (.invokevirtual 492, 3) := D_182 W_prog_21_method_56_code_0 1 rfl rfl rfl
theorem d_21_56_4 : decode prog_21_method_56_code 4 = .ok (.ifCond .eq 12, 3) := D_153 W_prog_21_method_56_code_0 4 rfl rfl rfl
theorem d_21_56_16 : decode prog_21_method_56_code 16 = .ok (.aload_n 0, 1) := D_42 W_prog_21_method_56_code_0 16 rfl rfl
theorem d_21_56_17 : decode prog_21_method_56_code 17 = .ok (.getfield 9, 3) := D_180 W_prog_21_method_56_code_0 17 rfl rfl rfl
theorem d_21_56_20 : decode prog_21_method_56_code 20 = .ok (.iload_n 1, 1) := D_27 W_prog_21_method_56_code_0 20 rfl rfl
theorem d_21_56_7 : decode prog_21_method_56_code 7 = .ok (.aload_n 0, 1) := D_42 W_prog_21_method_56_code_0 7 rfl rfl
theorem d_21_56_8 : decode prog_21_method_56_code 8 = .ok (.getfield 9, 3) := D_180 W_prog_21_method_56_code_0 8 rfl rfl rfl
theorem d_21_56_11 : decode prog_21_method_56_code 11 = .ok (.iload_n 1, 1) := D_27 W_prog_21_method_56_code_0 11 rfl rfl
theorem d_21_56_12 : decode prog_21_method_56_code 12 = .ok (.invokestatic 495, 3) := D_184 W_prog_21_method_56_code_0 12 rfl rfl rfl
theorem d_21_56_15 : decode prog_21_method_56_code 15 = .ok (.ireturn, 1) := D_172 W_prog_21_method_56_code_0 15 rfl rfl
abbrev Q_String_coder (D : va_G) (ca : Nat → ClassId) (ad : Nat → Int → Nat → Nat) (L : List Nat) (r : Int) (F : zF) (B : zB) (A : Nat → Prop) : Array Value → State → Outcome → State → Prop := va_Qi (S := Unit) (fun p _ => p = iI r) (fun _ => zPo D ca ad lnM nM L F B A) A
def f_String_coder_14 (K : Nat) (s0 : Int) (F : zF) (B : zB) : zO := if (-128) ≤ s0 ∧ s0 < 128 then some (s0, F, B) else none
set_option maxHeartbeats 4000000 in
set_option maxRecDepth 100000 in
theorem b_String_coder_14 {D : va_G} {ca : Nat → ClassId} {ad : Nat → Int → Nat → Nat} {L : List Nat} {aS vS : Nat → Nat} {A : Nat → Prop} {p : Program} {l : Launch} {e : Env} {s : State} {m : MethodId} {args : Array Value} {below : List Frame} {meth : Method} {c : Code} {K : Nat} {r : Int} {F9 : zF} {B9 : zB} (X : zX D ca L aS vS A p s m args meth c prog_21_method_152_code 1 (Option.some Jvm.ClassFile.FieldType.byte) "java/lang/String") {s0 : Int} {F : zF} {B : zB} {H : Heap} {locs : List Loc} {ls : Array Slot} (hf : f_String_coder_14 K s0 F B = some (r, F9, B9)) (hZ : zH D ca ad lnM nM L F B A H) (hS : va_S A s.heap H locs) (hl : lv_has ls 1 []) : W p l e ({ frames := 0, cells := 0, slots := 0, locals := 0 } : Room) s m args below meth c H locs 0 0 (MQ below (Q_String_coder D ca ad L r F9 B9 A) args s 0 0 A) (F0 m 14 ls [.int (iI s0)]) := by
  obtain ⟨hx, hb, hr, hml, hown, hts, hlk, hK, hA, hL, hX⟩ := id X
  replace hf : (if (-128) ≤ s0 ∧ s0 < 128 then some (s0, F, B) else none) = some (r, F9, B9) := hf
  obtain ⟨g3, hf⟩ := gif hf
  cases hf
  exact W.zret hx hb hr (zbyte g3) (fun t ht hW => ⟨⟨_, (), rfl, rfl, by rw [ht]; exact hZ, va_K.moved hW.alike hK⟩, hS.F ht⟩) hS.2.2 d_21_152_14 hlk

def f_String_coder (K : Nat) (l0 : Nat) (F : zF) (B : zB) : zO := (if (1 : Int) = 0 then f_String_coder_14 K 1 F B else if l0 < strL.length then f_String_coder_14 K 0 F B else none)
set_option maxHeartbeats 4000000 in
set_option maxRecDepth 100000 in
theorem c_String_coder {l : Launch} {D : va_G} {ca : Nat → ClassId} {ad : Nat → Int → Nat → Nat} {L : List Nat} {aS vS : Nat → Nat} {sz K : Nat}  {l0 : Nat} {F F9 : zF} {B B9 : zB} {r : Int} (hf : f_String_coder K l0 F B = some (r, F9, B9)) : Met l ({ cls := "java/lang/String", name := "coder", desc := "()B" } : Jvm.MethodName) (Cond.code ({ cls := "java/lang/String", name := "coder", desc := "()B" } : Jvm.MethodName) prog_21_method_152_code 1 (Option.some Jvm.ClassFile.FieldType.byte) :: wAll) ({ frames := 0, cells := 0, slots := 0, locals := 0 } : Room) (va_Pc [.ref (aS l0)] (zPre D ca ad lnM nM L aS vS F B sz)) (Q_String_coder D ca ad L r F9 B9 (zA L sz)) 0 0 (zA L sz) := by
  refine zMet (Qc := Q_String_coder D ca ad L r F9 B9) (lv := [(0, .ref (aS l0))]) (by decide) (Nat.le_of_ble_eq_true rfl) rfl (fun A p e s m below meth c ls X hZ hS hl => ?_)
  obtain ⟨hx, hb, hr, hml, hown, hts, hlk, hK, hA, hL, hX⟩ := id X
  replace hf : ((if (1 : Int) = 0 then f_String_coder_14 K 1 F B else if l0 < strL.length then f_String_coder_14 K 0 F B else none)) = some (r, F9, B9) := hf
  refine va_gets hx hb (hX.2.2.2.1 _ (List.mem_of_getElem? (i := 0) rfl) :) hS hown (hts _ k_3_79) (fun _ h => h) d_21_152_0 ?_
  refine W.eq (g2 := F0 m 3 ls [.int (iI 1)]) rfl ?_
  refine z0eq (tgt := 13) hx hb (by decide) d_21_152_3 (by decide) (fun h1 => ?_) (fun h1 => ?_)
  · replace hf := gpos hf h1
    refine lv_iconst (v := iI 1) hx hb d_21_152_13 rfl ?_
    exact b_String_coder_14 X hf hZ hS (lv_sub hl [] rfl)
  · replace hf := gneg hf h1
    refine lv_aload_n hx hb d_21_152_6 rfl (lv_at hl 0 rfl) ?_
    obtain ⟨g2, hf⟩ := gif hf
    refine vk_getf hx hb (zstr hX g2).1 hS hown (hts _ k_15_171) (fun _ h => h) d_21_152_7 ?_
    refine W.eq (g2 := F0 m 10 ls [.int (iI 0)]) rfl ?_
    refine lv_goto (tgt := 14) hx hb d_21_152_10 (by decide) ?_
    exact b_String_coder_14 X hf hZ hS (lv_sub hl [] rfl)

abbrev Q_String_isLatin1 (D : va_G) (ca : Nat → ClassId) (ad : Nat → Int → Nat → Nat) (L : List Nat) (r : Int) (F : zF) (B : zB) (A : Nat → Prop) : Array Value → State → Outcome → State → Prop := va_Qi (S := Unit) (fun p _ => p = iI r) (fun _ => zPo D ca ad lnM nM L F B A) A
def f_String_isLatin1_18 (K : Nat) (s0 : Int) (F : zF) (B : zB) : zO := if (s0 = 0 ∨ s0 = 1) then some (s0, F, B) else none
set_option maxHeartbeats 4000000 in
set_option maxRecDepth 100000 in
theorem b_String_isLatin1_18 {D : va_G} {ca : Nat → ClassId} {ad : Nat → Int → Nat → Nat} {L : List Nat} {aS vS : Nat → Nat} {A : Nat → Prop} {p : Program} {l : Launch} {e : Env} {s : State} {m : MethodId} {args : Array Value} {below : List Frame} {meth : Method} {c : Code} {K : Nat} {r : Int} {F9 : zF} {B9 : zB} (X : zX D ca L aS vS A p s m args meth c prog_21_method_154_code 1 (Option.some Jvm.ClassFile.FieldType.boolean) "java/lang/String") {s0 : Int} {F : zF} {B : zB} {H : Heap} {locs : List Loc} {ls : Array Slot} (hf : f_String_isLatin1_18 K s0 F B = some (r, F9, B9)) (hZ : zH D ca ad lnM nM L F B A H) (hS : va_S A s.heap H locs) (hl : lv_has ls 1 []) : W p l e ({ frames := 0, cells := 0, slots := 0, locals := 0 } : Room) s m args below meth c H locs 0 0 (MQ below (Q_String_isLatin1 D ca ad L r F9 B9 A) args s 0 0 A) (F0 m 18 ls [.int (iI s0)]) := by
  obtain ⟨hx, hb, hr, hml, hown, hts, hlk, hK, hA, hL, hX⟩ := id X
  replace hf : (if (s0 = 0 ∨ s0 = 1) then some (s0, F, B) else none) = some (r, F9, B9) := hf
  obtain ⟨g4, hf⟩ := gif hf
  cases hf
  exact W.zret hx hb hr (zbool g4) (fun t ht hW => ⟨⟨_, (), rfl, rfl, by rw [ht]; exact hZ, va_K.moved hW.alike hK⟩, hS.F ht⟩) hS.2.2 d_21_154_18 hlk

def f_String_isLatin1_17 (K : Nat)  (F : zF) (B : zB) : zO := f_String_isLatin1_18 K 0 F B
set_option maxHeartbeats 4000000 in
set_option maxRecDepth 100000 in
theorem b_String_isLatin1_17 {D : va_G} {ca : Nat → ClassId} {ad : Nat → Int → Nat → Nat} {L : List Nat} {aS vS : Nat → Nat} {A : Nat → Prop} {p : Program} {l : Launch} {e : Env} {s : State} {m : MethodId} {args : Array Value} {below : List Frame} {meth : Method} {c : Code} {K : Nat} {r : Int} {F9 : zF} {B9 : zB} (X : zX D ca L aS vS A p s m args meth c prog_21_method_154_code 1 (Option.some Jvm.ClassFile.FieldType.boolean) "java/lang/String")  {F : zF} {B : zB} {H : Heap} {locs : List Loc} {ls : Array Slot} (hf : f_String_isLatin1_17 K  F B = some (r, F9, B9)) (hZ : zH D ca ad lnM nM L F B A H) (hS : va_S A s.heap H locs) (hl : lv_has ls 1 []) : W p l e ({ frames := 0, cells := 0, slots := 0, locals := 0 } : Room) s m args below meth c H locs 0 0 (MQ below (Q_String_isLatin1 D ca ad L r F9 B9 A) args s 0 0 A) (F0 m 17 ls []) := by
  obtain ⟨hx, hb, hr, hml, hown, hts, hlk, hK, hA, hL, hX⟩ := id X
  replace hf : (f_String_isLatin1_18 K 0 F B) = some (r, F9, B9) := hf
  refine lv_iconst (v := iI 0) hx hb d_21_154_17 rfl ?_
  exact b_String_isLatin1_18 X hf hZ hS (lv_sub hl [] rfl)

def f_String_isLatin1 (K : Nat) (l0 : Nat) (F : zF) (B : zB) : zO := (if (1 : Int) = 0 then f_String_isLatin1_17 K F B else if l0 < strL.length then (if (0 : Int) = 0 then f_String_isLatin1_18 K 1 F B else f_String_isLatin1_17 K F B) else none)
set_option maxHeartbeats 4000000 in
set_option maxRecDepth 100000 in
theorem c_String_isLatin1 {l : Launch} {D : va_G} {ca : Nat → ClassId} {ad : Nat → Int → Nat → Nat} {L : List Nat} {aS vS : Nat → Nat} {sz K : Nat}  {l0 : Nat} {F F9 : zF} {B B9 : zB} {r : Int} (hf : f_String_isLatin1 K l0 F B = some (r, F9, B9)) : Met l ({ cls := "java/lang/String", name := "isLatin1", desc := "()Z" } : Jvm.MethodName) (Cond.code ({ cls := "java/lang/String", name := "isLatin1", desc := "()Z" } : Jvm.MethodName) prog_21_method_154_code 1 (Option.some Jvm.ClassFile.FieldType.boolean) :: wAll) ({ frames := 0, cells := 0, slots := 0, locals := 0 } : Room) (va_Pc [.ref (aS l0)] (zPre D ca ad lnM nM L aS vS F B sz)) (Q_String_isLatin1 D ca ad L r F9 B9 (zA L sz)) 0 0 (zA L sz) := by
  refine zMet (Qc := Q_String_isLatin1 D ca ad L r F9 B9) (lv := [(0, .ref (aS l0))]) (by decide) (Nat.le_of_ble_eq_true rfl) rfl (fun A p e s m below meth c ls X hZ hS hl => ?_)
  obtain ⟨hx, hb, hr, hml, hown, hts, hlk, hK, hA, hL, hX⟩ := id X
  replace hf : ((if (1 : Int) = 0 then f_String_isLatin1_17 K F B else if l0 < strL.length then (if (0 : Int) = 0 then f_String_isLatin1_18 K 1 F B else f_String_isLatin1_17 K F B) else none)) = some (r, F9, B9) := hf
  refine va_gets hx hb (hX.2.2.2.1 _ (List.mem_of_getElem? (i := 0) rfl) :) hS hown (hts _ k_3_79) (fun _ h => h) d_21_154_0 ?_
  refine W.eq (g2 := F0 m 3 ls [.int (iI 1)]) rfl ?_
  refine z0eq (tgt := 17) hx hb (by decide) d_21_154_3 (by decide) (fun h1 => ?_) (fun h1 => ?_)
  · replace hf := gpos hf h1
    exact b_String_isLatin1_17 X hf hZ hS (lv_sub hl [] rfl)
  · replace hf := gneg hf h1
    refine lv_aload_n hx hb d_21_154_6 rfl (lv_at hl 0 rfl) ?_
    obtain ⟨g2, hf⟩ := gif hf
    refine vk_getf hx hb (zstr hX g2).1 hS hown (hts _ k_15_171) (fun _ h => h) d_21_154_7 ?_
    refine W.eq (g2 := F0 m 10 ls [.int (iI 0)]) rfl ?_
    refine z0ne (tgt := 17) hx hb (by decide) d_21_154_10 (by decide) (fun h3 => ?_) (fun h3 => ?_)
    · replace hf := gneg hf h3
      exact b_String_isLatin1_17 X hf hZ hS (lv_sub hl [] rfl)
    · replace hf := gpos hf h3
      refine lv_iconst (v := iI 1) hx hb d_21_154_13 rfl ?_
      refine lv_goto (tgt := 18) hx hb d_21_154_14 (by decide) ?_
      exact b_String_isLatin1_18 X hf hZ hS (lv_sub hl [] rfl)

abbrev Q_String_length (D : va_G) (ca : Nat → ClassId) (ad : Nat → Int → Nat → Nat) (L : List Nat) (r : Int) (F : zF) (B : zB) (A : Nat → Prop) : Array Value → State → Outcome → State → Prop := va_Qi (S := Unit) (fun p _ => p = iI r) (fun _ => zPo D ca ad lnM nM L F B A) A
def f_String_length (K : Nat) (l0 : Nat) (F : zF) (B : zB) : zO := if l0 < strL.length then zbind (f_String_coder K l0 F B) (fun r2 F2 B2 => some (zshr (zsl l0) r2, F2, B2)) else none
set_option maxHeartbeats 4000000 in
set_option maxRecDepth 100000 in
theorem c_String_length {l : Launch} {D : va_G} {ca : Nat → ClassId} {ad : Nat → Int → Nat → Nat} {L : List Nat} {aS vS : Nat → Nat} {sz K : Nat}  {l0 : Nat} {F F9 : zF} {B B9 : zB} {r : Int} (hf : f_String_length K l0 F B = some (r, F9, B9)) : Met l ({ cls := "java/lang/String", name := "length", desc := "()I" } : Jvm.MethodName) (Cond.code ({ cls := "java/lang/String", name := "length", desc := "()I" } : Jvm.MethodName) prog_21_method_54_code 1 (Option.some Jvm.ClassFile.FieldType.int) :: wAll) ({ frames := 1, cells := 0, slots := 0, locals := 20 } : Room) (va_Pc [.ref (aS l0)] (zPre D ca ad lnM nM L aS vS F B sz)) (Q_String_length D ca ad L r F9 B9 (zA L sz)) 0 0 (zA L sz) := by
  refine zMet (Qc := Q_String_length D ca ad L r F9 B9) (lv := [(0, .ref (aS l0))]) (by decide) (Nat.le_of_ble_eq_true rfl) rfl (fun A p e s m below meth c ls X hZ hS hl => ?_)
  obtain ⟨hx, hb, hr, hml, hown, hts, hlk, hK, hA, hL, hX⟩ := id X
  replace hf : (if l0 < strL.length then zbind (f_String_coder K l0 F B) (fun r2 F2 B2 => some (zshr (zsl l0) r2, F2, B2)) else none) = some (r, F9, B9) := hf
  refine lv_aload_n hx hb d_21_54_0 rfl (lv_at hl 0 rfl) ?_
  obtain ⟨g1, hf⟩ := gif hf
  refine vk_getf hx hb (zstr hX g1).2.1 hS hown (hts _ k_15_170) (fun _ h => h) d_21_54_1 ?_
  refine W.eq (g2 := F0 m 4 ls [.ref (vS l0)]) rfl ?_
  refine va_tlen (v := iI (zsl l0)) hx hb (zstr hX g1).2.2.1 hS (zsl_n _) d_21_54_4 ?_
  refine lv_aload_n hx hb d_21_54_5 rfl (lv_at hl 0 rfl) ?_
  obtain ⟨r2, F2, B2, hc2, hf⟩ := gbind hf
  refine va_calli (va_runV (As := []) (rest := [.int (iI (zsl l0))]) ⟨hx, hb, hml, hown, hts⟩ (c_String_coder (l := l) hc2) (cwV 0 hts (gdV k_3_85 k_3_86 k_3_87 k_1_11 k_3_88) rfl rfl rfl (by decide +kernel) ⟨Nat.le_of_ble_eq_true rfl, Nat.le_of_ble_eq_true rfl⟩) ⟨zBlind, zsrecv hX g1 hS, zAt X hZ hS [.ref (aS l0)]⟩ rfl rfl hl.1 rfl (lv_room (Nat.le_of_ble_eq_true rfl)) d_21_54_6 ⟨Nat.le_of_ble_eq_true rfl, Nat.le_of_ble_eq_true rfl⟩) hS (fun q _ h => zAin X hS q h) (zAin X hS) (fun p2 u2 t2 H2 locs2 ht2 hv2 hw2 hB2 hz2 hk2 hS2 => ?_)
  have hZ2 := zBack X ht2 hB2
  subst hw2
  refine zshr_r hx hb d_21_54_9 ?_
  cases hf
  exact W.iret hx hb hr (fun t ht hW => ⟨⟨_, (), rfl, rfl, by rw [ht]; exact hZ2, va_K.moved hW.alike hK⟩, hS2.F ht⟩) hS2.2.2 d_21_54_10 hlk

abbrev Q_Preconditions_checkIndex (D : va_G) (ca : Nat → ClassId) (ad : Nat → Int → Nat → Nat) (L : List Nat) (r : Int) (F : zF) (B : zB) (A : Nat → Prop) : Array Value → State → Outcome → State → Prop := va_Qi (S := Unit) (fun p _ => p = iI r) (fun _ => zPo D ca ad lnM nM L F B A) A
def f_Preconditions_checkIndex_9 (K : Nat) (l0 : Int) (l1 : Int) (F : zF) (B : zB) : zO := none
set_option maxHeartbeats 4000000 in
set_option maxRecDepth 100000 in
theorem b_Preconditions_checkIndex_9 {D : va_G} {ca : Nat → ClassId} {ad : Nat → Int → Nat → Nat} {L : List Nat} {aS vS : Nat → Nat} {A : Nat → Prop} {p : Program} {l : Launch} {e : Env} {s : State} {m : MethodId} {args : Array Value} {below : List Frame} {meth : Method} {c : Code} {K : Nat} {r : Int} {F9 : zF} {B9 : zB} (X : zX D ca L aS vS A p s m args meth c prog_24_method_11_code 3 (Option.some Jvm.ClassFile.FieldType.int) "jdk/internal/util/Preconditions") {l0 : Int} {l1 : Int} {F : zF} {B : zB} {H : Heap} {locs : List Loc} {ls : Array Slot} (hf : f_Preconditions_checkIndex_9 K l0 l1 F B = some (r, F9, B9)) (hZ : zH D ca ad lnM nM L F B A H) (hS : va_S A s.heap H locs) (hl : lv_has ls 3 [(0, .int (iI l0)), (1, .int (iI l1))]) : W p l e ({ frames := 0, cells := 0, slots := 0, locals := 0 } : Room) s m args below meth c H locs 0 0 (MQ below (Q_Preconditions_checkIndex D ca ad L r F9 B9 A) args s 0 0 A) (F0 m 9 ls []) := by
  obtain ⟨hx, hb, hr, hml, hown, hts, hlk, hK, hA, hL, hX⟩ := id X
  replace hf : (none) = some (r, F9, B9) := hf
  cases hf

def f_Preconditions_checkIndex (K : Nat) (l0 : Int) (l1 : Int) (F : zF) (B : zB) : zO := if r32 l0 then (if l0 < 0 then f_Preconditions_checkIndex_9 K l0 l1 F B else if r32 l1 then (if l0 < l1 then some (l0, F, B) else f_Preconditions_checkIndex_9 K l0 l1 F B) else none) else none
set_option maxHeartbeats 4000000 in
set_option maxRecDepth 100000 in
theorem c_Preconditions_checkIndex {l : Launch} {D : va_G} {ca : Nat → ClassId} {ad : Nat → Int → Nat → Nat} {L : List Nat} {aS vS : Nat → Nat} {sz K : Nat} {l2 : Option Nat} {l0 : Int} {l1 : Int} {F F9 : zF} {B B9 : zB} {r : Int} (hf : f_Preconditions_checkIndex K l0 l1 F B = some (r, F9, B9)) : Met l ({ cls := "jdk/internal/util/Preconditions", name := "checkIndex", desc := "(IILjava/util/function/BiFunction;)I" } : Jvm.MethodName) (Cond.code ({ cls := "jdk/internal/util/Preconditions", name := "checkIndex", desc := "(IILjava/util/function/BiFunction;)I" } : Jvm.MethodName) prog_24_method_11_code 3 (Option.some Jvm.ClassFile.FieldType.int) :: wAll) ({ frames := 0, cells := 0, slots := 0, locals := 0 } : Room) (va_Pc [.int (iI l0), .int (iI l1), va_rf l2] (zPre D ca ad lnM nM L aS vS F B sz)) (Q_Preconditions_checkIndex D ca ad L r F9 B9 (zA L sz)) 0 0 (zA L sz) := by
  refine zMet (Qc := Q_Preconditions_checkIndex D ca ad L r F9 B9) (lv := [(0, .int (iI l0)), (1, .int (iI l1)), (2, va_rf l2)]) (by decide) (by cases l2 <;> exact Nat.le_of_ble_eq_true rfl) (by cases l2 <;> rfl) (fun A p e s m below meth c ls X hZ hS hl => ?_)
  obtain ⟨hx, hb, hr, hml, hown, hts, hlk, hK, hA, hL, hX⟩ := id X
  replace hf : (if r32 l0 then (if l0 < 0 then f_Preconditions_checkIndex_9 K l0 l1 F B else if r32 l1 then (if l0 < l1 then some (l0, F, B) else f_Preconditions_checkIndex_9 K l0 l1 F B) else none) else none) = some (r, F9, B9) := hf
  refine lv_iload_n hx hb d_24_11_0 rfl (lv_at hl 0 rfl) ?_
  obtain ⟨g1, hf⟩ := gif hf
  refine z0lt (tgt := 9) hx hb g1 d_24_11_1 (by decide) (fun h2 => ?_) (fun h2 => ?_)
  · replace hf := gpos hf h2
    exact b_Preconditions_checkIndex_9 X hf hZ hS (lv_sub hl [0, 1] rfl)
  · replace hf := gneg hf h2
    refine lv_iload_n hx hb d_24_11_4 rfl (lv_at hl 0 rfl) ?_
    refine lv_iload_n hx hb d_24_11_5 rfl (lv_at hl 1 rfl) ?_
    obtain ⟨g3, hf⟩ := gif hf
    refine zlt (tgt := 16) hx hb g1 g3 d_24_11_6 (by decide) (fun h4 => ?_) (fun h4 => ?_)
    · replace hf := gpos hf h4
      refine lv_iload_n hx hb d_24_11_16 rfl (lv_at hl 0 rfl) ?_
      cases hf
      exact W.iret hx hb hr (fun t ht hW => ⟨⟨_, (), rfl, rfl, by rw [ht]; exact hZ, va_K.moved hW.alike hK⟩, hS.F ht⟩) hS.2.2 d_24_11_17 hlk
    · replace hf := gneg hf h4
      exact b_Preconditions_checkIndex_9 X hf hZ hS (lv_sub hl [0, 1] rfl)

abbrev Q_String_checkIndex (D : va_G) (ca : Nat → ClassId) (ad : Nat → Int → Nat → Nat) (L : List Nat) (r : Int) (F : zF) (B : zB) (A : Nat → Prop) : Array Value → State → Outcome → State → Prop := va_Qv (S := Unit) (fun _ => True) (fun _ => zPo D ca ad lnM nM L F B A) A
def f_String_checkIndex (K : Nat) (l0 : Int) (l1 : Int) (F : zF) (B : zB) : zO := zbind (f_Preconditions_checkIndex K l0 l1 F B) (fun r2 F2 B2 => some (0, F2, B2))
set_option maxHeartbeats 4000000 in
set_option maxRecDepth 100000 in
theorem c_String_checkIndex {l : Launch} {D : va_G} {ca : Nat → ClassId} {ad : Nat → Int → Nat → Nat} {L : List Nat} {aS vS : Nat → Nat} {sz K : Nat}  {l0 : Int} {l1 : Int} {F F9 : zF} {B B9 : zB} {r : Int} (hf : f_String_checkIndex K l0 l1 F B = some (r, F9, B9)) : Met l ({ cls := "java/lang/String", name := "checkIndex", desc := "(II)V" } : Jvm.MethodName) (Cond.code ({ cls := "java/lang/String", name := "checkIndex", desc := "(II)V" } : Jvm.MethodName) prog_21_method_155_code 2 (Option.none : Option Jvm.ClassFile.FieldType) :: wAll) ({ frames := 1, cells := 0, slots := 0, locals := 22 } : Room) (va_Pc [.int (iI l0), .int (iI l1)] (zPre D ca ad lnM nM L aS vS F B sz)) (Q_String_checkIndex D ca ad L r F9 B9 (zA L sz)) 0 0 (zA L sz) := by
  refine zMet (Qc := Q_String_checkIndex D ca ad L r F9 B9) (lv := [(0, .int (iI l0)), (1, .int (iI l1))]) (by decide) (Nat.le_of_ble_eq_true rfl) rfl (fun A p e s m below meth c ls X hZ hS hl => ?_)
  obtain ⟨hx, hb, hr, hml, hown, hts, hlk, hK, hA, hL, hX⟩ := id X
  replace hf : (zbind (f_Preconditions_checkIndex K l0 l1 F B) (fun r2 F2 B2 => some (0, F2, B2))) = some (r, F9, B9) := hf
  refine lv_iload_n hx hb d_21_155_0 rfl (lv_at hl 0 rfl) ?_
  refine lv_iload_n hx hb d_21_155_1 rfl (lv_at hl 1 rfl) ?_
  obtain ⟨o1, ho1⟩ := zfmt hX
  refine va_gets hx hb ho1 hS hown (hts _ k_3_120) (fun _ h => h) d_21_155_2 ?_
  obtain ⟨r2, F2, B2, hc2, hf⟩ := gbind hf
  refine va_calli (va_runS (As := [.int (iI l0), .int (iI l1), va_rf o1]) (rest := []) ⟨hx, hb, hml, hown, hts⟩ (c_Preconditions_checkIndex (l := l) hc2) (va_cwS 3 hts (gdS k_7_143 k_7_144 k_1_13 k_7_145) rfl rfl rfl (by decide +kernel) ⟨Nat.le_of_ble_eq_true rfl, Nat.le_of_ble_eq_true rfl⟩) (zPS X hZ hS [.int (iI l0), .int (iI l1), va_rf o1]) rfl rfl hl.1 rfl (lv_room (Nat.le_of_ble_eq_true rfl)) d_21_155_5 ⟨Nat.le_of_ble_eq_true rfl, Nat.le_of_ble_eq_true rfl⟩) hS (fun q _ h => zAin X hS q h) (zAin X hS) (fun p2 u2 t2 H2 locs2 ht2 hv2 hw2 hB2 hz2 hk2 hS2 => ?_)
  have hZ2 := zBack X ht2 hB2
  subst hw2
  refine lv_pop hx hb d_21_155_8 rfl ?_
  cases hf
  exact W.vret hx hb hr (fun t ht hW => ⟨⟨(), rfl, trivial, by rw [ht]; exact hZ2, va_K.moved hW.alike hK⟩, hS2.F ht⟩) hS2.2.2 d_21_155_9 hlk

abbrev Q_StringLatin1_charAt (D : va_G) (ca : Nat → ClassId) (ad : Nat → Int → Nat → Nat) (L : List Nat) (r : Int) (F : zF) (B : zB) (A : Nat → Prop) : Array Value → State → Outcome → State → Prop := va_Qi (S := Unit) (fun p _ => p = iI r) (fun _ => zPo D ca ad lnM nM L F B A) A
def f_StringLatin1_charAt (K : Nat) (l0 : Nat) (l1 : Int) (F : zF) (B : zB) : zO := if l0 < strL.length then zbind (f_String_checkIndex K l1 (zsl l0) F B) (fun r2 F2 B2 => if 0 ≤ l1 ∧ l1 < zsl l0 then if 0 ≤ (zi2c (zand (zsb l0 l1) 255)) ∧ (zi2c (zand (zsb l0 l1) 255)) < 65536 then some (zi2c (zand (zsb l0 l1) 255), F2, B2) else none else none) else none
set_option maxHeartbeats 4000000 in
set_option maxRecDepth 100000 in
theorem c_StringLatin1_charAt {l : Launch} {D : va_G} {ca : Nat → ClassId} {ad : Nat → Int → Nat → Nat} {L : List Nat} {aS vS : Nat → Nat} {sz K : Nat}  {l0 : Nat} {l1 : Int} {F F9 : zF} {B B9 : zB} {r : Int} (hf : f_StringLatin1_charAt K l0 l1 F B = some (r, F9, B9)) : Met l ({ cls := "java/lang/StringLatin1", name := "charAt", desc := "([BI)C" } : Jvm.MethodName) (Cond.code ({ cls := "java/lang/StringLatin1", name := "charAt", desc := "([BI)C" } : Jvm.MethodName) prog_22_method_2_code 2 (Option.some Jvm.ClassFile.FieldType.char) :: wAll) ({ frames := 2, cells := 0, slots := 0, locals := 43 } : Room) (va_Pc [.ref (vS l0), .int (iI l1)] (zPre D ca ad lnM nM L aS vS F B sz)) (Q_StringLatin1_charAt D ca ad L r F9 B9 (zA L sz)) 0 0 (zA L sz) := by
  refine zMet (Qc := Q_StringLatin1_charAt D ca ad L r F9 B9) (lv := [(0, .ref (vS l0)), (1, .int (iI l1))]) (by decide) (Nat.le_of_ble_eq_true rfl) rfl (fun A p e s m below meth c ls X hZ hS hl => ?_)
  obtain ⟨hx, hb, hr, hml, hown, hts, hlk, hK, hA, hL, hX⟩ := id X
  replace hf : (if l0 < strL.length then zbind (f_String_checkIndex K l1 (zsl l0) F B) (fun r2 F2 B2 => if 0 ≤ l1 ∧ l1 < zsl l0 then if 0 ≤ (zi2c (zand (zsb l0 l1) 255)) ∧ (zi2c (zand (zsb l0 l1) 255)) < 65536 then some (zi2c (zand (zsb l0 l1) 255), F2, B2) else none else none) else none) = some (r, F9, B9) := hf
  refine lv_iload_n hx hb d_22_2_0 rfl (lv_at hl 1 rfl) ?_
  refine lv_aload_n hx hb d_22_2_1 rfl (lv_at hl 0 rfl) ?_
  obtain ⟨g1, hf⟩ := gif hf
  refine va_tlen (v := iI (zsl l0)) hx hb (zstr hX g1).2.2.1 hS (zsl_n _) d_22_2_2 ?_
  obtain ⟨r2, F2, B2, hc2, hf⟩ := gbind hf
  refine va_callv (va_runS (As := [.int (iI l1), .int (iI (zsl l0))]) (rest := []) ⟨hx, hb, hml, hown, hts⟩ (c_String_checkIndex (l := l) hc2) (va_cwS 2 hts (gdS k_7_140 k_7_141 k_1_11 k_7_142) rfl rfl rfl (by decide +kernel) ⟨Nat.le_of_ble_eq_true rfl, Nat.le_of_ble_eq_true rfl⟩) (zPS X hZ hS [.int (iI l1), .int (iI (zsl l0))]) rfl rfl hl.1 rfl (lv_room (Nat.le_of_ble_eq_true rfl)) d_22_2_3 ⟨Nat.le_of_ble_eq_true rfl, Nat.le_of_ble_eq_true rfl⟩) hS (fun q _ h => zAin X hS q h) (zAin X hS) (fun u2 t2 H2 locs2 ht2 hv2 hw2 hB2 hz2 hk2 hS2 => ?_)
  have hZ2 := zBack X ht2 hB2
  refine lv_aload_n hx hb d_22_2_6 rfl (lv_at hl 0 rfl) ?_
  refine lv_iload_n hx hb d_22_2_7 rfl (lv_at hl 1 rfl) ?_
  obtain ⟨g3, hf⟩ := gif hf
  refine va_tb (v := .int (iI (zsb l0 l1))) hx hb (zstr hX g1).2.2.1 hS2 (zs_in g1 g3) (zsb_v g1 g3) d_22_2_8 ?_
  refine lv_sipush (v := iI 255) hx hb d_22_2_9 (by decide) ?_
  refine zand_r hx hb d_22_2_12 ?_
  refine zi2c_r hx hb d_22_2_13 ?_
  obtain ⟨g4, hf⟩ := gif hf
  cases hf
  exact W.zret hx hb hr (zchar g4) (fun t ht hW => ⟨⟨_, (), rfl, rfl, by rw [ht]; exact hZ2, va_K.moved hW.alike hK⟩, hS2.F ht⟩) hS2.2.2 d_22_2_14 hlk

abbrev Q_String_charAt (D : va_G) (ca : Nat → ClassId) (ad : Nat → Int → Nat → Nat) (L : List Nat) (r : Int) (F : zF) (B : zB) (A : Nat → Prop) : Array Value → State → Outcome → State → Prop := va_Qi (S := Unit) (fun p _ => p = iI r) (fun _ => zPo D ca ad lnM nM L F B A) A
def f_String_charAt (K : Nat) (l0 : Nat) (l1 : Int) (F : zF) (B : zB) : zO := if l0 < strL.length then zbind (f_String_isLatin1 K l0 F B) (fun r2 F2 B2 => if r32 r2 then (if r2 = 0 then none else zbind (f_StringLatin1_charAt K l0 l1 F2 B2) (fun r5 F5 B5 => if 0 ≤ r5 ∧ r5 < 65536 then some (r5, F5, B5) else none)) else none) else none
set_option maxHeartbeats 4000000 in
set_option maxRecDepth 100000 in
theorem c_String_charAt {l : Launch} {D : va_G} {ca : Nat → ClassId} {ad : Nat → Int → Nat → Nat} {L : List Nat} {aS vS : Nat → Nat} {sz K : Nat}  {l0 : Nat} {l1 : Int} {F F9 : zF} {B B9 : zB} {r : Int} (hf : f_String_charAt K l0 l1 F B = some (r, F9, B9)) : Met l ({ cls := "java/lang/String", name := "charAt", desc := "(I)C" } : Jvm.MethodName) (Cond.code ({ cls := "java/lang/String", name := "charAt", desc := "(I)C" } : Jvm.MethodName) prog_21_method_56_code 2 (Option.some Jvm.ClassFile.FieldType.char) :: wAll) ({ frames := 3, cells := 0, slots := 0, locals := 64 } : Room) (va_Pc [.ref (aS l0), .int (iI l1)] (zPre D ca ad lnM nM L aS vS F B sz)) (Q_String_charAt D ca ad L r F9 B9 (zA L sz)) 0 0 (zA L sz) := by
  refine zMet (Qc := Q_String_charAt D ca ad L r F9 B9) (lv := [(0, .ref (aS l0)), (1, .int (iI l1))]) (by decide) (Nat.le_of_ble_eq_true rfl) rfl (fun A p e s m below meth c ls X hZ hS hl => ?_)
  obtain ⟨hx, hb, hr, hml, hown, hts, hlk, hK, hA, hL, hX⟩ := id X
  replace hf : (if l0 < strL.length then zbind (f_String_isLatin1 K l0 F B) (fun r2 F2 B2 => if r32 r2 then (if r2 = 0 then none else zbind (f_StringLatin1_charAt K l0 l1 F2 B2) (fun r5 F5 B5 => if 0 ≤ r5 ∧ r5 < 65536 then some (r5, F5, B5) else none)) else none) else none) = some (r, F9, B9) := hf
  refine lv_aload_n hx hb d_21_56_0 rfl (lv_at hl 0 rfl) ?_
  obtain ⟨g1, hf⟩ := gif hf
  obtain ⟨r2, F2, B2, hc2, hf⟩ := gbind hf
  refine va_calli (va_runV (As := []) (rest := []) ⟨hx, hb, hml, hown, hts⟩ (c_String_isLatin1 (l := l) hc2) (cwV 0 hts (gdV k_3_75 k_3_76 k_3_77 k_1_11 k_3_78) rfl rfl rfl (by decide +kernel) ⟨Nat.le_of_ble_eq_true rfl, Nat.le_of_ble_eq_true rfl⟩) ⟨zBlind, zsrecv hX g1 hS, zAt X hZ hS [.ref (aS l0)]⟩ rfl rfl hl.1 rfl (lv_room (Nat.le_of_ble_eq_true rfl)) d_21_56_1 ⟨Nat.le_of_ble_eq_true rfl, Nat.le_of_ble_eq_true rfl⟩) hS (fun q _ h => zAin X hS q h) (zAin X hS) (fun p2 u2 t2 H2 locs2 ht2 hv2 hw2 hB2 hz2 hk2 hS2 => ?_)
  have hZ2 := zBack X ht2 hB2
  subst hw2
  obtain ⟨g3, hf⟩ := gif hf
  refine z0eq (tgt := 16) hx hb g3 d_21_56_4 (by decide) (fun h4 => ?_) (fun h4 => ?_)
  · replace hf := gpos hf h4
    refine lv_aload_n hx hb d_21_56_16 rfl (lv_at hl 0 rfl) ?_
    refine vk_getf hx hb (zstr hX g1).2.1 hS2 hown (hts _ k_15_170) (fun _ h => h) d_21_56_17 ?_
    refine W.eq (g2 := F0 m 20 ls [.ref (vS l0)]) rfl ?_
    refine lv_iload_n hx hb d_21_56_20 rfl (lv_at hl 1 rfl) ?_
    cases hf
  · replace hf := gneg hf h4
    refine lv_aload_n hx hb d_21_56_7 rfl (lv_at hl 0 rfl) ?_
    refine vk_getf hx hb (zstr hX g1).2.1 hS2 hown (hts _ k_15_170) (fun _ h => h) d_21_56_8 ?_
    refine W.eq (g2 := F0 m 11 ls [.ref (vS l0)]) rfl ?_
    refine lv_iload_n hx hb d_21_56_11 rfl (lv_at hl 1 rfl) ?_
    obtain ⟨r5, F5, B5, hc5, hf⟩ := gbind hf
    refine va_calli (va_runS (As := [.ref (vS l0), .int (iI l1)]) (rest := []) ⟨hx, hb, hml, hown, hts⟩ (c_StringLatin1_charAt (l := l) hc5) (va_cwS 2 hts (gdS k_7_137 k_7_138 k_1_12 k_7_139) rfl rfl rfl (by decide +kernel) ⟨Nat.le_of_ble_eq_true rfl, Nat.le_of_ble_eq_true rfl⟩) (zPS X hZ2 hS2 [.ref (vS l0), .int (iI l1)]) rfl rfl hl.1 rfl (lv_room (Nat.le_of_ble_eq_true rfl)) d_21_56_12 ⟨Nat.le_of_ble_eq_true rfl, Nat.le_of_ble_eq_true rfl⟩) hS2 (fun q _ h => zAin X hS2 q h) (zAin X hS2) (fun p5 u5 t5 H5 locs5 ht5 hv5 hw5 hB5 hz5 hk5 hS5 => ?_)
    have hZ5 := zBack X ht5 hB5
    subst hw5
    obtain ⟨g6, hf⟩ := gif hf
    cases hf
    exact W.zret hx hb hr (zchar g6) (fun t ht hW => ⟨⟨_, (), rfl, rfl, by rw [ht]; exact hZ5, va_K.moved hW.alike hK⟩, hS5.F ht⟩) hS5.2.2 d_21_56_15 hlk
end

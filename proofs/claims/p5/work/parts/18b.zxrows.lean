/-! ===== rows over worlds with raw cells ===== -/
section ZX
variable {p : Program} {l : Launch} {e : Env} {R : Room} {s : State} {m : MethodId} {args : Array Value} {below : List Frame} {meth : Method} {c : Code} {H : Heap} {locs : List Loc} {cells slots : Nat} {Q : State → Prop}
variable {cc : ByteArray} {pc : Nat} {ls : Array Slot} {rest : List Value} {D : va_G} {A : Nat → Prop} {a : Nat} {tys : List (ClassId × FieldType)} {H0 : Heap}
variable {own C : String} {T : u_T} {n ci index k : Nat} {g : Nat → Value} {L : List Nat} {ca : Nat → ClassId} {ad : Nat → Int → Nat → Nat} {ln : Nat → Int → Nat → Nat} {N : Nat → Int} {F : zF} {B : zB} {X : va_W}
theorem zxget_at {pl : va_W} {q0 : Nat} {x : Nat × va_E} (h : X[q0]? = some x) : (X ++ pl)[q0]? = some x := by
  rw [List.getElem?_append_left (List.getElem?_eq_some_iff.mp h).1]
  exact h
theorem zxset_at {pl : va_W} {q0 : Nat} {x y : Nat × va_E} (h : X[q0]? = some x) : (X ++ pl).set q0 y = X.set q0 y ++ pl := by
  rw [List.set_append_left _ _ (List.getElem?_eq_some_iff.mp h).1]
theorem zxnew (hx : p.tables.exec = Jvm.exec) (hb : c.code = cc) (hts : ∀ w ∈ wAll, w.before args s = true) (hin : ∀ w ∈ u_ws C T n, w ∈ wAll) (ty0 : Nat → FieldType) (hty : ∀ k, k < n → parseFieldDescriptor (T k).2.2.1 = some (ty0 k)) (hown : s.vm.findClass own = some m.cls) (hcl : Cond.classLink own index C ∈ wAll) (hinst : Cond.instantiable C n ∈ wAll) (hini : Cond.initialized C ∈ wAll)
    (hK : va_K D cls tys s) (hZ : zHx D ca ad ln N L F B X A H) (hS : va_S A H0 H locs) (hA : ∀ q, H0.size ≤ q → A q) (hc : cls[ci]? = some (C, T, n)) (hcells : cells + 1 ≤ R.cells) (hslots : slots + n ≤ R.slots) (hdg : decode cc pc = .ok (.new index, 3))
    (kk : ∀ (q : Nat) (H1 : Heap), zHx D ca ad ln N L F B (X ++ [(q, .inr (ci, rg n (fun j => defaultValue (ty0 j))))]) A H1 → va_S A H0 H1 locs → W p l e R s m args below meth c H1 locs (cells + 1) (slots + n) Q (F0 m (pc + 3) ls (.ref q :: rest))) : W p l e R s m args below meth c H locs cells slots Q (F0 m pc ls rest) := by
  obtain ⟨hj, f, hP, hD, hR⟩ := hZ
  exact va_new (fs := rg n (fun j => defaultValue (ty0 j))) hx hb hts hin ty0 hty hown (hts _ hcl) (hts _ hinst) (hts _ hini) hK hP hD hS hA hc (fun j hj => (rg_V (f := fun j => defaultValue (ty0 j)) hj).symm) hcells hslots hdg (fun q H1 h1 h2 h3 => kk q H1 ⟨hj, f, h1.swap, h2.swap, hR⟩ h3)
theorem zxnewa (hx : p.tables.exec = Jvm.exec) (hb : c.code = cc) (hts : ∀ w ∈ wAll, w.before args s = true) {atype : ArrayType} {ty : FieldType} (hty : newarray.typeOf atype = ty) (harr : Cond.arrayClass (newarray.typeOf atype) ∈ wAll) (hK : va_K D cls tys s) (t0 : Nat) {cy : ClassId} (ht : tys[t0]? = some (cy, ty)) (hu : ∀ c1 c2, va_RA s c1 ty → va_RA s c2 ty → c1 = c2) (hZ : zHx D ca ad ln N L F B X A H) (hS : va_S A H0 H locs) (hA : ∀ q, H0.size ≤ q → A q)
    {z : Int32} {N' : Nat} {a0 : vp_A} (ha : ∀ cA : ClassId, vp_cell cA a0 = arrV cA N' (fun _ => defaultValue ty)) (hn : ¬ z < 0) (hN : z.toNatClampNeg = N') (hbytes : N' * componentBytes ty ≤ 536870912) (hcells : cells + 1 ≤ R.cells) (hslots : slots + N' ≤ R.slots) (hdg : decode cc pc = .ok (.newarray atype, 2))
    (kk : ∀ (q : Nat) (H1 : Heap), zHx D ca ad ln N L F B (X ++ [(q, .inl (cy, a0))]) A H1 → va_S A H0 H1 locs →
      W p l e R s m args below meth c H1 locs (cells + 1) (slots + N') Q (F0 m (pc + 2) ls (.ref q :: rest))) : W p l e R s m args below meth c H locs cells slots Q (F0 m pc ls (.int z :: rest)) := by
  obtain ⟨hj, f, hP, hD, hR⟩ := hZ
  exact gnewa hx hb hts hty harr hK t0 ht hu hP hD hS hA ha hn hN hbytes hcells hslots hdg (fun q H1 h1 h2 h3 => kk q H1 ⟨hj, f, h1.swap, h2.swap, hR⟩ h3)
theorem zxnewq (hx : p.tables.exec = Jvm.exec) (hb : c.code = cc) (hts : ∀ w ∈ wAll, w.before args s = true) (hown : s.vm.findClass own = some m.cls) (hcl : Cond.classLink own index C ∈ wAll) (hover : va_AO C s) (hK : va_K D cls tys s) (t0 : Nat) {cy : ClassId} (ht : tys[t0]? = some (cy, .object C)) (hZ : zHx D ca ad ln N L F B X A H) (hS : va_S A H0 H locs) (hA : ∀ q, H0.size ≤ q → A q) {z : Int32} {N' : Nat} (hn : ¬ z < 0) (hN : z.toNatClampNeg = N') (hbytes : N' * 4 ≤ 536870912) (hcells : cells + 1 ≤ R.cells) (hslots : slots + N' ≤ R.slots) (hdg : decode cc pc = .ok (.anewarray index, 3))
    (kk : ∀ (q : Nat) (H1 : Heap), zHx D ca ad ln N L F B (X ++ [(q, .inl (cy, N', .inr (.inr (.inr (.inr (fun _ => none))))))]) A H1 → va_S A H0 H1 locs → W p l e R s m args below meth c H1 locs (cells + 1) (slots + N') Q (F0 m (pc + 3) ls (.ref q :: rest))) : W p l e R s m args below meth c H locs cells slots Q (F0 m pc ls (.int z :: rest)) := by
  obtain ⟨hj, f, hP, hD, hR⟩ := hZ
  exact gnewq hx hb hts hown hcl hover hK t0 ht hP hD hS hA hn hN hbytes hcells hslots hdg (fun q H1 h1 h2 h3 => kk q H1 ⟨hj, f, h1.swap, h2.swap, hR⟩ h3)
theorem zxput (hx : p.tables.exec = Jvm.exec) (hb : c.code = cc) (hts : ∀ w ∈ wAll, w.before args s = true) (hin : ∀ w ∈ u_ws C T n, w ∈ wAll) (ty0 : Nat → FieldType) (hty : ∀ k, k < n → parseFieldDescriptor (T k).2.2.1 = some (ty0 k)) (hnm : ∀ a, a < n → ∀ b, b < n → a ≠ b → (T a).2.1 ≠ (T b).2.1) (hown : s.vm.findClass own = some m.cls) (hK : va_K D cls tys s) (hZ : zHx D ca ad ln N L F B X A H) (hS : va_S A H0 H locs) (q0 : Nat) (he : X[q0]? = some (a, .inr (ci, rg n g))) (hc : cls[ci]? = some (C, T, n)) (hk : k < n)
    (hlink : Cond.fieldLink own index (T k).1 (T k).2.1 (T k).2.2.1 ∈ wAll) (hfin : (T k).2.2.2 = false) {v : Value} (hn : narrow (ty0 k) v = v) (hfit : fits (ty0 k) v = true) (hdg : decode cc pc = .ok (.putfield index, 3))
    (kk : ∀ (H1 : Heap) (locs1 : List Loc), zHx D ca ad ln N L F B (X.set q0 (a, .inr (ci, rg n (va_up g k v)))) A H1 → va_S A H0 H1 locs1 → W p l e R s m args below meth c H1 locs1 cells slots Q (F0 m (pc + 3) ls rest)) : W p l e R s m args below meth c H locs cells slots Q (F0 m pc ls (v :: .ref a :: rest)) := by
  obtain ⟨hj, f, hP, hD, hR⟩ := hZ
  refine va_put hx hb hts hin ty0 hty hnm hown hK hP hD hS q0 (zxget_at he) hc k hk (hts _ hlink) (fun _ h => h) hfin (hty k hk) hn hfit (by rw [rg_len]; exact hk) hdg (fun H1 locs1 hP1 hD1 hS1 => ?_)
  rw [rg_set, zxset_at he] at hP1 hD1
  exact kk H1 locs1 ⟨hj, f, hP1, hD1, hR⟩ hS1
theorem zxputF (hx : p.tables.exec = Jvm.exec) (hb : c.code = cc) (hts : ∀ w ∈ wAll, w.before args s = true) (hin : ∀ w ∈ u_ws C T n, w ∈ wAll) (ty0 : Nat → FieldType) (hty : ∀ k, k < n → parseFieldDescriptor (T k).2.2.1 = some (ty0 k)) (hnm : ∀ a, a < n → ∀ b, b < n → a ≠ b → (T a).2.1 ≠ (T b).2.1) (hown : s.vm.findClass own = some m.cls) (hK : va_K D cls tys s) (hZ : zHx D ca ad ln N L F B X A H) (hS : va_S A H0 H locs) (q0 : Nat) (he : X[q0]? = some (a, .inr (ci, rg n g))) (hc : cls[ci]? = some (C, T, n)) (hk : k < n)
    (hlink : Cond.fieldLink own index (T k).1 (T k).2.1 (T k).2.2.1 ∈ wAll) (hfin : (T k).2.2.2 = true) (hin2 : meth.name = "<init>") (hdecl : (T k).1 = own) {v : Value} (hn : narrow (ty0 k) v = v) (hfit : fits (ty0 k) v = true) (hdg : decode cc pc = .ok (.putfield index, 3))
    (kk : ∀ (H1 : Heap) (locs1 : List Loc), zHx D ca ad ln N L F B (X.set q0 (a, .inr (ci, rg n (va_up g k v)))) A H1 → va_S A H0 H1 locs1 → W p l e R s m args below meth c H1 locs1 cells slots Q (F0 m (pc + 3) ls rest)) : W p l e R s m args below meth c H locs cells slots Q (F0 m pc ls (v :: .ref a :: rest)) := by
  obtain ⟨hj, f, hP, hD, hR⟩ := hZ
  refine va_putF hx hb hts hin ty0 hty hnm hown hK hP hD hS q0 (zxget_at he) hc k hk (hts _ hlink) (fun _ h => h) hfin hin2 hdecl (hty k hk) hn hfit (by rw [rg_len]; exact hk) hdg (fun H1 locs1 hP1 hD1 hS1 => ?_)
  rw [rg_set, zxset_at he] at hP1 hD1
  exact kk H1 locs1 ⟨hj, f, hP1, hD1, hR⟩ hS1
theorem zxiast {n : Nat} {cA : ClassId} {h : Int → Int} (hx : p.tables.exec = Jvm.exec) (hb : c.code = cc) (hK : va_K D cls tys s) (hZ : zHx D ca ad ln N L F B X A H) (hS : va_S A H0 H locs) (q0 t0 : Nat) (he : X[q0]? = some (a, .inl (cA, n, .inl (zAr h)))) (ht : tys[t0]? = some (cA, .int)) {z v : Int} (h0 : 0 ≤ z) (h1 : z < n) (hn : n ≤ 2147483647) (hdg : decode cc pc = .ok (.iastore, 1))
    (kk : ∀ (H1 : Heap) (locs1 : List Loc), zHx D ca ad ln N L F B (X.set q0 (a, .inl (cA, n, .inl (zAr (zup h z v))))) A H1 → va_S A H0 H1 locs1 → W p l e R s m args below meth c H1 locs1 cells slots Q (F0 m (pc + 1) ls rest)) : W p l e R s m args below meth c H locs cells slots Q (F0 m pc ls (.int (iI v) :: .int (iI z) :: .ref a :: rest)) := by
  obtain ⟨hj, f, hP, hD, hR⟩ := hZ
  refine va_iast hx hb hK hP hD hS q0 t0 (zxget_at he) ht (iI_in h0 h1 hn) hdg (fun H1 locs1 hP1 hD1 hS1 => ?_)
  rw [zAr_up h0 (by omega), zxset_at he] at hP1 hD1
  exact kk H1 locs1 ⟨hj, f, hP1, hD1, hR⟩ hS1
theorem zxlast {n : Nat} {cA : ClassId} {h : Int → Int} (hx : p.tables.exec = Jvm.exec) (hb : c.code = cc) (hK : va_K D cls tys s) (hZ : zHx D ca ad ln N L F B X A H) (hS : va_S A H0 H locs) (q0 t0 : Nat) (he : X[q0]? = some (a, .inl (cA, n, .inr (.inl (zLr h))))) (ht : tys[t0]? = some (cA, .long)) {z v : Int} (h0 : 0 ≤ z) (h1 : z < n) (hn : n ≤ 2147483647) (hdg : decode cc pc = .ok (.lastore, 1))
    (kk : ∀ (H1 : Heap) (locs1 : List Loc), zHx D ca ad ln N L F B (X.set q0 (a, .inl (cA, n, .inr (.inl (zLr (zup h z v)))))) A H1 → va_S A H0 H1 locs1 → W p l e R s m args below meth c H1 locs1 cells slots Q (F0 m (pc + 1) ls rest)) : W p l e R s m args below meth c H locs cells slots Q (F0 m pc ls (.long (lI v) :: .int (iI z) :: .ref a :: rest)) := by
  obtain ⟨hj, f, hP, hD, hR⟩ := hZ
  refine va_last hx hb hK hP hD hS q0 t0 (zxget_at he) ht (iI_in h0 h1 hn) hdg (fun H1 locs1 hP1 hD1 hS1 => ?_)
  rw [zLr_up h0 (by omega), zxset_at he] at hP1 hD1
  exact kk H1 locs1 ⟨hj, f, hP1, hD1, hR⟩ hS1
end ZX
/-! ===== contracts of constructors: the object itself is raw at the beginning ===== -/
noncomputable def zPreX (D : va_G) (ca : Nat → ClassId) (ad : Nat → Int → Nat → Nat) (ln : Nat → Int → Nat → Nat) (N : Nat → Int) (L : List Nat) (aS vS : Nat → Nat) (F : zF) (B : zB) (a : Nat) (e0 : va_E) (sz : Nat) : State → Prop := fun U => U.heap.size = sz ∧ zHx D ca ad ln N L F B [(a, e0)] (fun _ => True) U.heap ∧ va_K D cls (tyL ca) U ∧ gX aS vS (zA (a :: L) sz) U U.heap
section ZMX
variable {D : va_G} {ca : Nat → ClassId} {ad ad' : Nat → Int → Nat → Nat} {ln : Nat → Int → Nat → Nat} {N N' : Nat → Int} {L L' : List Nat} {aS vS : Nat → Nat} {F F1 : zF} {B B1 : zB} {A A1 : Nat → Prop} {H H1 : Heap} {X : va_W} {a : Nat} {e0 : va_E}
theorem zHx.weaken (h : zHx D ca ad ln N L F B X A H) (hA : ∀ q ∈ X.map Prod.fst ++ L, A1 q) : zHx D ca ad ln N L F B X A1 H := by
  obtain ⟨hj, f, hP, hD, hR⟩ := h
  refine ⟨hj, f, hP, hD.weaken (fun k q hk _ => hA _ ?_), hR⟩
  have := List.mem_map_of_mem (f := Prod.fst) (List.mem_of_getElem? hk)
  rw [List.map_append, vapl_map] at this
  exact this
theorem zMetX {l : Launch} {y : MethodName} {b : ByteArray} {n : Nat} {ret : Option FieldType} {rm : Room} {sz mc ms : Nat} {args : List Value} {Qc : (Nat → Prop) → Array Value → State → Outcome → State → Prop} {lv : List (Nat × Value)}
    (hy : plainName y.cls = true) (hn : (lg_sl args).length ≤ n) (hlv : lv_args 0 args = lv)
    (body : ∀ (A : Nat → Prop) p e s m below meth c ls, zX D ca (a :: L) aS vS A p s m args.toArray meth c b n ret y.cls → meth.name = y.name → zHx D ca ad ln N L F B [(a, e0)] A s.heap → va_S A s.heap s.heap [] → lv_has ls n lv →
      W p l e rm s m args.toArray below meth c s.heap [] 0 0 (MQ below (Qc A) args.toArray s mc ms A) (F0 m 0 ls [])) :
    Met l y (Cond.code y b n ret :: wAll) rm (va_Pc args (zPreX D ca ad ln N L aS vS F B a e0 sz)) (Qc (zA (a :: L) sz)) mc ms (zA (a :: L) sz) := by
  refine Met.ofW (cc := b) (maxL := n) (ret := ret) hy rfl ?_
  intro p e s m args' below meth c s₁ B' hml hv
  obtain ⟨rfl, hsz, hZ, hK, hX⟩ := hv
  have hts := atoms_spec (ws := Cond.code y b n ret :: wAll) B'.pre
  have hown : s.vm.findClass y.cls = some m.cls := findClass_of_methodNamed B'.named
  have hnm : meth.name = y.name := (name_of_methodNamed B'.named B'.method).1
  subst hsz
  have hl := lv_entry args (n := n) hn
  rw [hlv] at hl
  rw [lg_entry_eq]
  exact body (zA (a :: L) s.heap.size) p e s m below meth c _ ⟨B'.exec, B'.bytes, B'.returns, hml, hown, fun w hw => hts w (List.mem_cons_of_mem _ hw), B'.notSynchronized, hK, fun q h => Or.inr h, fun q h => Or.inl h, hX⟩ hnm (hZ.weaken (fun q h => Or.inl h)) va_S.rf hl
theorem zBlindX {sz : Nat} {As : List Value} : FrameBlind (va_Pc As (zPreX D ca ad ln N L aS vS F B a e0 sz)) := fun a U g mk q => by
  obtain ⟨q0, q1, qZ, qK, qX⟩ := q
  exact ⟨q0, q1, qZ, va_K.moved (u := U) (U := U.calling g mk a) (Vm.Alike.refl U.vm) qK, qX.same (U := U.calling g mk a) rfl rfl⟩
section
variable {p : Program} {s : State} {m : MethodId} {args : Array Value} {meth : Method} {c : Code} {cc : ByteArray} {n : Nat} {ret : Option FieldType} {cl : String} {locs : List Loc} {L0 : List Nat}
theorem zX.grow (h : zX D ca L0 aS vS A p s m args meth c cc n ret cl) (hL : ∀ q ∈ L, A q) : zX D ca L aS vS A p s m args meth c cc n ret cl := by
  obtain ⟨h1, h2, h3, h4, h5, h6, h7, h8, h9, -, h11⟩ := h
  exact ⟨h1, h2, h3, h4, h5, h6, h7, h8, h9, hL, h11⟩
theorem zHx.inA (h : zHx D ca ad ln N L F B X A H) : ∀ q ∈ X.map Prod.fst ++ L, A q := by
  obtain ⟨hj, f, hP, hD, hR⟩ := h
  intro q hq
  rw [← vapl_map (L := L) (f := f), ← List.map_append] at hq
  obtain ⟨x, hx, rfl⟩ := List.mem_map.mp hq
  exact (vaD_mem.mp hD).2 x hx
/-- what a constructor may touch lies within -/
theorem zxAin (X0 : zX D ca L0 aS vS A p s m args meth c cc n ret cl) (hZ : zHx D ca ad ln N L F B (X ++ [(a, e0)]) A H) (hS : va_S A s.heap H locs) : ∀ q, zA (a :: L) H.size q → A q := fun q h => by
  obtain ⟨-, -, -, -, -, -, -, -, h1, -, -⟩ := X0
  rcases h with h | h
  · refine hZ.inA q ?_
    rcases List.mem_cons.mp h with rfl | h
    · exact List.mem_append.mpr (Or.inl (by rw [List.map_append]; exact List.mem_append.mpr (Or.inr (List.mem_singleton.mpr rfl))))
    · exact List.mem_append.mpr (Or.inr h)
  · exact h1 q (Nat.le_trans hS.1 h)
theorem zxPS (X0 : zX D ca L0 aS vS A p s m args meth c cc n ret cl) (hZ : zHx D ca ad ln N L F B (X ++ [(a, e0)]) A H) (hS : va_S A s.heap H locs) (As : List Value) :
    PreS s H (va_Pc As (zPreX D ca ad ln N L aS vS F B a e0 H.size)) As := by
  refine ⟨zBlindX, fun U hU hW => ?_⟩
  obtain ⟨-, -, -, -, -, -, -, hK, -, -, hX⟩ := id X0
  refine ⟨rfl, by rw [hU], ?_, va_K.moved hW.alike hK, ?_⟩
  · rw [hU]
    obtain ⟨hj, f, hP, hD, hR⟩ := hZ
    refine ⟨hj, f, vaP_mem.mpr (fun x hx => vaP_mem.mp hP x ?_), vaD_mem.mpr ⟨?_, fun _ _ => trivial⟩, hR⟩
    · rw [List.append_assoc]; exact List.mem_append.mpr (Or.inr hx)
    · have := (vaD_mem.mp hD).1
      rw [List.append_assoc, List.map_append] at this
      exact (List.nodup_append.mp this).2.1
  · exact hX.to hW (fun a h1 h2 => by rw [hU]; exact hS.2.1 a h1 h2) (zxAin X0 hZ hS)
/-- behind a constructor: what was raw beside its object is as it was -/
theorem zxback (hZ : zHx D ca ad ln N L F B (X ++ [(a, e0)]) A H) (hF : ∀ q, zA (a :: L) H.size q → A q) (hk : ∀ q : Nat, q < H.size → ¬ zA (a :: L) H.size q → H1[q]? = H[q]?) {t : State} (ht : t.heap = H1) (hB : zPo D ca ad' ln N' L' F1 B1 (zA (a :: L) H.size) t) : zHx D ca ad' ln N' L' F1 B1 X A H1 := by
  obtain ⟨hj, f, hP, hD, hR⟩ := hZ
  obtain ⟨⟨hj', f', ⟨hP', hD'⟩, hR'⟩, -⟩ := hB
  rw [ht] at hP'
  obtain ⟨hn, hA⟩ := vaD_mem.mp hD
  obtain ⟨hn', hA'⟩ := vaD_mem.mp hD'
  rw [List.map_append, List.map_append, vapl_map] at hn
  have h12 := List.nodup_append.mp hn
  have h34 := List.nodup_append.mp h12.1
  have out : ∀ x ∈ X, ¬ zA (a :: L) H.size x.1 := by
    intro x hx h
    have hm : x.1 ∈ X.map Prod.fst := List.mem_map_of_mem (f := Prod.fst) hx
    rcases h with h | h
    · rcases List.mem_cons.mp h with h | h
      · exact h34.2.2 x.1 hm a (List.mem_singleton.mpr rfl) h
      · exact h12.2.2 x.1 (List.mem_append.mpr (Or.inl hm)) x.1 h rfl
    · have := (vaP_mem.mp hP x (List.mem_append.mpr (Or.inl (List.mem_append.mpr (Or.inl hx))))).lt
      omega
  refine ⟨hj', f', vaP_mem.mpr (fun x hx => ?_), vaD_mem.mpr ⟨?_, fun x hx => ?_⟩, hR'⟩
  · rcases List.mem_append.mp hx with h | h
    · have h0 := vaP_mem.mp hP x (List.mem_append.mpr (Or.inl (List.mem_append.mpr (Or.inl h))))
      exact h0.kept (hk x.1 h0.lt (out x h))
    · exact vaP_mem.mp hP' x h
  · rw [List.map_append]
    refine List.nodup_append.mpr ⟨h34.1, hn', fun u hu v hv e => ?_⟩
    obtain ⟨x, hx, rfl⟩ := List.mem_map.mp hu
    obtain ⟨y, hy, rfl⟩ := List.mem_map.mp hv
    exact out x hx (by rw [e]; exact hA' y hy)
  · rcases List.mem_append.mp hx with h | h
    · exact hA x (List.mem_append.mpr (Or.inl (List.mem_append.mpr (Or.inl h))))
    · exact hF _ (hA' x h)
end
end ZMX

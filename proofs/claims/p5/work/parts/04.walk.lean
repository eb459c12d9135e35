/-! ===== what stands beside the world: links of nest mates, array classes, statics, texts ===== -/
def gX (ad av : Nat → Nat) (A : Nat → Prop) (U : State) (H : Heap) : Prop :=
  (∀ q ∈ nestL, va_Nw (.methodLinkNest q.1 q.2.1 q.2.2.1 q.2.2.2) U) ∧ (∀ C ∈ aoL, va_AO C U) ∧ (∀ ty ∈ [FieldType.int, FieldType.long], (Cond.arrayOver (.array ty)).before #[] U = true) ∧ (∀ q ∈ statL, va_Z q.1 q.2.1 q.2.2.1 q.2.2.2 A U H) ∧
  (∀ (i : Nat) (q : String × Nat × String × Nat × List Int32), strL[i]? = some q → vk_R q.1 q.2.1 q.2.2.1 (ad i) U ∧ vk_S 1 [q.2.2.2.1] [q.2.2.2.2] (fun _ => ad i) (fun _ => av i) A U H) ∧
  (va_Zq "jdk/internal/util/Preconditions" "SIOOBE_FORMATTER" "Ljava/util/function/BiFunction;" A U H ∧ ∀ q ∈ nestF, va_Nw (.fieldLinkNest q.1 q.2.1 q.2.2.1 q.2.2.2.1 q.2.2.2.2.1 q.2.2.2.2.2) U) ∧
  (∀ (i : Nat) (q : String × String × String × Bool × List Int), staL[i]? = some q → va_Z q.1 q.2.1 q.2.2.1 (.ref (av (1000 + i))) A U H ∧ va_T (if q.2.2.2.1 then .long else .int) (av (1000 + i)) q.2.2.2.2.length (fun j => if q.2.2.2.1 then .long (Int64.ofInt (q.2.2.2.2.getD j 0)) else .int (Int32.ofInt (q.2.2.2.2.getD j 0))) A U H)
theorem gX.to {ad av : Nat → Nat} {A B : Nat → Prop} {s U : State} (h : gX ad av A s s.heap) (hW : s.WarmedH U.vm) (hk : ∀ a : Nat, a < s.heap.size → ¬ A a → U.heap[a]? = s.heap[a]?) (hAB : ∀ q, B q → A q) : gX ad av B U U.heap :=
  ⟨fun q hq => va_Nw.warmM hW (h.1 q hq), fun C hC => va_AO.moved hW.alike (h.2.1 C hC), fun ty ht => over_moved hW.alike (h.2.2.1 ty ht), fun q hq => ((va_Z.moved hW.alike (h.2.2.2.1 q hq)).kept hk).narrow hAB,
    fun i q hq => ⟨vk_R.warm hW (h.2.2.2.2.1 i q hq).1, ((vk_S.moved hW.alike (h.2.2.2.2.1 i q hq).2).kept hk).narrow hAB⟩, ⟨((va_Zq.moved hW.alike h.2.2.2.2.2.1.1).kept hk).narrow hAB, fun q hq => va_Nw.warmF hW (h.2.2.2.2.2.1.2 q hq)⟩,
    fun i q hq => ⟨((va_Z.moved hW.alike (h.2.2.2.2.2.2 i q hq).1).kept hk).narrow hAB, ((va_T.moved hW.alike (h.2.2.2.2.2.2 i q hq).2).kept hk).narrow hAB⟩⟩
theorem gX.same {ad av : Nat → Nat} {A : Nat → Prop} {u U : State} (h : gX ad av A u u.heap) (hv : U.vm = u.vm) (hh : U.heap = u.heap) : gX ad av A U U.heap := by
  have hal : u.vm.Alike U.vm := by rw [hv]; exact Vm.Alike.refl _
  rw [hh]
  exact ⟨fun q hq => va_Nw.same rfl hv.symm (h.1 q hq), fun C hC => va_AO.moved hal (h.2.1 C hC), fun ty ht => over_moved hal (h.2.2.1 ty ht), fun q hq => va_Z.moved hal (h.2.2.2.1 q hq),
    fun i q hq => ⟨vk_R.same hv (h.2.2.2.2.1 i q hq).1, vk_S.moved hal (h.2.2.2.2.1 i q hq).2⟩, ⟨va_Zq.moved hal h.2.2.2.2.2.1.1, fun q hq => va_Nw.same rfl hv.symm (h.2.2.2.2.2.1.2 q hq)⟩, fun i q hq => ⟨va_Z.moved hal (h.2.2.2.2.2.2 i q hq).1, va_T.moved hal (h.2.2.2.2.2.2 i q hq).2⟩⟩
/-! ===== the shape of every contract ===== -/
def gPre (D : va_G) (ca : Nat → ClassId) (ad av : Nat → Nat) (ws : va_W) (sz : Nat) : State → Prop := fun U =>
  U.heap.size = sz ∧ va_P D cls ws U.heap ∧ va_K D cls (tyL ca) U ∧ va_D (fun _ => True) ws ∧ gX ad av (va_A ws sz) U U.heap
def gB (D : va_G) (ca : Nat → ClassId) (A : Nat → Prop) (ws : va_W) (t : State) : Prop := va_P D cls ws t.heap ∧ va_K D cls (tyL ca) t ∧ va_D A ws
theorem gMet {l : Launch} {y : MethodName} {b : ByteArray} {n : Nat} {ret : Option FieldType} {rm : Room} {D : va_G} {ca : Nat → ClassId} {ad av : Nat → Nat} {ws : va_W} {sz mc ms : Nat} {args : List Value} {Qc : (Nat → Prop) → Array Value → State → Outcome → State → Prop} {lv : List (Nat × Value)}
    (hy : plainName y.cls = true) (hn : (lg_sl args).length ≤ n) (hlv : lv_args 0 args = lv)
    (body : ∀ (A : Nat → Prop) p e s m below meth c ls, p.tables.exec = Jvm.exec → c.code = b → meth.sig.returnType = ret → c.maxLocals = n → s.vm.findClass y.cls = some m.cls → (∀ w ∈ wAll, w.before args.toArray s = true) → meth.locks = false → meth.name = y.name → lv_has ls n lv →
      va_P D cls ws s.heap → va_K D cls (tyL ca) s → va_D A ws → va_S A s.heap s.heap [] → (∀ q, s.heap.size ≤ q → A q) → gX ad av A s s.heap →
      W p l e rm s m args.toArray below meth c s.heap [] 0 0 (MQ below (Qc A) args.toArray s mc ms A) (F0 m 0 ls [])) :
    Met l y (Cond.code y b n ret :: wAll) rm (va_Pc args (gPre D ca ad av ws sz)) (Qc (va_A ws sz)) mc ms (va_A ws sz) := by
  refine Met.ofW (cc := b) (maxL := n) (ret := ret) hy rfl ?_
  intro p e s m args' below meth c s₁ B hml hv
  obtain ⟨rfl, hsz, hP, hK, hD0, hX⟩ := hv
  have hts := atoms_spec (ws := Cond.code y b n ret :: wAll) B.pre
  have hown : s.vm.findClass y.cls = some m.cls := findClass_of_methodNamed B.named
  have hnm : meth.name = y.name := (name_of_methodNamed B.named B.method).1
  subst hsz
  have hD := hD0.self (sz := s.heap.size)
  have hA : ∀ q : Nat, s.heap.size ≤ q → va_A ws s.heap.size q := fun q h => Or.inr h
  have hl := lv_entry args (n := n) hn
  rw [hlv] at hl
  rw [lg_entry_eq]
  exact body (va_A ws s.heap.size) p e s m below meth c _ B.exec B.bytes B.returns hml hown (fun w hw => hts w (List.mem_cons_of_mem _ hw)) B.notSynchronized hnm hl hP hK hD va_S.rf hA hX
theorem gBlind {D : va_G} {ca : Nat → ClassId} {ad av : Nat → Nat} {ws : va_W} {sz : Nat} {As : List Value} : FrameBlind (va_Pc As (gPre D ca ad av ws sz)) := fun a U g mk q => by
  obtain ⟨q0, q1, qP, qK, qD, qX⟩ := q
  exact ⟨q0, q1, qP, va_K.moved (u := U) (U := U.calling g mk a) (Vm.Alike.refl U.vm) qK, qD, qX.same (U := U.calling g mk a) rfl rfl⟩
theorem gAt {D : va_G} {ca : Nat → ClassId} {ad av : Nat → Nat} {ws wc : va_W} {A : Nat → Prop} {s : State} {H : Heap} {locs : List Loc} (hP : va_P D cls ws H) (hD : va_D A ws) (hK : va_K D cls (tyL ca) s) (hS : va_S A s.heap H locs) (hA : ∀ q, s.heap.size ≤ q → A q) (hX : gX ad av A s s.heap) (isC : List Nat) (hn : va_nd isC = true) (hC : isC.map (fun i => ws[i]?) = wc.map some) (As : List Value) :
    ∀ U : State, U.heap = H → s.WarmedH U.vm → va_Pc As (gPre D ca ad av wc H.size) As.toArray U := by
  intro U hU hW
  have hP2 : va_P D cls wc H := by
    intro k q hq
    have h1 : (isC.map (fun i => ws[i]?))[k]? = some (some q) := by rw [hC, List.getElem?_map, hq]; rfl
    rw [List.getElem?_map] at h1
    cases hi : isC[k]? with
    | none => rw [hi] at h1; cases h1
    | some i => rw [hi] at h1; exact hP i q (Option.some.inj h1)
  refine ⟨rfl, by rw [hU], by rw [hU]; exact hP2, va_K.moved hW.alike hK, (hD.sub isC hn hC).weaken (fun _ _ _ _ => trivial), ?_⟩
  exact hX.to hW (fun a h1 h2 => by rw [hU]; exact hS.2.1 a h1 h2) (va_free hD hS hA isC hC)
theorem gPS {D : va_G} {ca : Nat → ClassId} {ad av : Nat → Nat} {ws wc : va_W} {A : Nat → Prop} {s : State} {H : Heap} {locs : List Loc} (hP : va_P D cls ws H) (hD : va_D A ws) (hK : va_K D cls (tyL ca) s) (hS : va_S A s.heap H locs) (hA : ∀ q, s.heap.size ≤ q → A q) (hX : gX ad av A s s.heap) (isC : List Nat) (hn : va_nd isC = true) (hC : isC.map (fun i => ws[i]?) = wc.map some) (As : List Value) :
    PreS s H (va_Pc As (gPre D ca ad av wc H.size)) As := ⟨gBlind, gAt hP hD hK hS hA hX isC hn hC As⟩
theorem gPV {D : va_G} {ca : Nat → ClassId} {ad av : Nat → Nat} {ws wc : va_W} {A : Nat → Prop} {s : State} {H : Heap} {locs : List Loc} (hP : va_P D cls ws H) (hD : va_D A ws) (hK : va_K D cls (tyL ca) s) (hS : va_S A s.heap H locs) (hA : ∀ q, s.heap.size ≤ q → A q) (hX : gX ad av A s s.heap) (isC : List Nat) (hn : va_nd isC = true) (hC : isC.map (fun i => ws[i]?) = wc.map some) (b : Nat) (As : List Value)
    (q0 : Nat) {ci : Nat} {fs : List Value} {r : vw_C} (hc : cls[ci]? = some r) (he : ws[q0]? = some (b, .inr (ci, fs))) : PreV s H r.1 b (va_Pc (.ref b :: As) (gPre D ca ad av wc H.size)) As :=
  ⟨gBlind, va_recv hK hP hc he, gAt hP hD hK hS hA hX isC hn hC (.ref b :: As)⟩
theorem gJoin {D : va_G} {ca : Nat → ClassId} {A : Nat → Prop} {ws wc wr w1 : va_W} {H H1 : Heap} {t : State} (hP : va_P D cls ws H) (hD : va_D A ws) (isC isR : List Nat) (hC : isC.map (fun i => ws[i]?) = wc.map some) (hR : isR.map (fun i => ws[i]?) = wr.map some) (hn : va_nd isR = true) (hdis : isR.all (fun i => !isC.contains i) = true)
    (hk : ∀ q : Nat, q < H.size → ¬ va_A wc H.size q → H1[q]? = H[q]?) (hF : ∀ q, va_A wc H.size q → A q) (ht : t.heap = H1) (hB : gB D ca (va_A wc H.size) w1 t) : va_P D cls (wr ++ w1) H1 ∧ va_D A (wr ++ w1) := by
  obtain ⟨h1, -, h3⟩ := hB
  rw [ht] at h1
  exact va_join hP hD isC isR hC hR hn (fun i hi => by simpa using List.all_eq_true.mp hdis i hi) hk hF h1 h3
/-! ===== fields, by what is known of them ===== -/
section GW
variable {p : Program} {l : Launch} {e : Env} {R : Room} {s : State} {m : MethodId} {args : Array Value} {below : List Frame} {meth : Method} {c : Code} {H : Heap} {locs : List Loc} {cells slots : Nat} {Q : State → Prop}
variable {cc : ByteArray} {pc : Nat} {ls : Array Slot} {rest : List Value} {D : va_G} {A : Nat → Prop} {a : Nat} {tys : List (ClassId × FieldType)} {ws : va_W} {H0 : Heap}
variable {own C : String} {T : u_T} {N ci index : Nat} {f : Nat → Value} {L : List (Nat × Value)}
theorem gget (hx : p.tables.exec = Jvm.exec) (hb : c.code = cc) (hts : ∀ w ∈ wAll, w.before args s = true) (hin : ∀ w ∈ u_ws C T N, w ∈ wAll) (hown : s.vm.findClass own = some m.cls) (hK : va_K D cls tys s) (hP : va_P D cls ws H) (q0 : Nat) (he : ws[q0]? = some (a, .inr (ci, rg N f))) (hc : cls[ci]? = some (C, T, N)) (hF : gF f L) (i : Nat) {k : Nat} {v : Value} (hi : L[i]? = some (k, v)) (hk : k < N)
    (hlink : Cond.fieldLink own index (T k).1 (T k).2.1 (T k).2.2.1 ∈ wAll) (hdg : decode cc pc = .ok (.getfield index, 3)) (kk : W p l e R s m args below meth c H locs cells slots Q (F0 m (pc + 3) ls (v :: rest))) : W p l e R s m args below meth c H locs cells slots Q (F0 m pc ls (.ref a :: rest)) :=
  va_get hx hb hts hin hown hK hP q0 he hc k hk (hts _ hlink) (fun _ h => h) (rg_get hk (hF.at i hi)) hdg kk
theorem gput (hx : p.tables.exec = Jvm.exec) (hb : c.code = cc) (hts : ∀ w ∈ wAll, w.before args s = true) (hin : ∀ w ∈ u_ws C T N, w ∈ wAll) (ty0 : Nat → FieldType) (hty : ∀ k, k < N → parseFieldDescriptor (T k).2.2.1 = some (ty0 k)) (hnm : ∀ a, a < N → ∀ b, b < N → a ≠ b → (T a).2.1 ≠ (T b).2.1) (hown : s.vm.findClass own = some m.cls) (hK : va_K D cls tys s) (hP : va_P D cls ws H) (hD : va_D A ws) (hS : va_S A H0 H locs) (q0 : Nat) (he : ws[q0]? = some (a, .inr (ci, rg N f))) (hc : cls[ci]? = some (C, T, N)) (hF : gF f L) (k : Nat) (hk : k < N)
    (hlink : Cond.fieldLink own index (T k).1 (T k).2.1 (T k).2.2.1 ∈ wAll) (hfin : (T k).2.2.2 = false) {v : Value} (hn : narrow (ty0 k) v = v) (hfit : fits (ty0 k) v = true) (hdg : decode cc pc = .ok (.putfield index, 3)) {L' : List (Nat × Value)} (hL : (k, v) :: L.filter (fun q => !(q.1 == k)) = L')
    (kk : ∀ (f' : Nat → Value) (H1 : Heap) (locs1 : List Loc), gF f' L' → gM f f' [k] → va_P D cls (ws.set q0 (a, .inr (ci, rg N f'))) H1 → va_D A (ws.set q0 (a, .inr (ci, rg N f'))) → va_S A H0 H1 locs1 → W p l e R s m args below meth c H1 locs1 cells slots Q (F0 m (pc + 3) ls rest)) : W p l e R s m args below meth c H locs cells slots Q (F0 m pc ls (v :: .ref a :: rest)) := by
  refine va_put hx hb hts hin ty0 hty hnm hown hK hP hD hS q0 he hc k hk (hts _ hlink) (fun _ h => h) hfin (hty k hk) hn hfit (by rw [rg_len]; exact hk) hdg (fun H1 locs1 hP1 hD1 hS1 => ?_)
  rw [rg_set] at hP1 hD1
  exact kk (va_up f k v) H1 locs1 (hF.put k v hL) (gM.up f k v) hP1 hD1 hS1
theorem gputF (hx : p.tables.exec = Jvm.exec) (hb : c.code = cc) (hts : ∀ w ∈ wAll, w.before args s = true) (hin : ∀ w ∈ u_ws C T N, w ∈ wAll) (ty0 : Nat → FieldType) (hty : ∀ k, k < N → parseFieldDescriptor (T k).2.2.1 = some (ty0 k)) (hnm : ∀ a, a < N → ∀ b, b < N → a ≠ b → (T a).2.1 ≠ (T b).2.1) (hown : s.vm.findClass own = some m.cls) (hK : va_K D cls tys s) (hP : va_P D cls ws H) (hD : va_D A ws) (hS : va_S A H0 H locs) (q0 : Nat) (he : ws[q0]? = some (a, .inr (ci, rg N f))) (hc : cls[ci]? = some (C, T, N)) (hF : gF f L) (k : Nat) (hk : k < N)
    (hlink : Cond.fieldLink own index (T k).1 (T k).2.1 (T k).2.2.1 ∈ wAll) (hfin : (T k).2.2.2 = true) (hin2 : meth.name = "<init>") (hdecl : (T k).1 = own) {v : Value} (hn : narrow (ty0 k) v = v) (hfit : fits (ty0 k) v = true) (hdg : decode cc pc = .ok (.putfield index, 3)) {L' : List (Nat × Value)} (hL : (k, v) :: L.filter (fun q => !(q.1 == k)) = L')
    (kk : ∀ (f' : Nat → Value) (H1 : Heap) (locs1 : List Loc), gF f' L' → gM f f' [k] → va_P D cls (ws.set q0 (a, .inr (ci, rg N f'))) H1 → va_D A (ws.set q0 (a, .inr (ci, rg N f'))) → va_S A H0 H1 locs1 → W p l e R s m args below meth c H1 locs1 cells slots Q (F0 m (pc + 3) ls rest)) : W p l e R s m args below meth c H locs cells slots Q (F0 m pc ls (v :: .ref a :: rest)) := by
  refine va_putF hx hb hts hin ty0 hty hnm hown hK hP hD hS q0 he hc k hk (hts _ hlink) (fun _ h => h) hfin hin2 hdecl (hty k hk) hn hfit (by rw [rg_len]; exact hk) hdg (fun H1 locs1 hP1 hD1 hS1 => ?_)
  rw [rg_set] at hP1 hD1
  exact kk (va_up f k v) H1 locs1 (hF.put k v hL) (gM.up f k v) hP1 hD1 hS1
theorem gnew (hx : p.tables.exec = Jvm.exec) (hb : c.code = cc) (hts : ∀ w ∈ wAll, w.before args s = true) (hin : ∀ w ∈ u_ws C T N, w ∈ wAll) (ty0 : Nat → FieldType) (hty : ∀ k, k < N → parseFieldDescriptor (T k).2.2.1 = some (ty0 k)) (hown : s.vm.findClass own = some m.cls) (hcl : Cond.classLink own index C ∈ wAll) (hinst : Cond.instantiable C N ∈ wAll) (hini : Cond.initialized C ∈ wAll)
    (hK : va_K D cls tys s) (hP : va_P D cls ws H) (hD : va_D A ws) (hS : va_S A H0 H locs) (hA : ∀ q, H0.size ≤ q → A q) (hc : cls[ci]? = some (C, T, N)) (hcells : cells + 1 ≤ R.cells) (hslots : slots + N ≤ R.slots) (hdg : decode cc pc = .ok (.new index, 3)) (hL : gF (fun j => defaultValue (ty0 j)) L)
    (kk : ∀ (f' : Nat → Value) (q : Nat) (H1 : Heap), gF f' L → va_P D cls (ws ++ [(q, .inr (ci, rg N f'))]) H1 → va_D A (ws ++ [(q, .inr (ci, rg N f'))]) → va_S A H0 H1 locs → W p l e R s m args below meth c H1 locs (cells + 1) (slots + N) Q (F0 m (pc + 3) ls (.ref q :: rest))) : W p l e R s m args below meth c H locs cells slots Q (F0 m pc ls rest) :=
  va_new (fs := rg N (fun j => defaultValue (ty0 j))) hx hb hts hin ty0 hty hown (hts _ hcl) (hts _ hinst) (hts _ hini) hK hP hD hS hA hc (fun j hj => (rg_V (f := fun j => defaultValue (ty0 j)) hj).symm) hcells hslots hdg (fun q H1 h1 h2 h3 => kk _ q H1 hL h1 h2 h3)
/-- a new array that nobody looks into: it leaves the world at once -/
theorem gnewaX (hx : p.tables.exec = Jvm.exec) (hb : c.code = cc) (hts : ∀ w ∈ wAll, w.before args s = true) {atype : ArrayType} (harr : Cond.arrayClass (newarray.typeOf atype) ∈ wAll) (hP : va_P D cls ws H) (hS : va_S A H0 H locs) {n : Int32} {N' : Nat} (hn : ¬ n < 0) (hN : n.toNatClampNeg = N') (hbytes : N' * componentBytes (newarray.typeOf atype) ≤ 536870912) (hcells : cells + 1 ≤ R.cells) (hslots : slots + N' ≤ R.slots) (hdg : decode cc pc = .ok (.newarray atype, 2))
    (kk : ∀ (q : Nat) (H1 : Heap), va_P D cls ws H1 → va_S A H0 H1 locs → W p l e R s m args below meth c H1 locs (cells + 1) (slots + N') Q (F0 m (pc + 2) ls (.ref q :: rest))) : W p l e R s m args below meth c H locs cells slots Q (F0 m pc ls (.int n :: rest)) := by
  refine va_newaK hx hb (hts _ harr) rfl hdg rfl hn hN hbytes hcells hslots rfl fun H1 cA e1 z1 o1 hAr hNm => ?_
  exact kk H.size H1 (hP.kept (fun k x hx => o1 x.1 ((hP k x hx).lt))) ⟨Nat.le_trans hS.1 (by omega), fun x h1 h2 => (o1 x (Nat.lt_of_lt_of_le h1 hS.1)).trans (hS.2.1 x h1 h2), hS.2.2⟩
theorem gnewqX (hx : p.tables.exec = Jvm.exec) (hb : c.code = cc) (hts : ∀ w ∈ wAll, w.before args s = true) (hown : s.vm.findClass own = some m.cls) (hcl : Cond.classLink own index C ∈ wAll) (hover : va_AO C s) (hK : va_K D cls tys s) (hP : va_P D cls ws H) (hD : va_D A ws) (hS : va_S A H0 H locs) (hA : ∀ q, H0.size ≤ q → A q) {n : Int32} {N' : Nat} (hn : ¬ n < 0) (hN : n.toNatClampNeg = N') (hbytes : N' * 4 ≤ 536870912) (hcells : cells + 1 ≤ R.cells) (hslots : slots + N' ≤ R.slots) (hdg : decode cc pc = .ok (.anewarray index, 3))
    (kk : ∀ (q : Nat) (H1 : Heap), va_P D cls ws H1 → va_S A H0 H1 locs → W p l e R s m args below meth c H1 locs (cells + 1) (slots + N') Q (F0 m (pc + 3) ls (.ref q :: rest))) : W p l e R s m args below meth c H locs cells slots Q (F0 m pc ls (.int n :: rest)) := by
  refine va_newq hx hb hown (hts _ hcl) hover hK hP hD hS hA hn hN hbytes hcells hslots hdg (fun q cA H1 hK1 hP1 hD1 hS1 => kk q H1 (fun k x hx => hP1 k x ?_) hS1)
  rw [List.getElem?_append_left ((List.getElem?_eq_some_iff.mp hx).1)]
  exact hx
/-- a new array of known class -/
theorem gnewa (hx : p.tables.exec = Jvm.exec) (hb : c.code = cc) (hts : ∀ w ∈ wAll, w.before args s = true) {atype : ArrayType} {ty : FieldType} (hty : newarray.typeOf atype = ty) (harr : Cond.arrayClass (newarray.typeOf atype) ∈ wAll) (hK : va_K D cls tys s) (t0 : Nat) {cy : ClassId} (ht : tys[t0]? = some (cy, ty)) (hu : ∀ c1 c2, va_RA s c1 ty → va_RA s c2 ty → c1 = c2) (hP : va_P D cls ws H) (hD : va_D A ws) (hS : va_S A H0 H locs) (hA : ∀ q, H0.size ≤ q → A q)
    {n : Int32} {N' : Nat} {a0 : vp_A} (ha : ∀ cA : ClassId, vp_cell cA a0 = arrV cA N' (fun _ => defaultValue ty)) (hn : ¬ n < 0) (hN : n.toNatClampNeg = N') (hbytes : N' * componentBytes ty ≤ 536870912) (hcells : cells + 1 ≤ R.cells) (hslots : slots + N' ≤ R.slots) (hdg : decode cc pc = .ok (.newarray atype, 2))
    (kk : ∀ (q : Nat) (H1 : Heap), va_P D cls (ws ++ [(q, .inl (cy, a0))]) H1 → va_D A (ws ++ [(q, .inl (cy, a0))]) → va_S A H0 H1 locs →
      W p l e R s m args below meth c H1 locs (cells + 1) (slots + N') Q (F0 m (pc + 2) ls (.ref q :: rest))) : W p l e R s m args below meth c H locs cells slots Q (F0 m pc ls (.int n :: rest)) := by
  refine va_newa hx hb (hts _ harr) hty hK hP hD hS hA ha hn hN hbytes hcells hslots hdg (fun q cA H1 hK1 hP1 hD1 hS1 => ?_)
  have h1 := (hK1.2 tys.length (cA, ty) (by simp)).2
  have h2 := (hK.2 t0 (cy, ty) ht).2
  have e : cA = cy := hu _ _ h1 h2
  subst e
  exact kk q H1 hP1 hD1 hS1
end GW
theorem gu_int {s : State} {c1 c2 : ClassId} (h1 : va_RA s c1 .int) (h2 : va_RA s c2 .int) : c1 = c2 := Option.some.inj ((va_nm_int h1).symm.trans (va_nm_int h2))
theorem gu_long {s : State} {c1 c2 : ClassId} (h1 : va_RA s c1 .long) (h2 : va_RA s c2 .long) : c1 = c2 := Option.some.inj ((va_nm_long h1).symm.trans (va_nm_long h2))
theorem gu_byte {s : State} {c1 c2 : ClassId} (h1 : va_RA s c1 .byte) (h2 : va_RA s c2 .byte) : c1 = c2 := Option.some.inj ((va_nm_byte h1).symm.trans (va_nm_byte h2))
theorem gu_bool {s : State} {c1 c2 : ClassId} (h1 : va_RA s c1 .boolean) (h2 : va_RA s c2 .boolean) : c1 = c2 := Option.some.inj ((va_nm_boolean h1).symm.trans (va_nm_boolean h2))

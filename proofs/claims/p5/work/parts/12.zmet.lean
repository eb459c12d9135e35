/-! ===== contracts over the typed worlds ===== -/
abbrev zF : Type := Nat → Int → Nat → Int
abbrev zB : Type := Nat → Int → Nat → Int → Int
abbrev zO : Type := Option (Int × zF × zB)
def zA (L : List Nat) (sz : Nat) : Nat → Prop := fun q => q ∈ L ∨ sz ≤ q
section ZM
variable {D : va_G} {ca : Nat → ClassId} {ad : Nat → Int → Nat → Nat} {ln : Nat → Int → Nat → Nat} {N : Nat → Int} {L : List Nat} {aS vS : Nat → Nat} {F F1 : zF} {B B1 : zB} {A A1 : Nat → Prop} {H H1 : Heap}
theorem zpl_mem {f : Nat → va_E} {k : Nat} {q : Nat × va_E} (h : (va_pl L f)[k]? = some q) : q.1 ∈ L := by
  unfold va_pl at h
  rw [List.getElem?_map] at h
  cases hk : L[k]? with
  | none => rw [hk] at h; cases h
  | some a =>
    rw [hk] at h
    cases h
    exact List.mem_of_getElem? hk
theorem zH.weaken (h : zH D ca ad ln N L F B A H) (hA : ∀ q ∈ L, A1 q) : zH D ca ad ln N L F B A1 H := by
  obtain ⟨hj, f, hM, hR⟩ := h
  exact ⟨hj, f, ⟨hM.1, hM.2.weaken (fun k q hk _ => hA _ (zpl_mem hk))⟩, hR⟩
def zPre (D : va_G) (ca : Nat → ClassId) (ad : Nat → Int → Nat → Nat) (ln : Nat → Int → Nat → Nat) (N : Nat → Int) (L : List Nat) (aS vS : Nat → Nat) (F : zF) (B : zB) (sz : Nat) : State → Prop := fun U => U.heap.size = sz ∧ zH D ca ad ln N L F B (fun _ => True) U.heap ∧ va_K D cls (tyL ca) U ∧ gX aS vS (zA L sz) U U.heap
def zPo (D : va_G) (ca : Nat → ClassId) (ad : Nat → Int → Nat → Nat) (ln : Nat → Int → Nat → Nat) (N : Nat → Int) (L : List Nat) (F : zF) (B : zB) (A : Nat → Prop) (t : State) : Prop := zH D ca ad ln N L F B A t.heap ∧ va_K D cls (tyL ca) t
/-- what a walk stands on, the same from a method's beginning to its end -/
def zX (D : va_G) (ca : Nat → ClassId) (L : List Nat) (aS vS : Nat → Nat) (A : Nat → Prop) (p : Program) (s : State) (m : MethodId) (args : Array Value) (meth : Method) (c : Code) (cc : ByteArray) (n : Nat) (ret : Option FieldType) (cl : String) : Prop :=
  p.tables.exec = Jvm.exec ∧ c.code = cc ∧ meth.sig.returnType = ret ∧ c.maxLocals = n ∧ s.vm.findClass cl = some m.cls ∧ (∀ w ∈ wAll, w.before args s = true) ∧ meth.locks = false ∧ va_K D cls (tyL ca) s ∧ (∀ q, s.heap.size ≤ q → A q) ∧ (∀ q ∈ L, A q) ∧ gX aS vS A s s.heap
theorem zMet {l : Launch} {y : MethodName} {b : ByteArray} {n : Nat} {ret : Option FieldType} {rm : Room} {sz mc ms : Nat} {args : List Value} {Qc : (Nat → Prop) → Array Value → State → Outcome → State → Prop} {lv : List (Nat × Value)}
    (hy : plainName y.cls = true) (hn : (lg_sl args).length ≤ n) (hlv : lv_args 0 args = lv)
    (body : ∀ (A : Nat → Prop) p e s m below meth c ls, zX D ca L aS vS A p s m args.toArray meth c b n ret y.cls → zH D ca ad ln N L F B A s.heap → va_S A s.heap s.heap [] → lv_has ls n lv →
      W p l e rm s m args.toArray below meth c s.heap [] 0 0 (MQ below (Qc A) args.toArray s mc ms A) (F0 m 0 ls [])) :
    Met l y (Cond.code y b n ret :: wAll) rm (va_Pc args (zPre D ca ad ln N L aS vS F B sz)) (Qc (zA L sz)) mc ms (zA L sz) := by
  refine Met.ofW (cc := b) (maxL := n) (ret := ret) hy rfl ?_
  intro p e s m args' below meth c s₁ B' hml hv
  obtain ⟨rfl, hsz, hZ, hK, hX⟩ := hv
  have hts := atoms_spec (ws := Cond.code y b n ret :: wAll) B'.pre
  have hown : s.vm.findClass y.cls = some m.cls := findClass_of_methodNamed B'.named
  subst hsz
  have hl := lv_entry args (n := n) hn
  rw [hlv] at hl
  rw [lg_entry_eq]
  exact body (zA L s.heap.size) p e s m below meth c _ ⟨B'.exec, B'.bytes, B'.returns, hml, hown, fun w hw => hts w (List.mem_cons_of_mem _ hw), B'.notSynchronized, hK, fun q h => Or.inr h, fun q h => Or.inl h, hX⟩ (hZ.weaken (fun q h => Or.inl h)) va_S.rf hl
theorem zBlind {sz : Nat} {As : List Value} : FrameBlind (va_Pc As (zPre D ca ad ln N L aS vS F B sz)) := fun a U g mk q => by
  obtain ⟨q0, q1, qZ, qK, qX⟩ := q
  exact ⟨q0, q1, qZ, va_K.moved (u := U) (U := U.calling g mk a) (Vm.Alike.refl U.vm) qK, qX.same (U := U.calling g mk a) rfl rfl⟩
section
variable {p : Program} {s : State} {m : MethodId} {args : Array Value} {meth : Method} {c : Code} {cc : ByteArray} {n : Nat} {ret : Option FieldType} {cl : String} {locs : List Loc}
theorem zAin (X : zX D ca L aS vS A p s m args meth c cc n ret cl) (hS : va_S A s.heap H locs) : ∀ q, zA L H.size q → A q := fun q h => by
  obtain ⟨-, -, -, -, -, -, -, -, h1, h2, -⟩ := X
  rcases h with h | h
  · exact h2 q h
  · exact h1 q (Nat.le_trans hS.1 h)
theorem zAt (X : zX D ca L aS vS A p s m args meth c cc n ret cl) (hZ : zH D ca ad ln N L F B A H) (hS : va_S A s.heap H locs) (As : List Value) :
    ∀ U : State, U.heap = H → s.WarmedH U.vm → va_Pc As (zPre D ca ad ln N L aS vS F B H.size) As.toArray U := by
  intro U hU hW
  obtain ⟨-, -, -, -, -, -, -, hK, -, -, hX⟩ := id X
  refine ⟨rfl, by rw [hU], by rw [hU]; exact hZ.weaken (fun _ _ => trivial), va_K.moved hW.alike hK, ?_⟩
  exact hX.to hW (fun a h1 h2 => by rw [hU]; exact hS.2.1 a h1 h2) (zAin X hS)
theorem zPS (X : zX D ca L aS vS A p s m args meth c cc n ret cl) (hZ : zH D ca ad ln N L F B A H) (hS : va_S A s.heap H locs) (As : List Value) :
    PreS s H (va_Pc As (zPre D ca ad ln N L aS vS F B H.size)) As := ⟨zBlind, zAt X hZ hS As⟩
theorem zPV (X : zX D ca L aS vS A p s m args meth c cc n ret cl) (hZ : zH D ca ad ln N L F B A H) (hS : va_S A s.heap H locs) {ci : Nat} {i : Int} (h0 : 0 ≤ i) (h1 : i < N ci) {r : vw_C} (hc : cls[ci]? = some r) (As : List Value) :
    PreV s H r.1 (ad ci i 0) (va_Pc (.ref (ad ci i 0) :: As) (zPre D ca ad ln N L aS vS F B H.size)) As := by
  obtain ⟨-, -, -, -, -, -, -, hK, -, -, -⟩ := id X
  refine ⟨zBlind, ?_, zAt X hZ hS (.ref (ad ci i 0) :: As)⟩
  obtain ⟨-, f, hM, hR⟩ := hZ
  obtain ⟨⟨a1, a2⟩, -⟩ := hR ci i h0 h1
  obtain ⟨q0, hq⟩ := va_pl_get (X := []) (f := f) a1
  rw [a2] at hq
  exact va_recv hK hM.1 hc hq
theorem zBack (X : zX D ca L aS vS A p s m args meth c cc n ret cl) {t : State} (ht : t.heap = H1) (hB : zPo D ca ad ln N L F1 B1 A1 t) : zH D ca ad ln N L F1 B1 A H1 := by
  obtain ⟨-, -, -, -, -, -, -, -, -, h2, -⟩ := X
  rw [← ht]
  exact hB.1.weaken h2
end
end ZM
theorem gif {α : Type} {p : Prop} {d : Decidable p} {x : Option α} {y : α} (h : (@ite _ p d x none) = some y) : p ∧ x = some y := by
  by_cases hp : p
  · rw [if_pos hp] at h; exact ⟨hp, h⟩
  · rw [if_neg hp] at h; cases h
theorem gpos {α : Type} {p : Prop} {d : Decidable p} {x y z : Option α} (h : (@ite _ p d x y) = z) (hp : p) : x = z := by
  rw [if_pos hp] at h; exact h
theorem gneg {α : Type} {p : Prop} {d : Decidable p} {x y z : Option α} (h : (@ite _ p d x y) = z) (hp : ¬ p) : y = z := by
  rw [if_neg hp] at h; exact h
def zbind (x : zO) (k : Int → zF → zB → zO) : zO := match x with
  | none => none
  | some q => k q.1 q.2.1 q.2.2
theorem gbind {x : zO} {k : Int → zF → zB → zO} {z : Int × zF × zB} (h : zbind x k = some z) : ∃ r F B, x = some (r, F, B) ∧ k r F B = some z := by
  cases x with
  | none => cases h
  | some q => exact ⟨q.1, q.2.1, q.2.2, rfl, h⟩

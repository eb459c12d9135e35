noncomputable def zmax (a b : Int) : Int := if a < b then b else a
noncomputable def zmin (a b : Int) : Int := if b < a then b else a
noncomputable def zabs (a : Int) : Int := if 0 ≤ a then a else - a
theorem lI_lt2 {a b : Int} (ha : r64 a) (hb : r64 b) : lI a < lI b ↔ a < b := by rw [Int64.lt_iff_toInt_lt, lI_to ha, lI_to hb]
theorem zmax_e {a b : Int} (ha : r32 a) (hb : r32 b) : (if iI a < iI b then iI b else iI a) = iI (zmax a b) := by
  unfold zmax
  by_cases h : a < b
  · rw [if_pos h, if_pos ((iI_lt ha hb).mpr h)]
  · rw [if_neg h, if_neg (fun q => h ((iI_lt ha hb).mp q))]
theorem zmin_e {a b : Int} (ha : r32 a) (hb : r32 b) : (if iI b < iI a then iI b else iI a) = iI (zmin a b) := by
  unfold zmin
  by_cases h : b < a
  · rw [if_pos h, if_pos ((iI_lt hb ha).mpr h)]
  · rw [if_neg h, if_neg (fun q => h ((iI_lt hb ha).mp q))]
theorem zabs_e {a : Int} (ha : r32 a) : (if 0 ≤ iI a then iI a else 0 - iI a) = iI (zabs a) := by
  have h0 : (0 : Int32) = iI 0 := rfl
  have hr : r32 0 := ⟨by decide, by decide⟩
  unfold zabs
  rw [h0]
  by_cases h : 0 ≤ a
  · rw [if_pos h, if_pos ((iI_le hr ha).mpr h)]
  · rw [if_neg h, if_neg (fun q => h ((iI_le hr ha).mp q)), iI_sub, Int.zero_sub]
theorem zlmax_e {a b : Int} (ha : r64 a) (hb : r64 b) : (if lI b < lI a then lI a else lI b) = lI (zmax a b) := by
  unfold zmax
  by_cases h : b < a
  · rw [if_neg (show ¬ a < b by omega), if_pos ((lI_lt2 hb ha).mpr h)]
  · rw [if_neg (fun q => h ((lI_lt2 hb ha).mp q))]
    by_cases h2 : a < b
    · rw [if_pos h2]
    · rw [if_neg h2, show a = b by omega]
theorem zlmin_e {a b : Int} (ha : r64 a) (hb : r64 b) : (if lI b < lI a then lI b else lI a) = lI (zmin a b) := by
  unfold zmin
  by_cases h : b < a
  · rw [if_pos h, if_pos ((lI_lt2 hb ha).mpr h)]
  · rw [if_neg h, if_neg (fun q => h ((lI_lt2 hb ha).mp q))]
theorem zlabs_e {a : Int} (ha : r64 a) : (if 0 < lI a then lI a else - lI a) = lI (zabs a) := by
  have h0 : (0 : Int64) = lI 0 := rfl
  have hr : r64 0 := ⟨by decide, by decide⟩
  have hn : - lI a = lI (- a) := (Int64.ofInt_neg a).symm
  unfold zabs
  rw [h0, hn]
  by_cases h : 0 < a
  · rw [if_pos (show 0 ≤ a by omega), if_pos ((lI_lt2 hr ha).mpr h)]
  · rw [if_neg (fun q => h ((lI_lt2 hr ha).mp q))]
    by_cases h2 : 0 ≤ a
    · rw [if_pos h2, show a = 0 by omega]; rfl
    · rw [if_neg h2]
theorem zMetF0 {l : Launch} {y : MethodName} {ws ws' : List Cond} {rm : Room} {Pc : Array Value → State → Prop} {Qc : Array Value → State → Outcome → State → Prop} {mc ms : Nat} {free : Addr → Prop} {cc : ByteArray} {maxL : Nat} {ret : Option FieldType}
    (hy : plainFor y = true) (hw : ws = Cond.code y cc maxL ret :: ws')
    (body : ∀ p e s m args below meth c s₁, BodyLoose p l y (headSpec ws rm) cc maxL ret e s m args below meth c s₁ → c.maxLocals = maxL → Pc args s →
      W p l e rm s m args below meth c s.heap [] 0 0 (MQ below Qc args s mc ms free) (entryFrame m args maxL)) : Met l y ws rm Pc Qc mc ms free := by
  refine MetFree.of_bodySF (code := cc) (maxLocals := maxL) (ret := ret) hy ?_ ?_
  · intro args s m h hn
    obtain ⟨meth, c, h1, h2, h3, h4, h5, h6, -⟩ := Cond.code_spec hn (atoms_spec (ws := ws) h _ (by rw [hw]; exact List.mem_cons_self))
    exact ⟨meth, c, h1, h2, h3, h4, h5, h6⟩
  · intro p e s m args below meth c s₁ B hml hP _
    have hh0 : s₁.heap = s.heap := by rw [B.state]; rfl
    obtain ⟨t, a1, o, b1, b2, b3⟩ := body p e s m args below meth c s₁ B hml hP s₁ hh0 (Stand.of_body B)
    exact ⟨t, o, a1, b1, b2, ⟨b3.1, b3.2⟩⟩
section
variable {D : va_G} {ca : Nat → ClassId} {ad : Nat → Int → Nat → Nat} {ln : Nat → Int → Nat → Nat} {N : Nat → Int} {L : List Nat} {aS vS : Nat → Nat} {F F1 : zF} {B B1 : zB} {A A1 : Nat → Prop} {H H1 : Heap}
theorem zMetF {l : Launch} {y : MethodName} {b : ByteArray} {n : Nat} {ret : Option FieldType} {rm : Room} {sz mc ms : Nat} {args : List Value} {Qc : (Nat → Prop) → Array Value → State → Outcome → State → Prop} {lv : List (Nat × Value)}
    (hy : plainFor y = true) (hn : (lg_sl args).length ≤ n) (hlv : lv_args 0 args = lv)
    (body : ∀ (A : Nat → Prop) p e s m below meth c ls, zX D ca L aS vS A p s m args.toArray meth c b n ret y.cls → zH D ca ad ln N L F B A s.heap → va_S A s.heap s.heap [] → lv_has ls n lv →
      W p l e rm s m args.toArray below meth c s.heap [] 0 0 (MQ below (Qc A) args.toArray s mc ms A) (F0 m 0 ls [])) :
    Met l y (Cond.code y b n ret :: wAll) rm (va_Pc args (zPre D ca ad ln N L aS vS F B sz)) (Qc (zA L sz)) mc ms (zA L sz) := by
  refine zMetF0 (cc := b) (maxL := n) (ret := ret) hy rfl ?_
  intro p e s m args' below meth c s₁ B' hml hv
  obtain ⟨rfl, hsz, hZ, hK, hX⟩ := hv
  have hts := atoms_spec (ws := Cond.code y b n ret :: wAll) B'.pre
  have hown : s.vm.findClass y.cls = some m.cls := findClass_of_methodNamed B'.named
  subst hsz
  have hl := lv_entry args (n := n) hn
  rw [hlv] at hl
  rw [lg_entry_eq]
  exact body (zA L s.heap.size) p e s m below meth c _ ⟨B'.exec, B'.bytes, B'.returns, hml, hown, fun w hw => hts w (List.mem_cons_of_mem _ hw), B'.notSynchronized, hK, fun q h => Or.inr h, fun q h => Or.inl h, hX⟩ (hZ.weaken (fun q h => Or.inl h)) va_S.rf hl
end

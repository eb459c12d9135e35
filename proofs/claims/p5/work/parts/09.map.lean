/-! ===== worlds as maps from addresses: L the addresses, f what stands there ===== -/
def mH (D : va_G) (A : Nat → Prop) (L : List Nat) (f : Nat → va_E) (H : Heap) : Prop := va_P D cls (va_pl L f) H ∧ va_D A (va_pl L f)
section MP
variable {p : Program} {l : Launch} {e : Env} {R : Room} {s : State} {m : MethodId} {args : Array Value} {below : List Frame} {meth : Method} {c : Code} {H : Heap} {locs : List Loc} {cells slots : Nat} {Q : State → Prop}
variable {cc : ByteArray} {pc : Nat} {ls : Array Slot} {rest : List Value} {D : va_G} {A : Nat → Prop} {a : Nat} {tys : List (ClassId × FieldType)} {H0 : Heap}
variable {own C : String} {T : u_T} {N ci index : Nat} {g : Nat → Value} {L : List Nat} {f : Nat → va_E}
theorem mget (hx : p.tables.exec = Jvm.exec) (hb : c.code = cc) (hts : ∀ w ∈ wAll, w.before args s = true) (hin : ∀ w ∈ u_ws C T N, w ∈ wAll) (hown : s.vm.findClass own = some m.cls) (hK : va_K D cls tys s) (hM : mH D A L f H) (ha : a ∈ L) (hf : f a = .inr (ci, rg N g)) (hc : cls[ci]? = some (C, T, N)) {k : Nat} (hk : k < N)
    (hlink : Cond.fieldLink own index (T k).1 (T k).2.1 (T k).2.2.1 ∈ wAll) (hdg : decode cc pc = .ok (.getfield index, 3)) (kk : W p l e R s m args below meth c H locs cells slots Q (F0 m (pc + 3) ls (g k :: rest))) : W p l e R s m args below meth c H locs cells slots Q (F0 m pc ls (.ref a :: rest)) := by
  obtain ⟨q0, hq⟩ := va_pl_get (X := []) (f := f) ha
  rw [hf] at hq
  exact va_get hx hb hts hin hown hK hM.1 q0 hq hc k hk (hts _ hlink) (fun _ h => h) (rg_get hk rfl) hdg kk
theorem mput (hx : p.tables.exec = Jvm.exec) (hb : c.code = cc) (hts : ∀ w ∈ wAll, w.before args s = true) (hin : ∀ w ∈ u_ws C T N, w ∈ wAll) (ty0 : Nat → FieldType) (hty : ∀ k, k < N → parseFieldDescriptor (T k).2.2.1 = some (ty0 k)) (hnm : ∀ a, a < N → ∀ b, b < N → a ≠ b → (T a).2.1 ≠ (T b).2.1) (hown : s.vm.findClass own = some m.cls) (hK : va_K D cls tys s) (hM : mH D A L f H) (hS : va_S A H0 H locs) (ha : a ∈ L) (hf : f a = .inr (ci, rg N g)) (hc : cls[ci]? = some (C, T, N)) {k : Nat} (hk : k < N)
    (hlink : Cond.fieldLink own index (T k).1 (T k).2.1 (T k).2.2.1 ∈ wAll) (hfin : (T k).2.2.2 = false) {v : Value} (hn : narrow (ty0 k) v = v) (hfit : fits (ty0 k) v = true) (hdg : decode cc pc = .ok (.putfield index, 3))
    (kk : ∀ (H1 : Heap) (locs1 : List Loc), mH D A L (va_up f a (.inr (ci, rg N (va_up g k v)))) H1 → va_S A H0 H1 locs1 → W p l e R s m args below meth c H1 locs1 cells slots Q (F0 m (pc + 3) ls rest)) : W p l e R s m args below meth c H locs cells slots Q (F0 m pc ls (v :: .ref a :: rest)) := by
  obtain ⟨q0, hq⟩ := va_pl_get (X := []) (f := f) ha
  have hq2 := hq
  rw [hf] at hq2
  refine va_put hx hb hts hin ty0 hty hnm hown hK hM.1 hM.2 hS q0 hq2 hc k hk (hts _ hlink) (fun _ h => h) hfin (hty k hk) hn hfit (by rw [rg_len]; exact hk) hdg (fun H1 locs1 hP1 hD1 hS1 => ?_)
  rw [rg_set] at hP1 hD1
  have e := va_pl_set (X := []) (e := .inr (ci, rg N (va_up g k v))) hM.2 ha hq
  exact kk H1 locs1 ⟨by rw [← List.nil_append (va_pl L _), ← e]; exact hP1, by rw [← List.nil_append (va_pl L _), ← e]; exact hD1⟩ hS1
theorem mald {n : Nat} {cA : ClassId} {h : Int → Int} (hx : p.tables.exec = Jvm.exec) (hb : c.code = cc) (hK : va_K D cls tys s) (hM : mH D A L f H) (ha : a ∈ L) (hf : f a = .inl (cA, n, .inl (zAr h))) (t0 : Nat) (ht : tys[t0]? = some (cA, .int)) {z : Int} (h0 : 0 ≤ z) (h1 : z < n) (hn : n ≤ 2147483647) (hdg : decode cc pc = .ok (.iaload, 1))
    (kk : W p l e R s m args below meth c H locs cells slots Q (F0 m (pc + 1) ls (.int (iI (h z)) :: rest))) : W p l e R s m args below meth c H locs cells slots Q (F0 m pc ls (.int (iI z) :: .ref a :: rest)) := by
  obtain ⟨q0, hq⟩ := va_pl_get (X := []) (f := f) ha
  rw [hf] at hq
  exact va_iald hx hb hK hM.1 q0 t0 hq ht (iI_in h0 h1 hn) hdg (by rw [zAr_at h0 (by omega)]; exact kk)
theorem mast {n : Nat} {cA : ClassId} {h : Int → Int} (hx : p.tables.exec = Jvm.exec) (hb : c.code = cc) (hK : va_K D cls tys s) (hM : mH D A L f H) (hS : va_S A H0 H locs) (ha : a ∈ L) (hf : f a = .inl (cA, n, .inl (zAr h))) (t0 : Nat) (ht : tys[t0]? = some (cA, .int)) {z v : Int} (h0 : 0 ≤ z) (h1 : z < n) (hn : n ≤ 2147483647) (hdg : decode cc pc = .ok (.iastore, 1))
    (kk : ∀ (H1 : Heap) (locs1 : List Loc), mH D A L (va_up f a (.inl (cA, n, .inl (zAr (zup h z v))))) H1 → va_S A H0 H1 locs1 → W p l e R s m args below meth c H1 locs1 cells slots Q (F0 m (pc + 1) ls rest)) : W p l e R s m args below meth c H locs cells slots Q (F0 m pc ls (.int (iI v) :: .int (iI z) :: .ref a :: rest)) := by
  obtain ⟨q0, hq⟩ := va_pl_get (X := []) (f := f) ha
  have hq2 := hq
  rw [hf] at hq2
  refine va_iast hx hb hK hM.1 hM.2 hS q0 t0 hq2 ht (iI_in h0 h1 hn) hdg (fun H1 locs1 hP1 hD1 hS1 => ?_)
  rw [zAr_up h0 (by omega)] at hP1 hD1
  have e := va_pl_set (X := []) (e := .inl (cA, n, .inl (zAr (zup h z v)))) hM.2 ha hq
  exact kk H1 locs1 ⟨by rw [← List.nil_append (va_pl L _), ← e]; exact hP1, by rw [← List.nil_append (va_pl L _), ← e]; exact hD1⟩ hS1
theorem mlald {n : Nat} {cA : ClassId} {h : Int → Int} (hx : p.tables.exec = Jvm.exec) (hb : c.code = cc) (hK : va_K D cls tys s) (hM : mH D A L f H) (ha : a ∈ L) (hf : f a = .inl (cA, n, .inr (.inl (zLr h)))) (t0 : Nat) (ht : tys[t0]? = some (cA, .long)) {z : Int} (h0 : 0 ≤ z) (h1 : z < n) (hn : n ≤ 2147483647) (hdg : decode cc pc = .ok (.laload, 1))
    (kk : W p l e R s m args below meth c H locs cells slots Q (F0 m (pc + 1) ls (.long (lI (h z)) :: rest))) : W p l e R s m args below meth c H locs cells slots Q (F0 m pc ls (.int (iI z) :: .ref a :: rest)) := by
  obtain ⟨q0, hq⟩ := va_pl_get (X := []) (f := f) ha
  rw [hf] at hq
  exact va_lald hx hb hK hM.1 q0 t0 hq ht (iI_in h0 h1 hn) hdg (by rw [zLr_at h0 (by omega)]; exact kk)
theorem mlast {n : Nat} {cA : ClassId} {h : Int → Int} (hx : p.tables.exec = Jvm.exec) (hb : c.code = cc) (hK : va_K D cls tys s) (hM : mH D A L f H) (hS : va_S A H0 H locs) (ha : a ∈ L) (hf : f a = .inl (cA, n, .inr (.inl (zLr h)))) (t0 : Nat) (ht : tys[t0]? = some (cA, .long)) {z v : Int} (h0 : 0 ≤ z) (h1 : z < n) (hn : n ≤ 2147483647) (hdg : decode cc pc = .ok (.lastore, 1))
    (kk : ∀ (H1 : Heap) (locs1 : List Loc), mH D A L (va_up f a (.inl (cA, n, .inr (.inl (zLr (zup h z v)))))) H1 → va_S A H0 H1 locs1 → W p l e R s m args below meth c H1 locs1 cells slots Q (F0 m (pc + 1) ls rest)) : W p l e R s m args below meth c H locs cells slots Q (F0 m pc ls (.long (lI v) :: .int (iI z) :: .ref a :: rest)) := by
  obtain ⟨q0, hq⟩ := va_pl_get (X := []) (f := f) ha
  have hq2 := hq
  rw [hf] at hq2
  refine va_last hx hb hK hM.1 hM.2 hS q0 t0 hq2 ht (iI_in h0 h1 hn) hdg (fun H1 locs1 hP1 hD1 hS1 => ?_)
  rw [zLr_up h0 (by omega)] at hP1 hD1
  have e := va_pl_set (X := []) (e := .inl (cA, n, .inr (.inl (zLr (zup h z v))))) hM.2 ha hq
  exact kk H1 locs1 ⟨by rw [← List.nil_append (va_pl L _), ← e]; exact hP1, by rw [← List.nil_append (va_pl L _), ← e]; exact hD1⟩ hS1
end MP

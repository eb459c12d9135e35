theorem vin2 {x M : Int32} {n : Nat} (hM : M.toInt = n) (a : ¬ x < 0) (b : ¬ M ≤ x) : vp_in x n := by
  rw [vp_in_iff]
  have h1 := Int32.le_iff_toInt_le.mp (Int32.not_lt.mp a)
  have h2 := Int32.lt_iff_toInt_lt.mp (Int32.not_le.mp b)
  have h3 : (0 : Int32).toInt = 0 := by decide
  omega
theorem vgt {x : Int32} (c : ¬ 1 < x) : ¬ 2 ≤ x := by
  intro h
  apply c
  have h1 := Int32.le_iff_toInt_le.mp h
  rw [Int32.lt_iff_toInt_lt]
  have h2 : (2 : Int32).toInt = 2 := by decide
  have h3 : (1 : Int32).toInt = 1 := by decide
  omega
theorem v2 {x : Int32} (h : vp_in x 2) : x.toNatClampNeg = 0 ∨ x.toNatClampNeg = 1 := by
  have h1 : ¬ 2 ≤ x.toNatClampNeg := fun q => h (Or.inr q)
  omega
section GU
variable {p : Program} {l : Launch} {e : Env} {R : Room} {s : State} {m : MethodId} {args : Array Value} {below : List Frame} {meth : Method} {c : Code} {H : Heap} {locs : List Loc} {cells slots : Nat} {Q : State → Prop}
variable {cc : ByteArray} {pc : Nat} {ls : Array Slot} {rest : List Value}
theorem gldcwS (hx : p.tables.exec = Jvm.exec) (hb : c.code = cc) {own tx : String} {index q : Nat} (hown : s.vm.findClass own = some m.cls) (hZ : vk_R own index tx q s) (hdg : decode cc pc = .ok (.ldc_w index, 3))
    (k : W p l e R s m args below meth c H locs cells slots Q (F0 m (pc + 3) ls (.ref q :: rest))) : W p l e R s m args below meth c H locs cells slots Q (F0 m pc ls rest) := by
  intro T hT X
  obtain ⟨t, a1, b1⟩ := k T hT X
  refine ⟨t, ?_, b1⟩
  obtain ⟨k1, cf, i, a', hk, hcf, hcp, -, hr, hev'⟩ := Cond.stringRef_spec hown hZ.1
  cases hZ.2.symm.trans hev'
  obtain ⟨k', hk', he⟩ := X.warmed.alike.2.2 _ _ hk
  have hr' : k'.resolved[index]? = some (some (.string q)) := by
    rcases X.warmed.entry hk hk' index with h | ⟨h, -⟩
    · rw [h]; exact hr
    · rw [hr] at h; cases h
  have hd2 : decode c.code (F0 m pc ls rest).pc = .ok (.ldc_w index, 3) := by rw [hb]; exact hdg
  jvm_step X.here [hx, hd2, ldc_w.wp_string (e := e) (s := T) (f := F0 m pc ls rest) X.here.top hk' (by rw [he]; exact hcf) hcp hr']
  exact a1
end GU
theorem e3000 {y n : Int32} (e : y = 0 + n) (a : ¬ n < 0) (b : ¬ 20 < n) : y ≤ 3000 := by
  rw [e, Int32.zero_add]
  have h2 := Int32.le_iff_toInt_le.mp (Int32.not_lt.mp b)
  rw [Int32.le_iff_toInt_le]
  have h3 : (20 : Int32).toInt = 20 := by decide
  have h4 : (3000 : Int32).toInt = 3000 := by decide
  omega
theorem eqn {n i j : Int32} (h1 : n ≤ i) (h2 : ¬ n ≤ j) (hj : j.toInt + 1 = i.toInt) : i = n := by
  have a := Int32.le_iff_toInt_le.mp h1
  have b := Int32.lt_iff_toInt_lt.mp (Int32.not_le.mp h2)
  exact Int32.toInt_inj.mp (by omega)
theorem eq0 {n : Int32} (h1 : n ≤ 0) (h2 : ¬ n < 0) : 0 = n := by
  have a := Int32.le_iff_toInt_le.mp h1
  have b := Int32.le_iff_toInt_le.mp (Int32.not_lt.mp h2)
  exact Int32.toInt_inj.mp (by omega)

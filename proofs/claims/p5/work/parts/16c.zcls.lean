noncomputable abbrev zK : Type := Nat × (Nat → Int)
noncomputable def lnCl : List (List Nat) := [[0, 0, 0], [0, 0, 0, 0, 0, 0, 0, 0, 0, 0, 0, 0, 6, 6], [0, 3200, 3200, 3200, 0, 101, 100, 101, 100, 100, 101, 101, 4], [3000, 3000, 3000, 3000, 3000, 3000, 3000, 3000, 1500, 1500, 1500, 0, 6, 6, 0, 0, 0, 0, 0, 0, 0, 0], [0, 0, 0, 0, 0, 200, 0, 0, 12, 800, 0, 0, 63], [0, 0, 0, 0, 1000, 1000, 1000, 6, 4000, 4000, 12, 0, 0, 0], [4, 0, 0, 0, 0, 0, 0, 0, 0, 0, 0, 0, 0, 0], [0, 0, 0, 0, 0, 0, 0, 0, 128], [7, 6, 0, 8, 0, 0, 0, 0, 0, 0, 0, 0, 0, 0, 0], [0, 800, 0, 4, 4, 4, 4, 4, 4, 4, 7], [0, 0, 0, 0, 0, 3001, 3001, 3001, 0], [0, 0, 0, 0, 0, 0, 0, 0, 0, 0, 0, 0, 0, 0, 4, 64, 64, 64, 0], [0, 20, 0, 2, 0, 0, 0, 0, 0, 0]]
noncomputable def lnQ2 (c k : Nat) : Nat := if c = 4 ∧ k = 8 then 800 else if c = 5 ∧ k = 7 then 2000 else if c = 8 ∧ k = 1 then 400 else if c = 9 ∧ k = 3 then 300 else if c = 9 ∧ k = 4 then 800 else 0
noncomputable def lnR (c k : Nat) : Nat := if k < 180 then (lnCl.getD c []).getD k 0 else if k < 200 then 4000 else lnQ2 c ((k - 200) / 20)
noncomputable def lnC (c : Nat) (i : Int) (k : Nat) : Nat := if c = 0 then (if i = 0 then 3000 else 20480) else lnR c k
theorem lnC0_le {i : Int} {k : Nat} : lnC 0 i k ≤ 2147483647 := by
  unfold lnC
  rw [if_pos rfl]
  split <;> decide
theorem lnq {c b n m : Nat} (h : ∀ j, j < n → lnR c (b + j) = m) (hc : ¬ c = 0) {i z : Int} (z0 : 0 ≤ z) (z1 : z < n) : lnC c i (b + z.toNat) = m := by
  unfold lnC
  rw [if_neg hc]
  exact h _ (by omega)
theorem lnq_le {c b n m : Nat} (h : ∀ j, j < n → lnR c (b + j) = m) (hc : ¬ c = 0) (hm : m ≤ 2147483647) {i z : Int} (z0 : 0 ≤ z) (z1 : z < n) : lnC c i (b + z.toNat) ≤ 2147483647 := by
  rw [lnq h hc z0 z1]; exact hm
theorem lnq_lt {c b n m : Nat} (h : ∀ j, j < n → lnR c (b + j) = m) (hc : ¬ c = 0) {i z x : Int} (z0 : 0 ≤ z) (z1 : z < n) (hx : x < m) : x < lnC c i (b + z.toNat) := by
  rw [lnq h hc z0 z1]; exact hx
theorem zkq {c b n t : Nat} (h : ∀ j, j < n → zk c (b + j) = (3, t)) {z : Int} (z0 : 0 ≤ z) (z1 : z < n) : zk c (b + z.toNat) = (3, t) := h _ (by omega)
section ZC
variable {p : Program} {l : Launch} {e : Env} {R : Room} {s : State} {m : MethodId} {args : Array Value} {below : List Frame} {meth : Method} {c : Code} {H : Heap} {locs : List Loc} {cells slots : Nat} {Q : State → Prop}
variable {cc : ByteArray} {pc : Nat} {ls : Array Slot} {rest : List Value} {D : va_G} {A : Nat → Prop} {tys : List (ClassId × FieldType)} {H0 : Heap} {a : Nat}
variable {L : List Nat} {f : Nat → va_E} {ca : Nat → ClassId} {ad : Nat → Int → Nat → Nat} {ln : Nat → Int → Nat → Nat} {N : Nat → Int} {F : Nat → Int → Nat → Int} {B : Nat → Int → Nat → Int → Int} {ci k : Nat} {i : Int}
theorem zaldQ {t : Nat} {ty : FieldType} (hx : p.tables.exec = Jvm.exec) (hb : c.code = cc) (hK : va_K D cls tys s) (ht : tys[t + 8]? = some (ca (t + 8), .array ty)) (hZ : zH D ca ad ln N L F B A H) (h0 : 0 ≤ i) (h1 : i < N ci) (hk : zk ci k = (4, t)) (hl : zrn ci k ≤ 2147483647) {z : Int} (z0 : 0 ≤ z) (z1 : z < zrn ci k) (hdg : decode cc pc = .ok (.aaload, 1))
    (kk : W p l e R s m args below meth c H locs cells slots Q (F0 m (pc + 1) ls (.ref (ad ci i (200 + 20 * k + z.toNat + 1)) :: rest))) : W p l e R s m args below meth c H locs cells slots Q (F0 m pc ls (.int (iI z) :: .ref (ad ci i (k + 1)) :: rest)) := by
  obtain ⟨hj, f, hM, hR⟩ := hZ
  obtain ⟨a1, a2⟩ := (hR ci i h0 h1).2.2.1 k t hk
  obtain ⟨q0, hq⟩ := va_pl_get (X := []) (f := f) a1
  rw [a2] at hq
  have hin : vp_in (iI z) (zrn ci k) := iI_in z0 z1 hl
  have hlt : (iI z).toNatClampNeg < zrn ci k := Nat.not_le.mp fun q => hin (Or.inr q)
  exact W.aald (v := .ref (ad ci i (200 + 20 * k + z.toNat + 1))) (ty := .array ty) hx hb (hM.1 q0 _ hq) ((hK.2 (t + 8) _ ht).1 (zrn ci k) (fun j => va_rf (some (ad ci i (200 + 20 * k + j + 1))))) rfl (fun q => by cases q) (by show ¬ (iI z < 0 ∨ (arrV _ _ _).slots.size ≤ _); rw [arrV_size]; exact hin) (by show (arrV _ _ _).slots[_]? = _; rw [arrV_read _ _ hlt, iI_cl z0 (by omega)]; rfl) rfl rfl hdg kk
theorem zlen {t x : Nat} {ty : FieldType} (hx : p.tables.exec = Jvm.exec) (hb : c.code = cc) (hK : va_K D cls tys s) (ht : tys[x]? = some (ca x, ty)) (hr : ∀ n h, ∃ y, zRw ca ad n t h = .inl (ca x, n, y)) (hZ : zH D ca ad ln N L F B A H) (h0 : 0 ≤ i) (h1 : i < N ci) (hk : zk ci k = (3, t)) (hdg : decode cc pc = .ok (.arraylength, 1))
    (kk : W p l e R s m args below meth c H locs cells slots Q (F0 m (pc + 1) ls (.int (iI (ln ci i k)) :: rest))) : W p l e R s m args below meth c H locs cells slots Q (F0 m pc ls (.ref (ad ci i (k + 1)) :: rest)) := by
  obtain ⟨hj, f, hM, hR⟩ := hZ
  obtain ⟨a1, a2⟩ := (hR ci i h0 h1).2.1 k t hk
  obtain ⟨q0, hq⟩ := va_pl_get (X := []) (f := f) a1
  obtain ⟨y, hy⟩ := hr (ln ci i k) (B ci i k)
  rw [a2, hy] at hq
  exact va_alen hx hb hK hM.1 q0 x hq ht rfl hdg kk
theorem zlenQ {t : Nat} {ty : FieldType} (hx : p.tables.exec = Jvm.exec) (hb : c.code = cc) (hK : va_K D cls tys s) (ht : tys[t + 8]? = some (ca (t + 8), .array ty)) (hZ : zH D ca ad ln N L F B A H) (h0 : 0 ≤ i) (h1 : i < N ci) (hk : zk ci k = (4, t)) (hdg : decode cc pc = .ok (.arraylength, 1))
    (kk : W p l e R s m args below meth c H locs cells slots Q (F0 m (pc + 1) ls (.int (iI (zrn ci k)) :: rest))) : W p l e R s m args below meth c H locs cells slots Q (F0 m pc ls (.ref (ad ci i (k + 1)) :: rest)) := by
  obtain ⟨hj, f, hM, hR⟩ := hZ
  obtain ⟨a1, a2⟩ := (hR ci i h0 h1).2.2.1 k t hk
  obtain ⟨q0, hq⟩ := va_pl_get (X := []) (f := f) a1
  rw [a2] at hq
  exact va_alen hx hb hK hM.1 q0 (t + 8) hq ht rfl hdg kk
theorem zl2iw {a : Int} (hx : p.tables.exec = Jvm.exec) (hb : c.code = cc) (hdg : decode cc pc = .ok (.l2i, 1)) (k : W p l e R s m args below meth c H locs cells slots Q (F0 m (pc + 1) ls (.int (iI a) :: rest))) : W p l e R s m args below meth c H locs cells slots Q (F0 m pc ls (.long (lI a) :: rest)) :=
  lv_l2i hx hb hdg (Int32.toInt_inj.mp (by unfold lI iI; rw [Int64.toInt_toInt32, Int64.toInt_ofInt, Int32.toInt_ofInt]; exact Int.bmod_bmod_of_dvd (by decide))) k
end ZC

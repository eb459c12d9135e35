def nM (c : Nat) : Int := if c = 14 then 1 else if c = 13 then 3 else 0
theorem zbool {x : Int} (h : x = 0 ∨ x = 1) : narrow .boolean (.int (iI x)) = .int (iI x) := by
  rcases h with rfl | rfl <;> rfl
theorem zboolF {x : Int} (h : x = 0 ∨ x = 1) : fits .boolean (.int (iI x)) = true := by
  rcases h with rfl | rfl <;> rfl
theorem zrf_nar {t : FieldType} {n : String} (ht : t = .object n) (r : Option Nat) : narrow t (va_rf r) = va_rf r := by
  subst ht; cases r <;> rfl
theorem zrf_fit {t : FieldType} {n : String} (ht : t = .object n) (r : Option Nat) : fits t (va_rf r) = true := by
  subst ht; cases r <;> rfl
section ZQ
variable {p : Program} {l : Launch} {e : Env} {R : Room} {s : State} {m : MethodId} {args : Array Value} {below : List Frame} {meth : Method} {c : Code} {H : Heap} {locs : List Loc} {cells slots : Nat} {Q : State → Prop}
variable {cc : ByteArray} {pc : Nat} {ls : Array Slot} {rest : List Value} {D : va_G} {A : Nat → Prop} {tys : List (ClassId × FieldType)} {H0 : Heap} {a : Nat}
variable {L : List Nat} {f : Nat → va_E} {ca : Nat → ClassId} {ad : Nat → Int → Nat → Nat} {ln : Nat → Int → Nat → Nat} {N : Nat → Int} {F : Nat → Int → Nat → Int} {B : Nat → Int → Nat → Int → Int} {ci k : Nat} {i : Int}
theorem zbnar (v : Int) : vp_nar .byte (iI v) = iI (zi2b v) := by
  unfold zi2b
  rw [iI_of]
  rfl
theorem zznar {v : Int} (h : v = 0 ∨ v = 1) : vp_nar .boolean (iI v) = iI v := by
  rcases h with rfl | rfl <;> rfl
theorem zbald (hx : p.tables.exec = Jvm.exec) (hb : c.code = cc) (hK : va_K D cls tys s) (ht : tys[2]? = some (ca 2, .byte)) (hZ : zH D ca ad ln N L F B A H) (h0 : 0 ≤ i) (h1 : i < N ci) (hk : zk ci k = (3, 2)) (hl : ln ci i k ≤ 2147483647) {z : Int} (z0 : 0 ≤ z) (z1 : z < ln ci i k) (hdg : decode cc pc = .ok (.baload, 1))
    (kk : W p l e R s m args below meth c H locs cells slots Q (F0 m (pc + 1) ls (.int (iI (B ci i k z)) :: rest))) : W p l e R s m args below meth c H locs cells slots Q (F0 m pc ls (.int (iI z) :: .ref (ad ci i (k + 1)) :: rest)) := by
  obtain ⟨hj, f, hM, hR⟩ := hZ
  obtain ⟨a1, a2⟩ := (hR ci i h0 h1).2.1 k 2 hk
  obtain ⟨q0, hq⟩ := va_pl_get (X := []) (f := f) a1
  rw [a2] at hq
  exact va_bald hx hb hK hM.1 q0 2 hq ht (iI_in z0 z1 hl) hdg (by rw [zAr_at z0 (by omega)]; exact kk)
theorem zzald (hx : p.tables.exec = Jvm.exec) (hb : c.code = cc) (hK : va_K D cls tys s) (ht : tys[3]? = some (ca 3, .boolean)) (hZ : zH D ca ad ln N L F B A H) (h0 : 0 ≤ i) (h1 : i < N ci) (hk : zk ci k = (3, 3)) (hl : ln ci i k ≤ 2147483647) {z : Int} (z0 : 0 ≤ z) (z1 : z < ln ci i k) (hdg : decode cc pc = .ok (.baload, 1))
    (kk : W p l e R s m args below meth c H locs cells slots Q (F0 m (pc + 1) ls (.int (iI (B ci i k z)) :: rest))) : W p l e R s m args below meth c H locs cells slots Q (F0 m pc ls (.int (iI z) :: .ref (ad ci i (k + 1)) :: rest)) := by
  obtain ⟨hj, f, hM, hR⟩ := hZ
  obtain ⟨a1, a2⟩ := (hR ci i h0 h1).2.1 k 3 hk
  obtain ⟨q0, hq⟩ := va_pl_get (X := []) (f := f) a1
  rw [a2] at hq
  exact va_zald hx hb hK hM.1 q0 3 hq ht (iI_in z0 z1 hl) hdg (by rw [zAr_at z0 (by omega)]; exact kk)
theorem zbast (hx : p.tables.exec = Jvm.exec) (hb : c.code = cc) (hK : va_K D cls tys s) (ht : tys[2]? = some (ca 2, .byte)) (hZ : zH D ca ad ln N L F B A H) (hS : va_S A H0 H locs) (h0 : 0 ≤ i) (h1 : i < N ci) (hk : zk ci k = (3, 2)) (hl : ln ci i k ≤ 2147483647) {z v : Int} (z0 : 0 ≤ z) (z1 : z < ln ci i k) (hdg : decode cc pc = .ok (.bastore, 1))
    (kk : ∀ (H1 : Heap) (locs1 : List Loc), zH D ca ad ln N L F (zup4 B ci i k z (zi2b v)) A H1 → va_S A H0 H1 locs1 → W p l e R s m args below meth c H1 locs1 cells slots Q (F0 m (pc + 1) ls rest)) : W p l e R s m args below meth c H locs cells slots Q (F0 m pc ls (.int (iI v) :: .int (iI z) :: .ref (ad ci i (k + 1)) :: rest)) := by
  obtain ⟨hj, f, hM, hR⟩ := hZ
  obtain ⟨a1, a2⟩ := (hR ci i h0 h1).2.1 k 2 hk
  obtain ⟨q0, hq⟩ := va_pl_get (X := []) (f := f) a1
  have hq2 := hq
  rw [a2] at hq2
  refine va_bast hx hb hK hM.1 hM.2 hS q0 2 hq2 ht (iI_in z0 z1 hl) hdg (fun H1 locs1 hP1 hD1 hS1 => ?_)
  rw [zbnar v, zAr_up z0 (by omega)] at hP1 hD1
  have e := va_pl_set (X := []) (e := zRw ca ad (ln ci i k) 2 (zup (B ci i k) z (zi2b v))) hM.2 a1 hq
  exact kk H1 locs1 ⟨hj, _, ⟨by rw [← List.nil_append (va_pl L _), ← e]; exact hP1, by rw [← List.nil_append (va_pl L _), ← e]; exact hD1⟩, hR.st hj h0 h1 hk (fun h => absurd h (by decide))⟩ hS1
theorem zzast (hx : p.tables.exec = Jvm.exec) (hb : c.code = cc) (hK : va_K D cls tys s) (ht : tys[3]? = some (ca 3, .boolean)) (hZ : zH D ca ad ln N L F B A H) (hS : va_S A H0 H locs) (h0 : 0 ≤ i) (h1 : i < N ci) (hk : zk ci k = (3, 3)) (hl : ln ci i k ≤ 2147483647) {z v : Int} (hv : v = 0 ∨ v = 1) (z0 : 0 ≤ z) (z1 : z < ln ci i k) (hdg : decode cc pc = .ok (.bastore, 1))
    (kk : ∀ (H1 : Heap) (locs1 : List Loc), zH D ca ad ln N L F (zup4 B ci i k z (v)) A H1 → va_S A H0 H1 locs1 → W p l e R s m args below meth c H1 locs1 cells slots Q (F0 m (pc + 1) ls rest)) : W p l e R s m args below meth c H locs cells slots Q (F0 m pc ls (.int (iI v) :: .int (iI z) :: .ref (ad ci i (k + 1)) :: rest)) := by
  obtain ⟨hj, f, hM, hR⟩ := hZ
  obtain ⟨a1, a2⟩ := (hR ci i h0 h1).2.1 k 3 hk
  obtain ⟨q0, hq⟩ := va_pl_get (X := []) (f := f) a1
  have hq2 := hq
  rw [a2] at hq2
  refine va_zast hx hb hK hM.1 hM.2 hS q0 3 hq2 ht (iI_in z0 z1 hl) hdg (fun H1 locs1 hP1 hD1 hS1 => ?_)
  rw [zznar hv, zAr_up z0 (by omega)] at hP1 hD1
  have e := va_pl_set (X := []) (e := zRw ca ad (ln ci i k) 3 (zup (B ci i k) z (v))) hM.2 a1 hq
  exact kk H1 locs1 ⟨hj, _, ⟨by rw [← List.nil_append (va_pl L _), ← e]; exact hP1, by rw [← List.nil_append (va_pl L _), ← e]; exact hD1⟩, hR.st hj h0 h1 hk (fun h => absurd h (by decide))⟩ hS1
theorem zaldR {t x : Nat} {C : String} (hx : p.tables.exec = Jvm.exec) (hb : c.code = cc) (hK : va_K D cls tys s) (x0 : zct (t + 10) = x) (ht : tys[x]? = some (ca x, .object C)) (hZ : zH D ca ad ln N L F B A H) (h0 : 0 ≤ i) (h1 : i < N ci) (hk : zk ci k = (3, t + 10)) (hl : ln ci i k ≤ 2147483647) {z : Int} (z0 : 0 ≤ z) (z1 : z < ln ci i k) (hdg : decode cc pc = .ok (.aaload, 1))
    (kk : W p l e R s m args below meth c H locs cells slots Q (F0 m (pc + 1) ls (va_rf (zrf ad t (B ci i k z)) :: rest))) : W p l e R s m args below meth c H locs cells slots Q (F0 m pc ls (.int (iI z) :: .ref (ad ci i (k + 1)) :: rest)) := by
  obtain ⟨hj, f, hM, hR⟩ := hZ
  obtain ⟨a1, a2⟩ := (hR ci i h0 h1).2.1 k (t + 10) hk
  obtain ⟨q0, hq⟩ := va_pl_get (X := []) (f := f) a1
  rw [a2] at hq
  subst x0
  refine va_aldq hx hb hK hM.1 q0 (zct (t + 10)) hq ht (iI_in z0 z1 hl) hdg ?_
  rw [iI_cl z0 (by omega), Int.toNat_of_nonneg z0]
  exact kk
theorem zRw_up {t n : Nat} {h : Int → Int} {z v : Int} (z0 : 0 ≤ z) (v0 : 0 ≤ v) : zRw ca ad n (t + 10) (zup h z v) = .inl (ca (zct (t + 10)), n, .inr (.inr (.inr (.inr (va_up (fun j : Nat => zrf ad t (h (j : Int))) z.toNat (some (ad t v 0))))))) := by
  show (Sum.inl (ca (zct (t + 10)), n, _) : va_E) = _
  congr 6
  refine congrArg Sum.inr ?_
  funext j
  unfold va_up zup
  by_cases e : j = z.toNat
  · have e2 : (j : Int) = z := by omega
    rw [if_pos e, if_pos e2]
    exact zrf_pos v0
  · have e2 : ¬ (j : Int) = z := by omega
    rw [if_neg e, if_neg e2]
    rfl
theorem zastR {t x : Nat} {r : vw_C} (hx : p.tables.exec = Jvm.exec) (hb : c.code = cc) (hK : va_K D cls tys s) (x0 : zct (t + 10) = x) (ht : tys[x]? = some (ca x, .object r.1)) (hc : cls[t]? = some r) (hZ : zH D ca ad ln N L F B A H) (hS : va_S A H0 H locs) (h0 : 0 ≤ i) (h1 : i < N ci) (hk : zk ci k = (3, t + 10)) (hl : ln ci i k ≤ 2147483647) {z v : Int} (v0 : 0 ≤ v) (v1 : v < N t) (z0 : 0 ≤ z) (z1 : z < ln ci i k) (hdg : decode cc pc = .ok (.aastore, 1))
    (kk : ∀ (H1 : Heap) (locs1 : List Loc), zH D ca ad ln N L F (zup4 B ci i k z v) A H1 → va_S A H0 H1 locs1 → W p l e R s m args below meth c H1 locs1 cells slots Q (F0 m (pc + 1) ls rest)) : W p l e R s m args below meth c H locs cells slots Q (F0 m pc ls (.ref (ad t v 0) :: .int (iI z) :: .ref (ad ci i (k + 1)) :: rest)) := by
  obtain ⟨hj, f, hM, hR⟩ := hZ
  obtain ⟨a1, a2⟩ := (hR ci i h0 h1).2.1 k (t + 10) hk
  obtain ⟨⟨b1, b2⟩, -⟩ := hR t v v0 v1
  obtain ⟨q0, hq⟩ := va_pl_get (X := []) (f := f) a1
  obtain ⟨qk, hqk⟩ := va_pl_get (X := []) (f := f) b1
  have hq2 := hq
  rw [a2] at hq2
  rw [b2] at hqk
  subst x0
  refine va_astq hx hb hK hM.1 hM.2 hS q0 (zct (t + 10)) qk t hq2 ht hqk hc (iI_in z0 z1 hl) hdg (fun H1 locs1 hP1 hD1 hS1 => ?_)
  rw [iI_cl z0 (by omega)] at hP1 hD1
  have e := va_pl_set (X := []) (e := zRw ca ad (ln ci i k) (t + 10) (zup (B ci i k) z v)) hM.2 a1 hq
  have e1 := zRw_up (ca := ca) (ad := ad) (t := t) (n := ln ci i k) (h := B ci i k) z0 v0
  exact kk H1 locs1 ⟨hj, _, ⟨by rw [← List.nil_append (va_pl L _), ← e, e1]; exact hP1, by rw [← List.nil_append (va_pl L _), ← e, e1]; exact hD1⟩, hR.st hj h0 h1 hk (fun _ => by rw [Nat.add_sub_cancel]; exact v1)⟩ hS1
theorem zcat (r : Option Nat) : (va_rf r).category = 1 := by cases r <;> rfl
end ZQ
def lnP : List Nat := [0, 0, 0, 0, 0, 0, 0, 0, 4, 4, 4, 4, 4, 4, 4000, 4000, 4000, 4000, 4000, 4000, 4000, 4000, 4000, 4000, 4000, 4000, 4000, 4000, 24000, 24000, 3200, 3200, 3200, 3200, 3200, 3200, 3200, 3200, 3200, 3200, 3200, 3200, 101, 3200, 3200, 3200, 100, 0, 0, 100, 100, 100, 100, 0, 0, 2000, 2000, 2000, 2000, 2000, 0, 4000, 4000, 4000, 4000, 0, 0, 0, 0, 0, 1000, 1000, 0, 800, 800, 3200, 0, 300, 300, 300, 300]
def lnQ : List Nat := [0, 0, 3000, 0, 20, 2, 0, 3001, 3001, 3001, 3001, 3001, 0, 4, 8, 15, 0, 0, 0, 0, 0, 0, 0, 0, 0, 6, 6, 0, 4, 4, 3001, 3001, 3001, 3001, 3001, 0, 0, 0, 0, 0, 0, 0, 100, 100, 100, 0, 100, 100, 0, 0, 0, 8, 0, 0, 0, 0, 0, 0, 63, 101, 101, 8, 0, 2000, 2000, 2000, 2000, 2000, 2000, 4000, 40000, 0, 0, 8, 8, 400, 400, 400, 400, 400, 400, 8, 400, 400, 400, 400, 400, 400, 8, 0, 0, 0, 0, 0, 0, 6, 89, 8, 24, 24, 0, 0, 0, 0, 0, 0, 24]
def lnM (c : Nat) (_ : Int) (k : Nat) : Nat := if c = 14 then lnQ.getD k 0 else lnP.getD k 0

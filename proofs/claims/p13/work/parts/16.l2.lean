section
theorem r32_td {a b : Int} (ha : r32 a) (hb : 0 < b) : r32 (a.tdiv b) := by
  have h3 : (a.tdiv b).natAbs ≤ a.natAbs := by rw [Int.natAbs_tdiv]; exact Nat.div_le_self _ _
  rcases Int.le_total 0 a with h | h
  · have := Int.tdiv_nonneg h (Int.le_of_lt hb); omega
  · have h4 : (-a).tdiv b = -(a.tdiv b) := Int.neg_tdiv a b
    have := Int.tdiv_nonneg (show 0 ≤ -a by omega) (Int.le_of_lt hb); omega
theorem r32_tm {a b : Int} (ha : r32 a) : r32 (a.tmod b) := by
  have h3 : (a.tmod b).natAbs ≤ a.natAbs := by rw [Int.natAbs_tmod]; exact Nat.mod_le _ _
  rcases Int.le_total 0 a with h | h
  · have := Int.tmod_nonneg b h; omega
  · have h4 : -(a.tmod b) = (-a).tmod b := by rw [Int.neg_tmod]
    have := Int.tmod_nonneg b (show 0 ≤ -a by omega); omega
theorem zdv_t {a b : Int} (ha : r32 a) (hb : 0 < b) (hb2 : r32 b) : zdv a b = a.tdiv b := by
  unfold zdv
  rw [iI_div ha hb hb2, iI_to (r32_td ha hb)]
theorem zrm_t {a b : Int} (ha : r32 a) (hb : 0 < b) (hb2 : r32 b) : zrm a b = a.tmod b := by
  unfold zrm
  rw [iI_div ha hb hb2, iI_mul, iI_sub, show a - a.tdiv b * b = a.tmod b by rw [Int.tmod_def, Int.mul_comm], iI_to (r32_tm ha)]
theorem zdv_e {a b : Int} (h0 : 0 ≤ a) (ha : r32 a) (hb : 0 < b) (hb2 : r32 b) : zdv a b = a / b := by
  rw [zdv_t ha hb hb2, Int.tdiv_eq_ediv_of_nonneg h0]
theorem zrm_e {a b : Int} (h0 : 0 ≤ a) (ha : r32 a) (hb : 0 < b) (hb2 : r32 b) : zrm a b = a % b := by
  rw [zrm_t ha hb hb2, Int.tmod_eq_emod_of_nonneg h0]
theorem iI_n0 {b : Int} (hb : 0 < b) (hb2 : r32 b) : ¬ iI b = 0 := iI_ne0 hb2 (by omega)
theorem L_floor {K : Nat} {a b : Int} {F : zF} {B : zB} (ha : r32 a) (hb : 0 < b) (hb2 : r32 b) : f_M_floor K a b F B = some (a / b, F, B) := by
  unfold f_M_floor f_M_floor_17
  rw [if_pos (iI_n0 hb hb2), zrm_t ha hb hb2, zdv_t ha hb hb2, if_pos (r32_tm ha)]
  have e : a.tmod b + b * a.tdiv b = a := by rw [Int.tmod_def]; omega
  have e2 : a % b + b * (a / b) = a := by rw [Int.emod_def]; omega
  have l1 := Int.emod_nonneg a (show b ≠ 0 by omega)
  have l2 := Int.emod_lt_of_pos a hb
  have m1 : (a.tmod b).natAbs < b.natAbs := by rw [Int.natAbs_tmod]; exact Nat.mod_lt _ (by omega)
  by_cases h : 0 ≤ a.tmod b
  · rw [if_pos h]
    have : a.tdiv b = a / b := by
      have h5 : b * (a.tdiv b - a / b) = a % b - a.tmod b := by rw [Int.mul_sub]; omega
      have h6 : a.tdiv b - a / b < 1 := by
        apply Int.lt_of_mul_lt_mul_left (a := b) _ (by omega); omega
      have h7 : -1 < a.tdiv b - a / b := by
        apply Int.lt_of_mul_lt_mul_left (a := b) _ (by omega); omega
      omega
    rw [this]
  · rw [if_neg h]
    have : a.tdiv b - 1 = a / b := by
      have h5 : b * (a.tdiv b - 1 - a / b) = a % b - a.tmod b - b := by rw [Int.mul_sub, Int.mul_sub]; omega
      have h6 : a.tdiv b - 1 - a / b < 1 := by
        apply Int.lt_of_mul_lt_mul_left (a := b) _ (by omega); omega
      have h7 : -1 < a.tdiv b - 1 - a / b := by
        apply Int.lt_of_mul_lt_mul_left (a := b) _ (by omega); omega
      omega
    rw [this]
theorem L_mod {K : Nat} {a b : Int} {F : zF} {B : zB} (ha : r32 a) (hb : 0 < b) (hb2 : r32 b) : f_M_mod K a b F B = some (a % b, F, B) := by
  unfold f_M_mod
  rw [L_floor ha hb hb2]
  show some (a - b * (a / b), F, B) = _
  rw [Int.emod_def]
theorem L_tone {K : Nat} {s a : Int} {F : zF} {B : zB} (h0 : 0 ≤ s) (h1 : s < 1000) : f_M_tone K s a F B = some (12 * (s / 7 + 1) + (2 * (s % 7) - (if s % 7 ≤ 2 then 0 else 1)) + a, F, B) := by
  unfold f_M_tone f_M_tone_18
  rw [zrm_e h0 (by omega) (by decide) (by decide), zdv_e h0 (by omega) (by decide) (by decide)]
  grind
/-- what the loop of end() makes of the tape: the waiting bytes from k on to l come behind n bytes -/
def endRow (h w : Int → Int) (n k l : Int) : Int → Int := fun x => if n + k ≤ x ∧ x < n + l then zi2b (w (x - n)) else h x
theorem L_end_loop {K : Nat} {l : Int} {F : zF} : ∀ {n : Nat} {k : Int} {B : zB}, 0 ≤ k → k ≤ l → l ≤ 20 → 0 ≤ F 14 0 3 → F 14 0 3 + l ≤ 3000 → l - k < n → ∃ B', f_M_end_26 K n k l F B = some (F 14 0 3 + l, zup3 F 14 0 3 (F 14 0 3 + l), B') ∧ (∀ c i x, ¬ (c = 14 ∧ i = 0 ∧ x = 2) → B' c i x = B c i x) ∧ B' 14 0 2 = endRow (B 14 0 2) (B 14 0 4) (F 14 0 3) k l := by
  intro n
  induction n with
  | zero => intro k B h0 h1 h2 h3 h4 h5; omega
  | succ n ih =>
    intro k B h0 h1 h2 h3 h4 h5
    unfold f_M_end_26
    rw [if_pos (by omega), if_pos (by omega)]
    by_cases h : l ≤ k
    · rw [if_pos h]
      refine ⟨B, rfl, fun _ _ _ _ => rfl, ?_⟩
      funext x
      unfold endRow
      rw [if_neg (by omega)]
    · rw [if_neg h, if_pos (by omega), if_pos (by omega)]
      obtain ⟨B', e, f1, f2⟩ := ih (k := k + 1) (B := zup4 B 14 0 2 (F 14 0 3 + k) (zi2b (B 14 0 4 k))) (by omega) (by omega) h2 h3 h4 (by omega)
      refine ⟨B', e, fun c i x hq => ?_, ?_⟩
      · rw [f1 c i x hq, zup4_ne hq]
      · rw [f2, zup4_self, zup4_ne (by decide)]
        funext x
        unfold endRow zup
        by_cases hx : x = F 14 0 3 + k
        · subst hx
          rw [if_neg (by omega), if_pos rfl, if_pos (by omega)]
          congr 2
          omega
        · by_cases hy : F 14 0 3 + (k + 1) ≤ x ∧ x < F 14 0 3 + l
          · rw [if_pos hy, if_pos (by omega)]
          · rw [if_neg hy, if_neg hx, if_neg (by omega)]
end
section
def zmax (a b : Int) : Int := if a < b then b else a
def zmin (a b : Int) : Int := if b < a then b else a
def zabs (a : Int) : Int := if 0 ≤ a then a else - a
theorem lI_lt2 {a b : Int} (ha : r64 a) (hb : r64 b) : lI a < lI b ↔ a < b := by rw [Int64.lt_iff_toInt_lt, lI_to ha, lI_to hb]
theorem zmax_e {a b : Int} (ha : r32 a) (hb : r32 b) : (if iI a < iI b then iI b else iI a) = iI (zmax a b) := by
  unfold zmax
  by_cases h : a < b
  · rw [if_pos h, if_pos ((iI_lt ha hb).mpr h)]
  · rw [if_neg h, if_neg (fun q => h ((iI_lt ha hb).mp q))]
theorem zmin_e {a b : Int} (ha : r32 a) (hb : r32 b) : (if iI b < iI a then iI b else iI a) = iI (zmin a b) := by
  unfold zmin
  by_cases h : b < a
  · rw [if_pos h, if_pos ((iI_lt hb ha).mpr h)]
  · rw [if_neg h, if_neg (fun q => h ((iI_lt hb ha).mp q))]
theorem zabs_e {a : Int} (ha : r32 a) : (if 0 ≤ iI a then iI a else 0 - iI a) = iI (zabs a) := by
  have h0 : (0 : Int32) = iI 0 := rfl
  have hr : r32 0 := ⟨by decide, by decide⟩
  unfold zabs
  rw [h0]
  by_cases h : 0 ≤ a
  · rw [if_pos h, if_pos ((iI_le hr ha).mpr h)]
  · rw [if_neg h, if_neg (fun q => h ((iI_le hr ha).mp q)), iI_sub, Int.zero_sub]
theorem zlmax_e {a b : Int} (ha : r64 a) (hb : r64 b) : (if lI b < lI a then lI a else lI b) = lI (zmax a b) := by
  unfold zmax
  by_cases h : b < a
  · rw [if_neg (show ¬ a < b by omega), if_pos ((lI_lt2 hb ha).mpr h)]
  · rw [if_neg (fun q => h ((lI_lt2 hb ha).mp q))]
    by_cases h2 : a < b
    · rw [if_pos h2]
    · rw [if_neg h2, show a = b by omega]
theorem zlmin_e {a b : Int} (ha : r64 a) (hb : r64 b) : (if lI b < lI a then lI b else lI a) = lI (zmin a b) := by
  unfold zmin
  by_cases h : b < a
  · rw [if_pos h, if_pos ((lI_lt2 hb ha).mpr h)]
  · rw [if_neg h, if_neg (fun q => h ((lI_lt2 hb ha).mp q))]
theorem zlabs_e {a : Int} (ha : r64 a) : (if 0 < lI a then lI a else - lI a) = lI (zabs a) := by
  have h0 : (0 : Int64) = lI 0 := rfl
  have hr : r64 0 := ⟨by decide, by decide⟩
  have hn : - lI a = lI (- a) := (Int64.ofInt_neg a).symm
  unfold zabs
  rw [h0, hn]
  by_cases h : 0 < a
  · rw [if_pos (show 0 ≤ a by omega), if_pos ((lI_lt2 hr ha).mpr h)]
  · rw [if_neg (fun q => h ((lI_lt2 hr ha).mp q))]
    by_cases h2 : 0 ≤ a
    · rw [if_pos h2, show a = 0 by omega]; rfl
    · rw [if_neg h2]
theorem zMetF0 {l : Launch} {y : MethodName} {ws ws' : List Cond} {rm : Room} {Pc : Array Value → State → Prop} {Qc : Array Value → State → Outcome → State → Prop} {mc ms : Nat} {free : Addr → Prop} {cc : ByteArray} {maxL : Nat} {ret : Option FieldType}
    (hy : plainFor y = true) (hw : ws = Cond.code y cc maxL ret :: ws')
    (body : ∀ p e s m args below meth c s₁, BodyLoose p l y (headSpec ws rm) cc maxL ret e s m args below meth c s₁ → c.maxLocals = maxL → Pc args s →
      W p l e rm s m args below meth c s.heap [] 0 0 (MQ below Qc args s mc ms free) (entryFrame m args maxL)) : Met l y ws rm Pc Qc mc ms free := by
  refine MetFree.of_bodySF (code := cc) (maxLocals := maxL) (ret := ret) hy ?_ ?_
  · intro args s m h hn
    obtain ⟨meth, c, h1, h2, h3, h4, h5, h6, -⟩ := Cond.code_spec hn (atoms_spec (ws := ws) h _ (by rw [hw]; exact List.mem_cons_self))
    exact ⟨meth, c, h1, h2, h3, h4, h5, h6⟩
  · intro p e s m args below meth c s₁ B hml hP _
    have hh0 : s₁.heap = s.heap := by rw [B.state]; rfl
    obtain ⟨t, a1, o, b1, b2, b3⟩ := body p e s m args below meth c s₁ B hml hP s₁ hh0 (Stand.of_body B)
    exact ⟨t, o, a1, b1, b2, ⟨b3.1, b3.2⟩⟩
section
variable {D : va_G} {ca : Nat → ClassId} {ad : Nat → Int → Nat → Nat} {ln : Nat → Int → Nat → Nat} {N : Nat → Int} {L : List Nat} {aS vS : Nat → Nat} {F F1 : zF} {B B1 : zB} {A A1 : Nat → Prop} {H H1 : Heap}
theorem zMetF {l : Launch} {y : MethodName} {b : ByteArray} {n : Nat} {ret : Option FieldType} {rm : Room} {sz mc ms : Nat} {args : List Value} {Qc : (Nat → Prop) → Array Value → State → Outcome → State → Prop} {lv : List (Nat × Value)}
    (hy : plainFor y = true) (hn : (lg_sl args).length ≤ n) (hlv : lv_args 0 args = lv)
    (body : ∀ (A : Nat → Prop) p e s m below meth c ls, zX D ca L aS vS A p s m args.toArray meth c b n ret y.cls → zH D ca ad ln N L F B A s.heap → va_S A s.heap s.heap [] → lv_has ls n lv →
      W p l e rm s m args.toArray below meth c s.heap [] 0 0 (MQ below (Qc A) args.toArray s mc ms A) (F0 m 0 ls [])) :
    Met l y (Cond.code y b n ret :: wAll) rm (va_Pc args (zPre D ca ad ln N L aS vS F B sz)) (Qc (zA L sz)) mc ms (zA L sz) := by
  refine zMetF0 (cc := b) (maxL := n) (ret := ret) hy rfl ?_
  intro p e s m args' below meth c s₁ B' hml hv
  obtain ⟨rfl, hsz, hZ, hK, hX⟩ := hv
  have hts := atoms_spec (ws := Cond.code y b n ret :: wAll) B'.pre
  have hown : s.vm.findClass y.cls = some m.cls := findClass_of_methodNamed B'.named
  subst hsz
  have hl := lv_entry args (n := n) hn
  rw [hlv] at hl
  rw [lg_entry_eq]
  exact body (zA L s.heap.size) p e s m below meth c _ ⟨B'.exec, B'.bytes, B'.returns, hml, hown, fun w hw => hts w (List.mem_cons_of_mem _ hw), B'.notSynchronized, hK, fun q h => Or.inr h, fun q h => Or.inl h, hX⟩ (hZ.weaken (fun q h => Or.inl h)) va_S.rf hl
end
end
section
abbrev zK : Type := Nat × (Nat → Int)
def lnCl : List (List Nat) := [[0, 0, 0], [0, 0, 0, 0, 0, 0, 0, 0, 0, 0, 0, 0, 6, 6], [0, 3200, 3200, 3200, 0, 101, 100, 101, 100, 100, 101, 101, 4], [3000, 3000, 3000, 3000, 3000, 3000, 3000, 3000, 1500, 1500, 1500, 0, 6, 6, 0, 0, 0, 0, 0, 0, 0, 0], [0, 0, 0, 0, 0, 200, 0, 0, 12, 800, 0, 0, 63], [0, 0, 0, 0, 1000, 1000, 1000, 6, 4000, 4000, 12, 0, 0, 0], [4, 0, 0, 0, 0, 0, 0, 0, 0, 0, 0, 0, 0, 0], [0, 0, 0, 0, 0, 0, 0, 0, 128], [7, 6, 0, 8, 0, 0, 0, 0, 0, 0, 0, 0, 0, 0, 0], [0, 800, 0, 4, 4, 4, 4, 4, 4, 4, 7], [0, 0, 0, 0, 0, 3001, 3001, 3001, 0], [0, 0, 0, 0, 0, 0, 0, 0, 0, 0, 0, 0, 0, 0, 4, 64, 64, 64, 0], [0, 20, 0, 2, 0, 0, 0, 0, 0, 0]]
def lnQ2 (c k : Nat) : Nat := if c = 4 ∧ k = 8 then 800 else if c = 5 ∧ k = 7 then 2000 else if c = 8 ∧ k = 1 then 400 else if c = 9 ∧ k = 3 then 300 else if c = 9 ∧ k = 4 then 800 else 0
def lnR (c k : Nat) : Nat := if k < 180 then (lnCl.getD c []).getD k 0 else if k < 200 then 4000 else lnQ2 c ((k - 200) / 20)
def lnC (c : Nat) (i : Int) (k : Nat) : Nat := if c = 0 then (if i = 0 then 3000 else 20480) else lnR c k
theorem lnC0_le {i : Int} {k : Nat} : lnC 0 i k ≤ 2147483647 := by
  unfold lnC
  rw [if_pos rfl]
  split <;> decide
theorem lnq {c b n m : Nat} (h : ∀ j, j < n → lnR c (b + j) = m) (hc : ¬ c = 0) {i z : Int} (z0 : 0 ≤ z) (z1 : z < n) : lnC c i (b + z.toNat) = m := by
  unfold lnC
  rw [if_neg hc]
  exact h _ (by omega)
theorem lnq_le {c b n m : Nat} (h : ∀ j, j < n → lnR c (b + j) = m) (hc : ¬ c = 0) (hm : m ≤ 2147483647) {i z : Int} (z0 : 0 ≤ z) (z1 : z < n) : lnC c i (b + z.toNat) ≤ 2147483647 := by
  rw [lnq h hc z0 z1]; exact hm
theorem lnq_lt {c b n m : Nat} (h : ∀ j, j < n → lnR c (b + j) = m) (hc : ¬ c = 0) {i z x : Int} (z0 : 0 ≤ z) (z1 : z < n) (hx : x < m) : x < lnC c i (b + z.toNat) := by
  rw [lnq h hc z0 z1]; exact hx
theorem zkq {c b n t : Nat} (h : ∀ j, j < n → zk c (b + j) = (3, t)) {z : Int} (z0 : 0 ≤ z) (z1 : z < n) : zk c (b + z.toNat) = (3, t) := h _ (by omega)
section ZC
variable {p : Program} {l : Launch} {e : Env} {R : Room} {s : State} {m : MethodId} {args : Array Value} {below : List Frame} {meth : Method} {c : Code} {H : Heap} {locs : List Loc} {cells slots : Nat} {Q : State → Prop}
variable {cc : ByteArray} {pc : Nat} {ls : Array Slot} {rest : List Value} {D : va_G} {A : Nat → Prop} {tys : List (ClassId × FieldType)} {H0 : Heap} {a : Nat}
variable {L : List Nat} {f : Nat → va_E} {ca : Nat → ClassId} {ad : Nat → Int → Nat → Nat} {ln : Nat → Int → Nat → Nat} {N : Nat → Int} {F : Nat → Int → Nat → Int} {B : Nat → Int → Nat → Int → Int} {ci k : Nat} {i : Int}
theorem zaldQ {t : Nat} {ty : FieldType} (hx : p.tables.exec = Jvm.exec) (hb : c.code = cc) (hK : va_K D cls tys s) (ht : tys[t + 8]? = some (ca (t + 8), .array ty)) (hZ : zH D ca ad ln N L F B A H) (h0 : 0 ≤ i) (h1 : i < N ci) (hk : zk ci k = (4, t)) (hl : zrn ci k ≤ 2147483647) {z : Int} (z0 : 0 ≤ z) (z1 : z < zrn ci k) (hdg : decode cc pc = .ok (.aaload, 1))
    (kk : W p l e R s m args below meth c H locs cells slots Q (F0 m (pc + 1) ls (.ref (ad ci i (200 + 20 * k + z.toNat + 1)) :: rest))) : W p l e R s m args below meth c H locs cells slots Q (F0 m pc ls (.int (iI z) :: .ref (ad ci i (k + 1)) :: rest)) := by
  obtain ⟨hj, f, hM, hR⟩ := hZ
  obtain ⟨a1, a2⟩ := (hR ci i h0 h1).2.2.1 k t hk
  obtain ⟨q0, hq⟩ := va_pl_get (X := []) (f := f) a1
  rw [a2] at hq
  have hin : vp_in (iI z) (zrn ci k) := iI_in z0 z1 hl
  have hlt : (iI z).toNatClampNeg < zrn ci k := Nat.not_le.mp fun q => hin (Or.inr q)
  exact W.aald (v := .ref (ad ci i (200 + 20 * k + z.toNat + 1))) (ty := .array ty) hx hb (hM.1 q0 _ hq) ((hK.2 (t + 8) _ ht).1 (zrn ci k) (fun j => va_rf (some (ad ci i (200 + 20 * k + j + 1))))) rfl (fun q => by cases q) (by show ¬ (iI z < 0 ∨ (arrV _ _ _).slots.size ≤ _); rw [arrV_size]; exact hin) (by show (arrV _ _ _).slots[_]? = _; rw [arrV_read _ _ hlt, iI_cl z0 (by omega)]; rfl) rfl rfl hdg kk
theorem zlen {t x : Nat} {ty : FieldType} (hx : p.tables.exec = Jvm.exec) (hb : c.code = cc) (hK : va_K D cls tys s) (ht : tys[x]? = some (ca x, ty)) (hr : ∀ n h, ∃ y, zRw ca ad n t h = .inl (ca x, n, y)) (hZ : zH D ca ad ln N L F B A H) (h0 : 0 ≤ i) (h1 : i < N ci) (hk : zk ci k = (3, t)) (hdg : decode cc pc = .ok (.arraylength, 1))
    (kk : W p l e R s m args below meth c H locs cells slots Q (F0 m (pc + 1) ls (.int (iI (ln ci i k)) :: rest))) : W p l e R s m args below meth c H locs cells slots Q (F0 m pc ls (.ref (ad ci i (k + 1)) :: rest)) := by
  obtain ⟨hj, f, hM, hR⟩ := hZ
  obtain ⟨a1, a2⟩ := (hR ci i h0 h1).2.1 k t hk
  obtain ⟨q0, hq⟩ := va_pl_get (X := []) (f := f) a1
  obtain ⟨y, hy⟩ := hr (ln ci i k) (B ci i k)
  rw [a2, hy] at hq
  exact va_alen hx hb hK hM.1 q0 x hq ht rfl hdg kk
theorem zlenQ {t : Nat} {ty : FieldType} (hx : p.tables.exec = Jvm.exec) (hb : c.code = cc) (hK : va_K D cls tys s) (ht : tys[t + 8]? = some (ca (t + 8), .array ty)) (hZ : zH D ca ad ln N L F B A H) (h0 : 0 ≤ i) (h1 : i < N ci) (hk : zk ci k = (4, t)) (hdg : decode cc pc = .ok (.arraylength, 1))
    (kk : W p l e R s m args below meth c H locs cells slots Q (F0 m (pc + 1) ls (.int (iI (zrn ci k)) :: rest))) : W p l e R s m args below meth c H locs cells slots Q (F0 m pc ls (.ref (ad ci i (k + 1)) :: rest)) := by
  obtain ⟨hj, f, hM, hR⟩ := hZ
  obtain ⟨a1, a2⟩ := (hR ci i h0 h1).2.2.1 k t hk
  obtain ⟨q0, hq⟩ := va_pl_get (X := []) (f := f) a1
  rw [a2] at hq
  exact va_alen hx hb hK hM.1 q0 (t + 8) hq ht rfl hdg kk
theorem zl2iw {a : Int} (hx : p.tables.exec = Jvm.exec) (hb : c.code = cc) (hdg : decode cc pc = .ok (.l2i, 1)) (k : W p l e R s m args below meth c H locs cells slots Q (F0 m (pc + 1) ls (.int (iI a) :: rest))) : W p l e R s m args below meth c H locs cells slots Q (F0 m pc ls (.long (lI a) :: rest)) :=
  lv_l2i hx hb hdg (Int32.toInt_inj.mp (by unfold lI iI; rw [Int64.toInt_toInt32, Int64.toInt_ofInt, Int32.toInt_ofInt]; exact Int.bmod_bmod_of_dvd (by decide))) k
end ZC
end

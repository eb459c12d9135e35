def zk0 : List (Nat × Nat) := [(3, 0), (0, 0), (0, 1)]
def zk1 : List (Nat × Nat) := [(1, 0), (1, 0), (0, 0), (0, 0), (0, 0), (0, 0), (0, 0), (0, 0), (0, 0), (0, 0), (0, 0), (0, 1), (3, 0), (3, 0)]
def zk2 : List (Nat × Nat) := [(0, 0), (3, 1), (3, 0), (3, 0), (0, 0), (3, 0), (3, 0), (3, 0), (3, 0), (3, 1), (3, 1), (3, 0), (3, 0)]
def zk3 : List (Nat × Nat) := [(3, 0), (3, 0), (3, 0), (3, 0), (3, 0), (3, 0), (3, 0), (3, 0), (3, 0), (3, 0), (3, 0), (2, 10), (3, 1), (3, 0), (0, 0), (0, 0), (0, 0), (0, 0), (0, 0), (0, 0), (0, 0), (0, 0)]
def zk4 : List (Nat × Nat) := [(1, 0), (0, 0), (0, 0), (0, 0), (0, 0), (3, 11), (0, 0), (1, 0), (4, 0), (3, 1), (0, 0), (0, 1), (3, 0)]
def zk5 : List (Nat × Nat) := [(0, 0), (0, 1), (0, 0), (0, 0), (3, 0), (3, 0), (3, 0), (4, 0), (5, 0), (5, 0), (3, 1), (0, 0), (0, 0), (0, 0)]
def zk6 : List (Nat × Nat) := [(3, 14), (0, 0), (0, 0), (0, 0), (0, 0), (0, 0), (0, 0), (0, 0), (2, 2), (2, 5), (0, 1), (0, 1), (2, 9), (0, 1)]
def zk7 : List (Nat × Nat) := [(2, 8), (2, 0), (0, 0), (0, 0), (2, 1), (1, 0), (1, 0), (0, 0), (3, 3)]
def zk8 : List (Nat × Nat) := [(3, 0), (4, 1), (0, 0), (3, 0), (2, 0), (0, 0), (0, 0), (0, 0), (0, 0), (0, 0), (1, 0), (0, 1), (0, 1), (0, 1), (0, 1)]
def zk9 : List (Nat × Nat) := [(0, 0), (3, 1), (0, 0), (4, 0), (4, 0), (3, 0), (3, 0), (3, 0), (3, 0), (3, 3), (3, 0)]
def zk10 : List (Nat × Nat) := [(0, 0), (0, 0), (1, 0), (0, 0), (0, 0), (3, 0), (3, 0), (3, 1), (0, 0)]
def zk11 : List (Nat × Nat) := [(2, 3), (2, 4), (0, 0), (0, 0), (0, 0), (0, 0), (0, 0), (0, 0), (0, 0), (0, 0), (0, 0), (1, 0), (1, 0), (1, 0), (3, 0), (3, 0), (3, 0), (3, 0), (0, 0)]
def zk12 : List (Nat × Nat) := [(2, 0), (3, 0), (2, 0), (3, 16), (2, 3), (2, 11), (2, 7), (2, 6), (2, 8), (2, 8)]
def zk13 : List (Nat × Nat) := [(0, 1), (0, 0), (0, 0), (0, 1), (0, 0), (0, 0), (0, 0), (0, 0), (3, 0), (3, 0), (3, 1), (3, 0), (3, 0), (3, 0), (3, 1), (3, 1), (3, 1), (3, 1), (3, 0), (3, 0), (3, 0), (3, 0), (3, 0), (3, 0), (3, 0), (3, 0), (3, 0), (3, 3), (3, 0), (3, 0), (3, 0), (3, 0), (3, 1), (3, 1), (3, 0), (3, 0), (3, 0), (3, 0), (3, 0), (3, 0), (3, 0), (3, 0), (3, 0), (3, 1), (3, 1), (3, 0), (3, 0), (0, 0), (0, 0), (3, 0), (3, 0), (3, 0), (3, 1), (0, 1), (0, 0), (3, 0), (3, 0), (3, 0), (3, 0), (3, 0), (0, 0), (3, 0), (3, 0), (3, 0), (3, 0), (0, 0), (0, 0), (0, 0), (0, 0), (0, 0), (3, 0), (3, 0), (0, 0), (3, 1), (3, 1), (3, 0), (0, 0), (3, 0), (3, 0), (3, 0), (3, 0)]
def zk14 : List (Nat × Nat) := [(1, 0), (1, 0), (3, 2), (0, 0), (3, 2), (3, 23), (2, 13), (3, 0), (3, 0), (3, 0), (3, 0), (3, 1), (0, 0), (3, 1), (3, 1), (3, 1), (0, 0), (0, 0), (0, 0), (0, 0), (0, 0), (0, 0), (0, 1), (0, 1), (0, 1), (3, 1), (3, 0), (0, 0), (3, 0), (3, 0), (3, 0), (3, 0), (3, 0), (3, 0), (3, 0), (0, 0), (0, 0), (0, 0), (1, 0), (1, 0), (0, 0), (0, 0), (3, 3), (3, 0), (3, 0), (0, 0), (3, 0), (3, 0), (0, 0), (0, 0), (0, 0), (3, 0), (1, 0), (1, 0), (1, 0), (1, 0), (0, 0), (0, 0), (3, 0), (3, 1), (3, 0), (3, 0), (0, 0), (3, 0), (3, 0), (3, 0), (3, 0), (3, 0), (3, 0), (3, 0), (3, 2), (0, 0), (0, 1), (3, 0), (3, 0), (3, 0), (3, 0), (3, 0), (3, 0), (3, 1), (3, 1), (3, 0), (3, 0), (3, 0), (3, 0), (3, 0), (3, 1), (3, 1), (3, 0), (0, 0), (1, 0), (0, 1), (0, 1), (0, 1), (0, 0), (3, 0), (3, 0), (3, 0), (3, 0), (3, 0), (0, 0), (0, 0), (0, 0), (0, 0), (0, 0), (0, 0), (3, 0)]
def zkL : List (List (Nat × Nat)) := [zk0, zk1, zk2, zk3, zk4, zk5, zk6, zk7, zk8, zk9, zk10, zk11, zk12, zk13, zk14]
/-- how many rows the row of rows in field k has -/
def zrn (c k : Nat) : Nat := if c = 4 ∧ k = 8 then 12 else if c = 5 ∧ k = 7 then 6 else if c = 8 ∧ k = 1 then 6 else if c = 9 ∧ k = 3 then 4 else if c = 9 ∧ k = 4 then 4 else 0
/-- rows behind 180: the two rows that a performance swaps; from 200 on: row j of field k is 200 + 20 * k + j -/
def zk (c k : Nat) : Nat × Nat := if k < 180 then (zkL.getD c []).getD k (9, 0) else if k < 200 then (if c = 5 ∧ k < 182 then (3, 1) else (9, 0)) else if (k - 200) % 20 < zrn c ((k - 200) / 20) then (3, if c = 8 then 1 else 0) else (9, 0)
def zN (c : Nat) : Nat := ([3, 14, 13, 22, 13, 14, 14, 9, 15, 11, 9, 19, 10, 81, 107] : List Nat).getD c 0
/-! ===== worlds by class, object and field: F the fields (a reference is its object's number, below 0 none), B the rows ===== -/
def zup3 (F : Nat → Int → Nat → Int) (c : Nat) (i : Int) (k : Nat) (v : Int) : Nat → Int → Nat → Int := fun c' i' k' => if c' = c ∧ i' = i ∧ k' = k then v else F c' i' k'
def zup4 (B : Nat → Int → Nat → Int → Int) (c : Nat) (i : Int) (k : Nat) (j v : Int) : Nat → Int → Nat → Int → Int := fun c' i' k' => if c' = c ∧ i' = i ∧ k' = k then zup (B c i k) j v else B c' i' k'
def zrf (ad : Nat → Int → Nat → Nat) (t : Nat) (x : Int) : Option Nat := if x < 0 then none else some (ad t x 0)
def zfv (ad : Nat → Int → Nat → Nat) (F : Nat → Int → Nat → Int) (c : Nat) (i : Int) (k : Nat) : Value := match zk c k with
  | (0, _) => .int (iI (F c i k))
  | (1, _) => .long (lI (F c i k))
  | (2, t) => va_rf (zrf ad t (F c i k))
  | (5, _) => .ref (ad c i ((F c i k).toNat + 1))
  | _ => .ref (ad c i (k + 1))
def zct (t : Nat) : Nat := if t = 23 then 5 else if t = 16 then 4 else if t = 14 then 6 else if t = 11 then 7 else t
def zRw (ca : Nat → ClassId) (ad : Nat → Int → Nat → Nat) (n t : Nat) (h : Int → Int) : va_E := match t with
  | 0 => .inl (ca 0, n, .inl (zAr h))
  | 1 => .inl (ca 1, n, .inr (.inl (zLr h)))
  | 2 => .inl (ca 2, n, .inl (zAr h))
  | 3 => .inl (ca 3, n, .inl (zAr h))
  | t => .inl (ca (zct t), n, .inr (.inr (.inr (.inr (fun j => zrf ad (t - 10) (h (j : Int)))))))
def zRR (ca : Nat → ClassId) (ad : Nat → Int → Nat → Nat) (c : Nat) (i : Int) (k t : Nat) : va_E := .inl (ca (t + 8), zrn c k, .inr (.inr (.inr (.inr (fun j => some (ad c i (200 + 20 * k + j + 1)))))))
def zRep (ca : Nat → ClassId) (ad : Nat → Int → Nat → Nat) (ln : Nat → Int → Nat → Nat) (N : Nat → Int) (L : List Nat) (F : Nat → Int → Nat → Int) (B : Nat → Int → Nat → Int → Int) (f : Nat → va_E) : Prop :=
  ∀ (c : Nat) (i : Int), 0 ≤ i → i < N c → (ad c i 0 ∈ L ∧ f (ad c i 0) = .inr (c, rg (zN c) (zfv ad F c i))) ∧ (∀ k t : Nat, zk c k = (3, t) → ad c i (k + 1) ∈ L ∧ f (ad c i (k + 1)) = zRw ca ad (ln c i k) t (B c i k)) ∧ (∀ k t : Nat, zk c k = (4, t) → ad c i (k + 1) ∈ L ∧ f (ad c i (k + 1)) = zRR ca ad c i k t) ∧
    (∀ k t : Nat, zk c k = (2, t) → F c i k < N t) ∧ ∀ k t : Nat, zk c k = (3, t) → 4 ≤ t → ∀ j : Nat, B c i k j < N (t - 10)
def zOk (c k : Nat) : Prop := k = 0 ∨ ∃ t, zk c (k - 1) = (3, t) ∨ zk c (k - 1) = (4, t)
def zInj (ad : Nat → Int → Nat → Nat) (N : Nat → Int) : Prop := ∀ (c : Nat) (i : Int) (k c' : Nat) (i' : Int) (k' : Nat), 0 ≤ i → i < N c → 0 ≤ i' → i' < N c' → zOk c k → zOk c' k' → ad c i k = ad c' i' k' → c = c' ∧ i = i' ∧ k = k'
def zH (D : va_G) (ca : Nat → ClassId) (ad : Nat → Int → Nat → Nat) (ln : Nat → Int → Nat → Nat) (N : Nat → Int) (L : List Nat) (F : Nat → Int → Nat → Int) (B : Nat → Int → Nat → Int → Int) (A : Nat → Prop) (H : Heap) : Prop :=
  zInj ad N ∧ ∃ f, mH D A L f H ∧ zRep ca ad ln N L F B f
theorem zfv_up {ad : Nat → Int → Nat → Nat} {F : Nat → Int → Nat → Int} {c k : Nat} {i v : Int} {w : Value} (hw : ∀ G : Nat → Int → Nat → Int, G c i k = v → zfv ad G c i k = w) : zfv ad (zup3 F c i k v) c i = va_up (zfv ad F c i) k w := by
  funext j
  unfold va_up
  by_cases e : j = k
  · subst e
    rw [if_pos rfl]
    exact hw _ (by simp [zup3])
  · rw [if_neg e]
    have h : zup3 F c i k v c i j = F c i j := by simp [zup3, e]
    unfold zfv
    rw [h]
theorem zfv_ne {ad : Nat → Int → Nat → Nat} {F : Nat → Int → Nat → Int} {c k : Nat} {i v : Int} {c' : Nat} {i' : Int} (h : ¬ (c' = c ∧ i' = i)) : zfv ad (zup3 F c i k v) c' i' = zfv ad F c' i' := by
  funext j
  have h2 : zup3 F c i k v c' i' j = F c' i' j := by
    unfold zup3
    rw [if_neg]
    exact fun q => h ⟨q.1, q.2.1⟩
  unfold zfv
  rw [h2]
theorem zRep.put {ca : Nat → ClassId} {ad : Nat → Int → Nat → Nat} {ln : Nat → Int → Nat → Nat} {N : Nat → Int} {L : List Nat} {F : Nat → Int → Nat → Int} {B : Nat → Int → Nat → Int → Int} {f : Nat → va_E} {c k : Nat} {i v : Int} {w : Value} (hj : zInj ad N) (hR : zRep ca ad ln N L F B f) (h0 : 0 ≤ i) (h1 : i < N c) (hw : ∀ G : Nat → Int → Nat → Int, G c i k = v → zfv ad G c i k = w) (hv : ∀ t, zk c k = (2, t) → v < N t) :
    zRep ca ad ln N L (zup3 F c i k v) B (va_up f (ad c i 0) (.inr (c, rg (zN c) (va_up (zfv ad F c i) k w)))) := by
  intro c' i' g0 g1
  obtain ⟨⟨a1, a2⟩, a3⟩ := hR c' i' g0 g1
  refine ⟨⟨a1, ?_⟩, fun k' t hk => ⟨(a3.1 k' t hk).1, ?_⟩, fun k' t hk => ⟨(a3.2.1 k' t hk).1, ?_⟩, fun k' t hk => ?_, a3.2.2.2⟩
  · by_cases e : c' = c ∧ i' = i
    · obtain ⟨rfl, rfl⟩ := e
      rw [va_up_self, zfv_up hw]
    · rw [va_up_ne _ _ (fun q => e (by obtain ⟨x, y, -⟩ := hj _ _ _ _ _ _ g0 g1 h0 h1 (Or.inl rfl) (Or.inl rfl) q; exact ⟨x, y⟩)), a2, zfv_ne e]
  · rw [va_up_ne _ _ (fun q => by obtain ⟨-, -, z⟩ := hj _ _ _ _ _ _ g0 g1 h0 h1 (Or.inr ⟨t, Or.inl (by simpa using hk)⟩) (Or.inl rfl) q; exact absurd z (by omega))]
    exact (a3.1 k' t hk).2
  · rw [va_up_ne _ _ (fun q => by obtain ⟨-, -, z⟩ := hj _ _ _ _ _ _ g0 g1 h0 h1 (Or.inr ⟨t, Or.inr (by simpa using hk)⟩) (Or.inl rfl) q; exact absurd z (by omega))]
    exact (a3.2.1 k' t hk).2
  · unfold zup3
    by_cases e : c' = c ∧ i' = i ∧ k' = k
    · rw [if_pos e]
      obtain ⟨rfl, rfl, rfl⟩ := e
      exact hv t hk
    · rw [if_neg e]
      exact a3.2.2.1 k' t hk
theorem zup4_ne {B : Nat → Int → Nat → Int → Int} {c k : Nat} {i j v : Int} {c' k' : Nat} {i' : Int} (h : ¬ (c' = c ∧ i' = i ∧ k' = k)) : zup4 B c i k j v c' i' k' = B c' i' k' := by
  unfold zup4
  rw [if_neg h]
theorem zup4_self {B : Nat → Int → Nat → Int → Int} {c k : Nat} {i j v : Int} : zup4 B c i k j v c i k = zup (B c i k) j v := by
  unfold zup4
  rw [if_pos ⟨rfl, rfl, rfl⟩]
theorem zRep.st {ca : Nat → ClassId} {ad : Nat → Int → Nat → Nat} {ln : Nat → Int → Nat → Nat} {N : Nat → Int} {L : List Nat} {F : Nat → Int → Nat → Int} {B : Nat → Int → Nat → Int → Int} {f : Nat → va_E} {c k t : Nat} {i j v : Int} (hj : zInj ad N) (hR : zRep ca ad ln N L F B f) (h0 : 0 ≤ i) (h1 : i < N c) (hk : zk c k = (3, t)) (hv : 4 ≤ t → v < N (t - 10)) :
    zRep ca ad ln N L F (zup4 B c i k j v) (va_up f (ad c i (k + 1)) (zRw ca ad (ln c i k) t (zup (B c i k) j v))) := by
  intro c' i' g0 g1
  obtain ⟨⟨a1, a2⟩, a3⟩ := hR c' i' g0 g1
  refine ⟨⟨a1, ?_⟩, fun k' t' hk' => ⟨(a3.1 k' t' hk').1, ?_⟩, fun k' t' hk' => ⟨(a3.2.1 k' t' hk').1, ?_⟩, a3.2.2.1, fun k' t' hk' ht q => ?_⟩
  · rw [va_up_ne _ _ (fun q => by obtain ⟨-, -, z⟩ := hj _ _ _ _ _ _ g0 g1 h0 h1 (Or.inl rfl) (Or.inr ⟨t, Or.inl (by simpa using hk)⟩) q; exact absurd z (by omega))]
    exact a2
  · by_cases e : c' = c ∧ i' = i ∧ k' = k
    · obtain ⟨rfl, rfl, rfl⟩ := e
      rw [va_up_self, zup4_self]
      rw [hk] at hk'
      cases hk'
      rfl
    · rw [va_up_ne _ _ (fun q => e (by obtain ⟨x, y, z⟩ := hj _ _ _ _ _ _ g0 g1 h0 h1 (Or.inr ⟨t', Or.inl (by simpa using hk')⟩) (Or.inr ⟨t, Or.inl (by simpa using hk)⟩) q; exact ⟨x, y, by omega⟩)), (a3.1 k' t' hk').2, zup4_ne e]
  · rw [va_up_ne _ _ (fun q => by
      obtain ⟨x, y, z⟩ := hj _ _ _ _ _ _ g0 g1 h0 h1 (Or.inr ⟨t', Or.inr (by simpa using hk')⟩) (Or.inr ⟨t, Or.inl (by simpa using hk)⟩) q
      obtain rfl : k' = k := by omega
      subst x
      rw [hk] at hk'
      exact absurd (congrArg Prod.fst hk') (show ¬ (3 : Nat) = 4 by decide))]
    exact (a3.2.1 k' t' hk').2
  · by_cases e : c' = c ∧ i' = i ∧ k' = k
    · obtain ⟨rfl, rfl, rfl⟩ := e
      rw [zup4_self]
      rw [hk] at hk'
      cases hk'
      unfold zup
      by_cases e2 : (q : Int) = j
      · rw [if_pos e2]; exact hv ht
      · rw [if_neg e2]; exact a3.2.2.2 _ _ hk ht q
    · rw [zup4_ne e]
      exact a3.2.2.2 k' t' hk' ht q
theorem zno {c k : Nat} {p : Nat → Prop} (h : ¬ (zk c k).1 = 2) (t : Nat) (e : zk c k = (2, t)) : p t := absurd (congrArg Prod.fst e) h
theorem zyes {c k t0 : Nat} {p : Nat → Prop} (h : zk c k = (2, t0)) (hp : p t0) (t : Nat) (e : zk c k = (2, t)) : p t := by
  rw [h] at e
  cases e
  exact hp
section ZR
variable {p : Program} {l : Launch} {e : Env} {R : Room} {s : State} {m : MethodId} {args : Array Value} {below : List Frame} {meth : Method} {c : Code} {H : Heap} {locs : List Loc} {cells slots : Nat} {Q : State → Prop}
variable {cc : ByteArray} {pc : Nat} {ls : Array Slot} {rest : List Value} {D : va_G} {A : Nat → Prop} {tys : List (ClassId × FieldType)} {H0 : Heap}
variable {own C : String} {T : u_T} {index : Nat} {L : List Nat} {ca : Nat → ClassId} {ad : Nat → Int → Nat → Nat} {ln : Nat → Int → Nat → Nat} {N : Nat → Int} {F : Nat → Int → Nat → Int} {B : Nat → Int → Nat → Int → Int} {ci k : Nat} {i : Int}
theorem zget (hx : p.tables.exec = Jvm.exec) (hb : c.code = cc) (hts : ∀ w ∈ wAll, w.before args s = true) (hin : ∀ w ∈ u_ws C T (zN ci), w ∈ wAll) (hown : s.vm.findClass own = some m.cls) (hK : va_K D cls tys s) (hZ : zH D ca ad ln N L F B A H) (h0 : 0 ≤ i) (h1 : i < N ci) (hc : cls[ci]? = some (C, T, zN ci)) (hk : k < zN ci)
    (hlink : Cond.fieldLink own index (T k).1 (T k).2.1 (T k).2.2.1 ∈ wAll) {v : Value} (hv : zfv ad F ci i k = v) (hdg : decode cc pc = .ok (.getfield index, 3)) (kk : W p l e R s m args below meth c H locs cells slots Q (F0 m (pc + 3) ls (v :: rest))) : W p l e R s m args below meth c H locs cells slots Q (F0 m pc ls (.ref (ad ci i 0) :: rest)) := by
  obtain ⟨hj, f, hM, hR⟩ := hZ
  obtain ⟨⟨a1, a2⟩, -⟩ := hR ci i h0 h1
  exact mget hx hb hts hin hown hK hM a1 a2 hc hk hlink hdg (by rw [hv]; exact kk)
theorem zput (hx : p.tables.exec = Jvm.exec) (hb : c.code = cc) (hts : ∀ w ∈ wAll, w.before args s = true) (hin : ∀ w ∈ u_ws C T (zN ci), w ∈ wAll) (ty0 : Nat → FieldType) (hty : ∀ k, k < zN ci → parseFieldDescriptor (T k).2.2.1 = some (ty0 k)) (hnm : ∀ a, a < zN ci → ∀ b, b < zN ci → a ≠ b → (T a).2.1 ≠ (T b).2.1) (hown : s.vm.findClass own = some m.cls) (hK : va_K D cls tys s) (hZ : zH D ca ad ln N L F B A H) (hS : va_S A H0 H locs) (h0 : 0 ≤ i) (h1 : i < N ci) (hc : cls[ci]? = some (C, T, zN ci)) (hk : k < zN ci)
    (hlink : Cond.fieldLink own index (T k).1 (T k).2.1 (T k).2.2.1 ∈ wAll) (hfin : (T k).2.2.2 = false) {v : Int} {w : Value} (hw : ∀ G : Nat → Int → Nat → Int, G ci i k = v → zfv ad G ci i k = w) (hn : narrow (ty0 k) w = w) (hfit : fits (ty0 k) w = true) (hv : ∀ t, zk ci k = (2, t) → v < N t) (hdg : decode cc pc = .ok (.putfield index, 3))
    (kk : ∀ (H1 : Heap) (locs1 : List Loc), zH D ca ad ln N L (zup3 F ci i k v) B A H1 → va_S A H0 H1 locs1 → W p l e R s m args below meth c H1 locs1 cells slots Q (F0 m (pc + 3) ls rest)) : W p l e R s m args below meth c H locs cells slots Q (F0 m pc ls (w :: .ref (ad ci i 0) :: rest)) := by
  obtain ⟨hj, f, hM, hR⟩ := hZ
  obtain ⟨⟨a1, a2⟩, -⟩ := hR ci i h0 h1
  exact mput hx hb hts hin ty0 hty hnm hown hK hM hS a1 a2 hc hk hlink hfin hn hfit hdg (fun H1 locs1 hM1 hS1 => kk H1 locs1 ⟨hj, _, hM1, hR.put hj h0 h1 hw hv⟩ hS1)
theorem zald (hx : p.tables.exec = Jvm.exec) (hb : c.code = cc) (hK : va_K D cls tys s) (ht : tys[0]? = some (ca 0, .int)) (hZ : zH D ca ad ln N L F B A H) (h0 : 0 ≤ i) (h1 : i < N ci) (hk : zk ci k = (3, 0)) (hl : ln ci i k ≤ 2147483647) {z : Int} (z0 : 0 ≤ z) (z1 : z < ln ci i k) (hdg : decode cc pc = .ok (.iaload, 1))
    (kk : W p l e R s m args below meth c H locs cells slots Q (F0 m (pc + 1) ls (.int (iI (B ci i k z)) :: rest))) : W p l e R s m args below meth c H locs cells slots Q (F0 m pc ls (.int (iI z) :: .ref (ad ci i (k + 1)) :: rest)) := by
  obtain ⟨hj, f, hM, hR⟩ := hZ
  obtain ⟨a1, a2⟩ := (hR ci i h0 h1).2.1 k 0 hk
  exact mald hx hb hK hM a1 a2 0 ht z0 z1 hl hdg kk
theorem zast (hx : p.tables.exec = Jvm.exec) (hb : c.code = cc) (hK : va_K D cls tys s) (ht : tys[0]? = some (ca 0, .int)) (hZ : zH D ca ad ln N L F B A H) (hS : va_S A H0 H locs) (h0 : 0 ≤ i) (h1 : i < N ci) (hk : zk ci k = (3, 0)) (hl : ln ci i k ≤ 2147483647) {z v : Int} (z0 : 0 ≤ z) (z1 : z < ln ci i k) (hdg : decode cc pc = .ok (.iastore, 1))
    (kk : ∀ (H1 : Heap) (locs1 : List Loc), zH D ca ad ln N L F (zup4 B ci i k z v) A H1 → va_S A H0 H1 locs1 → W p l e R s m args below meth c H1 locs1 cells slots Q (F0 m (pc + 1) ls rest)) : W p l e R s m args below meth c H locs cells slots Q (F0 m pc ls (.int (iI v) :: .int (iI z) :: .ref (ad ci i (k + 1)) :: rest)) := by
  obtain ⟨hj, f, hM, hR⟩ := hZ
  obtain ⟨a1, a2⟩ := (hR ci i h0 h1).2.1 k 0 hk
  exact mast hx hb hK hM hS a1 a2 0 ht z0 z1 hl hdg (fun H1 locs1 hM1 hS1 => kk H1 locs1 ⟨hj, _, hM1, hR.st hj h0 h1 hk (fun h => absurd h (by decide))⟩ hS1)
theorem zlald (hx : p.tables.exec = Jvm.exec) (hb : c.code = cc) (hK : va_K D cls tys s) (ht : tys[1]? = some (ca 1, .long)) (hZ : zH D ca ad ln N L F B A H) (h0 : 0 ≤ i) (h1 : i < N ci) (hk : zk ci k = (3, 1)) (hl : ln ci i k ≤ 2147483647) {z : Int} (z0 : 0 ≤ z) (z1 : z < ln ci i k) (hdg : decode cc pc = .ok (.laload, 1))
    (kk : W p l e R s m args below meth c H locs cells slots Q (F0 m (pc + 1) ls (.long (lI (B ci i k z)) :: rest))) : W p l e R s m args below meth c H locs cells slots Q (F0 m pc ls (.int (iI z) :: .ref (ad ci i (k + 1)) :: rest)) := by
  obtain ⟨hj, f, hM, hR⟩ := hZ
  obtain ⟨a1, a2⟩ := (hR ci i h0 h1).2.1 k 1 hk
  exact mlald hx hb hK hM a1 a2 1 ht z0 z1 hl hdg kk
theorem zlast (hx : p.tables.exec = Jvm.exec) (hb : c.code = cc) (hK : va_K D cls tys s) (ht : tys[1]? = some (ca 1, .long)) (hZ : zH D ca ad ln N L F B A H) (hS : va_S A H0 H locs) (h0 : 0 ≤ i) (h1 : i < N ci) (hk : zk ci k = (3, 1)) (hl : ln ci i k ≤ 2147483647) {z v : Int} (z0 : 0 ≤ z) (z1 : z < ln ci i k) (hdg : decode cc pc = .ok (.lastore, 1))
    (kk : ∀ (H1 : Heap) (locs1 : List Loc), zH D ca ad ln N L F (zup4 B ci i k z v) A H1 → va_S A H0 H1 locs1 → W p l e R s m args below meth c H1 locs1 cells slots Q (F0 m (pc + 1) ls rest)) : W p l e R s m args below meth c H locs cells slots Q (F0 m pc ls (.long (lI v) :: .int (iI z) :: .ref (ad ci i (k + 1)) :: rest)) := by
  obtain ⟨hj, f, hM, hR⟩ := hZ
  obtain ⟨a1, a2⟩ := (hR ci i h0 h1).2.1 k 1 hk
  exact mlast hx hb hK hM hS a1 a2 1 ht z0 z1 hl hdg (fun H1 locs1 hM1 hS1 => kk H1 locs1 ⟨hj, _, hM1, hR.st hj h0 h1 hk (fun h => absurd h (by decide))⟩ hS1)
end ZR

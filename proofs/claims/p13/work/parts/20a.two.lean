/-! ===== two worlds side by side ===== -/
section ZB
variable {D : va_G} {ca : Nat → ClassId} {ad ad' ad2 : Nat → Int → Nat → Nat} {ln ln2 : Nat → Int → Nat → Nat} {N N' N2 : Nat → Int} {L L' L2 : List Nat} {F F2 : zF} {B B2 : zB} {A A1 : Nat → Prop} {H H1 : Heap}
theorem zH.lt (h : zH D ca ad ln N L F B A H) : ∀ q ∈ L, q < H.size := by
  obtain ⟨hj, f, hM, hR⟩ := h
  intro q hq
  exact (vaP_mem.mp hM.1 (q, f q) (vapl_mem.mpr ⟨hq, rfl⟩)).lt
theorem zH.beside (hZ2 : zH D ca ad2 ln2 N2 L2 F2 B2 A H) (hd : ∀ q ∈ L2, q ∉ L) (hk : ∀ q : Nat, q < H.size → ¬ zA L H.size q → H1[q]? = H[q]?) : zH D ca ad2 ln2 N2 L2 F2 B2 A H1 := by
  have hlt := hZ2.lt
  obtain ⟨hj, f, hM, hR⟩ := hZ2
  refine ⟨hj, f, ⟨vaP_mem.mpr (fun x hx => ?_), hM.2⟩, hR⟩
  have h0 := vaP_mem.mp hM.1 x hx
  have hx2 := vapl_mem.mp hx
  have h1 := hlt x.1 hx2.1
  exact h0.kept (hk x.1 h1 (fun h => by
    rcases h with h | h
    · exact hd x.1 hx2.1 h
    · omega))
theorem zd_grow (hZ2 : zH D ca ad2 ln2 N2 L2 F2 B2 A H) (hd : ∀ q ∈ L2, q ∉ L) {t : State} (hB : zPo D ca ad' ln N' L' F B (zA L H.size) t) : ∀ q ∈ L2, q ∉ L' := fun q h1 h2 => by
  rcases hB.1.inA q h2 with h | h
  · exact hd q h1 h
  · have := hZ2.lt q h1
    omega
end ZB
def scz (xs : Nat → Int32) (j : Int) : Int := (xs j.toNat).toInt
section ZS
variable {p : Program} {l : Launch} {e : Env} {R : Room} {s : State} {m : MethodId} {args : Array Value} {below : List Frame} {meth : Method} {c : Code} {H H0 : Heap} {locs : List Loc} {cells slots : Nat} {Q : State → Prop} {cc : ByteArray} {pc : Nat} {ls : Array Slot} {rest : List Value} {A : Nat → Prop}
theorem zsld (hx : p.tables.exec = Jvm.exec) (hb : c.code = cc) {b L : Nat} {xs : Nat → Int32} (hX : va_X b L xs s H0) (hbl : b < H0.size) (hbA : ¬ A b) (hS : va_S A H0 H locs) {z : Int} (z0 : 0 ≤ z) (z1 : z < L) (hL : L ≤ 2147483647) (hdg : decode cc pc = .ok (.iaload, 1))
    (kk : W p l e R s m args below meth c H locs cells slots Q (F0 m (pc + 1) ls (.int (iI (scz xs z)) :: rest))) : W p l e R s m args below meth c H locs cells slots Q (F0 m pc ls (.int (iI z) :: .ref b :: rest)) := by
  refine va_sld hx hb hX hbl hbA hS (iI_in z0 z1 hL) hdg ?_
  rw [iI_cl z0 (by omega)]
  have e : iI (scz xs z) = xs z.toNat := by
    unfold iI scz
    exact Int32.ofInt_toInt _
  rw [e] at kk
  exact kk
theorem zeqE {a b off : Int} {tgt : Nat} (hx : p.tables.exec = Jvm.exec) (hb : c.code = cc) (h : a = b) (hdg : decode cc pc = .ok (.if_icmp .eq off, 3)) (ht : (pc : Int) + off = (tgt : Int)) (kt : W p l e R s m args below meth c H locs cells slots Q (F0 m tgt ls rest)) : W p l e R s m args below meth c H locs cells slots Q (F0 m pc ls (.int (iI b) :: .int (iI a) :: rest)) := by
  subst h
  exact lv_icmp_eq hx hb hdg ht (fun _ => kt) (fun q => absurd rfl q)
theorem lg_self (x : Int64) : lg_cmp x x = iI 0 := by
  unfold lg_cmp
  rw [if_neg (Int64.lt_irrefl), if_pos rfl]
  rfl
theorem zlcE {a b : Int} (hx : p.tables.exec = Jvm.exec) (hb : c.code = cc) (h : a = b) (hdg : decode cc pc = .ok (.lcmp, 1)) (k : W p l e R s m args below meth c H locs cells slots Q (F0 m (pc + 1) ls (.int (iI 0) :: rest))) : W p l e R s m args below meth c H locs cells slots Q (F0 m pc ls (.long (lI b) :: .long (lI a) :: rest)) := by
  subst h
  exact W.lcmp hx hb hdg (by rw [lg_self]; exact k)
end ZS
abbrev zL : Type := Option (zK × zF × zB × zF × zB)
def zbL (x : zO) (k : Int → zF → zB → zL) : zL := match x with
  | none => none
  | some q => k q.1 q.2.1 q.2.2
theorem gbL {x : zO} {k : Int → zF → zB → zL} {z : zK × zF × zB × zF × zB} (h : zbL x k = some z) : ∃ r F B, x = some (r, F, B) ∧ k r F B = some z := by
  cases x with
  | none => cases h
  | some q => exact ⟨q.1, q.2.1, q.2.2, rfl, h⟩
def zbM (x : zOm) (k : Int → zF → zB → zK → zL) : zL := match x with
  | none => none
  | some q => k q.1 q.2.1 q.2.2.1 q.2.2.2
theorem gbM {x : zOm} {k : Int → zF → zB → zK → zL} {z : zK × zF × zB × zF × zB} (h : zbM x k = some z) : ∃ r F B K, x = some (r, F, B, K) ∧ k r F B K = some z := by
  cases x with
  | none => cases h
  | some q => exact ⟨q.1, q.2.1, q.2.2.1, q.2.2.2, rfl, h⟩

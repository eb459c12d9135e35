/-! ===== texts ===== -/
def zsq (i : Nat) : String × Nat × String × Nat × List Int32 := strL.getD i ("", 0, "", 0, [])
def zsl (i : Nat) : Int := ((zsq i).2.2.2.1 : Int)
def zsb (i : Nat) (z : Int) : Int := ((zsq i).2.2.2.2.getD z.toNat 0).toInt
def zi2c (a : Int) : Int := ((iI a).toUInt32 % 65536).toInt32.toInt
theorem zsl_n (i : Nat) : Int32.ofNat (zsq i).2.2.2.1 = iI (zsl i) := rfl
theorem zsq_at {i : Nat} (h : i < strL.length) : strL[i]? = some (zsq i) := by
  unfold zsq
  rw [List.getD_eq_getElem?_getD, List.getElem?_eq_getElem h]
  rfl
theorem zsq_le : ∀ i, i < strL.length → (zsq i).2.2.2.1 ≤ 1000 := by decide +kernel
theorem zstr {aS vS : Nat → Nat} {A : Nat → Prop} {s : State} (hX : gX aS vS A s s.heap) {i : Nat} (h : i < strL.length) : va_OF "java/lang/String" "coder" "B" (.int 0) (aS i) A s s.heap ∧ va_OF "java/lang/String" "value" "[B" (.ref (vS i)) (aS i) A s s.heap ∧ va_T .byte (vS i) (zsq i).2.2.2.1 (fun j => .int ((zsq i).2.2.2.2.getD j 0)) A s s.heap ∧ vk_S 1 [(zsq i).2.2.2.1] [(zsq i).2.2.2.2] (fun _ => aS i) (fun _ => vS i) A s s.heap := by
  have q := (hX.2.2.2.2.1 i _ (zsq_at h)).2
  have r := q.1 0 (by decide)
  exact ⟨r.2.1, r.2.2.1, r.2.2.2, q⟩
theorem zsrecv {aS vS : Nat → Nat} {A : Nat → Prop} {s : State} (hX : gX aS vS A s s.heap) {i : Nat} (h : i < strL.length) {H : Heap} {locs : List Loc} (hS : va_S A s.heap H locs) : ∃ cell : Cell, H[aS i]? = some cell ∧ cell.vm.isStatics = false ∧ s.vm.findClass "java/lang/String" = some cell.cls :=
  vk_recv (i := 0) (zstr hX h).2.2.2 (by decide) hS
theorem zs_in {i : Nat} {z : Int} (h : i < strL.length) (hz : 0 ≤ z ∧ z < zsl i) : vp_in (iI z) (zsq i).2.2.2.1 := iI_in hz.1 hz.2 (Nat.le_trans (zsq_le i h) (by decide))
theorem zsb_v {i : Nat} {z : Int} (h : i < strL.length) (hz : 0 ≤ z ∧ z < zsl i) : (fun j => Value.int ((zsq i).2.2.2.2.getD j 0)) (iI z).toNatClampNeg = .int (iI (zsb i z)) := by
  have h2 := zsq_le i h
  have h3 : z < ((zsq i).2.2.2.1 : Int) := hz.2
  show Value.int ((zsq i).2.2.2.2.getD (iI z).toNatClampNeg 0) = _
  rw [iI_cl hz.1 (by omega)]
  unfold zsb
  rw [iI_of]
theorem zfmt {aS vS : Nat → Nat} {A : Nat → Prop} {s : State} (hX : gX aS vS A s s.heap) : ∃ o, va_Z "jdk/internal/util/Preconditions" "SIOOBE_FORMATTER" "Ljava/util/function/BiFunction;" (va_rf o) A s s.heap := by
  rcases hX.2.2.2.2.2.1.1 with h | ⟨t, h⟩
  · exact ⟨none, h⟩
  · exact ⟨some t, h⟩
theorem zchar {a : Int} (h : 0 ≤ a ∧ a < 65536) : narrow .char (.int (iI a)) = .int (iI a) := by
  obtain ⟨n, rfl⟩ : ∃ n : Nat, a = n := ⟨a.toNat, by omega⟩
  have e : UInt32.ofNat n % 65536 = UInt32.ofNat n := by
    apply UInt32.toNat_inj.mp
    rw [UInt32.toNat_mod, UInt32.toNat_ofNat']
    have e2 : (65536 : UInt32).toNat = 65536 := rfl
    rw [e2]
    omega
  exact congrArg (fun u : UInt32 => Value.int u.toInt32) e
theorem zbyte {a : Int} (h : -128 ≤ a ∧ a < 128) : narrow .byte (.int (iI a)) = .int (iI a) := by
  show Value.int ((iI a).toInt8.toInt32) = _
  refine congrArg Value.int (Int32.toInt_inj.mp ?_)
  rw [Int8.toInt_toInt32, Int32.toInt_toInt8, iI_to ⟨by omega, by omega⟩]
  rw [Int.bmod_eq_of_le] <;> omega
section ZI
variable {p : Program} {l : Launch} {e : Env} {R : Room} {s : State} {m : MethodId} {args : Array Value} {below : List Frame} {meth : Method} {c : Code} {H : Heap} {locs : List Loc} {cells slots : Nat} {Q : State → Prop}
variable {cc : ByteArray} {pc : Nat} {ls : Array Slot} {rest : List Value} {a : Int}
theorem zi2c_r (hx : p.tables.exec = Jvm.exec) (hb : c.code = cc) (hdg : decode cc pc = .ok (.i2c, 1)) (k : W p l e R s m args below meth c H locs cells slots Q (F0 m (pc + 1) ls (.int (iI (zi2c a)) :: rest))) : W p l e R s m args below meth c H locs cells slots Q (F0 m pc ls (.int (iI a) :: rest)) := lv_i2c hx hb hdg rfl (by unfold zi2c at k; rw [iI_of] at k; exact k)
end ZI
/-! ===== the class's static rows ===== -/
def zta (i : Nat) : String × String × String × Bool × List Int := staL.getD i ("", "", "", false, [])
def ztl (i : Nat) : Int := ((zta i).2.2.2.2.length : Int)
def ztv (i : Nat) (z : Int) : Int := (zta i).2.2.2.2.getD z.toNat 0
theorem zta_at {i : Nat} (h : i < staL.length) : staL[i]? = some (zta i) := by
  unfold zta
  rw [List.getD_eq_getElem?_getD, List.getElem?_eq_getElem h]
  rfl
theorem zta_le : ∀ i, i < staL.length → (zta i).2.2.2.2.length ≤ 1000 := by decide +kernel
theorem ztl_n (i : Nat) : Int32.ofNat (zta i).2.2.2.2.length = iI (ztl i) := rfl
theorem ztT {aS vS : Nat → Nat} {A : Nat → Prop} {s : State} (hX : gX aS vS A s s.heap) {i : Nat} (h : i < staL.length) : va_T (if (zta i).2.2.2.1 then .long else .int) (vS (1000 + i)) (zta i).2.2.2.2.length (fun j => if (zta i).2.2.2.1 then .long (Int64.ofInt ((zta i).2.2.2.2.getD j 0)) else .int (Int32.ofInt ((zta i).2.2.2.2.getD j 0))) A s s.heap := (hX.2.2.2.2.2.2 i _ (zta_at h)).2
theorem ztI {aS vS : Nat → Nat} {A : Nat → Prop} {s : State} (hX : gX aS vS A s s.heap) {i : Nat} (h : i < staL.length) (hb : (zta i).2.2.2.1 = false) : va_T .int (vS (1000 + i)) (zta i).2.2.2.2.length (fun j => .int (iI ((zta i).2.2.2.2.getD j 0))) A s s.heap := by
  have q := ztT hX h
  rw [hb] at q
  exact q
theorem ztL {aS vS : Nat → Nat} {A : Nat → Prop} {s : State} (hX : gX aS vS A s s.heap) {i : Nat} (h : i < staL.length) (hb : (zta i).2.2.2.1 = true) : va_T .long (vS (1000 + i)) (zta i).2.2.2.2.length (fun j => .long (lI ((zta i).2.2.2.2.getD j 0))) A s s.heap := by
  have q := ztT hX h
  rw [hb] at q
  exact q
theorem zt_in {i : Nat} {z : Int} (h : i < staL.length) (hz : 0 ≤ z ∧ z < ztl i) : vp_in (iI z) (zta i).2.2.2.2.length := iI_in hz.1 hz.2 (Nat.le_trans (zta_le i h) (by decide))
theorem ztI_v {i : Nat} {z : Int} (h : i < staL.length) (hz : 0 ≤ z ∧ z < ztl i) : (fun j => Value.int (iI ((zta i).2.2.2.2.getD j 0))) (iI z).toNatClampNeg = .int (iI (ztv i z)) := by
  have h2 := zta_le i h
  have h3 : z < ((zta i).2.2.2.2.length : Int) := hz.2
  show Value.int (iI ((zta i).2.2.2.2.getD (iI z).toNatClampNeg 0)) = _
  rw [iI_cl hz.1 (by omega)]
  rfl
theorem ztL_v {i : Nat} {z : Int} (h : i < staL.length) (hz : 0 ≤ z ∧ z < ztl i) : (fun j => Value.long (lI ((zta i).2.2.2.2.getD j 0))) (iI z).toNatClampNeg = .long (lI (ztv i z)) := by
  have h2 := zta_le i h
  have h3 : z < ((zta i).2.2.2.2.length : Int) := hz.2
  show Value.long (lI ((zta i).2.2.2.2.getD (iI z).toNatClampNeg 0)) = _
  rw [iI_cl hz.1 (by omega)]
  rfl
def zushr (a b : Int) : Int := ((iI a).toUInt32 >>> ((iI b).toUInt32 &&& Int32.toUInt32 31)).toInt32.toInt
def zlushr (a b : Int) : Int := ((lI a).toUInt64 >>> ((iI b).toInt64.toUInt64 &&& Int64.toUInt64 63)).toInt64.toInt
def zxor (a b : Int) : Int := (iI a ^^^ iI b).toInt
section ZU
variable {p : Program} {l : Launch} {e : Env} {R : Room} {s : State} {m : MethodId} {args : Array Value} {below : List Frame} {meth : Method} {c : Code} {H : Heap} {locs : List Loc} {cells slots : Nat} {Q : State → Prop}
variable {cc : ByteArray} {pc : Nat} {ls : Array Slot} {rest : List Value} {a b : Int}
theorem zushr_r (hx : p.tables.exec = Jvm.exec) (hb : c.code = cc) (hdg : decode cc pc = .ok (.iushr, 1)) (k : W p l e R s m args below meth c H locs cells slots Q (F0 m (pc + 1) ls (.int (iI (zushr a b)) :: rest))) : W p l e R s m args below meth c H locs cells slots Q (F0 m pc ls (.int (iI b) :: .int (iI a) :: rest)) := lv_iushr hx hb hdg rfl (by unfold zushr at k; rw [iI_of] at k; exact k)
theorem zlushr_r (hx : p.tables.exec = Jvm.exec) (hb : c.code = cc) (hdg : decode cc pc = .ok (.lushr, 1)) (k : W p l e R s m args below meth c H locs cells slots Q (F0 m (pc + 1) ls (.long (lI (zlushr a b)) :: rest))) : W p l e R s m args below meth c H locs cells slots Q (F0 m pc ls (.int (iI b) :: .long (lI a) :: rest)) := lv_lushr hx hb hdg rfl (by unfold zlushr at k; rw [lI_of] at k; exact k)
theorem zxor_r (hx : p.tables.exec = Jvm.exec) (hb : c.code = cc) (hdg : decode cc pc = .ok (.ixor, 1)) (k : W p l e R s m args below meth c H locs cells slots Q (F0 m (pc + 1) ls (.int (iI (zxor a b)) :: rest))) : W p l e R s m args below meth c H locs cells slots Q (F0 m pc ls (.int (iI b) :: .int (iI a) :: rest)) := lv_ixor hx hb hdg (by unfold zxor at k; rw [iI_of] at k; exact k)
end ZU

def zand (a b : Int) : Int := (iI a &&& iI b).toInt
def zor (a b : Int) : Int := (iI a ||| iI b).toInt
def zshl (a b : Int) : Int := (iI a <<< (iI b &&& 31)).toInt
def zshr (a b : Int) : Int := (iI a >>> (iI b &&& 31)).toInt
def zdv (a b : Int) : Int := (iI a / iI b).toInt
def zrm (a b : Int) : Int := (iI a - iI a / iI b * iI b).toInt
def zi2b (a : Int) : Int := (iI a).toInt8.toInt32.toInt
def zland (a b : Int) : Int := (lI a &&& lI b).toInt
def zlor (a b : Int) : Int := (lI a ||| lI b).toInt
def zlshl (a b : Int) : Int := (lI a <<< ((iI b).toInt64 &&& 63)).toInt
def zlshr (a b : Int) : Int := (lI a >>> ((iI b).toInt64 &&& 63)).toInt
def zldv (a b : Int) : Int := (lI a / lI b).toInt
def zlrm (a b : Int) : Int := (lI a - lI a / lI b * lI b).toInt
def zcmp (a b : Int) : Int := if a < b then -1 else if a = b then 0 else 1
section ZN
variable {p : Program} {l : Launch} {e : Env} {R : Room} {s : State} {m : MethodId} {args : Array Value} {below : List Frame} {meth : Method} {c : Code} {H : Heap} {locs : List Loc} {cells slots : Nat} {Q : State → Prop}
variable {cc : ByteArray} {pc : Nat} {ls : Array Slot} {rest : List Value} {a b : Int} {off : Int} {tgt : Nat} {ad : Nat → Int → Nat → Nat} {t : Nat} {x : Int}
theorem zand_r (hx : p.tables.exec = Jvm.exec) (hb : c.code = cc) (hdg : decode cc pc = .ok (.iand, 1)) (k : W p l e R s m args below meth c H locs cells slots Q (F0 m (pc + 1) ls (.int (iI (zand a b)) :: rest))) : W p l e R s m args below meth c H locs cells slots Q (F0 m pc ls (.int (iI b) :: .int (iI a) :: rest)) := lv_iand hx hb hdg (by unfold zand at k; rw [iI_of] at k; exact k)
theorem zor_r (hx : p.tables.exec = Jvm.exec) (hb : c.code = cc) (hdg : decode cc pc = .ok (.ior, 1)) (k : W p l e R s m args below meth c H locs cells slots Q (F0 m (pc + 1) ls (.int (iI (zor a b)) :: rest))) : W p l e R s m args below meth c H locs cells slots Q (F0 m pc ls (.int (iI b) :: .int (iI a) :: rest)) := lv_ior hx hb hdg (by unfold zor at k; rw [iI_of] at k; exact k)
theorem zshl_r (hx : p.tables.exec = Jvm.exec) (hb : c.code = cc) (hdg : decode cc pc = .ok (.ishl, 1)) (k : W p l e R s m args below meth c H locs cells slots Q (F0 m (pc + 1) ls (.int (iI (zshl a b)) :: rest))) : W p l e R s m args below meth c H locs cells slots Q (F0 m pc ls (.int (iI b) :: .int (iI a) :: rest)) := lv_ishl hx hb hdg (by unfold zshl at k; rw [iI_of] at k; exact k)
theorem zshr_r (hx : p.tables.exec = Jvm.exec) (hb : c.code = cc) (hdg : decode cc pc = .ok (.ishr, 1)) (k : W p l e R s m args below meth c H locs cells slots Q (F0 m (pc + 1) ls (.int (iI (zshr a b)) :: rest))) : W p l e R s m args below meth c H locs cells slots Q (F0 m pc ls (.int (iI b) :: .int (iI a) :: rest)) := lv_ishr hx hb hdg (by unfold zshr at k; rw [iI_of] at k; exact k)
theorem zdv_r (hx : p.tables.exec = Jvm.exec) (hb : c.code = cc) (h : ¬ iI b = 0) (hdg : decode cc pc = .ok (.idiv, 1)) (k : W p l e R s m args below meth c H locs cells slots Q (F0 m (pc + 1) ls (.int (iI (zdv a b)) :: rest))) : W p l e R s m args below meth c H locs cells slots Q (F0 m pc ls (.int (iI b) :: .int (iI a) :: rest)) := lv_idiv hx hb hdg h (by unfold zdv at k; rw [iI_of] at k; exact k)
theorem zrm_r (hx : p.tables.exec = Jvm.exec) (hb : c.code = cc) (h : ¬ iI b = 0) (hdg : decode cc pc = .ok (.irem, 1)) (k : W p l e R s m args below meth c H locs cells slots Q (F0 m (pc + 1) ls (.int (iI (zrm a b)) :: rest))) : W p l e R s m args below meth c H locs cells slots Q (F0 m pc ls (.int (iI b) :: .int (iI a) :: rest)) := lv_irem hx hb hdg h (by unfold zrm at k; rw [iI_of] at k; exact k)
theorem zi2b_r (hx : p.tables.exec = Jvm.exec) (hb : c.code = cc) (hdg : decode cc pc = .ok (.i2b, 1)) (k : W p l e R s m args below meth c H locs cells slots Q (F0 m (pc + 1) ls (.int (iI (zi2b a)) :: rest))) : W p l e R s m args below meth c H locs cells slots Q (F0 m pc ls (.int (iI a) :: rest)) := lv_i2b hx hb hdg rfl (by unfold zi2b at k; rw [iI_of] at k; exact k)
theorem zland_r (hx : p.tables.exec = Jvm.exec) (hb : c.code = cc) (hdg : decode cc pc = .ok (.land, 1)) (k : W p l e R s m args below meth c H locs cells slots Q (F0 m (pc + 1) ls (.long (lI (zland a b)) :: rest))) : W p l e R s m args below meth c H locs cells slots Q (F0 m pc ls (.long (lI b) :: .long (lI a) :: rest)) := lv_land hx hb hdg (by unfold zland at k; rw [lI_of] at k; exact k)
theorem zlor_r (hx : p.tables.exec = Jvm.exec) (hb : c.code = cc) (hdg : decode cc pc = .ok (.lor, 1)) (k : W p l e R s m args below meth c H locs cells slots Q (F0 m (pc + 1) ls (.long (lI (zlor a b)) :: rest))) : W p l e R s m args below meth c H locs cells slots Q (F0 m pc ls (.long (lI b) :: .long (lI a) :: rest)) := lv_lor hx hb hdg (by unfold zlor at k; rw [lI_of] at k; exact k)
theorem zlshl_r (hx : p.tables.exec = Jvm.exec) (hb : c.code = cc) (hdg : decode cc pc = .ok (.lshl, 1)) (k : W p l e R s m args below meth c H locs cells slots Q (F0 m (pc + 1) ls (.long (lI (zlshl a b)) :: rest))) : W p l e R s m args below meth c H locs cells slots Q (F0 m pc ls (.int (iI b) :: .long (lI a) :: rest)) := lv_lshl hx hb hdg rfl (by unfold zlshl at k; rw [lI_of] at k; exact k)
theorem zlshr_r (hx : p.tables.exec = Jvm.exec) (hb : c.code = cc) (hdg : decode cc pc = .ok (.lshr, 1)) (k : W p l e R s m args below meth c H locs cells slots Q (F0 m (pc + 1) ls (.long (lI (zlshr a b)) :: rest))) : W p l e R s m args below meth c H locs cells slots Q (F0 m pc ls (.int (iI b) :: .long (lI a) :: rest)) := lv_lshr hx hb hdg rfl (by unfold zlshr at k; rw [lI_of] at k; exact k)
theorem zldv_r (hx : p.tables.exec = Jvm.exec) (hb : c.code = cc) (h : ¬ lI b = 0) (hdg : decode cc pc = .ok (.ldiv, 1)) (k : W p l e R s m args below meth c H locs cells slots Q (F0 m (pc + 1) ls (.long (lI (zldv a b)) :: rest))) : W p l e R s m args below meth c H locs cells slots Q (F0 m pc ls (.long (lI b) :: .long (lI a) :: rest)) := lv_ldiv hx hb hdg h (by unfold zldv at k; rw [lI_of] at k; exact k)
theorem zlrm_r (hx : p.tables.exec = Jvm.exec) (hb : c.code = cc) (h : ¬ lI b = 0) (hdg : decode cc pc = .ok (.lrem, 1)) (k : W p l e R s m args below meth c H locs cells slots Q (F0 m (pc + 1) ls (.long (lI (zlrm a b)) :: rest))) : W p l e R s m args below meth c H locs cells slots Q (F0 m pc ls (.long (lI b) :: .long (lI a) :: rest)) := lv_lrem hx hb hdg h (by unfold zlrm at k; rw [lI_of] at k; exact k)
theorem zcmp_l (h1 : r64 a) (h2 : r64 b) : lg_cmp (lI a) (lI b) = iI (zcmp a b) := by
  unfold lg_cmp zcmp
  simp only [lI_lt h2 h1, lI_eq h1 h2]
  by_cases x : a < b
  · rw [if_neg (show ¬ b < a by omega), if_neg (show ¬ a = b by omega), if_pos x]; rfl
  · by_cases z : a = b
    · rw [if_neg (show ¬ b < a by omega), if_pos z, if_neg x, if_pos z]; rfl
    · rw [if_pos (show b < a by omega), if_neg x, if_neg z]; rfl
theorem zcmp_r (hx : p.tables.exec = Jvm.exec) (hb : c.code = cc) (h1 : r64 a) (h2 : r64 b) (hdg : decode cc pc = .ok (.lcmp, 1)) (k : W p l e R s m args below meth c H locs cells slots Q (F0 m (pc + 1) ls (.int (iI (zcmp a b)) :: rest))) : W p l e R s m args below meth c H locs cells slots Q (F0 m pc ls (.long (lI b) :: .long (lI a) :: rest)) := W.lcmp hx hb hdg (by rw [zcmp_l h1 h2]; exact k)
theorem zcmp_32 : r32 (zcmp a b) := by unfold zcmp; split <;> (try split) <;> decide
theorem zaload_n {k : Fin 4} {i : Nat} {r : Option Nat} (hx : p.tables.exec = Jvm.exec) (hb : c.code = cc) (hdg : decode cc pc = .ok (.aload_n k, 1)) (hi : (k : Nat) = i) (hl : ls[i]? = some (.val (va_rf r))) (kk : W p l e R s m args below meth c H locs cells slots Q (F0 m (pc + 1) ls (va_rf r :: rest))) : W p l e R s m args below meth c H locs cells slots Q (F0 m pc ls rest) := by
  cases r with
  | none => exact lv_aload_nN hx hb hdg hi hl kk
  | some a => exact lv_aload_n hx hb hdg hi hl kk
theorem zaload {i : Nat} {r : Option Nat} (hx : p.tables.exec = Jvm.exec) (hb : c.code = cc) (hdg : decode cc pc = .ok (.aload i, 2)) (hl : ls[i]? = some (.val (va_rf r))) (kk : W p l e R s m args below meth c H locs cells slots Q (F0 m (pc + 2) ls (va_rf r :: rest))) : W p l e R s m args below meth c H locs cells slots Q (F0 m pc ls rest) := by
  cases r with
  | none => exact lv_aloadN hx hb hdg hl kk
  | some a => exact lv_aload hx hb hdg hl kk
theorem zastore_n {k : Fin 4} {i nL : Nat} {r : Option Nat} {lv lv' : List (Nat × Value)} (hx : p.tables.exec = Jvm.exec) (hb : c.code = cc) (hdg : decode cc pc = .ok (.astore_n k, 1)) (hi : (k : Nat) = i) (h : lv_has ls nL lv) (hn : i < nL) (hl : ∀ v : Value, v.category = 1 → (i, v) :: lv.filter (fun q => !(q.1 == i) && !(q.1 + 1 == i && q.2.category == 2)) = (i, v) :: lv') (kk : ∀ ls, lv_has ls nL ((i, va_rf r) :: lv') → W p l e R s m args below meth c H locs cells slots Q (F0 m (pc + 1) ls rest)) : W p l e R s m args below meth c H locs cells slots Q (F0 m pc ls (va_rf r :: rest)) := by
  cases r with
  | none => exact lv_astore_nN hx hb hdg hi h hn (hl _ rfl) kk
  | some a => exact lv_astore_n hx hb hdg hi h hn (hl _ rfl) kk
theorem zastore {i nL : Nat} {r : Option Nat} {lv lv' : List (Nat × Value)} (hx : p.tables.exec = Jvm.exec) (hb : c.code = cc) (hdg : decode cc pc = .ok (.astore i, 2)) (h : lv_has ls nL lv) (hn : i < nL) (hl : ∀ v : Value, v.category = 1 → (i, v) :: lv.filter (fun q => !(q.1 == i) && !(q.1 + 1 == i && q.2.category == 2)) = (i, v) :: lv') (kk : ∀ ls, lv_has ls nL ((i, va_rf r) :: lv') → W p l e R s m args below meth c H locs cells slots Q (F0 m (pc + 2) ls rest)) : W p l e R s m args below meth c H locs cells slots Q (F0 m pc ls (va_rf r :: rest)) := by
  cases r with
  | none => exact lv_astoreN hx hb hdg h hn (hl _ rfl) kk
  | some a => exact lv_astore hx hb hdg h hn (hl _ rfl) kk
theorem zrf_pos (h : 0 ≤ x) : zrf ad t x = some (ad t x 0) := by unfold zrf; rw [if_neg (by omega)]
theorem zrf_neg (h : x < 0) : zrf ad t x = none := by unfold zrf; rw [if_pos h]
theorem zunrf (h : 0 ≤ x) (kk : W p l e R s m args below meth c H locs cells slots Q (F0 m pc ls (.ref (ad t x 0) :: rest))) : W p l e R s m args below meth c H locs cells slots Q (F0 m pc ls (va_rf (zrf ad t x) :: rest)) := by
  rw [zrf_pos h]; exact kk
theorem zifnull (hx : p.tables.exec = Jvm.exec) (hb : c.code = cc) (hdg : decode cc pc = .ok (.ifnull off, 3)) (ht : (pc : Int) + off = (tgt : Int)) (kt : x < 0 → W p l e R s m args below meth c H locs cells slots Q (F0 m tgt ls rest)) (kf : ¬ x < 0 → W p l e R s m args below meth c H locs cells slots Q (F0 m (pc + 3) ls rest)) : W p l e R s m args below meth c H locs cells slots Q (F0 m pc ls (va_rf (zrf ad t x) :: rest)) := by
  by_cases h : x < 0
  · rw [zrf_neg h]; exact lv_ifnullN hx hb hdg ht (kt h)
  · rw [zrf_pos (by omega)]; exact lv_ifnull hx hb hdg (kf h)
theorem zifnonnull (hx : p.tables.exec = Jvm.exec) (hb : c.code = cc) (hdg : decode cc pc = .ok (.ifnonnull off, 3)) (ht : (pc : Int) + off = (tgt : Int)) (kt : ¬ x < 0 → W p l e R s m args below meth c H locs cells slots Q (F0 m tgt ls rest)) (kf : x < 0 → W p l e R s m args below meth c H locs cells slots Q (F0 m (pc + 3) ls rest)) : W p l e R s m args below meth c H locs cells slots Q (F0 m pc ls (va_rf (zrf ad t x) :: rest)) := by
  by_cases h : x < 0
  · rw [zrf_neg h]; exact lv_ifnonnullN hx hb hdg (kf h)
  · rw [zrf_pos (by omega)]; exact lv_ifnonnull hx hb hdg ht (kt h)
end ZN

theorem k_1_25 : (Jvm.Cond.instantiable "StaveHouse" (10 : Nat)) ∈ wAll := wA_1 (j := 25) rfl rfl
theorem k_9_113 : (Jvm.Cond.instantiable "StaveHouseModel" (107 : Nat)) ∈ wAll := wA_9 (j := 113) rfl rfl

theorem tb_1 {j : Nat} {w : Cond} (h : tables_1_1[j]? = some w) : w ∈ lw_tbl := List.mem_append_right _ (by unfold tables_1; exact (List.mem_append_left _ (List.mem_of_getElem? h)))
theorem tb_2 {j : Nat} {w : Cond} (h : tables_1_2[j]? = some w) : w ∈ lw_tbl := List.mem_append_right _ (by unfold tables_1; exact (List.mem_append_right _ (List.mem_append_left _ (List.mem_of_getElem? h))))
theorem tb_3 {j : Nat} {w : Cond} (h : tables_1_3[j]? = some w) : w ∈ lw_tbl := List.mem_append_right _ (by unfold tables_1; exact (List.mem_append_right _ (List.mem_append_right _ (List.mem_append_left _ (List.mem_of_getElem? h)))))
theorem tb_4 {j : Nat} {w : Cond} (h : tables_1_4[j]? = some w) : w ∈ lw_tbl := List.mem_append_right _ (by unfold tables_1; exact (List.mem_append_right _ (List.mem_append_right _ (List.mem_append_right _ (List.mem_append_left _ (List.mem_of_getElem? h))))))
theorem tb_5 {j : Nat} {w : Cond} (h : tables_1_5[j]? = some w) : w ∈ lw_tbl := List.mem_append_right _ (by unfold tables_1; exact (List.mem_append_right _ (List.mem_append_right _ (List.mem_append_right _ (List.mem_append_right _ (List.mem_append_left _ (List.mem_of_getElem? h)))))))
theorem tb_6 {j : Nat} {w : Cond} (h : tables_1_6[j]? = some w) : w ∈ lw_tbl := List.mem_append_right _ (by unfold tables_1; exact (List.mem_append_right _ (List.mem_append_right _ (List.mem_append_right _ (List.mem_append_right _ (List.mem_append_right _ (List.mem_append_left _ (List.mem_of_getElem? h))))))))
theorem tb_7 {j : Nat} {w : Cond} (h : tables_1_7[j]? = some w) : w ∈ lw_tbl := List.mem_append_right _ (by unfold tables_1; exact (List.mem_append_right _ (List.mem_append_right _ (List.mem_append_right _ (List.mem_append_right _ (List.mem_append_right _ (List.mem_append_right _ (List.mem_append_left _ (List.mem_of_getElem? h)))))))))
theorem tb_8 {j : Nat} {w : Cond} (h : tables_1_8[j]? = some w) : w ∈ lw_tbl := List.mem_append_right _ (by unfold tables_1; exact (List.mem_append_right _ (List.mem_append_right _ (List.mem_append_right _ (List.mem_append_right _ (List.mem_append_right _ (List.mem_append_right _ (List.mem_append_right _ (List.mem_append_left _ (List.mem_of_getElem? h))))))))))
theorem tb_9 {j : Nat} {w : Cond} (h : tables_1_9[j]? = some w) : w ∈ lw_tbl := List.mem_append_right _ (by unfold tables_1; exact (List.mem_append_right _ (List.mem_append_right _ (List.mem_append_right _ (List.mem_append_right _ (List.mem_append_right _ (List.mem_append_right _ (List.mem_append_right _ (List.mem_append_right _ (List.mem_append_left _ (List.mem_of_getElem? h)))))))))))
theorem tb_10 {j : Nat} {w : Cond} (h : tables_1_10[j]? = some w) : w ∈ lw_tbl := List.mem_append_right _ (by unfold tables_1; exact (List.mem_append_right _ (List.mem_append_right _ (List.mem_append_right _ (List.mem_append_right _ (List.mem_append_right _ (List.mem_append_right _ (List.mem_append_right _ (List.mem_append_right _ (List.mem_append_right _ (List.mem_append_left _ (List.mem_of_getElem? h))))))))))))
theorem tb_11 {j : Nat} {w : Cond} (h : tables_1_11[j]? = some w) : w ∈ lw_tbl := List.mem_append_right _ (by unfold tables_1; exact (List.mem_append_right _ (List.mem_append_right _ (List.mem_append_right _ (List.mem_append_right _ (List.mem_append_right _ (List.mem_append_right _ (List.mem_append_right _ (List.mem_append_right _ (List.mem_append_right _ (List.mem_append_right _ (List.mem_append_left _ (List.mem_of_getElem? h)))))))))))))
theorem tb_12 {j : Nat} {w : Cond} (h : tables_1_12[j]? = some w) : w ∈ lw_tbl := List.mem_append_right _ (by unfold tables_1; exact (List.mem_append_right _ (List.mem_append_right _ (List.mem_append_right _ (List.mem_append_right _ (List.mem_append_right _ (List.mem_append_right _ (List.mem_append_right _ (List.mem_append_right _ (List.mem_append_right _ (List.mem_append_right _ (List.mem_append_right _ (List.mem_append_left _ (List.mem_of_getElem? h))))))))))))))
theorem tb_13 {j : Nat} {w : Cond} (h : tables_1_13[j]? = some w) : w ∈ lw_tbl := List.mem_append_right _ (by unfold tables_1; exact (List.mem_append_right _ (List.mem_append_right _ (List.mem_append_right _ (List.mem_append_right _ (List.mem_append_right _ (List.mem_append_right _ (List.mem_append_right _ (List.mem_append_right _ (List.mem_append_right _ (List.mem_append_right _ (List.mem_append_right _ (List.mem_append_right _ (List.mem_append_left _ (List.mem_of_getElem? h)))))))))))))))
theorem tb_14 {j : Nat} {w : Cond} (h : tables_1_14[j]? = some w) : w ∈ lw_tbl := List.mem_append_right _ (by unfold tables_1; exact (List.mem_append_right _ (List.mem_append_right _ (List.mem_append_right _ (List.mem_append_right _ (List.mem_append_right _ (List.mem_append_right _ (List.mem_append_right _ (List.mem_append_right _ (List.mem_append_right _ (List.mem_append_right _ (List.mem_append_right _ (List.mem_append_right _ (List.mem_append_right _ (List.mem_append_left _ (List.mem_of_getElem? h))))))))))))))))
theorem tb_15 {j : Nat} {w : Cond} (h : tables_1_15[j]? = some w) : w ∈ lw_tbl := List.mem_append_right _ (by unfold tables_1; exact (List.mem_append_right _ (List.mem_append_right _ (List.mem_append_right _ (List.mem_append_right _ (List.mem_append_right _ (List.mem_append_right _ (List.mem_append_right _ (List.mem_append_right _ (List.mem_append_right _ (List.mem_append_right _ (List.mem_append_right _ (List.mem_append_right _ (List.mem_append_right _ (List.mem_append_right _ (List.mem_of_getElem? h))))))))))))))))
theorem st_cls {s : State} {args : Array Value} (hts : ∀ w ∈ wAll, w.before args s = true) : ∀ k : Nat, ∃ z : ClassId × (Nat → Nat), ∀ q : vw_C, cls[k]? = some q → u_Kn s q.1 q.2.1 q.2.2 z.1 z.2
  | 0 => by
    obtain ⟨c, i, h⟩ := u_known (C := RX0) (T := TX0) (N := 3) (n := 3) hts inW_0 (hts _ k_1_33)
    exact ⟨(c, i), fun q hq => by cases hq; exact h⟩
  | 1 => by
    obtain ⟨c, i, h⟩ := u_known (C := RX1) (T := TX1) (N := 14) (n := 14) hts inW_1 (hts _ k_2_15)
    exact ⟨(c, i), fun q hq => by cases hq; exact h⟩
  | 2 => by
    obtain ⟨c, i, h⟩ := u_known (C := RX2) (T := TX2) (N := 13) (n := 13) hts inW_2 (hts _ k_6_210)
    exact ⟨(c, i), fun q hq => by cases hq; exact h⟩
  | 3 => by
    obtain ⟨c, i, h⟩ := u_known (C := RX3) (T := TX3) (N := 22) (n := 22) hts inW_3 (hts _ k_1_61)
    exact ⟨(c, i), fun q hq => by cases hq; exact h⟩
  | 4 => by
    obtain ⟨c, i, h⟩ := u_known (C := RX4) (T := TX4) (N := 13) (n := 13) hts inW_4 (hts _ k_4_105)
    exact ⟨(c, i), fun q hq => by cases hq; exact h⟩
  | 5 => by
    obtain ⟨c, i, h⟩ := u_known (C := RX5) (T := TX5) (N := 14) (n := 14) hts inW_5 (hts _ k_6_57)
    exact ⟨(c, i), fun q hq => by cases hq; exact h⟩
  | 6 => by
    obtain ⟨c, i, h⟩ := u_known (C := RX6) (T := TX6) (N := 14) (n := 14) hts inW_6 (hts _ k_2_178)
    exact ⟨(c, i), fun q hq => by cases hq; exact h⟩
  | 7 => by
    obtain ⟨c, i, h⟩ := u_known (C := RX7) (T := TX7) (N := 9) (n := 9) hts inW_7 (hts _ k_2_9)
    exact ⟨(c, i), fun q hq => by cases hq; exact h⟩
  | 8 => by
    obtain ⟨c, i, h⟩ := u_known (C := RX8) (T := TX8) (N := 15) (n := 15) hts inW_8 (hts _ k_7_210)
    exact ⟨(c, i), fun q hq => by cases hq; exact h⟩
  | 9 => by
    obtain ⟨c, i, h⟩ := u_known (C := RX9) (T := TX9) (N := 11) (n := 11) hts inW_9 (hts _ k_5_191)
    exact ⟨(c, i), fun q hq => by cases hq; exact h⟩
  | 10 => by
    obtain ⟨c, i, h⟩ := u_known (C := RX10) (T := TX10) (N := 9) (n := 9) hts inW_10 (hts _ k_1_67)
    exact ⟨(c, i), fun q hq => by cases hq; exact h⟩
  | 11 => by
    obtain ⟨c, i, h⟩ := u_known (C := RX11) (T := TX11) (N := 19) (n := 19) hts inW_11 (hts _ k_1_185)
    exact ⟨(c, i), fun q hq => by cases hq; exact h⟩
  | 12 => by
    obtain ⟨c, i, h⟩ := u_known (C := RX12) (T := TX12) (N := 10) (n := 10) hts inW_12 (hts _ k_1_25)
    exact ⟨(c, i), fun q hq => by cases hq; exact h⟩
  | 13 => by
    obtain ⟨c, i, h⟩ := u_known (C := RX13) (T := TX13) (N := 81) (n := 81) hts inW_13 (hts _ k_9_120)
    exact ⟨(c, i), fun q hq => by cases hq; exact h⟩
  | 14 => by
    obtain ⟨c, i, h⟩ := u_known (C := RX14) (T := TX14) (N := 107) (n := 107) hts inW_14 (hts _ k_9_113)
    exact ⟨(c, i), fun q hq => by cases hq; exact h⟩
  | k + 15 => ⟨(0, fun _ => 0), fun q hq => by
    have h1 : (cls : List vw_C).length ≤ k + 15 := by simp [cls]
    rw [List.getElem?_eq_none h1] at hq
    cases hq⟩
theorem st_arP {s : State} {args : Array Value} {ty : FieldType} (h : (Cond.arrayClass ty).before args s = true) (hr : ∀ c, s.vm.findClass ("[" ++ ty.toString) = some c → va_RA s c ty) : ∃ c : ClassId, ArrOfT s c ty ∧ va_RA s c ty := by
  obtain ⟨c, k, comp, h1, h2, h3⟩ := Cond.arrayClass_spec h
  exact ⟨c, fun N z => ⟨(fun k h => by cases h), k, h2, comp, h3⟩, hr c h1⟩
theorem st_arO {s : State} {args : Array Value} {C : String} (h : (Cond.arrayOver (.object C)).before args s = true) : ∃ c : ClassId, ArrOfT s c (.object C) ∧ va_RA s c (.object C) := by
  obtain ⟨comp, c, k, h1, h2, h3, h4, h5⟩ := Cond.arrayOver_spec h
  exact ⟨c, fun N z => ⟨(fun k h => by cases h), k, h3, comp, h4⟩, k, comp, h3, h4, h1, h5⟩
theorem st_arA {s : State} {args : Array Value} {ty : FieldType} (h : (Cond.arrayOver (.array ty)).before args s = true) : ∃ c : ClassId, ArrOfT s c (.array ty) ∧ va_RA s c (.array ty) := by
  obtain ⟨cA, comp, k, h1, h2, h3, h4⟩ := gOver h
  exact ⟨cA, fun N z => ⟨(fun k h => by cases h), k, h3, comp, h4⟩, h2⟩
theorem st_K {s : State} {args : Array Value} (h0 : ∀ w ∈ lw_tbl, w.before args s = true) : ∃ (D : va_G) (ca : Nat → ClassId), va_K D cls (tyL ca) s := by
  have hts := wA_hts h0
  obtain ⟨d, hd⟩ := Classical.axiomOfChoice (st_cls hts)
  obtain ⟨c0, h00⟩ := st_arP (h0 _ (tb_1 (j := 57) (w := (Jvm.Cond.arrayClass Jvm.ClassFile.FieldType.int)) rfl)) (fun _ h => h)
  obtain ⟨c1, h01⟩ := st_arP (h0 _ (tb_1 (j := 105) (w := (Jvm.Cond.arrayClass Jvm.ClassFile.FieldType.long)) rfl)) (fun _ h => h)
  obtain ⟨c2, h02⟩ := st_arP (h0 _ (tb_4 (j := 180) (w := (Jvm.Cond.arrayClass Jvm.ClassFile.FieldType.byte)) rfl)) (fun _ h => h)
  obtain ⟨c3, h03⟩ := st_arP (h0 _ (tb_2 (j := 126) (w := (Jvm.Cond.arrayClass Jvm.ClassFile.FieldType.boolean)) rfl)) (fun _ h => h)
  obtain ⟨c4, h04⟩ := st_arO (h0 _ (tb_1 (j := 59) (w := (Jvm.Cond.arrayOver (Jvm.ClassFile.FieldType.object "StaveHouse$Piece"))) rfl))
  obtain ⟨c5, h05⟩ := st_arO (h0 _ (tb_9 (j := 119) (w := (Jvm.Cond.arrayOver (Jvm.ClassFile.FieldType.object "StaveHouseModel$Piece"))) rfl))
  obtain ⟨c6, h06⟩ := st_arO (h0 _ (tb_2 (j := 184) (w := (Jvm.Cond.arrayOver (Jvm.ClassFile.FieldType.object "StaveHouse$Part"))) rfl))
  obtain ⟨c7, h07⟩ := st_arO (h0 _ (tb_4 (j := 111) (w := (Jvm.Cond.arrayOver (Jvm.ClassFile.FieldType.object "StaveHouse$Event"))) rfl))
  obtain ⟨c8, h08⟩ := st_arA (h0 _ (tb_4 (j := 113) (w := (Jvm.Cond.arrayOver (Jvm.ClassFile.FieldType.array Jvm.ClassFile.FieldType.int))) rfl))
  obtain ⟨c9, h09⟩ := st_arA (h0 _ (tb_7 (j := 216) (w := (Jvm.Cond.arrayOver (Jvm.ClassFile.FieldType.array Jvm.ClassFile.FieldType.long))) rfl))
  refine ⟨(fun k => (d k).1, fun k => (d k).2), fun k => [c0, c1, c2, c3, c4, c5, c6, c7, c8, c9].getD k c0, fun c q hq => hd c q hq, fun k q hq => ?_⟩
  match k, hq with
  | 0, hq => cases hq; exact h00
  | 1, hq => cases hq; exact h01
  | 2, hq => cases hq; exact h02
  | 3, hq => cases hq; exact h03
  | 4, hq => cases hq; exact h04
  | 5, hq => cases hq; exact h05
  | 6, hq => cases hq; exact h06
  | 7, hq => cases hq; exact h07
  | 8, hq => cases hq; exact h08
  | 9, hq => cases hq; exact h09
  | k + 10, hq =>
    have h1 : (tyL fun k => [c0, c1, c2, c3, c4, c5, c6, c7, c8, c9].getD k c0).length ≤ k + 10 := by simp [tyL]
    rw [List.getElem?_eq_none h1] at hq
    cases hq
theorem st_str {args : Array Value} {s : State} {own tx : String} {k n : Nat} {byt : List Int32} {A : Nat → Prop} (hn : n < 2 ^ 31) (hsr : (Cond.stringRef own k tx).before args s = true) (hex : (Cond.exactly (Term.string own k) "java/lang/String").before args s = true) (hco : (Cond.eq (.field (Term.string own k) "java/lang/String" "coder" "B") (.int 0)).before args s = true)
    (har : (Cond.arrayOf (.field (Term.string own k) "java/lang/String" "value" "[B") .byte).before args s = true) (hle : (Cond.eq (.length (.field (Term.string own k) "java/lang/String" "value" "[B")) (.int (Int32.ofNat n))).before args s = true)
    (hel : ∀ j : Nat, j < n → (Cond.eq (.elem (.field (Term.string own k) "java/lang/String" "value" "[B") (.int (Int32.ofNat j))) (.int (byt.getD j 0))).before args s = true) (hA : ∀ a : Nat, a < s.heap.size → ¬ A a) :
    ∃ z : Nat × Nat, vk_R own k tx z.1 s ∧ vk_S 1 [n] [byt] (fun _ => z.1) (fun _ => z.2) A s s.heap := by
  have e0 : ∀ i : Nat, i < 1 → i = 0 := fun i h => by omega
  obtain ⟨adK, adV, hS, hE⟩ := vk_Sof (N := 1) (tm := fun _ => Term.string own k) (len := [n]) (byt := [byt]) (A := A) (fun i hi => by rw [e0 i hi]; exact hn) (fun i hi => hex) (fun i hi => hco) (fun i hi => har) (fun i hi => by rw [e0 i hi]; exact hle)
    (fun i hi => by rw [e0 i hi]; exact hel) (fun i j hi hj h => absurd ((e0 i hi).trans (e0 j hj).symm) h) hA
  exact ⟨(adK 0, adV 0), vk_R.of hsr (hE 0 (by decide)), fun i hi => by rw [e0 i hi]; exact hS.1 0 (by decide), fun i j hi hj _ => (e0 i hi).trans (e0 j hj).symm⟩
def naT : Jvm.Cond := Jvm.Cond.and given_1 narrow_1
theorem st_s0 {args : Array Value} {s : State} {A : Nat → Prop} (h0 : ∀ w ∈ lw_tbl, w.before args s = true) (hf : ∀ c ∈ flatC naT, c.before args s = true) (hA : ∀ a : Nat, a < s.heap.size → ¬ A a) : ∃ z : Nat × Nat, vk_R "StaveHouse$Parser" 302 "~()'^-%" z.1 s ∧ vk_S 1 [7] [[126, 40, 41, 39, 94, 45, 37]] (fun _ => z.1) (fun _ => z.2) A s s.heap :=
  st_str (by decide) (h0 _ (tb_4 (j := 26) (w := (Jvm.Cond.stringRef "StaveHouse$Parser" (302 : Nat) "~()'^-%")) rfl)) (hf _ (by decide +kernel)) (hf _ (by decide +kernel)) (hf _ (by decide +kernel)) (hf _ (by decide +kernel)) (fun j hj => hf _ ((by decide +kernel : ∀ j : Nat, j < 7 → (Cond.eq (.elem (.field (Term.string "StaveHouse$Parser" 302) "java/lang/String" "value" "[B") (.int (Int32.ofNat j))) (.int (([126, 40, 41, 39, 94, 45, 37] : List Int32).getD j 0))) ∈ flatC naT) j hj)) hA
theorem st_s1 {args : Array Value} {s : State} {A : Nat → Prop} (h0 : ∀ w ∈ lw_tbl, w.before args s = true) (hf : ∀ c ∈ flatC naT, c.before args s = true) (hA : ∀ a : Nat, a < s.heap.size → ¬ A a) : ∃ z : Nat × Nat, vk_R "StaveHouse$Performance" 201 "MThd" z.1 s ∧ vk_S 1 [4] [[77, 84, 104, 100]] (fun _ => z.1) (fun _ => z.2) A s s.heap :=
  st_str (by decide) (h0 _ (tb_7 (j := 127) (w := (Jvm.Cond.stringRef "StaveHouse$Performance" (201 : Nat) "MThd")) rfl)) (hf _ (by decide +kernel)) (hf _ (by decide +kernel)) (hf _ (by decide +kernel)) (hf _ (by decide +kernel)) (fun j hj => hf _ ((by decide +kernel : ∀ j : Nat, j < 4 → (Cond.eq (.elem (.field (Term.string "StaveHouse$Performance" 201) "java/lang/String" "value" "[B") (.int (Int32.ofNat j))) (.int (([77, 84, 104, 100] : List Int32).getD j 0))) ∈ flatC naT) j hj)) hA
theorem st_s2 {args : Array Value} {s : State} {A : Nat → Prop} (h0 : ∀ w ∈ lw_tbl, w.before args s = true) (hf : ∀ c ∈ flatC naT, c.before args s = true) (hA : ∀ a : Nat, a < s.heap.size → ¬ A a) : ∃ z : Nat × Nat, vk_R "StaveHouse$Performance" 221 "MTrk" z.1 s ∧ vk_S 1 [4] [[77, 84, 114, 107]] (fun _ => z.1) (fun _ => z.2) A s s.heap :=
  st_str (by decide) (h0 _ (tb_7 (j := 164) (w := (Jvm.Cond.stringRef "StaveHouse$Performance" (221 : Nat) "MTrk")) rfl)) (hf _ (by decide +kernel)) (hf _ (by decide +kernel)) (hf _ (by decide +kernel)) (hf _ (by decide +kernel)) (fun j hj => hf _ ((by decide +kernel : ∀ j : Nat, j < 4 → (Cond.eq (.elem (.field (Term.string "StaveHouse$Performance" 221) "java/lang/String" "value" "[B") (.int (Int32.ofNat j))) (.int (([77, 84, 114, 107] : List Int32).getD j 0))) ∈ flatC naT) j hj)) hA
theorem st_s3 {args : Array Value} {s : State} {A : Nat → Prop} (h0 : ∀ w ∈ lw_tbl, w.before args s = true) (hf : ∀ c ∈ flatC naT, c.before args s = true) (hA : ∀ a : Nat, a < s.heap.size → ¬ A a) : ∃ z : Nat × Nat, vk_R "StaveHouse$Scribe" 133 "key -" z.1 s ∧ vk_S 1 [5] [[107, 101, 121, 32, 45]] (fun _ => z.1) (fun _ => z.2) A s s.heap :=
  st_str (by decide) (h0 _ (tb_8 (j := 170) (w := (Jvm.Cond.stringRef "StaveHouse$Scribe" (133 : Nat) "key -")) rfl)) (hf _ (by decide +kernel)) (hf _ (by decide +kernel)) (hf _ (by decide +kernel)) (hf _ (by decide +kernel)) (fun j hj => hf _ ((by decide +kernel : ∀ j : Nat, j < 5 → (Cond.eq (.elem (.field (Term.string "StaveHouse$Scribe" 133) "java/lang/String" "value" "[B") (.int (Int32.ofNat j))) (.int (([107, 101, 121, 32, 45] : List Int32).getD j 0))) ∈ flatC naT) j hj)) hA
theorem st_s4 {args : Array Value} {s : State} {A : Nat → Prop} (h0 : ∀ w ∈ lw_tbl, w.before args s = true) (hf : ∀ c ∈ flatC naT, c.before args s = true) (hA : ∀ a : Nat, a < s.heap.size → ¬ A a) : ∃ z : Nat × Nat, vk_R "StaveHouse$Scribe" 135 "key " z.1 s ∧ vk_S 1 [4] [[107, 101, 121, 32]] (fun _ => z.1) (fun _ => z.2) A s s.heap :=
  st_str (by decide) (h0 _ (tb_8 (j := 171) (w := (Jvm.Cond.stringRef "StaveHouse$Scribe" (135 : Nat) "key ")) rfl)) (hf _ (by decide +kernel)) (hf _ (by decide +kernel)) (hf _ (by decide +kernel)) (hf _ (by decide +kernel)) (fun j hj => hf _ ((by decide +kernel : ∀ j : Nat, j < 4 → (Cond.eq (.elem (.field (Term.string "StaveHouse$Scribe" 135) "java/lang/String" "value" "[B") (.int (Int32.ofNat j))) (.int (([107, 101, 121, 32] : List Int32).getD j 0))) ∈ flatC naT) j hj)) hA
theorem st_s5 {args : Array Value} {s : State} {A : Nat → Prop} (h0 : ∀ w ∈ lw_tbl, w.before args s = true) (hf : ∀ c ∈ flatC naT, c.before args s = true) (hA : ∀ a : Nat, a < s.heap.size → ¬ A a) : ∃ z : Nat × Nat, vk_R "StaveHouse$Scribe" 147 " minor\ntime " z.1 s ∧ vk_S 1 [12] [[32, 109, 105, 110, 111, 114, 10, 116, 105, 109, 101, 32]] (fun _ => z.1) (fun _ => z.2) A s s.heap :=
  st_str (by decide) (h0 _ (tb_8 (j := 178) (w := (Jvm.Cond.stringRef "StaveHouse$Scribe" (147 : Nat) " minor\ntime ")) rfl)) (hf _ (by decide +kernel)) (hf _ (by decide +kernel)) (hf _ (by decide +kernel)) (hf _ (by decide +kernel)) (fun j hj => hf _ ((by decide +kernel : ∀ j : Nat, j < 12 → (Cond.eq (.elem (.field (Term.string "StaveHouse$Scribe" 147) "java/lang/String" "value" "[B") (.int (Int32.ofNat j))) (.int (([32, 109, 105, 110, 111, 114, 10, 116, 105, 109, 101, 32] : List Int32).getD j 0))) ∈ flatC naT) j hj)) hA
theorem st_s6 {args : Array Value} {s : State} {A : Nat → Prop} (h0 : ∀ w ∈ lw_tbl, w.before args s = true) (hf : ∀ c ∈ flatC naT, c.before args s = true) (hA : ∀ a : Nat, a < s.heap.size → ¬ A a) : ∃ z : Nat × Nat, vk_R "StaveHouse$Scribe" 149 " major\ntime " z.1 s ∧ vk_S 1 [12] [[32, 109, 97, 106, 111, 114, 10, 116, 105, 109, 101, 32]] (fun _ => z.1) (fun _ => z.2) A s s.heap :=
  st_str (by decide) (h0 _ (tb_8 (j := 179) (w := (Jvm.Cond.stringRef "StaveHouse$Scribe" (149 : Nat) " major\ntime ")) rfl)) (hf _ (by decide +kernel)) (hf _ (by decide +kernel)) (hf _ (by decide +kernel)) (hf _ (by decide +kernel)) (fun j hj => hf _ ((by decide +kernel : ∀ j : Nat, j < 12 → (Cond.eq (.elem (.field (Term.string "StaveHouse$Scribe" 149) "java/lang/String" "value" "[B") (.int (Int32.ofNat j))) (.int (([32, 109, 97, 106, 111, 114, 10, 116, 105, 109, 101, 32] : List Int32).getD j 0))) ∈ flatC naT) j hj)) hA
theorem st_s7 {args : Array Value} {s : State} {A : Nat → Prop} (h0 : ∀ w ∈ lw_tbl, w.before args s = true) (hf : ∀ c ∈ flatC naT, c.before args s = true) (hA : ∀ a : Nat, a < s.heap.size → ¬ A a) : ∃ z : Nat × Nat, vk_R "StaveHouse$Scribe" 154 "\ntempo " z.1 s ∧ vk_S 1 [7] [[10, 116, 101, 109, 112, 111, 32]] (fun _ => z.1) (fun _ => z.2) A s s.heap :=
  st_str (by decide) (h0 _ (tb_8 (j := 181) (w := (Jvm.Cond.stringRef "StaveHouse$Scribe" (154 : Nat) "\ntempo ")) rfl)) (hf _ (by decide +kernel)) (hf _ (by decide +kernel)) (hf _ (by decide +kernel)) (hf _ (by decide +kernel)) (fun j hj => hf _ ((by decide +kernel : ∀ j : Nat, j < 7 → (Cond.eq (.elem (.field (Term.string "StaveHouse$Scribe" 154) "java/lang/String" "value" "[B") (.int (Int32.ofNat j))) (.int (([10, 116, 101, 109, 112, 111, 32] : List Int32).getD j 0))) ∈ flatC naT) j hj)) hA
theorem st_s8 {args : Array Value} {s : State} {A : Nat → Prop} (h0 : ∀ w ∈ lw_tbl, w.before args s = true) (hf : ∀ c ∈ flatC naT, c.before args s = true) (hA : ∀ a : Nat, a < s.heap.size → ¬ A a) : ∃ z : Nat × Nat, vk_R "StaveHouse$Scribe" 156 "voice v" z.1 s ∧ vk_S 1 [7] [[118, 111, 105, 99, 101, 32, 118]] (fun _ => z.1) (fun _ => z.2) A s s.heap :=
  st_str (by decide) (h0 _ (tb_8 (j := 186) (w := (Jvm.Cond.stringRef "StaveHouse$Scribe" (156 : Nat) "voice v")) rfl)) (hf _ (by decide +kernel)) (hf _ (by decide +kernel)) (hf _ (by decide +kernel)) (hf _ (by decide +kernel)) (fun j hj => hf _ ((by decide +kernel : ∀ j : Nat, j < 7 → (Cond.eq (.elem (.field (Term.string "StaveHouse$Scribe" 156) "java/lang/String" "value" "[B") (.int (Int32.ofNat j))) (.int (([118, 111, 105, 99, 101, 32, 118] : List Int32).getD j 0))) ∈ flatC naT) j hj)) hA
theorem st_s9 {args : Array Value} {s : State} {A : Nat → Prop} (h0 : ∀ w ∈ lw_tbl, w.before args s = true) (hf : ∀ c ∈ flatC naT, c.before args s = true) (hA : ∀ a : Nat, a < s.heap.size → ¬ A a) : ∃ z : Nat × Nat, vk_R "StaveHouse$Scribe" 160 " treble " z.1 s ∧ vk_S 1 [8] [[32, 116, 114, 101, 98, 108, 101, 32]] (fun _ => z.1) (fun _ => z.2) A s s.heap :=
  st_str (by decide) (h0 _ (tb_8 (j := 188) (w := (Jvm.Cond.stringRef "StaveHouse$Scribe" (160 : Nat) " treble ")) rfl)) (hf _ (by decide +kernel)) (hf _ (by decide +kernel)) (hf _ (by decide +kernel)) (hf _ (by decide +kernel)) (fun j hj => hf _ ((by decide +kernel : ∀ j : Nat, j < 8 → (Cond.eq (.elem (.field (Term.string "StaveHouse$Scribe" 160) "java/lang/String" "value" "[B") (.int (Int32.ofNat j))) (.int (([32, 116, 114, 101, 98, 108, 101, 32] : List Int32).getD j 0))) ∈ flatC naT) j hj)) hA
theorem st_s10 {args : Array Value} {s : State} {A : Nat → Prop} (h0 : ∀ w ∈ lw_tbl, w.before args s = true) (hf : ∀ c ∈ flatC naT, c.before args s = true) (hA : ∀ a : Nat, a < s.heap.size → ¬ A a) : ∃ z : Nat × Nat, vk_R "StaveHouse$Scribe" 162 " bass " z.1 s ∧ vk_S 1 [6] [[32, 98, 97, 115, 115, 32]] (fun _ => z.1) (fun _ => z.2) A s s.heap :=
  st_str (by decide) (h0 _ (tb_8 (j := 189) (w := (Jvm.Cond.stringRef "StaveHouse$Scribe" (162 : Nat) " bass ")) rfl)) (hf _ (by decide +kernel)) (hf _ (by decide +kernel)) (hf _ (by decide +kernel)) (hf _ (by decide +kernel)) (fun j hj => hf _ ((by decide +kernel : ∀ j : Nat, j < 6 → (Cond.eq (.elem (.field (Term.string "StaveHouse$Scribe" 162) "java/lang/String" "value" "[B") (.int (Int32.ofNat j))) (.int (([32, 98, 97, 115, 115, 32] : List Int32).getD j 0))) ∈ flatC naT) j hj)) hA
theorem st_s11 {args : Array Value} {s : State} {A : Nat → Prop} (h0 : ∀ w ∈ lw_tbl, w.before args s = true) (hf : ∀ c ∈ flatC naT, c.before args s = true) (hA : ∀ a : Nat, a < s.heap.size → ¬ A a) : ∃ z : Nat × Nat, vk_R "StaveHouse$Scribe" 167 " {\n" z.1 s ∧ vk_S 1 [3] [[32, 123, 10]] (fun _ => z.1) (fun _ => z.2) A s s.heap :=
  st_str (by decide) (h0 _ (tb_8 (j := 190) (w := (Jvm.Cond.stringRef "StaveHouse$Scribe" (167 : Nat) " {\n")) rfl)) (hf _ (by decide +kernel)) (hf _ (by decide +kernel)) (hf _ (by decide +kernel)) (hf _ (by decide +kernel)) (fun j hj => hf _ ((by decide +kernel : ∀ j : Nat, j < 3 → (Cond.eq (.elem (.field (Term.string "StaveHouse$Scribe" 167) "java/lang/String" "value" "[B") (.int (Int32.ofNat j))) (.int (([32, 123, 10] : List Int32).getD j 0))) ∈ flatC naT) j hj)) hA
theorem st_s12 {args : Array Value} {s : State} {A : Nat → Prop} (h0 : ∀ w ∈ lw_tbl, w.before args s = true) (hf : ∀ c ∈ flatC naT, c.before args s = true) (hA : ∀ a : Nat, a < s.heap.size → ¬ A a) : ∃ z : Nat × Nat, vk_R "StaveHouse$Scribe" 178 "}\n" z.1 s ∧ vk_S 1 [2] [[125, 10]] (fun _ => z.1) (fun _ => z.2) A s s.heap :=
  st_str (by decide) (h0 _ (tb_8 (j := 233) (w := (Jvm.Cond.stringRef "StaveHouse$Scribe" (178 : Nat) "}\n")) rfl)) (hf _ (by decide +kernel)) (hf _ (by decide +kernel)) (hf _ (by decide +kernel)) (hf _ (by decide +kernel)) (fun j hj => hf _ ((by decide +kernel : ∀ j : Nat, j < 2 → (Cond.eq (.elem (.field (Term.string "StaveHouse$Scribe" 178) "java/lang/String" "value" "[B") (.int (Int32.ofNat j))) (.int (([125, 10] : List Int32).getD j 0))) ∈ flatC naT) j hj)) hA
theorem st_s13 {args : Array Value} {s : State} {A : Nat → Prop} (h0 : ∀ w ∈ lw_tbl, w.before args s = true) (hf : ∀ c ∈ flatC naT, c.before args s = true) (hA : ∀ a : Nat, a < s.heap.size → ¬ A a) : ∃ z : Nat × Nat, vk_R "StaveHouse$Scribe" 194 "|\n" z.1 s ∧ vk_S 1 [2] [[124, 10]] (fun _ => z.1) (fun _ => z.2) A s s.heap :=
  st_str (by decide) (h0 _ (tb_8 (j := 221) (w := (Jvm.Cond.stringRef "StaveHouse$Scribe" (194 : Nat) "|\n")) rfl)) (hf _ (by decide +kernel)) (hf _ (by decide +kernel)) (hf _ (by decide +kernel)) (hf _ (by decide +kernel)) (fun j hj => hf _ ((by decide +kernel : ∀ j : Nat, j < 2 → (Cond.eq (.elem (.field (Term.string "StaveHouse$Scribe" 194) "java/lang/String" "value" "[B") (.int (Int32.ofNat j))) (.int (([124, 10] : List Int32).getD j 0))) ∈ flatC naT) j hj)) hA
theorem st_s14 {args : Array Value} {s : State} {A : Nat → Prop} (h0 : ∀ w ∈ lw_tbl, w.before args s = true) (hf : ∀ c ∈ flatC naT, c.before args s = true) (hA : ∀ a : Nat, a < s.heap.size → ¬ A a) : ∃ z : Nat × Nat, vk_R "StaveHouse$Scribe" 200 "<" z.1 s ∧ vk_S 1 [1] [[60]] (fun _ => z.1) (fun _ => z.2) A s s.heap :=
  st_str (by decide) (h0 _ (tb_8 (j := 208) (w := (Jvm.Cond.stringRef "StaveHouse$Scribe" (200 : Nat) "<")) rfl)) (hf _ (by decide +kernel)) (hf _ (by decide +kernel)) (hf _ (by decide +kernel)) (hf _ (by decide +kernel)) (fun j hj => hf _ ((by decide +kernel : ∀ j : Nat, j < 1 → (Cond.eq (.elem (.field (Term.string "StaveHouse$Scribe" 200) "java/lang/String" "value" "[B") (.int (Int32.ofNat j))) (.int (([60] : List Int32).getD j 0))) ∈ flatC naT) j hj)) hA
theorem st_s15 {args : Array Value} {s : State} {A : Nat → Prop} (h0 : ∀ w ∈ lw_tbl, w.before args s = true) (hf : ∀ c ∈ flatC naT, c.before args s = true) (hA : ∀ a : Nat, a < s.heap.size → ¬ A a) : ∃ z : Nat × Nat, vk_R "StaveHouse$Scribe" 202 "" z.1 s ∧ vk_S 1 [0] [[]] (fun _ => z.1) (fun _ => z.2) A s s.heap :=
  st_str (by decide) (h0 _ (tb_8 (j := 209) (w := (Jvm.Cond.stringRef "StaveHouse$Scribe" (202 : Nat) "")) rfl)) (hf _ (by decide +kernel)) (hf _ (by decide +kernel)) (hf _ (by decide +kernel)) (hf _ (by decide +kernel)) (fun j hj => hf _ ((by decide +kernel : ∀ j : Nat, j < 0 → (Cond.eq (.elem (.field (Term.string "StaveHouse$Scribe" 202) "java/lang/String" "value" "[B") (.int (Int32.ofNat j))) (.int (([] : List Int32).getD j 0))) ∈ flatC naT) j hj)) hA
theorem st_s16 {args : Array Value} {s : State} {A : Nat → Prop} (h0 : ∀ w ∈ lw_tbl, w.before args s = true) (hf : ∀ c ∈ flatC naT, c.before args s = true) (hA : ∀ a : Nat, a < s.heap.size → ¬ A a) : ∃ z : Nat × Nat, vk_R "StaveHouse$Scribe" 204 " " z.1 s ∧ vk_S 1 [1] [[32]] (fun _ => z.1) (fun _ => z.2) A s s.heap :=
  st_str (by decide) (h0 _ (tb_8 (j := 210) (w := (Jvm.Cond.stringRef "StaveHouse$Scribe" (204 : Nat) " ")) rfl)) (hf _ (by decide +kernel)) (hf _ (by decide +kernel)) (hf _ (by decide +kernel)) (hf _ (by decide +kernel)) (fun j hj => hf _ ((by decide +kernel : ∀ j : Nat, j < 1 → (Cond.eq (.elem (.field (Term.string "StaveHouse$Scribe" 204) "java/lang/String" "value" "[B") (.int (Int32.ofNat j))) (.int (([32] : List Int32).getD j 0))) ∈ flatC naT) j hj)) hA
theorem st_s17 {args : Array Value} {s : State} {A : Nat → Prop} (h0 : ∀ w ∈ lw_tbl, w.before args s = true) (hf : ∀ c ∈ flatC naT, c.before args s = true) (hA : ∀ a : Nat, a < s.heap.size → ¬ A a) : ∃ z : Nat × Nat, vk_R "StaveHouse$Scribe" 215 ">:" z.1 s ∧ vk_S 1 [2] [[62, 58]] (fun _ => z.1) (fun _ => z.2) A s s.heap :=
  st_str (by decide) (h0 _ (tb_8 (j := 218) (w := (Jvm.Cond.stringRef "StaveHouse$Scribe" (215 : Nat) ">:")) rfl)) (hf _ (by decide +kernel)) (hf _ (by decide +kernel)) (hf _ (by decide +kernel)) (hf _ (by decide +kernel)) (fun j hj => hf _ ((by decide +kernel : ∀ j : Nat, j < 2 → (Cond.eq (.elem (.field (Term.string "StaveHouse$Scribe" 215) "java/lang/String" "value" "[B") (.int (Int32.ofNat j))) (.int (([62, 58] : List Int32).getD j 0))) ∈ flatC naT) j hj)) hA
theorem st_s18 {args : Array Value} {s : State} {A : Nat → Prop} (h0 : ∀ w ∈ lw_tbl, w.before args s = true) (hf : ∀ c ∈ flatC naT, c.before args s = true) (hA : ∀ a : Nat, a < s.heap.size → ¬ A a) : ∃ z : Nat × Nat, vk_R "StaveHouse$Scribe" 217 ":" z.1 s ∧ vk_S 1 [1] [[58]] (fun _ => z.1) (fun _ => z.2) A s s.heap :=
  st_str (by decide) (h0 _ (tb_8 (j := 219) (w := (Jvm.Cond.stringRef "StaveHouse$Scribe" (217 : Nat) ":")) rfl)) (hf _ (by decide +kernel)) (hf _ (by decide +kernel)) (hf _ (by decide +kernel)) (hf _ (by decide +kernel)) (fun j hj => hf _ ((by decide +kernel : ∀ j : Nat, j < 1 → (Cond.eq (.elem (.field (Term.string "StaveHouse$Scribe" 217) "java/lang/String" "value" "[B") (.int (Int32.ofNat j))) (.int (([58] : List Int32).getD j 0))) ∈ flatC naT) j hj)) hA
theorem st_s19 {args : Array Value} {s : State} {A : Nat → Prop} (h0 : ∀ w ∈ lw_tbl, w.before args s = true) (hf : ∀ c ∈ flatC naT, c.before args s = true) (hA : ∀ a : Nat, a < s.heap.size → ¬ A a) : ∃ z : Nat × Nat, vk_R "StaveHouse$Scribe" 219 "~ " z.1 s ∧ vk_S 1 [2] [[126, 32]] (fun _ => z.1) (fun _ => z.2) A s s.heap :=
  st_str (by decide) (h0 _ (tb_8 (j := 220) (w := (Jvm.Cond.stringRef "StaveHouse$Scribe" (219 : Nat) "~ ")) rfl)) (hf _ (by decide +kernel)) (hf _ (by decide +kernel)) (hf _ (by decide +kernel)) (hf _ (by decide +kernel)) (fun j hj => hf _ ((by decide +kernel : ∀ j : Nat, j < 2 → (Cond.eq (.elem (.field (Term.string "StaveHouse$Scribe" 219) "java/lang/String" "value" "[B") (.int (Int32.ofNat j))) (.int (([126, 32] : List Int32).getD j 0))) ∈ flatC naT) j hj)) hA
theorem st_s20 {args : Array Value} {s : State} {A : Nat → Prop} (h0 : ∀ w ∈ lw_tbl, w.before args s = true) (hf : ∀ c ∈ flatC naT, c.before args s = true) (hA : ∀ a : Nat, a < s.heap.size → ¬ A a) : ∃ z : Nat × Nat, vk_R "StaveHouse$Scribe" 221 "cdefgab" z.1 s ∧ vk_S 1 [7] [[99, 100, 101, 102, 103, 97, 98]] (fun _ => z.1) (fun _ => z.2) A s s.heap :=
  st_str (by decide) (h0 _ (tb_8 (j := 215) (w := (Jvm.Cond.stringRef "StaveHouse$Scribe" (221 : Nat) "cdefgab")) rfl)) (hf _ (by decide +kernel)) (hf _ (by decide +kernel)) (hf _ (by decide +kernel)) (hf _ (by decide +kernel)) (fun j hj => hf _ ((by decide +kernel : ∀ j : Nat, j < 7 → (Cond.eq (.elem (.field (Term.string "StaveHouse$Scribe" 221) "java/lang/String" "value" "[B") (.int (Int32.ofNat j))) (.int (([99, 100, 101, 102, 103, 97, 98] : List Int32).getD j 0))) ∈ flatC naT) j hj)) hA
theorem st_s21 {args : Array Value} {s : State} {A : Nat → Prop} (h0 : ∀ w ∈ lw_tbl, w.before args s = true) (hf : ∀ c ∈ flatC naT, c.before args s = true) (hA : ∀ a : Nat, a < s.heap.size → ¬ A a) : ∃ z : Nat × Nat, vk_R "StaveHouse$SoundFile" 96 "MThd" z.1 s ∧ vk_S 1 [4] [[77, 84, 104, 100]] (fun _ => z.1) (fun _ => z.2) A s s.heap :=
  st_str (by decide) (h0 _ (tb_8 (j := 42) (w := (Jvm.Cond.stringRef "StaveHouse$SoundFile" (96 : Nat) "MThd")) rfl)) (hf _ (by decide +kernel)) (hf _ (by decide +kernel)) (hf _ (by decide +kernel)) (hf _ (by decide +kernel)) (fun j hj => hf _ ((by decide +kernel : ∀ j : Nat, j < 4 → (Cond.eq (.elem (.field (Term.string "StaveHouse$SoundFile" 96) "java/lang/String" "value" "[B") (.int (Int32.ofNat j))) (.int (([77, 84, 104, 100] : List Int32).getD j 0))) ∈ flatC naT) j hj)) hA
theorem st_s22 {args : Array Value} {s : State} {A : Nat → Prop} (h0 : ∀ w ∈ lw_tbl, w.before args s = true) (hf : ∀ c ∈ flatC naT, c.before args s = true) (hA : ∀ a : Nat, a < s.heap.size → ¬ A a) : ∃ z : Nat × Nat, vk_R "StaveHouse$Tokens" 47 "{}[]<>():/.|~!'^-%=" z.1 s ∧ vk_S 1 [19] [[123, 125, 91, 93, 60, 62, 40, 41, 58, 47, 46, 124, 126, 33, 39, 94, 45, 37, 61]] (fun _ => z.1) (fun _ => z.2) A s s.heap :=
  st_str (by decide) (h0 _ (tb_3 (j := 66) (w := (Jvm.Cond.stringRef "StaveHouse$Tokens" (47 : Nat) "{}[]<>():/.|~!'^-%=")) rfl)) (hf _ (by decide +kernel)) (hf _ (by decide +kernel)) (hf _ (by decide +kernel)) (hf _ (by decide +kernel)) (fun j hj => hf _ ((by decide +kernel : ∀ j : Nat, j < 19 → (Cond.eq (.elem (.field (Term.string "StaveHouse$Tokens" 47) "java/lang/String" "value" "[B") (.int (Int32.ofNat j))) (.int (([123, 125, 91, 93, 60, 62, 40, 41, 58, 47, 46, 124, 126, 33, 39, 94, 45, 37, 61] : List Int32).getD j 0))) ∈ flatC naT) j hj)) hA
theorem st_s23 {args : Array Value} {s : State} {A : Nat → Prop} (h0 : ∀ w ∈ lw_tbl, w.before args s = true) (hf : ∀ c ∈ flatC naT, c.before args s = true) (hA : ∀ a : Nat, a < s.heap.size → ¬ A a) : ∃ z : Nat × Nat, vk_R "StaveHouseModel" 65 "treble" z.1 s ∧ vk_S 1 [6] [[116, 114, 101, 98, 108, 101]] (fun _ => z.1) (fun _ => z.2) A s s.heap :=
  st_str (by decide) (h0 _ (tb_10 (j := 190) (w := (Jvm.Cond.stringRef "StaveHouseModel" (65 : Nat) "treble")) rfl)) (hf _ (by decide +kernel)) (hf _ (by decide +kernel)) (hf _ (by decide +kernel)) (hf _ (by decide +kernel)) (fun j hj => hf _ ((by decide +kernel : ∀ j : Nat, j < 6 → (Cond.eq (.elem (.field (Term.string "StaveHouseModel" 65) "java/lang/String" "value" "[B") (.int (Int32.ofNat j))) (.int (([116, 114, 101, 98, 108, 101] : List Int32).getD j 0))) ∈ flatC naT) j hj)) hA
theorem st_s24 {args : Array Value} {s : State} {A : Nat → Prop} (h0 : ∀ w ∈ lw_tbl, w.before args s = true) (hf : ∀ c ∈ flatC naT, c.before args s = true) (hA : ∀ a : Nat, a < s.heap.size → ¬ A a) : ∃ z : Nat × Nat, vk_R "StaveHouseModel" 71 "bass" z.1 s ∧ vk_S 1 [4] [[98, 97, 115, 115]] (fun _ => z.1) (fun _ => z.2) A s s.heap :=
  st_str (by decide) (h0 _ (tb_10 (j := 196) (w := (Jvm.Cond.stringRef "StaveHouseModel" (71 : Nat) "bass")) rfl)) (hf _ (by decide +kernel)) (hf _ (by decide +kernel)) (hf _ (by decide +kernel)) (hf _ (by decide +kernel)) (fun j hj => hf _ ((by decide +kernel : ∀ j : Nat, j < 4 → (Cond.eq (.elem (.field (Term.string "StaveHouseModel" 71) "java/lang/String" "value" "[B") (.int (Int32.ofNat j))) (.int (([98, 97, 115, 115] : List Int32).getD j 0))) ∈ flatC naT) j hj)) hA
theorem st_s25 {args : Array Value} {s : State} {A : Nat → Prop} (h0 : ∀ w ∈ lw_tbl, w.before args s = true) (hf : ∀ c ∈ flatC naT, c.before args s = true) (hA : ∀ a : Nat, a < s.heap.size → ¬ A a) : ∃ z : Nat × Nat, vk_R "StaveHouseModel" 73 "alto" z.1 s ∧ vk_S 1 [4] [[97, 108, 116, 111]] (fun _ => z.1) (fun _ => z.2) A s s.heap :=
  st_str (by decide) (h0 _ (tb_10 (j := 197) (w := (Jvm.Cond.stringRef "StaveHouseModel" (73 : Nat) "alto")) rfl)) (hf _ (by decide +kernel)) (hf _ (by decide +kernel)) (hf _ (by decide +kernel)) (hf _ (by decide +kernel)) (fun j hj => hf _ ((by decide +kernel : ∀ j : Nat, j < 4 → (Cond.eq (.elem (.field (Term.string "StaveHouseModel" 73) "java/lang/String" "value" "[B") (.int (Int32.ofNat j))) (.int (([97, 108, 116, 111] : List Int32).getD j 0))) ∈ flatC naT) j hj)) hA
theorem st_s26 {args : Array Value} {s : State} {A : Nat → Prop} (h0 : ∀ w ∈ lw_tbl, w.before args s = true) (hf : ∀ c ∈ flatC naT, c.before args s = true) (hA : ∀ a : Nat, a < s.heap.size → ¬ A a) : ∃ z : Nat × Nat, vk_R "StaveHouseModel" 75 "tenor" z.1 s ∧ vk_S 1 [5] [[116, 101, 110, 111, 114]] (fun _ => z.1) (fun _ => z.2) A s s.heap :=
  st_str (by decide) (h0 _ (tb_10 (j := 198) (w := (Jvm.Cond.stringRef "StaveHouseModel" (75 : Nat) "tenor")) rfl)) (hf _ (by decide +kernel)) (hf _ (by decide +kernel)) (hf _ (by decide +kernel)) (hf _ (by decide +kernel)) (fun j hj => hf _ ((by decide +kernel : ∀ j : Nat, j < 5 → (Cond.eq (.elem (.field (Term.string "StaveHouseModel" 75) "java/lang/String" "value" "[B") (.int (Int32.ofNat j))) (.int (([116, 101, 110, 111, 114] : List Int32).getD j 0))) ∈ flatC naT) j hj)) hA
theorem st_s27 {args : Array Value} {s : State} {A : Nat → Prop} (h0 : ∀ w ∈ lw_tbl, w.before args s = true) (hf : ∀ c ∈ flatC naT, c.before args s = true) (hA : ∀ a : Nat, a < s.heap.size → ¬ A a) : ∃ z : Nat × Nat, vk_R "StaveHouseModel" 80 "ppp" z.1 s ∧ vk_S 1 [3] [[112, 112, 112]] (fun _ => z.1) (fun _ => z.2) A s s.heap :=
  st_str (by decide) (h0 _ (tb_10 (j := 199) (w := (Jvm.Cond.stringRef "StaveHouseModel" (80 : Nat) "ppp")) rfl)) (hf _ (by decide +kernel)) (hf _ (by decide +kernel)) (hf _ (by decide +kernel)) (hf _ (by decide +kernel)) (fun j hj => hf _ ((by decide +kernel : ∀ j : Nat, j < 3 → (Cond.eq (.elem (.field (Term.string "StaveHouseModel" 80) "java/lang/String" "value" "[B") (.int (Int32.ofNat j))) (.int (([112, 112, 112] : List Int32).getD j 0))) ∈ flatC naT) j hj)) hA
theorem st_s28 {args : Array Value} {s : State} {A : Nat → Prop} (h0 : ∀ w ∈ lw_tbl, w.before args s = true) (hf : ∀ c ∈ flatC naT, c.before args s = true) (hA : ∀ a : Nat, a < s.heap.size → ¬ A a) : ∃ z : Nat × Nat, vk_R "StaveHouseModel" 82 "pp" z.1 s ∧ vk_S 1 [2] [[112, 112]] (fun _ => z.1) (fun _ => z.2) A s s.heap :=
  st_str (by decide) (h0 _ (tb_10 (j := 200) (w := (Jvm.Cond.stringRef "StaveHouseModel" (82 : Nat) "pp")) rfl)) (hf _ (by decide +kernel)) (hf _ (by decide +kernel)) (hf _ (by decide +kernel)) (hf _ (by decide +kernel)) (fun j hj => hf _ ((by decide +kernel : ∀ j : Nat, j < 2 → (Cond.eq (.elem (.field (Term.string "StaveHouseModel" 82) "java/lang/String" "value" "[B") (.int (Int32.ofNat j))) (.int (([112, 112] : List Int32).getD j 0))) ∈ flatC naT) j hj)) hA
theorem st_s29 {args : Array Value} {s : State} {A : Nat → Prop} (h0 : ∀ w ∈ lw_tbl, w.before args s = true) (hf : ∀ c ∈ flatC naT, c.before args s = true) (hA : ∀ a : Nat, a < s.heap.size → ¬ A a) : ∃ z : Nat × Nat, vk_R "StaveHouseModel" 84 "p" z.1 s ∧ vk_S 1 [1] [[112]] (fun _ => z.1) (fun _ => z.2) A s s.heap :=
  st_str (by decide) (h0 _ (tb_10 (j := 201) (w := (Jvm.Cond.stringRef "StaveHouseModel" (84 : Nat) "p")) rfl)) (hf _ (by decide +kernel)) (hf _ (by decide +kernel)) (hf _ (by decide +kernel)) (hf _ (by decide +kernel)) (fun j hj => hf _ ((by decide +kernel : ∀ j : Nat, j < 1 → (Cond.eq (.elem (.field (Term.string "StaveHouseModel" 84) "java/lang/String" "value" "[B") (.int (Int32.ofNat j))) (.int (([112] : List Int32).getD j 0))) ∈ flatC naT) j hj)) hA
theorem st_s30 {args : Array Value} {s : State} {A : Nat → Prop} (h0 : ∀ w ∈ lw_tbl, w.before args s = true) (hf : ∀ c ∈ flatC naT, c.before args s = true) (hA : ∀ a : Nat, a < s.heap.size → ¬ A a) : ∃ z : Nat × Nat, vk_R "StaveHouseModel" 86 "mp" z.1 s ∧ vk_S 1 [2] [[109, 112]] (fun _ => z.1) (fun _ => z.2) A s s.heap :=
  st_str (by decide) (h0 _ (tb_10 (j := 202) (w := (Jvm.Cond.stringRef "StaveHouseModel" (86 : Nat) "mp")) rfl)) (hf _ (by decide +kernel)) (hf _ (by decide +kernel)) (hf _ (by decide +kernel)) (hf _ (by decide +kernel)) (fun j hj => hf _ ((by decide +kernel : ∀ j : Nat, j < 2 → (Cond.eq (.elem (.field (Term.string "StaveHouseModel" 86) "java/lang/String" "value" "[B") (.int (Int32.ofNat j))) (.int (([109, 112] : List Int32).getD j 0))) ∈ flatC naT) j hj)) hA
theorem st_s31 {args : Array Value} {s : State} {A : Nat → Prop} (h0 : ∀ w ∈ lw_tbl, w.before args s = true) (hf : ∀ c ∈ flatC naT, c.before args s = true) (hA : ∀ a : Nat, a < s.heap.size → ¬ A a) : ∃ z : Nat × Nat, vk_R "StaveHouseModel" 88 "mf" z.1 s ∧ vk_S 1 [2] [[109, 102]] (fun _ => z.1) (fun _ => z.2) A s s.heap :=
  st_str (by decide) (h0 _ (tb_10 (j := 203) (w := (Jvm.Cond.stringRef "StaveHouseModel" (88 : Nat) "mf")) rfl)) (hf _ (by decide +kernel)) (hf _ (by decide +kernel)) (hf _ (by decide +kernel)) (hf _ (by decide +kernel)) (fun j hj => hf _ ((by decide +kernel : ∀ j : Nat, j < 2 → (Cond.eq (.elem (.field (Term.string "StaveHouseModel" 88) "java/lang/String" "value" "[B") (.int (Int32.ofNat j))) (.int (([109, 102] : List Int32).getD j 0))) ∈ flatC naT) j hj)) hA
theorem st_s32 {args : Array Value} {s : State} {A : Nat → Prop} (h0 : ∀ w ∈ lw_tbl, w.before args s = true) (hf : ∀ c ∈ flatC naT, c.before args s = true) (hA : ∀ a : Nat, a < s.heap.size → ¬ A a) : ∃ z : Nat × Nat, vk_R "StaveHouseModel" 90 "f" z.1 s ∧ vk_S 1 [1] [[102]] (fun _ => z.1) (fun _ => z.2) A s s.heap :=
  st_str (by decide) (h0 _ (tb_10 (j := 204) (w := (Jvm.Cond.stringRef "StaveHouseModel" (90 : Nat) "f")) rfl)) (hf _ (by decide +kernel)) (hf _ (by decide +kernel)) (hf _ (by decide +kernel)) (hf _ (by decide +kernel)) (fun j hj => hf _ ((by decide +kernel : ∀ j : Nat, j < 1 → (Cond.eq (.elem (.field (Term.string "StaveHouseModel" 90) "java/lang/String" "value" "[B") (.int (Int32.ofNat j))) (.int (([102] : List Int32).getD j 0))) ∈ flatC naT) j hj)) hA
theorem st_s33 {args : Array Value} {s : State} {A : Nat → Prop} (h0 : ∀ w ∈ lw_tbl, w.before args s = true) (hf : ∀ c ∈ flatC naT, c.before args s = true) (hA : ∀ a : Nat, a < s.heap.size → ¬ A a) : ∃ z : Nat × Nat, vk_R "StaveHouseModel" 92 "ff" z.1 s ∧ vk_S 1 [2] [[102, 102]] (fun _ => z.1) (fun _ => z.2) A s s.heap :=
  st_str (by decide) (h0 _ (tb_10 (j := 205) (w := (Jvm.Cond.stringRef "StaveHouseModel" (92 : Nat) "ff")) rfl)) (hf _ (by decide +kernel)) (hf _ (by decide +kernel)) (hf _ (by decide +kernel)) (hf _ (by decide +kernel)) (fun j hj => hf _ ((by decide +kernel : ∀ j : Nat, j < 2 → (Cond.eq (.elem (.field (Term.string "StaveHouseModel" 92) "java/lang/String" "value" "[B") (.int (Int32.ofNat j))) (.int (([102, 102] : List Int32).getD j 0))) ∈ flatC naT) j hj)) hA
theorem st_s34 {args : Array Value} {s : State} {A : Nat → Prop} (h0 : ∀ w ∈ lw_tbl, w.before args s = true) (hf : ∀ c ∈ flatC naT, c.before args s = true) (hA : ∀ a : Nat, a < s.heap.size → ¬ A a) : ∃ z : Nat × Nat, vk_R "StaveHouseModel" 94 "fff" z.1 s ∧ vk_S 1 [3] [[102, 102, 102]] (fun _ => z.1) (fun _ => z.2) A s s.heap :=
  st_str (by decide) (h0 _ (tb_10 (j := 206) (w := (Jvm.Cond.stringRef "StaveHouseModel" (94 : Nat) "fff")) rfl)) (hf _ (by decide +kernel)) (hf _ (by decide +kernel)) (hf _ (by decide +kernel)) (hf _ (by decide +kernel)) (fun j hj => hf _ ((by decide +kernel : ∀ j : Nat, j < 3 → (Cond.eq (.elem (.field (Term.string "StaveHouseModel" 94) "java/lang/String" "value" "[B") (.int (Int32.ofNat j))) (.int (([102, 102, 102] : List Int32).getD j 0))) ∈ flatC naT) j hj)) hA
theorem st_s35 {args : Array Value} {s : State} {A : Nat → Prop} (h0 : ∀ w ∈ lw_tbl, w.before args s = true) (hf : ∀ c ∈ flatC naT, c.before args s = true) (hA : ∀ a : Nat, a < s.heap.size → ¬ A a) : ∃ z : Nat × Nat, vk_R "StaveHouseModel" 346 "{}[]<>():/.|~!'^-%=" z.1 s ∧ vk_S 1 [19] [[123, 125, 91, 93, 60, 62, 40, 41, 58, 47, 46, 124, 126, 33, 39, 94, 45, 37, 61]] (fun _ => z.1) (fun _ => z.2) A s s.heap :=
  st_str (by decide) (h0 _ (tb_14 (j := 104) (w := (Jvm.Cond.stringRef "StaveHouseModel" (346 : Nat) "{}[]<>():/.|~!'^-%=")) rfl)) (hf _ (by decide +kernel)) (hf _ (by decide +kernel)) (hf _ (by decide +kernel)) (hf _ (by decide +kernel)) (fun j hj => hf _ ((by decide +kernel : ∀ j : Nat, j < 19 → (Cond.eq (.elem (.field (Term.string "StaveHouseModel" 346) "java/lang/String" "value" "[B") (.int (Int32.ofNat j))) (.int (([123, 125, 91, 93, 60, 62, 40, 41, 58, 47, 46, 124, 126, 33, 39, 94, 45, 37, 61] : List Int32).getD j 0))) ∈ flatC naT) j hj)) hA
theorem st_s36 {args : Array Value} {s : State} {A : Nat → Prop} (h0 : ∀ w ∈ lw_tbl, w.before args s = true) (hf : ∀ c ∈ flatC naT, c.before args s = true) (hA : ∀ a : Nat, a < s.heap.size → ¬ A a) : ∃ z : Nat × Nat, vk_R "StaveHouseModel" 969 "MThd" z.1 s ∧ vk_S 1 [4] [[77, 84, 104, 100]] (fun _ => z.1) (fun _ => z.2) A s s.heap :=
  st_str (by decide) (h0 _ (tb_12 (j := 194) (w := (Jvm.Cond.stringRef "StaveHouseModel" (969 : Nat) "MThd")) rfl)) (hf _ (by decide +kernel)) (hf _ (by decide +kernel)) (hf _ (by decide +kernel)) (hf _ (by decide +kernel)) (fun j hj => hf _ ((by decide +kernel : ∀ j : Nat, j < 4 → (Cond.eq (.elem (.field (Term.string "StaveHouseModel" 969) "java/lang/String" "value" "[B") (.int (Int32.ofNat j))) (.int (([77, 84, 104, 100] : List Int32).getD j 0))) ∈ flatC naT) j hj)) hA
theorem st_s37 {args : Array Value} {s : State} {A : Nat → Prop} (h0 : ∀ w ∈ lw_tbl, w.before args s = true) (hf : ∀ c ∈ flatC naT, c.before args s = true) (hA : ∀ a : Nat, a < s.heap.size → ¬ A a) : ∃ z : Nat × Nat, vk_R "StaveHouseModel" 987 "MTrk" z.1 s ∧ vk_S 1 [4] [[77, 84, 114, 107]] (fun _ => z.1) (fun _ => z.2) A s s.heap :=
  st_str (by decide) (h0 _ (tb_12 (j := 211) (w := (Jvm.Cond.stringRef "StaveHouseModel" (987 : Nat) "MTrk")) rfl)) (hf _ (by decide +kernel)) (hf _ (by decide +kernel)) (hf _ (by decide +kernel)) (hf _ (by decide +kernel)) (fun j hj => hf _ ((by decide +kernel : ∀ j : Nat, j < 4 → (Cond.eq (.elem (.field (Term.string "StaveHouseModel" 987) "java/lang/String" "value" "[B") (.int (Int32.ofNat j))) (.int (([77, 84, 114, 107] : List Int32).getD j 0))) ∈ flatC naT) j hj)) hA
theorem st_s38 {args : Array Value} {s : State} {A : Nat → Prop} (h0 : ∀ w ∈ lw_tbl, w.before args s = true) (hf : ∀ c ∈ flatC naT, c.before args s = true) (hA : ∀ a : Nat, a < s.heap.size → ¬ A a) : ∃ z : Nat × Nat, vk_R "StaveHouseModel" 1091 "key " z.1 s ∧ vk_S 1 [4] [[107, 101, 121, 32]] (fun _ => z.1) (fun _ => z.2) A s s.heap :=
  st_str (by decide) (h0 _ (tb_13 (j := 111) (w := (Jvm.Cond.stringRef "StaveHouseModel" (1091 : Nat) "key ")) rfl)) (hf _ (by decide +kernel)) (hf _ (by decide +kernel)) (hf _ (by decide +kernel)) (hf _ (by decide +kernel)) (fun j hj => hf _ ((by decide +kernel : ∀ j : Nat, j < 4 → (Cond.eq (.elem (.field (Term.string "StaveHouseModel" 1091) "java/lang/String" "value" "[B") (.int (Int32.ofNat j))) (.int (([107, 101, 121, 32] : List Int32).getD j 0))) ∈ flatC naT) j hj)) hA
theorem st_s39 {args : Array Value} {s : State} {A : Nat → Prop} (h0 : ∀ w ∈ lw_tbl, w.before args s = true) (hf : ∀ c ∈ flatC naT, c.before args s = true) (hA : ∀ a : Nat, a < s.heap.size → ¬ A a) : ∃ z : Nat × Nat, vk_R "StaveHouseModel" 1096 " minor" z.1 s ∧ vk_S 1 [6] [[32, 109, 105, 110, 111, 114]] (fun _ => z.1) (fun _ => z.2) A s s.heap :=
  st_str (by decide) (h0 _ (tb_13 (j := 116) (w := (Jvm.Cond.stringRef "StaveHouseModel" (1096 : Nat) " minor")) rfl)) (hf _ (by decide +kernel)) (hf _ (by decide +kernel)) (hf _ (by decide +kernel)) (hf _ (by decide +kernel)) (fun j hj => hf _ ((by decide +kernel : ∀ j : Nat, j < 6 → (Cond.eq (.elem (.field (Term.string "StaveHouseModel" 1096) "java/lang/String" "value" "[B") (.int (Int32.ofNat j))) (.int (([32, 109, 105, 110, 111, 114] : List Int32).getD j 0))) ∈ flatC naT) j hj)) hA
theorem st_s40 {args : Array Value} {s : State} {A : Nat → Prop} (h0 : ∀ w ∈ lw_tbl, w.before args s = true) (hf : ∀ c ∈ flatC naT, c.before args s = true) (hA : ∀ a : Nat, a < s.heap.size → ¬ A a) : ∃ z : Nat × Nat, vk_R "StaveHouseModel" 1098 " major" z.1 s ∧ vk_S 1 [6] [[32, 109, 97, 106, 111, 114]] (fun _ => z.1) (fun _ => z.2) A s s.heap :=
  st_str (by decide) (h0 _ (tb_13 (j := 117) (w := (Jvm.Cond.stringRef "StaveHouseModel" (1098 : Nat) " major")) rfl)) (hf _ (by decide +kernel)) (hf _ (by decide +kernel)) (hf _ (by decide +kernel)) (hf _ (by decide +kernel)) (fun j hj => hf _ ((by decide +kernel : ∀ j : Nat, j < 6 → (Cond.eq (.elem (.field (Term.string "StaveHouseModel" 1098) "java/lang/String" "value" "[B") (.int (Int32.ofNat j))) (.int (([32, 109, 97, 106, 111, 114] : List Int32).getD j 0))) ∈ flatC naT) j hj)) hA
theorem st_s41 {args : Array Value} {s : State} {A : Nat → Prop} (h0 : ∀ w ∈ lw_tbl, w.before args s = true) (hf : ∀ c ∈ flatC naT, c.before args s = true) (hA : ∀ a : Nat, a < s.heap.size → ¬ A a) : ∃ z : Nat × Nat, vk_R "StaveHouseModel" 1100 "time " z.1 s ∧ vk_S 1 [5] [[116, 105, 109, 101, 32]] (fun _ => z.1) (fun _ => z.2) A s s.heap :=
  st_str (by decide) (h0 _ (tb_13 (j := 118) (w := (Jvm.Cond.stringRef "StaveHouseModel" (1100 : Nat) "time ")) rfl)) (hf _ (by decide +kernel)) (hf _ (by decide +kernel)) (hf _ (by decide +kernel)) (hf _ (by decide +kernel)) (fun j hj => hf _ ((by decide +kernel : ∀ j : Nat, j < 5 → (Cond.eq (.elem (.field (Term.string "StaveHouseModel" 1100) "java/lang/String" "value" "[B") (.int (Int32.ofNat j))) (.int (([116, 105, 109, 101, 32] : List Int32).getD j 0))) ∈ flatC naT) j hj)) hA
theorem st_s42 {args : Array Value} {s : State} {A : Nat → Prop} (h0 : ∀ w ∈ lw_tbl, w.before args s = true) (hf : ∀ c ∈ flatC naT, c.before args s = true) (hA : ∀ a : Nat, a < s.heap.size → ¬ A a) : ∃ z : Nat × Nat, vk_R "StaveHouseModel" 1102 "tempo " z.1 s ∧ vk_S 1 [6] [[116, 101, 109, 112, 111, 32]] (fun _ => z.1) (fun _ => z.2) A s s.heap :=
  st_str (by decide) (h0 _ (tb_13 (j := 119) (w := (Jvm.Cond.stringRef "StaveHouseModel" (1102 : Nat) "tempo ")) rfl)) (hf _ (by decide +kernel)) (hf _ (by decide +kernel)) (hf _ (by decide +kernel)) (hf _ (by decide +kernel)) (fun j hj => hf _ ((by decide +kernel : ∀ j : Nat, j < 6 → (Cond.eq (.elem (.field (Term.string "StaveHouseModel" 1102) "java/lang/String" "value" "[B") (.int (Int32.ofNat j))) (.int (([116, 101, 109, 112, 111, 32] : List Int32).getD j 0))) ∈ flatC naT) j hj)) hA
theorem st_s43 {args : Array Value} {s : State} {A : Nat → Prop} (h0 : ∀ w ∈ lw_tbl, w.before args s = true) (hf : ∀ c ∈ flatC naT, c.before args s = true) (hA : ∀ a : Nat, a < s.heap.size → ¬ A a) : ∃ z : Nat × Nat, vk_R "StaveHouseModel" 1104 "voice v" z.1 s ∧ vk_S 1 [7] [[118, 111, 105, 99, 101, 32, 118]] (fun _ => z.1) (fun _ => z.2) A s s.heap :=
  st_str (by decide) (h0 _ (tb_13 (j := 124) (w := (Jvm.Cond.stringRef "StaveHouseModel" (1104 : Nat) "voice v")) rfl)) (hf _ (by decide +kernel)) (hf _ (by decide +kernel)) (hf _ (by decide +kernel)) (hf _ (by decide +kernel)) (fun j hj => hf _ ((by decide +kernel : ∀ j : Nat, j < 7 → (Cond.eq (.elem (.field (Term.string "StaveHouseModel" 1104) "java/lang/String" "value" "[B") (.int (Int32.ofNat j))) (.int (([118, 111, 105, 99, 101, 32, 118] : List Int32).getD j 0))) ∈ flatC naT) j hj)) hA
theorem st_s44 {args : Array Value} {s : State} {A : Nat → Prop} (h0 : ∀ w ∈ lw_tbl, w.before args s = true) (hf : ∀ c ∈ flatC naT, c.before args s = true) (hA : ∀ a : Nat, a < s.heap.size → ¬ A a) : ∃ z : Nat × Nat, vk_R "StaveHouseModel" 1106 " treble " z.1 s ∧ vk_S 1 [8] [[32, 116, 114, 101, 98, 108, 101, 32]] (fun _ => z.1) (fun _ => z.2) A s s.heap :=
  st_str (by decide) (h0 _ (tb_13 (j := 125) (w := (Jvm.Cond.stringRef "StaveHouseModel" (1106 : Nat) " treble ")) rfl)) (hf _ (by decide +kernel)) (hf _ (by decide +kernel)) (hf _ (by decide +kernel)) (hf _ (by decide +kernel)) (fun j hj => hf _ ((by decide +kernel : ∀ j : Nat, j < 8 → (Cond.eq (.elem (.field (Term.string "StaveHouseModel" 1106) "java/lang/String" "value" "[B") (.int (Int32.ofNat j))) (.int (([32, 116, 114, 101, 98, 108, 101, 32] : List Int32).getD j 0))) ∈ flatC naT) j hj)) hA
theorem st_s45 {args : Array Value} {s : State} {A : Nat → Prop} (h0 : ∀ w ∈ lw_tbl, w.before args s = true) (hf : ∀ c ∈ flatC naT, c.before args s = true) (hA : ∀ a : Nat, a < s.heap.size → ¬ A a) : ∃ z : Nat × Nat, vk_R "StaveHouseModel" 1108 " bass " z.1 s ∧ vk_S 1 [6] [[32, 98, 97, 115, 115, 32]] (fun _ => z.1) (fun _ => z.2) A s s.heap :=
  st_str (by decide) (h0 _ (tb_13 (j := 126) (w := (Jvm.Cond.stringRef "StaveHouseModel" (1108 : Nat) " bass ")) rfl)) (hf _ (by decide +kernel)) (hf _ (by decide +kernel)) (hf _ (by decide +kernel)) (hf _ (by decide +kernel)) (fun j hj => hf _ ((by decide +kernel : ∀ j : Nat, j < 6 → (Cond.eq (.elem (.field (Term.string "StaveHouseModel" 1108) "java/lang/String" "value" "[B") (.int (Int32.ofNat j))) (.int (([32, 98, 97, 115, 115, 32] : List Int32).getD j 0))) ∈ flatC naT) j hj)) hA
theorem st_s46 {args : Array Value} {s : State} {A : Nat → Prop} (h0 : ∀ w ∈ lw_tbl, w.before args s = true) (hf : ∀ c ∈ flatC naT, c.before args s = true) (hA : ∀ a : Nat, a < s.heap.size → ¬ A a) : ∃ z : Nat × Nat, vk_R "StaveHouseModel" 1110 " {" z.1 s ∧ vk_S 1 [2] [[32, 123]] (fun _ => z.1) (fun _ => z.2) A s s.heap :=
  st_str (by decide) (h0 _ (tb_13 (j := 127) (w := (Jvm.Cond.stringRef "StaveHouseModel" (1110 : Nat) " {")) rfl)) (hf _ (by decide +kernel)) (hf _ (by decide +kernel)) (hf _ (by decide +kernel)) (hf _ (by decide +kernel)) (fun j hj => hf _ ((by decide +kernel : ∀ j : Nat, j < 2 → (Cond.eq (.elem (.field (Term.string "StaveHouseModel" 1110) "java/lang/String" "value" "[B") (.int (Int32.ofNat j))) (.int (([32, 123] : List Int32).getD j 0))) ∈ flatC naT) j hj)) hA
theorem st_s47 {args : Array Value} {s : State} {A : Nat → Prop} (h0 : ∀ w ∈ lw_tbl, w.before args s = true) (hf : ∀ c ∈ flatC naT, c.before args s = true) (hA : ∀ a : Nat, a < s.heap.size → ¬ A a) : ∃ z : Nat × Nat, vk_R "StaveHouseModel" 1116 "cdefgab" z.1 s ∧ vk_S 1 [7] [[99, 100, 101, 102, 103, 97, 98]] (fun _ => z.1) (fun _ => z.2) A s s.heap :=
  st_str (by decide) (h0 _ (tb_13 (j := 202) (w := (Jvm.Cond.stringRef "StaveHouseModel" (1116 : Nat) "cdefgab")) rfl)) (hf _ (by decide +kernel)) (hf _ (by decide +kernel)) (hf _ (by decide +kernel)) (hf _ (by decide +kernel)) (fun j hj => hf _ ((by decide +kernel : ∀ j : Nat, j < 7 → (Cond.eq (.elem (.field (Term.string "StaveHouseModel" 1116) "java/lang/String" "value" "[B") (.int (Int32.ofNat j))) (.int (([99, 100, 101, 102, 103, 97, 98] : List Int32).getD j 0))) ∈ flatC naT) j hj)) hA
theorem st_strs {args : Array Value} {s : State} {A : Nat → Prop} (h0 : ∀ w ∈ lw_tbl, w.before args s = true) (hf : ∀ c ∈ flatC naT, c.before args s = true) (hA : ∀ a : Nat, a < s.heap.size → ¬ A a) : ∀ i : Nat, ∃ z : Nat × Nat, ∀ q : String × Nat × String × Nat × List Int32, strL[i]? = some q → vk_R q.1 q.2.1 q.2.2.1 z.1 s ∧ vk_S 1 [q.2.2.2.1] [q.2.2.2.2] (fun _ => z.1) (fun _ => z.2) A s s.heap
  | 0 => by
    obtain ⟨z, h⟩ := st_s0 (A := A) h0 hf hA
    exact ⟨z, fun q hq => by cases hq; exact h⟩
  | 1 => by
    obtain ⟨z, h⟩ := st_s1 (A := A) h0 hf hA
    exact ⟨z, fun q hq => by cases hq; exact h⟩
  | 2 => by
    obtain ⟨z, h⟩ := st_s2 (A := A) h0 hf hA
    exact ⟨z, fun q hq => by cases hq; exact h⟩
  | 3 => by
    obtain ⟨z, h⟩ := st_s3 (A := A) h0 hf hA
    exact ⟨z, fun q hq => by cases hq; exact h⟩
  | 4 => by
    obtain ⟨z, h⟩ := st_s4 (A := A) h0 hf hA
    exact ⟨z, fun q hq => by cases hq; exact h⟩
  | 5 => by
    obtain ⟨z, h⟩ := st_s5 (A := A) h0 hf hA
    exact ⟨z, fun q hq => by cases hq; exact h⟩
  | 6 => by
    obtain ⟨z, h⟩ := st_s6 (A := A) h0 hf hA
    exact ⟨z, fun q hq => by cases hq; exact h⟩
  | 7 => by
    obtain ⟨z, h⟩ := st_s7 (A := A) h0 hf hA
    exact ⟨z, fun q hq => by cases hq; exact h⟩
  | 8 => by
    obtain ⟨z, h⟩ := st_s8 (A := A) h0 hf hA
    exact ⟨z, fun q hq => by cases hq; exact h⟩
  | 9 => by
    obtain ⟨z, h⟩ := st_s9 (A := A) h0 hf hA
    exact ⟨z, fun q hq => by cases hq; exact h⟩
  | 10 => by
    obtain ⟨z, h⟩ := st_s10 (A := A) h0 hf hA
    exact ⟨z, fun q hq => by cases hq; exact h⟩
  | 11 => by
    obtain ⟨z, h⟩ := st_s11 (A := A) h0 hf hA
    exact ⟨z, fun q hq => by cases hq; exact h⟩
  | 12 => by
    obtain ⟨z, h⟩ := st_s12 (A := A) h0 hf hA
    exact ⟨z, fun q hq => by cases hq; exact h⟩
  | 13 => by
    obtain ⟨z, h⟩ := st_s13 (A := A) h0 hf hA
    exact ⟨z, fun q hq => by cases hq; exact h⟩
  | 14 => by
    obtain ⟨z, h⟩ := st_s14 (A := A) h0 hf hA
    exact ⟨z, fun q hq => by cases hq; exact h⟩
  | 15 => by
    obtain ⟨z, h⟩ := st_s15 (A := A) h0 hf hA
    exact ⟨z, fun q hq => by cases hq; exact h⟩
  | 16 => by
    obtain ⟨z, h⟩ := st_s16 (A := A) h0 hf hA
    exact ⟨z, fun q hq => by cases hq; exact h⟩
  | 17 => by
    obtain ⟨z, h⟩ := st_s17 (A := A) h0 hf hA
    exact ⟨z, fun q hq => by cases hq; exact h⟩
  | 18 => by
    obtain ⟨z, h⟩ := st_s18 (A := A) h0 hf hA
    exact ⟨z, fun q hq => by cases hq; exact h⟩
  | 19 => by
    obtain ⟨z, h⟩ := st_s19 (A := A) h0 hf hA
    exact ⟨z, fun q hq => by cases hq; exact h⟩
  | 20 => by
    obtain ⟨z, h⟩ := st_s20 (A := A) h0 hf hA
    exact ⟨z, fun q hq => by cases hq; exact h⟩
  | 21 => by
    obtain ⟨z, h⟩ := st_s21 (A := A) h0 hf hA
    exact ⟨z, fun q hq => by cases hq; exact h⟩
  | 22 => by
    obtain ⟨z, h⟩ := st_s22 (A := A) h0 hf hA
    exact ⟨z, fun q hq => by cases hq; exact h⟩
  | 23 => by
    obtain ⟨z, h⟩ := st_s23 (A := A) h0 hf hA
    exact ⟨z, fun q hq => by cases hq; exact h⟩
  | 24 => by
    obtain ⟨z, h⟩ := st_s24 (A := A) h0 hf hA
    exact ⟨z, fun q hq => by cases hq; exact h⟩
  | 25 => by
    obtain ⟨z, h⟩ := st_s25 (A := A) h0 hf hA
    exact ⟨z, fun q hq => by cases hq; exact h⟩
  | 26 => by
    obtain ⟨z, h⟩ := st_s26 (A := A) h0 hf hA
    exact ⟨z, fun q hq => by cases hq; exact h⟩
  | 27 => by
    obtain ⟨z, h⟩ := st_s27 (A := A) h0 hf hA
    exact ⟨z, fun q hq => by cases hq; exact h⟩
  | 28 => by
    obtain ⟨z, h⟩ := st_s28 (A := A) h0 hf hA
    exact ⟨z, fun q hq => by cases hq; exact h⟩
  | 29 => by
    obtain ⟨z, h⟩ := st_s29 (A := A) h0 hf hA
    exact ⟨z, fun q hq => by cases hq; exact h⟩
  | 30 => by
    obtain ⟨z, h⟩ := st_s30 (A := A) h0 hf hA
    exact ⟨z, fun q hq => by cases hq; exact h⟩
  | 31 => by
    obtain ⟨z, h⟩ := st_s31 (A := A) h0 hf hA
    exact ⟨z, fun q hq => by cases hq; exact h⟩
  | 32 => by
    obtain ⟨z, h⟩ := st_s32 (A := A) h0 hf hA
    exact ⟨z, fun q hq => by cases hq; exact h⟩
  | 33 => by
    obtain ⟨z, h⟩ := st_s33 (A := A) h0 hf hA
    exact ⟨z, fun q hq => by cases hq; exact h⟩
  | 34 => by
    obtain ⟨z, h⟩ := st_s34 (A := A) h0 hf hA
    exact ⟨z, fun q hq => by cases hq; exact h⟩
  | 35 => by
    obtain ⟨z, h⟩ := st_s35 (A := A) h0 hf hA
    exact ⟨z, fun q hq => by cases hq; exact h⟩
  | 36 => by
    obtain ⟨z, h⟩ := st_s36 (A := A) h0 hf hA
    exact ⟨z, fun q hq => by cases hq; exact h⟩
  | 37 => by
    obtain ⟨z, h⟩ := st_s37 (A := A) h0 hf hA
    exact ⟨z, fun q hq => by cases hq; exact h⟩
  | 38 => by
    obtain ⟨z, h⟩ := st_s38 (A := A) h0 hf hA
    exact ⟨z, fun q hq => by cases hq; exact h⟩
  | 39 => by
    obtain ⟨z, h⟩ := st_s39 (A := A) h0 hf hA
    exact ⟨z, fun q hq => by cases hq; exact h⟩
  | 40 => by
    obtain ⟨z, h⟩ := st_s40 (A := A) h0 hf hA
    exact ⟨z, fun q hq => by cases hq; exact h⟩
  | 41 => by
    obtain ⟨z, h⟩ := st_s41 (A := A) h0 hf hA
    exact ⟨z, fun q hq => by cases hq; exact h⟩
  | 42 => by
    obtain ⟨z, h⟩ := st_s42 (A := A) h0 hf hA
    exact ⟨z, fun q hq => by cases hq; exact h⟩
  | 43 => by
    obtain ⟨z, h⟩ := st_s43 (A := A) h0 hf hA
    exact ⟨z, fun q hq => by cases hq; exact h⟩
  | 44 => by
    obtain ⟨z, h⟩ := st_s44 (A := A) h0 hf hA
    exact ⟨z, fun q hq => by cases hq; exact h⟩
  | 45 => by
    obtain ⟨z, h⟩ := st_s45 (A := A) h0 hf hA
    exact ⟨z, fun q hq => by cases hq; exact h⟩
  | 46 => by
    obtain ⟨z, h⟩ := st_s46 (A := A) h0 hf hA
    exact ⟨z, fun q hq => by cases hq; exact h⟩
  | 47 => by
    obtain ⟨z, h⟩ := st_s47 (A := A) h0 hf hA
    exact ⟨z, fun q hq => by cases hq; exact h⟩
  | k + 48 => ⟨(0, 0), fun q hq => by
    have h1 : strL.length ≤ k + 48 := by simp [strL]
    rw [List.getElem?_eq_none h1] at hq
    cases hq⟩

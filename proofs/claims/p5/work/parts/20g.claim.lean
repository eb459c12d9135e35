theorem k_1_24 : (Jvm.Cond.classLink "StaveHouseLaw" (7 : Nat) "StaveHouse") ∈ wAll := wA_1 (j := 24) rfl rfl
theorem k_1_28 : (Jvm.Cond.code ({ cls := "StaveHouse", name := "<init>", desc := "()V" } : Jvm.MethodName) prog_1_method_1_code (1 : Nat) (Option.none : Option Jvm.ClassFile.FieldType)) ∈ wAll := wA_1 (j := 28) rfl rfl
theorem k_1_26 : (Jvm.Cond.methodLink "StaveHouseLaw" (9 : Nat) ({ cls := "StaveHouse", name := "<init>", desc := "()V" } : Jvm.MethodName)) ∈ wAll := wA_1 (j := 26) rfl rfl
theorem k_1_27 : (Jvm.Cond.instanceMethod ({ cls := "StaveHouse", name := "<init>", desc := "()V" } : Jvm.MethodName)) ∈ wAll := wA_1 (j := 27) rfl rfl
theorem k_9_112 : (Jvm.Cond.classLink "StaveHouseLaw" (10 : Nat) "StaveHouseModel") ∈ wAll := wA_9 (j := 112) rfl rfl
theorem k_9_116 : (Jvm.Cond.code ({ cls := "StaveHouseModel", name := "<init>", desc := "()V" } : Jvm.MethodName) prog_15_method_11_code (1 : Nat) (Option.none : Option Jvm.ClassFile.FieldType)) ∈ wAll := wA_9 (j := 116) rfl rfl
theorem k_9_114 : (Jvm.Cond.methodLink "StaveHouseLaw" (12 : Nat) ({ cls := "StaveHouseModel", name := "<init>", desc := "()V" } : Jvm.MethodName)) ∈ wAll := wA_9 (j := 114) rfl rfl
theorem k_9_115 : (Jvm.Cond.instanceMethod ({ cls := "StaveHouseModel", name := "<init>", desc := "()V" } : Jvm.MethodName)) ∈ wAll := wA_9 (j := 115) rfl rfl
theorem d_code_0 : decode code 0 = .ok (.new 7, 3) := D_187 W_code_0 0 rfl rfl rfl
theorem d_code_3 : decode code 3 = .ok (.dup, 1) := D_89 W_code_0 3 rfl rfl
theorem d_code_4 : decode code 4 = .ok (.invokespecial 9, 3) := D_183 W_code_0 4 rfl rfl rfl
theorem d_code_7 : decode code 7 = .ok (.astore_n 1, 1) := D_76 W_code_0 7 rfl rfl
theorem d_code_8 : decode code 8 = .ok (.new 10, 3) := D_187 W_code_0 8 rfl rfl rfl
theorem d_code_11 : decode code 11 = .ok (.dup, 1) := D_89 W_code_0 11 rfl rfl
theorem d_code_12 : decode code 12 = .ok (.invokespecial 12, 3) := D_183 W_code_0 12 rfl rfl rfl
theorem d_code_15 : decode code 15 = .ok (.astore_n 2, 1) := D_77 W_code_0 15 rfl rfl
theorem d_code_16 : decode code 16 = .ok (.iconst 0, 1) := D_3 W_code_0 16 rfl rfl
theorem d_code_17 : decode code 17 = .ok (.istore_n 3, 1) := D_62 W_code_0 17 rfl rfl
/-! ===== the law's walk from its entry, and the claim out of the pure functions ===== -/
noncomputable def zF0 : zF := fun c _ k => if (zk c k).1 = 2 then -1 else 0
noncomputable def zB0 : zB := fun _ _ _ _ => 0
section ZN
variable {D : va_G} {ca : Nat → ClassId} {ad ad2 : Nat → Int → Nat → Nat} {ln ln2 : Nat → Int → Nat → Nat} {N N' N2 : Nat → Int} {L L2 : List Nat} {F F2 : zF} {B B2 : zB} {A : Nat → Prop} {H : Heap}
theorem zH_nil : zH D ca ad ln (fun _ => 0) [] F B A H :=
  ⟨fun c i k c' i' k' h0 h1 => absurd (Int.lt_of_le_of_lt h0 h1) (show ¬ (0 : Int) < 0 by decide), fun _ => .inr (0, []), ⟨fun k q h => by simp [va_pl] at h, ⟨fun i j p q h => by simp [va_pl] at h, fun k q h => by simp [va_pl] at h⟩⟩, fun c i h0 h1 => absurd (Int.lt_of_le_of_lt h0 h1) (show ¬ (0 : Int) < 0 by decide)⟩
theorem zH.cong (hN : ∀ c, N c = N' c) (h : zH D ca ad ln N L F B A H) : zH D ca ad ln N' L F B A H := by
  obtain rfl : N = N' := funext hN
  exact h
theorem zH.asX (h : zH D ca ad ln N L F B A H) : ∃ f, zInj ad N ∧ zRep ca ad ln N L F B f ∧ zHx D ca ad2 ln2 (fun _ => 0) [] F2 B2 (va_pl L f) A H := by
  obtain ⟨hj, f, hM, hR⟩ := h
  refine ⟨f, hj, hR, ?_⟩
  obtain ⟨hj2, f2, -, hR2⟩ := zH_nil (D := D) (ca := ca) (ad := ad2) (ln := ln2) (F := F2) (B := B2) (A := A) (H := H)
  exact ⟨hj2, f2, by rw [show va_pl [] f2 = [] from rfl, List.append_nil]; exact hM.1, by rw [show va_pl [] f2 = [] from rfl, List.append_nil]; exact hM.2, hR2⟩
theorem zHx.split {f : Nat → va_E} (h : zHx D ca ad2 ln2 N2 L2 F2 B2 (va_pl L f) A H) (hj : zInj ad N) (hR : zRep ca ad ln N L F B f) : zH D ca ad ln N L F B A H ∧ zH D ca ad2 ln2 N2 L2 F2 B2 A H ∧ ∀ q ∈ L2, q ∉ L := by
  obtain ⟨hj2, f2, hP, hD, hR2⟩ := h
  obtain ⟨hn, hA⟩ := vaD_mem.mp hD
  rw [List.map_append, vapl_map, vapl_map] at hn
  obtain ⟨n1, n2, n3⟩ := List.nodup_append.mp hn
  refine ⟨⟨hj, f, ⟨vaP_mem.mpr (fun x hx => vaP_mem.mp hP x (List.mem_append.mpr (Or.inl hx))), vaD_mem.mpr ⟨by rw [vapl_map]; exact n1, fun x hx => hA x (List.mem_append.mpr (Or.inl hx))⟩⟩, hR⟩, ⟨hj2, f2, ⟨vaP_mem.mpr (fun x hx => vaP_mem.mp hP x (List.mem_append.mpr (Or.inr hx))), vaD_mem.mpr ⟨by rw [vapl_map]; exact n2, fun x hx => hA x (List.mem_append.mpr (Or.inr hx))⟩⟩, hR2⟩, fun q h2 h1 => n3 q h1 q h2 rfl⟩
end ZN
/-- what is left of the claim, over whole numbers: both make themselves, every call of every script returns on both sides, end answers alike, and what is made has room -/
noncomputable def zGood (n : Nat) (xs : Nat → Int32) : Prop := ∃ (f fm Kr fl : Nat) (x : Int) (K Km K9 : zK) (F Fm F9 Fm9 : zF) (B Bm B9 Bm9 : zB), f_S_init (f, fun _ => 0) zF0 zB0 = some (x, F, B, K) ∧ f_M_init (fm, fun _ => 0) zF0 zB0 = some (0, Fm, Bm, Km) ∧ (∀ c, Km.2 c = nM c) ∧ lloop Kr x (scz xs) n fl 0 K F B Fm Bm = some (K9, F9, B9, Fm9, Bm9) ∧ 282 + cwC K K9 ≤ 600000 ∧ 716534 + swC K K9 ≤ 7302250
noncomputable def zPure : Prop := ∀ (n : Nat) (xs : Nat → Int32), n ≤ 4608 → zGood n xs
set_option maxHeartbeats 8000000 in
set_option maxRecDepth 100000 in
theorem whole_start {p : Program} {e : Env} {s : State} {m : MethodId} {below : List Frame} {meth : Method} {c : Code} (l : Launch) {b L : Nat} {xs : Nat → Int32} (hL : L ≤ 4608) (hgd : zGood L xs) (C0 : lw_At p s m meth c b L xs) : W p l e room_1 s m #[Value.ref b] below meth c s.heap [] 0 0 (lw_Z below #[Value.ref b] s) (entryFrame m ([Value.ref b] : List Value).toArray 4) := by
  obtain ⟨hx, hb, hr, hml, hown, hts0, hXs, hbl, hlocks, hgv⟩ := id C0
  have hts := wA_hts hts0
  obtain ⟨A, eA⟩ : ∃ A : Nat → Prop, A = fun q => s.heap.size ≤ q := ⟨_, rfl⟩
  have hA : ∀ q, s.heap.size ≤ q → A q := fun q h => by rw [eA]; exact h
  have hA2 : ∀ q, A q → s.heap.size ≤ q := fun q h => by rw [eA] at h; exact h
  have hown : s.vm.findClass "StaveHouseLaw" = some m.cls := hown
  obtain ⟨D, ca, hK⟩ := st_K hts0
  obtain ⟨aS, vS, hX⟩ := st_X (A := A) hts0 hgv (fun a h z => absurd (hA2 a z) (Nat.not_le.mpr h))
  have hS : va_S A s.heap s.heap [] := va_S.rf
  have hbA : ¬ A b := fun z => Nat.not_le.mpr hbl (hA2 b z)
  have hl := lv_entry ([.ref b]) (n := 4) (Nat.le_of_ble_eq_true rfl)
  rw [lg_entry_eq]
  generalize (lg_sl ([.ref b]) ++ List.replicate (4 - (lg_sl ([.ref b])).length) Slot.unset).toArray = ls at hl ⊢
  have hl : lv_has ls 4 [(0, .ref b)] := hl
  obtain ⟨f, fm, Kr, fl, x, K, Km, K9, F, Fm, F9, Fm9, B, Bm, B9, Bm9, g1, g2, g3, g4, g5, g6⟩ := hgd
  have X0 : zX D ca [] aS vS A p s m #[Value.ref b] meth c code 4 ret "StaveHouseLaw" := ⟨hx, hb, hr, hml, hown, hts, hlocks, hK, hA, fun q h => absurd h List.not_mem_nil, hX⟩
  have hZ0 : zHx D ca (fun _ _ _ => 0) lnC (fun _ => 0) [] zF0 zB0 [] A s.heap := zHx.of zH_nil
  refine zxnew (C := RX12) (T := TX12) (n := 10) (ci := 12) hx hb hts inW_12 tyX12 tyX12_ok hown k_1_24 k_1_25 k_1_1 hK hZ0 hS hA rfl (Nat.le_of_ble_eq_true rfl) (Nat.le_of_ble_eq_true rfl) d_code_0 (fun q1 H1 hZ1 hS1 => ?_)
  refine W.widen (k := 1) (n := 10) (Nat.le_of_ble_eq_true rfl) (Nat.le_of_ble_eq_true rfl) ?_
  refine lv_dup hx hb d_code_3 rfl ?_
  refine va_callv (va_runI (As := []) (rest := [.ref q1]) ⟨hx, hb, hml, hown, hts⟩ (c_S_init (l := l) g1) (cwI 0 hts (gdC k_1_28) rfl rfl rfl (hts _ k_1_1) (hts _ k_1_26) (hts _ k_1_27) rfl (by decide +kernel) ⟨(Nat.le_of_ble_eq_true rfl), (Nat.le_of_ble_eq_true rfl)⟩) (zxPS (X := []) X0 hZ1 hS1 [.ref q1]) rfl rfl hl.1 rfl (lv_room (Nat.le_of_ble_eq_true rfl)) d_code_4 ⟨(Nat.le_of_ble_eq_true rfl), (Nat.le_of_ble_eq_true rfl)⟩) hS1 (fun z _ h => zxAin (X := []) X0 hZ1 hS1 z h) (zxAin (X := []) X0 hZ1 hS1) (fun u t H2 locs2 ht hv hw hB hz hk hS2 => ?_)
  obtain ⟨ad, L1⟩ := u
  obtain ⟨hg1, hq1⟩ := hw
  have hZ2 := (zxback (X := []) hZ1 (zxAin (X := []) X0 hZ1 hS1) hk ht hB).to
  refine W.widen (k := 35) (n := 61442) (Nat.le_of_ble_eq_true rfl) (Nat.le_of_ble_eq_true rfl) ?_
  refine lv_astore_n (lv' := [(1, .ref q1), (0, .ref b)]) hx hb d_code_7 rfl hl (by decide) rfl (fun ls hl => ?_)
  obtain ⟨fx, hj1, hR1, hZ3⟩ := hZ2.asX (ad2 := fun _ _ _ => 0) (ln2 := lnM) (F2 := zF0) (B2 := zB0)
  refine zxnew (C := RX14) (T := TX14) (n := 107) (ci := 14) hx hb hts inW_14 tyX14 tyX14_ok hown k_9_112 k_9_113 k_1_9 hK hZ3 hS2 hA rfl (Nat.le_of_ble_eq_true rfl) (Nat.le_of_ble_eq_true rfl) d_code_8 (fun q2 H4 hZ4 hS4 => ?_)
  refine W.widen (k := 36) (n := 61549) (Nat.le_of_ble_eq_true rfl) (Nat.le_of_ble_eq_true rfl) ?_
  refine lv_dup hx hb d_code_11 rfl ?_
  refine va_callv (va_runI (As := []) (rest := [.ref q2]) ⟨hx, hb, hml, hown, hts⟩ (c_M_init (l := l) g2) (cwI 0 hts (gdC k_9_116) rfl rfl rfl (hts _ k_1_9) (hts _ k_9_114) (hts _ k_9_115) rfl (by decide +kernel) ⟨(Nat.le_of_ble_eq_true rfl), (Nat.le_of_ble_eq_true rfl)⟩) (zxPS (X := va_pl L1 fx) X0 hZ4 hS4 [.ref q2]) rfl rfl hl.1 rfl (lv_room (Nat.le_of_ble_eq_true rfl)) d_code_12 ⟨(Nat.le_of_ble_eq_true rfl), (Nat.le_of_ble_eq_true rfl)⟩) hS4 (fun z _ h => zxAin X0 hZ4 hS4 z h) (zxAin X0 hZ4 hS4) (fun u5 t5 H5 locs5 ht5 hv5 hw5 hB5 hz5 hk5 hS5 => ?_)
  obtain ⟨ad2, L2⟩ := u5
  obtain ⟨hg5, hq5⟩ := hw5
  have hZ5 := zxback hZ4 (zxAin X0 hZ4 hS4) hk5 ht5 hB5
  obtain ⟨hZa, hZb, hd⟩ := hZ5.split hj1 hR1
  refine W.widen (k := 282) (n := 716534) (Nat.le_of_ble_eq_true rfl) (Nat.le_of_ble_eq_true rfl) ?_
  refine lv_astore_n (lv' := [(2, .ref q2), (1, .ref q1), (0, .ref b)]) hx hb d_code_15 rfl hl (by decide) rfl (fun ls hl => ?_)
  refine lv_iconst (v := iI 0) hx hb d_code_16 rfl ?_
  refine lv_istore_n (lv' := [(3, .int (iI 0)), (2, .ref q2), (1, .ref q1), (0, .ref b)]) hx hb d_code_17 rfl hl (by decide) rfl (fun ls hl => ?_)
  exact law_loop (X0.grow hZb.inA) hXs hbl hbA hA2 (Nat.le_trans hL (by decide)) hq5 g4 (X0.grow hZa.inA) hZa (hZb.cong g3) hd hS5 hq1 hl ⟨g5, g6⟩

set_option maxHeartbeats 4000000 in
theorem lw_walk (hP0 : zPure) (l : Launch) (b : Addr) (xs : List Int32) : MetFree l x (headSpec (Jvm.Cond.code x code maxLocals ret :: tables_1) room_1) (lw_P b xs) (fun _ _ _ _ _ => True) lw_Q := by
  refine MetFree.of_bodyS (code := code) (maxLocals := maxLocals) (ret := ret) (by decide) ?_ ?_
  · intro args s m h hn
    obtain ⟨meth, c, h1, h2, h3, h4, h5, h6, -, -⟩ := Cond.code_spec hn (atoms_spec (ws := Jvm.Cond.code x code maxLocals ret :: tables_1) h _ List.mem_cons_self)
    exact ⟨meth, c, h1, h2, h3, h4, h5, h6⟩
  · intro p e s m args below meth c s₁ B hml0 hP _
    obtain ⟨rfl, hx, hbd, hgv⟩ := hP
    obtain ⟨scr, harrAt, hlist, hof, hsmall⟩ := hx
    obtain ⟨hcb, hkn, -, -⟩ := State.arrayAt?_spec harrAt
    have hown : s.vm.findClass R_law = some m.cls := findClass_of_methodNamed B.named
    have hts0 : ∀ c ∈ (Jvm.Cond.code x code maxLocals ret :: tables_1), c.before #[Value.ref b] s = true := atoms_spec (ws := Jvm.Cond.code x code maxLocals ret :: tables_1) B.pre
    have hts : ∀ w ∈ lw_tbl, w.before #[Value.ref b] s = true := k2_hts_sels lw_privs (fun w hw => hts0 w (List.mem_cons_of_mem _ hw)) lw_privs_ok
    have hml : c.maxLocals = 4 := B.maxLocals_eq (hts0 _ List.mem_cons_self)
    have X₀ : Stand p l e room_1 s m #[Value.ref b] below meth c s₁ [] 0 0 := Stand.of_body B
    have hh0 : s₁.heap = s.heap := by rw [B.state]; rfl
    have hsz : scr.slots.size = xs.length := by rw [← Array.length_toList, hlist, List.length_map]
    have hval : ∀ j : Nat, j < xs.length → scr.slots[j]? = some (.int (xs.getD j 0)) := fun j hj => by
      rw [← Array.getElem?_toList, hlist]
      simp [hj]
    have hbl : b < s.heap.size := (Array.getElem?_eq_some_iff.mp hcb).1
    have hX : va_X b xs.length (fun j => xs.getD j 0) s s.heap := ⟨scr, hcb, hof, hkn, hsz, hval⟩
    have K : W p l e room_1 s m #[Value.ref b] below meth c s₁.heap [] 0 0 (lw_Z below #[Value.ref b] s) (entryFrame m ([Value.ref b] : List Value).toArray 4) := by
      rw [hh0]
      exact whole_start l hbd (hP0 _ _ hbd) ⟨B.exec, B.bytes, B.returns, hml, hown, hts, hX, hbl, B.notSynchronized, hgv⟩
    obtain ⟨t, a1, o, b1, b2, b3⟩ := K s₁ rfl X₀
    exact ⟨t, o, a1, b1, b2, b3⟩
theorem lw_pre_spec {args : Array Value} {s : State} (h : (Jvm.Cond.and given_1 narrow_1).before args s = true) (hr : rest_1_c.before args s = true) : ∃ (b : Addr) (xs : List Int32), lw_P b xs args s := by
  have hs := flat_of_before _ h
  have hq := flat_of_before _ hr
  have hc : (Cond.count 1).before args s = true := hs _ (by decide +kernel)
  have harr : (Cond.arrayOf (.arg 0) .int).before args s = true := hs _ (by decide +kernel)
  have hle : (Cond.le (.length (.arg 0)) (.int 4608)).before args s = true := hs _ (by decide +kernel)
  have hlen : (Cond.isInt (.length (.arg 0))).before args s = true := hq _ (by decide +kernel)
  have hall : (Cond.all (.arg 0) (.isInt (.elem (.arg 0) (.index 0)))).before args s = true := hq _ (by decide +kernel)
  obtain ⟨b, xs, hb, hx⟩ := State.ints_of_pre rfl harr hlen hall
  have hsm : xs.length < 2 ^ 31 := hx.choose_spec.2.2.2
  have hev : (Term.length (.arg 0)).eval args s none [] s = some (.int xs.length.toInt32) := hx.length_eval hb
  have hv := Cond.le_ints hev (show (Term.int 4608).eval args s none [] s = some (.int 4608) from rfl)
  have hd : xs.length.toInt32 ≤ 4608 := by
    simpa [Cond.before, Cond.holds, hv] using hle
  have hN : xs.length ≤ 4608 := (Int32.ofNat_le_ofNat hsm (by decide)).mp (show Int32.ofNat xs.length ≤ Int32.ofNat 4608 from hd)
  exact ⟨b, xs, Cond.one_arg hc (show args[0]? = some (.ref b) from hb), hx, hN, h⟩
theorem lw_comes (hP0 : zPure) (l : Launch) : Comes l x (Jvm.Cond.code x code maxLocals ret :: tables_1) room_1 (fun tb e args s => Calls_1 tb e args s ∧ rest_1 tb e args s ∧ Pre_1 tb e args s)
    (fun _ _ args s o t => lw_Q args s o t) := by
  intro p e ha hc hk s m args below hf hfit hheap happ hpre
  obtain ⟨b, xs, hP⟩ := lw_pre_spec hpre.2.2 hpre.2.1
  obtain ⟨k, o, h1, h2, h3, hQ⟩ := lw_walk hP0 l b xs p e ha hc hk s m args below hf ((Spec.applies_iff_loose hf).mp happ).1 hP trivial
  exact ⟨k, o, h1, h2, h3, hQ⟩
theorem lw_frame {s t : State} {o : Outcome} {args : Array Value} (h : Framed s o t [] 600000 7302250) :
    Framed s o t (fieldLocs frame_1_writes args s ++ arrayLocs frame_1_arrays args s ++ staticLocs frame_1_statics s) 600000 7302250 := h
theorem lw_limb (hP0 : zPure) (L : Cond) (hL : ∀ (args : Array Value) (s t : State), L.after args s (.returned (some (.int 1))) t = true) :
    ArmFor flags0 classFile x code maxLocals ret World_1 tables_1 room_1 Calls_1 rest_1 Pre_1
      (fun tb e a s o t => postC L tb e a s o t ∧ Framed s o t (fieldLocs frame_1_writes a s ++ arrayLocs frame_1_arrays a s ++ staticLocs frame_1_statics s) 600000 7302250) := by
  intro l _ _ _ p e ha hc hk s m args below hf hfit hheap happ hpre
  obtain ⟨k, o, h1, h2, h3, rfl, hF⟩ := lw_comes hP0 l p e ha hc hk s m args below hf hfit hheap happ hpre
  exact ⟨k, _, h1, h2, h3, hL args s _, lw_frame hF⟩
theorem i_vc_of (hP0 : zPure) : Claimed_1_1 ∧ Claimed_1_2 := ⟨lw_limb hP0 limb_1_1 (fun args s t => by simp [limb_1_1, Cond.after, Cond.holds, Cond.value]), lw_limb hP0 limb_1_2 (fun args s t => Cond.after_iff.mpr (by
  first | (rw [show limb_1_2 = Cond.eq .result (.int 1) from rfl, Cond.eq_ints (x := 1) (y := 1) rfl rfl]; simp; done) | (simp [limb_1_2, Cond.value, Term.eval]; done)))⟩

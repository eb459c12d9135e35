section
/-! THE CLAIM OUT OF ONE WALK OF THE LAW'S BODY. Your part is whole_start (and what it stands on); all else here is the same for every law, but numbers. -/
def R_law : String := "StaveHouseLaw"
def lw_P (b : Addr) (xs : List Int32) (args : Array Value) (s : State) : Prop := args = #[.ref b] ∧ s.IntsAt b xs ∧ xs.length ≤ 4608 ∧ (Jvm.Cond.and given_1 narrow_1).before args s = true
def lw_Q (_ : Array Value) (s : State) (o : Outcome) (t : State) : Prop := o = .returned (some (.int 1)) ∧ Framed s o t [] 600000 7302250
def lw_Z (below : List Frame) (a : Array Value) (s : State) : State → Prop := fun t => ∃ o, t.status = .running ∧ Ended t below o ∧ lw_Q a s o t
/-- the law's own end, with 1 on the stack, nothing written that was there before, its room as the claim has it -/
theorem lw_ret {p : Program} {l : Launch} {e : Env} {s : State} {m : MethodId} {below : List Frame} {meth : Method} {c : Code} {b : Nat} (hx : p.tables.exec = Jvm.exec) (hb : c.code = code) (hr : meth.sig.returnType = ret) (hlocks : meth.locks = false) {pc : Nat} {H : Heap} {ls : Array Slot} (hdg : decode code pc = .ok (.ireturn, 1)) : W p l e room_1 s m #[Value.ref b] below meth c H [] 600000 7302250 (lw_Z below #[Value.ref b] s) (F0 m pc ls [.int 1]) := by
  intro T hT X
  obtain ⟨fs, hret, hrun, hended, hW, hframe⟩ := X.leave (v := some (.int 1)) (hlocks := hlocks) (fun h => by rw [hr] at h; cases h)
  have hmeth' : T.vm.method? m = some meth := X.method'
  refine ⟨T.setFrames fs, ?_, .returned (some (.int 1)), hrun, hended, rfl, ⟨_, rfl⟩, hW, hframe⟩
  jvm_step X.here [X.here.top, hx, hb, hdg, hmeth', hr, ret, narrow_b1]
  (try refine ⟨rfl, ?_⟩); (try refine ⟨rfl, ?_⟩)
  first | (intro acts; rw [hret _ acts rfl rfl rfl]) | rw [hret _ _ rfl rfl rfl]
  exact Steps.refl _
/-- what holds at the law's entry: the machine, the code, the tables' words (any of lw_tbl by 'hts w (by decide +kernel)'), the script of L ints xs at the cell b, what the Statement gives of the start (any of its parts by flat_of_before) -/
def lw_At (p : Program) (s : State) (m : MethodId) (meth : Method) (c : Code) (b L : Nat) (xs : Nat → Int32) : Prop :=
  p.tables.exec = Jvm.exec ∧ c.code = code ∧ meth.sig.returnType = ret ∧ c.maxLocals = 4 ∧ s.vm.findClass R_law = some m.cls ∧ (∀ w ∈ lw_tbl, w.before #[Value.ref b] s = true) ∧ va_X b L xs s s.heap ∧ b < s.heap.size ∧ meth.locks = false ∧ (Jvm.Cond.and given_1 narrow_1).before #[Value.ref b] s = true
end
section

theorem W_code_0 : chW code 0 [187, 0, 7, 89, 183, 0, 9, 76, 187, 0, 10, 89, 183, 0, 12, 77, 3, 62, 29, 42, 190, 16, 9, 100, 163, 4, 149, 42, 29, 46, 16, 31, 126, 170, 0, 0] := chW_of (by decide +kernel)
theorem d_code_18 : decode code 18 = .ok (.iload_n 3, 1) := D_29 W_code_0 18 rfl rfl
theorem d_code_19 : decode code 19 = .ok (.aload_n 0, 1) := D_42 W_code_0 19 rfl rfl
theorem d_code_20 : decode code 20 = .ok (.arraylength, 1) := D_190 W_code_0 20 rfl rfl
theorem d_code_21 : decode code 21 = .ok (.bipush 9, 2) := D_16 W_code_0 21 rfl rfl rfl
theorem d_code_23 : decode code 23 = .ok (.isub, 1) := D_100 W_code_0 23 rfl rfl
theorem d_code_24 : decode code 24 = .ok (.if_icmp .gt 1173, 3) := D_163 W_code_0 24 rfl rfl rfl
theorem d_code_1197 : decode code 1197 = .ok (.iconst 1, 1) := D_4 W_code_1184 13 rfl rfl
theorem d_code_1198 : decode code 1198 = .ok (.ireturn, 1) := D_172 W_code_1184 14 rfl rfl
theorem d_code_27 : decode code 27 = .ok (.aload_n 0, 1) := D_42 W_code_0 27 rfl rfl
theorem d_code_28 : decode code 28 = .ok (.iload_n 3, 1) := D_29 W_code_0 28 rfl rfl
theorem d_code_29 : decode code 29 = .ok (.iaload, 1) := D_46 W_code_0 29 rfl rfl
theorem d_code_30 : decode code 30 = .ok (.bipush 31, 2) := D_16 W_code_0 30 rfl rfl rfl
theorem W_code_32 : chW code 32 [126, 170, 0, 0, 0, 0, 4, 134, 0, 0, 0, 0, 0, 0, 0, 26, 0, 0, 0, 123, 0, 0, 0, 184, 0, 0, 0, 207, 0, 0, 0, 230, 0, 0, 1, 7] := chW_of (by decide +kernel)
theorem d_code_32 : decode code 32 = .ok (.iand, 1) := D_126 W_code_32 0 rfl rfl
theorem d_code_1191 : decode code 1191 = .ok (.iinc 3 9, 3) := D_132 W_code_1184 7 rfl rfl rfl
theorem d_code_1194 : decode code 1194 = .ok (.goto (-1176), 3) := D_167 W_code_1184 10 rfl rfl rfl
theorem d_code_33 : decode code 33 = .ok (.tableswitch 1158 0 26 #[123, 184, 207, 230, 263, 306, 339, 392, 455, 508, 541, 584, 627, 650, 693, 716, 739, 752, 765, 788, 821, 844, 877, 920, 963, 1006, 1059], 123) := by decide +kernel
abbrev zS5 : Type := zK × zF × zB × zF × zB
def lstep (Kr : Nat) (x : Int) (sc : Int → Int) (n i : Int) (K : zK) (F : zF) (B : zB) (Fm : zF) (Bm : zB) : zL := (if zand (sc i) 31 = 0 then ls_0 Kr x sc n i K F B Fm Bm else (if zand (sc i) 31 = 1 then ls_1 Kr x sc n i K F B Fm Bm else (if zand (sc i) 31 = 2 then ls_2 Kr x sc n i K F B Fm Bm else (if zand (sc i) 31 = 3 then ls_3 Kr x sc n i K F B Fm Bm else (if zand (sc i) 31 = 4 then ls_4 Kr x sc n i K F B Fm Bm else (if zand (sc i) 31 = 5 then ls_5 Kr x sc n i K F B Fm Bm else (if zand (sc i) 31 = 6 then ls_6 Kr x sc n i K F B Fm Bm else (if zand (sc i) 31 = 7 then ls_7 Kr x sc n i K F B Fm Bm else (if zand (sc i) 31 = 8 then ls_8 Kr x sc n i K F B Fm Bm else (if zand (sc i) 31 = 9 then ls_9 Kr x sc n i K F B Fm Bm else (if zand (sc i) 31 = 10 then ls_10 Kr x sc n i K F B Fm Bm else (if zand (sc i) 31 = 11 then ls_11 Kr x sc n i K F B Fm Bm else (if zand (sc i) 31 = 12 then ls_12 Kr x sc n i K F B Fm Bm else (if zand (sc i) 31 = 13 then ls_13 Kr x sc n i K F B Fm Bm else (if zand (sc i) 31 = 14 then ls_14 Kr x sc n i K F B Fm Bm else (if zand (sc i) 31 = 15 then ls_15 Kr x sc n i K F B Fm Bm else (if zand (sc i) 31 = 16 then ls_16 Kr x sc n i K F B Fm Bm else (if zand (sc i) 31 = 17 then ls_17 Kr x sc n i K F B Fm Bm else (if zand (sc i) 31 = 18 then ls_18 Kr x sc n i K F B Fm Bm else (if zand (sc i) 31 = 19 then ls_19 Kr x sc n i K F B Fm Bm else (if zand (sc i) 31 = 20 then ls_20 Kr x sc n i K F B Fm Bm else (if zand (sc i) 31 = 21 then ls_21 Kr x sc n i K F B Fm Bm else (if zand (sc i) 31 = 22 then ls_22 Kr x sc n i K F B Fm Bm else (if zand (sc i) 31 = 23 then ls_23 Kr x sc n i K F B Fm Bm else (if zand (sc i) 31 = 24 then ls_24 Kr x sc n i K F B Fm Bm else (if zand (sc i) 31 = 25 then ls_25 Kr x sc n i K F B Fm Bm else (if zand (sc i) 31 = 26 then ls_26 Kr x sc n i K F B Fm Bm else some (K, F, B, Fm, Bm))))))))))))))))))))))))))))
def lloop (Kr : Nat) (x : Int) (sc : Int → Int) (n : Int) : Nat → Int → zK → zF → zB → zF → zB → zL
  | 0, _, _, _, _, _, _ => none
  | f + 1, i, K, F, B, Fm, Bm => if r32 i then if r32 (n - 9) then (if n - 9 < i then some (K, F, B, Fm, Bm) else if 0 ≤ i ∧ i < n then if r32 (zand (sc i) 31) then (match lstep Kr x sc n i K F B Fm Bm with
    | none => none
    | some q => lloop Kr x sc n f (i + 9) q.1 q.2.1 q.2.2.1 q.2.2.2.1 q.2.2.2.2) else none else none) else none else none
theorem ms_0 {Kr : Nat} {x : Int} {sc : Int → Int} {n i : Int} {K K9 : zK} {F Fm F9 Fm9 : zF} {B Bm B9 Bm9 : zB} (hf : ls_0 Kr x sc n i K F B Fm Bm = some (K9, F9, B9, Fm9, Bm9)) : zKle K K9 := by
  replace hf : (if 0 ≤ (i + 1) ∧ (i + 1) < n then if 0 ≤ (i + 2) ∧ (i + 2) < n then if 0 ≤ (i + 3) ∧ (i + 3) < n then if 0 ≤ (i + 4) ∧ (i + 4) < n then if 0 ≤ (i + 5) ∧ (i + 5) < n then if 0 ≤ x ∧ x < K.2 12 then zbL (f_S_feed K x (sc (i + 1)) (sc (i + 2)) (sc (i + 3)) (sc (i + 4)) (sc (i + 5)) F B) (fun r15 F15 B15 => if 0 ≤ (i + 1) ∧ (i + 1) < n then if 0 ≤ (i + 2) ∧ (i + 2) < n then if 0 ≤ (i + 3) ∧ (i + 3) < n then if 0 ≤ (i + 4) ∧ (i + 4) < n then if 0 ≤ (i + 5) ∧ (i + 5) < n then zbL (f_M_feed Kr (sc (i + 1)) (sc (i + 2)) (sc (i + 3)) (sc (i + 4)) (sc (i + 5)) Fm Bm) (fun r22 F22 B22 => some (K, F15, B15, F22, B22)) else none else none else none else none else none) else none else none else none else none else none else none) = some (K9, F9, B9, Fm9, Bm9) := hf
  obtain ⟨-, hf⟩ := gif hf
  obtain ⟨-, hf⟩ := gif hf
  obtain ⟨-, hf⟩ := gif hf
  obtain ⟨-, hf⟩ := gif hf
  obtain ⟨-, hf⟩ := gif hf
  obtain ⟨-, hf⟩ := gif hf
  obtain ⟨_, _, _, _, hf⟩ := gbL hf
  obtain ⟨-, hf⟩ := gif hf
  obtain ⟨-, hf⟩ := gif hf
  obtain ⟨-, hf⟩ := gif hf
  obtain ⟨-, hf⟩ := gif hf
  obtain ⟨-, hf⟩ := gif hf
  obtain ⟨_, _, _, _, hf⟩ := gbL hf
  cases hf
  exact zKle.rf
theorem ms_1 {Kr : Nat} {x : Int} {sc : Int → Int} {n i : Int} {K K9 : zK} {F Fm F9 Fm9 : zF} {B Bm B9 Bm9 : zB} (hf : ls_1 Kr x sc n i K F B Fm Bm = some (K9, F9, B9, Fm9, Bm9)) : zKle K K9 := by
  replace hf : (if 0 ≤ (i + 1) ∧ (i + 1) < n then if 0 ≤ x ∧ x < K.2 12 then zbL (f_S_end K x (sc (i + 1)) F B) (fun r11 F11 B11 => if 0 ≤ (i + 1) ∧ (i + 1) < n then zbL (f_M_end Kr (sc (i + 1)) Fm Bm) (fun r14 F14 B14 => some (K, F11, B11, F14, B14)) else none) else none else none) = some (K9, F9, B9, Fm9, Bm9) := hf
  obtain ⟨-, hf⟩ := gif hf
  obtain ⟨-, hf⟩ := gif hf
  obtain ⟨_, _, _, _, hf⟩ := gbL hf
  obtain ⟨-, hf⟩ := gif hf
  obtain ⟨_, _, _, _, hf⟩ := gbL hf
  cases hf
  exact zKle.rf
theorem ms_2 {Kr : Nat} {x : Int} {sc : Int → Int} {n i : Int} {K K9 : zK} {F Fm F9 Fm9 : zF} {B Bm B9 Bm9 : zB} (hf : ls_2 Kr x sc n i K F B Fm Bm = some (K9, F9, B9, Fm9, Bm9)) : zKle K K9 := by
  replace hf : (if 0 ≤ (i + 1) ∧ (i + 1) < n then if 0 ≤ x ∧ x < K.2 12 then zbM (f_S_read K x (sc (i + 1)) F B) (fun r11 F11 B11 K11 => if 0 ≤ (i + 1) ∧ (i + 1) < n then zbL (f_M_read Kr (sc (i + 1)) Fm Bm) (fun r14 F14 B14 => some (K11, F11, B11, F14, B14)) else none) else none else none) = some (K9, F9, B9, Fm9, Bm9) := hf
  obtain ⟨-, hf⟩ := gif hf
  obtain ⟨-, hf⟩ := gif hf
  obtain ⟨r1, F1, B1, K1, hc, hf⟩ := gbM hf
  obtain ⟨-, hf⟩ := gif hf
  obtain ⟨_, _, _, _, hf⟩ := gbL hf
  cases hf
  exact m_S_read hc
theorem ms_3 {Kr : Nat} {x : Int} {sc : Int → Int} {n i : Int} {K K9 : zK} {F Fm F9 Fm9 : zF} {B Bm B9 Bm9 : zB} (hf : ls_3 Kr x sc n i K F B Fm Bm = some (K9, F9, B9, Fm9, Bm9)) : zKle K K9 := by
  replace hf : (if 0 ≤ (i + 1) ∧ (i + 1) < n then if 0 ≤ (i + 2) ∧ (i + 2) < n then if 0 ≤ x ∧ x < K.2 12 then zbM (f_S_look K x (sc (i + 1)) (sc (i + 2)) F B) (fun r12 F12 B12 K12 => if 0 ≤ (i + 1) ∧ (i + 1) < n then if 0 ≤ (i + 2) ∧ (i + 2) < n then zbL (f_M_look Kr (sc (i + 1)) (sc (i + 2)) Fm Bm) (fun r16 F16 B16 => some (K12, F12, B12, F16, B16)) else none else none) else none else none else none) = some (K9, F9, B9, Fm9, Bm9) := hf
  obtain ⟨-, hf⟩ := gif hf
  obtain ⟨-, hf⟩ := gif hf
  obtain ⟨-, hf⟩ := gif hf
  obtain ⟨r1, F1, B1, K1, hc, hf⟩ := gbM hf
  obtain ⟨-, hf⟩ := gif hf
  obtain ⟨-, hf⟩ := gif hf
  obtain ⟨_, _, _, _, hf⟩ := gbL hf
  cases hf
  exact m_S_look hc
theorem ms_4 {Kr : Nat} {x : Int} {sc : Int → Int} {n i : Int} {K K9 : zK} {F Fm F9 Fm9 : zF} {B Bm B9 Bm9 : zB} (hf : ls_4 Kr x sc n i K F B Fm Bm = some (K9, F9, B9, Fm9, Bm9)) : zKle K K9 := by
  replace hf : (if 0 ≤ (i + 1) ∧ (i + 1) < n then if 0 ≤ (i + 2) ∧ (i + 2) < n then if 0 ≤ (i + 3) ∧ (i + 3) < n then if 0 ≤ x ∧ x < K.2 12 then zbL (f_S_voice K x (sc (i + 1)) (sc (i + 2)) (sc (i + 3)) F B) (fun r13 F13 B13 => if 0 ≤ (i + 1) ∧ (i + 1) < n then if 0 ≤ (i + 2) ∧ (i + 2) < n then if 0 ≤ (i + 3) ∧ (i + 3) < n then zbL (f_M_voice Kr (sc (i + 1)) (sc (i + 2)) (sc (i + 3)) Fm Bm) (fun r18 F18 B18 => some (K, F13, B13, F18, B18)) else none else none else none) else none else none else none else none) = some (K9, F9, B9, Fm9, Bm9) := hf
  obtain ⟨-, hf⟩ := gif hf
  obtain ⟨-, hf⟩ := gif hf
  obtain ⟨-, hf⟩ := gif hf
  obtain ⟨-, hf⟩ := gif hf
  obtain ⟨_, _, _, _, hf⟩ := gbL hf
  obtain ⟨-, hf⟩ := gif hf
  obtain ⟨-, hf⟩ := gif hf
  obtain ⟨-, hf⟩ := gif hf
  obtain ⟨_, _, _, _, hf⟩ := gbL hf
  cases hf
  exact zKle.rf
theorem ms_5 {Kr : Nat} {x : Int} {sc : Int → Int} {n i : Int} {K K9 : zK} {F Fm F9 Fm9 : zF} {B Bm B9 Bm9 : zB} (hf : ls_5 Kr x sc n i K F B Fm Bm = some (K9, F9, B9, Fm9, Bm9)) : zKle K K9 := by
  replace hf : (if 0 ≤ (i + 1) ∧ (i + 1) < n then if 0 ≤ (i + 2) ∧ (i + 2) < n then if 0 ≤ x ∧ x < K.2 12 then zbL (f_S_name K x (sc (i + 1)) (sc (i + 2)) F B) (fun r12 F12 B12 => if 0 ≤ (i + 1) ∧ (i + 1) < n then if 0 ≤ (i + 2) ∧ (i + 2) < n then zbL (f_M_name Kr (sc (i + 1)) (sc (i + 2)) Fm Bm) (fun r16 F16 B16 => some (K, F12, B12, F16, B16)) else none else none) else none else none else none) = some (K9, F9, B9, Fm9, Bm9) := hf
  obtain ⟨-, hf⟩ := gif hf
  obtain ⟨-, hf⟩ := gif hf
  obtain ⟨-, hf⟩ := gif hf
  obtain ⟨_, _, _, _, hf⟩ := gbL hf
  obtain ⟨-, hf⟩ := gif hf
  obtain ⟨-, hf⟩ := gif hf
  obtain ⟨_, _, _, _, hf⟩ := gbL hf
  cases hf
  exact zKle.rf
theorem ms_6 {Kr : Nat} {x : Int} {sc : Int → Int} {n i : Int} {K K9 : zK} {F Fm F9 Fm9 : zF} {B Bm B9 Bm9 : zB} (hf : ls_6 Kr x sc n i K F B Fm Bm = some (K9, F9, B9, Fm9, Bm9)) : zKle K K9 := by
  replace hf : (if 0 ≤ (i + 1) ∧ (i + 1) < n then if 0 ≤ (i + 2) ∧ (i + 2) < n then if 0 ≤ (i + 3) ∧ (i + 3) < n then if 0 ≤ (i + 4) ∧ (i + 4) < n then if 0 ≤ x ∧ x < K.2 12 then zbL (f_S_event K x (sc (i + 1)) (sc (i + 2)) (sc (i + 3)) (sc (i + 4)) F B) (fun r14 F14 B14 => if 0 ≤ (i + 1) ∧ (i + 1) < n then if 0 ≤ (i + 2) ∧ (i + 2) < n then if 0 ≤ (i + 3) ∧ (i + 3) < n then if 0 ≤ (i + 4) ∧ (i + 4) < n then zbL (f_M_event_1 Kr (sc (i + 1)) (sc (i + 2)) (sc (i + 3)) (sc (i + 4)) Fm Bm) (fun r20 F20 B20 => some (K, F14, B14, F20, B20)) else none else none else none else none) else none else none else none else none else none) = some (K9, F9, B9, Fm9, Bm9) := hf
  obtain ⟨-, hf⟩ := gif hf
  obtain ⟨-, hf⟩ := gif hf
  obtain ⟨-, hf⟩ := gif hf
  obtain ⟨-, hf⟩ := gif hf
  obtain ⟨-, hf⟩ := gif hf
  obtain ⟨_, _, _, _, hf⟩ := gbL hf
  obtain ⟨-, hf⟩ := gif hf
  obtain ⟨-, hf⟩ := gif hf
  obtain ⟨-, hf⟩ := gif hf
  obtain ⟨-, hf⟩ := gif hf
  obtain ⟨_, _, _, _, hf⟩ := gbL hf
  cases hf
  exact zKle.rf
theorem ms_7 {Kr : Nat} {x : Int} {sc : Int → Int} {n i : Int} {K K9 : zK} {F Fm F9 Fm9 : zF} {B Bm B9 Bm9 : zB} (hf : ls_7 Kr x sc n i K F B Fm Bm = some (K9, F9, B9, Fm9, Bm9)) : zKle K K9 := by
  replace hf : (if 0 ≤ (i + 1) ∧ (i + 1) < n then if 0 ≤ (i + 2) ∧ (i + 2) < n then if 0 ≤ (i + 3) ∧ (i + 3) < n then if 0 ≤ (i + 4) ∧ (i + 4) < n then if 0 ≤ (i + 5) ∧ (i + 5) < n then if 0 ≤ x ∧ x < K.2 12 then zbL (f_S_pitch K x (sc (i + 1)) (sc (i + 2)) (sc (i + 3)) (sc (i + 4)) (sc (i + 5)) F B) (fun r15 F15 B15 => if 0 ≤ (i + 1) ∧ (i + 1) < n then if 0 ≤ (i + 2) ∧ (i + 2) < n then if 0 ≤ (i + 3) ∧ (i + 3) < n then if 0 ≤ (i + 4) ∧ (i + 4) < n then if 0 ≤ (i + 5) ∧ (i + 5) < n then zbL (f_M_pitch Kr (sc (i + 1)) (sc (i + 2)) (sc (i + 3)) (sc (i + 4)) (sc (i + 5)) Fm Bm) (fun r22 F22 B22 => some (K, F15, B15, F22, B22)) else none else none else none else none else none) else none else none else none else none else none else none) = some (K9, F9, B9, Fm9, Bm9) := hf
  obtain ⟨-, hf⟩ := gif hf
  obtain ⟨-, hf⟩ := gif hf
  obtain ⟨-, hf⟩ := gif hf
  obtain ⟨-, hf⟩ := gif hf
  obtain ⟨-, hf⟩ := gif hf
  obtain ⟨-, hf⟩ := gif hf
  obtain ⟨_, _, _, _, hf⟩ := gbL hf
  obtain ⟨-, hf⟩ := gif hf
  obtain ⟨-, hf⟩ := gif hf
  obtain ⟨-, hf⟩ := gif hf
  obtain ⟨-, hf⟩ := gif hf
  obtain ⟨-, hf⟩ := gif hf
  obtain ⟨_, _, _, _, hf⟩ := gbL hf
  cases hf
  exact zKle.rf
theorem ms_8 {Kr : Nat} {x : Int} {sc : Int → Int} {n i : Int} {K K9 : zK} {F Fm F9 Fm9 : zF} {B Bm B9 Bm9 : zB} (hf : ls_8 Kr x sc n i K F B Fm Bm = some (K9, F9, B9, Fm9, Bm9)) : zKle K K9 := by
  replace hf : (if 0 ≤ (i + 1) ∧ (i + 1) < n then if 0 ≤ (i + 2) ∧ (i + 2) < n then if 0 ≤ (i + 3) ∧ (i + 3) < n then if 0 ≤ (i + 4) ∧ (i + 4) < n then if 0 ≤ x ∧ x < K.2 12 then zbL (f_S_note K x (sc (i + 1)) (sc (i + 2)) (sc (i + 3)) (sc (i + 4)) F B) (fun r14 F14 B14 => if 0 ≤ (i + 1) ∧ (i + 1) < n then if 0 ≤ (i + 2) ∧ (i + 2) < n then if 0 ≤ (i + 3) ∧ (i + 3) < n then if 0 ≤ (i + 4) ∧ (i + 4) < n then zbL (f_M_note_0 Kr (sc (i + 1)) (sc (i + 2)) (sc (i + 3)) (sc (i + 4)) Fm Bm) (fun r20 F20 B20 => some (K, F14, B14, F20, B20)) else none else none else none else none) else none else none else none else none else none) = some (K9, F9, B9, Fm9, Bm9) := hf
  obtain ⟨-, hf⟩ := gif hf
  obtain ⟨-, hf⟩ := gif hf
  obtain ⟨-, hf⟩ := gif hf
  obtain ⟨-, hf⟩ := gif hf
  obtain ⟨-, hf⟩ := gif hf
  obtain ⟨_, _, _, _, hf⟩ := gbL hf
  obtain ⟨-, hf⟩ := gif hf
  obtain ⟨-, hf⟩ := gif hf
  obtain ⟨-, hf⟩ := gif hf
  obtain ⟨-, hf⟩ := gif hf
  obtain ⟨_, _, _, _, hf⟩ := gbL hf
  cases hf
  exact zKle.rf
theorem ms_9 {Kr : Nat} {x : Int} {sc : Int → Int} {n i : Int} {K K9 : zK} {F Fm F9 Fm9 : zF} {B Bm B9 Bm9 : zB} (hf : ls_9 Kr x sc n i K F B Fm Bm = some (K9, F9, B9, Fm9, Bm9)) : zKle K K9 := by
  replace hf : (if 0 ≤ (i + 1) ∧ (i + 1) < n then if 0 ≤ (i + 2) ∧ (i + 2) < n then if 0 ≤ x ∧ x < K.2 12 then zbM (f_S_lines K x (sc (i + 1)) (sc (i + 2)) F B) (fun r12 F12 B12 K12 => if 0 ≤ (i + 1) ∧ (i + 1) < n then if 0 ≤ (i + 2) ∧ (i + 2) < n then zbL (f_M_lines Kr (sc (i + 1)) (sc (i + 2)) Fm Bm) (fun r16 F16 B16 => some (K12, F12, B12, F16, B16)) else none else none) else none else none else none) = some (K9, F9, B9, Fm9, Bm9) := hf
  obtain ⟨-, hf⟩ := gif hf
  obtain ⟨-, hf⟩ := gif hf
  obtain ⟨-, hf⟩ := gif hf
  obtain ⟨r1, F1, B1, K1, hc, hf⟩ := gbM hf
  obtain ⟨-, hf⟩ := gif hf
  obtain ⟨-, hf⟩ := gif hf
  obtain ⟨_, _, _, _, hf⟩ := gbL hf
  cases hf
  exact m_S_lines hc
theorem ms_10 {Kr : Nat} {x : Int} {sc : Int → Int} {n i : Int} {K K9 : zK} {F Fm F9 Fm9 : zF} {B Bm B9 Bm9 : zB} (hf : ls_10 Kr x sc n i K F B Fm Bm = some (K9, F9, B9, Fm9, Bm9)) : zKle K K9 := by
  replace hf : (if 0 ≤ (i + 1) ∧ (i + 1) < n then if 0 ≤ (i + 2) ∧ (i + 2) < n then if 0 ≤ (i + 3) ∧ (i + 3) < n then if 0 ≤ x ∧ x < K.2 12 then zbL (f_S_line K x (sc (i + 1)) (sc (i + 2)) (sc (i + 3)) F B) (fun r13 F13 B13 => if 0 ≤ (i + 1) ∧ (i + 1) < n then if 0 ≤ (i + 2) ∧ (i + 2) < n then if 0 ≤ (i + 3) ∧ (i + 3) < n then zbL (f_M_line Kr (sc (i + 1)) (sc (i + 2)) (sc (i + 3)) Fm Bm) (fun r18 F18 B18 => some (K, F13, B13, F18, B18)) else none else none else none) else none else none else none else none) = some (K9, F9, B9, Fm9, Bm9) := hf
  obtain ⟨-, hf⟩ := gif hf
  obtain ⟨-, hf⟩ := gif hf
  obtain ⟨-, hf⟩ := gif hf
  obtain ⟨-, hf⟩ := gif hf
  obtain ⟨_, _, _, _, hf⟩ := gbL hf
  obtain ⟨-, hf⟩ := gif hf
  obtain ⟨-, hf⟩ := gif hf
  obtain ⟨-, hf⟩ := gif hf
  obtain ⟨_, _, _, _, hf⟩ := gbL hf
  cases hf
  exact zKle.rf
theorem ms_11 {Kr : Nat} {x : Int} {sc : Int → Int} {n i : Int} {K K9 : zK} {F Fm F9 Fm9 : zF} {B Bm B9 Bm9 : zB} (hf : ls_11 Kr x sc n i K F B Fm Bm = some (K9, F9, B9, Fm9, Bm9)) : zKle K K9 := by
  replace hf : (if 0 ≤ (i + 1) ∧ (i + 1) < n then if 0 ≤ (i + 2) ∧ (i + 2) < n then if 0 ≤ (i + 3) ∧ (i + 3) < n then if 0 ≤ x ∧ x < K.2 12 then zbL (f_S_x K x (sc (i + 1)) (sc (i + 2)) (sc (i + 3)) F B) (fun r13 F13 B13 => if 0 ≤ (i + 1) ∧ (i + 1) < n then if 0 ≤ (i + 2) ∧ (i + 2) < n then if 0 ≤ (i + 3) ∧ (i + 3) < n then zbL (f_M_x Kr (sc (i + 1)) (sc (i + 2)) (sc (i + 3)) Fm Bm) (fun r18 F18 B18 => if r13 = r18 then some (K, F13, B13, F18, B18) else none) else none else none else none) else none else none else none else none) = some (K9, F9, B9, Fm9, Bm9) := hf
  obtain ⟨-, hf⟩ := gif hf
  obtain ⟨-, hf⟩ := gif hf
  obtain ⟨-, hf⟩ := gif hf
  obtain ⟨-, hf⟩ := gif hf
  obtain ⟨_, _, _, _, hf⟩ := gbL hf
  obtain ⟨-, hf⟩ := gif hf
  obtain ⟨-, hf⟩ := gif hf
  obtain ⟨-, hf⟩ := gif hf
  obtain ⟨_, _, _, _, hf⟩ := gbL hf
  obtain ⟨-, hf⟩ := gif hf
  cases hf
  exact zKle.rf
theorem ms_12 {Kr : Nat} {x : Int} {sc : Int → Int} {n i : Int} {K K9 : zK} {F Fm F9 Fm9 : zF} {B Bm B9 Bm9 : zB} (hf : ls_12 Kr x sc n i K F B Fm Bm = some (K9, F9, B9, Fm9, Bm9)) : zKle K K9 := by
  replace hf : (if 0 ≤ (i + 1) ∧ (i + 1) < n then if 0 ≤ x ∧ x < K.2 12 then zbM (f_S_perform K x (sc (i + 1)) F B) (fun r11 F11 B11 K11 => if 0 ≤ (i + 1) ∧ (i + 1) < n then zbL (f_M_perform Kr (sc (i + 1)) Fm Bm) (fun r14 F14 B14 => some (K11, F11, B11, F14, B14)) else none) else none else none) = some (K9, F9, B9, Fm9, Bm9) := hf
  obtain ⟨-, hf⟩ := gif hf
  obtain ⟨-, hf⟩ := gif hf
  obtain ⟨r1, F1, B1, K1, hc, hf⟩ := gbM hf
  obtain ⟨-, hf⟩ := gif hf
  obtain ⟨_, _, _, _, hf⟩ := gbL hf
  cases hf
  exact m_S_perform hc
theorem ms_13 {Kr : Nat} {x : Int} {sc : Int → Int} {n i : Int} {K K9 : zK} {F Fm F9 Fm9 : zF} {B Bm B9 Bm9 : zB} (hf : ls_13 Kr x sc n i K F B Fm Bm = some (K9, F9, B9, Fm9, Bm9)) : zKle K K9 := by
  replace hf : (if 0 ≤ (i + 1) ∧ (i + 1) < n then if 0 ≤ (i + 2) ∧ (i + 2) < n then if 0 ≤ (i + 3) ∧ (i + 3) < n then if 0 ≤ x ∧ x < K.2 12 then zbL (f_S_stroke K x (sc (i + 1)) (sc (i + 2)) (sc (i + 3)) F B) (fun r13 F13 B13 => if 0 ≤ (i + 1) ∧ (i + 1) < n then if 0 ≤ (i + 2) ∧ (i + 2) < n then if 0 ≤ (i + 3) ∧ (i + 3) < n then zbL (f_M_stroke Kr (sc (i + 1)) (sc (i + 2)) (sc (i + 3)) Fm Bm) (fun r18 F18 B18 => some (K, F13, B13, F18, B18)) else none else none else none) else none else none else none else none) = some (K9, F9, B9, Fm9, Bm9) := hf
  obtain ⟨-, hf⟩ := gif hf
  obtain ⟨-, hf⟩ := gif hf
  obtain ⟨-, hf⟩ := gif hf
  obtain ⟨-, hf⟩ := gif hf
  obtain ⟨_, _, _, _, hf⟩ := gbL hf
  obtain ⟨-, hf⟩ := gif hf
  obtain ⟨-, hf⟩ := gif hf
  obtain ⟨-, hf⟩ := gif hf
  obtain ⟨_, _, _, _, hf⟩ := gbL hf
  cases hf
  exact zKle.rf
theorem ms_14 {Kr : Nat} {x : Int} {sc : Int → Int} {n i : Int} {K K9 : zK} {F Fm F9 Fm9 : zF} {B Bm B9 Bm9 : zB} (hf : ls_14 Kr x sc n i K F B Fm Bm = some (K9, F9, B9, Fm9, Bm9)) : zKle K K9 := by
  replace hf : (if 0 ≤ (i + 1) ∧ (i + 1) < n then if 0 ≤ x ∧ x < K.2 12 then zbL (f_S_file K x (sc (i + 1)) F B) (fun r11 F11 B11 => if 0 ≤ (i + 1) ∧ (i + 1) < n then zbL (f_M_file Kr (sc (i + 1)) Fm Bm) (fun r14 F14 B14 => some (K, F11, B11, F14, B14)) else none) else none else none) = some (K9, F9, B9, Fm9, Bm9) := hf
  obtain ⟨-, hf⟩ := gif hf
  obtain ⟨-, hf⟩ := gif hf
  obtain ⟨_, _, _, _, hf⟩ := gbL hf
  obtain ⟨-, hf⟩ := gif hf
  obtain ⟨_, _, _, _, hf⟩ := gbL hf
  cases hf
  exact zKle.rf
theorem ms_15 {Kr : Nat} {x : Int} {sc : Int → Int} {n i : Int} {K K9 : zK} {F Fm F9 Fm9 : zF} {B Bm B9 Bm9 : zB} (hf : ls_15 Kr x sc n i K F B Fm Bm = some (K9, F9, B9, Fm9, Bm9)) : zKle K K9 := by
  replace hf : (if 0 ≤ (i + 1) ∧ (i + 1) < n then if 0 ≤ x ∧ x < K.2 12 then zbL (f_S_out K x (sc (i + 1)) F B) (fun r11 F11 B11 => if 0 ≤ (i + 1) ∧ (i + 1) < n then zbL (f_M_out Kr (sc (i + 1)) Fm Bm) (fun r14 F14 B14 => some (K, F11, B11, F14, B14)) else none) else none else none) = some (K9, F9, B9, Fm9, Bm9) := hf
  obtain ⟨-, hf⟩ := gif hf
  obtain ⟨-, hf⟩ := gif hf
  obtain ⟨_, _, _, _, hf⟩ := gbL hf
  obtain ⟨-, hf⟩ := gif hf
  obtain ⟨_, _, _, _, hf⟩ := gbL hf
  cases hf
  exact zKle.rf
theorem ms_16 {Kr : Nat} {x : Int} {sc : Int → Int} {n i : Int} {K K9 : zK} {F Fm F9 Fm9 : zF} {B Bm B9 Bm9 : zB} (hf : ls_16 Kr x sc n i K F B Fm Bm = some (K9, F9, B9, Fm9, Bm9)) : zKle K K9 := by
  replace hf : (if 0 ≤ x ∧ x < K.2 12 then zbL (f_S_again K x F B) (fun r10 F10 B10 => zbL (f_M_again Kr Fm Bm) (fun r12 F12 B12 => some (K, F10, B10, F12, B12))) else none) = some (K9, F9, B9, Fm9, Bm9) := hf
  obtain ⟨-, hf⟩ := gif hf
  obtain ⟨_, _, _, _, hf⟩ := gbL hf
  obtain ⟨_, _, _, _, hf⟩ := gbL hf
  cases hf
  exact zKle.rf
theorem ms_17 {Kr : Nat} {x : Int} {sc : Int → Int} {n i : Int} {K K9 : zK} {F Fm F9 Fm9 : zF} {B Bm B9 Bm9 : zB} (hf : ls_17 Kr x sc n i K F B Fm Bm = some (K9, F9, B9, Fm9, Bm9)) : zKle K K9 := by
  replace hf : (if 0 ≤ x ∧ x < K.2 12 then zbM (f_S_open K x F B) (fun r10 F10 B10 K10 => zbL (f_M_open Kr Fm Bm) (fun r12 F12 B12 => some (K10, F10, B10, F12, B12))) else none) = some (K9, F9, B9, Fm9, Bm9) := hf
  obtain ⟨-, hf⟩ := gif hf
  obtain ⟨r1, F1, B1, K1, hc, hf⟩ := gbM hf
  obtain ⟨_, _, _, _, hf⟩ := gbL hf
  cases hf
  exact m_S_open hc
theorem ms_18 {Kr : Nat} {x : Int} {sc : Int → Int} {n i : Int} {K K9 : zK} {F Fm F9 Fm9 : zF} {B Bm B9 Bm9 : zB} (hf : ls_18 Kr x sc n i K F B Fm Bm = some (K9, F9, B9, Fm9, Bm9)) : zKle K K9 := by
  replace hf : (if 0 ≤ (i + 1) ∧ (i + 1) < n then if 0 ≤ x ∧ x < K.2 12 then zbL (f_S_track K x (sc (i + 1)) F B) (fun r11 F11 B11 => if 0 ≤ (i + 1) ∧ (i + 1) < n then zbL (f_M_track Kr (sc (i + 1)) Fm Bm) (fun r14 F14 B14 => some (K, F11, B11, F14, B14)) else none) else none else none) = some (K9, F9, B9, Fm9, Bm9) := hf
  obtain ⟨-, hf⟩ := gif hf
  obtain ⟨-, hf⟩ := gif hf
  obtain ⟨_, _, _, _, hf⟩ := gbL hf
  obtain ⟨-, hf⟩ := gif hf
  obtain ⟨_, _, _, _, hf⟩ := gbL hf
  cases hf
  exact zKle.rf
theorem ms_19 {Kr : Nat} {x : Int} {sc : Int → Int} {n i : Int} {K K9 : zK} {F Fm F9 Fm9 : zF} {B Bm B9 Bm9 : zB} (hf : ls_19 Kr x sc n i K F B Fm Bm = some (K9, F9, B9, Fm9, Bm9)) : zKle K K9 := by
  replace hf : (if 0 ≤ (i + 1) ∧ (i + 1) < n then if 0 ≤ (i + 2) ∧ (i + 2) < n then if 0 ≤ x ∧ x < K.2 12 then zbL (f_S_sound K x (sc (i + 1)) (sc (i + 2)) F B) (fun r12 F12 B12 => if 0 ≤ (i + 1) ∧ (i + 1) < n then if 0 ≤ (i + 2) ∧ (i + 2) < n then zbL (f_M_sound_0 Kr (sc (i + 1)) (sc (i + 2)) Fm Bm) (fun r16 F16 B16 => some (K, F12, B12, F16, B16)) else none else none) else none else none else none) = some (K9, F9, B9, Fm9, Bm9) := hf
  obtain ⟨-, hf⟩ := gif hf
  obtain ⟨-, hf⟩ := gif hf
  obtain ⟨-, hf⟩ := gif hf
  obtain ⟨_, _, _, _, hf⟩ := gbL hf
  obtain ⟨-, hf⟩ := gif hf
  obtain ⟨-, hf⟩ := gif hf
  obtain ⟨_, _, _, _, hf⟩ := gbL hf
  cases hf
  exact zKle.rf
theorem ms_20 {Kr : Nat} {x : Int} {sc : Int → Int} {n i : Int} {K K9 : zK} {F Fm F9 Fm9 : zF} {B Bm B9 Bm9 : zB} (hf : ls_20 Kr x sc n i K F B Fm Bm = some (K9, F9, B9, Fm9, Bm9)) : zKle K K9 := by
  replace hf : (if 0 ≤ (i + 1) ∧ (i + 1) < n then if 0 ≤ x ∧ x < K.2 12 then zbL (f_S_down K x (sc (i + 1)) F B) (fun r11 F11 B11 => if 0 ≤ (i + 1) ∧ (i + 1) < n then zbL (f_M_down Kr (sc (i + 1)) Fm Bm) (fun r14 F14 B14 => some (K, F11, B11, F14, B14)) else none) else none else none) = some (K9, F9, B9, Fm9, Bm9) := hf
  obtain ⟨-, hf⟩ := gif hf
  obtain ⟨-, hf⟩ := gif hf
  obtain ⟨_, _, _, _, hf⟩ := gbL hf
  obtain ⟨-, hf⟩ := gif hf
  obtain ⟨_, _, _, _, hf⟩ := gbL hf
  cases hf
  exact zKle.rf
theorem ms_21 {Kr : Nat} {x : Int} {sc : Int → Int} {n i : Int} {K K9 : zK} {F Fm F9 Fm9 : zF} {B Bm B9 Bm9 : zB} (hf : ls_21 Kr x sc n i K F B Fm Bm = some (K9, F9, B9, Fm9, Bm9)) : zKle K K9 := by
  replace hf : (if 0 ≤ (i + 1) ∧ (i + 1) < n then if 0 ≤ (i + 2) ∧ (i + 2) < n then if 0 ≤ x ∧ x < K.2 12 then zbL (f_S_play K x (sc (i + 1)) (sc (i + 2)) F B) (fun r12 F12 B12 => if 0 ≤ (i + 1) ∧ (i + 1) < n then if 0 ≤ (i + 2) ∧ (i + 2) < n then zbL (f_M_play Kr (sc (i + 1)) (sc (i + 2)) Fm Bm) (fun r16 F16 B16 => some (K, F12, B12, F16, B16)) else none else none) else none else none else none) = some (K9, F9, B9, Fm9, Bm9) := hf
  obtain ⟨-, hf⟩ := gif hf
  obtain ⟨-, hf⟩ := gif hf
  obtain ⟨-, hf⟩ := gif hf
  obtain ⟨_, _, _, _, hf⟩ := gbL hf
  obtain ⟨-, hf⟩ := gif hf
  obtain ⟨-, hf⟩ := gif hf
  obtain ⟨_, _, _, _, hf⟩ := gbL hf
  cases hf
  exact zKle.rf
theorem ms_22 {Kr : Nat} {x : Int} {sc : Int → Int} {n i : Int} {K K9 : zK} {F Fm F9 Fm9 : zF} {B Bm B9 Bm9 : zB} (hf : ls_22 Kr x sc n i K F B Fm Bm = some (K9, F9, B9, Fm9, Bm9)) : zKle K K9 := by
  replace hf : (if 0 ≤ (i + 1) ∧ (i + 1) < n then if 0 ≤ (i + 2) ∧ (i + 2) < n then if 0 ≤ (i + 3) ∧ (i + 3) < n then if 0 ≤ x ∧ x < K.2 12 then zbL (f_S_sample K x (sc (i + 1)) (sc (i + 2)) (sc (i + 3)) F B) (fun r13 F13 B13 => if 0 ≤ (i + 1) ∧ (i + 1) < n then if 0 ≤ (i + 2) ∧ (i + 2) < n then if 0 ≤ (i + 3) ∧ (i + 3) < n then zbL (f_M_sample Kr (sc (i + 1)) (sc (i + 2)) (sc (i + 3)) Fm Bm) (fun r18 F18 B18 => some (K, F13, B13, F18, B18)) else none else none else none) else none else none else none else none) = some (K9, F9, B9, Fm9, Bm9) := hf
  obtain ⟨-, hf⟩ := gif hf
  obtain ⟨-, hf⟩ := gif hf
  obtain ⟨-, hf⟩ := gif hf
  obtain ⟨-, hf⟩ := gif hf
  obtain ⟨_, _, _, _, hf⟩ := gbL hf
  obtain ⟨-, hf⟩ := gif hf
  obtain ⟨-, hf⟩ := gif hf
  obtain ⟨-, hf⟩ := gif hf
  obtain ⟨_, _, _, _, hf⟩ := gbL hf
  cases hf
  exact zKle.rf
theorem ms_23 {Kr : Nat} {x : Int} {sc : Int → Int} {n i : Int} {K K9 : zK} {F Fm F9 Fm9 : zF} {B Bm B9 Bm9 : zB} (hf : ls_23 Kr x sc n i K F B Fm Bm = some (K9, F9, B9, Fm9, Bm9)) : zKle K K9 := by
  replace hf : (if 0 ≤ (i + 1) ∧ (i + 1) < n then if 0 ≤ (i + 2) ∧ (i + 2) < n then if 0 ≤ (i + 3) ∧ (i + 3) < n then if 0 ≤ x ∧ x < K.2 12 then zbM (f_S_moment K x (sc (i + 1)) (sc (i + 2)) (sc (i + 3)) F B) (fun r13 F13 B13 K13 => if 0 ≤ (i + 1) ∧ (i + 1) < n then if 0 ≤ (i + 2) ∧ (i + 2) < n then if 0 ≤ (i + 3) ∧ (i + 3) < n then zbL (f_M_moment_0 Kr (sc (i + 1)) (sc (i + 2)) (sc (i + 3)) Fm Bm) (fun r18 F18 B18 => some (K13, F13, B13, F18, B18)) else none else none else none) else none else none else none else none) = some (K9, F9, B9, Fm9, Bm9) := hf
  obtain ⟨-, hf⟩ := gif hf
  obtain ⟨-, hf⟩ := gif hf
  obtain ⟨-, hf⟩ := gif hf
  obtain ⟨-, hf⟩ := gif hf
  obtain ⟨r1, F1, B1, K1, hc, hf⟩ := gbM hf
  obtain ⟨-, hf⟩ := gif hf
  obtain ⟨-, hf⟩ := gif hf
  obtain ⟨-, hf⟩ := gif hf
  obtain ⟨_, _, _, _, hf⟩ := gbL hf
  cases hf
  exact m_S_moment hc
theorem ms_24 {Kr : Nat} {x : Int} {sc : Int → Int} {n i : Int} {K K9 : zK} {F Fm F9 Fm9 : zF} {B Bm B9 Bm9 : zB} (hf : ls_24 Kr x sc n i K F B Fm Bm = some (K9, F9, B9, Fm9, Bm9)) : zKle K K9 := by
  replace hf : (if 0 ≤ (i + 1) ∧ (i + 1) < n then if 0 ≤ (i + 2) ∧ (i + 2) < n then if 0 ≤ (i + 3) ∧ (i + 3) < n then if 0 ≤ x ∧ x < K.2 12 then zbM (f_S_fault K x (sc (i + 1)) (sc (i + 2)) (sc (i + 3)) F B) (fun r13 F13 B13 K13 => if 0 ≤ (i + 1) ∧ (i + 1) < n then if 0 ≤ (i + 2) ∧ (i + 2) < n then if 0 ≤ (i + 3) ∧ (i + 3) < n then zbL (f_M_fault_0 Kr (sc (i + 1)) (sc (i + 2)) (sc (i + 3)) Fm Bm) (fun r18 F18 B18 => some (K13, F13, B13, F18, B18)) else none else none else none) else none else none else none else none) = some (K9, F9, B9, Fm9, Bm9) := hf
  obtain ⟨-, hf⟩ := gif hf
  obtain ⟨-, hf⟩ := gif hf
  obtain ⟨-, hf⟩ := gif hf
  obtain ⟨-, hf⟩ := gif hf
  obtain ⟨r1, F1, B1, K1, hc, hf⟩ := gbM hf
  obtain ⟨-, hf⟩ := gif hf
  obtain ⟨-, hf⟩ := gif hf
  obtain ⟨-, hf⟩ := gif hf
  obtain ⟨_, _, _, _, hf⟩ := gbL hf
  cases hf
  exact m_S_fault hc
theorem ms_25 {Kr : Nat} {x : Int} {sc : Int → Int} {n i : Int} {K K9 : zK} {F Fm F9 Fm9 : zF} {B Bm B9 Bm9 : zB} (hf : ls_25 Kr x sc n i K F B Fm Bm = some (K9, F9, B9, Fm9, Bm9)) : zKle K K9 := by
  replace hf : (if 0 ≤ (i + 1) ∧ (i + 1) < n then if 0 ≤ (i + 2) ∧ (i + 2) < n then if 0 ≤ (i + 3) ∧ (i + 3) < n then if 0 ≤ (i + 4) ∧ (i + 4) < n then if 0 ≤ x ∧ x < K.2 12 then zbL (f_S_follows K x (sc (i + 1)) (sc (i + 2)) (sc (i + 3)) (sc (i + 4)) F B) (fun r14 F14 B14 => if 0 ≤ (i + 1) ∧ (i + 1) < n then if 0 ≤ (i + 2) ∧ (i + 2) < n then if 0 ≤ (i + 3) ∧ (i + 3) < n then if 0 ≤ (i + 4) ∧ (i + 4) < n then zbL (f_M_follows Kr (sc (i + 1)) (sc (i + 2)) (sc (i + 3)) (sc (i + 4)) Fm Bm) (fun r20 F20 B20 => some (K, F14, B14, F20, B20)) else none else none else none else none) else none else none else none else none else none) = some (K9, F9, B9, Fm9, Bm9) := hf
  obtain ⟨-, hf⟩ := gif hf
  obtain ⟨-, hf⟩ := gif hf
  obtain ⟨-, hf⟩ := gif hf
  obtain ⟨-, hf⟩ := gif hf
  obtain ⟨-, hf⟩ := gif hf
  obtain ⟨_, _, _, _, hf⟩ := gbL hf
  obtain ⟨-, hf⟩ := gif hf
  obtain ⟨-, hf⟩ := gif hf
  obtain ⟨-, hf⟩ := gif hf
  obtain ⟨-, hf⟩ := gif hf
  obtain ⟨_, _, _, _, hf⟩ := gbL hf
  cases hf
  exact zKle.rf
theorem ms_26 {Kr : Nat} {x : Int} {sc : Int → Int} {n i : Int} {K K9 : zK} {F Fm F9 Fm9 : zF} {B Bm B9 Bm9 : zB} (hf : ls_26 Kr x sc n i K F B Fm Bm = some (K9, F9, B9, Fm9, Bm9)) : zKle K K9 := by
  replace hf : (if 0 ≤ (i + 1) ∧ (i + 1) < n then if 0 ≤ (i + 2) ∧ (i + 2) < n then if 0 ≤ (i + 3) ∧ (i + 3) < n then if 0 ≤ (i + 4) ∧ (i + 4) < n then if 0 ≤ (i + 5) ∧ (i + 5) < n then if 0 ≤ (i + 6) ∧ (i + 6) < n then if 0 ≤ (i + 7) ∧ (i + 7) < n then if 0 ≤ (i + 8) ∧ (i + 8) < n then if 0 ≤ x ∧ x < K.2 12 then zbL (f_S_shape K x (sc (i + 1)) (sc (i + 2)) (sc (i + 3)) (sc (i + 4)) (sc (i + 5)) (sc (i + 6)) (sc (i + 7)) (sc (i + 8)) F B) (fun r18 F18 B18 => if 0 ≤ (i + 1) ∧ (i + 1) < n then if 0 ≤ (i + 2) ∧ (i + 2) < n then if 0 ≤ (i + 3) ∧ (i + 3) < n then if 0 ≤ (i + 4) ∧ (i + 4) < n then if 0 ≤ (i + 5) ∧ (i + 5) < n then if 0 ≤ (i + 6) ∧ (i + 6) < n then if 0 ≤ (i + 7) ∧ (i + 7) < n then if 0 ≤ (i + 8) ∧ (i + 8) < n then zbL (f_M_shape Kr (sc (i + 1)) (sc (i + 2)) (sc (i + 3)) (sc (i + 4)) (sc (i + 5)) (sc (i + 6)) (sc (i + 7)) (sc (i + 8)) Fm Bm) (fun r28 F28 B28 => some (K, F18, B18, F28, B28)) else none else none else none else none else none else none else none else none) else none else none else none else none else none else none else none else none else none) = some (K9, F9, B9, Fm9, Bm9) := hf
  obtain ⟨-, hf⟩ := gif hf
  obtain ⟨-, hf⟩ := gif hf
  obtain ⟨-, hf⟩ := gif hf
  obtain ⟨-, hf⟩ := gif hf
  obtain ⟨-, hf⟩ := gif hf
  obtain ⟨-, hf⟩ := gif hf
  obtain ⟨-, hf⟩ := gif hf
  obtain ⟨-, hf⟩ := gif hf
  obtain ⟨-, hf⟩ := gif hf
  obtain ⟨_, _, _, _, hf⟩ := gbL hf
  obtain ⟨-, hf⟩ := gif hf
  obtain ⟨-, hf⟩ := gif hf
  obtain ⟨-, hf⟩ := gif hf
  obtain ⟨-, hf⟩ := gif hf
  obtain ⟨-, hf⟩ := gif hf
  obtain ⟨-, hf⟩ := gif hf
  obtain ⟨-, hf⟩ := gif hf
  obtain ⟨-, hf⟩ := gif hf
  obtain ⟨_, _, _, _, hf⟩ := gbL hf
  cases hf
  exact zKle.rf
theorem ms_step {Kr : Nat} {x : Int} {sc : Int → Int} {n i : Int} {K K9 : zK} {F Fm F9 Fm9 : zF} {B Bm B9 Bm9 : zB} (hf : lstep Kr x sc n i K F B Fm Bm = some (K9, F9, B9, Fm9, Bm9)) : zKle K K9 := by
  unfold lstep at hf
  by_cases h0 : zand (sc i) 31 = 0
  · exact ms_0 (gpos hf h0)
  replace hf := gneg hf h0
  by_cases h1 : zand (sc i) 31 = 1
  · exact ms_1 (gpos hf h1)
  replace hf := gneg hf h1
  by_cases h2 : zand (sc i) 31 = 2
  · exact ms_2 (gpos hf h2)
  replace hf := gneg hf h2
  by_cases h3 : zand (sc i) 31 = 3
  · exact ms_3 (gpos hf h3)
  replace hf := gneg hf h3
  by_cases h4 : zand (sc i) 31 = 4
  · exact ms_4 (gpos hf h4)
  replace hf := gneg hf h4
  by_cases h5 : zand (sc i) 31 = 5
  · exact ms_5 (gpos hf h5)
  replace hf := gneg hf h5
  by_cases h6 : zand (sc i) 31 = 6
  · exact ms_6 (gpos hf h6)
  replace hf := gneg hf h6
  by_cases h7 : zand (sc i) 31 = 7
  · exact ms_7 (gpos hf h7)
  replace hf := gneg hf h7
  by_cases h8 : zand (sc i) 31 = 8
  · exact ms_8 (gpos hf h8)
  replace hf := gneg hf h8
  by_cases h9 : zand (sc i) 31 = 9
  · exact ms_9 (gpos hf h9)
  replace hf := gneg hf h9
  by_cases h10 : zand (sc i) 31 = 10
  · exact ms_10 (gpos hf h10)
  replace hf := gneg hf h10
  by_cases h11 : zand (sc i) 31 = 11
  · exact ms_11 (gpos hf h11)
  replace hf := gneg hf h11
  by_cases h12 : zand (sc i) 31 = 12
  · exact ms_12 (gpos hf h12)
  replace hf := gneg hf h12
  by_cases h13 : zand (sc i) 31 = 13
  · exact ms_13 (gpos hf h13)
  replace hf := gneg hf h13
  by_cases h14 : zand (sc i) 31 = 14
  · exact ms_14 (gpos hf h14)
  replace hf := gneg hf h14
  by_cases h15 : zand (sc i) 31 = 15
  · exact ms_15 (gpos hf h15)
  replace hf := gneg hf h15
  by_cases h16 : zand (sc i) 31 = 16
  · exact ms_16 (gpos hf h16)
  replace hf := gneg hf h16
  by_cases h17 : zand (sc i) 31 = 17
  · exact ms_17 (gpos hf h17)
  replace hf := gneg hf h17
  by_cases h18 : zand (sc i) 31 = 18
  · exact ms_18 (gpos hf h18)
  replace hf := gneg hf h18
  by_cases h19 : zand (sc i) 31 = 19
  · exact ms_19 (gpos hf h19)
  replace hf := gneg hf h19
  by_cases h20 : zand (sc i) 31 = 20
  · exact ms_20 (gpos hf h20)
  replace hf := gneg hf h20
  by_cases h21 : zand (sc i) 31 = 21
  · exact ms_21 (gpos hf h21)
  replace hf := gneg hf h21
  by_cases h22 : zand (sc i) 31 = 22
  · exact ms_22 (gpos hf h22)
  replace hf := gneg hf h22
  by_cases h23 : zand (sc i) 31 = 23
  · exact ms_23 (gpos hf h23)
  replace hf := gneg hf h23
  by_cases h24 : zand (sc i) 31 = 24
  · exact ms_24 (gpos hf h24)
  replace hf := gneg hf h24
  by_cases h25 : zand (sc i) 31 = 25
  · exact ms_25 (gpos hf h25)
  replace hf := gneg hf h25
  by_cases h26 : zand (sc i) 31 = 26
  · exact ms_26 (gpos hf h26)
  replace hf := gneg hf h26
  cases hf
  exact zKle.rf
theorem ms_loop {Kr : Nat} {x : Int} {sc : Int → Int} {n : Int} : ∀ {f : Nat} {i : Int} {K K9 : zK} {F Fm F9 Fm9 : zF} {B Bm B9 Bm9 : zB}, lloop Kr x sc n f i K F B Fm Bm = some (K9, F9, B9, Fm9, Bm9) → zKle K K9 := by
  intro f
  induction f with
  | zero =>
    intros
    rename_i hf
    cases hf
  | succ f ih =>
    intro i K K9 F Fm F9 Fm9 B Bm B9 Bm9 hf
    unfold lloop at hf
    obtain ⟨-, hf⟩ := gif hf
    obtain ⟨-, hf⟩ := gif hf
    by_cases h : n - 9 < i
    · replace hf := gpos hf h
      cases hf
      exact zKle.rf
    · replace hf := gneg hf h
      obtain ⟨-, hf⟩ := gif hf
      obtain ⟨-, hf⟩ := gif hf
      cases hs : lstep Kr x sc n i K F B Fm Bm with
      | none => rw [hs] at hf; cases hf
      | some q =>
        rw [hs] at hf
        exact (ms_step hs).tr (ih hf)
set_option maxHeartbeats 4000000 in
set_option maxRecDepth 100000 in
theorem law_loop {D : va_G} {ca : Nat → ClassId} {ad2 : Nat → Int → Nat → Nat} {L2 : List Nat} {aS vS : Nat → Nat} {A : Nat → Prop} {p : Program} {l : Launch} {e : Env} {s : State} {m : MethodId} {below : List Frame} {meth : Method} {c : Code} {b n : Nat} {xs : Nat → Int32} {xx mm : Nat} {x : Int} {Kr : Nat} (X2 : zX D ca L2 aS vS A p s m #[Value.ref b] meth c code 4 ret "StaveHouseLaw") (hXs : va_X b n xs s s.heap) (hbl : b < s.heap.size) (hbA : ¬ A b) (hA2 : ∀ q, A q → s.heap.size ≤ q) (hL4 : n ≤ 2147483647) (hmm : ad2 14 0 0 = mm) : ∀ {f : Nat} {i : Int} {K K9 : zK} {F Fm F9 Fm9 : zF} {B Bm B9 Bm9 : zB} {ad : Nat → Int → Nat → Nat} {L : List Nat} {H : Heap} {locs : List Loc} {cells slots : Nat} {ls : Array Slot}, lloop Kr x (scz xs) n f i K F B Fm Bm = some (K9, F9, B9, Fm9, Bm9) → zX D ca L aS vS A p s m #[Value.ref b] meth c code 4 ret "StaveHouseLaw" → zH D ca ad lnC K.2 L F B A H → zH D ca ad2 lnM nM L2 Fm Bm A H → (∀ q ∈ L2, q ∉ L) → va_S A s.heap H locs → ad 12 x 0 = xx → lv_has ls 4 [(3, .int (iI i)), (2, .ref mm), (1, .ref xx), (0, .ref b)] → cells + cwC K K9 ≤ 600000 ∧ slots + swC K K9 ≤ 7302250 → W p l e room_1 s m #[Value.ref b] below meth c H locs cells slots (lw_Z below #[Value.ref b] s) (F0 m 18 ls []) := by
  intro f
  induction f with
  | zero =>
    intros
    rename_i hf _ _ _ _ _ _ _ _
    cases hf
  | succ f ih =>
    intro i K K9 F Fm F9 Fm9 B Bm B9 Bm9 ad L H locs cells slots ls hf X1 hZ1 hZ2 hd hS hxx hl hrm
    obtain ⟨hx, hb, hr, hml, hown, hts, hlk, hK, hA, hL, hX⟩ := id X1
    unfold lloop at hf
    obtain ⟨hi, hf⟩ := gif hf
    obtain ⟨hn, hf⟩ := gif hf
    refine lv_iload_n hx hb d_code_18 rfl (lv_at hl 0 rfl) ?_
    refine lv_aload_n hx hb d_code_19 rfl (lv_at hl 3 rfl) ?_
    refine va_slen hx hb hXs hbl hbA hS d_code_20 ?_
    refine W.eq (g2 := F0 m 21 ls [.int (iI (n : Int)), .int (iI i)]) rfl ?_
    refine lv_bipush (v := iI 9) hx hb d_code_21 (by decide) ?_
    refine zsub hx hb d_code_23 ?_
    refine zgt (tgt := 1197) hx hb hi hn d_code_24 (by decide) (fun h => ?_) (fun h => ?_)
    · replace hf := gpos hf h
      cases hf
      refine lv_iconst (v := 1) hx hb d_code_1197 (by decide) ?_
      refine va_forget (fun q hq => hA2 _ (hS.2.2 q hq)) ?_
      refine W.widen (k := 600000) (n := 7302250) (by omega) (by omega) ?_
      exact lw_ret hx hb hr hlk d_code_1198
    · replace hf := gneg hf h
      obtain ⟨h2, hf⟩ := gif hf
      obtain ⟨h3, hf⟩ := gif hf
      refine lv_aload_n hx hb d_code_27 rfl (lv_at hl 3 rfl) ?_
      refine lv_iload_n hx hb d_code_28 rfl (lv_at hl 0 rfl) ?_
      refine zsld hx hb hXs hbl hbA hS h2.1 h2.2 hL4 d_code_29 ?_
      refine lv_bipush (v := iI 31) hx hb d_code_30 (by decide) ?_
      refine zand_r hx hb d_code_32 ?_
      cases hs : lstep Kr x (scz xs) n i K F B Fm Bm with
      | none => rw [hs] at hf; cases hf
      | some q =>
        rw [hs] at hf
        obtain ⟨K1, F1, B1, Fm1, Bm1⟩ := q
        replace hf : lloop Kr x (scz xs) n f (i + 9) K1 F1 B1 Fm1 Bm1 = some (K9, F9, B9, Fm9, Bm9) := hf
        have hm1 := ms_step hs
        have hm2 := ms_loop hf
        have hr1 := zroomC zKle.rf hm1 hm2 (K0 := K)
        have hrm1 : cells + cwC K K1 ≤ 600000 ∧ slots + swC K K1 ≤ 7302250 := by
          have e : cwC K K = 0 := Nat.sub_self _
          have e2 : swC K K = 0 := Nat.sub_self _
          omega
        have hrm2 : cells + cwC K K1 + cwC K1 K9 ≤ 600000 ∧ slots + swC K K1 + swC K1 K9 ≤ 7302250 := by
          have a1 := cwN_le hm1
          have a2 := cwN_le hm2
          have a3 := swN_le hm1
          have a4 := swN_le hm2
          unfold cwC swC at *
          omega
        have tail : ∀ {ad' : Nat → Int → Nat → Nat} {L' : List Nat} {H' : Heap} {locs' : List Loc}, zG ad K.2 ad' K1.2 → zH D ca ad' lnC K1.2 L' F1 B1 A H' → zH D ca ad2 lnM nM L2 Fm1 Bm1 A H' → (∀ q ∈ L2, q ∉ L') → va_S A s.heap H' locs' → ad' 12 x 0 = xx → lv_has ls 4 [(3, .int (iI i)), (2, .ref mm), (1, .ref xx), (0, .ref b)] → W p l e room_1 s m #[Value.ref b] below meth c H' locs' (cells + cwC K K1) (slots + swC K K1) (lw_Z below #[Value.ref b] s) (F0 m 1191 ls []) := by
          intro ad' L' H' locs' hG' hZ1' hZ2' hd' hS' hxx' hl'
          refine lv_iinc (v := iI (i + 9)) (lv' := [(3, .int (iI (i + 9))), (2, .ref mm), (1, .ref xx), (0, .ref b)]) hx hb d_code_1191 hl' (k := 0) rfl (iI_add _ 9) (by decide) rfl (fun ls hl => ?_)
          refine lv_goto (tgt := 18) hx hb d_code_1194 (by decide) ?_
          exact ih hf (X1.grow hZ1'.inA) hZ1' hZ2' hd' hS' hxx' hl hrm2
        unfold lstep at hs
        by_cases h0c : zand (scz xs i) 31 = 0
        · replace hs := gpos hs h0c
          refine lv_tableIn (off := 123) (tgt := 156) hx hb d_code_33 (by rw [iI_to h3, h0c]; decide) (by rw [iI_to h3, h0c]; decide) (by rw [iI_to h3, h0c]; rfl) (by decide) ?_
          exact lc_0 X1 X2 hXs hbl hbA hL4 hs hZ1 hZ2 hd hS hxx hmm hl hrm1 tail
        replace hs := gneg hs h0c
        by_cases h1c : zand (scz xs i) 31 = 1
        · replace hs := gpos hs h1c
          refine lv_tableIn (off := 184) (tgt := 217) hx hb d_code_33 (by rw [iI_to h3, h1c]; decide) (by rw [iI_to h3, h1c]; decide) (by rw [iI_to h3, h1c]; rfl) (by decide) ?_
          exact lc_1 X1 X2 hXs hbl hbA hL4 hs hZ1 hZ2 hd hS hxx hmm hl hrm1 tail
        replace hs := gneg hs h1c
        by_cases h2c : zand (scz xs i) 31 = 2
        · replace hs := gpos hs h2c
          refine lv_tableIn (off := 207) (tgt := 240) hx hb d_code_33 (by rw [iI_to h3, h2c]; decide) (by rw [iI_to h3, h2c]; decide) (by rw [iI_to h3, h2c]; rfl) (by decide) ?_
          exact lc_2 X1 X2 hXs hbl hbA hL4 hs hZ1 hZ2 hd hS hxx hmm hl hrm1 tail
        replace hs := gneg hs h2c
        by_cases h3c : zand (scz xs i) 31 = 3
        · replace hs := gpos hs h3c
          refine lv_tableIn (off := 230) (tgt := 263) hx hb d_code_33 (by rw [iI_to h3, h3c]; decide) (by rw [iI_to h3, h3c]; decide) (by rw [iI_to h3, h3c]; rfl) (by decide) ?_
          exact lc_3 X1 X2 hXs hbl hbA hL4 hs hZ1 hZ2 hd hS hxx hmm hl hrm1 tail
        replace hs := gneg hs h3c
        by_cases h4c : zand (scz xs i) 31 = 4
        · replace hs := gpos hs h4c
          refine lv_tableIn (off := 263) (tgt := 296) hx hb d_code_33 (by rw [iI_to h3, h4c]; decide) (by rw [iI_to h3, h4c]; decide) (by rw [iI_to h3, h4c]; rfl) (by decide) ?_
          exact lc_4 X1 X2 hXs hbl hbA hL4 hs hZ1 hZ2 hd hS hxx hmm hl hrm1 tail
        replace hs := gneg hs h4c
        by_cases h5c : zand (scz xs i) 31 = 5
        · replace hs := gpos hs h5c
          refine lv_tableIn (off := 306) (tgt := 339) hx hb d_code_33 (by rw [iI_to h3, h5c]; decide) (by rw [iI_to h3, h5c]; decide) (by rw [iI_to h3, h5c]; rfl) (by decide) ?_
          exact lc_5 X1 X2 hXs hbl hbA hL4 hs hZ1 hZ2 hd hS hxx hmm hl hrm1 tail
        replace hs := gneg hs h5c
        by_cases h6c : zand (scz xs i) 31 = 6
        · replace hs := gpos hs h6c
          refine lv_tableIn (off := 339) (tgt := 372) hx hb d_code_33 (by rw [iI_to h3, h6c]; decide) (by rw [iI_to h3, h6c]; decide) (by rw [iI_to h3, h6c]; rfl) (by decide) ?_
          exact lc_6 X1 X2 hXs hbl hbA hL4 hs hZ1 hZ2 hd hS hxx hmm hl hrm1 tail
        replace hs := gneg hs h6c
        by_cases h7c : zand (scz xs i) 31 = 7
        · replace hs := gpos hs h7c
          refine lv_tableIn (off := 392) (tgt := 425) hx hb d_code_33 (by rw [iI_to h3, h7c]; decide) (by rw [iI_to h3, h7c]; decide) (by rw [iI_to h3, h7c]; rfl) (by decide) ?_
          exact lc_7 X1 X2 hXs hbl hbA hL4 hs hZ1 hZ2 hd hS hxx hmm hl hrm1 tail
        replace hs := gneg hs h7c
        by_cases h8c : zand (scz xs i) 31 = 8
        · replace hs := gpos hs h8c
          refine lv_tableIn (off := 455) (tgt := 488) hx hb d_code_33 (by rw [iI_to h3, h8c]; decide) (by rw [iI_to h3, h8c]; decide) (by rw [iI_to h3, h8c]; rfl) (by decide) ?_
          exact lc_8 X1 X2 hXs hbl hbA hL4 hs hZ1 hZ2 hd hS hxx hmm hl hrm1 tail
        replace hs := gneg hs h8c
        by_cases h9c : zand (scz xs i) 31 = 9
        · replace hs := gpos hs h9c
          refine lv_tableIn (off := 508) (tgt := 541) hx hb d_code_33 (by rw [iI_to h3, h9c]; decide) (by rw [iI_to h3, h9c]; decide) (by rw [iI_to h3, h9c]; rfl) (by decide) ?_
          exact lc_9 X1 X2 hXs hbl hbA hL4 hs hZ1 hZ2 hd hS hxx hmm hl hrm1 tail
        replace hs := gneg hs h9c
        by_cases h10c : zand (scz xs i) 31 = 10
        · replace hs := gpos hs h10c
          refine lv_tableIn (off := 541) (tgt := 574) hx hb d_code_33 (by rw [iI_to h3, h10c]; decide) (by rw [iI_to h3, h10c]; decide) (by rw [iI_to h3, h10c]; rfl) (by decide) ?_
          exact lc_10 X1 X2 hXs hbl hbA hL4 hs hZ1 hZ2 hd hS hxx hmm hl hrm1 tail
        replace hs := gneg hs h10c
        by_cases h11c : zand (scz xs i) 31 = 11
        · replace hs := gpos hs h11c
          refine lv_tableIn (off := 584) (tgt := 617) hx hb d_code_33 (by rw [iI_to h3, h11c]; decide) (by rw [iI_to h3, h11c]; decide) (by rw [iI_to h3, h11c]; rfl) (by decide) ?_
          exact lc_11 X1 X2 hXs hbl hbA hL4 hs hZ1 hZ2 hd hS hxx hmm hl hrm1 tail
        replace hs := gneg hs h11c
        by_cases h12c : zand (scz xs i) 31 = 12
        · replace hs := gpos hs h12c
          refine lv_tableIn (off := 627) (tgt := 660) hx hb d_code_33 (by rw [iI_to h3, h12c]; decide) (by rw [iI_to h3, h12c]; decide) (by rw [iI_to h3, h12c]; rfl) (by decide) ?_
          exact lc_12 X1 X2 hXs hbl hbA hL4 hs hZ1 hZ2 hd hS hxx hmm hl hrm1 tail
        replace hs := gneg hs h12c
        by_cases h13c : zand (scz xs i) 31 = 13
        · replace hs := gpos hs h13c
          refine lv_tableIn (off := 650) (tgt := 683) hx hb d_code_33 (by rw [iI_to h3, h13c]; decide) (by rw [iI_to h3, h13c]; decide) (by rw [iI_to h3, h13c]; rfl) (by decide) ?_
          exact lc_13 X1 X2 hXs hbl hbA hL4 hs hZ1 hZ2 hd hS hxx hmm hl hrm1 tail
        replace hs := gneg hs h13c
        by_cases h14c : zand (scz xs i) 31 = 14
        · replace hs := gpos hs h14c
          refine lv_tableIn (off := 693) (tgt := 726) hx hb d_code_33 (by rw [iI_to h3, h14c]; decide) (by rw [iI_to h3, h14c]; decide) (by rw [iI_to h3, h14c]; rfl) (by decide) ?_
          exact lc_14 X1 X2 hXs hbl hbA hL4 hs hZ1 hZ2 hd hS hxx hmm hl hrm1 tail
        replace hs := gneg hs h14c
        by_cases h15c : zand (scz xs i) 31 = 15
        · replace hs := gpos hs h15c
          refine lv_tableIn (off := 716) (tgt := 749) hx hb d_code_33 (by rw [iI_to h3, h15c]; decide) (by rw [iI_to h3, h15c]; decide) (by rw [iI_to h3, h15c]; rfl) (by decide) ?_
          exact lc_15 X1 X2 hXs hbl hbA hL4 hs hZ1 hZ2 hd hS hxx hmm hl hrm1 tail
        replace hs := gneg hs h15c
        by_cases h16c : zand (scz xs i) 31 = 16
        · replace hs := gpos hs h16c
          refine lv_tableIn (off := 739) (tgt := 772) hx hb d_code_33 (by rw [iI_to h3, h16c]; decide) (by rw [iI_to h3, h16c]; decide) (by rw [iI_to h3, h16c]; rfl) (by decide) ?_
          exact lc_16 X1 X2 hXs hbl hbA hL4 hs hZ1 hZ2 hd hS hxx hmm hl hrm1 tail
        replace hs := gneg hs h16c
        by_cases h17c : zand (scz xs i) 31 = 17
        · replace hs := gpos hs h17c
          refine lv_tableIn (off := 752) (tgt := 785) hx hb d_code_33 (by rw [iI_to h3, h17c]; decide) (by rw [iI_to h3, h17c]; decide) (by rw [iI_to h3, h17c]; rfl) (by decide) ?_
          exact lc_17 X1 X2 hXs hbl hbA hL4 hs hZ1 hZ2 hd hS hxx hmm hl hrm1 tail
        replace hs := gneg hs h17c
        by_cases h18c : zand (scz xs i) 31 = 18
        · replace hs := gpos hs h18c
          refine lv_tableIn (off := 765) (tgt := 798) hx hb d_code_33 (by rw [iI_to h3, h18c]; decide) (by rw [iI_to h3, h18c]; decide) (by rw [iI_to h3, h18c]; rfl) (by decide) ?_
          exact lc_18 X1 X2 hXs hbl hbA hL4 hs hZ1 hZ2 hd hS hxx hmm hl hrm1 tail
        replace hs := gneg hs h18c
        by_cases h19c : zand (scz xs i) 31 = 19
        · replace hs := gpos hs h19c
          refine lv_tableIn (off := 788) (tgt := 821) hx hb d_code_33 (by rw [iI_to h3, h19c]; decide) (by rw [iI_to h3, h19c]; decide) (by rw [iI_to h3, h19c]; rfl) (by decide) ?_
          exact lc_19 X1 X2 hXs hbl hbA hL4 hs hZ1 hZ2 hd hS hxx hmm hl hrm1 tail
        replace hs := gneg hs h19c
        by_cases h20c : zand (scz xs i) 31 = 20
        · replace hs := gpos hs h20c
          refine lv_tableIn (off := 821) (tgt := 854) hx hb d_code_33 (by rw [iI_to h3, h20c]; decide) (by rw [iI_to h3, h20c]; decide) (by rw [iI_to h3, h20c]; rfl) (by decide) ?_
          exact lc_20 X1 X2 hXs hbl hbA hL4 hs hZ1 hZ2 hd hS hxx hmm hl hrm1 tail
        replace hs := gneg hs h20c
        by_cases h21c : zand (scz xs i) 31 = 21
        · replace hs := gpos hs h21c
          refine lv_tableIn (off := 844) (tgt := 877) hx hb d_code_33 (by rw [iI_to h3, h21c]; decide) (by rw [iI_to h3, h21c]; decide) (by rw [iI_to h3, h21c]; rfl) (by decide) ?_
          exact lc_21 X1 X2 hXs hbl hbA hL4 hs hZ1 hZ2 hd hS hxx hmm hl hrm1 tail
        replace hs := gneg hs h21c
        by_cases h22c : zand (scz xs i) 31 = 22
        · replace hs := gpos hs h22c
          refine lv_tableIn (off := 877) (tgt := 910) hx hb d_code_33 (by rw [iI_to h3, h22c]; decide) (by rw [iI_to h3, h22c]; decide) (by rw [iI_to h3, h22c]; rfl) (by decide) ?_
          exact lc_22 X1 X2 hXs hbl hbA hL4 hs hZ1 hZ2 hd hS hxx hmm hl hrm1 tail
        replace hs := gneg hs h22c
        by_cases h23c : zand (scz xs i) 31 = 23
        · replace hs := gpos hs h23c
          refine lv_tableIn (off := 920) (tgt := 953) hx hb d_code_33 (by rw [iI_to h3, h23c]; decide) (by rw [iI_to h3, h23c]; decide) (by rw [iI_to h3, h23c]; rfl) (by decide) ?_
          exact lc_23 X1 X2 hXs hbl hbA hL4 hs hZ1 hZ2 hd hS hxx hmm hl hrm1 tail
        replace hs := gneg hs h23c
        by_cases h24c : zand (scz xs i) 31 = 24
        · replace hs := gpos hs h24c
          refine lv_tableIn (off := 963) (tgt := 996) hx hb d_code_33 (by rw [iI_to h3, h24c]; decide) (by rw [iI_to h3, h24c]; decide) (by rw [iI_to h3, h24c]; rfl) (by decide) ?_
          exact lc_24 X1 X2 hXs hbl hbA hL4 hs hZ1 hZ2 hd hS hxx hmm hl hrm1 tail
        replace hs := gneg hs h24c
        by_cases h25c : zand (scz xs i) 31 = 25
        · replace hs := gpos hs h25c
          refine lv_tableIn (off := 1006) (tgt := 1039) hx hb d_code_33 (by rw [iI_to h3, h25c]; decide) (by rw [iI_to h3, h25c]; decide) (by rw [iI_to h3, h25c]; rfl) (by decide) ?_
          exact lc_25 X1 X2 hXs hbl hbA hL4 hs hZ1 hZ2 hd hS hxx hmm hl hrm1 tail
        replace hs := gneg hs h25c
        by_cases h26c : zand (scz xs i) 31 = 26
        · replace hs := gpos hs h26c
          refine lv_tableIn (off := 1059) (tgt := 1092) hx hb d_code_33 (by rw [iI_to h3, h26c]; decide) (by rw [iI_to h3, h26c]; decide) (by rw [iI_to h3, h26c]; rfl) (by decide) ?_
          exact lc_26 X1 X2 hXs hbl hbA hL4 hs hZ1 hZ2 hd hS hxx hmm hl hrm1 tail
        replace hs := gneg hs h26c
        cases hs
        refine lv_tableOut (tgt := 1191) hx hb d_code_33 (by rw [iI_to h3]; omega) (by decide) ?_
        refine W.widen (k := cells + cwC K K) (n := slots + swC K K) (by omega) (by omega) ?_
        exact tail zG.rf hZ1 hZ2 hd hS hxx hl
end

section
/-! ===== a track: what stands while it is read ===== -/
/-- the program's numbers: k below the track at hand told, the rest not yet -/
def NUM (o tr : Int) (B : zB) (Bm : zB) : Prop := ∀ k, 0 ≤ k → k < 8 → (-1 ≤ B 8 o 3 k ∧ B 8 o 3 k ≤ 3) ∧ (k < tr → Bm 14 0 88 k = if 0 ≤ B 8 o 3 k then B 8 o 3 k else 0) ∧ (k = tr → Bm 14 0 88 k = B 8 o 3 k) ∧ (tr < k → B 8 o 3 k = -1)
theorem NUM_f {o tr : Int} {B B' : zB} {Bm Bm' : zB} (h : NUM o tr B Bm) (f : ∀ x, B' 8 o 3 x = B 8 o 3 x) (g : ∀ x, Bm' 14 0 88 x = Bm 14 0 88 x) : NUM o tr B' Bm' := fun k k0 k1 => by
  rw [f, g]
  exact h k k0 k1
def TQ (q : zF × zB × zF × zB) : Prop := (q.1 0 0 1 = q.2.2.1 14 0 3 ∧ 0 ≤ q.1 0 0 1 ∧ q.1 0 0 1 ≤ 3000) ∧ (∀ y, 0 ≤ q.2.1 0 0 0 y ∧ q.2.1 0 0 0 y < 256) ∧ tmB q.2.2.2 = q.2.1 0 0 0
def OW (o : Int) (q : zF × zB × zF × zB) (F : zF) (B : zB) (Fm : zF) (Bm : zB) : Prop := F 8 o 4 = 0 ∧ (∀ c y k, ¬ (c = 8 ∧ y = o) → F c y k = q.1 c y k) ∧ (∀ c y k x, ¬ (c = 8 ∧ y = o) → B c y k x = q.2.1 c y k x) ∧ (∀ c y k, ¬ (c = 14 ∧ y = 0 ∧ (k = 17 ∨ k = 18 ∨ (89 ≤ k ∧ k ≤ 94))) → Fm c y k = q.2.2.1 c y k) ∧ (∀ c y k x, ¬ (c = 14 ∧ y = 0 ∧ ((k = 74 ∧ 2 ≤ x) ∨ (82 ≤ k ∧ k ≤ 88))) → Bm c y k x = q.2.2.2 c y k x)
theorem RO_w {o : Int} {q : zF × zB × zF × zB} {F : zF} {B : zB} {Fm : zF} {Bm : zB} (t : TQ q) (h : OW o q F B Fm Bm) : RO o F B Fm Bm := by
  obtain ⟨t1, t2, t3⟩ := t
  obtain ⟨h1, h2, h3, h4, h5⟩ := h
  refine ⟨h1, ?_, fun y => ?_, ?_⟩
  · rw [h2 0 0 1 (by first | decide | omega), h4 14 0 3 (by first | decide | omega)]; exact t1
  · rw [h3 0 0 0 y (by first | decide | omega)]; exact t2 y
  · have e : B 0 0 0 = q.2.1 0 0 0 := funext fun y => h3 0 0 0 y (by first | decide | omega)
    rw [e, ← t3]
    funext y
    show Bm 14 0 2 y % 256 = q.2.2.2 14 0 2 y % 256
    rw [h5 14 0 2 y (by first | decide | omega)]
/-- changes that stay within what a file's opening may change -/
theorem OW_x {o : Int} {q : zF × zB × zF × zB} {F F' : zF} {B B' : zB} {Fm Fm' : zF} {Bm Bm' : zB} (h : OW o q F B Fm Bm) (e : F' 8 o 4 = F 8 o 4) (f : ∀ c y k, ¬ (c = 8 ∧ y = o) → F' c y k = F c y k) (b : ∀ c y k x, ¬ (c = 8 ∧ y = o) → B' c y k x = B c y k x) (g : ∀ c y k, ¬ (c = 14 ∧ y = 0 ∧ (k = 17 ∨ k = 18 ∨ (89 ≤ k ∧ k ≤ 94))) → Fm' c y k = Fm c y k) (d : ∀ c y k x, ¬ (c = 14 ∧ y = 0 ∧ ((k = 74 ∧ 2 ≤ x) ∨ (82 ≤ k ∧ k ≤ 88))) → Bm' c y k x = Bm c y k x) : OW o q F' B' Fm' Bm' := by
  obtain ⟨h1, h2, h3, h4, h5⟩ := h
  exact ⟨by rw [e]; exact h1, fun c y k n => by rw [f c y k n, h2 c y k n], fun c y k x n => by rw [b c y k x n, h3 c y k x n], fun c y k n => by rw [g c y k n, h4 c y k n], fun c y k x n => by rw [d c y k x n, h5 c y k x n]⟩
theorem OW_t {o : Int} {q : zF × zB × zF × zB} {F F' : zF} {B : zB} {Fm Fm' : zF} {Bm : zB} (h : OW o q F B Fm Bm) (f : tkF o F F') (g : tkG Fm Fm') : OW o q F' B Fm' Bm :=
  OW_x h (f 8 o 4 (by first | decide | omega)) (fun c y k n => f c y k (by first | decide | omega)) (fun _ _ _ _ _ => rfl) (fun c y k n => g c y k (by first | decide | omega)) (fun _ _ _ _ _ => rfl)
def DT (o first tr tick : Int) (F : zF) (B : zB) (Fm : zF) (Bm : zB) : Prop := SND o first tr tick F B Fm Bm ∧ NUM o tr B Bm ∧ HD o F B Fm Bm
theorem DT_t {o first tr tick tick' : Int} {F F' : zF} {B : zB} {Fm Fm' : zF} {Bm : zB} (h : DT o first tr tick F B Fm Bm) (ht : tick ≤ tick') (f : tkF o F F') (g : tkG Fm Fm') : DT o first tr tick' F' B Fm' Bm :=
  ⟨SND_f h.1 ht (f 8 o 2 (by first | decide | omega)) (g 14 0 94 (by first | decide | omega)) (fun _ _ _ _ => rfl) (fun _ _ _ _ => rfl), h.2.1, HD_t h.2.2 f g⟩
/-- a track being read, no fault -/
def TG (o : Int) (q : zF × zB × zF × zB) (first tr to tick st ov a : Int) (F : zF) (B : zB) (Fm : zF) (Bm : zB) : Prop := OW o q F B Fm Bm ∧ DT o first tr tick F B Fm Bm ∧ RG o a F Fm ∧ 0 ≤ F 8 o 6 ∧ Fm 14 0 90 = to ∧ (F 8 o 8 = tr ∧ F 8 o 9 = st ∧ F 8 o 10 = tick ∧ F 8 o 11 = ov) ∧ (st = 0 ∨ (128 ≤ st ∧ st < 240)) ∧ (ov = 0 ∨ ov = 1)
/-- a track being read, with a fault -/
def TX (o : Int) (q : zF × zB × zF × zB) (first tr tick : Int) (F : zF) (B : zB) (Fm : zF) (Bm : zB) : Prop := OW o q F B Fm Bm ∧ DT o first tr tick F B Fm Bm ∧ RX o F Fm ∧ F 8 o 6 ≤ F 0 0 1
theorem L_21X {Km m : Nat} {o first ov st tick tr : Int} {F : zF} {Fm : zF} {Bm : zB} (x : RX o F Fm) : f_M_track0_21 Km (m + 1) first ov st tick tr Fm Bm = f_M_track0_266 Km first tick tr Fm Bm := by
  rw [f_M_track0_21, L_goodX x, zb_s, if_pos (by decide), if_pos rfl]
theorem x7_n {o : Int} {F Fm : zF} (x : RX o F Fm) : r32 (F 8 o 7) ∧ ¬ F 8 o 7 = 0 := by
  obtain ⟨x7, x17, x18, _⟩ := x
  unfold r32
  omega
theorem st_d {st : Int} (h : 128 ≤ st ∧ st < 240) : zdv st 16 = st / 16 := zdv_e (by first | decide | omega) (by unfold r32; omega) (by first | decide | omega) (by decide)
/-- behind a fault a message tells nothing -/
theorem P_msX {K : zK} {Km m : Nat} {o first tr tick st ov t from' data data' : Int} {q : zF × zB × zF × zB} {F : zF} {B : zB} {Fm : zF} {Bm : zB} {f : Int → zF → zB → zO} {Q : Int → zF → zB → Int → zF → zB → Prop} (h0 : 2 ≤ K.2 0) (ho : 0 ≤ o ∧ o < K.2 8) (tq : TQ q) (h : TX o q first tr tick F B Fm Bm) (hs : F 8 o 9 = st) (hst : 128 ≤ st ∧ st < 240) (hX : ∀ F B Fm Bm t, TX o q first tr tick F B Fm Bm → zP (f 0 F B) (f_M_track0_266 Km first t tr Fm Bm) Q) : zP (zbind (f_SoundFile_loadMessage K o data from' first F B) f) (f_M_track0_212 (f_M_track0_21 Km (m + 1)) Km from' t first ov st tr data' Fm Bm) Q := by
  have h' := h
  obtain ⟨w, dt, x, x6⟩ := h'
  have x7 := x7_n x
  have d := st_d hst
  have rd : r32 (st / 16) := by unfold r32; omega
  have rs : r32 st := by unfold r32; omega
  unfold f_SoundFile_loadMessage f_SoundFile_loadMessage_23 f_SoundFile_loadMessage_62 f_M_track0_212 f_M_track0_234 f_M_track0_238 f_M_track0_263
  rw [if_pos ho, hs, d, if_pos rd, if_pos rs]
  by_cases z : 192 ≤ st ∧ st < 224
  · have e2 : ∀ a : Int, zbind (f_M_good Km Fm Bm) (fun r56 F56 B56 => if r32 r56 then (if r56 = 0 then f_M_track0_21 Km (m + 1) first ov st t tr F56 B56 else zbind (f_M_event_2 Km tr first st data' a t from' F56 B56) (fun r59 F59 B59 => f_M_track0_21 Km (m + 1) first ov st t tr F59 B59)) else none) = f_M_track0_266 Km first t tr Fm Bm := fun a => by
      rw [L_goodX x, zb_s, if_pos (by decide), if_pos rfl, L_21X x]
    rw [if_neg (show ¬ st < 192 by omega), if_neg (show ¬ 224 ≤ st by omega), e2, if_pos ho, if_pos x7.1, if_neg x7.2]
    by_cases z1 : st / 16 = 12
    · rw [if_pos z1, zb_s]
      exact hX F B Fm Bm t h
    · rw [if_neg z1, if_pos (show st / 16 = 13 by omega), zb_s]
      exact hX F B Fm Bm t h
  · rw [if_neg (show ¬ st / 16 = 12 by omega), if_neg (show ¬ st / 16 = 13 by omega)]
    have key : zP (zbind (zbind (f_SoundFile_takeData K o F B) (fun r5 F5 B5 => if r32 (F5 8 o 7) then (if (F5 8 o 7) = 0 then (if st / 16 = 9 then if r32 r5 then (if r5 ≤ 0 then f_SoundFile_loadMessage_100 K (st / 16) o data first F5 B5 else zbind (f_SoundFile_beginSound K o data r5 from' F5 B5) (fun r11 F11 B11 => f_SoundFile_loadMessage_120 K F11 B11)) else none else f_SoundFile_loadMessage_100 K (st / 16) o data first F5 B5) else some (0, F5, B5)) else none)) f) (zbind (f_M_below Km Fm Bm) (fun r60 F60 B60 => zbind (f_M_good Km F60 B60) (fun r56 F56 B56 => if r32 r56 then (if r56 = 0 then f_M_track0_21 Km (m + 1) first ov st t tr F56 B56 else zbind (f_M_event_2 Km tr first st data' r60 t from' F56 B56) (fun r59 F59 B59 => f_M_track0_21 Km (m + 1) first ov st t tr F59 B59)) else none))) Q := by
      rw [zb_a2]
      refine P_bind (P_data (Km := Km) (a := 0) h0 ho (by first | decide | omega) (RO_w tq w) (Or.inr ⟨x, x6⟩)) (fun r F1 B1 r' G1 D1 y => ?_)
      obtain ⟨rfl, rfl, y3, y4, y5, y6, y7, y8⟩ := y
      have x1 : RX o F1 G1 ∧ F1 8 o 6 ≤ F1 0 0 1 := by
        rcases y7 with ⟨g, _⟩ | q
        · have := (y8 g.2.1).1; have := x.2.1; omega
        · exact q
      have x7' := x7_n x1.1
      rw [if_pos x7'.1, if_neg x7'.2, zb_s, L_goodX x1.1, zb_s, if_pos (by decide), if_pos rfl, L_21X x1.1]
      exact hX F1 B1 G1 D1 t ⟨OW_t w y3 y4, DT_t dt (by first | decide | omega) y3 y4, x1.1, x1.2⟩
    by_cases z1 : st < 192
    · rw [if_pos z1]; exact key
    · rw [if_neg z1, if_pos (show 224 ≤ st by omega)]; exact key
end

section
variable {cc : Int}
/-! ===== the invariant, and the calls that touch no piece ===== -/
def IX (B Bm : zB) : Prop := ∀ y, 0 ≤ y → y < 20 → B 12 0 1 y % 256 = Bm 14 0 4 y % 256
def IV (cc : Int) (Km : Nat) (K : zK) (F : zF) (B : zB) (Fm : zF) (Bm : zB) : Prop := ∃ p p0 p1 w w0 w1, IE cc K Km p p0 p1 w w0 w1 F B Fm Bm ∧ WI F B Fm Bm ∧ IOp K F B Fm Bm ∧ F 7 0 4 = 0 ∧ IX B Bm ∧ 60000 ≤ K.1
theorem zi2b_1 (x : Int) : zi2b x % 256 = x % 256 := by rw [zi2b_e, bmod256]
theorem p_feed {Km : Nat} (a1 a2 a3 a4 a5 : Int) (h1 : r32 a1) (h2 : r32 a2) (h3 : r32 a3) (h4 : r32 a4) (h5 : r32 a5) {K : zK} {F Fm : zF} {B Bm : zB} (h : IV cc Km K F B Fm Bm) : ∃ r1 F1 B1 r2 F2 B2, f_S_feed K 0 a1 a2 a3 a4 a5 F B = some (r1, F1, B1) ∧ f_M_feed Km a1 a2 a3 a4 a5 Fm Bm = some (r2, F2, B2) ∧ IV cc Km K F1 B1 F2 B2 := by
  obtain ⟨p, p0, p1, w, w0, w1, hE, hW, hO, h7, hX, hK⟩ := h
  have hA := hE.1.1
  obtain ⟨B', x1, x2, x3⟩ := C_feed (K := K) (a1 := a1) (a2 := a2) (a3 := a3) (a4 := a4) (a5 := a5) (F := F) (B := B) (by first | decide | omega) (by have := hA.2.2; omega)
  obtain ⟨Bm', y1, y2, y3⟩ := L_feed (K := Km) (F := Fm) (B := Bm) (by have := hA.2.1; omega) h1 h2 h3 h4 h5
  have b : ∀ c i k x, ¬ (c = 12 ∧ i = 0 ∧ k = 1) → B' c i k x = B c i k x := fun c i k x n => by rw [x2 c i k n]
  have m : ∀ c i k x, ¬ (c = 14 ∧ i = 0 ∧ k = 4) → Bm' c i k x = Bm c i k x := fun c i k x n => by rw [y2 c i k n]
  have hT := hE.1.2.2.2.1
  have hT' : IT F B' Fm Bm' := by
    obtain ⟨t1, t2, t3, t4, t5⟩ := hT
    exact ⟨t1, t2, t3, fun y => by rw [b 0 0 0 y (by first | decide | omega)]; exact t4 y, by funext y; rw [b 0 0 0 y (by first | decide | omega), ← t5]; show Bm' 14 0 2 y % 256 = Bm 14 0 2 y % 256; rw [m 14 0 2 y (by first | decide | omega)]⟩
  refine ⟨_, _, _, _, _, _, x1, y1, p, p0, p1, w, w0, w1, IE_f hE rfl (fun _ _ => rfl) (Int.le_refl _) (fun _ _ _ _ _ _ _ _ => rfl) (fun c y k x _ _ _ _ n => b c y k x (by first | decide | omega)) (fun i k => ⟨fun _ => rfl, rfl⟩) ⟨fun i k x _ => m 13 i k x (by first | decide | omega), fun k x hk => m 14 0 k x (by first | decide | omega)⟩ hT', ?_, ?_, h7, ?_, hK⟩
  · exact ⟨hW.1, hW.2.1, fun j j0 j1 => by rw [b 0 1 0 j (by first | decide | omega), m 14 0 70 j (by first | decide | omega)]; exact hW.2.2 j j0 j1⟩
  · exact IOp_f hO rfl rfl (fun _ _ => rfl) (fun o k x => b 8 o k x (by first | decide | omega)) rfl (fun k x hk => m 14 0 k x (by first | decide | omega))
  · intro y y0 y1
    rw [x3, y3, if_pos ⟨y0, y1⟩, if_pos ⟨y0, y1⟩, bmod256]
    omega
theorem p_end {Km : Nat} (a1 : Int) (h1 : r32 a1) {K : zK} {F Fm : zF} {B Bm : zB} (h : IV cc Km K F B Fm Bm) : ∃ r1 F1 B1 r2 F2 B2, f_S_end K 0 a1 F B = some (r1, F1, B1) ∧ f_M_end Km a1 Fm Bm = some (r2, F2, B2) ∧ IV cc Km K F1 B1 F2 B2 ∧ r1 = r2 ∧ r32 r1 := by
  have hI := h
  obtain ⟨p, p0, p1, w, w0, w1, hE, hW, hO, h7, hX, hK⟩ := h
  have hA := hE.1.1
  have hB := hE.1.2.1
  obtain ⟨t1, t2, t3, t4, t5⟩ := hE.1.2.2.2.1
  have c := C_end (K := K) (l := a1) (F := F) (B := B) (by first | decide | omega) (by have := hA.2.2; omega) (by have := hA.2.2; omega) h1 hB.1 t2 t3
  have l := L_end (K := Km) (l := a1) (F := Fm) (B := Bm) (by have := hA.2.1; omega) h1 (by first | decide | omega) (by first | decide | omega)
  by_cases z : a1 < 0 ∨ 20 < a1 ∨ 3000 < F 0 0 1 + a1
  · exact ⟨_, _, _, _, _, _, c.1 z, l.1 (by first | decide | omega), hI, rfl, by decide⟩
  · obtain ⟨F', B', x1, x2, x3, x4, x5⟩ := c.2 (by first | decide | omega) (by first | decide | omega) (by first | decide | omega)
    obtain ⟨Bm', y1, y2, y3⟩ := l.2 (by first | decide | omega) (by first | decide | omega) (by first | decide | omega)
    have b : ∀ c i k x, ¬ (c = 0 ∧ i = 0 ∧ k = 0) → B' c i k x = B c i k x := fun c i k x n => by rw [x4 c i k n]
    have m : ∀ c i k x, ¬ (c = 14 ∧ i = 0 ∧ k = 2) → Bm' c i k x = Bm c i k x := fun c i k x n => by rw [y2 c i k n]
    have g : ∀ c i k, ¬ (c = 14 ∧ i = 0 ∧ k = 3) → (zup3 Fm 14 0 3 (Fm 14 0 3 + a1)) c i k = Fm c i k := fun c i k n => by rw [zup3_v, if_neg n]
    have hT' : IT F' B' (zup3 Fm 14 0 3 (Fm 14 0 3 + a1)) Bm' := by
      refine ⟨by rw [x2, zup3_v, if_pos (by first | decide | omega), t1], (by first | decide | omega), (by first | decide | omega), fun y => ?_, ?_⟩
      · rw [x5]
        split
        · rw [zand255]; omega
        · exact t4 y
      · funext y
        show Bm' 14 0 2 y % 256 = _
        rw [x5, y3]
        have o : Bm 14 0 2 y % 256 = B 0 0 0 y := congrFun t5 y
        unfold endRow
        by_cases q : F 0 0 1 ≤ y ∧ y < F 0 0 1 + a1
        · rw [if_pos q, if_pos (by first | decide | omega), zand255, zi2b_1, hX (y - F 0 0 1) (by first | decide | omega) (by first | decide | omega), t1]
        · rw [if_neg q, if_neg (by first | decide | omega), o]
    refine ⟨_, _, _, _, _, _, x1, y1, ⟨p, p0, p1, w, w0, w1, IE_f hE rfl (fun _ _ => rfl) (Int.le_refl _) (fun c y k n _ _ _ _ => x3 c y k (by first | decide | omega)) (fun c y k x n _ _ _ _ => b c y k x (by first | decide | omega)) (fun i k => ⟨fun _ => g 13 i k (by first | decide | omega), g 14 0 6 (by first | decide | omega)⟩) ⟨fun i k x _ => m 13 i k x (by first | decide | omega), fun k x hk => m 14 0 k x (by first | decide | omega)⟩ hT', ?_, ?_, by rw [x3 7 0 4 (by first | decide | omega)]; exact h7, ?_, hK⟩, (by first | decide | omega), by unfold r32; omega⟩
    · refine ⟨by rw [x3 0 1 1 (by first | decide | omega), g 14 0 71 (by first | decide | omega)]; exact hW.1, by rw [x3 0 1 1 (by first | decide | omega)]; exact hW.2.1, fun j j0 j1 => ?_⟩
      rw [x3 0 1 1 (by first | decide | omega)] at j1
      rw [b 0 1 0 j (by first | decide | omega), m 14 0 70 j (by first | decide | omega)]; exact hW.2.2 j j0 j1
    · exact IOp_f hO (x3 12 0 8 (by first | decide | omega)) (x3 12 0 9 (by first | decide | omega)) (fun o k => x3 8 o k (by first | decide | omega)) (fun o k x => b 8 o k x (by first | decide | omega)) (g 14 0 72 (by first | decide | omega)) (fun k x hk => m 14 0 k x (by first | decide | omega))
    · intro y y0 y1
      rw [b 12 0 1 y (by first | decide | omega), m 14 0 4 y (by first | decide | omega)]; exact hX y y0 y1
theorem p_out {Km : Nat} (a1 : Int) (h1 : r32 a1) {K : zK} {F Fm : zF} {B Bm : zB} (h : IV cc Km K F B Fm Bm) : ∃ r1 F1 B1 r2 F2 B2, f_S_out K 0 a1 F B = some (r1, F1, B1) ∧ f_M_out Km a1 Fm Bm = some (r2, F2, B2) ∧ IV cc Km K F1 B1 F2 B2 := by
  have hI := h
  obtain ⟨p, p0, p1, w, w0, w1, hE, hW, hO, h7, hX, hK⟩ := h
  have hA := hE.1.1
  have hB := hE.1.2.1
  exact ⟨_, _, _, _, _, _, C_out (by have := hA.2.2; omega) (by have := hA.2.2; omega) h1 hB.2.1 hW.2.1.1 hW.2.1.2, L_out h1 (by have := hW.1; have := hW.2.1; omega) (by have := hW.1; have := hW.2.1; omega), hI⟩
theorem p_again {Km : Nat} {K : zK} {F Fm : zF} {B Bm : zB} (h : IV cc Km K F B Fm Bm) : ∃ r1 F1 B1 r2 F2 B2, f_S_again K 0 F B = some (r1, F1, B1) ∧ f_M_again Km Fm Bm = some (r2, F2, B2) ∧ IV cc Km K F1 B1 F2 B2 := by
  have hI := h
  obtain ⟨p, p0, p1, w, w0, w1, hE, hW, hO, h7, hX, hK⟩ := h
  have hA := hE.1.1
  have hB := hE.1.2.1
  obtain ⟨t1, t2, t3, t4, t5⟩ := hE.1.2.2.2.1
  obtain ⟨v1, v2, v3⟩ := hW
  have c := C_again (K := K) (F := F) (B := B) (by first | decide | omega) (by have := hA.2.2; omega) (by have := hA.2.2; omega) hB.1 hB.2.1 v2.1 v2.2
  have l := L_again (K := Km) (F := Fm) (B := Bm) (by have := hA.2.1; omega) (by first | decide | omega) (by first | decide | omega)
  by_cases z : F 0 1 1 = 0 ∨ 3000 < F 0 1 1
  · exact ⟨_, _, _, _, _, _, c.1 z, l.1 (by first | decide | omega), hI⟩
  · obtain ⟨F', B', x1, x2, _, x3, x4, x5⟩ := c.2 (by first | decide | omega) (by first | decide | omega)
    obtain ⟨Bm', y1, y2, y3⟩ := l.2 (by first | decide | omega) (by first | decide | omega)
    have b : ∀ c i k x, ¬ (c = 0 ∧ i = 0 ∧ k = 0) → B' c i k x = B c i k x := fun c i k x n => by rw [x4 c i k n]
    have m : ∀ c i k x, ¬ (c = 14 ∧ i = 0 ∧ k = 2) → Bm' c i k x = Bm c i k x := fun c i k x n => by rw [y2 c i k n]
    have g : ∀ c i k, ¬ (c = 14 ∧ i = 0 ∧ k = 3) → (zup3 Fm 14 0 3 (Fm 14 0 71)) c i k = Fm c i k := fun c i k n => by rw [zup3_v, if_neg n]
    have hT' : IT F' B' (zup3 Fm 14 0 3 (Fm 14 0 71)) Bm' := by
      refine ⟨by rw [x2, zup3_v, if_pos (by first | decide | omega), v1], (by first | decide | omega), (by first | decide | omega), fun y => ?_, ?_⟩
      · rw [x5]
        split
        · rw [zand255]; omega
        · exact t4 y
      · funext y
        show Bm' 14 0 2 y % 256 = _
        rw [x5, y3]
        have o : Bm 14 0 2 y % 256 = B 0 0 0 y := congrFun t5 y
        by_cases q : 0 ≤ y ∧ y < F 0 1 1
        · rw [if_pos q, if_pos (by first | decide | omega), zand255, zi2b_1, v3 y q.1 q.2]
          omega
        · rw [if_neg q, if_neg (by first | decide | omega), o]
    refine ⟨_, _, _, _, _, _, x1, y1, p, p0, p1, w, w0, w1, IE_f hE rfl (fun _ _ => rfl) (Int.le_refl _) (fun c y k n _ _ _ _ => x3 c y k (by first | decide | omega)) (fun c y k x n _ _ _ _ => b c y k x (by first | decide | omega)) (fun i k => ⟨fun _ => g 13 i k (by first | decide | omega), g 14 0 6 (by first | decide | omega)⟩) ⟨fun i k x _ => m 13 i k x (by first | decide | omega), fun k x hk => m 14 0 k x (by first | decide | omega)⟩ hT', ?_, ?_, by rw [x3 7 0 4 (by first | decide | omega)]; exact h7, ?_, hK⟩
    · refine ⟨by rw [x3 0 1 1 (by first | decide | omega), g 14 0 71 (by first | decide | omega)]; exact v1, by rw [x3 0 1 1 (by first | decide | omega)]; exact v2, fun j j0 j1 => ?_⟩
      rw [x3 0 1 1 (by first | decide | omega)] at j1
      rw [b 0 1 0 j (by first | decide | omega), m 14 0 70 j (by first | decide | omega)]; exact v3 j j0 j1
    · exact IOp_f hO (x3 12 0 8 (by first | decide | omega)) (x3 12 0 9 (by first | decide | omega)) (fun o k => x3 8 o k (by first | decide | omega)) (fun o k x => b 8 o k x (by first | decide | omega)) (g 14 0 72 (by first | decide | omega)) (fun k x hk => m 14 0 k x (by first | decide | omega))
    · intro y y0 y1
      rw [b 12 0 1 y (by first | decide | omega), m 14 0 4 y (by first | decide | omega)]; exact hX y y0 y1
theorem p_open {Km : Nat} {K : zK} {F Fm : zF} {B Bm : zB} (h : IV cc Km K F B Fm Bm) : ∃ r1 F1 B1 K1 r2 F2 B2, f_S_open K 0 F B = some (r1, F1, B1, K1) ∧ f_M_open Km Fm Bm = some (r2, F2, B2) ∧ IV cc Km K1 F1 B1 F2 B2 := by
  obtain ⟨p, p0, p1, w, w0, w1, hE, hW, hO, h7, hX, hK⟩ := h
  have hA := hE.1.1
  have hB := hE.1.2.1
  obtain ⟨r, F', B', K', Fm', Bm', x1, x2, _, x4, x5, x6, x7, x8, x9, x10⟩ := P_op (K := K) (Km := Km) (by have := hA.2.2; omega) (by have := hA.2.2; omega) (by first | decide | omega) (by have := hA.2.1; omega) hB.1 hE.1.2.2.2.1 hO
  have k1 : K'.1 = K.1 := by
    rcases x4 with z | ⟨_, z⟩ <;> rw [z]
  have kc : ∀ c, ¬ c = 8 → K'.2 c = K.2 c := fun c hc => by
    rcases x4 with z | ⟨_, z⟩
    · rw [z]
    · rw [z]; show zinN K.2 8 c = K.2 c; rw [zinN_v, if_neg hc]
  have k8 : K.2 8 ≤ K'.2 8 := by
    rcases x4 with z | ⟨_, z⟩
    · rw [z]; exact Int.le_refl _
    · rw [z]; show K.2 8 ≤ zinN K.2 8 8; rw [zinN_v, if_pos rfl]; omega
  refine ⟨_, _, _, _, _, _, _, x1, x2, p, p0, p1, w, w0, w1, IE_f hE k1 kc k8 (fun c y k a1 a2 a3 a4 a5 => x5 c y k (by first | decide | omega)) (fun c y k x a1 a2 a3 a4 a5 => x6 c y k x a3) (fun i k => ⟨fun _ => x7 13 i k (by first | decide | omega), x7 14 0 6 (by first | decide | omega)⟩) ⟨fun i k x _ => x8 13 i k x (by first | decide | omega), fun k x hk => x8 14 0 k x (by first | decide | omega)⟩ x9, ?_, x10, by rw [x5 7 0 4 (by first | decide | omega)]; exact h7, ?_, by rw [k1]; exact hK⟩
  · refine ⟨by rw [x5 0 1 1 (by first | decide | omega), x7 14 0 71 (by first | decide | omega)]; exact hW.1, by rw [x5 0 1 1 (by first | decide | omega)]; exact hW.2.1, fun j j0 j1 => ?_⟩
    rw [x5 0 1 1 (by first | decide | omega)] at j1
    rw [x6 0 1 0 j (by first | decide | omega), x8 14 0 70 j (by first | decide | omega)]; exact hW.2.2 j j0 j1
  · intro y y0 y1
    rw [x6 12 0 1 y (by first | decide | omega), x8 14 0 4 y (by first | decide | omega)]; exact hX y y0 y1
theorem p_down {Km : Nat} (a1 : Int) (h1 : r32 a1) {K : zK} {F Fm : zF} {B Bm : zB} (h : IV cc Km K F B Fm Bm) : ∃ r1 F1 B1 r2 F2 B2, f_S_down K 0 a1 F B = some (r1, F1, B1) ∧ f_M_down Km a1 Fm Bm = some (r2, F2, B2) ∧ IV cc Km K F1 B1 F2 B2 := by
  obtain ⟨p, p0, p1, w, w0, w1, hE, hW, hO, h7, hX, hK⟩ := h
  have hA := hE.1.1
  have hB := hE.1.2.1
  have hN := hE.1.2.2.2.2.1
  have hD := hE.1.2.2.1.1.1
  obtain ⟨t1, t2, t3, t4, t5⟩ := hE.1.2.2.2.1
  obtain ⟨r, F', B', Fm', Bm', x1, x2, _, x5, x6, x7, x8, x9, x10⟩ := P_dw (K := K) (Km := Km) (x := a1) (w := w) (F := F) (B := B) (Fm := Fm) (Bm := Bm) ⟨by have := hA.2.2; omega, by have := hA.2.2; omega, by have := hD 1 (by decide); omega, hK⟩ hA.2.1 (by have := hA.2.2; omega) h1 hB.2.1 hB.2.2.2.2.1 h7 ⟨hN.2.2.2.1, hE.1.2.2.2.2.2.1.1⟩ hO hW
  have hT' : IT F' B' Fm' Bm' := ⟨by rw [x5 0 0 1 (by first | decide | omega), x7 14 0 3 (by first | decide | omega) (by first | decide | omega)]; exact t1, by rw [x5 0 0 1 (by first | decide | omega)]; exact t2, by rw [x5 0 0 1 (by first | decide | omega)]; exact t3, fun y => by rw [x6 0 0 0 y (by first | decide | omega)]; exact t4 y, by funext y; rw [x6 0 0 0 y (by first | decide | omega), ← t5]; show Bm' 14 0 2 y % 256 = Bm 14 0 2 y % 256; rw [x8 14 0 2 y (by first | decide | omega) (by first | decide | omega)]⟩
  refine ⟨_, _, _, _, _, _, x1, x2, p, p0, p1, w, w0, w1, IE_f hE rfl (fun _ _ => rfl) (Int.le_refl _) (fun c y k a1 a2 a3 a4 a5 => x5 c y k (by first | decide | omega)) (fun c y k x a1 a2 a3 a4 a5 => x6 c y k x (by first | decide | omega)) (fun i k => ⟨fun hk => x7 13 i k (by first | decide | omega) (by first | decide | omega), x7 14 0 6 (by first | decide | omega) (by first | decide | omega)⟩) ⟨fun i k x hk => x8 13 i k x (by first | decide | omega) (by first | decide | omega), fun k x hk => x8 14 0 k x (by first | decide | omega) (by first | decide | omega)⟩ hT', x10, x9, by rw [x5 7 0 4 (by first | decide | omega)]; exact h7, ?_, hK⟩
  intro y y0 y1
  rw [x6 12 0 1 y (by first | decide | omega), x8 14 0 4 y (by first | decide | omega) (by first | decide | omega)]; exact hX y y0 y1
end

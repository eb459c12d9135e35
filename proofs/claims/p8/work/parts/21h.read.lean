section
/-! ===== calls that only read: they return, and nothing changes ===== -/
def zR (x : zO) (F : zF) (B : zB) : Prop := ∃ r, x = some (r, F, B)
theorem zR_s {r : Int} {F : zF} {B : zB} : zR (some (r, F, B)) F B := ⟨r, rfl⟩
theorem zR_g {p : Prop} {d : Decidable p} {x : zO} {F : zF} {B : zB} (h : p) (k : zR x F B) : zR (@ite _ p d x none) F B := by
  rw [if_pos h]; exact k
theorem zR_i {p : Prop} {d : Decidable p} {x y : zO} {F : zF} {B : zB} (h1 : p → zR x F B) (h2 : ¬ p → zR y F B) : zR (@ite _ p d x y) F B := by
  by_cases h : p
  · rw [if_pos h]; exact h1 h
  · rw [if_neg h]; exact h2 h
/-- bounds of the reference's pieces -/
def IP (F : zF) (B : zB) : Prop := (∀ i k, (zk 13 k).1 = 0 → r32 (F 13 i k)) ∧ (∀ i k j, zk 13 k = (3, 0) → r32 (B 13 i k j)) ∧ (∀ i, 0 ≤ F 13 i 1 ∧ F 13 i 1 ≤ 4 ∧ 0 ≤ F 13 i 48 ∧ F 13 i 48 ≤ 100 ∧ 0 ≤ F 13 i 60 ∧ F 13 i 60 ≤ 4000) ∧ (∀ i v, 0 ≤ B 13 i 12 v ∧ B 13 i 12 v ≤ 1000 ∧ 0 ≤ B 13 i 13 v ∧ B 13 i 13 v ≤ 800) ∧ (∀ i e, 0 ≤ B 13 i 21 e ∧ B 13 i 21 e ≤ 6) ∧ ∀ h, 0 ≤ h → h < 2 → 0 ≤ B 14 0 5 h ∧ B 14 0 5 h < 3
/-! calls -/
theorem L_piece {K : Nat} {l : Int} {F : zF} {B : zB} (hI : IP F B) (hl : r32 l) : ∃ r, f_M_piece K l F B = some (r, F, B) ∧ (r = -1 ∨ 0 ≤ r ∧ r < 3) := by
  obtain ⟨i1, i2, i3, i4, i5, i6⟩ := hI
  unfold f_M_piece f_M_piece_30 f_M_piece_31
  rw [if_pos hl]
  by_cases a : l < 0
  · rw [if_pos a]
    exact ⟨-1, rfl, Or.inl rfl⟩
  · rw [if_neg a]
    by_cases b : 2 ≤ l
    · rw [if_pos b]
      exact ⟨-1, rfl, Or.inl rfl⟩
    · have h := i6 l (by first | decide | omega) (by first | decide | omega)
      rw [if_neg b, if_pos ⟨(by first | decide | omega), (by first | decide | omega)⟩, if_pos h, if_pos (i1 _ 0 rfl)]
      by_cases d : F 13 (B 14 0 5 l) 0 = 0
      · rw [if_pos d]
        exact ⟨-1, rfl, Or.inl rfl⟩
      · rw [if_neg d]
        exact ⟨_, rfl, Or.inr h⟩
theorem L_isVoice {K : Nat} {p v : Int} {F : zF} {B : zB} (hI : IP F B) (hp : p = -1 ∨ 0 ≤ p ∧ p < 3) (hv : r32 v) : ∃ r, f_M_isVoice K p v F B = some (r, F, B) ∧ (r = 0 ∨ r = 1 ∧ 0 ≤ p ∧ p < 3 ∧ 0 ≤ v ∧ v < 4) := by
  obtain ⟨i1, i2, i3, i4, i5, i6⟩ := hI
  unfold f_M_isVoice f_M_isVoice_20 f_M_isVoice_21
  by_cases a : p < 0
  · rw [if_pos a, if_pos (by decide)]
    exact ⟨0, rfl, Or.inl rfl⟩
  · rw [if_neg a, if_pos hv]
    by_cases b : v < 0
    · rw [if_pos b, if_pos (by decide)]
      exact ⟨0, rfl, Or.inl rfl⟩
    · have h := i3 p
      rw [if_neg b, if_pos ⟨(by first | decide | omega), (by first | decide | omega)⟩, if_pos (i1 _ 1 rfl)]
      by_cases d : F 13 p 1 ≤ v
      · rw [if_pos d, if_pos (by decide)]
        exact ⟨0, rfl, Or.inl rfl⟩
      · rw [if_neg d, if_pos (by decide)]
        exact ⟨1, rfl, Or.inr ⟨rfl, (by first | decide | omega), (by first | decide | omega), (by first | decide | omega), (by first | decide | omega)⟩⟩
theorem L_voice {K : Nat} {l1 l2 l3 : Int} {F : zF} {B : zB} (hI : IP F B) (hl1 : r32 l1) (hl2 : r32 l2) (hl3 : r32 l3) : zR (f_M_voice K l1 l2 l3 F B) F B := by
  obtain ⟨r1, e1, h1⟩ := L_piece (K := K) hI hl1
  obtain ⟨r2, e2, h2⟩ := L_isVoice (K := K) hI h1 hl2
  obtain ⟨i1, i2, i3, i4, i5, i6⟩ := hI
  have f3 := i3 r1
  unfold f_M_voice f_M_voice_72
  rw [zbind_some e1, zbind_some e2]
  have hr2 : r32 r2 := ⟨(by first | decide | omega), (by first | decide | omega)⟩
  refine zR_g hr2 ?_
  unfold r32 at hl1
  unfold r32 at hl2
  unfold r32 at hl3
  have f4 := i4 r1 l2
  repeat' first
    | exact zR_s
    | exact absurd rfl ‹_›
    | refine zR_g (by first | decide | omega) ?_
    | refine zR_g ⟨(by first | decide | omega), (by first | decide | omega)⟩ ?_
    | refine zR_g (i1 _ _ rfl) ?_
    | refine zR_g (i2 _ _ _ rfl) ?_
    | refine zR_i (fun _ => ?_) (fun _ => ?_)
theorem L_name {K : Nat} {l1 l2 : Int} {F : zF} {B : zB} (hI : IP F B) (hl1 : r32 l1) (hl2 : r32 l2) : zR (f_M_name K l1 l2 F B) F B := by
  obtain ⟨r1, e1, h1⟩ := L_piece (K := K) hI hl1
  obtain ⟨r2, e2, h2⟩ := L_isVoice (K := K) hI h1 hl2
  obtain ⟨i1, i2, i3, i4, i5, i6⟩ := hI
  have f3 := i3 r1
  unfold f_M_name f_M_name_24
  rw [zbind_some e1, zbind_some e2]
  have hr2 : r32 r2 := ⟨(by first | decide | omega), (by first | decide | omega)⟩
  refine zR_g hr2 ?_
  unfold r32 at hl1
  unfold r32 at hl2
  repeat' first
    | exact zR_s
    | exact absurd rfl ‹_›
    | refine zR_g (by first | decide | omega) ?_
    | refine zR_g ⟨(by first | decide | omega), (by first | decide | omega)⟩ ?_
    | refine zR_g (i1 _ _ rfl) ?_
    | refine zR_g (i2 _ _ _ rfl) ?_
    | refine zR_i (fun _ => ?_) (fun _ => ?_)
theorem L_event_1 {K : Nat} {l1 l2 l3 l4 : Int} {F : zF} {B : zB} (hI : IP F B) (hl1 : r32 l1) (hl2 : r32 l2) (hl3 : r32 l3) (hl4 : r32 l4) : zR (f_M_event_1 K l1 l2 l3 l4 F B) F B := by
  obtain ⟨r1, e1, h1⟩ := L_piece (K := K) hI hl1
  obtain ⟨r2, e2, h2⟩ := L_isVoice (K := K) hI h1 hl2
  obtain ⟨i1, i2, i3, i4, i5, i6⟩ := hI
  have f3 := i3 r1
  unfold f_M_event_1 f_M_event_1_31
  rw [zbind_some e1, zbind_some e2]
  have hr2 : r32 r2 := ⟨(by first | decide | omega), (by first | decide | omega)⟩
  refine zR_g hr2 ?_
  unfold r32 at hl1
  unfold r32 at hl2
  unfold r32 at hl3
  unfold r32 at hl4
  have f4 := i4 r1 l2
  repeat' first
    | exact zR_s
    | exact absurd rfl ‹_›
    | refine zR_g (by first | decide | omega) ?_
    | refine zR_g ⟨(by first | decide | omega), (by first | decide | omega)⟩ ?_
    | refine zR_g (i1 _ _ rfl) ?_
    | refine zR_g (i2 _ _ _ rfl) ?_
    | refine zR_i (fun _ => ?_) (fun _ => ?_)
theorem L_note_0 {K : Nat} {l1 l2 l3 l4 : Int} {F : zF} {B : zB} (hI : IP F B) (hl1 : r32 l1) (hl2 : r32 l2) (hl3 : r32 l3) (hl4 : r32 l4) : zR (f_M_note_0 K l1 l2 l3 l4 F B) F B := by
  obtain ⟨r1, e1, h1⟩ := L_piece (K := K) hI hl1
  obtain ⟨r2, e2, h2⟩ := L_isVoice (K := K) hI h1 hl2
  obtain ⟨i1, i2, i3, i4, i5, i6⟩ := hI
  have f3 := i3 r1
  unfold f_M_note_0 f_M_note_0_31
  rw [zbind_some e1, zbind_some e2]
  have hr2 : r32 r2 := ⟨(by first | decide | omega), (by first | decide | omega)⟩
  refine zR_g hr2 ?_
  unfold r32 at hl1
  unfold r32 at hl2
  unfold r32 at hl3
  unfold r32 at hl4
  have f4 := i4 r1 l2
  repeat' first
    | exact zR_s
    | exact absurd rfl ‹_›
    | refine zR_g (by first | decide | omega) ?_
    | refine zR_g ⟨(by first | decide | omega), (by first | decide | omega)⟩ ?_
    | refine zR_g (i1 _ _ rfl) ?_
    | refine zR_g (i2 _ _ _ rfl) ?_
    | refine zR_i (fun _ => ?_) (fun _ => ?_)
theorem L_stroke {K : Nat} {l1 l2 l3 : Int} {F : zF} {B : zB} (hI : IP F B) (hl1 : r32 l1) (hl2 : r32 l2) (hl3 : r32 l3) : zR (f_M_stroke K l1 l2 l3 F B) F B := by
  obtain ⟨r1, e1, h1⟩ := L_piece (K := K) hI hl1
  obtain ⟨i1, i2, i3, i4, i5, i6⟩ := hI
  have f3 := i3 r1
  unfold f_M_stroke f_M_stroke_89 f_M_stroke_33
  rw [zbind_some e1]
  unfold r32 at hl1
  unfold r32 at hl2
  unfold r32 at hl3
  repeat' first
    | exact zR_s
    | exact absurd rfl ‹_›
    | refine zR_g (by first | decide | omega) ?_
    | refine zR_g ⟨(by first | decide | omega), (by first | decide | omega)⟩ ?_
    | refine zR_g (i1 _ _ rfl) ?_
    | refine zR_g (i2 _ _ _ rfl) ?_
    | refine zR_i (fun _ => ?_) (fun _ => ?_)
/-- bounds of the file that lies open -/
def IO (F : zF) (B : zB) : Prop := r32 (F 14 0 72) ∧ (∀ k j, zk 14 k = (3, 0) → r32 (B 14 0 k j)) ∧ 0 ≤ B 14 0 73 7 ∧ B 14 0 73 7 ≤ 400 ∧ (∀ j, r32 (B 14 0 79 j)) ∧ (∀ j, r32 (B 14 0 80 j))
theorem L_track {K : Nat} {l1 : Int} {F : zF} {B : zB} (hI : IO F B) (hl1 : r32 l1) : zR (f_M_track K l1 F B) F B := by
  obtain ⟨j1, j2, j3, j4, j5, j6⟩ := hI
  have i1 : True := trivial
  unfold f_M_track f_M_track_26 f_M_track_29
  have gl1 := hl1
  unfold r32 at gl1
  repeat' first
    | exact zR_s
    | exact absurd rfl ‹_›
    | refine zR_g (by first | decide | omega) ?_
    | refine zR_g ⟨(by first | decide | omega), (by first | decide | omega)⟩ ?_
    | refine zR_g j1 ?_
    | refine zR_g (j2 _ _ rfl) ?_
    | refine zR_g (j5 _) ?_
    | refine zR_g (j6 _) ?_
    | refine zR_i (fun _ => ?_) (fun _ => ?_)
theorem L_sound_0 {K : Nat} {l1 l2 : Int} {F : zF} {B : zB} (hI : IO F B) (hl1 : r32 l1) (hl2 : r32 l2) : zR (f_M_sound_0 K l1 l2 F B) F B := by
  obtain ⟨j1, j2, j3, j4, j5, j6⟩ := hI
  have i1 : True := trivial
  unfold f_M_sound_0 f_M_sound_0_106 f_M_sound_0_22
  have gl1 := hl1
  unfold r32 at gl1
  have gl2 := hl2
  unfold r32 at gl2
  repeat' first
    | exact zR_s
    | exact absurd rfl ‹_›
    | refine zR_g (by first | decide | omega) ?_
    | refine zR_g ⟨(by first | decide | omega), (by first | decide | omega)⟩ ?_
    | refine zR_g j1 ?_
    | refine zR_g (j2 _ _ rfl) ?_
    | refine zR_g (j5 _) ?_
    | refine zR_g (j6 _) ?_
    | refine zR_i (fun _ => ?_) (fun _ => ?_)
end
section
/-! ===== calls of the class that only read: they return, and nothing changes ===== -/
/-- bounds of the class's pieces and files -/
def IQ (K : zK) (F : zF) (B : zB) : Prop := 0 < K.2 12 ∧ (∀ h, 0 ≤ h → h < 2 → B 12 0 3 h < K.2 6) ∧ (∀ p, 0 ≤ F 6 p 1 ∧ F 6 p 1 ≤ 4) ∧ (∀ p v, 0 ≤ p → p < K.2 6 → 0 ≤ v → v < F 6 p 1 → 0 ≤ B 6 p 0 v ∧ B 6 p 0 v < K.2 4) ∧ F 12 0 8 < K.2 8 ∧ (∀ s, 0 ≤ F 8 s 2 ∧ F 8 s 2 ≤ 400) ∧ (∀ q, 0 ≤ F 4 q 6 ∧ F 4 q 6 ≤ 200 ∧ 0 ≤ F 4 q 10 ∧ F 4 q 10 ≤ 800) ∧ ∀ q e, 0 ≤ q → q < K.2 4 → 0 ≤ e → e < 200 → 0 ≤ B 4 q 5 e ∧ B 4 q 5 e < K.2 1
theorem C_pieceAt {K : zK} {l : Int} {F : zF} {B : zB} (hI : IQ K F B) (hl : r32 l) : ∃ r, f_S_pieceAt K 0 l F B = some (r, F, B) ∧ r < K.2 6 + (if r < 0 then 1 - K.2 6 else 0) ∧ (r < 0 ∨ 0 ≤ r ∧ r < K.2 6) := by
  obtain ⟨q1, q2, q3, q4, q5, q6, q7, q8⟩ := hI
  unfold f_S_pieceAt f_S_pieceAt_9 f_S_pieceAt_19
  rw [if_pos hl]
  by_cases a : l < 0
  · rw [if_pos a]
    exact ⟨-1, rfl, by rw [if_pos (by decide)]; omega, Or.inl (by decide)⟩
  · rw [if_neg a]
    by_cases b : l < 2
    · have h := q2 l (by first | decide | omega) b
      rw [if_pos b, if_pos ⟨by decide, q1⟩, if_pos ⟨(by first | decide | omega), b⟩]
      refine ⟨_, rfl, ?_, ?_⟩
      · by_cases d : B 12 0 3 l < 0
        · rw [if_pos d]; omega
        · rw [if_neg d]; omega
      · omega
    · rw [if_neg b]
      exact ⟨-1, rfl, by rw [if_pos (by decide)]; omega, Or.inl (by decide)⟩
theorem C_partAt {K : zK} {l v : Int} {F : zF} {B : zB} (hI : IQ K F B) (hl : r32 l) (hv : r32 v) : ∃ r, f_S_partAt K 0 l v F B = some (r, F, B) ∧ (r < 0 ∨ 0 ≤ r ∧ r < K.2 4) := by
  obtain ⟨r, e, -, h⟩ := C_pieceAt hI hl
  obtain ⟨q1, q2, q3, q4, q5, q6, q7, q8⟩ := hI
  have h3 := q3 r
  unfold f_S_partAt f_S_partAt_22 f_S_partAt_32
  rw [if_pos ⟨by decide, q1⟩, zbind_some e]
  by_cases a : r < 0
  · rw [if_pos a]
    exact ⟨-1, rfl, Or.inl (by decide)⟩
  · rw [if_neg a, if_pos hv]
    by_cases b : v < 0
    · rw [if_pos b]
      exact ⟨-1, rfl, Or.inl (by decide)⟩
    · rw [if_neg b, if_pos ⟨(by first | decide | omega), (by first | decide | omega)⟩, if_pos (show r32 (F 6 r 1) from ⟨(by first | decide | omega), (by first | decide | omega)⟩)]
      by_cases d : v < F 6 r 1
      · rw [if_pos d, if_pos ⟨(by first | decide | omega), (by first | decide | omega)⟩]
        exact ⟨_, rfl, Or.inr (q4 r v (by first | decide | omega) (by first | decide | omega) (by first | decide | omega) d)⟩
      · rw [if_neg d]
        exact ⟨-1, rfl, Or.inl (by decide)⟩
theorem C_track {K : zK} {l1 : Int} {F : zF} {B : zB} (hI : IQ K F B) (hl1 : r32 l1) : zR (f_S_track K 0 l1 F B) F B := by
  obtain ⟨q1, q2, q3, q4, q5, q6, q7, q8⟩ := hI
  unfold f_S_track f_S_track_17 f_S_track_45
  refine zR_g ⟨by decide, q1⟩ ?_
  unfold r32 at hl1
  repeat' first
    | exact zR_s
    | refine zR_g ⟨by decide, q1⟩ ?_
    | refine zR_g (by first | decide | omega) ?_
    | refine zR_g ⟨(by first | decide | omega), (by first | decide | omega)⟩ ?_
    | refine zR_i (fun _ => ?_) (fun _ => ?_)
theorem C_sound {K : zK} {l1 l2 : Int} {F : zF} {B : zB} (hI : IQ K F B) (hl1 : r32 l1) (hl2 : r32 l2) : zR (f_S_sound K 0 l1 l2 F B) F B := by
  obtain ⟨q1, q2, q3, q4, q5, q6, q7, q8⟩ := hI
  unfold f_S_sound f_S_sound_32
  refine zR_g ⟨by decide, q1⟩ ?_
  unfold r32 at hl1
  unfold r32 at hl2
  have s6 := q6 (F 12 0 8)
  repeat' first
    | exact zR_s
    | refine zR_g ⟨by decide, q1⟩ ?_
    | refine zR_g (by first | decide | omega) ?_
    | refine zR_g ⟨(by first | decide | omega), (by first | decide | omega)⟩ ?_
    | refine zR_i (fun _ => ?_) (fun _ => ?_)
theorem C_voice {K : zK} {l1 l2 l3 : Int} {F : zF} {B : zB} (hI : IQ K F B) (hl1 : r32 l1) (hl2 : r32 l2) (hl3 : r32 l3) : zR (f_S_voice K 0 l1 l2 l3 F B) F B := by
  obtain ⟨r2, e2, h2⟩ := C_partAt hI hl1 hl2
  obtain ⟨q1, q2, q3, q4, q5, q6, q7, q8⟩ := hI
  unfold f_S_voice
  refine zR_g ⟨by decide, q1⟩ ?_
  rw [zbind_some e2]
  unfold r32 at hl1
  unfold r32 at hl2
  unfold r32 at hl3
  repeat' first
    | exact zR_s
    | refine zR_g ⟨by decide, q1⟩ ?_
    | refine zR_g (by first | decide | omega) ?_
    | refine zR_g ⟨(by first | decide | omega), (by first | decide | omega)⟩ ?_
    | refine zR_i (fun _ => ?_) (fun _ => ?_)
theorem C_name {K : zK} {l1 l2 : Int} {F : zF} {B : zB} (hI : IQ K F B) (hl1 : r32 l1) (hl2 : r32 l2) : zR (f_S_name K 0 l1 l2 F B) F B := by
  obtain ⟨r2, e2, h2⟩ := C_partAt hI hl1 hl2
  obtain ⟨q1, q2, q3, q4, q5, q6, q7, q8⟩ := hI
  unfold f_S_name f_S_name_19
  refine zR_g ⟨by decide, q1⟩ ?_
  rw [zbind_some e2]
  unfold r32 at hl1
  unfold r32 at hl2
  repeat' first
    | exact zR_s
    | refine zR_g ⟨by decide, q1⟩ ?_
    | refine zR_g (by first | decide | omega) ?_
    | refine zR_g ⟨(by first | decide | omega), (by first | decide | omega)⟩ ?_
    | refine zR_i (fun _ => ?_) (fun _ => ?_)
end

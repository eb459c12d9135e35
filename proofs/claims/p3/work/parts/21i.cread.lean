/-! ===== calls of the class that only read: they return, and nothing changes ===== -/
/-- bounds of the class's pieces and files -/
def IQ (K : zK) (F : zF) (B : zB) : Prop := 0 < K.2 12 ∧ (∀ h, 0 ≤ h → h < 2 → B 12 0 3 h < K.2 6) ∧ (∀ p, 0 ≤ F 6 p 1 ∧ F 6 p 1 ≤ 4) ∧ (∀ p v, 0 ≤ p → p < K.2 6 → 0 ≤ v → v < F 6 p 1 → 0 ≤ B 6 p 0 v ∧ B 6 p 0 v < K.2 4) ∧ F 12 0 8 < K.2 8 ∧ (∀ s, 0 ≤ F 8 s 2 ∧ F 8 s 2 ≤ 400) ∧ (∀ q, 0 ≤ F 4 q 6 ∧ F 4 q 6 ≤ 200 ∧ 0 ≤ F 4 q 10 ∧ F 4 q 10 ≤ 800) ∧ ∀ q e, 0 ≤ q → q < K.2 4 → 0 ≤ e → e < 200 → 0 ≤ B 4 q 5 e ∧ B 4 q 5 e < K.2 1
theorem C_pieceAt {K : zK} {l : Int} {F : zF} {B : zB} (hI : IQ K F B) (hl : r32 l) : ∃ r, f_S_pieceAt K 0 l F B = some (r, F, B) ∧ r < K.2 6 + (if r < 0 then 1 - K.2 6 else 0) ∧ (r < 0 ∨ 0 ≤ r ∧ r < K.2 6) := by
  obtain ⟨q1, q2, q3, q4, q5, q6, q7, q8⟩ := hI
  unfold f_S_pieceAt f_S_pieceAt_9 f_S_pieceAt_19
  rw [if_pos hl]
  by_cases a : l < 0
  · rw [if_pos a]
    exact ⟨-1, rfl, by rw [if_pos (by decide)]; omega, Or.inl (by decide)⟩
  · rw [if_neg a]
    by_cases b : l < 2
    · have h := q2 l (by omega) b
      rw [if_pos b, if_pos ⟨by decide, q1⟩, if_pos ⟨by omega, b⟩]
      refine ⟨_, rfl, ?_, ?_⟩
      · by_cases d : B 12 0 3 l < 0
        · rw [if_pos d]; omega
        · rw [if_neg d]; omega
      · omega
    · rw [if_neg b]
      exact ⟨-1, rfl, by rw [if_pos (by decide)]; omega, Or.inl (by decide)⟩
theorem C_partAt {K : zK} {l v : Int} {F : zF} {B : zB} (hI : IQ K F B) (hl : r32 l) (hv : r32 v) : ∃ r, f_S_partAt K 0 l v F B = some (r, F, B) ∧ (r < 0 ∨ 0 ≤ r ∧ r < K.2 4) := by
  obtain ⟨r, e, -, h⟩ := C_pieceAt hI hl
  obtain ⟨q1, q2, q3, q4, q5, q6, q7, q8⟩ := hI
  have h3 := q3 r
  unfold f_S_partAt f_S_partAt_22 f_S_partAt_32
  rw [if_pos ⟨by decide, q1⟩, zbind_some e]
  by_cases a : r < 0
  · rw [if_pos a]
    exact ⟨-1, rfl, Or.inl (by decide)⟩
  · rw [if_neg a, if_pos hv]
    by_cases b : v < 0
    · rw [if_pos b]
      exact ⟨-1, rfl, Or.inl (by decide)⟩
    · rw [if_neg b, if_pos ⟨by omega, by omega⟩, if_pos (show r32 (F 6 r 1) from ⟨by omega, by omega⟩)]
      by_cases d : v < F 6 r 1
      · rw [if_pos d, if_pos ⟨by omega, by omega⟩]
        exact ⟨_, rfl, Or.inr (q4 r v (by omega) (by omega) (by omega) d)⟩
      · rw [if_neg d]
        exact ⟨-1, rfl, Or.inl (by decide)⟩
theorem C_track {K : zK} {l1 : Int} {F : zF} {B : zB} (hI : IQ K F B) (hl1 : r32 l1) : zR (f_S_track K 0 l1 F B) F B := by
  obtain ⟨q1, q2, q3, q4, q5, q6, q7, q8⟩ := hI
  unfold f_S_track f_S_track_17 f_S_track_45
  refine zR_g ⟨by decide, q1⟩ ?_
  unfold r32 at hl1
  repeat' first
    | exact zR_s
    | refine zR_g ⟨by decide, q1⟩ ?_
    | refine zR_g (by omega) ?_
    | refine zR_g ⟨by omega, by omega⟩ ?_
    | refine zR_i (fun _ => ?_) (fun _ => ?_)
theorem C_sound {K : zK} {l1 l2 : Int} {F : zF} {B : zB} (hI : IQ K F B) (hl1 : r32 l1) (hl2 : r32 l2) : zR (f_S_sound K 0 l1 l2 F B) F B := by
  obtain ⟨q1, q2, q3, q4, q5, q6, q7, q8⟩ := hI
  unfold f_S_sound f_S_sound_32
  refine zR_g ⟨by decide, q1⟩ ?_
  unfold r32 at hl1
  unfold r32 at hl2
  have s6 := q6 (F 12 0 8)
  repeat' first
    | exact zR_s
    | refine zR_g ⟨by decide, q1⟩ ?_
    | refine zR_g (by omega) ?_
    | refine zR_g ⟨by omega, by omega⟩ ?_
    | refine zR_i (fun _ => ?_) (fun _ => ?_)
theorem C_voice {K : zK} {l1 l2 l3 : Int} {F : zF} {B : zB} (hI : IQ K F B) (hl1 : r32 l1) (hl2 : r32 l2) (hl3 : r32 l3) : zR (f_S_voice K 0 l1 l2 l3 F B) F B := by
  obtain ⟨r2, e2, h2⟩ := C_partAt hI hl1 hl2
  obtain ⟨q1, q2, q3, q4, q5, q6, q7, q8⟩ := hI
  unfold f_S_voice
  refine zR_g ⟨by decide, q1⟩ ?_
  rw [zbind_some e2]
  unfold r32 at hl1
  unfold r32 at hl2
  unfold r32 at hl3
  repeat' first
    | exact zR_s
    | refine zR_g ⟨by decide, q1⟩ ?_
    | refine zR_g (by omega) ?_
    | refine zR_g ⟨by omega, by omega⟩ ?_
    | refine zR_i (fun _ => ?_) (fun _ => ?_)
theorem C_name {K : zK} {l1 l2 : Int} {F : zF} {B : zB} (hI : IQ K F B) (hl1 : r32 l1) (hl2 : r32 l2) : zR (f_S_name K 0 l1 l2 F B) F B := by
  obtain ⟨r2, e2, h2⟩ := C_partAt hI hl1 hl2
  obtain ⟨q1, q2, q3, q4, q5, q6, q7, q8⟩ := hI
  unfold f_S_name f_S_name_19
  refine zR_g ⟨by decide, q1⟩ ?_
  rw [zbind_some e2]
  unfold r32 at hl1
  unfold r32 at hl2
  repeat' first
    | exact zR_s
    | refine zR_g ⟨by decide, q1⟩ ?_
    | refine zR_g (by omega) ?_
    | refine zR_g ⟨by omega, by omega⟩ ?_
    | refine zR_i (fun _ => ?_) (fun _ => ?_)

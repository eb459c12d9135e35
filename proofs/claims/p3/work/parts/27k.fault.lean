section
/-! ===== a text with a fault: the class's read ends ===== -/
theorem C_rdX {K : zK} {p r l1 : Int} {F : zF} {B : zB} (hK : 3002 ≤ K.1) (h0 : 0 < K.2 0) (h12 : 0 < K.2 12) (hp : 0 ≤ p ∧ p < K.2 6) (o7 : F 12 0 7 = p) (o0 : F 12 0 0 = 0) (rV : r32 (F 6 p 1)) (rr : r32 r) (rz : ¬ r = 0) : f_S_read_54 K.1 K 0 r 0 l1 F B = some (r, zup3 (zup3 F 0 0 1 0) 0 0 2 0, B, K) := by
  obtain ⟨k, hk⟩ : ∃ k, K.1 = k + 1 := ⟨K.1 - 1, by omega⟩
  have c121 : f_S_read_121 K r 0 l1 F B = some (r, zup3 (zup3 F 0 0 1 0) 0 0 2 0, B, K) := by
    unfold f_S_read_121 f_ByteRow_clear f_S_read_140
    rw [if_pos ⟨Int.le_refl _, h12⟩, o0, if_pos ⟨Int.le_refl _, h0⟩, if_pos ⟨Int.le_refl _, h0⟩, zbN_s, if_pos rr, if_neg rz, if_pos rr, if_neg rz]
  rw [show f_S_read_54 K.1 = f_S_read_54 (k + 1) by rw [← hk], f_S_read_54, if_pos ⟨Int.le_refl _, h12⟩, o7, if_pos hp, if_pos (by decide), if_pos rV]
  by_cases z : F 6 p 1 ≤ 0
  · rw [if_pos z, c121]
  · rw [if_neg z, if_pos rr, if_neg rz, c121]
end

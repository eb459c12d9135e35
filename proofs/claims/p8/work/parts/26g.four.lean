section
/-! ===== outside brackets everything is a multiple of 4 parts of 512 ===== -/
theorem bw_4 {p f t T : Int} (hp : p % 4 = 0) (f4 : f % 4 = 0) (T4 : T % 4 = 0) (h1 : T - 4 < t) (h2 : t ≤ T) : bw p f (f + T) ↔ bw p f (f + t) := by
  obtain ⟨p', rfl⟩ : ∃ p', p = 4 * p' := ⟨p / 4, (by first | decide | omega)⟩
  show (f / (4 * p') + 1) * (4 * p') < f + T ↔ (f / (4 * p') + 1) * (4 * p') < f + t
  have e : (f / (4 * p') + 1) * (4 * p') = 4 * ((f / (4 * p') + 1) * p') := by ac_rfl
  rw [e]
  generalize (f / (4 * p') + 1) * p' = z
  omega
theorem u_4 {u : Int} (hu : u = 256 ∨ u = 128 ∨ u = 64 ∨ u = 32) : u % 4 = 0 ∧ u / 2 % 4 = 0 ∧ u / 4 % 4 = 0 ∧ u / 8 % 4 = 0 ∧ (u / 16 % 4 = 0 ∨ (u = 32 ∧ u / 16 = 2)) := by
  rcases hu with rfl | rfl | rfl | rfl <;> decide
theorem u_32 {u n : Int} (hu : u = 256 ∨ u = 128 ∨ u = 64 ∨ u = 32) : ∃ y, u * n = 32 * y := by
  rcases hu with rfl | rfl | rfl | rfl
  · exact ⟨8 * n, (by first | decide | omega)⟩
  · exact ⟨4 * n, (by first | decide | omega)⟩
  · exact ⟨2 * n, (by first | decide | omega)⟩
  · exact ⟨n, rfl⟩
theorem ifc {b c : Prop} [Decidable b] [Decidable c] {x u y v : Int} (h : b ↔ c) (h1 : x = u) (h2 : y = v) : (if b then x else y) = (if c then u else v) := by
  by_cases z : b
  · rw [if_pos z, if_pos (h.mp z)]; exact h1
  · rw [if_neg z, if_neg (fun t => z (h.mpr t))]; exact h2
theorem bt_4 {n d f t T : Int} (hd : d = 2 ∨ d = 4 ∨ d = 8 ∨ d = 16) (f4 : f % 4 = 0) (T4 : T % 4 = 0) (h1 : T - 4 < t) (h2 : t ≤ T) (t2 : 2 < t) : bt n d f (f + T) = bt n d f (f + t) := by
  have hu := un_d hd
  obtain ⟨y, hy⟩ := u_32 (n := n) hu
  obtain ⟨b, hb⟩ := u_32 (n := bc n d) hu
  obtain ⟨u0, u1, u2, u3, u4⟩ := u_4 hu
  unfold bt bt5
  rw [hy, hb]
  generalize 512 / d = u at *
  refine ifc (by first | decide | omega) rfl (ifc (bw_4 (by first | decide | omega) f4 T4 h1 h2) rfl (ifc (bw_4 u0 f4 T4 h1 h2) rfl (ifc (bw_4 u1 f4 T4 h1 h2) rfl (ifc (bw_4 u2 f4 T4 h1 h2) rfl (ifc (bw_4 u3 f4 T4 h1 h2) rfl (ifc ?_ rfl rfl))))))
  rcases u4 with u4 | ⟨_, u4⟩
  · exact bw_4 u4 f4 T4 h1 h2
  · rw [u4]
    show (f / 2 + 1) * 2 < f + T ↔ (f / 2 + 1) * 2 < f + t
    omega
theorem m_4 {a p : Int} (hp : p % 4 = 0) (h : ¬ a % 4 = 0) : ¬ a % p = 0 := by
  obtain ⟨p', rfl⟩ : ∃ p', p = 4 * p' := ⟨p / 4, (by first | decide | omega)⟩
  intro z
  have e := Int.mul_ediv_add_emod a (4 * p')
  rw [z, show 4 * p' * (a / (4 * p')) = 4 * (p' * (a / (4 * p'))) by ac_rfl] at e
  generalize p' * (a / (4 * p')) = y at e
  omega
theorem st_4 {n d f a : Int} (hd : d = 2 ∨ d = 4 ∨ d = 8 ∨ d = 16) (f4 : f % 4 = 0) (a4 : ¬ a % 4 = 0) : st n d a ≤ st n d f := by
  have hu := un_d hd
  have sb := st_b (n := n) (d := d) (a := f)
  obtain ⟨y, hy⟩ := u_32 (n := n) hu
  obtain ⟨b, hb⟩ := u_32 (n := bc n d) hu
  obtain ⟨u0, u1, u2, u3, u4⟩ := u_4 hu
  have e : st n d a = if a % (512 / d / 16) = 0 then 2 else 1 := by
    unfold st st5
    rw [hy, hb, if_neg (by first | decide | omega), if_neg (by first | decide | omega), if_neg (m_4 (by first | decide | omega) a4)]
    generalize 512 / d = u at *
    rw [if_neg (m_4 u0 a4), if_neg (m_4 u1 a4), if_neg (m_4 u2 a4), if_neg (m_4 u3 a4)]
  rw [e]
  rcases u4 with u4 | ⟨u5, u4⟩
  · rw [if_neg (m_4 u4 a4)]; omega
  · have : 3 ≤ st n d f := by
      unfold st st5
      rw [u5]
      rw [show (32 : Int) / 8 = 4 by decide, if_pos f4]
      split
      · decide
      · split
        · decide
        · split
          · decide
          · split
            · decide
            · split
              · decide
              · split <;> decide
    split <;> omega
theorem sd_4 {n d f t T : Int} (hd : d = 2 ∨ d = 4 ∨ d = 8 ∨ d = 16) (f4 : f % 4 = 0) (T4 : T % 4 = 0) (h1 : T - 4 < t) (h2 : t < T) (t2 : 2 < t) (h : bt n d f (f + t) ≤ mx (st n d f) (st n d (f + t))) : bt n d f (f + T) ≤ mx (st n d f) (st n d (f + T)) := by
  rw [bt_4 hd f4 T4 h1 (by first | decide | omega) t2]
  have s := st_4 (n := n) (d := d) (f := f) (a := f + t) hd f4 (by first | decide | omega)
  unfold mx at h ⊢
  have : bt n d f (f + t) ≤ st n d f := by
    by_cases c : st n d f ≤ st n d (f + t)
    · rw [if_pos c] at h; omega
    · rw [if_neg c] at h; exact h
  split <;> omega
theorem fv_4 : (∀ k : Fin 24, fv (k.val : Int) % 4 = 0 ∨ k.val = 18 ∨ k.val = 21 ∨ k.val = 22) ∧ fv 17 = 16 ∧ fv 18 = 14 ∧ fv 20 = 8 ∧ fv 21 = 7 ∧ fv 22 = 6 ∧ fv 23 = 4 := by decide +kernel
theorem fv_m {k : Int} (h0 : 0 ≤ k) (h1 : k < 24) : fv k % 4 = 0 ∨ k = 18 ∨ k = 21 ∨ k = 22 := by
  have h := fv_4.1 ⟨k.toNat, (by first | decide | omega)⟩
  rw [show (((⟨k.toNat, (by first | decide | omega)⟩ : Fin 24).val : Nat) : Int) = k by show ((k.toNat : Nat) : Int) = k; omega] at h
  rcases h with h | h | h | h
  · exact Or.inl h
  · have : k.toNat = 18 := h
    omega
  · have : k.toNat = 21 := h
    omega
  · have : k.toNat = 22 := h
    omega
theorem gv_4 {l : Int} (l0 : 0 < l) (l4 : l % 4 = 0) : fv (gvF l) ≤ l ∧ fv (gvF l) % 4 = 0 ∧ 0 ≤ fsN (fun k => decide (fv k ≤ l)) 24 0 := by
  obtain ⟨_, f17, f18, f20, f21, f22, f23⟩ := fv_4
  have nn := fsN_n (P := fun k => decide (fv k ≤ l)) 24 (k := 0) (Int.le_refl _)
  have P : ∀ j : Int, 0 ≤ j → j < 24 → fv j ≤ l → ¬ (j < fsN (fun k => decide (fv k ≤ l)) 24 0 ∨ fsN (fun k => decide (fv k ≤ l)) 24 0 < 0) := fun j a b c h => by
    have := nn j a (by first | decide | omega) h
    have : decide (fv j ≤ l) = false := this
    exact absurd c (of_decide_eq_false this)
  have p23 := P 23 (by decide) (by decide) (by first | decide | omega)
  unfold gvF
  rcases fsN_r (P := fun k => decide (fv k ≤ l)) 24 (k := 0) (Int.le_refl _) with h | ⟨h1, h2, h3⟩
  · exact absurd (Or.inr (by rw [h]; decide)) p23
  · have h3' : fv (fsN (fun k => decide (fv k ≤ l)) 24 0) ≤ l := of_decide_eq_true h3
    generalize fsN (fun k => decide (fv k ≤ l)) 24 0 = r at *
    rw [if_neg (by first | decide | omega)]
    refine ⟨h3', ?_, h1⟩
    rcases fv_m h1 (by first | decide | omega) with z | z | z | z
    · exact z
    · exfalso; rw [z] at h3' P; exact P 17 (by decide) (by decide) (by first | decide | omega) (Or.inl (by decide))
    · exfalso; rw [z] at h3' P; exact P 20 (by decide) (by decide) (by first | decide | omega) (Or.inl (by decide))
    · exfalso; rw [z] at h3' P; exact P 20 (by decide) (by decide) (by first | decide | omega) (Or.inl (by decide))
theorem nv_4 {n d f l : Int} (hd : d = 2 ∨ d = 4 ∨ d = 8 ∨ d = 16) (f4 : f % 4 = 0) (l0 : 0 < l) (l4 : l % 4 = 0) : fv (nvF n d f l) ≤ l ∧ fv (nvF n d f l) % 4 = 0 := by
  obtain ⟨_, f17, f18, f20, f21, f22, f23⟩ := fv_4
  have nn := fsN_n (P := fun k => decide (fv k ≤ l ∧ stnd n d f k)) 24 (k := 0) (Int.le_refl _)
  have P : ∀ j : Int, 0 ≤ j → j < 24 → fv j ≤ l ∧ stnd n d f j → ¬ (j < fsN (fun k => decide (fv k ≤ l ∧ stnd n d f k)) 24 0 ∨ fsN (fun k => decide (fv k ≤ l ∧ stnd n d f k)) 24 0 < 0) := fun j a b c h => by
    have := nn j a (by first | decide | omega) h
    have : decide (fv j ≤ l ∧ stnd n d f j) = false := this
    exact absurd c (of_decide_eq_false this)
  unfold nvF
  rcases fsN_r (P := fun k => decide (fv k ≤ l ∧ stnd n d f k)) 24 (k := 0) (Int.le_refl _) with h | ⟨h1, h2, h3⟩
  · rw [h, if_pos (by decide)]
    exact ⟨(gv_4 l0 l4).1, (gv_4 l0 l4).2.1⟩
  · have h3' : fv (fsN (fun k => decide (fv k ≤ l ∧ stnd n d f k)) 24 0) ≤ l ∧ stnd n d f (fsN (fun k => decide (fv k ≤ l ∧ stnd n d f k)) 24 0) := of_decide_eq_true h3
    generalize fsN (fun k => decide (fv k ≤ l ∧ stnd n d f k)) 24 0 = r at *
    rw [if_neg (by first | decide | omega)]
    obtain ⟨q1, q2⟩ := h3'
    refine ⟨q1, ?_⟩
    rcases fv_m h1 (by first | decide | omega) with z | z | z | z
    · exact z
    · exfalso
      rw [z] at q1 q2 P
      have s : bt n d f (f + fv 18) ≤ mx (st n d f) (st n d (f + fv 18)) := q2
      rw [f18] at s
      refine P 17 (by decide) (by decide) ⟨(by first | decide | omega), ?_⟩ (Or.inl (by decide))
      show bt n d f (f + fv 17) ≤ mx (st n d f) (st n d (f + fv 17))
      rw [f17]
      exact sd_4 hd f4 (by decide) (by decide) (by decide) (by decide) s
    · exfalso
      rw [z] at q1 q2 P
      have s : bt n d f (f + fv 21) ≤ mx (st n d f) (st n d (f + fv 21)) := q2
      rw [f21] at s
      refine P 20 (by decide) (by decide) ⟨(by first | decide | omega), ?_⟩ (Or.inl (by decide))
      show bt n d f (f + fv 20) ≤ mx (st n d f) (st n d (f + fv 20))
      rw [f20]
      exact sd_4 hd f4 (by decide) (by decide) (by decide) (by decide) s
    · exfalso
      rw [z] at q1 q2 P
      have s : bt n d f (f + fv 22) ≤ mx (st n d f) (st n d (f + fv 22)) := q2
      rw [f22] at s
      refine P 20 (by decide) (by decide) ⟨(by first | decide | omega), ?_⟩ (Or.inl (by decide))
      show bt n d f (f + fv 20) ≤ mx (st n d f) (st n d (f + fv 20))
      rw [f20]
      exact sd_4 hd f4 (by decide) (by decide) (by decide) (by decide) s
end

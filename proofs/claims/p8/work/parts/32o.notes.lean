section
/-! ===== the notes of spans, as the reference keeps them ===== -/
/-- the notes of a span: event, bar, value -/
def spR (n d b ev : Int) : Nat → Int → Int → List (Int × Int × Int)
  | 0, _, _ => []
  | f + 1, a, e => if a < e then (ev, a / b, kvF n d b a e) :: spR n d b ev f (nxF n d b a e) e else []
def spN (n d b ev a e : Int) : List (Int × Int × Int) := spR n d b ev (e - a).toNat a e
theorem spR_i {n d b ev : Int} (h : BRs n d b) {e : Int} (he : e % sdU d = 0) : ∀ (f f' : Nat) (a : Int), 0 ≤ a → a % sdU d = 0 → e - a ≤ sdU d * f → e - a ≤ sdU d * f' → spR n d b ev f a e = spR n d b ev f' a e := by
  have s0 := (BRs_b h).2.2.2.2.1
  intro f
  induction f with
  | zero =>
    intro f' a a0 ha h1 h2
    have : ¬ a < e := by simp at h1; omega
    cases f' with
    | zero => rfl
    | succ f' => rw [spR, spR, if_neg this]
  | succ f ih =>
    intro f' a a0 ha h1 h2
    by_cases z : a < e
    · cases f' with
      | zero => simp at h2; omega
      | succ f' =>
        obtain ⟨_, n1, n2, n3, _⟩ := nx_b h a0 z ha he
        have e1 : sdU d * ((f + 1 : Nat) : Int) = sdU d * f + sdU d := by rw [show ((f + 1 : Nat) : Int) = (f : Int) + 1 by omega, Int.mul_add, Int.mul_one]
        have e2 : sdU d * ((f' + 1 : Nat) : Int) = sdU d * f' + sdU d := by rw [show ((f' + 1 : Nat) : Int) = (f' : Int) + 1 by omega, Int.mul_add, Int.mul_one]
        rw [spR, spR, if_pos z, if_pos z, ih f' (nxF n d b a e) (by first | decide | omega) n3 (by first | decide | omega) (by first | decide | omega)]
    · cases f' with
      | zero => rw [spR, spR, if_neg z]
      | succ f' => rw [spR, spR, if_neg z, if_neg z]
theorem spN_0 {n d b ev a e : Int} (h : ¬ a < e) : spN n d b ev a e = [] := by
  unfold spN
  rw [show (e - a).toNat = 0 by omega, spR]
theorem spN_u {n d b ev a e : Int} (h : BRs n d b) (a0 : 0 ≤ a) (ha : a % sdU d = 0) (he : e % sdU d = 0) (z : a < e) : spN n d b ev a e = (ev, a / b, kvF n d b a e) :: spN n d b ev (nxF n d b a e) e := by
  have sd : sdU d = 16 ∨ sdU d = 4 := by unfold sdU; split <;> omega
  obtain ⟨_, n1, n2, n3, _⟩ := nx_b h a0 z ha he
  unfold spN
  obtain ⟨f, hf⟩ : ∃ f, (e - a).toNat = f + 1 := ⟨(e - a).toNat - 1, (by first | decide | omega)⟩
  rw [hf, spR, if_pos z, spR_i h he f (e - nxF n d b a e).toNat (nxF n d b a e) (by first | decide | omega) n3 (by rcases sd with g | g <;> rw [g] at n1 ⊢ <;> omega) (by rcases sd with g | g <;> rw [g] <;> omega)]
/-- rows i, i + 1, .. hold the notes of the list -/
def NRW (w v : Int) (B : zB) : Int → List (Int × Int × Int) → Prop
  | _, [] => True
  | i, r :: rs => (B 13 w 30 (800 * v + i) = r.1 ∧ B 13 w 31 (800 * v + i) = r.2.1 ∧ B 13 w 34 (800 * v + i) = r.2.2 / 3 ∧ B 13 w 35 (800 * v + i) = 2 - r.2.2 % 3) ∧ NRW w v B (i + 1) rs
theorem NRW_f {w v : Int} {B B' : zB} : ∀ (L : List (Int × Int × Int)) (i : Int), NRW w v B i L → (∀ k y, 30 ≤ k → k ≤ 35 → 800 * v + i ≤ y → y < 800 * v + i + (L.length : Int) → B' 13 w k y = B 13 w k y) → NRW w v B' i L := by
  intro L
  induction L with
  | nil => intro i _ _; trivial
  | cons r rs ih =>
    intro i h e
    have ll : ((r :: rs).length : Int) = (rs.length : Int) + 1 := by rw [List.length_cons]; omega
    rw [ll] at e
    refine ⟨?_, ih (i + 1) h.2 (fun k y a b c d => e k y a b (by first | decide | omega) (by first | decide | omega))⟩
    rw [e 30 _ (by first | decide | omega) (by first | decide | omega) (by first | decide | omega) (by first | decide | omega), e 31 _ (by first | decide | omega) (by first | decide | omega) (by first | decide | omega) (by first | decide | omega), e 34 _ (by first | decide | omega) (by first | decide | omega) (by first | decide | omega) (by first | decide | omega), e 35 _ (by first | decide | omega) (by first | decide | omega) (by first | decide | omega) (by first | decide | omega)]
    exact h.1
theorem NRW_a {w v : Int} {B : zB} : ∀ (L : List (Int × Int × Int)) (i : Int) (r : Int × Int × Int), NRW w v B i L → NRW w v B (i + (L.length : Int)) [r] → NRW w v B i (L ++ [r]) := by
  intro L
  induction L with
  | nil =>
    intro i r _ h
    rw [List.length_nil, show i + ((0 : Nat) : Int) = i by omega] at h
    exact h
  | cons s rs ih =>
    intro i r h h'
    rw [List.length_cons, show i + ((rs.length + 1 : Nat) : Int) = i + 1 + (rs.length : Int) by omega] at h'
    exact ⟨h.1, ih (i + 1) r h.2 h'⟩
/-- the notes so far: kept, or more than there is room for -/
def NSt (w v : Int) (L : List (Int × Int × Int)) (B : zB) : Prop := (L.length ≤ 800 ∧ B 13 w 13 v = (L.length : Int) ∧ NRW w v B 0 L) ∨ (800 < L.length ∧ B 13 w 13 v = 801)
theorem NSt_c {w v : Int} {L : List (Int × Int × Int)} {B : zB} (h : NSt w v L B) : ∃ c, B 13 w 13 v = c ∧ 0 ≤ c ∧ c ≤ 801 ∧ (c ≤ 800 ↔ L.length ≤ 800) := by
  rcases h with ⟨a, b, _⟩ | ⟨a, b⟩
  · exact ⟨_, b, (by first | decide | omega), (by first | decide | omega), (by first | decide | omega)⟩
  · exact ⟨_, b, (by first | decide | omega), (by first | decide | omega), (by first | decide | omega)⟩
theorem NSt_m {w v : Int} {L M : List (Int × Int × Int)} {B : zB} (h : NSt w v L B) (hl : 800 < L.length) : NSt w v (L ++ M) B := by
  rcases h with ⟨a, _⟩ | ⟨_, b⟩
  · omega
  · exact Or.inr ⟨by rw [List.length_append]; omega, b⟩
theorem M_nt {Km : Nat} {w v ev bar k : Int} {L : List (Int × Int × Int)} {F : zF} {B : zB} (v0 : 0 ≤ v ∧ v < 4) (w0 : 0 ≤ w ∧ w < 3) (hN : NSt w v L B) (hl : L.length ≤ 800) : ∃ B', f_M_note_1 Km w v ev bar (k / 3) (2 - k % 3) F B = some (0, F, B') ∧ nM' v w B B' ∧ NSt w v (L ++ [(ev, bar, k)]) B' := by
  obtain ⟨l1, n13, hr⟩ : L.length ≤ 800 ∧ B 13 w 13 v = (L.length : Int) ∧ NRW w v B 0 L := by
    rcases hN with h | h
    · exact h
    · omega
  have ll : (L ++ [(ev, bar, k)]).length = L.length + 1 := by rw [List.length_append]; rfl
  generalize hc : (L.length : Int) = c at *
  have e13 : (zup4 B 13 w 13 v (c + 1)) 13 w 13 v = c + 1 := by rw [zup4_v, if_pos (by first | decide | omega)]
  unfold f_M_note_1
  rw [if_pos w0, if_pos v0, n13, e13, if_pos (show r32 (c + 1) by unfold r32; omega)]
  by_cases z : c < 800
  · rw [if_pos (show c + 1 ≤ 800 by omega), if_pos (show 0 ≤ 800 * v + c ∧ 800 * v + c < 3200 by omega)]
    generalize hM' : zup4 (zup4 (zup4 (zup4 (zup4 (zup4 (zup4 B 13 w 13 v (c + 1)) 13 w 30 (800 * v + c) ev) 13 w 31 (800 * v + c) bar) 13 w 32 (800 * v + c) (F 14 0 54)) 13 w 33 (800 * v + c) (F 14 0 55)) 13 w 34 (800 * v + c) (k / 3)) 13 w 35 (800 * v + c) (2 - k % 3) = M'
    have mn : ∀ d y k x, ¬ (d = 13 ∧ y = w ∧ k = 13 ∧ x = v) → ¬ (d = 13 ∧ y = w ∧ (30 ≤ k ∧ k ≤ 35) ∧ x = 800 * v + c) → M' d y k x = B d y k x := fun d y k x h h' => by rw [← hM', zup4_v, if_neg (by first | decide | omega), zup4_v, if_neg (by first | decide | omega), zup4_v, if_neg (by first | decide | omega), zup4_v, if_neg (by first | decide | omega), zup4_v, if_neg (by first | decide | omega), zup4_v, if_neg (by first | decide | omega), zup4_v, if_neg (by first | decide | omega)]
    have m13 : M' 13 w 13 v = c + 1 := by rw [← hM']; simp [zup4_v]
    have m30 : M' 13 w 30 (800 * v + c) = ev := by rw [← hM']; simp [zup4_v]
    have m31 : M' 13 w 31 (800 * v + c) = bar := by rw [← hM']; simp [zup4_v]
    have m34 : M' 13 w 34 (800 * v + c) = k / 3 := by rw [← hM']; simp [zup4_v]
    have m35 : M' 13 w 35 (800 * v + c) = 2 - k % 3 := by rw [← hM']; simp [zup4_v]
    refine ⟨M', rfl, fun d y k x h h' => mn d y k x h (by first | decide | omega), Or.inl ⟨(by first | decide | omega), by rw [m13, ll]; omega, NRW_a L 0 _ (NRW_f L 0 hr (fun k y a b cc dd => mn 13 w k y (by first | decide | omega) (by first | decide | omega))) ?_⟩⟩
    rw [hc, show 0 + c = c by omega]
    exact ⟨⟨m30, m31, m34, m35⟩, trivial⟩
  · rw [if_neg (show ¬ c + 1 ≤ 800 by omega)]
    refine ⟨_, rfl, fun d y k x h h' => by rw [zup4_v, if_neg (by first | decide | omega)], Or.inr ⟨(by first | decide | omega), by rw [zup4_v, if_pos (by first | decide | omega)]; omega⟩⟩
/-- places within one bar -/
theorem bar_q {b nb a : Int} (b0 : 0 < b) (h1 : nb * b ≤ a) (h2 : a < (nb + 1) * b) : a / b = nb ∧ a % b = a - nb * b := by
  have e : a / b = nb := by
    refine Int.le_antisymm ?_ ?_
    · have := (Int.ediv_lt_iff_lt_mul b0 (a := a) (b := nb + 1)).mpr h2
      omega
    · exact (Int.le_ediv_iff_mul_le b0).mpr h1
  refine ⟨e, ?_⟩
  have := Int.emod_add_mul_ediv a b
  rw [e, Int.mul_comm] at this
  omega
theorem kv_e {n d b nb a e t : Int} (b0 : 0 < b) (h1 : nb * b ≤ a) (h2 : a < t) (ht : t ≤ (nb + 1) * b ∧ t ≤ e ∧ (t = e ∨ t = (nb + 1) * b)) : kvF n d b a e = nvF n d (a - nb * b) (t - a) ∧ a / b = nb := by
  obtain ⟨q1, q2⟩ := bar_q b0 h1 (show a < (nb + 1) * b by omega)
  have nb1 : (nb + 1) * b = nb * b + b := by rw [Int.add_mul, Int.one_mul]
  refine ⟨?_, q1⟩
  unfold kvF
  rw [q2]
  have : zmin (e - a) (b - (a - nb * b)) = t - a := by unfold zmin; split <;> omega
  rw [this]
theorem sp_s {n d b nb ev e t : Int} (hb : BRs n d b) (nb0 : 0 ≤ nb * b) (he : e % sdU d = 0) (tm : t % sdU d = 0) (ht : t ≤ (nb + 1) * b ∧ t ≤ e ∧ (t = e ∨ t = (nb + 1) * b)) : ∀ (r : Nat) (a : Int), t - a ≤ 4 * r → nb * b ≤ a → a ≤ t → a % sdU d = 0 → ∃ P, spN n d b ev a e = P ++ spN n d b ev t e := by
  obtain ⟨b1, b2, b3, _, b5, b6⟩ := BRs_b hb
  have sd : (sdU d = 16) ∨ (sdU d = 4) := by unfold sdU; split <;> omega
  intro r
  induction r with
  | zero =>
    intro a hr a1 a2 ha
    have : a = t := by omega
    subst this
    exact ⟨[], rfl⟩
  | succ r ih =>
    intro a hr a1 a2 ha
    by_cases z : a = t
    · subst z; exact ⟨[], rfl⟩
    · obtain ⟨kb, n1, n2, n3, n4⟩ := nx_b hb (by first | decide | omega) (show a < e by omega) ha he
      obtain ⟨k1, k2⟩ := kv_e (n := n) (d := d) (by first | decide | omega) a1 (show a < t by omega) ht
      have am : (a - nb * b) % sdU d = 0 ∧ (t - a) % sdU d = 0 := by
        obtain ⟨j, hj⟩ : ∃ j, b = sdU d * j := ⟨b / sdU d, by rcases sd with h | h <;> rw [h] at b3 ⊢ <;> omega⟩
        have nbm : (nb * b) % sdU d = 0 := by
          rw [hj, show nb * (sdU d * j) = sdU d * (nb * j) by ac_rfl]
          exact Int.mul_emod_right _ _
        rcases sd with g | g <;> rw [g] at ha tm nbm ⊢ <;> omega
      obtain ⟨q1, _, _⟩ := nv_s (n := n) hb.2.1 am.1 (show 0 < t - a by omega) am.2
      have nt : nxF n d b a e ≤ t := by unfold nxF; rw [k1]; omega
      obtain ⟨P, hP⟩ := ih (nxF n d b a e) (by rcases sd with g | g <;> rw [g] at n1 <;> omega) (by first | decide | omega) nt n3
      exact ⟨(ev, a / b, kvF n d b a e) :: P, by rw [spN_u hb (by first | decide | omega) ha he (by first | decide | omega), hP]; rfl⟩
/-- what the bar's part of a span gives -/
theorem M_cut {Km : Nat} {v w n d b nb ev e t : Int} (hKm : 70000000000 < Km) (v0 : 0 ≤ v ∧ v < 4) (w0 : 0 ≤ w ∧ w < 3) (hb : BRs n d b) (hnb : 0 ≤ nb ∧ nb ≤ 100) (he : e % sdU d = 0) (ht : nb * b ≤ t ∧ t ≤ (nb + 1) * b ∧ t ≤ e ∧ (t = e ∨ t = (nb + 1) * b)) : ∀ (r n2 : Nat) (a : Int) (L : List (Int × Int × Int)) (Fm : zF) (Bm : zB), t - a ≤ 4 * r → nb * b ≤ a → a ≤ t → a % sdU d = 0 → r < n2 → Fm 13 w 4 = n → Fm 13 w 5 = d → Fm 14 0 52 = nu (X5 * (t - a)) → Fm 14 0 53 = de (X5 * (t - a)) → Fm 14 0 54 = nu (X5 * (a - nb * b)) → Fm 14 0 55 = de (X5 * (a - nb * b)) → NSt w v L Bm → ∃ Fm' Bm' P, f_M_part_174 Km n2 1 1 0 w v ev nb Fm Bm = some (0, Fm', Bm') ∧ nG Fm Fm' ∧ nM' v w Bm Bm' ∧ NSt w v (L ++ P) Bm' ∧ spN n d b ev a e = P ++ spN n d b ev t e := by
  obtain ⟨b1, b2, b3, _, b5, b6⟩ := BRs_b hb
  have hn := hb.1
  have hd := hb.2.1
  have sd : (sdU d = 16) ∨ (sdU d = 4) := by unfold sdU; split <;> omega
  have xa : ∀ y : Int, X5 * y = 1587600 * y := fun _ => rfl
  have nb1 : (nb + 1) * b = nb * b + b := by rw [Int.add_mul, Int.one_mul]
  have tm : t % sdU d = 0 := by
    rcases ht.2.2.2 with z | z
    · rw [z]; exact he
    · rw [z]
      obtain ⟨j, hj⟩ : ∃ j, b = sdU d * j := ⟨b / sdU d, by rcases sd with h | h <;> rw [h] at b3 ⊢ <;> omega⟩
      rw [hj, show (nb + 1) * (sdU d * j) = sdU d * ((nb + 1) * j) by ac_rfl]
      exact Int.mul_emod_right _ _
  have nbm : (nb * b) % sdU d = 0 := by
    obtain ⟨j, hj⟩ : ∃ j, b = sdU d * j := ⟨b / sdU d, by rcases sd with h | h <;> rw [h] at b3 ⊢ <;> omega⟩
    rw [hj, show nb * (sdU d * j) = sdU d * (nb * j) by ac_rfl]
    exact Int.mul_emod_right _ _
  have nb0 : 0 ≤ nb * b := Int.mul_nonneg hnb.1 (by first | decide | omega)
  intro r
  induction r with
  | zero =>
    intro n2 a L Fm Bm hr a1 a2 ha hn2 m4 m5 h52 h53 h54 h55 hN
    obtain ⟨n2, rfl⟩ : ∃ k, n2 = k + 1 := ⟨n2 - 1, (by first | decide | omega)⟩
    have : a = t := by omega
    subst this
    obtain ⟨z1, z2⟩ := nu_0 (l := a - a) (by first | decide | omega) (by first | decide | omega)
    refine ⟨Fm, Bm, [], ?_, fun _ _ _ _ => rfl, fun _ _ _ _ _ _ => rfl, by rw [List.append_nil]; exact hN, rfl⟩
    rw [f_M_part_174, h52, if_pos z2, if_pos (z1.mpr (by first | decide | omega)), f_M_part_338]
  | succ r ih =>
    intro n2 a L Fm Bm hr a1 a2 ha hn2 m4 m5 h52 h53 h54 h55 hN
    obtain ⟨n2, rfl⟩ : ∃ k, n2 = k + 1 := ⟨n2 - 1, (by first | decide | omega)⟩
    obtain ⟨z1, z2⟩ := nu_0 (l := t - a) (by first | decide | omega) (by first | decide | omega)
    obtain ⟨c, c1, c2, c3, c4⟩ := NSt_c hN
    by_cases lz : t - a = 0
    · have : a = t := by omega
      subst this
      refine ⟨Fm, Bm, [], ?_, fun _ _ _ _ => rfl, fun _ _ _ _ _ _ => rfl, by rw [List.append_nil]; exact hN, rfl⟩
      rw [f_M_part_174, h52, if_pos z2, if_pos (z1.mpr (by first | decide | omega)), f_M_part_338]
    by_cases lc : 800 < L.length
    · -- too many already
      obtain ⟨P, hP⟩ := sp_s (ev := ev) hb nb0 he tm ht.2 (r + 1) a hr a1 a2 ha
      refine ⟨Fm, Bm, P, ?_, fun _ _ _ _ => rfl, fun _ _ _ _ _ _ => rfl, NSt_m hN lc, hP⟩
      rw [f_M_part_174, h52, if_pos z2, if_neg (fun h => lz (z1.mp h)), if_pos w0, if_pos v0, c1, if_pos (by unfold r32; omega), if_pos (by first | decide | omega), f_M_part_338]
    · obtain ⟨kb, n1, n2', n3, n4⟩ := nx_b hb (by first | decide | omega) (show a < e by omega) ha he
      obtain ⟨k1, k2⟩ := kv_e (n := n) (d := d) (by first | decide | omega) a1 (show a < t by omega) ht.2
      have am : (a - nb * b) % sdU d = 0 ∧ (t - a) % sdU d = 0 := by
        rcases sd with g | g <;> rw [g] at ha tm nbm ⊢ <;> omega
      have am4 : (a - nb * b) % 4 = 0 ∧ (t - a) % 4 = 0 := by
        rcases sd with g | g <;> rw [g] at am <;> omega
      obtain ⟨q1, _, q3⟩ := nv_s (n := n) hd am.1 (show 0 < t - a by omega) am.2
      have nt : nxF n d b a e ≤ t := by unfold nxF; rw [k1]; omega
      generalize hf : a - nb * b = f at *
      generalize hl : t - a = l at *
      have hS : ∀ asks : Int, asks = 0 ∨ asks = 1 → CHS w n d f l asks Fm := fun asks ha => by
        refine ⟨w0, m4, m5, hn, hd, by rw [h52, h53]; exact FR_r (by have := xa l; omega), (by first | decide | omega), ?_⟩
        rcases ha with h | h
        · exact Or.inl h
        · exact Or.inr ⟨h, by rw [h54, h55]; exact FR_r (by have := xa f; omega), (by first | decide | omega)⟩
      have p1 : (fun k => decide (chP n d f l 1 k)) = (fun k => decide (fv k ≤ l ∧ stnd n d f k)) := by
        funext k
        congr 1
        exact propext ⟨fun h => ⟨h.1, h.2.resolve_left (by decide)⟩, fun h => ⟨h.1, Or.inr h.2⟩⟩
      have p0 : ∀ a, (fun k => decide (chP n d a l 0 k)) = (fun k => decide (fv k ≤ l)) := fun a => by
        funext k
        congr 1
        exact propext ⟨fun h => h.1, fun h => ⟨h, Or.inl rfl⟩⟩
      have ch : ∃ G, chF Fm G ∧ G 14 0 56 = nvF n d f l / 3 ∧ G 14 0 57 = 2 - nvF n d f l % 3 ∧ f_M_part_174 Km (n2 + 1) 1 1 0 w v ev nb Fm Bm = f_M_part_216 (f_M_part_174 Km n2) Km 1 1 0 w v ev nb G Bm := by
        obtain ⟨G1, g1, g2, g3⟩ := L_choose (K := Km) (B := Bm) (by first | decide | omega) (hS 1 (Or.inr rfl))
        rw [p1] at g1 g3
        rw [f_M_part_174, h52, if_pos z2, if_neg (fun h => lz (z1.mp h)), if_pos w0, if_pos v0, c1, if_pos (show r32 c by unfold r32; omega), if_neg (by first | decide | omega), if_pos (by decide), if_pos rfl, g1, zb_s]
        unfold nvF
        by_cases y : fsN (fun k => decide (fv k ≤ l ∧ stnd n d f k)) 24 0 < 0
        · obtain ⟨G2, h1, h2, h3⟩ := L_choose (K := Km) (B := Bm) (by first | decide | omega) (CHS_f (hS 0 (Or.inl rfl)) g2)
          rw [p0] at h1 h3
          have gz := (gv_4 (show 0 < l by omega) am4.2).2.2
          obtain ⟨h4', h5'⟩ := h3 gz
          rw [if_pos y, if_pos y, if_pos (show r32 0 by decide), if_pos (show (0 : Int) = 0 from rfl), f_M_part_209, h1, zb_s]
          refine ⟨G2, chF_t g2 h2, ?_, ?_, rfl⟩
          · rw [h4']; unfold gvF; rw [if_neg (by first | decide | omega)]
          · rw [h5']; unfold gvF; rw [if_neg (by first | decide | omega)]
        · obtain ⟨h4', h5'⟩ := g3 (by first | decide | omega)
          rw [if_neg y, if_neg y, if_pos (show r32 1 by decide), if_neg (show ¬ (1 : Int) = 0 by decide)]
          exact ⟨G1, g2, h4', h5', rfl⟩
      obtain ⟨G, gc, g56, g57, eM⟩ := ch
      have kb' := nvF_b (n := n) (d := d) (f := f) (l := l)
      generalize hk : nvF n d f l = k at *
      have fb := fv_b kb'.1 kb'.2
      have g54 : G 14 0 54 = nu (X5 * f) := by rw [gc _ _ _ (by first | decide | omega)]; exact h54
      have g55 : G 14 0 55 = de (X5 * f) := by rw [gc _ _ _ (by first | decide | omega)]; exact h55
      obtain ⟨M1, a2', a5, a6⟩ := M_nt (Km := Km) (ev := ev) (bar := nb) (k := k) (F := G) v0 w0 hN (by first | decide | omega)
      obtain ⟨G', y1, y2, y3, y4, y5, y6⟩ := L_216 (K := Km) (rec := f_M_part_174 Km n2) (k := k) (l := l) (pl := X5 * f) (s := X5 * fv k) (dn := 1) (up := 1) (wi := 0) (w := w) (v := v) (ev := ev) (bar := nb) (F := G) (B := Bm) (B' := M1) hKm kb' g56 g57 (by rw [gc _ _ _ (by first | decide | omega)]; exact h52) (by rw [gc _ _ _ (by first | decide | omega)]; exact h53) g54 g55 q1 (by first | decide | omega) (by have := xa f; omega) (by decide) (by decide) (by have := xa (fv k); omega) rfl a2'
      have gG := nG_t (nG_c gc) y2
      have x1 := xa f
      have x2 := xa (fv k)
      have x3 := xa (f + fv k)
      have en : nxF n d b a e = a + fv k := by unfold nxF; rw [k1]
      rw [en] at n1 n2' n3 nt
      obtain ⟨F2, B2, P, u1, u2, u3, u4, u5⟩ := ih n2 (a + fv k) (L ++ [(ev, nb, k)]) G' M1 (by first | decide | omega) (by first | decide | omega) nt n3 (by first | decide | omega) (by rw [gG 13 w 4 (by first | decide | omega)]; exact m4) (by rw [gG 13 w 5 (by first | decide | omega)]; exact m5) (by rw [y3]; congr 2; omega) (by rw [y4]; congr 2; omega) (by rw [y5]; congr 1; rw [show a + fv k - nb * b = f + fv k by omega]; omega) (by rw [y6]; congr 1; rw [show a + fv k - nb * b = f + fv k by omega]; omega) a6
      refine ⟨F2, B2, (ev, nb, k) :: P, by rw [eM, y1]; exact u1, nG_t gG u2, nM_t a5 u3, by rw [List.append_assoc] at u4; exact u4, ?_⟩
      rw [spN_u hb (by first | decide | omega) ha he (by first | decide | omega), k2, k1, en, u5]
      rfl
end

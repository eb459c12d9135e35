section
variable {cc : Int}
/-! ===== a call returns, keeps what stands, and answers alike ===== -/
theorem q_read {Km : Nat} (a1 : Int) (h1 : r32 a1) {K : zK} {F Fm : zF} {B Bm : zB} (h : IV cc Km K F B Fm Bm) : ∃ r1 F1 B1 K1 r2 F2 B2, f_S_read K 0 a1 F B = some (r1, F1, B1, K1) ∧ f_M_read Km a1 Fm Bm = some (r2, F2, B2) ∧ IV cc Km K1 F1 B1 F2 B2 ∧ r1 = r2 := by
  obtain ⟨r1, F1, B1, K1, r2, F2, B2, x1, x2, hI⟩ := p_read a1 h1 h
  obtain ⟨r, _, _, _, _, _, y1, y2⟩ := v_read a1 h1 h
  exact ⟨r1, F1, B1, K1, r2, F2, B2, x1, x2, hI, (sm4 x1 y1).trans (sm3 x2 y2).symm⟩
theorem q_voice {Km : Nat} (a1 a2 a3 : Int) (h1 : r32 a1) (h2 : r32 a2) (h3 : r32 a3) {K : zK} {F Fm : zF} {B Bm : zB} (h : IV cc Km K F B Fm Bm) : ∃ r1 F1 B1 r2 F2 B2, f_S_voice K 0 a1 a2 a3 F B = some (r1, F1, B1) ∧ f_M_voice Km a1 a2 a3 Fm Bm = some (r2, F2, B2) ∧ IV cc Km K F1 B1 F2 B2 ∧ r1 = r2 := by
  obtain ⟨r1, F1, B1, r2, F2, B2, x1, x2, hI⟩ := p_voice a1 a2 a3 h1 h2 h3 h
  obtain ⟨r, y1, y2⟩ := e_voice a1 a2 a3 h1 h2 h3 h
  exact ⟨r1, F1, B1, r2, F2, B2, x1, x2, hI, (sm3 x1 y1).trans (sm3 x2 y2).symm⟩
theorem q_name {Km : Nat} (a1 a2 : Int) (h1 : r32 a1) (h2 : r32 a2) {K : zK} {F Fm : zF} {B Bm : zB} (h : IV cc Km K F B Fm Bm) : ∃ r1 F1 B1 r2 F2 B2, f_S_name K 0 a1 a2 F B = some (r1, F1, B1) ∧ f_M_name Km a1 a2 Fm Bm = some (r2, F2, B2) ∧ IV cc Km K F1 B1 F2 B2 ∧ r1 = r2 := by
  obtain ⟨r1, F1, B1, r2, F2, B2, x1, x2, hI⟩ := p_name a1 a2 h1 h2 h
  obtain ⟨r, y1, y2⟩ := e_name a1 a2 h1 h2 h
  exact ⟨r1, F1, B1, r2, F2, B2, x1, x2, hI, (sm3 x1 y1).trans (sm3 x2 y2).symm⟩
theorem q_event {Km : Nat} (a1 a2 a3 a4 : Int) (h1 : r32 a1) (h2 : r32 a2) (h3 : r32 a3) (h4 : r32 a4) {K : zK} {F Fm : zF} {B Bm : zB} (h : IV cc Km K F B Fm Bm) : ∃ r1 F1 B1 r2 F2 B2, f_S_event K 0 a1 a2 a3 a4 F B = some (r1, F1, B1) ∧ f_M_event_1 Km a1 a2 a3 a4 Fm Bm = some (r2, F2, B2) ∧ IV cc Km K F1 B1 F2 B2 ∧ r1 = r2 := by
  obtain ⟨r1, F1, B1, r2, F2, B2, x1, x2, hI⟩ := p_event a1 a2 a3 a4 h1 h2 h3 h4 h
  obtain ⟨r, y1, y2⟩ := e_event a1 a2 a3 a4 h1 h2 h3 h4 h
  exact ⟨r1, F1, B1, r2, F2, B2, x1, x2, hI, (sm3 x1 y1).trans (sm3 x2 y2).symm⟩
theorem q_pitch {Km : Nat} (a1 a2 a3 a4 a5 : Int) (h1 : r32 a1) (h2 : r32 a2) (h3 : r32 a3) (h4 : r32 a4) (h5 : r32 a5) {K : zK} {F Fm : zF} {B Bm : zB} (h : IV cc Km K F B Fm Bm) : ∃ r1 F1 B1 r2 F2 B2, f_S_pitch K 0 a1 a2 a3 a4 a5 F B = some (r1, F1, B1) ∧ f_M_pitch Km a1 a2 a3 a4 a5 Fm Bm = some (r2, F2, B2) ∧ IV cc Km K F1 B1 F2 B2 ∧ r1 = r2 := by
  obtain ⟨r1, F1, B1, r2, F2, B2, x1, x2, hI⟩ := p_pitch a1 a2 a3 a4 a5 h1 h2 h3 h4 h5 h
  obtain ⟨r, y1, y2⟩ := e_pitch a1 a2 a3 a4 a5 h1 h2 h3 h4 h5 h
  exact ⟨r1, F1, B1, r2, F2, B2, x1, x2, hI, (sm3 x1 y1).trans (sm3 x2 y2).symm⟩
theorem q_perform {Km : Nat} (a1 : Int) (h1 : r32 a1) {K : zK} {F Fm : zF} {B Bm : zB} (h : IV cc Km K F B Fm Bm) : ∃ r1 F1 B1 K1 r2 F2 B2, f_S_perform K 0 a1 F B = some (r1, F1, B1, K1) ∧ f_M_perform Km a1 Fm Bm = some (r2, F2, B2) ∧ IV cc Km K1 F1 B1 F2 B2 ∧ r1 = r2 := by
  obtain ⟨r1, F1, B1, K1, r2, F2, B2, x1, x2, hI⟩ := p_perform a1 h1 h
  obtain ⟨r, _, _, _, _, _, y1, y2⟩ := v_perform a1 h1 h
  exact ⟨r1, F1, B1, K1, r2, F2, B2, x1, x2, hI, (sm4 x1 y1).trans (sm3 x2 y2).symm⟩
theorem q_stroke {Km : Nat} (a1 a2 a3 : Int) (h1 : r32 a1) (h2 : r32 a2) (h3 : r32 a3) {K : zK} {F Fm : zF} {B Bm : zB} (h : IV cc Km K F B Fm Bm) : ∃ r1 F1 B1 r2 F2 B2, f_S_stroke K 0 a1 a2 a3 F B = some (r1, F1, B1) ∧ f_M_stroke Km a1 a2 a3 Fm Bm = some (r2, F2, B2) ∧ IV cc Km K F1 B1 F2 B2 ∧ r1 = r2 := by
  obtain ⟨r1, F1, B1, r2, F2, B2, x1, x2, hI⟩ := p_stroke a1 a2 a3 h1 h2 h3 h
  obtain ⟨r, y1, y2⟩ := e_stroke a1 a2 a3 h1 h2 h3 h
  exact ⟨r1, F1, B1, r2, F2, B2, x1, x2, hI, (sm3 x1 y1).trans (sm3 x2 y2).symm⟩
theorem q_file {Km : Nat} (a1 : Int) (h1 : r32 a1) {K : zK} {F Fm : zF} {B Bm : zB} (h : IV cc Km K F B Fm Bm) : ∃ r1 F1 B1 r2 F2 B2, f_S_file K 0 a1 F B = some (r1, F1, B1) ∧ f_M_file Km a1 Fm Bm = some (r2, F2, B2) ∧ IV cc Km K F1 B1 F2 B2 ∧ r1 = r2 := by
  obtain ⟨r1, F1, B1, r2, F2, B2, x1, x2, hI⟩ := p_file a1 h1 h
  obtain ⟨r, _, _, _, _, y1, y2⟩ := v_file a1 h1 h
  exact ⟨r1, F1, B1, r2, F2, B2, x1, x2, hI, (sm3 x1 y1).trans (sm3 x2 y2).symm⟩
theorem q_out {Km : Nat} (a1 : Int) (h1 : r32 a1) {K : zK} {F Fm : zF} {B Bm : zB} (h : IV cc Km K F B Fm Bm) : ∃ r1 F1 B1 r2 F2 B2, f_S_out K 0 a1 F B = some (r1, F1, B1) ∧ f_M_out Km a1 Fm Bm = some (r2, F2, B2) ∧ IV cc Km K F1 B1 F2 B2 ∧ r1 = r2 := by
  obtain ⟨r1, F1, B1, r2, F2, B2, x1, x2, hI⟩ := p_out a1 h1 h
  obtain ⟨r, _, _, _, _, y1, y2⟩ := v_out a1 h1 h
  exact ⟨r1, F1, B1, r2, F2, B2, x1, x2, hI, (sm3 x1 y1).trans (sm3 x2 y2).symm⟩
theorem q_again {Km : Nat} {K : zK} {F Fm : zF} {B Bm : zB} (h : IV cc Km K F B Fm Bm) : ∃ r1 F1 B1 r2 F2 B2, f_S_again K 0 F B = some (r1, F1, B1) ∧ f_M_again Km Fm Bm = some (r2, F2, B2) ∧ IV cc Km K F1 B1 F2 B2 ∧ r1 = r2 := by
  obtain ⟨r1, F1, B1, r2, F2, B2, x1, x2, hI⟩ := p_again h
  obtain ⟨r, _, _, _, _, y1, y2⟩ := v_again h
  exact ⟨r1, F1, B1, r2, F2, B2, x1, x2, hI, (sm3 x1 y1).trans (sm3 x2 y2).symm⟩
theorem q_open {Km : Nat} {K : zK} {F Fm : zF} {B Bm : zB} (h : IV cc Km K F B Fm Bm) : ∃ r1 F1 B1 K1 r2 F2 B2, f_S_open K 0 F B = some (r1, F1, B1, K1) ∧ f_M_open Km Fm Bm = some (r2, F2, B2) ∧ IV cc Km K1 F1 B1 F2 B2 ∧ r1 = r2 := by
  obtain ⟨r1, F1, B1, K1, r2, F2, B2, x1, x2, hI⟩ := p_open h
  obtain ⟨r, _, _, _, _, _, y1, y2⟩ := v_open h
  exact ⟨r1, F1, B1, K1, r2, F2, B2, x1, x2, hI, (sm4 x1 y1).trans (sm3 x2 y2).symm⟩
theorem q_track {Km : Nat} (a1 : Int) (h1 : r32 a1) {K : zK} {F Fm : zF} {B Bm : zB} (h : IV cc Km K F B Fm Bm) : ∃ r1 F1 B1 r2 F2 B2, f_S_track K 0 a1 F B = some (r1, F1, B1) ∧ f_M_track Km a1 Fm Bm = some (r2, F2, B2) ∧ IV cc Km K F1 B1 F2 B2 ∧ r1 = r2 := by
  obtain ⟨r1, F1, B1, r2, F2, B2, x1, x2, hI⟩ := p_track a1 h1 h
  obtain ⟨r, y1, y2⟩ := e_track a1 h1 h
  exact ⟨r1, F1, B1, r2, F2, B2, x1, x2, hI, (sm3 x1 y1).trans (sm3 x2 y2).symm⟩
theorem q_sound {Km : Nat} (a1 a2 : Int) (h1 : r32 a1) (h2 : r32 a2) {K : zK} {F Fm : zF} {B Bm : zB} (h : IV cc Km K F B Fm Bm) : ∃ r1 F1 B1 r2 F2 B2, f_S_sound K 0 a1 a2 F B = some (r1, F1, B1) ∧ f_M_sound_0 Km a1 a2 Fm Bm = some (r2, F2, B2) ∧ IV cc Km K F1 B1 F2 B2 ∧ r1 = r2 := by
  obtain ⟨r1, F1, B1, r2, F2, B2, x1, x2, hI⟩ := p_sound a1 a2 h1 h2 h
  obtain ⟨r, y1, y2⟩ := e_sound a1 a2 h1 h2 h
  exact ⟨r1, F1, B1, r2, F2, B2, x1, x2, hI, (sm3 x1 y1).trans (sm3 x2 y2).symm⟩
theorem q_down {Km : Nat} (a1 : Int) (h1 : r32 a1) {K : zK} {F Fm : zF} {B Bm : zB} (h : IV cc Km K F B Fm Bm) : ∃ r1 F1 B1 r2 F2 B2, f_S_down K 0 a1 F B = some (r1, F1, B1) ∧ f_M_down Km a1 Fm Bm = some (r2, F2, B2) ∧ IV cc Km K F1 B1 F2 B2 ∧ r1 = r2 := by
  obtain ⟨r1, F1, B1, r2, F2, B2, x1, x2, hI⟩ := p_down a1 h1 h
  obtain ⟨r, _, _, _, _, y1, y2⟩ := v_down a1 h1 h
  exact ⟨r1, F1, B1, r2, F2, B2, x1, x2, hI, (sm3 x1 y1).trans (sm3 x2 y2).symm⟩
end

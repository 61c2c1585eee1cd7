/-- law, for the script's loop -/
theorem law_6 {B D B' D' : Int} {σ s1 s2 : mh_H} (h : rl_Z σ) (hI : mh_I B D σ) (hI1 : mh_I B' D' s1) (F0 : mh_F S_eX9_law σ s1) (F1 : mh_F S_eX10_law s1 s2) {p z0 z1 : Int32} (E0 : f_eX9_law σ p = (z0, s1)) (E1 : f_eX10_law s1 p = (z1, s2)) : z0 = z1 ∧ rl_Z s2 := by
  have h2 := (law_Z h hI1 F0 F1 E0 E1).2
  obtain ⟨m, r, hm, hc, hr⟩ := h
  have hr1 : mh_rT m r s1 := rT_c hr (F_at1 F0 (by decide)) (F_row1 F0 (by decide))
  exact ⟨(law_eq hc hr1 (mh_I_p3 hI1) (mh_I_p3 hI).2.1 E0 E1).1, h2⟩

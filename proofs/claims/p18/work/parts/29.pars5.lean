def S_X10_clause : List (Nat × Nat) := [(70, 9999), (71, 9999), (57, 23), (57, 29), (57, 28), (57, 31), (76, 9999), (57, 25), (74, 9999), (75, 9999), (57, 27), (72, 9999), (73, 9999), (57, 26), (57, 30)]
def P_X10_clause (B D : Int) (s0 : mh_H) : mh_H → Prop := fun s => (mh_pw s) ∧ ((s.1 57 25).toInt = 0 → (s.1 57 26).toInt = (s0.1 57 26).toInt + 1 ∧ mh_ls s (s.1 57 26).toInt.toNat (s.1 57 27).toInt) ∧ ((s0.1 57 23).toInt ≤ (s.1 57 23).toInt ∧ ((s.1 57 25).toInt = 0 → (s0.1 57 23).toInt + 1 ≤ (s.1 57 23).toInt)) ∧ mh_I B D s ∧ mh_F S_X10_clause s0 s
set_option maxRecDepth 100000 in
set_option maxHeartbeats 4000000 in
theorem w_X10_clause (l : Launch) (G : mh_G) (d : Nat) {B D : Int} (hB : B ≤ 1860000000 ∧ D ≤ 1860000000) {s0 : mh_H} (hI0 : mh_I B D s0) (hw : mh_pw s0) (hg : (s0.1 57 25).toInt = 0) (hl : mh_ls s0 (s0.1 57 26).toInt.toNat (s0.1 57 27).toInt) : mh_Mv l G (d + 7) mM_X10_clause [.ref (G.2.2.2 57)] s0 (P_X10_clause B D s0) := by
  refine mh_enter (lv := [(0, .ref (G.2.2.2 57))]) (by decide) rfl (Nat.le_of_ble_eq_true rfl) ?_
  have hF0 : mh_F S_X10_clause s0 s0 := mh_F_rf
  obtain ⟨x123, t124⟩ : ∃ z : Int32, z = s0.1 57 23 := ⟨_, rfl⟩
  obtain ⟨x125, t126⟩ : ∃ z : Int32, z = s0.1 57 24 := ⟨_, rfl⟩
  obtain ⟨x127, t128⟩ : ∃ z : Int32, z = s0.1 57 25 := ⟨_, rfl⟩
  obtain ⟨x129, t130⟩ : ∃ z : Int32, z = s0.1 57 27 := ⟨_, rfl⟩
  obtain ⟨x131, t132⟩ : ∃ z : Int32, z = s0.1 57 26 := ⟨_, rfl⟩
  have pw_s0 : 0 ≤ x123.toInt ∧ x123.toInt ≤ x125.toInt ∧ x125.toInt ≤ 200 ∧ 0 ≤ x129.toInt ∧ x129.toInt ≤ x123.toInt ∧ x127.toInt ≤ 0 ∧ 0 ≤ x131.toInt ∧ x131.toInt ≤ 14 := by have h9 := hw; unfold mh_pw at h9; rw [← t124, ← t126, ← t128, ← t130, ← t132] at h9; exact h9
  have r_x123 : mh_r x123 (0) (200) := ⟨by have := ((mh_r_full x123)).1; omega, by have := ((mh_r_full x123)).2; omega⟩
  have r_x125 : mh_r x125 (0) (200) := ⟨by have := ((mh_r_full x125)).1; omega, by have := ((mh_r_full x125)).2; omega⟩
  have r_x127 : mh_r x127 (-2147483648) (0) := ⟨by have := ((mh_r_full x127)).1; omega, by have := ((mh_r_full x127)).2; omega⟩
  have r_x129 : mh_r x129 (0) (200) := ⟨by have := ((mh_r_full x129)).1; omega, by have := ((mh_r_full x129)).2; omega⟩
  have r_x131 : mh_r x131 (0) (14) := ⟨by have := ((mh_r_full x131)).1; omega, by have := ((mh_r_full x131)).2; omega⟩
  rw [← t128] at hg
  rw [← t132, ← t130] at hl
  obtain ⟨b, hbq⟩ : ∃ b : Int, b = x129.toInt := ⟨_, rfl⟩
  have r_x127 : mh_r x127 (0) (0) := ⟨by omega, by omega⟩
  refine mw_aload_n 1 rfl 0 dX10_clause_0 rfl rfl ?_
  refine mw_callVi [] [] 4 rfl dX10_clause_1 ml_X10_214 mc_X10_here mk_X10_here rfl rfl (by decide) (w_X10_here l G (d + 6) ⟨by omega, by omega⟩ hI0 (by rw [← t124, ← t126]; have := (r_x123).1; have := (r_x123).2; have := (r_x125).1; have := (r_x125).2; have := (r_x127).1; have := (r_x127).2; have := (r_x129).1; have := (r_x129).2; have := (r_x131).1; have := (r_x131).2; have := kc_0; have := kc_1; have := kc_4; have := kc_14; omega)) rfl rfl (Nat.le_of_ble_eq_true rfl) (mh_rok (by omega) (by decide)) (fun x133 s134 q135 => ?_)
  obtain ⟨r_x133, e0_s134, rfl⟩ := q135
  have hq_x133 : x133.toInt ≠ 0 → x123.toInt < x125.toInt := fun q => by rw [t124, t126]; exact mh_hr_lt (by rw [← e0_s134]; exact q)
  refine mw_istore_n 5 rfl [(1, .int x133), (0, .ref (G.2.2.2 57))] dX10_clause_4 rfl (by decide) rfl ?_
  refine mw_iload_n 6 rfl 0 dX10_clause_5 rfl rfl ?_
  refine mw_callSi [.int x133] [] 9 rfl dX10_clause_6 ml_X10_284 mc_X10_isClause mk_X10_isClause (w_X10_isClause l G (d + 6) ⟨by omega, by omega⟩ hI0 x133) rfl rfl (Nat.le_of_ble_eq_true rfl) (mh_rok (by omega) (by decide)) (fun x136 s137 q138 => ?_)
  obtain ⟨r_x136, e0_s137, rfl⟩ := q138
  refine mw_if_ne 12 rfl 24 dX10_clause_9 (by decide) (fun c139 => ?_) (fun c139 => ?_)
  · skip
    have hk_x136 := e0_s137 (mh_z1 r_x136 c139)
    have r_x136 : mh_r x136 (1) (1) := mh_ne1 (show x136.toInt ≠ (0 : Int32).toInt from c139) r_x136 rc_0 (1) (1) (by decide)
    refine mw_aload_n 25 rfl 1 dX10_clause_24 rfl rfl ?_
    refine mw_geti 28 rfl dX10_clause_25 gf_X10_287 rfl (fun x140 t141 => ?_)
    obtain rfl : x131 = x140 := t132.trans t141.symm
    refine mw_bipush (v := 14) 30 rfl dX10_clause_28 (by decide) ?_
    refine mw_icmp_ne 33 rfl 42 dX10_clause_30 (by decide) (fun c142 => ?_) (fun c142 => ?_)
    · skip
      have r_x131 : mh_r x131 (0) (13) := mh_ne1 c142 r_x131 rc_14 (0) (13) (by decide)
      refine mw_aload_n 43 rfl 1 dX10_clause_42 rfl rfl ?_
      refine mw_callVi [] [] 46 rfl dX10_clause_43 ml_X10_197 mc_X10_isGood mk_X10_isGood rfl rfl (by decide) (w_X10_isGood l G (d + 6) ⟨by omega, by omega⟩ hI0) rfl rfl (Nat.le_of_ble_eq_true rfl) (mh_rok (by omega) (by decide)) (fun x143 s144 q145 => ?_)
      obtain ⟨r_x143, e0_s144, rfl⟩ := q145
      rw [← t128] at e0_s144
      refine mw_if_ne 49 rfl 50 dX10_clause_46 (by decide) (fun c146 => ?_) (fun c146 => ?_)
      · skip
        have r_x143 : mh_r x143 (1) (1) := mh_ne1 (show x143.toInt ≠ (0 : Int32).toInt from c146) r_x143 rc_0 (1) (1) (by decide)
        refine mw_aload_n 51 rfl 1 dX10_clause_50 rfl rfl ?_
        refine mw_geta 54 rfl dX10_clause_51 gf_X10_51 rfl 70 (mh_rf hI0 67 rfl) ?_
        refine mw_aload_n 55 rfl 1 dX10_clause_54 rfl rfl ?_
        refine mw_geti 58 rfl dX10_clause_55 gf_X10_287 rfl (fun x147 t148 => ?_)
        obtain rfl : x131 = x147 := t132.trans t148.symm
        refine mw_iload_n 59 rfl 0 dX10_clause_58 rfl rfl ?_
        refine mw_iast 60 rfl dX10_clause_59 rfl r_x131 (by decide) (fun s149 t150 => ?_)
        have hI_s149 : mh_I B D s149 := by rw [t150]; exact wr_70 hI0
        have hF_s149 : mh_F S_X10_clause s0 s149 := by rw [t150]; exact mh_F_pI hF0 (mh_si 0 rfl)
        refine mw_aload_n 61 rfl 1 dX10_clause_60 rfl rfl ?_
        refine mw_geta 64 rfl dX10_clause_61 gf_X10_54 rfl 71 (mh_rf hI_s149 68 rfl) ?_
        refine mw_aload_n 65 rfl 1 dX10_clause_64 rfl rfl ?_
        refine mw_geti 68 rfl dX10_clause_65 gf_X10_287 rfl (fun x151 t152 => ?_)
        have t153 : x131 = s149.1 57 26 := by rw [t150]; exact (t132).trans (mh_pI_n (by omega)).symm
        obtain rfl : x131 = x151 := t153.trans t152.symm
        refine mw_aload_n 69 rfl 1 dX10_clause_68 rfl rfl ?_
        refine mw_geti 72 rfl dX10_clause_69 gf_X10_201 rfl (fun x154 t155 => ?_)
        have t156 : x129 = s149.1 57 27 := by rw [t150]; exact (t130).trans (mh_pI_n (by omega)).symm
        obtain rfl : x129 = x154 := t156.trans t155.symm
        refine mw_iast 73 rfl dX10_clause_72 rfl r_x131 (by decide) (fun s157 t158 => ?_)
        have hI_s157 : mh_I B D s157 := by rw [t158]; exact wr_71 hI_s149
        have hF_s157 : mh_F S_X10_clause s0 s157 := by rw [t158]; exact mh_F_pI hF_s149 (mh_si 1 rfl)
        refine mw_aload_n 74 rfl 1 dX10_clause_73 rfl rfl ?_
        refine mw_dup 75 rfl dX10_clause_74 rfl ?_
        refine mw_geti 78 rfl dX10_clause_75 gf_X10_188 rfl (fun x159 t160 => ?_)
        have t161 : x123 = s149.1 57 23 := by rw [t150]; exact (t124).trans (mh_pI_n (by omega)).symm
        have t162 : x123 = s157.1 57 23 := by rw [t158]; exact (t161).trans (mh_pI_n (by omega)).symm
        obtain rfl : x123 = x159 := t162.trans t160.symm
        refine mw_iconst (v := 1) 79 rfl dX10_clause_78 (by decide) ?_
        refine mw_iadd 80 rfl (1) (201) dX10_clause_79 r_x123 rc_1 (by decide) (fun x163 t164 r_x163 => ?_)
        refine mw_puti 83 rfl dX10_clause_80 pf_X10_188 rfl (fun s165 t166 => ?_)
        have hI_s165 : mh_I B D s165 := by rw [t166]; exact wr_57_23 hI_s157
        have hF_s165 : mh_F S_X10_clause s0 s165 := by rw [t166]; exact mh_F_pI hF_s157 (mh_sj 2 rfl)
        refine mw_aload_n 84 rfl 1 dX10_clause_83 rfl rfl ?_
        refine mw_iconst (v := 0) 85 rfl dX10_clause_84 (by decide) ?_
        refine mw_puti 88 rfl dX10_clause_85 pf_X10_204 rfl (fun s167 t168 => ?_)
        have hI_s167 : mh_I B D s167 := by rw [t168]; exact wr_57_29 hI_s165
        have hF_s167 : mh_F S_X10_clause s0 s167 := by rw [t168]; exact mh_F_pI hF_s165 (mh_sj 3 rfl)
        refine mw_aload_n 89 rfl 1 dX10_clause_88 rfl rfl ?_
        refine mw_iconst (v := 0) 90 rfl dX10_clause_89 (by decide) ?_
        refine mw_puti 93 rfl dX10_clause_90 pf_X10_207 rfl (fun s169 t170 => ?_)
        have hI_s169 : mh_I B D s169 := by rw [t170]; exact wr_57_28 hI_s167
        have hF_s169 : mh_F S_X10_clause s0 s169 := by rw [t170]; exact mh_F_pI hF_s167 (mh_sj 4 rfl)
        refine mw_aload_n 94 rfl 1 dX10_clause_93 rfl rfl ?_
        have t171 : x163 = s165.1 57 23 := by rw [t166]; exact mh_pI_s.symm
        have t172 : x163 = s167.1 57 23 := by rw [t168]; exact (t171).trans (mh_pI_n (by omega)).symm
        have t173 : x163 = s169.1 57 23 := by rw [t170]; exact (t172).trans (mh_pI_n (by omega)).symm
        have t174 : x125 = s149.1 57 24 := by rw [t150]; exact (t126).trans (mh_pI_n (by omega)).symm
        have t175 : x125 = s157.1 57 24 := by rw [t158]; exact (t174).trans (mh_pI_n (by omega)).symm
        have t176 : x125 = s165.1 57 24 := by rw [t166]; exact (t175).trans (mh_pI_n (by omega)).symm
        have t177 : x125 = s167.1 57 24 := by rw [t168]; exact (t176).trans (mh_pI_n (by omega)).symm
        have t178 : x125 = s169.1 57 24 := by rw [t170]; exact (t177).trans (mh_pI_n (by omega)).symm
        have t179 : x127 = s149.1 57 25 := by rw [t150]; exact (t128).trans (mh_pI_n (by omega)).symm
        have t180 : x127 = s157.1 57 25 := by rw [t158]; exact (t179).trans (mh_pI_n (by omega)).symm
        have t181 : x127 = s165.1 57 25 := by rw [t166]; exact (t180).trans (mh_pI_n (by omega)).symm
        have t182 : x127 = s167.1 57 25 := by rw [t168]; exact (t181).trans (mh_pI_n (by omega)).symm
        have t183 : x127 = s169.1 57 25 := by rw [t170]; exact (t182).trans (mh_pI_n (by omega)).symm
        have t184 : x129 = s157.1 57 27 := by rw [t158]; exact (t156).trans (mh_pI_n (by omega)).symm
        have t185 : x129 = s165.1 57 27 := by rw [t166]; exact (t184).trans (mh_pI_n (by omega)).symm
        have t186 : x129 = s167.1 57 27 := by rw [t168]; exact (t185).trans (mh_pI_n (by omega)).symm
        have t187 : x129 = s169.1 57 27 := by rw [t170]; exact (t186).trans (mh_pI_n (by omega)).symm
        have t188 : (0) = s167.1 57 29 := by rw [t168]; exact mh_pI_s.symm
        have t189 : (0) = s169.1 57 29 := by rw [t170]; exact (t188).trans (mh_pI_n (by omega)).symm
        refine mw_callVv [] [] 97 rfl dX10_clause_94 ml_X10_263 mc_X10_value mk_X10_value rfl rfl (by decide) (w_X10_value l G (d + 2) ⟨by omega, by omega⟩ hI_s169 b (show mh_pb b s169 by unfold mh_pb; rw [← t173, ← t178, ← t183, ← t187, ← t189]; have := kc_0; have := kc_1; have := (r_x133).1; have := (r_x133).2; have := (r_x123).1; have := (r_x123).2; have := (r_x125).1; have := (r_x125).2; have := (r_x127).1; have := (r_x127).2; have := (r_x129).1; have := (r_x129).2; have := (r_x131).1; have := (r_x131).2; have := (r_x163).1; have := (r_x163).2; have := (rc_0).1; have := (rc_0).2; have := (rc_1).1; have := (rc_1).2; have := kc_0; have := kc_1; have := kc_4; have := kc_14; omega) (fun hg9 => by rw [show (s169.1 57 27).toInt = b by rw [← t187]; omega]; exact mh_pdr_0 (by rw [← t189]; have := (r_x133).1; have := (r_x133).2; have := (r_x123).1; have := (r_x123).2; have := (r_x125).1; have := (r_x125).2; have := (r_x127).1; have := (r_x127).2; have := (r_x129).1; have := (r_x129).2; have := (r_x131).1; have := (r_x131).2; have := (r_x163).1; have := (r_x163).2; have := (rc_0).1; have := (rc_0).2; have := kc_0; have := kc_1; have := kc_4; have := kc_14; have := kc_0; omega)) (by rw [← t183]; have := (r_x133).1; have := (r_x133).2; have := (r_x123).1; have := (r_x123).2; have := (r_x125).1; have := (r_x125).2; have := (r_x127).1; have := (r_x127).2; have := (r_x129).1; have := (r_x129).2; have := (r_x131).1; have := (r_x131).2; have := (r_x163).1; have := (r_x163).2; have := (rc_0).1; have := (rc_0).2; have := kc_0; have := kc_1; have := kc_4; have := kc_14; omega) (fun j hj => absurd hj (by rw [← t189]; have := (r_x133).1; have := (r_x133).2; have := (r_x123).1; have := (r_x123).2; have := (r_x125).1; have := (r_x125).2; have := (r_x127).1; have := (r_x127).2; have := (r_x129).1; have := (r_x129).2; have := (r_x131).1; have := (r_x131).2; have := (r_x163).1; have := (r_x163).2; have := (rc_0).1; have := (rc_0).2; have := kc_0; have := kc_1; have := kc_4; have := kc_14; have := kc_0; omega))) rfl rfl (Nat.le_of_ble_eq_true rfl) (mh_rok (by omega) (by decide)) (fun s191 q192 => ?_)
        obtain ⟨e0_s191, e1_s191, e2_s191, e3_s191, e4_s191, hI_s191, hG_s191⟩ := q192
        have hF_s191 : mh_F S_X10_clause s0 s191 := mh_F_tl hF_s169 hG_s191 (by decide +kernel)
        obtain ⟨x193, t194⟩ : ∃ z : Int32, z = s191.1 57 23 := ⟨_, rfl⟩
        have t195 : x125 = s191.1 57 24 := (t178).trans (hG_s191 57 24 (mh_nsI (by rfl))).1.symm
        obtain ⟨x196, t197⟩ : ∃ z : Int32, z = s191.1 57 25 := ⟨_, rfl⟩
        obtain ⟨x198, t199⟩ : ∃ z : Int32, z = s191.1 57 27 := ⟨_, rfl⟩
        obtain ⟨x200, t201⟩ : ∃ z : Int32, z = s191.1 57 29 := ⟨_, rfl⟩
        have pb_s191 : 0 ≤ x193.toInt ∧ x193.toInt ≤ x125.toInt ∧ x125.toInt ≤ 200 ∧ 0 ≤ x200.toInt ∧ 0 ≤ b ∧ b ≤ x198.toInt ∧ x200.toInt + x198.toInt ≤ x193.toInt ∧ x196.toInt ≤ 0 := by have h9 := e0_s191; unfold mh_pb at h9; rw [← t194, ← t195, ← t197, ← t199, ← t201] at h9; exact h9
        have r_x193 : mh_r x193 (0) (200) := ⟨by have := ((mh_r_full x193)).1; omega, by have := ((mh_r_full x193)).2; omega⟩
        have r_x196 : mh_r x196 (-2147483648) (0) := ⟨by have := ((mh_r_full x196)).1; omega, by have := ((mh_r_full x196)).2; omega⟩
        have r_x198 : mh_r x198 (0) (200) := ⟨by have := ((mh_r_full x198)).1; omega, by have := ((mh_r_full x198)).2; omega⟩
        have r_x200 : mh_r x200 (0) (200) := ⟨by have := ((mh_r_full x200)).1; omega, by have := ((mh_r_full x200)).2; omega⟩
        have hva_s191 := e4_s191
        rw [← t173, ← t194, ← t197] at hva_s191
        have hvb_s191 := e2_s191
        rw [← t189, ← t201, ← t197] at hvb_s191
        refine mw_aload_n 98 rfl 1 dX10_clause_97 rfl rfl ?_
        refine mw_geta 101 rfl dX10_clause_98 gf_X10_57 rfl 72 (mh_rf hI_s191 69 rfl) ?_
        refine mw_aload_n 102 rfl 1 dX10_clause_101 rfl rfl ?_
        refine mw_geti 105 rfl dX10_clause_102 gf_X10_287 rfl (fun x202 t203 => ?_)
        have t204 : x131 = s157.1 57 26 := by rw [t158]; exact (t153).trans (mh_pI_n (by omega)).symm
        have t205 : x131 = s165.1 57 26 := by rw [t166]; exact (t204).trans (mh_pI_n (by omega)).symm
        have t206 : x131 = s167.1 57 26 := by rw [t168]; exact (t205).trans (mh_pI_n (by omega)).symm
        have t207 : x131 = s169.1 57 26 := by rw [t170]; exact (t206).trans (mh_pI_n (by omega)).symm
        have t208 : x131 = s191.1 57 26 := (t207).trans (hG_s191 57 26 (mh_nsI (by rfl))).1.symm
        obtain rfl : x131 = x202 := t208.trans t203.symm
        refine mw_aload_n 106 rfl 1 dX10_clause_105 rfl rfl ?_
        refine mw_geti 109 rfl dX10_clause_106 gf_X10_201 rfl (fun x209 t210 => ?_)
        obtain rfl : x198 = x209 := t199.trans t210.symm
        refine mw_iast 110 rfl dX10_clause_109 rfl r_x131 (by decide) (fun s211 t212 => ?_)
        have hI_s211 : mh_I B D s211 := by rw [t212]; exact wr_72 hI_s191
        have hF_s211 : mh_F S_X10_clause s0 s211 := by rw [t212]; exact mh_F_pI hF_s191 (mh_si 11 rfl)
        refine mw_aload_n 111 rfl 1 dX10_clause_110 rfl rfl ?_
        refine mw_callVi [] [] 114 rfl dX10_clause_111 ml_X10_197 mc_X10_isGood mk_X10_isGood rfl rfl (by decide) (w_X10_isGood l G (d + 6) ⟨by omega, by omega⟩ hI_s211) rfl rfl (Nat.le_of_ble_eq_true rfl) (mh_rok (by omega) (by decide)) (fun x213 s214 q215 => ?_)
        obtain ⟨r_x213, e0_s214, rfl⟩ := q215
        have t216 : x196 = s211.1 57 25 := by rw [t212]; exact (t197).trans (mh_pI_n (by omega)).symm
        rw [← t216] at e0_s214
        refine mw_if_eq 117 rfl 121 dX10_clause_114 (by decide) (fun c217 => ?_) (fun c217 => ?_)
        · skip
          have r_x196 : mh_r x196 (-2147483648) (-1) := ⟨(r_x196).1, by have := (r_x196).2; have : x196.toInt ≠ 0 := (fun q => by have := e0_s214.2 q; have := c217; omega); omega⟩
          have r_x213 : mh_r x213 (0) (0) := mh_eq1 (show x213.toInt = (0 : Int32).toInt from c217) r_x213 rc_0 (0) (0) (by decide)
          refine mw_aload_n 122 rfl 1 dX10_clause_121 rfl rfl ?_
          refine mw_geta 125 rfl dX10_clause_122 gf_X10_60 rfl 73 (mh_rf hI_s211 70 rfl) ?_
          refine mw_aload_n 126 rfl 1 dX10_clause_125 rfl rfl ?_
          refine mw_geti 129 rfl dX10_clause_126 gf_X10_287 rfl (fun x218 t219 => ?_)
          have t220 : x131 = s211.1 57 26 := by rw [t212]; exact (t208).trans (mh_pI_n (by omega)).symm
          obtain rfl : x131 = x218 := t220.trans t219.symm
          refine mw_aload_n 130 rfl 1 dX10_clause_129 rfl rfl ?_
          refine mw_geti 133 rfl dX10_clause_130 gf_X10_201 rfl (fun x221 t222 => ?_)
          have t223 : x198 = s211.1 57 27 := by rw [t212]; exact (t199).trans (mh_pI_n (by omega)).symm
          obtain rfl : x198 = x221 := t223.trans t222.symm
          refine mw_iast 134 rfl dX10_clause_133 rfl r_x131 (by decide) (fun s224 t225 => ?_)
          have hI_s224 : mh_I B D s224 := by rw [t225]; exact wr_73 hI_s211
          have hF_s224 : mh_F S_X10_clause s0 s224 := by rw [t225]; exact mh_F_pI hF_s211 (mh_si 12 rfl)
          refine mw_aload_n 135 rfl 1 dX10_clause_134 rfl rfl ?_
          refine mw_dup 136 rfl dX10_clause_135 rfl ?_
          refine mw_geti 139 rfl dX10_clause_136 gf_X10_287 rfl (fun x226 t227 => ?_)
          have t228 : x131 = s224.1 57 26 := by rw [t225]; exact (t220).trans (mh_pI_n (by omega)).symm
          obtain rfl : x131 = x226 := t228.trans t227.symm
          refine mw_iconst (v := 1) 140 rfl dX10_clause_139 (by decide) ?_
          refine mw_iadd 141 rfl (1) (14) dX10_clause_140 r_x131 rc_1 (by decide) (fun x229 t230 r_x229 => ?_)
          refine mw_puti 144 rfl dX10_clause_141 pf_X10_287 rfl (fun s231 t232 => ?_)
          have hI_s231 : mh_I B D s231 := by rw [t232]; exact wr_57_26 hI_s224
          have hF_s231 : mh_F S_X10_clause s0 s231 := by rw [t232]; exact mh_F_pI hF_s224 (mh_sj 13 rfl)
          refine mw_vret dX10_clause_144 rfl ⟨rfl, ⟨?_, ?_, ?_, hI_s231, hF_s231⟩⟩
          · skip
            have t233 : x193 = s211.1 57 23 := by rw [t212]; exact (t194).trans (mh_pI_n (by omega)).symm
            have t234 : x193 = s224.1 57 23 := by rw [t225]; exact (t233).trans (mh_pI_n (by omega)).symm
            have t235 : x193 = s231.1 57 23 := by rw [t232]; exact (t234).trans (mh_pI_n (by omega)).symm
            have t236 : x125 = s211.1 57 24 := by rw [t212]; exact (t195).trans (mh_pI_n (by omega)).symm
            have t237 : x125 = s224.1 57 24 := by rw [t225]; exact (t236).trans (mh_pI_n (by omega)).symm
            have t238 : x125 = s231.1 57 24 := by rw [t232]; exact (t237).trans (mh_pI_n (by omega)).symm
            have t239 : x196 = s224.1 57 25 := by rw [t225]; exact (t216).trans (mh_pI_n (by omega)).symm
            have t240 : x196 = s231.1 57 25 := by rw [t232]; exact (t239).trans (mh_pI_n (by omega)).symm
            have t241 : x198 = s224.1 57 27 := by rw [t225]; exact (t223).trans (mh_pI_n (by omega)).symm
            have t242 : x198 = s231.1 57 27 := by rw [t232]; exact (t241).trans (mh_pI_n (by omega)).symm
            have t243 : x229 = s231.1 57 26 := by rw [t232]; exact mh_pI_s.symm
            exact (show mh_pw s231 by unfold mh_pw; rw [← t235, ← t238, ← t240, ← t242, ← t243]; have := kc_0; have := kc_1; have := (r_x133).1; have := (r_x133).2; have := (r_x123).1; have := (r_x123).2; have := (r_x125).1; have := (r_x125).2; have := (r_x127).1; have := (r_x127).2; have := (r_x129).1; have := (r_x129).2; have := (r_x131).1; have := (r_x131).2; have := (r_x163).1; have := (r_x163).2; have := (rc_0).1; have := (rc_0).2; have := (r_x193).1; have := (r_x193).2; have := (r_x196).1; have := (r_x196).2; have := (r_x198).1; have := (r_x198).2; have := (r_x200).1; have := (r_x200).2; have := (r_x229).1; have := (r_x229).2; have := (rc_1).1; have := (rc_1).2; have := kc_0; have := kc_1; have := kc_4; have := kc_14; omega)
          · skip
            have t244 : x193 = s211.1 57 23 := by rw [t212]; exact (t194).trans (mh_pI_n (by omega)).symm
            have t245 : x193 = s224.1 57 23 := by rw [t225]; exact (t244).trans (mh_pI_n (by omega)).symm
            have t246 : x193 = s231.1 57 23 := by rw [t232]; exact (t245).trans (mh_pI_n (by omega)).symm
            have t247 : x125 = s211.1 57 24 := by rw [t212]; exact (t195).trans (mh_pI_n (by omega)).symm
            have t248 : x125 = s224.1 57 24 := by rw [t225]; exact (t247).trans (mh_pI_n (by omega)).symm
            have t249 : x125 = s231.1 57 24 := by rw [t232]; exact (t248).trans (mh_pI_n (by omega)).symm
            have t250 : x196 = s224.1 57 25 := by rw [t225]; exact (t216).trans (mh_pI_n (by omega)).symm
            have t251 : x196 = s231.1 57 25 := by rw [t232]; exact (t250).trans (mh_pI_n (by omega)).symm
            have t252 : x198 = s224.1 57 27 := by rw [t225]; exact (t223).trans (mh_pI_n (by omega)).symm
            have t253 : x198 = s231.1 57 27 := by rw [t232]; exact (t252).trans (mh_pI_n (by omega)).symm
            have t254 : x229 = s231.1 57 26 := by rw [t232]; exact mh_pI_s.symm
            have t255 : x200 = s211.1 57 29 := by rw [t212]; exact (t201).trans (mh_pI_n (by omega)).symm
            have t256 : x200 = s224.1 57 29 := by rw [t225]; exact (t255).trans (mh_pI_n (by omega)).symm
            have t257 : x200 = s231.1 57 29 := by rw [t232]; exact (t256).trans (mh_pI_n (by omega)).symm
            intro hg9
            exfalso
            have := congrArg Int32.toInt t124
            have := congrArg Int32.toInt t126
            have := congrArg Int32.toInt t128
            have := congrArg Int32.toInt t130
            have := congrArg Int32.toInt t132
            have := congrArg Int32.toInt t153
            have := congrArg Int32.toInt t156
            have := congrArg Int32.toInt t162
            have := congrArg Int32.toInt t173
            have := congrArg Int32.toInt t178
            have := congrArg Int32.toInt t183
            have := congrArg Int32.toInt t187
            have := congrArg Int32.toInt t189
            have := congrArg Int32.toInt t194
            have := congrArg Int32.toInt t195
            have := congrArg Int32.toInt t197
            have := congrArg Int32.toInt t199
            have := congrArg Int32.toInt t201
            have := congrArg Int32.toInt t208
            have := congrArg Int32.toInt t216
            have := congrArg Int32.toInt t220
            have := congrArg Int32.toInt t223
            have := congrArg Int32.toInt t228
            have := congrArg Int32.toInt t246
            have := congrArg Int32.toInt t249
            have := congrArg Int32.toInt t251
            have := congrArg Int32.toInt t253
            have := congrArg Int32.toInt t254
            have := congrArg Int32.toInt t257
            have := (r_x133).1; have := (r_x133).2
            have := (r_x123).1; have := (r_x123).2
            have := (r_x125).1; have := (r_x125).2
            have := (r_x127).1; have := (r_x127).2
            have := (r_x129).1; have := (r_x129).2
            have := (r_x131).1; have := (r_x131).2
            have := (r_x163).1; have := (r_x163).2
            have := (rc_0).1; have := (rc_0).2
            have := (r_x193).1; have := (r_x193).2
            have := (r_x196).1; have := (r_x196).2
            have := (r_x198).1; have := (r_x198).2
            have := (r_x200).1; have := (r_x200).2
            have := (r_x229).1; have := (r_x229).2
            have := (rc_1).1; have := (rc_1).2
            have := kc_0
            have := kc_1
            have := kc_4
            have := kc_14
            omega
          · skip
            have t258 : x193 = s211.1 57 23 := by rw [t212]; exact (t194).trans (mh_pI_n (by omega)).symm
            have t259 : x193 = s224.1 57 23 := by rw [t225]; exact (t258).trans (mh_pI_n (by omega)).symm
            have t260 : x193 = s231.1 57 23 := by rw [t232]; exact (t259).trans (mh_pI_n (by omega)).symm
            have t261 : x125 = s211.1 57 24 := by rw [t212]; exact (t195).trans (mh_pI_n (by omega)).symm
            have t262 : x125 = s224.1 57 24 := by rw [t225]; exact (t261).trans (mh_pI_n (by omega)).symm
            have t263 : x125 = s231.1 57 24 := by rw [t232]; exact (t262).trans (mh_pI_n (by omega)).symm
            have t264 : x196 = s224.1 57 25 := by rw [t225]; exact (t216).trans (mh_pI_n (by omega)).symm
            have t265 : x196 = s231.1 57 25 := by rw [t232]; exact (t264).trans (mh_pI_n (by omega)).symm
            have t266 : x198 = s224.1 57 27 := by rw [t225]; exact (t223).trans (mh_pI_n (by omega)).symm
            have t267 : x198 = s231.1 57 27 := by rw [t232]; exact (t266).trans (mh_pI_n (by omega)).symm
            have t268 : x229 = s231.1 57 26 := by rw [t232]; exact mh_pI_s.symm
            have t269 : x200 = s211.1 57 29 := by rw [t212]; exact (t201).trans (mh_pI_n (by omega)).symm
            have t270 : x200 = s224.1 57 29 := by rw [t225]; exact (t269).trans (mh_pI_n (by omega)).symm
            have t271 : x200 = s231.1 57 29 := by rw [t232]; exact (t270).trans (mh_pI_n (by omega)).symm
            have := congrArg Int32.toInt t124
            have := congrArg Int32.toInt t126
            have := congrArg Int32.toInt t128
            have := congrArg Int32.toInt t130
            have := congrArg Int32.toInt t132
            have := congrArg Int32.toInt t153
            have := congrArg Int32.toInt t156
            have := congrArg Int32.toInt t162
            have := congrArg Int32.toInt t173
            have := congrArg Int32.toInt t178
            have := congrArg Int32.toInt t183
            have := congrArg Int32.toInt t187
            have := congrArg Int32.toInt t189
            have := congrArg Int32.toInt t194
            have := congrArg Int32.toInt t195
            have := congrArg Int32.toInt t197
            have := congrArg Int32.toInt t199
            have := congrArg Int32.toInt t201
            have := congrArg Int32.toInt t208
            have := congrArg Int32.toInt t216
            have := congrArg Int32.toInt t220
            have := congrArg Int32.toInt t223
            have := congrArg Int32.toInt t228
            have := congrArg Int32.toInt t260
            have := congrArg Int32.toInt t263
            have := congrArg Int32.toInt t265
            have := congrArg Int32.toInt t267
            have := congrArg Int32.toInt t268
            have := congrArg Int32.toInt t271
            have := (r_x133).1; have := (r_x133).2
            have := (r_x123).1; have := (r_x123).2
            have := (r_x125).1; have := (r_x125).2
            have := (r_x127).1; have := (r_x127).2
            have := (r_x129).1; have := (r_x129).2
            have := (r_x131).1; have := (r_x131).2
            have := (r_x163).1; have := (r_x163).2
            have := (rc_0).1; have := (rc_0).2
            have := (r_x193).1; have := (r_x193).2
            have := (r_x196).1; have := (r_x196).2
            have := (r_x198).1; have := (r_x198).2
            have := (r_x200).1; have := (r_x200).2
            have := (r_x229).1; have := (r_x229).2
            have := (rc_1).1; have := (rc_1).2
            have := kc_0
            have := kc_1
            have := kc_4
            have := kc_14
            omega
        · skip
          have r_x196 : mh_r x196 (0) (0) := ⟨by have := e0_s214.1 (mh_z1 r_x213 c217); omega, by have := e0_s214.1 (mh_z1 r_x213 c217); omega⟩
          have r_x213 : mh_r x213 (1) (1) := mh_ne1 (show x213.toInt ≠ (0 : Int32).toInt from c217) r_x213 rc_0 (1) (1) (by decide)
          have t272 : x198 = s211.1 57 27 := by rw [t212]; exact (t199).trans (mh_pI_n (by omega)).symm
          obtain ⟨b2, hb2⟩ : ∃ b : Int, b = x198.toInt := ⟨_, rfl⟩
          refine mw_aload_n 118 rfl 1 dX10_clause_117 rfl rfl ?_
          have t273 : x193 = s211.1 57 23 := by rw [t212]; exact (t194).trans (mh_pI_n (by omega)).symm
          have t274 : x125 = s211.1 57 24 := by rw [t212]; exact (t195).trans (mh_pI_n (by omega)).symm
          have t275 : x200 = s211.1 57 29 := by rw [t212]; exact (t201).trans (mh_pI_n (by omega)).symm
          have hv29 := (hvb_s191 (by have := (r_x133).1; have := (r_x133).2; have := (r_x123).1; have := (r_x123).2; have := (r_x125).1; have := (r_x125).2; have := (r_x127).1; have := (r_x127).2; have := (r_x129).1; have := (r_x129).2; have := (r_x131).1; have := (r_x131).2; have := (r_x163).1; have := (r_x163).2; have := (rc_0).1; have := (rc_0).2; have := (r_x193).1; have := (r_x193).2; have := (r_x196).1; have := (r_x196).2; have := (r_x198).1; have := (r_x198).2; have := (r_x200).1; have := (r_x200).2; have := kc_0; have := kc_1; have := kc_4; have := kc_14; omega)).1
          refine mw_callVv [] [] 121 rfl dX10_clause_118 ml_X10_290 mc_X10_condition mk_X10_condition rfl rfl (by decide) (w_X10_condition l G (d + 0) ⟨by omega, by omega⟩ hI_s211 b2 (show mh_pb b2 s211 by unfold mh_pb; rw [← t273, ← t274, ← t216, ← t272, ← t275]; have := kc_0; have := kc_1; have := (r_x133).1; have := (r_x133).2; have := (r_x123).1; have := (r_x123).2; have := (r_x125).1; have := (r_x125).2; have := (r_x127).1; have := (r_x127).2; have := (r_x129).1; have := (r_x129).2; have := (r_x131).1; have := (r_x131).2; have := (r_x163).1; have := (r_x163).2; have := (rc_0).1; have := (rc_0).2; have := (r_x193).1; have := (r_x193).2; have := (r_x196).1; have := (r_x196).2; have := (r_x198).1; have := (r_x198).2; have := (r_x200).1; have := (r_x200).2; have := kc_0; have := kc_1; have := kc_4; have := kc_14; omega) (fun hg9 => by rw [show (s211.1 57 27).toInt = b2 by rw [← t272]; omega]; exact mh_pdr_0 (by rw [← t275]; have := (r_x133).1; have := (r_x133).2; have := (r_x123).1; have := (r_x123).2; have := (r_x125).1; have := (r_x125).2; have := (r_x127).1; have := (r_x127).2; have := (r_x129).1; have := (r_x129).2; have := (r_x131).1; have := (r_x131).2; have := (r_x163).1; have := (r_x163).2; have := (rc_0).1; have := (rc_0).2; have := (r_x193).1; have := (r_x193).2; have := (r_x196).1; have := (r_x196).2; have := (r_x198).1; have := (r_x198).2; have := (r_x200).1; have := (r_x200).2; have := kc_0; have := kc_1; have := kc_4; have := kc_14; have := kc_0; omega)) (by rw [← t216]; have := (r_x133).1; have := (r_x133).2; have := (r_x123).1; have := (r_x123).2; have := (r_x125).1; have := (r_x125).2; have := (r_x127).1; have := (r_x127).2; have := (r_x129).1; have := (r_x129).2; have := (r_x131).1; have := (r_x131).2; have := (r_x163).1; have := (r_x163).2; have := (rc_0).1; have := (rc_0).2; have := (r_x193).1; have := (r_x193).2; have := (r_x196).1; have := (r_x196).2; have := (r_x198).1; have := (r_x198).2; have := (r_x200).1; have := (r_x200).2; have := kc_0; have := kc_1; have := kc_4; have := kc_14; have := kc_0; omega) (by rw [← t275]; have := (r_x133).1; have := (r_x133).2; have := (r_x123).1; have := (r_x123).2; have := (r_x125).1; have := (r_x125).2; have := (r_x127).1; have := (r_x127).2; have := (r_x129).1; have := (r_x129).2; have := (r_x131).1; have := (r_x131).2; have := (r_x163).1; have := (r_x163).2; have := (rc_0).1; have := (rc_0).2; have := (r_x193).1; have := (r_x193).2; have := (r_x196).1; have := (r_x196).2; have := (r_x198).1; have := (r_x198).2; have := (r_x200).1; have := (r_x200).2; have := kc_0; have := kc_1; have := kc_4; have := kc_14; have := kc_0; omega)) rfl rfl (Nat.le_of_ble_eq_true rfl) (mh_rok (by omega) (by decide)) (fun s277 q278 => ?_)
          obtain ⟨e0_s277, e1_s277, e2_s277, e3_s277, hI_s277, hG_s277⟩ := q278
          have hF_s277 : mh_F S_X10_clause s0 s277 := mh_F_tl hF_s211 hG_s277 (by decide +kernel)
          obtain ⟨x279, t280⟩ : ∃ z : Int32, z = s277.1 57 23 := ⟨_, rfl⟩
          have t281 : x125 = s277.1 57 24 := (t274).trans (hG_s277 57 24 (mh_nsI (by rfl))).1.symm
          obtain ⟨x282, t283⟩ : ∃ z : Int32, z = s277.1 57 25 := ⟨_, rfl⟩
          obtain ⟨x284, t285⟩ : ∃ z : Int32, z = s277.1 57 27 := ⟨_, rfl⟩
          obtain ⟨x286, t287⟩ : ∃ z : Int32, z = s277.1 57 29 := ⟨_, rfl⟩
          have pb_s277 : 0 ≤ x279.toInt ∧ x279.toInt ≤ x125.toInt ∧ x125.toInt ≤ 200 ∧ 0 ≤ x286.toInt ∧ 0 ≤ b2 ∧ b2 ≤ x284.toInt ∧ x286.toInt + x284.toInt ≤ x279.toInt ∧ x282.toInt ≤ 0 := by have h9 := e0_s277; unfold mh_pb at h9; rw [← t280, ← t281, ← t283, ← t285, ← t287] at h9; exact h9
          have r_x279 : mh_r x279 (0) (200) := ⟨by have := ((mh_r_full x279)).1; omega, by have := ((mh_r_full x279)).2; omega⟩
          have r_x282 : mh_r x282 (-2147483648) (0) := ⟨by have := ((mh_r_full x282)).1; omega, by have := ((mh_r_full x282)).2; omega⟩
          have r_x284 : mh_r x284 (0) (200) := ⟨by have := ((mh_r_full x284)).1; omega, by have := ((mh_r_full x284)).2; omega⟩
          have r_x286 : mh_r x286 (0) (200) := ⟨by have := ((mh_r_full x286)).1; omega, by have := ((mh_r_full x286)).2; omega⟩
          have hco3 := e3_s277
          rw [← t273, ← t280] at hco3
          refine mw_aload_n 122 rfl 1 dX10_clause_121 rfl rfl ?_
          refine mw_geta 125 rfl dX10_clause_122 gf_X10_60 rfl 73 (mh_rf hI_s277 70 rfl) ?_
          refine mw_aload_n 126 rfl 1 dX10_clause_125 rfl rfl ?_
          refine mw_geti 129 rfl dX10_clause_126 gf_X10_287 rfl (fun x288 t289 => ?_)
          have t290 : x131 = s211.1 57 26 := by rw [t212]; exact (t208).trans (mh_pI_n (by omega)).symm
          have t291 : x131 = s277.1 57 26 := (t290).trans (hG_s277 57 26 (mh_nsI (by rfl))).1.symm
          obtain rfl : x131 = x288 := t291.trans t289.symm
          refine mw_aload_n 130 rfl 1 dX10_clause_129 rfl rfl ?_
          refine mw_geti 133 rfl dX10_clause_130 gf_X10_201 rfl (fun x292 t293 => ?_)
          obtain rfl : x284 = x292 := t285.trans t293.symm
          refine mw_iast 134 rfl dX10_clause_133 rfl r_x131 (by decide) (fun s294 t295 => ?_)
          have hI_s294 : mh_I B D s294 := by rw [t295]; exact wr_73 hI_s277
          have hF_s294 : mh_F S_X10_clause s0 s294 := by rw [t295]; exact mh_F_pI hF_s277 (mh_si 12 rfl)
          refine mw_aload_n 135 rfl 1 dX10_clause_134 rfl rfl ?_
          refine mw_dup 136 rfl dX10_clause_135 rfl ?_
          refine mw_geti 139 rfl dX10_clause_136 gf_X10_287 rfl (fun x296 t297 => ?_)
          have t298 : x131 = s294.1 57 26 := by rw [t295]; exact (t291).trans (mh_pI_n (by omega)).symm
          obtain rfl : x131 = x296 := t298.trans t297.symm
          refine mw_iconst (v := 1) 140 rfl dX10_clause_139 (by decide) ?_
          refine mw_iadd 141 rfl (1) (14) dX10_clause_140 r_x131 rc_1 (by decide) (fun x299 t300 r_x299 => ?_)
          refine mw_puti 144 rfl dX10_clause_141 pf_X10_287 rfl (fun s301 t302 => ?_)
          have hI_s301 : mh_I B D s301 := by rw [t302]; exact wr_57_26 hI_s294
          have hF_s301 : mh_F S_X10_clause s0 s301 := by rw [t302]; exact mh_F_pI hF_s294 (mh_sj 13 rfl)
          refine mw_vret dX10_clause_144 rfl ⟨rfl, ⟨?_, ?_, ?_, hI_s301, hF_s301⟩⟩
          · skip
            have t303 : x279 = s294.1 57 23 := by rw [t295]; exact (t280).trans (mh_pI_n (by omega)).symm
            have t304 : x279 = s301.1 57 23 := by rw [t302]; exact (t303).trans (mh_pI_n (by omega)).symm
            have t305 : x125 = s294.1 57 24 := by rw [t295]; exact (t281).trans (mh_pI_n (by omega)).symm
            have t306 : x125 = s301.1 57 24 := by rw [t302]; exact (t305).trans (mh_pI_n (by omega)).symm
            have t307 : x282 = s294.1 57 25 := by rw [t295]; exact (t283).trans (mh_pI_n (by omega)).symm
            have t308 : x282 = s301.1 57 25 := by rw [t302]; exact (t307).trans (mh_pI_n (by omega)).symm
            have t309 : x284 = s294.1 57 27 := by rw [t295]; exact (t285).trans (mh_pI_n (by omega)).symm
            have t310 : x284 = s301.1 57 27 := by rw [t302]; exact (t309).trans (mh_pI_n (by omega)).symm
            have t311 : x299 = s301.1 57 26 := by rw [t302]; exact mh_pI_s.symm
            exact (show mh_pw s301 by unfold mh_pw; rw [← t304, ← t306, ← t308, ← t310, ← t311]; have := kc_0; have := kc_1; have := (r_x133).1; have := (r_x133).2; have := (r_x123).1; have := (r_x123).2; have := (r_x125).1; have := (r_x125).2; have := (r_x127).1; have := (r_x127).2; have := (r_x129).1; have := (r_x129).2; have := (r_x131).1; have := (r_x131).2; have := (r_x163).1; have := (r_x163).2; have := (rc_0).1; have := (rc_0).2; have := (r_x193).1; have := (r_x193).2; have := (r_x196).1; have := (r_x196).2; have := (r_x198).1; have := (r_x198).2; have := (r_x200).1; have := (r_x200).2; have := (r_x279).1; have := (r_x279).2; have := (r_x282).1; have := (r_x282).2; have := (r_x284).1; have := (r_x284).2; have := (r_x286).1; have := (r_x286).2; have := (r_x299).1; have := (r_x299).2; have := (rc_1).1; have := (rc_1).2; have := kc_0; have := kc_1; have := kc_4; have := kc_14; omega)
          · skip
            have t312 : x279 = s294.1 57 23 := by rw [t295]; exact (t280).trans (mh_pI_n (by omega)).symm
            have t313 : x279 = s301.1 57 23 := by rw [t302]; exact (t312).trans (mh_pI_n (by omega)).symm
            have t314 : x125 = s294.1 57 24 := by rw [t295]; exact (t281).trans (mh_pI_n (by omega)).symm
            have t315 : x125 = s301.1 57 24 := by rw [t302]; exact (t314).trans (mh_pI_n (by omega)).symm
            have t316 : x282 = s294.1 57 25 := by rw [t295]; exact (t283).trans (mh_pI_n (by omega)).symm
            have t317 : x282 = s301.1 57 25 := by rw [t302]; exact (t316).trans (mh_pI_n (by omega)).symm
            have t318 : x284 = s294.1 57 27 := by rw [t295]; exact (t285).trans (mh_pI_n (by omega)).symm
            have t319 : x284 = s301.1 57 27 := by rw [t302]; exact (t318).trans (mh_pI_n (by omega)).symm
            have t320 : x299 = s301.1 57 26 := by rw [t302]; exact mh_pI_s.symm
            have t321 : x286 = s294.1 57 29 := by rw [t295]; exact (t287).trans (mh_pI_n (by omega)).symm
            have t322 : x286 = s301.1 57 29 := by rw [t302]; exact (t321).trans (mh_pI_n (by omega)).symm
            intro hg9
            have := congrArg Int32.toInt t124
            have := congrArg Int32.toInt t126
            have := congrArg Int32.toInt t128
            have := congrArg Int32.toInt t130
            have := congrArg Int32.toInt t132
            have := congrArg Int32.toInt t153
            have := congrArg Int32.toInt t156
            have := congrArg Int32.toInt t162
            have := congrArg Int32.toInt t173
            have := congrArg Int32.toInt t178
            have := congrArg Int32.toInt t183
            have := congrArg Int32.toInt t187
            have := congrArg Int32.toInt t189
            have := congrArg Int32.toInt t194
            have := congrArg Int32.toInt t195
            have := congrArg Int32.toInt t197
            have := congrArg Int32.toInt t199
            have := congrArg Int32.toInt t201
            have := congrArg Int32.toInt t208
            have := congrArg Int32.toInt t216
            have := congrArg Int32.toInt t272
            have := congrArg Int32.toInt t273
            have := congrArg Int32.toInt t274
            have := congrArg Int32.toInt t275
            have := congrArg Int32.toInt t280
            have := congrArg Int32.toInt t281
            have := congrArg Int32.toInt t283
            have := congrArg Int32.toInt t285
            have := congrArg Int32.toInt t287
            have := congrArg Int32.toInt t291
            have := congrArg Int32.toInt t298
            have := congrArg Int32.toInt t313
            have := congrArg Int32.toInt t315
            have := congrArg Int32.toInt t317
            have := congrArg Int32.toInt t319
            have := congrArg Int32.toInt t320
            have := congrArg Int32.toInt t322
            have := (r_x133).1; have := (r_x133).2
            have := (r_x123).1; have := (r_x123).2
            have := (r_x125).1; have := (r_x125).2
            have := (r_x127).1; have := (r_x127).2
            have := (r_x129).1; have := (r_x129).2
            have := (r_x131).1; have := (r_x131).2
            have := (r_x163).1; have := (r_x163).2
            have := (rc_0).1; have := (rc_0).2
            have := (r_x193).1; have := (r_x193).2
            have := (r_x196).1; have := (r_x196).2
            have := (r_x198).1; have := (r_x198).2
            have := (r_x200).1; have := (r_x200).2
            have := (r_x279).1; have := (r_x279).2
            have := (r_x282).1; have := (r_x282).2
            have := (r_x284).1; have := (r_x284).2
            have := (r_x286).1; have := (r_x286).2
            have := (r_x299).1; have := (r_x299).2
            have := (rc_1).1; have := (rc_1).2
            have := kc_0
            have := kc_1
            have := kc_4
            have := kc_14
            have hc2 := e2_s277 (by rw [← t283]; omega)
            have hd2 := mh_pd_1 hc2.2 (by rw [← t283]; omega) hc2.1
            rw [← t285] at hd2
            have hd1 := mh_pd_1 e3_s191 (by rw [← t197]; omega) (by rw [← t201]; have := kc_0; omega)
            rw [← t199] at hd1
            have e71 : s301.1 71 = (mh_u1 (s0.1 71) x131.toNatClampNeg x129) := by rw [t302, mh_row_n (by decide), t295, mh_row_n (by decide), mh_F_row hG_s277 71 rfl, t212, mh_row_n (by decide), mh_F_row hG_s191 71 rfl, t170, mh_row_n (by decide), t168, mh_row_n (by decide), t166, mh_row_n (by decide), t158, mh_row_s, t150, mh_row_n (by decide)]
            have e72 : s301.1 72 = (mh_u1 (s0.1 72) x131.toNatClampNeg x198) := by rw [t302, mh_row_n (by decide), t295, mh_row_n (by decide), mh_F_row hG_s277 72 rfl, t212, mh_row_s, mh_F_row hG_s191 72 rfl, t170, mh_row_n (by decide), t168, mh_row_n (by decide), t166, mh_row_n (by decide), t158, mh_row_n (by decide), t150, mh_row_n (by decide)]
            have e73 : s301.1 73 = (mh_u1 (s0.1 73) x131.toNatClampNeg x284) := by rw [t302, mh_row_n (by decide), t295, mh_row_s, mh_F_row hG_s277 73 rfl, t212, mh_row_n (by decide), mh_F_row hG_s191 73 rfl, t170, mh_row_n (by decide), t168, mh_row_n (by decide), t166, mh_row_n (by decide), t158, mh_row_n (by decide), t150, mh_row_n (by decide)]
            have h74 : s301.1 74 = s277.1 74 := ((by rw [t302]; exact mh_row_n (by decide) : s301.1 74 = s294.1 74)).trans (by rw [t295]; exact mh_row_n (by decide) : s294.1 74 = s277.1 74)
            have hk74 : ∀ j : Nat, (j : Int) < b2 → s301.1 74 j = s191.1 74 j := fun j hj => by rw [h74, e1_s277 j hj, show s211.1 74 = s191.1 74 from (by rw [t212]; exact mh_row_n (by decide) : s211.1 74 = s191.1 74)]
            have hst : (s301.1 57 26).toInt.toNat = x131.toInt.toNat + 1 := by rw [← t320]; omega
            have hcd : (s301.1 57 27).toInt = x284.toInt := by rw [← t319]
            refine ⟨by omega, ?_⟩
            rw [hst, hcd]
            have hk : x131.toNatClampNeg = x131.toInt.toNat := rfl
            refine mh_ls_step (b := b) (b2 := b2) (by rw [hbq]; exact hl) ?_ ?_ ?_ ?_ ?_ ?_ ?_ ?_ ?_ ⟨by omega, by omega, by omega, by omega⟩
            · intro j hj; rw [hk74 j (by omega), e1_s191 j hj, show s169.1 74 = s0.1 74 from (((((by rw [t170]; exact mh_row_n (by decide) : s169.1 74 = s167.1 74)).trans (by rw [t168]; exact mh_row_n (by decide) : s167.1 74 = s165.1 74)).trans (by rw [t166]; exact mh_row_n (by decide) : s165.1 74 = s157.1 74)).trans (by rw [t158]; exact mh_row_n (by decide) : s157.1 74 = s149.1 74)).trans (by rw [t150]; exact mh_row_n (by decide) : s149.1 74 = s0.1 74)]
            · intro c hc; rw [e71]; exact mh_u1_lt (by omega)
            · intro c hc; rw [e72]; exact mh_u1_lt (by omega)
            · intro c hc; rw [e73]; exact mh_u1_lt (by omega)
            · rw [e71, hk]
              rw [show mh_u1 _ x131.toInt.toNat _ x131.toInt.toNat = _ from if_pos rfl]
              first | done | exact hbq.symm
            · rw [e72, hk]
              rw [show mh_u1 _ x131.toInt.toNat _ x131.toInt.toNat = _ from if_pos rfl]
              first | done | exact hb2.symm
            · rw [e73, hk]
              rw [show mh_u1 _ x131.toInt.toNat _ x131.toInt.toNat = _ from if_pos rfl]
              first | done | exact rfl
            · rw [mh_dps_c (f := s191.1 74) (fun j h1 h2 => hk74 j (by omega)), hb2]
              exact hd1
            · rw [h74]
              exact hd2
          · skip
            have t323 : x279 = s294.1 57 23 := by rw [t295]; exact (t280).trans (mh_pI_n (by omega)).symm
            have t324 : x279 = s301.1 57 23 := by rw [t302]; exact (t323).trans (mh_pI_n (by omega)).symm
            have t325 : x125 = s294.1 57 24 := by rw [t295]; exact (t281).trans (mh_pI_n (by omega)).symm
            have t326 : x125 = s301.1 57 24 := by rw [t302]; exact (t325).trans (mh_pI_n (by omega)).symm
            have t327 : x282 = s294.1 57 25 := by rw [t295]; exact (t283).trans (mh_pI_n (by omega)).symm
            have t328 : x282 = s301.1 57 25 := by rw [t302]; exact (t327).trans (mh_pI_n (by omega)).symm
            have t329 : x284 = s294.1 57 27 := by rw [t295]; exact (t285).trans (mh_pI_n (by omega)).symm
            have t330 : x284 = s301.1 57 27 := by rw [t302]; exact (t329).trans (mh_pI_n (by omega)).symm
            have t331 : x299 = s301.1 57 26 := by rw [t302]; exact mh_pI_s.symm
            have t332 : x286 = s294.1 57 29 := by rw [t295]; exact (t287).trans (mh_pI_n (by omega)).symm
            have t333 : x286 = s301.1 57 29 := by rw [t302]; exact (t332).trans (mh_pI_n (by omega)).symm
            have := congrArg Int32.toInt t124
            have := congrArg Int32.toInt t126
            have := congrArg Int32.toInt t128
            have := congrArg Int32.toInt t130
            have := congrArg Int32.toInt t132
            have := congrArg Int32.toInt t153
            have := congrArg Int32.toInt t156
            have := congrArg Int32.toInt t162
            have := congrArg Int32.toInt t173
            have := congrArg Int32.toInt t178
            have := congrArg Int32.toInt t183
            have := congrArg Int32.toInt t187
            have := congrArg Int32.toInt t189
            have := congrArg Int32.toInt t194
            have := congrArg Int32.toInt t195
            have := congrArg Int32.toInt t197
            have := congrArg Int32.toInt t199
            have := congrArg Int32.toInt t201
            have := congrArg Int32.toInt t208
            have := congrArg Int32.toInt t216
            have := congrArg Int32.toInt t272
            have := congrArg Int32.toInt t273
            have := congrArg Int32.toInt t274
            have := congrArg Int32.toInt t275
            have := congrArg Int32.toInt t280
            have := congrArg Int32.toInt t281
            have := congrArg Int32.toInt t283
            have := congrArg Int32.toInt t285
            have := congrArg Int32.toInt t287
            have := congrArg Int32.toInt t291
            have := congrArg Int32.toInt t298
            have := congrArg Int32.toInt t324
            have := congrArg Int32.toInt t326
            have := congrArg Int32.toInt t328
            have := congrArg Int32.toInt t330
            have := congrArg Int32.toInt t331
            have := congrArg Int32.toInt t333
            have := (r_x133).1; have := (r_x133).2
            have := (r_x123).1; have := (r_x123).2
            have := (r_x125).1; have := (r_x125).2
            have := (r_x127).1; have := (r_x127).2
            have := (r_x129).1; have := (r_x129).2
            have := (r_x131).1; have := (r_x131).2
            have := (r_x163).1; have := (r_x163).2
            have := (rc_0).1; have := (rc_0).2
            have := (r_x193).1; have := (r_x193).2
            have := (r_x196).1; have := (r_x196).2
            have := (r_x198).1; have := (r_x198).2
            have := (r_x200).1; have := (r_x200).2
            have := (r_x279).1; have := (r_x279).2
            have := (r_x282).1; have := (r_x282).2
            have := (r_x284).1; have := (r_x284).2
            have := (r_x286).1; have := (r_x286).2
            have := (r_x299).1; have := (r_x299).2
            have := (rc_1).1; have := (rc_1).2
            have := kc_0
            have := kc_1
            have := kc_4
            have := kc_14
            omega
      · skip
        exact absurd (e0_s144.2 (by have := (r_x127).1; have := (r_x127).2; omega)) (by have := c146; omega)
    · skip
      have r_x131 : mh_r x131 (14) (14) := mh_eq1 c142 r_x131 rc_14 (14) (14) (by decide)
      refine mw_aload_n 34 rfl 1 dX10_clause_33 rfl rfl ?_
      refine mw_iconst (v := 4) 35 rfl dX10_clause_34 (by decide) ?_
      refine mw_aload_n 36 rfl 1 dX10_clause_35 rfl rfl ?_
      refine mw_geti 39 rfl dX10_clause_36 gf_X10_188 rfl (fun x334 t335 => ?_)
      obtain rfl : x123 = x334 := t124.trans t335.symm
      refine mw_callVv [.int (4), .int x123] [] 42 rfl dX10_clause_39 ml_X10_210 mc_X10_wrongs mk_X10_wrongs rfl rfl (by decide) (w_X10_wrongs l G (d + 6) ⟨by omega, by omega⟩ hI0 (4) (mh_r_wk rc_4 (by decide)) x123 r_x123 (by rw [← t128]; have := (r_x133).1; have := (r_x133).2; have := (r_x123).1; have := (r_x123).2; have := (r_x125).1; have := (r_x125).2; have := (r_x127).1; have := (r_x127).2; have := (r_x129).1; have := (r_x129).2; have := (r_x131).1; have := (r_x131).2; have := kc_0; have := kc_1; have := kc_4; have := kc_14; omega)) rfl rfl (Nat.le_of_ble_eq_true rfl) (mh_rok (by omega) (by decide)) (fun s337 q338 => ?_)
      obtain ⟨e0_s337, hI_s337, hG_s337⟩ := q338
      have hF_s337 : mh_F S_X10_clause s0 s337 := mh_F_tl hF0 hG_s337 (by decide +kernel)
      obtain ⟨x339, t340⟩ : ∃ z : Int32, z = s337.1 57 25 := ⟨_, rfl⟩
      have hw_s337 : x339.toInt < 0 := by rw [t340]; exact e0_s337
      have r_x339 : mh_r x339 (-2147483648) (-1) := ⟨((mh_r_full x339)).1, by have := hw_s337; omega⟩
      refine mw_aload_n 43 rfl 1 dX10_clause_42 rfl rfl ?_
      refine mw_callVi [] [] 46 rfl dX10_clause_43 ml_X10_197 mc_X10_isGood mk_X10_isGood rfl rfl (by decide) (w_X10_isGood l G (d + 6) ⟨by omega, by omega⟩ hI_s337) rfl rfl (Nat.le_of_ble_eq_true rfl) (mh_rok (by omega) (by decide)) (fun x341 s342 q343 => ?_)
      obtain ⟨r_x341, e0_s342, rfl⟩ := q343
      rw [← t340] at e0_s342
      refine mw_if_ne 49 rfl 50 dX10_clause_46 (by decide) (fun c344 => ?_) (fun c344 => ?_)
      · skip
        exact absurd (e0_s342.1 (mh_z1 r_x341 c344)) (by have := (r_x339).2; omega)
      · skip
        have r_x341 : mh_r x341 (0) (0) := mh_eq1 (show x341.toInt = (0 : Int32).toInt from c344) r_x341 rc_0 (0) (0) (by decide)
        refine mw_vret dX10_clause_49 rfl ⟨rfl, ⟨?_, ?_, ?_, hI_s337, hF_s337⟩⟩
        · skip
          have t345 : x123 = s337.1 57 23 := (t124).trans (hG_s337 57 23 (mh_nsI (by rfl))).1.symm
          have t346 : x125 = s337.1 57 24 := (t126).trans (hG_s337 57 24 (mh_nsI (by rfl))).1.symm
          have t347 : x129 = s337.1 57 27 := (t130).trans (hG_s337 57 27 (mh_nsI (by rfl))).1.symm
          have t348 : x131 = s337.1 57 26 := (t132).trans (hG_s337 57 26 (mh_nsI (by rfl))).1.symm
          exact (show mh_pw s337 by unfold mh_pw; rw [← t345, ← t346, ← t340, ← t347, ← t348]; have := kc_0; have := kc_1; have := (r_x133).1; have := (r_x133).2; have := (r_x123).1; have := (r_x123).2; have := (r_x125).1; have := (r_x125).2; have := (r_x127).1; have := (r_x127).2; have := (r_x129).1; have := (r_x129).2; have := (r_x131).1; have := (r_x131).2; have := (r_x339).1; have := (r_x339).2; have := kc_0; have := kc_1; have := kc_4; have := kc_14; omega)
        · skip
          have t349 : x123 = s337.1 57 23 := (t124).trans (hG_s337 57 23 (mh_nsI (by rfl))).1.symm
          have t350 : x125 = s337.1 57 24 := (t126).trans (hG_s337 57 24 (mh_nsI (by rfl))).1.symm
          have t351 : x129 = s337.1 57 27 := (t130).trans (hG_s337 57 27 (mh_nsI (by rfl))).1.symm
          have t352 : x131 = s337.1 57 26 := (t132).trans (hG_s337 57 26 (mh_nsI (by rfl))).1.symm
          obtain ⟨x353, t354⟩ : ∃ z : Int32, z = s337.1 57 29 := ⟨_, rfl⟩
          intro hg9
          exfalso
          have := congrArg Int32.toInt t124
          have := congrArg Int32.toInt t126
          have := congrArg Int32.toInt t128
          have := congrArg Int32.toInt t130
          have := congrArg Int32.toInt t132
          have := congrArg Int32.toInt t340
          have := congrArg Int32.toInt t349
          have := congrArg Int32.toInt t350
          have := congrArg Int32.toInt t351
          have := congrArg Int32.toInt t352
          have := congrArg Int32.toInt t354
          have := (r_x133).1; have := (r_x133).2
          have := (r_x123).1; have := (r_x123).2
          have := (r_x125).1; have := (r_x125).2
          have := (r_x127).1; have := (r_x127).2
          have := (r_x129).1; have := (r_x129).2
          have := (r_x131).1; have := (r_x131).2
          have := (r_x339).1; have := (r_x339).2
          have := kc_0
          have := kc_1
          have := kc_4
          have := kc_14
          omega
        · skip
          have t355 : x123 = s337.1 57 23 := (t124).trans (hG_s337 57 23 (mh_nsI (by rfl))).1.symm
          have t356 : x125 = s337.1 57 24 := (t126).trans (hG_s337 57 24 (mh_nsI (by rfl))).1.symm
          have t357 : x129 = s337.1 57 27 := (t130).trans (hG_s337 57 27 (mh_nsI (by rfl))).1.symm
          have t358 : x131 = s337.1 57 26 := (t132).trans (hG_s337 57 26 (mh_nsI (by rfl))).1.symm
          obtain ⟨x359, t360⟩ : ∃ z : Int32, z = s337.1 57 29 := ⟨_, rfl⟩
          have := congrArg Int32.toInt t124
          have := congrArg Int32.toInt t126
          have := congrArg Int32.toInt t128
          have := congrArg Int32.toInt t130
          have := congrArg Int32.toInt t132
          have := congrArg Int32.toInt t340
          have := congrArg Int32.toInt t355
          have := congrArg Int32.toInt t356
          have := congrArg Int32.toInt t357
          have := congrArg Int32.toInt t358
          have := congrArg Int32.toInt t360
          have := (r_x133).1; have := (r_x133).2
          have := (r_x123).1; have := (r_x123).2
          have := (r_x125).1; have := (r_x125).2
          have := (r_x127).1; have := (r_x127).2
          have := (r_x129).1; have := (r_x129).2
          have := (r_x131).1; have := (r_x131).2
          have := (r_x339).1; have := (r_x339).2
          have := kc_0
          have := kc_1
          have := kc_4
          have := kc_14
          omega
  · skip
    have r_x136 : mh_r x136 (0) (0) := mh_eq1 (show x136.toInt = (0 : Int32).toInt from c139) r_x136 rc_0 (0) (0) (by decide)
    refine mw_aload_n 13 rfl 1 dX10_clause_12 rfl rfl ?_
    refine mw_iconst (v := 1) 14 rfl dX10_clause_13 (by decide) ?_
    refine mw_aload_n 15 rfl 1 dX10_clause_14 rfl rfl ?_
    refine mw_geti 18 rfl dX10_clause_15 gf_X10_188 rfl (fun x361 t362 => ?_)
    obtain rfl : x123 = x361 := t124.trans t362.symm
    refine mw_callVv [.int (1), .int x123] [] 21 rfl dX10_clause_18 ml_X10_210 mc_X10_wrongs mk_X10_wrongs rfl rfl (by decide) (w_X10_wrongs l G (d + 6) ⟨by omega, by omega⟩ hI0 (1) (mh_r_wk rc_1 (by decide)) x123 r_x123 (by rw [← t128]; have := (r_x133).1; have := (r_x133).2; have := (r_x123).1; have := (r_x123).2; have := (r_x125).1; have := (r_x125).2; have := (r_x127).1; have := (r_x127).2; have := (r_x129).1; have := (r_x129).2; have := (r_x131).1; have := (r_x131).2; have := kc_0; have := kc_1; have := kc_4; have := kc_14; omega)) rfl rfl (Nat.le_of_ble_eq_true rfl) (mh_rok (by omega) (by decide)) (fun s364 q365 => ?_)
    obtain ⟨e0_s364, hI_s364, hG_s364⟩ := q365
    have hF_s364 : mh_F S_X10_clause s0 s364 := mh_F_tl hF0 hG_s364 (by decide +kernel)
    obtain ⟨x366, t367⟩ : ∃ z : Int32, z = s364.1 57 25 := ⟨_, rfl⟩
    have hw_s364 : x366.toInt < 0 := by rw [t367]; exact e0_s364
    have r_x366 : mh_r x366 (-2147483648) (-1) := ⟨((mh_r_full x366)).1, by have := hw_s364; omega⟩
    refine mw_goto 24 rfl 42 dX10_clause_21 (by decide) ?_
    refine mw_aload_n 43 rfl 1 dX10_clause_42 rfl rfl ?_
    refine mw_callVi [] [] 46 rfl dX10_clause_43 ml_X10_197 mc_X10_isGood mk_X10_isGood rfl rfl (by decide) (w_X10_isGood l G (d + 6) ⟨by omega, by omega⟩ hI_s364) rfl rfl (Nat.le_of_ble_eq_true rfl) (mh_rok (by omega) (by decide)) (fun x368 s369 q370 => ?_)
    obtain ⟨r_x368, e0_s369, rfl⟩ := q370
    rw [← t367] at e0_s369
    refine mw_if_ne 49 rfl 50 dX10_clause_46 (by decide) (fun c371 => ?_) (fun c371 => ?_)
    · skip
      exact absurd (e0_s369.1 (mh_z1 r_x368 c371)) (by have := (r_x366).2; omega)
    · skip
      have r_x368 : mh_r x368 (0) (0) := mh_eq1 (show x368.toInt = (0 : Int32).toInt from c371) r_x368 rc_0 (0) (0) (by decide)
      refine mw_vret dX10_clause_49 rfl ⟨rfl, ⟨?_, ?_, ?_, hI_s364, hF_s364⟩⟩
      · skip
        have t372 : x123 = s364.1 57 23 := (t124).trans (hG_s364 57 23 (mh_nsI (by rfl))).1.symm
        have t373 : x125 = s364.1 57 24 := (t126).trans (hG_s364 57 24 (mh_nsI (by rfl))).1.symm
        have t374 : x129 = s364.1 57 27 := (t130).trans (hG_s364 57 27 (mh_nsI (by rfl))).1.symm
        have t375 : x131 = s364.1 57 26 := (t132).trans (hG_s364 57 26 (mh_nsI (by rfl))).1.symm
        exact (show mh_pw s364 by unfold mh_pw; rw [← t372, ← t373, ← t367, ← t374, ← t375]; have := kc_0; have := kc_1; have := (r_x133).1; have := (r_x133).2; have := (r_x123).1; have := (r_x123).2; have := (r_x125).1; have := (r_x125).2; have := (r_x127).1; have := (r_x127).2; have := (r_x129).1; have := (r_x129).2; have := (r_x131).1; have := (r_x131).2; have := (r_x366).1; have := (r_x366).2; have := kc_0; have := kc_1; have := kc_4; have := kc_14; omega)
      · skip
        have t376 : x123 = s364.1 57 23 := (t124).trans (hG_s364 57 23 (mh_nsI (by rfl))).1.symm
        have t377 : x125 = s364.1 57 24 := (t126).trans (hG_s364 57 24 (mh_nsI (by rfl))).1.symm
        have t378 : x129 = s364.1 57 27 := (t130).trans (hG_s364 57 27 (mh_nsI (by rfl))).1.symm
        have t379 : x131 = s364.1 57 26 := (t132).trans (hG_s364 57 26 (mh_nsI (by rfl))).1.symm
        obtain ⟨x380, t381⟩ : ∃ z : Int32, z = s364.1 57 29 := ⟨_, rfl⟩
        intro hg9
        exfalso
        have := congrArg Int32.toInt t124
        have := congrArg Int32.toInt t126
        have := congrArg Int32.toInt t128
        have := congrArg Int32.toInt t130
        have := congrArg Int32.toInt t132
        have := congrArg Int32.toInt t367
        have := congrArg Int32.toInt t376
        have := congrArg Int32.toInt t377
        have := congrArg Int32.toInt t378
        have := congrArg Int32.toInt t379
        have := congrArg Int32.toInt t381
        have := (r_x133).1; have := (r_x133).2
        have := (r_x123).1; have := (r_x123).2
        have := (r_x125).1; have := (r_x125).2
        have := (r_x127).1; have := (r_x127).2
        have := (r_x129).1; have := (r_x129).2
        have := (r_x131).1; have := (r_x131).2
        have := (r_x366).1; have := (r_x366).2
        have := kc_0
        have := kc_1
        have := kc_4
        have := kc_14
        omega
      · skip
        have t382 : x123 = s364.1 57 23 := (t124).trans (hG_s364 57 23 (mh_nsI (by rfl))).1.symm
        have t383 : x125 = s364.1 57 24 := (t126).trans (hG_s364 57 24 (mh_nsI (by rfl))).1.symm
        have t384 : x129 = s364.1 57 27 := (t130).trans (hG_s364 57 27 (mh_nsI (by rfl))).1.symm
        have t385 : x131 = s364.1 57 26 := (t132).trans (hG_s364 57 26 (mh_nsI (by rfl))).1.symm
        obtain ⟨x386, t387⟩ : ∃ z : Int32, z = s364.1 57 29 := ⟨_, rfl⟩
        have := congrArg Int32.toInt t124
        have := congrArg Int32.toInt t126
        have := congrArg Int32.toInt t128
        have := congrArg Int32.toInt t130
        have := congrArg Int32.toInt t132
        have := congrArg Int32.toInt t367
        have := congrArg Int32.toInt t382
        have := congrArg Int32.toInt t383
        have := congrArg Int32.toInt t384
        have := congrArg Int32.toInt t385
        have := congrArg Int32.toInt t387
        have := (r_x133).1; have := (r_x133).2
        have := (r_x123).1; have := (r_x123).2
        have := (r_x125).1; have := (r_x125).2
        have := (r_x127).1; have := (r_x127).2
        have := (r_x129).1; have := (r_x129).2
        have := (r_x131).1; have := (r_x131).2
        have := (r_x366).1; have := (r_x366).2
        have := kc_0
        have := kc_1
        have := kc_4
        have := kc_14
        omega

def S_X10_law : List (Nat × Nat) := [(57, 1), (57, 23), (57, 24), (57, 25), (57, 26), (57, 27), (70, 9999), (71, 9999), (57, 29), (57, 28), (57, 31), (76, 9999), (74, 9999), (75, 9999), (72, 9999), (73, 9999), (57, 30), (64, 9999), (65, 9999), (66, 9999), (67, 9999), (68, 9999), (69, 9999), (57, 10)]
def P_X10_law (B D : Int) (s0 : mh_H) (p1 : Int32) : Int32 → mh_H → Prop := fun z s => mh_r z (-2147483648) (14) ∧ mh_I B D s ∧ mh_F S_X10_law s0 s
set_option maxRecDepth 100000 in
set_option maxHeartbeats 4000000 in
theorem w_X10_law (l : Launch) (G : mh_G) (d : Nat) {B D : Int} (hB : B ≤ 1840000000 ∧ D ≤ 1840000000) {s0 : mh_H} (hI0 : mh_I B D s0) (p1 : Int32) : mh_Mi l G (d + 8) mM_X10_law [.ref (G.2.2.2 57), .int p1] s0 (P_X10_law B D s0 p1) := by
  refine mh_enter (lv := [(0, .ref (G.2.2.2 57)), (1, .int p1)]) (by decide) rfl (Nat.le_of_ble_eq_true rfl) ?_
  have hF0 : mh_F S_X10_law s0 s0 := mh_F_rf
  refine mw_iload_n 1 rfl 1 dX10_law_0 rfl rfl ?_
  refine mw_i2l 2 rfl dX10_law_1 (fun y617 t618 => ?_)
  refine mw_lconst (v := 1) 3 rfl dX10_law_2 (by decide) ?_
  refine mw_ldc2 6 rfl dX10_law_3 ck_X10_293 ?_
  refine mw_callSi [.long y617, .long (1), .long (200)] [] 9 rfl dX10_law_6 ml_X10_154 mc_X10_lies mk_X10_lies (w_X10_lies l G (d + 7) ⟨by omega, by omega⟩ hI0 y617 (1) (200)) rfl rfl (Nat.le_of_ble_eq_true rfl) (mh_rok (by omega) (by decide)) (fun x619 s620 q621 => ?_)
  obtain ⟨r_x619, e0_s620, rfl⟩ := q621
  have f_x619 : x619.toInt = 1 ↔ (1 ≤ p1.toInt ∧ p1.toInt ≤ 200) := by rw [e0_s620]; exact by simp only [t618, Int32.toInt_toInt64]; first | done | exact Iff.rfl
  refine mw_if_eq 12 rfl 20 dX10_law_9 (by decide) (fun c622 => ?_) (fun c622 => ?_)
  · skip
    have r_x619 : mh_r x619 (0) (0) := mh_eq1 (show x619.toInt = (0 : Int32).toInt from c622) r_x619 rc_0 (0) (0) (by decide)
    refine mw_iconst (v := -1) 21 rfl dX10_law_20 (by decide) ?_
    exact mw_iret dX10_law_21 rfl ⟨(-1), rfl, ⟨(mh_r_wk rc_m1 (by decide)), hI0, hF0⟩⟩
  · skip
    have r_p1 : mh_r p1 (1) (200) := ⟨by have := f_x619.1 (mh_z1 r_x619 c622); have := ((mh_r_full p1)).1; omega, by have := f_x619.1 (mh_z1 r_x619 c622); have := ((mh_r_full p1)).2; omega⟩
    have r_x619 : mh_r x619 (1) (1) := mh_ne1 (show x619.toInt ≠ (0 : Int32).toInt from c622) r_x619 rc_0 (1) (1) (by decide)
    refine mw_iload_n 13 rfl 1 dX10_law_12 rfl rfl ?_
    refine mw_aload_n 14 rfl 0 dX10_law_13 rfl rfl ?_
    refine mw_geti 17 rfl dX10_law_14 gf_X10_181 rfl (fun x623 t624 => ?_)
    have r_x623 : mh_r x623 (0) (220) := by rw [t624]; exact rd_57_1 hI0
    refine mw_icmp_le 20 rfl 22 dX10_law_17 (by decide) (fun c625 => ?_) (fun c625 => ?_)
    · skip
      have r_x623 : mh_r x623 (1) (220) := mh_le2 c625 r_p1 r_x623 (1) (by decide)
      refine mw_aload_n 23 rfl 0 dX10_law_22 rfl rfl ?_
      refine mw_iconst (v := 0) 24 rfl dX10_law_23 (by decide) ?_
      refine mw_puti 27 rfl dX10_law_24 pf_X10_181 rfl (fun s626 t627 => ?_)
      have hI_s626 : mh_I B D s626 := by rw [t627]; exact wr_57_1 hI0 (mh_r_wk rc_0 (by decide))
      have hF_s626 : mh_F S_X10_law s0 s626 := by rw [t627]; exact mh_F_pI hF0 (mh_sj 0 rfl)
      refine mw_aload_n 28 rfl 0 dX10_law_27 rfl rfl ?_
      refine mw_iconst (v := 0) 29 rfl dX10_law_28 (by decide) ?_
      refine mw_puti 32 rfl dX10_law_29 pf_X10_188 rfl (fun s628 t629 => ?_)
      have hI_s628 : mh_I B D s628 := by rw [t629]; exact wr_57_23 hI_s626
      have hF_s628 : mh_F S_X10_law s0 s628 := by rw [t629]; exact mh_F_pI hF_s626 (mh_sj 1 rfl)
      refine mw_aload_n 33 rfl 0 dX10_law_32 rfl rfl ?_
      refine mw_iload_n 34 rfl 1 dX10_law_33 rfl rfl ?_
      refine mw_puti 37 rfl dX10_law_34 pf_X10_191 rfl (fun s630 t631 => ?_)
      have hI_s630 : mh_I B D s630 := by rw [t631]; exact wr_57_24 hI_s628
      have hF_s630 : mh_F S_X10_law s0 s630 := by rw [t631]; exact mh_F_pI hF_s628 (mh_sj 2 rfl)
      refine mw_aload_n 38 rfl 0 dX10_law_37 rfl rfl ?_
      refine mw_iconst (v := 0) 39 rfl dX10_law_38 (by decide) ?_
      refine mw_puti 42 rfl dX10_law_39 pf_X10_194 rfl (fun s632 t633 => ?_)
      have hI_s632 : mh_I B D s632 := by rw [t633]; exact wr_57_25 hI_s630
      have hF_s632 : mh_F S_X10_law s0 s632 := by rw [t633]; exact mh_F_pI hF_s630 (mh_sj 3 rfl)
      refine mw_aload_n 43 rfl 0 dX10_law_42 rfl rfl ?_
      refine mw_iconst (v := 0) 44 rfl dX10_law_43 (by decide) ?_
      refine mw_puti 47 rfl dX10_law_44 pf_X10_287 rfl (fun s634 t635 => ?_)
      have hI_s634 : mh_I B D s634 := by rw [t635]; exact wr_57_26 hI_s632
      have hF_s634 : mh_F S_X10_law s0 s634 := by rw [t635]; exact mh_F_pI hF_s632 (mh_sj 4 rfl)
      refine mw_aload_n 48 rfl 0 dX10_law_47 rfl rfl ?_
      refine mw_iconst (v := 0) 49 rfl dX10_law_48 (by decide) ?_
      refine mw_puti 52 rfl dX10_law_49 pf_X10_201 rfl (fun s636 t637 => ?_)
      have hI_s636 : mh_I B D s636 := by rw [t637]; exact wr_57_27 hI_s634
      have hF_s636 : mh_F S_X10_law s0 s636 := by rw [t637]; exact mh_F_pI hF_s634 (mh_sj 5 rfl)
      refine mw_iconst (v := 1) 53 rfl dX10_law_52 (by decide) ?_
      refine mw_istore_n 54 rfl [(2, .int (1)), (0, .ref (G.2.2.2 57)), (1, .int p1)] dX10_law_53 rfl (by decide) rfl ?_
      have L54 : ∀ n1 : Nat, ∀ (x690 : Int32) (s691 : mh_H), mh_r x690 (0) (1) → mh_I B D s691 → mh_F S_X10_law s0 s691 → (mh_pw s691 ∧ ((s691.1 57 25).toInt = 0 → mh_ls s691 (s691.1 57 26).toInt.toNat (s691.1 57 27).toInt)) → 4 * (200 - (s691.1 57 23).toInt) + 2 * (max (s691.1 57 25).toInt (-1) + 1) + x690.toInt < (n1 : Int) → mh_W G (mh_XM l G (d + 8) (mh_Qi (P_X10_law B D s0 p1))) mM_X10_law 54 [(0, .ref (G.2.2.2 57)), (1, .int p1), (2, .int x690)] [] s691 := by
        intro n1
        induction n1 with
        | zero =>
          intro x690 s691 r_x690 hI_s691 hF_s691 iv hmn1
          exact absurd hmn1 (by have h9 := iv.1; unfold mh_pw at h9; have := r_x690.1; omega)
        | succ n1 ihn1 =>
          intro x690 s691 r_x690 hI_s691 hF_s691 iv hmn1
          obtain ⟨x755, t756⟩ : ∃ z : Int32, z = s691.1 57 23 := ⟨_, rfl⟩
          obtain ⟨x757, t758⟩ : ∃ z : Int32, z = s691.1 57 24 := ⟨_, rfl⟩
          obtain ⟨x759, t760⟩ : ∃ z : Int32, z = s691.1 57 25 := ⟨_, rfl⟩
          obtain ⟨x761, t762⟩ : ∃ z : Int32, z = s691.1 57 27 := ⟨_, rfl⟩
          obtain ⟨x763, t764⟩ : ∃ z : Int32, z = s691.1 57 26 := ⟨_, rfl⟩
          have pw_s691 : 0 ≤ x755.toInt ∧ x755.toInt ≤ x757.toInt ∧ x757.toInt ≤ 200 ∧ 0 ≤ x761.toInt ∧ x761.toInt ≤ x755.toInt ∧ x759.toInt ≤ 0 ∧ 0 ≤ x763.toInt ∧ x763.toInt ≤ 14 := by have h9 := iv.1; unfold mh_pw at h9; rw [← t756, ← t758, ← t760, ← t762, ← t764] at h9; exact h9
          have r_x755 : mh_r x755 (0) (200) := ⟨by have := ((mh_r_full x755)).1; omega, by have := ((mh_r_full x755)).2; omega⟩
          have r_x757 : mh_r x757 (0) (200) := ⟨by have := ((mh_r_full x757)).1; omega, by have := ((mh_r_full x757)).2; omega⟩
          have r_x759 : mh_r x759 (-2147483648) (0) := ⟨by have := ((mh_r_full x759)).1; omega, by have := ((mh_r_full x759)).2; omega⟩
          have r_x761 : mh_r x761 (0) (200) := ⟨by have := ((mh_r_full x761)).1; omega, by have := ((mh_r_full x761)).2; omega⟩
          have r_x763 : mh_r x763 (0) (14) := ⟨by have := ((mh_r_full x763)).1; omega, by have := ((mh_r_full x763)).2; omega⟩
          refine mw_iload_n 55 rfl 2 dX10_law_54 rfl rfl ?_
          refine mw_if_eq 58 rfl 128 dX10_law_55 (by decide) (fun c765 => ?_) (fun c765 => ?_)
          · skip
            have r_x690 : mh_r x690 (0) (0) := mh_eq1 (show x690.toInt = (0 : Int32).toInt from c765) r_x690 rc_0 (0) (0) (by decide)
            refine mw_aload_n 129 rfl 0 dX10_law_128 rfl rfl ?_
            refine mw_geti 132 rfl dX10_law_129 gf_X10_194 rfl (fun x766 t767 => ?_)
            obtain rfl : x759 = x766 := t760.trans t767.symm
            refine mw_if_ge 135 rfl 140 dX10_law_132 (by decide) (fun c768 => ?_) (fun c768 => ?_)
            · skip
              have r_x759 : mh_r x759 (0) (0) := mh_le2 (show (0 : Int32).toInt ≤ x759.toInt from c768) rc_0 r_x759 (0) (by decide)
              have hI_0 : mh_I0 B D s691 := mh_I0_of hI_s691
              have hls := iv.2 (by rw [← t760]; have := (r_p1).1; have := (r_p1).2; have := (r_x690).1; have := (r_x690).2; have := (r_x623).1; have := (r_x623).2; have := (r_x755).1; have := (r_x755).2; have := (r_x757).1; have := (r_x757).2; have := (r_x759).1; have := (r_x759).2; have := (r_x761).1; have := (r_x761).2; have := (r_x763).1; have := (r_x763).2; have := kc_m1; have := kc_0; have := kc_1; have := kc_59; omega)
              rw [← t764, ← t762] at hls
              refine mw_iconst (v := 0) 141 rfl dX10_law_140 (by decide) ?_
              refine mw_istore_n 142 rfl [(3, .int (0)), (0, .ref (G.2.2.2 57)), (1, .int p1), (2, .int x690)] dX10_law_141 rfl (by decide) rfl ?_
              have L142 : ∀ n2 : Nat, ∀ (x867 : Int32) (s868 : mh_H), mh_r x867 (0) (14) → mh_I0 B D s868 → mh_F S_X10_law s0 s868 → ((∀ c : Nat, c < x867.toNatClampNeg → s868.1 65 c = s691.1 71 c ∧ s868.1 66 c = s691.1 72 c ∧ s868.1 67 c = s691.1 73 c) ∧ s868.1 71 = s691.1 71 ∧ s868.1 72 = s691.1 72 ∧ s868.1 73 = s691.1 73 ∧ s868.1 74 = s691.1 74 ∧ s868.1 57 26 = s691.1 57 26 ∧ s868.1 57 27 = s691.1 57 27) → (14) - x867.toInt < (n2 : Int) → mh_W G (mh_XM l G (d + 8) (mh_Qi (P_X10_law B D s0 p1))) mM_X10_law 142 [(0, .ref (G.2.2.2 57)), (1, .int p1), (2, .int x690), (3, .int x867)] [] s868 := by
                intro n2
                induction n2 with
                | zero =>
                  intro x867 s868 r_x867 hI_s868 hF_s868 iw hmn2
                  exact absurd hmn2 (by have := r_x867.1; have := r_x867.2; omega)
                | succ n2 ihn2 =>
                  intro x867 s868 r_x867 hI_s868 hF_s868 iw hmn2
                  have t894 : x763 = s868.1 57 26 := t764.trans (iw.2.2.2.2.2.1).symm
                  have t895 : x761 = s868.1 57 27 := t762.trans (iw.2.2.2.2.2.2).symm
                  refine mw_iload_n 143 rfl 3 dX10_law_142 rfl rfl ?_
                  refine mw_aload_n 144 rfl 0 dX10_law_143 rfl rfl ?_
                  refine mw_geti 147 rfl dX10_law_144 gf_X10_287 rfl (fun x896 t897 => ?_)
                  obtain rfl : x763 = x896 := t894.trans t897.symm
                  refine mw_icmp_ge 150 rfl 204 dX10_law_147 (by decide) (fun c898 => ?_) (fun c898 => ?_)
                  · skip
                    refine mw_iconst (v := 0) 205 rfl dX10_law_204 (by decide) ?_
                    refine mw_istore_n 206 rfl [(3, .int (0)), (0, .ref (G.2.2.2 57)), (1, .int p1), (2, .int x690)] dX10_law_205 rfl (by decide) rfl ?_
                    have L206 : ∀ n3 : Nat, ∀ (x1118 : Int32) (s1119 : mh_H), mh_r x1118 (0) (200) → mh_I0 B D s1119 → mh_F S_X10_law s0 s1119 → ((∀ j : Nat, j < x1118.toNatClampNeg → s1119.1 68 j = s691.1 74 j) ∧ s1119.1 71 = s691.1 71 ∧ s1119.1 72 = s691.1 72 ∧ s1119.1 73 = s691.1 73 ∧ s1119.1 74 = s691.1 74 ∧ s1119.1 57 26 = s691.1 57 26 ∧ s1119.1 57 27 = s691.1 57 27 ∧ (∀ c : Nat, c < x763.toInt.toNat → s1119.1 65 c = s691.1 71 c ∧ s1119.1 66 c = s691.1 72 c ∧ s1119.1 67 c = s691.1 73 c)) → (200) - x1118.toInt < (n3 : Int) → mh_W G (mh_XM l G (d + 8) (mh_Qi (P_X10_law B D s0 p1))) mM_X10_law 206 [(0, .ref (G.2.2.2 57)), (1, .int p1), (2, .int x690), (3, .int x1118)] [] s1119 := by
                      intro n3
                      induction n3 with
                      | zero =>
                        intro x1118 s1119 r_x1118 hI_s1119 hF_s1119 iy hmn3
                        exact absurd hmn3 (by have := r_x1118.1; have := r_x1118.2; omega)
                      | succ n3 ihn3 =>
                        intro x1118 s1119 r_x1118 hI_s1119 hF_s1119 iy hmn3
                        have t1137 : x763 = s1119.1 57 26 := t764.trans (iy.2.2.2.2.2.1).symm
                        have t1138 : x761 = s1119.1 57 27 := t762.trans (iy.2.2.2.2.2.2.1).symm
                        refine mw_iload_n 207 rfl 3 dX10_law_206 rfl rfl ?_
                        refine mw_aload_n 208 rfl 0 dX10_law_207 rfl rfl ?_
                        refine mw_geti 211 rfl dX10_law_208 gf_X10_201 rfl (fun x1139 t1140 => ?_)
                        obtain rfl : x761 = x1139 := t1138.trans t1140.symm
                        refine mw_icmp_ge 214 rfl 244 dX10_law_211 (by decide) (fun c1141 => ?_) (fun c1141 => ?_)
                        · skip
                          refine mw_aload_n 245 rfl 0 dX10_law_244 rfl rfl ?_
                          refine mw_aload_n 246 rfl 0 dX10_law_245 rfl rfl ?_
                          refine mw_geti 249 rfl dX10_law_246 gf_X10_287 rfl (fun x1142 t1143 => ?_)
                          obtain rfl : x763 = x1142 := t1137.trans t1143.symm
                          refine mw_puti 252 rfl dX10_law_249 pf_X10_298 rfl (fun s1144 t1145 => ?_)
                          have hI_s1144 : mh_I0 B D s1144 := by rw [t1145]; exact w0_57_10 hI_s1119 r_x763
                          have hF_s1144 : mh_F S_X10_law s0 s1144 := by rw [t1145]; exact mh_F_pI hF_s1119 (mh_sj 23 rfl)
                          refine mw_aload_n 253 rfl 0 dX10_law_252 rfl rfl ?_
                          refine mw_geti 256 rfl dX10_law_253 gf_X10_298 rfl (fun x1146 t1147 => ?_)
                          have t1148 : x763 = s1144.1 57 10 := by rw [t1145]; exact mh_pI_s.symm
                          obtain rfl : x763 = x1146 := t1148.trans t1147.symm
                          have hwf : mh_wfc s1144 := by
                            have := (r_p1).1; have := (r_p1).2
                            have := (r_x690).1; have := (r_x690).2
                            have := (r_x1118).1; have := (r_x1118).2
                            have := (r_x763).1; have := (r_x763).2
                            have := (r_x623).1; have := (r_x623).2
                            have := (r_x755).1; have := (r_x755).2
                            have := (r_x757).1; have := (r_x757).2
                            have := (r_x759).1; have := (r_x759).2
                            have := (r_x761).1; have := (r_x761).2
                            have := kc_m1
                            have := kc_0
                            have := kc_1
                            have := kc_59
                            refine mh_wfc_of (n := x763.toInt.toNat) (m := x761.toInt) hls ?_ ?_ ?_ ?_ ?_
                            · rw [← t1148]; omega
                            · intro j hj; rw [show s1144.1 68 = s1119.1 68 from (by rw [t1145]; exact mh_row_n (by decide) : s1144.1 68 = s1119.1 68)]; exact iy.1 j (by show j < x1118.toInt.toNat; omega)
                            · intro c hc; rw [show s1144.1 65 = s1119.1 65 from (by rw [t1145]; exact mh_row_n (by decide) : s1144.1 65 = s1119.1 65)]; exact (iy.2.2.2.2.2.2.2 c hc).1
                            · intro c hc; rw [show s1144.1 66 = s1119.1 66 from (by rw [t1145]; exact mh_row_n (by decide) : s1144.1 66 = s1119.1 66)]; exact (iy.2.2.2.2.2.2.2 c hc).2.1
                            · intro c hc; rw [show s1144.1 67 = s1119.1 67 from (by rw [t1145]; exact mh_row_n (by decide) : s1144.1 67 = s1119.1 67)]; exact (iy.2.2.2.2.2.2.2 c hc).2.2
                          have hI_f : mh_I B D s1144 := mh_I0_up hI_s1144 hwf
                          exact mw_iret dX10_law_256 rfl ⟨x763, rfl, ⟨(mh_r_wk r_x763 (by decide)), hI_f, hF_s1144⟩⟩
                        · skip
                          have r_x1118 : mh_r x1118 (0) (199) := mh_lt1 c1141 r_x1118 r_x761 (199) (by decide)
                          have r_x761 : mh_r x761 (1) (200) := mh_lt2 c1141 r_x1118 r_x761 (1) (by decide)
                          refine mw_aload_n 215 rfl 0 dX10_law_214 rfl rfl ?_
                          refine mw_geta 218 rfl dX10_law_215 gf_X10_45 rfl 68 (mh_rf0 hI_s1119 65 rfl) ?_
                          refine mw_iload_n 219 rfl 3 dX10_law_218 rfl rfl ?_
                          refine mw_aload_n 220 rfl 0 dX10_law_219 rfl rfl ?_
                          refine mw_geta 223 rfl dX10_law_220 gf_X10_63 rfl 74 (mh_rf0 hI_s1119 71 rfl) ?_
                          refine mw_iload_n 224 rfl 3 dX10_law_223 rfl rfl ?_
                          refine mw_iald 225 rfl dX10_law_224 rfl r_x1118 (by decide) (fun x1149 t1150 => ?_)
                          refine mw_iast 226 rfl dX10_law_225 rfl r_x1118 (by decide) (fun s1151 t1152 => ?_)
                          have hI_s1151 : mh_I0 B D s1151 := by rw [t1152]; exact w0_68 hI_s1119
                          have hF_s1151 : mh_F S_X10_law s0 s1151 := by rw [t1152]; exact mh_F_pI hF_s1119 (mh_si 21 rfl)
                          refine mw_aload_n 227 rfl 0 dX10_law_226 rfl rfl ?_
                          refine mw_geta 230 rfl dX10_law_227 gf_X10_48 rfl 69 (mh_rf0 hI_s1151 66 rfl) ?_
                          refine mw_iload_n 231 rfl 3 dX10_law_230 rfl rfl ?_
                          refine mw_aload_n 232 rfl 0 dX10_law_231 rfl rfl ?_
                          refine mw_geta 235 rfl dX10_law_232 gf_X10_66 rfl 75 (mh_rf0 hI_s1151 72 rfl) ?_
                          refine mw_iload_n 236 rfl 3 dX10_law_235 rfl rfl ?_
                          refine mw_iald 237 rfl dX10_law_236 rfl r_x1118 (by decide) (fun x1153 t1154 => ?_)
                          refine mw_iast 238 rfl dX10_law_237 rfl r_x1118 (by decide) (fun s1155 t1156 => ?_)
                          have hI_s1155 : mh_I0 B D s1155 := by rw [t1156]; exact w0_69 hI_s1151
                          have hF_s1155 : mh_F S_X10_law s0 s1155 := by rw [t1156]; exact mh_F_pI hF_s1151 (mh_si 22 rfl)
                          refine mw_iincR (k := 3) (1) (200) 241 rfl (fun z => [(3, .int z), (0, .ref (G.2.2.2 57)), (1, .int p1), (2, .int x690)]) dX10_law_238 rfl (by decide) (fun _ => rfl) r_x1118 (by decide) (by decide) (fun x1157 t1158 r_x1157 => ?_)
                          refine mw_goto 244 rfl 206 dX10_law_241 (by decide) ?_
                          have t1159 : x763 = s1151.1 57 26 := by rw [t1152]; exact (t1137).trans (mh_pI_n (by omega)).symm
                          have t1160 : x763 = s1155.1 57 26 := by rw [t1156]; exact (t1159).trans (mh_pI_n (by omega)).symm
                          have t1161 : x761 = s1151.1 57 27 := by rw [t1152]; exact (t1138).trans (mh_pI_n (by omega)).symm
                          have t1162 : x761 = s1155.1 57 27 := by rw [t1156]; exact (t1161).trans (mh_pI_n (by omega)).symm
                          exact mw_lv [1, 2, 3, 0] rfl (ihn3 x1157 s1155 (mh_r_wk r_x1157 (by decide)) hI_s1155 hF_s1155 (by
                              have := (r_x1157).1; have := (r_x1157).2
                              have := (r_p1).1; have := (r_p1).2
                              have := (r_x690).1; have := (r_x690).2
                              have := (r_x623).1; have := (r_x623).2
                              have := (r_x755).1; have := (r_x755).2
                              have := (r_x757).1; have := (r_x757).2
                              have := (r_x759).1; have := (r_x759).2
                              have := (r_x761).1; have := (r_x761).2
                              have := (r_x763).1; have := (r_x763).2
                              have := kc_m1
                              have := kc_0
                              have := kc_1
                              have := kc_59
                              have := r_x1118.1; have := r_x1118.2
                              have hk : x1157.toNatClampNeg = x1118.toNatClampNeg + 1 := by show x1157.toInt.toNat = x1118.toInt.toNat + 1; omega
                              have e68 : s1155.1 68 = (mh_u1 (s1119.1 68) x1118.toNatClampNeg x1149) := by rw [t1156, mh_row_n (by decide), t1152, mh_row_s]
                              refine ⟨fun j hj => ?_, (((by rw [t1156]; exact mh_row_n (by decide) : s1155.1 71 = s1151.1 71)).trans (by rw [t1152]; exact mh_row_n (by decide) : s1151.1 71 = s1119.1 71)).trans (iy.2.1), (((by rw [t1156]; exact mh_row_n (by decide) : s1155.1 72 = s1151.1 72)).trans (by rw [t1152]; exact mh_row_n (by decide) : s1151.1 72 = s1119.1 72)).trans (iy.2.2.1), (((by rw [t1156]; exact mh_row_n (by decide) : s1155.1 73 = s1151.1 73)).trans (by rw [t1152]; exact mh_row_n (by decide) : s1151.1 73 = s1119.1 73)).trans (iy.2.2.2.1), (((by rw [t1156]; exact mh_row_n (by decide) : s1155.1 74 = s1151.1 74)).trans (by rw [t1152]; exact mh_row_n (by decide) : s1151.1 74 = s1119.1 74)).trans (iy.2.2.2.2.1), (t1160).symm.trans t764, (t1162).symm.trans t762, fun c hc => ?_⟩
                              · rw [e68]
                                by_cases q : j = x1118.toNatClampNeg
                                · subst q
                                  rw [show mh_u1 (s1119.1 68) x1118.toNatClampNeg x1149 x1118.toNatClampNeg = x1149 from if_pos rfl, t1150, show s1119.1 74 = s691.1 74 from (rfl).trans (iy.2.2.2.2.1)]
                                · rw [show mh_u1 (s1119.1 68) x1118.toNatClampNeg x1149 j = s1119.1 68 j from if_neg q]
                                  exact iy.1 j (by omega)
                              · rw [show s1155.1 65 = s1119.1 65 from ((by rw [t1156]; exact mh_row_n (by decide) : s1155.1 65 = s1151.1 65)).trans (by rw [t1152]; exact mh_row_n (by decide) : s1151.1 65 = s1119.1 65), show s1155.1 66 = s1119.1 66 from ((by rw [t1156]; exact mh_row_n (by decide) : s1155.1 66 = s1151.1 66)).trans (by rw [t1152]; exact mh_row_n (by decide) : s1151.1 66 = s1119.1 66), show s1155.1 67 = s1119.1 67 from ((by rw [t1156]; exact mh_row_n (by decide) : s1155.1 67 = s1151.1 67)).trans (by rw [t1152]; exact mh_row_n (by decide) : s1151.1 67 = s1119.1 67)]
                                exact iy.2.2.2.2.2.2.2 c hc) (by have : x1157.toInt = x1118.toInt + (1) := t1158; omega))
                    exact mw_lv [1, 2, 3, 0] rfl (L206 201 (0) s868 (mh_r_wk rc_0 (by decide)) hI_s868 hF_s868 (by
                        have := (rc_0).1; have := (rc_0).2
                        have := (r_p1).1; have := (r_p1).2
                        have := (r_x690).1; have := (r_x690).2
                        have := (r_x623).1; have := (r_x623).2
                        have := (r_x755).1; have := (r_x755).2
                        have := (r_x757).1; have := (r_x757).2
                        have := (r_x759).1; have := (r_x759).2
                        have := (r_x761).1; have := (r_x761).2
                        have := (r_x763).1; have := (r_x763).2
                        have := kc_m1
                        have := kc_0
                        have := kc_1
                        have := kc_59
                        exact ⟨fun j hj => absurd hj (by show ¬ j < (0 : Int32).toInt.toNat; rw [kc_0]; omega), iw.2.1, iw.2.2.1, iw.2.2.2.1, iw.2.2.2.2.1, iw.2.2.2.2.2.1, iw.2.2.2.2.2.2, fun c hc => iw.1 c (by show c < x867.toInt.toNat; have : c < x763.toInt.toNat := hc; omega)⟩) (by have := (rc_0).1; have := (rc_0).2; omega))
                  · skip
                    have r_x867 : mh_r x867 (0) (13) := mh_lt1 c898 r_x867 r_x763 (13) (by decide)
                    have r_x763 : mh_r x763 (1) (14) := mh_lt2 c898 r_x867 r_x763 (1) (by decide)
                    have hrr := mh_ls_r hls (c := x867.toNatClampNeg) (by show x867.toInt.toNat < x763.toInt.toNat; have := (r_p1).1; have := (r_p1).2; have := (r_x690).1; have := (r_x690).2; have := (r_x867).1; have := (r_x867).2; have := (r_x623).1; have := (r_x623).2; have := (r_x755).1; have := (r_x755).2; have := (r_x757).1; have := (r_x757).2; have := (r_x759).1; have := (r_x759).2; have := (r_x761).1; have := (r_x761).2; have := (r_x763).1; have := (r_x763).2; have := kc_m1; have := kc_0; have := kc_1; have := kc_59; omega)
                    refine mw_aload_n 151 rfl 0 dX10_law_150 rfl rfl ?_
                    refine mw_geta 154 rfl dX10_law_151 gf_X10_33 rfl 64 (mh_rf0 hI_s868 61 rfl) ?_
                    refine mw_iload_n 155 rfl 3 dX10_law_154 rfl rfl ?_
                    refine mw_aload_n 156 rfl 0 dX10_law_155 rfl rfl ?_
                    refine mw_geta 159 rfl dX10_law_156 gf_X10_51 rfl 70 (mh_rf0 hI_s868 67 rfl) ?_
                    refine mw_iload_n 160 rfl 3 dX10_law_159 rfl rfl ?_
                    refine mw_iald 161 rfl dX10_law_160 rfl r_x867 (by decide) (fun x1163 t1164 => ?_)
                    refine mw_iast 162 rfl dX10_law_161 rfl r_x867 (by decide) (fun s1165 t1166 => ?_)
                    have hI_s1165 : mh_I0 B D s1165 := by rw [t1166]; exact w0_64 hI_s868
                    have hF_s1165 : mh_F S_X10_law s0 s1165 := by rw [t1166]; exact mh_F_pI hF_s868 (mh_si 17 rfl)
                    refine mw_aload_n 163 rfl 0 dX10_law_162 rfl rfl ?_
                    refine mw_geta 166 rfl dX10_law_163 gf_X10_36 rfl 65 (mh_rf0 hI_s1165 62 rfl) ?_
                    refine mw_iload_n 167 rfl 3 dX10_law_166 rfl rfl ?_
                    refine mw_aload_n 168 rfl 0 dX10_law_167 rfl rfl ?_
                    refine mw_geta 171 rfl dX10_law_168 gf_X10_54 rfl 71 (mh_rf0 hI_s1165 68 rfl) ?_
                    refine mw_iload_n 172 rfl 3 dX10_law_171 rfl rfl ?_
                    refine mw_iald 173 rfl dX10_law_172 rfl r_x867 (by decide) (fun x1167 t1168 => ?_)
                    have r_x1167 : mh_r x1167 (0) (200) := by rw [t1168, show s1165.1 71 = s691.1 71 from ((by rw [t1166]; exact mh_row_n (by decide) : s1165.1 71 = s868.1 71)).trans (iw.2.1)]; exact hrr.1
                    refine mw_iast 174 rfl dX10_law_173 rfl r_x867 (by decide) (fun s1169 t1170 => ?_)
                    have hI_s1169 : mh_I0 B D s1169 := by rw [t1170]; exact w0_65 hI_s1165 r_x1167
                    have hF_s1169 : mh_F S_X10_law s0 s1169 := by rw [t1170]; exact mh_F_pI hF_s1165 (mh_si 18 rfl)
                    refine mw_aload_n 175 rfl 0 dX10_law_174 rfl rfl ?_
                    refine mw_geta 178 rfl dX10_law_175 gf_X10_39 rfl 66 (mh_rf0 hI_s1169 63 rfl) ?_
                    refine mw_iload_n 179 rfl 3 dX10_law_178 rfl rfl ?_
                    refine mw_aload_n 180 rfl 0 dX10_law_179 rfl rfl ?_
                    refine mw_geta 183 rfl dX10_law_180 gf_X10_57 rfl 72 (mh_rf0 hI_s1169 69 rfl) ?_
                    refine mw_iload_n 184 rfl 3 dX10_law_183 rfl rfl ?_
                    refine mw_iald 185 rfl dX10_law_184 rfl r_x867 (by decide) (fun x1171 t1172 => ?_)
                    have r_x1171 : mh_r x1171 (0) (200) := by rw [t1172, show s1169.1 72 = s691.1 72 from (((by rw [t1170]; exact mh_row_n (by decide) : s1169.1 72 = s1165.1 72)).trans (by rw [t1166]; exact mh_row_n (by decide) : s1165.1 72 = s868.1 72)).trans (iw.2.2.1)]; exact hrr.2.1
                    refine mw_iast 186 rfl dX10_law_185 rfl r_x867 (by decide) (fun s1173 t1174 => ?_)
                    have hI_s1173 : mh_I0 B D s1173 := by rw [t1174]; exact w0_66 hI_s1169 r_x1171
                    have hF_s1173 : mh_F S_X10_law s0 s1173 := by rw [t1174]; exact mh_F_pI hF_s1169 (mh_si 19 rfl)
                    refine mw_aload_n 187 rfl 0 dX10_law_186 rfl rfl ?_
                    refine mw_geta 190 rfl dX10_law_187 gf_X10_42 rfl 67 (mh_rf0 hI_s1173 64 rfl) ?_
                    refine mw_iload_n 191 rfl 3 dX10_law_190 rfl rfl ?_
                    refine mw_aload_n 192 rfl 0 dX10_law_191 rfl rfl ?_
                    refine mw_geta 195 rfl dX10_law_192 gf_X10_60 rfl 73 (mh_rf0 hI_s1173 70 rfl) ?_
                    refine mw_iload_n 196 rfl 3 dX10_law_195 rfl rfl ?_
                    refine mw_iald 197 rfl dX10_law_196 rfl r_x867 (by decide) (fun x1175 t1176 => ?_)
                    have r_x1175 : mh_r x1175 (0) (200) := by rw [t1176, show s1173.1 73 = s691.1 73 from ((((by rw [t1174]; exact mh_row_n (by decide) : s1173.1 73 = s1169.1 73)).trans (by rw [t1170]; exact mh_row_n (by decide) : s1169.1 73 = s1165.1 73)).trans (by rw [t1166]; exact mh_row_n (by decide) : s1165.1 73 = s868.1 73)).trans (iw.2.2.2.1)]; exact hrr.2.2
                    refine mw_iast 198 rfl dX10_law_197 rfl r_x867 (by decide) (fun s1177 t1178 => ?_)
                    have hI_s1177 : mh_I0 B D s1177 := by rw [t1178]; exact w0_67 hI_s1173 r_x1175
                    have hF_s1177 : mh_F S_X10_law s0 s1177 := by rw [t1178]; exact mh_F_pI hF_s1173 (mh_si 20 rfl)
                    refine mw_iincR (k := 3) (1) (14) 201 rfl (fun z => [(3, .int z), (0, .ref (G.2.2.2 57)), (1, .int p1), (2, .int x690)]) dX10_law_198 rfl (by decide) (fun _ => rfl) r_x867 (by decide) (by decide) (fun x1179 t1180 r_x1179 => ?_)
                    refine mw_goto 204 rfl 142 dX10_law_201 (by decide) ?_
                    have t1181 : x763 = s1165.1 57 26 := by rw [t1166]; exact (t894).trans (mh_pI_n (by omega)).symm
                    have t1182 : x763 = s1169.1 57 26 := by rw [t1170]; exact (t1181).trans (mh_pI_n (by omega)).symm
                    have t1183 : x763 = s1173.1 57 26 := by rw [t1174]; exact (t1182).trans (mh_pI_n (by omega)).symm
                    have t1184 : x763 = s1177.1 57 26 := by rw [t1178]; exact (t1183).trans (mh_pI_n (by omega)).symm
                    have t1185 : x761 = s1165.1 57 27 := by rw [t1166]; exact (t895).trans (mh_pI_n (by omega)).symm
                    have t1186 : x761 = s1169.1 57 27 := by rw [t1170]; exact (t1185).trans (mh_pI_n (by omega)).symm
                    have t1187 : x761 = s1173.1 57 27 := by rw [t1174]; exact (t1186).trans (mh_pI_n (by omega)).symm
                    have t1188 : x761 = s1177.1 57 27 := by rw [t1178]; exact (t1187).trans (mh_pI_n (by omega)).symm
                    exact mw_lv [1, 2, 3, 0] rfl (ihn2 x1179 s1177 (mh_r_wk r_x1179 (by decide)) hI_s1177 hF_s1177 (by
                        have := (r_x1179).1; have := (r_x1179).2
                        have := (r_p1).1; have := (r_p1).2
                        have := (r_x690).1; have := (r_x690).2
                        have := (r_x623).1; have := (r_x623).2
                        have := (r_x755).1; have := (r_x755).2
                        have := (r_x757).1; have := (r_x757).2
                        have := (r_x759).1; have := (r_x759).2
                        have := (r_x761).1; have := (r_x761).2
                        have := (r_x763).1; have := (r_x763).2
                        have := (r_x1167).1; have := (r_x1167).2
                        have := (r_x1171).1; have := (r_x1171).2
                        have := (r_x1175).1; have := (r_x1175).2
                        have := kc_m1
                        have := kc_0
                        have := kc_1
                        have := kc_59
                        have := r_x867.1; have := r_x867.2
                        have hk : x1179.toNatClampNeg = x867.toNatClampNeg + 1 := by show x1179.toInt.toNat = x867.toInt.toNat + 1; omega
                        have e65 : s1177.1 65 = (mh_u1 (s868.1 65) x867.toNatClampNeg x1167) := by rw [t1178, mh_row_n (by decide), t1174, mh_row_n (by decide), t1170, mh_row_s, t1166, mh_row_n (by decide)]
                        have e66 : s1177.1 66 = (mh_u1 (s868.1 66) x867.toNatClampNeg x1171) := by rw [t1178, mh_row_n (by decide), t1174, mh_row_s, t1170, mh_row_n (by decide), t1166, mh_row_n (by decide)]
                        have e67 : s1177.1 67 = (mh_u1 (s868.1 67) x867.toNatClampNeg x1175) := by rw [t1178, mh_row_s, t1174, mh_row_n (by decide), t1170, mh_row_n (by decide), t1166, mh_row_n (by decide)]
                        refine ⟨fun c hc => ?_, (((((by rw [t1178]; exact mh_row_n (by decide) : s1177.1 71 = s1173.1 71)).trans (by rw [t1174]; exact mh_row_n (by decide) : s1173.1 71 = s1169.1 71)).trans (by rw [t1170]; exact mh_row_n (by decide) : s1169.1 71 = s1165.1 71)).trans (by rw [t1166]; exact mh_row_n (by decide) : s1165.1 71 = s868.1 71)).trans (iw.2.1), (((((by rw [t1178]; exact mh_row_n (by decide) : s1177.1 72 = s1173.1 72)).trans (by rw [t1174]; exact mh_row_n (by decide) : s1173.1 72 = s1169.1 72)).trans (by rw [t1170]; exact mh_row_n (by decide) : s1169.1 72 = s1165.1 72)).trans (by rw [t1166]; exact mh_row_n (by decide) : s1165.1 72 = s868.1 72)).trans (iw.2.2.1), (((((by rw [t1178]; exact mh_row_n (by decide) : s1177.1 73 = s1173.1 73)).trans (by rw [t1174]; exact mh_row_n (by decide) : s1173.1 73 = s1169.1 73)).trans (by rw [t1170]; exact mh_row_n (by decide) : s1169.1 73 = s1165.1 73)).trans (by rw [t1166]; exact mh_row_n (by decide) : s1165.1 73 = s868.1 73)).trans (iw.2.2.2.1), (((((by rw [t1178]; exact mh_row_n (by decide) : s1177.1 74 = s1173.1 74)).trans (by rw [t1174]; exact mh_row_n (by decide) : s1173.1 74 = s1169.1 74)).trans (by rw [t1170]; exact mh_row_n (by decide) : s1169.1 74 = s1165.1 74)).trans (by rw [t1166]; exact mh_row_n (by decide) : s1165.1 74 = s868.1 74)).trans (iw.2.2.2.2.1), (t1184).symm.trans t764, (t1188).symm.trans t762⟩
                        rw [e65, e66, e67]
                        by_cases q : c = x867.toNatClampNeg
                        · subst q
                          have a65 : mh_u1 (s868.1 65) x867.toNatClampNeg x1167 x867.toNatClampNeg = s691.1 71 x867.toNatClampNeg := by rw [show mh_u1 (s868.1 65) x867.toNatClampNeg x1167 x867.toNatClampNeg = x1167 from if_pos rfl, t1168, show s1165.1 71 = s691.1 71 from ((by rw [t1166]; exact mh_row_n (by decide) : s1165.1 71 = s868.1 71)).trans (iw.2.1)]
                          have a66 : mh_u1 (s868.1 66) x867.toNatClampNeg x1171 x867.toNatClampNeg = s691.1 72 x867.toNatClampNeg := by rw [show mh_u1 (s868.1 66) x867.toNatClampNeg x1171 x867.toNatClampNeg = x1171 from if_pos rfl, t1172, show s1169.1 72 = s691.1 72 from (((by rw [t1170]; exact mh_row_n (by decide) : s1169.1 72 = s1165.1 72)).trans (by rw [t1166]; exact mh_row_n (by decide) : s1165.1 72 = s868.1 72)).trans (iw.2.2.1)]
                          have a67 : mh_u1 (s868.1 67) x867.toNatClampNeg x1175 x867.toNatClampNeg = s691.1 73 x867.toNatClampNeg := by rw [show mh_u1 (s868.1 67) x867.toNatClampNeg x1175 x867.toNatClampNeg = x1175 from if_pos rfl, t1176, show s1173.1 73 = s691.1 73 from ((((by rw [t1174]; exact mh_row_n (by decide) : s1173.1 73 = s1169.1 73)).trans (by rw [t1170]; exact mh_row_n (by decide) : s1169.1 73 = s1165.1 73)).trans (by rw [t1166]; exact mh_row_n (by decide) : s1165.1 73 = s868.1 73)).trans (iw.2.2.2.1)]
                          exact ⟨a65, a66, a67⟩
                        · have h9 := iw.1 c (by omega)
                          rw [show mh_u1 (s868.1 65) x867.toNatClampNeg x1167 c = s868.1 65 c from if_neg q, show mh_u1 (s868.1 66) x867.toNatClampNeg x1171 c = s868.1 66 c from if_neg q, show mh_u1 (s868.1 67) x867.toNatClampNeg x1175 c = s868.1 67 c from if_neg q]
                          exact h9) (by have : x1179.toInt = x867.toInt + (1) := t1180; omega))
              exact mw_lv [1, 2, 3, 0] rfl (L142 15 (0) s691 (mh_r_wk rc_0 (by decide)) hI_0 hF_s691 (by
                  exact ⟨fun c hc => absurd hc (by show ¬ c < (0 : Int32).toInt.toNat; rw [kc_0]; omega), rfl, rfl, rfl, rfl, rfl, rfl⟩) (by have := (rc_0).1; have := (rc_0).2; omega))
            · skip
              have r_x759 : mh_r x759 (-2147483648) (-1) := mh_lt1 (show x759.toInt < (0 : Int32).toInt from c768) r_x759 rc_0 (-1) (by decide)
              refine mw_aload_n 136 rfl 0 dX10_law_135 rfl rfl ?_
              refine mw_geti 139 rfl dX10_law_136 gf_X10_194 rfl (fun x1189 t1190 => ?_)
              obtain rfl : x759 = x1189 := t760.trans t1190.symm
              exact mw_iret dX10_law_139 rfl ⟨x759, rfl, ⟨(mh_r_wk r_x759 (by decide)), hI_s691, hF_s691⟩⟩
          · skip
            have r_x690 : mh_r x690 (1) (1) := mh_ne1 (show x690.toInt ≠ (0 : Int32).toInt from c765) r_x690 rc_0 (1) (1) (by decide)
            refine mw_aload_n 59 rfl 0 dX10_law_58 rfl rfl ?_
            refine mw_callVi [] [] 62 rfl dX10_law_59 ml_X10_197 mc_X10_isGood mk_X10_isGood rfl rfl (by decide) (w_X10_isGood l G (d + 7) ⟨by omega, by omega⟩ hI_s691) rfl rfl (Nat.le_of_ble_eq_true rfl) (mh_rok (by omega) (by decide)) (fun x1191 s1192 q1193 => ?_)
            obtain ⟨r_x1191, e0_s1192, rfl⟩ := q1193
            rw [← t760] at e0_s1192
            refine mw_if_eq 65 rfl 128 dX10_law_62 (by decide) (fun c1194 => ?_) (fun c1194 => ?_)
            · skip
              have r_x759 : mh_r x759 (-2147483648) (-1) := ⟨(r_x759).1, by have := (r_x759).2; have : x759.toInt ≠ 0 := (fun q => by have := e0_s1192.2 q; have := c1194; omega); omega⟩
              have r_x1191 : mh_r x1191 (0) (0) := mh_eq1 (show x1191.toInt = (0 : Int32).toInt from c1194) r_x1191 rc_0 (0) (0) (by decide)
              refine mw_aload_n 129 rfl 0 dX10_law_128 rfl rfl ?_
              refine mw_geti 132 rfl dX10_law_129 gf_X10_194 rfl (fun x1195 t1196 => ?_)
              obtain rfl : x759 = x1195 := t760.trans t1196.symm
              refine mw_if_ge 135 rfl 140 dX10_law_132 (by decide) (fun c1197 => ?_) (fun c1197 => ?_)
              · skip
                exact (mh_nle (show (0 : Int32).toInt ≤ x759.toInt from c1197) rc_0 r_x759 (by decide)).elim
              · skip
                refine mw_aload_n 136 rfl 0 dX10_law_135 rfl rfl ?_
                refine mw_geti 139 rfl dX10_law_136 gf_X10_194 rfl (fun x1198 t1199 => ?_)
                obtain rfl : x759 = x1198 := t760.trans t1199.symm
                exact mw_iret dX10_law_139 rfl ⟨x759, rfl, ⟨(mh_r_wk r_x759 (by decide)), hI_s691, hF_s691⟩⟩
            · skip
              have r_x759 : mh_r x759 (0) (0) := ⟨by have := e0_s1192.1 (mh_z1 r_x1191 c1194); omega, by have := e0_s1192.1 (mh_z1 r_x1191 c1194); omega⟩
              have r_x1191 : mh_r x1191 (1) (1) := mh_ne1 (show x1191.toInt ≠ (0 : Int32).toInt from c1194) r_x1191 rc_0 (1) (1) (by decide)
              refine mw_aload_n 66 rfl 0 dX10_law_65 rfl rfl ?_
              refine mw_callVv [] [] 69 rfl dX10_law_66 ml_X10_295 mc_X10_clause mk_X10_clause rfl rfl (by decide) (w_X10_clause l G (d + 0) ⟨by omega, by omega⟩ hI_s691 iv.1 (by rw [← t760]; have := (r_p1).1; have := (r_p1).2; have := (r_x690).1; have := (r_x690).2; have := (r_x623).1; have := (r_x623).2; have := (r_x755).1; have := (r_x755).2; have := (r_x757).1; have := (r_x757).2; have := (r_x759).1; have := (r_x759).2; have := (r_x761).1; have := (r_x761).2; have := (r_x763).1; have := (r_x763).2; have := kc_m1; have := kc_0; have := kc_1; have := kc_59; omega) (iv.2 (by rw [← t760]; have := (r_p1).1; have := (r_p1).2; have := (r_x690).1; have := (r_x690).2; have := (r_x623).1; have := (r_x623).2; have := (r_x755).1; have := (r_x755).2; have := (r_x757).1; have := (r_x757).2; have := (r_x759).1; have := (r_x759).2; have := (r_x761).1; have := (r_x761).2; have := (r_x763).1; have := (r_x763).2; have := kc_m1; have := kc_0; have := kc_1; have := kc_59; omega))) rfl rfl (Nat.le_of_ble_eq_true rfl) (mh_rok (by omega) (by decide)) (fun s1201 q1202 => ?_)
              obtain ⟨e0_s1201, e1_s1201, e2_s1201, hI_s1201, hG_s1201⟩ := q1202
              have hF_s1201 : mh_F S_X10_law s0 s1201 := mh_F_tl hF_s691 hG_s1201 (by decide +kernel)
              obtain ⟨x1203, t1204⟩ : ∃ z : Int32, z = s1201.1 57 23 := ⟨_, rfl⟩
              have t1205 : x757 = s1201.1 57 24 := (t758).trans (hG_s1201 57 24 (mh_nsI (by rfl))).1.symm
              obtain ⟨x1206, t1207⟩ : ∃ z : Int32, z = s1201.1 57 25 := ⟨_, rfl⟩
              obtain ⟨x1208, t1209⟩ : ∃ z : Int32, z = s1201.1 57 27 := ⟨_, rfl⟩
              obtain ⟨x1210, t1211⟩ : ∃ z : Int32, z = s1201.1 57 26 := ⟨_, rfl⟩
              have pw_s1201 : 0 ≤ x1203.toInt ∧ x1203.toInt ≤ x757.toInt ∧ x757.toInt ≤ 200 ∧ 0 ≤ x1208.toInt ∧ x1208.toInt ≤ x1203.toInt ∧ x1206.toInt ≤ 0 ∧ 0 ≤ x1210.toInt ∧ x1210.toInt ≤ 14 := by have h9 := e0_s1201; unfold mh_pw at h9; rw [← t1204, ← t1205, ← t1207, ← t1209, ← t1211] at h9; exact h9
              have r_x1203 : mh_r x1203 (0) (200) := ⟨by have := ((mh_r_full x1203)).1; omega, by have := ((mh_r_full x1203)).2; omega⟩
              have r_x1206 : mh_r x1206 (-2147483648) (0) := ⟨by have := ((mh_r_full x1206)).1; omega, by have := ((mh_r_full x1206)).2; omega⟩
              have r_x1208 : mh_r x1208 (0) (200) := ⟨by have := ((mh_r_full x1208)).1; omega, by have := ((mh_r_full x1208)).2; omega⟩
              have r_x1210 : mh_r x1210 (0) (14) := ⟨by have := ((mh_r_full x1210)).1; omega, by have := ((mh_r_full x1210)).2; omega⟩
              have hcl2 := e2_s1201
              rw [← t756, ← t1204, ← t1207] at hcl2
              refine mw_aload_n 70 rfl 0 dX10_law_69 rfl rfl ?_
              refine mw_callVi [] [] 73 rfl dX10_law_70 ml_X10_197 mc_X10_isGood mk_X10_isGood rfl rfl (by decide) (w_X10_isGood l G (d + 7) ⟨by omega, by omega⟩ hI_s1201) rfl rfl (Nat.le_of_ble_eq_true rfl) (mh_rok (by omega) (by decide)) (fun x1212 s1213 q1214 => ?_)
              obtain ⟨r_x1212, e0_s1213, rfl⟩ := q1214
              rw [← t1207] at e0_s1213
              refine mw_if_eq 76 rfl 91 dX10_law_73 (by decide) (fun c1215 => ?_) (fun c1215 => ?_)
              · skip
                have r_x1206 : mh_r x1206 (-2147483648) (-1) := ⟨(r_x1206).1, by have := (r_x1206).2; have : x1206.toInt ≠ 0 := (fun q => by have := e0_s1213.2 q; have := c1215; omega); omega⟩
                have r_x1212 : mh_r x1212 (0) (0) := mh_eq1 (show x1212.toInt = (0 : Int32).toInt from c1215) r_x1212 rc_0 (0) (0) (by decide)
                refine mw_iconst (v := 0) 92 rfl dX10_law_91 (by decide) ?_
                refine mw_istore_n 93 rfl [(2, .int (0)), (0, .ref (G.2.2.2 57)), (1, .int p1)] dX10_law_92 rfl (by decide) rfl ?_
                refine mw_iload_n 94 rfl 0 dX10_law_93 rfl rfl ?_
                refine mw_if_eq 97 rfl 54 dX10_law_94 (by decide) (fun c1216 => ?_) (fun c1216 => ?_)
                · skip
                  obtain ⟨x1217, t1218⟩ : ∃ z : Int32, z = s1201.1 57 29 := ⟨_, rfl⟩
                  exact mw_lv [1, 2, 0] rfl (ihn1 (0) s1201 (mh_r_wk rc_0 (by decide)) hI_s1201 hF_s1201 (by
                      have := congrArg Int32.toInt t756
                      have := congrArg Int32.toInt t758
                      have := congrArg Int32.toInt t760
                      have := congrArg Int32.toInt t762
                      have := congrArg Int32.toInt t764
                      have := congrArg Int32.toInt t1204
                      have := congrArg Int32.toInt t1205
                      have := congrArg Int32.toInt t1207
                      have := congrArg Int32.toInt t1209
                      have := congrArg Int32.toInt t1211
                      have := congrArg Int32.toInt t1218
                      have := (rc_0).1; have := (rc_0).2
                      have := (r_p1).1; have := (r_p1).2
                      have := (r_x623).1; have := (r_x623).2
                      have := (r_x755).1; have := (r_x755).2
                      have := (r_x757).1; have := (r_x757).2
                      have := (r_x759).1; have := (r_x759).2
                      have := (r_x761).1; have := (r_x761).2
                      have := (r_x763).1; have := (r_x763).2
                      have := (r_x1203).1; have := (r_x1203).2
                      have := (r_x1206).1; have := (r_x1206).2
                      have := (r_x1208).1; have := (r_x1208).2
                      have := (r_x1210).1; have := (r_x1210).2
                      have := kc_m1
                      have := kc_0
                      have := kc_1
                      have := kc_59
                      refine ⟨(show mh_pw s1201 by unfold mh_pw; rw [← t1204, ← t1205, ← t1207, ← t1209, ← t1211]; have := kc_0; have := kc_1; have := (rc_0).1; have := (rc_0).2; have := (r_p1).1; have := (r_p1).2; have := (r_x623).1; have := (r_x623).2; have := (r_x755).1; have := (r_x755).2; have := (r_x757).1; have := (r_x757).2; have := (r_x759).1; have := (r_x759).2; have := (r_x761).1; have := (r_x761).2; have := (r_x763).1; have := (r_x763).2; have := (r_x1203).1; have := (r_x1203).2; have := (r_x1206).1; have := (r_x1206).2; have := (r_x1208).1; have := (r_x1208).2; have := (r_x1210).1; have := (r_x1210).2; have := kc_m1; have := kc_0; have := kc_1; have := kc_59; omega), fun hg9 => ?_⟩
                      have h9 := (e1_s1201 (by rw [← t1207]; omega)).2
                      rw [← t1211, ← t1209] at h9
                      exact mh_ls_c h9 (by rw [← t1211]) (by rw [← t1209]) (rfl) (rfl) (rfl) (rfl)) (by have := congrArg Int32.toInt t756; have := congrArg Int32.toInt t758; have := congrArg Int32.toInt t760; have := congrArg Int32.toInt t762; have := congrArg Int32.toInt t764; have := congrArg Int32.toInt t1204; have := congrArg Int32.toInt t1205; have := congrArg Int32.toInt t1207; have := congrArg Int32.toInt t1209; have := congrArg Int32.toInt t1211; have := congrArg Int32.toInt t1218; have := (rc_0).1; have := (rc_0).2; have := (r_p1).1; have := (r_p1).2; have := (r_x623).1; have := (r_x623).2; have := (r_x755).1; have := (r_x755).2; have := (r_x757).1; have := (r_x757).2; have := (r_x759).1; have := (r_x759).2; have := (r_x761).1; have := (r_x761).2; have := (r_x763).1; have := (r_x763).2; have := (r_x1203).1; have := (r_x1203).2; have := (r_x1206).1; have := (r_x1206).2; have := (r_x1208).1; have := (r_x1208).2; have := (r_x1210).1; have := (r_x1210).2; have := kc_m1; have := kc_0; have := kc_1; have := kc_59; have := r_x690.1; have := r_x690.2; have := kc_0; have := kc_1; omega))
                · skip
                  exact (mh_nne (show (0 : Int32).toInt ≠ (0 : Int32).toInt from c1216) rc_0 rc_0).elim
              · skip
                have r_x1206 : mh_r x1206 (0) (0) := ⟨by have := e0_s1213.1 (mh_z1 r_x1212 c1215); omega, by have := e0_s1213.1 (mh_z1 r_x1212 c1215); omega⟩
                have r_x1212 : mh_r x1212 (1) (1) := mh_ne1 (show x1212.toInt ≠ (0 : Int32).toInt from c1215) r_x1212 rc_0 (1) (1) (by decide)
                refine mw_aload_n 77 rfl 0 dX10_law_76 rfl rfl ?_
                refine mw_geti 80 rfl dX10_law_77 gf_X10_188 rfl (fun x1219 t1220 => ?_)
                obtain rfl : x1203 = x1219 := t1204.trans t1220.symm
                refine mw_aload_n 81 rfl 0 dX10_law_80 rfl rfl ?_
                refine mw_geti 84 rfl dX10_law_81 gf_X10_191 rfl (fun x1221 t1222 => ?_)
                obtain rfl : x757 = x1221 := t1205.trans t1222.symm
                refine mw_icmp_ge 87 rfl 91 dX10_law_84 (by decide) (fun c1223 => ?_) (fun c1223 => ?_)
                · skip
                  refine mw_iconst (v := 0) 92 rfl dX10_law_91 (by decide) ?_
                  refine mw_istore_n 93 rfl [(2, .int (0)), (0, .ref (G.2.2.2 57)), (1, .int p1)] dX10_law_92 rfl (by decide) rfl ?_
                  refine mw_iload_n 94 rfl 0 dX10_law_93 rfl rfl ?_
                  refine mw_if_eq 97 rfl 54 dX10_law_94 (by decide) (fun c1224 => ?_) (fun c1224 => ?_)
                  · skip
                    obtain ⟨x1225, t1226⟩ : ∃ z : Int32, z = s1201.1 57 29 := ⟨_, rfl⟩
                    exact mw_lv [1, 2, 0] rfl (ihn1 (0) s1201 (mh_r_wk rc_0 (by decide)) hI_s1201 hF_s1201 (by
                        have := congrArg Int32.toInt t756
                        have := congrArg Int32.toInt t758
                        have := congrArg Int32.toInt t760
                        have := congrArg Int32.toInt t762
                        have := congrArg Int32.toInt t764
                        have := congrArg Int32.toInt t1204
                        have := congrArg Int32.toInt t1205
                        have := congrArg Int32.toInt t1207
                        have := congrArg Int32.toInt t1209
                        have := congrArg Int32.toInt t1211
                        have := congrArg Int32.toInt t1226
                        have := (rc_0).1; have := (rc_0).2
                        have := (r_p1).1; have := (r_p1).2
                        have := (r_x623).1; have := (r_x623).2
                        have := (r_x755).1; have := (r_x755).2
                        have := (r_x757).1; have := (r_x757).2
                        have := (r_x759).1; have := (r_x759).2
                        have := (r_x761).1; have := (r_x761).2
                        have := (r_x763).1; have := (r_x763).2
                        have := (r_x1203).1; have := (r_x1203).2
                        have := (r_x1206).1; have := (r_x1206).2
                        have := (r_x1208).1; have := (r_x1208).2
                        have := (r_x1210).1; have := (r_x1210).2
                        have := kc_m1
                        have := kc_0
                        have := kc_1
                        have := kc_59
                        refine ⟨(show mh_pw s1201 by unfold mh_pw; rw [← t1204, ← t1205, ← t1207, ← t1209, ← t1211]; have := kc_0; have := kc_1; have := (rc_0).1; have := (rc_0).2; have := (r_p1).1; have := (r_p1).2; have := (r_x623).1; have := (r_x623).2; have := (r_x755).1; have := (r_x755).2; have := (r_x757).1; have := (r_x757).2; have := (r_x759).1; have := (r_x759).2; have := (r_x761).1; have := (r_x761).2; have := (r_x763).1; have := (r_x763).2; have := (r_x1203).1; have := (r_x1203).2; have := (r_x1206).1; have := (r_x1206).2; have := (r_x1208).1; have := (r_x1208).2; have := (r_x1210).1; have := (r_x1210).2; have := kc_m1; have := kc_0; have := kc_1; have := kc_59; omega), fun hg9 => ?_⟩
                        have h9 := (e1_s1201 (by rw [← t1207]; omega)).2
                        rw [← t1211, ← t1209] at h9
                        exact mh_ls_c h9 (by rw [← t1211]) (by rw [← t1209]) (rfl) (rfl) (rfl) (rfl)) (by have := congrArg Int32.toInt t756; have := congrArg Int32.toInt t758; have := congrArg Int32.toInt t760; have := congrArg Int32.toInt t762; have := congrArg Int32.toInt t764; have := congrArg Int32.toInt t1204; have := congrArg Int32.toInt t1205; have := congrArg Int32.toInt t1207; have := congrArg Int32.toInt t1209; have := congrArg Int32.toInt t1211; have := congrArg Int32.toInt t1226; have := (rc_0).1; have := (rc_0).2; have := (r_p1).1; have := (r_p1).2; have := (r_x623).1; have := (r_x623).2; have := (r_x755).1; have := (r_x755).2; have := (r_x757).1; have := (r_x757).2; have := (r_x759).1; have := (r_x759).2; have := (r_x761).1; have := (r_x761).2; have := (r_x763).1; have := (r_x763).2; have := (r_x1203).1; have := (r_x1203).2; have := (r_x1206).1; have := (r_x1206).2; have := (r_x1208).1; have := (r_x1208).2; have := (r_x1210).1; have := (r_x1210).2; have := kc_m1; have := kc_0; have := kc_1; have := kc_59; have := r_x690.1; have := r_x690.2; have := kc_0; have := kc_1; omega))
                  · skip
                    exact (mh_nne (show (0 : Int32).toInt ≠ (0 : Int32).toInt from c1224) rc_0 rc_0).elim
                · skip
                  have r_x1203 : mh_r x1203 (0) (199) := mh_lt1 c1223 r_x1203 r_x757 (199) (by decide)
                  have r_x757 : mh_r x757 (1) (200) := mh_lt2 c1223 r_x1203 r_x757 (1) (by decide)
                  refine mw_iconst (v := 1) 88 rfl dX10_law_87 (by decide) ?_
                  refine mw_goto 91 rfl 92 dX10_law_88 (by decide) ?_
                  refine mw_istore_n 93 rfl [(2, .int (1)), (0, .ref (G.2.2.2 57)), (1, .int p1)] dX10_law_92 rfl (by decide) rfl ?_
                  refine mw_iload_n 94 rfl 0 dX10_law_93 rfl rfl ?_
                  refine mw_if_eq 97 rfl 54 dX10_law_94 (by decide) (fun c1227 => ?_) (fun c1227 => ?_)
                  · skip
                    exact (mh_neq (show (1 : Int32).toInt = (0 : Int32).toInt from c1227) rc_1 rc_0 (by decide)).elim
                  · skip
                    refine mw_aload_n 98 rfl 1 dX10_law_97 rfl rfl ?_
                    refine mw_callVi [] [] 101 rfl dX10_law_98 ml_X10_214 mc_X10_here mk_X10_here rfl rfl (by decide) (w_X10_here l G (d + 7) ⟨by omega, by omega⟩ hI_s1201 (by rw [← t1204, ← t1205]; have := (rc_1).1; have := (rc_1).2; have := (r_p1).1; have := (r_p1).2; have := (r_x623).1; have := (r_x623).2; have := (r_x755).1; have := (r_x755).2; have := (r_x757).1; have := (r_x757).2; have := (r_x759).1; have := (r_x759).2; have := (r_x761).1; have := (r_x761).2; have := (r_x763).1; have := (r_x763).2; have := (r_x1203).1; have := (r_x1203).2; have := (r_x1206).1; have := (r_x1206).2; have := (r_x1208).1; have := (r_x1208).2; have := (r_x1210).1; have := (r_x1210).2; have := kc_m1; have := kc_0; have := kc_1; have := kc_59; omega)) rfl rfl (Nat.le_of_ble_eq_true rfl) (mh_rok (by omega) (by decide)) (fun x1228 s1229 q1230 => ?_)
                    obtain ⟨r_x1228, e0_s1229, rfl⟩ := q1230
                    have hq_x1228 : x1228.toInt ≠ 0 → x1203.toInt < x757.toInt := fun q => by rw [t1204, t1205]; exact mh_hr_lt (by rw [← e0_s1229]; exact q)
                    refine mw_bipush (v := 59) 103 rfl dX10_law_101 (by decide) ?_
                    refine mw_icmp_eq 106 rfl 115 dX10_law_103 (by decide) (fun c1231 => ?_) (fun c1231 => ?_)
                    · skip
                      have r_x1228 : mh_r x1228 (59) (59) := mh_eq1 c1231 r_x1228 rc_59 (59) (59) (by decide)
                      refine mw_aload_n 116 rfl 1 dX10_law_115 rfl rfl ?_
                      refine mw_dup 117 rfl dX10_law_116 rfl ?_
                      refine mw_geti 120 rfl dX10_law_117 gf_X10_188 rfl (fun x1232 t1233 => ?_)
                      obtain rfl : x1203 = x1232 := t1204.trans t1233.symm
                      refine mw_iconst (v := 1) 121 rfl dX10_law_120 (by decide) ?_
                      refine mw_iadd 122 rfl (1) (200) dX10_law_121 r_x1203 rc_1 (by decide) (fun x1234 t1235 r_x1234 => ?_)
                      refine mw_puti 125 rfl dX10_law_122 pf_X10_188 rfl (fun s1236 t1237 => ?_)
                      have hI_s1236 : mh_I B D s1236 := by rw [t1237]; exact wr_57_23 hI_s1201
                      have hF_s1236 : mh_F S_X10_law s0 s1236 := by rw [t1237]; exact mh_F_pI hF_s1201 (mh_sj 1 rfl)
                      refine mw_goto 128 rfl 54 dX10_law_125 (by decide) ?_
                      have t1238 : x1234 = s1236.1 57 23 := by rw [t1237]; exact mh_pI_s.symm
                      have t1239 : x757 = s1236.1 57 24 := by rw [t1237]; exact (t1205).trans (mh_pI_n (by omega)).symm
                      have t1240 : x1206 = s1236.1 57 25 := by rw [t1237]; exact (t1207).trans (mh_pI_n (by omega)).symm
                      have t1241 : x1208 = s1236.1 57 27 := by rw [t1237]; exact (t1209).trans (mh_pI_n (by omega)).symm
                      have t1242 : x1210 = s1236.1 57 26 := by rw [t1237]; exact (t1211).trans (mh_pI_n (by omega)).symm
                      obtain ⟨x1243, t1244⟩ : ∃ z : Int32, z = s1236.1 57 29 := ⟨_, rfl⟩
                      exact mw_lv [1, 2, 0] rfl (ihn1 (1) s1236 (mh_r_wk rc_1 (by decide)) hI_s1236 hF_s1236 (by
                          have := congrArg Int32.toInt t756
                          have := congrArg Int32.toInt t758
                          have := congrArg Int32.toInt t760
                          have := congrArg Int32.toInt t762
                          have := congrArg Int32.toInt t764
                          have := congrArg Int32.toInt t1204
                          have := congrArg Int32.toInt t1205
                          have := congrArg Int32.toInt t1207
                          have := congrArg Int32.toInt t1209
                          have := congrArg Int32.toInt t1211
                          have := congrArg Int32.toInt t1238
                          have := congrArg Int32.toInt t1239
                          have := congrArg Int32.toInt t1240
                          have := congrArg Int32.toInt t1241
                          have := congrArg Int32.toInt t1242
                          have := congrArg Int32.toInt t1244
                          have := (rc_1).1; have := (rc_1).2
                          have := (r_p1).1; have := (r_p1).2
                          have := (r_x623).1; have := (r_x623).2
                          have := (r_x755).1; have := (r_x755).2
                          have := (r_x757).1; have := (r_x757).2
                          have := (r_x759).1; have := (r_x759).2
                          have := (r_x761).1; have := (r_x761).2
                          have := (r_x763).1; have := (r_x763).2
                          have := (r_x1203).1; have := (r_x1203).2
                          have := (r_x1206).1; have := (r_x1206).2
                          have := (r_x1208).1; have := (r_x1208).2
                          have := (r_x1210).1; have := (r_x1210).2
                          have := (r_x1234).1; have := (r_x1234).2
                          have := kc_m1
                          have := kc_0
                          have := kc_1
                          have := kc_59
                          refine ⟨(show mh_pw s1236 by unfold mh_pw; rw [← t1238, ← t1239, ← t1240, ← t1241, ← t1242]; have := kc_0; have := kc_1; have := (rc_1).1; have := (rc_1).2; have := (r_p1).1; have := (r_p1).2; have := (r_x623).1; have := (r_x623).2; have := (r_x755).1; have := (r_x755).2; have := (r_x757).1; have := (r_x757).2; have := (r_x759).1; have := (r_x759).2; have := (r_x761).1; have := (r_x761).2; have := (r_x763).1; have := (r_x763).2; have := (r_x1203).1; have := (r_x1203).2; have := (r_x1206).1; have := (r_x1206).2; have := (r_x1208).1; have := (r_x1208).2; have := (r_x1210).1; have := (r_x1210).2; have := (r_x1234).1; have := (r_x1234).2; have := kc_m1; have := kc_0; have := kc_1; have := kc_59; omega), fun hg9 => ?_⟩
                          have h9 := (e1_s1201 (by rw [← t1207]; omega)).2
                          rw [← t1211, ← t1209] at h9
                          exact mh_ls_c h9 (by rw [← t1242]) (by rw [← t1241]) ((by rw [t1237]; exact mh_row_n (by decide) : s1236.1 71 = s1201.1 71)) ((by rw [t1237]; exact mh_row_n (by decide) : s1236.1 72 = s1201.1 72)) ((by rw [t1237]; exact mh_row_n (by decide) : s1236.1 73 = s1201.1 73)) ((by rw [t1237]; exact mh_row_n (by decide) : s1236.1 74 = s1201.1 74))) (by have := congrArg Int32.toInt t756; have := congrArg Int32.toInt t758; have := congrArg Int32.toInt t760; have := congrArg Int32.toInt t762; have := congrArg Int32.toInt t764; have := congrArg Int32.toInt t1204; have := congrArg Int32.toInt t1205; have := congrArg Int32.toInt t1207; have := congrArg Int32.toInt t1209; have := congrArg Int32.toInt t1211; have := congrArg Int32.toInt t1238; have := congrArg Int32.toInt t1239; have := congrArg Int32.toInt t1240; have := congrArg Int32.toInt t1241; have := congrArg Int32.toInt t1242; have := congrArg Int32.toInt t1244; have := (rc_1).1; have := (rc_1).2; have := (r_p1).1; have := (r_p1).2; have := (r_x623).1; have := (r_x623).2; have := (r_x755).1; have := (r_x755).2; have := (r_x757).1; have := (r_x757).2; have := (r_x759).1; have := (r_x759).2; have := (r_x761).1; have := (r_x761).2; have := (r_x763).1; have := (r_x763).2; have := (r_x1203).1; have := (r_x1203).2; have := (r_x1206).1; have := (r_x1206).2; have := (r_x1208).1; have := (r_x1208).2; have := (r_x1210).1; have := (r_x1210).2; have := (r_x1234).1; have := (r_x1234).2; have := kc_m1; have := kc_0; have := kc_1; have := kc_59; have := r_x690.1; have := r_x690.2; have := kc_0; have := kc_1; omega))
                    · skip
                      refine mw_aload_n 107 rfl 1 dX10_law_106 rfl rfl ?_
                      refine mw_iconst (v := 1) 108 rfl dX10_law_107 (by decide) ?_
                      refine mw_aload_n 109 rfl 1 dX10_law_108 rfl rfl ?_
                      refine mw_geti 112 rfl dX10_law_109 gf_X10_188 rfl (fun x1245 t1246 => ?_)
                      obtain rfl : x1203 = x1245 := t1204.trans t1246.symm
                      refine mw_callVv [.int (1), .int x1203] [] 115 rfl dX10_law_112 ml_X10_210 mc_X10_wrongs mk_X10_wrongs rfl rfl (by decide) (w_X10_wrongs l G (d + 7) ⟨by omega, by omega⟩ hI_s1201 (1) (mh_r_wk rc_1 (by decide)) x1203 (mh_r_wk r_x1203 (by decide)) (by rw [← t1207]; have := (rc_1).1; have := (rc_1).2; have := (r_p1).1; have := (r_p1).2; have := (r_x623).1; have := (r_x623).2; have := (r_x755).1; have := (r_x755).2; have := (r_x757).1; have := (r_x757).2; have := (r_x759).1; have := (r_x759).2; have := (r_x761).1; have := (r_x761).2; have := (r_x763).1; have := (r_x763).2; have := (r_x1203).1; have := (r_x1203).2; have := (r_x1206).1; have := (r_x1206).2; have := (r_x1208).1; have := (r_x1208).2; have := (r_x1210).1; have := (r_x1210).2; have := kc_m1; have := kc_0; have := kc_1; have := kc_59; omega)) rfl rfl (Nat.le_of_ble_eq_true rfl) (mh_rok (by omega) (by decide)) (fun s1248 q1249 => ?_)
                      obtain ⟨e0_s1248, hI_s1248, hG_s1248⟩ := q1249
                      have hF_s1248 : mh_F S_X10_law s0 s1248 := mh_F_tl hF_s1201 hG_s1248 (by decide +kernel)
                      obtain ⟨x1250, t1251⟩ : ∃ z : Int32, z = s1248.1 57 25 := ⟨_, rfl⟩
                      have hw_s1248 : x1250.toInt < 0 := by rw [t1251]; exact e0_s1248
                      have r_x1250 : mh_r x1250 (-2147483648) (-1) := ⟨((mh_r_full x1250)).1, by have := hw_s1248; omega⟩
                      refine mw_aload_n 116 rfl 1 dX10_law_115 rfl rfl ?_
                      refine mw_dup 117 rfl dX10_law_116 rfl ?_
                      refine mw_geti 120 rfl dX10_law_117 gf_X10_188 rfl (fun x1252 t1253 => ?_)
                      have t1254 : x1203 = s1248.1 57 23 := (t1204).trans (hG_s1248 57 23 (mh_nsI (by rfl))).1.symm
                      obtain rfl : x1203 = x1252 := t1254.trans t1253.symm
                      refine mw_iconst (v := 1) 121 rfl dX10_law_120 (by decide) ?_
                      refine mw_iadd 122 rfl (1) (200) dX10_law_121 r_x1203 rc_1 (by decide) (fun x1255 t1256 r_x1255 => ?_)
                      refine mw_puti 125 rfl dX10_law_122 pf_X10_188 rfl (fun s1257 t1258 => ?_)
                      have hI_s1257 : mh_I B D s1257 := by rw [t1258]; exact wr_57_23 hI_s1248
                      have hF_s1257 : mh_F S_X10_law s0 s1257 := by rw [t1258]; exact mh_F_pI hF_s1248 (mh_sj 1 rfl)
                      refine mw_goto 128 rfl 54 dX10_law_125 (by decide) ?_
                      have t1259 : x1255 = s1257.1 57 23 := by rw [t1258]; exact mh_pI_s.symm
                      have t1260 : x757 = s1248.1 57 24 := (t1205).trans (hG_s1248 57 24 (mh_nsI (by rfl))).1.symm
                      have t1261 : x757 = s1257.1 57 24 := by rw [t1258]; exact (t1260).trans (mh_pI_n (by omega)).symm
                      have t1262 : x1250 = s1257.1 57 25 := by rw [t1258]; exact (t1251).trans (mh_pI_n (by omega)).symm
                      have t1263 : x1208 = s1248.1 57 27 := (t1209).trans (hG_s1248 57 27 (mh_nsI (by rfl))).1.symm
                      have t1264 : x1208 = s1257.1 57 27 := by rw [t1258]; exact (t1263).trans (mh_pI_n (by omega)).symm
                      have t1265 : x1210 = s1248.1 57 26 := (t1211).trans (hG_s1248 57 26 (mh_nsI (by rfl))).1.symm
                      have t1266 : x1210 = s1257.1 57 26 := by rw [t1258]; exact (t1265).trans (mh_pI_n (by omega)).symm
                      obtain ⟨x1267, t1268⟩ : ∃ z : Int32, z = s1257.1 57 29 := ⟨_, rfl⟩
                      exact mw_lv [1, 2, 0] rfl (ihn1 (1) s1257 (mh_r_wk rc_1 (by decide)) hI_s1257 hF_s1257 (by
                          have := congrArg Int32.toInt t756
                          have := congrArg Int32.toInt t758
                          have := congrArg Int32.toInt t760
                          have := congrArg Int32.toInt t762
                          have := congrArg Int32.toInt t764
                          have := congrArg Int32.toInt t1204
                          have := congrArg Int32.toInt t1205
                          have := congrArg Int32.toInt t1207
                          have := congrArg Int32.toInt t1209
                          have := congrArg Int32.toInt t1211
                          have := congrArg Int32.toInt t1251
                          have := congrArg Int32.toInt t1254
                          have := congrArg Int32.toInt t1259
                          have := congrArg Int32.toInt t1261
                          have := congrArg Int32.toInt t1262
                          have := congrArg Int32.toInt t1264
                          have := congrArg Int32.toInt t1266
                          have := congrArg Int32.toInt t1268
                          have := (rc_1).1; have := (rc_1).2
                          have := (r_p1).1; have := (r_p1).2
                          have := (r_x623).1; have := (r_x623).2
                          have := (r_x755).1; have := (r_x755).2
                          have := (r_x757).1; have := (r_x757).2
                          have := (r_x759).1; have := (r_x759).2
                          have := (r_x761).1; have := (r_x761).2
                          have := (r_x763).1; have := (r_x763).2
                          have := (r_x1203).1; have := (r_x1203).2
                          have := (r_x1206).1; have := (r_x1206).2
                          have := (r_x1208).1; have := (r_x1208).2
                          have := (r_x1210).1; have := (r_x1210).2
                          have := (r_x1250).1; have := (r_x1250).2
                          have := (r_x1255).1; have := (r_x1255).2
                          have := kc_m1
                          have := kc_0
                          have := kc_1
                          have := kc_59
                          refine ⟨(show mh_pw s1257 by unfold mh_pw; rw [← t1259, ← t1261, ← t1262, ← t1264, ← t1266]; have := kc_0; have := kc_1; have := (rc_1).1; have := (rc_1).2; have := (r_p1).1; have := (r_p1).2; have := (r_x623).1; have := (r_x623).2; have := (r_x755).1; have := (r_x755).2; have := (r_x757).1; have := (r_x757).2; have := (r_x759).1; have := (r_x759).2; have := (r_x761).1; have := (r_x761).2; have := (r_x763).1; have := (r_x763).2; have := (r_x1203).1; have := (r_x1203).2; have := (r_x1206).1; have := (r_x1206).2; have := (r_x1208).1; have := (r_x1208).2; have := (r_x1210).1; have := (r_x1210).2; have := (r_x1250).1; have := (r_x1250).2; have := (r_x1255).1; have := (r_x1255).2; have := kc_m1; have := kc_0; have := kc_1; have := kc_59; omega), fun hg9 => ?_⟩
                          have h9 := (e1_s1201 (by rw [← t1207]; omega)).2
                          rw [← t1211, ← t1209] at h9
                          exact mh_ls_c h9 (by rw [← t1266]) (by rw [← t1264]) (((by rw [t1258]; exact mh_row_n (by decide) : s1257.1 71 = s1248.1 71)).trans (mh_F_row hG_s1248 71 rfl)) (((by rw [t1258]; exact mh_row_n (by decide) : s1257.1 72 = s1248.1 72)).trans (mh_F_row hG_s1248 72 rfl)) (((by rw [t1258]; exact mh_row_n (by decide) : s1257.1 73 = s1248.1 73)).trans (mh_F_row hG_s1248 73 rfl)) (((by rw [t1258]; exact mh_row_n (by decide) : s1257.1 74 = s1248.1 74)).trans (mh_F_row hG_s1248 74 rfl))) (by have := congrArg Int32.toInt t756; have := congrArg Int32.toInt t758; have := congrArg Int32.toInt t760; have := congrArg Int32.toInt t762; have := congrArg Int32.toInt t764; have := congrArg Int32.toInt t1204; have := congrArg Int32.toInt t1205; have := congrArg Int32.toInt t1207; have := congrArg Int32.toInt t1209; have := congrArg Int32.toInt t1211; have := congrArg Int32.toInt t1251; have := congrArg Int32.toInt t1254; have := congrArg Int32.toInt t1259; have := congrArg Int32.toInt t1261; have := congrArg Int32.toInt t1262; have := congrArg Int32.toInt t1264; have := congrArg Int32.toInt t1266; have := congrArg Int32.toInt t1268; have := (rc_1).1; have := (rc_1).2; have := (r_p1).1; have := (r_p1).2; have := (r_x623).1; have := (r_x623).2; have := (r_x755).1; have := (r_x755).2; have := (r_x757).1; have := (r_x757).2; have := (r_x759).1; have := (r_x759).2; have := (r_x761).1; have := (r_x761).2; have := (r_x763).1; have := (r_x763).2; have := (r_x1203).1; have := (r_x1203).2; have := (r_x1206).1; have := (r_x1206).2; have := (r_x1208).1; have := (r_x1208).2; have := (r_x1210).1; have := (r_x1210).2; have := (r_x1250).1; have := (r_x1250).2; have := (r_x1255).1; have := (r_x1255).2; have := kc_m1; have := kc_0; have := kc_1; have := kc_59; have := r_x690.1; have := r_x690.2; have := kc_0; have := kc_1; omega))
      have t1269 : (0) = s628.1 57 23 := by rw [t629]; exact mh_pI_s.symm
      have t1270 : (0) = s630.1 57 23 := by rw [t631]; exact (t1269).trans (mh_pI_n (by omega)).symm
      have t1271 : (0) = s632.1 57 23 := by rw [t633]; exact (t1270).trans (mh_pI_n (by omega)).symm
      have t1272 : (0) = s634.1 57 23 := by rw [t635]; exact (t1271).trans (mh_pI_n (by omega)).symm
      have t1273 : (0) = s636.1 57 23 := by rw [t637]; exact (t1272).trans (mh_pI_n (by omega)).symm
      have t1274 : p1 = s630.1 57 24 := by rw [t631]; exact mh_pI_s.symm
      have t1275 : p1 = s632.1 57 24 := by rw [t633]; exact (t1274).trans (mh_pI_n (by omega)).symm
      have t1276 : p1 = s634.1 57 24 := by rw [t635]; exact (t1275).trans (mh_pI_n (by omega)).symm
      have t1277 : p1 = s636.1 57 24 := by rw [t637]; exact (t1276).trans (mh_pI_n (by omega)).symm
      have t1278 : (0) = s632.1 57 25 := by rw [t633]; exact mh_pI_s.symm
      have t1279 : (0) = s634.1 57 25 := by rw [t635]; exact (t1278).trans (mh_pI_n (by omega)).symm
      have t1280 : (0) = s636.1 57 25 := by rw [t637]; exact (t1279).trans (mh_pI_n (by omega)).symm
      have t1281 : (0) = s636.1 57 27 := by rw [t637]; exact mh_pI_s.symm
      have t1282 : (0) = s634.1 57 26 := by rw [t635]; exact mh_pI_s.symm
      have t1283 : (0) = s636.1 57 26 := by rw [t637]; exact (t1282).trans (mh_pI_n (by omega)).symm
      obtain ⟨x1284, t1285⟩ : ∃ z : Int32, z = s636.1 57 29 := ⟨_, rfl⟩
      exact mw_lv [1, 2, 0] rfl (L54 806 (1) s636 (mh_r_wk rc_1 (by decide)) hI_s636 hF_s636 (by
          refine ⟨(show mh_pw s636 by unfold mh_pw; rw [← t1273, ← t1277, ← t1280, ← t1281, ← t1283]; have := kc_0; have := kc_1; have := (rc_1).1; have := (rc_1).2; have := (r_p1).1; have := (r_p1).2; have := (r_x623).1; have := (r_x623).2; have := (rc_0).1; have := (rc_0).2; have := kc_m1; have := kc_0; have := kc_1; have := kc_59; omega), fun _ => ?_⟩
          rw [show (s636.1 57 26).toInt.toNat = 0 by rw [← t1283]; decide]
          exact mh_ls_0) (by have := congrArg Int32.toInt t1273; have := congrArg Int32.toInt t1277; have := congrArg Int32.toInt t1280; have := congrArg Int32.toInt t1281; have := congrArg Int32.toInt t1283; have := congrArg Int32.toInt t1285; have := (rc_1).1; have := (rc_1).2; have := (r_p1).1; have := (r_p1).2; have := (r_x623).1; have := (r_x623).2; have := (rc_0).1; have := (rc_0).2; have := kc_m1; have := kc_0; have := kc_1; have := kc_59; have := kc_0; have := kc_1; omega))
    · skip
      have r_x623 : mh_r x623 (0) (199) := mh_lt1 c625 r_x623 r_p1 (199) (by decide)
      refine mw_iconst (v := -1) 21 rfl dX10_law_20 (by decide) ?_
      exact mw_iret dX10_law_21 rfl ⟨(-1), rfl, ⟨(mh_r_wk rc_m1 (by decide)), hI0, hF0⟩⟩

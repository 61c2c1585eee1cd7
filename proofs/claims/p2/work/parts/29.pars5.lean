def S_X10_clause : List (Nat × Nat) := [(70, 9999), (71, 9999), (57, 23), (57, 29), (57, 28), (57, 31), (76, 9999), (57, 25), (74, 9999), (75, 9999), (57, 27), (72, 9999), (73, 9999), (57, 26), (57, 30)]
def P_X10_clause (B D : Int) (s0 : mh_H) : mh_H → Prop := fun s => (mh_pw s) ∧ ((s.1 57 25).toInt = 0 → (s.1 57 26).toInt = (s0.1 57 26).toInt + 1 ∧ mh_ls s (s.1 57 26).toInt.toNat (s.1 57 27).toInt) ∧ ((s0.1 57 23).toInt ≤ (s.1 57 23).toInt ∧ ((s.1 57 25).toInt = 0 → (s0.1 57 23).toInt + 1 ≤ (s.1 57 23).toInt)) ∧ mh_I B D s ∧ mh_F S_X10_clause s0 s
set_option maxRecDepth 100000 in
set_option maxHeartbeats 4000000 in
theorem w_X10_clause (l : Launch) (G : mh_G) (d : Nat) {B D : Int} (hB : B ≤ 1860000000 ∧ D ≤ 1860000000) {s0 : mh_H} (hI0 : mh_I B D s0) (hw : mh_pw s0) (hg : (s0.1 57 25).toInt = 0) (hl : mh_ls s0 (s0.1 57 26).toInt.toNat (s0.1 57 27).toInt) : mh_Mv l G (d + 7) mM_X10_clause [.ref (G.2.2.2 57)] s0 (P_X10_clause B D s0) := by
  refine mh_enter (lv := [(0, .ref (G.2.2.2 57))]) (by decide) rfl (Nat.le_of_ble_eq_true rfl) ?_
  have hF0 : mh_F S_X10_clause s0 s0 := mh_F_rf
  obtain ⟨x123, t124⟩ : ∃ z : Int32, z = s0.1 57 23 := ⟨_, rfl⟩
  obtain ⟨x125, t126⟩ : ∃ z : Int32, z = s0.1 57 24 := ⟨_, rfl⟩
  obtain ⟨x127, t128⟩ : ∃ z : Int32, z = s0.1 57 25 := ⟨_, rfl⟩
  obtain ⟨x129, t130⟩ : ∃ z : Int32, z = s0.1 57 27 := ⟨_, rfl⟩
  obtain ⟨x131, t132⟩ : ∃ z : Int32, z = s0.1 57 26 := ⟨_, rfl⟩
  have pw_s0 : 0 ≤ x123.toInt ∧ x123.toInt ≤ x125.toInt ∧ x125.toInt ≤ 200 ∧ 0 ≤ x129.toInt ∧ x129.toInt ≤ x123.toInt ∧ x127.toInt ≤ 0 ∧ 0 ≤ x131.toInt ∧ x131.toInt ≤ 14 := by have h9 := hw; unfold mh_pw at h9; rw [← t124, ← t126, ← t128, ← t130, ← t132] at h9; exact h9
  have r_x123 : mh_r x123 (0) (200) := ⟨by have := ((mh_r_full x123)).1; omega, by have := ((mh_r_full x123)).2; omega⟩
  have r_x125 : mh_r x125 (0) (200) := ⟨by have := ((mh_r_full x125)).1; omega, by have := ((mh_r_full x125)).2; omega⟩
  have r_x127 : mh_r x127 (-2147483648) (0) := ⟨by have := ((mh_r_full x127)).1; omega, by have := ((mh_r_full x127)).2; omega⟩
  have r_x129 : mh_r x129 (0) (200) := ⟨by have := ((mh_r_full x129)).1; omega, by have := ((mh_r_full x129)).2; omega⟩
  have r_x131 : mh_r x131 (0) (14) := ⟨by have := ((mh_r_full x131)).1; omega, by have := ((mh_r_full x131)).2; omega⟩
  rw [← t128] at hg
  rw [← t132, ← t130] at hl
  obtain ⟨b, hbq⟩ : ∃ b : Int, b = x129.toInt := ⟨_, rfl⟩
  have r_x127 : mh_r x127 (0) (0) := ⟨by omega, by omega⟩
  refine mw_aload_n 1 rfl 0 dX10_clause_0 rfl rfl ?_
  refine mw_callVi [] [] 4 rfl dX10_clause_1 ml_X10_214 mc_X10_here mk_X10_here rfl rfl (by decide) (w_X10_here l G (d + 6) ⟨by omega, by omega⟩ hI0 (by rw [← t124, ← t126]; have := (r_x123).1; have := (r_x123).2; have := (r_x125).1; have := (r_x125).2; have := (r_x127).1; have := (r_x127).2; have := (r_x129).1; have := (r_x129).2; have := (r_x131).1; have := (r_x131).2; have := kc_0; have := kc_1; have := kc_4; have := kc_14; omega)) rfl rfl (Nat.le_of_ble_eq_true rfl) (mh_rok (by omega) (by decide)) (fun x133 s134 q135 => ?_)
  obtain ⟨r_x133, e0_s134, rfl⟩ := q135
  have hq_x133 : x133.toInt ≠ 0 → x123.toInt < x125.toInt := fun q => by rw [t124, t126]; exact mh_hr_lt (by rw [← e0_s134]; exact q)
  refine mw_istore_n 5 rfl [(1, .int x133), (0, .ref (G.2.2.2 57))] dX10_clause_4 rfl (by decide) rfl ?_
  refine mw_iload_n 6 rfl 0 dX10_clause_5 rfl rfl ?_
  refine mw_callSi [.int x133] [] 9 rfl dX10_clause_6 ml_X10_284 mc_X10_isClause mk_X10_isClause (w_X10_isClause l G (d + 6) ⟨by omega, by omega⟩ hI0 x133) rfl rfl (Nat.le_of_ble_eq_true rfl) (mh_rok (by omega) (by decide)) (fun x136 s137 q138 => ?_)
  obtain ⟨r_x136, e0_s137, rfl⟩ := q138
  refine mw_if_ne 12 rfl 24 dX10_clause_9 (by decide) (fun c139 => ?_) (fun c139 => ?_)
  · skip
    have hk_x136 := e0_s137 (mh_z1 r_x136 c139)
    have r_x136 : mh_r x136 (1) (1) := mh_ne1 (show x136.toInt ≠ (0 : Int32).toInt from c139) r_x136 rc_0 (1) (1) (by decide)
    refine mw_aload_n 25 rfl 1 dX10_clause_24 rfl rfl ?_
    refine mw_geti 28 rfl dX10_clause_25 gf_X10_287 rfl (fun x140 t141 => ?_)
    obtain rfl : x131 = x140 := t132.trans t141.symm
    refine mw_bipush (v := 14) 30 rfl dX10_clause_28 (by decide) ?_
    refine mw_icmp_ne 33 rfl 42 dX10_clause_30 (by decide) (fun c142 => ?_) (fun c142 => ?_)
    · skip
      have r_x131 : mh_r x131 (0) (13) := mh_ne1 c142 r_x131 rc_14 (0) (13) (by decide)
      refine mw_aload_n 43 rfl 1 dX10_clause_42 rfl rfl ?_
      refine mw_callVi [] [] 46 rfl dX10_clause_43 ml_X10_197 mc_X10_isGood mk_X10_isGood rfl rfl (by decide) (w_X10_isGood l G (d + 6) ⟨by omega, by omega⟩ hI0) rfl rfl (Nat.le_of_ble_eq_true rfl) (mh_rok (by omega) (by decide)) (fun x143 s144 q145 => ?_)
      obtain ⟨r_x143, e0_s144, rfl⟩ := q145
      rw [← t128] at e0_s144
      refine mw_if_ne 49 rfl 50 dX10_clause_46 (by decide) (fun c146 => ?_) (fun c146 => ?_)
      · skip
        have r_x143 : mh_r x143 (1) (1) := mh_ne1 (show x143.toInt ≠ (0 : Int32).toInt from c146) r_x143 rc_0 (1) (1) (by decide)
        refine mw_aload_n 51 rfl 1 dX10_clause_50 rfl rfl ?_
        refine mw_geta 54 rfl dX10_clause_51 gf_X10_51 rfl 70 (mh_rf hI0 67 rfl) ?_
        refine mw_aload_n 55 rfl 1 dX10_clause_54 rfl rfl ?_
        refine mw_geti 58 rfl dX10_clause_55 gf_X10_287 rfl (fun x147 t148 => ?_)
        obtain rfl : x131 = x147 := t132.trans t148.symm
        refine mw_iload_n 59 rfl 0 dX10_clause_58 rfl rfl ?_
        refine mw_iast 60 rfl dX10_clause_59 rfl r_x131 (by decide) (fun s149 t150 => ?_)
        have hI_s149 : mh_I B D s149 := by rw [t150]; exact wr_70 hI0
        have hF_s149 : mh_F S_X10_clause s0 s149 := by rw [t150]; exact mh_F_pI hF0 (mh_si 0 rfl)
        refine mw_aload_n 61 rfl 1 dX10_clause_60 rfl rfl ?_
        refine mw_geta 64 rfl dX10_clause_61 gf_X10_54 rfl 71 (mh_rf hI_s149 68 rfl) ?_
        refine mw_aload_n 65 rfl 1 dX10_clause_64 rfl rfl ?_
        refine mw_geti 68 rfl dX10_clause_65 gf_X10_287 rfl (fun x151 t152 => ?_)
        have t153 : x131 = s149.1 57 26 := by rw [t150]; exact (t132).trans (mh_pI_n (by omega)).symm
        obtain rfl : x131 = x151 := t153.trans t152.symm
        refine mw_aload_n 69 rfl 1 dX10_clause_68 rfl rfl ?_
        refine mw_geti 72 rfl dX10_clause_69 gf_X10_201 rfl (fun x154 t155 => ?_)
        have t156 : x129 = s149.1 57 27 := by rw [t150]; exact (t130).trans (mh_pI_n (by omega)).symm
        obtain rfl : x129 = x154 := t156.trans t155.symm
        refine mw_iast 73 rfl dX10_clause_72 rfl r_x131 (by decide) (fun s157 t158 => ?_)
        have hI_s157 : mh_I B D s157 := by rw [t158]; exact wr_71 hI_s149
        have hF_s157 : mh_F S_X10_clause s0 s157 := by rw [t158]; exact mh_F_pI hF_s149 (mh_si 1 rfl)
        refine mw_aload_n 74 rfl 1 dX10_clause_73 rfl rfl ?_
        refine mw_dup 75 rfl dX10_clause_74 rfl ?_
        refine mw_geti 78 rfl dX10_clause_75 gf_X10_188 rfl (fun x159 t160 => ?_)
        have t161 : x123 = s149.1 57 23 := by rw [t150]; exact (t124).trans (mh_pI_n (by omega)).symm
        have t162 : x123 = s157.1 57 23 := by rw [t158]; exact (t161).trans (mh_pI_n (by omega)).symm
        obtain rfl : x123 = x159 := t162.trans t160.symm
        refine mw_iconst (v := 1) 79 rfl dX10_clause_78 (by decide) ?_
        refine mw_iadd 80 rfl (1) (201) dX10_clause_79 r_x123 rc_1 (by decide) (fun x163 t164 r_x163 => ?_)
        refine mw_puti 83 rfl dX10_clause_80 pf_X10_188 rfl (fun s165 t166 => ?_)
        have hI_s165 : mh_I B D s165 := by rw [t166]; exact wr_57_23 hI_s157
        have hF_s165 : mh_F S_X10_clause s0 s165 := by rw [t166]; exact mh_F_pI hF_s157 (mh_sj 2 rfl)
        refine mw_aload_n 84 rfl 1 dX10_clause_83 rfl rfl ?_
        refine mw_iconst (v := 0) 85 rfl dX10_clause_84 (by decide) ?_
        refine mw_puti 88 rfl dX10_clause_85 pf_X10_204 rfl (fun s167 t168 => ?_)
        have hI_s167 : mh_I B D s167 := by rw [t168]; exact wr_57_29 hI_s165
        have hF_s167 : mh_F S_X10_clause s0 s167 := by rw [t168]; exact mh_F_pI hF_s165 (mh_sj 3 rfl)
        refine mw_aload_n 89 rfl 1 dX10_clause_88 rfl rfl ?_
        refine mw_iconst (v := 0) 90 rfl dX10_clause_89 (by decide) ?_
        refine mw_puti 93 rfl dX10_clause_90 pf_X10_207 rfl (fun s169 t170 => ?_)
        have hI_s169 : mh_I B D s169 := by rw [t170]; exact wr_57_28 hI_s167
        have hF_s169 : mh_F S_X10_clause s0 s169 := by rw [t170]; exact mh_F_pI hF_s167 (mh_sj 4 rfl)
        refine mw_aload_n 94 rfl 1 dX10_clause_93 rfl rfl ?_
        have t171 : x163 = s165.1 57 23 := by rw [t166]; exact mh_pI_s.symm
        have t172 : x163 = s167.1 57 23 := by rw [t168]; exact (t171).trans (mh_pI_n (by omega)).symm
        have t173 : x163 = s169.1 57 23 := by rw [t170]; exact (t172).trans (mh_pI_n (by omega)).symm
        have t174 : x125 = s149.1 57 24 := by rw [t150]; exact (t126).trans (mh_pI_n (by omega)).symm
        have t175 : x125 = s157.1 57 24 := by rw [t158]; exact (t174).trans (mh_pI_n (by omega)).symm
        have t176 : x125 = s165.1 57 24 := by rw [t166]; exact (t175).trans (mh_pI_n (by omega)).symm
        have t177 : x125 = s167.1 57 24 := by rw [t168]; exact (t176).trans (mh_pI_n (by omega)).symm
        have t178 : x125 = s169.1 57 24 := by rw [t170]; exact (t177).trans (mh_pI_n (by omega)).symm
        have t179 : x127 = s149.1 57 25 := by rw [t150]; exact (t128).trans (mh_pI_n (by omega)).symm
        have t180 : x127 = s157.1 57 25 := by rw [t158]; exact (t179).trans (mh_pI_n (by omega)).symm
        have t181 : x127 = s165.1 57 25 := by rw [t166]; exact (t180).trans (mh_pI_n (by omega)).symm
        have t182 : x127 = s167.1 57 25 := by rw [t168]; exact (t181).trans (mh_pI_n (by omega)).symm
        have t183 : x127 = s169.1 57 25 := by rw [t170]; exact (t182).trans (mh_pI_n (by omega)).symm
        have t184 : x129 = s157.1 57 27 := by rw [t158]; exact (t156).trans (mh_pI_n (by omega)).symm
        have t185 : x129 = s165.1 57 27 := by rw [t166]; exact (t184).trans (mh_pI_n (by omega)).symm
        have t186 : x129 = s167.1 57 27 := by rw [t168]; exact (t185).trans (mh_pI_n (by omega)).symm
        have t187 : x129 = s169.1 57 27 := by rw [t170]; exact (t186).trans (mh_pI_n (by omega)).symm
        have t188 : (0) = s167.1 57 29 := by rw [t168]; exact mh_pI_s.symm
        have t189 : (0) = s169.1 57 29 := by rw [t170]; exact (t188).trans (mh_pI_n (by omega)).symm
        refine mw_callVv [] [] 97 rfl dX10_clause_94 ml_X10_263 mc_X10_value mk_X10_value rfl rfl (by decide) (w_X10_value l G (d + 2) ⟨by omega, by omega⟩ hI_s169 b (show mh_pb b s169 by unfold mh_pb; rw [← t173, ← t178, ← t183, ← t187, ← t189]; have := kc_0; have := kc_1; have := (r_x133).1; have := (r_x133).2; have := (r_x123).1; have := (r_x123).2; have := (r_x125).1; have := (r_x125).2; have := (r_x127).1; have := (r_x127).2; have := (r_x129).1; have := (r_x129).2; have := (r_x131).1; have := (r_x131).2; have := (r_x163).1; have := (r_x163).2; have := (rc_0).1; have := (rc_0).2; have := (rc_1).1; have := (rc_1).2; have := kc_0; have := kc_1; have := kc_4; have := kc_14; omega) (fun hg9 => by rw [show (s169.1 57 27).toInt = b by rw [← t187]; omega]; exact mh_pdr_0 (by rw [← t189]; have := (r_x133).1; have := (r_x133).2; have := (r_x123).1; have := (r_x123).2; have := (r_x125).1; have := (r_x125).2; have := (r_x127).1; have := (r_x127).2; have := (r_x129).1; have := (r_x129).2; have := (r_x131).1; have := (r_x131).2; have := (r_x163).1; have := (r_x163).2; have := (rc_0).1; have := (rc_0).2; have := kc_0; have := kc_1; have := kc_4; have := kc_14; have := kc_0; omega)) (by rw [← t183]; have := (r_x133).1; have := (r_x133).2; have := (r_x123).1; have := (r_x123).2; have := (r_x125).1; have := (r_x125).2; have := (r_x127).1; have := (r_x127).2; have := (r_x129).1; have := (r_x129).2; have := (r_x131).1; have := (r_x131).2; have := (r_x163).1; have := (r_x163).2; have := (rc_0).1; have := (rc_0).2; have := kc_0; have := kc_1; have := kc_4; have := kc_14; omega) (fun j hj => absurd hj (by rw [← t189]; have := (r_x133).1; have := (r_x133).2; have := (r_x123).1; have := (r_x123).2; have := (r_x125).1; have := (r_x125).2; have := (r_x127).1; have := (r_x127).2; have := (r_x129).1; have := (r_x129).2; have := (r_x131).1; have := (r_x131).2; have := (r_x163).1; have := (r_x163).2; have := (rc_0).1; have := (rc_0).2; have := kc_0; have := kc_1; have := kc_4; have := kc_14; have := kc_0; omega))) rfl rfl (Nat.le_of_ble_eq_true rfl) (mh_rok (by omega) (by decide)) (fun s191 q192 => ?_)
        obtain ⟨e0_s191, e1_s191, e2_s191, e3_s191, e4_s191, hI_s191, hG_s191⟩ := q192
        have hF_s191 : mh_F S_X10_clause s0 s191 := mh_F_tl hF_s169 hG_s191 (by decide +kernel)
        obtain ⟨x193, t194⟩ : ∃ z : Int32, z = s191.1 57 23 := ⟨_, rfl⟩
        have t195 : x125 = s191.1 57 24 := (t178).trans (hG_s191 57 24 (mh_nsI (by rfl))).1.symm
        obtain ⟨x196, t197⟩ : ∃ z : Int32, z = s191.1 57 25 := ⟨_, rfl⟩
        obtain ⟨x198, t199⟩ : ∃ z : Int32, z = s191.1 57 27 := ⟨_, rfl⟩
        obtain ⟨x200, t201⟩ : ∃ z : Int32, z = s191.1 57 29 := ⟨_, rfl⟩
        have pb_s191 : 0 ≤ x193.toInt ∧ x193.toInt ≤ x125.toInt ∧ x125.toInt ≤ 200 ∧ 0 ≤ x200.toInt ∧ 0 ≤ b ∧ b ≤ x198.toInt ∧ x200.toInt + x198.toInt ≤ x193.toInt ∧ x196.toInt ≤ 0 := by have h9 := e0_s191; unfold mh_pb at h9; rw [← t194, ← t195, ← t197, ← t199, ← t201] at h9; exact h9
        have r_x193 : mh_r x193 (0) (200) := ⟨by have := ((mh_r_full x193)).1; omega, by have := ((mh_r_full x193)).2; omega⟩
        have r_x196 : mh_r x196 (-2147483648) (0) := ⟨by have := ((mh_r_full x196)).1; omega, by have := ((mh_r_full x196)).2; omega⟩
        have r_x198 : mh_r x198 (0) (200) := ⟨by have := ((mh_r_full x198)).1; omega, by have := ((mh_r_full x198)).2; omega⟩
        have r_x200 : mh_r x200 (0) (200) := ⟨by have := ((mh_r_full x200)).1; omega, by have := ((mh_r_full x200)).2; omega⟩
        have hva_s191 := e4_s191
        rw [← t173, ← t194, ← t197] at hva_s191
        have hvb_s191 := e2_s191
        rw [← t189, ← t201, ← t197] at hvb_s191
        refine mw_aload_n 98 rfl 1 dX10_clause_97 rfl rfl ?_
        refine mw_geta 101 rfl dX10_clause_98 gf_X10_57 rfl 72 (mh_rf hI_s191 69 rfl) ?_
        refine mw_aload_n 102 rfl 1 dX10_clause_101 rfl rfl ?_
        refine mw_geti 105 rfl dX10_clause_102 gf_X10_287 rfl (fun x202 t203 => ?_)
        have t204 : x131 = s157.1 57 26 := by rw [t158]; exact (t153).trans (mh_pI_n (by omega)).symm
        have t205 : x131 = s165.1 57 26 := by rw [t166]; exact (t204).trans (mh_pI_n (by omega)).symm
        have t206 : x131 = s167.1 57 26 := by rw [t168]; exact (t205).trans (mh_pI_n (by omega)).symm
        have t207 : x131 = s169.1 57 26 := by rw [t170]; exact (t206).trans (mh_pI_n (by omega)).symm
        have t208 : x131 = s191.1 57 26 := (t207).trans (hG_s191 57 26 (mh_nsI (by rfl))).1.symm
        obtain rfl : x131 = x202 := t208.trans t203.symm
        refine mw_aload_n 106 rfl 1 dX10_clause_105 rfl rfl ?_
        refine mw_geti 109 rfl dX10_clause_106 gf_X10_201 rfl (fun x209 t210 => ?_)
        obtain rfl : x198 = x209 := t199.trans t210.symm
        refine mw_iast 110 rfl dX10_clause_109 rfl r_x131 (by decide) (fun s211 t212 => ?_)
        have hI_s211 : mh_I B D s211 := by rw [t212]; exact wr_72 hI_s191
        have hF_s211 : mh_F S_X10_clause s0 s211 := by rw [t212]; exact mh_F_pI hF_s191 (mh_si 11 rfl)
        refine mw_aload_n 111 rfl 1 dX10_clause_110 rfl rfl ?_
        refine mw_callVi [] [] 114 rfl dX10_clause_111 ml_X10_197 mc_X10_isGood mk_X10_isGood rfl rfl (by decide) (w_X10_isGood l G (d + 6) ⟨by omega, by omega⟩ hI_s211) rfl rfl (Nat.le_of_ble_eq_true rfl) (mh_rok (by omega) (by decide)) (fun x213 s214 q215 => ?_)
        obtain ⟨r_x213, e0_s214, rfl⟩ := q215
        have t216 : x196 = s211.1 57 25 := by rw [t212]; exact (t197).trans (mh_pI_n (by omega)).symm
        rw [← t216] at e0_s214
        refine mw_if_eq 117 rfl 121 dX10_clause_114 (by decide) (fun c217 => ?_) (fun c217 => ?_)
        · skip
          have r_x196 : mh_r x196 (-2147483648) (-1) := ⟨(r_x196).1, by have := (r_x196).2; have : x196.toInt ≠ 0 := (fun q => by have := e0_s214.2 q; have := c217; omega); omega⟩
          have r_x213 : mh_r x213 (0) (0) := mh_eq1 (show x213.toInt = (0 : Int32).toInt from c217) r_x213 rc_0 (0) (0) (by decide)
          refine mw_aload_n 122 rfl 1 dX10_clause_121 rfl rfl ?_
          refine mw_geta 125 rfl dX10_clause_122 gf_X10_60 rfl 73 (mh_rf hI_s211 70 rfl) ?_
          refine mw_aload_n 126 rfl 1 dX10_clause_125 rfl rfl ?_
          refine mw_geti 129 rfl dX10_clause_126 gf_X10_287 rfl (fun x218 t219 => ?_)
          have t220 : x131 = s211.1 57 26 := by rw [t212]; exact (t208).trans (mh_pI_n (by omega)).symm
          obtain rfl : x131 = x218 := t220.trans t219.symm
          refine mw_aload_n 130 rfl 1 dX10_clause_129 rfl rfl ?_
          refine mw_geti 133 rfl dX10_clause_130 gf_X10_201 rfl (fun x221 t222 => ?_)
          have t223 : x198 = s211.1 57 27 := by rw [t212]; exact (t199).trans (mh_pI_n (by omega)).symm
          obtain rfl : x198 = x221 := t223.trans t222.symm
          refine mw_iast 134 rfl dX10_clause_133 rfl r_x131 (by decide) (fun s224 t225 => ?_)
          have hI_s224 : mh_I B D s224 := by rw [t225]; exact wr_73 hI_s211
          have hF_s224 : mh_F S_X10_clause s0 s224 := by rw [t225]; exact mh_F_pI hF_s211 (mh_si 12 rfl)
          refine mw_aload_n 135 rfl 1 dX10_clause_134 rfl rfl ?_
          refine mw_dup 136 rfl dX10_clause_135 rfl ?_
          refine mw_geti 139 rfl dX10_clause_136 gf_X10_287 rfl (fun x226 t227 => ?_)
          have t228 : x131 = s224.1 57 26 := by rw [t225]; exact (t220).trans (mh_pI_n (by omega)).symm
          obtain rfl : x131 = x226 := t228.trans t227.symm
          refine mw_iconst (v := 1) 140 rfl dX10_clause_139 (by decide) ?_
          refine mw_iadd 141 rfl (1) (14) dX10_clause_140 r_x131 rc_1 (by decide) (fun x229 t230 r_x229 => ?_)
          refine mw_puti 144 rfl dX10_clause_141 pf_X10_287 rfl (fun s231 t232 => ?_)
          have hI_s231 : mh_I B D s231 := by rw [t232]; exact wr_57_26 hI_s224
          have hF_s231 : mh_F S_X10_clause s0 s231 := by rw [t232]; exact mh_F_pI hF_s224 (mh_sj 13 rfl)
          refine mw_vret dX10_clause_144 rfl ⟨rfl, ⟨?_, ?_, ?_, hI_s231, hF_s231⟩⟩
          · skip
            have t233 : x193 = s211.1 57 23 := by rw [t212]; exact (t194).trans (mh_pI_n (by omega)).symm
            have t234 : x193 = s224.1 57 23 := by rw [t225]; exact (t233).trans (mh_pI_n (by omega)).symm
            have t235 : x193 = s231.1 57 23 := by rw [t232]; exact (t234).trans (mh_pI_n (by omega)).symm
            have t236 : x125 = s211.1 57 24 := by rw [t212]; exact (t195).trans (mh_pI_n (by omega)).symm
            have t237 : x125 = s224.1 57 24 := by rw [t225]; exact (t236).trans (mh_pI_n (by omega)).symm
            have t238 : x125 = s231.1 57 24 := by rw [t232]; exact (t237).trans (mh_pI_n (by omega)).symm
            have t239 : x196 = s224.1 57 25 := by rw [t225]; exact (t216).trans (mh_pI_n (by omega)).symm
            have t240 : x196 = s231.1 57 25 := by rw [t232]; exact (t239).trans (mh_pI_n (by omega)).symm
            have t241 : x198 = s224.1 57 27 := by rw [t225]; exact (t223).trans (mh_pI_n (by omega)).symm
            have t242 : x198 = s231.1 57 27 := by rw [t232]; exact (t241).trans (mh_pI_n (by omega)).symm
            have t243 : x229 = s231.1 57 26 := by rw [t232]; exact mh_pI_s.symm
            exact (show mh_pw s231 by unfold mh_pw; rw [← t235, ← t238, ← t240, ← t242, ← t243]; have := kc_0; have := kc_1; have := (r_x133).1; have := (r_x133).2; have := (r_x123).1; have := (r_x123).2; have := (r_x125).1; have := (r_x125).2; have := (r_x127).1; have := (r_x127).2; have := (r_x129).1; have := (r_x129).2; have := (r_x131).1; have := (r_x131).2; have := (r_x163).1; have := (r_x163).2; have := (rc_0).1; have := (rc_0).2; have := (r_x193).1; have := (r_x193).2; have := (r_x196).1; have := (r_x196).2; have := (r_x198).1; have := (r_x198).2; have := (r_x200).1; have := (r_x200).2; have := (r_x229).1; have := (r_x229).2; have := (rc_1).1; have := (rc_1).2; have := kc_0; have := kc_1; have := kc_4; have := kc_14; omega)
          · skip
            have t244 : x193 = s211.1 57 23 := by rw [t212]; exact (t194).trans (mh_pI_n (by omega)).symm
            have t245 : x193 = s224.1 57 23 := by rw [t225]; exact (t244).trans (mh_pI_n (by omega)).symm
            have t246 : x193 = s231.1 57 23 := by rw [t232]; exact (t245).trans (mh_pI_n (by omega)).symm
            have t247 : x125 = s211.1 57 24 := by rw [t212]; exact (t195).trans (mh_pI_n (by omega)).symm
            have t248 : x125 = s224.1 57 24 := by rw [t225]; exact (t247).trans (mh_pI_n (by omega)).symm
            have t249 : x125 = s231.1 57 24 := by rw [t232]; exact (t248).trans (mh_pI_n (by omega)).symm
            have t250 : x196 = s224.1 57 25 := by rw [t225]; exact (t216).trans (mh_pI_n (by omega)).symm
            have t251 : x196 = s231.1 57 25 := by rw [t232]; exact (t250).trans (mh_pI_n (by omega)).symm
            have t252 : x198 = s224.1 57 27 := by rw [t225]; exact (t223).trans (mh_pI_n (by omega)).symm
            have t253 : x198 = s231.1 57 27 := by rw [t232]; exact (t252).trans (mh_pI_n (by omega)).symm
            have t254 : x229 = s231.1 57 26 := by rw [t232]; exact mh_pI_s.symm
            have t255 : x200 = s211.1 57 29 := by rw [t212]; exact (t201).trans (mh_pI_n (by omega)).symm
            have t256 : x200 = s224.1 57 29 := by rw [t225]; exact (t255).trans (mh_pI_n (by omega)).symm
            have t257 : x200 = s231.1 57 29 := by rw [t232]; exact (t256).trans (mh_pI_n (by omega)).symm
            intro hg9
            exfalso
            have := congrArg Int32.toInt t124
            have := congrArg Int32.toInt t126
            have := congrArg Int32.toInt t128
            have := congrArg Int32.toInt t130
            have := congrArg Int32.toInt t132
            have := congrArg Int32.toInt t153
            have := congrArg Int32.toInt t156
            have := congrArg Int32.toInt t162
            have := congrArg Int32.toInt t173
            have := congrArg Int32.toInt t178
            have := congrArg Int32.toInt t183
            have := congrArg Int32.toInt t187
            have := congrArg Int32.toInt t189
            have := congrArg Int32.toInt t194
            have := congrArg Int32.toInt t195
            have := congrArg Int32.toInt t197
            have := congrArg Int32.toInt t199
            have := congrArg Int32.toInt t201
            have := congrArg Int32.toInt t208
            have := congrArg Int32.toInt t216
            have := congrArg Int32.toInt t220
            have := congrArg Int32.toInt t223
            have := congrArg Int32.toInt t228
            have := congrArg Int32.toInt t246
            have := congrArg Int32.toInt t249
            have := congrArg Int32.toInt t251
            have := congrArg Int32.toInt t253
            have := congrArg Int32.toInt t254
            have := congrArg Int32.toInt t257
            have := (r_x133).1; have := (r_x133).2
            have := (r_x123).1; have := (r_x123).2
            have := (r_x125).1; have := (r_x125).2
            have := (r_x127).1; have := (r_x127).2
            have := (r_x129).1; have := (r_x129).2
            have := (r_x131).1; have := (r_x131).2
            have := (r_x163).1; have := (r_x163).2
            have := (rc_0).1; have := (rc_0).2
            have := (r_x193).1; have := (r_x193).2
            have := (r_x196).1; have := (r_x196).2
            have := (r_x198).1; have := (r_x198).2
            have := (r_x200).1; have := (r_x200).2
            have := (r_x229).1; have := (r_x229).2
            have := (rc_1).1; have := (rc_1).2
            have := kc_0
            have := kc_1
            have := kc_4
            have := kc_14
            omega
          · skip
            have t258 : x193 = s211.1 57 23 := by rw [t212]; exact (t194).trans (mh_pI_n (by omega)).symm
            have t259 : x193 = s224.1 57 23 := by rw [t225]; exact (t258).trans (mh_pI_n (by omega)).symm
            have t260 : x193 = s231.1 57 23 := by rw [t232]; exact (t259).trans (mh_pI_n (by omega)).symm
            have t261 : x125 = s211.1 57 24 := by rw [t212]; exact (t195).trans (mh_pI_n (by omega)).symm
            have t262 : x125 = s224.1 57 24 := by rw [t225]; exact (t261).trans (mh_pI_n (by omega)).symm
            have t263 : x125 = s231.1 57 24 := by rw [t232]; exact (t262).trans (mh_pI_n (by omega)).symm
            have t264 : x196 = s224.1 57 25 := by rw [t225]; exact (t216).trans (mh_pI_n (by omega)).symm
            have t265 : x196 = s231.1 57 25 := by rw [t232]; exact (t264).trans (mh_pI_n (by omega)).symm
            have t266 : x198 = s224.1 57 27 := by rw [t225]; exact (t223).trans (mh_pI_n (by omega)).symm
            have t267 : x198 = s231.1 57 27 := by rw [t232]; exact (t266).trans (mh_pI_n (by omega)).symm
            have t268 : x229 = s231.1 57 26 := by rw [t232]; exact mh_pI_s.symm
            have t269 : x200 = s211.1 57 29 := by rw [t212]; exact (t201).trans (mh_pI_n (by omega)).symm
            have t270 : x200 = s224.1 57 29 := by rw [t225]; exact (t269).trans (mh_pI_n (by omega)).symm
            have t271 : x200 = s231.1 57 29 := by rw [t232]; exact (t270).trans (mh_pI_n (by omega)).symm
            have := congrArg Int32.toInt t124
            have := congrArg Int32.toInt t126
            have := congrArg Int32.toInt t128
            have := congrArg Int32.toInt t130
            have := congrArg Int32.toInt t132
            have := congrArg Int32.toInt t153
            have := congrArg Int32.toInt t156
            have := congrArg Int32.toInt t162
            have := congrArg Int32.toInt t173
            have := congrArg Int32.toInt t178
            have := congrArg Int32.toInt t183
            have := congrArg Int32.toInt t187
            have := congrArg Int32.toInt t189
            have := congrArg Int32.toInt t194
            have := congrArg Int32.toInt t195
            have := congrArg Int32.toInt t197
            have := congrArg Int32.toInt t199
            have := congrArg Int32.toInt t201
            have := congrArg Int32.toInt t208
            have := congrArg Int32.toInt t216
            have := congrArg Int32.toInt t220
            have := congrArg Int32.toInt t223
            have := congrArg Int32.toInt t228
            have := congrArg Int32.toInt t260
            have := congrArg Int32.toInt t263
            have := congrArg Int32.toInt t265
            have := congrArg Int32.toInt t267
            have := congrArg Int32.toInt t268
            have := congrArg Int32.toInt t271
            have := (r_x133).1; have := (r_x133).2
            have := (r_x123).1; have := (r_x123).2
            have := (r_x125).1; have := (r_x125).2
            have := (r_x127).1; have := (r_x127).2
            have := (r_x129).1; have := (r_x129).2
            have := (r_x131).1; have := (r_x131).2
            have := (r_x163).1; have := (r_x163).2
            have := (rc_0).1; have := (rc_0).2
            have := (r_x193).1; have := (r_x193).2
            have := (r_x196).1; have := (r_x196).2
            have := (r_x198).1; have := (r_x198).2
            have := (r_x200).1; have := (r_x200).2
            have := (r_x229).1; have := (r_x229).2
            have := (rc_1).1; have := (rc_1).2
            have := kc_0
            have := kc_1
            have := kc_4
            have := kc_14
            omega
        · skip
          have r_x196 : mh_r x196 (0) (0) := ⟨by have := e0_s214.1 (mh_z1 r_x213 c217); omega, by have := e0_s214.1 (mh_z1 r_x213 c217); omega⟩
          have r_x213 : mh_r x213 (1) (1) := mh_ne1 (show x213.toInt ≠ (0 : Int32).toInt from c217) r_x213 rc_0 (1) (1) (by decide)
          have t272 : x198 = s211.1 57 27 := by rw [t212]; exact (t199).trans (mh_pI_n (by omega)).symm
          obtain ⟨b2, hb2⟩ : ∃ b : Int, b = x198.toInt := ⟨_, rfl⟩
          refine mw_aload_n 118 rfl 1 dX10_clause_117 rfl rfl ?_
          have t273 : x193 = s211.1 57 23 := by rw [t212]; exact (t194).trans (mh_pI_n (by omega)).symm
          have t274 : x125 = s211.1 57 24 := by rw [t212]; exact (t195).trans (mh_pI_n (by omega)).symm
          have t275 : x200 = s211.1 57 29 := by rw [t212]; exact (t201).trans (mh_pI_n (by omega)).symm
          have hv29 := (hvb_s191 (by have := (r_x133).1; have := (r_x133).2; have := (r_x123).1; have := (r_x123).2; have := (r_x125).1; have := (r_x125).2; have := (r_x127).1; have := (r_x127).2; have := (r_x129).1; have := (r_x129).2; have := (r_x131).1; have := (r_x131).2; have := (r_x163).1; have := (r_x163).2; have := (rc_0).1; have := (rc_0).2; have := (r_x193).1; have := (r_x193).2; have := (r_x196).1; have := (r_x196).2; have := (r_x198).1; have := (r_x198).2; have := (r_x200).1; have := (r_x200).2; have := kc_0; have := kc_1; have := kc_4; have := kc_14; omega)).1
          refine mw_callVv [] [] 121 rfl dX10_clause_118 ml_X10_290 mc_X10_condition mk_X10_condition rfl rfl (by decide) (w_X10_condition l G (d + 0) ⟨by omega, by omega⟩ hI_s211 b2 (show mh_pb b2 s211 by unfold mh_pb; rw [← t273, ← t274, ← t216, ← t272, ← t275]; have := kc_0; have := kc_1; have := (r_x133).1; have := (r_x133).2; have := (r_x123).1; have := (r_x123).2; have := (r_x125).1; have := (r_x125).2; have := (r_x127).1; have := (r_x127).2; have := (r_x129).1; have := (r_x129).2; have := (r_x131).1; have := (r_x131).2; have := (r_x163).1; have := (r_x163).2; have := (rc_0).1; have := (rc_0).2; have := (r_x193).1; have := (r_x193).2; have := (r_x196).1; have := (r_x196).2; have := (r_x198).1; have := (r_x198).2; have := (r_x200).1; have := (r_x200).2; have := kc_0; have := kc_1; have := kc_4; have := kc_14; omega) (fun hg9 => by rw [show (s211.1 57 27).toInt = b2 by rw [← t272]; omega]; exact mh_pdr_0 (by rw [← t275]; have := (r_x133).1; have := (r_x133).2; have := (r_x123).1; have := (r_x123).2; have := (r_x125).1; have := (r_x125).2; have := (r_x127).1; have := (r_x127).2; have := (r_x129).1; have := (r_x129).2; have := (r_x131).1; have := (r_x131).2; have := (r_x163).1; have := (r_x163).2; have := (rc_0).1; have := (rc_0).2; have := (r_x193).1; have := (r_x193).2; have := (r_x196).1; have := (r_x196).2; have := (r_x198).1; have := (r_x198).2; have := (r_x200).1; have := (r_x200).2; have := kc_0; have := kc_1; have := kc_4; have := kc_14; have := kc_0; omega)) (by rw [← t216]; have := (r_x133).1; have := (r_x133).2; have := (r_x123).1; have := (r_x123).2; have := (r_x125).1; have := (r_x125).2; have := (r_x127).1; have := (r_x127).2; have := (r_x129).1; have := (r_x129).2; have := (r_x131).1; have := (r_x131).2; have := (r_x163).1; have := (r_x163).2; have := (rc_0).1; have := (rc_0).2; have := (r_x193).1; have := (r_x193).2; have := (r_x196).1; have := (r_x196).2; have := (r_x198).1; have := (r_x198).2; have := (r_x200).1; have := (r_x200).2; have := kc_0; have := kc_1; have := kc_4; have := kc_14; have := kc_0; omega) (by rw [← t275]; have := (r_x133).1; have := (r_x133).2; have := (r_x123).1; have := (r_x123).2; have := (r_x125).1; have := (r_x125).2; have := (r_x127).1; have := (r_x127).2; have := (r_x129).1; have := (r_x129).2; have := (r_x131).1; have := (r_x131).2; have := (r_x163).1; have := (r_x163).2; have := (rc_0).1; have := (rc_0).2; have := (r_x193).1; have := (r_x193).2; have := (r_x196).1; have := (r_x196).2; have := (r_x198).1; have := (r_x198).2; have := (r_x200).1; have := (r_x200).2; have := kc_0; have := kc_1; have := kc_4; have := kc_14; have := kc_0; omega)) rfl rfl (Nat.le_of_ble_eq_true rfl) (mh_rok (by omega) (by decide)) (fun s277 q278 => ?_)
          obtain ⟨e0_s277, e1_s277, e2_s277, e3_s277, hI_s277, hG_s277⟩ := q278
          have hF_s277 : mh_F S_X10_clause s0 s277 := mh_F_tl hF_s211 hG_s277 (by decide +kernel)
          obtain ⟨x279, t280⟩ : ∃ z : Int32, z = s277.1 57 23 := ⟨_, rfl⟩
          have t281 : x125 = s277.1 57 24 := (t274).trans (hG_s277 57 24 (mh_nsI (by rfl))).1.symm
          obtain ⟨x282, t283⟩ : ∃ z : Int32, z = s277.1 57 25 := ⟨_, rfl⟩
          obtain ⟨x284, t285⟩ : ∃ z : Int32, z = s277.1 57 27 := ⟨_, rfl⟩
          obtain ⟨x286, t287⟩ : ∃ z : Int32, z = s277.1 57 29 := ⟨_, rfl⟩
          have pb_s277 : 0 ≤ x279.toInt ∧ x279.toInt ≤ x125.toInt ∧ x125.toInt ≤ 200 ∧ 0 ≤ x286.toInt ∧ 0 ≤ b2 ∧ b2 ≤ x284.toInt ∧ x286.toInt + x284.toInt ≤ x279.toInt ∧ x282.toInt ≤ 0 := by have h9 := e0_s277; unfold mh_pb at h9; rw [← t280, ← t281, ← t283, ← t285, ← t287] at h9; exact h9
          have r_x279 : mh_r x279 (0) (200) := ⟨by have := ((mh_r_full x279)).1; omega, by have := ((mh_r_full x279)).2; omega⟩
          have r_x282 : mh_r x282 (-2147483648) (0) := ⟨by have := ((mh_r_full x282)).1; omega, by have := ((mh_r_full x282)).2; omega⟩
          have r_x284 : mh_r x284 (0) (200) := ⟨by have := ((mh_r_full x284)).1; omega, by have := ((mh_r_full x284)).2; omega⟩
          have r_x286 : mh_r x286 (0) (200) := ⟨by have := ((mh_r_full x286)).1; omega, by have := ((mh_r_full x286)).2; omega⟩
          have hco3 := e3_s277
          rw [← t273, ← t280] at hco3
          refine mw_aload_n 122 rfl 1 dX10_clause_121 rfl rfl ?_
          refine mw_geta 125 rfl dX10_clause_122 gf_X10_60 rfl 73 (mh_rf hI_s277 70 rfl) ?_
          refine mw_aload_n 126 rfl 1 dX10_clause_125 rfl rfl ?_
          refine mw_geti 129 rfl dX10_clause_126 gf_X10_287 rfl (fun x288 t289 => ?_)
          have t290 : x131 = s211.1 57 26 := by rw [t212]; exact (t208).trans (mh_pI_n (by omega)).symm
          have t291 : x131 = s277.1 57 26 := (t290).trans (hG_s277 57 26 (mh_nsI (by rfl))).1.symm
          obtain rfl : x131 = x288 := t291.trans t289.symm
          refine mw_aload_n 130 rfl 1 dX10_clause_129 rfl rfl ?_
          refine mw_geti 133 rfl dX10_clause_130 gf_X10_201 rfl (fun x292 t293 => ?_)
          obtain rfl : x284 = x292 := t285.trans t293.symm
          refine mw_iast 134 rfl dX10_clause_133 rfl r_x131 (by decide) (fun s294 t295 => ?_)
          have hI_s294 : mh_I B D s294 := by rw [t295]; exact wr_73 hI_s277
          have hF_s294 : mh_F S_X10_clause s0 s294 := by rw [t295]; exact mh_F_pI hF_s277 (mh_si 12 rfl)
          refine mw_aload_n 135 rfl 1 dX10_clause_134 rfl rfl ?_
          refine mw_dup 136 rfl dX10_clause_135 rfl ?_
          refine mw_geti 139 rfl dX10_clause_136 gf_X10_287 rfl (fun x296 t297 => ?_)
          have t298 : x131 = s294.1 57 26 := by rw [t295]; exact (t291).trans (mh_pI_n (by omega)).symm
          obtain rfl : x131 = x296 := t298.trans t297.symm
          refine mw_iconst (v := 1) 140 rfl dX10_clause_139 (by decide) ?_
          refine mw_iadd 141 rfl (1) (14) dX10_clause_140 r_x131 rc_1 (by decide) (fun x299 t300 r_x299 => ?_)
          refine mw_puti 144 rfl dX10_clause_141 pf_X10_287 rfl (fun s301 t302 => ?_)
          have hI_s301 : mh_I B D s301 := by rw [t302]; exact wr_57_26 hI_s294
          have hF_s301 : mh_F S_X10_clause s0 s301 := by rw [t302]; exact mh_F_pI hF_s294 (mh_sj 13 rfl)
          refine mw_vret dX10_clause_144 rfl ⟨rfl, ⟨?_, ?_, ?_, hI_s301, hF_s301⟩⟩
          · skip
            have t303 : x279 = s294.1 57 23 := by rw [t295]; exact (t280).trans (mh_pI_n (by omega)).symm
            have t304 : x279 = s301.1 57 23 := by rw [t302]; exact (t303).trans (mh_pI_n (by omega)).symm
            have t305 : x125 = s294.1 57 24 := by rw [t295]; exact (t281).trans (mh_pI_n (by omega)).symm
            have t306 : x125 = s301.1 57 24 := by rw [t302]; exact (t305).trans (mh_pI_n (by omega)).symm
            have t307 : x282 = s294.1 57 25 := by rw [t295]; exact (t283).trans (mh_pI_n (by omega)).symm
            have t308 : x282 = s301.1 57 25 := by rw [t302]; exact (t307).trans (mh_pI_n (by omega)).symm
            have t309 : x284 = s294.1 57 27 := by rw [t295]; exact (t285).trans (mh_pI_n (by omega)).symm
            have t310 : x284 = s301.1 57 27 := by rw [t302]; exact (t309).trans (mh_pI_n (by omega)).symm
            have t311 : x299 = s301.1 57 26 := by rw [t302]; exact mh_pI_s.symm
            exact (show mh_pw s301 by unfold mh_pw; rw [← t304, ← t306, ← t308, ← t310, ← t311]; have := kc_0; have := kc_1; have := (r_x133).1; have := (r_x133).2; have := (r_x123).1; have := (r_x123).2; have := (r_x125).1; have := (r_x125).2; have := (r_x127).1; have := (r_x127).2; have := (r_x129).1; have := (r_x129).2; have := (r_x131).1; have := (r_x131).2; have := (r_x163).1; have := (r_x163).2; have := (rc_0).1; have := (rc_0).2; have := (r_x193).1; have := (r_x193).2; have := (r_x196).1; have := (r_x196).2; have := (r_x198).1; have := (r_x198).2; have := (r_x200).1; have := (r_x200).2; have := (r_x279).1; have := (r_x279).2; have := (r_x282).1; have := (r_x282).2; have := (r_x284).1; have := (r_x284).2; have := (r_x286).1; have := (r_x286).2; have := (r_x299).1; have := (r_x299).2; have := (rc_1).1; have := (rc_1).2; have := kc_0; have := kc_1; have := kc_4; have := kc_14; omega)
          · skip
            have t312 : x279 = s294.1 57 23 := by rw [t295]; exact (t280).trans (mh_pI_n (by omega)).symm
            have t313 : x279 = s301.1 57 23 := by rw [t302]; exact (t312).trans (mh_pI_n (by omega)).symm
            have t314 : x125 = s294.1 57 24 := by rw [t295]; exact (t281).trans (mh_pI_n (by omega)).symm
            have t315 : x125 = s301.1 57 24 := by rw [t302]; exact (t314).trans (mh_pI_n (by omega)).symm
            have t316 : x282 = s294.1 57 25 := by rw [t295]; exact (t283).trans (mh_pI_n (by omega)).symm
            have t317 : x282 = s301.1 57 25 := by rw [t302]; exact (t316).trans (mh_pI_n (by omega)).symm
            have t318 : x284 = s294.1 57 27 := by rw [t295]; exact (t285).trans (mh_pI_n (by omega)).symm
            have t319 : x284 = s301.1 57 27 := by rw [t302]; exact (t318).trans (mh_pI_n (by omega)).symm
            have t320 : x299 = s301.1 57 26 := by rw [t302]; exact mh_pI_s.symm
            have t321 : x286 = s294.1 57 29 := by rw [t295]; exact (t287).trans (mh_pI_n (by omega)).symm
            have t322 : x286 = s301.1 57 29 := by rw [t302]; exact (t321).trans (mh_pI_n (by omega)).symm
            intro hg9
            have := congrArg Int32.toInt t124
            have := congrArg Int32.toInt t126
            have := congrArg Int32.toInt t128
            have := congrArg Int32.toInt t130
            have := congrArg Int32.toInt t132
            have := congrArg Int32.toInt t153
            have := congrArg Int32.toInt t156
            have := congrArg Int32.toInt t162
            have := congrArg Int32.toInt t173
            have := congrArg Int32.toInt t178
            have := congrArg Int32.toInt t183
            have := congrArg Int32.toInt t187
            have := congrArg Int32.toInt t189
            have := congrArg Int32.toInt t194
            have := congrArg Int32.toInt t195
            have := congrArg Int32.toInt t197
            have := congrArg Int32.toInt t199
            have := congrArg Int32.toInt t201
            have := congrArg Int32.toInt t208
            have := congrArg Int32.toInt t216
            have := congrArg Int32.toInt t272
            have := congrArg Int32.toInt t273
            have := congrArg Int32.toInt t274
            have := congrArg Int32.toInt t275
            have := congrArg Int32.toInt t280
            have := congrArg Int32.toInt t281
            have := congrArg Int32.toInt t283
            have := congrArg Int32.toInt t285
            have := congrArg Int32.toInt t287
            have := congrArg Int32.toInt t291
            have := congrArg Int32.toInt t298
            have := congrArg Int32.toInt t313
            have := congrArg Int32.toInt t315
            have := congrArg Int32.toInt t317
            have := congrArg Int32.toInt t319
            have := congrArg Int32.toInt t320
            have := congrArg Int32.toInt t322
            have := (r_x133).1; have := (r_x133).2
            have := (r_x123).1; have := (r_x123).2
            have := (r_x125).1; have := (r_x125).2
            have := (r_x127).1; have := (r_x127).2
            have := (r_x129).1; have := (r_x129).2
            have := (r_x131).1; have := (r_x131).2
            have := (r_x163).1; have := (r_x163).2
            have := (rc_0).1; have := (rc_0).2
            have := (r_x193).1; have := (r_x193).2
            have := (r_x196).1; have := (r_x196).2
            have := (r_x198).1; have := (r_x198).2
            have := (r_x200).1; have := (r_x200).2
            have := (r_x279).1; have := (r_x279).2
            have := (r_x282).1; have := (r_x282).2
            have := (r_x284).1; have := (r_x284).2
            have := (r_x286).1; have := (r_x286).2
            have := (r_x299).1; have := (r_x299).2
            have := (rc_1).1; have := (rc_1).2
            have := kc_0
            have := kc_1
            have := kc_4
            have := kc_14
            have hc2 := e2_s277 (by rw [← t283]; omega)
            have hd2 := mh_pd_1 hc2.2 (by rw [← t283]; omega) hc2.1
            rw [← t285] at hd2
            have hd1 := mh_pd_1 e3_s191 (by rw [← t197]; omega) (by rw [← t201]; have := kc_0; omega)
            rw [← t199] at hd1
            have e71 : s301.1 71 = (mh_u1 (s0.1 71) x131.toNatClampNeg x129) := by rw [t302, mh_row_n (by decide), t295, mh_row_n (by decide), mh_F_row hG_s277 71 rfl, t212, mh_row_n (by decide), mh_F_row hG_s191 71 rfl, t170, mh_row_n (by decide), t168, mh_row_n (by decide), t166, mh_row_n (by decide), t158, mh_row_s, t150, mh_row_n (by decide)]
            have e72 : s301.1 72 = (mh_u1 (s0.1 72) x131.toNatClampNeg x198) := by rw [t302, mh_row_n (by decide), t295, mh_row_n (by decide), mh_F_row hG_s277 72 rfl, t212, mh_row_s, mh_F_row hG_s191 72 rfl, t170, mh_row_n (by decide), t168, mh_row_n (by decide), t166, mh_row_n (by decide), t158, mh_row_n (by decide), t150, mh_row_n (by decide)]
            have e73 : s301.1 73 = (mh_u1 (s0.1 73) x131.toNatClampNeg x284) := by rw [t302, mh_row_n (by decide), t295, mh_row_s, mh_F_row hG_s277 73 rfl, t212, mh_row_n (by decide), mh_F_row hG_s191 73 rfl, t170, mh_row_n (by decide), t168, mh_row_n (by decide), t166, mh_row_n (by decide), t158, mh_row_n (by decide), t150, mh_row_n (by decide)]
            have h74 : s301.1 74 = s277.1 74 := ((by rw [t302]; exact mh_row_n (by decide) : s301.1 74 = s294.1 74)).trans (by rw [t295]; exact mh_row_n (by decide) : s294.1 74 = s277.1 74)
            have hk74 : ∀ j : Nat, (j : Int) < b2 → s301.1 74 j = s191.1 74 j := fun j hj => by rw [h74, e1_s277 j hj, show s211.1 74 = s191.1 74 from (by rw [t212]; exact mh_row_n (by decide) : s211.1 74 = s191.1 74)]
            have hst : (s301.1 57 26).toInt.toNat = x131.toInt.toNat + 1 := by rw [← t320]; omega
            have hcd : (s301.1 57 27).toInt = x284.toInt := by rw [← t319]
            refine ⟨by omega, ?_⟩
            rw [hst, hcd]
            have hk : x131.toNatClampNeg = x131.toInt.toNat := rfl
            refine mh_ls_step (b := b) (b2 := b2) (by rw [hbq]; exact hl) ?_ ?_ ?_ ?_ ?_ ?_ ?_ ?_ ?_ ⟨by omega, by omega, by omega, by omega⟩
            · intro j hj; rw [hk74 j (by omega), e1_s191 j hj, show s169.1 74 = s0.1 74 from (((((by rw [t170]; exact mh_row_n (by decide) : s169.1 74 = s167.1 74)).trans (by rw [t168]; exact mh_row_n (by decide) : s167.1 74 = s165.1 74)).trans (by rw [t166]; exact mh_row_n (by decide) : s165.1 74 = s157.1 74)).trans (by rw [t158]; exact mh_row_n (by decide) : s157.1 74 = s149.1 74)).trans (by rw [t150]; exact mh_row_n (by decide) : s149.1 74 = s0.1 74)]
            · intro c hc; rw [e71]; exact mh_u1_lt (by omega)
            · intro c hc; rw [e72]; exact mh_u1_lt (by omega)
            · intro c hc; rw [e73]; exact mh_u1_lt (by omega)
            · rw [e71, hk]
              rw [show mh_u1 _ x131.toInt.toNat _ x131.toInt.toNat = _ from if_pos rfl]
              first | done | exact hbq.symm
            · rw [e72, hk]
              rw [show mh_u1 _ x131.toInt.toNat _ x131.toInt.toNat = _ from if_pos rfl]
              first | done | exact hb2.symm
            · rw [e73, hk]
              rw [show mh_u1 _ x131.toInt.toNat _ x131.toInt.toNat = _ from if_pos rfl]
              first | done | exact rfl
            · rw [mh_dps_c (f := s191.1 74) (fun j h1 h2 => hk74 j (by omega)), hb2]
              exact hd1
            · rw [h74]
              exact hd2
          · skip
            have t323 : x279 = s294.1 57 23 := by rw [t295]; exact (t280).trans (mh_pI_n (by omega)).symm
            have t324 : x279 = s301.1 57 23 := by rw [t302]; exact (t323).trans (mh_pI_n (by omega)).symm
            have t325 : x125 = s294.1 57 24 := by rw [t295]; exact (t281).trans (mh_pI_n (by omega)).symm
            have t326 : x125 = s301.1 57 24 := by rw [t302]; exact (t325).trans (mh_pI_n (by omega)).symm
            have t327 : x282 = s294.1 57 25 := by rw [t295]; exact (t283).trans (mh_pI_n (by omega)).symm
            have t328 : x282 = s301.1 57 25 := by rw [t302]; exact (t327).trans (mh_pI_n (by omega)).symm
            have t329 : x284 = s294.1 57 27 := by rw [t295]; exact (t285).trans (mh_pI_n (by omega)).symm
            have t330 : x284 = s301.1 57 27 := by rw [t302]; exact (t329).trans (mh_pI_n (by omega)).symm
            have t331 : x299 = s301.1 57 26 := by rw [t302]; exact mh_pI_s.symm
            have t332 : x286 = s294.1 57 29 := by rw [t295]; exact (t287).trans (mh_pI_n (by omega)).symm
            have t333 : x286 = s301.1 57 29 := by rw [t302]; exact (t332).trans (mh_pI_n (by omega)).symm
            have := congrArg Int32.toInt t124
            have := congrArg Int32.toInt t126
            have := congrArg Int32.toInt t128
            have := congrArg Int32.toInt t130
            have := congrArg Int32.toInt t132
            have := congrArg Int32.toInt t153
            have := congrArg Int32.toInt t156
            have := congrArg Int32.toInt t162
            have := congrArg Int32.toInt t173
            have := congrArg Int32.toInt t178
            have := congrArg Int32.toInt t183
            have := congrArg Int32.toInt t187
            have := congrArg Int32.toInt t189
            have := congrArg Int32.toInt t194
            have := congrArg Int32.toInt t195
            have := congrArg Int32.toInt t197
            have := congrArg Int32.toInt t199
            have := congrArg Int32.toInt t201
            have := congrArg Int32.toInt t208
            have := congrArg Int32.toInt t216
            have := congrArg Int32.toInt t272
            have := congrArg Int32.toInt t273
            have := congrArg Int32.toInt t274
            have := congrArg Int32.toInt t275
            have := congrArg Int32.toInt t280
            have := congrArg Int32.toInt t281
            have := congrArg Int32.toInt t283
            have := congrArg Int32.toInt t285
            have := congrArg Int32.toInt t287
            have := congrArg Int32.toInt t291
            have := congrArg Int32.toInt t298
            have := congrArg Int32.toInt t324
            have := congrArg Int32.toInt t326
            have := congrArg Int32.toInt t328
            have := congrArg Int32.toInt t330
            have := congrArg Int32.toInt t331
            have := congrArg Int32.toInt t333
            have := (r_x133).1; have := (r_x133).2
            have := (r_x123).1; have := (r_x123).2
            have := (r_x125).1; have := (r_x125).2
            have := (r_x127).1; have := (r_x127).2
            have := (r_x129).1; have := (r_x129).2
            have := (r_x131).1; have := (r_x131).2
            have := (r_x163).1; have := (r_x163).2
            have := (rc_0).1; have := (rc_0).2
            have := (r_x193).1; have := (r_x193).2
            have := (r_x196).1; have := (r_x196).2
            have := (r_x198).1; have := (r_x198).2
            have := (r_x200).1; have := (r_x200).2
            have := (r_x279).1; have := (r_x279).2
            have := (r_x282).1; have := (r_x282).2
            have := (r_x284).1; have := (r_x284).2
            have := (r_x286).1; have := (r_x286).2
            have := (r_x299).1; have := (r_x299).2
            have := (rc_1).1; have := (rc_1).2
            have := kc_0
            have := kc_1
            have := kc_4
            have := kc_14
            omega
      · skip
        exact absurd (e0_s144.2 (by have := (r_x127).1; have := (r_x127).2; omega)) (by have := c146; omega)
    · skip
      have r_x131 : mh_r x131 (14) (14) := mh_eq1 c142 r_x131 rc_14 (14) (14) (by decide)
      refine mw_aload_n 34 rfl 1 dX10_clause_33 rfl rfl ?_
      refine mw_iconst (v := 4) 35 rfl dX10_clause_34 (by decide) ?_
      refine mw_aload_n 36 rfl 1 dX10_clause_35 rfl rfl ?_
      refine mw_geti 39 rfl dX10_clause_36 gf_X10_188 rfl (fun x334 t335 => ?_)
      obtain rfl : x123 = x334 := t124.trans t335.symm
      refine mw_callVv [.int (4), .int x123] [] 42 rfl dX10_clause_39 ml_X10_210 mc_X10_wrongs mk_X10_wrongs rfl rfl (by decide) (w_X10_wrongs l G (d + 6) ⟨by omega, by omega⟩ hI0 (4) (mh_r_wk rc_4 (by decide)) x123 r_x123 (by rw [← t128]; have := (r_x133).1; have := (r_x133).2; have := (r_x123).1; have := (r_x123).2; have := (r_x125).1; have := (r_x125).2; have := (r_x127).1; have := (r_x127).2; have := (r_x129).1; have := (r_x129).2; have := (r_x131).1; have := (r_x131).2; have := kc_0; have := kc_1; have := kc_4; have := kc_14; omega)) rfl rfl (Nat.le_of_ble_eq_true rfl) (mh_rok (by omega) (by decide)) (fun s337 q338 => ?_)
      obtain ⟨e0_s337, hI_s337, hG_s337⟩ := q338
      have hF_s337 : mh_F S_X10_clause s0 s337 := mh_F_tl hF0 hG_s337 (by decide +kernel)
      obtain ⟨x339, t340⟩ : ∃ z : Int32, z = s337.1 57 25 := ⟨_, rfl⟩
      have hw_s337 : x339.toInt < 0 := by rw [t340]; exact e0_s337
      have r_x339 : mh_r x339 (-2147483648) (-1) := ⟨((mh_r_full x339)).1, by have := hw_s337; omega⟩
      refine mw_aload_n 43 rfl 1 dX10_clause_42 rfl rfl ?_
      refine mw_callVi [] [] 46 rfl dX10_clause_43 ml_X10_197 mc_X10_isGood mk_X10_isGood rfl rfl (by decide) (w_X10_isGood l G (d + 6) ⟨by omega, by omega⟩ hI_s337) rfl rfl (Nat.le_of_ble_eq_true rfl) (mh_rok (by omega) (by decide)) (fun x341 s342 q343 => ?_)
      obtain ⟨r_x341, e0_s342, rfl⟩ := q343
      rw [← t340] at e0_s342
      refine mw_if_ne 49 rfl 50 dX10_clause_46 (by decide) (fun c344 => ?_) (fun c344 => ?_)
      · skip
        exact absurd (e0_s342.1 (mh_z1 r_x341 c344)) (by have := (r_x339).2; omega)
      · skip
        have r_x341 : mh_r x341 (0) (0) := mh_eq1 (show x341.toInt = (0 : Int32).toInt from c344) r_x341 rc_0 (0) (0) (by decide)
        refine mw_vret dX10_clause_49 rfl ⟨rfl, ⟨?_, ?_, ?_, hI_s337, hF_s337⟩⟩
        · skip
          have t345 : x123 = s337.1 57 23 := (t124).trans (hG_s337 57 23 (mh_nsI (by rfl))).1.symm
          have t346 : x125 = s337.1 57 24 := (t126).trans (hG_s337 57 24 (mh_nsI (by rfl))).1.symm
          have t347 : x129 = s337.1 57 27 := (t130).trans (hG_s337 57 27 (mh_nsI (by rfl))).1.symm
          have t348 : x131 = s337.1 57 26 := (t132).trans (hG_s337 57 26 (mh_nsI (by rfl))).1.symm
          exact (show mh_pw s337 by unfold mh_pw; rw [← t345, ← t346, ← t340, ← t347, ← t348]; have := kc_0; have := kc_1; have := (r_x133).1; have := (r_x133).2; have := (r_x123).1; have := (r_x123).2; have := (r_x125).1; have := (r_x125).2; have := (r_x127).1; have := (r_x127).2; have := (r_x129).1; have := (r_x129).2; have := (r_x131).1; have := (r_x131).2; have := (r_x339).1; have := (r_x339).2; have := kc_0; have := kc_1; have := kc_4; have := kc_14; omega)
        · skip
          have t349 : x123 = s337.1 57 23 := (t124).trans (hG_s337 57 23 (mh_nsI (by rfl))).1.symm
          have t350 : x125 = s337.1 57 24 := (t126).trans (hG_s337 57 24 (mh_nsI (by rfl))).1.symm
          have t351 : x129 = s337.1 57 27 := (t130).trans (hG_s337 57 27 (mh_nsI (by rfl))).1.symm
          have t352 : x131 = s337.1 57 26 := (t132).trans (hG_s337 57 26 (mh_nsI (by rfl))).1.symm
          obtain ⟨x353, t354⟩ : ∃ z : Int32, z = s337.1 57 29 := ⟨_, rfl⟩
          intro hg9
          exfalso
          have := congrArg Int32.toInt t124
          have := congrArg Int32.toInt t126
          have := congrArg Int32.toInt t128
          have := congrArg Int32.toInt t130
          have := congrArg Int32.toInt t132
          have := congrArg Int32.toInt t340
          have := congrArg Int32.toInt t349
          have := congrArg Int32.toInt t350
          have := congrArg Int32.toInt t351
          have := congrArg Int32.toInt t352
          have := congrArg Int32.toInt t354
          have := (r_x133).1; have := (r_x133).2
          have := (r_x123).1; have := (r_x123).2
          have := (r_x125).1; have := (r_x125).2
          have := (r_x127).1; have := (r_x127).2
          have := (r_x129).1; have := (r_x129).2
          have := (r_x131).1; have := (r_x131).2
          have := (r_x339).1; have := (r_x339).2
          have := kc_0
          have := kc_1
          have := kc_4
          have := kc_14
          omega
        · skip
          have t355 : x123 = s337.1 57 23 := (t124).trans (hG_s337 57 23 (mh_nsI (by rfl))).1.symm
          have t356 : x125 = s337.1 57 24 := (t126).trans (hG_s337 57 24 (mh_nsI (by rfl))).1.symm
          have t357 : x129 = s337.1 57 27 := (t130).trans (hG_s337 57 27 (mh_nsI (by rfl))).1.symm
          have t358 : x131 = s337.1 57 26 := (t132).trans (hG_s337 57 26 (mh_nsI (by rfl))).1.symm
          obtain ⟨x359, t360⟩ : ∃ z : Int32, z = s337.1 57 29 := ⟨_, rfl⟩
          have := congrArg Int32.toInt t124
          have := congrArg Int32.toInt t126
          have := congrArg Int32.toInt t128
          have := congrArg Int32.toInt t130
          have := congrArg Int32.toInt t132
          have := congrArg Int32.toInt t340
          have := congrArg Int32.toInt t355
          have := congrArg Int32.toInt t356
          have := congrArg Int32.toInt t357
          have := congrArg Int32.toInt t358
          have := congrArg Int32.toInt t360
          have := (r_x133).1; have := (r_x133).2
          have := (r_x123).1; have := (r_x123).2
          have := (r_x125).1; have := (r_x125).2
          have := (r_x127).1; have := (r_x127).2
          have := (r_x129).1; have := (r_x129).2
          have := (r_x131).1; have := (r_x131).2
          have := (r_x339).1; have := (r_x339).2
          have := kc_0
          have := kc_1
          have := kc_4
          have := kc_14
          omega
  · skip
    have r_x136 : mh_r x136 (0) (0) := mh_eq1 (show x136.toInt = (0 : Int32).toInt from c139) r_x136 rc_0 (0) (0) (by decide)
    refine mw_aload_n 13 rfl 1 dX10_clause_12 rfl rfl ?_
    refine mw_iconst (v := 1) 14 rfl dX10_clause_13 (by decide) ?_
    refine mw_aload_n 15 rfl 1 dX10_clause_14 rfl rfl ?_
    refine mw_geti 18 rfl dX10_clause_15 gf_X10_188 rfl (fun x361 t362 => ?_)
    obtain rfl : x123 = x361 := t124.trans t362.symm
    refine mw_callVv [.int (1), .int x123] [] 21 rfl dX10_clause_18 ml_X10_210 mc_X10_wrongs mk_X10_wrongs rfl rfl (by decide) (w_X10_wrongs l G (d + 6) ⟨by omega, by omega⟩ hI0 (1) (mh_r_wk rc_1 (by decide)) x123 r_x123 (by rw [← t128]; have := (r_x133).1; have := (r_x133).2; have := (r_x123).1; have := (r_x123).2; have := (r_x125).1; have := (r_x125).2; have := (r_x127).1; have := (r_x127).2; have := (r_x129).1; have := (r_x129).2; have := (r_x131).1; have := (r_x131).2; have := kc_0; have := kc_1; have := kc_4; have := kc_14; omega)) rfl rfl (Nat.le_of_ble_eq_true rfl) (mh_rok (by omega) (by decide)) (fun s364 q365 => ?_)
    obtain ⟨e0_s364, hI_s364, hG_s364⟩ := q365
    have hF_s364 : mh_F S_X10_clause s0 s364 := mh_F_tl hF0 hG_s364 (by decide +kernel)
    obtain ⟨x366, t367⟩ : ∃ z : Int32, z = s364.1 57 25 := ⟨_, rfl⟩
    have hw_s364 : x366.toInt < 0 := by rw [t367]; exact e0_s364
    have r_x366 : mh_r x366 (-2147483648) (-1) := ⟨((mh_r_full x366)).1, by have := hw_s364; omega⟩
    refine mw_goto 24 rfl 42 dX10_clause_21 (by decide) ?_
    refine mw_aload_n 43 rfl 1 dX10_clause_42 rfl rfl ?_
    refine mw_callVi [] [] 46 rfl dX10_clause_43 ml_X10_197 mc_X10_isGood mk_X10_isGood rfl rfl (by decide) (w_X10_isGood l G (d + 6) ⟨by omega, by omega⟩ hI_s364) rfl rfl (Nat.le_of_ble_eq_true rfl) (mh_rok (by omega) (by decide)) (fun x368 s369 q370 => ?_)
    obtain ⟨r_x368, e0_s369, rfl⟩ := q370
    rw [← t367] at e0_s369
    refine mw_if_ne 49 rfl 50 dX10_clause_46 (by decide) (fun c371 => ?_) (fun c371 => ?_)
    · skip
      exact absurd (e0_s369.1 (mh_z1 r_x368 c371)) (by have := (r_x366).2; omega)
    · skip
      have r_x368 : mh_r x368 (0) (0) := mh_eq1 (show x368.toInt = (0 : Int32).toInt from c371) r_x368 rc_0 (0) (0) (by decide)
      refine mw_vret dX10_clause_49 rfl ⟨rfl, ⟨?_, ?_, ?_, hI_s364, hF_s364⟩⟩
      · skip
        have t372 : x123 = s364.1 57 23 := (t124).trans (hG_s364 57 23 (mh_nsI (by rfl))).1.symm
        have t373 : x125 = s364.1 57 24 := (t126).trans (hG_s364 57 24 (mh_nsI (by rfl))).1.symm
        have t374 : x129 = s364.1 57 27 := (t130).trans (hG_s364 57 27 (mh_nsI (by rfl))).1.symm
        have t375 : x131 = s364.1 57 26 := (t132).trans (hG_s364 57 26 (mh_nsI (by rfl))).1.symm
        exact (show mh_pw s364 by unfold mh_pw; rw [← t372, ← t373, ← t367, ← t374, ← t375]; have := kc_0; have := kc_1; have := (r_x133).1; have := (r_x133).2; have := (r_x123).1; have := (r_x123).2; have := (r_x125).1; have := (r_x125).2; have := (r_x127).1; have := (r_x127).2; have := (r_x129).1; have := (r_x129).2; have := (r_x131).1; have := (r_x131).2; have := (r_x366).1; have := (r_x366).2; have := kc_0; have := kc_1; have := kc_4; have := kc_14; omega)
      · skip
        have t376 : x123 = s364.1 57 23 := (t124).trans (hG_s364 57 23 (mh_nsI (by rfl))).1.symm
        have t377 : x125 = s364.1 57 24 := (t126).trans (hG_s364 57 24 (mh_nsI (by rfl))).1.symm
        have t378 : x129 = s364.1 57 27 := (t130).trans (hG_s364 57 27 (mh_nsI (by rfl))).1.symm
        have t379 : x131 = s364.1 57 26 := (t132).trans (hG_s364 57 26 (mh_nsI (by rfl))).1.symm
        obtain ⟨x380, t381⟩ : ∃ z : Int32, z = s364.1 57 29 := ⟨_, rfl⟩
        intro hg9
        exfalso
        have := congrArg Int32.toInt t124
        have := congrArg Int32.toInt t126
        have := congrArg Int32.toInt t128
        have := congrArg Int32.toInt t130
        have := congrArg Int32.toInt t132
        have := congrArg Int32.toInt t367
        have := congrArg Int32.toInt t376
        have := congrArg Int32.toInt t377
        have := congrArg Int32.toInt t378
        have := congrArg Int32.toInt t379
        have := congrArg Int32.toInt t381
        have := (r_x133).1; have := (r_x133).2
        have := (r_x123).1; have := (r_x123).2
        have := (r_x125).1; have := (r_x125).2
        have := (r_x127).1; have := (r_x127).2
        have := (r_x129).1; have := (r_x129).2
        have := (r_x131).1; have := (r_x131).2
        have := (r_x366).1; have := (r_x366).2
        have := kc_0
        have := kc_1
        have := kc_4
        have := kc_14
        omega
      · skip
        have t382 : x123 = s364.1 57 23 := (t124).trans (hG_s364 57 23 (mh_nsI (by rfl))).1.symm
        have t383 : x125 = s364.1 57 24 := (t126).trans (hG_s364 57 24 (mh_nsI (by rfl))).1.symm
        have t384 : x129 = s364.1 57 27 := (t130).trans (hG_s364 57 27 (mh_nsI (by rfl))).1.symm
        have t385 : x131 = s364.1 57 26 := (t132).trans (hG_s364 57 26 (mh_nsI (by rfl))).1.symm
        obtain ⟨x386, t387⟩ : ∃ z : Int32, z = s364.1 57 29 := ⟨_, rfl⟩
        have := congrArg Int32.toInt t124
        have := congrArg Int32.toInt t126
        have := congrArg Int32.toInt t128
        have := congrArg Int32.toInt t130
        have := congrArg Int32.toInt t132
        have := congrArg Int32.toInt t367
        have := congrArg Int32.toInt t382
        have := congrArg Int32.toInt t383
        have := congrArg Int32.toInt t384
        have := congrArg Int32.toInt t385
        have := congrArg Int32.toInt t387
        have := (r_x133).1; have := (r_x133).2
        have := (r_x123).1; have := (r_x123).2
        have := (r_x125).1; have := (r_x125).2
        have := (r_x127).1; have := (r_x127).2
        have := (r_x129).1; have := (r_x129).2
        have := (r_x131).1; have := (r_x131).2
        have := (r_x366).1; have := (r_x366).2
        have := kc_0
        have := kc_1
        have := kc_4
        have := kc_14
        omega

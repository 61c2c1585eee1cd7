def S_X1_addClause (kl : Nat) : List (Nat × Nat) := [(kl + 2, 9999), (kl + 3, 9999), (kl + 4, 9999), (kl + 5, 9999), (kl, 7), (kl, 9)]
def P_X1_addClause (B D : Int) (s0 : mh_H) (kl : Nat) (p1 : Int32) (p2 : Int32) (p3 : Int32) : mh_H → Prop := fun s => mh_I B D s ∧ mh_F (S_X1_addClause kl) s0 s
set_option maxRecDepth 100000 in
set_option maxHeartbeats 4000000 in
theorem w_X1_addClause (l : Launch) (G : mh_G) (d : Nat) {B D : Int} (hB : B ≤ 2000000000 ∧ D ≤ 2000000000) {s0 : mh_H} (hI0 : mh_I B D s0) (kl : Nat) (hkl : mh_isL kl) (p1 : Int32) (p2 : Int32) (p3 : Int32) : mh_Mv l G (d + 0) mM_X1_addClause [.ref (G.2.2.2 kl), .int p1, .int p2, .int p3] s0 (P_X1_addClause B D s0 kl p1 p2 p3) := by
  refine mh_enter (lv := [(0, .ref (G.2.2.2 kl)), (1, .int p1), (2, .int p2), (3, .int p3)]) (by decide) rfl (Nat.le_of_ble_eq_true rfl) ?_
  have hF0 : mh_F (S_X1_addClause kl) s0 s0 := mh_F_rf
  refine mw_aload_n 1 rfl 0 dX1_addClause_0 rfl rfl ?_
  refine mw_geti 4 rfl dX1_addClause_1 gf_X1_41 (ly_L hkl) (fun x45 t46 => ?_)
  have r_x45 : mh_r x45 (0) (14) := by rw [t46]; exact rd_L_7 hI0 hkl
  refine mw_bipush (v := 14) 6 rfl dX1_addClause_4 (by decide) ?_
  have J62 : ∀  (s72 : mh_H), mh_I B D s72 → mh_F (S_X1_addClause kl) s0 s72 → mh_W G (mh_XM l G (d + 0) (mh_Qv (P_X1_addClause B D s0 kl p1 p2 p3))) mM_X1_addClause 62 [(0, .ref (G.2.2.2 kl)), (1, .int p1), (2, .int p2), (3, .int p3)] [] s72 := by
    intro s72 hI_s72 hF_s72
    refine mw_aload_n 63 rfl 0 dX1_addClause_62 rfl rfl ?_
    refine mw_aload_n 64 rfl 0 dX1_addClause_63 rfl rfl ?_
    refine mw_geti 67 rfl dX1_addClause_64 gf_X1_48 (ly_L hkl) (fun x89 t90 => ?_)
    have r_x89 : mh_r x89 (0) (1) := by rw [t90]; exact rd_L_9 hI_s72 hkl
    refine mw_if_ne 70 rfl 88 dX1_addClause_67 (by decide) (fun c91 => ?_) (fun c91 => ?_)
    · skip
      have r_x89 : mh_r x89 (1) (1) := mh_ne1 (show x89.toInt ≠ (0 : Int32).toInt from c91) r_x89 rc_0 (1) (1) (by decide)
      refine mw_iconst (v := 1) 89 rfl dX1_addClause_88 (by decide) ?_
      refine mw_goto 92 rfl 93 dX1_addClause_89 (by decide) ?_
      refine mw_putz 96 rfl dX1_addClause_93 pf_X1_48 (ly_L hkl) (mh_r_wk rc_1 (by decide)) (fun s92 t93 => ?_)
      have hI_s92 : mh_I B D s92 := by rw [t93]; exact wr_L_9 hI_s72 hkl (mh_r_wk rc_1 (by decide))
      have hF_s92 : mh_F (S_X1_addClause kl) s0 s92 := by rw [t93]; exact mh_F_pI hF_s72 (mh_sj 5 rfl)
      exact mw_vret dX1_addClause_96 rfl ⟨rfl, ⟨hI_s92, hF_s92⟩⟩
    · skip
      have r_x89 : mh_r x89 (0) (0) := mh_eq1 (show x89.toInt = (0 : Int32).toInt from c91) r_x89 rc_0 (0) (0) (by decide)
      refine mw_iload_n 71 rfl 1 dX1_addClause_70 rfl rfl ?_
      refine mw_bipush (v := 99) 73 rfl dX1_addClause_71 (by decide) ?_
      refine mw_icmp_eq 76 rfl 88 dX1_addClause_73 (by decide) (fun c94 => ?_) (fun c94 => ?_)
      · skip
        have r_p1 : mh_r p1 (99) (99) := mh_eq1 c94 (mh_r_full p1) rc_99 (99) (99) (by decide)
        refine mw_iconst (v := 1) 89 rfl dX1_addClause_88 (by decide) ?_
        refine mw_goto 92 rfl 93 dX1_addClause_89 (by decide) ?_
        refine mw_putz 96 rfl dX1_addClause_93 pf_X1_48 (ly_L hkl) (mh_r_wk rc_1 (by decide)) (fun s95 t96 => ?_)
        have hI_s95 : mh_I B D s95 := by rw [t96]; exact wr_L_9 hI_s72 hkl (mh_r_wk rc_1 (by decide))
        have hF_s95 : mh_F (S_X1_addClause kl) s0 s95 := by rw [t96]; exact mh_F_pI hF_s72 (mh_sj 5 rfl)
        exact mw_vret dX1_addClause_96 rfl ⟨rfl, ⟨hI_s95, hF_s95⟩⟩
      · skip
        refine mw_iload_n 77 rfl 1 dX1_addClause_76 rfl rfl ?_
        refine mw_bipush (v := 119) 79 rfl dX1_addClause_77 (by decide) ?_
        refine mw_icmp_eq 82 rfl 88 dX1_addClause_79 (by decide) (fun c97 => ?_) (fun c97 => ?_)
        · skip
          have r_p1 : mh_r p1 (119) (119) := mh_eq1 c97 (mh_r_full p1) rc_119 (119) (119) (by decide)
          refine mw_iconst (v := 1) 89 rfl dX1_addClause_88 (by decide) ?_
          refine mw_goto 92 rfl 93 dX1_addClause_89 (by decide) ?_
          refine mw_putz 96 rfl dX1_addClause_93 pf_X1_48 (ly_L hkl) (mh_r_wk rc_1 (by decide)) (fun s98 t99 => ?_)
          have hI_s98 : mh_I B D s98 := by rw [t99]; exact wr_L_9 hI_s72 hkl (mh_r_wk rc_1 (by decide))
          have hF_s98 : mh_F (S_X1_addClause kl) s0 s98 := by rw [t99]; exact mh_F_pI hF_s72 (mh_sj 5 rfl)
          exact mw_vret dX1_addClause_96 rfl ⟨rfl, ⟨hI_s98, hF_s98⟩⟩
        · skip
          refine mw_iload_n 83 rfl 1 dX1_addClause_82 rfl rfl ?_
          refine mw_bipush (v := 115) 85 rfl dX1_addClause_83 (by decide) ?_
          refine mw_icmp_ne 88 rfl 92 dX1_addClause_85 (by decide) (fun c100 => ?_) (fun c100 => ?_)
          · skip
            refine mw_iconst (v := 0) 93 rfl dX1_addClause_92 (by decide) ?_
            refine mw_putz 96 rfl dX1_addClause_93 pf_X1_48 (ly_L hkl) (mh_r_wk rc_0 (by decide)) (fun s101 t102 => ?_)
            have hI_s101 : mh_I B D s101 := by rw [t102]; exact wr_L_9 hI_s72 hkl (mh_r_wk rc_0 (by decide))
            have hF_s101 : mh_F (S_X1_addClause kl) s0 s101 := by rw [t102]; exact mh_F_pI hF_s72 (mh_sj 5 rfl)
            exact mw_vret dX1_addClause_96 rfl ⟨rfl, ⟨hI_s101, hF_s101⟩⟩
          · skip
            have r_p1 : mh_r p1 (115) (115) := mh_eq1 c100 (mh_r_full p1) rc_115 (115) (115) (by decide)
            refine mw_iconst (v := 1) 89 rfl dX1_addClause_88 (by decide) ?_
            refine mw_goto 92 rfl 93 dX1_addClause_89 (by decide) ?_
            refine mw_putz 96 rfl dX1_addClause_93 pf_X1_48 (ly_L hkl) (mh_r_wk rc_1 (by decide)) (fun s103 t104 => ?_)
            have hI_s103 : mh_I B D s103 := by rw [t104]; exact wr_L_9 hI_s72 hkl (mh_r_wk rc_1 (by decide))
            have hF_s103 : mh_F (S_X1_addClause kl) s0 s103 := by rw [t104]; exact mh_F_pI hF_s72 (mh_sj 5 rfl)
            exact mw_vret dX1_addClause_96 rfl ⟨rfl, ⟨hI_s103, hF_s103⟩⟩
  refine mw_icmp_ge 9 rfl 62 dX1_addClause_6 (by decide) (fun c105 => ?_) (fun c105 => ?_)
  · skip
    have r_x45 : mh_r x45 (14) (14) := mh_le2 c105 rc_14 r_x45 (14) (by decide)
    exact mw_lv [0, 1, 2, 3] rfl (J62 s0 hI0 hF0)
  · skip
    have r_x45 : mh_r x45 (0) (13) := mh_lt1 c105 r_x45 rc_14 (13) (by decide)
    refine mw_aload_n 10 rfl 0 dX1_addClause_9 rfl rfl ?_
    refine mw_geta 13 rfl dX1_addClause_10 gf_X1_15 (ly_L hkl) (kl + 2) (rf_L_1 hI0 hkl) ?_
    refine mw_aload_n 14 rfl 0 dX1_addClause_13 rfl rfl ?_
    refine mw_geti 17 rfl dX1_addClause_14 gf_X1_41 (ly_L hkl) (fun x106 t107 => ?_)
    obtain rfl : x45 = x106 := t46.trans t107.symm
    refine mw_iload_n 18 rfl 1 dX1_addClause_17 rfl rfl ?_
    refine mw_iast 19 rfl dX1_addClause_18 (ly_L2 hkl) r_x45 (by decide) (fun s108 t109 => ?_)
    have hI_s108 : mh_I B D s108 := by rw [t109]; exact wr_L2 hI0 hkl
    have hF_s108 : mh_F (S_X1_addClause kl) s0 s108 := by rw [t109]; exact mh_F_pI hF0 (mh_si 0 rfl)
    refine mw_aload_n 20 rfl 0 dX1_addClause_19 rfl rfl ?_
    refine mw_geta 23 rfl dX1_addClause_20 gf_X1_18 (ly_L hkl) (kl + 3) (rf_L_2 hI_s108 hkl) ?_
    refine mw_aload_n 24 rfl 0 dX1_addClause_23 rfl rfl ?_
    refine mw_geti 27 rfl dX1_addClause_24 gf_X1_41 (ly_L hkl) (fun x110 t111 => ?_)
    have t112 : x45 = s108.1 kl 7 := by rw [t109]; exact (t46).trans (mh_pI_n (by omega)).symm
    obtain rfl : x45 = x110 := t112.trans t111.symm
    refine mw_iload_n 28 rfl 2 dX1_addClause_27 rfl rfl ?_
    refine mw_iast 29 rfl dX1_addClause_28 (ly_L3 hkl) r_x45 (by decide) (fun s113 t114 => ?_)
    have hI_s113 : mh_I B D s113 := by rw [t114]; exact wr_L3 hI_s108 hkl
    have hF_s113 : mh_F (S_X1_addClause kl) s0 s113 := by rw [t114]; exact mh_F_pI hF_s108 (mh_si 1 rfl)
    refine mw_aload_n 30 rfl 0 dX1_addClause_29 rfl rfl ?_
    refine mw_geta 33 rfl dX1_addClause_30 gf_X1_21 (ly_L hkl) (kl + 4) (rf_L_3 hI_s113 hkl) ?_
    refine mw_aload_n 34 rfl 0 dX1_addClause_33 rfl rfl ?_
    refine mw_geti 37 rfl dX1_addClause_34 gf_X1_41 (ly_L hkl) (fun x115 t116 => ?_)
    have t117 : x45 = s113.1 kl 7 := by rw [t114]; exact (t112).trans (mh_pI_n (by omega)).symm
    obtain rfl : x45 = x115 := t117.trans t116.symm
    refine mw_iload_n 38 rfl 3 dX1_addClause_37 rfl rfl ?_
    refine mw_iast 39 rfl dX1_addClause_38 (ly_L4 hkl) r_x45 (by decide) (fun s118 t119 => ?_)
    have hI_s118 : mh_I B D s118 := by rw [t119]; exact wr_L4 hI_s113 hkl
    have hF_s118 : mh_F (S_X1_addClause kl) s0 s118 := by rw [t119]; exact mh_F_pI hF_s113 (mh_si 2 rfl)
    refine mw_aload_n 40 rfl 0 dX1_addClause_39 rfl rfl ?_
    refine mw_geta 43 rfl dX1_addClause_40 gf_X1_24 (ly_L hkl) (kl + 5) (rf_L_4 hI_s118 hkl) ?_
    refine mw_aload_n 44 rfl 0 dX1_addClause_43 rfl rfl ?_
    refine mw_geti 47 rfl dX1_addClause_44 gf_X1_41 (ly_L hkl) (fun x120 t121 => ?_)
    have t122 : x45 = s118.1 kl 7 := by rw [t119]; exact (t117).trans (mh_pI_n (by omega)).symm
    obtain rfl : x45 = x120 := t122.trans t121.symm
    refine mw_aload_n 48 rfl 0 dX1_addClause_47 rfl rfl ?_
    refine mw_geti 51 rfl dX1_addClause_48 gf_X1_45 (ly_L hkl) (fun x123 t124 => ?_)
    have r_x123 : mh_r x123 (0) (400) := by rw [t124]; exact rd_L_8 hI_s118 hkl
    refine mw_iast 52 rfl dX1_addClause_51 (ly_L5 hkl) r_x45 (by decide) (fun s125 t126 => ?_)
    have hI_s125 : mh_I B D s125 := by rw [t126]; exact wr_L5 hI_s118 hkl
    have hF_s125 : mh_F (S_X1_addClause kl) s0 s125 := by rw [t126]; exact mh_F_pI hF_s118 (mh_si 3 rfl)
    refine mw_aload_n 53 rfl 0 dX1_addClause_52 rfl rfl ?_
    refine mw_dup 54 rfl dX1_addClause_53 rfl ?_
    refine mw_geti 57 rfl dX1_addClause_54 gf_X1_41 (ly_L hkl) (fun x127 t128 => ?_)
    have t129 : x45 = s125.1 kl 7 := by rw [t126]; exact (t122).trans (mh_pI_n (by omega)).symm
    obtain rfl : x45 = x127 := t129.trans t128.symm
    refine mw_iconst (v := 1) 58 rfl dX1_addClause_57 (by decide) ?_
    refine mw_iadd 59 rfl (1) (14) dX1_addClause_58 r_x45 rc_1 (by decide) (fun x130 t131 r_x130 => ?_)
    refine mw_puti 62 rfl dX1_addClause_59 pf_X1_41 (ly_L hkl) (fun s132 t133 => ?_)
    have hI_s132 : mh_I B D s132 := by rw [t133]; exact wr_L_7 hI_s125 hkl (mh_r_wk r_x130 (by decide))
    have hF_s132 : mh_F (S_X1_addClause kl) s0 s132 := by rw [t133]; exact mh_F_pI hF_s125 (mh_sj 4 rfl)
    exact mw_lv [0, 1, 2, 3] rfl (J62 s132 hI_s132 hF_s132)

def S_X1_clear (kl : Nat) : List (Nat × Nat) := [(kl, 7), (kl, 8), (kl, 9), (kl, 10)]
def P_X1_clear (B D : Int) (s0 : mh_H) (kl : Nat) : mh_H → Prop := fun s => mh_I B D s ∧ mh_F (S_X1_clear kl) s0 s
set_option maxRecDepth 100000 in
set_option maxHeartbeats 4000000 in
theorem w_X1_clear (l : Launch) (G : mh_G) (d : Nat) {B D : Int} (hB : B ≤ 2000000000 ∧ D ≤ 2000000000) {s0 : mh_H} (hI0 : mh_I B D s0) (kl : Nat) (hkl : mh_isL kl) : mh_Mv l G (d + 0) mM_X1_clear [.ref (G.2.2.2 kl)] s0 (P_X1_clear B D s0 kl) := by
  refine mh_enter (lv := [(0, .ref (G.2.2.2 kl))]) (by decide) rfl (Nat.le_of_ble_eq_true rfl) ?_
  have hF0 : mh_F (S_X1_clear kl) s0 s0 := mh_F_rf
  refine mw_aload_n 1 rfl 0 dX1_clear_0 rfl rfl ?_
  refine mw_iconst (v := 0) 2 rfl dX1_clear_1 (by decide) ?_
  refine mw_puti 5 rfl dX1_clear_2 pf_X1_41 (ly_L hkl) (fun s9 t10 => ?_)
  have hI_s9 : mh_I B D s9 := by rw [t10]; exact wr_L_7 hI0 hkl (mh_r_wk rc_0 (by decide))
  have hF_s9 : mh_F (S_X1_clear kl) s0 s9 := by rw [t10]; exact mh_F_pI hF0 (mh_sj 0 rfl)
  refine mw_aload_n 6 rfl 0 dX1_clear_5 rfl rfl ?_
  refine mw_iconst (v := 0) 7 rfl dX1_clear_6 (by decide) ?_
  refine mw_puti 10 rfl dX1_clear_7 pf_X1_45 (ly_L hkl) (fun s11 t12 => ?_)
  have hI_s11 : mh_I B D s11 := by rw [t12]; exact wr_L_8 hI_s9 hkl (mh_r_wk rc_0 (by decide))
  have hF_s11 : mh_F (S_X1_clear kl) s0 s11 := by rw [t12]; exact mh_F_pI hF_s9 (mh_sj 1 rfl)
  refine mw_aload_n 11 rfl 0 dX1_clear_10 rfl rfl ?_
  refine mw_iconst (v := 0) 12 rfl dX1_clear_11 (by decide) ?_
  refine mw_putz 15 rfl dX1_clear_12 pf_X1_48 (ly_L hkl) (mh_r_wk rc_0 (by decide)) (fun s13 t14 => ?_)
  have hI_s13 : mh_I B D s13 := by rw [t14]; exact wr_L_9 hI_s11 hkl (mh_r_wk rc_0 (by decide))
  have hF_s13 : mh_F (S_X1_clear kl) s0 s13 := by rw [t14]; exact mh_F_pI hF_s11 (mh_sj 2 rfl)
  refine mw_aload_n 16 rfl 0 dX1_clear_15 rfl rfl ?_
  refine mw_iconst (v := 0) 17 rfl dX1_clear_16 (by decide) ?_
  refine mw_putz 20 rfl dX1_clear_17 pf_X1_52 (ly_L hkl) (mh_r_wk rc_0 (by decide)) (fun s15 t16 => ?_)
  have hI_s15 : mh_I B D s15 := by rw [t16]; exact wr_L_10 hI_s13 hkl (mh_r_wk rc_0 (by decide))
  have hF_s15 : mh_F (S_X1_clear kl) s0 s15 := by rw [t16]; exact mh_F_pI hF_s13 (mh_sj 3 rfl)
  exact mw_vret dX1_clear_20 rfl ⟨rfl, ⟨hI_s15, hF_s15⟩⟩

def S_X1_land (kl : Nat) : List (Nat × Nat) := [(kl + 1, 9999)]
def P_X1_land (B D : Int) (s0 : mh_H) (kl : Nat) (p1 : Int32) : mh_H → Prop := fun s => mh_I B D s ∧ mh_F (S_X1_land kl) s0 s
set_option maxRecDepth 100000 in
set_option maxHeartbeats 4000000 in
theorem w_X1_land (l : Launch) (G : mh_G) (d : Nat) {B D : Int} (hB : B ≤ 1980000000 ∧ D ≤ 1980000000) {s0 : mh_H} (hI0 : mh_I B D s0) (kl : Nat) (hkl : mh_isL kl) (p1 : Int32) : mh_Mv l G (d + 1) mM_X1_land [.ref (G.2.2.2 kl), .int p1] s0 (P_X1_land B D s0 kl p1) := by
  refine mh_enter (lv := [(0, .ref (G.2.2.2 kl)), (1, .int p1)]) (by decide) rfl (Nat.le_of_ble_eq_true rfl) ?_
  have hF0 : mh_F (S_X1_land kl) s0 s0 := mh_F_rf
  refine mw_iload_n 1 rfl 1 dX1_land_0 rfl rfl ?_
  refine mw_sipush (v := 399) 4 rfl dX1_land_1 (by decide) ?_
  refine mw_callSi [.int p1, .int (399)] [] 7 rfl dX1_land_4 ml_X1_59 mc_X9_isWithin mk_X9_isWithin (w_X9_isWithin l G (d + 0) ⟨by omega, by omega⟩ hI0 p1 (399)) rfl rfl (Nat.le_of_ble_eq_true rfl) (mh_rok (by omega) (by decide)) (fun x9 s10 q11 => ?_)
  obtain ⟨r_x9, e0_s10, rfl⟩ := q11
  refine mw_if_eq 10 rfl 20 dX1_land_7 (by decide) (fun c12 => ?_) (fun c12 => ?_)
  · skip
    have r_x9 : mh_r x9 (0) (0) := mh_eq1 (show x9.toInt = (0 : Int32).toInt from c12) r_x9 rc_0 (0) (0) (by decide)
    exact mw_vret dX1_land_20 rfl ⟨rfl, ⟨hI0, hF0⟩⟩
  · skip
    have r_p1 : mh_r p1 (0) (399) := ⟨by have := e0_s10.1 (mh_z1 r_x9 c12); have := ((mh_r_full p1)).1; omega, by have := e0_s10.1 (mh_z1 r_x9 c12); have := ((mh_r_full p1)).2; have := ((mh_rc (x := 399) (n := 399) (by decide))).2; omega⟩
    have r_x9 : mh_r x9 (1) (1) := mh_ne1 (show x9.toInt ≠ (0 : Int32).toInt from c12) r_x9 rc_0 (1) (1) (by decide)
    refine mw_aload_n 11 rfl 0 dX1_land_10 rfl rfl ?_
    refine mw_geta 14 rfl dX1_land_11 gf_X1_11 (ly_L hkl) (kl + 1) (rf_L_0 hI0 hkl) ?_
    refine mw_iload_n 15 rfl 1 dX1_land_14 rfl rfl ?_
    refine mw_aload_n 16 rfl 0 dX1_land_15 rfl rfl ?_
    refine mw_geti 19 rfl dX1_land_16 gf_X1_45 (ly_L hkl) (fun x13 t14 => ?_)
    have r_x13 : mh_r x13 (0) (400) := by rw [t14]; exact rd_L_8 hI0 hkl
    refine mw_iast 20 rfl dX1_land_19 (ly_L1 hkl) r_p1 (by decide) (fun s15 t16 => ?_)
    have hI_s15 : mh_I B D s15 := by rw [t16]; exact wr_L1 hI0 hkl
    have hF_s15 : mh_F (S_X1_land kl) s0 s15 := by rw [t16]; exact mh_F_pI hF0 (mh_si 0 rfl)
    exact mw_vret dX1_land_20 rfl ⟨rfl, ⟨hI_s15, hF_s15⟩⟩

def S_X1_mist (kv : Nat) (kl : Nat) : List (Nat × Nat) := [(kl + 6, 9999), (kl + 7, 9999)]
def P_X1_mist (B D : Int) (s0 : mh_H) (kv : Nat) (kl : Nat) (p2 : Int32) : Int32 → mh_H → Prop := fun z s => mh_r z (0) (999) ∧ mh_I B D s ∧ mh_F (S_X1_mist kv kl) s0 s
set_option maxRecDepth 100000 in
set_option maxHeartbeats 4000000 in
theorem w_X1_mist (l : Launch) (G : mh_G) (d : Nat) {B D : Int} (hB : B ≤ 1940000000 ∧ D ≤ 1940000000) {s0 : mh_H} (hI0 : mh_I B D s0) (kv : Nat) (hkv : mh_isV kv) (kl : Nat) (hkl : mh_isL kl) (p2 : Int32) (r_p2 : mh_r p2 (0) (143)) : mh_Mi l G (d + 3) mM_X1_mist [.ref (G.2.2.2 kl), .ref (G.2.2.2 kv), .int p2] s0 (P_X1_mist B D s0 kv kl p2) := by
  refine mh_enter (lv := [(0, .ref (G.2.2.2 kl)), (1, .ref (G.2.2.2 kv)), (2, .int p2)]) (by decide) rfl (Nat.le_of_ble_eq_true rfl) ?_
  have hF0 : mh_F (S_X1_mist kv kl) s0 s0 := mh_F_rf
  refine mw_aload_n 1 rfl 0 dX1_mist_0 rfl rfl ?_
  refine mw_aload_n 2 rfl 1 dX1_mist_1 rfl rfl ?_
  refine mw_iload_n 3 rfl 2 dX1_mist_2 rfl rfl ?_
  refine mw_callVv [.ref (G.2.2.2 kv), .int p2] [] 6 rfl dX1_mist_3 ml_X1_87 mc_X1_see mk_X1_see (ly_L hkl) rfl (by decide) (w_X1_see l G (d + 0) ⟨by omega, by omega⟩ hI0 kv hkv kl hkl p2 r_p2) rfl rfl (Nat.le_of_ble_eq_true rfl) (mh_rok (by omega) (by decide)) (fun s8 q9 => ?_)
  obtain ⟨hI_s8, hG_s8⟩ := q9
  have hF_s8 : mh_F (S_X1_mist kv kl) s0 s8 := mh_F_tl hF0 hG_s8 (by rcases hkl with rfl | rfl <;> rcases hkv with rfl | rfl | rfl <;> decide +kernel)
  refine mw_aload_n 7 rfl 0 dX1_mist_6 rfl rfl ?_
  refine mw_bipush (v := 109) 9 rfl dX1_mist_7 (by decide) ?_
  refine mw_callVi [.int (109)] [] 12 rfl dX1_mist_9 ml_X1_91 mc_X1_worth mk_X1_worth (ly_L hkl) rfl (by decide) (w_X1_worth l G (d + 0) ⟨by omega, by omega⟩ hI_s8 kl hkl (109)) rfl rfl (Nat.le_of_ble_eq_true rfl) (mh_rok (by omega) (by decide)) (fun x10 s11 q12 => ?_)
  obtain ⟨r_x10, hI_s11, hG_s11⟩ := q12
  have hF_s11 : mh_F (S_X1_mist kv kl) s0 s11 := mh_F_tl hF_s8 hG_s11 (by rcases hkl with rfl | rfl <;> rcases hkv with rfl | rfl | rfl <;> decide +kernel)
  exact mw_iret dX1_mist_12 rfl ⟨x10, rfl, ⟨r_x10, hI_s11, hF_s11⟩⟩

def S_X1_put (kl : Nat) : List (Nat × Nat) := [(kl + 1, 9999), (kl, 8)]
def P_X1_put (B D : Int) (s0 : mh_H) (kl : Nat) (p1 : Int32) : mh_H → Prop := fun s => mh_I B D s ∧ mh_F (S_X1_put kl) s0 s
set_option maxRecDepth 100000 in
set_option maxHeartbeats 4000000 in
theorem w_X1_put (l : Launch) (G : mh_G) (d : Nat) {B D : Int} (hB : B ≤ 2000000000 ∧ D ≤ 2000000000) {s0 : mh_H} (hI0 : mh_I B D s0) (kl : Nat) (hkl : mh_isL kl) (p1 : Int32) : mh_Mv l G (d + 0) mM_X1_put [.ref (G.2.2.2 kl), .int p1] s0 (P_X1_put B D s0 kl p1) := by
  refine mh_enter (lv := [(0, .ref (G.2.2.2 kl)), (1, .int p1)]) (by decide) rfl (Nat.le_of_ble_eq_true rfl) ?_
  have hF0 : mh_F (S_X1_put kl) s0 s0 := mh_F_rf
  refine mw_aload_n 1 rfl 0 dX1_put_0 rfl rfl ?_
  refine mw_geti 4 rfl dX1_put_1 gf_X1_45 (ly_L hkl) (fun x14 t15 => ?_)
  have r_x14 : mh_r x14 (0) (400) := by rw [t15]; exact rd_L_8 hI0 hkl
  refine mw_sipush (v := 400) 7 rfl dX1_put_4 (by decide) ?_
  refine mw_icmp_ge 10 rfl 30 dX1_put_7 (by decide) (fun c16 => ?_) (fun c16 => ?_)
  · skip
    have r_x14 : mh_r x14 (400) (400) := mh_le2 c16 (mh_rc (x := 400) (n := 400) (by decide)) r_x14 (400) (by decide)
    exact mw_vret dX1_put_30 rfl ⟨rfl, ⟨hI0, hF0⟩⟩
  · skip
    have r_x14 : mh_r x14 (0) (399) := mh_lt1 c16 r_x14 (mh_rc (x := 400) (n := 400) (by decide)) (399) (by decide)
    refine mw_aload_n 11 rfl 0 dX1_put_10 rfl rfl ?_
    refine mw_geta 14 rfl dX1_put_11 gf_X1_11 (ly_L hkl) (kl + 1) (rf_L_0 hI0 hkl) ?_
    refine mw_aload_n 15 rfl 0 dX1_put_14 rfl rfl ?_
    refine mw_geti 18 rfl dX1_put_15 gf_X1_45 (ly_L hkl) (fun x17 t18 => ?_)
    obtain rfl : x14 = x17 := t15.trans t18.symm
    refine mw_iload_n 19 rfl 1 dX1_put_18 rfl rfl ?_
    refine mw_iast 20 rfl dX1_put_19 (ly_L1 hkl) r_x14 (by decide) (fun s19 t20 => ?_)
    have hI_s19 : mh_I B D s19 := by rw [t20]; exact wr_L1 hI0 hkl
    have hF_s19 : mh_F (S_X1_put kl) s0 s19 := by rw [t20]; exact mh_F_pI hF0 (mh_si 0 rfl)
    refine mw_aload_n 21 rfl 0 dX1_put_20 rfl rfl ?_
    refine mw_dup 22 rfl dX1_put_21 rfl ?_
    refine mw_geti 25 rfl dX1_put_22 gf_X1_45 (ly_L hkl) (fun x21 t22 => ?_)
    have t23 : x14 = s19.1 kl 8 := by rw [t20]; exact (t15).trans (mh_pI_n (by omega)).symm
    obtain rfl : x14 = x21 := t23.trans t22.symm
    refine mw_iconst (v := 1) 26 rfl dX1_put_25 (by decide) ?_
    refine mw_iadd 27 rfl (1) (400) dX1_put_26 r_x14 rc_1 (by decide) (fun x24 t25 r_x24 => ?_)
    refine mw_puti 30 rfl dX1_put_27 pf_X1_45 (ly_L hkl) (fun s26 t27 => ?_)
    have hI_s26 : mh_I B D s26 := by rw [t27]; exact wr_L_8 hI_s19 hkl (mh_r_wk r_x24 (by decide))
    have hF_s26 : mh_F (S_X1_put kl) s0 s26 := by rw [t27]; exact mh_F_pI hF_s19 (mh_sj 1 rfl)
    exact mw_vret dX1_put_30 rfl ⟨rfl, ⟨hI_s26, hF_s26⟩⟩

def S_X1_putJump (kl : Nat) : List (Nat × Nat) := [(kl + 1, 9999), (kl, 8)]
def P_X1_putJump (B D : Int) (s0 : mh_H) (kl : Nat) (p1 : Int32) : Int32 → mh_H → Prop := fun z s => mh_r z (-1) (399) ∧ mh_I B D s ∧ mh_F (S_X1_putJump kl) s0 s
set_option maxRecDepth 100000 in
set_option maxHeartbeats 4000000 in
theorem w_X1_putJump (l : Launch) (G : mh_G) (d : Nat) {B D : Int} (hB : B ≤ 1980000000 ∧ D ≤ 1980000000) {s0 : mh_H} (hI0 : mh_I B D s0) (kl : Nat) (hkl : mh_isL kl) (p1 : Int32) : mh_Mi l G (d + 1) mM_X1_putJump [.ref (G.2.2.2 kl), .int p1] s0 (P_X1_putJump B D s0 kl p1) := by
  refine mh_enter (lv := [(0, .ref (G.2.2.2 kl)), (1, .int p1)]) (by decide) rfl (Nat.le_of_ble_eq_true rfl) ?_
  have hF0 : mh_F (S_X1_putJump kl) s0 s0 := mh_F_rf
  refine mw_aload_n 1 rfl 0 dX1_putJump_0 rfl rfl ?_
  refine mw_iload_n 2 rfl 1 dX1_putJump_1 rfl rfl ?_
  refine mw_callVv [.int p1] [] 5 rfl dX1_putJump_2 ml_X1_55 mc_X1_put mk_X1_put (ly_L hkl) rfl (by decide) (w_X1_put l G (d + 0) ⟨by omega, by omega⟩ hI0 kl hkl p1) rfl rfl (Nat.le_of_ble_eq_true rfl) (mh_rok (by omega) (by decide)) (fun s12 q13 => ?_)
  obtain ⟨hI_s12, hG_s12⟩ := q13
  have hF_s12 : mh_F (S_X1_putJump kl) s0 s12 := mh_F_tl hF0 hG_s12 (by rcases hkl with rfl | rfl <;> decide +kernel)
  refine mw_aload_n 6 rfl 0 dX1_putJump_5 rfl rfl ?_
  refine mw_iconst (v := 0) 7 rfl dX1_putJump_6 (by decide) ?_
  refine mw_callVv [.int (0)] [] 10 rfl dX1_putJump_7 ml_X1_55 mc_X1_put mk_X1_put (ly_L hkl) rfl (by decide) (w_X1_put l G (d + 0) ⟨by omega, by omega⟩ hI_s12 kl hkl (0)) rfl rfl (Nat.le_of_ble_eq_true rfl) (mh_rok (by omega) (by decide)) (fun s15 q16 => ?_)
  obtain ⟨hI_s15, hG_s15⟩ := q16
  have hF_s15 : mh_F (S_X1_putJump kl) s0 s15 := mh_F_tl hF_s12 hG_s15 (by rcases hkl with rfl | rfl <;> decide +kernel)
  refine mw_aload_n 11 rfl 0 dX1_putJump_10 rfl rfl ?_
  refine mw_geti 14 rfl dX1_putJump_11 gf_X1_45 (ly_L hkl) (fun x17 t18 => ?_)
  have r_x17 : mh_r x17 (0) (400) := by rw [t18]; exact rd_L_8 hI_s15 hkl
  refine mw_iconst (v := 1) 15 rfl dX1_putJump_14 (by decide) ?_
  refine mw_isub 16 rfl (-1) (399) dX1_putJump_15 r_x17 rc_1 (by decide) (fun x19 t20 r_x19 => ?_)
  exact mw_iret dX1_putJump_16 rfl ⟨x19, rfl, ⟨r_x19, hI_s15, hF_s15⟩⟩

def S_X1_saysMist (kl : Nat) : List (Nat × Nat) := [(kl + 6, 9999), (kl + 7, 9999)]
def P_X1_saysMist (B D : Int) (s0 : mh_H) (kl : Nat) (p1 : Int32) (p2 : Int32) (p3 : Int32) : Int32 → mh_H → Prop := fun z s => mh_r z (0) (1) ∧ mh_I B D s ∧ mh_F (S_X1_saysMist kl) s0 s
set_option maxRecDepth 100000 in
set_option maxHeartbeats 4000000 in
theorem w_X1_saysMist (l : Launch) (G : mh_G) (d : Nat) {B D : Int} (hB : B ≤ 1940000000 ∧ D ≤ 1940000000) {s0 : mh_H} (hI0 : mh_I B D s0) (kl : Nat) (hkl : mh_isL kl) (p1 : Int32) (p2 : Int32) (p3 : Int32) : mh_Mi l G (d + 3) mM_X1_saysMist [.ref (G.2.2.2 kl), .int p1, .int p2, .int p3] s0 (P_X1_saysMist B D s0 kl p1 p2 p3) := by
  refine mh_enter (lv := [(0, .ref (G.2.2.2 kl)), (1, .int p1), (2, .int p2), (3, .int p3)]) (by decide) rfl (Nat.le_of_ble_eq_true rfl) ?_
  have hF0 : mh_F (S_X1_saysMist kl) s0 s0 := mh_F_rf
  refine mw_aload_n 1 rfl 0 dX1_saysMist_0 rfl rfl ?_
  refine mw_geta 4 rfl dX1_saysMist_1 gf_X1_35 (ly_L hkl) (kl + 6) (rf_L_5 hI0 hkl) ?_
  refine mw_iconst (v := 0) 5 rfl dX1_saysMist_4 (by decide) ?_
  refine mw_callSv [.ref (G.2.2.2 (kl + 6)), .int (0)] [] 8 rfl dX1_saysMist_5 ml_X1_98 mc_J7_fill_53178 mk_J7_fill_53178 (w_J7_fill_va l G (d + 2) ⟨by omega, by omega⟩ hI0 kl hkl (0)) rfl rfl (Nat.le_of_ble_eq_true rfl) (mh_rok (by omega) (by decide)) (fun s15 q16 => ?_)
  obtain ⟨hI_s15, hG_s15⟩ := q16
  have hF_s15 : mh_F (S_X1_saysMist kl) s0 s15 := mh_F_tl hF0 hG_s15 (by rcases hkl with rfl | rfl <;> decide +kernel)
  refine mw_aload_n 9 rfl 0 dX1_saysMist_8 rfl rfl ?_
  refine mw_geta 12 rfl dX1_saysMist_9 gf_X1_35 (ly_L hkl) (kl + 6) (rf_L_5 hI_s15 hkl) ?_
  refine mw_bipush (v := 10) 14 rfl dX1_saysMist_12 (by decide) ?_
  refine mw_iload_n 15 rfl 1 dX1_saysMist_14 rfl rfl ?_
  refine mw_iast 16 rfl dX1_saysMist_15 (ly_L6 hkl) rc_10 (by decide) (fun s17 t18 => ?_)
  have hI_s17 : mh_I B D s17 := by rw [t18]; exact wr_L6 hI_s15 hkl
  have hF_s17 : mh_F (S_X1_saysMist kl) s0 s17 := by rw [t18]; exact mh_F_pI hF_s15 (mh_si 0 rfl)
  refine mw_aload_n 17 rfl 0 dX1_saysMist_16 rfl rfl ?_
  refine mw_geta 20 rfl dX1_saysMist_17 gf_X1_35 (ly_L hkl) (kl + 6) (rf_L_5 hI_s17 hkl) ?_
  refine mw_bipush (v := 11) 22 rfl dX1_saysMist_20 (by decide) ?_
  refine mw_iload_n 23 rfl 2 dX1_saysMist_22 rfl rfl ?_
  refine mw_iast 24 rfl dX1_saysMist_23 (ly_L6 hkl) rc_11 (by decide) (fun s19 t20 => ?_)
  have hI_s19 : mh_I B D s19 := by rw [t20]; exact wr_L6 hI_s17 hkl
  have hF_s19 : mh_F (S_X1_saysMist kl) s0 s19 := by rw [t20]; exact mh_F_pI hF_s17 (mh_si 0 rfl)
  refine mw_aload_n 25 rfl 0 dX1_saysMist_24 rfl rfl ?_
  refine mw_geta 28 rfl dX1_saysMist_25 gf_X1_35 (ly_L hkl) (kl + 6) (rf_L_5 hI_s19 hkl) ?_
  refine mw_bipush (v := 12) 30 rfl dX1_saysMist_28 (by decide) ?_
  refine mw_iload_n 31 rfl 3 dX1_saysMist_30 rfl rfl ?_
  refine mw_iast 32 rfl dX1_saysMist_31 (ly_L6 hkl) rc_12 (by decide) (fun s21 t22 => ?_)
  have hI_s21 : mh_I B D s21 := by rw [t22]; exact wr_L6 hI_s19 hkl
  have hF_s21 : mh_F (S_X1_saysMist kl) s0 s21 := by rw [t22]; exact mh_F_pI hF_s19 (mh_si 0 rfl)
  refine mw_aload_n 33 rfl 0 dX1_saysMist_32 rfl rfl ?_
  refine mw_bipush (v := 102) 35 rfl dX1_saysMist_33 (by decide) ?_
  refine mw_callVi [.int (102)] [] 38 rfl dX1_saysMist_35 ml_X1_91 mc_X1_worth mk_X1_worth (ly_L hkl) rfl (by decide) (w_X1_worth l G (d + 0) ⟨by omega, by omega⟩ hI_s21 kl hkl (102)) rfl rfl (Nat.le_of_ble_eq_true rfl) (mh_rok (by omega) (by decide)) (fun x23 s24 q25 => ?_)
  obtain ⟨r_x23, hI_s24, hG_s24⟩ := q25
  have hF_s24 : mh_F (S_X1_saysMist kl) s0 s24 := mh_F_tl hF_s21 hG_s24 (by rcases hkl with rfl | rfl <;> decide +kernel)
  refine mw_if_le 41 rfl 45 dX1_saysMist_38 (by decide) (fun c26 => ?_) (fun c26 => ?_)
  · skip
    have r_x23 : mh_r x23 (0) (0) := mh_le1 (show x23.toInt ≤ (0 : Int32).toInt from c26) r_x23 rc_0 (0) (by decide)
    refine mw_iconst (v := 0) 46 rfl dX1_saysMist_45 (by decide) ?_
    exact mw_zret dX1_saysMist_46 rfl (mh_r_wk rc_0 (by decide)) ⟨(0), rfl, ⟨(mh_r_wk rc_0 (by decide)), hI_s24, hF_s24⟩⟩
  · skip
    have r_x23 : mh_r x23 (1) (999) := mh_lt2 (show (0 : Int32).toInt < x23.toInt from c26) rc_0 r_x23 (1) (by decide)
    refine mw_iconst (v := 1) 42 rfl dX1_saysMist_41 (by decide) ?_
    refine mw_goto 45 rfl 46 dX1_saysMist_42 (by decide) ?_
    exact mw_zret dX1_saysMist_46 rfl (mh_r_wk rc_1 (by decide)) ⟨(1), rfl, ⟨(mh_r_wk rc_1 (by decide)), hI_s24, hF_s24⟩⟩

def S_X1_top (kv : Nat) (kl : Nat) : List (Nat × Nat) := [(kl + 6, 9999), (kl + 7, 9999)]
def P_X1_top (B D : Int) (s0 : mh_H) (kv : Nat) (kl : Nat) (p2 : Int32) : Int32 → mh_H → Prop := fun z s => mh_r z (-2147483648) (2147483647) ∧ mh_I B D s ∧ mh_F (S_X1_top kv kl) s0 s
set_option maxRecDepth 100000 in
set_option maxHeartbeats 4000000 in
theorem w_X1_top (l : Launch) (G : mh_G) (d : Nat) {B D : Int} (hB : B ≤ 1920000000 ∧ D ≤ 1920000000) {s0 : mh_H} (hI0 : mh_I B D s0) (kv : Nat) (hkv : mh_isV kv) (kl : Nat) (hkl : mh_isL kl) (p2 : Int32) (r_p2 : mh_r p2 (0) (143)) : mh_Mi l G (d + 4) mM_X1_top [.ref (G.2.2.2 kl), .ref (G.2.2.2 kv), .int p2] s0 (P_X1_top B D s0 kv kl p2) := by
  refine mh_enter (lv := [(0, .ref (G.2.2.2 kl)), (1, .ref (G.2.2.2 kv)), (2, .int p2)]) (by decide) rfl (Nat.le_of_ble_eq_true rfl) ?_
  have hF0 : mh_F (S_X1_top kv kl) s0 s0 := mh_F_rf
  refine mw_aload_n 1 rfl 0 dX1_top_0 rfl rfl ?_
  refine mw_aload_n 2 rfl 1 dX1_top_1 rfl rfl ?_
  refine mw_iload_n 3 rfl 2 dX1_top_2 rfl rfl ?_
  refine mw_callVi [.ref (G.2.2.2 kv), .int p2] [] 6 rfl dX1_top_3 ml_X1_94 mc_X1_mist mk_X1_mist (ly_L hkl) rfl (by decide) (w_X1_mist l G (d + 0) ⟨by omega, by omega⟩ hI0 kv hkv kl hkl p2 r_p2) rfl rfl (Nat.le_of_ble_eq_true rfl) (mh_rok (by omega) (by decide)) (fun x9 s10 q11 => ?_)
  obtain ⟨r_x9, hI_s10, hG_s10⟩ := q11
  have hF_s10 : mh_F (S_X1_top kv kl) s0 s10 := mh_F_tl hF0 hG_s10 (by rcases hkl with rfl | rfl <;> rcases hkv with rfl | rfl | rfl <;> decide +kernel)
  refine mw_istore_n 7 rfl [(3, .int x9), (0, .ref (G.2.2.2 kl)), (1, .ref (G.2.2.2 kv)), (2, .int p2)] dX1_top_6 rfl (by decide) rfl ?_
  refine mw_iload_n 8 rfl 0 dX1_top_7 rfl rfl ?_
  refine mw_if_le 11 rfl 22 dX1_top_8 (by decide) (fun c12 => ?_) (fun c12 => ?_)
  · skip
    have r_x9 : mh_r x9 (0) (0) := mh_le1 (show x9.toInt ≤ (0 : Int32).toInt from c12) r_x9 rc_0 (0) (by decide)
    refine mw_iconst (v := 0) 23 rfl dX1_top_22 (by decide) ?_
    exact mw_iret dX1_top_23 rfl ⟨(0), rfl, ⟨(mh_r_wk rc_0 (by decide)), hI_s10, hF_s10⟩⟩
  · skip
    have r_x9 : mh_r x9 (1) (999) := mh_lt2 (show (0 : Int32).toInt < x9.toInt from c12) rc_0 r_x9 (1) (by decide)
    refine mw_aload_n 12 rfl 2 dX1_top_11 rfl rfl ?_
    refine mw_geta 15 rfl dX1_top_12 gf_X1_63 (ly_V hkv) (kv + 1) (rf_V_0 hI_s10 hkv) ?_
    refine mw_iload_n 16 rfl 3 dX1_top_15 rfl rfl ?_
    refine mw_iald 17 rfl dX1_top_16 (ly_V1 hkv) r_p2 (by decide) (fun x13 t14 => ?_)
    refine mw_iload_n 18 rfl 0 dX1_top_17 rfl rfl ?_
    refine mw_iadd_u 19 rfl dX1_top_18 (fun x15 t16 => ?_)
    refine mw_goto 22 rfl 23 dX1_top_19 (by decide) ?_
    exact mw_iret dX1_top_23 rfl ⟨x15, rfl, ⟨(mh_r_full x15), hI_s10, hF_s10⟩⟩

def S_X1_yards (kv : Nat) (kl : Nat) : List (Nat × Nat) := [(kl + 6, 9999), (kl + 7, 9999)]
def P_X1_yards (B D : Int) (s0 : mh_H) (kv : Nat) (kl : Nat) (p2 : Int32) : Int32 → mh_H → Prop := fun z s => mh_r z (0) (999) ∧ mh_I B D s ∧ mh_F (S_X1_yards kv kl) s0 s
set_option maxRecDepth 100000 in
set_option maxHeartbeats 4000000 in
theorem w_X1_yards (l : Launch) (G : mh_G) (d : Nat) {B D : Int} (hB : B ≤ 1920000000 ∧ D ≤ 1920000000) {s0 : mh_H} (hI0 : mh_I B D s0) (kv : Nat) (hkv : mh_isV kv) (kl : Nat) (hkl : mh_isL kl) (p2 : Int32) (r_p2 : mh_r p2 (0) (143)) : mh_Mi l G (d + 4) mM_X1_yards [.ref (G.2.2.2 kl), .ref (G.2.2.2 kv), .int p2] s0 (P_X1_yards B D s0 kv kl p2) := by
  refine mh_enter (lv := [(0, .ref (G.2.2.2 kl)), (1, .ref (G.2.2.2 kv)), (2, .int p2)]) (by decide) rfl (Nat.le_of_ble_eq_true rfl) ?_
  have hF0 : mh_F (S_X1_yards kv kl) s0 s0 := mh_F_rf
  refine mw_aload_n 1 rfl 0 dX1_yards_0 rfl rfl ?_
  refine mw_geta 4 rfl dX1_yards_1 gf_X1_35 (ly_L hkl) (kl + 6) (rf_L_5 hI0 hkl) ?_
  refine mw_bipush (v := 9) 6 rfl dX1_yards_4 (by decide) ?_
  refine mw_aload_n 7 rfl 0 dX1_yards_6 rfl rfl ?_
  refine mw_aload_n 8 rfl 1 dX1_yards_7 rfl rfl ?_
  refine mw_iload_n 9 rfl 2 dX1_yards_8 rfl rfl ?_
  refine mw_callVi [.ref (G.2.2.2 kv), .int p2] [.int (9), .ref (G.2.2.2 (kl + 6))] 12 rfl dX1_yards_9 ml_X1_94 mc_X1_mist mk_X1_mist (ly_L hkl) rfl (by decide) (w_X1_mist l G (d + 0) ⟨by omega, by omega⟩ hI0 kv hkv kl hkl p2 r_p2) rfl rfl (Nat.le_of_ble_eq_true rfl) (mh_rok (by omega) (by decide)) (fun x9 s10 q11 => ?_)
  obtain ⟨r_x9, hI_s10, hG_s10⟩ := q11
  have hF_s10 : mh_F (S_X1_yards kv kl) s0 s10 := mh_F_tl hF0 hG_s10 (by rcases hkl with rfl | rfl <;> rcases hkv with rfl | rfl | rfl <;> decide +kernel)
  refine mw_iast 13 rfl dX1_yards_12 (ly_L6 hkl) rc_9 (by decide) (fun s12 t13 => ?_)
  have hI_s12 : mh_I B D s12 := by rw [t13]; exact wr_L6 hI_s10 hkl
  have hF_s12 : mh_F (S_X1_yards kv kl) s0 s12 := by rw [t13]; exact mh_F_pI hF_s10 (mh_si 0 rfl)
  refine mw_aload_n 14 rfl 0 dX1_yards_13 rfl rfl ?_
  refine mw_bipush (v := 121) 16 rfl dX1_yards_14 (by decide) ?_
  refine mw_callVi [.int (121)] [] 19 rfl dX1_yards_16 ml_X1_91 mc_X1_worth mk_X1_worth (ly_L hkl) rfl (by decide) (w_X1_worth l G (d + 1) ⟨by omega, by omega⟩ hI_s12 kl hkl (121)) rfl rfl (Nat.le_of_ble_eq_true rfl) (mh_rok (by omega) (by decide)) (fun x14 s15 q16 => ?_)
  obtain ⟨r_x14, hI_s15, hG_s15⟩ := q16
  have hF_s15 : mh_F (S_X1_yards kv kl) s0 s15 := mh_F_tl hF_s12 hG_s15 (by rcases hkl with rfl | rfl <;> rcases hkv with rfl | rfl | rfl <;> decide +kernel)
  exact mw_iret dX1_yards_19 rfl ⟨x14, rfl, ⟨r_x14, hI_s15, hF_s15⟩⟩

def P_X2_all (B D : Int) (s0 : mh_H) (p1 : Int32) (p2 : Int32) : Int64 → mh_H → Prop := fun z s => s0 = s
set_option maxRecDepth 100000 in
set_option maxHeartbeats 4000000 in
theorem w_X2_all (l : Launch) (G : mh_G) (d : Nat) {B D : Int} (hB : B ≤ 2000000000 ∧ D ≤ 2000000000) {s0 : mh_H} (hI0 : mh_I B D s0) (p1 : Int32) (r_p1 : mh_r p1 (1) (12)) (p2 : Int32) (r_p2 : mh_r p2 (1) (9)) : mh_Ml l G (d + 0) mM_X2_all [.ref (G.2.2.2 35), .int p1, .int p2] s0 (P_X2_all B D s0 p1 p2) := by
  refine mh_enter (lv := [(0, .ref (G.2.2.2 35)), (1, .int p1), (2, .int p2)]) (by decide) rfl (Nat.le_of_ble_eq_true rfl) ?_
  refine mw_lconst (v := 1) 1 rfl dX2_all_0 (by decide) ?_
  refine mw_lstore_n 2 rfl [(3, .long (1)), (0, .ref (G.2.2.2 35)), (1, .int p1), (2, .int p2)] dX2_all_1 rfl (by decide) rfl ?_
  refine mw_iconst (v := 0) 3 rfl dX2_all_2 (by decide) ?_
  refine mw_istore 5 rfl [(5, .int (0)), (3, .long (1)), (0, .ref (G.2.2.2 35)), (1, .int p1), (2, .int p2)] dX2_all_3  (by decide) rfl ?_
  have L5 : ∀ n1 : Nat, ∀ (x107 : Int32) (y108 : Int64), mh_r x107 (0) (14) → (14) - x107.toInt < (n1 : Int) → mh_W G (mh_XM l G (d + 0) (mh_Ql (P_X2_all B D s0 p1 p2))) mM_X2_all 5 [(0, .ref (G.2.2.2 35)), (1, .int p1), (2, .int p2), (3, .long y108), (5, .int x107)] [] s0 := by
    intro n1
    induction n1 with
    | zero =>
      intro x107 y108 r_x107 hmn1
      exact absurd hmn1 (by have := r_x107.1; have := r_x107.2; omega)
    | succ n1 ihn1 =>
      intro x107 y108 r_x107 hmn1
      refine mw_iload 7 rfl 4 dX2_all_5  rfl ?_
      refine mw_iload_n 8 rfl 1 dX2_all_7 rfl rfl ?_
      refine mw_icmp_ge 11 rfl 24 dX2_all_8 (by decide) (fun c120 => ?_) (fun c120 => ?_)
      · skip
        have r_x107 : mh_r x107 (1) (14) := mh_le2 c120 r_p1 r_x107 (1) (by decide)
        refine mw_lload_n 25 rfl 3 dX2_all_24 rfl rfl ?_
        exact mw_lret dX2_all_25 rfl ⟨y108, rfl, rfl⟩
      · skip
        have r_x107 : mh_r x107 (0) (11) := mh_lt1 c120 r_x107 r_p1 (11) (by decide)
        refine mw_lload_n 12 rfl 3 dX2_all_11 rfl rfl ?_
        refine mw_iload_n 13 rfl 2 dX2_all_12 rfl rfl ?_
        refine mw_iconst (v := 1) 14 rfl dX2_all_13 (by decide) ?_
        refine mw_iadd 15 rfl (2) (10) dX2_all_14 r_p2 rc_1 (by decide) (fun x121 t122 r_x121 => ?_)
        refine mw_i2l 16 rfl dX2_all_15 (fun y123 t124 => ?_)
        refine mw_lmul 17 rfl dX2_all_16 (fun y125 t126 => ?_)
        refine mw_lstore_n 18 rfl [(3, .long y125), (0, .ref (G.2.2.2 35)), (1, .int p1), (2, .int p2), (5, .int x107)] dX2_all_17 rfl (by decide) rfl ?_
        refine mw_iincR (k := 4) (1) (12) 21 rfl (fun z => [(5, .int z), (3, .long y125), (0, .ref (G.2.2.2 35)), (1, .int p1), (2, .int p2)]) dX2_all_18 rfl (by decide) (fun _ => rfl) r_x107 (by decide) (by decide) (fun x127 t128 r_x127 => ?_)
        refine mw_goto 24 rfl 5 dX2_all_21 (by decide) ?_
        exact mw_lv [2, 3, 4, 1, 0] rfl (ihn1 x127 y125 (mh_r_wk r_x127 (by decide)) (by have : x127.toInt = x107.toInt + (1) := t128; omega))
  exact mw_lv [2, 3, 4, 1, 0] rfl (L5 15 (0) (1) (mh_r_wk rc_0 (by decide)) (by have := (rc_0).1; have := (rc_0).2; omega))

def S_X2_push : List (Nat × Nat) := [(36, 9999)]
def P_X2_push (B D : Int) (s0 : mh_H) (p1 : Int32) : mh_H → Prop := fun s => mh_I B D s ∧ mh_F S_X2_push s0 s
set_option maxRecDepth 100000 in
set_option maxHeartbeats 4000000 in
theorem w_X2_push (l : Launch) (G : mh_G) (d : Nat) {B D : Int} (hB : B ≤ 2000000000 ∧ D ≤ 2000000000) {s0 : mh_H} (hI0 : mh_I B D s0) (p1 : Int32) (r_p1 : mh_r p1 (1) (9)) : mh_Mv l G (d + 0) mM_X2_push [.ref (G.2.2.2 35), .int p1] s0 (P_X2_push B D s0 p1) := by
  refine mh_enter (lv := [(0, .ref (G.2.2.2 35)), (1, .int p1)]) (by decide) rfl (Nat.le_of_ble_eq_true rfl) ?_
  have hF0 : mh_F S_X2_push s0 s0 := mh_F_rf
  refine mw_bipush (v := 108) 2 rfl dX2_push_0 (by decide) ?_
  refine mw_istore_n 3 rfl [(2, .int (108)), (0, .ref (G.2.2.2 35)), (1, .int p1)] dX2_push_2 rfl (by decide) rfl ?_
  have L3 : ∀ n1 : Nat, ∀ (x1457 : Int32) (s1458 : mh_H), mh_r x1457 (0) (108) → mh_I B D s1458 → mh_F S_X2_push s0 s1458 → x1457.toInt - (0) < (n1 : Int) → mh_W G (mh_XM l G (d + 0) (mh_Qv (P_X2_push B D s0 p1))) mM_X2_push 3 [(0, .ref (G.2.2.2 35)), (1, .int p1), (2, .int x1457)] [] s1458 := by
    intro n1
    induction n1 with
    | zero =>
      intro x1457 s1458 r_x1457 hI_s1458 hF_s1458 hmn1
      exact absurd hmn1 (by have := r_x1457.1; have := r_x1457.2; omega)
    | succ n1 ihn1 =>
      intro x1457 s1458 r_x1457 hI_s1458 hF_s1458 hmn1
      refine mw_iload_n 4 rfl 2 dX2_push_3 rfl rfl ?_
      refine mw_if_le 7 rfl 48 dX2_push_4 (by decide) (fun c1532 => ?_) (fun c1532 => ?_)
      · skip
        have r_x1457 : mh_r x1457 (0) (0) := mh_le1 (show x1457.toInt ≤ (0 : Int32).toInt from c1532) r_x1457 rc_0 (0) (by decide)
        exact mw_vret dX2_push_48 rfl ⟨rfl, ⟨hI_s1458, hF_s1458⟩⟩
      · skip
        have r_x1457 : mh_r x1457 (1) (108) := mh_lt2 (show (0 : Int32).toInt < x1457.toInt from c1532) rc_0 r_x1457 (1) (by decide)
        refine mw_iconst (v := 1) 8 rfl dX2_push_7 (by decide) ?_
        refine mw_istore_n 9 rfl [(3, .int (1)), (0, .ref (G.2.2.2 35)), (1, .int p1), (2, .int x1457)] dX2_push_8 rfl (by decide) rfl ?_
        have L9 : ∀ n2 : Nat, ∀ (x1573 : Int32) (s1574 : mh_H), mh_r x1573 (1) (14) → mh_I B D s1574 → mh_F S_X2_push s0 s1574 → (14) - x1573.toInt < (n2 : Int) → mh_W G (mh_XM l G (d + 0) (mh_Qv (P_X2_push B D s0 p1))) mM_X2_push 9 [(0, .ref (G.2.2.2 35)), (1, .int p1), (2, .int x1457), (3, .int x1573)] [] s1574 := by
          intro n2
          induction n2 with
          | zero =>
            intro x1573 s1574 r_x1573 hI_s1574 hF_s1574 hmn2
            exact absurd hmn2 (by have := r_x1573.1; have := r_x1573.2; omega)
          | succ n2 ihn2 =>
            intro x1573 s1574 r_x1573 hI_s1574 hF_s1574 hmn2
            refine mw_iload_n 10 rfl 3 dX2_push_9 rfl rfl ?_
            refine mw_iload_n 11 rfl 1 dX2_push_10 rfl rfl ?_
            have J42 : mh_W G (mh_XM l G (d + 0) (mh_Qv (P_X2_push B D s0 p1))) mM_X2_push 42 [(0, .ref (G.2.2.2 35)), (1, .int p1), (2, .int x1457), (3, .int x1573)] [] s1574 := by
              skip
              refine mw_iincR (k := 2) (0) (107) 45 rfl (fun z => [(2, .int z), (0, .ref (G.2.2.2 35)), (1, .int p1), (3, .int x1573)]) dX2_push_42 rfl (by decide) (fun _ => rfl) r_x1457 (by decide) (by decide) (fun x1603 t1604 r_x1603 => ?_)
              refine mw_goto 48 rfl 3 dX2_push_45 (by decide) ?_
              exact mw_lv [1, 2, 0] rfl (ihn1 x1603 s1574 (mh_r_wk r_x1603 (by decide)) hI_s1574 hF_s1574 (by have : x1603.toInt = x1457.toInt + (-1) := t1604; omega))
            refine mw_icmp_gt 14 rfl 42 dX2_push_11 (by decide) (fun c1605 => ?_) (fun c1605 => ?_)
            · skip
              have r_x1573 : mh_r x1573 (2) (14) := mh_lt2 c1605 r_p1 r_x1573 (2) (by decide)
              exact mw_lv [0, 1, 2, 3] rfl (J42)
            · skip
              have r_x1573 : mh_r x1573 (1) (9) := mh_le1 c1605 r_x1573 r_p1 (9) (by decide)
              refine mw_iload_n 15 rfl 3 dX2_push_14 rfl rfl ?_
              refine mw_iload_n 16 rfl 2 dX2_push_15 rfl rfl ?_
              refine mw_icmp_gt 19 rfl 42 dX2_push_16 (by decide) (fun c1606 => ?_) (fun c1606 => ?_)
              · skip
                have r_x1457 : mh_r x1457 (1) (8) := mh_lt1 c1606 r_x1457 r_x1573 (8) (by decide)
                have r_x1573 : mh_r x1573 (2) (9) := mh_lt2 c1606 r_x1457 r_x1573 (2) (by decide)
                exact mw_lv [0, 1, 2, 3] rfl (J42)
              · skip
                refine mw_aload_n 20 rfl 0 dX2_push_19 rfl rfl ?_
                refine mw_geta 23 rfl dX2_push_20 gf_X2_9 rfl 36 (mh_rf hI_s1574 38 rfl) ?_
                refine mw_iload_n 24 rfl 2 dX2_push_23 rfl rfl ?_
                refine mw_dup2 25 rfl dX2_push_24 rfl rfl ?_
                refine mw_lald 26 rfl dX2_push_25 rfl r_x1457 (by decide) (fun y1607 _ => ?_)
                refine mw_aload_n 27 rfl 0 dX2_push_26 rfl rfl ?_
                refine mw_geta 30 rfl dX2_push_27 gf_X2_9 rfl 36 (mh_rf hI_s1574 38 rfl) ?_
                refine mw_iload_n 31 rfl 2 dX2_push_30 rfl rfl ?_
                refine mw_iload_n 32 rfl 3 dX2_push_31 rfl rfl ?_
                refine mw_isub 33 rfl (-8) (107) dX2_push_32 r_x1457 r_x1573 (by decide) (fun x1608 t1609 r_x1608 => ?_)
                have r_x1608 : mh_r x1608 (0) (107) := ⟨by have := t1609; have := c1606; omega, r_x1608.2⟩
                refine mw_lald 34 rfl dX2_push_33 rfl r_x1608 (by decide) (fun y1610 _ => ?_)
                refine mw_ladd 35 rfl dX2_push_34 (fun y1611 t1612 => ?_)
                refine mw_last 36 rfl dX2_push_35 rfl r_x1457 (by decide) (fun s1613 t1614 => ?_)
                have hI_s1613 : mh_I B D s1613 := by rw [t1614]; exact mh_I_pL hI_s1574
                have hF_s1613 : mh_F S_X2_push s0 s1613 := by rw [t1614]; exact mh_F_pL hF_s1574 (mh_si 0 rfl)
                refine mw_iincR (k := 3) (2) (10) 39 rfl (fun z => [(3, .int z), (0, .ref (G.2.2.2 35)), (1, .int p1), (2, .int x1457)]) dX2_push_36 rfl (by decide) (fun _ => rfl) r_x1573 (by decide) (by decide) (fun x1615 t1616 r_x1615 => ?_)
                refine mw_goto 42 rfl 9 dX2_push_39 (by decide) ?_
                exact mw_lv [1, 2, 3, 0] rfl (ihn2 x1615 s1613 (mh_r_wk r_x1615 (by decide)) hI_s1613 hF_s1613 (by have : x1615.toInt = x1573.toInt + (1) := t1616; omega))
        exact mw_lv [1, 2, 3, 0] rfl (L9 14 (1) s1458 (mh_r_wk rc_1 (by decide)) hI_s1458 hF_s1458 (by have := (rc_1).1; have := (rc_1).2; omega))
  exact mw_lv [1, 2, 0] rfl (L3 109 (108) s0 (mh_r_wk rc_108 (by decide)) hI0 hF0 (by have := (rc_108).1; have := (rc_108).2; omega))

def S_X2_breaking : List (Nat × Nat) := [(36, 9999)]
def P_X2_breaking (B D : Int) (s0 : mh_H) (p1 : Int32) (p2 : Int32) (p3 : Int32) : Int64 → mh_H → Prop := fun z s => mh_I B D s ∧ mh_F S_X2_breaking s0 s
set_option maxRecDepth 100000 in
set_option maxHeartbeats 4000000 in
theorem w_X2_breaking (l : Launch) (G : mh_G) (d : Nat) {B D : Int} (hB : B ≤ 1980000000 ∧ D ≤ 1980000000) {s0 : mh_H} (hI0 : mh_I B D s0) (p1 : Int32) (r_p1 : mh_r p1 (1) (200)) (p2 : Int32) (r_p2 : mh_r p2 (1) (12)) (p3 : Int32) (r_p3 : mh_r p3 (1) (9)) : mh_Ml l G (d + 1) mM_X2_breaking [.ref (G.2.2.2 35), .int p1, .int p2, .int p3] s0 (P_X2_breaking B D s0 p1 p2 p3) := by
  refine mh_enter (lv := [(0, .ref (G.2.2.2 35)), (1, .int p1), (2, .int p2), (3, .int p3)]) (by decide) rfl (Nat.le_of_ble_eq_true rfl) ?_
  have hF0 : mh_F S_X2_breaking s0 s0 := mh_F_rf
  refine mw_aload_n 1 rfl 0 dX2_breaking_0 rfl rfl ?_
  refine mw_geta 4 rfl dX2_breaking_1 gf_X2_9 rfl 36 (mh_rf hI0 38 rfl) ?_
  refine mw_lconst (v := 0) 5 rfl dX2_breaking_4 (by decide) ?_
  refine mw_callSv [.ref (G.2.2.2 36), .long (0)] [] 8 rfl dX2_breaking_5 ml_X2_13 mc_J7_fill_d0a16 mk_J7_fill_d0a16 (w_J7_fill_wa l G (d + 0) ⟨by omega, by omega⟩ hI0 (0)) rfl rfl (Nat.le_of_ble_eq_true rfl) (mh_rok (by omega) (by decide)) (fun s75 q76 => ?_)
  obtain ⟨hI_s75, hG_s75⟩ := q76
  have hF_s75 : mh_F S_X2_breaking s0 s75 := mh_F_tl hF0 hG_s75 (by decide +kernel)
  refine mw_aload_n 9 rfl 0 dX2_breaking_8 rfl rfl ?_
  refine mw_geta 12 rfl dX2_breaking_9 gf_X2_9 rfl 36 (mh_rf hI_s75 38 rfl) ?_
  refine mw_iconst (v := 0) 13 rfl dX2_breaking_12 (by decide) ?_
  refine mw_lconst (v := 1) 14 rfl dX2_breaking_13 (by decide) ?_
  refine mw_last 15 rfl dX2_breaking_14 rfl rc_0 (by decide) (fun s77 t78 => ?_)
  have hI_s77 : mh_I B D s77 := by rw [t78]; exact mh_I_pL hI_s75
  have hF_s77 : mh_F S_X2_breaking s0 s77 := by rw [t78]; exact mh_F_pL hF_s75 (mh_si 0 rfl)
  refine mw_iconst (v := 0) 16 rfl dX2_breaking_15 (by decide) ?_
  refine mw_istore 18 rfl [(4, .int (0)), (0, .ref (G.2.2.2 35)), (1, .int p1), (2, .int p2), (3, .int p3)] dX2_breaking_16  (by decide) rfl ?_
  have L18 : ∀ n1 : Nat, ∀ (x109 : Int32) (s110 : mh_H), mh_r x109 (0) (14) → mh_I B D s110 → mh_F S_X2_breaking s0 s110 → (14) - x109.toInt < (n1 : Int) → mh_W G (mh_XM l G (d + 1) (mh_Ql (P_X2_breaking B D s0 p1 p2 p3))) mM_X2_breaking 18 [(0, .ref (G.2.2.2 35)), (1, .int p1), (2, .int p2), (3, .int p3), (4, .int x109)] [] s110 := by
    intro n1
    induction n1 with
    | zero =>
      intro x109 s110 r_x109 hI_s110 hF_s110 hmn1
      exact absurd hmn1 (by have := r_x109.1; have := r_x109.2; omega)
    | succ n1 ihn1 =>
      intro x109 s110 r_x109 hI_s110 hF_s110 hmn1
      refine mw_iload 20 rfl 4 dX2_breaking_18  rfl ?_
      refine mw_iload_n 21 rfl 2 dX2_breaking_20 rfl rfl ?_
      refine mw_icmp_ge 24 rfl 35 dX2_breaking_21 (by decide) (fun c119 => ?_) (fun c119 => ?_)
      · skip
        have r_x109 : mh_r x109 (1) (14) := mh_le2 c119 r_p2 r_x109 (1) (by decide)
        refine mw_lconst (v := 0) 36 rfl dX2_breaking_35 (by decide) ?_
        refine mw_lstore 38 rfl [(4, .long (0)), (0, .ref (G.2.2.2 35)), (1, .int p1), (2, .int p2), (3, .int p3)] dX2_breaking_36  (by decide) rfl ?_
        refine mw_iload_n 39 rfl 2 dX2_breaking_38 rfl rfl ?_
        refine mw_istore 41 rfl [(6, .int p1), (4, .long (0)), (0, .ref (G.2.2.2 35)), (1, .int p1), (2, .int p2), (3, .int p3)] dX2_breaking_39  (by decide) rfl ?_
        have L41 : ∀ n2 : Nat, ∀ (x126 : Int32) (y127 : Int64), mh_r x126 (1) (200) → (200) - x126.toInt < (n2 : Int) → mh_W G (mh_XM l G (d + 1) (mh_Ql (P_X2_breaking B D s0 p1 p2 p3))) mM_X2_breaking 41 [(0, .ref (G.2.2.2 35)), (1, .int p1), (2, .int p2), (3, .int p3), (4, .long y127), (6, .int x126)] [] s110 := by
          intro n2
          induction n2 with
          | zero =>
            intro x126 y127 r_x126 hmn2
            exact absurd hmn2 (by have := r_x126.1; have := r_x126.2; omega)
          | succ n2 ihn2 =>
            intro x126 y127 r_x126 hmn2
            refine mw_iload 43 rfl 5 dX2_breaking_41  rfl ?_
            refine mw_bipush (v := 109) 45 rfl dX2_breaking_43 (by decide) ?_
            refine mw_icmp_ge 48 rfl 66 dX2_breaking_45 (by decide) (fun c136 => ?_) (fun c136 => ?_)
            · skip
              have r_x126 : mh_r x126 (109) (200) := mh_le2 c136 rc_109 r_x126 (109) (by decide)
              refine mw_lload 68 rfl 4 dX2_breaking_66  rfl ?_
              exact mw_lret dX2_breaking_68 rfl ⟨y127, rfl, ⟨hI_s110, hF_s110⟩⟩
            · skip
              have r_x126 : mh_r x126 (1) (108) := mh_lt1 c136 r_x126 rc_109 (108) (by decide)
              refine mw_lload 50 rfl 4 dX2_breaking_48  rfl ?_
              refine mw_aload_n 51 rfl 0 dX2_breaking_50 rfl rfl ?_
              refine mw_geta 54 rfl dX2_breaking_51 gf_X2_9 rfl 36 (mh_rf hI_s110 38 rfl) ?_
              refine mw_iload 56 rfl 5 dX2_breaking_54  rfl ?_
              refine mw_lald 57 rfl dX2_breaking_56 rfl r_x126 (by decide) (fun y137 _ => ?_)
              refine mw_ladd 58 rfl dX2_breaking_57 (fun y138 t139 => ?_)
              refine mw_lstore 60 rfl [(4, .long y138), (0, .ref (G.2.2.2 35)), (1, .int p1), (2, .int p2), (3, .int p3), (6, .int x126)] dX2_breaking_58  (by decide) rfl ?_
              refine mw_iincR (k := 5) (2) (109) 63 rfl (fun z => [(6, .int z), (4, .long y138), (0, .ref (G.2.2.2 35)), (1, .int p1), (2, .int p2), (3, .int p3)]) dX2_breaking_60 rfl (by decide) (fun _ => rfl) r_x126 (by decide) (by decide) (fun x140 t141 r_x140 => ?_)
              refine mw_goto 66 rfl 41 dX2_breaking_63 (by decide) ?_
              exact mw_lv [2, 3, 4, 5, 1, 0] rfl (ihn2 x140 y138 (mh_r_wk r_x140 (by decide)) (by have : x140.toInt = x126.toInt + (1) := t141; omega))
        exact mw_lv [2, 3, 4, 5, 1, 0] rfl (L41 200 p1 (0) r_p1 (by have := (r_p1).1; have := (r_p1).2; omega))
      · skip
        have r_x109 : mh_r x109 (0) (11) := mh_lt1 c119 r_x109 r_p2 (11) (by decide)
        refine mw_aload_n 25 rfl 0 dX2_breaking_24 rfl rfl ?_
        refine mw_iload_n 26 rfl 3 dX2_breaking_25 rfl rfl ?_
        refine mw_callVv [.int p3] [] 29 rfl dX2_breaking_26 ml_X2_19 mc_X2_push mk_X2_push rfl rfl (by decide) (w_X2_push l G (d + 0) ⟨by omega, by omega⟩ hI_s110 p3 r_p3) rfl rfl (Nat.le_of_ble_eq_true rfl) (mh_rok (by omega) (by decide)) (fun s143 q144 => ?_)
        obtain ⟨hI_s143, hG_s143⟩ := q144
        have hF_s143 : mh_F S_X2_breaking s0 s143 := mh_F_tl hF_s110 hG_s143 (by decide +kernel)
        refine mw_iincR (k := 4) (1) (12) 32 rfl (fun z => [(4, .int z), (0, .ref (G.2.2.2 35)), (1, .int p1), (2, .int p2), (3, .int p3)]) dX2_breaking_29 rfl (by decide) (fun _ => rfl) r_x109 (by decide) (by decide) (fun x145 t146 r_x145 => ?_)
        refine mw_goto 35 rfl 18 dX2_breaking_32 (by decide) ?_
        exact mw_lv [1, 2, 3, 4, 0] rfl (ihn1 x145 s143 (mh_r_wk r_x145 (by decide)) hI_s143 hF_s143 (by have : x145.toInt = x109.toInt + (1) := t146; omega))
  exact mw_lv [1, 2, 3, 4, 0] rfl (L18 15 (0) s77 (mh_r_wk rc_0 (by decide)) hI_s77 hF_s77 (by have := (rc_0).1; have := (rc_0).2; omega))

def P_X3_cost (B D : Int) (s0 : mh_H) (p1 : Int32) (p2 : Int32) (p3 : Int32) (p4 : Int32) : Int32 → mh_H → Prop := fun z s => mh_r z (-2147483648) (2147483647) ∧ s0 = s
set_option maxRecDepth 100000 in
set_option maxHeartbeats 4000000 in
theorem w_X3_cost (l : Launch) (G : mh_G) (d : Nat) {B D : Int} (hB : B ≤ 2000000000 ∧ D ≤ 2000000000) {s0 : mh_H} (hI0 : mh_I B D s0) (p1 : Int32) (r_p1 : mh_r p1 (0) (59)) (p2 : Int32) (r_p2 : mh_r p2 (0) (1)) (p3 : Int32) (p4 : Int32) : mh_Mi l G (d + 0) mM_X3_cost [.ref (G.2.2.2 29), .int p1, .int p2, .int p3, .int p4] s0 (P_X3_cost B D s0 p1 p2 p3 p4) := by
  refine mh_enter (lv := [(0, .ref (G.2.2.2 29)), (1, .int p1), (2, .int p2), (3, .int p3), (4, .int p4)]) (by decide) rfl (Nat.le_of_ble_eq_true rfl) ?_
  refine mw_aload_n 1 rfl 0 dX3_cost_0 rfl rfl ?_
  refine mw_geta 4 rfl dX3_cost_1 gf_X3_21 rfl 33 (mh_rf hI0 36 rfl) ?_
  refine mw_iload_n 5 rfl 1 dX3_cost_4 rfl rfl ?_
  refine mw_iald 6 rfl dX3_cost_5 rfl r_p1 (by decide) (fun x7 t8 => ?_)
  have J14 : ∀ (x10 : Int32), mh_r x10 (0) (1) → mh_W G (mh_XM l G (d + 0) (mh_Qi (P_X3_cost B D s0 p1 p2 p3 p4))) mM_X3_cost 14 [(0, .ref (G.2.2.2 29)), (1, .int p1), (2, .int p2), (3, .int p3), (4, .int p4)] [.int x10] s0 := by
    intro x10 r_x10
    refine mw_istore 16 rfl [(5, .int x10), (0, .ref (G.2.2.2 29)), (1, .int p1), (2, .int p2), (3, .int p3), (4, .int p4)] dX3_cost_14  (by decide) rfl ?_
    refine mw_iload 18 rfl 0 dX3_cost_16  rfl ?_
    refine mw_iload_n 19 rfl 3 dX3_cost_18 rfl rfl ?_
    refine mw_icmp_ne 22 rfl 24 dX3_cost_19 (by decide) (fun c13 => ?_) (fun c13 => ?_)
    · skip
      refine mw_iload 26 rfl 0 dX3_cost_24  rfl ?_
      refine mw_if_eq 29 rfl 33 dX3_cost_26 (by decide) (fun c14 => ?_) (fun c14 => ?_)
      · skip
        have r_x10 : mh_r x10 (0) (0) := mh_eq1 (show x10.toInt = (0 : Int32).toInt from c14) r_x10 rc_0 (0) (0) (by decide)
        refine mw_iload 35 rfl 5 dX3_cost_33  rfl ?_
        exact mw_iret dX3_cost_35 rfl ⟨p4, rfl, ⟨(mh_r_full p4), rfl⟩⟩
      · skip
        have r_x10 : mh_r x10 (1) (1) := mh_ne1 (show x10.toInt ≠ (0 : Int32).toInt from c14) r_x10 rc_0 (1) (1) (by decide)
        refine mw_iload_n 30 rfl 4 dX3_cost_29 rfl rfl ?_
        refine mw_goto 33 rfl 35 dX3_cost_30 (by decide) ?_
        exact mw_iret dX3_cost_35 rfl ⟨p3, rfl, ⟨(mh_r_full p3), rfl⟩⟩
    · skip
      refine mw_iconst (v := 0) 23 rfl dX3_cost_22 (by decide) ?_
      exact mw_iret dX3_cost_23 rfl ⟨(0), rfl, ⟨(mh_r_wk rc_0 (by decide)), rfl⟩⟩
  refine mw_if_le 9 rfl 13 dX3_cost_6 (by decide) (fun c15 => ?_) (fun c15 => ?_)
  · skip
    have r_x7 : mh_r x7 (-2147483648) (0) := mh_le1 (show x7.toInt ≤ (0 : Int32).toInt from c15) (mh_r_full x7) rc_0 (0) (by decide)
    refine mw_iconst (v := 0) 14 rfl dX3_cost_13 (by decide) ?_
    exact mw_lv [0, 1, 2, 3, 4] rfl (J14 (0) (mh_r_wk rc_0 (by decide)))
  · skip
    have r_x7 : mh_r x7 (1) (2147483647) := mh_lt2 (show (0 : Int32).toInt < x7.toInt from c15) rc_0 (mh_r_full x7) (1) (by decide)
    refine mw_iconst (v := 1) 10 rfl dX3_cost_9 (by decide) ?_
    refine mw_goto 13 rfl 14 dX3_cost_10 (by decide) ?_
    exact mw_lv [0, 1, 2, 3, 4] rfl (J14 (1) (mh_r_wk rc_1 (by decide)))

def P_X3_eveningNumber (B D : Int) (s0 : mh_H) (p1 : Int32) (p2 : Int32) : Int32 → mh_H → Prop := fun z s => mh_r z (-2147483648) (2147483647) ∧ s0 = s
set_option maxRecDepth 100000 in
set_option maxHeartbeats 4000000 in
theorem w_X3_eveningNumber (l : Launch) (G : mh_G) (d : Nat) {B D : Int} (hB : B ≤ 2000000000 ∧ D ≤ 2000000000) {s0 : mh_H} (hI0 : mh_I B D s0) (p1 : Int32) (r_p1 : mh_r p1 (0) (59)) (p2 : Int32) : mh_Mi l G (d + 0) mM_X3_eveningNumber [.ref (G.2.2.2 29), .int p1, .int p2] s0 (P_X3_eveningNumber B D s0 p1 p2) := by
  refine mh_enter (lv := [(0, .ref (G.2.2.2 29)), (1, .int p1), (2, .int p2)]) (by decide) rfl (Nat.le_of_ble_eq_true rfl) ?_
  refine mw_iload_n 1 rfl 2 dX3_eveningNumber_0 rfl rfl ?_
  refine mw_if_ne 4 rfl 11 dX3_eveningNumber_1 (by decide) (fun c9 => ?_) (fun c9 => ?_)
  · skip
    refine mw_iload_n 12 rfl 2 dX3_eveningNumber_11 rfl rfl ?_
    refine mw_iconst (v := 1) 13 rfl dX3_eveningNumber_12 (by decide) ?_
    refine mw_icmp_ne 16 rfl 25 dX3_eveningNumber_13 (by decide) (fun c10 => ?_) (fun c10 => ?_)
    · skip
      refine mw_aload_n 26 rfl 0 dX3_eveningNumber_25 rfl rfl ?_
      refine mw_geta 29 rfl dX3_eveningNumber_26 gf_X3_18 rfl 32 (mh_rf hI0 35 rfl) ?_
      refine mw_iload_n 30 rfl 1 dX3_eveningNumber_29 rfl rfl ?_
      refine mw_iald 31 rfl dX3_eveningNumber_30 rfl r_p1 (by decide) (fun x11 t12 => ?_)
      exact mw_iret dX3_eveningNumber_31 rfl ⟨x11, rfl, ⟨(mh_r_full x11), rfl⟩⟩
    · skip
      have r_p2 : mh_r p2 (1) (1) := mh_eq1 c10 (mh_r_full p2) rc_1 (1) (1) (by decide)
      refine mw_aload_n 17 rfl 0 dX3_eveningNumber_16 rfl rfl ?_
      refine mw_geta 20 rfl dX3_eveningNumber_17 gf_X3_15 rfl 31 (mh_rf hI0 34 rfl) ?_
      refine mw_iload_n 21 rfl 1 dX3_eveningNumber_20 rfl rfl ?_
      refine mw_iald 22 rfl dX3_eveningNumber_21 rfl r_p1 (by decide) (fun x13 t14 => ?_)
      refine mw_goto 25 rfl 31 dX3_eveningNumber_22 (by decide) ?_
      exact mw_iret dX3_eveningNumber_31 rfl ⟨x13, rfl, ⟨(mh_r_full x13), rfl⟩⟩
  · skip
    have r_p2 : mh_r p2 (0) (0) := mh_eq1 (show p2.toInt = (0 : Int32).toInt from c9) (mh_r_full p2) rc_0 (0) (0) (by decide)
    refine mw_aload_n 5 rfl 0 dX3_eveningNumber_4 rfl rfl ?_
    refine mw_geta 8 rfl dX3_eveningNumber_5 gf_X3_9 rfl 30 (mh_rf hI0 33 rfl) ?_
    refine mw_iload_n 9 rfl 1 dX3_eveningNumber_8 rfl rfl ?_
    refine mw_iald 10 rfl dX3_eveningNumber_9 rfl r_p1 (by decide) (fun x15 t16 => ?_)
    exact mw_iret dX3_eveningNumber_10 rfl ⟨x15, rfl, ⟨(mh_r_full x15), rfl⟩⟩

def P_X3_lineCost (B D : Int) (s0 : mh_H) (p1 : Int32) (p2 : Int32) (p3 : Int32) (p4 : Int32) : Int32 → mh_H → Prop := fun z s => mh_r z (-2147483648) (2147483647) ∧ s0 = s
set_option maxRecDepth 100000 in
set_option maxHeartbeats 4000000 in
theorem w_X3_lineCost (l : Launch) (G : mh_G) (d : Nat) {B D : Int} (hB : B ≤ 1980000000 ∧ D ≤ 1980000000) {s0 : mh_H} (hI0 : mh_I B D s0) (p1 : Int32) (p2 : Int32) (p3 : Int32) (p4 : Int32) : mh_Mi l G (d + 1) mM_X3_lineCost [.ref (G.2.2.2 29), .int p1, .int p2, .int p3, .int p4] s0 (P_X3_lineCost B D s0 p1 p2 p3 p4) := by
  refine mh_enter (lv := [(0, .ref (G.2.2.2 29)), (1, .int p1), (2, .int p2), (3, .int p3), (4, .int p4)]) (by decide) rfl (Nat.le_of_ble_eq_true rfl) ?_
  refine mw_iconst (v := 0) 1 rfl dX3_lineCost_0 (by decide) ?_
  refine mw_istore 3 rfl [(5, .int (0)), (0, .ref (G.2.2.2 29)), (1, .int p1), (2, .int p2), (3, .int p3), (4, .int p4)] dX3_lineCost_1  (by decide) rfl ?_
  refine mw_iconst (v := 0) 4 rfl dX3_lineCost_3 (by decide) ?_
  refine mw_istore 6 rfl [(6, .int (0)), (5, .int (0)), (0, .ref (G.2.2.2 29)), (1, .int p1), (2, .int p2), (3, .int p3), (4, .int p4)] dX3_lineCost_4  (by decide) rfl ?_
  have L6 : ∀ n1 : Nat, ∀ (x285 : Int32) (x286 : Int32), mh_r x285 (0) (60) → (60) - x285.toInt < (n1 : Int) → mh_W G (mh_XM l G (d + 1) (mh_Qi (P_X3_lineCost B D s0 p1 p2 p3 p4))) mM_X3_lineCost 6 [(0, .ref (G.2.2.2 29)), (1, .int p1), (2, .int p2), (3, .int p3), (4, .int p4), (5, .int x286), (6, .int x285)] [] s0 := by
    intro n1
    induction n1 with
    | zero =>
      intro x285 x286 r_x285 hmn1
      exact absurd hmn1 (by have := r_x285.1; have := r_x285.2; omega)
    | succ n1 ihn1 =>
      intro x285 x286 r_x285 hmn1
      refine mw_iload 8 rfl 6 dX3_lineCost_6  rfl ?_
      refine mw_aload_n 9 rfl 0 dX3_lineCost_8 rfl rfl ?_
      refine mw_geti 12 rfl dX3_lineCost_9 gf_X3_27 rfl (fun x305 t306 => ?_)
      have r_x305 : mh_r x305 (0) (60) := by rw [t306]; exact rd_29_5 hI0
      refine mw_icmp_ge 15 rfl 62 dX3_lineCost_12 (by decide) (fun c307 => ?_) (fun c307 => ?_)
      · skip
        refine mw_iload 64 rfl 5 dX3_lineCost_62  rfl ?_
        exact mw_iret dX3_lineCost_64 rfl ⟨x286, rfl, ⟨(mh_r_full x286), rfl⟩⟩
      · skip
        have r_x285 : mh_r x285 (0) (59) := mh_lt1 c307 r_x285 r_x305 (59) (by decide)
        have r_x305 : mh_r x305 (1) (60) := mh_lt2 c307 r_x285 r_x305 (1) (by decide)
        refine mw_iload 17 rfl 6 dX3_lineCost_15  rfl ?_
        refine mw_bipush (v := 60) 19 rfl dX3_lineCost_17 (by decide) ?_
        refine mw_icmp_ge 22 rfl 62 dX3_lineCost_19 (by decide) (fun c308 => ?_) (fun c308 => ?_)
        · skip
          exact (mh_nle c308 rc_60 r_x285 (by decide)).elim
        · skip
          refine mw_aload_n 23 rfl 0 dX3_lineCost_22 rfl rfl ?_
          refine mw_iload 25 rfl 6 dX3_lineCost_23  rfl ?_
          refine mw_iload_n 26 rfl 1 dX3_lineCost_25 rfl rfl ?_
          refine mw_callVi [.int x285, .int p1] [] 29 rfl dX3_lineCost_26 ml_X3_31 mc_X3_eveningNumber mk_X3_eveningNumber rfl rfl (by decide) (w_X3_eveningNumber l G (d + 0) ⟨by omega, by omega⟩ hI0 x285 r_x285 p1) rfl rfl (Nat.le_of_ble_eq_true rfl) (mh_rok (by omega) (by decide)) (fun x309 s310 q311 => ?_)
          obtain ⟨r_x309, rfl⟩ := q311
          refine mw_iload_n 30 rfl 2 dX3_lineCost_29 rfl rfl ?_
          have J38 : ∀ (x313 : Int32), mh_r x313 (0) (1) → mh_W G (mh_XM l G (d + 1) (mh_Qi (P_X3_lineCost B D s0 p1 p2 p3 p4))) mM_X3_lineCost 38 [(0, .ref (G.2.2.2 29)), (1, .int p1), (2, .int p2), (3, .int p3), (4, .int p4), (5, .int x286), (6, .int x285)] [.int x313] s0 := by
            intro x313 r_x313
            refine mw_istore 40 rfl [(7, .int x313), (0, .ref (G.2.2.2 29)), (1, .int p1), (2, .int p2), (3, .int p3), (4, .int p4), (5, .int x286), (6, .int x285)] dX3_lineCost_38  (by decide) rfl ?_
            refine mw_iload 42 rfl 6 dX3_lineCost_40  rfl ?_
            refine mw_aload_n 43 rfl 1 dX3_lineCost_42 rfl rfl ?_
            refine mw_iload 45 rfl 7 dX3_lineCost_43  rfl ?_
            refine mw_iload 47 rfl 0 dX3_lineCost_45  rfl ?_
            refine mw_iload_n 48 rfl 4 dX3_lineCost_47 rfl rfl ?_
            refine mw_iload 50 rfl 5 dX3_lineCost_48  rfl ?_
            refine mw_callVi [.int x285, .int x313, .int p3, .int p4] [.int x286] 53 rfl dX3_lineCost_50 ml_X3_35 mc_X3_cost mk_X3_cost rfl rfl (by decide) (w_X3_cost l G (d + 0) ⟨by omega, by omega⟩ hI0 x285 r_x285 x313 r_x313 p3 p4) rfl rfl (Nat.le_of_ble_eq_true rfl) (mh_rok (by omega) (by decide)) (fun x321 s322 q323 => ?_)
            obtain ⟨r_x321, rfl⟩ := q323
            refine mw_iadd_u 54 rfl dX3_lineCost_53 (fun x324 t325 => ?_)
            refine mw_istore 56 rfl [(5, .int x324), (7, .int x313), (0, .ref (G.2.2.2 29)), (1, .int p1), (2, .int p2), (3, .int p3), (4, .int p4), (6, .int x285)] dX3_lineCost_54  (by decide) rfl ?_
            refine mw_iincR (k := 7) (1) (60) 59 rfl (fun z => [(6, .int z), (5, .int x324), (7, .int x313), (0, .ref (G.2.2.2 29)), (1, .int p1), (2, .int p2), (3, .int p3), (4, .int p4)]) dX3_lineCost_56 rfl (by decide) (fun _ => rfl) r_x285 (by decide) (by decide) (fun x326 t327 r_x326 => ?_)
            refine mw_goto 62 rfl 6 dX3_lineCost_59 (by decide) ?_
            exact mw_lv [3, 4, 5, 6, 7, 1, 0] rfl (ihn1 x326 x324 (mh_r_wk r_x326 (by decide)) (by have : x326.toInt = x285.toInt + (1) := t327; omega))
          refine mw_icmp_lt 33 rfl 37 dX3_lineCost_30 (by decide) (fun c328 => ?_) (fun c328 => ?_)
          · skip
            have r_x309 : mh_r x309 (-2147483648) (2147483646) := mh_lt1 c328 r_x309 (mh_r_full p2) (2147483646) (by decide)
            have r_p2 : mh_r p2 (-2147483647) (2147483647) := mh_lt2 c328 r_x309 (mh_r_full p2) (-2147483647) (by decide)
            refine mw_iconst (v := 0) 38 rfl dX3_lineCost_37 (by decide) ?_
            exact mw_lv [0, 1, 2, 3, 4, 5, 6] rfl (J38 (0) (mh_r_wk rc_0 (by decide)))
          · skip
            refine mw_iconst (v := 1) 34 rfl dX3_lineCost_33 (by decide) ?_
            refine mw_goto 37 rfl 38 dX3_lineCost_34 (by decide) ?_
            exact mw_lv [0, 1, 2, 3, 4, 5, 6] rfl (J38 (1) (mh_r_wk rc_1 (by decide)))
  exact mw_lv [2, 3, 4, 5, 6, 1, 0] rfl (L6 61 (0) (0) (mh_r_wk rc_0 (by decide)) (by have := (rc_0).1; have := (rc_0).2; omega))

def P_X3_bestLine (B D : Int) (s0 : mh_H) (p1 : Int32) (p2 : Int32) (p3 : Int32) : Int32 → mh_H → Prop := fun z s => mh_r z (0) (100) ∧ s0 = s
set_option maxRecDepth 100000 in
set_option maxHeartbeats 4000000 in
theorem w_X3_bestLine (l : Launch) (G : mh_G) (d : Nat) {B D : Int} (hB : B ≤ 1960000000 ∧ D ≤ 1960000000) {s0 : mh_H} (hI0 : mh_I B D s0) (p1 : Int32) (p2 : Int32) (p3 : Int32) : mh_Mi l G (d + 2) mM_X3_bestLine [.ref (G.2.2.2 29), .int p1, .int p2, .int p3] s0 (P_X3_bestLine B D s0 p1 p2 p3) := by
  refine mh_enter (lv := [(0, .ref (G.2.2.2 29)), (1, .int p1), (2, .int p2), (3, .int p3)]) (by decide) rfl (Nat.le_of_ble_eq_true rfl) ?_
  refine mw_iconst (v := 0) 1 rfl dX3_bestLine_0 (by decide) ?_
  refine mw_istore 3 rfl [(4, .int (0)), (0, .ref (G.2.2.2 29)), (1, .int p1), (2, .int p2), (3, .int p3)] dX3_bestLine_1  (by decide) rfl ?_
  refine mw_ldc 5 rfl dX3_bestLine_3 ck_X3_41 ?_
  refine mw_istore 7 rfl [(5, .int (2147483647)), (4, .int (0)), (0, .ref (G.2.2.2 29)), (1, .int p1), (2, .int p2), (3, .int p3)] dX3_bestLine_5  (by decide) rfl ?_
  refine mw_iconst (v := 0) 8 rfl dX3_bestLine_7 (by decide) ?_
  refine mw_istore 10 rfl [(6, .int (0)), (5, .int (2147483647)), (4, .int (0)), (0, .ref (G.2.2.2 29)), (1, .int p1), (2, .int p2), (3, .int p3)] dX3_bestLine_8  (by decide) rfl ?_
  have L10 : ∀ n1 : Nat, ∀ (x231 : Int32) (x232 : Int32) (x233 : Int32), mh_r x231 (0) (101) → mh_r x233 (0) (100) → (101) - x231.toInt < (n1 : Int) → mh_W G (mh_XM l G (d + 2) (mh_Qi (P_X3_bestLine B D s0 p1 p2 p3))) mM_X3_bestLine 10 [(0, .ref (G.2.2.2 29)), (1, .int p1), (2, .int p2), (3, .int p3), (4, .int x233), (5, .int x232), (6, .int x231)] [] s0 := by
    intro n1
    induction n1 with
    | zero =>
      intro x231 x232 x233 r_x231 r_x233 hmn1
      exact absurd hmn1 (by have := r_x231.1; have := r_x231.2; omega)
    | succ n1 ihn1 =>
      intro x231 x232 x233 r_x231 r_x233 hmn1
      refine mw_iload 12 rfl 6 dX3_bestLine_10  rfl ?_
      refine mw_bipush (v := 100) 14 rfl dX3_bestLine_12 (by decide) ?_
      refine mw_icmp_gt 17 rfl 49 dX3_bestLine_14 (by decide) (fun c246 => ?_) (fun c246 => ?_)
      · skip
        have r_x231 : mh_r x231 (101) (101) := mh_lt2 c246 rc_100 r_x231 (101) (by decide)
        refine mw_iload 51 rfl 4 dX3_bestLine_49  rfl ?_
        exact mw_iret dX3_bestLine_51 rfl ⟨x233, rfl, ⟨r_x233, rfl⟩⟩
      · skip
        have r_x231 : mh_r x231 (0) (100) := mh_le1 c246 r_x231 rc_100 (100) (by decide)
        refine mw_aload_n 18 rfl 0 dX3_bestLine_17 rfl rfl ?_
        refine mw_iload_n 19 rfl 1 dX3_bestLine_18 rfl rfl ?_
        refine mw_iload 21 rfl 6 dX3_bestLine_19  rfl ?_
        refine mw_iload_n 22 rfl 2 dX3_bestLine_21 rfl rfl ?_
        refine mw_iload_n 23 rfl 3 dX3_bestLine_22 rfl rfl ?_
        refine mw_callVi [.int p1, .int x231, .int p2, .int p3] [] 26 rfl dX3_bestLine_23 ml_X3_42 mc_X3_lineCost mk_X3_lineCost rfl rfl (by decide) (w_X3_lineCost l G (d + 0) ⟨by omega, by omega⟩ hI0 p1 x231 p2 p3) rfl rfl (Nat.le_of_ble_eq_true rfl) (mh_rok (by omega) (by decide)) (fun x247 s248 q249 => ?_)
        obtain ⟨r_x247, rfl⟩ := q249
        refine mw_istore 28 rfl [(7, .int x247), (0, .ref (G.2.2.2 29)), (1, .int p1), (2, .int p2), (3, .int p3), (4, .int x233), (5, .int x232), (6, .int x231)] dX3_bestLine_26  (by decide) rfl ?_
        refine mw_iload 30 rfl 0 dX3_bestLine_28  rfl ?_
        refine mw_iload 32 rfl 6 dX3_bestLine_30  rfl ?_
        have J43 : ∀ (x251 : Int32) (x252 : Int32), mh_r x251 (0) (100) → mh_W G (mh_XM l G (d + 2) (mh_Qi (P_X3_bestLine B D s0 p1 p2 p3))) mM_X3_bestLine 43 [(0, .ref (G.2.2.2 29)), (1, .int p1), (2, .int p2), (3, .int p3), (4, .int x251), (5, .int x252), (6, .int x231), (7, .int x247)] [] s0 := by
          intro x251 x252 r_x251
          refine mw_iincR (k := 6) (1) (101) 46 rfl (fun z => [(6, .int z), (0, .ref (G.2.2.2 29)), (1, .int p1), (2, .int p2), (3, .int p3), (4, .int x251), (5, .int x252), (7, .int x247)]) dX3_bestLine_43 rfl (by decide) (fun _ => rfl) r_x231 (by decide) (by decide) (fun x255 t256 r_x255 => ?_)
          refine mw_goto 49 rfl 10 dX3_bestLine_46 (by decide) ?_
          exact mw_lv [1, 2, 3, 4, 5, 6, 0] rfl (ihn1 x255 x252 x251 (mh_r_wk r_x255 (by decide)) r_x251 (by have : x255.toInt = x231.toInt + (1) := t256; omega))
        refine mw_icmp_ge 35 rfl 43 dX3_bestLine_32 (by decide) (fun c257 => ?_) (fun c257 => ?_)
        · skip
          exact mw_lv [1, 2, 3, 4, 5, 6, 7, 0] rfl (J43 x233 x232 r_x233)
        · skip
          have r_x247 : mh_r x247 (-2147483648) (2147483646) := mh_lt1 c257 r_x247 (mh_r_full x232) (2147483646) (by decide)
          have r_x232 : mh_r x232 (-2147483647) (2147483647) := mh_lt2 c257 r_x247 (mh_r_full x232) (-2147483647) (by decide)
          refine mw_iload 37 rfl 7 dX3_bestLine_35  rfl ?_
          refine mw_istore 39 rfl [(4, .int x231), (7, .int x247), (0, .ref (G.2.2.2 29)), (1, .int p1), (2, .int p2), (3, .int p3), (5, .int x232), (6, .int x231)] dX3_bestLine_37  (by decide) rfl ?_
          refine mw_iload 41 rfl 1 dX3_bestLine_39  rfl ?_
          refine mw_istore 43 rfl [(5, .int x247), (4, .int x231), (7, .int x247), (0, .ref (G.2.2.2 29)), (1, .int p1), (2, .int p2), (3, .int p3), (6, .int x231)] dX3_bestLine_41  (by decide) rfl ?_
          exact mw_lv [3, 4, 5, 6, 1, 0, 7, 2] rfl (J43 x231 x247 r_x231)
  exact mw_lv [3, 4, 5, 6, 2, 1, 0] rfl (L10 102 (0) (2147483647) (0) (mh_r_wk rc_0 (by decide)) (mh_r_wk rc_0 (by decide)) (by have := (rc_0).1; have := (rc_0).2; omega))

def P_X3_isAlike (B D : Int) (s0 : mh_H) (p1 : Int32) (p2 : Int32) (p3 : Int32) (p4 : Int32) (p5 : Int32) : Int32 → mh_H → Prop := fun z s => mh_r z (0) (1) ∧ s0 = s
set_option maxRecDepth 100000 in
set_option maxHeartbeats 4000000 in
theorem w_X3_isAlike (l : Launch) (G : mh_G) (d : Nat) {B D : Int} (hB : B ≤ 1980000000 ∧ D ≤ 1980000000) {s0 : mh_H} (hI0 : mh_I B D s0) (p1 : Int32) (r_p1 : mh_r p1 (0) (59)) (p2 : Int32) (p3 : Int32) (p4 : Int32) (p5 : Int32) : mh_Mi l G (d + 1) mM_X3_isAlike [.ref (G.2.2.2 29), .int p1, .int p2, .int p3, .int p4, .int p5] s0 (P_X3_isAlike B D s0 p1 p2 p3 p4 p5) := by
  refine mh_enter (lv := [(0, .ref (G.2.2.2 29)), (1, .int p1), (2, .int p2), (3, .int p3), (4, .int p4), (5, .int p5)]) (by decide) rfl (Nat.le_of_ble_eq_true rfl) ?_
  refine mw_aload_n 1 rfl 0 dX3_isAlike_0 rfl rfl ?_
  refine mw_geta 4 rfl dX3_isAlike_1 gf_X3_9 rfl 30 (mh_rf hI0 33 rfl) ?_
  refine mw_iload_n 5 rfl 1 dX3_isAlike_4 rfl rfl ?_
  refine mw_iald 6 rfl dX3_isAlike_5 rfl r_p1 (by decide) (fun x22 t23 => ?_)
  refine mw_iload_n 7 rfl 2 dX3_isAlike_6 rfl rfl ?_
  refine mw_isub_u 8 rfl dX3_isAlike_7 (fun x24 t25 => ?_)
  refine mw_mabs 11 rfl dX3_isAlike_8 ml_X3_46 (mh_mr (D := d + 1) (by omega) (Nat.le_of_ble_eq_true rfl)) (fun x26 t27 => ?_)
  refine mw_iload 13 rfl 5 dX3_isAlike_11  rfl ?_
  refine mw_icmp_gt 16 rfl 53 dX3_isAlike_13 (by decide) (fun c28 => ?_) (fun c28 => ?_)
  · skip
    have r_p5 : mh_r p5 (-2147483648) (2147483646) := mh_lt1 c28 (mh_r_full p5) (mh_r_full x26) (2147483646) (by decide)
    have r_x26 : mh_r x26 (-2147483647) (2147483647) := mh_lt2 c28 r_p5 (mh_r_full x26) (-2147483647) (by decide)
    refine mw_iconst (v := 0) 54 rfl dX3_isAlike_53 (by decide) ?_
    exact mw_zret dX3_isAlike_54 rfl (mh_r_wk rc_0 (by decide)) ⟨(0), rfl, ⟨(mh_r_wk rc_0 (by decide)), rfl⟩⟩
  · skip
    refine mw_aload_n 17 rfl 0 dX3_isAlike_16 rfl rfl ?_
    refine mw_geta 20 rfl dX3_isAlike_17 gf_X3_15 rfl 31 (mh_rf hI0 34 rfl) ?_
    refine mw_iload_n 21 rfl 1 dX3_isAlike_20 rfl rfl ?_
    refine mw_iald 22 rfl dX3_isAlike_21 rfl r_p1 (by decide) (fun x29 t30 => ?_)
    refine mw_iload_n 23 rfl 3 dX3_isAlike_22 rfl rfl ?_
    refine mw_isub_u 24 rfl dX3_isAlike_23 (fun x31 t32 => ?_)
    refine mw_mabs 27 rfl dX3_isAlike_24 ml_X3_46 (mh_mr (D := d + 1) (by omega) (Nat.le_of_ble_eq_true rfl)) (fun x33 t34 => ?_)
    refine mw_iload 29 rfl 5 dX3_isAlike_27  rfl ?_
    refine mw_icmp_gt 32 rfl 53 dX3_isAlike_29 (by decide) (fun c35 => ?_) (fun c35 => ?_)
    · skip
      have r_p5 : mh_r p5 (-2147483648) (2147483646) := mh_lt1 c35 (mh_r_full p5) (mh_r_full x33) (2147483646) (by decide)
      have r_x33 : mh_r x33 (-2147483647) (2147483647) := mh_lt2 c35 r_p5 (mh_r_full x33) (-2147483647) (by decide)
      refine mw_iconst (v := 0) 54 rfl dX3_isAlike_53 (by decide) ?_
      exact mw_zret dX3_isAlike_54 rfl (mh_r_wk rc_0 (by decide)) ⟨(0), rfl, ⟨(mh_r_wk rc_0 (by decide)), rfl⟩⟩
    · skip
      refine mw_aload_n 33 rfl 0 dX3_isAlike_32 rfl rfl ?_
      refine mw_geta 36 rfl dX3_isAlike_33 gf_X3_18 rfl 32 (mh_rf hI0 35 rfl) ?_
      refine mw_iload_n 37 rfl 1 dX3_isAlike_36 rfl rfl ?_
      refine mw_iald 38 rfl dX3_isAlike_37 rfl r_p1 (by decide) (fun x36 t37 => ?_)
      refine mw_iload 40 rfl 4 dX3_isAlike_38  rfl ?_
      refine mw_isub_u 41 rfl dX3_isAlike_40 (fun x38 t39 => ?_)
      refine mw_mabs 44 rfl dX3_isAlike_41 ml_X3_46 (mh_mr (D := d + 1) (by omega) (Nat.le_of_ble_eq_true rfl)) (fun x40 t41 => ?_)
      refine mw_iload 46 rfl 5 dX3_isAlike_44  rfl ?_
      refine mw_icmp_gt 49 rfl 53 dX3_isAlike_46 (by decide) (fun c42 => ?_) (fun c42 => ?_)
      · skip
        have r_p5 : mh_r p5 (-2147483648) (2147483646) := mh_lt1 c42 (mh_r_full p5) (mh_r_full x40) (2147483646) (by decide)
        have r_x40 : mh_r x40 (-2147483647) (2147483647) := mh_lt2 c42 r_p5 (mh_r_full x40) (-2147483647) (by decide)
        refine mw_iconst (v := 0) 54 rfl dX3_isAlike_53 (by decide) ?_
        exact mw_zret dX3_isAlike_54 rfl (mh_r_wk rc_0 (by decide)) ⟨(0), rfl, ⟨(mh_r_wk rc_0 (by decide)), rfl⟩⟩
      · skip
        refine mw_iconst (v := 1) 50 rfl dX3_isAlike_49 (by decide) ?_
        refine mw_goto 53 rfl 54 dX3_isAlike_50 (by decide) ?_
        exact mw_zret dX3_isAlike_54 rfl (mh_r_wk rc_1 (by decide)) ⟨(1), rfl, ⟨(mh_r_wk rc_1 (by decide)), rfl⟩⟩

def P_X3_sendCost (B D : Int) (s0 : mh_H) (p1 : Int32) (p2 : Int32) (p3 : Int32) : Int32 → mh_H → Prop := fun z s => mh_r z (-2147483648) (2147483647) ∧ s0 = s
set_option maxRecDepth 100000 in
set_option maxHeartbeats 4000000 in
theorem w_X3_sendCost (l : Launch) (G : mh_G) (d : Nat) {B D : Int} (hB : B ≤ 2000000000 ∧ D ≤ 2000000000) {s0 : mh_H} (hI0 : mh_I B D s0) (p1 : Int32) (p2 : Int32) (p3 : Int32) : mh_Mi l G (d + 0) mM_X3_sendCost [.ref (G.2.2.2 29), .int p1, .int p2, .int p3] s0 (P_X3_sendCost B D s0 p1 p2 p3) := by
  refine mh_enter (lv := [(0, .ref (G.2.2.2 29)), (1, .int p1), (2, .int p2), (3, .int p3)]) (by decide) rfl (Nat.le_of_ble_eq_true rfl) ?_
  refine mw_iconst (v := 0) 1 rfl dX3_sendCost_0 (by decide) ?_
  refine mw_istore 3 rfl [(4, .int (0)), (0, .ref (G.2.2.2 29)), (1, .int p1), (2, .int p2), (3, .int p3)] dX3_sendCost_1  (by decide) rfl ?_
  refine mw_iconst (v := 0) 4 rfl dX3_sendCost_3 (by decide) ?_
  refine mw_istore 6 rfl [(5, .int (0)), (4, .int (0)), (0, .ref (G.2.2.2 29)), (1, .int p1), (2, .int p2), (3, .int p3)] dX3_sendCost_4  (by decide) rfl ?_
  have L6 : ∀ n1 : Nat, ∀ (x397 : Int32) (x398 : Int32), mh_r x397 (0) (60) → (60) - x397.toInt < (n1 : Int) → mh_W G (mh_XM l G (d + 0) (mh_Qi (P_X3_sendCost B D s0 p1 p2 p3))) mM_X3_sendCost 6 [(0, .ref (G.2.2.2 29)), (1, .int p1), (2, .int p2), (3, .int p3), (4, .int x398), (5, .int x397)] [] s0 := by
    intro n1
    induction n1 with
    | zero =>
      intro x397 x398 r_x397 hmn1
      exact absurd hmn1 (by have := r_x397.1; have := r_x397.2; omega)
    | succ n1 ihn1 =>
      intro x397 x398 r_x397 hmn1
      refine mw_iload 8 rfl 5 dX3_sendCost_6  rfl ?_
      refine mw_aload_n 9 rfl 0 dX3_sendCost_8 rfl rfl ?_
      refine mw_geti 12 rfl dX3_sendCost_9 gf_X3_27 rfl (fun x424 t425 => ?_)
      have r_x424 : mh_r x424 (0) (60) := by rw [t425]; exact rd_29_5 hI0
      refine mw_icmp_ge 15 rfl 71 dX3_sendCost_12 (by decide) (fun c426 => ?_) (fun c426 => ?_)
      · skip
        refine mw_iload 73 rfl 4 dX3_sendCost_71  rfl ?_
        exact mw_iret dX3_sendCost_73 rfl ⟨x398, rfl, ⟨(mh_r_full x398), rfl⟩⟩
      · skip
        have r_x397 : mh_r x397 (0) (59) := mh_lt1 c426 r_x397 r_x424 (59) (by decide)
        have r_x424 : mh_r x424 (1) (60) := mh_lt2 c426 r_x397 r_x424 (1) (by decide)
        refine mw_iload 17 rfl 5 dX3_sendCost_15  rfl ?_
        refine mw_bipush (v := 60) 19 rfl dX3_sendCost_17 (by decide) ?_
        refine mw_icmp_ge 22 rfl 71 dX3_sendCost_19 (by decide) (fun c427 => ?_) (fun c427 => ?_)
        · skip
          exact (mh_nle c427 rc_60 r_x397 (by decide)).elim
        · skip
          refine mw_aload_n 23 rfl 0 dX3_sendCost_22 rfl rfl ?_
          refine mw_geta 26 rfl dX3_sendCost_23 gf_X3_21 rfl 33 (mh_rf hI0 36 rfl) ?_
          refine mw_iload 28 rfl 5 dX3_sendCost_26  rfl ?_
          refine mw_iald 29 rfl dX3_sendCost_28 rfl r_x397 (by decide) (fun x428 t429 => ?_)
          have J65 : ∀ (x444 : Int32), mh_W G (mh_XM l G (d + 0) (mh_Qi (P_X3_sendCost B D s0 p1 p2 p3))) mM_X3_sendCost 65 [(0, .ref (G.2.2.2 29)), (1, .int p1), (2, .int p2), (3, .int p3), (4, .int x444), (5, .int x397)] [] s0 := by
            intro x444
            refine mw_iincR (k := 5) (1) (60) 68 rfl (fun z => [(5, .int z), (0, .ref (G.2.2.2 29)), (1, .int p1), (2, .int p2), (3, .int p3), (4, .int x444)]) dX3_sendCost_65 rfl (by decide) (fun _ => rfl) r_x397 (by decide) (by decide) (fun x447 t448 r_x447 => ?_)
            refine mw_goto 71 rfl 6 dX3_sendCost_68 (by decide) ?_
            exact mw_lv [1, 2, 3, 4, 5, 0] rfl (ihn1 x447 x444 (mh_r_wk r_x447 (by decide)) (by have : x447.toInt = x397.toInt + (1) := t448; omega))
          refine mw_if_le 32 rfl 65 dX3_sendCost_29 (by decide) (fun c449 => ?_) (fun c449 => ?_)
          · skip
            have r_x428 : mh_r x428 (-2147483648) (0) := mh_le1 (show x428.toInt ≤ (0 : Int32).toInt from c449) (mh_r_full x428) rc_0 (0) (by decide)
            exact mw_lv [0, 1, 2, 3, 4, 5] rfl (J65 x398)
          · skip
            have r_x428 : mh_r x428 (1) (2147483647) := mh_lt2 (show (0 : Int32).toInt < x428.toInt from c449) rc_0 (mh_r_full x428) (1) (by decide)
            refine mw_aload_n 33 rfl 0 dX3_sendCost_32 rfl rfl ?_
            refine mw_geta 36 rfl dX3_sendCost_33 gf_X3_24 rfl 34 (mh_rf hI0 37 rfl) ?_
            refine mw_iload 38 rfl 5 dX3_sendCost_36  rfl ?_
            refine mw_iald 39 rfl dX3_sendCost_38 rfl r_x397 (by decide) (fun x450 t451 => ?_)
            refine mw_iload_n 40 rfl 1 dX3_sendCost_39 rfl rfl ?_
            refine mw_isub_u 41 rfl dX3_sendCost_40 (fun x452 t453 => ?_)
            refine mw_istore 43 rfl [(6, .int x452), (0, .ref (G.2.2.2 29)), (1, .int p1), (2, .int p2), (3, .int p3), (4, .int x398), (5, .int x397)] dX3_sendCost_41  (by decide) rfl ?_
            refine mw_iload 45 rfl 5 dX3_sendCost_43  rfl ?_
            refine mw_iload 47 rfl 0 dX3_sendCost_45  rfl ?_
            have J62 : ∀ (x460 : Int32), mh_W G (mh_XM l G (d + 0) (mh_Qi (P_X3_sendCost B D s0 p1 p2 p3))) mM_X3_sendCost 62 [(0, .ref (G.2.2.2 29)), (1, .int p1), (2, .int p2), (3, .int p3), (4, .int x398), (5, .int x397), (6, .int x452)] [.int x460, .int x398] s0 := by
              intro x460
              refine mw_iadd_u 63 rfl dX3_sendCost_62 (fun x463 t464 => ?_)
              refine mw_istore 65 rfl [(4, .int x463), (0, .ref (G.2.2.2 29)), (1, .int p1), (2, .int p2), (3, .int p3), (5, .int x397), (6, .int x452)] dX3_sendCost_63  (by decide) rfl ?_
              exact mw_lv [1, 2, 3, 4, 0, 5] rfl (J65 x463)
            refine mw_if_le 50 rfl 57 dX3_sendCost_47 (by decide) (fun c465 => ?_) (fun c465 => ?_)
            · skip
              have r_x452 : mh_r x452 (-2147483648) (0) := mh_le1 (show x452.toInt ≤ (0 : Int32).toInt from c465) (mh_r_full x452) rc_0 (0) (by decide)
              refine mw_iload_n 58 rfl 4 dX3_sendCost_57 rfl rfl ?_
              refine mw_iload 60 rfl 0 dX3_sendCost_58  rfl ?_
              refine mw_ineg 61 rfl dX3_sendCost_60 (fun x466 _ => ?_)
              refine mw_imul_u 62 rfl dX3_sendCost_61 (fun x467 t468 => ?_)
              exact mw_lv [1, 2, 3, 4, 5, 6, 0] rfl (J62 x467)
            · skip
              have r_x452 : mh_r x452 (1) (2147483647) := mh_lt2 (show (0 : Int32).toInt < x452.toInt from c465) rc_0 (mh_r_full x452) (1) (by decide)
              refine mw_iload_n 51 rfl 3 dX3_sendCost_50 rfl rfl ?_
              refine mw_iload 53 rfl 0 dX3_sendCost_51  rfl ?_
              refine mw_imul_u 54 rfl dX3_sendCost_53 (fun x469 t470 => ?_)
              refine mw_goto 57 rfl 62 dX3_sendCost_54 (by decide) ?_
              exact mw_lv [1, 2, 3, 4, 5, 6, 0] rfl (J62 x469)
  exact mw_lv [2, 3, 4, 5, 1, 0] rfl (L6 61 (0) (0) (mh_r_wk rc_0 (by decide)) (by have := (rc_0).1; have := (rc_0).2; omega))

def P_X5_isTold (B D : Int) (s0 : mh_H) (p1 : Int32) : Int32 → mh_H → Prop := fun z s => mh_r z (0) (1) ∧ s0 = s
set_option maxRecDepth 100000 in
set_option maxHeartbeats 4000000 in
theorem w_X5_isTold (l : Launch) (G : mh_G) (d : Nat) {B D : Int} (hB : B ≤ 2000000000 ∧ D ≤ 2000000000) {s0 : mh_H} (hI0 : mh_I B D s0) (p1 : Int32) : mh_Mi l G (d + 0) mM_X5_isTold [.ref (G.2.2.2 23), .int p1] s0 (P_X5_isTold B D s0 p1) := by
  refine mh_enter (lv := [(0, .ref (G.2.2.2 23)), (1, .int p1)]) (by decide) rfl (Nat.le_of_ble_eq_true rfl) ?_
  refine mw_aload_n 1 rfl 0 dX5_isTold_0 rfl rfl ?_
  refine mw_geti 4 rfl dX5_isTold_1 gf_X5_27 rfl (fun x7 t8 => ?_)
  refine mw_iload_n 5 rfl 1 dX5_isTold_4 rfl rfl ?_
  refine mw_ishr_u 6 rfl dX5_isTold_5 (fun x9 _ => ?_)
  refine mw_iconst (v := 1) 7 rfl dX5_isTold_6 (by decide) ?_
  refine mw_iand_u 8 rfl dX5_isTold_7 (fun x10 t11 => ?_)
  have r_x10 : mh_r x10 0 1 := by rw [t11]; exact mh_and1
  refine mw_iconst (v := 1) 9 rfl dX5_isTold_8 (by decide) ?_
  refine mw_icmp_ne 12 rfl 16 dX5_isTold_9 (by decide) (fun c12 => ?_) (fun c12 => ?_)
  · skip
    have r_x10 : mh_r x10 (0) (0) := mh_ne1 c12 r_x10 rc_1 (0) (0) (by decide)
    refine mw_iconst (v := 0) 17 rfl dX5_isTold_16 (by decide) ?_
    exact mw_zret dX5_isTold_17 rfl (mh_r_wk rc_0 (by decide)) ⟨(0), rfl, ⟨(mh_r_wk rc_0 (by decide)), rfl⟩⟩
  · skip
    have r_x10 : mh_r x10 (1) (1) := mh_eq1 c12 r_x10 rc_1 (1) (1) (by decide)
    refine mw_iconst (v := 1) 13 rfl dX5_isTold_12 (by decide) ?_
    refine mw_goto 16 rfl 17 dX5_isTold_13 (by decide) ?_
    exact mw_zret dX5_isTold_17 rfl (mh_r_wk rc_1 (by decide)) ⟨(1), rfl, ⟨(mh_r_wk rc_1 (by decide)), rfl⟩⟩

def S_X5_goIn : List (Nat × Nat) := [(28, 9999)]
def P_X5_goIn (B D : Int) (s0 : mh_H) (p1 : Int32) : mh_H → Prop := fun s => mh_I B D s ∧ mh_F S_X5_goIn s0 s
set_option maxRecDepth 100000 in
set_option maxHeartbeats 4000000 in
theorem w_X5_goIn (l : Launch) (G : mh_G) (d : Nat) {B D : Int} (hB : B ≤ 1980000000 ∧ D ≤ 1980000000) {s0 : mh_H} (hI0 : mh_I B D s0) (p1 : Int32) (r_p1 : mh_r p1 (0) (299)) : mh_Mv l G (d + 1) mM_X5_goIn [.ref (G.2.2.2 23), .int p1] s0 (P_X5_goIn B D s0 p1) := by
  refine mh_enter (lv := [(0, .ref (G.2.2.2 23)), (1, .int p1)]) (by decide) rfl (Nat.le_of_ble_eq_true rfl) ?_
  have hF0 : mh_F S_X5_goIn s0 s0 := mh_F_rf
  refine mw_iconst (v := 0) 1 rfl dX5_goIn_0 (by decide) ?_
  refine mw_istore_n 2 rfl [(2, .int (0)), (0, .ref (G.2.2.2 23)), (1, .int p1)] dX5_goIn_1 rfl (by decide) rfl ?_
  have L2 : ∀ n1 : Nat, ∀ (x683 : Int32) (s684 : mh_H), mh_r x683 (0) (20) → mh_I B D s684 → mh_F S_X5_goIn s0 s684 → (20) - x683.toInt < (n1 : Int) → mh_W G (mh_XM l G (d + 1) (mh_Qv (P_X5_goIn B D s0 p1))) mM_X5_goIn 2 [(0, .ref (G.2.2.2 23)), (1, .int p1), (2, .int x683)] [] s684 := by
    intro n1
    induction n1 with
    | zero =>
      intro x683 s684 r_x683 hI_s684 hF_s684 hmn1
      exact absurd hmn1 (by have := r_x683.1; have := r_x683.2; omega)
    | succ n1 ihn1 =>
      intro x683 s684 r_x683 hI_s684 hF_s684 hmn1
      refine mw_iload_n 3 rfl 2 dX5_goIn_2 rfl rfl ?_
      refine mw_bipush (v := 20) 5 rfl dX5_goIn_3 (by decide) ?_
      refine mw_icmp_ge 8 rfl 123 dX5_goIn_5 (by decide) (fun c734 => ?_) (fun c734 => ?_)
      · skip
        have r_x683 : mh_r x683 (20) (20) := mh_le2 c734 rc_20 r_x683 (20) (by decide)
        exact mw_vret dX5_goIn_123 rfl ⟨rfl, ⟨hI_s684, hF_s684⟩⟩
      · skip
        have r_x683 : mh_r x683 (0) (19) := mh_lt1 c734 r_x683 rc_20 (19) (by decide)
        refine mw_aload_n 9 rfl 0 dX5_goIn_8 rfl rfl ?_
        refine mw_geta 12 rfl dX5_goIn_9 gf_X5_24 rfl 28 (mh_rf hI_s684 32 rfl) ?_
        refine mw_iload_n 13 rfl 1 dX5_goIn_12 rfl rfl ?_
        refine mw_iald 14 rfl dX5_goIn_13 rfl r_p1 (by decide) (fun x735 t736 => ?_)
        refine mw_aload_n 15 rfl 0 dX5_goIn_14 rfl rfl ?_
        refine mw_geta 18 rfl dX5_goIn_15 gf_X5_9 rfl 24 (mh_rf hI_s684 28 rfl) ?_
        refine mw_iload_n 19 rfl 2 dX5_goIn_18 rfl rfl ?_
        refine mw_iald 20 rfl dX5_goIn_19 rfl r_x683 (by decide) (fun x737 t738 => ?_)
        refine mw_iand_u 21 rfl dX5_goIn_20 (fun x739 _ => ?_)
        refine mw_istore_n 22 rfl [(3, .int x739), (0, .ref (G.2.2.2 23)), (1, .int p1), (2, .int x683)] dX5_goIn_21 rfl (by decide) rfl ?_
        refine mw_aload_n 23 rfl 1 dX5_goIn_22 rfl rfl ?_
        refine mw_iload_n 24 rfl 3 dX5_goIn_23 rfl rfl ?_
        refine mw_callVi [.int x683] [] 27 rfl dX5_goIn_24 ml_X5_31 mc_X5_isTold mk_X5_isTold rfl rfl (by decide) (w_X5_isTold l G (d + 0) ⟨by omega, by omega⟩ hI_s684 x683) rfl rfl (Nat.le_of_ble_eq_true rfl) (mh_rok (by omega) (by decide)) (fun x740 s741 q742 => ?_)
        obtain ⟨r_x740, rfl⟩ := q742
        have J117 : ∀  (s778 : mh_H), mh_I B D s778 → mh_F S_X5_goIn s0 s778 → mh_W G (mh_XM l G (d + 1) (mh_Qv (P_X5_goIn B D s0 p1))) mM_X5_goIn 117 [(0, .ref (G.2.2.2 23)), (1, .int p1), (2, .int x683), (3, .int x739)] [] s778 := by
          intro s778 hI_s778 hF_s778
          refine mw_iincR (k := 2) (1) (20) 120 rfl (fun z => [(2, .int z), (0, .ref (G.2.2.2 23)), (1, .int p1), (3, .int x739)]) dX5_goIn_117 rfl (by decide) (fun _ => rfl) r_x683 (by decide) (by decide) (fun x781 t782 r_x781 => ?_)
          refine mw_goto 123 rfl 2 dX5_goIn_120 (by decide) ?_
          exact mw_lv [1, 2, 0] rfl (ihn1 x781 s778 (mh_r_wk r_x781 (by decide)) hI_s778 hF_s778 (by have : x781.toInt = x683.toInt + (1) := t782; omega))
        refine mw_if_eq 30 rfl 117 dX5_goIn_27 (by decide) (fun c783 => ?_) (fun c783 => ?_)
        · skip
          have r_x740 : mh_r x740 (0) (0) := mh_eq1 (show x740.toInt = (0 : Int32).toInt from c783) r_x740 rc_0 (0) (0) (by decide)
          exact mw_lv [1, 2, 3, 0] rfl (J117 s684 hI_s684 hF_s684)
        · skip
          have r_x740 : mh_r x740 (1) (1) := mh_ne1 (show x740.toInt ≠ (0 : Int32).toInt from c783) r_x740 rc_0 (1) (1) (by decide)
          refine mw_aload_n 31 rfl 1 dX5_goIn_30 rfl rfl ?_
          refine mw_geta 34 rfl dX5_goIn_31 gf_X5_21 rfl 27 (mh_rf hI_s684 31 rfl) ?_
          refine mw_iload_n 35 rfl 3 dX5_goIn_34 rfl rfl ?_
          refine mw_iald 36 rfl dX5_goIn_35 rfl r_x683 (by decide) (fun x784 t785 => ?_)
          have r_x784 : mh_r x784 (0) (999) := by rw [t785]; exact rd_27 hI_s684 _
          refine mw_if_le 39 rfl 117 dX5_goIn_36 (by decide) (fun c786 => ?_) (fun c786 => ?_)
          · skip
            have r_x784 : mh_r x784 (0) (0) := mh_le1 (show x784.toInt ≤ (0 : Int32).toInt from c786) r_x784 rc_0 (0) (by decide)
            exact mw_lv [1, 2, 3, 0] rfl (J117 s684 hI_s684 hF_s684)
          · skip
            have r_x784 : mh_r x784 (1) (999) := mh_lt2 (show (0 : Int32).toInt < x784.toInt from c786) rc_0 r_x784 (1) (by decide)
            refine mw_iload_n 40 rfl 0 dX5_goIn_39 rfl rfl ?_
            refine mw_if_ne 43 rfl 46 dX5_goIn_40 (by decide) (fun c787 => ?_) (fun c787 => ?_)
            · skip
              refine mw_iload_n 47 rfl 2 dX5_goIn_46 rfl rfl ?_
              refine mw_bipush (v := 100) 49 rfl dX5_goIn_47 (by decide) ?_
              refine mw_aload_n 50 rfl 1 dX5_goIn_49 rfl rfl ?_
              refine mw_geta 53 rfl dX5_goIn_50 gf_X5_15 rfl 25 (mh_rf hI_s684 29 rfl) ?_
              refine mw_iload_n 54 rfl 3 dX5_goIn_53 rfl rfl ?_
              refine mw_iald 55 rfl dX5_goIn_54 rfl r_x683 (by decide) (fun x788 t789 => ?_)
              have r_x788 : mh_r x788 (0) (99) := by rw [t789]; exact rd_25 hI_s684 _
              refine mw_imul 56 rfl (0) (9900) dX5_goIn_55 rc_100 r_x788 (by decide) (fun x790 t791 r_x790 => ?_)
              refine mw_aload_n 57 rfl 1 dX5_goIn_56 rfl rfl ?_
              refine mw_geta 60 rfl dX5_goIn_57 gf_X5_21 rfl 27 (mh_rf hI_s684 31 rfl) ?_
              refine mw_iload_n 61 rfl 3 dX5_goIn_60 rfl rfl ?_
              refine mw_iald 62 rfl dX5_goIn_61 rfl r_x683 (by decide) (fun x792 t793 => ?_)
              obtain rfl : x784 = x792 := t785.trans t793.symm
              refine mw_iadd 63 rfl (1) (10899) dX5_goIn_62 r_x790 r_x784 (by decide) (fun x794 t795 r_x794 => ?_)
              refine mw_iconst (v := 1) 64 rfl dX5_goIn_63 (by decide) ?_
              refine mw_isub 65 rfl (0) (10898) dX5_goIn_64 r_x794 rc_1 (by decide) (fun x796 t797 r_x796 => ?_)
              refine mw_aload_n 66 rfl 1 dX5_goIn_65 rfl rfl ?_
              refine mw_geta 69 rfl dX5_goIn_66 gf_X5_21 rfl 27 (mh_rf hI_s684 31 rfl) ?_
              refine mw_iload_n 70 rfl 3 dX5_goIn_69 rfl rfl ?_
              refine mw_iald 71 rfl dX5_goIn_70 rfl r_x683 (by decide) (fun x798 t799 => ?_)
              obtain rfl : x784 = x798 := t785.trans t799.symm
              refine mw_idiv 72 rfl (0) (10898) dX5_goIn_71 r_x796 r_x784 (by decide) (fun x800 t801 r_x800 => ?_)
              refine mw_iadd 73 rfl (0) (11197) dX5_goIn_72 r_p1 r_x800 (by decide) (fun x802 t803 r_x802 => ?_)
              refine mw_istore 75 rfl [(4, .int x802), (3, .int x739), (0, .ref (G.2.2.2 23)), (1, .int p1), (2, .int x683)] dX5_goIn_73  (by decide) rfl ?_
              refine mw_iload 77 rfl 0 dX5_goIn_75  rfl ?_
              refine mw_sipush (v := 300) 80 rfl dX5_goIn_77 (by decide) ?_
              refine mw_icmp_gt 83 rfl 117 dX5_goIn_80 (by decide) (fun c804 => ?_) (fun c804 => ?_)
              · skip
                have r_x802 : mh_r x802 (301) (11197) := mh_lt2 c804 rc_300 r_x802 (301) (by decide)
                exact mw_lv [2, 3, 4, 1] rfl (J117 s684 hI_s684 hF_s684)
              · skip
                have r_x802 : mh_r x802 (0) (300) := mh_le1 c804 r_x802 rc_300 (300) (by decide)
                refine mw_aload_n 84 rfl 2 dX5_goIn_83 rfl rfl ?_
                refine mw_geta 87 rfl dX5_goIn_84 gf_X5_24 rfl 28 (mh_rf hI_s684 32 rfl) ?_
                refine mw_iload 89 rfl 0 dX5_goIn_87  rfl ?_
                refine mw_dup2 90 rfl dX5_goIn_89 rfl rfl ?_
                refine mw_iald 91 rfl dX5_goIn_90 rfl r_x802 (by decide) (fun x805 t806 => ?_)
                refine mw_iload_n 92 rfl 1 dX5_goIn_91 rfl rfl ?_
                refine mw_aload_n 93 rfl 2 dX5_goIn_92 rfl rfl ?_
                refine mw_geta 96 rfl dX5_goIn_93 gf_X5_9 rfl 24 (mh_rf hI_s684 28 rfl) ?_
                refine mw_iload_n 97 rfl 4 dX5_goIn_96 rfl rfl ?_
                refine mw_iald 98 rfl dX5_goIn_97 rfl r_x683 (by decide) (fun x807 t808 => ?_)
                obtain rfl : x737 = x807 := t738.trans t808.symm
                have J115 : ∀ (x814 : Int32), mh_W G (mh_XM l G (d + 1) (mh_Qv (P_X5_goIn B D s0 p1))) mM_X5_goIn 115 [(0, .ref (G.2.2.2 23)), (1, .int p1), (2, .int x683), (3, .int x739), (4, .int x802)] [.int x814, .int x805, .int x802, .ref (G.2.2.2 28)] s684 := by
                  intro x814
                  refine mw_ior_u 116 rfl dX5_goIn_115 (fun x818 _ => ?_)
                  refine mw_iast 117 rfl dX5_goIn_116 rfl r_x802 (by decide) (fun s819 t820 => ?_)
                  have hI_s819 : mh_I B D s819 := by rw [t820]; exact wr_28 hI_s684
                  have hF_s819 : mh_F S_X5_goIn s0 s819 := by rw [t820]; exact mh_F_pI hF_s684 (mh_si 0 rfl)
                  exact mw_lv [0, 1, 2, 3] rfl (J117 s819 hI_s819 hF_s819)
                refine mw_icmp_ne 101 rfl 105 dX5_goIn_98 (by decide) (fun c821 => ?_) (fun c821 => ?_)
                · skip
                  refine mw_aload_n 106 rfl 2 dX5_goIn_105 rfl rfl ?_
                  refine mw_geta 109 rfl dX5_goIn_106 gf_X5_9 rfl 24 (mh_rf hI_s684 28 rfl) ?_
                  refine mw_iload_n 110 rfl 4 dX5_goIn_109 rfl rfl ?_
                  refine mw_iald 111 rfl dX5_goIn_110 rfl r_x683 (by decide) (fun x822 t823 => ?_)
                  obtain rfl : x737 = x822 := t738.trans t823.symm
                  refine mw_iload_n 112 rfl 1 dX5_goIn_111 rfl rfl ?_
                  refine mw_iconst (v := -1) 113 rfl dX5_goIn_112 (by decide) ?_
                  refine mw_ixor_u 114 rfl dX5_goIn_113 (fun x824 _ => ?_)
                  refine mw_iand_u 115 rfl dX5_goIn_114 (fun x825 _ => ?_)
                  exact mw_lv [2, 3, 4, 1, 0] rfl (J115 x825)
                · skip
                  refine mw_iload_n 102 rfl 1 dX5_goIn_101 rfl rfl ?_
                  refine mw_goto 105 rfl 115 dX5_goIn_102 (by decide) ?_
                  exact mw_lv [2, 3, 4, 1, 0] rfl (J115 x739)
            · skip
              have r_x739 : mh_r x739 (0) (0) := mh_eq1 (show x739.toInt = (0 : Int32).toInt from c787) (mh_r_full x739) rc_0 (0) (0) (by decide)
              refine mw_goto 46 rfl 117 dX5_goIn_43 (by decide) ?_
              exact mw_lv [1, 2, 3, 0] rfl (J117 s684 hI_s684 hF_s684)
  exact mw_lv [1, 2, 0] rfl (L2 21 (0) s0 (mh_r_wk rc_0 (by decide)) hI0 hF0 (by have := (rc_0).1; have := (rc_0).2; omega))

def P_X5_isAt (B D : Int) (s0 : mh_H) (p1 : Int32) (p2 : Int32) : Int32 → mh_H → Prop := fun z s => mh_r z (0) (1) ∧ s0 = s
set_option maxRecDepth 100000 in
set_option maxHeartbeats 4000000 in
theorem w_X5_isAt (l : Launch) (G : mh_G) (d : Nat) {B D : Int} (hB : B ≤ 2000000000 ∧ D ≤ 2000000000) {s0 : mh_H} (hI0 : mh_I B D s0) (p1 : Int32) (p2 : Int32) (r_p2 : mh_r p2 (0) (300)) : mh_Mi l G (d + 0) mM_X5_isAt [.ref (G.2.2.2 23), .int p1, .int p2] s0 (P_X5_isAt B D s0 p1 p2) := by
  refine mh_enter (lv := [(0, .ref (G.2.2.2 23)), (1, .int p1), (2, .int p2)]) (by decide) rfl (Nat.le_of_ble_eq_true rfl) ?_
  refine mw_aload_n 1 rfl 0 dX5_isAt_0 rfl rfl ?_
  refine mw_geta 4 rfl dX5_isAt_1 gf_X5_24 rfl 28 (mh_rf hI0 32 rfl) ?_
  refine mw_iload_n 5 rfl 2 dX5_isAt_4 rfl rfl ?_
  refine mw_iald 6 rfl dX5_isAt_5 rfl r_p2 (by decide) (fun x7 t8 => ?_)
  refine mw_iload_n 7 rfl 1 dX5_isAt_6 rfl rfl ?_
  refine mw_ishr_u 8 rfl dX5_isAt_7 (fun x9 _ => ?_)
  refine mw_iconst (v := 1) 9 rfl dX5_isAt_8 (by decide) ?_
  refine mw_iand_u 10 rfl dX5_isAt_9 (fun x10 t11 => ?_)
  have r_x10 : mh_r x10 0 1 := by rw [t11]; exact mh_and1
  refine mw_iconst (v := 1) 11 rfl dX5_isAt_10 (by decide) ?_
  refine mw_icmp_ne 14 rfl 18 dX5_isAt_11 (by decide) (fun c12 => ?_) (fun c12 => ?_)
  · skip
    have r_x10 : mh_r x10 (0) (0) := mh_ne1 c12 r_x10 rc_1 (0) (0) (by decide)
    refine mw_iconst (v := 0) 19 rfl dX5_isAt_18 (by decide) ?_
    exact mw_zret dX5_isAt_19 rfl (mh_r_wk rc_0 (by decide)) ⟨(0), rfl, ⟨(mh_r_wk rc_0 (by decide)), rfl⟩⟩
  · skip
    have r_x10 : mh_r x10 (1) (1) := mh_eq1 c12 r_x10 rc_1 (1) (1) (by decide)
    refine mw_iconst (v := 1) 15 rfl dX5_isAt_14 (by decide) ?_
    refine mw_goto 18 rfl 19 dX5_isAt_15 (by decide) ?_
    exact mw_zret dX5_isAt_19 rfl (mh_r_wk rc_1 (by decide)) ⟨(1), rfl, ⟨(mh_r_wk rc_1 (by decide)), rfl⟩⟩

def S_X5_go : List (Nat × Nat) := [(28, 9999)]
def P_X5_go (B D : Int) (s0 : mh_H) (p1 : Int32) (p2 : Int32) (p3 : Int32) : Int32 → mh_H → Prop := fun z s => mh_r z (-2) (299) ∧ mh_I B D s ∧ mh_F S_X5_go s0 s
set_option maxRecDepth 100000 in
set_option maxHeartbeats 4000000 in
theorem w_X5_go (l : Launch) (G : mh_G) (d : Nat) {B D : Int} (hB : B ≤ 1960000000 ∧ D ≤ 1960000000) {s0 : mh_H} (hI0 : mh_I B D s0) (p1 : Int32) (p2 : Int32) (r_p2 : mh_r p2 (0) (290)) (p3 : Int32) (r_p3 : mh_r p3 (0) (1)) : mh_Mi l G (d + 2) mM_X5_go [.ref (G.2.2.2 23), .int p1, .int p2, .int p3] s0 (P_X5_go B D s0 p1 p2 p3) := by
  refine mh_enter (lv := [(0, .ref (G.2.2.2 23)), (1, .int p1), (2, .int p2), (3, .int p3)]) (by decide) rfl (Nat.le_of_ble_eq_true rfl) ?_
  have hF0 : mh_F S_X5_go s0 s0 := mh_F_rf
  refine mw_iload_n 1 rfl 2 dX5_go_0 rfl rfl ?_
  refine mw_istore 3 rfl [(4, .int p2), (0, .ref (G.2.2.2 23)), (1, .int p1), (2, .int p2), (3, .int p3)] dX5_go_1  (by decide) rfl ?_
  have L3 : ∀ n1 : Nat, ∀ (x245 : Int32) (s246 : mh_H), mh_r x245 (0) (300) → mh_I B D s246 → mh_F S_X5_go s0 s246 → (300) - x245.toInt < (n1 : Int) → mh_W G (mh_XM l G (d + 2) (mh_Qi (P_X5_go B D s0 p1 p2 p3))) mM_X5_go 3 [(0, .ref (G.2.2.2 23)), (1, .int p1), (2, .int p2), (3, .int p3), (4, .int x245)] [] s246 := by
    intro n1
    induction n1 with
    | zero =>
      intro x245 s246 r_x245 hI_s246 hF_s246 hmn1
      exact absurd hmn1 (by have := r_x245.1; have := r_x245.2; omega)
    | succ n1 ihn1 =>
      intro x245 s246 r_x245 hI_s246 hF_s246 hmn1
      refine mw_iload 5 rfl 4 dX5_go_3  rfl ?_
      refine mw_iload_n 6 rfl 2 dX5_go_5 rfl rfl ?_
      refine mw_bipush (v := 10) 8 rfl dX5_go_6 (by decide) ?_
      refine mw_iadd 9 rfl (10) (300) dX5_go_8 r_p2 rc_10 (by decide) (fun x278 t279 r_x278 => ?_)
      refine mw_sipush (v := 300) 12 rfl dX5_go_9 (by decide) ?_
      refine mw_mmin (10) (300) 15 rfl dX5_go_12 ml_X5_46 r_x278 rc_300 (by decide) (mh_mr (D := d + 2) (by omega) (Nat.le_of_ble_eq_true rfl)) (fun x280 t281 r_x280 => ?_)
      refine mw_icmp_ge 18 rfl 76 dX5_go_15 (by decide) (fun c282 => ?_) (fun c282 => ?_)
      · skip
        have r_x245 : mh_r x245 (10) (300) := mh_le2 c282 r_x280 r_x245 (10) (by decide)
        refine mw_bipush (v := -2) 78 rfl dX5_go_76 (by decide) ?_
        exact mw_iret dX5_go_78 rfl ⟨(-2), rfl, ⟨(mh_r_wk rc_m2 (by decide)), hI_s246, hF_s246⟩⟩
      · skip
        have r_x245 : mh_r x245 (0) (299) := mh_lt1 c282 r_x245 r_x280 (299) (by decide)
        refine mw_aload_n 19 rfl 0 dX5_go_18 rfl rfl ?_
        refine mw_iload_n 20 rfl 1 dX5_go_19 rfl rfl ?_
        refine mw_iload 22 rfl 4 dX5_go_20  rfl ?_
        refine mw_callVi [.int p1, .int x245] [] 25 rfl dX5_go_22 ml_X5_52 mc_X5_isAt mk_X5_isAt rfl rfl (by decide) (w_X5_isAt l G (d + 1) ⟨by omega, by omega⟩ hI_s246 p1 x245 (mh_r_wk r_x245 (by decide))) rfl rfl (Nat.le_of_ble_eq_true rfl) (mh_rok (by omega) (by decide)) (fun x283 s284 q285 => ?_)
        obtain ⟨r_x283, rfl⟩ := q285
        refine mw_if_eq 28 rfl 31 dX5_go_25 (by decide) (fun c286 => ?_) (fun c286 => ?_)
        · skip
          have r_x283 : mh_r x283 (0) (0) := mh_eq1 (show x283.toInt = (0 : Int32).toInt from c286) r_x283 rc_0 (0) (0) (by decide)
          refine mw_aload_n 32 rfl 0 dX5_go_31 rfl rfl ?_
          refine mw_geta 35 rfl dX5_go_32 gf_X5_24 rfl 28 (mh_rf hI_s246 32 rfl) ?_
          refine mw_iload 37 rfl 4 dX5_go_35  rfl ?_
          refine mw_iald 38 rfl dX5_go_37 rfl r_x245 (by decide) (fun x287 t288 => ?_)
          have J47 : ∀  (s293 : mh_H), mh_I B D s293 → mh_F S_X5_go s0 s293 → mh_W G (mh_XM l G (d + 2) (mh_Qi (P_X5_go B D s0 p1 p2 p3))) mM_X5_go 47 [(0, .ref (G.2.2.2 23)), (1, .int p1), (2, .int p2), (3, .int p3), (4, .int x245)] [] s293 := by
            intro s293 hI_s293 hF_s293
            refine mw_iload_n 48 rfl 3 dX5_go_47 rfl rfl ?_
            have J70 : ∀  (s317 : mh_H), mh_I B D s317 → mh_F S_X5_go s0 s317 → mh_W G (mh_XM l G (d + 2) (mh_Qi (P_X5_go B D s0 p1 p2 p3))) mM_X5_go 70 [(0, .ref (G.2.2.2 23)), (1, .int p1), (2, .int p2), (3, .int p3), (4, .int x245)] [] s317 := by
              intro s317 hI_s317 hF_s317
              refine mw_iincR (k := 4) (1) (300) 73 rfl (fun z => [(4, .int z), (0, .ref (G.2.2.2 23)), (1, .int p1), (2, .int p2), (3, .int p3)]) dX5_go_70 rfl (by decide) (fun _ => rfl) r_x245 (by decide) (by decide) (fun x320 t321 r_x320 => ?_)
              refine mw_goto 76 rfl 3 dX5_go_73 (by decide) ?_
              exact mw_lv [1, 2, 3, 4, 0] rfl (ihn1 x320 s317 (mh_r_wk r_x320 (by decide)) hI_s317 hF_s317 (by have : x320.toInt = x245.toInt + (1) := t321; omega))
            refine mw_if_eq 51 rfl 70 dX5_go_48 (by decide) (fun c322 => ?_) (fun c322 => ?_)
            · skip
              have r_p3 : mh_r p3 (0) (0) := mh_eq1 (show p3.toInt = (0 : Int32).toInt from c322) r_p3 rc_0 (0) (0) (by decide)
              exact mw_lv [0, 1, 2, 3, 4] rfl (J70 s293 hI_s293 hF_s293)
            · skip
              have r_p3 : mh_r p3 (1) (1) := mh_ne1 (show p3.toInt ≠ (0 : Int32).toInt from c322) r_p3 rc_0 (1) (1) (by decide)
              refine mw_aload_n 52 rfl 0 dX5_go_51 rfl rfl ?_
              refine mw_geta 55 rfl dX5_go_52 gf_X5_24 rfl 28 (mh_rf hI_s293 32 rfl) ?_
              refine mw_iload 57 rfl 4 dX5_go_55  rfl ?_
              refine mw_iconst (v := 1) 58 rfl dX5_go_57 (by decide) ?_
              refine mw_iadd 59 rfl (1) (300) dX5_go_58 r_x245 rc_1 (by decide) (fun x323 t324 r_x323 => ?_)
              refine mw_dup2 60 rfl dX5_go_59 rfl rfl ?_
              refine mw_iald 61 rfl dX5_go_60 rfl r_x323 (by decide) (fun x325 t326 => ?_)
              refine mw_aload_n 62 rfl 0 dX5_go_61 rfl rfl ?_
              refine mw_geta 65 rfl dX5_go_62 gf_X5_24 rfl 28 (mh_rf hI_s293 32 rfl) ?_
              refine mw_iload 67 rfl 4 dX5_go_65  rfl ?_
              refine mw_iald 68 rfl dX5_go_67 rfl r_x245 (by decide) (fun x327 t328 => ?_)
              refine mw_ior_u 69 rfl dX5_go_68 (fun x329 _ => ?_)
              refine mw_iast 70 rfl dX5_go_69 rfl r_x323 (by decide) (fun s330 t331 => ?_)
              have hI_s330 : mh_I B D s330 := by rw [t331]; exact wr_28 hI_s293
              have hF_s330 : mh_F S_X5_go s0 s330 := by rw [t331]; exact mh_F_pI hF_s293 (mh_si 0 rfl)
              exact mw_lv [0, 1, 2, 3, 4] rfl (J70 s330 hI_s330 hF_s330)
          refine mw_if_eq 41 rfl 47 dX5_go_38 (by decide) (fun c332 => ?_) (fun c332 => ?_)
          · skip
            have r_x287 : mh_r x287 (0) (0) := mh_eq1 (show x287.toInt = (0 : Int32).toInt from c332) (mh_r_full x287) rc_0 (0) (0) (by decide)
            exact mw_lv [0, 1, 2, 3, 4] rfl (J47 s246 hI_s246 hF_s246)
          · skip
            refine mw_aload_n 42 rfl 0 dX5_go_41 rfl rfl ?_
            refine mw_iload 44 rfl 4 dX5_go_42  rfl ?_
            refine mw_callVv [.int x245] [] 47 rfl dX5_go_44 ml_X5_56 mc_X5_goIn mk_X5_goIn rfl rfl (by decide) (w_X5_goIn l G (d + 0) ⟨by omega, by omega⟩ hI_s246 x245 r_x245) rfl rfl (Nat.le_of_ble_eq_true rfl) (mh_rok (by omega) (by decide)) (fun s334 q335 => ?_)
            obtain ⟨hI_s334, hG_s334⟩ := q335
            have hF_s334 : mh_F S_X5_go s0 s334 := mh_F_tl hF_s246 hG_s334 (by decide +kernel)
            exact mw_lv [0, 1, 2, 3, 4] rfl (J47 s334 hI_s334 hF_s334)
        · skip
          have r_x283 : mh_r x283 (1) (1) := mh_ne1 (show x283.toInt ≠ (0 : Int32).toInt from c286) r_x283 rc_0 (1) (1) (by decide)
          refine mw_iload 30 rfl 4 dX5_go_28  rfl ?_
          exact mw_iret dX5_go_30 rfl ⟨x245, rfl, ⟨(mh_r_wk r_x245 (by decide)), hI_s246, hF_s246⟩⟩
  exact mw_lv [1, 2, 3, 4, 0] rfl (L3 301 p2 s0 (mh_r_wk r_p2 (by decide)) hI0 hF0 (by have := (r_p2).1; have := (r_p2).2; omega))

def S_X5_leave : List (Nat × Nat) := [(28, 9999)]
def P_X5_leave (B D : Int) (s0 : mh_H) (p1 : Int32) (p2 : Int32) : mh_H → Prop := fun s => mh_I B D s ∧ mh_F S_X5_leave s0 s
set_option maxRecDepth 100000 in
set_option maxHeartbeats 4000000 in
theorem w_X5_leave (l : Launch) (G : mh_G) (d : Nat) {B D : Int} (hB : B ≤ 1980000000 ∧ D ≤ 1980000000) {s0 : mh_H} (hI0 : mh_I B D s0) (p1 : Int32) (p2 : Int32) (r_p2 : mh_r p2 (0) (299)) : mh_Mv l G (d + 1) mM_X5_leave [.ref (G.2.2.2 23), .int p1, .int p2] s0 (P_X5_leave B D s0 p1 p2) := by
  refine mh_enter (lv := [(0, .ref (G.2.2.2 23)), (1, .int p1), (2, .int p2)]) (by decide) rfl (Nat.le_of_ble_eq_true rfl) ?_
  have hF0 : mh_F S_X5_leave s0 s0 := mh_F_rf
  refine mw_aload_n 1 rfl 0 dX5_leave_0 rfl rfl ?_
  refine mw_geta 4 rfl dX5_leave_1 gf_X5_24 rfl 28 (mh_rf hI0 32 rfl) ?_
  refine mw_iconst (v := 0) 5 rfl dX5_leave_4 (by decide) ?_
  refine mw_callSv [.ref (G.2.2.2 28), .int (0)] [] 8 rfl dX5_leave_5 ml_X5_40 mc_J7_fill_53178 mk_J7_fill_53178 (w_J7_fill_re l G (d + 0) ⟨by omega, by omega⟩ hI0 (0)) rfl rfl (Nat.le_of_ble_eq_true rfl) (mh_rok (by omega) (by decide)) (fun s8 q9 => ?_)
  obtain ⟨hI_s8, hG_s8⟩ := q9
  have hF_s8 : mh_F S_X5_leave s0 s8 := mh_F_tl hF0 hG_s8 (by decide +kernel)
  refine mw_aload_n 9 rfl 0 dX5_leave_8 rfl rfl ?_
  refine mw_geta 12 rfl dX5_leave_9 gf_X5_24 rfl 28 (mh_rf hI_s8 32 rfl) ?_
  refine mw_iload_n 13 rfl 2 dX5_leave_12 rfl rfl ?_
  refine mw_iconst (v := 1) 14 rfl dX5_leave_13 (by decide) ?_
  refine mw_iload_n 15 rfl 1 dX5_leave_14 rfl rfl ?_
  refine mw_ishl_u 16 rfl dX5_leave_15 (fun x10 _ => ?_)
  refine mw_iast 17 rfl dX5_leave_16 rfl r_p2 (by decide) (fun s11 t12 => ?_)
  have hI_s11 : mh_I B D s11 := by rw [t12]; exact wr_28 hI_s8
  have hF_s11 : mh_F S_X5_leave s0 s11 := by rw [t12]; exact mh_F_pI hF_s8 (mh_si 0 rfl)
  exact mw_vret dX5_leave_17 rfl ⟨rfl, ⟨hI_s11, hF_s11⟩⟩

def S_X5_look (kv : Nat) (kl : Nat) : List (Nat × Nat) := [(kl + 6, 9999), (kl + 7, 9999), (27, 9999)]
def P_X5_look (B D : Int) (s0 : mh_H) (kv : Nat) (kl : Nat) : mh_H → Prop := fun s => mh_I B D s ∧ mh_F (S_X5_look kv kl) s0 s
set_option maxRecDepth 100000 in
set_option maxHeartbeats 4000000 in
theorem w_X5_look (l : Launch) (G : mh_G) (d : Nat) {B D : Int} (hB : B ≤ 1900000000 ∧ D ≤ 1900000000) {s0 : mh_H} (hI0 : mh_I B D s0) (kv : Nat) (hkv : mh_isV kv) (kl : Nat) (hkl : mh_isL kl) : mh_Mv l G (d + 5) mM_X5_look [.ref (G.2.2.2 23), .ref (G.2.2.2 kv), .ref (G.2.2.2 kl)] s0 (P_X5_look B D s0 kv kl) := by
  refine mh_enter (lv := [(0, .ref (G.2.2.2 23)), (1, .ref (G.2.2.2 kv)), (2, .ref (G.2.2.2 kl))]) (by decide) rfl (Nat.le_of_ble_eq_true rfl) ?_
  have hF0 : mh_F (S_X5_look kv kl) s0 s0 := mh_F_rf
  refine mw_iconst (v := 0) 1 rfl dX5_look_0 (by decide) ?_
  refine mw_istore_n 2 rfl [(3, .int (0)), (0, .ref (G.2.2.2 23)), (1, .ref (G.2.2.2 kv)), (2, .ref (G.2.2.2 kl))] dX5_look_1 rfl (by decide) rfl ?_
  have L2 : ∀ n1 : Nat, ∀ (x249 : Int32) (s250 : mh_H), mh_r x249 (0) (20) → mh_I B D s250 → mh_F (S_X5_look kv kl) s0 s250 → (20) - x249.toInt < (n1 : Int) → mh_W G (mh_XM l G (d + 5) (mh_Qv (P_X5_look B D s0 kv kl))) mM_X5_look 2 [(0, .ref (G.2.2.2 23)), (1, .ref (G.2.2.2 kv)), (2, .ref (G.2.2.2 kl)), (3, .int x249)] [] s250 := by
    intro n1
    induction n1 with
    | zero =>
      intro x249 s250 r_x249 hI_s250 hF_s250 hmn1
      exact absurd hmn1 (by have := r_x249.1; have := r_x249.2; omega)
    | succ n1 ihn1 =>
      intro x249 s250 r_x249 hI_s250 hF_s250 hmn1
      refine mw_iload_n 3 rfl 3 dX5_look_2 rfl rfl ?_
      refine mw_bipush (v := 20) 5 rfl dX5_look_3 (by decide) ?_
      refine mw_icmp_ge 8 rfl 43 dX5_look_5 (by decide) (fun c269 => ?_) (fun c269 => ?_)
      · skip
        have r_x249 : mh_r x249 (20) (20) := mh_le2 c269 rc_20 r_x249 (20) (by decide)
        exact mw_vret dX5_look_43 rfl ⟨rfl, ⟨hI_s250, hF_s250⟩⟩
      · skip
        have r_x249 : mh_r x249 (0) (19) := mh_lt1 c269 r_x249 rc_20 (19) (by decide)
        refine mw_aload_n 9 rfl 0 dX5_look_8 rfl rfl ?_
        refine mw_geta 12 rfl dX5_look_9 gf_X5_21 rfl 27 (mh_rf hI_s250 31 rfl) ?_
        refine mw_iload_n 13 rfl 3 dX5_look_12 rfl rfl ?_
        refine mw_aload_n 14 rfl 0 dX5_look_13 rfl rfl ?_
        refine mw_iload_n 15 rfl 3 dX5_look_14 rfl rfl ?_
        refine mw_callVi [.int x249] [.int x249, .ref (G.2.2.2 27)] 18 rfl dX5_look_15 ml_X5_31 mc_X5_isTold mk_X5_isTold rfl rfl (by decide) (w_X5_isTold l G (d + 4) ⟨by omega, by omega⟩ hI_s250 x249) rfl rfl (Nat.le_of_ble_eq_true rfl) (mh_rok (by omega) (by decide)) (fun x270 s271 q272 => ?_)
        obtain ⟨r_x270, rfl⟩ := q272
        have J36 : ∀ (x279 : Int32) (s280 : mh_H), mh_r x279 (0) (999) → mh_I B D s280 → mh_F (S_X5_look kv kl) s0 s280 → mh_W G (mh_XM l G (d + 5) (mh_Qv (P_X5_look B D s0 kv kl))) mM_X5_look 36 [(0, .ref (G.2.2.2 23)), (1, .ref (G.2.2.2 kv)), (2, .ref (G.2.2.2 kl)), (3, .int x249)] [.int x279, .int x249, .ref (G.2.2.2 27)] s280 := by
          intro x279 s280 r_x279 hI_s280 hF_s280
          refine mw_iast 37 rfl dX5_look_36 rfl r_x249 (by decide) (fun s285 t286 => ?_)
          have hI_s285 : mh_I B D s285 := by rw [t286]; exact wr_27 hI_s280 r_x279
          have hF_s285 : mh_F (S_X5_look kv kl) s0 s285 := by rw [t286]; exact mh_F_pI hF_s280 (mh_si 2 rfl)
          refine mw_iincR (k := 3) (1) (20) 40 rfl (fun z => [(3, .int z), (0, .ref (G.2.2.2 23)), (1, .ref (G.2.2.2 kv)), (2, .ref (G.2.2.2 kl))]) dX5_look_37 rfl (by decide) (fun _ => rfl) r_x249 (by decide) (by decide) (fun x287 t288 r_x287 => ?_)
          refine mw_goto 43 rfl 2 dX5_look_40 (by decide) ?_
          exact mw_lv [1, 2, 3, 0] rfl (ihn1 x287 s285 (mh_r_wk r_x287 (by decide)) hI_s285 hF_s285 (by have : x287.toInt = x249.toInt + (1) := t288; omega))
        refine mw_if_eq 21 rfl 35 dX5_look_18 (by decide) (fun c289 => ?_) (fun c289 => ?_)
        · skip
          have r_x270 : mh_r x270 (0) (0) := mh_eq1 (show x270.toInt = (0 : Int32).toInt from c289) r_x270 rc_0 (0) (0) (by decide)
          refine mw_iconst (v := 0) 36 rfl dX5_look_35 (by decide) ?_
          exact mw_lv [0, 1, 2, 3] rfl (J36 (0) s250 (mh_r_wk rc_0 (by decide)) hI_s250 hF_s250)
        · skip
          have r_x270 : mh_r x270 (1) (1) := mh_ne1 (show x270.toInt ≠ (0 : Int32).toInt from c289) r_x270 rc_0 (1) (1) (by decide)
          refine mw_aload_n 22 rfl 2 dX5_look_21 rfl rfl ?_
          refine mw_aload_n 23 rfl 1 dX5_look_22 rfl rfl ?_
          refine mw_aload_n 24 rfl 0 dX5_look_23 rfl rfl ?_
          refine mw_geta 27 rfl dX5_look_24 gf_X5_18 rfl 26 (mh_rf hI_s250 30 rfl) ?_
          refine mw_iload_n 28 rfl 3 dX5_look_27 rfl rfl ?_
          refine mw_iald 29 rfl dX5_look_28 rfl r_x249 (by decide) (fun x290 t291 => ?_)
          have r_x290 : mh_r x290 (0) (143) := by rw [t291]; exact rd_26 hI_s250 _
          refine mw_callVi [.ref (G.2.2.2 kv), .int x290] [.int x249, .ref (G.2.2.2 27)] 32 rfl dX5_look_29 ml_X5_35 mc_X1_yards mk_X1_yards (ly_L hkl) rfl (by decide) (w_X1_yards l G (d + 0) ⟨by omega, by omega⟩ hI_s250 kv hkv kl hkl x290 r_x290) rfl rfl (Nat.le_of_ble_eq_true rfl) (mh_rok (by omega) (by decide)) (fun x292 s293 q294 => ?_)
          obtain ⟨r_x292, hI_s293, hG_s293⟩ := q294
          have hF_s293 : mh_F (S_X5_look kv kl) s0 s293 := mh_F_tl hF_s250 hG_s293 (by rcases hkl with rfl | rfl <;> rcases hkv with rfl | rfl | rfl <;> decide +kernel)
          refine mw_goto 35 rfl 36 dX5_look_32 (by decide) ?_
          exact mw_lv [0, 1, 2, 3] rfl (J36 x292 s293 r_x292 hI_s293 hF_s293)
  exact mw_lv [1, 2, 3, 0] rfl (L2 21 (0) s0 (mh_r_wk rc_0 (by decide)) hI0 hF0 (by have := (rc_0).1; have := (rc_0).2; omega))

def P_X5_meet (B D : Int) (s0 : mh_H) (p1 : Int32) (p2 : Int32) : Int32 → mh_H → Prop := fun z s => mh_r z (0) (1) ∧ s0 = s
set_option maxRecDepth 100000 in
set_option maxHeartbeats 4000000 in
theorem w_X5_meet (l : Launch) (G : mh_G) (d : Nat) {B D : Int} (hB : B ≤ 1980000000 ∧ D ≤ 1980000000) {s0 : mh_H} (hI0 : mh_I B D s0) (p1 : Int32) (r_p1 : mh_r p1 (0) (19)) (p2 : Int32) (r_p2 : mh_r p2 (0) (19)) : mh_Mi l G (d + 1) mM_X5_meet [.ref (G.2.2.2 23), .int p1, .int p2] s0 (P_X5_meet B D s0 p1 p2) := by
  refine mh_enter (lv := [(0, .ref (G.2.2.2 23)), (1, .int p1), (2, .int p2)]) (by decide) rfl (Nat.le_of_ble_eq_true rfl) ?_
  refine mw_aload_n 1 rfl 0 dX5_meet_0 rfl rfl ?_
  refine mw_iload_n 2 rfl 1 dX5_meet_1 rfl rfl ?_
  refine mw_callVi [.int p1] [] 5 rfl dX5_meet_2 ml_X5_31 mc_X5_isTold mk_X5_isTold rfl rfl (by decide) (w_X5_isTold l G (d + 0) ⟨by omega, by omega⟩ hI0 p1) rfl rfl (Nat.le_of_ble_eq_true rfl) (mh_rok (by omega) (by decide)) (fun x15 s16 q17 => ?_)
  obtain ⟨r_x15, rfl⟩ := q17
  refine mw_if_eq 8 rfl 36 dX5_meet_5 (by decide) (fun c18 => ?_) (fun c18 => ?_)
  · skip
    have r_x15 : mh_r x15 (0) (0) := mh_eq1 (show x15.toInt = (0 : Int32).toInt from c18) r_x15 rc_0 (0) (0) (by decide)
    refine mw_iconst (v := 0) 37 rfl dX5_meet_36 (by decide) ?_
    exact mw_zret dX5_meet_37 rfl (mh_r_wk rc_0 (by decide)) ⟨(0), rfl, ⟨(mh_r_wk rc_0 (by decide)), rfl⟩⟩
  · skip
    have r_x15 : mh_r x15 (1) (1) := mh_ne1 (show x15.toInt ≠ (0 : Int32).toInt from c18) r_x15 rc_0 (1) (1) (by decide)
    refine mw_aload_n 9 rfl 0 dX5_meet_8 rfl rfl ?_
    refine mw_iload_n 10 rfl 2 dX5_meet_9 rfl rfl ?_
    refine mw_callVi [.int p2] [] 13 rfl dX5_meet_10 ml_X5_31 mc_X5_isTold mk_X5_isTold rfl rfl (by decide) (w_X5_isTold l G (d + 0) ⟨by omega, by omega⟩ hI0 p2) rfl rfl (Nat.le_of_ble_eq_true rfl) (mh_rok (by omega) (by decide)) (fun x19 s20 q21 => ?_)
    obtain ⟨r_x19, rfl⟩ := q21
    refine mw_if_eq 16 rfl 36 dX5_meet_13 (by decide) (fun c22 => ?_) (fun c22 => ?_)
    · skip
      have r_x19 : mh_r x19 (0) (0) := mh_eq1 (show x19.toInt = (0 : Int32).toInt from c22) r_x19 rc_0 (0) (0) (by decide)
      refine mw_iconst (v := 0) 37 rfl dX5_meet_36 (by decide) ?_
      exact mw_zret dX5_meet_37 rfl (mh_r_wk rc_0 (by decide)) ⟨(0), rfl, ⟨(mh_r_wk rc_0 (by decide)), rfl⟩⟩
    · skip
      have r_x19 : mh_r x19 (1) (1) := mh_ne1 (show x19.toInt ≠ (0 : Int32).toInt from c22) r_x19 rc_0 (1) (1) (by decide)
      refine mw_aload_n 17 rfl 0 dX5_meet_16 rfl rfl ?_
      refine mw_geta 20 rfl dX5_meet_17 gf_X5_9 rfl 24 (mh_rf hI0 28 rfl) ?_
      refine mw_iload_n 21 rfl 1 dX5_meet_20 rfl rfl ?_
      refine mw_iald 22 rfl dX5_meet_21 rfl r_p1 (by decide) (fun x23 t24 => ?_)
      refine mw_aload_n 23 rfl 0 dX5_meet_22 rfl rfl ?_
      refine mw_geta 26 rfl dX5_meet_23 gf_X5_9 rfl 24 (mh_rf hI0 28 rfl) ?_
      refine mw_iload_n 27 rfl 2 dX5_meet_26 rfl rfl ?_
      refine mw_iald 28 rfl dX5_meet_27 rfl r_p2 (by decide) (fun x25 t26 => ?_)
      refine mw_iand_u 29 rfl dX5_meet_28 (fun x27 _ => ?_)
      refine mw_if_eq 32 rfl 36 dX5_meet_29 (by decide) (fun c28 => ?_) (fun c28 => ?_)
      · skip
        have r_x27 : mh_r x27 (0) (0) := mh_eq1 (show x27.toInt = (0 : Int32).toInt from c28) (mh_r_full x27) rc_0 (0) (0) (by decide)
        refine mw_iconst (v := 0) 37 rfl dX5_meet_36 (by decide) ?_
        exact mw_zret dX5_meet_37 rfl (mh_r_wk rc_0 (by decide)) ⟨(0), rfl, ⟨(mh_r_wk rc_0 (by decide)), rfl⟩⟩
      · skip
        refine mw_iconst (v := 1) 33 rfl dX5_meet_32 (by decide) ?_
        refine mw_goto 36 rfl 37 dX5_meet_33 (by decide) ?_
        exact mw_zret dX5_meet_37 rfl (mh_r_wk rc_1 (by decide)) ⟨(1), rfl, ⟨(mh_r_wk rc_1 (by decide)), rfl⟩⟩

def S_X6_look (kv : Nat) (kl : Nat) : List (Nat × Nat) := [(22, 0), (22, 1), (22, 2), (kl + 6, 9999), (kl + 7, 9999)]
def P_X6_look (B D : Int) (s0 : mh_H) (kv : Nat) (kl : Nat) : mh_H → Prop := fun s => mh_I B D s ∧ mh_F (S_X6_look kv kl) s0 s
set_option maxRecDepth 100000 in
set_option maxHeartbeats 4000000 in
theorem w_X6_look (l : Launch) (G : mh_G) (d : Nat) {B D : Int} (hB : B ≤ 1900000000 ∧ D ≤ 1900000000) {s0 : mh_H} (hI0 : mh_I B D s0) (kv : Nat) (hkv : mh_isV kv) (kl : Nat) (hkl : mh_isL kl) : mh_Mv l G (d + 5) mM_X6_look [.ref (G.2.2.2 22), .ref (G.2.2.2 kv), .ref (G.2.2.2 kl)] s0 (P_X6_look B D s0 kv kl) := by
  refine mh_enter (lv := [(0, .ref (G.2.2.2 22)), (1, .ref (G.2.2.2 kv)), (2, .ref (G.2.2.2 kl))]) (by decide) rfl (Nat.le_of_ble_eq_true rfl) ?_
  have hF0 : mh_F (S_X6_look kv kl) s0 s0 := mh_F_rf
  refine mw_aload_n 1 rfl 0 dX6_look_0 rfl rfl ?_
  refine mw_iconst (v := 0) 2 rfl dX6_look_1 (by decide) ?_
  refine mw_puti 5 rfl dX6_look_2 pf_X6_9 rfl (fun s362 t363 => ?_)
  have hI_s362 : mh_I B D s362 := by rw [t363]; exact wr_22_0 hI0
  have hF_s362 : mh_F (S_X6_look kv kl) s0 s362 := by rw [t363]; exact mh_F_pI hF0 (mh_sj 0 rfl)
  refine mw_aload_n 6 rfl 0 dX6_look_5 rfl rfl ?_
  refine mw_bipush (v := -2) 8 rfl dX6_look_6 (by decide) ?_
  refine mw_puti 11 rfl dX6_look_8 pf_X6_15 rfl (fun s364 t365 => ?_)
  have hI_s364 : mh_I B D s364 := by rw [t365]; exact wr_22_1 hI_s362
  have hF_s364 : mh_F (S_X6_look kv kl) s0 s364 := by rw [t365]; exact mh_F_pI hF_s362 (mh_sj 1 rfl)
  refine mw_aload_n 12 rfl 0 dX6_look_11 rfl rfl ?_
  refine mw_iconst (v := 0) 13 rfl dX6_look_12 (by decide) ?_
  refine mw_puti 16 rfl dX6_look_13 pf_X6_18 rfl (fun s366 t367 => ?_)
  have hI_s366 : mh_I B D s366 := by rw [t367]; exact wr_22_2 hI_s364
  have hF_s366 : mh_F (S_X6_look kv kl) s0 s366 := by rw [t367]; exact mh_F_pI hF_s364 (mh_sj 2 rfl)
  refine mw_iconst (v := 0) 17 rfl dX6_look_16 (by decide) ?_
  refine mw_istore_n 18 rfl [(3, .int (0)), (0, .ref (G.2.2.2 22)), (1, .ref (G.2.2.2 kv)), (2, .ref (G.2.2.2 kl))] dX6_look_17 rfl (by decide) rfl ?_
  have L18 : ∀ n1 : Nat, ∀ (x663 : Int32) (s664 : mh_H), mh_r x663 (0) (144) → mh_I B D s664 → mh_F (S_X6_look kv kl) s0 s664 → (144) - x663.toInt < (n1 : Int) → mh_W G (mh_XM l G (d + 5) (mh_Qv (P_X6_look B D s0 kv kl))) mM_X6_look 18 [(0, .ref (G.2.2.2 22)), (1, .ref (G.2.2.2 kv)), (2, .ref (G.2.2.2 kl)), (3, .int x663)] [] s664 := by
    intro n1
    induction n1 with
    | zero =>
      intro x663 s664 r_x663 hI_s664 hF_s664 hmn1
      exact absurd hmn1 (by have := r_x663.1; have := r_x663.2; omega)
    | succ n1 ihn1 =>
      intro x663 s664 r_x663 hI_s664 hF_s664 hmn1
      refine mw_iload_n 19 rfl 3 dX6_look_18 rfl rfl ?_
      refine mw_sipush (v := 144) 22 rfl dX6_look_19 (by decide) ?_
      refine mw_icmp_ge 25 rfl 87 dX6_look_22 (by decide) (fun c695 => ?_) (fun c695 => ?_)
      · skip
        have r_x663 : mh_r x663 (144) (144) := mh_le2 c695 rc_144 r_x663 (144) (by decide)
        exact mw_vret dX6_look_87 rfl ⟨rfl, ⟨hI_s664, hF_s664⟩⟩
      · skip
        have r_x663 : mh_r x663 (0) (143) := mh_lt1 c695 r_x663 rc_144 (143) (by decide)
        refine mw_aload_n 26 rfl 2 dX6_look_25 rfl rfl ?_
        refine mw_aload_n 27 rfl 1 dX6_look_26 rfl rfl ?_
        refine mw_iload_n 28 rfl 3 dX6_look_27 rfl rfl ?_
        refine mw_callVi [.ref (G.2.2.2 kv), .int x663] [] 31 rfl dX6_look_28 ml_X6_21 mc_X1_top mk_X1_top (ly_L hkl) rfl (by decide) (w_X1_top l G (d + 0) ⟨by omega, by omega⟩ hI_s664 kv hkv kl hkl x663 r_x663) rfl rfl (Nat.le_of_ble_eq_true rfl) (mh_rok (by omega) (by decide)) (fun x696 s697 q698 => ?_)
        obtain ⟨r_x696, hI_s697, hG_s697⟩ := q698
        have hF_s697 : mh_F (S_X6_look kv kl) s0 s697 := mh_F_tl hF_s664 hG_s697 (by rcases hkl with rfl | rfl <;> rcases hkv with rfl | rfl | rfl <;> decide +kernel)
        refine mw_istore 33 rfl [(4, .int x696), (0, .ref (G.2.2.2 22)), (1, .ref (G.2.2.2 kv)), (2, .ref (G.2.2.2 kl)), (3, .int x663)] dX6_look_31  (by decide) rfl ?_
        refine mw_iload 35 rfl 0 dX6_look_33  rfl ?_
        have J81 : ∀  (s720 : mh_H), mh_I B D s720 → mh_F (S_X6_look kv kl) s0 s720 → mh_W G (mh_XM l G (d + 5) (mh_Qv (P_X6_look B D s0 kv kl))) mM_X6_look 81 [(0, .ref (G.2.2.2 22)), (1, .ref (G.2.2.2 kv)), (2, .ref (G.2.2.2 kl)), (3, .int x663), (4, .int x696)] [] s720 := by
          intro s720 hI_s720 hF_s720
          refine mw_iincR (k := 3) (1) (144) 84 rfl (fun z => [(3, .int z), (0, .ref (G.2.2.2 22)), (1, .ref (G.2.2.2 kv)), (2, .ref (G.2.2.2 kl)), (4, .int x696)]) dX6_look_81 rfl (by decide) (fun _ => rfl) r_x663 (by decide) (by decide) (fun x723 t724 r_x723 => ?_)
          refine mw_goto 87 rfl 18 dX6_look_84 (by decide) ?_
          exact mw_lv [1, 2, 3, 0] rfl (ihn1 x723 s720 (mh_r_wk r_x723 (by decide)) hI_s720 hF_s720 (by have : x723.toInt = x663.toInt + (1) := t724; omega))
        refine mw_if_le 38 rfl 81 dX6_look_35 (by decide) (fun c725 => ?_) (fun c725 => ?_)
        · skip
          have r_x696 : mh_r x696 (-2147483648) (0) := mh_le1 (show x696.toInt ≤ (0 : Int32).toInt from c725) r_x696 rc_0 (0) (by decide)
          exact mw_lv [1, 2, 3, 4, 0] rfl (J81 s697 hI_s697 hF_s697)
        · skip
          have r_x696 : mh_r x696 (1) (2147483647) := mh_lt2 (show (0 : Int32).toInt < x696.toInt from c725) rc_0 r_x696 (1) (by decide)
          refine mw_aload_n 39 rfl 1 dX6_look_38 rfl rfl ?_
          refine mw_dup 40 rfl dX6_look_39 rfl ?_
          refine mw_geti 43 rfl dX6_look_40 gf_X6_9 rfl (fun x726 t727 => ?_)
          refine mw_iconst (v := 1) 44 rfl dX6_look_43 (by decide) ?_
          refine mw_iadd_u 45 rfl dX6_look_44 (fun x728 t729 => ?_)
          refine mw_puti 48 rfl dX6_look_45 pf_X6_9 rfl (fun s730 t731 => ?_)
          have hI_s730 : mh_I B D s730 := by rw [t731]; exact wr_22_0 hI_s697
          have hF_s730 : mh_F (S_X6_look kv kl) s0 s730 := by rw [t731]; exact mh_F_pI hF_s697 (mh_sj 0 rfl)
          refine mw_aload_n 49 rfl 1 dX6_look_48 rfl rfl ?_
          refine mw_aload_n 50 rfl 1 dX6_look_49 rfl rfl ?_
          refine mw_geti 53 rfl dX6_look_50 gf_X6_9 rfl (fun x732 t733 => ?_)
          have t734 : x728 = s730.1 22 0 := by rw [t731]; exact mh_pI_s.symm
          obtain rfl : x728 = x732 := t734.trans t733.symm
          refine mw_iconst (v := 1) 54 rfl dX6_look_53 (by decide) ?_
          have J65 : ∀ (x738 : Int32), mh_W G (mh_XM l G (d + 5) (mh_Qv (P_X6_look B D s0 kv kl))) mM_X6_look 65 [(0, .ref (G.2.2.2 22)), (1, .ref (G.2.2.2 kv)), (2, .ref (G.2.2.2 kl)), (3, .int x663), (4, .int x696)] [.int x738, .ref (G.2.2.2 22)] s730 := by
            intro x738
            refine mw_puti 68 rfl dX6_look_65 pf_X6_15 rfl (fun s747 t748 => ?_)
            have hI_s747 : mh_I B D s747 := by rw [t748]; exact wr_22_1 hI_s730
            have hF_s747 : mh_F (S_X6_look kv kl) s0 s747 := by rw [t748]; exact mh_F_pI hF_s730 (mh_sj 1 rfl)
            refine mw_aload_n 69 rfl 0 dX6_look_68 rfl rfl ?_
            refine mw_aload_n 70 rfl 0 dX6_look_69 rfl rfl ?_
            refine mw_geti 73 rfl dX6_look_70 gf_X6_18 rfl (fun x749 t750 => ?_)
            refine mw_iload 75 rfl 4 dX6_look_73  rfl ?_
            refine mw_mmax (1) (2147483647) 78 rfl dX6_look_75 ml_X6_27 (mh_r_full x749) r_x696 (by decide) (mh_mr (D := d + 5) (by omega) (Nat.le_of_ble_eq_true rfl)) (fun x751 t752 r_x751 => ?_)
            refine mw_puti 81 rfl dX6_look_78 pf_X6_18 rfl (fun s753 t754 => ?_)
            have hI_s753 : mh_I B D s753 := by rw [t754]; exact wr_22_2 hI_s747
            have hF_s753 : mh_F (S_X6_look kv kl) s0 s753 := by rw [t754]; exact mh_F_pI hF_s747 (mh_sj 2 rfl)
            exact mw_lv [0, 1, 2, 3, 4] rfl (J81 s753 hI_s753 hF_s753)
          refine mw_icmp_ne 57 rfl 61 dX6_look_54 (by decide) (fun c755 => ?_) (fun c755 => ?_)
          · skip
            refine mw_aload_n 62 rfl 1 dX6_look_61 rfl rfl ?_
            refine mw_geti 65 rfl dX6_look_62 gf_X6_15 rfl (fun x756 t757 => ?_)
            exact mw_lv [1, 2, 3, 4, 0] rfl (J65 x756)
          · skip
            have r_x728 : mh_r x728 (1) (1) := mh_eq1 c755 (mh_r_full x728) rc_1 (1) (1) (by decide)
            refine mw_iload_n 58 rfl 4 dX6_look_57 rfl rfl ?_
            refine mw_goto 61 rfl 65 dX6_look_58 (by decide) ?_
            exact mw_lv [1, 2, 3, 4, 0] rfl (J65 x663)
  exact mw_lv [1, 2, 3, 0] rfl (L18 145 (0) s366 (mh_r_wk rc_0 (by decide)) hI_s366 hF_s366 (by have := (rc_0).1; have := (rc_0).2; omega))

def P_X7_sign (B D : Int) (s0 : mh_H) (p1 : Int32) : Int32 → mh_H → Prop := fun z s => mh_r z (0) (255) ∧ s0 = s
set_option maxRecDepth 100000 in
set_option maxHeartbeats 4000000 in
theorem w_X7_sign (l : Launch) (G : mh_G) (d : Nat) {B D : Int} (hB : B ≤ 1980000000 ∧ D ≤ 1980000000) {s0 : mh_H} (hI0 : mh_I B D s0) (p1 : Int32) : mh_Mi l G (d + 1) mM_X7_sign [.ref (G.2.2.2 37), .int p1] s0 (P_X7_sign B D s0 p1) := by
  refine mh_enter (lv := [(0, .ref (G.2.2.2 37)), (1, .int p1)]) (by decide) rfl (Nat.le_of_ble_eq_true rfl) ?_
  refine mw_iload_n 1 rfl 1 dX7_sign_0 rfl rfl ?_
  refine mw_sipush (v := 219) 4 rfl dX7_sign_1 (by decide) ?_
  refine mw_callSi [.int p1, .int (219)] [] 7 rfl dX7_sign_4 ml_X7_17 mc_X9_isWithin mk_X9_isWithin (w_X9_isWithin l G (d + 0) ⟨by omega, by omega⟩ hI0 p1 (219)) rfl rfl (Nat.le_of_ble_eq_true rfl) (mh_rok (by omega) (by decide)) (fun x7 s8 q9 => ?_)
  obtain ⟨r_x7, e0_s8, rfl⟩ := q9
  refine mw_if_eq 10 rfl 19 dX7_sign_7 (by decide) (fun c10 => ?_) (fun c10 => ?_)
  · skip
    have r_x7 : mh_r x7 (0) (0) := mh_eq1 (show x7.toInt = (0 : Int32).toInt from c10) r_x7 rc_0 (0) (0) (by decide)
    refine mw_iconst (v := 0) 20 rfl dX7_sign_19 (by decide) ?_
    exact mw_iret dX7_sign_20 rfl ⟨(0), rfl, ⟨(mh_r_wk rc_0 (by decide)), rfl⟩⟩
  · skip
    have r_p1 : mh_r p1 (0) (219) := ⟨by have := e0_s8.1 (mh_z1 r_x7 c10); have := ((mh_r_full p1)).1; omega, by have := e0_s8.1 (mh_z1 r_x7 c10); have := ((mh_r_full p1)).2; have := ((mh_rc (x := 219) (n := 219) (by decide))).2; omega⟩
    have r_x7 : mh_r x7 (1) (1) := mh_ne1 (show x7.toInt ≠ (0 : Int32).toInt from c10) r_x7 rc_0 (1) (1) (by decide)
    refine mw_aload_n 11 rfl 0 dX7_sign_10 rfl rfl ?_
    refine mw_geta 14 rfl dX7_sign_11 gf_X7_9 rfl 38 (mh_rf hI0 39 rfl) ?_
    refine mw_iload_n 15 rfl 1 dX7_sign_14 rfl rfl ?_
    refine mw_iald 16 rfl dX7_sign_15 rfl r_p1 (by decide) (fun x11 t12 => ?_)
    have r_x11 : mh_r x11 (0) (255) := by rw [t12]; exact rd_38 hI0 _
    refine mw_goto 19 rfl 20 dX7_sign_16 (by decide) ?_
    exact mw_iret dX7_sign_20 rfl ⟨x11, rfl, ⟨r_x11, rfl⟩⟩

def P_X7_number (B D : Int) (s0 : mh_H) (p1 : Int32) : Int32 → mh_H → Prop := fun z s => mh_r z (-2147483648) (2147483647) ∧ s0 = s
set_option maxRecDepth 100000 in
set_option maxHeartbeats 4000000 in
theorem w_X7_number (l : Launch) (G : mh_G) (d : Nat) {B D : Int} (hB : B ≤ 1960000000 ∧ D ≤ 1960000000) {s0 : mh_H} (hI0 : mh_I B D s0) (p1 : Int32) : mh_Mi l G (d + 2) mM_X7_number [.ref (G.2.2.2 37), .int p1] s0 (P_X7_number B D s0 p1) := by
  refine mh_enter (lv := [(0, .ref (G.2.2.2 37)), (1, .int p1)]) (by decide) rfl (Nat.le_of_ble_eq_true rfl) ?_
  refine mw_iconst (v := 0) 1 rfl dX7_number_0 (by decide) ?_
  refine mw_istore_n 2 rfl [(2, .int (0)), (0, .ref (G.2.2.2 37)), (1, .int p1)] dX7_number_1 rfl (by decide) rfl ?_
  refine mw_iconst (v := 0) 3 rfl dX7_number_2 (by decide) ?_
  refine mw_istore_n 4 rfl [(3, .int (0)), (2, .int (0)), (0, .ref (G.2.2.2 37)), (1, .int p1)] dX7_number_3 rfl (by decide) rfl ?_
  have L4 : ∀ n1 : Nat, ∀ (x137 : Int32) (x138 : Int32), mh_r x137 (0) (4) → (4) - x137.toInt < (n1 : Int) → mh_W G (mh_XM l G (d + 2) (mh_Qi (P_X7_number B D s0 p1))) mM_X7_number 4 [(0, .ref (G.2.2.2 37)), (1, .int p1), (2, .int x138), (3, .int x137)] [] s0 := by
    intro n1
    induction n1 with
    | zero =>
      intro x137 x138 r_x137 hmn1
      exact absurd hmn1 (by have := r_x137.1; have := r_x137.2; omega)
    | succ n1 ihn1 =>
      intro x137 x138 r_x137 hmn1
      refine mw_iload_n 5 rfl 3 dX7_number_4 rfl rfl ?_
      refine mw_iconst (v := 4) 6 rfl dX7_number_5 (by decide) ?_
      refine mw_icmp_ge 9 rfl 30 dX7_number_6 (by decide) (fun c153 => ?_) (fun c153 => ?_)
      · skip
        have r_x137 : mh_r x137 (4) (4) := mh_le2 c153 rc_4 r_x137 (4) (by decide)
        refine mw_iload_n 31 rfl 2 dX7_number_30 rfl rfl ?_
        exact mw_iret dX7_number_31 rfl ⟨x138, rfl, ⟨(mh_r_full x138), rfl⟩⟩
      · skip
        have r_x137 : mh_r x137 (0) (3) := mh_lt1 c153 r_x137 rc_4 (3) (by decide)
        refine mw_iload_n 10 rfl 2 dX7_number_9 rfl rfl ?_
        refine mw_bipush (v := 8) 12 rfl dX7_number_10 (by decide) ?_
        refine mw_ishl_u 13 rfl dX7_number_12 (fun x154 _ => ?_)
        refine mw_aload_n 14 rfl 0 dX7_number_13 rfl rfl ?_
        refine mw_iconst (v := 4) 15 rfl dX7_number_14 (by decide) ?_
        refine mw_iload_n 16 rfl 1 dX7_number_15 rfl rfl ?_
        refine mw_imul_u 17 rfl dX7_number_16 (fun x155 t156 => ?_)
        refine mw_iload_n 18 rfl 3 dX7_number_17 rfl rfl ?_
        refine mw_iadd_u 19 rfl dX7_number_18 (fun x157 t158 => ?_)
        refine mw_callVi [.int x157] [.int x154] 22 rfl dX7_number_19 ml_X7_23 mc_X7_sign mk_X7_sign rfl rfl (by decide) (w_X7_sign l G (d + 0) ⟨by omega, by omega⟩ hI0 x157) rfl rfl (Nat.le_of_ble_eq_true rfl) (mh_rok (by omega) (by decide)) (fun x159 s160 q161 => ?_)
        obtain ⟨r_x159, rfl⟩ := q161
        refine mw_ior_u 23 rfl dX7_number_22 (fun x162 _ => ?_)
        refine mw_istore_n 24 rfl [(2, .int x162), (0, .ref (G.2.2.2 37)), (1, .int p1), (3, .int x137)] dX7_number_23 rfl (by decide) rfl ?_
        refine mw_iincR (k := 3) (1) (4) 27 rfl (fun z => [(3, .int z), (2, .int x162), (0, .ref (G.2.2.2 37)), (1, .int p1)]) dX7_number_24 rfl (by decide) (fun _ => rfl) r_x137 (by decide) (by decide) (fun x163 t164 r_x163 => ?_)
        refine mw_goto 30 rfl 4 dX7_number_27 (by decide) ?_
        exact mw_lv [2, 3, 1, 0] rfl (ihn1 x163 x162 (mh_r_wk r_x163 (by decide)) (by have : x163.toInt = x137.toInt + (1) := t164; omega))
  exact mw_lv [2, 3, 1, 0] rfl (L4 5 (0) (0) (mh_r_wk rc_0 (by decide)) (by have := (rc_0).1; have := (rc_0).2; omega))

def S_X7_put : List (Nat × Nat) := [(38, 9999), (37, 1)]
def P_X7_put (B D : Int) (s0 : mh_H) (p1 : Int32) : mh_H → Prop := fun s => mh_I B D s ∧ mh_F S_X7_put s0 s
set_option maxRecDepth 100000 in
set_option maxHeartbeats 4000000 in
theorem w_X7_put (l : Launch) (G : mh_G) (d : Nat) {B D : Int} (hB : B ≤ 2000000000 ∧ D ≤ 2000000000) {s0 : mh_H} (hI0 : mh_I B D s0) (p1 : Int32) : mh_Mv l G (d + 0) mM_X7_put [.ref (G.2.2.2 37), .int p1] s0 (P_X7_put B D s0 p1) := by
  refine mh_enter (lv := [(0, .ref (G.2.2.2 37)), (1, .int p1)]) (by decide) rfl (Nat.le_of_ble_eq_true rfl) ?_
  have hF0 : mh_F S_X7_put s0 s0 := mh_F_rf
  refine mw_bipush (v := 24) 2 rfl dX7_put_0 (by decide) ?_
  refine mw_istore_n 3 rfl [(2, .int (24)), (0, .ref (G.2.2.2 37)), (1, .int p1)] dX7_put_2 rfl (by decide) rfl ?_
  have L3 : ∀ n1 : Nat, ∀ (x207 : Int32) (s208 : mh_H), mh_r x207 (-8) (24) → mh_I B D s208 → mh_F S_X7_put s0 s208 → x207.toInt - (-8) < (n1 : Int) → mh_W G (mh_XM l G (d + 0) (mh_Qv (P_X7_put B D s0 p1))) mM_X7_put 3 [(0, .ref (G.2.2.2 37)), (1, .int p1), (2, .int x207)] [] s208 := by
    intro n1
    induction n1 with
    | zero =>
      intro x207 s208 r_x207 hI_s208 hF_s208 hmn1
      exact absurd hmn1 (by have := r_x207.1; have := r_x207.2; omega)
    | succ n1 ihn1 =>
      intro x207 s208 r_x207 hI_s208 hF_s208 hmn1
      refine mw_iload_n 4 rfl 2 dX7_put_3 rfl rfl ?_
      refine mw_if_lt 7 rfl 49 dX7_put_4 (by decide) (fun c230 => ?_) (fun c230 => ?_)
      · skip
        have r_x207 : mh_r x207 (-8) (-1) := mh_lt1 (show x207.toInt < (0 : Int32).toInt from c230) r_x207 rc_0 (-1) (by decide)
        exact mw_vret dX7_put_49 rfl ⟨rfl, ⟨hI_s208, hF_s208⟩⟩
      · skip
        have r_x207 : mh_r x207 (0) (24) := mh_le2 (show (0 : Int32).toInt ≤ x207.toInt from c230) rc_0 r_x207 (0) (by decide)
        refine mw_aload_n 8 rfl 0 dX7_put_7 rfl rfl ?_
        refine mw_geti 11 rfl dX7_put_8 gf_X7_13 rfl (fun x231 t232 => ?_)
        have r_x231 : mh_r x231 (0) (220) := by rw [t232]; exact rd_37_1 hI_s208
        refine mw_sipush (v := 220) 14 rfl dX7_put_11 (by decide) ?_
        refine mw_icmp_ge 17 rfl 49 dX7_put_14 (by decide) (fun c233 => ?_) (fun c233 => ?_)
        · skip
          have r_x231 : mh_r x231 (220) (220) := mh_le2 c233 rc_220 r_x231 (220) (by decide)
          exact mw_vret dX7_put_49 rfl ⟨rfl, ⟨hI_s208, hF_s208⟩⟩
        · skip
          have r_x231 : mh_r x231 (0) (219) := mh_lt1 c233 r_x231 rc_220 (219) (by decide)
          refine mw_aload_n 18 rfl 0 dX7_put_17 rfl rfl ?_
          refine mw_geta 21 rfl dX7_put_18 gf_X7_9 rfl 38 (mh_rf hI_s208 39 rfl) ?_
          refine mw_aload_n 22 rfl 0 dX7_put_21 rfl rfl ?_
          refine mw_geti 25 rfl dX7_put_22 gf_X7_13 rfl (fun x234 t235 => ?_)
          obtain rfl : x231 = x234 := t232.trans t235.symm
          refine mw_iload_n 26 rfl 1 dX7_put_25 rfl rfl ?_
          refine mw_iload_n 27 rfl 2 dX7_put_26 rfl rfl ?_
          refine mw_iushr_u 28 rfl dX7_put_27 (fun x236 _ => ?_)
          refine mw_sipush (v := 255) 31 rfl dX7_put_28 (by decide) ?_
          refine mw_iand_u 32 rfl dX7_put_31 (fun x237 t238 => ?_)
          have r_x237 : mh_r x237 0 255 := by rw [t238]; exact mh_and255
          refine mw_iast 33 rfl dX7_put_32 rfl r_x231 (by decide) (fun s239 t240 => ?_)
          have hI_s239 : mh_I B D s239 := by rw [t240]; exact wr_38 hI_s208 r_x237
          have hF_s239 : mh_F S_X7_put s0 s239 := by rw [t240]; exact mh_F_pI hF_s208 (mh_si 0 rfl)
          refine mw_aload_n 34 rfl 0 dX7_put_33 rfl rfl ?_
          refine mw_dup 35 rfl dX7_put_34 rfl ?_
          refine mw_geti 38 rfl dX7_put_35 gf_X7_13 rfl (fun x241 t242 => ?_)
          have t243 : x231 = s239.1 37 1 := by rw [t240]; exact (t232).trans (mh_pI_n (by omega)).symm
          obtain rfl : x231 = x241 := t243.trans t242.symm
          refine mw_iconst (v := 1) 39 rfl dX7_put_38 (by decide) ?_
          refine mw_iadd 40 rfl (1) (220) dX7_put_39 r_x231 rc_1 (by decide) (fun x244 t245 r_x244 => ?_)
          refine mw_puti 43 rfl dX7_put_40 pf_X7_13 rfl (fun s246 t247 => ?_)
          have hI_s246 : mh_I B D s246 := by rw [t247]; exact wr_37_1 hI_s239 (mh_r_wk r_x244 (by decide))
          have hF_s246 : mh_F S_X7_put s0 s246 := by rw [t247]; exact mh_F_pI hF_s239 (mh_sj 1 rfl)
          refine mw_iincR (k := 2) (-8) (16) 46 rfl (fun z => [(2, .int z), (0, .ref (G.2.2.2 37)), (1, .int p1)]) dX7_put_43 rfl (by decide) (fun _ => rfl) r_x207 (by decide) (by decide) (fun x248 t249 r_x248 => ?_)
          refine mw_goto 49 rfl 3 dX7_put_46 (by decide) ?_
          exact mw_lv [1, 2, 0] rfl (ihn1 x248 s246 (mh_r_wk r_x248 (by decide)) hI_s246 hF_s246 (by have : x248.toInt = x207.toInt + (-8) := t249; omega))
  exact mw_lv [1, 2, 0] rfl (L3 33 (24) s0 (mh_r_wk rc_24 (by decide)) hI0 hF0 (by have := (rc_24).1; have := (rc_24).2; omega))

def S_eX1_addClause (kl : Nat) : List (Nat × Nat) := [(kl + 2, 9999), (kl + 3, 9999), (kl + 4, 9999), (kl + 5, 9999), (kl, 7), (kl, 9)]
def j_eX1_addClause_62_1 (s72 : mh_H) (kl : Nat) (p1 : Int32) : mh_H := mh_lb (s72.1 kl 9) (fun x89 => if x89.toInt = 0 then if p1.toInt = (99 : Int32).toInt then mh_lb (mh_pI s72 kl 9 (1 : Int32)) (fun s95 => s95) else if p1.toInt = (119 : Int32).toInt then mh_lb (mh_pI s72 kl 9 (1 : Int32)) (fun s98 => s98) else if p1.toInt = (115 : Int32).toInt then mh_lb (mh_pI s72 kl 9 (1 : Int32)) (fun s103 => s103) else mh_lb (mh_pI s72 kl 9 (0 : Int32)) (fun s101 => s101) else mh_lb (mh_pI s72 kl 9 (1 : Int32)) (fun s92 => s92))
def f_eX1_addClause (s0 : mh_H) (kl : Nat) (p1 : Int32) (p2 : Int32) (p3 : Int32) : mh_H := mh_lb (s0.1 kl 7) (fun x45 => if x45.toInt < (14 : Int32).toInt then mh_lb (mh_pI s0 (kl + 2) x45.toNatClampNeg p1) (fun s108 => mh_lb (mh_pI s108 (kl + 3) x45.toNatClampNeg p2) (fun s113 => mh_lb (mh_pI s113 (kl + 4) x45.toNatClampNeg p3) (fun s118 => mh_lb (s118.1 kl 8) (fun x123 => mh_lb (mh_pI s118 (kl + 5) x45.toNatClampNeg x123) (fun s125 => mh_lb (x45 + (1 : Int32)) (fun x130 => mh_lb (mh_pI s125 kl 7 x130) (fun s132 => (j_eX1_addClause_62_1 s132 kl p1)))))))) else (j_eX1_addClause_62_1 s0 kl p1))
def P_eX1_addClause (B D : Int) (s0 : mh_H) (kl : Nat) (p1 : Int32) (p2 : Int32) (p3 : Int32) : mh_H → Prop := fun s => f_eX1_addClause s0 kl p1 p2 p3 = s ∧ mh_I B D s ∧ mh_F (S_eX1_addClause kl) s0 s
set_option maxRecDepth 100000 in
set_option maxHeartbeats 4000000 in
theorem w_eX1_addClause (l : Launch) (G : mh_G) (d : Nat) {B D : Int} (hB : B ≤ 2000000000 ∧ D ≤ 2000000000) {s0 : mh_H} (hI0 : mh_I B D s0) (kl : Nat) (hkl : mh_isL kl) (p1 : Int32) (p2 : Int32) (p3 : Int32) : mh_Mv l G (d + 0) mM_X1_addClause [.ref (G.2.2.2 kl), .int p1, .int p2, .int p3] s0 (P_eX1_addClause B D s0 kl p1 p2 p3) := by
  refine mh_enter (lv := [(0, .ref (G.2.2.2 kl)), (1, .int p1), (2, .int p2), (3, .int p3)]) (by decide) rfl (Nat.le_of_ble_eq_true rfl) ?_
  have hF0 : mh_F (S_eX1_addClause kl) s0 s0 := mh_F_rf
  refine mw_aload_n 1 rfl 0 dX1_addClause_0 rfl rfl ?_
  refine mw_geti 4 rfl dX1_addClause_1 gf_X1_41 (ly_L hkl) (fun x45 t46 => ?_)
  have r_x45 : mh_r x45 (0) (14) := by rw [t46]; exact rd_L_7 hI0 hkl
  refine mw_bipush (v := 14) 6 rfl dX1_addClause_4 (by decide) ?_
  have J62 : ∀  (s72 : mh_H), mh_I B D s72 → mh_F (S_eX1_addClause kl) s0 s72 → (f_eX1_addClause s0 kl p1 p2 p3 = j_eX1_addClause_62_1 s72 kl p1) → mh_W G (mh_XM l G (d + 0) (mh_Qv (P_eX1_addClause B D s0 kl p1 p2 p3))) mM_X1_addClause 62 [(0, .ref (G.2.2.2 kl)), (1, .int p1), (2, .int p2), (3, .int p3)] [] s72 := by
    intro s72 hI_s72 hF_s72 hE1
    refine mw_aload_n 63 rfl 0 dX1_addClause_62 rfl rfl ?_
    refine mw_aload_n 64 rfl 0 dX1_addClause_63 rfl rfl ?_
    refine mw_geti 67 rfl dX1_addClause_64 gf_X1_48 (ly_L hkl) (fun x89 t90 => ?_)
    have r_x89 : mh_r x89 (0) (1) := by rw [t90]; exact rd_L_9 hI_s72 hkl
    refine mw_if_ne 70 rfl 88 dX1_addClause_67 (by decide) (fun c91 => ?_) (fun c91 => ?_)
    · skip
      have r_x89 : mh_r x89 (1) (1) := mh_ne1 (show x89.toInt ≠ (0 : Int32).toInt from c91) r_x89 rc_0 (1) (1) (by decide)
      refine mw_iconst (v := 1) 89 rfl dX1_addClause_88 (by decide) ?_
      refine mw_goto 92 rfl 93 dX1_addClause_89 (by decide) ?_
      refine mw_putz 96 rfl dX1_addClause_93 pf_X1_48 (ly_L hkl) (mh_r_wk rc_1 (by decide)) (fun s92 t93 => ?_)
      have hI_s92 : mh_I B D s92 := by rw [t93]; exact wr_L_9 hI_s72 hkl (mh_r_wk rc_1 (by decide))
      have hF_s92 : mh_F (S_eX1_addClause kl) s0 s92 := by rw [t93]; exact mh_F_pI hF_s72 (mh_sj 5 rfl)
      exact mw_vret dX1_addClause_96 rfl ⟨rfl, ⟨(Eq.trans hE1 (mh_lbT t90 (mh_ifF c91 (mh_lbT t93 rfl)))), hI_s92, hF_s92⟩⟩
    · skip
      have r_x89 : mh_r x89 (0) (0) := mh_eq1 (show x89.toInt = (0 : Int32).toInt from c91) r_x89 rc_0 (0) (0) (by decide)
      refine mw_iload_n 71 rfl 1 dX1_addClause_70 rfl rfl ?_
      refine mw_bipush (v := 99) 73 rfl dX1_addClause_71 (by decide) ?_
      refine mw_icmp_eq 76 rfl 88 dX1_addClause_73 (by decide) (fun c94 => ?_) (fun c94 => ?_)
      · skip
        have r_p1 : mh_r p1 (99) (99) := mh_eq1 c94 (mh_r_full p1) rc_99 (99) (99) (by decide)
        refine mw_iconst (v := 1) 89 rfl dX1_addClause_88 (by decide) ?_
        refine mw_goto 92 rfl 93 dX1_addClause_89 (by decide) ?_
        refine mw_putz 96 rfl dX1_addClause_93 pf_X1_48 (ly_L hkl) (mh_r_wk rc_1 (by decide)) (fun s95 t96 => ?_)
        have hI_s95 : mh_I B D s95 := by rw [t96]; exact wr_L_9 hI_s72 hkl (mh_r_wk rc_1 (by decide))
        have hF_s95 : mh_F (S_eX1_addClause kl) s0 s95 := by rw [t96]; exact mh_F_pI hF_s72 (mh_sj 5 rfl)
        exact mw_vret dX1_addClause_96 rfl ⟨rfl, ⟨(Eq.trans hE1 (mh_lbT t90 (mh_ifT c91 (mh_ifT c94 (mh_lbT t96 rfl))))), hI_s95, hF_s95⟩⟩
      · skip
        refine mw_iload_n 77 rfl 1 dX1_addClause_76 rfl rfl ?_
        refine mw_bipush (v := 119) 79 rfl dX1_addClause_77 (by decide) ?_
        refine mw_icmp_eq 82 rfl 88 dX1_addClause_79 (by decide) (fun c97 => ?_) (fun c97 => ?_)
        · skip
          have r_p1 : mh_r p1 (119) (119) := mh_eq1 c97 (mh_r_full p1) rc_119 (119) (119) (by decide)
          refine mw_iconst (v := 1) 89 rfl dX1_addClause_88 (by decide) ?_
          refine mw_goto 92 rfl 93 dX1_addClause_89 (by decide) ?_
          refine mw_putz 96 rfl dX1_addClause_93 pf_X1_48 (ly_L hkl) (mh_r_wk rc_1 (by decide)) (fun s98 t99 => ?_)
          have hI_s98 : mh_I B D s98 := by rw [t99]; exact wr_L_9 hI_s72 hkl (mh_r_wk rc_1 (by decide))
          have hF_s98 : mh_F (S_eX1_addClause kl) s0 s98 := by rw [t99]; exact mh_F_pI hF_s72 (mh_sj 5 rfl)
          exact mw_vret dX1_addClause_96 rfl ⟨rfl, ⟨(Eq.trans hE1 (mh_lbT t90 (mh_ifT c91 (mh_ifF c94 (mh_ifT c97 (mh_lbT t99 rfl)))))), hI_s98, hF_s98⟩⟩
        · skip
          refine mw_iload_n 83 rfl 1 dX1_addClause_82 rfl rfl ?_
          refine mw_bipush (v := 115) 85 rfl dX1_addClause_83 (by decide) ?_
          refine mw_icmp_ne 88 rfl 92 dX1_addClause_85 (by decide) (fun c100 => ?_) (fun c100 => ?_)
          · skip
            refine mw_iconst (v := 0) 93 rfl dX1_addClause_92 (by decide) ?_
            refine mw_putz 96 rfl dX1_addClause_93 pf_X1_48 (ly_L hkl) (mh_r_wk rc_0 (by decide)) (fun s101 t102 => ?_)
            have hI_s101 : mh_I B D s101 := by rw [t102]; exact wr_L_9 hI_s72 hkl (mh_r_wk rc_0 (by decide))
            have hF_s101 : mh_F (S_eX1_addClause kl) s0 s101 := by rw [t102]; exact mh_F_pI hF_s72 (mh_sj 5 rfl)
            exact mw_vret dX1_addClause_96 rfl ⟨rfl, ⟨(Eq.trans hE1 (mh_lbT t90 (mh_ifT c91 (mh_ifF c94 (mh_ifF c97 (mh_ifF c100 (mh_lbT t102 rfl))))))), hI_s101, hF_s101⟩⟩
          · skip
            have r_p1 : mh_r p1 (115) (115) := mh_eq1 c100 (mh_r_full p1) rc_115 (115) (115) (by decide)
            refine mw_iconst (v := 1) 89 rfl dX1_addClause_88 (by decide) ?_
            refine mw_goto 92 rfl 93 dX1_addClause_89 (by decide) ?_
            refine mw_putz 96 rfl dX1_addClause_93 pf_X1_48 (ly_L hkl) (mh_r_wk rc_1 (by decide)) (fun s103 t104 => ?_)
            have hI_s103 : mh_I B D s103 := by rw [t104]; exact wr_L_9 hI_s72 hkl (mh_r_wk rc_1 (by decide))
            have hF_s103 : mh_F (S_eX1_addClause kl) s0 s103 := by rw [t104]; exact mh_F_pI hF_s72 (mh_sj 5 rfl)
            exact mw_vret dX1_addClause_96 rfl ⟨rfl, ⟨(Eq.trans hE1 (mh_lbT t90 (mh_ifT c91 (mh_ifF c94 (mh_ifF c97 (mh_ifT c100 (mh_lbT t104 rfl))))))), hI_s103, hF_s103⟩⟩
  refine mw_icmp_ge 9 rfl 62 dX1_addClause_6 (by decide) (fun c105 => ?_) (fun c105 => ?_)
  · skip
    have r_x45 : mh_r x45 (14) (14) := mh_le2 c105 rc_14 r_x45 (14) (by decide)
    exact mw_lv [0, 1, 2, 3] rfl (J62 s0 hI0 hF0 (mh_lbT t46 (mh_ifF (Int.not_lt.mpr c105) rfl)))
  · skip
    have r_x45 : mh_r x45 (0) (13) := mh_lt1 c105 r_x45 rc_14 (13) (by decide)
    refine mw_aload_n 10 rfl 0 dX1_addClause_9 rfl rfl ?_
    refine mw_geta 13 rfl dX1_addClause_10 gf_X1_15 (ly_L hkl) (kl + 2) (rf_L_1 hI0 hkl) ?_
    refine mw_aload_n 14 rfl 0 dX1_addClause_13 rfl rfl ?_
    refine mw_geti 17 rfl dX1_addClause_14 gf_X1_41 (ly_L hkl) (fun x106 t107 => ?_)
    obtain rfl : x45 = x106 := t46.trans t107.symm
    refine mw_iload_n 18 rfl 1 dX1_addClause_17 rfl rfl ?_
    refine mw_iast 19 rfl dX1_addClause_18 (ly_L2 hkl) r_x45 (by decide) (fun s108 t109 => ?_)
    have hI_s108 : mh_I B D s108 := by rw [t109]; exact wr_L2 hI0 hkl
    have hF_s108 : mh_F (S_eX1_addClause kl) s0 s108 := by rw [t109]; exact mh_F_pI hF0 (mh_si 0 rfl)
    refine mw_aload_n 20 rfl 0 dX1_addClause_19 rfl rfl ?_
    refine mw_geta 23 rfl dX1_addClause_20 gf_X1_18 (ly_L hkl) (kl + 3) (rf_L_2 hI_s108 hkl) ?_
    refine mw_aload_n 24 rfl 0 dX1_addClause_23 rfl rfl ?_
    refine mw_geti 27 rfl dX1_addClause_24 gf_X1_41 (ly_L hkl) (fun x110 t111 => ?_)
    have t112 : x45 = s108.1 kl 7 := by rw [t109]; exact (t46).trans (mh_pI_n (by omega)).symm
    obtain rfl : x45 = x110 := t112.trans t111.symm
    refine mw_iload_n 28 rfl 2 dX1_addClause_27 rfl rfl ?_
    refine mw_iast 29 rfl dX1_addClause_28 (ly_L3 hkl) r_x45 (by decide) (fun s113 t114 => ?_)
    have hI_s113 : mh_I B D s113 := by rw [t114]; exact wr_L3 hI_s108 hkl
    have hF_s113 : mh_F (S_eX1_addClause kl) s0 s113 := by rw [t114]; exact mh_F_pI hF_s108 (mh_si 1 rfl)
    refine mw_aload_n 30 rfl 0 dX1_addClause_29 rfl rfl ?_
    refine mw_geta 33 rfl dX1_addClause_30 gf_X1_21 (ly_L hkl) (kl + 4) (rf_L_3 hI_s113 hkl) ?_
    refine mw_aload_n 34 rfl 0 dX1_addClause_33 rfl rfl ?_
    refine mw_geti 37 rfl dX1_addClause_34 gf_X1_41 (ly_L hkl) (fun x115 t116 => ?_)
    have t117 : x45 = s113.1 kl 7 := by rw [t114]; exact (t112).trans (mh_pI_n (by omega)).symm
    obtain rfl : x45 = x115 := t117.trans t116.symm
    refine mw_iload_n 38 rfl 3 dX1_addClause_37 rfl rfl ?_
    refine mw_iast 39 rfl dX1_addClause_38 (ly_L4 hkl) r_x45 (by decide) (fun s118 t119 => ?_)
    have hI_s118 : mh_I B D s118 := by rw [t119]; exact wr_L4 hI_s113 hkl
    have hF_s118 : mh_F (S_eX1_addClause kl) s0 s118 := by rw [t119]; exact mh_F_pI hF_s113 (mh_si 2 rfl)
    refine mw_aload_n 40 rfl 0 dX1_addClause_39 rfl rfl ?_
    refine mw_geta 43 rfl dX1_addClause_40 gf_X1_24 (ly_L hkl) (kl + 5) (rf_L_4 hI_s118 hkl) ?_
    refine mw_aload_n 44 rfl 0 dX1_addClause_43 rfl rfl ?_
    refine mw_geti 47 rfl dX1_addClause_44 gf_X1_41 (ly_L hkl) (fun x120 t121 => ?_)
    have t122 : x45 = s118.1 kl 7 := by rw [t119]; exact (t117).trans (mh_pI_n (by omega)).symm
    obtain rfl : x45 = x120 := t122.trans t121.symm
    refine mw_aload_n 48 rfl 0 dX1_addClause_47 rfl rfl ?_
    refine mw_geti 51 rfl dX1_addClause_48 gf_X1_45 (ly_L hkl) (fun x123 t124 => ?_)
    have r_x123 : mh_r x123 (0) (400) := by rw [t124]; exact rd_L_8 hI_s118 hkl
    refine mw_iast 52 rfl dX1_addClause_51 (ly_L5 hkl) r_x45 (by decide) (fun s125 t126 => ?_)
    have hI_s125 : mh_I B D s125 := by rw [t126]; exact wr_L5 hI_s118 hkl
    have hF_s125 : mh_F (S_eX1_addClause kl) s0 s125 := by rw [t126]; exact mh_F_pI hF_s118 (mh_si 3 rfl)
    refine mw_aload_n 53 rfl 0 dX1_addClause_52 rfl rfl ?_
    refine mw_dup 54 rfl dX1_addClause_53 rfl ?_
    refine mw_geti 57 rfl dX1_addClause_54 gf_X1_41 (ly_L hkl) (fun x127 t128 => ?_)
    have t129 : x45 = s125.1 kl 7 := by rw [t126]; exact (t122).trans (mh_pI_n (by omega)).symm
    obtain rfl : x45 = x127 := t129.trans t128.symm
    refine mw_iconst (v := 1) 58 rfl dX1_addClause_57 (by decide) ?_
    refine mw_iadd 59 rfl (1) (14) dX1_addClause_58 r_x45 rc_1 (by decide) (fun x130 t131 r_x130 => ?_)
    refine mw_puti 62 rfl dX1_addClause_59 pf_X1_41 (ly_L hkl) (fun s132 t133 => ?_)
    have hI_s132 : mh_I B D s132 := by rw [t133]; exact wr_L_7 hI_s125 hkl (mh_r_wk r_x130 (by decide))
    have hF_s132 : mh_F (S_eX1_addClause kl) s0 s132 := by rw [t133]; exact mh_F_pI hF_s125 (mh_sj 4 rfl)
    exact mw_lv [0, 1, 2, 3] rfl (J62 s132 hI_s132 hF_s132 (mh_lbT t46 (mh_ifT c105 (mh_lbT t109 (mh_lbT t114 (mh_lbT t119 (mh_lbT t124 (mh_lbT t126 (mh_lbT (mh_eadd t131) (mh_lbT t133 rfl))))))))))

def S_eX1_clear (kl : Nat) : List (Nat × Nat) := [(kl, 7), (kl, 8), (kl, 9), (kl, 10)]
def f_eX1_clear (s0 : mh_H) (kl : Nat) : mh_H := mh_lb (mh_pI s0 kl 7 (0 : Int32)) (fun s9 => mh_lb (mh_pI s9 kl 8 (0 : Int32)) (fun s11 => mh_lb (mh_pI s11 kl 9 (0 : Int32)) (fun s13 => mh_lb (mh_pI s13 kl 10 (0 : Int32)) (fun s15 => s15))))
def P_eX1_clear (B D : Int) (s0 : mh_H) (kl : Nat) : mh_H → Prop := fun s => f_eX1_clear s0 kl = s ∧ mh_I B D s ∧ mh_F (S_eX1_clear kl) s0 s
set_option maxRecDepth 100000 in
set_option maxHeartbeats 4000000 in
theorem w_eX1_clear (l : Launch) (G : mh_G) (d : Nat) {B D : Int} (hB : B ≤ 2000000000 ∧ D ≤ 2000000000) {s0 : mh_H} (hI0 : mh_I B D s0) (kl : Nat) (hkl : mh_isL kl) : mh_Mv l G (d + 0) mM_X1_clear [.ref (G.2.2.2 kl)] s0 (P_eX1_clear B D s0 kl) := by
  refine mh_enter (lv := [(0, .ref (G.2.2.2 kl))]) (by decide) rfl (Nat.le_of_ble_eq_true rfl) ?_
  have hF0 : mh_F (S_eX1_clear kl) s0 s0 := mh_F_rf
  refine mw_aload_n 1 rfl 0 dX1_clear_0 rfl rfl ?_
  refine mw_iconst (v := 0) 2 rfl dX1_clear_1 (by decide) ?_
  refine mw_puti 5 rfl dX1_clear_2 pf_X1_41 (ly_L hkl) (fun s9 t10 => ?_)
  have hI_s9 : mh_I B D s9 := by rw [t10]; exact wr_L_7 hI0 hkl (mh_r_wk rc_0 (by decide))
  have hF_s9 : mh_F (S_eX1_clear kl) s0 s9 := by rw [t10]; exact mh_F_pI hF0 (mh_sj 0 rfl)
  refine mw_aload_n 6 rfl 0 dX1_clear_5 rfl rfl ?_
  refine mw_iconst (v := 0) 7 rfl dX1_clear_6 (by decide) ?_
  refine mw_puti 10 rfl dX1_clear_7 pf_X1_45 (ly_L hkl) (fun s11 t12 => ?_)
  have hI_s11 : mh_I B D s11 := by rw [t12]; exact wr_L_8 hI_s9 hkl (mh_r_wk rc_0 (by decide))
  have hF_s11 : mh_F (S_eX1_clear kl) s0 s11 := by rw [t12]; exact mh_F_pI hF_s9 (mh_sj 1 rfl)
  refine mw_aload_n 11 rfl 0 dX1_clear_10 rfl rfl ?_
  refine mw_iconst (v := 0) 12 rfl dX1_clear_11 (by decide) ?_
  refine mw_putz 15 rfl dX1_clear_12 pf_X1_48 (ly_L hkl) (mh_r_wk rc_0 (by decide)) (fun s13 t14 => ?_)
  have hI_s13 : mh_I B D s13 := by rw [t14]; exact wr_L_9 hI_s11 hkl (mh_r_wk rc_0 (by decide))
  have hF_s13 : mh_F (S_eX1_clear kl) s0 s13 := by rw [t14]; exact mh_F_pI hF_s11 (mh_sj 2 rfl)
  refine mw_aload_n 16 rfl 0 dX1_clear_15 rfl rfl ?_
  refine mw_iconst (v := 0) 17 rfl dX1_clear_16 (by decide) ?_
  refine mw_putz 20 rfl dX1_clear_17 pf_X1_52 (ly_L hkl) (mh_r_wk rc_0 (by decide)) (fun s15 t16 => ?_)
  have hI_s15 : mh_I B D s15 := by rw [t16]; exact wr_L_10 hI_s13 hkl (mh_r_wk rc_0 (by decide))
  have hF_s15 : mh_F (S_eX1_clear kl) s0 s15 := by rw [t16]; exact mh_F_pI hF_s13 (mh_sj 3 rfl)
  exact mw_vret dX1_clear_20 rfl ⟨rfl, ⟨(mh_lbT t10 (mh_lbT t12 (mh_lbT t14 (mh_lbT t16 rfl)))), hI_s15, hF_s15⟩⟩

def S_eX1_land (kl : Nat) : List (Nat × Nat) := [(kl + 1, 9999)]
def f_eX1_land (s0 : mh_H) (kl : Nat) (p1 : Int32) : mh_H := mh_lb (f_eX9_isWithin s0 p1 (399 : Int32)) (fun x9 => if x9.toInt = 0 then s0 else mh_lb (s0.1 kl 8) (fun x13 => mh_lb (mh_pI s0 (kl + 1) p1.toNatClampNeg x13) (fun s15 => s15)))
def P_eX1_land (B D : Int) (s0 : mh_H) (kl : Nat) (p1 : Int32) : mh_H → Prop := fun s => f_eX1_land s0 kl p1 = s ∧ mh_I B D s ∧ mh_F (S_eX1_land kl) s0 s
set_option maxRecDepth 100000 in
set_option maxHeartbeats 4000000 in
theorem w_eX1_land (l : Launch) (G : mh_G) (d : Nat) {B D : Int} (hB : B ≤ 1980000000 ∧ D ≤ 1980000000) {s0 : mh_H} (hI0 : mh_I B D s0) (kl : Nat) (hkl : mh_isL kl) (p1 : Int32) : mh_Mv l G (d + 1) mM_X1_land [.ref (G.2.2.2 kl), .int p1] s0 (P_eX1_land B D s0 kl p1) := by
  refine mh_enter (lv := [(0, .ref (G.2.2.2 kl)), (1, .int p1)]) (by decide) rfl (Nat.le_of_ble_eq_true rfl) ?_
  have hF0 : mh_F (S_eX1_land kl) s0 s0 := mh_F_rf
  refine mw_iload_n 1 rfl 1 dX1_land_0 rfl rfl ?_
  refine mw_sipush (v := 399) 4 rfl dX1_land_1 (by decide) ?_
  refine mw_callSi [.int p1, .int (399)] [] 7 rfl dX1_land_4 ml_X1_59 mc_X9_isWithin mk_X9_isWithin (w_eX9_isWithin l G (d + 0) ⟨by omega, by omega⟩ hI0 p1 (399)) rfl rfl (Nat.le_of_ble_eq_true rfl) (mh_rok (by omega) (by decide)) (fun x9 s10 q11 => ?_)
  obtain ⟨r_x9, E_s10, e0_s10, rfl⟩ := q11
  refine mw_if_eq 10 rfl 20 dX1_land_7 (by decide) (fun c12 => ?_) (fun c12 => ?_)
  · skip
    have r_x9 : mh_r x9 (0) (0) := mh_eq1 (show x9.toInt = (0 : Int32).toInt from c12) r_x9 rc_0 (0) (0) (by decide)
    exact mw_vret dX1_land_20 rfl ⟨rfl, ⟨(mh_lbS E_s10 (mh_ifT c12 rfl)), hI0, hF0⟩⟩
  · skip
    have r_p1 : mh_r p1 (0) (399) := ⟨by have := e0_s10.1 (mh_z1 r_x9 c12); have := ((mh_r_full p1)).1; omega, by have := e0_s10.1 (mh_z1 r_x9 c12); have := ((mh_r_full p1)).2; have := ((mh_rc (x := 399) (n := 399) (by decide))).2; omega⟩
    have r_x9 : mh_r x9 (1) (1) := mh_ne1 (show x9.toInt ≠ (0 : Int32).toInt from c12) r_x9 rc_0 (1) (1) (by decide)
    refine mw_aload_n 11 rfl 0 dX1_land_10 rfl rfl ?_
    refine mw_geta 14 rfl dX1_land_11 gf_X1_11 (ly_L hkl) (kl + 1) (rf_L_0 hI0 hkl) ?_
    refine mw_iload_n 15 rfl 1 dX1_land_14 rfl rfl ?_
    refine mw_aload_n 16 rfl 0 dX1_land_15 rfl rfl ?_
    refine mw_geti 19 rfl dX1_land_16 gf_X1_45 (ly_L hkl) (fun x13 t14 => ?_)
    have r_x13 : mh_r x13 (0) (400) := by rw [t14]; exact rd_L_8 hI0 hkl
    refine mw_iast 20 rfl dX1_land_19 (ly_L1 hkl) r_p1 (by decide) (fun s15 t16 => ?_)
    have hI_s15 : mh_I B D s15 := by rw [t16]; exact wr_L1 hI0 hkl
    have hF_s15 : mh_F (S_eX1_land kl) s0 s15 := by rw [t16]; exact mh_F_pI hF0 (mh_si 0 rfl)
    exact mw_vret dX1_land_20 rfl ⟨rfl, ⟨(mh_lbS E_s10 (mh_ifF c12 (mh_lbT t14 (mh_lbT t16 rfl)))), hI_s15, hF_s15⟩⟩

def S_eX1_mist (kv : Nat) (kl : Nat) : List (Nat × Nat) := [(kl + 6, 9999), (kl + 7, 9999)]
def f_eX1_mist (s0 : mh_H) (kv : Nat) (kl : Nat) (p2 : Int32) : Int32 × mh_H := mh_lb (f_eX1_see s0 kv kl p2) (fun s8 => mh_lb2 (f_eX1_worth s8 kl (109 : Int32)) (fun x10 s11 => (x10, s11)))
def P_eX1_mist (B D : Int) (s0 : mh_H) (kv : Nat) (kl : Nat) (p2 : Int32) : Int32 → mh_H → Prop := fun z s => mh_r z (0) (999) ∧ f_eX1_mist s0 kv kl p2 = (z, s) ∧ mh_I B D s ∧ mh_F (S_eX1_mist kv kl) s0 s
set_option maxRecDepth 100000 in
set_option maxHeartbeats 4000000 in
theorem w_eX1_mist (l : Launch) (G : mh_G) (d : Nat) {B D : Int} (hB : B ≤ 1940000000 ∧ D ≤ 1940000000) {s0 : mh_H} (hI0 : mh_I B D s0) (kv : Nat) (hkv : mh_isV kv) (kl : Nat) (hkl : mh_isL kl) (p2 : Int32) (r_p2 : mh_r p2 (0) (143)) : mh_Mi l G (d + 3) mM_X1_mist [.ref (G.2.2.2 kl), .ref (G.2.2.2 kv), .int p2] s0 (P_eX1_mist B D s0 kv kl p2) := by
  refine mh_enter (lv := [(0, .ref (G.2.2.2 kl)), (1, .ref (G.2.2.2 kv)), (2, .int p2)]) (by decide) rfl (Nat.le_of_ble_eq_true rfl) ?_
  have hF0 : mh_F (S_eX1_mist kv kl) s0 s0 := mh_F_rf
  refine mw_aload_n 1 rfl 0 dX1_mist_0 rfl rfl ?_
  refine mw_aload_n 2 rfl 1 dX1_mist_1 rfl rfl ?_
  refine mw_iload_n 3 rfl 2 dX1_mist_2 rfl rfl ?_
  refine mw_callVv [.ref (G.2.2.2 kv), .int p2] [] 6 rfl dX1_mist_3 ml_X1_87 mc_X1_see mk_X1_see (ly_L hkl) rfl (by decide) (w_eX1_see l G (d + 0) ⟨by omega, by omega⟩ hI0 kv hkv kl hkl p2 r_p2) rfl rfl (Nat.le_of_ble_eq_true rfl) (mh_rok (by omega) (by decide)) (fun s8 q9 => ?_)
  obtain ⟨E_s8, hI_s8, hG_s8⟩ := q9
  have hF_s8 : mh_F (S_eX1_mist kv kl) s0 s8 := mh_F_tl hF0 hG_s8 (by rcases hkl with rfl | rfl <;> rcases hkv with rfl | rfl | rfl <;> decide +kernel)
  refine mw_aload_n 7 rfl 0 dX1_mist_6 rfl rfl ?_
  refine mw_bipush (v := 109) 9 rfl dX1_mist_7 (by decide) ?_
  refine mw_callVi [.int (109)] [] 12 rfl dX1_mist_9 ml_X1_91 mc_X1_worth mk_X1_worth (ly_L hkl) rfl (by decide) (w_eX1_worth l G (d + 0) ⟨by omega, by omega⟩ hI_s8 kl hkl (109)) rfl rfl (Nat.le_of_ble_eq_true rfl) (mh_rok (by omega) (by decide)) (fun x10 s11 q12 => ?_)
  obtain ⟨r_x10, E_s11, hI_s11, hG_s11⟩ := q12
  have hF_s11 : mh_F (S_eX1_mist kv kl) s0 s11 := mh_F_tl hF_s8 hG_s11 (by rcases hkl with rfl | rfl <;> rcases hkv with rfl | rfl | rfl <;> decide +kernel)
  exact mw_iret dX1_mist_12 rfl ⟨x10, rfl, ⟨r_x10, (mh_lbS E_s8 (mh_lb2T E_s11 rfl)), hI_s11, hF_s11⟩⟩

def S_eX1_put (kl : Nat) : List (Nat × Nat) := [(kl + 1, 9999), (kl, 8)]
def f_eX1_put (s0 : mh_H) (kl : Nat) (p1 : Int32) : mh_H := mh_lb (s0.1 kl 8) (fun x14 => if x14.toInt < (400 : Int32).toInt then mh_lb (mh_pI s0 (kl + 1) x14.toNatClampNeg p1) (fun s19 => mh_lb (x14 + (1 : Int32)) (fun x24 => mh_lb (mh_pI s19 kl 8 x24) (fun s26 => s26))) else s0)
def P_eX1_put (B D : Int) (s0 : mh_H) (kl : Nat) (p1 : Int32) : mh_H → Prop := fun s => f_eX1_put s0 kl p1 = s ∧ mh_I B D s ∧ mh_F (S_eX1_put kl) s0 s
set_option maxRecDepth 100000 in
set_option maxHeartbeats 4000000 in
theorem w_eX1_put (l : Launch) (G : mh_G) (d : Nat) {B D : Int} (hB : B ≤ 2000000000 ∧ D ≤ 2000000000) {s0 : mh_H} (hI0 : mh_I B D s0) (kl : Nat) (hkl : mh_isL kl) (p1 : Int32) : mh_Mv l G (d + 0) mM_X1_put [.ref (G.2.2.2 kl), .int p1] s0 (P_eX1_put B D s0 kl p1) := by
  refine mh_enter (lv := [(0, .ref (G.2.2.2 kl)), (1, .int p1)]) (by decide) rfl (Nat.le_of_ble_eq_true rfl) ?_
  have hF0 : mh_F (S_eX1_put kl) s0 s0 := mh_F_rf
  refine mw_aload_n 1 rfl 0 dX1_put_0 rfl rfl ?_
  refine mw_geti 4 rfl dX1_put_1 gf_X1_45 (ly_L hkl) (fun x14 t15 => ?_)
  have r_x14 : mh_r x14 (0) (400) := by rw [t15]; exact rd_L_8 hI0 hkl
  refine mw_sipush (v := 400) 7 rfl dX1_put_4 (by decide) ?_
  refine mw_icmp_ge 10 rfl 30 dX1_put_7 (by decide) (fun c16 => ?_) (fun c16 => ?_)
  · skip
    have r_x14 : mh_r x14 (400) (400) := mh_le2 c16 (mh_rc (x := 400) (n := 400) (by decide)) r_x14 (400) (by decide)
    exact mw_vret dX1_put_30 rfl ⟨rfl, ⟨(mh_lbT t15 (mh_ifF (Int.not_lt.mpr c16) rfl)), hI0, hF0⟩⟩
  · skip
    have r_x14 : mh_r x14 (0) (399) := mh_lt1 c16 r_x14 (mh_rc (x := 400) (n := 400) (by decide)) (399) (by decide)
    refine mw_aload_n 11 rfl 0 dX1_put_10 rfl rfl ?_
    refine mw_geta 14 rfl dX1_put_11 gf_X1_11 (ly_L hkl) (kl + 1) (rf_L_0 hI0 hkl) ?_
    refine mw_aload_n 15 rfl 0 dX1_put_14 rfl rfl ?_
    refine mw_geti 18 rfl dX1_put_15 gf_X1_45 (ly_L hkl) (fun x17 t18 => ?_)
    obtain rfl : x14 = x17 := t15.trans t18.symm
    refine mw_iload_n 19 rfl 1 dX1_put_18 rfl rfl ?_
    refine mw_iast 20 rfl dX1_put_19 (ly_L1 hkl) r_x14 (by decide) (fun s19 t20 => ?_)
    have hI_s19 : mh_I B D s19 := by rw [t20]; exact wr_L1 hI0 hkl
    have hF_s19 : mh_F (S_eX1_put kl) s0 s19 := by rw [t20]; exact mh_F_pI hF0 (mh_si 0 rfl)
    refine mw_aload_n 21 rfl 0 dX1_put_20 rfl rfl ?_
    refine mw_dup 22 rfl dX1_put_21 rfl ?_
    refine mw_geti 25 rfl dX1_put_22 gf_X1_45 (ly_L hkl) (fun x21 t22 => ?_)
    have t23 : x14 = s19.1 kl 8 := by rw [t20]; exact (t15).trans (mh_pI_n (by omega)).symm
    obtain rfl : x14 = x21 := t23.trans t22.symm
    refine mw_iconst (v := 1) 26 rfl dX1_put_25 (by decide) ?_
    refine mw_iadd 27 rfl (1) (400) dX1_put_26 r_x14 rc_1 (by decide) (fun x24 t25 r_x24 => ?_)
    refine mw_puti 30 rfl dX1_put_27 pf_X1_45 (ly_L hkl) (fun s26 t27 => ?_)
    have hI_s26 : mh_I B D s26 := by rw [t27]; exact wr_L_8 hI_s19 hkl (mh_r_wk r_x24 (by decide))
    have hF_s26 : mh_F (S_eX1_put kl) s0 s26 := by rw [t27]; exact mh_F_pI hF_s19 (mh_sj 1 rfl)
    exact mw_vret dX1_put_30 rfl ⟨rfl, ⟨(mh_lbT t15 (mh_ifT c16 (mh_lbT t20 (mh_lbT (mh_eadd t25) (mh_lbT t27 rfl))))), hI_s26, hF_s26⟩⟩

def S_eX1_putJump (kl : Nat) : List (Nat × Nat) := [(kl + 1, 9999), (kl, 8)]
def f_eX1_putJump (s0 : mh_H) (kl : Nat) (p1 : Int32) : Int32 × mh_H := mh_lb (f_eX1_put s0 kl p1) (fun s12 => mh_lb (f_eX1_put s12 kl (0 : Int32)) (fun s15 => mh_lb (s15.1 kl 8) (fun x17 => mh_lb (x17 - (1 : Int32)) (fun x19 => (x19, s15)))))
def P_eX1_putJump (B D : Int) (s0 : mh_H) (kl : Nat) (p1 : Int32) : Int32 → mh_H → Prop := fun z s => mh_r z (-1) (399) ∧ f_eX1_putJump s0 kl p1 = (z, s) ∧ mh_I B D s ∧ mh_F (S_eX1_putJump kl) s0 s
set_option maxRecDepth 100000 in
set_option maxHeartbeats 4000000 in
theorem w_eX1_putJump (l : Launch) (G : mh_G) (d : Nat) {B D : Int} (hB : B ≤ 1980000000 ∧ D ≤ 1980000000) {s0 : mh_H} (hI0 : mh_I B D s0) (kl : Nat) (hkl : mh_isL kl) (p1 : Int32) : mh_Mi l G (d + 1) mM_X1_putJump [.ref (G.2.2.2 kl), .int p1] s0 (P_eX1_putJump B D s0 kl p1) := by
  refine mh_enter (lv := [(0, .ref (G.2.2.2 kl)), (1, .int p1)]) (by decide) rfl (Nat.le_of_ble_eq_true rfl) ?_
  have hF0 : mh_F (S_eX1_putJump kl) s0 s0 := mh_F_rf
  refine mw_aload_n 1 rfl 0 dX1_putJump_0 rfl rfl ?_
  refine mw_iload_n 2 rfl 1 dX1_putJump_1 rfl rfl ?_
  refine mw_callVv [.int p1] [] 5 rfl dX1_putJump_2 ml_X1_55 mc_X1_put mk_X1_put (ly_L hkl) rfl (by decide) (w_eX1_put l G (d + 0) ⟨by omega, by omega⟩ hI0 kl hkl p1) rfl rfl (Nat.le_of_ble_eq_true rfl) (mh_rok (by omega) (by decide)) (fun s12 q13 => ?_)
  obtain ⟨E_s12, hI_s12, hG_s12⟩ := q13
  have hF_s12 : mh_F (S_eX1_putJump kl) s0 s12 := mh_F_tl hF0 hG_s12 (by rcases hkl with rfl | rfl <;> decide +kernel)
  refine mw_aload_n 6 rfl 0 dX1_putJump_5 rfl rfl ?_
  refine mw_iconst (v := 0) 7 rfl dX1_putJump_6 (by decide) ?_
  refine mw_callVv [.int (0)] [] 10 rfl dX1_putJump_7 ml_X1_55 mc_X1_put mk_X1_put (ly_L hkl) rfl (by decide) (w_eX1_put l G (d + 0) ⟨by omega, by omega⟩ hI_s12 kl hkl (0)) rfl rfl (Nat.le_of_ble_eq_true rfl) (mh_rok (by omega) (by decide)) (fun s15 q16 => ?_)
  obtain ⟨E_s15, hI_s15, hG_s15⟩ := q16
  have hF_s15 : mh_F (S_eX1_putJump kl) s0 s15 := mh_F_tl hF_s12 hG_s15 (by rcases hkl with rfl | rfl <;> decide +kernel)
  refine mw_aload_n 11 rfl 0 dX1_putJump_10 rfl rfl ?_
  refine mw_geti 14 rfl dX1_putJump_11 gf_X1_45 (ly_L hkl) (fun x17 t18 => ?_)
  have r_x17 : mh_r x17 (0) (400) := by rw [t18]; exact rd_L_8 hI_s15 hkl
  refine mw_iconst (v := 1) 15 rfl dX1_putJump_14 (by decide) ?_
  refine mw_isub 16 rfl (-1) (399) dX1_putJump_15 r_x17 rc_1 (by decide) (fun x19 t20 r_x19 => ?_)
  exact mw_iret dX1_putJump_16 rfl ⟨x19, rfl, ⟨r_x19, (mh_lbS E_s12 (mh_lbS E_s15 (mh_lbT t18 (mh_lbT (mh_esub t20) rfl)))), hI_s15, hF_s15⟩⟩

def S_eX1_saysMist (kl : Nat) : List (Nat × Nat) := [(kl + 6, 9999), (kl + 7, 9999)]
def f_eX1_saysMist (s0 : mh_H) (kl : Nat) (p1 : Int32) (p2 : Int32) (p3 : Int32) : Int32 × mh_H := mh_lb (f_eJ7_fill_va s0 kl (0 : Int32)) (fun s15 => mh_lb (mh_pI s15 (kl + 6) (10 : Int32).toNatClampNeg p1) (fun s17 => mh_lb (mh_pI s17 (kl + 6) (11 : Int32).toNatClampNeg p2) (fun s19 => mh_lb (mh_pI s19 (kl + 6) (12 : Int32).toNatClampNeg p3) (fun s21 => mh_lb2 (f_eX1_worth s21 kl (102 : Int32)) (fun x23 s24 => if 0 < x23.toInt then ((1 : Int32), s24) else ((0 : Int32), s24))))))
def P_eX1_saysMist (B D : Int) (s0 : mh_H) (kl : Nat) (p1 : Int32) (p2 : Int32) (p3 : Int32) : Int32 → mh_H → Prop := fun z s => mh_r z (0) (1) ∧ f_eX1_saysMist s0 kl p1 p2 p3 = (z, s) ∧ mh_I B D s ∧ mh_F (S_eX1_saysMist kl) s0 s
set_option maxRecDepth 100000 in
set_option maxHeartbeats 4000000 in
theorem w_eX1_saysMist (l : Launch) (G : mh_G) (d : Nat) {B D : Int} (hB : B ≤ 1940000000 ∧ D ≤ 1940000000) {s0 : mh_H} (hI0 : mh_I B D s0) (kl : Nat) (hkl : mh_isL kl) (p1 : Int32) (p2 : Int32) (p3 : Int32) : mh_Mi l G (d + 3) mM_X1_saysMist [.ref (G.2.2.2 kl), .int p1, .int p2, .int p3] s0 (P_eX1_saysMist B D s0 kl p1 p2 p3) := by
  refine mh_enter (lv := [(0, .ref (G.2.2.2 kl)), (1, .int p1), (2, .int p2), (3, .int p3)]) (by decide) rfl (Nat.le_of_ble_eq_true rfl) ?_
  have hF0 : mh_F (S_eX1_saysMist kl) s0 s0 := mh_F_rf
  refine mw_aload_n 1 rfl 0 dX1_saysMist_0 rfl rfl ?_
  refine mw_geta 4 rfl dX1_saysMist_1 gf_X1_35 (ly_L hkl) (kl + 6) (rf_L_5 hI0 hkl) ?_
  refine mw_iconst (v := 0) 5 rfl dX1_saysMist_4 (by decide) ?_
  refine mw_callSv [.ref (G.2.2.2 (kl + 6)), .int (0)] [] 8 rfl dX1_saysMist_5 ml_X1_98 mc_J7_fill_53178 mk_J7_fill_53178 (w_eJ7_fill_va l G (d + 2) ⟨by omega, by omega⟩ hI0 kl hkl (0)) rfl rfl (Nat.le_of_ble_eq_true rfl) (mh_rok (by omega) (by decide)) (fun s15 q16 => ?_)
  obtain ⟨E_s15, hI_s15, hG_s15⟩ := q16
  have hF_s15 : mh_F (S_eX1_saysMist kl) s0 s15 := mh_F_tl hF0 hG_s15 (by rcases hkl with rfl | rfl <;> decide +kernel)
  refine mw_aload_n 9 rfl 0 dX1_saysMist_8 rfl rfl ?_
  refine mw_geta 12 rfl dX1_saysMist_9 gf_X1_35 (ly_L hkl) (kl + 6) (rf_L_5 hI_s15 hkl) ?_
  refine mw_bipush (v := 10) 14 rfl dX1_saysMist_12 (by decide) ?_
  refine mw_iload_n 15 rfl 1 dX1_saysMist_14 rfl rfl ?_
  refine mw_iast 16 rfl dX1_saysMist_15 (ly_L6 hkl) rc_10 (by decide) (fun s17 t18 => ?_)
  have hI_s17 : mh_I B D s17 := by rw [t18]; exact wr_L6 hI_s15 hkl
  have hF_s17 : mh_F (S_eX1_saysMist kl) s0 s17 := by rw [t18]; exact mh_F_pI hF_s15 (mh_si 0 rfl)
  refine mw_aload_n 17 rfl 0 dX1_saysMist_16 rfl rfl ?_
  refine mw_geta 20 rfl dX1_saysMist_17 gf_X1_35 (ly_L hkl) (kl + 6) (rf_L_5 hI_s17 hkl) ?_
  refine mw_bipush (v := 11) 22 rfl dX1_saysMist_20 (by decide) ?_
  refine mw_iload_n 23 rfl 2 dX1_saysMist_22 rfl rfl ?_
  refine mw_iast 24 rfl dX1_saysMist_23 (ly_L6 hkl) rc_11 (by decide) (fun s19 t20 => ?_)
  have hI_s19 : mh_I B D s19 := by rw [t20]; exact wr_L6 hI_s17 hkl
  have hF_s19 : mh_F (S_eX1_saysMist kl) s0 s19 := by rw [t20]; exact mh_F_pI hF_s17 (mh_si 0 rfl)
  refine mw_aload_n 25 rfl 0 dX1_saysMist_24 rfl rfl ?_
  refine mw_geta 28 rfl dX1_saysMist_25 gf_X1_35 (ly_L hkl) (kl + 6) (rf_L_5 hI_s19 hkl) ?_
  refine mw_bipush (v := 12) 30 rfl dX1_saysMist_28 (by decide) ?_
  refine mw_iload_n 31 rfl 3 dX1_saysMist_30 rfl rfl ?_
  refine mw_iast 32 rfl dX1_saysMist_31 (ly_L6 hkl) rc_12 (by decide) (fun s21 t22 => ?_)
  have hI_s21 : mh_I B D s21 := by rw [t22]; exact wr_L6 hI_s19 hkl
  have hF_s21 : mh_F (S_eX1_saysMist kl) s0 s21 := by rw [t22]; exact mh_F_pI hF_s19 (mh_si 0 rfl)
  refine mw_aload_n 33 rfl 0 dX1_saysMist_32 rfl rfl ?_
  refine mw_bipush (v := 102) 35 rfl dX1_saysMist_33 (by decide) ?_
  refine mw_callVi [.int (102)] [] 38 rfl dX1_saysMist_35 ml_X1_91 mc_X1_worth mk_X1_worth (ly_L hkl) rfl (by decide) (w_eX1_worth l G (d + 0) ⟨by omega, by omega⟩ hI_s21 kl hkl (102)) rfl rfl (Nat.le_of_ble_eq_true rfl) (mh_rok (by omega) (by decide)) (fun x23 s24 q25 => ?_)
  obtain ⟨r_x23, E_s24, hI_s24, hG_s24⟩ := q25
  have hF_s24 : mh_F (S_eX1_saysMist kl) s0 s24 := mh_F_tl hF_s21 hG_s24 (by rcases hkl with rfl | rfl <;> decide +kernel)
  refine mw_if_le 41 rfl 45 dX1_saysMist_38 (by decide) (fun c26 => ?_) (fun c26 => ?_)
  · skip
    have r_x23 : mh_r x23 (0) (0) := mh_le1 (show x23.toInt ≤ (0 : Int32).toInt from c26) r_x23 rc_0 (0) (by decide)
    refine mw_iconst (v := 0) 46 rfl dX1_saysMist_45 (by decide) ?_
    exact mw_zret dX1_saysMist_46 rfl (mh_r_wk rc_0 (by decide)) ⟨(0), rfl, ⟨(mh_r_wk rc_0 (by decide)), (mh_lbS E_s15 (mh_lbT t18 (mh_lbT t20 (mh_lbT t22 (mh_lb2T E_s24 (mh_ifF (Int.not_lt.mpr c26) rfl)))))), hI_s24, hF_s24⟩⟩
  · skip
    have r_x23 : mh_r x23 (1) (999) := mh_lt2 (show (0 : Int32).toInt < x23.toInt from c26) rc_0 r_x23 (1) (by decide)
    refine mw_iconst (v := 1) 42 rfl dX1_saysMist_41 (by decide) ?_
    refine mw_goto 45 rfl 46 dX1_saysMist_42 (by decide) ?_
    exact mw_zret dX1_saysMist_46 rfl (mh_r_wk rc_1 (by decide)) ⟨(1), rfl, ⟨(mh_r_wk rc_1 (by decide)), (mh_lbS E_s15 (mh_lbT t18 (mh_lbT t20 (mh_lbT t22 (mh_lb2T E_s24 (mh_ifT c26 rfl)))))), hI_s24, hF_s24⟩⟩

def S_eX1_top (kv : Nat) (kl : Nat) : List (Nat × Nat) := [(kl + 6, 9999), (kl + 7, 9999)]
def f_eX1_top (s0 : mh_H) (kv : Nat) (kl : Nat) (p2 : Int32) : Int32 × mh_H := mh_lb2 (f_eX1_mist s0 kv kl p2) (fun x9 s10 => if 0 < x9.toInt then mh_lb (s10.1 (kv + 1) p2.toNatClampNeg) (fun x13 => mh_lb (x13 + x9) (fun x15 => (x15, s10))) else ((0 : Int32), s10))
def P_eX1_top (B D : Int) (s0 : mh_H) (kv : Nat) (kl : Nat) (p2 : Int32) : Int32 → mh_H → Prop := fun z s => mh_r z (-2147483648) (2147483647) ∧ f_eX1_top s0 kv kl p2 = (z, s) ∧ mh_I B D s ∧ mh_F (S_eX1_top kv kl) s0 s
set_option maxRecDepth 100000 in
set_option maxHeartbeats 4000000 in
theorem w_eX1_top (l : Launch) (G : mh_G) (d : Nat) {B D : Int} (hB : B ≤ 1920000000 ∧ D ≤ 1920000000) {s0 : mh_H} (hI0 : mh_I B D s0) (kv : Nat) (hkv : mh_isV kv) (kl : Nat) (hkl : mh_isL kl) (p2 : Int32) (r_p2 : mh_r p2 (0) (143)) : mh_Mi l G (d + 4) mM_X1_top [.ref (G.2.2.2 kl), .ref (G.2.2.2 kv), .int p2] s0 (P_eX1_top B D s0 kv kl p2) := by
  refine mh_enter (lv := [(0, .ref (G.2.2.2 kl)), (1, .ref (G.2.2.2 kv)), (2, .int p2)]) (by decide) rfl (Nat.le_of_ble_eq_true rfl) ?_
  have hF0 : mh_F (S_eX1_top kv kl) s0 s0 := mh_F_rf
  refine mw_aload_n 1 rfl 0 dX1_top_0 rfl rfl ?_
  refine mw_aload_n 2 rfl 1 dX1_top_1 rfl rfl ?_
  refine mw_iload_n 3 rfl 2 dX1_top_2 rfl rfl ?_
  refine mw_callVi [.ref (G.2.2.2 kv), .int p2] [] 6 rfl dX1_top_3 ml_X1_94 mc_X1_mist mk_X1_mist (ly_L hkl) rfl (by decide) (w_eX1_mist l G (d + 0) ⟨by omega, by omega⟩ hI0 kv hkv kl hkl p2 r_p2) rfl rfl (Nat.le_of_ble_eq_true rfl) (mh_rok (by omega) (by decide)) (fun x9 s10 q11 => ?_)
  obtain ⟨r_x9, E_s10, hI_s10, hG_s10⟩ := q11
  have hF_s10 : mh_F (S_eX1_top kv kl) s0 s10 := mh_F_tl hF0 hG_s10 (by rcases hkl with rfl | rfl <;> rcases hkv with rfl | rfl | rfl <;> decide +kernel)
  refine mw_istore_n 7 rfl [(3, .int x9), (0, .ref (G.2.2.2 kl)), (1, .ref (G.2.2.2 kv)), (2, .int p2)] dX1_top_6 rfl (by decide) rfl ?_
  refine mw_iload_n 8 rfl 0 dX1_top_7 rfl rfl ?_
  refine mw_if_le 11 rfl 22 dX1_top_8 (by decide) (fun c12 => ?_) (fun c12 => ?_)
  · skip
    have r_x9 : mh_r x9 (0) (0) := mh_le1 (show x9.toInt ≤ (0 : Int32).toInt from c12) r_x9 rc_0 (0) (by decide)
    refine mw_iconst (v := 0) 23 rfl dX1_top_22 (by decide) ?_
    exact mw_iret dX1_top_23 rfl ⟨(0), rfl, ⟨(mh_r_wk rc_0 (by decide)), (mh_lb2T E_s10 (mh_ifF (Int.not_lt.mpr c12) rfl)), hI_s10, hF_s10⟩⟩
  · skip
    have r_x9 : mh_r x9 (1) (999) := mh_lt2 (show (0 : Int32).toInt < x9.toInt from c12) rc_0 r_x9 (1) (by decide)
    refine mw_aload_n 12 rfl 2 dX1_top_11 rfl rfl ?_
    refine mw_geta 15 rfl dX1_top_12 gf_X1_63 (ly_V hkv) (kv + 1) (rf_V_0 hI_s10 hkv) ?_
    refine mw_iload_n 16 rfl 3 dX1_top_15 rfl rfl ?_
    refine mw_iald 17 rfl dX1_top_16 (ly_V1 hkv) r_p2 (by decide) (fun x13 t14 => ?_)
    refine mw_iload_n 18 rfl 0 dX1_top_17 rfl rfl ?_
    refine mw_iadd_u 19 rfl dX1_top_18 (fun x15 t16 => ?_)
    refine mw_goto 22 rfl 23 dX1_top_19 (by decide) ?_
    exact mw_iret dX1_top_23 rfl ⟨x15, rfl, ⟨(mh_r_full x15), (mh_lb2T E_s10 (mh_ifT c12 (mh_lbT t14 (mh_lbT t16 rfl)))), hI_s10, hF_s10⟩⟩

def S_eX1_yards (kv : Nat) (kl : Nat) : List (Nat × Nat) := [(kl + 6, 9999), (kl + 7, 9999)]
def f_eX1_yards (s0 : mh_H) (kv : Nat) (kl : Nat) (p2 : Int32) : Int32 × mh_H := mh_lb2 (f_eX1_mist s0 kv kl p2) (fun x9 s10 => mh_lb (mh_pI s10 (kl + 6) (9 : Int32).toNatClampNeg x9) (fun s12 => mh_lb2 (f_eX1_worth s12 kl (121 : Int32)) (fun x14 s15 => (x14, s15))))
def P_eX1_yards (B D : Int) (s0 : mh_H) (kv : Nat) (kl : Nat) (p2 : Int32) : Int32 → mh_H → Prop := fun z s => mh_r z (0) (999) ∧ f_eX1_yards s0 kv kl p2 = (z, s) ∧ mh_I B D s ∧ mh_F (S_eX1_yards kv kl) s0 s
set_option maxRecDepth 100000 in
set_option maxHeartbeats 4000000 in
theorem w_eX1_yards (l : Launch) (G : mh_G) (d : Nat) {B D : Int} (hB : B ≤ 1920000000 ∧ D ≤ 1920000000) {s0 : mh_H} (hI0 : mh_I B D s0) (kv : Nat) (hkv : mh_isV kv) (kl : Nat) (hkl : mh_isL kl) (p2 : Int32) (r_p2 : mh_r p2 (0) (143)) : mh_Mi l G (d + 4) mM_X1_yards [.ref (G.2.2.2 kl), .ref (G.2.2.2 kv), .int p2] s0 (P_eX1_yards B D s0 kv kl p2) := by
  refine mh_enter (lv := [(0, .ref (G.2.2.2 kl)), (1, .ref (G.2.2.2 kv)), (2, .int p2)]) (by decide) rfl (Nat.le_of_ble_eq_true rfl) ?_
  have hF0 : mh_F (S_eX1_yards kv kl) s0 s0 := mh_F_rf
  refine mw_aload_n 1 rfl 0 dX1_yards_0 rfl rfl ?_
  refine mw_geta 4 rfl dX1_yards_1 gf_X1_35 (ly_L hkl) (kl + 6) (rf_L_5 hI0 hkl) ?_
  refine mw_bipush (v := 9) 6 rfl dX1_yards_4 (by decide) ?_
  refine mw_aload_n 7 rfl 0 dX1_yards_6 rfl rfl ?_
  refine mw_aload_n 8 rfl 1 dX1_yards_7 rfl rfl ?_
  refine mw_iload_n 9 rfl 2 dX1_yards_8 rfl rfl ?_
  refine mw_callVi [.ref (G.2.2.2 kv), .int p2] [.int (9), .ref (G.2.2.2 (kl + 6))] 12 rfl dX1_yards_9 ml_X1_94 mc_X1_mist mk_X1_mist (ly_L hkl) rfl (by decide) (w_eX1_mist l G (d + 0) ⟨by omega, by omega⟩ hI0 kv hkv kl hkl p2 r_p2) rfl rfl (Nat.le_of_ble_eq_true rfl) (mh_rok (by omega) (by decide)) (fun x9 s10 q11 => ?_)
  obtain ⟨r_x9, E_s10, hI_s10, hG_s10⟩ := q11
  have hF_s10 : mh_F (S_eX1_yards kv kl) s0 s10 := mh_F_tl hF0 hG_s10 (by rcases hkl with rfl | rfl <;> rcases hkv with rfl | rfl | rfl <;> decide +kernel)
  refine mw_iast 13 rfl dX1_yards_12 (ly_L6 hkl) rc_9 (by decide) (fun s12 t13 => ?_)
  have hI_s12 : mh_I B D s12 := by rw [t13]; exact wr_L6 hI_s10 hkl
  have hF_s12 : mh_F (S_eX1_yards kv kl) s0 s12 := by rw [t13]; exact mh_F_pI hF_s10 (mh_si 0 rfl)
  refine mw_aload_n 14 rfl 0 dX1_yards_13 rfl rfl ?_
  refine mw_bipush (v := 121) 16 rfl dX1_yards_14 (by decide) ?_
  refine mw_callVi [.int (121)] [] 19 rfl dX1_yards_16 ml_X1_91 mc_X1_worth mk_X1_worth (ly_L hkl) rfl (by decide) (w_eX1_worth l G (d + 1) ⟨by omega, by omega⟩ hI_s12 kl hkl (121)) rfl rfl (Nat.le_of_ble_eq_true rfl) (mh_rok (by omega) (by decide)) (fun x14 s15 q16 => ?_)
  obtain ⟨r_x14, E_s15, hI_s15, hG_s15⟩ := q16
  have hF_s15 : mh_F (S_eX1_yards kv kl) s0 s15 := mh_F_tl hF_s12 hG_s15 (by rcases hkl with rfl | rfl <;> rcases hkv with rfl | rfl | rfl <;> decide +kernel)
  exact mw_iret dX1_yards_19 rfl ⟨x14, rfl, ⟨r_x14, (mh_lb2T E_s10 (mh_lbT t13 (mh_lb2T E_s15 rfl))), hI_s15, hF_s15⟩⟩

def ls_eX2_all_5_1 (p1 : Int32) (p2 : Int32) (lo_5_1 : Int32 → Int64 → Int64) (x107 : Int32) (y108 : Int64) : Int64 := if x107.toInt < p1.toInt then mh_lb (p2 + (1 : Int32)) (fun x121 => mh_lb (Int32.toInt64 x121) (fun y123 => mh_lb (y108 * y123) (fun y125 => mh_lb (x107 + (1 : Int32)) (fun x127 => (lo_5_1 x127 y125))))) else y108
def l_eX2_all_5_1 (p1 : Int32) (p2 : Int32) : Nat → Int32 → Int64 → Int64
  | 0 => fun _ _ => 0
  | n + 1 => ls_eX2_all_5_1 p1 p2 (l_eX2_all_5_1 p1 p2 n)
theorem l_eX2_all_5_1_s (p1 : Int32) (p2 : Int32) (n : Nat) : l_eX2_all_5_1 p1 p2 (n + 1) = ls_eX2_all_5_1 p1 p2 (l_eX2_all_5_1 p1 p2 n) := rfl
def f_eX2_all (s0 : mh_H) (p1 : Int32) (p2 : Int32) : Int64 := (l_eX2_all_5_1 p1 p2 15 (0 : Int32) (1 : Int64))
def P_eX2_all (B D : Int) (s0 : mh_H) (p1 : Int32) (p2 : Int32) : Int64 → mh_H → Prop := fun z s => f_eX2_all s0 p1 p2 = z ∧ s0 = s
set_option maxRecDepth 100000 in
set_option maxHeartbeats 4000000 in
theorem w_eX2_all (l : Launch) (G : mh_G) (d : Nat) {B D : Int} (hB : B ≤ 2000000000 ∧ D ≤ 2000000000) {s0 : mh_H} (hI0 : mh_I B D s0) (p1 : Int32) (r_p1 : mh_r p1 (1) (12)) (p2 : Int32) (r_p2 : mh_r p2 (1) (9)) : mh_Ml l G (d + 0) mM_X2_all [.ref (G.2.2.2 35), .int p1, .int p2] s0 (P_eX2_all B D s0 p1 p2) := by
  refine mh_enter (lv := [(0, .ref (G.2.2.2 35)), (1, .int p1), (2, .int p2)]) (by decide) rfl (Nat.le_of_ble_eq_true rfl) ?_
  refine mw_lconst (v := 1) 1 rfl dX2_all_0 (by decide) ?_
  refine mw_lstore_n 2 rfl [(3, .long (1)), (0, .ref (G.2.2.2 35)), (1, .int p1), (2, .int p2)] dX2_all_1 rfl (by decide) rfl ?_
  refine mw_iconst (v := 0) 3 rfl dX2_all_2 (by decide) ?_
  refine mw_istore 5 rfl [(5, .int (0)), (3, .long (1)), (0, .ref (G.2.2.2 35)), (1, .int p1), (2, .int p2)] dX2_all_3  (by decide) rfl ?_
  have L5 : ∀ n1 : Nat, ∀ (x107 : Int32) (y108 : Int64), mh_r x107 (0) (14) → (f_eX2_all s0 p1 p2 = l_eX2_all_5_1 p1 p2 n1 x107 y108) → (14) - x107.toInt < (n1 : Int) → mh_W G (mh_XM l G (d + 0) (mh_Ql (P_eX2_all B D s0 p1 p2))) mM_X2_all 5 [(0, .ref (G.2.2.2 35)), (1, .int p1), (2, .int p2), (3, .long y108), (5, .int x107)] [] s0 := by
    intro n1
    induction n1 with
    | zero =>
      intro x107 y108 r_x107 hE1 hmn1
      exact absurd hmn1 (by have := r_x107.1; have := r_x107.2; omega)
    | succ n1 ihn1 =>
      intro x107 y108 r_x107 hE1 hmn1
      rw [l_eX2_all_5_1_s] at hE1
      refine mw_iload 7 rfl 4 dX2_all_5  rfl ?_
      refine mw_iload_n 8 rfl 1 dX2_all_7 rfl rfl ?_
      refine mw_icmp_ge 11 rfl 24 dX2_all_8 (by decide) (fun c120 => ?_) (fun c120 => ?_)
      · skip
        have r_x107 : mh_r x107 (1) (14) := mh_le2 c120 r_p1 r_x107 (1) (by decide)
        refine mw_lload_n 25 rfl 3 dX2_all_24 rfl rfl ?_
        exact mw_lret dX2_all_25 rfl ⟨y108, rfl, ⟨(Eq.trans hE1 (mh_ifF (Int.not_lt.mpr c120) rfl)), rfl⟩⟩
      · skip
        have r_x107 : mh_r x107 (0) (11) := mh_lt1 c120 r_x107 r_p1 (11) (by decide)
        refine mw_lload_n 12 rfl 3 dX2_all_11 rfl rfl ?_
        refine mw_iload_n 13 rfl 2 dX2_all_12 rfl rfl ?_
        refine mw_iconst (v := 1) 14 rfl dX2_all_13 (by decide) ?_
        refine mw_iadd 15 rfl (2) (10) dX2_all_14 r_p2 rc_1 (by decide) (fun x121 t122 r_x121 => ?_)
        refine mw_i2l 16 rfl dX2_all_15 (fun y123 t124 => ?_)
        refine mw_lmul 17 rfl dX2_all_16 (fun y125 t126 => ?_)
        refine mw_lstore_n 18 rfl [(3, .long y125), (0, .ref (G.2.2.2 35)), (1, .int p1), (2, .int p2), (5, .int x107)] dX2_all_17 rfl (by decide) rfl ?_
        refine mw_iincR (k := 4) (1) (12) 21 rfl (fun z => [(5, .int z), (3, .long y125), (0, .ref (G.2.2.2 35)), (1, .int p1), (2, .int p2)]) dX2_all_18 rfl (by decide) (fun _ => rfl) r_x107 (by decide) (by decide) (fun x127 t128 r_x127 => ?_)
        refine mw_goto 24 rfl 5 dX2_all_21 (by decide) ?_
        exact mw_lv [2, 3, 4, 1, 0] rfl (ihn1 x127 y125 (mh_r_wk r_x127 (by decide)) (Eq.trans hE1 (mh_ifT c120 (mh_lbT (mh_eadd t122) (mh_lbT t124 (mh_lbT t126 (mh_lbT (mh_einc t128 rfl) rfl)))))) (by have : x127.toInt = x107.toInt + (1) := t128; omega))
  exact mw_lv [2, 3, 4, 1, 0] rfl (L5 15 (0) (1) (mh_r_wk rc_0 (by decide)) (rfl) (by have := (rc_0).1; have := (rc_0).2; omega))

def S_eX2_push : List (Nat × Nat) := [(36, 9999)]
def j_eX2_push_42_3 (lo_3_1 : mh_H → Int32 → mh_H) (s1790 : mh_H) (x1657 : Int32) : mh_H := mh_lb (x1657 + (-1 : Int32)) (fun x1823 => (lo_3_1 s1790 x1823))
def ls_eX2_push_9_2 (lo_3_1 : mh_H → Int32 → mh_H) (p1 : Int32) (x1657 : Int32) (lo_9_2 : mh_H → Int32 → mh_H) (s1790 : mh_H) (x1789 : Int32) : mh_H := if p1.toInt < x1789.toInt then (j_eX2_push_42_3 lo_3_1 s1790 x1657) else if x1657.toInt < x1789.toInt then (j_eX2_push_42_3 lo_3_1 s1790 x1657) else mh_lb (s1790.2.1 36 x1657.toNatClampNeg) (fun y1827 => mh_lb (x1657 - x1789) (fun x1829 => mh_lb (s1790.2.1 36 x1829.toNatClampNeg) (fun y1831 => mh_lb (y1827 + y1831) (fun y1833 => mh_lb (mh_pL s1790 36 x1657.toNatClampNeg y1833) (fun s1835 => mh_lb (x1789 + (1 : Int32)) (fun x1837 => (lo_9_2 s1835 x1837)))))))
def l_eX2_push_9_2 (lo_3_1 : mh_H → Int32 → mh_H) (p1 : Int32) (x1657 : Int32) : Nat → mh_H → Int32 → mh_H
  | 0 => fun s1790 _ => s1790
  | n + 1 => ls_eX2_push_9_2 lo_3_1 p1 x1657 (l_eX2_push_9_2 lo_3_1 p1 x1657 n)
theorem l_eX2_push_9_2_s (lo_3_1 : mh_H → Int32 → mh_H) (p1 : Int32) (x1657 : Int32) (n : Nat) : l_eX2_push_9_2 lo_3_1 p1 x1657 (n + 1) = ls_eX2_push_9_2 lo_3_1 p1 x1657 (l_eX2_push_9_2 lo_3_1 p1 x1657 n) := rfl
def ls_eX2_push_3_1 (p1 : Int32) (lo_3_1 : mh_H → Int32 → mh_H) (s1658 : mh_H) (x1657 : Int32) : mh_H := if 0 < x1657.toInt then (l_eX2_push_9_2 lo_3_1 p1 x1657 14 s1658 (1 : Int32)) else s1658
def l_eX2_push_3_1 (p1 : Int32) : Nat → mh_H → Int32 → mh_H
  | 0 => fun s1658 _ => s1658
  | n + 1 => ls_eX2_push_3_1 p1 (l_eX2_push_3_1 p1 n)
theorem l_eX2_push_3_1_s (p1 : Int32) (n : Nat) : l_eX2_push_3_1 p1 (n + 1) = ls_eX2_push_3_1 p1 (l_eX2_push_3_1 p1 n) := rfl
def f_eX2_push (s0 : mh_H) (p1 : Int32) : mh_H := (l_eX2_push_3_1 p1 109 s0 (108 : Int32))
def P_eX2_push (B D : Int) (s0 : mh_H) (p1 : Int32) : mh_H → Prop := fun s => f_eX2_push s0 p1 = s ∧ mh_I B D s ∧ mh_F S_eX2_push s0 s
set_option maxRecDepth 100000 in
set_option maxHeartbeats 4000000 in
theorem w_eX2_push (l : Launch) (G : mh_G) (d : Nat) {B D : Int} (hB : B ≤ 2000000000 ∧ D ≤ 2000000000) {s0 : mh_H} (hI0 : mh_I B D s0) (p1 : Int32) (r_p1 : mh_r p1 (1) (9)) : mh_Mv l G (d + 0) mM_X2_push [.ref (G.2.2.2 35), .int p1] s0 (P_eX2_push B D s0 p1) := by
  refine mh_enter (lv := [(0, .ref (G.2.2.2 35)), (1, .int p1)]) (by decide) rfl (Nat.le_of_ble_eq_true rfl) ?_
  have hF0 : mh_F S_eX2_push s0 s0 := mh_F_rf
  refine mw_bipush (v := 108) 2 rfl dX2_push_0 (by decide) ?_
  refine mw_istore_n 3 rfl [(2, .int (108)), (0, .ref (G.2.2.2 35)), (1, .int p1)] dX2_push_2 rfl (by decide) rfl ?_
  have L3 : ∀ n1 : Nat, ∀ (x1657 : Int32) (s1658 : mh_H), mh_r x1657 (0) (108) → mh_I B D s1658 → mh_F S_eX2_push s0 s1658 → (f_eX2_push s0 p1 = l_eX2_push_3_1 p1 n1 s1658 x1657) → x1657.toInt - (0) < (n1 : Int) → mh_W G (mh_XM l G (d + 0) (mh_Qv (P_eX2_push B D s0 p1))) mM_X2_push 3 [(0, .ref (G.2.2.2 35)), (1, .int p1), (2, .int x1657)] [] s1658 := by
    intro n1
    induction n1 with
    | zero =>
      intro x1657 s1658 r_x1657 hI_s1658 hF_s1658 hE1 hmn1
      exact absurd hmn1 (by have := r_x1657.1; have := r_x1657.2; omega)
    | succ n1 ihn1 =>
      intro x1657 s1658 r_x1657 hI_s1658 hF_s1658 hE1 hmn1
      rw [l_eX2_push_3_1_s] at hE1
      refine mw_iload_n 4 rfl 2 dX2_push_3 rfl rfl ?_
      refine mw_if_le 7 rfl 48 dX2_push_4 (by decide) (fun c1742 => ?_) (fun c1742 => ?_)
      · skip
        have r_x1657 : mh_r x1657 (0) (0) := mh_le1 (show x1657.toInt ≤ (0 : Int32).toInt from c1742) r_x1657 rc_0 (0) (by decide)
        exact mw_vret dX2_push_48 rfl ⟨rfl, ⟨(Eq.trans hE1 (mh_ifF (Int.not_lt.mpr c1742) rfl)), hI_s1658, hF_s1658⟩⟩
      · skip
        have r_x1657 : mh_r x1657 (1) (108) := mh_lt2 (show (0 : Int32).toInt < x1657.toInt from c1742) rc_0 r_x1657 (1) (by decide)
        refine mw_iconst (v := 1) 8 rfl dX2_push_7 (by decide) ?_
        refine mw_istore_n 9 rfl [(3, .int (1)), (0, .ref (G.2.2.2 35)), (1, .int p1), (2, .int x1657)] dX2_push_8 rfl (by decide) rfl ?_
        have L9 : ∀ n2 : Nat, ∀ (x1789 : Int32) (s1790 : mh_H), mh_r x1789 (1) (14) → mh_I B D s1790 → mh_F S_eX2_push s0 s1790 → (f_eX2_push s0 p1 = l_eX2_push_9_2 (l_eX2_push_3_1 p1 n1) p1 x1657 n2 s1790 x1789) → (14) - x1789.toInt < (n2 : Int) → mh_W G (mh_XM l G (d + 0) (mh_Qv (P_eX2_push B D s0 p1))) mM_X2_push 9 [(0, .ref (G.2.2.2 35)), (1, .int p1), (2, .int x1657), (3, .int x1789)] [] s1790 := by
          intro n2
          induction n2 with
          | zero =>
            intro x1789 s1790 r_x1789 hI_s1790 hF_s1790 hE2 hmn2
            exact absurd hmn2 (by have := r_x1789.1; have := r_x1789.2; omega)
          | succ n2 ihn2 =>
            intro x1789 s1790 r_x1789 hI_s1790 hF_s1790 hE2 hmn2
            rw [l_eX2_push_9_2_s] at hE2
            refine mw_iload_n 10 rfl 3 dX2_push_9 rfl rfl ?_
            refine mw_iload_n 11 rfl 1 dX2_push_10 rfl rfl ?_
            have J42 : (f_eX2_push s0 p1 = j_eX2_push_42_3 (l_eX2_push_3_1 p1 n1) s1790 x1657) → mh_W G (mh_XM l G (d + 0) (mh_Qv (P_eX2_push B D s0 p1))) mM_X2_push 42 [(0, .ref (G.2.2.2 35)), (1, .int p1), (2, .int x1657), (3, .int x1789)] [] s1790 := by
              intro hE3
              refine mw_iincR (k := 2) (0) (107) 45 rfl (fun z => [(2, .int z), (0, .ref (G.2.2.2 35)), (1, .int p1), (3, .int x1789)]) dX2_push_42 rfl (by decide) (fun _ => rfl) r_x1657 (by decide) (by decide) (fun x1823 t1824 r_x1823 => ?_)
              refine mw_goto 48 rfl 3 dX2_push_45 (by decide) ?_
              exact mw_lv [1, 2, 0] rfl (ihn1 x1823 s1790 (mh_r_wk r_x1823 (by decide)) hI_s1790 hF_s1790 (Eq.trans hE3 (mh_lbT (mh_einc t1824 rfl) rfl)) (by have : x1823.toInt = x1657.toInt + (-1) := t1824; omega))
            refine mw_icmp_gt 14 rfl 42 dX2_push_11 (by decide) (fun c1825 => ?_) (fun c1825 => ?_)
            · skip
              have r_x1789 : mh_r x1789 (2) (14) := mh_lt2 c1825 r_p1 r_x1789 (2) (by decide)
              exact mw_lv [0, 1, 2, 3] rfl (J42 (Eq.trans hE2 (mh_ifT c1825 rfl)))
            · skip
              have r_x1789 : mh_r x1789 (1) (9) := mh_le1 c1825 r_x1789 r_p1 (9) (by decide)
              refine mw_iload_n 15 rfl 3 dX2_push_14 rfl rfl ?_
              refine mw_iload_n 16 rfl 2 dX2_push_15 rfl rfl ?_
              refine mw_icmp_gt 19 rfl 42 dX2_push_16 (by decide) (fun c1826 => ?_) (fun c1826 => ?_)
              · skip
                have r_x1657 : mh_r x1657 (1) (8) := mh_lt1 c1826 r_x1657 r_x1789 (8) (by decide)
                have r_x1789 : mh_r x1789 (2) (9) := mh_lt2 c1826 r_x1657 r_x1789 (2) (by decide)
                exact mw_lv [0, 1, 2, 3] rfl (J42 (Eq.trans hE2 (mh_ifF (Int.not_lt.mpr c1825) (mh_ifT c1826 rfl))))
              · skip
                refine mw_aload_n 20 rfl 0 dX2_push_19 rfl rfl ?_
                refine mw_geta 23 rfl dX2_push_20 gf_X2_9 rfl 36 (mh_rf hI_s1790 38 rfl) ?_
                refine mw_iload_n 24 rfl 2 dX2_push_23 rfl rfl ?_
                refine mw_dup2 25 rfl dX2_push_24 rfl rfl ?_
                refine mw_lald 26 rfl dX2_push_25 rfl r_x1657 (by decide) (fun y1827 t1828 => ?_)
                refine mw_aload_n 27 rfl 0 dX2_push_26 rfl rfl ?_
                refine mw_geta 30 rfl dX2_push_27 gf_X2_9 rfl 36 (mh_rf hI_s1790 38 rfl) ?_
                refine mw_iload_n 31 rfl 2 dX2_push_30 rfl rfl ?_
                refine mw_iload_n 32 rfl 3 dX2_push_31 rfl rfl ?_
                refine mw_isub 33 rfl (-8) (107) dX2_push_32 r_x1657 r_x1789 (by decide) (fun x1829 t1830 r_x1829 => ?_)
                have r_x1829 : mh_r x1829 (0) (107) := ⟨by have := t1830; have := c1826; omega, r_x1829.2⟩
                refine mw_lald 34 rfl dX2_push_33 rfl r_x1829 (by decide) (fun y1831 t1832 => ?_)
                refine mw_ladd 35 rfl dX2_push_34 (fun y1833 t1834 => ?_)
                refine mw_last 36 rfl dX2_push_35 rfl r_x1657 (by decide) (fun s1835 t1836 => ?_)
                have hI_s1835 : mh_I B D s1835 := by rw [t1836]; exact mh_I_pL hI_s1790
                have hF_s1835 : mh_F S_eX2_push s0 s1835 := by rw [t1836]; exact mh_F_pL hF_s1790 (mh_si 0 rfl)
                refine mw_iincR (k := 3) (2) (10) 39 rfl (fun z => [(3, .int z), (0, .ref (G.2.2.2 35)), (1, .int p1), (2, .int x1657)]) dX2_push_36 rfl (by decide) (fun _ => rfl) r_x1789 (by decide) (by decide) (fun x1837 t1838 r_x1837 => ?_)
                refine mw_goto 42 rfl 9 dX2_push_39 (by decide) ?_
                exact mw_lv [1, 2, 3, 0] rfl (ihn2 x1837 s1835 (mh_r_wk r_x1837 (by decide)) hI_s1835 hF_s1835 (Eq.trans hE2 (mh_ifF (Int.not_lt.mpr c1825) (mh_ifF (Int.not_lt.mpr c1826) (mh_lbT t1828 (mh_lbT (mh_esub t1830) (mh_lbT t1832 (mh_lbT t1834 (mh_lbT t1836 (mh_lbT (mh_einc t1838 rfl) rfl))))))))) (by have : x1837.toInt = x1789.toInt + (1) := t1838; omega))
        exact mw_lv [1, 2, 3, 0] rfl (L9 14 (1) s1658 (mh_r_wk rc_1 (by decide)) hI_s1658 hF_s1658 (Eq.trans hE1 (mh_ifT c1742 rfl)) (by have := (rc_1).1; have := (rc_1).2; omega))
  exact mw_lv [1, 2, 0] rfl (L3 109 (108) s0 (mh_r_wk rc_108 (by decide)) hI0 hF0 (rfl) (by have := (rc_108).1; have := (rc_108).2; omega))

def S_eX2_breaking : List (Nat × Nat) := [(36, 9999)]
def ls_eX2_breaking_41_2 (s113 : mh_H) (lo_41_2 : Int32 → Int64 → Int64 × mh_H) (x130 : Int32) (y131 : Int64) : Int64 × mh_H := if x130.toInt < (109 : Int32).toInt then mh_lb (s113.2.1 36 x130.toNatClampNeg) (fun y142 => mh_lb (y131 + y142) (fun y144 => mh_lb (x130 + (1 : Int32)) (fun x146 => (lo_41_2 x146 y144)))) else (y131, s113)
def l_eX2_breaking_41_2 (s113 : mh_H) : Nat → Int32 → Int64 → Int64 × mh_H
  | 0 => fun _ _ => (0, s113)
  | n + 1 => ls_eX2_breaking_41_2 s113 (l_eX2_breaking_41_2 s113 n)
theorem l_eX2_breaking_41_2_s (s113 : mh_H) (n : Nat) : l_eX2_breaking_41_2 s113 (n + 1) = ls_eX2_breaking_41_2 s113 (l_eX2_breaking_41_2 s113 n) := rfl
def ls_eX2_breaking_18_1 (p1 : Int32) (p2 : Int32) (p3 : Int32) (lo_18_1 : mh_H → Int32 → Int64 × mh_H) (s113 : mh_H) (x112 : Int32) : Int64 × mh_H := if x112.toInt < p2.toInt then mh_lb (f_eX2_push s113 p3) (fun s149 => mh_lb (x112 + (1 : Int32)) (fun x151 => (lo_18_1 s149 x151))) else (l_eX2_breaking_41_2 s113 200 p1 (0 : Int64))
def l_eX2_breaking_18_1 (p1 : Int32) (p2 : Int32) (p3 : Int32) : Nat → mh_H → Int32 → Int64 × mh_H
  | 0 => fun s113 _ => (0, s113)
  | n + 1 => ls_eX2_breaking_18_1 p1 p2 p3 (l_eX2_breaking_18_1 p1 p2 p3 n)
theorem l_eX2_breaking_18_1_s (p1 : Int32) (p2 : Int32) (p3 : Int32) (n : Nat) : l_eX2_breaking_18_1 p1 p2 p3 (n + 1) = ls_eX2_breaking_18_1 p1 p2 p3 (l_eX2_breaking_18_1 p1 p2 p3 n) := rfl
def f_eX2_breaking (s0 : mh_H) (p1 : Int32) (p2 : Int32) (p3 : Int32) : Int64 × mh_H := mh_lb (f_eJ7_fill_wa s0 (0 : Int64)) (fun s78 => mh_lb (mh_pL s78 36 (0 : Int32).toNatClampNeg (1 : Int64)) (fun s80 => (l_eX2_breaking_18_1 p1 p2 p3 15 s80 (0 : Int32))))
def P_eX2_breaking (B D : Int) (s0 : mh_H) (p1 : Int32) (p2 : Int32) (p3 : Int32) : Int64 → mh_H → Prop := fun z s => f_eX2_breaking s0 p1 p2 p3 = (z, s) ∧ mh_I B D s ∧ mh_F S_eX2_breaking s0 s
set_option maxRecDepth 100000 in
set_option maxHeartbeats 4000000 in
theorem w_eX2_breaking (l : Launch) (G : mh_G) (d : Nat) {B D : Int} (hB : B ≤ 1980000000 ∧ D ≤ 1980000000) {s0 : mh_H} (hI0 : mh_I B D s0) (p1 : Int32) (r_p1 : mh_r p1 (1) (200)) (p2 : Int32) (r_p2 : mh_r p2 (1) (12)) (p3 : Int32) (r_p3 : mh_r p3 (1) (9)) : mh_Ml l G (d + 1) mM_X2_breaking [.ref (G.2.2.2 35), .int p1, .int p2, .int p3] s0 (P_eX2_breaking B D s0 p1 p2 p3) := by
  refine mh_enter (lv := [(0, .ref (G.2.2.2 35)), (1, .int p1), (2, .int p2), (3, .int p3)]) (by decide) rfl (Nat.le_of_ble_eq_true rfl) ?_
  have hF0 : mh_F S_eX2_breaking s0 s0 := mh_F_rf
  refine mw_aload_n 1 rfl 0 dX2_breaking_0 rfl rfl ?_
  refine mw_geta 4 rfl dX2_breaking_1 gf_X2_9 rfl 36 (mh_rf hI0 38 rfl) ?_
  refine mw_lconst (v := 0) 5 rfl dX2_breaking_4 (by decide) ?_
  refine mw_callSv [.ref (G.2.2.2 36), .long (0)] [] 8 rfl dX2_breaking_5 ml_X2_13 mc_J7_fill_d0a16 mk_J7_fill_d0a16 (w_eJ7_fill_wa l G (d + 0) ⟨by omega, by omega⟩ hI0 (0)) rfl rfl (Nat.le_of_ble_eq_true rfl) (mh_rok (by omega) (by decide)) (fun s78 q79 => ?_)
  obtain ⟨E_s78, hI_s78, hG_s78⟩ := q79
  have hF_s78 : mh_F S_eX2_breaking s0 s78 := mh_F_tl hF0 hG_s78 (by decide +kernel)
  refine mw_aload_n 9 rfl 0 dX2_breaking_8 rfl rfl ?_
  refine mw_geta 12 rfl dX2_breaking_9 gf_X2_9 rfl 36 (mh_rf hI_s78 38 rfl) ?_
  refine mw_iconst (v := 0) 13 rfl dX2_breaking_12 (by decide) ?_
  refine mw_lconst (v := 1) 14 rfl dX2_breaking_13 (by decide) ?_
  refine mw_last 15 rfl dX2_breaking_14 rfl rc_0 (by decide) (fun s80 t81 => ?_)
  have hI_s80 : mh_I B D s80 := by rw [t81]; exact mh_I_pL hI_s78
  have hF_s80 : mh_F S_eX2_breaking s0 s80 := by rw [t81]; exact mh_F_pL hF_s78 (mh_si 0 rfl)
  refine mw_iconst (v := 0) 16 rfl dX2_breaking_15 (by decide) ?_
  refine mw_istore 18 rfl [(4, .int (0)), (0, .ref (G.2.2.2 35)), (1, .int p1), (2, .int p2), (3, .int p3)] dX2_breaking_16  (by decide) rfl ?_
  have L18 : ∀ n1 : Nat, ∀ (x112 : Int32) (s113 : mh_H), mh_r x112 (0) (14) → mh_I B D s113 → mh_F S_eX2_breaking s0 s113 → (f_eX2_breaking s0 p1 p2 p3 = l_eX2_breaking_18_1 p1 p2 p3 n1 s113 x112) → (14) - x112.toInt < (n1 : Int) → mh_W G (mh_XM l G (d + 1) (mh_Ql (P_eX2_breaking B D s0 p1 p2 p3))) mM_X2_breaking 18 [(0, .ref (G.2.2.2 35)), (1, .int p1), (2, .int p2), (3, .int p3), (4, .int x112)] [] s113 := by
    intro n1
    induction n1 with
    | zero =>
      intro x112 s113 r_x112 hI_s113 hF_s113 hE1 hmn1
      exact absurd hmn1 (by have := r_x112.1; have := r_x112.2; omega)
    | succ n1 ihn1 =>
      intro x112 s113 r_x112 hI_s113 hF_s113 hE1 hmn1
      rw [l_eX2_breaking_18_1_s] at hE1
      refine mw_iload 20 rfl 4 dX2_breaking_18  rfl ?_
      refine mw_iload_n 21 rfl 2 dX2_breaking_20 rfl rfl ?_
      refine mw_icmp_ge 24 rfl 35 dX2_breaking_21 (by decide) (fun c122 => ?_) (fun c122 => ?_)
      · skip
        have r_x112 : mh_r x112 (1) (14) := mh_le2 c122 r_p2 r_x112 (1) (by decide)
        refine mw_lconst (v := 0) 36 rfl dX2_breaking_35 (by decide) ?_
        refine mw_lstore 38 rfl [(4, .long (0)), (0, .ref (G.2.2.2 35)), (1, .int p1), (2, .int p2), (3, .int p3)] dX2_breaking_36  (by decide) rfl ?_
        refine mw_iload_n 39 rfl 2 dX2_breaking_38 rfl rfl ?_
        refine mw_istore 41 rfl [(6, .int p1), (4, .long (0)), (0, .ref (G.2.2.2 35)), (1, .int p1), (2, .int p2), (3, .int p3)] dX2_breaking_39  (by decide) rfl ?_
        have L41 : ∀ n2 : Nat, ∀ (x130 : Int32) (y131 : Int64), mh_r x130 (1) (200) → (f_eX2_breaking s0 p1 p2 p3 = l_eX2_breaking_41_2 s113 n2 x130 y131) → (200) - x130.toInt < (n2 : Int) → mh_W G (mh_XM l G (d + 1) (mh_Ql (P_eX2_breaking B D s0 p1 p2 p3))) mM_X2_breaking 41 [(0, .ref (G.2.2.2 35)), (1, .int p1), (2, .int p2), (3, .int p3), (4, .long y131), (6, .int x130)] [] s113 := by
          intro n2
          induction n2 with
          | zero =>
            intro x130 y131 r_x130 hE2 hmn2
            exact absurd hmn2 (by have := r_x130.1; have := r_x130.2; omega)
          | succ n2 ihn2 =>
            intro x130 y131 r_x130 hE2 hmn2
            rw [l_eX2_breaking_41_2_s] at hE2
            refine mw_iload 43 rfl 5 dX2_breaking_41  rfl ?_
            refine mw_bipush (v := 109) 45 rfl dX2_breaking_43 (by decide) ?_
            refine mw_icmp_ge 48 rfl 66 dX2_breaking_45 (by decide) (fun c141 => ?_) (fun c141 => ?_)
            · skip
              have r_x130 : mh_r x130 (109) (200) := mh_le2 c141 rc_109 r_x130 (109) (by decide)
              refine mw_lload 68 rfl 4 dX2_breaking_66  rfl ?_
              exact mw_lret dX2_breaking_68 rfl ⟨y131, rfl, ⟨(Eq.trans hE2 (mh_ifF (Int.not_lt.mpr c141) rfl)), hI_s113, hF_s113⟩⟩
            · skip
              have r_x130 : mh_r x130 (1) (108) := mh_lt1 c141 r_x130 rc_109 (108) (by decide)
              refine mw_lload 50 rfl 4 dX2_breaking_48  rfl ?_
              refine mw_aload_n 51 rfl 0 dX2_breaking_50 rfl rfl ?_
              refine mw_geta 54 rfl dX2_breaking_51 gf_X2_9 rfl 36 (mh_rf hI_s113 38 rfl) ?_
              refine mw_iload 56 rfl 5 dX2_breaking_54  rfl ?_
              refine mw_lald 57 rfl dX2_breaking_56 rfl r_x130 (by decide) (fun y142 t143 => ?_)
              refine mw_ladd 58 rfl dX2_breaking_57 (fun y144 t145 => ?_)
              refine mw_lstore 60 rfl [(4, .long y144), (0, .ref (G.2.2.2 35)), (1, .int p1), (2, .int p2), (3, .int p3), (6, .int x130)] dX2_breaking_58  (by decide) rfl ?_
              refine mw_iincR (k := 5) (2) (109) 63 rfl (fun z => [(6, .int z), (4, .long y144), (0, .ref (G.2.2.2 35)), (1, .int p1), (2, .int p2), (3, .int p3)]) dX2_breaking_60 rfl (by decide) (fun _ => rfl) r_x130 (by decide) (by decide) (fun x146 t147 r_x146 => ?_)
              refine mw_goto 66 rfl 41 dX2_breaking_63 (by decide) ?_
              exact mw_lv [2, 3, 4, 5, 1, 0] rfl (ihn2 x146 y144 (mh_r_wk r_x146 (by decide)) (Eq.trans hE2 (mh_ifT c141 (mh_lbT t143 (mh_lbT t145 (mh_lbT (mh_einc t147 rfl) rfl))))) (by have : x146.toInt = x130.toInt + (1) := t147; omega))
        exact mw_lv [2, 3, 4, 5, 1, 0] rfl (L41 200 p1 (0) r_p1 (Eq.trans hE1 (mh_ifF (Int.not_lt.mpr c122) rfl)) (by have := (r_p1).1; have := (r_p1).2; omega))
      · skip
        have r_x112 : mh_r x112 (0) (11) := mh_lt1 c122 r_x112 r_p2 (11) (by decide)
        refine mw_aload_n 25 rfl 0 dX2_breaking_24 rfl rfl ?_
        refine mw_iload_n 26 rfl 3 dX2_breaking_25 rfl rfl ?_
        refine mw_callVv [.int p3] [] 29 rfl dX2_breaking_26 ml_X2_19 mc_X2_push mk_X2_push rfl rfl (by decide) (w_eX2_push l G (d + 0) ⟨by omega, by omega⟩ hI_s113 p3 r_p3) rfl rfl (Nat.le_of_ble_eq_true rfl) (mh_rok (by omega) (by decide)) (fun s149 q150 => ?_)
        obtain ⟨E_s149, hI_s149, hG_s149⟩ := q150
        have hF_s149 : mh_F S_eX2_breaking s0 s149 := mh_F_tl hF_s113 hG_s149 (by decide +kernel)
        refine mw_iincR (k := 4) (1) (12) 32 rfl (fun z => [(4, .int z), (0, .ref (G.2.2.2 35)), (1, .int p1), (2, .int p2), (3, .int p3)]) dX2_breaking_29 rfl (by decide) (fun _ => rfl) r_x112 (by decide) (by decide) (fun x151 t152 r_x151 => ?_)
        refine mw_goto 35 rfl 18 dX2_breaking_32 (by decide) ?_
        exact mw_lv [1, 2, 3, 4, 0] rfl (ihn1 x151 s149 (mh_r_wk r_x151 (by decide)) hI_s149 hF_s149 (Eq.trans hE1 (mh_ifT c122 (mh_lbS E_s149 (mh_lbT (mh_einc t152 rfl) rfl)))) (by have : x151.toInt = x112.toInt + (1) := t152; omega))
  exact mw_lv [1, 2, 3, 4, 0] rfl (L18 15 (0) s80 (mh_r_wk rc_0 (by decide)) hI_s80 hF_s80 (mh_lbS E_s78 (mh_lbT t81 rfl)) (by have := (rc_0).1; have := (rc_0).2; omega))

def j_eX3_cost_14_1 (p2 : Int32) (p3 : Int32) (p4 : Int32) (x10 : Int32) : Int32 := if x10.toInt = p2.toInt then (0 : Int32) else if x10.toInt = 0 then p4 else p3
def f_eX3_cost (s0 : mh_H) (p1 : Int32) (p2 : Int32) (p3 : Int32) (p4 : Int32) : Int32 := mh_lb (s0.1 33 p1.toNatClampNeg) (fun x7 => if 0 < x7.toInt then (j_eX3_cost_14_1 p2 p3 p4 (1 : Int32)) else (j_eX3_cost_14_1 p2 p3 p4 (0 : Int32)))
def P_eX3_cost (B D : Int) (s0 : mh_H) (p1 : Int32) (p2 : Int32) (p3 : Int32) (p4 : Int32) : Int32 → mh_H → Prop := fun z s => mh_r z (-2147483648) (2147483647) ∧ f_eX3_cost s0 p1 p2 p3 p4 = z ∧ s0 = s
set_option maxRecDepth 100000 in
set_option maxHeartbeats 4000000 in
theorem w_eX3_cost (l : Launch) (G : mh_G) (d : Nat) {B D : Int} (hB : B ≤ 2000000000 ∧ D ≤ 2000000000) {s0 : mh_H} (hI0 : mh_I B D s0) (p1 : Int32) (r_p1 : mh_r p1 (0) (59)) (p2 : Int32) (r_p2 : mh_r p2 (0) (1)) (p3 : Int32) (p4 : Int32) : mh_Mi l G (d + 0) mM_X3_cost [.ref (G.2.2.2 29), .int p1, .int p2, .int p3, .int p4] s0 (P_eX3_cost B D s0 p1 p2 p3 p4) := by
  refine mh_enter (lv := [(0, .ref (G.2.2.2 29)), (1, .int p1), (2, .int p2), (3, .int p3), (4, .int p4)]) (by decide) rfl (Nat.le_of_ble_eq_true rfl) ?_
  refine mw_aload_n 1 rfl 0 dX3_cost_0 rfl rfl ?_
  refine mw_geta 4 rfl dX3_cost_1 gf_X3_21 rfl 33 (mh_rf hI0 36 rfl) ?_
  refine mw_iload_n 5 rfl 1 dX3_cost_4 rfl rfl ?_
  refine mw_iald 6 rfl dX3_cost_5 rfl r_p1 (by decide) (fun x7 t8 => ?_)
  have J14 : ∀ (x10 : Int32), mh_r x10 (0) (1) → (f_eX3_cost s0 p1 p2 p3 p4 = j_eX3_cost_14_1 p2 p3 p4 x10) → mh_W G (mh_XM l G (d + 0) (mh_Qi (P_eX3_cost B D s0 p1 p2 p3 p4))) mM_X3_cost 14 [(0, .ref (G.2.2.2 29)), (1, .int p1), (2, .int p2), (3, .int p3), (4, .int p4)] [.int x10] s0 := by
    intro x10 r_x10 hE1
    refine mw_istore 16 rfl [(5, .int x10), (0, .ref (G.2.2.2 29)), (1, .int p1), (2, .int p2), (3, .int p3), (4, .int p4)] dX3_cost_14  (by decide) rfl ?_
    refine mw_iload 18 rfl 0 dX3_cost_16  rfl ?_
    refine mw_iload_n 19 rfl 3 dX3_cost_18 rfl rfl ?_
    refine mw_icmp_ne 22 rfl 24 dX3_cost_19 (by decide) (fun c13 => ?_) (fun c13 => ?_)
    · skip
      refine mw_iload 26 rfl 0 dX3_cost_24  rfl ?_
      refine mw_if_eq 29 rfl 33 dX3_cost_26 (by decide) (fun c14 => ?_) (fun c14 => ?_)
      · skip
        have r_x10 : mh_r x10 (0) (0) := mh_eq1 (show x10.toInt = (0 : Int32).toInt from c14) r_x10 rc_0 (0) (0) (by decide)
        refine mw_iload 35 rfl 5 dX3_cost_33  rfl ?_
        exact mw_iret dX3_cost_35 rfl ⟨p4, rfl, ⟨(mh_r_full p4), (Eq.trans hE1 (mh_ifF c13 (mh_ifT c14 rfl))), rfl⟩⟩
      · skip
        have r_x10 : mh_r x10 (1) (1) := mh_ne1 (show x10.toInt ≠ (0 : Int32).toInt from c14) r_x10 rc_0 (1) (1) (by decide)
        refine mw_iload_n 30 rfl 4 dX3_cost_29 rfl rfl ?_
        refine mw_goto 33 rfl 35 dX3_cost_30 (by decide) ?_
        exact mw_iret dX3_cost_35 rfl ⟨p3, rfl, ⟨(mh_r_full p3), (Eq.trans hE1 (mh_ifF c13 (mh_ifF c14 rfl))), rfl⟩⟩
    · skip
      refine mw_iconst (v := 0) 23 rfl dX3_cost_22 (by decide) ?_
      exact mw_iret dX3_cost_23 rfl ⟨(0), rfl, ⟨(mh_r_wk rc_0 (by decide)), (Eq.trans hE1 (mh_ifT c13 rfl)), rfl⟩⟩
  refine mw_if_le 9 rfl 13 dX3_cost_6 (by decide) (fun c15 => ?_) (fun c15 => ?_)
  · skip
    have r_x7 : mh_r x7 (-2147483648) (0) := mh_le1 (show x7.toInt ≤ (0 : Int32).toInt from c15) (mh_r_full x7) rc_0 (0) (by decide)
    refine mw_iconst (v := 0) 14 rfl dX3_cost_13 (by decide) ?_
    exact mw_lv [0, 1, 2, 3, 4] rfl (J14 (0) (mh_r_wk rc_0 (by decide)) (mh_lbT t8 (mh_ifF (Int.not_lt.mpr c15) rfl)))
  · skip
    have r_x7 : mh_r x7 (1) (2147483647) := mh_lt2 (show (0 : Int32).toInt < x7.toInt from c15) rc_0 (mh_r_full x7) (1) (by decide)
    refine mw_iconst (v := 1) 10 rfl dX3_cost_9 (by decide) ?_
    refine mw_goto 13 rfl 14 dX3_cost_10 (by decide) ?_
    exact mw_lv [0, 1, 2, 3, 4] rfl (J14 (1) (mh_r_wk rc_1 (by decide)) (mh_lbT t8 (mh_ifT c15 rfl)))

def f_eX3_eveningNumber (s0 : mh_H) (p1 : Int32) (p2 : Int32) : Int32 := if p2.toInt = 0 then mh_lb (s0.1 30 p1.toNatClampNeg) (fun x15 => x15) else if p2.toInt = (1 : Int32).toInt then mh_lb (s0.1 31 p1.toNatClampNeg) (fun x13 => x13) else mh_lb (s0.1 32 p1.toNatClampNeg) (fun x11 => x11)
def P_eX3_eveningNumber (B D : Int) (s0 : mh_H) (p1 : Int32) (p2 : Int32) : Int32 → mh_H → Prop := fun z s => mh_r z (-2147483648) (2147483647) ∧ f_eX3_eveningNumber s0 p1 p2 = z ∧ s0 = s
set_option maxRecDepth 100000 in
set_option maxHeartbeats 4000000 in
theorem w_eX3_eveningNumber (l : Launch) (G : mh_G) (d : Nat) {B D : Int} (hB : B ≤ 2000000000 ∧ D ≤ 2000000000) {s0 : mh_H} (hI0 : mh_I B D s0) (p1 : Int32) (r_p1 : mh_r p1 (0) (59)) (p2 : Int32) : mh_Mi l G (d + 0) mM_X3_eveningNumber [.ref (G.2.2.2 29), .int p1, .int p2] s0 (P_eX3_eveningNumber B D s0 p1 p2) := by
  refine mh_enter (lv := [(0, .ref (G.2.2.2 29)), (1, .int p1), (2, .int p2)]) (by decide) rfl (Nat.le_of_ble_eq_true rfl) ?_
  refine mw_iload_n 1 rfl 2 dX3_eveningNumber_0 rfl rfl ?_
  refine mw_if_ne 4 rfl 11 dX3_eveningNumber_1 (by decide) (fun c9 => ?_) (fun c9 => ?_)
  · skip
    refine mw_iload_n 12 rfl 2 dX3_eveningNumber_11 rfl rfl ?_
    refine mw_iconst (v := 1) 13 rfl dX3_eveningNumber_12 (by decide) ?_
    refine mw_icmp_ne 16 rfl 25 dX3_eveningNumber_13 (by decide) (fun c10 => ?_) (fun c10 => ?_)
    · skip
      refine mw_aload_n 26 rfl 0 dX3_eveningNumber_25 rfl rfl ?_
      refine mw_geta 29 rfl dX3_eveningNumber_26 gf_X3_18 rfl 32 (mh_rf hI0 35 rfl) ?_
      refine mw_iload_n 30 rfl 1 dX3_eveningNumber_29 rfl rfl ?_
      refine mw_iald 31 rfl dX3_eveningNumber_30 rfl r_p1 (by decide) (fun x11 t12 => ?_)
      exact mw_iret dX3_eveningNumber_31 rfl ⟨x11, rfl, ⟨(mh_r_full x11), (mh_ifF c9 (mh_ifF c10 (mh_lbT t12 rfl))), rfl⟩⟩
    · skip
      have r_p2 : mh_r p2 (1) (1) := mh_eq1 c10 (mh_r_full p2) rc_1 (1) (1) (by decide)
      refine mw_aload_n 17 rfl 0 dX3_eveningNumber_16 rfl rfl ?_
      refine mw_geta 20 rfl dX3_eveningNumber_17 gf_X3_15 rfl 31 (mh_rf hI0 34 rfl) ?_
      refine mw_iload_n 21 rfl 1 dX3_eveningNumber_20 rfl rfl ?_
      refine mw_iald 22 rfl dX3_eveningNumber_21 rfl r_p1 (by decide) (fun x13 t14 => ?_)
      refine mw_goto 25 rfl 31 dX3_eveningNumber_22 (by decide) ?_
      exact mw_iret dX3_eveningNumber_31 rfl ⟨x13, rfl, ⟨(mh_r_full x13), (mh_ifF c9 (mh_ifT c10 (mh_lbT t14 rfl))), rfl⟩⟩
  · skip
    have r_p2 : mh_r p2 (0) (0) := mh_eq1 (show p2.toInt = (0 : Int32).toInt from c9) (mh_r_full p2) rc_0 (0) (0) (by decide)
    refine mw_aload_n 5 rfl 0 dX3_eveningNumber_4 rfl rfl ?_
    refine mw_geta 8 rfl dX3_eveningNumber_5 gf_X3_9 rfl 30 (mh_rf hI0 33 rfl) ?_
    refine mw_iload_n 9 rfl 1 dX3_eveningNumber_8 rfl rfl ?_
    refine mw_iald 10 rfl dX3_eveningNumber_9 rfl r_p1 (by decide) (fun x15 t16 => ?_)
    exact mw_iret dX3_eveningNumber_10 rfl ⟨x15, rfl, ⟨(mh_r_full x15), (mh_ifT c9 (mh_lbT t16 rfl)), rfl⟩⟩

def j_eX3_lineCost_38_2 (lo_6_1 : Int32 → Int32 → Int32) (s0 : mh_H) (p3 : Int32) (p4 : Int32) (x285 : Int32) (x286 : Int32) (x313 : Int32) : Int32 := mh_lb (f_eX3_cost s0 x285 x313 p3 p4) (fun x321 => mh_lb (x286 + x321) (fun x324 => mh_lb (x285 + (1 : Int32)) (fun x326 => (lo_6_1 x326 x324))))
def ls_eX3_lineCost_6_1 (s0 : mh_H) (p1 : Int32) (p2 : Int32) (p3 : Int32) (p4 : Int32) (lo_6_1 : Int32 → Int32 → Int32) (x285 : Int32) (x286 : Int32) : Int32 := mh_lb (s0.1 29 5) (fun x305 => if x285.toInt < x305.toInt then mh_lb (f_eX3_eveningNumber s0 x285 p1) (fun x309 => if x309.toInt < p2.toInt then (j_eX3_lineCost_38_2 lo_6_1 s0 p3 p4 x285 x286 (0 : Int32)) else (j_eX3_lineCost_38_2 lo_6_1 s0 p3 p4 x285 x286 (1 : Int32))) else x286)
def l_eX3_lineCost_6_1 (s0 : mh_H) (p1 : Int32) (p2 : Int32) (p3 : Int32) (p4 : Int32) : Nat → Int32 → Int32 → Int32
  | 0 => fun _ _ => 0
  | n + 1 => ls_eX3_lineCost_6_1 s0 p1 p2 p3 p4 (l_eX3_lineCost_6_1 s0 p1 p2 p3 p4 n)
theorem l_eX3_lineCost_6_1_s (s0 : mh_H) (p1 : Int32) (p2 : Int32) (p3 : Int32) (p4 : Int32) (n : Nat) : l_eX3_lineCost_6_1 s0 p1 p2 p3 p4 (n + 1) = ls_eX3_lineCost_6_1 s0 p1 p2 p3 p4 (l_eX3_lineCost_6_1 s0 p1 p2 p3 p4 n) := rfl
def f_eX3_lineCost (s0 : mh_H) (p1 : Int32) (p2 : Int32) (p3 : Int32) (p4 : Int32) : Int32 := (l_eX3_lineCost_6_1 s0 p1 p2 p3 p4 61 (0 : Int32) (0 : Int32))
def P_eX3_lineCost (B D : Int) (s0 : mh_H) (p1 : Int32) (p2 : Int32) (p3 : Int32) (p4 : Int32) : Int32 → mh_H → Prop := fun z s => mh_r z (-2147483648) (2147483647) ∧ f_eX3_lineCost s0 p1 p2 p3 p4 = z ∧ s0 = s
set_option maxRecDepth 100000 in
set_option maxHeartbeats 4000000 in
theorem w_eX3_lineCost (l : Launch) (G : mh_G) (d : Nat) {B D : Int} (hB : B ≤ 1980000000 ∧ D ≤ 1980000000) {s0 : mh_H} (hI0 : mh_I B D s0) (p1 : Int32) (p2 : Int32) (p3 : Int32) (p4 : Int32) : mh_Mi l G (d + 1) mM_X3_lineCost [.ref (G.2.2.2 29), .int p1, .int p2, .int p3, .int p4] s0 (P_eX3_lineCost B D s0 p1 p2 p3 p4) := by
  refine mh_enter (lv := [(0, .ref (G.2.2.2 29)), (1, .int p1), (2, .int p2), (3, .int p3), (4, .int p4)]) (by decide) rfl (Nat.le_of_ble_eq_true rfl) ?_
  refine mw_iconst (v := 0) 1 rfl dX3_lineCost_0 (by decide) ?_
  refine mw_istore 3 rfl [(5, .int (0)), (0, .ref (G.2.2.2 29)), (1, .int p1), (2, .int p2), (3, .int p3), (4, .int p4)] dX3_lineCost_1  (by decide) rfl ?_
  refine mw_iconst (v := 0) 4 rfl dX3_lineCost_3 (by decide) ?_
  refine mw_istore 6 rfl [(6, .int (0)), (5, .int (0)), (0, .ref (G.2.2.2 29)), (1, .int p1), (2, .int p2), (3, .int p3), (4, .int p4)] dX3_lineCost_4  (by decide) rfl ?_
  have L6 : ∀ n1 : Nat, ∀ (x285 : Int32) (x286 : Int32), mh_r x285 (0) (60) → (f_eX3_lineCost s0 p1 p2 p3 p4 = l_eX3_lineCost_6_1 s0 p1 p2 p3 p4 n1 x285 x286) → (60) - x285.toInt < (n1 : Int) → mh_W G (mh_XM l G (d + 1) (mh_Qi (P_eX3_lineCost B D s0 p1 p2 p3 p4))) mM_X3_lineCost 6 [(0, .ref (G.2.2.2 29)), (1, .int p1), (2, .int p2), (3, .int p3), (4, .int p4), (5, .int x286), (6, .int x285)] [] s0 := by
    intro n1
    induction n1 with
    | zero =>
      intro x285 x286 r_x285 hE1 hmn1
      exact absurd hmn1 (by have := r_x285.1; have := r_x285.2; omega)
    | succ n1 ihn1 =>
      intro x285 x286 r_x285 hE1 hmn1
      rw [l_eX3_lineCost_6_1_s] at hE1
      refine mw_iload 8 rfl 6 dX3_lineCost_6  rfl ?_
      refine mw_aload_n 9 rfl 0 dX3_lineCost_8 rfl rfl ?_
      refine mw_geti 12 rfl dX3_lineCost_9 gf_X3_27 rfl (fun x305 t306 => ?_)
      have r_x305 : mh_r x305 (0) (60) := by rw [t306]; exact rd_29_5 hI0
      refine mw_icmp_ge 15 rfl 62 dX3_lineCost_12 (by decide) (fun c307 => ?_) (fun c307 => ?_)
      · skip
        refine mw_iload 64 rfl 5 dX3_lineCost_62  rfl ?_
        exact mw_iret dX3_lineCost_64 rfl ⟨x286, rfl, ⟨(mh_r_full x286), (Eq.trans hE1 (mh_lbT t306 (mh_ifF (Int.not_lt.mpr c307) rfl))), rfl⟩⟩
      · skip
        have r_x285 : mh_r x285 (0) (59) := mh_lt1 c307 r_x285 r_x305 (59) (by decide)
        have r_x305 : mh_r x305 (1) (60) := mh_lt2 c307 r_x285 r_x305 (1) (by decide)
        refine mw_iload 17 rfl 6 dX3_lineCost_15  rfl ?_
        refine mw_bipush (v := 60) 19 rfl dX3_lineCost_17 (by decide) ?_
        refine mw_icmp_ge 22 rfl 62 dX3_lineCost_19 (by decide) (fun c308 => ?_) (fun c308 => ?_)
        · skip
          exact (mh_nle c308 rc_60 r_x285 (by decide)).elim
        · skip
          refine mw_aload_n 23 rfl 0 dX3_lineCost_22 rfl rfl ?_
          refine mw_iload 25 rfl 6 dX3_lineCost_23  rfl ?_
          refine mw_iload_n 26 rfl 1 dX3_lineCost_25 rfl rfl ?_
          refine mw_callVi [.int x285, .int p1] [] 29 rfl dX3_lineCost_26 ml_X3_31 mc_X3_eveningNumber mk_X3_eveningNumber rfl rfl (by decide) (w_eX3_eveningNumber l G (d + 0) ⟨by omega, by omega⟩ hI0 x285 r_x285 p1) rfl rfl (Nat.le_of_ble_eq_true rfl) (mh_rok (by omega) (by decide)) (fun x309 s310 q311 => ?_)
          obtain ⟨r_x309, E_s310, rfl⟩ := q311
          refine mw_iload_n 30 rfl 2 dX3_lineCost_29 rfl rfl ?_
          have J38 : ∀ (x313 : Int32), mh_r x313 (0) (1) → (f_eX3_lineCost s0 p1 p2 p3 p4 = j_eX3_lineCost_38_2 (l_eX3_lineCost_6_1 s0 p1 p2 p3 p4 n1) s0 p3 p4 x285 x286 x313) → mh_W G (mh_XM l G (d + 1) (mh_Qi (P_eX3_lineCost B D s0 p1 p2 p3 p4))) mM_X3_lineCost 38 [(0, .ref (G.2.2.2 29)), (1, .int p1), (2, .int p2), (3, .int p3), (4, .int p4), (5, .int x286), (6, .int x285)] [.int x313] s0 := by
            intro x313 r_x313 hE2
            refine mw_istore 40 rfl [(7, .int x313), (0, .ref (G.2.2.2 29)), (1, .int p1), (2, .int p2), (3, .int p3), (4, .int p4), (5, .int x286), (6, .int x285)] dX3_lineCost_38  (by decide) rfl ?_
            refine mw_iload 42 rfl 6 dX3_lineCost_40  rfl ?_
            refine mw_aload_n 43 rfl 1 dX3_lineCost_42 rfl rfl ?_
            refine mw_iload 45 rfl 7 dX3_lineCost_43  rfl ?_
            refine mw_iload 47 rfl 0 dX3_lineCost_45  rfl ?_
            refine mw_iload_n 48 rfl 4 dX3_lineCost_47 rfl rfl ?_
            refine mw_iload 50 rfl 5 dX3_lineCost_48  rfl ?_
            refine mw_callVi [.int x285, .int x313, .int p3, .int p4] [.int x286] 53 rfl dX3_lineCost_50 ml_X3_35 mc_X3_cost mk_X3_cost rfl rfl (by decide) (w_eX3_cost l G (d + 0) ⟨by omega, by omega⟩ hI0 x285 r_x285 x313 r_x313 p3 p4) rfl rfl (Nat.le_of_ble_eq_true rfl) (mh_rok (by omega) (by decide)) (fun x321 s322 q323 => ?_)
            obtain ⟨r_x321, E_s322, rfl⟩ := q323
            refine mw_iadd_u 54 rfl dX3_lineCost_53 (fun x324 t325 => ?_)
            refine mw_istore 56 rfl [(5, .int x324), (7, .int x313), (0, .ref (G.2.2.2 29)), (1, .int p1), (2, .int p2), (3, .int p3), (4, .int p4), (6, .int x285)] dX3_lineCost_54  (by decide) rfl ?_
            refine mw_iincR (k := 7) (1) (60) 59 rfl (fun z => [(6, .int z), (5, .int x324), (7, .int x313), (0, .ref (G.2.2.2 29)), (1, .int p1), (2, .int p2), (3, .int p3), (4, .int p4)]) dX3_lineCost_56 rfl (by decide) (fun _ => rfl) r_x285 (by decide) (by decide) (fun x326 t327 r_x326 => ?_)
            refine mw_goto 62 rfl 6 dX3_lineCost_59 (by decide) ?_
            exact mw_lv [3, 4, 5, 6, 7, 1, 0] rfl (ihn1 x326 x324 (mh_r_wk r_x326 (by decide)) (Eq.trans hE2 (mh_lbS E_s322 (mh_lbT t325 (mh_lbT (mh_einc t327 rfl) rfl)))) (by have : x326.toInt = x285.toInt + (1) := t327; omega))
          refine mw_icmp_lt 33 rfl 37 dX3_lineCost_30 (by decide) (fun c328 => ?_) (fun c328 => ?_)
          · skip
            have r_x309 : mh_r x309 (-2147483648) (2147483646) := mh_lt1 c328 r_x309 (mh_r_full p2) (2147483646) (by decide)
            have r_p2 : mh_r p2 (-2147483647) (2147483647) := mh_lt2 c328 r_x309 (mh_r_full p2) (-2147483647) (by decide)
            refine mw_iconst (v := 0) 38 rfl dX3_lineCost_37 (by decide) ?_
            exact mw_lv [0, 1, 2, 3, 4, 5, 6] rfl (J38 (0) (mh_r_wk rc_0 (by decide)) (Eq.trans hE1 (mh_lbT t306 (mh_ifT c307 (mh_lbS E_s310 (mh_ifT c328 rfl))))))
          · skip
            refine mw_iconst (v := 1) 34 rfl dX3_lineCost_33 (by decide) ?_
            refine mw_goto 37 rfl 38 dX3_lineCost_34 (by decide) ?_
            exact mw_lv [0, 1, 2, 3, 4, 5, 6] rfl (J38 (1) (mh_r_wk rc_1 (by decide)) (Eq.trans hE1 (mh_lbT t306 (mh_ifT c307 (mh_lbS E_s310 (mh_ifF (Int.not_lt.mpr c328) rfl))))))
  exact mw_lv [2, 3, 4, 5, 6, 1, 0] rfl (L6 61 (0) (0) (mh_r_wk rc_0 (by decide)) (rfl) (by have := (rc_0).1; have := (rc_0).2; omega))

def j_eX3_bestLine_43_2 (lo_10_1 : Int32 → Int32 → Int32 → Int32) (x231 : Int32) (x251 : Int32) (x252 : Int32) : Int32 := mh_lb (x231 + (1 : Int32)) (fun x255 => (lo_10_1 x255 x252 x251))
def ls_eX3_bestLine_10_1 (s0 : mh_H) (p1 : Int32) (p2 : Int32) (p3 : Int32) (lo_10_1 : Int32 → Int32 → Int32 → Int32) (x231 : Int32) (x232 : Int32) (x233 : Int32) : Int32 := if (100 : Int32).toInt < x231.toInt then x233 else mh_lb (f_eX3_lineCost s0 p1 x231 p2 p3) (fun x247 => if x247.toInt < x232.toInt then (j_eX3_bestLine_43_2 lo_10_1 x231 x231 x247) else (j_eX3_bestLine_43_2 lo_10_1 x231 x233 x232))
def l_eX3_bestLine_10_1 (s0 : mh_H) (p1 : Int32) (p2 : Int32) (p3 : Int32) : Nat → Int32 → Int32 → Int32 → Int32
  | 0 => fun _ _ _ => 0
  | n + 1 => ls_eX3_bestLine_10_1 s0 p1 p2 p3 (l_eX3_bestLine_10_1 s0 p1 p2 p3 n)
theorem l_eX3_bestLine_10_1_s (s0 : mh_H) (p1 : Int32) (p2 : Int32) (p3 : Int32) (n : Nat) : l_eX3_bestLine_10_1 s0 p1 p2 p3 (n + 1) = ls_eX3_bestLine_10_1 s0 p1 p2 p3 (l_eX3_bestLine_10_1 s0 p1 p2 p3 n) := rfl
def f_eX3_bestLine (s0 : mh_H) (p1 : Int32) (p2 : Int32) (p3 : Int32) : Int32 := (l_eX3_bestLine_10_1 s0 p1 p2 p3 102 (0 : Int32) (2147483647 : Int32) (0 : Int32))
def P_eX3_bestLine (B D : Int) (s0 : mh_H) (p1 : Int32) (p2 : Int32) (p3 : Int32) : Int32 → mh_H → Prop := fun z s => mh_r z (0) (100) ∧ f_eX3_bestLine s0 p1 p2 p3 = z ∧ s0 = s
set_option maxRecDepth 100000 in
set_option maxHeartbeats 4000000 in
theorem w_eX3_bestLine (l : Launch) (G : mh_G) (d : Nat) {B D : Int} (hB : B ≤ 1960000000 ∧ D ≤ 1960000000) {s0 : mh_H} (hI0 : mh_I B D s0) (p1 : Int32) (p2 : Int32) (p3 : Int32) : mh_Mi l G (d + 2) mM_X3_bestLine [.ref (G.2.2.2 29), .int p1, .int p2, .int p3] s0 (P_eX3_bestLine B D s0 p1 p2 p3) := by
  refine mh_enter (lv := [(0, .ref (G.2.2.2 29)), (1, .int p1), (2, .int p2), (3, .int p3)]) (by decide) rfl (Nat.le_of_ble_eq_true rfl) ?_
  refine mw_iconst (v := 0) 1 rfl dX3_bestLine_0 (by decide) ?_
  refine mw_istore 3 rfl [(4, .int (0)), (0, .ref (G.2.2.2 29)), (1, .int p1), (2, .int p2), (3, .int p3)] dX3_bestLine_1  (by decide) rfl ?_
  refine mw_ldc 5 rfl dX3_bestLine_3 ck_X3_41 ?_
  refine mw_istore 7 rfl [(5, .int (2147483647)), (4, .int (0)), (0, .ref (G.2.2.2 29)), (1, .int p1), (2, .int p2), (3, .int p3)] dX3_bestLine_5  (by decide) rfl ?_
  refine mw_iconst (v := 0) 8 rfl dX3_bestLine_7 (by decide) ?_
  refine mw_istore 10 rfl [(6, .int (0)), (5, .int (2147483647)), (4, .int (0)), (0, .ref (G.2.2.2 29)), (1, .int p1), (2, .int p2), (3, .int p3)] dX3_bestLine_8  (by decide) rfl ?_
  have L10 : ∀ n1 : Nat, ∀ (x231 : Int32) (x232 : Int32) (x233 : Int32), mh_r x231 (0) (101) → mh_r x233 (0) (100) → (f_eX3_bestLine s0 p1 p2 p3 = l_eX3_bestLine_10_1 s0 p1 p2 p3 n1 x231 x232 x233) → (101) - x231.toInt < (n1 : Int) → mh_W G (mh_XM l G (d + 2) (mh_Qi (P_eX3_bestLine B D s0 p1 p2 p3))) mM_X3_bestLine 10 [(0, .ref (G.2.2.2 29)), (1, .int p1), (2, .int p2), (3, .int p3), (4, .int x233), (5, .int x232), (6, .int x231)] [] s0 := by
    intro n1
    induction n1 with
    | zero =>
      intro x231 x232 x233 r_x231 r_x233 hE1 hmn1
      exact absurd hmn1 (by have := r_x231.1; have := r_x231.2; omega)
    | succ n1 ihn1 =>
      intro x231 x232 x233 r_x231 r_x233 hE1 hmn1
      rw [l_eX3_bestLine_10_1_s] at hE1
      refine mw_iload 12 rfl 6 dX3_bestLine_10  rfl ?_
      refine mw_bipush (v := 100) 14 rfl dX3_bestLine_12 (by decide) ?_
      refine mw_icmp_gt 17 rfl 49 dX3_bestLine_14 (by decide) (fun c246 => ?_) (fun c246 => ?_)
      · skip
        have r_x231 : mh_r x231 (101) (101) := mh_lt2 c246 rc_100 r_x231 (101) (by decide)
        refine mw_iload 51 rfl 4 dX3_bestLine_49  rfl ?_
        exact mw_iret dX3_bestLine_51 rfl ⟨x233, rfl, ⟨r_x233, (Eq.trans hE1 (mh_ifT c246 rfl)), rfl⟩⟩
      · skip
        have r_x231 : mh_r x231 (0) (100) := mh_le1 c246 r_x231 rc_100 (100) (by decide)
        refine mw_aload_n 18 rfl 0 dX3_bestLine_17 rfl rfl ?_
        refine mw_iload_n 19 rfl 1 dX3_bestLine_18 rfl rfl ?_
        refine mw_iload 21 rfl 6 dX3_bestLine_19  rfl ?_
        refine mw_iload_n 22 rfl 2 dX3_bestLine_21 rfl rfl ?_
        refine mw_iload_n 23 rfl 3 dX3_bestLine_22 rfl rfl ?_
        refine mw_callVi [.int p1, .int x231, .int p2, .int p3] [] 26 rfl dX3_bestLine_23 ml_X3_42 mc_X3_lineCost mk_X3_lineCost rfl rfl (by decide) (w_eX3_lineCost l G (d + 0) ⟨by omega, by omega⟩ hI0 p1 x231 p2 p3) rfl rfl (Nat.le_of_ble_eq_true rfl) (mh_rok (by omega) (by decide)) (fun x247 s248 q249 => ?_)
        obtain ⟨r_x247, E_s248, rfl⟩ := q249
        refine mw_istore 28 rfl [(7, .int x247), (0, .ref (G.2.2.2 29)), (1, .int p1), (2, .int p2), (3, .int p3), (4, .int x233), (5, .int x232), (6, .int x231)] dX3_bestLine_26  (by decide) rfl ?_
        refine mw_iload 30 rfl 0 dX3_bestLine_28  rfl ?_
        refine mw_iload 32 rfl 6 dX3_bestLine_30  rfl ?_
        have J43 : ∀ (x251 : Int32) (x252 : Int32), mh_r x251 (0) (100) → (f_eX3_bestLine s0 p1 p2 p3 = j_eX3_bestLine_43_2 (l_eX3_bestLine_10_1 s0 p1 p2 p3 n1) x231 x251 x252) → mh_W G (mh_XM l G (d + 2) (mh_Qi (P_eX3_bestLine B D s0 p1 p2 p3))) mM_X3_bestLine 43 [(0, .ref (G.2.2.2 29)), (1, .int p1), (2, .int p2), (3, .int p3), (4, .int x251), (5, .int x252), (6, .int x231), (7, .int x247)] [] s0 := by
          intro x251 x252 r_x251 hE2
          refine mw_iincR (k := 6) (1) (101) 46 rfl (fun z => [(6, .int z), (0, .ref (G.2.2.2 29)), (1, .int p1), (2, .int p2), (3, .int p3), (4, .int x251), (5, .int x252), (7, .int x247)]) dX3_bestLine_43 rfl (by decide) (fun _ => rfl) r_x231 (by decide) (by decide) (fun x255 t256 r_x255 => ?_)
          refine mw_goto 49 rfl 10 dX3_bestLine_46 (by decide) ?_
          exact mw_lv [1, 2, 3, 4, 5, 6, 0] rfl (ihn1 x255 x252 x251 (mh_r_wk r_x255 (by decide)) r_x251 (Eq.trans hE2 (mh_lbT (mh_einc t256 rfl) rfl)) (by have : x255.toInt = x231.toInt + (1) := t256; omega))
        refine mw_icmp_ge 35 rfl 43 dX3_bestLine_32 (by decide) (fun c257 => ?_) (fun c257 => ?_)
        · skip
          exact mw_lv [1, 2, 3, 4, 5, 6, 7, 0] rfl (J43 x233 x232 r_x233 (Eq.trans hE1 (mh_ifF (Int.not_lt.mpr c246) (mh_lbS E_s248 (mh_ifF (Int.not_lt.mpr c257) rfl)))))
        · skip
          have r_x247 : mh_r x247 (-2147483648) (2147483646) := mh_lt1 c257 r_x247 (mh_r_full x232) (2147483646) (by decide)
          have r_x232 : mh_r x232 (-2147483647) (2147483647) := mh_lt2 c257 r_x247 (mh_r_full x232) (-2147483647) (by decide)
          refine mw_iload 37 rfl 7 dX3_bestLine_35  rfl ?_
          refine mw_istore 39 rfl [(4, .int x231), (7, .int x247), (0, .ref (G.2.2.2 29)), (1, .int p1), (2, .int p2), (3, .int p3), (5, .int x232), (6, .int x231)] dX3_bestLine_37  (by decide) rfl ?_
          refine mw_iload 41 rfl 1 dX3_bestLine_39  rfl ?_
          refine mw_istore 43 rfl [(5, .int x247), (4, .int x231), (7, .int x247), (0, .ref (G.2.2.2 29)), (1, .int p1), (2, .int p2), (3, .int p3), (6, .int x231)] dX3_bestLine_41  (by decide) rfl ?_
          exact mw_lv [3, 4, 5, 6, 1, 0, 7, 2] rfl (J43 x231 x247 r_x231 (Eq.trans hE1 (mh_ifF (Int.not_lt.mpr c246) (mh_lbS E_s248 (mh_ifT c257 rfl)))))
  exact mw_lv [3, 4, 5, 6, 2, 1, 0] rfl (L10 102 (0) (2147483647) (0) (mh_r_wk rc_0 (by decide)) (mh_r_wk rc_0 (by decide)) (rfl) (by have := (rc_0).1; have := (rc_0).2; omega))

def f_eX3_isAlike (s0 : mh_H) (p1 : Int32) (p2 : Int32) (p3 : Int32) (p4 : Int32) (p5 : Int32) : Int32 := mh_lb (s0.1 30 p1.toNatClampNeg) (fun x22 => mh_lb (x22 - p2) (fun x24 => mh_lb (mh_ab32 x24) (fun x26 => if p5.toInt < x26.toInt then (0 : Int32) else mh_lb (s0.1 31 p1.toNatClampNeg) (fun x29 => mh_lb (x29 - p3) (fun x31 => mh_lb (mh_ab32 x31) (fun x33 => if p5.toInt < x33.toInt then (0 : Int32) else mh_lb (s0.1 32 p1.toNatClampNeg) (fun x36 => mh_lb (x36 - p4) (fun x38 => mh_lb (mh_ab32 x38) (fun x40 => if p5.toInt < x40.toInt then (0 : Int32) else (1 : Int32))))))))))
def P_eX3_isAlike (B D : Int) (s0 : mh_H) (p1 : Int32) (p2 : Int32) (p3 : Int32) (p4 : Int32) (p5 : Int32) : Int32 → mh_H → Prop := fun z s => mh_r z (0) (1) ∧ f_eX3_isAlike s0 p1 p2 p3 p4 p5 = z ∧ s0 = s
set_option maxRecDepth 100000 in
set_option maxHeartbeats 4000000 in
theorem w_eX3_isAlike (l : Launch) (G : mh_G) (d : Nat) {B D : Int} (hB : B ≤ 1980000000 ∧ D ≤ 1980000000) {s0 : mh_H} (hI0 : mh_I B D s0) (p1 : Int32) (r_p1 : mh_r p1 (0) (59)) (p2 : Int32) (p3 : Int32) (p4 : Int32) (p5 : Int32) : mh_Mi l G (d + 1) mM_X3_isAlike [.ref (G.2.2.2 29), .int p1, .int p2, .int p3, .int p4, .int p5] s0 (P_eX3_isAlike B D s0 p1 p2 p3 p4 p5) := by
  refine mh_enter (lv := [(0, .ref (G.2.2.2 29)), (1, .int p1), (2, .int p2), (3, .int p3), (4, .int p4), (5, .int p5)]) (by decide) rfl (Nat.le_of_ble_eq_true rfl) ?_
  refine mw_aload_n 1 rfl 0 dX3_isAlike_0 rfl rfl ?_
  refine mw_geta 4 rfl dX3_isAlike_1 gf_X3_9 rfl 30 (mh_rf hI0 33 rfl) ?_
  refine mw_iload_n 5 rfl 1 dX3_isAlike_4 rfl rfl ?_
  refine mw_iald 6 rfl dX3_isAlike_5 rfl r_p1 (by decide) (fun x22 t23 => ?_)
  refine mw_iload_n 7 rfl 2 dX3_isAlike_6 rfl rfl ?_
  refine mw_isub_u 8 rfl dX3_isAlike_7 (fun x24 t25 => ?_)
  refine mw_mabs 11 rfl dX3_isAlike_8 ml_X3_46 (mh_mr (D := d + 1) (by omega) (Nat.le_of_ble_eq_true rfl)) (fun x26 t27 => ?_)
  refine mw_iload 13 rfl 5 dX3_isAlike_11  rfl ?_
  refine mw_icmp_gt 16 rfl 53 dX3_isAlike_13 (by decide) (fun c28 => ?_) (fun c28 => ?_)
  · skip
    have r_p5 : mh_r p5 (-2147483648) (2147483646) := mh_lt1 c28 (mh_r_full p5) (mh_r_full x26) (2147483646) (by decide)
    have r_x26 : mh_r x26 (-2147483647) (2147483647) := mh_lt2 c28 r_p5 (mh_r_full x26) (-2147483647) (by decide)
    refine mw_iconst (v := 0) 54 rfl dX3_isAlike_53 (by decide) ?_
    exact mw_zret dX3_isAlike_54 rfl (mh_r_wk rc_0 (by decide)) ⟨(0), rfl, ⟨(mh_r_wk rc_0 (by decide)), (mh_lbT t23 (mh_lbT t25 (mh_lbT t27 (mh_ifT c28 rfl)))), rfl⟩⟩
  · skip
    refine mw_aload_n 17 rfl 0 dX3_isAlike_16 rfl rfl ?_
    refine mw_geta 20 rfl dX3_isAlike_17 gf_X3_15 rfl 31 (mh_rf hI0 34 rfl) ?_
    refine mw_iload_n 21 rfl 1 dX3_isAlike_20 rfl rfl ?_
    refine mw_iald 22 rfl dX3_isAlike_21 rfl r_p1 (by decide) (fun x29 t30 => ?_)
    refine mw_iload_n 23 rfl 3 dX3_isAlike_22 rfl rfl ?_
    refine mw_isub_u 24 rfl dX3_isAlike_23 (fun x31 t32 => ?_)
    refine mw_mabs 27 rfl dX3_isAlike_24 ml_X3_46 (mh_mr (D := d + 1) (by omega) (Nat.le_of_ble_eq_true rfl)) (fun x33 t34 => ?_)
    refine mw_iload 29 rfl 5 dX3_isAlike_27  rfl ?_
    refine mw_icmp_gt 32 rfl 53 dX3_isAlike_29 (by decide) (fun c35 => ?_) (fun c35 => ?_)
    · skip
      have r_p5 : mh_r p5 (-2147483648) (2147483646) := mh_lt1 c35 (mh_r_full p5) (mh_r_full x33) (2147483646) (by decide)
      have r_x33 : mh_r x33 (-2147483647) (2147483647) := mh_lt2 c35 r_p5 (mh_r_full x33) (-2147483647) (by decide)
      refine mw_iconst (v := 0) 54 rfl dX3_isAlike_53 (by decide) ?_
      exact mw_zret dX3_isAlike_54 rfl (mh_r_wk rc_0 (by decide)) ⟨(0), rfl, ⟨(mh_r_wk rc_0 (by decide)), (mh_lbT t23 (mh_lbT t25 (mh_lbT t27 (mh_ifF (Int.not_lt.mpr c28) (mh_lbT t30 (mh_lbT t32 (mh_lbT t34 (mh_ifT c35 rfl)))))))), rfl⟩⟩
    · skip
      refine mw_aload_n 33 rfl 0 dX3_isAlike_32 rfl rfl ?_
      refine mw_geta 36 rfl dX3_isAlike_33 gf_X3_18 rfl 32 (mh_rf hI0 35 rfl) ?_
      refine mw_iload_n 37 rfl 1 dX3_isAlike_36 rfl rfl ?_
      refine mw_iald 38 rfl dX3_isAlike_37 rfl r_p1 (by decide) (fun x36 t37 => ?_)
      refine mw_iload 40 rfl 4 dX3_isAlike_38  rfl ?_
      refine mw_isub_u 41 rfl dX3_isAlike_40 (fun x38 t39 => ?_)
      refine mw_mabs 44 rfl dX3_isAlike_41 ml_X3_46 (mh_mr (D := d + 1) (by omega) (Nat.le_of_ble_eq_true rfl)) (fun x40 t41 => ?_)
      refine mw_iload 46 rfl 5 dX3_isAlike_44  rfl ?_
      refine mw_icmp_gt 49 rfl 53 dX3_isAlike_46 (by decide) (fun c42 => ?_) (fun c42 => ?_)
      · skip
        have r_p5 : mh_r p5 (-2147483648) (2147483646) := mh_lt1 c42 (mh_r_full p5) (mh_r_full x40) (2147483646) (by decide)
        have r_x40 : mh_r x40 (-2147483647) (2147483647) := mh_lt2 c42 r_p5 (mh_r_full x40) (-2147483647) (by decide)
        refine mw_iconst (v := 0) 54 rfl dX3_isAlike_53 (by decide) ?_
        exact mw_zret dX3_isAlike_54 rfl (mh_r_wk rc_0 (by decide)) ⟨(0), rfl, ⟨(mh_r_wk rc_0 (by decide)), (mh_lbT t23 (mh_lbT t25 (mh_lbT t27 (mh_ifF (Int.not_lt.mpr c28) (mh_lbT t30 (mh_lbT t32 (mh_lbT t34 (mh_ifF (Int.not_lt.mpr c35) (mh_lbT t37 (mh_lbT t39 (mh_lbT t41 (mh_ifT c42 rfl)))))))))))), rfl⟩⟩
      · skip
        refine mw_iconst (v := 1) 50 rfl dX3_isAlike_49 (by decide) ?_
        refine mw_goto 53 rfl 54 dX3_isAlike_50 (by decide) ?_
        exact mw_zret dX3_isAlike_54 rfl (mh_r_wk rc_1 (by decide)) ⟨(1), rfl, ⟨(mh_r_wk rc_1 (by decide)), (mh_lbT t23 (mh_lbT t25 (mh_lbT t27 (mh_ifF (Int.not_lt.mpr c28) (mh_lbT t30 (mh_lbT t32 (mh_lbT t34 (mh_ifF (Int.not_lt.mpr c35) (mh_lbT t37 (mh_lbT t39 (mh_lbT t41 (mh_ifF (Int.not_lt.mpr c42) rfl)))))))))))), rfl⟩⟩

def j_eX3_sendCost_65_2 (lo_6_1 : Int32 → Int32 → Int32) (x413 : Int32) (x462 : Int32) : Int32 := mh_lb (x413 + (1 : Int32)) (fun x465 => (lo_6_1 x465 x462))
def j_eX3_sendCost_62_3 (lo_6_1 : Int32 → Int32 → Int32) (x413 : Int32) (x414 : Int32) (x479 : Int32) : Int32 := mh_lb (x414 + x479) (fun x482 => (j_eX3_sendCost_65_2 lo_6_1 x413 x482))
def ls_eX3_sendCost_6_1 (s0 : mh_H) (p1 : Int32) (p2 : Int32) (p3 : Int32) (lo_6_1 : Int32 → Int32 → Int32) (x413 : Int32) (x414 : Int32) : Int32 := mh_lb (s0.1 29 5) (fun x441 => if x413.toInt < x441.toInt then mh_lb (s0.1 33 x413.toNatClampNeg) (fun x445 => if 0 < x445.toInt then mh_lb (s0.1 34 x413.toNatClampNeg) (fun x468 => mh_lb (x468 - p1) (fun x470 => if 0 < x470.toInt then mh_lb (p2 * x470) (fun x489 => (j_eX3_sendCost_62_3 lo_6_1 x413 x414 x489)) else mh_lb (-x470) (fun x485 => mh_lb (p3 * x485) (fun x487 => (j_eX3_sendCost_62_3 lo_6_1 x413 x414 x487))))) else (j_eX3_sendCost_65_2 lo_6_1 x413 x414)) else x414)
def l_eX3_sendCost_6_1 (s0 : mh_H) (p1 : Int32) (p2 : Int32) (p3 : Int32) : Nat → Int32 → Int32 → Int32
  | 0 => fun _ _ => 0
  | n + 1 => ls_eX3_sendCost_6_1 s0 p1 p2 p3 (l_eX3_sendCost_6_1 s0 p1 p2 p3 n)
theorem l_eX3_sendCost_6_1_s (s0 : mh_H) (p1 : Int32) (p2 : Int32) (p3 : Int32) (n : Nat) : l_eX3_sendCost_6_1 s0 p1 p2 p3 (n + 1) = ls_eX3_sendCost_6_1 s0 p1 p2 p3 (l_eX3_sendCost_6_1 s0 p1 p2 p3 n) := rfl
def f_eX3_sendCost (s0 : mh_H) (p1 : Int32) (p2 : Int32) (p3 : Int32) : Int32 := (l_eX3_sendCost_6_1 s0 p1 p2 p3 61 (0 : Int32) (0 : Int32))
def P_eX3_sendCost (B D : Int) (s0 : mh_H) (p1 : Int32) (p2 : Int32) (p3 : Int32) : Int32 → mh_H → Prop := fun z s => mh_r z (-2147483648) (2147483647) ∧ f_eX3_sendCost s0 p1 p2 p3 = z ∧ s0 = s
set_option maxRecDepth 100000 in
set_option maxHeartbeats 4000000 in
theorem w_eX3_sendCost (l : Launch) (G : mh_G) (d : Nat) {B D : Int} (hB : B ≤ 2000000000 ∧ D ≤ 2000000000) {s0 : mh_H} (hI0 : mh_I B D s0) (p1 : Int32) (p2 : Int32) (p3 : Int32) : mh_Mi l G (d + 0) mM_X3_sendCost [.ref (G.2.2.2 29), .int p1, .int p2, .int p3] s0 (P_eX3_sendCost B D s0 p1 p2 p3) := by
  refine mh_enter (lv := [(0, .ref (G.2.2.2 29)), (1, .int p1), (2, .int p2), (3, .int p3)]) (by decide) rfl (Nat.le_of_ble_eq_true rfl) ?_
  refine mw_iconst (v := 0) 1 rfl dX3_sendCost_0 (by decide) ?_
  refine mw_istore 3 rfl [(4, .int (0)), (0, .ref (G.2.2.2 29)), (1, .int p1), (2, .int p2), (3, .int p3)] dX3_sendCost_1  (by decide) rfl ?_
  refine mw_iconst (v := 0) 4 rfl dX3_sendCost_3 (by decide) ?_
  refine mw_istore 6 rfl [(5, .int (0)), (4, .int (0)), (0, .ref (G.2.2.2 29)), (1, .int p1), (2, .int p2), (3, .int p3)] dX3_sendCost_4  (by decide) rfl ?_
  have L6 : ∀ n1 : Nat, ∀ (x413 : Int32) (x414 : Int32), mh_r x413 (0) (60) → (f_eX3_sendCost s0 p1 p2 p3 = l_eX3_sendCost_6_1 s0 p1 p2 p3 n1 x413 x414) → (60) - x413.toInt < (n1 : Int) → mh_W G (mh_XM l G (d + 0) (mh_Qi (P_eX3_sendCost B D s0 p1 p2 p3))) mM_X3_sendCost 6 [(0, .ref (G.2.2.2 29)), (1, .int p1), (2, .int p2), (3, .int p3), (4, .int x414), (5, .int x413)] [] s0 := by
    intro n1
    induction n1 with
    | zero =>
      intro x413 x414 r_x413 hE1 hmn1
      exact absurd hmn1 (by have := r_x413.1; have := r_x413.2; omega)
    | succ n1 ihn1 =>
      intro x413 x414 r_x413 hE1 hmn1
      rw [l_eX3_sendCost_6_1_s] at hE1
      refine mw_iload 8 rfl 5 dX3_sendCost_6  rfl ?_
      refine mw_aload_n 9 rfl 0 dX3_sendCost_8 rfl rfl ?_
      refine mw_geti 12 rfl dX3_sendCost_9 gf_X3_27 rfl (fun x441 t442 => ?_)
      have r_x441 : mh_r x441 (0) (60) := by rw [t442]; exact rd_29_5 hI0
      refine mw_icmp_ge 15 rfl 71 dX3_sendCost_12 (by decide) (fun c443 => ?_) (fun c443 => ?_)
      · skip
        refine mw_iload 73 rfl 4 dX3_sendCost_71  rfl ?_
        exact mw_iret dX3_sendCost_73 rfl ⟨x414, rfl, ⟨(mh_r_full x414), (Eq.trans hE1 (mh_lbT t442 (mh_ifF (Int.not_lt.mpr c443) rfl))), rfl⟩⟩
      · skip
        have r_x413 : mh_r x413 (0) (59) := mh_lt1 c443 r_x413 r_x441 (59) (by decide)
        have r_x441 : mh_r x441 (1) (60) := mh_lt2 c443 r_x413 r_x441 (1) (by decide)
        refine mw_iload 17 rfl 5 dX3_sendCost_15  rfl ?_
        refine mw_bipush (v := 60) 19 rfl dX3_sendCost_17 (by decide) ?_
        refine mw_icmp_ge 22 rfl 71 dX3_sendCost_19 (by decide) (fun c444 => ?_) (fun c444 => ?_)
        · skip
          exact (mh_nle c444 rc_60 r_x413 (by decide)).elim
        · skip
          refine mw_aload_n 23 rfl 0 dX3_sendCost_22 rfl rfl ?_
          refine mw_geta 26 rfl dX3_sendCost_23 gf_X3_21 rfl 33 (mh_rf hI0 36 rfl) ?_
          refine mw_iload 28 rfl 5 dX3_sendCost_26  rfl ?_
          refine mw_iald 29 rfl dX3_sendCost_28 rfl r_x413 (by decide) (fun x445 t446 => ?_)
          have J65 : ∀ (x462 : Int32), (f_eX3_sendCost s0 p1 p2 p3 = j_eX3_sendCost_65_2 (l_eX3_sendCost_6_1 s0 p1 p2 p3 n1) x413 x462) → mh_W G (mh_XM l G (d + 0) (mh_Qi (P_eX3_sendCost B D s0 p1 p2 p3))) mM_X3_sendCost 65 [(0, .ref (G.2.2.2 29)), (1, .int p1), (2, .int p2), (3, .int p3), (4, .int x462), (5, .int x413)] [] s0 := by
            intro x462 hE2
            refine mw_iincR (k := 5) (1) (60) 68 rfl (fun z => [(5, .int z), (0, .ref (G.2.2.2 29)), (1, .int p1), (2, .int p2), (3, .int p3), (4, .int x462)]) dX3_sendCost_65 rfl (by decide) (fun _ => rfl) r_x413 (by decide) (by decide) (fun x465 t466 r_x465 => ?_)
            refine mw_goto 71 rfl 6 dX3_sendCost_68 (by decide) ?_
            exact mw_lv [1, 2, 3, 4, 5, 0] rfl (ihn1 x465 x462 (mh_r_wk r_x465 (by decide)) (Eq.trans hE2 (mh_lbT (mh_einc t466 rfl) rfl)) (by have : x465.toInt = x413.toInt + (1) := t466; omega))
          refine mw_if_le 32 rfl 65 dX3_sendCost_29 (by decide) (fun c467 => ?_) (fun c467 => ?_)
          · skip
            have r_x445 : mh_r x445 (-2147483648) (0) := mh_le1 (show x445.toInt ≤ (0 : Int32).toInt from c467) (mh_r_full x445) rc_0 (0) (by decide)
            exact mw_lv [0, 1, 2, 3, 4, 5] rfl (J65 x414 (Eq.trans hE1 (mh_lbT t442 (mh_ifT c443 (mh_lbT t446 (mh_ifF (Int.not_lt.mpr c467) rfl))))))
          · skip
            have r_x445 : mh_r x445 (1) (2147483647) := mh_lt2 (show (0 : Int32).toInt < x445.toInt from c467) rc_0 (mh_r_full x445) (1) (by decide)
            refine mw_aload_n 33 rfl 0 dX3_sendCost_32 rfl rfl ?_
            refine mw_geta 36 rfl dX3_sendCost_33 gf_X3_24 rfl 34 (mh_rf hI0 37 rfl) ?_
            refine mw_iload 38 rfl 5 dX3_sendCost_36  rfl ?_
            refine mw_iald 39 rfl dX3_sendCost_38 rfl r_x413 (by decide) (fun x468 t469 => ?_)
            refine mw_iload_n 40 rfl 1 dX3_sendCost_39 rfl rfl ?_
            refine mw_isub_u 41 rfl dX3_sendCost_40 (fun x470 t471 => ?_)
            refine mw_istore 43 rfl [(6, .int x470), (0, .ref (G.2.2.2 29)), (1, .int p1), (2, .int p2), (3, .int p3), (4, .int x414), (5, .int x413)] dX3_sendCost_41  (by decide) rfl ?_
            refine mw_iload 45 rfl 5 dX3_sendCost_43  rfl ?_
            refine mw_iload 47 rfl 0 dX3_sendCost_45  rfl ?_
            have J62 : ∀ (x479 : Int32), (f_eX3_sendCost s0 p1 p2 p3 = j_eX3_sendCost_62_3 (l_eX3_sendCost_6_1 s0 p1 p2 p3 n1) x413 x414 x479) → mh_W G (mh_XM l G (d + 0) (mh_Qi (P_eX3_sendCost B D s0 p1 p2 p3))) mM_X3_sendCost 62 [(0, .ref (G.2.2.2 29)), (1, .int p1), (2, .int p2), (3, .int p3), (4, .int x414), (5, .int x413), (6, .int x470)] [.int x479, .int x414] s0 := by
              intro x479 hE3
              refine mw_iadd_u 63 rfl dX3_sendCost_62 (fun x482 t483 => ?_)
              refine mw_istore 65 rfl [(4, .int x482), (0, .ref (G.2.2.2 29)), (1, .int p1), (2, .int p2), (3, .int p3), (5, .int x413), (6, .int x470)] dX3_sendCost_63  (by decide) rfl ?_
              exact mw_lv [1, 2, 3, 4, 0, 5] rfl (J65 x482 (Eq.trans hE3 (mh_lbT t483 rfl)))
            refine mw_if_le 50 rfl 57 dX3_sendCost_47 (by decide) (fun c484 => ?_) (fun c484 => ?_)
            · skip
              have r_x470 : mh_r x470 (-2147483648) (0) := mh_le1 (show x470.toInt ≤ (0 : Int32).toInt from c484) (mh_r_full x470) rc_0 (0) (by decide)
              refine mw_iload_n 58 rfl 4 dX3_sendCost_57 rfl rfl ?_
              refine mw_iload 60 rfl 0 dX3_sendCost_58  rfl ?_
              refine mw_ineg 61 rfl dX3_sendCost_60 (fun x485 t486 => ?_)
              refine mw_imul_u 62 rfl dX3_sendCost_61 (fun x487 t488 => ?_)
              exact mw_lv [1, 2, 3, 4, 5, 6, 0] rfl (J62 x487 (Eq.trans hE1 (mh_lbT t442 (mh_ifT c443 (mh_lbT t446 (mh_ifT c467 (mh_lbT t469 (mh_lbT t471 (mh_ifF (Int.not_lt.mpr c484) (mh_lbT t486 (mh_lbT t488 rfl)))))))))))
            · skip
              have r_x470 : mh_r x470 (1) (2147483647) := mh_lt2 (show (0 : Int32).toInt < x470.toInt from c484) rc_0 (mh_r_full x470) (1) (by decide)
              refine mw_iload_n 51 rfl 3 dX3_sendCost_50 rfl rfl ?_
              refine mw_iload 53 rfl 0 dX3_sendCost_51  rfl ?_
              refine mw_imul_u 54 rfl dX3_sendCost_53 (fun x489 t490 => ?_)
              refine mw_goto 57 rfl 62 dX3_sendCost_54 (by decide) ?_
              exact mw_lv [1, 2, 3, 4, 5, 6, 0] rfl (J62 x489 (Eq.trans hE1 (mh_lbT t442 (mh_ifT c443 (mh_lbT t446 (mh_ifT c467 (mh_lbT t469 (mh_lbT t471 (mh_ifT c484 (mh_lbT t490 rfl))))))))))
  exact mw_lv [2, 3, 4, 5, 1, 0] rfl (L6 61 (0) (0) (mh_r_wk rc_0 (by decide)) (rfl) (by have := (rc_0).1; have := (rc_0).2; omega))

def f_eX5_isTold (s0 : mh_H) (p1 : Int32) : Int32 := mh_lb (s0.1 23 5) (fun x8 => mh_lb (x8 >>> (p1 &&& 31)) (fun x10 => mh_lb (x10 &&& (1 : Int32)) (fun x12 => if x12.toInt = (1 : Int32).toInt then (1 : Int32) else (0 : Int32))))
def P_eX5_isTold (B D : Int) (s0 : mh_H) (p1 : Int32) : Int32 → mh_H → Prop := fun z s => mh_r z (0) (1) ∧ f_eX5_isTold s0 p1 = z ∧ s0 = s
set_option maxRecDepth 100000 in
set_option maxHeartbeats 4000000 in
theorem w_eX5_isTold (l : Launch) (G : mh_G) (d : Nat) {B D : Int} (hB : B ≤ 2000000000 ∧ D ≤ 2000000000) {s0 : mh_H} (hI0 : mh_I B D s0) (p1 : Int32) : mh_Mi l G (d + 0) mM_X5_isTold [.ref (G.2.2.2 23), .int p1] s0 (P_eX5_isTold B D s0 p1) := by
  refine mh_enter (lv := [(0, .ref (G.2.2.2 23)), (1, .int p1)]) (by decide) rfl (Nat.le_of_ble_eq_true rfl) ?_
  refine mw_aload_n 1 rfl 0 dX5_isTold_0 rfl rfl ?_
  refine mw_geti 4 rfl dX5_isTold_1 gf_X5_27 rfl (fun x8 t9 => ?_)
  refine mw_iload_n 5 rfl 1 dX5_isTold_4 rfl rfl ?_
  refine mw_ishr_u 6 rfl dX5_isTold_5 (fun x10 t11 => ?_)
  refine mw_iconst (v := 1) 7 rfl dX5_isTold_6 (by decide) ?_
  refine mw_iand_u 8 rfl dX5_isTold_7 (fun x12 t13 => ?_)
  have r_x12 : mh_r x12 0 1 := by rw [t13]; exact mh_and1
  refine mw_iconst (v := 1) 9 rfl dX5_isTold_8 (by decide) ?_
  refine mw_icmp_ne 12 rfl 16 dX5_isTold_9 (by decide) (fun c14 => ?_) (fun c14 => ?_)
  · skip
    have r_x12 : mh_r x12 (0) (0) := mh_ne1 c14 r_x12 rc_1 (0) (0) (by decide)
    refine mw_iconst (v := 0) 17 rfl dX5_isTold_16 (by decide) ?_
    exact mw_zret dX5_isTold_17 rfl (mh_r_wk rc_0 (by decide)) ⟨(0), rfl, ⟨(mh_r_wk rc_0 (by decide)), (mh_lbT t9 (mh_lbT t11 (mh_lbT t13 (mh_ifF c14 rfl)))), rfl⟩⟩
  · skip
    have r_x12 : mh_r x12 (1) (1) := mh_eq1 c14 r_x12 rc_1 (1) (1) (by decide)
    refine mw_iconst (v := 1) 13 rfl dX5_isTold_12 (by decide) ?_
    refine mw_goto 16 rfl 17 dX5_isTold_13 (by decide) ?_
    exact mw_zret dX5_isTold_17 rfl (mh_r_wk rc_1 (by decide)) ⟨(1), rfl, ⟨(mh_r_wk rc_1 (by decide)), (mh_lbT t9 (mh_lbT t11 (mh_lbT t13 (mh_ifT c14 rfl)))), rfl⟩⟩

def S_eX5_goIn : List (Nat × Nat) := [(28, 9999)]
def j_eX5_goIn_117_2 (lo_2_1 : mh_H → Int32 → mh_H) (s842 : mh_H) (x739 : Int32) : mh_H := mh_lb (x739 + (1 : Int32)) (fun x845 => (lo_2_1 s842 x845))
def j_eX5_goIn_115_3 (lo_2_1 : mh_H → Int32 → mh_H) (s740 : mh_H) (x739 : Int32) (x866 : Int32) (x869 : Int32) (x880 : Int32) : mh_H := mh_lb (x869 ||| x880) (fun x885 => mh_lb (mh_pI s740 28 x866.toNatClampNeg x885) (fun s887 => (j_eX5_goIn_117_2 lo_2_1 s887 x739)))
def ls_eX5_goIn_2_1 (p1 : Int32) (lo_2_1 : mh_H → Int32 → mh_H) (s740 : mh_H) (x739 : Int32) : mh_H := if x739.toInt < (20 : Int32).toInt then mh_lb (s740.1 28 p1.toNatClampNeg) (fun x795 => mh_lb (s740.1 24 x739.toNatClampNeg) (fun x797 => mh_lb (x795 &&& x797) (fun x799 => mh_lb (f_eX5_isTold s740 x739) (fun x801 => if x801.toInt = 0 then (j_eX5_goIn_117_2 lo_2_1 s740 x739) else mh_lb (s740.1 27 x739.toNatClampNeg) (fun x848 => if 0 < x848.toInt then if x799.toInt = 0 then (j_eX5_goIn_117_2 lo_2_1 s740 x739) else mh_lb (s740.1 25 x739.toNatClampNeg) (fun x852 => mh_lb ((100 : Int32) * x852) (fun x854 => mh_lb (x854 + x848) (fun x858 => mh_lb (x858 - (1 : Int32)) (fun x860 => mh_lb (x860 / x848) (fun x864 => mh_lb (p1 + x864) (fun x866 => if (300 : Int32).toInt < x866.toInt then (j_eX5_goIn_117_2 lo_2_1 s740 x739) else mh_lb (s740.1 28 x866.toNatClampNeg) (fun x869 => if x799.toInt = x797.toInt then (j_eX5_goIn_115_3 lo_2_1 s740 x739 x866 x869 x799) else mh_lb (x799 ^^^ (-1 : Int32)) (fun x892 => mh_lb (x797 &&& x892) (fun x894 => (j_eX5_goIn_115_3 lo_2_1 s740 x739 x866 x869 x894)))))))))) else (j_eX5_goIn_117_2 lo_2_1 s740 x739)))))) else s740
def l_eX5_goIn_2_1 (p1 : Int32) : Nat → mh_H → Int32 → mh_H
  | 0 => fun s740 _ => s740
  | n + 1 => ls_eX5_goIn_2_1 p1 (l_eX5_goIn_2_1 p1 n)
theorem l_eX5_goIn_2_1_s (p1 : Int32) (n : Nat) : l_eX5_goIn_2_1 p1 (n + 1) = ls_eX5_goIn_2_1 p1 (l_eX5_goIn_2_1 p1 n) := rfl
def f_eX5_goIn (s0 : mh_H) (p1 : Int32) : mh_H := (l_eX5_goIn_2_1 p1 21 s0 (0 : Int32))
def P_eX5_goIn (B D : Int) (s0 : mh_H) (p1 : Int32) : mh_H → Prop := fun s => f_eX5_goIn s0 p1 = s ∧ mh_I B D s ∧ mh_F S_eX5_goIn s0 s
set_option maxRecDepth 100000 in
set_option maxHeartbeats 4000000 in
theorem w_eX5_goIn (l : Launch) (G : mh_G) (d : Nat) {B D : Int} (hB : B ≤ 1980000000 ∧ D ≤ 1980000000) {s0 : mh_H} (hI0 : mh_I B D s0) (p1 : Int32) (r_p1 : mh_r p1 (0) (299)) : mh_Mv l G (d + 1) mM_X5_goIn [.ref (G.2.2.2 23), .int p1] s0 (P_eX5_goIn B D s0 p1) := by
  refine mh_enter (lv := [(0, .ref (G.2.2.2 23)), (1, .int p1)]) (by decide) rfl (Nat.le_of_ble_eq_true rfl) ?_
  have hF0 : mh_F S_eX5_goIn s0 s0 := mh_F_rf
  refine mw_iconst (v := 0) 1 rfl dX5_goIn_0 (by decide) ?_
  refine mw_istore_n 2 rfl [(2, .int (0)), (0, .ref (G.2.2.2 23)), (1, .int p1)] dX5_goIn_1 rfl (by decide) rfl ?_
  have L2 : ∀ n1 : Nat, ∀ (x739 : Int32) (s740 : mh_H), mh_r x739 (0) (20) → mh_I B D s740 → mh_F S_eX5_goIn s0 s740 → (f_eX5_goIn s0 p1 = l_eX5_goIn_2_1 p1 n1 s740 x739) → (20) - x739.toInt < (n1 : Int) → mh_W G (mh_XM l G (d + 1) (mh_Qv (P_eX5_goIn B D s0 p1))) mM_X5_goIn 2 [(0, .ref (G.2.2.2 23)), (1, .int p1), (2, .int x739)] [] s740 := by
    intro n1
    induction n1 with
    | zero =>
      intro x739 s740 r_x739 hI_s740 hF_s740 hE1 hmn1
      exact absurd hmn1 (by have := r_x739.1; have := r_x739.2; omega)
    | succ n1 ihn1 =>
      intro x739 s740 r_x739 hI_s740 hF_s740 hE1 hmn1
      rw [l_eX5_goIn_2_1_s] at hE1
      refine mw_iload_n 3 rfl 2 dX5_goIn_2 rfl rfl ?_
      refine mw_bipush (v := 20) 5 rfl dX5_goIn_3 (by decide) ?_
      refine mw_icmp_ge 8 rfl 123 dX5_goIn_5 (by decide) (fun c794 => ?_) (fun c794 => ?_)
      · skip
        have r_x739 : mh_r x739 (20) (20) := mh_le2 c794 rc_20 r_x739 (20) (by decide)
        exact mw_vret dX5_goIn_123 rfl ⟨rfl, ⟨(Eq.trans hE1 (mh_ifF (Int.not_lt.mpr c794) rfl)), hI_s740, hF_s740⟩⟩
      · skip
        have r_x739 : mh_r x739 (0) (19) := mh_lt1 c794 r_x739 rc_20 (19) (by decide)
        refine mw_aload_n 9 rfl 0 dX5_goIn_8 rfl rfl ?_
        refine mw_geta 12 rfl dX5_goIn_9 gf_X5_24 rfl 28 (mh_rf hI_s740 32 rfl) ?_
        refine mw_iload_n 13 rfl 1 dX5_goIn_12 rfl rfl ?_
        refine mw_iald 14 rfl dX5_goIn_13 rfl r_p1 (by decide) (fun x795 t796 => ?_)
        refine mw_aload_n 15 rfl 0 dX5_goIn_14 rfl rfl ?_
        refine mw_geta 18 rfl dX5_goIn_15 gf_X5_9 rfl 24 (mh_rf hI_s740 28 rfl) ?_
        refine mw_iload_n 19 rfl 2 dX5_goIn_18 rfl rfl ?_
        refine mw_iald 20 rfl dX5_goIn_19 rfl r_x739 (by decide) (fun x797 t798 => ?_)
        refine mw_iand_u 21 rfl dX5_goIn_20 (fun x799 t800 => ?_)
        refine mw_istore_n 22 rfl [(3, .int x799), (0, .ref (G.2.2.2 23)), (1, .int p1), (2, .int x739)] dX5_goIn_21 rfl (by decide) rfl ?_
        refine mw_aload_n 23 rfl 1 dX5_goIn_22 rfl rfl ?_
        refine mw_iload_n 24 rfl 3 dX5_goIn_23 rfl rfl ?_
        refine mw_callVi [.int x739] [] 27 rfl dX5_goIn_24 ml_X5_31 mc_X5_isTold mk_X5_isTold rfl rfl (by decide) (w_eX5_isTold l G (d + 0) ⟨by omega, by omega⟩ hI_s740 x739) rfl rfl (Nat.le_of_ble_eq_true rfl) (mh_rok (by omega) (by decide)) (fun x801 s802 q803 => ?_)
        obtain ⟨r_x801, E_s802, rfl⟩ := q803
        have J117 : ∀  (s842 : mh_H), mh_I B D s842 → mh_F S_eX5_goIn s0 s842 → (f_eX5_goIn s0 p1 = j_eX5_goIn_117_2 (l_eX5_goIn_2_1 p1 n1) s842 x739) → mh_W G (mh_XM l G (d + 1) (mh_Qv (P_eX5_goIn B D s0 p1))) mM_X5_goIn 117 [(0, .ref (G.2.2.2 23)), (1, .int p1), (2, .int x739), (3, .int x799)] [] s842 := by
          intro s842 hI_s842 hF_s842 hE2
          refine mw_iincR (k := 2) (1) (20) 120 rfl (fun z => [(2, .int z), (0, .ref (G.2.2.2 23)), (1, .int p1), (3, .int x799)]) dX5_goIn_117 rfl (by decide) (fun _ => rfl) r_x739 (by decide) (by decide) (fun x845 t846 r_x845 => ?_)
          refine mw_goto 123 rfl 2 dX5_goIn_120 (by decide) ?_
          exact mw_lv [1, 2, 0] rfl (ihn1 x845 s842 (mh_r_wk r_x845 (by decide)) hI_s842 hF_s842 (Eq.trans hE2 (mh_lbT (mh_einc t846 rfl) rfl)) (by have : x845.toInt = x739.toInt + (1) := t846; omega))
        refine mw_if_eq 30 rfl 117 dX5_goIn_27 (by decide) (fun c847 => ?_) (fun c847 => ?_)
        · skip
          have r_x801 : mh_r x801 (0) (0) := mh_eq1 (show x801.toInt = (0 : Int32).toInt from c847) r_x801 rc_0 (0) (0) (by decide)
          exact mw_lv [1, 2, 3, 0] rfl (J117 s740 hI_s740 hF_s740 (Eq.trans hE1 (mh_ifT c794 (mh_lbT t796 (mh_lbT t798 (mh_lbT t800 (mh_lbS E_s802 (mh_ifT c847 rfl))))))))
        · skip
          have r_x801 : mh_r x801 (1) (1) := mh_ne1 (show x801.toInt ≠ (0 : Int32).toInt from c847) r_x801 rc_0 (1) (1) (by decide)
          refine mw_aload_n 31 rfl 1 dX5_goIn_30 rfl rfl ?_
          refine mw_geta 34 rfl dX5_goIn_31 gf_X5_21 rfl 27 (mh_rf hI_s740 31 rfl) ?_
          refine mw_iload_n 35 rfl 3 dX5_goIn_34 rfl rfl ?_
          refine mw_iald 36 rfl dX5_goIn_35 rfl r_x739 (by decide) (fun x848 t849 => ?_)
          have r_x848 : mh_r x848 (0) (999) := by rw [t849]; exact rd_27 hI_s740 _
          refine mw_if_le 39 rfl 117 dX5_goIn_36 (by decide) (fun c850 => ?_) (fun c850 => ?_)
          · skip
            have r_x848 : mh_r x848 (0) (0) := mh_le1 (show x848.toInt ≤ (0 : Int32).toInt from c850) r_x848 rc_0 (0) (by decide)
            exact mw_lv [1, 2, 3, 0] rfl (J117 s740 hI_s740 hF_s740 (Eq.trans hE1 (mh_ifT c794 (mh_lbT t796 (mh_lbT t798 (mh_lbT t800 (mh_lbS E_s802 (mh_ifF c847 (mh_lbT t849 (mh_ifF (Int.not_lt.mpr c850) rfl))))))))))
          · skip
            have r_x848 : mh_r x848 (1) (999) := mh_lt2 (show (0 : Int32).toInt < x848.toInt from c850) rc_0 r_x848 (1) (by decide)
            refine mw_iload_n 40 rfl 0 dX5_goIn_39 rfl rfl ?_
            refine mw_if_ne 43 rfl 46 dX5_goIn_40 (by decide) (fun c851 => ?_) (fun c851 => ?_)
            · skip
              refine mw_iload_n 47 rfl 2 dX5_goIn_46 rfl rfl ?_
              refine mw_bipush (v := 100) 49 rfl dX5_goIn_47 (by decide) ?_
              refine mw_aload_n 50 rfl 1 dX5_goIn_49 rfl rfl ?_
              refine mw_geta 53 rfl dX5_goIn_50 gf_X5_15 rfl 25 (mh_rf hI_s740 29 rfl) ?_
              refine mw_iload_n 54 rfl 3 dX5_goIn_53 rfl rfl ?_
              refine mw_iald 55 rfl dX5_goIn_54 rfl r_x739 (by decide) (fun x852 t853 => ?_)
              have r_x852 : mh_r x852 (0) (99) := by rw [t853]; exact rd_25 hI_s740 _
              refine mw_imul 56 rfl (0) (9900) dX5_goIn_55 rc_100 r_x852 (by decide) (fun x854 t855 r_x854 => ?_)
              refine mw_aload_n 57 rfl 1 dX5_goIn_56 rfl rfl ?_
              refine mw_geta 60 rfl dX5_goIn_57 gf_X5_21 rfl 27 (mh_rf hI_s740 31 rfl) ?_
              refine mw_iload_n 61 rfl 3 dX5_goIn_60 rfl rfl ?_
              refine mw_iald 62 rfl dX5_goIn_61 rfl r_x739 (by decide) (fun x856 t857 => ?_)
              obtain rfl : x848 = x856 := t849.trans t857.symm
              refine mw_iadd 63 rfl (1) (10899) dX5_goIn_62 r_x854 r_x848 (by decide) (fun x858 t859 r_x858 => ?_)
              refine mw_iconst (v := 1) 64 rfl dX5_goIn_63 (by decide) ?_
              refine mw_isub 65 rfl (0) (10898) dX5_goIn_64 r_x858 rc_1 (by decide) (fun x860 t861 r_x860 => ?_)
              refine mw_aload_n 66 rfl 1 dX5_goIn_65 rfl rfl ?_
              refine mw_geta 69 rfl dX5_goIn_66 gf_X5_21 rfl 27 (mh_rf hI_s740 31 rfl) ?_
              refine mw_iload_n 70 rfl 3 dX5_goIn_69 rfl rfl ?_
              refine mw_iald 71 rfl dX5_goIn_70 rfl r_x739 (by decide) (fun x862 t863 => ?_)
              obtain rfl : x848 = x862 := t849.trans t863.symm
              refine mw_idiv 72 rfl (0) (10898) dX5_goIn_71 r_x860 r_x848 (by decide) (fun x864 t865 r_x864 => ?_)
              refine mw_iadd 73 rfl (0) (11197) dX5_goIn_72 r_p1 r_x864 (by decide) (fun x866 t867 r_x866 => ?_)
              refine mw_istore 75 rfl [(4, .int x866), (3, .int x799), (0, .ref (G.2.2.2 23)), (1, .int p1), (2, .int x739)] dX5_goIn_73  (by decide) rfl ?_
              refine mw_iload 77 rfl 0 dX5_goIn_75  rfl ?_
              refine mw_sipush (v := 300) 80 rfl dX5_goIn_77 (by decide) ?_
              refine mw_icmp_gt 83 rfl 117 dX5_goIn_80 (by decide) (fun c868 => ?_) (fun c868 => ?_)
              · skip
                have r_x866 : mh_r x866 (301) (11197) := mh_lt2 c868 rc_300 r_x866 (301) (by decide)
                exact mw_lv [2, 3, 4, 1] rfl (J117 s740 hI_s740 hF_s740 (Eq.trans hE1 (mh_ifT c794 (mh_lbT t796 (mh_lbT t798 (mh_lbT t800 (mh_lbS E_s802 (mh_ifF c847 (mh_lbT t849 (mh_ifT c850 (mh_ifF c851 (mh_lbT t853 (mh_lbT (mh_emul t855) (mh_lbT (mh_eadd t859) (mh_lbT (mh_esub t861) (mh_lbT (mh_ediv t865) (mh_lbT (mh_eadd t867) (mh_ifT c868 rfl))))))))))))))))))
              · skip
                have r_x866 : mh_r x866 (0) (300) := mh_le1 c868 r_x866 rc_300 (300) (by decide)
                refine mw_aload_n 84 rfl 2 dX5_goIn_83 rfl rfl ?_
                refine mw_geta 87 rfl dX5_goIn_84 gf_X5_24 rfl 28 (mh_rf hI_s740 32 rfl) ?_
                refine mw_iload 89 rfl 0 dX5_goIn_87  rfl ?_
                refine mw_dup2 90 rfl dX5_goIn_89 rfl rfl ?_
                refine mw_iald 91 rfl dX5_goIn_90 rfl r_x866 (by decide) (fun x869 t870 => ?_)
                refine mw_iload_n 92 rfl 1 dX5_goIn_91 rfl rfl ?_
                refine mw_aload_n 93 rfl 2 dX5_goIn_92 rfl rfl ?_
                refine mw_geta 96 rfl dX5_goIn_93 gf_X5_9 rfl 24 (mh_rf hI_s740 28 rfl) ?_
                refine mw_iload_n 97 rfl 4 dX5_goIn_96 rfl rfl ?_
                refine mw_iald 98 rfl dX5_goIn_97 rfl r_x739 (by decide) (fun x871 t872 => ?_)
                obtain rfl : x797 = x871 := t798.trans t872.symm
                have J115 : ∀ (x880 : Int32), (f_eX5_goIn s0 p1 = j_eX5_goIn_115_3 (l_eX5_goIn_2_1 p1 n1) s740 x739 x866 x869 x880) → mh_W G (mh_XM l G (d + 1) (mh_Qv (P_eX5_goIn B D s0 p1))) mM_X5_goIn 115 [(0, .ref (G.2.2.2 23)), (1, .int p1), (2, .int x739), (3, .int x799), (4, .int x866)] [.int x880, .int x869, .int x866, .ref (G.2.2.2 28)] s740 := by
                  intro x880 hE3
                  refine mw_ior_u 116 rfl dX5_goIn_115 (fun x885 t886 => ?_)
                  refine mw_iast 117 rfl dX5_goIn_116 rfl r_x866 (by decide) (fun s887 t888 => ?_)
                  have hI_s887 : mh_I B D s887 := by rw [t888]; exact wr_28 hI_s740
                  have hF_s887 : mh_F S_eX5_goIn s0 s887 := by rw [t888]; exact mh_F_pI hF_s740 (mh_si 0 rfl)
                  exact mw_lv [0, 1, 2, 3] rfl (J117 s887 hI_s887 hF_s887 (Eq.trans hE3 (mh_lbT t886 (mh_lbT t888 rfl))))
                refine mw_icmp_ne 101 rfl 105 dX5_goIn_98 (by decide) (fun c889 => ?_) (fun c889 => ?_)
                · skip
                  refine mw_aload_n 106 rfl 2 dX5_goIn_105 rfl rfl ?_
                  refine mw_geta 109 rfl dX5_goIn_106 gf_X5_9 rfl 24 (mh_rf hI_s740 28 rfl) ?_
                  refine mw_iload_n 110 rfl 4 dX5_goIn_109 rfl rfl ?_
                  refine mw_iald 111 rfl dX5_goIn_110 rfl r_x739 (by decide) (fun x890 t891 => ?_)
                  obtain rfl : x797 = x890 := t798.trans t891.symm
                  refine mw_iload_n 112 rfl 1 dX5_goIn_111 rfl rfl ?_
                  refine mw_iconst (v := -1) 113 rfl dX5_goIn_112 (by decide) ?_
                  refine mw_ixor_u 114 rfl dX5_goIn_113 (fun x892 t893 => ?_)
                  refine mw_iand_u 115 rfl dX5_goIn_114 (fun x894 t895 => ?_)
                  exact mw_lv [2, 3, 4, 1, 0] rfl (J115 x894 (Eq.trans hE1 (mh_ifT c794 (mh_lbT t796 (mh_lbT t798 (mh_lbT t800 (mh_lbS E_s802 (mh_ifF c847 (mh_lbT t849 (mh_ifT c850 (mh_ifF c851 (mh_lbT t853 (mh_lbT (mh_emul t855) (mh_lbT (mh_eadd t859) (mh_lbT (mh_esub t861) (mh_lbT (mh_ediv t865) (mh_lbT (mh_eadd t867) (mh_ifF (Int.not_lt.mpr c868) (mh_lbT t870 (mh_ifF c889 (mh_lbT t893 (mh_lbT t895 rfl))))))))))))))))))))))
                · skip
                  refine mw_iload_n 102 rfl 1 dX5_goIn_101 rfl rfl ?_
                  refine mw_goto 105 rfl 115 dX5_goIn_102 (by decide) ?_
                  exact mw_lv [2, 3, 4, 1, 0] rfl (J115 x799 (Eq.trans hE1 (mh_ifT c794 (mh_lbT t796 (mh_lbT t798 (mh_lbT t800 (mh_lbS E_s802 (mh_ifF c847 (mh_lbT t849 (mh_ifT c850 (mh_ifF c851 (mh_lbT t853 (mh_lbT (mh_emul t855) (mh_lbT (mh_eadd t859) (mh_lbT (mh_esub t861) (mh_lbT (mh_ediv t865) (mh_lbT (mh_eadd t867) (mh_ifF (Int.not_lt.mpr c868) (mh_lbT t870 (mh_ifT c889 rfl))))))))))))))))))))
            · skip
              have r_x799 : mh_r x799 (0) (0) := mh_eq1 (show x799.toInt = (0 : Int32).toInt from c851) (mh_r_full x799) rc_0 (0) (0) (by decide)
              refine mw_goto 46 rfl 117 dX5_goIn_43 (by decide) ?_
              exact mw_lv [1, 2, 3, 0] rfl (J117 s740 hI_s740 hF_s740 (Eq.trans hE1 (mh_ifT c794 (mh_lbT t796 (mh_lbT t798 (mh_lbT t800 (mh_lbS E_s802 (mh_ifF c847 (mh_lbT t849 (mh_ifT c850 (mh_ifT c851 rfl)))))))))))
  exact mw_lv [1, 2, 0] rfl (L2 21 (0) s0 (mh_r_wk rc_0 (by decide)) hI0 hF0 (rfl) (by have := (rc_0).1; have := (rc_0).2; omega))

def f_eX5_isAt (s0 : mh_H) (p1 : Int32) (p2 : Int32) : Int32 := mh_lb (s0.1 28 p2.toNatClampNeg) (fun x8 => mh_lb (x8 >>> (p1 &&& 31)) (fun x10 => mh_lb (x10 &&& (1 : Int32)) (fun x12 => if x12.toInt = (1 : Int32).toInt then (1 : Int32) else (0 : Int32))))
def P_eX5_isAt (B D : Int) (s0 : mh_H) (p1 : Int32) (p2 : Int32) : Int32 → mh_H → Prop := fun z s => mh_r z (0) (1) ∧ f_eX5_isAt s0 p1 p2 = z ∧ s0 = s
set_option maxRecDepth 100000 in
set_option maxHeartbeats 4000000 in
theorem w_eX5_isAt (l : Launch) (G : mh_G) (d : Nat) {B D : Int} (hB : B ≤ 2000000000 ∧ D ≤ 2000000000) {s0 : mh_H} (hI0 : mh_I B D s0) (p1 : Int32) (p2 : Int32) (r_p2 : mh_r p2 (0) (300)) : mh_Mi l G (d + 0) mM_X5_isAt [.ref (G.2.2.2 23), .int p1, .int p2] s0 (P_eX5_isAt B D s0 p1 p2) := by
  refine mh_enter (lv := [(0, .ref (G.2.2.2 23)), (1, .int p1), (2, .int p2)]) (by decide) rfl (Nat.le_of_ble_eq_true rfl) ?_
  refine mw_aload_n 1 rfl 0 dX5_isAt_0 rfl rfl ?_
  refine mw_geta 4 rfl dX5_isAt_1 gf_X5_24 rfl 28 (mh_rf hI0 32 rfl) ?_
  refine mw_iload_n 5 rfl 2 dX5_isAt_4 rfl rfl ?_
  refine mw_iald 6 rfl dX5_isAt_5 rfl r_p2 (by decide) (fun x8 t9 => ?_)
  refine mw_iload_n 7 rfl 1 dX5_isAt_6 rfl rfl ?_
  refine mw_ishr_u 8 rfl dX5_isAt_7 (fun x10 t11 => ?_)
  refine mw_iconst (v := 1) 9 rfl dX5_isAt_8 (by decide) ?_
  refine mw_iand_u 10 rfl dX5_isAt_9 (fun x12 t13 => ?_)
  have r_x12 : mh_r x12 0 1 := by rw [t13]; exact mh_and1
  refine mw_iconst (v := 1) 11 rfl dX5_isAt_10 (by decide) ?_
  refine mw_icmp_ne 14 rfl 18 dX5_isAt_11 (by decide) (fun c14 => ?_) (fun c14 => ?_)
  · skip
    have r_x12 : mh_r x12 (0) (0) := mh_ne1 c14 r_x12 rc_1 (0) (0) (by decide)
    refine mw_iconst (v := 0) 19 rfl dX5_isAt_18 (by decide) ?_
    exact mw_zret dX5_isAt_19 rfl (mh_r_wk rc_0 (by decide)) ⟨(0), rfl, ⟨(mh_r_wk rc_0 (by decide)), (mh_lbT t9 (mh_lbT t11 (mh_lbT t13 (mh_ifF c14 rfl)))), rfl⟩⟩
  · skip
    have r_x12 : mh_r x12 (1) (1) := mh_eq1 c14 r_x12 rc_1 (1) (1) (by decide)
    refine mw_iconst (v := 1) 15 rfl dX5_isAt_14 (by decide) ?_
    refine mw_goto 18 rfl 19 dX5_isAt_15 (by decide) ?_
    exact mw_zret dX5_isAt_19 rfl (mh_r_wk rc_1 (by decide)) ⟨(1), rfl, ⟨(mh_r_wk rc_1 (by decide)), (mh_lbT t9 (mh_lbT t11 (mh_lbT t13 (mh_ifT c14 rfl)))), rfl⟩⟩

def S_eX5_go : List (Nat × Nat) := [(28, 9999)]
def j_eX5_go_70_3 (lo_3_1 : mh_H → Int32 → Int32 × mh_H) (s328 : mh_H) (x253 : Int32) : Int32 × mh_H := mh_lb (x253 + (1 : Int32)) (fun x331 => (lo_3_1 s328 x331))
def j_eX5_go_47_2 (lo_3_1 : mh_H → Int32 → Int32 × mh_H) (s302 : mh_H) (p3 : Int32) (x253 : Int32) : Int32 × mh_H := if p3.toInt = 0 then (j_eX5_go_70_3 lo_3_1 s302 x253) else mh_lb (x253 + (1 : Int32)) (fun x334 => mh_lb (s302.1 28 x334.toNatClampNeg) (fun x336 => mh_lb (s302.1 28 x253.toNatClampNeg) (fun x338 => mh_lb (x336 ||| x338) (fun x340 => mh_lb (mh_pI s302 28 x334.toNatClampNeg x340) (fun s342 => (j_eX5_go_70_3 lo_3_1 s342 x253))))))
def ls_eX5_go_3_1 (p1 : Int32) (p2 : Int32) (p3 : Int32) (lo_3_1 : mh_H → Int32 → Int32 × mh_H) (s254 : mh_H) (x253 : Int32) : Int32 × mh_H := mh_lb (p2 + (10 : Int32)) (fun x287 => mh_lb (mh_mi32 x287 (300 : Int32)) (fun x289 => if x253.toInt < x289.toInt then mh_lb (f_eX5_isAt s254 p1 x253) (fun x292 => if x292.toInt = 0 then mh_lb (s254.1 28 x253.toNatClampNeg) (fun x296 => if x296.toInt = 0 then (j_eX5_go_47_2 lo_3_1 s254 p3 x253) else mh_lb (f_eX5_goIn s254 x253) (fun s346 => (j_eX5_go_47_2 lo_3_1 s346 p3 x253))) else (x253, s254)) else ((-2 : Int32), s254)))
def l_eX5_go_3_1 (p1 : Int32) (p2 : Int32) (p3 : Int32) : Nat → mh_H → Int32 → Int32 × mh_H
  | 0 => fun s254 _ => (0, s254)
  | n + 1 => ls_eX5_go_3_1 p1 p2 p3 (l_eX5_go_3_1 p1 p2 p3 n)
theorem l_eX5_go_3_1_s (p1 : Int32) (p2 : Int32) (p3 : Int32) (n : Nat) : l_eX5_go_3_1 p1 p2 p3 (n + 1) = ls_eX5_go_3_1 p1 p2 p3 (l_eX5_go_3_1 p1 p2 p3 n) := rfl
def f_eX5_go (s0 : mh_H) (p1 : Int32) (p2 : Int32) (p3 : Int32) : Int32 × mh_H := (l_eX5_go_3_1 p1 p2 p3 301 s0 p2)
def P_eX5_go (B D : Int) (s0 : mh_H) (p1 : Int32) (p2 : Int32) (p3 : Int32) : Int32 → mh_H → Prop := fun z s => mh_r z (-2) (299) ∧ f_eX5_go s0 p1 p2 p3 = (z, s) ∧ mh_I B D s ∧ mh_F S_eX5_go s0 s
set_option maxRecDepth 100000 in
set_option maxHeartbeats 4000000 in
theorem w_eX5_go (l : Launch) (G : mh_G) (d : Nat) {B D : Int} (hB : B ≤ 1960000000 ∧ D ≤ 1960000000) {s0 : mh_H} (hI0 : mh_I B D s0) (p1 : Int32) (p2 : Int32) (r_p2 : mh_r p2 (0) (290)) (p3 : Int32) (r_p3 : mh_r p3 (0) (1)) : mh_Mi l G (d + 2) mM_X5_go [.ref (G.2.2.2 23), .int p1, .int p2, .int p3] s0 (P_eX5_go B D s0 p1 p2 p3) := by
  refine mh_enter (lv := [(0, .ref (G.2.2.2 23)), (1, .int p1), (2, .int p2), (3, .int p3)]) (by decide) rfl (Nat.le_of_ble_eq_true rfl) ?_
  have hF0 : mh_F S_eX5_go s0 s0 := mh_F_rf
  refine mw_iload_n 1 rfl 2 dX5_go_0 rfl rfl ?_
  refine mw_istore 3 rfl [(4, .int p2), (0, .ref (G.2.2.2 23)), (1, .int p1), (2, .int p2), (3, .int p3)] dX5_go_1  (by decide) rfl ?_
  have L3 : ∀ n1 : Nat, ∀ (x253 : Int32) (s254 : mh_H), mh_r x253 (0) (300) → mh_I B D s254 → mh_F S_eX5_go s0 s254 → (f_eX5_go s0 p1 p2 p3 = l_eX5_go_3_1 p1 p2 p3 n1 s254 x253) → (300) - x253.toInt < (n1 : Int) → mh_W G (mh_XM l G (d + 2) (mh_Qi (P_eX5_go B D s0 p1 p2 p3))) mM_X5_go 3 [(0, .ref (G.2.2.2 23)), (1, .int p1), (2, .int p2), (3, .int p3), (4, .int x253)] [] s254 := by
    intro n1
    induction n1 with
    | zero =>
      intro x253 s254 r_x253 hI_s254 hF_s254 hE1 hmn1
      exact absurd hmn1 (by have := r_x253.1; have := r_x253.2; omega)
    | succ n1 ihn1 =>
      intro x253 s254 r_x253 hI_s254 hF_s254 hE1 hmn1
      rw [l_eX5_go_3_1_s] at hE1
      refine mw_iload 5 rfl 4 dX5_go_3  rfl ?_
      refine mw_iload_n 6 rfl 2 dX5_go_5 rfl rfl ?_
      refine mw_bipush (v := 10) 8 rfl dX5_go_6 (by decide) ?_
      refine mw_iadd 9 rfl (10) (300) dX5_go_8 r_p2 rc_10 (by decide) (fun x287 t288 r_x287 => ?_)
      refine mw_sipush (v := 300) 12 rfl dX5_go_9 (by decide) ?_
      refine mw_mmin (10) (300) 15 rfl dX5_go_12 ml_X5_46 r_x287 rc_300 (by decide) (mh_mr (D := d + 2) (by omega) (Nat.le_of_ble_eq_true rfl)) (fun x289 t290 r_x289 => ?_)
      refine mw_icmp_ge 18 rfl 76 dX5_go_15 (by decide) (fun c291 => ?_) (fun c291 => ?_)
      · skip
        have r_x253 : mh_r x253 (10) (300) := mh_le2 c291 r_x289 r_x253 (10) (by decide)
        refine mw_bipush (v := -2) 78 rfl dX5_go_76 (by decide) ?_
        exact mw_iret dX5_go_78 rfl ⟨(-2), rfl, ⟨(mh_r_wk rc_m2 (by decide)), (Eq.trans hE1 (mh_lbT (mh_eadd t288) (mh_lbT (mh_emin t290) (mh_ifF (Int.not_lt.mpr c291) rfl)))), hI_s254, hF_s254⟩⟩
      · skip
        have r_x253 : mh_r x253 (0) (299) := mh_lt1 c291 r_x253 r_x289 (299) (by decide)
        refine mw_aload_n 19 rfl 0 dX5_go_18 rfl rfl ?_
        refine mw_iload_n 20 rfl 1 dX5_go_19 rfl rfl ?_
        refine mw_iload 22 rfl 4 dX5_go_20  rfl ?_
        refine mw_callVi [.int p1, .int x253] [] 25 rfl dX5_go_22 ml_X5_52 mc_X5_isAt mk_X5_isAt rfl rfl (by decide) (w_eX5_isAt l G (d + 1) ⟨by omega, by omega⟩ hI_s254 p1 x253 (mh_r_wk r_x253 (by decide))) rfl rfl (Nat.le_of_ble_eq_true rfl) (mh_rok (by omega) (by decide)) (fun x292 s293 q294 => ?_)
        obtain ⟨r_x292, E_s293, rfl⟩ := q294
        refine mw_if_eq 28 rfl 31 dX5_go_25 (by decide) (fun c295 => ?_) (fun c295 => ?_)
        · skip
          have r_x292 : mh_r x292 (0) (0) := mh_eq1 (show x292.toInt = (0 : Int32).toInt from c295) r_x292 rc_0 (0) (0) (by decide)
          refine mw_aload_n 32 rfl 0 dX5_go_31 rfl rfl ?_
          refine mw_geta 35 rfl dX5_go_32 gf_X5_24 rfl 28 (mh_rf hI_s254 32 rfl) ?_
          refine mw_iload 37 rfl 4 dX5_go_35  rfl ?_
          refine mw_iald 38 rfl dX5_go_37 rfl r_x253 (by decide) (fun x296 t297 => ?_)
          have J47 : ∀  (s302 : mh_H), mh_I B D s302 → mh_F S_eX5_go s0 s302 → (f_eX5_go s0 p1 p2 p3 = j_eX5_go_47_2 (l_eX5_go_3_1 p1 p2 p3 n1) s302 p3 x253) → mh_W G (mh_XM l G (d + 2) (mh_Qi (P_eX5_go B D s0 p1 p2 p3))) mM_X5_go 47 [(0, .ref (G.2.2.2 23)), (1, .int p1), (2, .int p2), (3, .int p3), (4, .int x253)] [] s302 := by
            intro s302 hI_s302 hF_s302 hE2
            refine mw_iload_n 48 rfl 3 dX5_go_47 rfl rfl ?_
            have J70 : ∀  (s328 : mh_H), mh_I B D s328 → mh_F S_eX5_go s0 s328 → (f_eX5_go s0 p1 p2 p3 = j_eX5_go_70_3 (l_eX5_go_3_1 p1 p2 p3 n1) s328 x253) → mh_W G (mh_XM l G (d + 2) (mh_Qi (P_eX5_go B D s0 p1 p2 p3))) mM_X5_go 70 [(0, .ref (G.2.2.2 23)), (1, .int p1), (2, .int p2), (3, .int p3), (4, .int x253)] [] s328 := by
              intro s328 hI_s328 hF_s328 hE3
              refine mw_iincR (k := 4) (1) (300) 73 rfl (fun z => [(4, .int z), (0, .ref (G.2.2.2 23)), (1, .int p1), (2, .int p2), (3, .int p3)]) dX5_go_70 rfl (by decide) (fun _ => rfl) r_x253 (by decide) (by decide) (fun x331 t332 r_x331 => ?_)
              refine mw_goto 76 rfl 3 dX5_go_73 (by decide) ?_
              exact mw_lv [1, 2, 3, 4, 0] rfl (ihn1 x331 s328 (mh_r_wk r_x331 (by decide)) hI_s328 hF_s328 (Eq.trans hE3 (mh_lbT (mh_einc t332 rfl) rfl)) (by have : x331.toInt = x253.toInt + (1) := t332; omega))
            refine mw_if_eq 51 rfl 70 dX5_go_48 (by decide) (fun c333 => ?_) (fun c333 => ?_)
            · skip
              have r_p3 : mh_r p3 (0) (0) := mh_eq1 (show p3.toInt = (0 : Int32).toInt from c333) r_p3 rc_0 (0) (0) (by decide)
              exact mw_lv [0, 1, 2, 3, 4] rfl (J70 s302 hI_s302 hF_s302 (Eq.trans hE2 (mh_ifT c333 rfl)))
            · skip
              have r_p3 : mh_r p3 (1) (1) := mh_ne1 (show p3.toInt ≠ (0 : Int32).toInt from c333) r_p3 rc_0 (1) (1) (by decide)
              refine mw_aload_n 52 rfl 0 dX5_go_51 rfl rfl ?_
              refine mw_geta 55 rfl dX5_go_52 gf_X5_24 rfl 28 (mh_rf hI_s302 32 rfl) ?_
              refine mw_iload 57 rfl 4 dX5_go_55  rfl ?_
              refine mw_iconst (v := 1) 58 rfl dX5_go_57 (by decide) ?_
              refine mw_iadd 59 rfl (1) (300) dX5_go_58 r_x253 rc_1 (by decide) (fun x334 t335 r_x334 => ?_)
              refine mw_dup2 60 rfl dX5_go_59 rfl rfl ?_
              refine mw_iald 61 rfl dX5_go_60 rfl r_x334 (by decide) (fun x336 t337 => ?_)
              refine mw_aload_n 62 rfl 0 dX5_go_61 rfl rfl ?_
              refine mw_geta 65 rfl dX5_go_62 gf_X5_24 rfl 28 (mh_rf hI_s302 32 rfl) ?_
              refine mw_iload 67 rfl 4 dX5_go_65  rfl ?_
              refine mw_iald 68 rfl dX5_go_67 rfl r_x253 (by decide) (fun x338 t339 => ?_)
              refine mw_ior_u 69 rfl dX5_go_68 (fun x340 t341 => ?_)
              refine mw_iast 70 rfl dX5_go_69 rfl r_x334 (by decide) (fun s342 t343 => ?_)
              have hI_s342 : mh_I B D s342 := by rw [t343]; exact wr_28 hI_s302
              have hF_s342 : mh_F S_eX5_go s0 s342 := by rw [t343]; exact mh_F_pI hF_s302 (mh_si 0 rfl)
              exact mw_lv [0, 1, 2, 3, 4] rfl (J70 s342 hI_s342 hF_s342 (Eq.trans hE2 (mh_ifF c333 (mh_lbT (mh_eadd t335) (mh_lbT t337 (mh_lbT t339 (mh_lbT t341 (mh_lbT t343 rfl))))))))
          refine mw_if_eq 41 rfl 47 dX5_go_38 (by decide) (fun c344 => ?_) (fun c344 => ?_)
          · skip
            have r_x296 : mh_r x296 (0) (0) := mh_eq1 (show x296.toInt = (0 : Int32).toInt from c344) (mh_r_full x296) rc_0 (0) (0) (by decide)
            exact mw_lv [0, 1, 2, 3, 4] rfl (J47 s254 hI_s254 hF_s254 (Eq.trans hE1 (mh_lbT (mh_eadd t288) (mh_lbT (mh_emin t290) (mh_ifT c291 (mh_lbS E_s293 (mh_ifT c295 (mh_lbT t297 (mh_ifT c344 rfl)))))))))
          · skip
            refine mw_aload_n 42 rfl 0 dX5_go_41 rfl rfl ?_
            refine mw_iload 44 rfl 4 dX5_go_42  rfl ?_
            refine mw_callVv [.int x253] [] 47 rfl dX5_go_44 ml_X5_56 mc_X5_goIn mk_X5_goIn rfl rfl (by decide) (w_eX5_goIn l G (d + 0) ⟨by omega, by omega⟩ hI_s254 x253 r_x253) rfl rfl (Nat.le_of_ble_eq_true rfl) (mh_rok (by omega) (by decide)) (fun s346 q347 => ?_)
            obtain ⟨E_s346, hI_s346, hG_s346⟩ := q347
            have hF_s346 : mh_F S_eX5_go s0 s346 := mh_F_tl hF_s254 hG_s346 (by decide +kernel)
            exact mw_lv [0, 1, 2, 3, 4] rfl (J47 s346 hI_s346 hF_s346 (Eq.trans hE1 (mh_lbT (mh_eadd t288) (mh_lbT (mh_emin t290) (mh_ifT c291 (mh_lbS E_s293 (mh_ifT c295 (mh_lbT t297 (mh_ifF c344 (mh_lbS E_s346 rfl))))))))))
        · skip
          have r_x292 : mh_r x292 (1) (1) := mh_ne1 (show x292.toInt ≠ (0 : Int32).toInt from c295) r_x292 rc_0 (1) (1) (by decide)
          refine mw_iload 30 rfl 4 dX5_go_28  rfl ?_
          exact mw_iret dX5_go_30 rfl ⟨x253, rfl, ⟨(mh_r_wk r_x253 (by decide)), (Eq.trans hE1 (mh_lbT (mh_eadd t288) (mh_lbT (mh_emin t290) (mh_ifT c291 (mh_lbS E_s293 (mh_ifF c295 rfl)))))), hI_s254, hF_s254⟩⟩
  exact mw_lv [1, 2, 3, 4, 0] rfl (L3 301 p2 s0 (mh_r_wk r_p2 (by decide)) hI0 hF0 (rfl) (by have := (r_p2).1; have := (r_p2).2; omega))

def S_eX5_leave : List (Nat × Nat) := [(28, 9999)]
def f_eX5_leave (s0 : mh_H) (p1 : Int32) (p2 : Int32) : mh_H := mh_lb (f_eJ7_fill_re s0 (0 : Int32)) (fun s9 => mh_lb ((1 : Int32) <<< (p1 &&& 31)) (fun x11 => mh_lb (mh_pI s9 28 p2.toNatClampNeg x11) (fun s13 => s13)))
def P_eX5_leave (B D : Int) (s0 : mh_H) (p1 : Int32) (p2 : Int32) : mh_H → Prop := fun s => f_eX5_leave s0 p1 p2 = s ∧ mh_I B D s ∧ mh_F S_eX5_leave s0 s
set_option maxRecDepth 100000 in
set_option maxHeartbeats 4000000 in
theorem w_eX5_leave (l : Launch) (G : mh_G) (d : Nat) {B D : Int} (hB : B ≤ 1980000000 ∧ D ≤ 1980000000) {s0 : mh_H} (hI0 : mh_I B D s0) (p1 : Int32) (p2 : Int32) (r_p2 : mh_r p2 (0) (299)) : mh_Mv l G (d + 1) mM_X5_leave [.ref (G.2.2.2 23), .int p1, .int p2] s0 (P_eX5_leave B D s0 p1 p2) := by
  refine mh_enter (lv := [(0, .ref (G.2.2.2 23)), (1, .int p1), (2, .int p2)]) (by decide) rfl (Nat.le_of_ble_eq_true rfl) ?_
  have hF0 : mh_F S_eX5_leave s0 s0 := mh_F_rf
  refine mw_aload_n 1 rfl 0 dX5_leave_0 rfl rfl ?_
  refine mw_geta 4 rfl dX5_leave_1 gf_X5_24 rfl 28 (mh_rf hI0 32 rfl) ?_
  refine mw_iconst (v := 0) 5 rfl dX5_leave_4 (by decide) ?_
  refine mw_callSv [.ref (G.2.2.2 28), .int (0)] [] 8 rfl dX5_leave_5 ml_X5_40 mc_J7_fill_53178 mk_J7_fill_53178 (w_eJ7_fill_re l G (d + 0) ⟨by omega, by omega⟩ hI0 (0)) rfl rfl (Nat.le_of_ble_eq_true rfl) (mh_rok (by omega) (by decide)) (fun s9 q10 => ?_)
  obtain ⟨E_s9, hI_s9, hG_s9⟩ := q10
  have hF_s9 : mh_F S_eX5_leave s0 s9 := mh_F_tl hF0 hG_s9 (by decide +kernel)
  refine mw_aload_n 9 rfl 0 dX5_leave_8 rfl rfl ?_
  refine mw_geta 12 rfl dX5_leave_9 gf_X5_24 rfl 28 (mh_rf hI_s9 32 rfl) ?_
  refine mw_iload_n 13 rfl 2 dX5_leave_12 rfl rfl ?_
  refine mw_iconst (v := 1) 14 rfl dX5_leave_13 (by decide) ?_
  refine mw_iload_n 15 rfl 1 dX5_leave_14 rfl rfl ?_
  refine mw_ishl_u 16 rfl dX5_leave_15 (fun x11 t12 => ?_)
  refine mw_iast 17 rfl dX5_leave_16 rfl r_p2 (by decide) (fun s13 t14 => ?_)
  have hI_s13 : mh_I B D s13 := by rw [t14]; exact wr_28 hI_s9
  have hF_s13 : mh_F S_eX5_leave s0 s13 := by rw [t14]; exact mh_F_pI hF_s9 (mh_si 0 rfl)
  exact mw_vret dX5_leave_17 rfl ⟨rfl, ⟨(mh_lbS E_s9 (mh_lbT t12 (mh_lbT t14 rfl))), hI_s13, hF_s13⟩⟩

def S_eX5_look (kv : Nat) (kl : Nat) : List (Nat × Nat) := [(kl + 6, 9999), (kl + 7, 9999), (27, 9999)]
def j_eX5_look_36_2 (lo_2_1 : mh_H → Int32 → mh_H) (s280 : mh_H) (x249 : Int32) (x279 : Int32) : mh_H := mh_lb (mh_pI s280 27 x249.toNatClampNeg x279) (fun s285 => mh_lb (x249 + (1 : Int32)) (fun x287 => (lo_2_1 s285 x287)))
def ls_eX5_look_2_1 (kl : Nat) (kv : Nat) (lo_2_1 : mh_H → Int32 → mh_H) (s250 : mh_H) (x249 : Int32) : mh_H := if x249.toInt < (20 : Int32).toInt then mh_lb (f_eX5_isTold s250 x249) (fun x270 => if x270.toInt = 0 then (j_eX5_look_36_2 lo_2_1 s250 x249 (0 : Int32)) else mh_lb (s250.1 26 x249.toNatClampNeg) (fun x290 => mh_lb2 (f_eX1_yards s250 kv kl x290) (fun x292 s293 => (j_eX5_look_36_2 lo_2_1 s293 x249 x292)))) else s250
def l_eX5_look_2_1 (kl : Nat) (kv : Nat) : Nat → mh_H → Int32 → mh_H
  | 0 => fun s250 _ => s250
  | n + 1 => ls_eX5_look_2_1 kl kv (l_eX5_look_2_1 kl kv n)
theorem l_eX5_look_2_1_s (kl : Nat) (kv : Nat) (n : Nat) : l_eX5_look_2_1 kl kv (n + 1) = ls_eX5_look_2_1 kl kv (l_eX5_look_2_1 kl kv n) := rfl
def f_eX5_look (s0 : mh_H) (kv : Nat) (kl : Nat) : mh_H := (l_eX5_look_2_1 kl kv 21 s0 (0 : Int32))
def P_eX5_look (B D : Int) (s0 : mh_H) (kv : Nat) (kl : Nat) : mh_H → Prop := fun s => f_eX5_look s0 kv kl = s ∧ mh_I B D s ∧ mh_F (S_eX5_look kv kl) s0 s
set_option maxRecDepth 100000 in
set_option maxHeartbeats 4000000 in
theorem w_eX5_look (l : Launch) (G : mh_G) (d : Nat) {B D : Int} (hB : B ≤ 1900000000 ∧ D ≤ 1900000000) {s0 : mh_H} (hI0 : mh_I B D s0) (kv : Nat) (hkv : mh_isV kv) (kl : Nat) (hkl : mh_isL kl) : mh_Mv l G (d + 5) mM_X5_look [.ref (G.2.2.2 23), .ref (G.2.2.2 kv), .ref (G.2.2.2 kl)] s0 (P_eX5_look B D s0 kv kl) := by
  refine mh_enter (lv := [(0, .ref (G.2.2.2 23)), (1, .ref (G.2.2.2 kv)), (2, .ref (G.2.2.2 kl))]) (by decide) rfl (Nat.le_of_ble_eq_true rfl) ?_
  have hF0 : mh_F (S_eX5_look kv kl) s0 s0 := mh_F_rf
  refine mw_iconst (v := 0) 1 rfl dX5_look_0 (by decide) ?_
  refine mw_istore_n 2 rfl [(3, .int (0)), (0, .ref (G.2.2.2 23)), (1, .ref (G.2.2.2 kv)), (2, .ref (G.2.2.2 kl))] dX5_look_1 rfl (by decide) rfl ?_
  have L2 : ∀ n1 : Nat, ∀ (x249 : Int32) (s250 : mh_H), mh_r x249 (0) (20) → mh_I B D s250 → mh_F (S_eX5_look kv kl) s0 s250 → (f_eX5_look s0 kv kl = l_eX5_look_2_1 kl kv n1 s250 x249) → (20) - x249.toInt < (n1 : Int) → mh_W G (mh_XM l G (d + 5) (mh_Qv (P_eX5_look B D s0 kv kl))) mM_X5_look 2 [(0, .ref (G.2.2.2 23)), (1, .ref (G.2.2.2 kv)), (2, .ref (G.2.2.2 kl)), (3, .int x249)] [] s250 := by
    intro n1
    induction n1 with
    | zero =>
      intro x249 s250 r_x249 hI_s250 hF_s250 hE1 hmn1
      exact absurd hmn1 (by have := r_x249.1; have := r_x249.2; omega)
    | succ n1 ihn1 =>
      intro x249 s250 r_x249 hI_s250 hF_s250 hE1 hmn1
      rw [l_eX5_look_2_1_s] at hE1
      refine mw_iload_n 3 rfl 3 dX5_look_2 rfl rfl ?_
      refine mw_bipush (v := 20) 5 rfl dX5_look_3 (by decide) ?_
      refine mw_icmp_ge 8 rfl 43 dX5_look_5 (by decide) (fun c269 => ?_) (fun c269 => ?_)
      · skip
        have r_x249 : mh_r x249 (20) (20) := mh_le2 c269 rc_20 r_x249 (20) (by decide)
        exact mw_vret dX5_look_43 rfl ⟨rfl, ⟨(Eq.trans hE1 (mh_ifF (Int.not_lt.mpr c269) rfl)), hI_s250, hF_s250⟩⟩
      · skip
        have r_x249 : mh_r x249 (0) (19) := mh_lt1 c269 r_x249 rc_20 (19) (by decide)
        refine mw_aload_n 9 rfl 0 dX5_look_8 rfl rfl ?_
        refine mw_geta 12 rfl dX5_look_9 gf_X5_21 rfl 27 (mh_rf hI_s250 31 rfl) ?_
        refine mw_iload_n 13 rfl 3 dX5_look_12 rfl rfl ?_
        refine mw_aload_n 14 rfl 0 dX5_look_13 rfl rfl ?_
        refine mw_iload_n 15 rfl 3 dX5_look_14 rfl rfl ?_
        refine mw_callVi [.int x249] [.int x249, .ref (G.2.2.2 27)] 18 rfl dX5_look_15 ml_X5_31 mc_X5_isTold mk_X5_isTold rfl rfl (by decide) (w_eX5_isTold l G (d + 4) ⟨by omega, by omega⟩ hI_s250 x249) rfl rfl (Nat.le_of_ble_eq_true rfl) (mh_rok (by omega) (by decide)) (fun x270 s271 q272 => ?_)
        obtain ⟨r_x270, E_s271, rfl⟩ := q272
        have J36 : ∀ (x279 : Int32) (s280 : mh_H), mh_r x279 (0) (999) → mh_I B D s280 → mh_F (S_eX5_look kv kl) s0 s280 → (f_eX5_look s0 kv kl = j_eX5_look_36_2 (l_eX5_look_2_1 kl kv n1) s280 x249 x279) → mh_W G (mh_XM l G (d + 5) (mh_Qv (P_eX5_look B D s0 kv kl))) mM_X5_look 36 [(0, .ref (G.2.2.2 23)), (1, .ref (G.2.2.2 kv)), (2, .ref (G.2.2.2 kl)), (3, .int x249)] [.int x279, .int x249, .ref (G.2.2.2 27)] s280 := by
          intro x279 s280 r_x279 hI_s280 hF_s280 hE2
          refine mw_iast 37 rfl dX5_look_36 rfl r_x249 (by decide) (fun s285 t286 => ?_)
          have hI_s285 : mh_I B D s285 := by rw [t286]; exact wr_27 hI_s280 r_x279
          have hF_s285 : mh_F (S_eX5_look kv kl) s0 s285 := by rw [t286]; exact mh_F_pI hF_s280 (mh_si 2 rfl)
          refine mw_iincR (k := 3) (1) (20) 40 rfl (fun z => [(3, .int z), (0, .ref (G.2.2.2 23)), (1, .ref (G.2.2.2 kv)), (2, .ref (G.2.2.2 kl))]) dX5_look_37 rfl (by decide) (fun _ => rfl) r_x249 (by decide) (by decide) (fun x287 t288 r_x287 => ?_)
          refine mw_goto 43 rfl 2 dX5_look_40 (by decide) ?_
          exact mw_lv [1, 2, 3, 0] rfl (ihn1 x287 s285 (mh_r_wk r_x287 (by decide)) hI_s285 hF_s285 (Eq.trans hE2 (mh_lbT t286 (mh_lbT (mh_einc t288 rfl) rfl))) (by have : x287.toInt = x249.toInt + (1) := t288; omega))
        refine mw_if_eq 21 rfl 35 dX5_look_18 (by decide) (fun c289 => ?_) (fun c289 => ?_)
        · skip
          have r_x270 : mh_r x270 (0) (0) := mh_eq1 (show x270.toInt = (0 : Int32).toInt from c289) r_x270 rc_0 (0) (0) (by decide)
          refine mw_iconst (v := 0) 36 rfl dX5_look_35 (by decide) ?_
          exact mw_lv [0, 1, 2, 3] rfl (J36 (0) s250 (mh_r_wk rc_0 (by decide)) hI_s250 hF_s250 (Eq.trans hE1 (mh_ifT c269 (mh_lbS E_s271 (mh_ifT c289 rfl)))))
        · skip
          have r_x270 : mh_r x270 (1) (1) := mh_ne1 (show x270.toInt ≠ (0 : Int32).toInt from c289) r_x270 rc_0 (1) (1) (by decide)
          refine mw_aload_n 22 rfl 2 dX5_look_21 rfl rfl ?_
          refine mw_aload_n 23 rfl 1 dX5_look_22 rfl rfl ?_
          refine mw_aload_n 24 rfl 0 dX5_look_23 rfl rfl ?_
          refine mw_geta 27 rfl dX5_look_24 gf_X5_18 rfl 26 (mh_rf hI_s250 30 rfl) ?_
          refine mw_iload_n 28 rfl 3 dX5_look_27 rfl rfl ?_
          refine mw_iald 29 rfl dX5_look_28 rfl r_x249 (by decide) (fun x290 t291 => ?_)
          have r_x290 : mh_r x290 (0) (143) := by rw [t291]; exact rd_26 hI_s250 _
          refine mw_callVi [.ref (G.2.2.2 kv), .int x290] [.int x249, .ref (G.2.2.2 27)] 32 rfl dX5_look_29 ml_X5_35 mc_X1_yards mk_X1_yards (ly_L hkl) rfl (by decide) (w_eX1_yards l G (d + 0) ⟨by omega, by omega⟩ hI_s250 kv hkv kl hkl x290 r_x290) rfl rfl (Nat.le_of_ble_eq_true rfl) (mh_rok (by omega) (by decide)) (fun x292 s293 q294 => ?_)
          obtain ⟨r_x292, E_s293, hI_s293, hG_s293⟩ := q294
          have hF_s293 : mh_F (S_eX5_look kv kl) s0 s293 := mh_F_tl hF_s250 hG_s293 (by rcases hkl with rfl | rfl <;> rcases hkv with rfl | rfl | rfl <;> decide +kernel)
          refine mw_goto 35 rfl 36 dX5_look_32 (by decide) ?_
          exact mw_lv [0, 1, 2, 3] rfl (J36 x292 s293 r_x292 hI_s293 hF_s293 (Eq.trans hE1 (mh_ifT c269 (mh_lbS E_s271 (mh_ifF c289 (mh_lbT t291 (mh_lb2T E_s293 rfl)))))))
  exact mw_lv [1, 2, 3, 0] rfl (L2 21 (0) s0 (mh_r_wk rc_0 (by decide)) hI0 hF0 (rfl) (by have := (rc_0).1; have := (rc_0).2; omega))

def f_eX5_meet (s0 : mh_H) (p1 : Int32) (p2 : Int32) : Int32 := mh_lb (f_eX5_isTold s0 p1) (fun x16 => if x16.toInt = 0 then (0 : Int32) else mh_lb (f_eX5_isTold s0 p2) (fun x20 => if x20.toInt = 0 then (0 : Int32) else mh_lb (s0.1 24 p1.toNatClampNeg) (fun x24 => mh_lb (s0.1 24 p2.toNatClampNeg) (fun x26 => mh_lb (x24 &&& x26) (fun x28 => if x28.toInt = 0 then (0 : Int32) else (1 : Int32))))))
def P_eX5_meet (B D : Int) (s0 : mh_H) (p1 : Int32) (p2 : Int32) : Int32 → mh_H → Prop := fun z s => mh_r z (0) (1) ∧ f_eX5_meet s0 p1 p2 = z ∧ s0 = s
set_option maxRecDepth 100000 in
set_option maxHeartbeats 4000000 in
theorem w_eX5_meet (l : Launch) (G : mh_G) (d : Nat) {B D : Int} (hB : B ≤ 1980000000 ∧ D ≤ 1980000000) {s0 : mh_H} (hI0 : mh_I B D s0) (p1 : Int32) (r_p1 : mh_r p1 (0) (19)) (p2 : Int32) (r_p2 : mh_r p2 (0) (19)) : mh_Mi l G (d + 1) mM_X5_meet [.ref (G.2.2.2 23), .int p1, .int p2] s0 (P_eX5_meet B D s0 p1 p2) := by
  refine mh_enter (lv := [(0, .ref (G.2.2.2 23)), (1, .int p1), (2, .int p2)]) (by decide) rfl (Nat.le_of_ble_eq_true rfl) ?_
  refine mw_aload_n 1 rfl 0 dX5_meet_0 rfl rfl ?_
  refine mw_iload_n 2 rfl 1 dX5_meet_1 rfl rfl ?_
  refine mw_callVi [.int p1] [] 5 rfl dX5_meet_2 ml_X5_31 mc_X5_isTold mk_X5_isTold rfl rfl (by decide) (w_eX5_isTold l G (d + 0) ⟨by omega, by omega⟩ hI0 p1) rfl rfl (Nat.le_of_ble_eq_true rfl) (mh_rok (by omega) (by decide)) (fun x16 s17 q18 => ?_)
  obtain ⟨r_x16, E_s17, rfl⟩ := q18
  refine mw_if_eq 8 rfl 36 dX5_meet_5 (by decide) (fun c19 => ?_) (fun c19 => ?_)
  · skip
    have r_x16 : mh_r x16 (0) (0) := mh_eq1 (show x16.toInt = (0 : Int32).toInt from c19) r_x16 rc_0 (0) (0) (by decide)
    refine mw_iconst (v := 0) 37 rfl dX5_meet_36 (by decide) ?_
    exact mw_zret dX5_meet_37 rfl (mh_r_wk rc_0 (by decide)) ⟨(0), rfl, ⟨(mh_r_wk rc_0 (by decide)), (mh_lbS E_s17 (mh_ifT c19 rfl)), rfl⟩⟩
  · skip
    have r_x16 : mh_r x16 (1) (1) := mh_ne1 (show x16.toInt ≠ (0 : Int32).toInt from c19) r_x16 rc_0 (1) (1) (by decide)
    refine mw_aload_n 9 rfl 0 dX5_meet_8 rfl rfl ?_
    refine mw_iload_n 10 rfl 2 dX5_meet_9 rfl rfl ?_
    refine mw_callVi [.int p2] [] 13 rfl dX5_meet_10 ml_X5_31 mc_X5_isTold mk_X5_isTold rfl rfl (by decide) (w_eX5_isTold l G (d + 0) ⟨by omega, by omega⟩ hI0 p2) rfl rfl (Nat.le_of_ble_eq_true rfl) (mh_rok (by omega) (by decide)) (fun x20 s21 q22 => ?_)
    obtain ⟨r_x20, E_s21, rfl⟩ := q22
    refine mw_if_eq 16 rfl 36 dX5_meet_13 (by decide) (fun c23 => ?_) (fun c23 => ?_)
    · skip
      have r_x20 : mh_r x20 (0) (0) := mh_eq1 (show x20.toInt = (0 : Int32).toInt from c23) r_x20 rc_0 (0) (0) (by decide)
      refine mw_iconst (v := 0) 37 rfl dX5_meet_36 (by decide) ?_
      exact mw_zret dX5_meet_37 rfl (mh_r_wk rc_0 (by decide)) ⟨(0), rfl, ⟨(mh_r_wk rc_0 (by decide)), (mh_lbS E_s17 (mh_ifF c19 (mh_lbS E_s21 (mh_ifT c23 rfl)))), rfl⟩⟩
    · skip
      have r_x20 : mh_r x20 (1) (1) := mh_ne1 (show x20.toInt ≠ (0 : Int32).toInt from c23) r_x20 rc_0 (1) (1) (by decide)
      refine mw_aload_n 17 rfl 0 dX5_meet_16 rfl rfl ?_
      refine mw_geta 20 rfl dX5_meet_17 gf_X5_9 rfl 24 (mh_rf hI0 28 rfl) ?_
      refine mw_iload_n 21 rfl 1 dX5_meet_20 rfl rfl ?_
      refine mw_iald 22 rfl dX5_meet_21 rfl r_p1 (by decide) (fun x24 t25 => ?_)
      refine mw_aload_n 23 rfl 0 dX5_meet_22 rfl rfl ?_
      refine mw_geta 26 rfl dX5_meet_23 gf_X5_9 rfl 24 (mh_rf hI0 28 rfl) ?_
      refine mw_iload_n 27 rfl 2 dX5_meet_26 rfl rfl ?_
      refine mw_iald 28 rfl dX5_meet_27 rfl r_p2 (by decide) (fun x26 t27 => ?_)
      refine mw_iand_u 29 rfl dX5_meet_28 (fun x28 t29 => ?_)
      refine mw_if_eq 32 rfl 36 dX5_meet_29 (by decide) (fun c30 => ?_) (fun c30 => ?_)
      · skip
        have r_x28 : mh_r x28 (0) (0) := mh_eq1 (show x28.toInt = (0 : Int32).toInt from c30) (mh_r_full x28) rc_0 (0) (0) (by decide)
        refine mw_iconst (v := 0) 37 rfl dX5_meet_36 (by decide) ?_
        exact mw_zret dX5_meet_37 rfl (mh_r_wk rc_0 (by decide)) ⟨(0), rfl, ⟨(mh_r_wk rc_0 (by decide)), (mh_lbS E_s17 (mh_ifF c19 (mh_lbS E_s21 (mh_ifF c23 (mh_lbT t25 (mh_lbT t27 (mh_lbT t29 (mh_ifT c30 rfl)))))))), rfl⟩⟩
      · skip
        refine mw_iconst (v := 1) 33 rfl dX5_meet_32 (by decide) ?_
        refine mw_goto 36 rfl 37 dX5_meet_33 (by decide) ?_
        exact mw_zret dX5_meet_37 rfl (mh_r_wk rc_1 (by decide)) ⟨(1), rfl, ⟨(mh_r_wk rc_1 (by decide)), (mh_lbS E_s17 (mh_ifF c19 (mh_lbS E_s21 (mh_ifF c23 (mh_lbT t25 (mh_lbT t27 (mh_lbT t29 (mh_ifF c30 rfl)))))))), rfl⟩⟩

def S_eX6_look (kv : Nat) (kl : Nat) : List (Nat × Nat) := [(22, 0), (22, 1), (22, 2), (kl + 6, 9999), (kl + 7, 9999)]
def j_eX6_look_81_2 (lo_18_1 : mh_H → Int32 → mh_H) (s720 : mh_H) (x663 : Int32) : mh_H := mh_lb (x663 + (1 : Int32)) (fun x723 => (lo_18_1 s720 x723))
def j_eX6_look_65_3 (lo_18_1 : mh_H → Int32 → mh_H) (s730 : mh_H) (x663 : Int32) (x696 : Int32) (x738 : Int32) : mh_H := mh_lb (mh_pI s730 22 1 x738) (fun s747 => mh_lb (s747.1 22 2) (fun x749 => mh_lb (mh_ma32 x749 x696) (fun x751 => mh_lb (mh_pI s747 22 2 x751) (fun s753 => (j_eX6_look_81_2 lo_18_1 s753 x663)))))
def ls_eX6_look_18_1 (kl : Nat) (kv : Nat) (lo_18_1 : mh_H → Int32 → mh_H) (s664 : mh_H) (x663 : Int32) : mh_H := if x663.toInt < (144 : Int32).toInt then mh_lb2 (f_eX1_top s664 kv kl x663) (fun x696 s697 => if 0 < x696.toInt then mh_lb (s697.1 22 0) (fun x726 => mh_lb (x726 + (1 : Int32)) (fun x728 => mh_lb (mh_pI s697 22 0 x728) (fun s730 => if x728.toInt = (1 : Int32).toInt then (j_eX6_look_65_3 lo_18_1 s730 x663 x696 x663) else mh_lb (s730.1 22 1) (fun x756 => (j_eX6_look_65_3 lo_18_1 s730 x663 x696 x756))))) else (j_eX6_look_81_2 lo_18_1 s697 x663)) else s664
def l_eX6_look_18_1 (kl : Nat) (kv : Nat) : Nat → mh_H → Int32 → mh_H
  | 0 => fun s664 _ => s664
  | n + 1 => ls_eX6_look_18_1 kl kv (l_eX6_look_18_1 kl kv n)
theorem l_eX6_look_18_1_s (kl : Nat) (kv : Nat) (n : Nat) : l_eX6_look_18_1 kl kv (n + 1) = ls_eX6_look_18_1 kl kv (l_eX6_look_18_1 kl kv n) := rfl
def f_eX6_look (s0 : mh_H) (kv : Nat) (kl : Nat) : mh_H := mh_lb (mh_pI s0 22 0 (0 : Int32)) (fun s362 => mh_lb (mh_pI s362 22 1 (-2 : Int32)) (fun s364 => mh_lb (mh_pI s364 22 2 (0 : Int32)) (fun s366 => (l_eX6_look_18_1 kl kv 145 s366 (0 : Int32)))))
def P_eX6_look (B D : Int) (s0 : mh_H) (kv : Nat) (kl : Nat) : mh_H → Prop := fun s => f_eX6_look s0 kv kl = s ∧ mh_I B D s ∧ mh_F (S_eX6_look kv kl) s0 s
set_option maxRecDepth 100000 in
set_option maxHeartbeats 4000000 in
theorem w_eX6_look (l : Launch) (G : mh_G) (d : Nat) {B D : Int} (hB : B ≤ 1900000000 ∧ D ≤ 1900000000) {s0 : mh_H} (hI0 : mh_I B D s0) (kv : Nat) (hkv : mh_isV kv) (kl : Nat) (hkl : mh_isL kl) : mh_Mv l G (d + 5) mM_X6_look [.ref (G.2.2.2 22), .ref (G.2.2.2 kv), .ref (G.2.2.2 kl)] s0 (P_eX6_look B D s0 kv kl) := by
  refine mh_enter (lv := [(0, .ref (G.2.2.2 22)), (1, .ref (G.2.2.2 kv)), (2, .ref (G.2.2.2 kl))]) (by decide) rfl (Nat.le_of_ble_eq_true rfl) ?_
  have hF0 : mh_F (S_eX6_look kv kl) s0 s0 := mh_F_rf
  refine mw_aload_n 1 rfl 0 dX6_look_0 rfl rfl ?_
  refine mw_iconst (v := 0) 2 rfl dX6_look_1 (by decide) ?_
  refine mw_puti 5 rfl dX6_look_2 pf_X6_9 rfl (fun s362 t363 => ?_)
  have hI_s362 : mh_I B D s362 := by rw [t363]; exact wr_22_0 hI0
  have hF_s362 : mh_F (S_eX6_look kv kl) s0 s362 := by rw [t363]; exact mh_F_pI hF0 (mh_sj 0 rfl)
  refine mw_aload_n 6 rfl 0 dX6_look_5 rfl rfl ?_
  refine mw_bipush (v := -2) 8 rfl dX6_look_6 (by decide) ?_
  refine mw_puti 11 rfl dX6_look_8 pf_X6_15 rfl (fun s364 t365 => ?_)
  have hI_s364 : mh_I B D s364 := by rw [t365]; exact wr_22_1 hI_s362
  have hF_s364 : mh_F (S_eX6_look kv kl) s0 s364 := by rw [t365]; exact mh_F_pI hF_s362 (mh_sj 1 rfl)
  refine mw_aload_n 12 rfl 0 dX6_look_11 rfl rfl ?_
  refine mw_iconst (v := 0) 13 rfl dX6_look_12 (by decide) ?_
  refine mw_puti 16 rfl dX6_look_13 pf_X6_18 rfl (fun s366 t367 => ?_)
  have hI_s366 : mh_I B D s366 := by rw [t367]; exact wr_22_2 hI_s364
  have hF_s366 : mh_F (S_eX6_look kv kl) s0 s366 := by rw [t367]; exact mh_F_pI hF_s364 (mh_sj 2 rfl)
  refine mw_iconst (v := 0) 17 rfl dX6_look_16 (by decide) ?_
  refine mw_istore_n 18 rfl [(3, .int (0)), (0, .ref (G.2.2.2 22)), (1, .ref (G.2.2.2 kv)), (2, .ref (G.2.2.2 kl))] dX6_look_17 rfl (by decide) rfl ?_
  have L18 : ∀ n1 : Nat, ∀ (x663 : Int32) (s664 : mh_H), mh_r x663 (0) (144) → mh_I B D s664 → mh_F (S_eX6_look kv kl) s0 s664 → (f_eX6_look s0 kv kl = l_eX6_look_18_1 kl kv n1 s664 x663) → (144) - x663.toInt < (n1 : Int) → mh_W G (mh_XM l G (d + 5) (mh_Qv (P_eX6_look B D s0 kv kl))) mM_X6_look 18 [(0, .ref (G.2.2.2 22)), (1, .ref (G.2.2.2 kv)), (2, .ref (G.2.2.2 kl)), (3, .int x663)] [] s664 := by
    intro n1
    induction n1 with
    | zero =>
      intro x663 s664 r_x663 hI_s664 hF_s664 hE1 hmn1
      exact absurd hmn1 (by have := r_x663.1; have := r_x663.2; omega)
    | succ n1 ihn1 =>
      intro x663 s664 r_x663 hI_s664 hF_s664 hE1 hmn1
      rw [l_eX6_look_18_1_s] at hE1
      refine mw_iload_n 19 rfl 3 dX6_look_18 rfl rfl ?_
      refine mw_sipush (v := 144) 22 rfl dX6_look_19 (by decide) ?_
      refine mw_icmp_ge 25 rfl 87 dX6_look_22 (by decide) (fun c695 => ?_) (fun c695 => ?_)
      · skip
        have r_x663 : mh_r x663 (144) (144) := mh_le2 c695 rc_144 r_x663 (144) (by decide)
        exact mw_vret dX6_look_87 rfl ⟨rfl, ⟨(Eq.trans hE1 (mh_ifF (Int.not_lt.mpr c695) rfl)), hI_s664, hF_s664⟩⟩
      · skip
        have r_x663 : mh_r x663 (0) (143) := mh_lt1 c695 r_x663 rc_144 (143) (by decide)
        refine mw_aload_n 26 rfl 2 dX6_look_25 rfl rfl ?_
        refine mw_aload_n 27 rfl 1 dX6_look_26 rfl rfl ?_
        refine mw_iload_n 28 rfl 3 dX6_look_27 rfl rfl ?_
        refine mw_callVi [.ref (G.2.2.2 kv), .int x663] [] 31 rfl dX6_look_28 ml_X6_21 mc_X1_top mk_X1_top (ly_L hkl) rfl (by decide) (w_eX1_top l G (d + 0) ⟨by omega, by omega⟩ hI_s664 kv hkv kl hkl x663 r_x663) rfl rfl (Nat.le_of_ble_eq_true rfl) (mh_rok (by omega) (by decide)) (fun x696 s697 q698 => ?_)
        obtain ⟨r_x696, E_s697, hI_s697, hG_s697⟩ := q698
        have hF_s697 : mh_F (S_eX6_look kv kl) s0 s697 := mh_F_tl hF_s664 hG_s697 (by rcases hkl with rfl | rfl <;> rcases hkv with rfl | rfl | rfl <;> decide +kernel)
        refine mw_istore 33 rfl [(4, .int x696), (0, .ref (G.2.2.2 22)), (1, .ref (G.2.2.2 kv)), (2, .ref (G.2.2.2 kl)), (3, .int x663)] dX6_look_31  (by decide) rfl ?_
        refine mw_iload 35 rfl 0 dX6_look_33  rfl ?_
        have J81 : ∀  (s720 : mh_H), mh_I B D s720 → mh_F (S_eX6_look kv kl) s0 s720 → (f_eX6_look s0 kv kl = j_eX6_look_81_2 (l_eX6_look_18_1 kl kv n1) s720 x663) → mh_W G (mh_XM l G (d + 5) (mh_Qv (P_eX6_look B D s0 kv kl))) mM_X6_look 81 [(0, .ref (G.2.2.2 22)), (1, .ref (G.2.2.2 kv)), (2, .ref (G.2.2.2 kl)), (3, .int x663), (4, .int x696)] [] s720 := by
          intro s720 hI_s720 hF_s720 hE2
          refine mw_iincR (k := 3) (1) (144) 84 rfl (fun z => [(3, .int z), (0, .ref (G.2.2.2 22)), (1, .ref (G.2.2.2 kv)), (2, .ref (G.2.2.2 kl)), (4, .int x696)]) dX6_look_81 rfl (by decide) (fun _ => rfl) r_x663 (by decide) (by decide) (fun x723 t724 r_x723 => ?_)
          refine mw_goto 87 rfl 18 dX6_look_84 (by decide) ?_
          exact mw_lv [1, 2, 3, 0] rfl (ihn1 x723 s720 (mh_r_wk r_x723 (by decide)) hI_s720 hF_s720 (Eq.trans hE2 (mh_lbT (mh_einc t724 rfl) rfl)) (by have : x723.toInt = x663.toInt + (1) := t724; omega))
        refine mw_if_le 38 rfl 81 dX6_look_35 (by decide) (fun c725 => ?_) (fun c725 => ?_)
        · skip
          have r_x696 : mh_r x696 (-2147483648) (0) := mh_le1 (show x696.toInt ≤ (0 : Int32).toInt from c725) r_x696 rc_0 (0) (by decide)
          exact mw_lv [1, 2, 3, 4, 0] rfl (J81 s697 hI_s697 hF_s697 (Eq.trans hE1 (mh_ifT c695 (mh_lb2T E_s697 (mh_ifF (Int.not_lt.mpr c725) rfl)))))
        · skip
          have r_x696 : mh_r x696 (1) (2147483647) := mh_lt2 (show (0 : Int32).toInt < x696.toInt from c725) rc_0 r_x696 (1) (by decide)
          refine mw_aload_n 39 rfl 1 dX6_look_38 rfl rfl ?_
          refine mw_dup 40 rfl dX6_look_39 rfl ?_
          refine mw_geti 43 rfl dX6_look_40 gf_X6_9 rfl (fun x726 t727 => ?_)
          refine mw_iconst (v := 1) 44 rfl dX6_look_43 (by decide) ?_
          refine mw_iadd_u 45 rfl dX6_look_44 (fun x728 t729 => ?_)
          refine mw_puti 48 rfl dX6_look_45 pf_X6_9 rfl (fun s730 t731 => ?_)
          have hI_s730 : mh_I B D s730 := by rw [t731]; exact wr_22_0 hI_s697
          have hF_s730 : mh_F (S_eX6_look kv kl) s0 s730 := by rw [t731]; exact mh_F_pI hF_s697 (mh_sj 0 rfl)
          refine mw_aload_n 49 rfl 1 dX6_look_48 rfl rfl ?_
          refine mw_aload_n 50 rfl 1 dX6_look_49 rfl rfl ?_
          refine mw_geti 53 rfl dX6_look_50 gf_X6_9 rfl (fun x732 t733 => ?_)
          have t734 : x728 = s730.1 22 0 := by rw [t731]; exact mh_pI_s.symm
          obtain rfl : x728 = x732 := t734.trans t733.symm
          refine mw_iconst (v := 1) 54 rfl dX6_look_53 (by decide) ?_
          have J65 : ∀ (x738 : Int32), (f_eX6_look s0 kv kl = j_eX6_look_65_3 (l_eX6_look_18_1 kl kv n1) s730 x663 x696 x738) → mh_W G (mh_XM l G (d + 5) (mh_Qv (P_eX6_look B D s0 kv kl))) mM_X6_look 65 [(0, .ref (G.2.2.2 22)), (1, .ref (G.2.2.2 kv)), (2, .ref (G.2.2.2 kl)), (3, .int x663), (4, .int x696)] [.int x738, .ref (G.2.2.2 22)] s730 := by
            intro x738 hE3
            refine mw_puti 68 rfl dX6_look_65 pf_X6_15 rfl (fun s747 t748 => ?_)
            have hI_s747 : mh_I B D s747 := by rw [t748]; exact wr_22_1 hI_s730
            have hF_s747 : mh_F (S_eX6_look kv kl) s0 s747 := by rw [t748]; exact mh_F_pI hF_s730 (mh_sj 1 rfl)
            refine mw_aload_n 69 rfl 0 dX6_look_68 rfl rfl ?_
            refine mw_aload_n 70 rfl 0 dX6_look_69 rfl rfl ?_
            refine mw_geti 73 rfl dX6_look_70 gf_X6_18 rfl (fun x749 t750 => ?_)
            refine mw_iload 75 rfl 4 dX6_look_73  rfl ?_
            refine mw_mmax (1) (2147483647) 78 rfl dX6_look_75 ml_X6_27 (mh_r_full x749) r_x696 (by decide) (mh_mr (D := d + 5) (by omega) (Nat.le_of_ble_eq_true rfl)) (fun x751 t752 r_x751 => ?_)
            refine mw_puti 81 rfl dX6_look_78 pf_X6_18 rfl (fun s753 t754 => ?_)
            have hI_s753 : mh_I B D s753 := by rw [t754]; exact wr_22_2 hI_s747
            have hF_s753 : mh_F (S_eX6_look kv kl) s0 s753 := by rw [t754]; exact mh_F_pI hF_s747 (mh_sj 2 rfl)
            exact mw_lv [0, 1, 2, 3, 4] rfl (J81 s753 hI_s753 hF_s753 (Eq.trans hE3 (mh_lbT t748 (mh_lbT t750 (mh_lbT (mh_emax t752) (mh_lbT t754 rfl))))))
          refine mw_icmp_ne 57 rfl 61 dX6_look_54 (by decide) (fun c755 => ?_) (fun c755 => ?_)
          · skip
            refine mw_aload_n 62 rfl 1 dX6_look_61 rfl rfl ?_
            refine mw_geti 65 rfl dX6_look_62 gf_X6_15 rfl (fun x756 t757 => ?_)
            exact mw_lv [1, 2, 3, 4, 0] rfl (J65 x756 (Eq.trans hE1 (mh_ifT c695 (mh_lb2T E_s697 (mh_ifT c725 (mh_lbT t727 (mh_lbT t729 (mh_lbT t731 (mh_ifF c755 (mh_lbT t757 rfl))))))))))
          · skip
            have r_x728 : mh_r x728 (1) (1) := mh_eq1 c755 (mh_r_full x728) rc_1 (1) (1) (by decide)
            refine mw_iload_n 58 rfl 4 dX6_look_57 rfl rfl ?_
            refine mw_goto 61 rfl 65 dX6_look_58 (by decide) ?_
            exact mw_lv [1, 2, 3, 4, 0] rfl (J65 x663 (Eq.trans hE1 (mh_ifT c695 (mh_lb2T E_s697 (mh_ifT c725 (mh_lbT t727 (mh_lbT t729 (mh_lbT t731 (mh_ifT c755 rfl)))))))))
  exact mw_lv [1, 2, 3, 0] rfl (L18 145 (0) s366 (mh_r_wk rc_0 (by decide)) hI_s366 hF_s366 (mh_lbT t363 (mh_lbT t365 (mh_lbT t367 rfl))) (by have := (rc_0).1; have := (rc_0).2; omega))

def f_eX7_sign (s0 : mh_H) (p1 : Int32) : Int32 := mh_lb (f_eX9_isWithin s0 p1 (219 : Int32)) (fun x7 => if x7.toInt = 0 then (0 : Int32) else mh_lb (s0.1 38 p1.toNatClampNeg) (fun x11 => x11))
def P_eX7_sign (B D : Int) (s0 : mh_H) (p1 : Int32) : Int32 → mh_H → Prop := fun z s => mh_r z (0) (255) ∧ f_eX7_sign s0 p1 = z ∧ s0 = s
set_option maxRecDepth 100000 in
set_option maxHeartbeats 4000000 in
theorem w_eX7_sign (l : Launch) (G : mh_G) (d : Nat) {B D : Int} (hB : B ≤ 1980000000 ∧ D ≤ 1980000000) {s0 : mh_H} (hI0 : mh_I B D s0) (p1 : Int32) : mh_Mi l G (d + 1) mM_X7_sign [.ref (G.2.2.2 37), .int p1] s0 (P_eX7_sign B D s0 p1) := by
  refine mh_enter (lv := [(0, .ref (G.2.2.2 37)), (1, .int p1)]) (by decide) rfl (Nat.le_of_ble_eq_true rfl) ?_
  refine mw_iload_n 1 rfl 1 dX7_sign_0 rfl rfl ?_
  refine mw_sipush (v := 219) 4 rfl dX7_sign_1 (by decide) ?_
  refine mw_callSi [.int p1, .int (219)] [] 7 rfl dX7_sign_4 ml_X7_17 mc_X9_isWithin mk_X9_isWithin (w_eX9_isWithin l G (d + 0) ⟨by omega, by omega⟩ hI0 p1 (219)) rfl rfl (Nat.le_of_ble_eq_true rfl) (mh_rok (by omega) (by decide)) (fun x7 s8 q9 => ?_)
  obtain ⟨r_x7, E_s8, e0_s8, rfl⟩ := q9
  refine mw_if_eq 10 rfl 19 dX7_sign_7 (by decide) (fun c10 => ?_) (fun c10 => ?_)
  · skip
    have r_x7 : mh_r x7 (0) (0) := mh_eq1 (show x7.toInt = (0 : Int32).toInt from c10) r_x7 rc_0 (0) (0) (by decide)
    refine mw_iconst (v := 0) 20 rfl dX7_sign_19 (by decide) ?_
    exact mw_iret dX7_sign_20 rfl ⟨(0), rfl, ⟨(mh_r_wk rc_0 (by decide)), (mh_lbS E_s8 (mh_ifT c10 rfl)), rfl⟩⟩
  · skip
    have r_p1 : mh_r p1 (0) (219) := ⟨by have := e0_s8.1 (mh_z1 r_x7 c10); have := ((mh_r_full p1)).1; omega, by have := e0_s8.1 (mh_z1 r_x7 c10); have := ((mh_r_full p1)).2; have := ((mh_rc (x := 219) (n := 219) (by decide))).2; omega⟩
    have r_x7 : mh_r x7 (1) (1) := mh_ne1 (show x7.toInt ≠ (0 : Int32).toInt from c10) r_x7 rc_0 (1) (1) (by decide)
    refine mw_aload_n 11 rfl 0 dX7_sign_10 rfl rfl ?_
    refine mw_geta 14 rfl dX7_sign_11 gf_X7_9 rfl 38 (mh_rf hI0 39 rfl) ?_
    refine mw_iload_n 15 rfl 1 dX7_sign_14 rfl rfl ?_
    refine mw_iald 16 rfl dX7_sign_15 rfl r_p1 (by decide) (fun x11 t12 => ?_)
    have r_x11 : mh_r x11 (0) (255) := by rw [t12]; exact rd_38 hI0 _
    refine mw_goto 19 rfl 20 dX7_sign_16 (by decide) ?_
    exact mw_iret dX7_sign_20 rfl ⟨x11, rfl, ⟨r_x11, (mh_lbS E_s8 (mh_ifF c10 (mh_lbT t12 rfl))), rfl⟩⟩

def ls_eX7_number_4_1 (s0 : mh_H) (p1 : Int32) (lo_4_1 : Int32 → Int32 → Int32) (x157 : Int32) (x158 : Int32) : Int32 := if x157.toInt < (4 : Int32).toInt then mh_lb (x158 <<< ((8 : Int32) &&& 31)) (fun x176 => mh_lb ((4 : Int32) * p1) (fun x178 => mh_lb (x178 + x157) (fun x180 => mh_lb (f_eX7_sign s0 x180) (fun x182 => mh_lb (x176 ||| x182) (fun x185 => mh_lb (x157 + (1 : Int32)) (fun x187 => (lo_4_1 x187 x185))))))) else x158
def l_eX7_number_4_1 (s0 : mh_H) (p1 : Int32) : Nat → Int32 → Int32 → Int32
  | 0 => fun _ _ => 0
  | n + 1 => ls_eX7_number_4_1 s0 p1 (l_eX7_number_4_1 s0 p1 n)
theorem l_eX7_number_4_1_s (s0 : mh_H) (p1 : Int32) (n : Nat) : l_eX7_number_4_1 s0 p1 (n + 1) = ls_eX7_number_4_1 s0 p1 (l_eX7_number_4_1 s0 p1 n) := rfl
def f_eX7_number (s0 : mh_H) (p1 : Int32) : Int32 := (l_eX7_number_4_1 s0 p1 5 (0 : Int32) (0 : Int32))
def P_eX7_number (B D : Int) (s0 : mh_H) (p1 : Int32) : Int32 → mh_H → Prop := fun z s => mh_r z (-2147483648) (2147483647) ∧ f_eX7_number s0 p1 = z ∧ s0 = s
set_option maxRecDepth 100000 in
set_option maxHeartbeats 4000000 in
theorem w_eX7_number (l : Launch) (G : mh_G) (d : Nat) {B D : Int} (hB : B ≤ 1960000000 ∧ D ≤ 1960000000) {s0 : mh_H} (hI0 : mh_I B D s0) (p1 : Int32) : mh_Mi l G (d + 2) mM_X7_number [.ref (G.2.2.2 37), .int p1] s0 (P_eX7_number B D s0 p1) := by
  refine mh_enter (lv := [(0, .ref (G.2.2.2 37)), (1, .int p1)]) (by decide) rfl (Nat.le_of_ble_eq_true rfl) ?_
  refine mw_iconst (v := 0) 1 rfl dX7_number_0 (by decide) ?_
  refine mw_istore_n 2 rfl [(2, .int (0)), (0, .ref (G.2.2.2 37)), (1, .int p1)] dX7_number_1 rfl (by decide) rfl ?_
  refine mw_iconst (v := 0) 3 rfl dX7_number_2 (by decide) ?_
  refine mw_istore_n 4 rfl [(3, .int (0)), (2, .int (0)), (0, .ref (G.2.2.2 37)), (1, .int p1)] dX7_number_3 rfl (by decide) rfl ?_
  have L4 : ∀ n1 : Nat, ∀ (x157 : Int32) (x158 : Int32), mh_r x157 (0) (4) → (f_eX7_number s0 p1 = l_eX7_number_4_1 s0 p1 n1 x157 x158) → (4) - x157.toInt < (n1 : Int) → mh_W G (mh_XM l G (d + 2) (mh_Qi (P_eX7_number B D s0 p1))) mM_X7_number 4 [(0, .ref (G.2.2.2 37)), (1, .int p1), (2, .int x158), (3, .int x157)] [] s0 := by
    intro n1
    induction n1 with
    | zero =>
      intro x157 x158 r_x157 hE1 hmn1
      exact absurd hmn1 (by have := r_x157.1; have := r_x157.2; omega)
    | succ n1 ihn1 =>
      intro x157 x158 r_x157 hE1 hmn1
      rw [l_eX7_number_4_1_s] at hE1
      refine mw_iload_n 5 rfl 3 dX7_number_4 rfl rfl ?_
      refine mw_iconst (v := 4) 6 rfl dX7_number_5 (by decide) ?_
      refine mw_icmp_ge 9 rfl 30 dX7_number_6 (by decide) (fun c175 => ?_) (fun c175 => ?_)
      · skip
        have r_x157 : mh_r x157 (4) (4) := mh_le2 c175 rc_4 r_x157 (4) (by decide)
        refine mw_iload_n 31 rfl 2 dX7_number_30 rfl rfl ?_
        exact mw_iret dX7_number_31 rfl ⟨x158, rfl, ⟨(mh_r_full x158), (Eq.trans hE1 (mh_ifF (Int.not_lt.mpr c175) rfl)), rfl⟩⟩
      · skip
        have r_x157 : mh_r x157 (0) (3) := mh_lt1 c175 r_x157 rc_4 (3) (by decide)
        refine mw_iload_n 10 rfl 2 dX7_number_9 rfl rfl ?_
        refine mw_bipush (v := 8) 12 rfl dX7_number_10 (by decide) ?_
        refine mw_ishl_u 13 rfl dX7_number_12 (fun x176 t177 => ?_)
        refine mw_aload_n 14 rfl 0 dX7_number_13 rfl rfl ?_
        refine mw_iconst (v := 4) 15 rfl dX7_number_14 (by decide) ?_
        refine mw_iload_n 16 rfl 1 dX7_number_15 rfl rfl ?_
        refine mw_imul_u 17 rfl dX7_number_16 (fun x178 t179 => ?_)
        refine mw_iload_n 18 rfl 3 dX7_number_17 rfl rfl ?_
        refine mw_iadd_u 19 rfl dX7_number_18 (fun x180 t181 => ?_)
        refine mw_callVi [.int x180] [.int x176] 22 rfl dX7_number_19 ml_X7_23 mc_X7_sign mk_X7_sign rfl rfl (by decide) (w_eX7_sign l G (d + 0) ⟨by omega, by omega⟩ hI0 x180) rfl rfl (Nat.le_of_ble_eq_true rfl) (mh_rok (by omega) (by decide)) (fun x182 s183 q184 => ?_)
        obtain ⟨r_x182, E_s183, rfl⟩ := q184
        refine mw_ior_u 23 rfl dX7_number_22 (fun x185 t186 => ?_)
        refine mw_istore_n 24 rfl [(2, .int x185), (0, .ref (G.2.2.2 37)), (1, .int p1), (3, .int x157)] dX7_number_23 rfl (by decide) rfl ?_
        refine mw_iincR (k := 3) (1) (4) 27 rfl (fun z => [(3, .int z), (2, .int x185), (0, .ref (G.2.2.2 37)), (1, .int p1)]) dX7_number_24 rfl (by decide) (fun _ => rfl) r_x157 (by decide) (by decide) (fun x187 t188 r_x187 => ?_)
        refine mw_goto 30 rfl 4 dX7_number_27 (by decide) ?_
        exact mw_lv [2, 3, 1, 0] rfl (ihn1 x187 x185 (mh_r_wk r_x187 (by decide)) (Eq.trans hE1 (mh_ifT c175 (mh_lbT t177 (mh_lbT t179 (mh_lbT t181 (mh_lbS E_s183 (mh_lbT t186 (mh_lbT (mh_einc t188 rfl) rfl)))))))) (by have : x187.toInt = x157.toInt + (1) := t188; omega))
  exact mw_lv [2, 3, 1, 0] rfl (L4 5 (0) (0) (mh_r_wk rc_0 (by decide)) (rfl) (by have := (rc_0).1; have := (rc_0).2; omega))

def S_eX7_put : List (Nat × Nat) := [(38, 9999), (37, 1)]
def ls_eX7_put_3_1 (p1 : Int32) (lo_3_1 : mh_H → Int32 → mh_H) (s218 : mh_H) (x217 : Int32) : mh_H := if x217.toInt < 0 then s218 else mh_lb (s218.1 37 1) (fun x242 => if x242.toInt < (220 : Int32).toInt then mh_lb ((Int32.toUInt32 p1 >>> (Int32.toUInt32 x217 &&& Int32.toUInt32 31)).toInt32) (fun x247 => mh_lb (x247 &&& (255 : Int32)) (fun x249 => mh_lb (mh_pI s218 38 x242.toNatClampNeg x249) (fun s251 => mh_lb (x242 + (1 : Int32)) (fun x256 => mh_lb (mh_pI s251 37 1 x256) (fun s258 => mh_lb (x217 + (-8 : Int32)) (fun x260 => (lo_3_1 s258 x260))))))) else s218)
def l_eX7_put_3_1 (p1 : Int32) : Nat → mh_H → Int32 → mh_H
  | 0 => fun s218 _ => s218
  | n + 1 => ls_eX7_put_3_1 p1 (l_eX7_put_3_1 p1 n)
theorem l_eX7_put_3_1_s (p1 : Int32) (n : Nat) : l_eX7_put_3_1 p1 (n + 1) = ls_eX7_put_3_1 p1 (l_eX7_put_3_1 p1 n) := rfl
def f_eX7_put (s0 : mh_H) (p1 : Int32) : mh_H := (l_eX7_put_3_1 p1 33 s0 (24 : Int32))
def P_eX7_put (B D : Int) (s0 : mh_H) (p1 : Int32) : mh_H → Prop := fun s => f_eX7_put s0 p1 = s ∧ mh_I B D s ∧ mh_F S_eX7_put s0 s
set_option maxRecDepth 100000 in
set_option maxHeartbeats 4000000 in
theorem w_eX7_put (l : Launch) (G : mh_G) (d : Nat) {B D : Int} (hB : B ≤ 2000000000 ∧ D ≤ 2000000000) {s0 : mh_H} (hI0 : mh_I B D s0) (p1 : Int32) : mh_Mv l G (d + 0) mM_X7_put [.ref (G.2.2.2 37), .int p1] s0 (P_eX7_put B D s0 p1) := by
  refine mh_enter (lv := [(0, .ref (G.2.2.2 37)), (1, .int p1)]) (by decide) rfl (Nat.le_of_ble_eq_true rfl) ?_
  have hF0 : mh_F S_eX7_put s0 s0 := mh_F_rf
  refine mw_bipush (v := 24) 2 rfl dX7_put_0 (by decide) ?_
  refine mw_istore_n 3 rfl [(2, .int (24)), (0, .ref (G.2.2.2 37)), (1, .int p1)] dX7_put_2 rfl (by decide) rfl ?_
  have L3 : ∀ n1 : Nat, ∀ (x217 : Int32) (s218 : mh_H), mh_r x217 (-8) (24) → mh_I B D s218 → mh_F S_eX7_put s0 s218 → (f_eX7_put s0 p1 = l_eX7_put_3_1 p1 n1 s218 x217) → x217.toInt - (-8) < (n1 : Int) → mh_W G (mh_XM l G (d + 0) (mh_Qv (P_eX7_put B D s0 p1))) mM_X7_put 3 [(0, .ref (G.2.2.2 37)), (1, .int p1), (2, .int x217)] [] s218 := by
    intro n1
    induction n1 with
    | zero =>
      intro x217 s218 r_x217 hI_s218 hF_s218 hE1 hmn1
      exact absurd hmn1 (by have := r_x217.1; have := r_x217.2; omega)
    | succ n1 ihn1 =>
      intro x217 s218 r_x217 hI_s218 hF_s218 hE1 hmn1
      rw [l_eX7_put_3_1_s] at hE1
      refine mw_iload_n 4 rfl 2 dX7_put_3 rfl rfl ?_
      refine mw_if_lt 7 rfl 49 dX7_put_4 (by decide) (fun c241 => ?_) (fun c241 => ?_)
      · skip
        have r_x217 : mh_r x217 (-8) (-1) := mh_lt1 (show x217.toInt < (0 : Int32).toInt from c241) r_x217 rc_0 (-1) (by decide)
        exact mw_vret dX7_put_49 rfl ⟨rfl, ⟨(Eq.trans hE1 (mh_ifT c241 rfl)), hI_s218, hF_s218⟩⟩
      · skip
        have r_x217 : mh_r x217 (0) (24) := mh_le2 (show (0 : Int32).toInt ≤ x217.toInt from c241) rc_0 r_x217 (0) (by decide)
        refine mw_aload_n 8 rfl 0 dX7_put_7 rfl rfl ?_
        refine mw_geti 11 rfl dX7_put_8 gf_X7_13 rfl (fun x242 t243 => ?_)
        have r_x242 : mh_r x242 (0) (220) := by rw [t243]; exact rd_37_1 hI_s218
        refine mw_sipush (v := 220) 14 rfl dX7_put_11 (by decide) ?_
        refine mw_icmp_ge 17 rfl 49 dX7_put_14 (by decide) (fun c244 => ?_) (fun c244 => ?_)
        · skip
          have r_x242 : mh_r x242 (220) (220) := mh_le2 c244 rc_220 r_x242 (220) (by decide)
          exact mw_vret dX7_put_49 rfl ⟨rfl, ⟨(Eq.trans hE1 (mh_ifF (Int.not_lt.mpr c241) (mh_lbT t243 (mh_ifF (Int.not_lt.mpr c244) rfl)))), hI_s218, hF_s218⟩⟩
        · skip
          have r_x242 : mh_r x242 (0) (219) := mh_lt1 c244 r_x242 rc_220 (219) (by decide)
          refine mw_aload_n 18 rfl 0 dX7_put_17 rfl rfl ?_
          refine mw_geta 21 rfl dX7_put_18 gf_X7_9 rfl 38 (mh_rf hI_s218 39 rfl) ?_
          refine mw_aload_n 22 rfl 0 dX7_put_21 rfl rfl ?_
          refine mw_geti 25 rfl dX7_put_22 gf_X7_13 rfl (fun x245 t246 => ?_)
          obtain rfl : x242 = x245 := t243.trans t246.symm
          refine mw_iload_n 26 rfl 1 dX7_put_25 rfl rfl ?_
          refine mw_iload_n 27 rfl 2 dX7_put_26 rfl rfl ?_
          refine mw_iushr_u 28 rfl dX7_put_27 (fun x247 t248 => ?_)
          refine mw_sipush (v := 255) 31 rfl dX7_put_28 (by decide) ?_
          refine mw_iand_u 32 rfl dX7_put_31 (fun x249 t250 => ?_)
          have r_x249 : mh_r x249 0 255 := by rw [t250]; exact mh_and255
          refine mw_iast 33 rfl dX7_put_32 rfl r_x242 (by decide) (fun s251 t252 => ?_)
          have hI_s251 : mh_I B D s251 := by rw [t252]; exact wr_38 hI_s218 r_x249
          have hF_s251 : mh_F S_eX7_put s0 s251 := by rw [t252]; exact mh_F_pI hF_s218 (mh_si 0 rfl)
          refine mw_aload_n 34 rfl 0 dX7_put_33 rfl rfl ?_
          refine mw_dup 35 rfl dX7_put_34 rfl ?_
          refine mw_geti 38 rfl dX7_put_35 gf_X7_13 rfl (fun x253 t254 => ?_)
          have t255 : x242 = s251.1 37 1 := by rw [t252]; exact (t243).trans (mh_pI_n (by omega)).symm
          obtain rfl : x242 = x253 := t255.trans t254.symm
          refine mw_iconst (v := 1) 39 rfl dX7_put_38 (by decide) ?_
          refine mw_iadd 40 rfl (1) (220) dX7_put_39 r_x242 rc_1 (by decide) (fun x256 t257 r_x256 => ?_)
          refine mw_puti 43 rfl dX7_put_40 pf_X7_13 rfl (fun s258 t259 => ?_)
          have hI_s258 : mh_I B D s258 := by rw [t259]; exact wr_37_1 hI_s251 (mh_r_wk r_x256 (by decide))
          have hF_s258 : mh_F S_eX7_put s0 s258 := by rw [t259]; exact mh_F_pI hF_s251 (mh_sj 1 rfl)
          refine mw_iincR (k := 2) (-8) (16) 46 rfl (fun z => [(2, .int z), (0, .ref (G.2.2.2 37)), (1, .int p1)]) dX7_put_43 rfl (by decide) (fun _ => rfl) r_x217 (by decide) (by decide) (fun x260 t261 r_x260 => ?_)
          refine mw_goto 49 rfl 3 dX7_put_46 (by decide) ?_
          exact mw_lv [1, 2, 0] rfl (ihn1 x260 s258 (mh_r_wk r_x260 (by decide)) hI_s258 hF_s258 (Eq.trans hE1 (mh_ifF (Int.not_lt.mpr c241) (mh_lbT t243 (mh_ifT c244 (mh_lbT t248 (mh_lbT t250 (mh_lbT t252 (mh_lbT (mh_eadd t257) (mh_lbT t259 (mh_lbT (mh_einc t261 rfl) rfl)))))))))) (by have : x260.toInt = x217.toInt + (-8) := t261; omega))
  exact mw_lv [1, 2, 0] rfl (L3 33 (24) s0 (mh_r_wk rc_24 (by decide)) hI0 hF0 (rfl) (by have := (rc_24).1; have := (rc_24).2; omega))


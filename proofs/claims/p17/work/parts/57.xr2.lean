def S_eX4_rd : List (Nat × Nat) := [(56, 3), (56, 4), (41, 9999), (49, 9999), (40, 8), (48, 8), (40, 10), (48, 10)]
def P_eX4_rd (B D : Int) (s0 : mh_H) (E : Int32 × mh_H) : Int32 → mh_H → Prop := fun z s => mh_r z (0) (1) ∧ E = (z, s) ∧ ((s0.1 56 3).toInt ≤ (s.1 56 3).toInt) ∧ mh_I B D s ∧ mh_F S_eX4_rd s0 s
abbrev mh_Rc : Type := (mh_H → Int32 → Int32 × mh_H) × (mh_H → Int32 → Int32 × mh_H) × (mh_H → Int32 → Int32 × mh_H)
def mh_RBe (l : Launch) (G : mh_G) (H : Nat) (o : Int) (rc : mh_Rc) : Prop := ∀ d : Nat, (∀ {B D : Int} (hB : B ≤ 1700000000 ∧ D ≤ 1700000000) {s0 : mh_H} (hI0 : mh_I B D s0) (p1 : Int32) (hp : p1.toInt = o), mh_Mi l G (d + H) mM_X4_readSum [.ref (G.2.2.2 56), .int p1] s0 (P_eX4_rd B D s0 (rc.1 s0 p1))) ∧ (∀ {B D : Int} (hB : B ≤ 1700000000 ∧ D ≤ 1700000000) {s0 : mh_H} (hI0 : mh_I B D s0) (p1 : Int32) (hp : p1.toInt = o), mh_Mi l G (d + H) mM_X4_readChoice [.ref (G.2.2.2 56), .int p1] s0 (P_eX4_rd B D s0 (rc.2.1 s0 p1))) ∧ (∀ {B D : Int} (hB : B ≤ 1700000000 ∧ D ≤ 1700000000) {s0 : mh_H} (hI0 : mh_I B D s0) (p1 : Int32) (hp : p1.toInt = o), mh_Mi l G (d + H) mM_X4_readPiece [.ref (G.2.2.2 56), .int p1] s0 (P_eX4_rd B D s0 (rc.2.2 s0 p1)))
def f_eX4_readFactor (rc : mh_Rc) (s0 : mh_H) (p1 : Int32) : Int32 × mh_H := mh_lb (s0.1 56 2) (fun x80 => mh_lb (s0.1 56 3) (fun x82 => mh_lb (f_eX4_sign s0) (fun x84 => if x84.toInt = (91 : Int32).toInt then if p1.toInt < (6 : Int32).toInt then mh_lb (x82 + (1 : Int32)) (fun x153 => mh_lb (mh_pI s0 56 3 x153) (fun s155 => mh_lb (p1 + (1 : Int32)) (fun x157 => mh_lb2 (rc.1 s155 x157) (fun x161 s162 => mh_lb (s162.1 56 3) (fun x165 => if x161.toInt = 0 then ((0 : Int32), s162) else mh_lb2 (f_eX4_take s162 (93 : Int32)) (fun x168 s169 => mh_lb (s169.1 56 3) (fun x172 => if x168.toInt = 0 then ((0 : Int32), s169) else ((1 : Int32), s169)))))))) else mh_lb2 (f_eX4_fail s0 (5 : Int32)) (fun x175 s176 => (x175, s176)) else mh_lb (f_eX4_isDigit s0 x84) (fun x88 => if x88.toInt = 0 then if x84.toInt < 0 then mh_lb2 (f_eX4_fail s0 (1 : Int32)) (fun x139 s140 => (x139, s140)) else mh_lb (UInt32.toInt32 (Int32.toUInt32 x84 % 65536)) (fun x93 => mh_lb (mh_ixf 0 x93) (fun x95 => if x95.toInt < 0 then mh_lb2 (f_eX4_fail s0 (1 : Int32)) (fun x133 s134 => (x133, s134)) else mh_lb (x82 + (1 : Int32)) (fun x101 => mh_lb (mh_pI s0 56 3 x101) (fun s103 => mh_lb (s103.2.2 56 1) (fun k106 => mh_lb (f_eX1_put s103 k106 x95) (fun s110 => mh_lb (s110.2.2 56 1) (fun k115 => mh_lb (s110.1 k115 10) (fun x117 => if x117.toInt = 0 then if x95.toInt = (8 : Int32).toInt then mh_lb (mh_pI s110 k115 10 (1 : Int32)) (fun s129 => ((1 : Int32), s129)) else mh_lb (mh_pI s110 k115 10 (0 : Int32)) (fun s125 => ((1 : Int32), s125)) else mh_lb (mh_pI s110 k115 10 (1 : Int32)) (fun s120 => ((1 : Int32), s120)))))))))) else mh_lb2 (f_eX4_readNumber s0) (fun x144 s145 => mh_lb (s145.1 56 3) (fun x148 => (x144, s145)))))))
set_option maxRecDepth 100000 in
set_option maxHeartbeats 4000000 in
theorem w_eX4_readFactor (l : Launch) (G : mh_G) (d : Nat) {B D : Int} (hB : B ≤ 1700000000 ∧ D ≤ 1700000000) {s0 : mh_H} (hI0 : mh_I B D s0) (p1 : Int32) (r_p1 : mh_r p1 (0) (6)) (H : Nat) (rc : mh_Rc) (ih : p1.toInt < 6 → mh_RBe l G H (p1.toInt + 1) rc) : mh_Mi l G (d + (H + 4)) mM_X4_readFactor [.ref (G.2.2.2 56), .int p1] s0 (P_eX4_rd B D s0 (f_eX4_readFactor rc s0 p1)) := by
  refine mh_enter (lv := [(0, .ref (G.2.2.2 56)), (1, .int p1)]) (by decide) rfl (Nat.le_of_ble_eq_true rfl) ?_
  have hF0 : mh_F S_eX4_rd s0 s0 := mh_F_rf
  obtain ⟨x80, t81⟩ : ∃ z : Int32, z = s0.1 56 2 := ⟨_, rfl⟩
  have r_x80 : mh_r x80 0 220 := by rw [t81]; exact rd_56_2 hI0
  obtain ⟨x82, t83⟩ : ∃ z : Int32, z = s0.1 56 3 := ⟨_, rfl⟩
  have r_x82 : mh_r x82 0 220 := by rw [t83]; exact rd_56_3 hI0
  refine mw_aload_n 1 rfl 0 dX4_readFactor_0 rfl rfl ?_
  refine mw_callVi [] [] 4 rfl dX4_readFactor_1 ml_X4_51 mc_X4_sign mk_X4_sign rfl rfl (by decide) (w_eX4_sign l G (d + H + 3) ⟨by omega, by omega⟩ hI0) rfl rfl (Nat.le_of_ble_eq_true rfl) (mh_rok (by omega) (by decide)) (fun x84 s85 q86 => ?_)
  obtain ⟨r_x84, E_s85, e0_s85, rfl⟩ := q86
  have hq_x84 : 0 ≤ x84.toInt → x82.toInt < x80.toInt := by have h9 := e0_s85; rw [← t83, ← t81] at h9; exact h9
  refine mw_istore_n 5 rfl [(2, .int x84), (0, .ref (G.2.2.2 56)), (1, .int p1)] dX4_readFactor_4 rfl (by decide) rfl ?_
  refine mw_iload_n 6 rfl 0 dX4_readFactor_5 rfl rfl ?_
  refine mw_bipush (v := 91) 8 rfl dX4_readFactor_6 (by decide) ?_
  refine mw_icmp_ne 11 rfl 58 dX4_readFactor_8 (by decide) (fun c87 => ?_) (fun c87 => ?_)
  · skip
    refine mw_iload_n 59 rfl 0 dX4_readFactor_58 rfl rfl ?_
    refine mw_callSi [.int x84] [] 62 rfl dX4_readFactor_59 ml_X4_104 mc_X4_isDigit mk_X4_isDigit (w_eX4_isDigit l G (d + H + 3) ⟨by omega, by omega⟩ hI0 x84) rfl rfl (Nat.le_of_ble_eq_true rfl) (mh_rok (by omega) (by decide)) (fun x88 s89 q90 => ?_)
    obtain ⟨r_x88, E_s89, rfl⟩ := q90
    refine mw_if_eq 65 rfl 70 dX4_readFactor_62 (by decide) (fun c91 => ?_) (fun c91 => ?_)
    · skip
      have r_x88 : mh_r x88 (0) (0) := mh_eq1 (show x88.toInt = (0 : Int32).toInt from c91) r_x88 rc_0 (0) (0) (by decide)
      refine mw_iload_n 71 rfl 0 dX4_readFactor_70 rfl rfl ?_
      refine mw_if_ge 74 rfl 78 dX4_readFactor_71 (by decide) (fun c92 => ?_) (fun c92 => ?_)
      · skip
        have r_x84 : mh_r x84 (0) (255) := mh_le2 (show (0 : Int32).toInt ≤ x84.toInt from c92) rc_0 r_x84 (0) (by decide)
        refine mw_ldcS (k := 1000) (tx := "hktvcwxyndijl") 80 rfl dX4_readFactor_78 (fun _ _ _ h => h.2.2.2.1) ?_
        refine mw_iload_n 81 rfl 0 dX4_readFactor_80 rfl rfl ?_
        refine mw_i2c 82 rfl dX4_readFactor_81 (fun x93 t94 => ?_)
        have r_x93 : mh_r x93 (0) (65535) := by rw [t94]; exact mh_i2c
        refine mw_callKi (i := 0) (by decide) [.int x93] [] 85 rfl dX4_readFactor_82 ml_X4_60 mc_J0_indexOf_0f7a4 mk_J0_indexOf_0f7a4 rfl (c_indexOfE l G (d + H + 0) 0 (by decide) s0 x93) rfl rfl (Nat.le_of_ble_eq_true rfl) (mh_rok (by omega) (by decide)) (fun x95 s96 q97 => ?_)
        obtain ⟨E_s96, rfl⟩ := q97
        refine mw_istore_n 86 rfl [(3, .int x95), (2, .int x84), (0, .ref (G.2.2.2 56)), (1, .int p1)] dX4_readFactor_85 rfl (by decide) rfl ?_
        refine mw_iload_n 87 rfl 0 dX4_readFactor_86 rfl rfl ?_
        refine mw_if_ge 90 rfl 96 dX4_readFactor_87 (by decide) (fun c98 => ?_) (fun c98 => ?_)
        · skip
          have r_x95 : mh_r x95 (0) (2147483647) := mh_le2 (show (0 : Int32).toInt ≤ x95.toInt from c98) rc_0 (mh_r_full x95) (0) (by decide)
          refine mw_aload_n 97 rfl 2 dX4_readFactor_96 rfl rfl ?_
          refine mw_dup 98 rfl dX4_readFactor_97 rfl ?_
          refine mw_geti 101 rfl dX4_readFactor_98 gf_X4_15 rfl (fun x99 t100 => ?_)
          obtain rfl : x82 = x99 := t83.trans t100.symm
          have r_x82 : mh_r x82 (0) (219) := ⟨(r_x82).1, by have := congrArg Int32.toInt t81; have := congrArg Int32.toInt t83; have := (r_x95).1; have := (r_x95).2; have := (r_x84).1; have := (r_x84).2; have := (r_p1).1; have := (r_p1).2; have := (r_x82).1; have := (r_x82).2; have := (r_x80).1; have := (r_x80).2; have := kc_m1; have := kc_0; have := kc_1; have := kc_5; have := kc_6; have := kc_8; have := kc_91; have := kc_93; omega⟩
          refine mw_iconst (v := 1) 102 rfl dX4_readFactor_101 (by decide) ?_
          refine mw_iadd 103 rfl (1) (220) dX4_readFactor_102 r_x82 rc_1 (by decide) (fun x101 t102 r_x101 => ?_)
          refine mw_puti 106 rfl dX4_readFactor_103 pf_X4_15 rfl (fun s103 t104 => ?_)
          have hI_s103 : mh_I B D s103 := by rw [t104]; exact wr_56_3 hI0 (mh_r_wk r_x101 (by decide))
          have hF_s103 : mh_F S_eX4_rd s0 s103 := by rw [t104]; exact mh_F_pI hF0 (mh_sj 0 rfl)
          refine mw_aload_n 107 rfl 2 dX4_readFactor_106 rfl rfl ?_
          obtain ⟨k106, t105⟩ : ∃ y : Nat, s103.2.2 56 1 = y := ⟨_, rfl⟩
          have hk106 : mh_isL k106 := by rw [← t105]; exact hI_s103.2.1.2.2.2
          refine mw_geta 110 rfl dX4_readFactor_107 gf_X4_25 rfl k106 t105 ?_
          refine mw_iload_n 111 rfl 0 dX4_readFactor_110 rfl rfl ?_
          have t107 : x80 = s103.1 56 2 := by rw [t104]; exact (t81).trans (mh_pI_n (by omega)).symm
          have t108 : x101 = s103.1 56 3 := by rw [t104]; exact mh_pI_s.symm
          refine mw_callVv [.int x95] [] 114 rfl dX4_readFactor_111 ml_X4_95 mc_X1_put mk_X1_put (ly_L hk106) rfl (by decide) (w_eX1_put l G (d + H + 3) ⟨by omega, by omega⟩ hI_s103 k106 hk106 x95) rfl rfl (Nat.le_of_ble_eq_true rfl) (mh_rok (by omega) (by decide)) (fun s110 q111 => ?_)
          obtain ⟨E_s110, hI_s110, hG_s110⟩ := q111
          have hF_s110 : mh_F S_eX4_rd s0 s110 := mh_F_tl hF_s103 hG_s110 (by rcases hk106 with rfl | rfl <;> decide +kernel)
          have t112 : x80 = s110.1 56 2 := (t107).trans (hG_s110 56 2 (mh_nsI (by rcases hk106 with rfl | rfl <;> rfl))).1.symm
          have t113 : x101 = s110.1 56 3 := (t108).trans (hG_s110 56 3 (mh_nsI (by rcases hk106 with rfl | rfl <;> rfl))).1.symm
          refine mw_aload_n 115 rfl 2 dX4_readFactor_114 rfl rfl ?_
          obtain ⟨k115, t114⟩ : ∃ y : Nat, s110.2.2 56 1 = y := ⟨_, rfl⟩
          have hk115 : mh_isL k115 := by rw [← t114]; exact hI_s110.2.1.2.2.2
          refine mw_geta 118 rfl dX4_readFactor_115 gf_X4_25 rfl k115 t114 ?_
          refine mw_aload_n 119 rfl 2 dX4_readFactor_118 rfl rfl ?_
          refine mw_geta 122 rfl dX4_readFactor_119 gf_X4_25 rfl k115 t114 ?_
          refine mw_geti 125 rfl dX4_readFactor_122 gf_X4_112 (ly_L hk115) (fun x117 t118 => ?_)
          have r_x117 : mh_r x117 (0) (1) := by rw [t118]; exact rd_L_10 hI_s110 hk115
          refine mw_if_ne 128 rfl 134 dX4_readFactor_125 (by decide) (fun c119 => ?_) (fun c119 => ?_)
          · skip
            have r_x117 : mh_r x117 (1) (1) := mh_ne1 (show x117.toInt ≠ (0 : Int32).toInt from c119) r_x117 rc_0 (1) (1) (by decide)
            refine mw_iconst (v := 1) 135 rfl dX4_readFactor_134 (by decide) ?_
            refine mw_goto 138 rfl 139 dX4_readFactor_135 (by decide) ?_
            refine mw_putz 142 rfl dX4_readFactor_139 pf_X4_112 (ly_L hk115) (mh_r_wk rc_1 (by decide)) (fun s120 t121 => ?_)
            have hI_s120 : mh_I B D s120 := by rw [t121]; exact wr_L_10 hI_s110 hk115 (mh_r_wk rc_1 (by decide))
            have hF_s120 : mh_F S_eX4_rd s0 s120 := by rw [t121]; exact mh_F_pI hF_s110 (mh_isL_s (o := 0) hk115 (mh_sj 6 rfl) (mh_sj 7 rfl))
            refine mw_iconst (v := 1) 143 rfl dX4_readFactor_142 (by decide) ?_
            refine mw_zret dX4_readFactor_143 rfl (mh_r_wk rc_1 (by decide)) ⟨(1), rfl, ⟨(mh_r_wk rc_1 (by decide)), (mh_lbT t81 (mh_lbT t83 (mh_lbS E_s85 (mh_ifF c87 (mh_lbS E_s89 (mh_ifT c91 (mh_ifF (Int.not_lt.mpr c92) (mh_lbT t94 (mh_lbT E_s96 (mh_ifF (Int.not_lt.mpr c98) (mh_lbT (mh_eadd t102) (mh_lbT t104 (mh_lbS t105 (mh_lbS E_s110 (mh_lbS t114 (mh_lbT t118 (mh_ifF c119 (mh_lbT t121 rfl)))))))))))))))))), ?_, hI_s120, hF_s120⟩⟩
            · skip
              have t122 : x80 = s120.1 56 2 := by rw [t121]; exact (t112).trans (mh_pI_n (by rcases hk115 with rfl | rfl <;> omega)).symm
              have t123 : x101 = s120.1 56 3 := by rw [t121]; exact (t113).trans (mh_pI_n (by rcases hk115 with rfl | rfl <;> omega)).symm
              have := congrArg Int32.toInt t81
              have := congrArg Int32.toInt t83
              have := congrArg Int32.toInt t107
              have := congrArg Int32.toInt t108
              have := congrArg Int32.toInt t112
              have := congrArg Int32.toInt t113
              have := congrArg Int32.toInt t122
              have := congrArg Int32.toInt t123
              have := (r_x95).1; have := (r_x95).2
              have := (r_x84).1; have := (r_x84).2
              have := (r_p1).1; have := (r_p1).2
              have := (rc_1).1; have := (rc_1).2
              have := (r_x80).1; have := (r_x80).2
              have := (r_x82).1; have := (r_x82).2
              have := (r_x101).1; have := (r_x101).2
              have := (r_x117).1; have := (r_x117).2
              have := kc_m1
              have := kc_0
              have := kc_1
              have := kc_5
              have := kc_6
              have := kc_8
              have := kc_91
              have := kc_93
              omega
          · skip
            have r_x117 : mh_r x117 (0) (0) := mh_eq1 (show x117.toInt = (0 : Int32).toInt from c119) r_x117 rc_0 (0) (0) (by decide)
            refine mw_iload_n 129 rfl 0 dX4_readFactor_128 rfl rfl ?_
            refine mw_bipush (v := 8) 131 rfl dX4_readFactor_129 (by decide) ?_
            refine mw_icmp_ne 134 rfl 138 dX4_readFactor_131 (by decide) (fun c124 => ?_) (fun c124 => ?_)
            · skip
              refine mw_iconst (v := 0) 139 rfl dX4_readFactor_138 (by decide) ?_
              refine mw_putz 142 rfl dX4_readFactor_139 pf_X4_112 (ly_L hk115) (mh_r_wk rc_0 (by decide)) (fun s125 t126 => ?_)
              have hI_s125 : mh_I B D s125 := by rw [t126]; exact wr_L_10 hI_s110 hk115 (mh_r_wk rc_0 (by decide))
              have hF_s125 : mh_F S_eX4_rd s0 s125 := by rw [t126]; exact mh_F_pI hF_s110 (mh_isL_s (o := 0) hk115 (mh_sj 6 rfl) (mh_sj 7 rfl))
              refine mw_iconst (v := 1) 143 rfl dX4_readFactor_142 (by decide) ?_
              refine mw_zret dX4_readFactor_143 rfl (mh_r_wk rc_1 (by decide)) ⟨(1), rfl, ⟨(mh_r_wk rc_1 (by decide)), (mh_lbT t81 (mh_lbT t83 (mh_lbS E_s85 (mh_ifF c87 (mh_lbS E_s89 (mh_ifT c91 (mh_ifF (Int.not_lt.mpr c92) (mh_lbT t94 (mh_lbT E_s96 (mh_ifF (Int.not_lt.mpr c98) (mh_lbT (mh_eadd t102) (mh_lbT t104 (mh_lbS t105 (mh_lbS E_s110 (mh_lbS t114 (mh_lbT t118 (mh_ifT c119 (mh_ifF c124 (mh_lbT t126 rfl))))))))))))))))))), ?_, hI_s125, hF_s125⟩⟩
              · skip
                have t127 : x80 = s125.1 56 2 := by rw [t126]; exact (t112).trans (mh_pI_n (by rcases hk115 with rfl | rfl <;> omega)).symm
                have t128 : x101 = s125.1 56 3 := by rw [t126]; exact (t113).trans (mh_pI_n (by rcases hk115 with rfl | rfl <;> omega)).symm
                have := congrArg Int32.toInt t81
                have := congrArg Int32.toInt t83
                have := congrArg Int32.toInt t107
                have := congrArg Int32.toInt t108
                have := congrArg Int32.toInt t112
                have := congrArg Int32.toInt t113
                have := congrArg Int32.toInt t127
                have := congrArg Int32.toInt t128
                have := (r_x95).1; have := (r_x95).2
                have := (r_x84).1; have := (r_x84).2
                have := (r_p1).1; have := (r_p1).2
                have := (rc_1).1; have := (rc_1).2
                have := (r_x80).1; have := (r_x80).2
                have := (r_x82).1; have := (r_x82).2
                have := (r_x101).1; have := (r_x101).2
                have := (r_x117).1; have := (r_x117).2
                have := kc_m1
                have := kc_0
                have := kc_1
                have := kc_5
                have := kc_6
                have := kc_8
                have := kc_91
                have := kc_93
                omega
            · skip
              have r_x95 : mh_r x95 (8) (8) := mh_eq1 c124 r_x95 rc_8 (8) (8) (by decide)
              refine mw_iconst (v := 1) 135 rfl dX4_readFactor_134 (by decide) ?_
              refine mw_goto 138 rfl 139 dX4_readFactor_135 (by decide) ?_
              refine mw_putz 142 rfl dX4_readFactor_139 pf_X4_112 (ly_L hk115) (mh_r_wk rc_1 (by decide)) (fun s129 t130 => ?_)
              have hI_s129 : mh_I B D s129 := by rw [t130]; exact wr_L_10 hI_s110 hk115 (mh_r_wk rc_1 (by decide))
              have hF_s129 : mh_F S_eX4_rd s0 s129 := by rw [t130]; exact mh_F_pI hF_s110 (mh_isL_s (o := 0) hk115 (mh_sj 6 rfl) (mh_sj 7 rfl))
              refine mw_iconst (v := 1) 143 rfl dX4_readFactor_142 (by decide) ?_
              refine mw_zret dX4_readFactor_143 rfl (mh_r_wk rc_1 (by decide)) ⟨(1), rfl, ⟨(mh_r_wk rc_1 (by decide)), (mh_lbT t81 (mh_lbT t83 (mh_lbS E_s85 (mh_ifF c87 (mh_lbS E_s89 (mh_ifT c91 (mh_ifF (Int.not_lt.mpr c92) (mh_lbT t94 (mh_lbT E_s96 (mh_ifF (Int.not_lt.mpr c98) (mh_lbT (mh_eadd t102) (mh_lbT t104 (mh_lbS t105 (mh_lbS E_s110 (mh_lbS t114 (mh_lbT t118 (mh_ifT c119 (mh_ifT c124 (mh_lbT t130 rfl))))))))))))))))))), ?_, hI_s129, hF_s129⟩⟩
              · skip
                have t131 : x80 = s129.1 56 2 := by rw [t130]; exact (t112).trans (mh_pI_n (by rcases hk115 with rfl | rfl <;> omega)).symm
                have t132 : x101 = s129.1 56 3 := by rw [t130]; exact (t113).trans (mh_pI_n (by rcases hk115 with rfl | rfl <;> omega)).symm
                have := congrArg Int32.toInt t81
                have := congrArg Int32.toInt t83
                have := congrArg Int32.toInt t107
                have := congrArg Int32.toInt t108
                have := congrArg Int32.toInt t112
                have := congrArg Int32.toInt t113
                have := congrArg Int32.toInt t131
                have := congrArg Int32.toInt t132
                have := (r_x95).1; have := (r_x95).2
                have := (r_x84).1; have := (r_x84).2
                have := (r_p1).1; have := (r_p1).2
                have := (rc_1).1; have := (rc_1).2
                have := (r_x80).1; have := (r_x80).2
                have := (r_x82).1; have := (r_x82).2
                have := (r_x101).1; have := (r_x101).2
                have := (r_x117).1; have := (r_x117).2
                have := kc_m1
                have := kc_0
                have := kc_1
                have := kc_5
                have := kc_6
                have := kc_8
                have := kc_91
                have := kc_93
                omega
        · skip
          have r_x95 : mh_r x95 (-2147483648) (-1) := mh_lt1 (show x95.toInt < (0 : Int32).toInt from c98) (mh_r_full x95) rc_0 (-1) (by decide)
          refine mw_aload_n 91 rfl 2 dX4_readFactor_90 rfl rfl ?_
          refine mw_iconst (v := 1) 92 rfl dX4_readFactor_91 (by decide) ?_
          refine mw_callVi [.int (1)] [] 95 rfl dX4_readFactor_92 ml_X4_55 mc_X4_fail mk_X4_fail rfl rfl (by decide) (w_eX4_fail l G (d + H + 3) ⟨by omega, by omega⟩ hI0 (1)) rfl rfl (Nat.le_of_ble_eq_true rfl) (mh_rok (by omega) (by decide)) (fun x133 s134 q135 => ?_)
          obtain ⟨r_x133, E_s134, hI_s134, hG_s134⟩ := q135
          have hF_s134 : mh_F S_eX4_rd s0 s134 := mh_F_tl hF0 hG_s134 (by decide +kernel)
          have t136 : x80 = s134.1 56 2 := (t81).trans (hG_s134 56 2 (mh_nsI (by rfl))).1.symm
          have t137 : x82 = s134.1 56 3 := (t83).trans (hG_s134 56 3 (mh_nsI (by rfl))).1.symm
          refine mw_zret dX4_readFactor_95 rfl (mh_r_wk r_x133 (by decide)) ⟨x133, rfl, ⟨(mh_r_wk r_x133 (by decide)), (mh_lbT t81 (mh_lbT t83 (mh_lbS E_s85 (mh_ifF c87 (mh_lbS E_s89 (mh_ifT c91 (mh_ifF (Int.not_lt.mpr c92) (mh_lbT t94 (mh_lbT E_s96 (mh_ifT c98 (mh_lb2T E_s134 rfl))))))))))), ?_, hI_s134, hF_s134⟩⟩
          · skip
            have := congrArg Int32.toInt t81
            have := congrArg Int32.toInt t83
            have := congrArg Int32.toInt t136
            have := congrArg Int32.toInt t137
            have := (r_x95).1; have := (r_x95).2
            have := (r_x84).1; have := (r_x84).2
            have := (r_p1).1; have := (r_p1).2
            have := (r_x133).1; have := (r_x133).2
            have := (r_x80).1; have := (r_x80).2
            have := (r_x82).1; have := (r_x82).2
            have := kc_m1
            have := kc_0
            have := kc_1
            have := kc_5
            have := kc_6
            have := kc_8
            have := kc_91
            have := kc_93
            omega
      · skip
        have r_x84 : mh_r x84 (-1) (-1) := mh_lt1 (show x84.toInt < (0 : Int32).toInt from c92) r_x84 rc_0 (-1) (by decide)
        refine mw_iconst (v := -1) 75 rfl dX4_readFactor_74 (by decide) ?_
        refine mw_goto 78 rfl 85 dX4_readFactor_75 (by decide) ?_
        refine mw_istore_n 86 rfl [(3, .int (-1)), (2, .int x84), (0, .ref (G.2.2.2 56)), (1, .int p1)] dX4_readFactor_85 rfl (by decide) rfl ?_
        refine mw_iload_n 87 rfl 0 dX4_readFactor_86 rfl rfl ?_
        refine mw_if_ge 90 rfl 96 dX4_readFactor_87 (by decide) (fun c138 => ?_) (fun c138 => ?_)
        · skip
          exact (mh_nle (show (0 : Int32).toInt ≤ (-1 : Int32).toInt from c138) rc_0 rc_m1 (by decide)).elim
        · skip
          refine mw_aload_n 91 rfl 2 dX4_readFactor_90 rfl rfl ?_
          refine mw_iconst (v := 1) 92 rfl dX4_readFactor_91 (by decide) ?_
          refine mw_callVi [.int (1)] [] 95 rfl dX4_readFactor_92 ml_X4_55 mc_X4_fail mk_X4_fail rfl rfl (by decide) (w_eX4_fail l G (d + H + 3) ⟨by omega, by omega⟩ hI0 (1)) rfl rfl (Nat.le_of_ble_eq_true rfl) (mh_rok (by omega) (by decide)) (fun x139 s140 q141 => ?_)
          obtain ⟨r_x139, E_s140, hI_s140, hG_s140⟩ := q141
          have hF_s140 : mh_F S_eX4_rd s0 s140 := mh_F_tl hF0 hG_s140 (by decide +kernel)
          have t142 : x80 = s140.1 56 2 := (t81).trans (hG_s140 56 2 (mh_nsI (by rfl))).1.symm
          have t143 : x82 = s140.1 56 3 := (t83).trans (hG_s140 56 3 (mh_nsI (by rfl))).1.symm
          refine mw_zret dX4_readFactor_95 rfl (mh_r_wk r_x139 (by decide)) ⟨x139, rfl, ⟨(mh_r_wk r_x139 (by decide)), (mh_lbT t81 (mh_lbT t83 (mh_lbS E_s85 (mh_ifF c87 (mh_lbS E_s89 (mh_ifT c91 (mh_ifT c92 (mh_lb2T E_s140 rfl)))))))), ?_, hI_s140, hF_s140⟩⟩
          · skip
            have := congrArg Int32.toInt t81
            have := congrArg Int32.toInt t83
            have := congrArg Int32.toInt t142
            have := congrArg Int32.toInt t143
            have := (rc_m1).1; have := (rc_m1).2
            have := (r_x84).1; have := (r_x84).2
            have := (r_p1).1; have := (r_p1).2
            have := (r_x139).1; have := (r_x139).2
            have := (r_x80).1; have := (r_x80).2
            have := (r_x82).1; have := (r_x82).2
            have := kc_m1
            have := kc_0
            have := kc_1
            have := kc_5
            have := kc_6
            have := kc_8
            have := kc_91
            have := kc_93
            omega
    · skip
      have r_x88 : mh_r x88 (1) (1) := mh_ne1 (show x88.toInt ≠ (0 : Int32).toInt from c91) r_x88 rc_0 (1) (1) (by decide)
      refine mw_aload_n 66 rfl 1 dX4_readFactor_65 rfl rfl ?_
      refine mw_callVi [] [] 69 rfl dX4_readFactor_66 ml_X4_107 mc_X4_readNumber mk_X4_readNumber rfl rfl (by decide) (w_eX4_readNumber l G (d + H + 2) ⟨by omega, by omega⟩ hI0) rfl rfl (Nat.le_of_ble_eq_true rfl) (mh_rok (by omega) (by decide)) (fun x144 s145 q146 => ?_)
      obtain ⟨r_x144, E_s145, e0_s145, hI_s145, hG_s145⟩ := q146
      have hF_s145 : mh_F S_eX4_rd s0 s145 := mh_F_tl hF0 hG_s145 (by decide +kernel)
      have t147 : x80 = s145.1 56 2 := (t81).trans (hG_s145 56 2 (mh_nsI (by rfl))).1.symm
      obtain ⟨x148, t149⟩ : ∃ z : Int32, z = s145.1 56 3 := ⟨_, rfl⟩
      have r_x148 : mh_r x148 0 220 := by rw [t149]; exact rd_56_3 hI_s145
      refine mw_zret dX4_readFactor_69 rfl r_x144 ⟨x144, rfl, ⟨r_x144, (mh_lbT t81 (mh_lbT t83 (mh_lbS E_s85 (mh_ifF c87 (mh_lbS E_s89 (mh_ifF c91 (mh_lb2T E_s145 (mh_lbT t149 rfl)))))))), ?_, hI_s145, hF_s145⟩⟩
      · skip
        have := congrArg Int32.toInt t81
        have := congrArg Int32.toInt t83
        have := congrArg Int32.toInt t147
        have := congrArg Int32.toInt t149
        have := (r_x84).1; have := (r_x84).2
        have := (r_p1).1; have := (r_p1).2
        have := (r_x144).1; have := (r_x144).2
        have := (r_x80).1; have := (r_x80).2
        have := (r_x82).1; have := (r_x82).2
        have := (r_x148).1; have := (r_x148).2
        have := kc_m1
        have := kc_0
        have := kc_1
        have := kc_5
        have := kc_6
        have := kc_8
        have := kc_91
        have := kc_93
        omega
  · skip
    have r_x84 : mh_r x84 (91) (91) := mh_eq1 c87 r_x84 rc_91 (91) (91) (by decide)
    refine mw_iload_n 12 rfl 2 dX4_readFactor_11 rfl rfl ?_
    refine mw_bipush (v := 6) 14 rfl dX4_readFactor_12 (by decide) ?_
    refine mw_icmp_lt 17 rfl 23 dX4_readFactor_14 (by decide) (fun c150 => ?_) (fun c150 => ?_)
    · skip
      have r_p1 : mh_r p1 (0) (5) := mh_lt1 c150 r_p1 rc_6 (5) (by decide)
      refine mw_aload_n 24 rfl 1 dX4_readFactor_23 rfl rfl ?_
      refine mw_dup 25 rfl dX4_readFactor_24 rfl ?_
      refine mw_geti 28 rfl dX4_readFactor_25 gf_X4_15 rfl (fun x151 t152 => ?_)
      obtain rfl : x82 = x151 := t83.trans t152.symm
      have r_x82 : mh_r x82 (0) (219) := ⟨(r_x82).1, by have := congrArg Int32.toInt t81; have := congrArg Int32.toInt t83; have := (r_x84).1; have := (r_x84).2; have := (r_p1).1; have := (r_p1).2; have := (r_x82).1; have := (r_x82).2; have := (r_x80).1; have := (r_x80).2; have := kc_m1; have := kc_0; have := kc_1; have := kc_5; have := kc_6; have := kc_8; have := kc_91; have := kc_93; omega⟩
      refine mw_iconst (v := 1) 29 rfl dX4_readFactor_28 (by decide) ?_
      refine mw_iadd 30 rfl (1) (220) dX4_readFactor_29 r_x82 rc_1 (by decide) (fun x153 t154 r_x153 => ?_)
      refine mw_puti 33 rfl dX4_readFactor_30 pf_X4_15 rfl (fun s155 t156 => ?_)
      have hI_s155 : mh_I B D s155 := by rw [t156]; exact wr_56_3 hI0 (mh_r_wk r_x153 (by decide))
      have hF_s155 : mh_F S_eX4_rd s0 s155 := by rw [t156]; exact mh_F_pI hF0 (mh_sj 0 rfl)
      refine mw_aload_n 34 rfl 1 dX4_readFactor_33 rfl rfl ?_
      refine mw_iload_n 35 rfl 2 dX4_readFactor_34 rfl rfl ?_
      refine mw_iconst (v := 1) 36 rfl dX4_readFactor_35 (by decide) ?_
      refine mw_iadd 37 rfl (1) (6) dX4_readFactor_36 r_p1 rc_1 (by decide) (fun x157 t158 r_x157 => ?_)
      have t159 : x80 = s155.1 56 2 := by rw [t156]; exact (t81).trans (mh_pI_n (by omega)).symm
      have t160 : x153 = s155.1 56 3 := by rw [t156]; exact mh_pI_s.symm
      refine mw_callVi [.int x157] [] 40 rfl dX4_readFactor_37 ml_X4_69 mc_X4_readSum mk_X4_readSum rfl rfl (by decide) (((ih (by have := (r_p1).2; omega)) (d + 3)).1 hB hI_s155 x157 (by have := kc_1; omega)) rfl rfl (Nat.le_of_ble_eq_true rfl) (mh_rok (by omega) (by decide)) (fun x161 s162 q163 => ?_)
      obtain ⟨r_x161, E_s162, e0_s162, hI_s162, hG_s162⟩ := q163
      have hF_s162 : mh_F S_eX4_rd s0 s162 := mh_F_tl hF_s155 hG_s162 (by decide +kernel)
      have t164 : x80 = s162.1 56 2 := (t159).trans (hG_s162 56 2 (mh_nsI (by rfl))).1.symm
      obtain ⟨x165, t166⟩ : ∃ z : Int32, z = s162.1 56 3 := ⟨_, rfl⟩
      have r_x165 : mh_r x165 0 220 := by rw [t166]; exact rd_56_3 hI_s162
      refine mw_if_eq 43 rfl 56 dX4_readFactor_40 (by decide) (fun c167 => ?_) (fun c167 => ?_)
      · skip
        have r_x161 : mh_r x161 (0) (0) := mh_eq1 (show x161.toInt = (0 : Int32).toInt from c167) r_x161 rc_0 (0) (0) (by decide)
        refine mw_iconst (v := 0) 57 rfl dX4_readFactor_56 (by decide) ?_
        refine mw_zret dX4_readFactor_57 rfl (mh_r_wk rc_0 (by decide)) ⟨(0), rfl, ⟨(mh_r_wk rc_0 (by decide)), (mh_lbT t81 (mh_lbT t83 (mh_lbS E_s85 (mh_ifT c87 (mh_ifT c150 (mh_lbT (mh_eadd t154) (mh_lbT t156 (mh_lbT (mh_eadd t158) (mh_lb2T E_s162 (mh_lbT t166 (mh_ifT c167 rfl))))))))))), ?_, hI_s162, hF_s162⟩⟩
        · skip
          have := congrArg Int32.toInt t81
          have := congrArg Int32.toInt t83
          have := congrArg Int32.toInt t159
          have := congrArg Int32.toInt t160
          have := congrArg Int32.toInt t164
          have := congrArg Int32.toInt t166
          have := (r_x84).1; have := (r_x84).2
          have := (r_p1).1; have := (r_p1).2
          have := (rc_0).1; have := (rc_0).2
          have := (r_x80).1; have := (r_x80).2
          have := (r_x82).1; have := (r_x82).2
          have := (r_x153).1; have := (r_x153).2
          have := (r_x165).1; have := (r_x165).2
          have := (rc_1).1; have := (rc_1).2
          have := kc_m1
          have := kc_0
          have := kc_1
          have := kc_5
          have := kc_6
          have := kc_8
          have := kc_91
          have := kc_93
          omega
      · skip
        have r_x161 : mh_r x161 (1) (1) := mh_ne1 (show x161.toInt ≠ (0 : Int32).toInt from c167) r_x161 rc_0 (1) (1) (by decide)
        refine mw_aload_n 44 rfl 1 dX4_readFactor_43 rfl rfl ?_
        refine mw_bipush (v := 93) 46 rfl dX4_readFactor_44 (by decide) ?_
        refine mw_callVi [.int (93)] [] 49 rfl dX4_readFactor_46 ml_X4_47 mc_X4_take mk_X4_take rfl rfl (by decide) (w_eX4_take l G (d + H + 2) ⟨by omega, by omega⟩ hI_s162 (93) (mh_r_wk rc_93 (by decide))) rfl rfl (Nat.le_of_ble_eq_true rfl) (mh_rok (by omega) (by decide)) (fun x168 s169 q170 => ?_)
        obtain ⟨r_x168, E_s169, e0_s169, hI_s169, hG_s169⟩ := q170
        have hF_s169 : mh_F S_eX4_rd s0 s169 := mh_F_tl hF_s162 hG_s169 (by decide +kernel)
        have t171 : x80 = s169.1 56 2 := (t164).trans (hG_s169 56 2 (mh_nsI (by rfl))).1.symm
        obtain ⟨x172, t173⟩ : ∃ z : Int32, z = s169.1 56 3 := ⟨_, rfl⟩
        have r_x172 : mh_r x172 0 220 := by rw [t173]; exact rd_56_3 hI_s169
        refine mw_if_eq 52 rfl 56 dX4_readFactor_49 (by decide) (fun c174 => ?_) (fun c174 => ?_)
        · skip
          have r_x168 : mh_r x168 (0) (0) := mh_eq1 (show x168.toInt = (0 : Int32).toInt from c174) r_x168 rc_0 (0) (0) (by decide)
          refine mw_iconst (v := 0) 57 rfl dX4_readFactor_56 (by decide) ?_
          refine mw_zret dX4_readFactor_57 rfl (mh_r_wk rc_0 (by decide)) ⟨(0), rfl, ⟨(mh_r_wk rc_0 (by decide)), (mh_lbT t81 (mh_lbT t83 (mh_lbS E_s85 (mh_ifT c87 (mh_ifT c150 (mh_lbT (mh_eadd t154) (mh_lbT t156 (mh_lbT (mh_eadd t158) (mh_lb2T E_s162 (mh_lbT t166 (mh_ifF c167 (mh_lb2T E_s169 (mh_lbT t173 (mh_ifT c174 rfl)))))))))))))), ?_, hI_s169, hF_s169⟩⟩
          · skip
            have := congrArg Int32.toInt t81
            have := congrArg Int32.toInt t83
            have := congrArg Int32.toInt t159
            have := congrArg Int32.toInt t160
            have := congrArg Int32.toInt t164
            have := congrArg Int32.toInt t166
            have := congrArg Int32.toInt t171
            have := congrArg Int32.toInt t173
            have := (r_x84).1; have := (r_x84).2
            have := (r_p1).1; have := (r_p1).2
            have := (rc_0).1; have := (rc_0).2
            have := (r_x80).1; have := (r_x80).2
            have := (r_x82).1; have := (r_x82).2
            have := (r_x153).1; have := (r_x153).2
            have := (r_x165).1; have := (r_x165).2
            have := (r_x172).1; have := (r_x172).2
            have := (rc_1).1; have := (rc_1).2
            have := kc_m1
            have := kc_0
            have := kc_1
            have := kc_5
            have := kc_6
            have := kc_8
            have := kc_91
            have := kc_93
            omega
        · skip
          have r_x168 : mh_r x168 (1) (1) := mh_ne1 (show x168.toInt ≠ (0 : Int32).toInt from c174) r_x168 rc_0 (1) (1) (by decide)
          refine mw_iconst (v := 1) 53 rfl dX4_readFactor_52 (by decide) ?_
          refine mw_goto 56 rfl 57 dX4_readFactor_53 (by decide) ?_
          refine mw_zret dX4_readFactor_57 rfl (mh_r_wk rc_1 (by decide)) ⟨(1), rfl, ⟨(mh_r_wk rc_1 (by decide)), (mh_lbT t81 (mh_lbT t83 (mh_lbS E_s85 (mh_ifT c87 (mh_ifT c150 (mh_lbT (mh_eadd t154) (mh_lbT t156 (mh_lbT (mh_eadd t158) (mh_lb2T E_s162 (mh_lbT t166 (mh_ifF c167 (mh_lb2T E_s169 (mh_lbT t173 (mh_ifF c174 rfl)))))))))))))), ?_, hI_s169, hF_s169⟩⟩
          · skip
            have := congrArg Int32.toInt t81
            have := congrArg Int32.toInt t83
            have := congrArg Int32.toInt t159
            have := congrArg Int32.toInt t160
            have := congrArg Int32.toInt t164
            have := congrArg Int32.toInt t166
            have := congrArg Int32.toInt t171
            have := congrArg Int32.toInt t173
            have := (r_x84).1; have := (r_x84).2
            have := (r_p1).1; have := (r_p1).2
            have := (rc_1).1; have := (rc_1).2
            have := (r_x80).1; have := (r_x80).2
            have := (r_x82).1; have := (r_x82).2
            have := (r_x153).1; have := (r_x153).2
            have := (r_x165).1; have := (r_x165).2
            have := (r_x172).1; have := (r_x172).2
            have := kc_m1
            have := kc_0
            have := kc_1
            have := kc_5
            have := kc_6
            have := kc_8
            have := kc_91
            have := kc_93
            omega
    · skip
      have r_p1 : mh_r p1 (6) (6) := mh_le2 c150 rc_6 r_p1 (6) (by decide)
      refine mw_aload_n 18 rfl 1 dX4_readFactor_17 rfl rfl ?_
      refine mw_iconst (v := 5) 19 rfl dX4_readFactor_18 (by decide) ?_
      refine mw_callVi [.int (5)] [] 22 rfl dX4_readFactor_19 ml_X4_55 mc_X4_fail mk_X4_fail rfl rfl (by decide) (w_eX4_fail l G (d + H + 3) ⟨by omega, by omega⟩ hI0 (5)) rfl rfl (Nat.le_of_ble_eq_true rfl) (mh_rok (by omega) (by decide)) (fun x175 s176 q177 => ?_)
      obtain ⟨r_x175, E_s176, hI_s176, hG_s176⟩ := q177
      have hF_s176 : mh_F S_eX4_rd s0 s176 := mh_F_tl hF0 hG_s176 (by decide +kernel)
      have t178 : x80 = s176.1 56 2 := (t81).trans (hG_s176 56 2 (mh_nsI (by rfl))).1.symm
      have t179 : x82 = s176.1 56 3 := (t83).trans (hG_s176 56 3 (mh_nsI (by rfl))).1.symm
      refine mw_zret dX4_readFactor_22 rfl (mh_r_wk r_x175 (by decide)) ⟨x175, rfl, ⟨(mh_r_wk r_x175 (by decide)), (mh_lbT t81 (mh_lbT t83 (mh_lbS E_s85 (mh_ifT c87 (mh_ifF (Int.not_lt.mpr c150) (mh_lb2T E_s176 rfl)))))), ?_, hI_s176, hF_s176⟩⟩
      · skip
        have := congrArg Int32.toInt t81
        have := congrArg Int32.toInt t83
        have := congrArg Int32.toInt t178
        have := congrArg Int32.toInt t179
        have := (r_x84).1; have := (r_x84).2
        have := (r_p1).1; have := (r_p1).2
        have := (r_x175).1; have := (r_x175).2
        have := (r_x80).1; have := (r_x80).2
        have := (r_x82).1; have := (r_x82).2
        have := kc_m1
        have := kc_0
        have := kc_1
        have := kc_5
        have := kc_6
        have := kc_8
        have := kc_91
        have := kc_93
        omega

def ls_eX4_readTerm_10_1 (rc : mh_Rc) (p1 : Int32) (lo_10_1 : mh_H → Int32 × mh_H) (s340 : mh_H) : Int32 × mh_H := mh_lb (s340.1 56 2) (fun x423 => mh_lb (s340.1 56 3) (fun x425 => if x425.toInt < x423.toInt then mh_lb (f_eX4_sign s340) (fun x432 => if x432.toInt = (42 : Int32).toInt then mh_lb (f_eX4_sign s340) (fun x436 => mh_lb (x425 + (1 : Int32)) (fun x441 => mh_lb (mh_pI s340 56 3 x441) (fun s443 => mh_lb2 (f_eX4_readFactor rc s443 p1) (fun x447 s448 => mh_lb (s448.1 56 3) (fun x451 => if x447.toInt = 0 then ((0 : Int32), s448) else mh_lb (s448.2.2 56 1) (fun k455 => mh_lb (f_eX1_put s448 k455 x436) (fun s457 => (lo_10_1 s457)))))))) else mh_lb (f_eX4_sign s340) (fun x461 => if x461.toInt = (47 : Int32).toInt then mh_lb (f_eX4_sign s340) (fun x465 => mh_lb (x425 + (1 : Int32)) (fun x470 => mh_lb (mh_pI s340 56 3 x470) (fun s472 => mh_lb2 (f_eX4_readFactor rc s472 p1) (fun x476 s477 => mh_lb (s477.1 56 3) (fun x480 => if x476.toInt = 0 then ((0 : Int32), s477) else mh_lb (s477.2.2 56 1) (fun k484 => mh_lb (f_eX1_put s477 k484 x465) (fun s486 => (lo_10_1 s486)))))))) else mh_lb (f_eX4_sign s340) (fun x490 => if x490.toInt = (37 : Int32).toInt then mh_lb (f_eX4_sign s340) (fun x494 => mh_lb (x425 + (1 : Int32)) (fun x499 => mh_lb (mh_pI s340 56 3 x499) (fun s501 => mh_lb2 (f_eX4_readFactor rc s501 p1) (fun x505 s506 => mh_lb (s506.1 56 3) (fun x509 => if x505.toInt = 0 then ((0 : Int32), s506) else mh_lb (s506.2.2 56 1) (fun k513 => mh_lb (f_eX1_put s506 k513 x494) (fun s515 => (lo_10_1 s515)))))))) else ((1 : Int32), s340)))) else ((1 : Int32), s340)))
def l_eX4_readTerm_10_1 (rc : mh_Rc) (p1 : Int32) : Nat → mh_H → Int32 × mh_H
  | 0 => fun s340 => (0, s340)
  | n + 1 => ls_eX4_readTerm_10_1 rc p1 (l_eX4_readTerm_10_1 rc p1 n)
theorem l_eX4_readTerm_10_1_s (rc : mh_Rc) (p1 : Int32) (n : Nat) : l_eX4_readTerm_10_1 rc p1 (n + 1) = ls_eX4_readTerm_10_1 rc p1 (l_eX4_readTerm_10_1 rc p1 n) := rfl
def f_eX4_readTerm (rc : mh_Rc) (s0 : mh_H) (p1 : Int32) : Int32 × mh_H := mh_lb (s0.1 56 2) (fun x252 => mh_lb (s0.1 56 3) (fun x254 => mh_lb2 (f_eX4_readFactor rc s0 p1) (fun x256 s257 => mh_lb (s257.1 56 3) (fun x260 => if x256.toInt = 0 then ((0 : Int32), s257) else (l_eX4_readTerm_10_1 rc p1 222 s257)))))
set_option maxRecDepth 100000 in
set_option maxHeartbeats 4000000 in
theorem w_eX4_readTerm (l : Launch) (G : mh_G) (d : Nat) {B D : Int} (hB : B ≤ 1700000000 ∧ D ≤ 1700000000) {s0 : mh_H} (hI0 : mh_I B D s0) (p1 : Int32) (r_p1 : mh_r p1 (0) (6)) (H : Nat) (rc : mh_Rc) (ih : p1.toInt < 6 → mh_RBe l G H (p1.toInt + 1) rc) : mh_Mi l G (d + (H + 5)) mM_X4_readTerm [.ref (G.2.2.2 56), .int p1] s0 (P_eX4_rd B D s0 (f_eX4_readTerm rc s0 p1)) := by
  refine mh_enter (lv := [(0, .ref (G.2.2.2 56)), (1, .int p1)]) (by decide) rfl (Nat.le_of_ble_eq_true rfl) ?_
  have hF0 : mh_F S_eX4_rd s0 s0 := mh_F_rf
  obtain ⟨x252, t253⟩ : ∃ z : Int32, z = s0.1 56 2 := ⟨_, rfl⟩
  have r_x252 : mh_r x252 0 220 := by rw [t253]; exact rd_56_2 hI0
  obtain ⟨x254, t255⟩ : ∃ z : Int32, z = s0.1 56 3 := ⟨_, rfl⟩
  have r_x254 : mh_r x254 0 220 := by rw [t255]; exact rd_56_3 hI0
  refine mw_aload_n 1 rfl 0 dX4_readTerm_0 rfl rfl ?_
  refine mw_iload_n 2 rfl 1 dX4_readTerm_1 rfl rfl ?_
  refine mw_callVi [.int p1] [] 5 rfl dX4_readTerm_2 ml_X4_101 mc_X4_readFactor mk_X4_readFactor rfl rfl (by decide) (w_eX4_readFactor l G (d + 0) hB hI0 p1 r_p1 H rc ih) rfl rfl (Nat.le_of_ble_eq_true rfl) (mh_rok (by omega) (by decide)) (fun x256 s257 q258 => ?_)
  obtain ⟨r_x256, E_s257, e0_s257, hI_s257, hG_s257⟩ := q258
  have hF_s257 : mh_F S_eX4_rd s0 s257 := mh_F_tl hF0 hG_s257 (by decide +kernel)
  have t259 : x252 = s257.1 56 2 := (t253).trans (hG_s257 56 2 (mh_nsI (by rfl))).1.symm
  obtain ⟨x260, t261⟩ : ∃ z : Int32, z = s257.1 56 3 := ⟨_, rfl⟩
  have r_x260 : mh_r x260 0 220 := by rw [t261]; exact rd_56_3 hI_s257
  refine mw_if_ne 8 rfl 10 dX4_readTerm_5 (by decide) (fun c262 => ?_) (fun c262 => ?_)
  · skip
    have r_x256 : mh_r x256 (1) (1) := mh_ne1 (show x256.toInt ≠ (0 : Int32).toInt from c262) r_x256 rc_0 (1) (1) (by decide)
    have L10 : ∀ n1 : Nat, ∀  (s340 : mh_H), mh_I B D s340 → mh_F S_eX4_rd s0 s340 → ((s0.1 56 3).toInt ≤ (s340.1 56 3).toInt) → (f_eX4_readTerm rc s0 p1 = l_eX4_readTerm_10_1 rc p1 n1 s340) → 220 - (s340.1 56 3).toInt < (n1 : Int) → mh_W G (mh_XM l G (d + (H + 5)) (mh_Qi (P_eX4_rd B D s0 (f_eX4_readTerm rc s0 p1)))) mM_X4_readTerm 10 [(0, .ref (G.2.2.2 56)), (1, .int p1)] [] s340 := by
      intro n1
      induction n1 with
      | zero =>
        intro s340 hI_s340 hF_s340 iv hE1 hmn1
        exact absurd hmn1 (by have := (rd_56_3 hI_s340).2; omega)
      | succ n1 ihn1 =>
        intro s340 hI_s340 hF_s340 iv hE1 hmn1
        rw [l_eX4_readTerm_10_1_s] at hE1
        obtain ⟨x423, t424⟩ : ∃ z : Int32, z = s340.1 56 2 := ⟨_, rfl⟩
        have r_x423 : mh_r x423 0 220 := by rw [t424]; exact rd_56_2 hI_s340
        obtain ⟨x425, t426⟩ : ∃ z : Int32, z = s340.1 56 3 := ⟨_, rfl⟩
        have r_x425 : mh_r x425 0 220 := by rw [t426]; exact rd_56_3 hI_s340
        refine mw_aload_n 11 rfl 0 dX4_readTerm_10 rfl rfl ?_
        refine mw_geti 14 rfl dX4_readTerm_11 gf_X4_15 rfl (fun x427 t428 => ?_)
        obtain rfl : x425 = x427 := t426.trans t428.symm
        refine mw_aload_n 15 rfl 0 dX4_readTerm_14 rfl rfl ?_
        refine mw_geti 18 rfl dX4_readTerm_15 gf_X4_9 rfl (fun x429 t430 => ?_)
        obtain rfl : x423 = x429 := t424.trans t430.symm
        refine mw_icmp_ge 21 rfl 84 dX4_readTerm_18 (by decide) (fun c431 => ?_) (fun c431 => ?_)
        · skip
          refine mw_iconst (v := 1) 85 rfl dX4_readTerm_84 (by decide) ?_
          refine mw_zret dX4_readTerm_85 rfl (mh_r_wk rc_1 (by decide)) ⟨(1), rfl, ⟨(mh_r_wk rc_1 (by decide)), (Eq.trans hE1 (mh_lbT t424 (mh_lbT t426 (mh_ifF (Int.not_lt.mpr c431) rfl)))), ?_, hI_s340, hF_s340⟩⟩
          · skip
            have := congrArg Int32.toInt t253
            have := congrArg Int32.toInt t255
            have := congrArg Int32.toInt t259
            have := congrArg Int32.toInt t261
            have := congrArg Int32.toInt t424
            have := congrArg Int32.toInt t426
            have := (r_p1).1; have := (r_p1).2
            have := (rc_1).1; have := (rc_1).2
            have := (r_x252).1; have := (r_x252).2
            have := (r_x254).1; have := (r_x254).2
            have := (r_x260).1; have := (r_x260).2
            have := (r_x423).1; have := (r_x423).2
            have := (r_x425).1; have := (r_x425).2
            have := kc_0
            have := kc_1
            have := kc_37
            have := kc_42
            have := kc_47
            omega
        · skip
          have r_x425 : mh_r x425 (0) (219) := mh_lt1 c431 r_x425 r_x423 (219) (by decide)
          have r_x423 : mh_r x423 (1) (220) := mh_lt2 c431 r_x425 r_x423 (1) (by decide)
          refine mw_aload_n 22 rfl 0 dX4_readTerm_21 rfl rfl ?_
          refine mw_callVi [] [] 25 rfl dX4_readTerm_22 ml_X4_51 mc_X4_sign mk_X4_sign rfl rfl (by decide) (w_eX4_sign l G (d + H + 4) ⟨by omega, by omega⟩ hI_s340) rfl rfl (Nat.le_of_ble_eq_true rfl) (mh_rok (by omega) (by decide)) (fun x432 s433 q434 => ?_)
          obtain ⟨r_x432, E_s433, e0_s433, rfl⟩ := q434
          have hq_x432 : 0 ≤ x432.toInt → x425.toInt < x423.toInt := by have h9 := e0_s433; rw [← t426, ← t424] at h9; exact h9
          refine mw_bipush (v := 42) 27 rfl dX4_readTerm_25 (by decide) ?_
          refine mw_icmp_eq 30 rfl 48 dX4_readTerm_27 (by decide) (fun c435 => ?_) (fun c435 => ?_)
          · skip
            have r_x432 : mh_r x432 (42) (42) := mh_eq1 c435 r_x432 rc_42 (42) (42) (by decide)
            refine mw_aload_n 49 rfl 0 dX4_readTerm_48 rfl rfl ?_
            refine mw_callVi [] [] 52 rfl dX4_readTerm_49 ml_X4_51 mc_X4_sign mk_X4_sign rfl rfl (by decide) (w_eX4_sign l G (d + H + 4) ⟨by omega, by omega⟩ hI_s340) rfl rfl (Nat.le_of_ble_eq_true rfl) (mh_rok (by omega) (by decide)) (fun x436 s437 q438 => ?_)
            obtain ⟨r_x436, E_s437, e0_s437, rfl⟩ := q438
            have hq_x436 : 0 ≤ x436.toInt → x425.toInt < x423.toInt := by have h9 := e0_s437; rw [← t426, ← t424] at h9; exact h9
            refine mw_istore_n 53 rfl [(2, .int x436), (0, .ref (G.2.2.2 56)), (1, .int p1)] dX4_readTerm_52 rfl (by decide) rfl ?_
            refine mw_aload_n 54 rfl 1 dX4_readTerm_53 rfl rfl ?_
            refine mw_dup 55 rfl dX4_readTerm_54 rfl ?_
            refine mw_geti 58 rfl dX4_readTerm_55 gf_X4_15 rfl (fun x439 t440 => ?_)
            obtain rfl : x425 = x439 := t426.trans t440.symm
            refine mw_iconst (v := 1) 59 rfl dX4_readTerm_58 (by decide) ?_
            refine mw_iadd 60 rfl (1) (220) dX4_readTerm_59 r_x425 rc_1 (by decide) (fun x441 t442 r_x441 => ?_)
            refine mw_puti 63 rfl dX4_readTerm_60 pf_X4_15 rfl (fun s443 t444 => ?_)
            have hI_s443 : mh_I B D s443 := by rw [t444]; exact wr_56_3 hI_s340 (mh_r_wk r_x441 (by decide))
            have hF_s443 : mh_F S_eX4_rd s0 s443 := by rw [t444]; exact mh_F_pI hF_s340 (mh_sj 0 rfl)
            refine mw_aload_n 64 rfl 1 dX4_readTerm_63 rfl rfl ?_
            refine mw_iload_n 65 rfl 2 dX4_readTerm_64 rfl rfl ?_
            have t445 : x423 = s443.1 56 2 := by rw [t444]; exact (t424).trans (mh_pI_n (by omega)).symm
            have t446 : x441 = s443.1 56 3 := by rw [t444]; exact mh_pI_s.symm
            refine mw_callVi [.int p1] [] 68 rfl dX4_readTerm_65 ml_X4_101 mc_X4_readFactor mk_X4_readFactor rfl rfl (by decide) (w_eX4_readFactor l G (d + 0) hB hI_s443 p1 r_p1 H rc ih) rfl rfl (Nat.le_of_ble_eq_true rfl) (mh_rok (by omega) (by decide)) (fun x447 s448 q449 => ?_)
            obtain ⟨r_x447, E_s448, e0_s448, hI_s448, hG_s448⟩ := q449
            have hF_s448 : mh_F S_eX4_rd s0 s448 := mh_F_tl hF_s443 hG_s448 (by decide +kernel)
            have t450 : x423 = s448.1 56 2 := (t445).trans (hG_s448 56 2 (mh_nsI (by rfl))).1.symm
            obtain ⟨x451, t452⟩ : ∃ z : Int32, z = s448.1 56 3 := ⟨_, rfl⟩
            have r_x451 : mh_r x451 0 220 := by rw [t452]; exact rd_56_3 hI_s448
            refine mw_if_ne 71 rfl 73 dX4_readTerm_68 (by decide) (fun c453 => ?_) (fun c453 => ?_)
            · skip
              have r_x447 : mh_r x447 (1) (1) := mh_ne1 (show x447.toInt ≠ (0 : Int32).toInt from c453) r_x447 rc_0 (1) (1) (by decide)
              refine mw_aload_n 74 rfl 1 dX4_readTerm_73 rfl rfl ?_
              obtain ⟨k455, t454⟩ : ∃ y : Nat, s448.2.2 56 1 = y := ⟨_, rfl⟩
              have hk455 : mh_isL k455 := by rw [← t454]; exact hI_s448.2.1.2.2.2
              refine mw_geta 77 rfl dX4_readTerm_74 gf_X4_25 rfl k455 t454 ?_
              refine mw_iload_n 78 rfl 0 dX4_readTerm_77 rfl rfl ?_
              refine mw_callVv [.int x436] [] 81 rfl dX4_readTerm_78 ml_X4_95 mc_X1_put mk_X1_put (ly_L hk455) rfl (by decide) (w_eX1_put l G (d + H + 4) ⟨by omega, by omega⟩ hI_s448 k455 hk455 x436) rfl rfl (Nat.le_of_ble_eq_true rfl) (mh_rok (by omega) (by decide)) (fun s457 q458 => ?_)
              obtain ⟨E_s457, hI_s457, hG_s457⟩ := q458
              have hF_s457 : mh_F S_eX4_rd s0 s457 := mh_F_tl hF_s448 hG_s457 (by rcases hk455 with rfl | rfl <;> decide +kernel)
              have t459 : x423 = s457.1 56 2 := (t450).trans (hG_s457 56 2 (mh_nsI (by rcases hk455 with rfl | rfl <;> rfl))).1.symm
              have t460 : x451 = s457.1 56 3 := (t452).trans (hG_s457 56 3 (mh_nsI (by rcases hk455 with rfl | rfl <;> rfl))).1.symm
              refine mw_goto 84 rfl 10 dX4_readTerm_81 (by decide) ?_
              exact mw_lv [1, 2] rfl (ihn1 s457 hI_s457 hF_s457 (by
                  have := congrArg Int32.toInt t253
                  have := congrArg Int32.toInt t255
                  have := congrArg Int32.toInt t259
                  have := congrArg Int32.toInt t261
                  have := congrArg Int32.toInt t424
                  have := congrArg Int32.toInt t426
                  have := congrArg Int32.toInt t445
                  have := congrArg Int32.toInt t446
                  have := congrArg Int32.toInt t450
                  have := congrArg Int32.toInt t452
                  have := congrArg Int32.toInt t459
                  have := congrArg Int32.toInt t460
                  have := (r_x436).1; have := (r_x436).2
                  have := (r_p1).1; have := (r_p1).2
                  have := (r_x252).1; have := (r_x252).2
                  have := (r_x254).1; have := (r_x254).2
                  have := (r_x260).1; have := (r_x260).2
                  have := (r_x423).1; have := (r_x423).2
                  have := (r_x425).1; have := (r_x425).2
                  have := (r_x441).1; have := (r_x441).2
                  have := (r_x451).1; have := (r_x451).2
                  have := (rc_1).1; have := (rc_1).2
                  have := kc_0
                  have := kc_1
                  have := kc_37
                  have := kc_42
                  have := kc_47
                  omega) (Eq.trans hE1 (mh_lbT t424 (mh_lbT t426 (mh_ifT c431 (mh_lbS E_s433 (mh_ifT c435 (mh_lbS E_s437 (mh_lbT (mh_eadd t442) (mh_lbT t444 (mh_lb2T E_s448 (mh_lbT t452 (mh_ifF c453 (mh_lbS t454 (mh_lbS E_s457 rfl)))))))))))))) (by have := congrArg Int32.toInt t253; have := congrArg Int32.toInt t255; have := congrArg Int32.toInt t259; have := congrArg Int32.toInt t261; have := congrArg Int32.toInt t424; have := congrArg Int32.toInt t426; have := congrArg Int32.toInt t445; have := congrArg Int32.toInt t446; have := congrArg Int32.toInt t450; have := congrArg Int32.toInt t452; have := congrArg Int32.toInt t459; have := congrArg Int32.toInt t460; have := (r_x436).1; have := (r_x436).2; have := (r_p1).1; have := (r_p1).2; have := (r_x252).1; have := (r_x252).2; have := (r_x254).1; have := (r_x254).2; have := (r_x260).1; have := (r_x260).2; have := (r_x423).1; have := (r_x423).2; have := (r_x425).1; have := (r_x425).2; have := (r_x441).1; have := (r_x441).2; have := (r_x451).1; have := (r_x451).2; have := (rc_1).1; have := (rc_1).2; have := kc_0; have := kc_1; have := kc_37; have := kc_42; have := kc_47; omega))
            · skip
              have r_x447 : mh_r x447 (0) (0) := mh_eq1 (show x447.toInt = (0 : Int32).toInt from c453) r_x447 rc_0 (0) (0) (by decide)
              refine mw_iconst (v := 0) 72 rfl dX4_readTerm_71 (by decide) ?_
              refine mw_zret dX4_readTerm_72 rfl (mh_r_wk rc_0 (by decide)) ⟨(0), rfl, ⟨(mh_r_wk rc_0 (by decide)), (Eq.trans hE1 (mh_lbT t424 (mh_lbT t426 (mh_ifT c431 (mh_lbS E_s433 (mh_ifT c435 (mh_lbS E_s437 (mh_lbT (mh_eadd t442) (mh_lbT t444 (mh_lb2T E_s448 (mh_lbT t452 (mh_ifT c453 rfl)))))))))))), ?_, hI_s448, hF_s448⟩⟩
              · skip
                have := congrArg Int32.toInt t253
                have := congrArg Int32.toInt t255
                have := congrArg Int32.toInt t259
                have := congrArg Int32.toInt t261
                have := congrArg Int32.toInt t424
                have := congrArg Int32.toInt t426
                have := congrArg Int32.toInt t445
                have := congrArg Int32.toInt t446
                have := congrArg Int32.toInt t450
                have := congrArg Int32.toInt t452
                have := (r_x436).1; have := (r_x436).2
                have := (r_p1).1; have := (r_p1).2
                have := (rc_0).1; have := (rc_0).2
                have := (r_x252).1; have := (r_x252).2
                have := (r_x254).1; have := (r_x254).2
                have := (r_x260).1; have := (r_x260).2
                have := (r_x423).1; have := (r_x423).2
                have := (r_x425).1; have := (r_x425).2
                have := (r_x441).1; have := (r_x441).2
                have := (r_x451).1; have := (r_x451).2
                have := (rc_1).1; have := (rc_1).2
                have := kc_0
                have := kc_1
                have := kc_37
                have := kc_42
                have := kc_47
                omega
          · skip
            refine mw_aload_n 31 rfl 0 dX4_readTerm_30 rfl rfl ?_
            refine mw_callVi [] [] 34 rfl dX4_readTerm_31 ml_X4_51 mc_X4_sign mk_X4_sign rfl rfl (by decide) (w_eX4_sign l G (d + H + 4) ⟨by omega, by omega⟩ hI_s340) rfl rfl (Nat.le_of_ble_eq_true rfl) (mh_rok (by omega) (by decide)) (fun x461 s462 q463 => ?_)
            obtain ⟨r_x461, E_s462, e0_s462, rfl⟩ := q463
            have hq_x461 : 0 ≤ x461.toInt → x425.toInt < x423.toInt := by have h9 := e0_s462; rw [← t426, ← t424] at h9; exact h9
            refine mw_bipush (v := 47) 36 rfl dX4_readTerm_34 (by decide) ?_
            refine mw_icmp_eq 39 rfl 48 dX4_readTerm_36 (by decide) (fun c464 => ?_) (fun c464 => ?_)
            · skip
              have r_x461 : mh_r x461 (47) (47) := mh_eq1 c464 r_x461 rc_47 (47) (47) (by decide)
              refine mw_aload_n 49 rfl 0 dX4_readTerm_48 rfl rfl ?_
              refine mw_callVi [] [] 52 rfl dX4_readTerm_49 ml_X4_51 mc_X4_sign mk_X4_sign rfl rfl (by decide) (w_eX4_sign l G (d + H + 4) ⟨by omega, by omega⟩ hI_s340) rfl rfl (Nat.le_of_ble_eq_true rfl) (mh_rok (by omega) (by decide)) (fun x465 s466 q467 => ?_)
              obtain ⟨r_x465, E_s466, e0_s466, rfl⟩ := q467
              have hq_x465 : 0 ≤ x465.toInt → x425.toInt < x423.toInt := by have h9 := e0_s466; rw [← t426, ← t424] at h9; exact h9
              refine mw_istore_n 53 rfl [(2, .int x465), (0, .ref (G.2.2.2 56)), (1, .int p1)] dX4_readTerm_52 rfl (by decide) rfl ?_
              refine mw_aload_n 54 rfl 1 dX4_readTerm_53 rfl rfl ?_
              refine mw_dup 55 rfl dX4_readTerm_54 rfl ?_
              refine mw_geti 58 rfl dX4_readTerm_55 gf_X4_15 rfl (fun x468 t469 => ?_)
              obtain rfl : x425 = x468 := t426.trans t469.symm
              refine mw_iconst (v := 1) 59 rfl dX4_readTerm_58 (by decide) ?_
              refine mw_iadd 60 rfl (1) (220) dX4_readTerm_59 r_x425 rc_1 (by decide) (fun x470 t471 r_x470 => ?_)
              refine mw_puti 63 rfl dX4_readTerm_60 pf_X4_15 rfl (fun s472 t473 => ?_)
              have hI_s472 : mh_I B D s472 := by rw [t473]; exact wr_56_3 hI_s340 (mh_r_wk r_x470 (by decide))
              have hF_s472 : mh_F S_eX4_rd s0 s472 := by rw [t473]; exact mh_F_pI hF_s340 (mh_sj 0 rfl)
              refine mw_aload_n 64 rfl 1 dX4_readTerm_63 rfl rfl ?_
              refine mw_iload_n 65 rfl 2 dX4_readTerm_64 rfl rfl ?_
              have t474 : x423 = s472.1 56 2 := by rw [t473]; exact (t424).trans (mh_pI_n (by omega)).symm
              have t475 : x470 = s472.1 56 3 := by rw [t473]; exact mh_pI_s.symm
              refine mw_callVi [.int p1] [] 68 rfl dX4_readTerm_65 ml_X4_101 mc_X4_readFactor mk_X4_readFactor rfl rfl (by decide) (w_eX4_readFactor l G (d + 0) hB hI_s472 p1 r_p1 H rc ih) rfl rfl (Nat.le_of_ble_eq_true rfl) (mh_rok (by omega) (by decide)) (fun x476 s477 q478 => ?_)
              obtain ⟨r_x476, E_s477, e0_s477, hI_s477, hG_s477⟩ := q478
              have hF_s477 : mh_F S_eX4_rd s0 s477 := mh_F_tl hF_s472 hG_s477 (by decide +kernel)
              have t479 : x423 = s477.1 56 2 := (t474).trans (hG_s477 56 2 (mh_nsI (by rfl))).1.symm
              obtain ⟨x480, t481⟩ : ∃ z : Int32, z = s477.1 56 3 := ⟨_, rfl⟩
              have r_x480 : mh_r x480 0 220 := by rw [t481]; exact rd_56_3 hI_s477
              refine mw_if_ne 71 rfl 73 dX4_readTerm_68 (by decide) (fun c482 => ?_) (fun c482 => ?_)
              · skip
                have r_x476 : mh_r x476 (1) (1) := mh_ne1 (show x476.toInt ≠ (0 : Int32).toInt from c482) r_x476 rc_0 (1) (1) (by decide)
                refine mw_aload_n 74 rfl 1 dX4_readTerm_73 rfl rfl ?_
                obtain ⟨k484, t483⟩ : ∃ y : Nat, s477.2.2 56 1 = y := ⟨_, rfl⟩
                have hk484 : mh_isL k484 := by rw [← t483]; exact hI_s477.2.1.2.2.2
                refine mw_geta 77 rfl dX4_readTerm_74 gf_X4_25 rfl k484 t483 ?_
                refine mw_iload_n 78 rfl 0 dX4_readTerm_77 rfl rfl ?_
                refine mw_callVv [.int x465] [] 81 rfl dX4_readTerm_78 ml_X4_95 mc_X1_put mk_X1_put (ly_L hk484) rfl (by decide) (w_eX1_put l G (d + H + 4) ⟨by omega, by omega⟩ hI_s477 k484 hk484 x465) rfl rfl (Nat.le_of_ble_eq_true rfl) (mh_rok (by omega) (by decide)) (fun s486 q487 => ?_)
                obtain ⟨E_s486, hI_s486, hG_s486⟩ := q487
                have hF_s486 : mh_F S_eX4_rd s0 s486 := mh_F_tl hF_s477 hG_s486 (by rcases hk484 with rfl | rfl <;> decide +kernel)
                have t488 : x423 = s486.1 56 2 := (t479).trans (hG_s486 56 2 (mh_nsI (by rcases hk484 with rfl | rfl <;> rfl))).1.symm
                have t489 : x480 = s486.1 56 3 := (t481).trans (hG_s486 56 3 (mh_nsI (by rcases hk484 with rfl | rfl <;> rfl))).1.symm
                refine mw_goto 84 rfl 10 dX4_readTerm_81 (by decide) ?_
                exact mw_lv [1, 2] rfl (ihn1 s486 hI_s486 hF_s486 (by
                    have := congrArg Int32.toInt t253
                    have := congrArg Int32.toInt t255
                    have := congrArg Int32.toInt t259
                    have := congrArg Int32.toInt t261
                    have := congrArg Int32.toInt t424
                    have := congrArg Int32.toInt t426
                    have := congrArg Int32.toInt t474
                    have := congrArg Int32.toInt t475
                    have := congrArg Int32.toInt t479
                    have := congrArg Int32.toInt t481
                    have := congrArg Int32.toInt t488
                    have := congrArg Int32.toInt t489
                    have := (r_x465).1; have := (r_x465).2
                    have := (r_p1).1; have := (r_p1).2
                    have := (r_x252).1; have := (r_x252).2
                    have := (r_x254).1; have := (r_x254).2
                    have := (r_x260).1; have := (r_x260).2
                    have := (r_x423).1; have := (r_x423).2
                    have := (r_x425).1; have := (r_x425).2
                    have := (r_x470).1; have := (r_x470).2
                    have := (r_x480).1; have := (r_x480).2
                    have := (rc_1).1; have := (rc_1).2
                    have := kc_0
                    have := kc_1
                    have := kc_37
                    have := kc_42
                    have := kc_47
                    omega) (Eq.trans hE1 (mh_lbT t424 (mh_lbT t426 (mh_ifT c431 (mh_lbS E_s433 (mh_ifF c435 (mh_lbS E_s462 (mh_ifT c464 (mh_lbS E_s466 (mh_lbT (mh_eadd t471) (mh_lbT t473 (mh_lb2T E_s477 (mh_lbT t481 (mh_ifF c482 (mh_lbS t483 (mh_lbS E_s486 rfl)))))))))))))))) (by have := congrArg Int32.toInt t253; have := congrArg Int32.toInt t255; have := congrArg Int32.toInt t259; have := congrArg Int32.toInt t261; have := congrArg Int32.toInt t424; have := congrArg Int32.toInt t426; have := congrArg Int32.toInt t474; have := congrArg Int32.toInt t475; have := congrArg Int32.toInt t479; have := congrArg Int32.toInt t481; have := congrArg Int32.toInt t488; have := congrArg Int32.toInt t489; have := (r_x465).1; have := (r_x465).2; have := (r_p1).1; have := (r_p1).2; have := (r_x252).1; have := (r_x252).2; have := (r_x254).1; have := (r_x254).2; have := (r_x260).1; have := (r_x260).2; have := (r_x423).1; have := (r_x423).2; have := (r_x425).1; have := (r_x425).2; have := (r_x470).1; have := (r_x470).2; have := (r_x480).1; have := (r_x480).2; have := (rc_1).1; have := (rc_1).2; have := kc_0; have := kc_1; have := kc_37; have := kc_42; have := kc_47; omega))
              · skip
                have r_x476 : mh_r x476 (0) (0) := mh_eq1 (show x476.toInt = (0 : Int32).toInt from c482) r_x476 rc_0 (0) (0) (by decide)
                refine mw_iconst (v := 0) 72 rfl dX4_readTerm_71 (by decide) ?_
                refine mw_zret dX4_readTerm_72 rfl (mh_r_wk rc_0 (by decide)) ⟨(0), rfl, ⟨(mh_r_wk rc_0 (by decide)), (Eq.trans hE1 (mh_lbT t424 (mh_lbT t426 (mh_ifT c431 (mh_lbS E_s433 (mh_ifF c435 (mh_lbS E_s462 (mh_ifT c464 (mh_lbS E_s466 (mh_lbT (mh_eadd t471) (mh_lbT t473 (mh_lb2T E_s477 (mh_lbT t481 (mh_ifT c482 rfl)))))))))))))), ?_, hI_s477, hF_s477⟩⟩
                · skip
                  have := congrArg Int32.toInt t253
                  have := congrArg Int32.toInt t255
                  have := congrArg Int32.toInt t259
                  have := congrArg Int32.toInt t261
                  have := congrArg Int32.toInt t424
                  have := congrArg Int32.toInt t426
                  have := congrArg Int32.toInt t474
                  have := congrArg Int32.toInt t475
                  have := congrArg Int32.toInt t479
                  have := congrArg Int32.toInt t481
                  have := (r_x465).1; have := (r_x465).2
                  have := (r_p1).1; have := (r_p1).2
                  have := (rc_0).1; have := (rc_0).2
                  have := (r_x252).1; have := (r_x252).2
                  have := (r_x254).1; have := (r_x254).2
                  have := (r_x260).1; have := (r_x260).2
                  have := (r_x423).1; have := (r_x423).2
                  have := (r_x425).1; have := (r_x425).2
                  have := (r_x470).1; have := (r_x470).2
                  have := (r_x480).1; have := (r_x480).2
                  have := (rc_1).1; have := (rc_1).2
                  have := kc_0
                  have := kc_1
                  have := kc_37
                  have := kc_42
                  have := kc_47
                  omega
            · skip
              refine mw_aload_n 40 rfl 0 dX4_readTerm_39 rfl rfl ?_
              refine mw_callVi [] [] 43 rfl dX4_readTerm_40 ml_X4_51 mc_X4_sign mk_X4_sign rfl rfl (by decide) (w_eX4_sign l G (d + H + 4) ⟨by omega, by omega⟩ hI_s340) rfl rfl (Nat.le_of_ble_eq_true rfl) (mh_rok (by omega) (by decide)) (fun x490 s491 q492 => ?_)
              obtain ⟨r_x490, E_s491, e0_s491, rfl⟩ := q492
              have hq_x490 : 0 ≤ x490.toInt → x425.toInt < x423.toInt := by have h9 := e0_s491; rw [← t426, ← t424] at h9; exact h9
              refine mw_bipush (v := 37) 45 rfl dX4_readTerm_43 (by decide) ?_
              refine mw_icmp_ne 48 rfl 84 dX4_readTerm_45 (by decide) (fun c493 => ?_) (fun c493 => ?_)
              · skip
                refine mw_iconst (v := 1) 85 rfl dX4_readTerm_84 (by decide) ?_
                refine mw_zret dX4_readTerm_85 rfl (mh_r_wk rc_1 (by decide)) ⟨(1), rfl, ⟨(mh_r_wk rc_1 (by decide)), (Eq.trans hE1 (mh_lbT t424 (mh_lbT t426 (mh_ifT c431 (mh_lbS E_s433 (mh_ifF c435 (mh_lbS E_s462 (mh_ifF c464 (mh_lbS E_s491 (mh_ifF c493 rfl)))))))))), ?_, hI_s340, hF_s340⟩⟩
                · skip
                  have := congrArg Int32.toInt t253
                  have := congrArg Int32.toInt t255
                  have := congrArg Int32.toInt t259
                  have := congrArg Int32.toInt t261
                  have := congrArg Int32.toInt t424
                  have := congrArg Int32.toInt t426
                  have := (r_p1).1; have := (r_p1).2
                  have := (rc_1).1; have := (rc_1).2
                  have := (r_x252).1; have := (r_x252).2
                  have := (r_x254).1; have := (r_x254).2
                  have := (r_x260).1; have := (r_x260).2
                  have := (r_x423).1; have := (r_x423).2
                  have := (r_x425).1; have := (r_x425).2
                  have := kc_0
                  have := kc_1
                  have := kc_37
                  have := kc_42
                  have := kc_47
                  omega
              · skip
                have r_x490 : mh_r x490 (37) (37) := mh_eq1 c493 r_x490 rc_37 (37) (37) (by decide)
                refine mw_aload_n 49 rfl 0 dX4_readTerm_48 rfl rfl ?_
                refine mw_callVi [] [] 52 rfl dX4_readTerm_49 ml_X4_51 mc_X4_sign mk_X4_sign rfl rfl (by decide) (w_eX4_sign l G (d + H + 4) ⟨by omega, by omega⟩ hI_s340) rfl rfl (Nat.le_of_ble_eq_true rfl) (mh_rok (by omega) (by decide)) (fun x494 s495 q496 => ?_)
                obtain ⟨r_x494, E_s495, e0_s495, rfl⟩ := q496
                have hq_x494 : 0 ≤ x494.toInt → x425.toInt < x423.toInt := by have h9 := e0_s495; rw [← t426, ← t424] at h9; exact h9
                refine mw_istore_n 53 rfl [(2, .int x494), (0, .ref (G.2.2.2 56)), (1, .int p1)] dX4_readTerm_52 rfl (by decide) rfl ?_
                refine mw_aload_n 54 rfl 1 dX4_readTerm_53 rfl rfl ?_
                refine mw_dup 55 rfl dX4_readTerm_54 rfl ?_
                refine mw_geti 58 rfl dX4_readTerm_55 gf_X4_15 rfl (fun x497 t498 => ?_)
                obtain rfl : x425 = x497 := t426.trans t498.symm
                refine mw_iconst (v := 1) 59 rfl dX4_readTerm_58 (by decide) ?_
                refine mw_iadd 60 rfl (1) (220) dX4_readTerm_59 r_x425 rc_1 (by decide) (fun x499 t500 r_x499 => ?_)
                refine mw_puti 63 rfl dX4_readTerm_60 pf_X4_15 rfl (fun s501 t502 => ?_)
                have hI_s501 : mh_I B D s501 := by rw [t502]; exact wr_56_3 hI_s340 (mh_r_wk r_x499 (by decide))
                have hF_s501 : mh_F S_eX4_rd s0 s501 := by rw [t502]; exact mh_F_pI hF_s340 (mh_sj 0 rfl)
                refine mw_aload_n 64 rfl 1 dX4_readTerm_63 rfl rfl ?_
                refine mw_iload_n 65 rfl 2 dX4_readTerm_64 rfl rfl ?_
                have t503 : x423 = s501.1 56 2 := by rw [t502]; exact (t424).trans (mh_pI_n (by omega)).symm
                have t504 : x499 = s501.1 56 3 := by rw [t502]; exact mh_pI_s.symm
                refine mw_callVi [.int p1] [] 68 rfl dX4_readTerm_65 ml_X4_101 mc_X4_readFactor mk_X4_readFactor rfl rfl (by decide) (w_eX4_readFactor l G (d + 0) hB hI_s501 p1 r_p1 H rc ih) rfl rfl (Nat.le_of_ble_eq_true rfl) (mh_rok (by omega) (by decide)) (fun x505 s506 q507 => ?_)
                obtain ⟨r_x505, E_s506, e0_s506, hI_s506, hG_s506⟩ := q507
                have hF_s506 : mh_F S_eX4_rd s0 s506 := mh_F_tl hF_s501 hG_s506 (by decide +kernel)
                have t508 : x423 = s506.1 56 2 := (t503).trans (hG_s506 56 2 (mh_nsI (by rfl))).1.symm
                obtain ⟨x509, t510⟩ : ∃ z : Int32, z = s506.1 56 3 := ⟨_, rfl⟩
                have r_x509 : mh_r x509 0 220 := by rw [t510]; exact rd_56_3 hI_s506
                refine mw_if_ne 71 rfl 73 dX4_readTerm_68 (by decide) (fun c511 => ?_) (fun c511 => ?_)
                · skip
                  have r_x505 : mh_r x505 (1) (1) := mh_ne1 (show x505.toInt ≠ (0 : Int32).toInt from c511) r_x505 rc_0 (1) (1) (by decide)
                  refine mw_aload_n 74 rfl 1 dX4_readTerm_73 rfl rfl ?_
                  obtain ⟨k513, t512⟩ : ∃ y : Nat, s506.2.2 56 1 = y := ⟨_, rfl⟩
                  have hk513 : mh_isL k513 := by rw [← t512]; exact hI_s506.2.1.2.2.2
                  refine mw_geta 77 rfl dX4_readTerm_74 gf_X4_25 rfl k513 t512 ?_
                  refine mw_iload_n 78 rfl 0 dX4_readTerm_77 rfl rfl ?_
                  refine mw_callVv [.int x494] [] 81 rfl dX4_readTerm_78 ml_X4_95 mc_X1_put mk_X1_put (ly_L hk513) rfl (by decide) (w_eX1_put l G (d + H + 4) ⟨by omega, by omega⟩ hI_s506 k513 hk513 x494) rfl rfl (Nat.le_of_ble_eq_true rfl) (mh_rok (by omega) (by decide)) (fun s515 q516 => ?_)
                  obtain ⟨E_s515, hI_s515, hG_s515⟩ := q516
                  have hF_s515 : mh_F S_eX4_rd s0 s515 := mh_F_tl hF_s506 hG_s515 (by rcases hk513 with rfl | rfl <;> decide +kernel)
                  have t517 : x423 = s515.1 56 2 := (t508).trans (hG_s515 56 2 (mh_nsI (by rcases hk513 with rfl | rfl <;> rfl))).1.symm
                  have t518 : x509 = s515.1 56 3 := (t510).trans (hG_s515 56 3 (mh_nsI (by rcases hk513 with rfl | rfl <;> rfl))).1.symm
                  refine mw_goto 84 rfl 10 dX4_readTerm_81 (by decide) ?_
                  exact mw_lv [1, 2] rfl (ihn1 s515 hI_s515 hF_s515 (by
                      have := congrArg Int32.toInt t253
                      have := congrArg Int32.toInt t255
                      have := congrArg Int32.toInt t259
                      have := congrArg Int32.toInt t261
                      have := congrArg Int32.toInt t424
                      have := congrArg Int32.toInt t426
                      have := congrArg Int32.toInt t503
                      have := congrArg Int32.toInt t504
                      have := congrArg Int32.toInt t508
                      have := congrArg Int32.toInt t510
                      have := congrArg Int32.toInt t517
                      have := congrArg Int32.toInt t518
                      have := (r_x494).1; have := (r_x494).2
                      have := (r_p1).1; have := (r_p1).2
                      have := (r_x252).1; have := (r_x252).2
                      have := (r_x254).1; have := (r_x254).2
                      have := (r_x260).1; have := (r_x260).2
                      have := (r_x423).1; have := (r_x423).2
                      have := (r_x425).1; have := (r_x425).2
                      have := (r_x499).1; have := (r_x499).2
                      have := (r_x509).1; have := (r_x509).2
                      have := (rc_1).1; have := (rc_1).2
                      have := kc_0
                      have := kc_1
                      have := kc_37
                      have := kc_42
                      have := kc_47
                      omega) (Eq.trans hE1 (mh_lbT t424 (mh_lbT t426 (mh_ifT c431 (mh_lbS E_s433 (mh_ifF c435 (mh_lbS E_s462 (mh_ifF c464 (mh_lbS E_s491 (mh_ifT c493 (mh_lbS E_s495 (mh_lbT (mh_eadd t500) (mh_lbT t502 (mh_lb2T E_s506 (mh_lbT t510 (mh_ifF c511 (mh_lbS t512 (mh_lbS E_s515 rfl)))))))))))))))))) (by have := congrArg Int32.toInt t253; have := congrArg Int32.toInt t255; have := congrArg Int32.toInt t259; have := congrArg Int32.toInt t261; have := congrArg Int32.toInt t424; have := congrArg Int32.toInt t426; have := congrArg Int32.toInt t503; have := congrArg Int32.toInt t504; have := congrArg Int32.toInt t508; have := congrArg Int32.toInt t510; have := congrArg Int32.toInt t517; have := congrArg Int32.toInt t518; have := (r_x494).1; have := (r_x494).2; have := (r_p1).1; have := (r_p1).2; have := (r_x252).1; have := (r_x252).2; have := (r_x254).1; have := (r_x254).2; have := (r_x260).1; have := (r_x260).2; have := (r_x423).1; have := (r_x423).2; have := (r_x425).1; have := (r_x425).2; have := (r_x499).1; have := (r_x499).2; have := (r_x509).1; have := (r_x509).2; have := (rc_1).1; have := (rc_1).2; have := kc_0; have := kc_1; have := kc_37; have := kc_42; have := kc_47; omega))
                · skip
                  have r_x505 : mh_r x505 (0) (0) := mh_eq1 (show x505.toInt = (0 : Int32).toInt from c511) r_x505 rc_0 (0) (0) (by decide)
                  refine mw_iconst (v := 0) 72 rfl dX4_readTerm_71 (by decide) ?_
                  refine mw_zret dX4_readTerm_72 rfl (mh_r_wk rc_0 (by decide)) ⟨(0), rfl, ⟨(mh_r_wk rc_0 (by decide)), (Eq.trans hE1 (mh_lbT t424 (mh_lbT t426 (mh_ifT c431 (mh_lbS E_s433 (mh_ifF c435 (mh_lbS E_s462 (mh_ifF c464 (mh_lbS E_s491 (mh_ifT c493 (mh_lbS E_s495 (mh_lbT (mh_eadd t500) (mh_lbT t502 (mh_lb2T E_s506 (mh_lbT t510 (mh_ifT c511 rfl)))))))))))))))), ?_, hI_s506, hF_s506⟩⟩
                  · skip
                    have := congrArg Int32.toInt t253
                    have := congrArg Int32.toInt t255
                    have := congrArg Int32.toInt t259
                    have := congrArg Int32.toInt t261
                    have := congrArg Int32.toInt t424
                    have := congrArg Int32.toInt t426
                    have := congrArg Int32.toInt t503
                    have := congrArg Int32.toInt t504
                    have := congrArg Int32.toInt t508
                    have := congrArg Int32.toInt t510
                    have := (r_x494).1; have := (r_x494).2
                    have := (r_p1).1; have := (r_p1).2
                    have := (rc_0).1; have := (rc_0).2
                    have := (r_x252).1; have := (r_x252).2
                    have := (r_x254).1; have := (r_x254).2
                    have := (r_x260).1; have := (r_x260).2
                    have := (r_x423).1; have := (r_x423).2
                    have := (r_x425).1; have := (r_x425).2
                    have := (r_x499).1; have := (r_x499).2
                    have := (r_x509).1; have := (r_x509).2
                    have := (rc_1).1; have := (rc_1).2
                    have := kc_0
                    have := kc_1
                    have := kc_37
                    have := kc_42
                    have := kc_47
                    omega
    exact mw_lv [0, 1] rfl (L10 222 s257 hI_s257 hF_s257 (by
        have := congrArg Int32.toInt t253
        have := congrArg Int32.toInt t255
        have := congrArg Int32.toInt t259
        have := congrArg Int32.toInt t261
        have := (r_p1).1; have := (r_p1).2
        have := (r_x252).1; have := (r_x252).2
        have := (r_x254).1; have := (r_x254).2
        have := (r_x260).1; have := (r_x260).2
        have := kc_0
        have := kc_1
        have := kc_37
        have := kc_42
        have := kc_47
        omega) (mh_lbT t253 (mh_lbT t255 (mh_lb2T E_s257 (mh_lbT t261 (mh_ifF c262 rfl))))) (by have := (rd_56_3 hI_s257).1; omega))
  · skip
    have r_x256 : mh_r x256 (0) (0) := mh_eq1 (show x256.toInt = (0 : Int32).toInt from c262) r_x256 rc_0 (0) (0) (by decide)
    refine mw_iconst (v := 0) 9 rfl dX4_readTerm_8 (by decide) ?_
    refine mw_zret dX4_readTerm_9 rfl (mh_r_wk rc_0 (by decide)) ⟨(0), rfl, ⟨(mh_r_wk rc_0 (by decide)), (mh_lbT t253 (mh_lbT t255 (mh_lb2T E_s257 (mh_lbT t261 (mh_ifT c262 rfl))))), ?_, hI_s257, hF_s257⟩⟩
    · skip
      have := congrArg Int32.toInt t253
      have := congrArg Int32.toInt t255
      have := congrArg Int32.toInt t259
      have := congrArg Int32.toInt t261
      have := (r_p1).1; have := (r_p1).2
      have := (rc_0).1; have := (rc_0).2
      have := (r_x252).1; have := (r_x252).2
      have := (r_x254).1; have := (r_x254).2
      have := (r_x260).1; have := (r_x260).2
      have := kc_0
      have := kc_1
      have := kc_37
      have := kc_42
      have := kc_47
      omega

def ls_eX4_readSum_10_1 (rc : mh_Rc) (p1 : Int32) (lo_10_1 : mh_H → Int32 × mh_H) (s244 : mh_H) : Int32 × mh_H := mh_lb (s244.1 56 2) (fun x303 => mh_lb (s244.1 56 3) (fun x305 => if x305.toInt < x303.toInt then mh_lb (f_eX4_sign s244) (fun x312 => if x312.toInt = (43 : Int32).toInt then mh_lb (f_eX4_sign s244) (fun x316 => mh_lb (x305 + (1 : Int32)) (fun x321 => mh_lb (mh_pI s244 56 3 x321) (fun s323 => mh_lb2 (f_eX4_readTerm rc s323 p1) (fun x327 s328 => mh_lb (s328.1 56 3) (fun x331 => if x327.toInt = 0 then ((0 : Int32), s328) else mh_lb (s328.2.2 56 1) (fun k335 => mh_lb (f_eX1_put s328 k335 x316) (fun s337 => (lo_10_1 s337)))))))) else mh_lb (f_eX4_sign s244) (fun x341 => if x341.toInt = (45 : Int32).toInt then mh_lb (f_eX4_sign s244) (fun x345 => mh_lb (x305 + (1 : Int32)) (fun x350 => mh_lb (mh_pI s244 56 3 x350) (fun s352 => mh_lb2 (f_eX4_readTerm rc s352 p1) (fun x356 s357 => mh_lb (s357.1 56 3) (fun x360 => if x356.toInt = 0 then ((0 : Int32), s357) else mh_lb (s357.2.2 56 1) (fun k364 => mh_lb (f_eX1_put s357 k364 x345) (fun s366 => (lo_10_1 s366)))))))) else ((1 : Int32), s244))) else ((1 : Int32), s244)))
def l_eX4_readSum_10_1 (rc : mh_Rc) (p1 : Int32) : Nat → mh_H → Int32 × mh_H
  | 0 => fun s244 => (0, s244)
  | n + 1 => ls_eX4_readSum_10_1 rc p1 (l_eX4_readSum_10_1 rc p1 n)
theorem l_eX4_readSum_10_1_s (rc : mh_Rc) (p1 : Int32) (n : Nat) : l_eX4_readSum_10_1 rc p1 (n + 1) = ls_eX4_readSum_10_1 rc p1 (l_eX4_readSum_10_1 rc p1 n) := rfl
def f_eX4_readSum (rc : mh_Rc) (s0 : mh_H) (p1 : Int32) : Int32 × mh_H := mh_lb (s0.1 56 2) (fun x180 => mh_lb (s0.1 56 3) (fun x182 => mh_lb2 (f_eX4_readTerm rc s0 p1) (fun x184 s185 => mh_lb (s185.1 56 3) (fun x188 => if x184.toInt = 0 then ((0 : Int32), s185) else (l_eX4_readSum_10_1 rc p1 222 s185)))))
set_option maxRecDepth 100000 in
set_option maxHeartbeats 4000000 in
theorem w_eX4_readSum (l : Launch) (G : mh_G) (d : Nat) {B D : Int} (hB : B ≤ 1700000000 ∧ D ≤ 1700000000) {s0 : mh_H} (hI0 : mh_I B D s0) (p1 : Int32) (r_p1 : mh_r p1 (0) (6)) (H : Nat) (rc : mh_Rc) (ih : p1.toInt < 6 → mh_RBe l G H (p1.toInt + 1) rc) : mh_Mi l G (d + (H + 6)) mM_X4_readSum [.ref (G.2.2.2 56), .int p1] s0 (P_eX4_rd B D s0 (f_eX4_readSum rc s0 p1)) := by
  refine mh_enter (lv := [(0, .ref (G.2.2.2 56)), (1, .int p1)]) (by decide) rfl (Nat.le_of_ble_eq_true rfl) ?_
  have hF0 : mh_F S_eX4_rd s0 s0 := mh_F_rf
  obtain ⟨x180, t181⟩ : ∃ z : Int32, z = s0.1 56 2 := ⟨_, rfl⟩
  have r_x180 : mh_r x180 0 220 := by rw [t181]; exact rd_56_2 hI0
  obtain ⟨x182, t183⟩ : ∃ z : Int32, z = s0.1 56 3 := ⟨_, rfl⟩
  have r_x182 : mh_r x182 0 220 := by rw [t183]; exact rd_56_3 hI0
  refine mw_aload_n 1 rfl 0 dX4_readSum_0 rfl rfl ?_
  refine mw_iload_n 2 rfl 1 dX4_readSum_1 rfl rfl ?_
  refine mw_callVi [.int p1] [] 5 rfl dX4_readSum_2 ml_X4_98 mc_X4_readTerm mk_X4_readTerm rfl rfl (by decide) (w_eX4_readTerm l G (d + 0) hB hI0 p1 r_p1 H rc ih) rfl rfl (Nat.le_of_ble_eq_true rfl) (mh_rok (by omega) (by decide)) (fun x184 s185 q186 => ?_)
  obtain ⟨r_x184, E_s185, e0_s185, hI_s185, hG_s185⟩ := q186
  have hF_s185 : mh_F S_eX4_rd s0 s185 := mh_F_tl hF0 hG_s185 (by decide +kernel)
  have t187 : x180 = s185.1 56 2 := (t181).trans (hG_s185 56 2 (mh_nsI (by rfl))).1.symm
  obtain ⟨x188, t189⟩ : ∃ z : Int32, z = s185.1 56 3 := ⟨_, rfl⟩
  have r_x188 : mh_r x188 0 220 := by rw [t189]; exact rd_56_3 hI_s185
  refine mw_if_ne 8 rfl 10 dX4_readSum_5 (by decide) (fun c190 => ?_) (fun c190 => ?_)
  · skip
    have r_x184 : mh_r x184 (1) (1) := mh_ne1 (show x184.toInt ≠ (0 : Int32).toInt from c190) r_x184 rc_0 (1) (1) (by decide)
    have L10 : ∀ n1 : Nat, ∀  (s244 : mh_H), mh_I B D s244 → mh_F S_eX4_rd s0 s244 → ((s0.1 56 3).toInt ≤ (s244.1 56 3).toInt) → (f_eX4_readSum rc s0 p1 = l_eX4_readSum_10_1 rc p1 n1 s244) → 220 - (s244.1 56 3).toInt < (n1 : Int) → mh_W G (mh_XM l G (d + (H + 6)) (mh_Qi (P_eX4_rd B D s0 (f_eX4_readSum rc s0 p1)))) mM_X4_readSum 10 [(0, .ref (G.2.2.2 56)), (1, .int p1)] [] s244 := by
      intro n1
      induction n1 with
      | zero =>
        intro s244 hI_s244 hF_s244 iv hE1 hmn1
        exact absurd hmn1 (by have := (rd_56_3 hI_s244).2; omega)
      | succ n1 ihn1 =>
        intro s244 hI_s244 hF_s244 iv hE1 hmn1
        rw [l_eX4_readSum_10_1_s] at hE1
        obtain ⟨x303, t304⟩ : ∃ z : Int32, z = s244.1 56 2 := ⟨_, rfl⟩
        have r_x303 : mh_r x303 0 220 := by rw [t304]; exact rd_56_2 hI_s244
        obtain ⟨x305, t306⟩ : ∃ z : Int32, z = s244.1 56 3 := ⟨_, rfl⟩
        have r_x305 : mh_r x305 0 220 := by rw [t306]; exact rd_56_3 hI_s244
        refine mw_aload_n 11 rfl 0 dX4_readSum_10 rfl rfl ?_
        refine mw_geti 14 rfl dX4_readSum_11 gf_X4_15 rfl (fun x307 t308 => ?_)
        obtain rfl : x305 = x307 := t306.trans t308.symm
        refine mw_aload_n 15 rfl 0 dX4_readSum_14 rfl rfl ?_
        refine mw_geti 18 rfl dX4_readSum_15 gf_X4_9 rfl (fun x309 t310 => ?_)
        obtain rfl : x303 = x309 := t304.trans t310.symm
        refine mw_icmp_ge 21 rfl 75 dX4_readSum_18 (by decide) (fun c311 => ?_) (fun c311 => ?_)
        · skip
          refine mw_iconst (v := 1) 76 rfl dX4_readSum_75 (by decide) ?_
          refine mw_zret dX4_readSum_76 rfl (mh_r_wk rc_1 (by decide)) ⟨(1), rfl, ⟨(mh_r_wk rc_1 (by decide)), (Eq.trans hE1 (mh_lbT t304 (mh_lbT t306 (mh_ifF (Int.not_lt.mpr c311) rfl)))), ?_, hI_s244, hF_s244⟩⟩
          · skip
            have := congrArg Int32.toInt t181
            have := congrArg Int32.toInt t183
            have := congrArg Int32.toInt t187
            have := congrArg Int32.toInt t189
            have := congrArg Int32.toInt t304
            have := congrArg Int32.toInt t306
            have := (r_p1).1; have := (r_p1).2
            have := (rc_1).1; have := (rc_1).2
            have := (r_x180).1; have := (r_x180).2
            have := (r_x182).1; have := (r_x182).2
            have := (r_x188).1; have := (r_x188).2
            have := (r_x303).1; have := (r_x303).2
            have := (r_x305).1; have := (r_x305).2
            have := kc_0
            have := kc_1
            have := kc_43
            have := kc_45
            omega
        · skip
          have r_x305 : mh_r x305 (0) (219) := mh_lt1 c311 r_x305 r_x303 (219) (by decide)
          have r_x303 : mh_r x303 (1) (220) := mh_lt2 c311 r_x305 r_x303 (1) (by decide)
          refine mw_aload_n 22 rfl 0 dX4_readSum_21 rfl rfl ?_
          refine mw_callVi [] [] 25 rfl dX4_readSum_22 ml_X4_51 mc_X4_sign mk_X4_sign rfl rfl (by decide) (w_eX4_sign l G (d + H + 5) ⟨by omega, by omega⟩ hI_s244) rfl rfl (Nat.le_of_ble_eq_true rfl) (mh_rok (by omega) (by decide)) (fun x312 s313 q314 => ?_)
          obtain ⟨r_x312, E_s313, e0_s313, rfl⟩ := q314
          have hq_x312 : 0 ≤ x312.toInt → x305.toInt < x303.toInt := by have h9 := e0_s313; rw [← t306, ← t304] at h9; exact h9
          refine mw_bipush (v := 43) 27 rfl dX4_readSum_25 (by decide) ?_
          refine mw_icmp_eq 30 rfl 39 dX4_readSum_27 (by decide) (fun c315 => ?_) (fun c315 => ?_)
          · skip
            have r_x312 : mh_r x312 (43) (43) := mh_eq1 c315 r_x312 rc_43 (43) (43) (by decide)
            refine mw_aload_n 40 rfl 0 dX4_readSum_39 rfl rfl ?_
            refine mw_callVi [] [] 43 rfl dX4_readSum_40 ml_X4_51 mc_X4_sign mk_X4_sign rfl rfl (by decide) (w_eX4_sign l G (d + H + 5) ⟨by omega, by omega⟩ hI_s244) rfl rfl (Nat.le_of_ble_eq_true rfl) (mh_rok (by omega) (by decide)) (fun x316 s317 q318 => ?_)
            obtain ⟨r_x316, E_s317, e0_s317, rfl⟩ := q318
            have hq_x316 : 0 ≤ x316.toInt → x305.toInt < x303.toInt := by have h9 := e0_s317; rw [← t306, ← t304] at h9; exact h9
            refine mw_istore_n 44 rfl [(2, .int x316), (0, .ref (G.2.2.2 56)), (1, .int p1)] dX4_readSum_43 rfl (by decide) rfl ?_
            refine mw_aload_n 45 rfl 1 dX4_readSum_44 rfl rfl ?_
            refine mw_dup 46 rfl dX4_readSum_45 rfl ?_
            refine mw_geti 49 rfl dX4_readSum_46 gf_X4_15 rfl (fun x319 t320 => ?_)
            obtain rfl : x305 = x319 := t306.trans t320.symm
            refine mw_iconst (v := 1) 50 rfl dX4_readSum_49 (by decide) ?_
            refine mw_iadd 51 rfl (1) (220) dX4_readSum_50 r_x305 rc_1 (by decide) (fun x321 t322 r_x321 => ?_)
            refine mw_puti 54 rfl dX4_readSum_51 pf_X4_15 rfl (fun s323 t324 => ?_)
            have hI_s323 : mh_I B D s323 := by rw [t324]; exact wr_56_3 hI_s244 (mh_r_wk r_x321 (by decide))
            have hF_s323 : mh_F S_eX4_rd s0 s323 := by rw [t324]; exact mh_F_pI hF_s244 (mh_sj 0 rfl)
            refine mw_aload_n 55 rfl 1 dX4_readSum_54 rfl rfl ?_
            refine mw_iload_n 56 rfl 2 dX4_readSum_55 rfl rfl ?_
            have t325 : x303 = s323.1 56 2 := by rw [t324]; exact (t304).trans (mh_pI_n (by omega)).symm
            have t326 : x321 = s323.1 56 3 := by rw [t324]; exact mh_pI_s.symm
            refine mw_callVi [.int p1] [] 59 rfl dX4_readSum_56 ml_X4_98 mc_X4_readTerm mk_X4_readTerm rfl rfl (by decide) (w_eX4_readTerm l G (d + 0) hB hI_s323 p1 r_p1 H rc ih) rfl rfl (Nat.le_of_ble_eq_true rfl) (mh_rok (by omega) (by decide)) (fun x327 s328 q329 => ?_)
            obtain ⟨r_x327, E_s328, e0_s328, hI_s328, hG_s328⟩ := q329
            have hF_s328 : mh_F S_eX4_rd s0 s328 := mh_F_tl hF_s323 hG_s328 (by decide +kernel)
            have t330 : x303 = s328.1 56 2 := (t325).trans (hG_s328 56 2 (mh_nsI (by rfl))).1.symm
            obtain ⟨x331, t332⟩ : ∃ z : Int32, z = s328.1 56 3 := ⟨_, rfl⟩
            have r_x331 : mh_r x331 0 220 := by rw [t332]; exact rd_56_3 hI_s328
            refine mw_if_ne 62 rfl 64 dX4_readSum_59 (by decide) (fun c333 => ?_) (fun c333 => ?_)
            · skip
              have r_x327 : mh_r x327 (1) (1) := mh_ne1 (show x327.toInt ≠ (0 : Int32).toInt from c333) r_x327 rc_0 (1) (1) (by decide)
              refine mw_aload_n 65 rfl 1 dX4_readSum_64 rfl rfl ?_
              obtain ⟨k335, t334⟩ : ∃ y : Nat, s328.2.2 56 1 = y := ⟨_, rfl⟩
              have hk335 : mh_isL k335 := by rw [← t334]; exact hI_s328.2.1.2.2.2
              refine mw_geta 68 rfl dX4_readSum_65 gf_X4_25 rfl k335 t334 ?_
              refine mw_iload_n 69 rfl 0 dX4_readSum_68 rfl rfl ?_
              refine mw_callVv [.int x316] [] 72 rfl dX4_readSum_69 ml_X4_95 mc_X1_put mk_X1_put (ly_L hk335) rfl (by decide) (w_eX1_put l G (d + H + 5) ⟨by omega, by omega⟩ hI_s328 k335 hk335 x316) rfl rfl (Nat.le_of_ble_eq_true rfl) (mh_rok (by omega) (by decide)) (fun s337 q338 => ?_)
              obtain ⟨E_s337, hI_s337, hG_s337⟩ := q338
              have hF_s337 : mh_F S_eX4_rd s0 s337 := mh_F_tl hF_s328 hG_s337 (by rcases hk335 with rfl | rfl <;> decide +kernel)
              have t339 : x303 = s337.1 56 2 := (t330).trans (hG_s337 56 2 (mh_nsI (by rcases hk335 with rfl | rfl <;> rfl))).1.symm
              have t340 : x331 = s337.1 56 3 := (t332).trans (hG_s337 56 3 (mh_nsI (by rcases hk335 with rfl | rfl <;> rfl))).1.symm
              refine mw_goto 75 rfl 10 dX4_readSum_72 (by decide) ?_
              exact mw_lv [1, 2] rfl (ihn1 s337 hI_s337 hF_s337 (by
                  have := congrArg Int32.toInt t181
                  have := congrArg Int32.toInt t183
                  have := congrArg Int32.toInt t187
                  have := congrArg Int32.toInt t189
                  have := congrArg Int32.toInt t304
                  have := congrArg Int32.toInt t306
                  have := congrArg Int32.toInt t325
                  have := congrArg Int32.toInt t326
                  have := congrArg Int32.toInt t330
                  have := congrArg Int32.toInt t332
                  have := congrArg Int32.toInt t339
                  have := congrArg Int32.toInt t340
                  have := (r_x316).1; have := (r_x316).2
                  have := (r_p1).1; have := (r_p1).2
                  have := (r_x180).1; have := (r_x180).2
                  have := (r_x182).1; have := (r_x182).2
                  have := (r_x188).1; have := (r_x188).2
                  have := (r_x303).1; have := (r_x303).2
                  have := (r_x305).1; have := (r_x305).2
                  have := (r_x321).1; have := (r_x321).2
                  have := (r_x331).1; have := (r_x331).2
                  have := (rc_1).1; have := (rc_1).2
                  have := kc_0
                  have := kc_1
                  have := kc_43
                  have := kc_45
                  omega) (Eq.trans hE1 (mh_lbT t304 (mh_lbT t306 (mh_ifT c311 (mh_lbS E_s313 (mh_ifT c315 (mh_lbS E_s317 (mh_lbT (mh_eadd t322) (mh_lbT t324 (mh_lb2T E_s328 (mh_lbT t332 (mh_ifF c333 (mh_lbS t334 (mh_lbS E_s337 rfl)))))))))))))) (by have := congrArg Int32.toInt t181; have := congrArg Int32.toInt t183; have := congrArg Int32.toInt t187; have := congrArg Int32.toInt t189; have := congrArg Int32.toInt t304; have := congrArg Int32.toInt t306; have := congrArg Int32.toInt t325; have := congrArg Int32.toInt t326; have := congrArg Int32.toInt t330; have := congrArg Int32.toInt t332; have := congrArg Int32.toInt t339; have := congrArg Int32.toInt t340; have := (r_x316).1; have := (r_x316).2; have := (r_p1).1; have := (r_p1).2; have := (r_x180).1; have := (r_x180).2; have := (r_x182).1; have := (r_x182).2; have := (r_x188).1; have := (r_x188).2; have := (r_x303).1; have := (r_x303).2; have := (r_x305).1; have := (r_x305).2; have := (r_x321).1; have := (r_x321).2; have := (r_x331).1; have := (r_x331).2; have := (rc_1).1; have := (rc_1).2; have := kc_0; have := kc_1; have := kc_43; have := kc_45; omega))
            · skip
              have r_x327 : mh_r x327 (0) (0) := mh_eq1 (show x327.toInt = (0 : Int32).toInt from c333) r_x327 rc_0 (0) (0) (by decide)
              refine mw_iconst (v := 0) 63 rfl dX4_readSum_62 (by decide) ?_
              refine mw_zret dX4_readSum_63 rfl (mh_r_wk rc_0 (by decide)) ⟨(0), rfl, ⟨(mh_r_wk rc_0 (by decide)), (Eq.trans hE1 (mh_lbT t304 (mh_lbT t306 (mh_ifT c311 (mh_lbS E_s313 (mh_ifT c315 (mh_lbS E_s317 (mh_lbT (mh_eadd t322) (mh_lbT t324 (mh_lb2T E_s328 (mh_lbT t332 (mh_ifT c333 rfl)))))))))))), ?_, hI_s328, hF_s328⟩⟩
              · skip
                have := congrArg Int32.toInt t181
                have := congrArg Int32.toInt t183
                have := congrArg Int32.toInt t187
                have := congrArg Int32.toInt t189
                have := congrArg Int32.toInt t304
                have := congrArg Int32.toInt t306
                have := congrArg Int32.toInt t325
                have := congrArg Int32.toInt t326
                have := congrArg Int32.toInt t330
                have := congrArg Int32.toInt t332
                have := (r_x316).1; have := (r_x316).2
                have := (r_p1).1; have := (r_p1).2
                have := (rc_0).1; have := (rc_0).2
                have := (r_x180).1; have := (r_x180).2
                have := (r_x182).1; have := (r_x182).2
                have := (r_x188).1; have := (r_x188).2
                have := (r_x303).1; have := (r_x303).2
                have := (r_x305).1; have := (r_x305).2
                have := (r_x321).1; have := (r_x321).2
                have := (r_x331).1; have := (r_x331).2
                have := (rc_1).1; have := (rc_1).2
                have := kc_0
                have := kc_1
                have := kc_43
                have := kc_45
                omega
          · skip
            refine mw_aload_n 31 rfl 0 dX4_readSum_30 rfl rfl ?_
            refine mw_callVi [] [] 34 rfl dX4_readSum_31 ml_X4_51 mc_X4_sign mk_X4_sign rfl rfl (by decide) (w_eX4_sign l G (d + H + 5) ⟨by omega, by omega⟩ hI_s244) rfl rfl (Nat.le_of_ble_eq_true rfl) (mh_rok (by omega) (by decide)) (fun x341 s342 q343 => ?_)
            obtain ⟨r_x341, E_s342, e0_s342, rfl⟩ := q343
            have hq_x341 : 0 ≤ x341.toInt → x305.toInt < x303.toInt := by have h9 := e0_s342; rw [← t306, ← t304] at h9; exact h9
            refine mw_bipush (v := 45) 36 rfl dX4_readSum_34 (by decide) ?_
            refine mw_icmp_ne 39 rfl 75 dX4_readSum_36 (by decide) (fun c344 => ?_) (fun c344 => ?_)
            · skip
              refine mw_iconst (v := 1) 76 rfl dX4_readSum_75 (by decide) ?_
              refine mw_zret dX4_readSum_76 rfl (mh_r_wk rc_1 (by decide)) ⟨(1), rfl, ⟨(mh_r_wk rc_1 (by decide)), (Eq.trans hE1 (mh_lbT t304 (mh_lbT t306 (mh_ifT c311 (mh_lbS E_s313 (mh_ifF c315 (mh_lbS E_s342 (mh_ifF c344 rfl)))))))), ?_, hI_s244, hF_s244⟩⟩
              · skip
                have := congrArg Int32.toInt t181
                have := congrArg Int32.toInt t183
                have := congrArg Int32.toInt t187
                have := congrArg Int32.toInt t189
                have := congrArg Int32.toInt t304
                have := congrArg Int32.toInt t306
                have := (r_p1).1; have := (r_p1).2
                have := (rc_1).1; have := (rc_1).2
                have := (r_x180).1; have := (r_x180).2
                have := (r_x182).1; have := (r_x182).2
                have := (r_x188).1; have := (r_x188).2
                have := (r_x303).1; have := (r_x303).2
                have := (r_x305).1; have := (r_x305).2
                have := kc_0
                have := kc_1
                have := kc_43
                have := kc_45
                omega
            · skip
              have r_x341 : mh_r x341 (45) (45) := mh_eq1 c344 r_x341 rc_45 (45) (45) (by decide)
              refine mw_aload_n 40 rfl 0 dX4_readSum_39 rfl rfl ?_
              refine mw_callVi [] [] 43 rfl dX4_readSum_40 ml_X4_51 mc_X4_sign mk_X4_sign rfl rfl (by decide) (w_eX4_sign l G (d + H + 5) ⟨by omega, by omega⟩ hI_s244) rfl rfl (Nat.le_of_ble_eq_true rfl) (mh_rok (by omega) (by decide)) (fun x345 s346 q347 => ?_)
              obtain ⟨r_x345, E_s346, e0_s346, rfl⟩ := q347
              have hq_x345 : 0 ≤ x345.toInt → x305.toInt < x303.toInt := by have h9 := e0_s346; rw [← t306, ← t304] at h9; exact h9
              refine mw_istore_n 44 rfl [(2, .int x345), (0, .ref (G.2.2.2 56)), (1, .int p1)] dX4_readSum_43 rfl (by decide) rfl ?_
              refine mw_aload_n 45 rfl 1 dX4_readSum_44 rfl rfl ?_
              refine mw_dup 46 rfl dX4_readSum_45 rfl ?_
              refine mw_geti 49 rfl dX4_readSum_46 gf_X4_15 rfl (fun x348 t349 => ?_)
              obtain rfl : x305 = x348 := t306.trans t349.symm
              refine mw_iconst (v := 1) 50 rfl dX4_readSum_49 (by decide) ?_
              refine mw_iadd 51 rfl (1) (220) dX4_readSum_50 r_x305 rc_1 (by decide) (fun x350 t351 r_x350 => ?_)
              refine mw_puti 54 rfl dX4_readSum_51 pf_X4_15 rfl (fun s352 t353 => ?_)
              have hI_s352 : mh_I B D s352 := by rw [t353]; exact wr_56_3 hI_s244 (mh_r_wk r_x350 (by decide))
              have hF_s352 : mh_F S_eX4_rd s0 s352 := by rw [t353]; exact mh_F_pI hF_s244 (mh_sj 0 rfl)
              refine mw_aload_n 55 rfl 1 dX4_readSum_54 rfl rfl ?_
              refine mw_iload_n 56 rfl 2 dX4_readSum_55 rfl rfl ?_
              have t354 : x303 = s352.1 56 2 := by rw [t353]; exact (t304).trans (mh_pI_n (by omega)).symm
              have t355 : x350 = s352.1 56 3 := by rw [t353]; exact mh_pI_s.symm
              refine mw_callVi [.int p1] [] 59 rfl dX4_readSum_56 ml_X4_98 mc_X4_readTerm mk_X4_readTerm rfl rfl (by decide) (w_eX4_readTerm l G (d + 0) hB hI_s352 p1 r_p1 H rc ih) rfl rfl (Nat.le_of_ble_eq_true rfl) (mh_rok (by omega) (by decide)) (fun x356 s357 q358 => ?_)
              obtain ⟨r_x356, E_s357, e0_s357, hI_s357, hG_s357⟩ := q358
              have hF_s357 : mh_F S_eX4_rd s0 s357 := mh_F_tl hF_s352 hG_s357 (by decide +kernel)
              have t359 : x303 = s357.1 56 2 := (t354).trans (hG_s357 56 2 (mh_nsI (by rfl))).1.symm
              obtain ⟨x360, t361⟩ : ∃ z : Int32, z = s357.1 56 3 := ⟨_, rfl⟩
              have r_x360 : mh_r x360 0 220 := by rw [t361]; exact rd_56_3 hI_s357
              refine mw_if_ne 62 rfl 64 dX4_readSum_59 (by decide) (fun c362 => ?_) (fun c362 => ?_)
              · skip
                have r_x356 : mh_r x356 (1) (1) := mh_ne1 (show x356.toInt ≠ (0 : Int32).toInt from c362) r_x356 rc_0 (1) (1) (by decide)
                refine mw_aload_n 65 rfl 1 dX4_readSum_64 rfl rfl ?_
                obtain ⟨k364, t363⟩ : ∃ y : Nat, s357.2.2 56 1 = y := ⟨_, rfl⟩
                have hk364 : mh_isL k364 := by rw [← t363]; exact hI_s357.2.1.2.2.2
                refine mw_geta 68 rfl dX4_readSum_65 gf_X4_25 rfl k364 t363 ?_
                refine mw_iload_n 69 rfl 0 dX4_readSum_68 rfl rfl ?_
                refine mw_callVv [.int x345] [] 72 rfl dX4_readSum_69 ml_X4_95 mc_X1_put mk_X1_put (ly_L hk364) rfl (by decide) (w_eX1_put l G (d + H + 5) ⟨by omega, by omega⟩ hI_s357 k364 hk364 x345) rfl rfl (Nat.le_of_ble_eq_true rfl) (mh_rok (by omega) (by decide)) (fun s366 q367 => ?_)
                obtain ⟨E_s366, hI_s366, hG_s366⟩ := q367
                have hF_s366 : mh_F S_eX4_rd s0 s366 := mh_F_tl hF_s357 hG_s366 (by rcases hk364 with rfl | rfl <;> decide +kernel)
                have t368 : x303 = s366.1 56 2 := (t359).trans (hG_s366 56 2 (mh_nsI (by rcases hk364 with rfl | rfl <;> rfl))).1.symm
                have t369 : x360 = s366.1 56 3 := (t361).trans (hG_s366 56 3 (mh_nsI (by rcases hk364 with rfl | rfl <;> rfl))).1.symm
                refine mw_goto 75 rfl 10 dX4_readSum_72 (by decide) ?_
                exact mw_lv [1, 2] rfl (ihn1 s366 hI_s366 hF_s366 (by
                    have := congrArg Int32.toInt t181
                    have := congrArg Int32.toInt t183
                    have := congrArg Int32.toInt t187
                    have := congrArg Int32.toInt t189
                    have := congrArg Int32.toInt t304
                    have := congrArg Int32.toInt t306
                    have := congrArg Int32.toInt t354
                    have := congrArg Int32.toInt t355
                    have := congrArg Int32.toInt t359
                    have := congrArg Int32.toInt t361
                    have := congrArg Int32.toInt t368
                    have := congrArg Int32.toInt t369
                    have := (r_x345).1; have := (r_x345).2
                    have := (r_p1).1; have := (r_p1).2
                    have := (r_x180).1; have := (r_x180).2
                    have := (r_x182).1; have := (r_x182).2
                    have := (r_x188).1; have := (r_x188).2
                    have := (r_x303).1; have := (r_x303).2
                    have := (r_x305).1; have := (r_x305).2
                    have := (r_x350).1; have := (r_x350).2
                    have := (r_x360).1; have := (r_x360).2
                    have := (rc_1).1; have := (rc_1).2
                    have := kc_0
                    have := kc_1
                    have := kc_43
                    have := kc_45
                    omega) (Eq.trans hE1 (mh_lbT t304 (mh_lbT t306 (mh_ifT c311 (mh_lbS E_s313 (mh_ifF c315 (mh_lbS E_s342 (mh_ifT c344 (mh_lbS E_s346 (mh_lbT (mh_eadd t351) (mh_lbT t353 (mh_lb2T E_s357 (mh_lbT t361 (mh_ifF c362 (mh_lbS t363 (mh_lbS E_s366 rfl)))))))))))))))) (by have := congrArg Int32.toInt t181; have := congrArg Int32.toInt t183; have := congrArg Int32.toInt t187; have := congrArg Int32.toInt t189; have := congrArg Int32.toInt t304; have := congrArg Int32.toInt t306; have := congrArg Int32.toInt t354; have := congrArg Int32.toInt t355; have := congrArg Int32.toInt t359; have := congrArg Int32.toInt t361; have := congrArg Int32.toInt t368; have := congrArg Int32.toInt t369; have := (r_x345).1; have := (r_x345).2; have := (r_p1).1; have := (r_p1).2; have := (r_x180).1; have := (r_x180).2; have := (r_x182).1; have := (r_x182).2; have := (r_x188).1; have := (r_x188).2; have := (r_x303).1; have := (r_x303).2; have := (r_x305).1; have := (r_x305).2; have := (r_x350).1; have := (r_x350).2; have := (r_x360).1; have := (r_x360).2; have := (rc_1).1; have := (rc_1).2; have := kc_0; have := kc_1; have := kc_43; have := kc_45; omega))
              · skip
                have r_x356 : mh_r x356 (0) (0) := mh_eq1 (show x356.toInt = (0 : Int32).toInt from c362) r_x356 rc_0 (0) (0) (by decide)
                refine mw_iconst (v := 0) 63 rfl dX4_readSum_62 (by decide) ?_
                refine mw_zret dX4_readSum_63 rfl (mh_r_wk rc_0 (by decide)) ⟨(0), rfl, ⟨(mh_r_wk rc_0 (by decide)), (Eq.trans hE1 (mh_lbT t304 (mh_lbT t306 (mh_ifT c311 (mh_lbS E_s313 (mh_ifF c315 (mh_lbS E_s342 (mh_ifT c344 (mh_lbS E_s346 (mh_lbT (mh_eadd t351) (mh_lbT t353 (mh_lb2T E_s357 (mh_lbT t361 (mh_ifT c362 rfl)))))))))))))), ?_, hI_s357, hF_s357⟩⟩
                · skip
                  have := congrArg Int32.toInt t181
                  have := congrArg Int32.toInt t183
                  have := congrArg Int32.toInt t187
                  have := congrArg Int32.toInt t189
                  have := congrArg Int32.toInt t304
                  have := congrArg Int32.toInt t306
                  have := congrArg Int32.toInt t354
                  have := congrArg Int32.toInt t355
                  have := congrArg Int32.toInt t359
                  have := congrArg Int32.toInt t361
                  have := (r_x345).1; have := (r_x345).2
                  have := (r_p1).1; have := (r_p1).2
                  have := (rc_0).1; have := (rc_0).2
                  have := (r_x180).1; have := (r_x180).2
                  have := (r_x182).1; have := (r_x182).2
                  have := (r_x188).1; have := (r_x188).2
                  have := (r_x303).1; have := (r_x303).2
                  have := (r_x305).1; have := (r_x305).2
                  have := (r_x350).1; have := (r_x350).2
                  have := (r_x360).1; have := (r_x360).2
                  have := (rc_1).1; have := (rc_1).2
                  have := kc_0
                  have := kc_1
                  have := kc_43
                  have := kc_45
                  omega
    exact mw_lv [0, 1] rfl (L10 222 s185 hI_s185 hF_s185 (by
        have := congrArg Int32.toInt t181
        have := congrArg Int32.toInt t183
        have := congrArg Int32.toInt t187
        have := congrArg Int32.toInt t189
        have := (r_p1).1; have := (r_p1).2
        have := (r_x180).1; have := (r_x180).2
        have := (r_x182).1; have := (r_x182).2
        have := (r_x188).1; have := (r_x188).2
        have := kc_0
        have := kc_1
        have := kc_43
        have := kc_45
        omega) (mh_lbT t181 (mh_lbT t183 (mh_lb2T E_s185 (mh_lbT t189 (mh_ifF c190 rfl))))) (by have := (rd_56_3 hI_s185).1; omega))
  · skip
    have r_x184 : mh_r x184 (0) (0) := mh_eq1 (show x184.toInt = (0 : Int32).toInt from c190) r_x184 rc_0 (0) (0) (by decide)
    refine mw_iconst (v := 0) 9 rfl dX4_readSum_8 (by decide) ?_
    refine mw_zret dX4_readSum_9 rfl (mh_r_wk rc_0 (by decide)) ⟨(0), rfl, ⟨(mh_r_wk rc_0 (by decide)), (mh_lbT t181 (mh_lbT t183 (mh_lb2T E_s185 (mh_lbT t189 (mh_ifT c190 rfl))))), ?_, hI_s185, hF_s185⟩⟩
    · skip
      have := congrArg Int32.toInt t181
      have := congrArg Int32.toInt t183
      have := congrArg Int32.toInt t187
      have := congrArg Int32.toInt t189
      have := (r_p1).1; have := (r_p1).2
      have := (rc_0).1; have := (rc_0).2
      have := (r_x180).1; have := (r_x180).2
      have := (r_x182).1; have := (r_x182).2
      have := (r_x188).1; have := (r_x188).2
      have := kc_0
      have := kc_1
      have := kc_43
      have := kc_45
      omega

def f_eX4_readCompared (rc : mh_Rc) (s0 : mh_H) (p1 : Int32) : Int32 × mh_H := mh_lb (s0.1 56 2) (fun x65 => mh_lb (s0.1 56 3) (fun x67 => mh_lb (f_eX4_sign s0) (fun x69 => if x69.toInt = (60 : Int32).toInt then mh_lb (x67 + (1 : Int32)) (fun x75 => mh_lb (mh_pI s0 56 3 x75) (fun s77 => mh_lb2 (f_eX4_readSum rc s77 p1) (fun x81 s82 => mh_lb (s82.1 56 3) (fun x85 => if x81.toInt = 0 then ((0 : Int32), s82) else mh_lb (s82.2.2 56 1) (fun k89 => mh_lb (f_eX1_put s82 k89 x69) (fun s91 => ((1 : Int32), s91))))))) else if x69.toInt = (62 : Int32).toInt then mh_lb (x67 + (1 : Int32)) (fun x98 => mh_lb (mh_pI s0 56 3 x98) (fun s100 => mh_lb2 (f_eX4_readSum rc s100 p1) (fun x104 s105 => mh_lb (s105.1 56 3) (fun x108 => if x104.toInt = 0 then ((0 : Int32), s105) else mh_lb (s105.2.2 56 1) (fun k112 => mh_lb (f_eX1_put s105 k112 x69) (fun s114 => ((1 : Int32), s114))))))) else if x69.toInt = (61 : Int32).toInt then mh_lb (x67 + (1 : Int32)) (fun x121 => mh_lb (mh_pI s0 56 3 x121) (fun s123 => mh_lb2 (f_eX4_readSum rc s123 p1) (fun x127 s128 => mh_lb (s128.1 56 3) (fun x131 => if x127.toInt = 0 then ((0 : Int32), s128) else mh_lb (s128.2.2 56 1) (fun k135 => mh_lb (f_eX1_put s128 k135 x69) (fun s137 => ((1 : Int32), s137))))))) else mh_lb2 (f_eX4_fail s0 (1 : Int32)) (fun x141 s142 => (x141, s142)))))
set_option maxRecDepth 100000 in
set_option maxHeartbeats 4000000 in
theorem w_eX4_readCompared (l : Launch) (G : mh_G) (d : Nat) {B D : Int} (hB : B ≤ 1700000000 ∧ D ≤ 1700000000) {s0 : mh_H} (hI0 : mh_I B D s0) (p1 : Int32) (r_p1 : mh_r p1 (0) (6)) (H : Nat) (rc : mh_Rc) (ih : p1.toInt < 6 → mh_RBe l G H (p1.toInt + 1) rc) : mh_Mi l G (d + (H + 7)) mM_X4_readCompared [.ref (G.2.2.2 56), .int p1] s0 (P_eX4_rd B D s0 (f_eX4_readCompared rc s0 p1)) := by
  refine mh_enter (lv := [(0, .ref (G.2.2.2 56)), (1, .int p1)]) (by decide) rfl (Nat.le_of_ble_eq_true rfl) ?_
  have hF0 : mh_F S_eX4_rd s0 s0 := mh_F_rf
  obtain ⟨x65, t66⟩ : ∃ z : Int32, z = s0.1 56 2 := ⟨_, rfl⟩
  have r_x65 : mh_r x65 0 220 := by rw [t66]; exact rd_56_2 hI0
  obtain ⟨x67, t68⟩ : ∃ z : Int32, z = s0.1 56 3 := ⟨_, rfl⟩
  have r_x67 : mh_r x67 0 220 := by rw [t68]; exact rd_56_3 hI0
  refine mw_aload_n 1 rfl 0 dX4_readCompared_0 rfl rfl ?_
  refine mw_callVi [] [] 4 rfl dX4_readCompared_1 ml_X4_51 mc_X4_sign mk_X4_sign rfl rfl (by decide) (w_eX4_sign l G (d + H + 6) ⟨by omega, by omega⟩ hI0) rfl rfl (Nat.le_of_ble_eq_true rfl) (mh_rok (by omega) (by decide)) (fun x69 s70 q71 => ?_)
  obtain ⟨r_x69, E_s70, e0_s70, rfl⟩ := q71
  have hq_x69 : 0 ≤ x69.toInt → x67.toInt < x65.toInt := by have h9 := e0_s70; rw [← t68, ← t66] at h9; exact h9
  refine mw_istore_n 5 rfl [(2, .int x69), (0, .ref (G.2.2.2 56)), (1, .int p1)] dX4_readCompared_4 rfl (by decide) rfl ?_
  refine mw_iload_n 6 rfl 0 dX4_readCompared_5 rfl rfl ?_
  refine mw_bipush (v := 60) 8 rfl dX4_readCompared_6 (by decide) ?_
  refine mw_icmp_eq 11 rfl 29 dX4_readCompared_8 (by decide) (fun c72 => ?_) (fun c72 => ?_)
  · skip
    have r_x69 : mh_r x69 (60) (60) := mh_eq1 c72 r_x69 rc_60 (60) (60) (by decide)
    refine mw_aload_n 30 rfl 1 dX4_readCompared_29 rfl rfl ?_
    refine mw_dup 31 rfl dX4_readCompared_30 rfl ?_
    refine mw_geti 34 rfl dX4_readCompared_31 gf_X4_15 rfl (fun x73 t74 => ?_)
    obtain rfl : x67 = x73 := t68.trans t74.symm
    have r_x67 : mh_r x67 (0) (219) := ⟨(r_x67).1, by have := congrArg Int32.toInt t66; have := congrArg Int32.toInt t68; have := (r_x69).1; have := (r_x69).2; have := (r_p1).1; have := (r_p1).2; have := (r_x67).1; have := (r_x67).2; have := (r_x65).1; have := (r_x65).2; have := kc_0; have := kc_1; have := kc_60; have := kc_61; have := kc_62; omega⟩
    refine mw_iconst (v := 1) 35 rfl dX4_readCompared_34 (by decide) ?_
    refine mw_iadd 36 rfl (1) (220) dX4_readCompared_35 r_x67 rc_1 (by decide) (fun x75 t76 r_x75 => ?_)
    refine mw_puti 39 rfl dX4_readCompared_36 pf_X4_15 rfl (fun s77 t78 => ?_)
    have hI_s77 : mh_I B D s77 := by rw [t78]; exact wr_56_3 hI0 (mh_r_wk r_x75 (by decide))
    have hF_s77 : mh_F S_eX4_rd s0 s77 := by rw [t78]; exact mh_F_pI hF0 (mh_sj 0 rfl)
    refine mw_aload_n 40 rfl 1 dX4_readCompared_39 rfl rfl ?_
    refine mw_iload_n 41 rfl 2 dX4_readCompared_40 rfl rfl ?_
    have t79 : x65 = s77.1 56 2 := by rw [t78]; exact (t66).trans (mh_pI_n (by omega)).symm
    have t80 : x75 = s77.1 56 3 := by rw [t78]; exact mh_pI_s.symm
    refine mw_callVi [.int p1] [] 44 rfl dX4_readCompared_41 ml_X4_69 mc_X4_readSum mk_X4_readSum rfl rfl (by decide) (w_eX4_readSum l G (d + 0) hB hI_s77 p1 r_p1 H rc ih) rfl rfl (Nat.le_of_ble_eq_true rfl) (mh_rok (by omega) (by decide)) (fun x81 s82 q83 => ?_)
    obtain ⟨r_x81, E_s82, e0_s82, hI_s82, hG_s82⟩ := q83
    have hF_s82 : mh_F S_eX4_rd s0 s82 := mh_F_tl hF_s77 hG_s82 (by decide +kernel)
    have t84 : x65 = s82.1 56 2 := (t79).trans (hG_s82 56 2 (mh_nsI (by rfl))).1.symm
    obtain ⟨x85, t86⟩ : ∃ z : Int32, z = s82.1 56 3 := ⟨_, rfl⟩
    have r_x85 : mh_r x85 0 220 := by rw [t86]; exact rd_56_3 hI_s82
    refine mw_if_ne 47 rfl 49 dX4_readCompared_44 (by decide) (fun c87 => ?_) (fun c87 => ?_)
    · skip
      have r_x81 : mh_r x81 (1) (1) := mh_ne1 (show x81.toInt ≠ (0 : Int32).toInt from c87) r_x81 rc_0 (1) (1) (by decide)
      refine mw_aload_n 50 rfl 1 dX4_readCompared_49 rfl rfl ?_
      obtain ⟨k89, t88⟩ : ∃ y : Nat, s82.2.2 56 1 = y := ⟨_, rfl⟩
      have hk89 : mh_isL k89 := by rw [← t88]; exact hI_s82.2.1.2.2.2
      refine mw_geta 53 rfl dX4_readCompared_50 gf_X4_25 rfl k89 t88 ?_
      refine mw_iload_n 54 rfl 0 dX4_readCompared_53 rfl rfl ?_
      refine mw_callVv [.int x69] [] 57 rfl dX4_readCompared_54 ml_X4_95 mc_X1_put mk_X1_put (ly_L hk89) rfl (by decide) (w_eX1_put l G (d + H + 6) ⟨by omega, by omega⟩ hI_s82 k89 hk89 x69) rfl rfl (Nat.le_of_ble_eq_true rfl) (mh_rok (by omega) (by decide)) (fun s91 q92 => ?_)
      obtain ⟨E_s91, hI_s91, hG_s91⟩ := q92
      have hF_s91 : mh_F S_eX4_rd s0 s91 := mh_F_tl hF_s82 hG_s91 (by rcases hk89 with rfl | rfl <;> decide +kernel)
      have t93 : x65 = s91.1 56 2 := (t84).trans (hG_s91 56 2 (mh_nsI (by rcases hk89 with rfl | rfl <;> rfl))).1.symm
      have t94 : x85 = s91.1 56 3 := (t86).trans (hG_s91 56 3 (mh_nsI (by rcases hk89 with rfl | rfl <;> rfl))).1.symm
      refine mw_iconst (v := 1) 58 rfl dX4_readCompared_57 (by decide) ?_
      refine mw_zret dX4_readCompared_58 rfl (mh_r_wk rc_1 (by decide)) ⟨(1), rfl, ⟨(mh_r_wk rc_1 (by decide)), (mh_lbT t66 (mh_lbT t68 (mh_lbS E_s70 (mh_ifT c72 (mh_lbT (mh_eadd t76) (mh_lbT t78 (mh_lb2T E_s82 (mh_lbT t86 (mh_ifF c87 (mh_lbS t88 (mh_lbS E_s91 rfl))))))))))), ?_, hI_s91, hF_s91⟩⟩
      · skip
        have := congrArg Int32.toInt t66
        have := congrArg Int32.toInt t68
        have := congrArg Int32.toInt t79
        have := congrArg Int32.toInt t80
        have := congrArg Int32.toInt t84
        have := congrArg Int32.toInt t86
        have := congrArg Int32.toInt t93
        have := congrArg Int32.toInt t94
        have := (r_x69).1; have := (r_x69).2
        have := (r_p1).1; have := (r_p1).2
        have := (rc_1).1; have := (rc_1).2
        have := (r_x65).1; have := (r_x65).2
        have := (r_x67).1; have := (r_x67).2
        have := (r_x75).1; have := (r_x75).2
        have := (r_x85).1; have := (r_x85).2
        have := kc_0
        have := kc_1
        have := kc_60
        have := kc_61
        have := kc_62
        omega
    · skip
      have r_x81 : mh_r x81 (0) (0) := mh_eq1 (show x81.toInt = (0 : Int32).toInt from c87) r_x81 rc_0 (0) (0) (by decide)
      refine mw_iconst (v := 0) 48 rfl dX4_readCompared_47 (by decide) ?_
      refine mw_zret dX4_readCompared_48 rfl (mh_r_wk rc_0 (by decide)) ⟨(0), rfl, ⟨(mh_r_wk rc_0 (by decide)), (mh_lbT t66 (mh_lbT t68 (mh_lbS E_s70 (mh_ifT c72 (mh_lbT (mh_eadd t76) (mh_lbT t78 (mh_lb2T E_s82 (mh_lbT t86 (mh_ifT c87 rfl))))))))), ?_, hI_s82, hF_s82⟩⟩
      · skip
        have := congrArg Int32.toInt t66
        have := congrArg Int32.toInt t68
        have := congrArg Int32.toInt t79
        have := congrArg Int32.toInt t80
        have := congrArg Int32.toInt t84
        have := congrArg Int32.toInt t86
        have := (r_x69).1; have := (r_x69).2
        have := (r_p1).1; have := (r_p1).2
        have := (rc_0).1; have := (rc_0).2
        have := (r_x65).1; have := (r_x65).2
        have := (r_x67).1; have := (r_x67).2
        have := (r_x75).1; have := (r_x75).2
        have := (r_x85).1; have := (r_x85).2
        have := (rc_1).1; have := (rc_1).2
        have := kc_0
        have := kc_1
        have := kc_60
        have := kc_61
        have := kc_62
        omega
  · skip
    refine mw_iload_n 12 rfl 0 dX4_readCompared_11 rfl rfl ?_
    refine mw_bipush (v := 62) 14 rfl dX4_readCompared_12 (by decide) ?_
    refine mw_icmp_eq 17 rfl 29 dX4_readCompared_14 (by decide) (fun c95 => ?_) (fun c95 => ?_)
    · skip
      have r_x69 : mh_r x69 (62) (62) := mh_eq1 c95 r_x69 rc_62 (62) (62) (by decide)
      refine mw_aload_n 30 rfl 1 dX4_readCompared_29 rfl rfl ?_
      refine mw_dup 31 rfl dX4_readCompared_30 rfl ?_
      refine mw_geti 34 rfl dX4_readCompared_31 gf_X4_15 rfl (fun x96 t97 => ?_)
      obtain rfl : x67 = x96 := t68.trans t97.symm
      have r_x67 : mh_r x67 (0) (219) := ⟨(r_x67).1, by have := congrArg Int32.toInt t66; have := congrArg Int32.toInt t68; have := (r_x69).1; have := (r_x69).2; have := (r_p1).1; have := (r_p1).2; have := (r_x67).1; have := (r_x67).2; have := (r_x65).1; have := (r_x65).2; have := kc_0; have := kc_1; have := kc_60; have := kc_61; have := kc_62; omega⟩
      refine mw_iconst (v := 1) 35 rfl dX4_readCompared_34 (by decide) ?_
      refine mw_iadd 36 rfl (1) (220) dX4_readCompared_35 r_x67 rc_1 (by decide) (fun x98 t99 r_x98 => ?_)
      refine mw_puti 39 rfl dX4_readCompared_36 pf_X4_15 rfl (fun s100 t101 => ?_)
      have hI_s100 : mh_I B D s100 := by rw [t101]; exact wr_56_3 hI0 (mh_r_wk r_x98 (by decide))
      have hF_s100 : mh_F S_eX4_rd s0 s100 := by rw [t101]; exact mh_F_pI hF0 (mh_sj 0 rfl)
      refine mw_aload_n 40 rfl 1 dX4_readCompared_39 rfl rfl ?_
      refine mw_iload_n 41 rfl 2 dX4_readCompared_40 rfl rfl ?_
      have t102 : x65 = s100.1 56 2 := by rw [t101]; exact (t66).trans (mh_pI_n (by omega)).symm
      have t103 : x98 = s100.1 56 3 := by rw [t101]; exact mh_pI_s.symm
      refine mw_callVi [.int p1] [] 44 rfl dX4_readCompared_41 ml_X4_69 mc_X4_readSum mk_X4_readSum rfl rfl (by decide) (w_eX4_readSum l G (d + 0) hB hI_s100 p1 r_p1 H rc ih) rfl rfl (Nat.le_of_ble_eq_true rfl) (mh_rok (by omega) (by decide)) (fun x104 s105 q106 => ?_)
      obtain ⟨r_x104, E_s105, e0_s105, hI_s105, hG_s105⟩ := q106
      have hF_s105 : mh_F S_eX4_rd s0 s105 := mh_F_tl hF_s100 hG_s105 (by decide +kernel)
      have t107 : x65 = s105.1 56 2 := (t102).trans (hG_s105 56 2 (mh_nsI (by rfl))).1.symm
      obtain ⟨x108, t109⟩ : ∃ z : Int32, z = s105.1 56 3 := ⟨_, rfl⟩
      have r_x108 : mh_r x108 0 220 := by rw [t109]; exact rd_56_3 hI_s105
      refine mw_if_ne 47 rfl 49 dX4_readCompared_44 (by decide) (fun c110 => ?_) (fun c110 => ?_)
      · skip
        have r_x104 : mh_r x104 (1) (1) := mh_ne1 (show x104.toInt ≠ (0 : Int32).toInt from c110) r_x104 rc_0 (1) (1) (by decide)
        refine mw_aload_n 50 rfl 1 dX4_readCompared_49 rfl rfl ?_
        obtain ⟨k112, t111⟩ : ∃ y : Nat, s105.2.2 56 1 = y := ⟨_, rfl⟩
        have hk112 : mh_isL k112 := by rw [← t111]; exact hI_s105.2.1.2.2.2
        refine mw_geta 53 rfl dX4_readCompared_50 gf_X4_25 rfl k112 t111 ?_
        refine mw_iload_n 54 rfl 0 dX4_readCompared_53 rfl rfl ?_
        refine mw_callVv [.int x69] [] 57 rfl dX4_readCompared_54 ml_X4_95 mc_X1_put mk_X1_put (ly_L hk112) rfl (by decide) (w_eX1_put l G (d + H + 6) ⟨by omega, by omega⟩ hI_s105 k112 hk112 x69) rfl rfl (Nat.le_of_ble_eq_true rfl) (mh_rok (by omega) (by decide)) (fun s114 q115 => ?_)
        obtain ⟨E_s114, hI_s114, hG_s114⟩ := q115
        have hF_s114 : mh_F S_eX4_rd s0 s114 := mh_F_tl hF_s105 hG_s114 (by rcases hk112 with rfl | rfl <;> decide +kernel)
        have t116 : x65 = s114.1 56 2 := (t107).trans (hG_s114 56 2 (mh_nsI (by rcases hk112 with rfl | rfl <;> rfl))).1.symm
        have t117 : x108 = s114.1 56 3 := (t109).trans (hG_s114 56 3 (mh_nsI (by rcases hk112 with rfl | rfl <;> rfl))).1.symm
        refine mw_iconst (v := 1) 58 rfl dX4_readCompared_57 (by decide) ?_
        refine mw_zret dX4_readCompared_58 rfl (mh_r_wk rc_1 (by decide)) ⟨(1), rfl, ⟨(mh_r_wk rc_1 (by decide)), (mh_lbT t66 (mh_lbT t68 (mh_lbS E_s70 (mh_ifF c72 (mh_ifT c95 (mh_lbT (mh_eadd t99) (mh_lbT t101 (mh_lb2T E_s105 (mh_lbT t109 (mh_ifF c110 (mh_lbS t111 (mh_lbS E_s114 rfl)))))))))))), ?_, hI_s114, hF_s114⟩⟩
        · skip
          have := congrArg Int32.toInt t66
          have := congrArg Int32.toInt t68
          have := congrArg Int32.toInt t102
          have := congrArg Int32.toInt t103
          have := congrArg Int32.toInt t107
          have := congrArg Int32.toInt t109
          have := congrArg Int32.toInt t116
          have := congrArg Int32.toInt t117
          have := (r_x69).1; have := (r_x69).2
          have := (r_p1).1; have := (r_p1).2
          have := (rc_1).1; have := (rc_1).2
          have := (r_x65).1; have := (r_x65).2
          have := (r_x67).1; have := (r_x67).2
          have := (r_x98).1; have := (r_x98).2
          have := (r_x108).1; have := (r_x108).2
          have := kc_0
          have := kc_1
          have := kc_60
          have := kc_61
          have := kc_62
          omega
      · skip
        have r_x104 : mh_r x104 (0) (0) := mh_eq1 (show x104.toInt = (0 : Int32).toInt from c110) r_x104 rc_0 (0) (0) (by decide)
        refine mw_iconst (v := 0) 48 rfl dX4_readCompared_47 (by decide) ?_
        refine mw_zret dX4_readCompared_48 rfl (mh_r_wk rc_0 (by decide)) ⟨(0), rfl, ⟨(mh_r_wk rc_0 (by decide)), (mh_lbT t66 (mh_lbT t68 (mh_lbS E_s70 (mh_ifF c72 (mh_ifT c95 (mh_lbT (mh_eadd t99) (mh_lbT t101 (mh_lb2T E_s105 (mh_lbT t109 (mh_ifT c110 rfl)))))))))), ?_, hI_s105, hF_s105⟩⟩
        · skip
          have := congrArg Int32.toInt t66
          have := congrArg Int32.toInt t68
          have := congrArg Int32.toInt t102
          have := congrArg Int32.toInt t103
          have := congrArg Int32.toInt t107
          have := congrArg Int32.toInt t109
          have := (r_x69).1; have := (r_x69).2
          have := (r_p1).1; have := (r_p1).2
          have := (rc_0).1; have := (rc_0).2
          have := (r_x65).1; have := (r_x65).2
          have := (r_x67).1; have := (r_x67).2
          have := (r_x98).1; have := (r_x98).2
          have := (r_x108).1; have := (r_x108).2
          have := (rc_1).1; have := (rc_1).2
          have := kc_0
          have := kc_1
          have := kc_60
          have := kc_61
          have := kc_62
          omega
    · skip
      refine mw_iload_n 18 rfl 0 dX4_readCompared_17 rfl rfl ?_
      refine mw_bipush (v := 61) 20 rfl dX4_readCompared_18 (by decide) ?_
      refine mw_icmp_eq 23 rfl 29 dX4_readCompared_20 (by decide) (fun c118 => ?_) (fun c118 => ?_)
      · skip
        have r_x69 : mh_r x69 (61) (61) := mh_eq1 c118 r_x69 rc_61 (61) (61) (by decide)
        refine mw_aload_n 30 rfl 1 dX4_readCompared_29 rfl rfl ?_
        refine mw_dup 31 rfl dX4_readCompared_30 rfl ?_
        refine mw_geti 34 rfl dX4_readCompared_31 gf_X4_15 rfl (fun x119 t120 => ?_)
        obtain rfl : x67 = x119 := t68.trans t120.symm
        have r_x67 : mh_r x67 (0) (219) := ⟨(r_x67).1, by have := congrArg Int32.toInt t66; have := congrArg Int32.toInt t68; have := (r_x69).1; have := (r_x69).2; have := (r_p1).1; have := (r_p1).2; have := (r_x67).1; have := (r_x67).2; have := (r_x65).1; have := (r_x65).2; have := kc_0; have := kc_1; have := kc_60; have := kc_61; have := kc_62; omega⟩
        refine mw_iconst (v := 1) 35 rfl dX4_readCompared_34 (by decide) ?_
        refine mw_iadd 36 rfl (1) (220) dX4_readCompared_35 r_x67 rc_1 (by decide) (fun x121 t122 r_x121 => ?_)
        refine mw_puti 39 rfl dX4_readCompared_36 pf_X4_15 rfl (fun s123 t124 => ?_)
        have hI_s123 : mh_I B D s123 := by rw [t124]; exact wr_56_3 hI0 (mh_r_wk r_x121 (by decide))
        have hF_s123 : mh_F S_eX4_rd s0 s123 := by rw [t124]; exact mh_F_pI hF0 (mh_sj 0 rfl)
        refine mw_aload_n 40 rfl 1 dX4_readCompared_39 rfl rfl ?_
        refine mw_iload_n 41 rfl 2 dX4_readCompared_40 rfl rfl ?_
        have t125 : x65 = s123.1 56 2 := by rw [t124]; exact (t66).trans (mh_pI_n (by omega)).symm
        have t126 : x121 = s123.1 56 3 := by rw [t124]; exact mh_pI_s.symm
        refine mw_callVi [.int p1] [] 44 rfl dX4_readCompared_41 ml_X4_69 mc_X4_readSum mk_X4_readSum rfl rfl (by decide) (w_eX4_readSum l G (d + 0) hB hI_s123 p1 r_p1 H rc ih) rfl rfl (Nat.le_of_ble_eq_true rfl) (mh_rok (by omega) (by decide)) (fun x127 s128 q129 => ?_)
        obtain ⟨r_x127, E_s128, e0_s128, hI_s128, hG_s128⟩ := q129
        have hF_s128 : mh_F S_eX4_rd s0 s128 := mh_F_tl hF_s123 hG_s128 (by decide +kernel)
        have t130 : x65 = s128.1 56 2 := (t125).trans (hG_s128 56 2 (mh_nsI (by rfl))).1.symm
        obtain ⟨x131, t132⟩ : ∃ z : Int32, z = s128.1 56 3 := ⟨_, rfl⟩
        have r_x131 : mh_r x131 0 220 := by rw [t132]; exact rd_56_3 hI_s128
        refine mw_if_ne 47 rfl 49 dX4_readCompared_44 (by decide) (fun c133 => ?_) (fun c133 => ?_)
        · skip
          have r_x127 : mh_r x127 (1) (1) := mh_ne1 (show x127.toInt ≠ (0 : Int32).toInt from c133) r_x127 rc_0 (1) (1) (by decide)
          refine mw_aload_n 50 rfl 1 dX4_readCompared_49 rfl rfl ?_
          obtain ⟨k135, t134⟩ : ∃ y : Nat, s128.2.2 56 1 = y := ⟨_, rfl⟩
          have hk135 : mh_isL k135 := by rw [← t134]; exact hI_s128.2.1.2.2.2
          refine mw_geta 53 rfl dX4_readCompared_50 gf_X4_25 rfl k135 t134 ?_
          refine mw_iload_n 54 rfl 0 dX4_readCompared_53 rfl rfl ?_
          refine mw_callVv [.int x69] [] 57 rfl dX4_readCompared_54 ml_X4_95 mc_X1_put mk_X1_put (ly_L hk135) rfl (by decide) (w_eX1_put l G (d + H + 6) ⟨by omega, by omega⟩ hI_s128 k135 hk135 x69) rfl rfl (Nat.le_of_ble_eq_true rfl) (mh_rok (by omega) (by decide)) (fun s137 q138 => ?_)
          obtain ⟨E_s137, hI_s137, hG_s137⟩ := q138
          have hF_s137 : mh_F S_eX4_rd s0 s137 := mh_F_tl hF_s128 hG_s137 (by rcases hk135 with rfl | rfl <;> decide +kernel)
          have t139 : x65 = s137.1 56 2 := (t130).trans (hG_s137 56 2 (mh_nsI (by rcases hk135 with rfl | rfl <;> rfl))).1.symm
          have t140 : x131 = s137.1 56 3 := (t132).trans (hG_s137 56 3 (mh_nsI (by rcases hk135 with rfl | rfl <;> rfl))).1.symm
          refine mw_iconst (v := 1) 58 rfl dX4_readCompared_57 (by decide) ?_
          refine mw_zret dX4_readCompared_58 rfl (mh_r_wk rc_1 (by decide)) ⟨(1), rfl, ⟨(mh_r_wk rc_1 (by decide)), (mh_lbT t66 (mh_lbT t68 (mh_lbS E_s70 (mh_ifF c72 (mh_ifF c95 (mh_ifT c118 (mh_lbT (mh_eadd t122) (mh_lbT t124 (mh_lb2T E_s128 (mh_lbT t132 (mh_ifF c133 (mh_lbS t134 (mh_lbS E_s137 rfl))))))))))))), ?_, hI_s137, hF_s137⟩⟩
          · skip
            have := congrArg Int32.toInt t66
            have := congrArg Int32.toInt t68
            have := congrArg Int32.toInt t125
            have := congrArg Int32.toInt t126
            have := congrArg Int32.toInt t130
            have := congrArg Int32.toInt t132
            have := congrArg Int32.toInt t139
            have := congrArg Int32.toInt t140
            have := (r_x69).1; have := (r_x69).2
            have := (r_p1).1; have := (r_p1).2
            have := (rc_1).1; have := (rc_1).2
            have := (r_x65).1; have := (r_x65).2
            have := (r_x67).1; have := (r_x67).2
            have := (r_x121).1; have := (r_x121).2
            have := (r_x131).1; have := (r_x131).2
            have := kc_0
            have := kc_1
            have := kc_60
            have := kc_61
            have := kc_62
            omega
        · skip
          have r_x127 : mh_r x127 (0) (0) := mh_eq1 (show x127.toInt = (0 : Int32).toInt from c133) r_x127 rc_0 (0) (0) (by decide)
          refine mw_iconst (v := 0) 48 rfl dX4_readCompared_47 (by decide) ?_
          refine mw_zret dX4_readCompared_48 rfl (mh_r_wk rc_0 (by decide)) ⟨(0), rfl, ⟨(mh_r_wk rc_0 (by decide)), (mh_lbT t66 (mh_lbT t68 (mh_lbS E_s70 (mh_ifF c72 (mh_ifF c95 (mh_ifT c118 (mh_lbT (mh_eadd t122) (mh_lbT t124 (mh_lb2T E_s128 (mh_lbT t132 (mh_ifT c133 rfl))))))))))), ?_, hI_s128, hF_s128⟩⟩
          · skip
            have := congrArg Int32.toInt t66
            have := congrArg Int32.toInt t68
            have := congrArg Int32.toInt t125
            have := congrArg Int32.toInt t126
            have := congrArg Int32.toInt t130
            have := congrArg Int32.toInt t132
            have := (r_x69).1; have := (r_x69).2
            have := (r_p1).1; have := (r_p1).2
            have := (rc_0).1; have := (rc_0).2
            have := (r_x65).1; have := (r_x65).2
            have := (r_x67).1; have := (r_x67).2
            have := (r_x121).1; have := (r_x121).2
            have := (r_x131).1; have := (r_x131).2
            have := (rc_1).1; have := (rc_1).2
            have := kc_0
            have := kc_1
            have := kc_60
            have := kc_61
            have := kc_62
            omega
      · skip
        refine mw_aload_n 24 rfl 1 dX4_readCompared_23 rfl rfl ?_
        refine mw_iconst (v := 1) 25 rfl dX4_readCompared_24 (by decide) ?_
        refine mw_callVi [.int (1)] [] 28 rfl dX4_readCompared_25 ml_X4_55 mc_X4_fail mk_X4_fail rfl rfl (by decide) (w_eX4_fail l G (d + H + 6) ⟨by omega, by omega⟩ hI0 (1)) rfl rfl (Nat.le_of_ble_eq_true rfl) (mh_rok (by omega) (by decide)) (fun x141 s142 q143 => ?_)
        obtain ⟨r_x141, E_s142, hI_s142, hG_s142⟩ := q143
        have hF_s142 : mh_F S_eX4_rd s0 s142 := mh_F_tl hF0 hG_s142 (by decide +kernel)
        have t144 : x65 = s142.1 56 2 := (t66).trans (hG_s142 56 2 (mh_nsI (by rfl))).1.symm
        have t145 : x67 = s142.1 56 3 := (t68).trans (hG_s142 56 3 (mh_nsI (by rfl))).1.symm
        refine mw_zret dX4_readCompared_28 rfl (mh_r_wk r_x141 (by decide)) ⟨x141, rfl, ⟨(mh_r_wk r_x141 (by decide)), (mh_lbT t66 (mh_lbT t68 (mh_lbS E_s70 (mh_ifF c72 (mh_ifF c95 (mh_ifF c118 (mh_lb2T E_s142 rfl))))))), ?_, hI_s142, hF_s142⟩⟩
        · skip
          have := congrArg Int32.toInt t66
          have := congrArg Int32.toInt t68
          have := congrArg Int32.toInt t144
          have := congrArg Int32.toInt t145
          have := (r_x69).1; have := (r_x69).2
          have := (r_p1).1; have := (r_p1).2
          have := (r_x141).1; have := (r_x141).2
          have := (r_x65).1; have := (r_x65).2
          have := (r_x67).1; have := (r_x67).2
          have := kc_0
          have := kc_1
          have := kc_60
          have := kc_61
          have := kc_62
          omega

def f_eX4_readPiece (rc : mh_Rc) (s0 : mh_H) (p1 : Int32) : Int32 × mh_H := mh_lb (s0.1 56 2) (fun x71 => mh_lb (s0.1 56 3) (fun x73 => mh_lb (f_eX4_sign s0) (fun x75 => if x75.toInt = (33 : Int32).toInt then if p1.toInt < (6 : Int32).toInt then mh_lb (x73 + (1 : Int32)) (fun x82 => mh_lb (mh_pI s0 56 3 x82) (fun s84 => mh_lb (p1 + (1 : Int32)) (fun x87 => mh_lb2 (rc.2.2 s84 x87) (fun x91 s92 => mh_lb (s92.1 56 3) (fun x95 => if x91.toInt = 0 then ((0 : Int32), s92) else mh_lb (s92.2.2 56 1) (fun k99 => mh_lb (f_eX1_put s92 k99 (33 : Int32)) (fun s101 => ((1 : Int32), s101)))))))) else mh_lb2 (f_eX4_fail s0 (5 : Int32)) (fun x105 s106 => (x105, s106)) else if x75.toInt = (40 : Int32).toInt then if p1.toInt < (6 : Int32).toInt then mh_lb (x73 + (1 : Int32)) (fun x114 => mh_lb (mh_pI s0 56 3 x114) (fun s116 => mh_lb (p1 + (1 : Int32)) (fun x119 => mh_lb2 (rc.2.1 s116 x119) (fun x123 s124 => mh_lb (s124.1 56 3) (fun x127 => if x123.toInt = 0 then ((0 : Int32), s124) else mh_lb2 (f_eX4_take s124 (41 : Int32)) (fun x130 s131 => mh_lb (s131.1 56 3) (fun x134 => if x130.toInt = 0 then ((0 : Int32), s131) else ((1 : Int32), s131)))))))) else mh_lb2 (f_eX4_fail s0 (5 : Int32)) (fun x137 s138 => (x137, s138)) else mh_lb2 (f_eX4_readSum rc s0 p1) (fun x142 s143 => mh_lb (s143.1 56 3) (fun x146 => if x142.toInt = 0 then ((0 : Int32), s143) else mh_lb2 (f_eX4_readCompared rc s143 p1) (fun x149 s150 => mh_lb (s150.1 56 3) (fun x153 => if x149.toInt = 0 then ((0 : Int32), s150) else ((1 : Int32), s150))))))))
set_option maxRecDepth 100000 in
set_option maxHeartbeats 4000000 in
theorem w_eX4_readPiece (l : Launch) (G : mh_G) (d : Nat) {B D : Int} (hB : B ≤ 1700000000 ∧ D ≤ 1700000000) {s0 : mh_H} (hI0 : mh_I B D s0) (p1 : Int32) (r_p1 : mh_r p1 (0) (6)) (H : Nat) (rc : mh_Rc) (ih : p1.toInt < 6 → mh_RBe l G H (p1.toInt + 1) rc) : mh_Mi l G (d + (H + 8)) mM_X4_readPiece [.ref (G.2.2.2 56), .int p1] s0 (P_eX4_rd B D s0 (f_eX4_readPiece rc s0 p1)) := by
  refine mh_enter (lv := [(0, .ref (G.2.2.2 56)), (1, .int p1)]) (by decide) rfl (Nat.le_of_ble_eq_true rfl) ?_
  have hF0 : mh_F S_eX4_rd s0 s0 := mh_F_rf
  obtain ⟨x71, t72⟩ : ∃ z : Int32, z = s0.1 56 2 := ⟨_, rfl⟩
  have r_x71 : mh_r x71 0 220 := by rw [t72]; exact rd_56_2 hI0
  obtain ⟨x73, t74⟩ : ∃ z : Int32, z = s0.1 56 3 := ⟨_, rfl⟩
  have r_x73 : mh_r x73 0 220 := by rw [t74]; exact rd_56_3 hI0
  refine mw_aload_n 1 rfl 0 dX4_readPiece_0 rfl rfl ?_
  refine mw_callVi [] [] 4 rfl dX4_readPiece_1 ml_X4_51 mc_X4_sign mk_X4_sign rfl rfl (by decide) (w_eX4_sign l G (d + H + 7) ⟨by omega, by omega⟩ hI0) rfl rfl (Nat.le_of_ble_eq_true rfl) (mh_rok (by omega) (by decide)) (fun x75 s76 q77 => ?_)
  obtain ⟨r_x75, E_s76, e0_s76, rfl⟩ := q77
  have hq_x75 : 0 ≤ x75.toInt → x73.toInt < x71.toInt := by have h9 := e0_s76; rw [← t74, ← t72] at h9; exact h9
  refine mw_istore_n 5 rfl [(2, .int x75), (0, .ref (G.2.2.2 56)), (1, .int p1)] dX4_readPiece_4 rfl (by decide) rfl ?_
  refine mw_iload_n 6 rfl 0 dX4_readPiece_5 rfl rfl ?_
  refine mw_bipush (v := 33) 8 rfl dX4_readPiece_6 (by decide) ?_
  refine mw_icmp_eq 11 rfl 39 dX4_readPiece_8 (by decide) (fun c78 => ?_) (fun c78 => ?_)
  · skip
    have r_x75 : mh_r x75 (33) (33) := mh_eq1 c78 r_x75 rc_33 (33) (33) (by decide)
    refine mw_iload_n 40 rfl 2 dX4_readPiece_39 rfl rfl ?_
    refine mw_bipush (v := 6) 42 rfl dX4_readPiece_40 (by decide) ?_
    refine mw_icmp_lt 45 rfl 51 dX4_readPiece_42 (by decide) (fun c79 => ?_) (fun c79 => ?_)
    · skip
      have r_p1 : mh_r p1 (0) (5) := mh_lt1 c79 r_p1 rc_6 (5) (by decide)
      refine mw_aload_n 52 rfl 1 dX4_readPiece_51 rfl rfl ?_
      refine mw_dup 53 rfl dX4_readPiece_52 rfl ?_
      refine mw_geti 56 rfl dX4_readPiece_53 gf_X4_15 rfl (fun x80 t81 => ?_)
      obtain rfl : x73 = x80 := t74.trans t81.symm
      have r_x73 : mh_r x73 (0) (219) := ⟨(r_x73).1, by have := congrArg Int32.toInt t72; have := congrArg Int32.toInt t74; have := (r_x75).1; have := (r_x75).2; have := (r_p1).1; have := (r_p1).2; have := (r_x73).1; have := (r_x73).2; have := (r_x71).1; have := (r_x71).2; have := kc_0; have := kc_1; have := kc_5; have := kc_6; have := kc_33; have := kc_40; have := kc_41; omega⟩
      refine mw_iconst (v := 1) 57 rfl dX4_readPiece_56 (by decide) ?_
      refine mw_iadd 58 rfl (1) (220) dX4_readPiece_57 r_x73 rc_1 (by decide) (fun x82 t83 r_x82 => ?_)
      refine mw_puti 61 rfl dX4_readPiece_58 pf_X4_15 rfl (fun s84 t85 => ?_)
      have hI_s84 : mh_I B D s84 := by rw [t85]; exact wr_56_3 hI0 (mh_r_wk r_x82 (by decide))
      have hF_s84 : mh_F S_eX4_rd s0 s84 := by rw [t85]; exact mh_F_pI hF0 (mh_sj 0 rfl)
      refine mw_iload_n 62 rfl 0 dX4_readPiece_61 rfl rfl ?_
      refine mw_bipush (v := 40) 64 rfl dX4_readPiece_62 (by decide) ?_
      refine mw_icmp_ne 67 rfl 92 dX4_readPiece_64 (by decide) (fun c86 => ?_) (fun c86 => ?_)
      · skip
        refine mw_aload_n 93 rfl 1 dX4_readPiece_92 rfl rfl ?_
        refine mw_iload_n 94 rfl 2 dX4_readPiece_93 rfl rfl ?_
        refine mw_iconst (v := 1) 95 rfl dX4_readPiece_94 (by decide) ?_
        refine mw_iadd 96 rfl (1) (6) dX4_readPiece_95 r_p1 rc_1 (by decide) (fun x87 t88 r_x87 => ?_)
        have t89 : x71 = s84.1 56 2 := by rw [t85]; exact (t72).trans (mh_pI_n (by omega)).symm
        have t90 : x82 = s84.1 56 3 := by rw [t85]; exact mh_pI_s.symm
        refine mw_callVi [.int x87] [] 99 rfl dX4_readPiece_96 ml_X4_89 mc_X4_readPiece mk_X4_readPiece rfl rfl (by decide) (((ih (by have := (r_p1).2; omega)) (d + 7)).2.2 hB hI_s84 x87 (by have := kc_1; omega)) rfl rfl (Nat.le_of_ble_eq_true rfl) (mh_rok (by omega) (by decide)) (fun x91 s92 q93 => ?_)
        obtain ⟨r_x91, E_s92, e0_s92, hI_s92, hG_s92⟩ := q93
        have hF_s92 : mh_F S_eX4_rd s0 s92 := mh_F_tl hF_s84 hG_s92 (by decide +kernel)
        have t94 : x71 = s92.1 56 2 := (t89).trans (hG_s92 56 2 (mh_nsI (by rfl))).1.symm
        obtain ⟨x95, t96⟩ : ∃ z : Int32, z = s92.1 56 3 := ⟨_, rfl⟩
        have r_x95 : mh_r x95 0 220 := by rw [t96]; exact rd_56_3 hI_s92
        refine mw_if_ne 102 rfl 104 dX4_readPiece_99 (by decide) (fun c97 => ?_) (fun c97 => ?_)
        · skip
          have r_x91 : mh_r x91 (1) (1) := mh_ne1 (show x91.toInt ≠ (0 : Int32).toInt from c97) r_x91 rc_0 (1) (1) (by decide)
          refine mw_aload_n 105 rfl 1 dX4_readPiece_104 rfl rfl ?_
          obtain ⟨k99, t98⟩ : ∃ y : Nat, s92.2.2 56 1 = y := ⟨_, rfl⟩
          have hk99 : mh_isL k99 := by rw [← t98]; exact hI_s92.2.1.2.2.2
          refine mw_geta 108 rfl dX4_readPiece_105 gf_X4_25 rfl k99 t98 ?_
          refine mw_bipush (v := 33) 110 rfl dX4_readPiece_108 (by decide) ?_
          refine mw_callVv [.int (33)] [] 113 rfl dX4_readPiece_110 ml_X4_95 mc_X1_put mk_X1_put (ly_L hk99) rfl (by decide) (w_eX1_put l G (d + H + 7) ⟨by omega, by omega⟩ hI_s92 k99 hk99 (33)) rfl rfl (Nat.le_of_ble_eq_true rfl) (mh_rok (by omega) (by decide)) (fun s101 q102 => ?_)
          obtain ⟨E_s101, hI_s101, hG_s101⟩ := q102
          have hF_s101 : mh_F S_eX4_rd s0 s101 := mh_F_tl hF_s92 hG_s101 (by rcases hk99 with rfl | rfl <;> decide +kernel)
          have t103 : x71 = s101.1 56 2 := (t94).trans (hG_s101 56 2 (mh_nsI (by rcases hk99 with rfl | rfl <;> rfl))).1.symm
          have t104 : x95 = s101.1 56 3 := (t96).trans (hG_s101 56 3 (mh_nsI (by rcases hk99 with rfl | rfl <;> rfl))).1.symm
          refine mw_iconst (v := 1) 114 rfl dX4_readPiece_113 (by decide) ?_
          refine mw_zret dX4_readPiece_114 rfl (mh_r_wk rc_1 (by decide)) ⟨(1), rfl, ⟨(mh_r_wk rc_1 (by decide)), (mh_lbT t72 (mh_lbT t74 (mh_lbS E_s76 (mh_ifT c78 (mh_ifT c79 (mh_lbT (mh_eadd t83) (mh_lbT t85 (mh_lbT (mh_eadd t88) (mh_lb2T E_s92 (mh_lbT t96 (mh_ifF c97 (mh_lbS t98 (mh_lbS E_s101 rfl))))))))))))), ?_, hI_s101, hF_s101⟩⟩
          · skip
            have := congrArg Int32.toInt t72
            have := congrArg Int32.toInt t74
            have := congrArg Int32.toInt t89
            have := congrArg Int32.toInt t90
            have := congrArg Int32.toInt t94
            have := congrArg Int32.toInt t96
            have := congrArg Int32.toInt t103
            have := congrArg Int32.toInt t104
            have := (r_x75).1; have := (r_x75).2
            have := (r_p1).1; have := (r_p1).2
            have := (rc_1).1; have := (rc_1).2
            have := (r_x71).1; have := (r_x71).2
            have := (r_x73).1; have := (r_x73).2
            have := (r_x82).1; have := (r_x82).2
            have := (r_x95).1; have := (r_x95).2
            have := kc_0
            have := kc_1
            have := kc_5
            have := kc_6
            have := kc_33
            have := kc_40
            have := kc_41
            omega
        · skip
          have r_x91 : mh_r x91 (0) (0) := mh_eq1 (show x91.toInt = (0 : Int32).toInt from c97) r_x91 rc_0 (0) (0) (by decide)
          refine mw_iconst (v := 0) 103 rfl dX4_readPiece_102 (by decide) ?_
          refine mw_zret dX4_readPiece_103 rfl (mh_r_wk rc_0 (by decide)) ⟨(0), rfl, ⟨(mh_r_wk rc_0 (by decide)), (mh_lbT t72 (mh_lbT t74 (mh_lbS E_s76 (mh_ifT c78 (mh_ifT c79 (mh_lbT (mh_eadd t83) (mh_lbT t85 (mh_lbT (mh_eadd t88) (mh_lb2T E_s92 (mh_lbT t96 (mh_ifT c97 rfl))))))))))), ?_, hI_s92, hF_s92⟩⟩
          · skip
            have := congrArg Int32.toInt t72
            have := congrArg Int32.toInt t74
            have := congrArg Int32.toInt t89
            have := congrArg Int32.toInt t90
            have := congrArg Int32.toInt t94
            have := congrArg Int32.toInt t96
            have := (r_x75).1; have := (r_x75).2
            have := (r_p1).1; have := (r_p1).2
            have := (rc_0).1; have := (rc_0).2
            have := (r_x71).1; have := (r_x71).2
            have := (r_x73).1; have := (r_x73).2
            have := (r_x82).1; have := (r_x82).2
            have := (r_x95).1; have := (r_x95).2
            have := (rc_1).1; have := (rc_1).2
            have := kc_0
            have := kc_1
            have := kc_5
            have := kc_6
            have := kc_33
            have := kc_40
            have := kc_41
            omega
      · skip
        exact (mh_neq c86 r_x75 rc_40 (by decide)).elim
    · skip
      have r_p1 : mh_r p1 (6) (6) := mh_le2 c79 rc_6 r_p1 (6) (by decide)
      refine mw_aload_n 46 rfl 1 dX4_readPiece_45 rfl rfl ?_
      refine mw_iconst (v := 5) 47 rfl dX4_readPiece_46 (by decide) ?_
      refine mw_callVi [.int (5)] [] 50 rfl dX4_readPiece_47 ml_X4_55 mc_X4_fail mk_X4_fail rfl rfl (by decide) (w_eX4_fail l G (d + H + 7) ⟨by omega, by omega⟩ hI0 (5)) rfl rfl (Nat.le_of_ble_eq_true rfl) (mh_rok (by omega) (by decide)) (fun x105 s106 q107 => ?_)
      obtain ⟨r_x105, E_s106, hI_s106, hG_s106⟩ := q107
      have hF_s106 : mh_F S_eX4_rd s0 s106 := mh_F_tl hF0 hG_s106 (by decide +kernel)
      have t108 : x71 = s106.1 56 2 := (t72).trans (hG_s106 56 2 (mh_nsI (by rfl))).1.symm
      have t109 : x73 = s106.1 56 3 := (t74).trans (hG_s106 56 3 (mh_nsI (by rfl))).1.symm
      refine mw_zret dX4_readPiece_50 rfl (mh_r_wk r_x105 (by decide)) ⟨x105, rfl, ⟨(mh_r_wk r_x105 (by decide)), (mh_lbT t72 (mh_lbT t74 (mh_lbS E_s76 (mh_ifT c78 (mh_ifF (Int.not_lt.mpr c79) (mh_lb2T E_s106 rfl)))))), ?_, hI_s106, hF_s106⟩⟩
      · skip
        have := congrArg Int32.toInt t72
        have := congrArg Int32.toInt t74
        have := congrArg Int32.toInt t108
        have := congrArg Int32.toInt t109
        have := (r_x75).1; have := (r_x75).2
        have := (r_p1).1; have := (r_p1).2
        have := (r_x105).1; have := (r_x105).2
        have := (r_x71).1; have := (r_x71).2
        have := (r_x73).1; have := (r_x73).2
        have := kc_0
        have := kc_1
        have := kc_5
        have := kc_6
        have := kc_33
        have := kc_40
        have := kc_41
        omega
  · skip
    refine mw_iload_n 12 rfl 0 dX4_readPiece_11 rfl rfl ?_
    refine mw_bipush (v := 40) 14 rfl dX4_readPiece_12 (by decide) ?_
    refine mw_icmp_eq 17 rfl 39 dX4_readPiece_14 (by decide) (fun c110 => ?_) (fun c110 => ?_)
    · skip
      have r_x75 : mh_r x75 (40) (40) := mh_eq1 c110 r_x75 rc_40 (40) (40) (by decide)
      refine mw_iload_n 40 rfl 2 dX4_readPiece_39 rfl rfl ?_
      refine mw_bipush (v := 6) 42 rfl dX4_readPiece_40 (by decide) ?_
      refine mw_icmp_lt 45 rfl 51 dX4_readPiece_42 (by decide) (fun c111 => ?_) (fun c111 => ?_)
      · skip
        have r_p1 : mh_r p1 (0) (5) := mh_lt1 c111 r_p1 rc_6 (5) (by decide)
        refine mw_aload_n 52 rfl 1 dX4_readPiece_51 rfl rfl ?_
        refine mw_dup 53 rfl dX4_readPiece_52 rfl ?_
        refine mw_geti 56 rfl dX4_readPiece_53 gf_X4_15 rfl (fun x112 t113 => ?_)
        obtain rfl : x73 = x112 := t74.trans t113.symm
        have r_x73 : mh_r x73 (0) (219) := ⟨(r_x73).1, by have := congrArg Int32.toInt t72; have := congrArg Int32.toInt t74; have := (r_x75).1; have := (r_x75).2; have := (r_p1).1; have := (r_p1).2; have := (r_x73).1; have := (r_x73).2; have := (r_x71).1; have := (r_x71).2; have := kc_0; have := kc_1; have := kc_5; have := kc_6; have := kc_33; have := kc_40; have := kc_41; omega⟩
        refine mw_iconst (v := 1) 57 rfl dX4_readPiece_56 (by decide) ?_
        refine mw_iadd 58 rfl (1) (220) dX4_readPiece_57 r_x73 rc_1 (by decide) (fun x114 t115 r_x114 => ?_)
        refine mw_puti 61 rfl dX4_readPiece_58 pf_X4_15 rfl (fun s116 t117 => ?_)
        have hI_s116 : mh_I B D s116 := by rw [t117]; exact wr_56_3 hI0 (mh_r_wk r_x114 (by decide))
        have hF_s116 : mh_F S_eX4_rd s0 s116 := by rw [t117]; exact mh_F_pI hF0 (mh_sj 0 rfl)
        refine mw_iload_n 62 rfl 0 dX4_readPiece_61 rfl rfl ?_
        refine mw_bipush (v := 40) 64 rfl dX4_readPiece_62 (by decide) ?_
        refine mw_icmp_ne 67 rfl 92 dX4_readPiece_64 (by decide) (fun c118 => ?_) (fun c118 => ?_)
        · skip
          exact (mh_nne c118 r_x75 rc_40).elim
        · skip
          refine mw_aload_n 68 rfl 1 dX4_readPiece_67 rfl rfl ?_
          refine mw_iload_n 69 rfl 2 dX4_readPiece_68 rfl rfl ?_
          refine mw_iconst (v := 1) 70 rfl dX4_readPiece_69 (by decide) ?_
          refine mw_iadd 71 rfl (1) (6) dX4_readPiece_70 r_p1 rc_1 (by decide) (fun x119 t120 r_x119 => ?_)
          have t121 : x71 = s116.1 56 2 := by rw [t117]; exact (t72).trans (mh_pI_n (by omega)).symm
          have t122 : x114 = s116.1 56 3 := by rw [t117]; exact mh_pI_s.symm
          refine mw_callVi [.int x119] [] 74 rfl dX4_readPiece_71 ml_X4_72 mc_X4_readChoice mk_X4_readChoice rfl rfl (by decide) (((ih (by have := (r_p1).2; omega)) (d + 7)).2.1 hB hI_s116 x119 (by have := kc_1; omega)) rfl rfl (Nat.le_of_ble_eq_true rfl) (mh_rok (by omega) (by decide)) (fun x123 s124 q125 => ?_)
          obtain ⟨r_x123, E_s124, e0_s124, hI_s124, hG_s124⟩ := q125
          have hF_s124 : mh_F S_eX4_rd s0 s124 := mh_F_tl hF_s116 hG_s124 (by decide +kernel)
          have t126 : x71 = s124.1 56 2 := (t121).trans (hG_s124 56 2 (mh_nsI (by rfl))).1.symm
          obtain ⟨x127, t128⟩ : ∃ z : Int32, z = s124.1 56 3 := ⟨_, rfl⟩
          have r_x127 : mh_r x127 0 220 := by rw [t128]; exact rd_56_3 hI_s124
          refine mw_if_eq 77 rfl 90 dX4_readPiece_74 (by decide) (fun c129 => ?_) (fun c129 => ?_)
          · skip
            have r_x123 : mh_r x123 (0) (0) := mh_eq1 (show x123.toInt = (0 : Int32).toInt from c129) r_x123 rc_0 (0) (0) (by decide)
            refine mw_iconst (v := 0) 91 rfl dX4_readPiece_90 (by decide) ?_
            refine mw_zret dX4_readPiece_91 rfl (mh_r_wk rc_0 (by decide)) ⟨(0), rfl, ⟨(mh_r_wk rc_0 (by decide)), (mh_lbT t72 (mh_lbT t74 (mh_lbS E_s76 (mh_ifF c78 (mh_ifT c110 (mh_ifT c111 (mh_lbT (mh_eadd t115) (mh_lbT t117 (mh_lbT (mh_eadd t120) (mh_lb2T E_s124 (mh_lbT t128 (mh_ifT c129 rfl)))))))))))), ?_, hI_s124, hF_s124⟩⟩
            · skip
              have := congrArg Int32.toInt t72
              have := congrArg Int32.toInt t74
              have := congrArg Int32.toInt t121
              have := congrArg Int32.toInt t122
              have := congrArg Int32.toInt t126
              have := congrArg Int32.toInt t128
              have := (r_x75).1; have := (r_x75).2
              have := (r_p1).1; have := (r_p1).2
              have := (rc_0).1; have := (rc_0).2
              have := (r_x71).1; have := (r_x71).2
              have := (r_x73).1; have := (r_x73).2
              have := (r_x114).1; have := (r_x114).2
              have := (r_x127).1; have := (r_x127).2
              have := (rc_1).1; have := (rc_1).2
              have := kc_0
              have := kc_1
              have := kc_5
              have := kc_6
              have := kc_33
              have := kc_40
              have := kc_41
              omega
          · skip
            have r_x123 : mh_r x123 (1) (1) := mh_ne1 (show x123.toInt ≠ (0 : Int32).toInt from c129) r_x123 rc_0 (1) (1) (by decide)
            refine mw_aload_n 78 rfl 1 dX4_readPiece_77 rfl rfl ?_
            refine mw_bipush (v := 41) 80 rfl dX4_readPiece_78 (by decide) ?_
            refine mw_callVi [.int (41)] [] 83 rfl dX4_readPiece_80 ml_X4_47 mc_X4_take mk_X4_take rfl rfl (by decide) (w_eX4_take l G (d + H + 6) ⟨by omega, by omega⟩ hI_s124 (41) (mh_r_wk rc_41 (by decide))) rfl rfl (Nat.le_of_ble_eq_true rfl) (mh_rok (by omega) (by decide)) (fun x130 s131 q132 => ?_)
            obtain ⟨r_x130, E_s131, e0_s131, hI_s131, hG_s131⟩ := q132
            have hF_s131 : mh_F S_eX4_rd s0 s131 := mh_F_tl hF_s124 hG_s131 (by decide +kernel)
            have t133 : x71 = s131.1 56 2 := (t126).trans (hG_s131 56 2 (mh_nsI (by rfl))).1.symm
            obtain ⟨x134, t135⟩ : ∃ z : Int32, z = s131.1 56 3 := ⟨_, rfl⟩
            have r_x134 : mh_r x134 0 220 := by rw [t135]; exact rd_56_3 hI_s131
            refine mw_if_eq 86 rfl 90 dX4_readPiece_83 (by decide) (fun c136 => ?_) (fun c136 => ?_)
            · skip
              have r_x130 : mh_r x130 (0) (0) := mh_eq1 (show x130.toInt = (0 : Int32).toInt from c136) r_x130 rc_0 (0) (0) (by decide)
              refine mw_iconst (v := 0) 91 rfl dX4_readPiece_90 (by decide) ?_
              refine mw_zret dX4_readPiece_91 rfl (mh_r_wk rc_0 (by decide)) ⟨(0), rfl, ⟨(mh_r_wk rc_0 (by decide)), (mh_lbT t72 (mh_lbT t74 (mh_lbS E_s76 (mh_ifF c78 (mh_ifT c110 (mh_ifT c111 (mh_lbT (mh_eadd t115) (mh_lbT t117 (mh_lbT (mh_eadd t120) (mh_lb2T E_s124 (mh_lbT t128 (mh_ifF c129 (mh_lb2T E_s131 (mh_lbT t135 (mh_ifT c136 rfl))))))))))))))), ?_, hI_s131, hF_s131⟩⟩
              · skip
                have := congrArg Int32.toInt t72
                have := congrArg Int32.toInt t74
                have := congrArg Int32.toInt t121
                have := congrArg Int32.toInt t122
                have := congrArg Int32.toInt t126
                have := congrArg Int32.toInt t128
                have := congrArg Int32.toInt t133
                have := congrArg Int32.toInt t135
                have := (r_x75).1; have := (r_x75).2
                have := (r_p1).1; have := (r_p1).2
                have := (rc_0).1; have := (rc_0).2
                have := (r_x71).1; have := (r_x71).2
                have := (r_x73).1; have := (r_x73).2
                have := (r_x114).1; have := (r_x114).2
                have := (r_x127).1; have := (r_x127).2
                have := (r_x134).1; have := (r_x134).2
                have := (rc_1).1; have := (rc_1).2
                have := kc_0
                have := kc_1
                have := kc_5
                have := kc_6
                have := kc_33
                have := kc_40
                have := kc_41
                omega
            · skip
              have r_x130 : mh_r x130 (1) (1) := mh_ne1 (show x130.toInt ≠ (0 : Int32).toInt from c136) r_x130 rc_0 (1) (1) (by decide)
              refine mw_iconst (v := 1) 87 rfl dX4_readPiece_86 (by decide) ?_
              refine mw_goto 90 rfl 91 dX4_readPiece_87 (by decide) ?_
              refine mw_zret dX4_readPiece_91 rfl (mh_r_wk rc_1 (by decide)) ⟨(1), rfl, ⟨(mh_r_wk rc_1 (by decide)), (mh_lbT t72 (mh_lbT t74 (mh_lbS E_s76 (mh_ifF c78 (mh_ifT c110 (mh_ifT c111 (mh_lbT (mh_eadd t115) (mh_lbT t117 (mh_lbT (mh_eadd t120) (mh_lb2T E_s124 (mh_lbT t128 (mh_ifF c129 (mh_lb2T E_s131 (mh_lbT t135 (mh_ifF c136 rfl))))))))))))))), ?_, hI_s131, hF_s131⟩⟩
              · skip
                have := congrArg Int32.toInt t72
                have := congrArg Int32.toInt t74
                have := congrArg Int32.toInt t121
                have := congrArg Int32.toInt t122
                have := congrArg Int32.toInt t126
                have := congrArg Int32.toInt t128
                have := congrArg Int32.toInt t133
                have := congrArg Int32.toInt t135
                have := (r_x75).1; have := (r_x75).2
                have := (r_p1).1; have := (r_p1).2
                have := (rc_1).1; have := (rc_1).2
                have := (r_x71).1; have := (r_x71).2
                have := (r_x73).1; have := (r_x73).2
                have := (r_x114).1; have := (r_x114).2
                have := (r_x127).1; have := (r_x127).2
                have := (r_x134).1; have := (r_x134).2
                have := kc_0
                have := kc_1
                have := kc_5
                have := kc_6
                have := kc_33
                have := kc_40
                have := kc_41
                omega
      · skip
        have r_p1 : mh_r p1 (6) (6) := mh_le2 c111 rc_6 r_p1 (6) (by decide)
        refine mw_aload_n 46 rfl 1 dX4_readPiece_45 rfl rfl ?_
        refine mw_iconst (v := 5) 47 rfl dX4_readPiece_46 (by decide) ?_
        refine mw_callVi [.int (5)] [] 50 rfl dX4_readPiece_47 ml_X4_55 mc_X4_fail mk_X4_fail rfl rfl (by decide) (w_eX4_fail l G (d + H + 7) ⟨by omega, by omega⟩ hI0 (5)) rfl rfl (Nat.le_of_ble_eq_true rfl) (mh_rok (by omega) (by decide)) (fun x137 s138 q139 => ?_)
        obtain ⟨r_x137, E_s138, hI_s138, hG_s138⟩ := q139
        have hF_s138 : mh_F S_eX4_rd s0 s138 := mh_F_tl hF0 hG_s138 (by decide +kernel)
        have t140 : x71 = s138.1 56 2 := (t72).trans (hG_s138 56 2 (mh_nsI (by rfl))).1.symm
        have t141 : x73 = s138.1 56 3 := (t74).trans (hG_s138 56 3 (mh_nsI (by rfl))).1.symm
        refine mw_zret dX4_readPiece_50 rfl (mh_r_wk r_x137 (by decide)) ⟨x137, rfl, ⟨(mh_r_wk r_x137 (by decide)), (mh_lbT t72 (mh_lbT t74 (mh_lbS E_s76 (mh_ifF c78 (mh_ifT c110 (mh_ifF (Int.not_lt.mpr c111) (mh_lb2T E_s138 rfl))))))), ?_, hI_s138, hF_s138⟩⟩
        · skip
          have := congrArg Int32.toInt t72
          have := congrArg Int32.toInt t74
          have := congrArg Int32.toInt t140
          have := congrArg Int32.toInt t141
          have := (r_x75).1; have := (r_x75).2
          have := (r_p1).1; have := (r_p1).2
          have := (r_x137).1; have := (r_x137).2
          have := (r_x71).1; have := (r_x71).2
          have := (r_x73).1; have := (r_x73).2
          have := kc_0
          have := kc_1
          have := kc_5
          have := kc_6
          have := kc_33
          have := kc_40
          have := kc_41
          omega
    · skip
      refine mw_aload_n 18 rfl 1 dX4_readPiece_17 rfl rfl ?_
      refine mw_iload_n 19 rfl 2 dX4_readPiece_18 rfl rfl ?_
      refine mw_callVi [.int p1] [] 22 rfl dX4_readPiece_19 ml_X4_69 mc_X4_readSum mk_X4_readSum rfl rfl (by decide) (w_eX4_readSum l G (d + 1) hB hI0 p1 r_p1 H rc ih) rfl rfl (Nat.le_of_ble_eq_true rfl) (mh_rok (by omega) (by decide)) (fun x142 s143 q144 => ?_)
      obtain ⟨r_x142, E_s143, e0_s143, hI_s143, hG_s143⟩ := q144
      have hF_s143 : mh_F S_eX4_rd s0 s143 := mh_F_tl hF0 hG_s143 (by decide +kernel)
      have t145 : x71 = s143.1 56 2 := (t72).trans (hG_s143 56 2 (mh_nsI (by rfl))).1.symm
      obtain ⟨x146, t147⟩ : ∃ z : Int32, z = s143.1 56 3 := ⟨_, rfl⟩
      have r_x146 : mh_r x146 0 220 := by rw [t147]; exact rd_56_3 hI_s143
      refine mw_if_eq 25 rfl 37 dX4_readPiece_22 (by decide) (fun c148 => ?_) (fun c148 => ?_)
      · skip
        have r_x142 : mh_r x142 (0) (0) := mh_eq1 (show x142.toInt = (0 : Int32).toInt from c148) r_x142 rc_0 (0) (0) (by decide)
        refine mw_iconst (v := 0) 38 rfl dX4_readPiece_37 (by decide) ?_
        refine mw_zret dX4_readPiece_38 rfl (mh_r_wk rc_0 (by decide)) ⟨(0), rfl, ⟨(mh_r_wk rc_0 (by decide)), (mh_lbT t72 (mh_lbT t74 (mh_lbS E_s76 (mh_ifF c78 (mh_ifF c110 (mh_lb2T E_s143 (mh_lbT t147 (mh_ifT c148 rfl)))))))), ?_, hI_s143, hF_s143⟩⟩
        · skip
          have := congrArg Int32.toInt t72
          have := congrArg Int32.toInt t74
          have := congrArg Int32.toInt t145
          have := congrArg Int32.toInt t147
          have := (r_x75).1; have := (r_x75).2
          have := (r_p1).1; have := (r_p1).2
          have := (rc_0).1; have := (rc_0).2
          have := (r_x71).1; have := (r_x71).2
          have := (r_x73).1; have := (r_x73).2
          have := (r_x146).1; have := (r_x146).2
          have := kc_0
          have := kc_1
          have := kc_5
          have := kc_6
          have := kc_33
          have := kc_40
          have := kc_41
          omega
      · skip
        have r_x142 : mh_r x142 (1) (1) := mh_ne1 (show x142.toInt ≠ (0 : Int32).toInt from c148) r_x142 rc_0 (1) (1) (by decide)
        refine mw_aload_n 26 rfl 1 dX4_readPiece_25 rfl rfl ?_
        refine mw_iload_n 27 rfl 2 dX4_readPiece_26 rfl rfl ?_
        refine mw_callVi [.int p1] [] 30 rfl dX4_readPiece_27 ml_X4_92 mc_X4_readCompared mk_X4_readCompared rfl rfl (by decide) (w_eX4_readCompared l G (d + 0) hB hI_s143 p1 r_p1 H rc ih) rfl rfl (Nat.le_of_ble_eq_true rfl) (mh_rok (by omega) (by decide)) (fun x149 s150 q151 => ?_)
        obtain ⟨r_x149, E_s150, e0_s150, hI_s150, hG_s150⟩ := q151
        have hF_s150 : mh_F S_eX4_rd s0 s150 := mh_F_tl hF_s143 hG_s150 (by decide +kernel)
        have t152 : x71 = s150.1 56 2 := (t145).trans (hG_s150 56 2 (mh_nsI (by rfl))).1.symm
        obtain ⟨x153, t154⟩ : ∃ z : Int32, z = s150.1 56 3 := ⟨_, rfl⟩
        have r_x153 : mh_r x153 0 220 := by rw [t154]; exact rd_56_3 hI_s150
        refine mw_if_eq 33 rfl 37 dX4_readPiece_30 (by decide) (fun c155 => ?_) (fun c155 => ?_)
        · skip
          have r_x149 : mh_r x149 (0) (0) := mh_eq1 (show x149.toInt = (0 : Int32).toInt from c155) r_x149 rc_0 (0) (0) (by decide)
          refine mw_iconst (v := 0) 38 rfl dX4_readPiece_37 (by decide) ?_
          refine mw_zret dX4_readPiece_38 rfl (mh_r_wk rc_0 (by decide)) ⟨(0), rfl, ⟨(mh_r_wk rc_0 (by decide)), (mh_lbT t72 (mh_lbT t74 (mh_lbS E_s76 (mh_ifF c78 (mh_ifF c110 (mh_lb2T E_s143 (mh_lbT t147 (mh_ifF c148 (mh_lb2T E_s150 (mh_lbT t154 (mh_ifT c155 rfl))))))))))), ?_, hI_s150, hF_s150⟩⟩
          · skip
            have := congrArg Int32.toInt t72
            have := congrArg Int32.toInt t74
            have := congrArg Int32.toInt t145
            have := congrArg Int32.toInt t147
            have := congrArg Int32.toInt t152
            have := congrArg Int32.toInt t154
            have := (r_x75).1; have := (r_x75).2
            have := (r_p1).1; have := (r_p1).2
            have := (rc_0).1; have := (rc_0).2
            have := (r_x71).1; have := (r_x71).2
            have := (r_x73).1; have := (r_x73).2
            have := (r_x146).1; have := (r_x146).2
            have := (r_x153).1; have := (r_x153).2
            have := kc_0
            have := kc_1
            have := kc_5
            have := kc_6
            have := kc_33
            have := kc_40
            have := kc_41
            omega
        · skip
          have r_x149 : mh_r x149 (1) (1) := mh_ne1 (show x149.toInt ≠ (0 : Int32).toInt from c155) r_x149 rc_0 (1) (1) (by decide)
          refine mw_iconst (v := 1) 34 rfl dX4_readPiece_33 (by decide) ?_
          refine mw_goto 37 rfl 38 dX4_readPiece_34 (by decide) ?_
          refine mw_zret dX4_readPiece_38 rfl (mh_r_wk rc_1 (by decide)) ⟨(1), rfl, ⟨(mh_r_wk rc_1 (by decide)), (mh_lbT t72 (mh_lbT t74 (mh_lbS E_s76 (mh_ifF c78 (mh_ifF c110 (mh_lb2T E_s143 (mh_lbT t147 (mh_ifF c148 (mh_lb2T E_s150 (mh_lbT t154 (mh_ifF c155 rfl))))))))))), ?_, hI_s150, hF_s150⟩⟩
          · skip
            have := congrArg Int32.toInt t72
            have := congrArg Int32.toInt t74
            have := congrArg Int32.toInt t145
            have := congrArg Int32.toInt t147
            have := congrArg Int32.toInt t152
            have := congrArg Int32.toInt t154
            have := (r_x75).1; have := (r_x75).2
            have := (r_p1).1; have := (r_p1).2
            have := (rc_1).1; have := (rc_1).2
            have := (r_x71).1; have := (r_x71).2
            have := (r_x73).1; have := (r_x73).2
            have := (r_x146).1; have := (r_x146).2
            have := (r_x153).1; have := (r_x153).2
            have := kc_0
            have := kc_1
            have := kc_5
            have := kc_6
            have := kc_33
            have := kc_40
            have := kc_41
            omega

def ls_eX4_readPart_10_1 (rc : mh_Rc) (p1 : Int32) (lo_10_1 : mh_H → Int32 × mh_H) (s156 : mh_H) : Int32 × mh_H := mh_lb (s156.1 56 2) (fun x193 => mh_lb (s156.1 56 3) (fun x195 => if x195.toInt < x193.toInt then mh_lb (f_eX4_sign s156) (fun x202 => if x202.toInt = (38 : Int32).toInt then mh_lb (x195 + (1 : Int32)) (fun x208 => mh_lb (mh_pI s156 56 3 x208) (fun s210 => mh_lb (s210.2.2 56 1) (fun k213 => mh_lb2 (f_eX1_putJump s210 k213 (38 : Int32)) (fun x216 s217 => mh_lb2 (f_eX4_readPiece rc s217 p1) (fun x221 s222 => mh_lb (s222.1 56 3) (fun x225 => if x221.toInt = 0 then ((0 : Int32), s222) else mh_lb (s222.2.2 56 1) (fun k229 => mh_lb (f_eX1_land s222 k229 x216) (fun s231 => (lo_10_1 s231))))))))) else ((1 : Int32), s156)) else ((1 : Int32), s156)))
def l_eX4_readPart_10_1 (rc : mh_Rc) (p1 : Int32) : Nat → mh_H → Int32 × mh_H
  | 0 => fun s156 => (0, s156)
  | n + 1 => ls_eX4_readPart_10_1 rc p1 (l_eX4_readPart_10_1 rc p1 n)
theorem l_eX4_readPart_10_1_s (rc : mh_Rc) (p1 : Int32) (n : Nat) : l_eX4_readPart_10_1 rc p1 (n + 1) = ls_eX4_readPart_10_1 rc p1 (l_eX4_readPart_10_1 rc p1 n) := rfl
def f_eX4_readPart (rc : mh_Rc) (s0 : mh_H) (p1 : Int32) : Int32 × mh_H := mh_lb (s0.1 56 2) (fun x114 => mh_lb (s0.1 56 3) (fun x116 => mh_lb2 (f_eX4_readPiece rc s0 p1) (fun x118 s119 => mh_lb (s119.1 56 3) (fun x122 => if x118.toInt = 0 then ((0 : Int32), s119) else (l_eX4_readPart_10_1 rc p1 222 s119)))))
set_option maxRecDepth 100000 in
set_option maxHeartbeats 4000000 in
theorem w_eX4_readPart (l : Launch) (G : mh_G) (d : Nat) {B D : Int} (hB : B ≤ 1700000000 ∧ D ≤ 1700000000) {s0 : mh_H} (hI0 : mh_I B D s0) (p1 : Int32) (r_p1 : mh_r p1 (0) (6)) (H : Nat) (rc : mh_Rc) (ih : p1.toInt < 6 → mh_RBe l G H (p1.toInt + 1) rc) : mh_Mi l G (d + (H + 9)) mM_X4_readPart [.ref (G.2.2.2 56), .int p1] s0 (P_eX4_rd B D s0 (f_eX4_readPart rc s0 p1)) := by
  refine mh_enter (lv := [(0, .ref (G.2.2.2 56)), (1, .int p1)]) (by decide) rfl (Nat.le_of_ble_eq_true rfl) ?_
  have hF0 : mh_F S_eX4_rd s0 s0 := mh_F_rf
  obtain ⟨x114, t115⟩ : ∃ z : Int32, z = s0.1 56 2 := ⟨_, rfl⟩
  have r_x114 : mh_r x114 0 220 := by rw [t115]; exact rd_56_2 hI0
  obtain ⟨x116, t117⟩ : ∃ z : Int32, z = s0.1 56 3 := ⟨_, rfl⟩
  have r_x116 : mh_r x116 0 220 := by rw [t117]; exact rd_56_3 hI0
  refine mw_aload_n 1 rfl 0 dX4_readPart_0 rfl rfl ?_
  refine mw_iload_n 2 rfl 1 dX4_readPart_1 rfl rfl ?_
  refine mw_callVi [.int p1] [] 5 rfl dX4_readPart_2 ml_X4_89 mc_X4_readPiece mk_X4_readPiece rfl rfl (by decide) (w_eX4_readPiece l G (d + 0) hB hI0 p1 r_p1 H rc ih) rfl rfl (Nat.le_of_ble_eq_true rfl) (mh_rok (by omega) (by decide)) (fun x118 s119 q120 => ?_)
  obtain ⟨r_x118, E_s119, e0_s119, hI_s119, hG_s119⟩ := q120
  have hF_s119 : mh_F S_eX4_rd s0 s119 := mh_F_tl hF0 hG_s119 (by decide +kernel)
  have t121 : x114 = s119.1 56 2 := (t115).trans (hG_s119 56 2 (mh_nsI (by rfl))).1.symm
  obtain ⟨x122, t123⟩ : ∃ z : Int32, z = s119.1 56 3 := ⟨_, rfl⟩
  have r_x122 : mh_r x122 0 220 := by rw [t123]; exact rd_56_3 hI_s119
  refine mw_if_ne 8 rfl 10 dX4_readPart_5 (by decide) (fun c124 => ?_) (fun c124 => ?_)
  · skip
    have r_x118 : mh_r x118 (1) (1) := mh_ne1 (show x118.toInt ≠ (0 : Int32).toInt from c124) r_x118 rc_0 (1) (1) (by decide)
    have L10 : ∀ n1 : Nat, ∀  (s156 : mh_H), mh_I B D s156 → mh_F S_eX4_rd s0 s156 → ((s0.1 56 3).toInt ≤ (s156.1 56 3).toInt) → (f_eX4_readPart rc s0 p1 = l_eX4_readPart_10_1 rc p1 n1 s156) → 220 - (s156.1 56 3).toInt < (n1 : Int) → mh_W G (mh_XM l G (d + (H + 9)) (mh_Qi (P_eX4_rd B D s0 (f_eX4_readPart rc s0 p1)))) mM_X4_readPart 10 [(0, .ref (G.2.2.2 56)), (1, .int p1)] [] s156 := by
      intro n1
      induction n1 with
      | zero =>
        intro s156 hI_s156 hF_s156 iv hE1 hmn1
        exact absurd hmn1 (by have := (rd_56_3 hI_s156).2; omega)
      | succ n1 ihn1 =>
        intro s156 hI_s156 hF_s156 iv hE1 hmn1
        rw [l_eX4_readPart_10_1_s] at hE1
        obtain ⟨x193, t194⟩ : ∃ z : Int32, z = s156.1 56 2 := ⟨_, rfl⟩
        have r_x193 : mh_r x193 0 220 := by rw [t194]; exact rd_56_2 hI_s156
        obtain ⟨x195, t196⟩ : ∃ z : Int32, z = s156.1 56 3 := ⟨_, rfl⟩
        have r_x195 : mh_r x195 0 220 := by rw [t196]; exact rd_56_3 hI_s156
        refine mw_aload_n 11 rfl 0 dX4_readPart_10 rfl rfl ?_
        refine mw_geti 14 rfl dX4_readPart_11 gf_X4_15 rfl (fun x197 t198 => ?_)
        obtain rfl : x195 = x197 := t196.trans t198.symm
        refine mw_aload_n 15 rfl 0 dX4_readPart_14 rfl rfl ?_
        refine mw_geti 18 rfl dX4_readPart_15 gf_X4_9 rfl (fun x199 t200 => ?_)
        obtain rfl : x193 = x199 := t194.trans t200.symm
        refine mw_icmp_ge 21 rfl 71 dX4_readPart_18 (by decide) (fun c201 => ?_) (fun c201 => ?_)
        · skip
          refine mw_iconst (v := 1) 72 rfl dX4_readPart_71 (by decide) ?_
          refine mw_zret dX4_readPart_72 rfl (mh_r_wk rc_1 (by decide)) ⟨(1), rfl, ⟨(mh_r_wk rc_1 (by decide)), (Eq.trans hE1 (mh_lbT t194 (mh_lbT t196 (mh_ifF (Int.not_lt.mpr c201) rfl)))), ?_, hI_s156, hF_s156⟩⟩
          · skip
            have := congrArg Int32.toInt t115
            have := congrArg Int32.toInt t117
            have := congrArg Int32.toInt t121
            have := congrArg Int32.toInt t123
            have := congrArg Int32.toInt t194
            have := congrArg Int32.toInt t196
            have := (r_p1).1; have := (r_p1).2
            have := (rc_1).1; have := (rc_1).2
            have := (r_x114).1; have := (r_x114).2
            have := (r_x116).1; have := (r_x116).2
            have := (r_x122).1; have := (r_x122).2
            have := (r_x193).1; have := (r_x193).2
            have := (r_x195).1; have := (r_x195).2
            have := kc_0
            have := kc_1
            have := kc_38
            omega
        · skip
          have r_x195 : mh_r x195 (0) (219) := mh_lt1 c201 r_x195 r_x193 (219) (by decide)
          have r_x193 : mh_r x193 (1) (220) := mh_lt2 c201 r_x195 r_x193 (1) (by decide)
          refine mw_aload_n 22 rfl 0 dX4_readPart_21 rfl rfl ?_
          refine mw_callVi [] [] 25 rfl dX4_readPart_22 ml_X4_51 mc_X4_sign mk_X4_sign rfl rfl (by decide) (w_eX4_sign l G (d + H + 8) ⟨by omega, by omega⟩ hI_s156) rfl rfl (Nat.le_of_ble_eq_true rfl) (mh_rok (by omega) (by decide)) (fun x202 s203 q204 => ?_)
          obtain ⟨r_x202, E_s203, e0_s203, rfl⟩ := q204
          have hq_x202 : 0 ≤ x202.toInt → x195.toInt < x193.toInt := by have h9 := e0_s203; rw [← t196, ← t194] at h9; exact h9
          refine mw_bipush (v := 38) 27 rfl dX4_readPart_25 (by decide) ?_
          refine mw_icmp_ne 30 rfl 71 dX4_readPart_27 (by decide) (fun c205 => ?_) (fun c205 => ?_)
          · skip
            refine mw_iconst (v := 1) 72 rfl dX4_readPart_71 (by decide) ?_
            refine mw_zret dX4_readPart_72 rfl (mh_r_wk rc_1 (by decide)) ⟨(1), rfl, ⟨(mh_r_wk rc_1 (by decide)), (Eq.trans hE1 (mh_lbT t194 (mh_lbT t196 (mh_ifT c201 (mh_lbS E_s203 (mh_ifF c205 rfl)))))), ?_, hI_s156, hF_s156⟩⟩
            · skip
              have := congrArg Int32.toInt t115
              have := congrArg Int32.toInt t117
              have := congrArg Int32.toInt t121
              have := congrArg Int32.toInt t123
              have := congrArg Int32.toInt t194
              have := congrArg Int32.toInt t196
              have := (r_p1).1; have := (r_p1).2
              have := (rc_1).1; have := (rc_1).2
              have := (r_x114).1; have := (r_x114).2
              have := (r_x116).1; have := (r_x116).2
              have := (r_x122).1; have := (r_x122).2
              have := (r_x193).1; have := (r_x193).2
              have := (r_x195).1; have := (r_x195).2
              have := kc_0
              have := kc_1
              have := kc_38
              omega
          · skip
            have r_x202 : mh_r x202 (38) (38) := mh_eq1 c205 r_x202 rc_38 (38) (38) (by decide)
            refine mw_aload_n 31 rfl 0 dX4_readPart_30 rfl rfl ?_
            refine mw_dup 32 rfl dX4_readPart_31 rfl ?_
            refine mw_geti 35 rfl dX4_readPart_32 gf_X4_15 rfl (fun x206 t207 => ?_)
            obtain rfl : x195 = x206 := t196.trans t207.symm
            refine mw_iconst (v := 1) 36 rfl dX4_readPart_35 (by decide) ?_
            refine mw_iadd 37 rfl (1) (220) dX4_readPart_36 r_x195 rc_1 (by decide) (fun x208 t209 r_x208 => ?_)
            refine mw_puti 40 rfl dX4_readPart_37 pf_X4_15 rfl (fun s210 t211 => ?_)
            have hI_s210 : mh_I B D s210 := by rw [t211]; exact wr_56_3 hI_s156 (mh_r_wk r_x208 (by decide))
            have hF_s210 : mh_F S_eX4_rd s0 s210 := by rw [t211]; exact mh_F_pI hF_s156 (mh_sj 0 rfl)
            refine mw_aload_n 41 rfl 0 dX4_readPart_40 rfl rfl ?_
            obtain ⟨k213, t212⟩ : ∃ y : Nat, s210.2.2 56 1 = y := ⟨_, rfl⟩
            have hk213 : mh_isL k213 := by rw [← t212]; exact hI_s210.2.1.2.2.2
            refine mw_geta 44 rfl dX4_readPart_41 gf_X4_25 rfl k213 t212 ?_
            refine mw_bipush (v := 38) 46 rfl dX4_readPart_44 (by decide) ?_
            have t214 : x193 = s210.1 56 2 := by rw [t211]; exact (t194).trans (mh_pI_n (by omega)).symm
            have t215 : x208 = s210.1 56 3 := by rw [t211]; exact mh_pI_s.symm
            refine mw_callVi [.int (38)] [] 49 rfl dX4_readPart_46 ml_X4_82 mc_X1_putJump mk_X1_putJump (ly_L hk213) rfl (by decide) (w_eX1_putJump l G (d + H + 7) ⟨by omega, by omega⟩ hI_s210 k213 hk213 (38)) rfl rfl (Nat.le_of_ble_eq_true rfl) (mh_rok (by omega) (by decide)) (fun x216 s217 q218 => ?_)
            obtain ⟨r_x216, E_s217, hI_s217, hG_s217⟩ := q218
            have hF_s217 : mh_F S_eX4_rd s0 s217 := mh_F_tl hF_s210 hG_s217 (by rcases hk213 with rfl | rfl <;> decide +kernel)
            have t219 : x193 = s217.1 56 2 := (t214).trans (hG_s217 56 2 (mh_nsI (by rcases hk213 with rfl | rfl <;> rfl))).1.symm
            have t220 : x208 = s217.1 56 3 := (t215).trans (hG_s217 56 3 (mh_nsI (by rcases hk213 with rfl | rfl <;> rfl))).1.symm
            refine mw_istore_n 50 rfl [(2, .int x216), (0, .ref (G.2.2.2 56)), (1, .int p1)] dX4_readPart_49 rfl (by decide) rfl ?_
            refine mw_aload_n 51 rfl 1 dX4_readPart_50 rfl rfl ?_
            refine mw_iload_n 52 rfl 2 dX4_readPart_51 rfl rfl ?_
            refine mw_callVi [.int p1] [] 55 rfl dX4_readPart_52 ml_X4_89 mc_X4_readPiece mk_X4_readPiece rfl rfl (by decide) (w_eX4_readPiece l G (d + 0) hB hI_s217 p1 r_p1 H rc ih) rfl rfl (Nat.le_of_ble_eq_true rfl) (mh_rok (by omega) (by decide)) (fun x221 s222 q223 => ?_)
            obtain ⟨r_x221, E_s222, e0_s222, hI_s222, hG_s222⟩ := q223
            have hF_s222 : mh_F S_eX4_rd s0 s222 := mh_F_tl hF_s217 hG_s222 (by decide +kernel)
            have t224 : x193 = s222.1 56 2 := (t219).trans (hG_s222 56 2 (mh_nsI (by rfl))).1.symm
            obtain ⟨x225, t226⟩ : ∃ z : Int32, z = s222.1 56 3 := ⟨_, rfl⟩
            have r_x225 : mh_r x225 0 220 := by rw [t226]; exact rd_56_3 hI_s222
            refine mw_if_ne 58 rfl 60 dX4_readPart_55 (by decide) (fun c227 => ?_) (fun c227 => ?_)
            · skip
              have r_x221 : mh_r x221 (1) (1) := mh_ne1 (show x221.toInt ≠ (0 : Int32).toInt from c227) r_x221 rc_0 (1) (1) (by decide)
              refine mw_aload_n 61 rfl 1 dX4_readPart_60 rfl rfl ?_
              obtain ⟨k229, t228⟩ : ∃ y : Nat, s222.2.2 56 1 = y := ⟨_, rfl⟩
              have hk229 : mh_isL k229 := by rw [← t228]; exact hI_s222.2.1.2.2.2
              refine mw_geta 64 rfl dX4_readPart_61 gf_X4_25 rfl k229 t228 ?_
              refine mw_iload_n 65 rfl 0 dX4_readPart_64 rfl rfl ?_
              refine mw_callVv [.int x216] [] 68 rfl dX4_readPart_65 ml_X4_85 mc_X1_land mk_X1_land (ly_L hk229) rfl (by decide) (w_eX1_land l G (d + H + 7) ⟨by omega, by omega⟩ hI_s222 k229 hk229 x216) rfl rfl (Nat.le_of_ble_eq_true rfl) (mh_rok (by omega) (by decide)) (fun s231 q232 => ?_)
              obtain ⟨E_s231, hI_s231, hG_s231⟩ := q232
              have hF_s231 : mh_F S_eX4_rd s0 s231 := mh_F_tl hF_s222 hG_s231 (by rcases hk229 with rfl | rfl <;> decide +kernel)
              have t233 : x193 = s231.1 56 2 := (t224).trans (hG_s231 56 2 (mh_nsI (by rcases hk229 with rfl | rfl <;> rfl))).1.symm
              have t234 : x225 = s231.1 56 3 := (t226).trans (hG_s231 56 3 (mh_nsI (by rcases hk229 with rfl | rfl <;> rfl))).1.symm
              refine mw_goto 71 rfl 10 dX4_readPart_68 (by decide) ?_
              exact mw_lv [1, 2] rfl (ihn1 s231 hI_s231 hF_s231 (by
                  have := congrArg Int32.toInt t115
                  have := congrArg Int32.toInt t117
                  have := congrArg Int32.toInt t121
                  have := congrArg Int32.toInt t123
                  have := congrArg Int32.toInt t194
                  have := congrArg Int32.toInt t196
                  have := congrArg Int32.toInt t214
                  have := congrArg Int32.toInt t215
                  have := congrArg Int32.toInt t219
                  have := congrArg Int32.toInt t220
                  have := congrArg Int32.toInt t224
                  have := congrArg Int32.toInt t226
                  have := congrArg Int32.toInt t233
                  have := congrArg Int32.toInt t234
                  have := (r_x216).1; have := (r_x216).2
                  have := (r_p1).1; have := (r_p1).2
                  have := (r_x114).1; have := (r_x114).2
                  have := (r_x116).1; have := (r_x116).2
                  have := (r_x122).1; have := (r_x122).2
                  have := (r_x193).1; have := (r_x193).2
                  have := (r_x195).1; have := (r_x195).2
                  have := (r_x208).1; have := (r_x208).2
                  have := (r_x225).1; have := (r_x225).2
                  have := (rc_1).1; have := (rc_1).2
                  have := kc_0
                  have := kc_1
                  have := kc_38
                  omega) (Eq.trans hE1 (mh_lbT t194 (mh_lbT t196 (mh_ifT c201 (mh_lbS E_s203 (mh_ifT c205 (mh_lbT (mh_eadd t209) (mh_lbT t211 (mh_lbS t212 (mh_lb2T E_s217 (mh_lb2T E_s222 (mh_lbT t226 (mh_ifF c227 (mh_lbS t228 (mh_lbS E_s231 rfl))))))))))))))) (by have := congrArg Int32.toInt t115; have := congrArg Int32.toInt t117; have := congrArg Int32.toInt t121; have := congrArg Int32.toInt t123; have := congrArg Int32.toInt t194; have := congrArg Int32.toInt t196; have := congrArg Int32.toInt t214; have := congrArg Int32.toInt t215; have := congrArg Int32.toInt t219; have := congrArg Int32.toInt t220; have := congrArg Int32.toInt t224; have := congrArg Int32.toInt t226; have := congrArg Int32.toInt t233; have := congrArg Int32.toInt t234; have := (r_x216).1; have := (r_x216).2; have := (r_p1).1; have := (r_p1).2; have := (r_x114).1; have := (r_x114).2; have := (r_x116).1; have := (r_x116).2; have := (r_x122).1; have := (r_x122).2; have := (r_x193).1; have := (r_x193).2; have := (r_x195).1; have := (r_x195).2; have := (r_x208).1; have := (r_x208).2; have := (r_x225).1; have := (r_x225).2; have := (rc_1).1; have := (rc_1).2; have := kc_0; have := kc_1; have := kc_38; omega))
            · skip
              have r_x221 : mh_r x221 (0) (0) := mh_eq1 (show x221.toInt = (0 : Int32).toInt from c227) r_x221 rc_0 (0) (0) (by decide)
              refine mw_iconst (v := 0) 59 rfl dX4_readPart_58 (by decide) ?_
              refine mw_zret dX4_readPart_59 rfl (mh_r_wk rc_0 (by decide)) ⟨(0), rfl, ⟨(mh_r_wk rc_0 (by decide)), (Eq.trans hE1 (mh_lbT t194 (mh_lbT t196 (mh_ifT c201 (mh_lbS E_s203 (mh_ifT c205 (mh_lbT (mh_eadd t209) (mh_lbT t211 (mh_lbS t212 (mh_lb2T E_s217 (mh_lb2T E_s222 (mh_lbT t226 (mh_ifT c227 rfl))))))))))))), ?_, hI_s222, hF_s222⟩⟩
              · skip
                have := congrArg Int32.toInt t115
                have := congrArg Int32.toInt t117
                have := congrArg Int32.toInt t121
                have := congrArg Int32.toInt t123
                have := congrArg Int32.toInt t194
                have := congrArg Int32.toInt t196
                have := congrArg Int32.toInt t214
                have := congrArg Int32.toInt t215
                have := congrArg Int32.toInt t219
                have := congrArg Int32.toInt t220
                have := congrArg Int32.toInt t224
                have := congrArg Int32.toInt t226
                have := (r_x216).1; have := (r_x216).2
                have := (r_p1).1; have := (r_p1).2
                have := (rc_0).1; have := (rc_0).2
                have := (r_x114).1; have := (r_x114).2
                have := (r_x116).1; have := (r_x116).2
                have := (r_x122).1; have := (r_x122).2
                have := (r_x193).1; have := (r_x193).2
                have := (r_x195).1; have := (r_x195).2
                have := (r_x208).1; have := (r_x208).2
                have := (r_x225).1; have := (r_x225).2
                have := (rc_1).1; have := (rc_1).2
                have := kc_0
                have := kc_1
                have := kc_38
                omega
    exact mw_lv [0, 1] rfl (L10 222 s119 hI_s119 hF_s119 (by
        have := congrArg Int32.toInt t115
        have := congrArg Int32.toInt t117
        have := congrArg Int32.toInt t121
        have := congrArg Int32.toInt t123
        have := (r_p1).1; have := (r_p1).2
        have := (r_x114).1; have := (r_x114).2
        have := (r_x116).1; have := (r_x116).2
        have := (r_x122).1; have := (r_x122).2
        have := kc_0
        have := kc_1
        have := kc_38
        omega) (mh_lbT t115 (mh_lbT t117 (mh_lb2T E_s119 (mh_lbT t123 (mh_ifF c124 rfl))))) (by have := (rd_56_3 hI_s119).1; omega))
  · skip
    have r_x118 : mh_r x118 (0) (0) := mh_eq1 (show x118.toInt = (0 : Int32).toInt from c124) r_x118 rc_0 (0) (0) (by decide)
    refine mw_iconst (v := 0) 9 rfl dX4_readPart_8 (by decide) ?_
    refine mw_zret dX4_readPart_9 rfl (mh_r_wk rc_0 (by decide)) ⟨(0), rfl, ⟨(mh_r_wk rc_0 (by decide)), (mh_lbT t115 (mh_lbT t117 (mh_lb2T E_s119 (mh_lbT t123 (mh_ifT c124 rfl))))), ?_, hI_s119, hF_s119⟩⟩
    · skip
      have := congrArg Int32.toInt t115
      have := congrArg Int32.toInt t117
      have := congrArg Int32.toInt t121
      have := congrArg Int32.toInt t123
      have := (r_p1).1; have := (r_p1).2
      have := (rc_0).1; have := (rc_0).2
      have := (r_x114).1; have := (r_x114).2
      have := (r_x116).1; have := (r_x116).2
      have := (r_x122).1; have := (r_x122).2
      have := kc_0
      have := kc_1
      have := kc_38
      omega

def ls_eX4_readChoice_10_1 (rc : mh_Rc) (p1 : Int32) (lo_10_1 : mh_H → Int32 × mh_H) (s156 : mh_H) : Int32 × mh_H := mh_lb (s156.1 56 2) (fun x193 => mh_lb (s156.1 56 3) (fun x195 => if x195.toInt < x193.toInt then mh_lb (f_eX4_sign s156) (fun x202 => if x202.toInt = (124 : Int32).toInt then mh_lb (x195 + (1 : Int32)) (fun x208 => mh_lb (mh_pI s156 56 3 x208) (fun s210 => mh_lb (s210.2.2 56 1) (fun k213 => mh_lb2 (f_eX1_putJump s210 k213 (124 : Int32)) (fun x216 s217 => mh_lb2 (f_eX4_readPart rc s217 p1) (fun x221 s222 => mh_lb (s222.1 56 3) (fun x225 => if x221.toInt = 0 then ((0 : Int32), s222) else mh_lb (s222.2.2 56 1) (fun k229 => mh_lb (f_eX1_land s222 k229 x216) (fun s231 => (lo_10_1 s231))))))))) else ((1 : Int32), s156)) else ((1 : Int32), s156)))
def l_eX4_readChoice_10_1 (rc : mh_Rc) (p1 : Int32) : Nat → mh_H → Int32 × mh_H
  | 0 => fun s156 => (0, s156)
  | n + 1 => ls_eX4_readChoice_10_1 rc p1 (l_eX4_readChoice_10_1 rc p1 n)
theorem l_eX4_readChoice_10_1_s (rc : mh_Rc) (p1 : Int32) (n : Nat) : l_eX4_readChoice_10_1 rc p1 (n + 1) = ls_eX4_readChoice_10_1 rc p1 (l_eX4_readChoice_10_1 rc p1 n) := rfl
def f_eX4_readChoice (rc : mh_Rc) (s0 : mh_H) (p1 : Int32) : Int32 × mh_H := mh_lb (s0.1 56 2) (fun x114 => mh_lb (s0.1 56 3) (fun x116 => mh_lb2 (f_eX4_readPart rc s0 p1) (fun x118 s119 => mh_lb (s119.1 56 3) (fun x122 => if x118.toInt = 0 then ((0 : Int32), s119) else (l_eX4_readChoice_10_1 rc p1 222 s119)))))
set_option maxRecDepth 100000 in
set_option maxHeartbeats 4000000 in
theorem w_eX4_readChoice (l : Launch) (G : mh_G) (d : Nat) {B D : Int} (hB : B ≤ 1700000000 ∧ D ≤ 1700000000) {s0 : mh_H} (hI0 : mh_I B D s0) (p1 : Int32) (r_p1 : mh_r p1 (0) (6)) (H : Nat) (rc : mh_Rc) (ih : p1.toInt < 6 → mh_RBe l G H (p1.toInt + 1) rc) : mh_Mi l G (d + (H + 10)) mM_X4_readChoice [.ref (G.2.2.2 56), .int p1] s0 (P_eX4_rd B D s0 (f_eX4_readChoice rc s0 p1)) := by
  refine mh_enter (lv := [(0, .ref (G.2.2.2 56)), (1, .int p1)]) (by decide) rfl (Nat.le_of_ble_eq_true rfl) ?_
  have hF0 : mh_F S_eX4_rd s0 s0 := mh_F_rf
  obtain ⟨x114, t115⟩ : ∃ z : Int32, z = s0.1 56 2 := ⟨_, rfl⟩
  have r_x114 : mh_r x114 0 220 := by rw [t115]; exact rd_56_2 hI0
  obtain ⟨x116, t117⟩ : ∃ z : Int32, z = s0.1 56 3 := ⟨_, rfl⟩
  have r_x116 : mh_r x116 0 220 := by rw [t117]; exact rd_56_3 hI0
  refine mw_aload_n 1 rfl 0 dX4_readChoice_0 rfl rfl ?_
  refine mw_iload_n 2 rfl 1 dX4_readChoice_1 rfl rfl ?_
  refine mw_callVi [.int p1] [] 5 rfl dX4_readChoice_2 ml_X4_79 mc_X4_readPart mk_X4_readPart rfl rfl (by decide) (w_eX4_readPart l G (d + 0) hB hI0 p1 r_p1 H rc ih) rfl rfl (Nat.le_of_ble_eq_true rfl) (mh_rok (by omega) (by decide)) (fun x118 s119 q120 => ?_)
  obtain ⟨r_x118, E_s119, e0_s119, hI_s119, hG_s119⟩ := q120
  have hF_s119 : mh_F S_eX4_rd s0 s119 := mh_F_tl hF0 hG_s119 (by decide +kernel)
  have t121 : x114 = s119.1 56 2 := (t115).trans (hG_s119 56 2 (mh_nsI (by rfl))).1.symm
  obtain ⟨x122, t123⟩ : ∃ z : Int32, z = s119.1 56 3 := ⟨_, rfl⟩
  have r_x122 : mh_r x122 0 220 := by rw [t123]; exact rd_56_3 hI_s119
  refine mw_if_ne 8 rfl 10 dX4_readChoice_5 (by decide) (fun c124 => ?_) (fun c124 => ?_)
  · skip
    have r_x118 : mh_r x118 (1) (1) := mh_ne1 (show x118.toInt ≠ (0 : Int32).toInt from c124) r_x118 rc_0 (1) (1) (by decide)
    have L10 : ∀ n1 : Nat, ∀  (s156 : mh_H), mh_I B D s156 → mh_F S_eX4_rd s0 s156 → ((s0.1 56 3).toInt ≤ (s156.1 56 3).toInt) → (f_eX4_readChoice rc s0 p1 = l_eX4_readChoice_10_1 rc p1 n1 s156) → 220 - (s156.1 56 3).toInt < (n1 : Int) → mh_W G (mh_XM l G (d + (H + 10)) (mh_Qi (P_eX4_rd B D s0 (f_eX4_readChoice rc s0 p1)))) mM_X4_readChoice 10 [(0, .ref (G.2.2.2 56)), (1, .int p1)] [] s156 := by
      intro n1
      induction n1 with
      | zero =>
        intro s156 hI_s156 hF_s156 iv hE1 hmn1
        exact absurd hmn1 (by have := (rd_56_3 hI_s156).2; omega)
      | succ n1 ihn1 =>
        intro s156 hI_s156 hF_s156 iv hE1 hmn1
        rw [l_eX4_readChoice_10_1_s] at hE1
        obtain ⟨x193, t194⟩ : ∃ z : Int32, z = s156.1 56 2 := ⟨_, rfl⟩
        have r_x193 : mh_r x193 0 220 := by rw [t194]; exact rd_56_2 hI_s156
        obtain ⟨x195, t196⟩ : ∃ z : Int32, z = s156.1 56 3 := ⟨_, rfl⟩
        have r_x195 : mh_r x195 0 220 := by rw [t196]; exact rd_56_3 hI_s156
        refine mw_aload_n 11 rfl 0 dX4_readChoice_10 rfl rfl ?_
        refine mw_geti 14 rfl dX4_readChoice_11 gf_X4_15 rfl (fun x197 t198 => ?_)
        obtain rfl : x195 = x197 := t196.trans t198.symm
        refine mw_aload_n 15 rfl 0 dX4_readChoice_14 rfl rfl ?_
        refine mw_geti 18 rfl dX4_readChoice_15 gf_X4_9 rfl (fun x199 t200 => ?_)
        obtain rfl : x193 = x199 := t194.trans t200.symm
        refine mw_icmp_ge 21 rfl 71 dX4_readChoice_18 (by decide) (fun c201 => ?_) (fun c201 => ?_)
        · skip
          refine mw_iconst (v := 1) 72 rfl dX4_readChoice_71 (by decide) ?_
          refine mw_zret dX4_readChoice_72 rfl (mh_r_wk rc_1 (by decide)) ⟨(1), rfl, ⟨(mh_r_wk rc_1 (by decide)), (Eq.trans hE1 (mh_lbT t194 (mh_lbT t196 (mh_ifF (Int.not_lt.mpr c201) rfl)))), ?_, hI_s156, hF_s156⟩⟩
          · skip
            have := congrArg Int32.toInt t115
            have := congrArg Int32.toInt t117
            have := congrArg Int32.toInt t121
            have := congrArg Int32.toInt t123
            have := congrArg Int32.toInt t194
            have := congrArg Int32.toInt t196
            have := (r_p1).1; have := (r_p1).2
            have := (rc_1).1; have := (rc_1).2
            have := (r_x114).1; have := (r_x114).2
            have := (r_x116).1; have := (r_x116).2
            have := (r_x122).1; have := (r_x122).2
            have := (r_x193).1; have := (r_x193).2
            have := (r_x195).1; have := (r_x195).2
            have := kc_0
            have := kc_1
            have := kc_124
            omega
        · skip
          have r_x195 : mh_r x195 (0) (219) := mh_lt1 c201 r_x195 r_x193 (219) (by decide)
          have r_x193 : mh_r x193 (1) (220) := mh_lt2 c201 r_x195 r_x193 (1) (by decide)
          refine mw_aload_n 22 rfl 0 dX4_readChoice_21 rfl rfl ?_
          refine mw_callVi [] [] 25 rfl dX4_readChoice_22 ml_X4_51 mc_X4_sign mk_X4_sign rfl rfl (by decide) (w_eX4_sign l G (d + H + 9) ⟨by omega, by omega⟩ hI_s156) rfl rfl (Nat.le_of_ble_eq_true rfl) (mh_rok (by omega) (by decide)) (fun x202 s203 q204 => ?_)
          obtain ⟨r_x202, E_s203, e0_s203, rfl⟩ := q204
          have hq_x202 : 0 ≤ x202.toInt → x195.toInt < x193.toInt := by have h9 := e0_s203; rw [← t196, ← t194] at h9; exact h9
          refine mw_bipush (v := 124) 27 rfl dX4_readChoice_25 (by decide) ?_
          refine mw_icmp_ne 30 rfl 71 dX4_readChoice_27 (by decide) (fun c205 => ?_) (fun c205 => ?_)
          · skip
            refine mw_iconst (v := 1) 72 rfl dX4_readChoice_71 (by decide) ?_
            refine mw_zret dX4_readChoice_72 rfl (mh_r_wk rc_1 (by decide)) ⟨(1), rfl, ⟨(mh_r_wk rc_1 (by decide)), (Eq.trans hE1 (mh_lbT t194 (mh_lbT t196 (mh_ifT c201 (mh_lbS E_s203 (mh_ifF c205 rfl)))))), ?_, hI_s156, hF_s156⟩⟩
            · skip
              have := congrArg Int32.toInt t115
              have := congrArg Int32.toInt t117
              have := congrArg Int32.toInt t121
              have := congrArg Int32.toInt t123
              have := congrArg Int32.toInt t194
              have := congrArg Int32.toInt t196
              have := (r_p1).1; have := (r_p1).2
              have := (rc_1).1; have := (rc_1).2
              have := (r_x114).1; have := (r_x114).2
              have := (r_x116).1; have := (r_x116).2
              have := (r_x122).1; have := (r_x122).2
              have := (r_x193).1; have := (r_x193).2
              have := (r_x195).1; have := (r_x195).2
              have := kc_0
              have := kc_1
              have := kc_124
              omega
          · skip
            have r_x202 : mh_r x202 (124) (124) := mh_eq1 c205 r_x202 rc_124 (124) (124) (by decide)
            refine mw_aload_n 31 rfl 0 dX4_readChoice_30 rfl rfl ?_
            refine mw_dup 32 rfl dX4_readChoice_31 rfl ?_
            refine mw_geti 35 rfl dX4_readChoice_32 gf_X4_15 rfl (fun x206 t207 => ?_)
            obtain rfl : x195 = x206 := t196.trans t207.symm
            refine mw_iconst (v := 1) 36 rfl dX4_readChoice_35 (by decide) ?_
            refine mw_iadd 37 rfl (1) (220) dX4_readChoice_36 r_x195 rc_1 (by decide) (fun x208 t209 r_x208 => ?_)
            refine mw_puti 40 rfl dX4_readChoice_37 pf_X4_15 rfl (fun s210 t211 => ?_)
            have hI_s210 : mh_I B D s210 := by rw [t211]; exact wr_56_3 hI_s156 (mh_r_wk r_x208 (by decide))
            have hF_s210 : mh_F S_eX4_rd s0 s210 := by rw [t211]; exact mh_F_pI hF_s156 (mh_sj 0 rfl)
            refine mw_aload_n 41 rfl 0 dX4_readChoice_40 rfl rfl ?_
            obtain ⟨k213, t212⟩ : ∃ y : Nat, s210.2.2 56 1 = y := ⟨_, rfl⟩
            have hk213 : mh_isL k213 := by rw [← t212]; exact hI_s210.2.1.2.2.2
            refine mw_geta 44 rfl dX4_readChoice_41 gf_X4_25 rfl k213 t212 ?_
            refine mw_bipush (v := 124) 46 rfl dX4_readChoice_44 (by decide) ?_
            have t214 : x193 = s210.1 56 2 := by rw [t211]; exact (t194).trans (mh_pI_n (by omega)).symm
            have t215 : x208 = s210.1 56 3 := by rw [t211]; exact mh_pI_s.symm
            refine mw_callVi [.int (124)] [] 49 rfl dX4_readChoice_46 ml_X4_82 mc_X1_putJump mk_X1_putJump (ly_L hk213) rfl (by decide) (w_eX1_putJump l G (d + H + 8) ⟨by omega, by omega⟩ hI_s210 k213 hk213 (124)) rfl rfl (Nat.le_of_ble_eq_true rfl) (mh_rok (by omega) (by decide)) (fun x216 s217 q218 => ?_)
            obtain ⟨r_x216, E_s217, hI_s217, hG_s217⟩ := q218
            have hF_s217 : mh_F S_eX4_rd s0 s217 := mh_F_tl hF_s210 hG_s217 (by rcases hk213 with rfl | rfl <;> decide +kernel)
            have t219 : x193 = s217.1 56 2 := (t214).trans (hG_s217 56 2 (mh_nsI (by rcases hk213 with rfl | rfl <;> rfl))).1.symm
            have t220 : x208 = s217.1 56 3 := (t215).trans (hG_s217 56 3 (mh_nsI (by rcases hk213 with rfl | rfl <;> rfl))).1.symm
            refine mw_istore_n 50 rfl [(2, .int x216), (0, .ref (G.2.2.2 56)), (1, .int p1)] dX4_readChoice_49 rfl (by decide) rfl ?_
            refine mw_aload_n 51 rfl 1 dX4_readChoice_50 rfl rfl ?_
            refine mw_iload_n 52 rfl 2 dX4_readChoice_51 rfl rfl ?_
            refine mw_callVi [.int p1] [] 55 rfl dX4_readChoice_52 ml_X4_79 mc_X4_readPart mk_X4_readPart rfl rfl (by decide) (w_eX4_readPart l G (d + 0) hB hI_s217 p1 r_p1 H rc ih) rfl rfl (Nat.le_of_ble_eq_true rfl) (mh_rok (by omega) (by decide)) (fun x221 s222 q223 => ?_)
            obtain ⟨r_x221, E_s222, e0_s222, hI_s222, hG_s222⟩ := q223
            have hF_s222 : mh_F S_eX4_rd s0 s222 := mh_F_tl hF_s217 hG_s222 (by decide +kernel)
            have t224 : x193 = s222.1 56 2 := (t219).trans (hG_s222 56 2 (mh_nsI (by rfl))).1.symm
            obtain ⟨x225, t226⟩ : ∃ z : Int32, z = s222.1 56 3 := ⟨_, rfl⟩
            have r_x225 : mh_r x225 0 220 := by rw [t226]; exact rd_56_3 hI_s222
            refine mw_if_ne 58 rfl 60 dX4_readChoice_55 (by decide) (fun c227 => ?_) (fun c227 => ?_)
            · skip
              have r_x221 : mh_r x221 (1) (1) := mh_ne1 (show x221.toInt ≠ (0 : Int32).toInt from c227) r_x221 rc_0 (1) (1) (by decide)
              refine mw_aload_n 61 rfl 1 dX4_readChoice_60 rfl rfl ?_
              obtain ⟨k229, t228⟩ : ∃ y : Nat, s222.2.2 56 1 = y := ⟨_, rfl⟩
              have hk229 : mh_isL k229 := by rw [← t228]; exact hI_s222.2.1.2.2.2
              refine mw_geta 64 rfl dX4_readChoice_61 gf_X4_25 rfl k229 t228 ?_
              refine mw_iload_n 65 rfl 0 dX4_readChoice_64 rfl rfl ?_
              refine mw_callVv [.int x216] [] 68 rfl dX4_readChoice_65 ml_X4_85 mc_X1_land mk_X1_land (ly_L hk229) rfl (by decide) (w_eX1_land l G (d + H + 8) ⟨by omega, by omega⟩ hI_s222 k229 hk229 x216) rfl rfl (Nat.le_of_ble_eq_true rfl) (mh_rok (by omega) (by decide)) (fun s231 q232 => ?_)
              obtain ⟨E_s231, hI_s231, hG_s231⟩ := q232
              have hF_s231 : mh_F S_eX4_rd s0 s231 := mh_F_tl hF_s222 hG_s231 (by rcases hk229 with rfl | rfl <;> decide +kernel)
              have t233 : x193 = s231.1 56 2 := (t224).trans (hG_s231 56 2 (mh_nsI (by rcases hk229 with rfl | rfl <;> rfl))).1.symm
              have t234 : x225 = s231.1 56 3 := (t226).trans (hG_s231 56 3 (mh_nsI (by rcases hk229 with rfl | rfl <;> rfl))).1.symm
              refine mw_goto 71 rfl 10 dX4_readChoice_68 (by decide) ?_
              exact mw_lv [1, 2] rfl (ihn1 s231 hI_s231 hF_s231 (by
                  have := congrArg Int32.toInt t115
                  have := congrArg Int32.toInt t117
                  have := congrArg Int32.toInt t121
                  have := congrArg Int32.toInt t123
                  have := congrArg Int32.toInt t194
                  have := congrArg Int32.toInt t196
                  have := congrArg Int32.toInt t214
                  have := congrArg Int32.toInt t215
                  have := congrArg Int32.toInt t219
                  have := congrArg Int32.toInt t220
                  have := congrArg Int32.toInt t224
                  have := congrArg Int32.toInt t226
                  have := congrArg Int32.toInt t233
                  have := congrArg Int32.toInt t234
                  have := (r_x216).1; have := (r_x216).2
                  have := (r_p1).1; have := (r_p1).2
                  have := (r_x114).1; have := (r_x114).2
                  have := (r_x116).1; have := (r_x116).2
                  have := (r_x122).1; have := (r_x122).2
                  have := (r_x193).1; have := (r_x193).2
                  have := (r_x195).1; have := (r_x195).2
                  have := (r_x208).1; have := (r_x208).2
                  have := (r_x225).1; have := (r_x225).2
                  have := (rc_1).1; have := (rc_1).2
                  have := kc_0
                  have := kc_1
                  have := kc_124
                  omega) (Eq.trans hE1 (mh_lbT t194 (mh_lbT t196 (mh_ifT c201 (mh_lbS E_s203 (mh_ifT c205 (mh_lbT (mh_eadd t209) (mh_lbT t211 (mh_lbS t212 (mh_lb2T E_s217 (mh_lb2T E_s222 (mh_lbT t226 (mh_ifF c227 (mh_lbS t228 (mh_lbS E_s231 rfl))))))))))))))) (by have := congrArg Int32.toInt t115; have := congrArg Int32.toInt t117; have := congrArg Int32.toInt t121; have := congrArg Int32.toInt t123; have := congrArg Int32.toInt t194; have := congrArg Int32.toInt t196; have := congrArg Int32.toInt t214; have := congrArg Int32.toInt t215; have := congrArg Int32.toInt t219; have := congrArg Int32.toInt t220; have := congrArg Int32.toInt t224; have := congrArg Int32.toInt t226; have := congrArg Int32.toInt t233; have := congrArg Int32.toInt t234; have := (r_x216).1; have := (r_x216).2; have := (r_p1).1; have := (r_p1).2; have := (r_x114).1; have := (r_x114).2; have := (r_x116).1; have := (r_x116).2; have := (r_x122).1; have := (r_x122).2; have := (r_x193).1; have := (r_x193).2; have := (r_x195).1; have := (r_x195).2; have := (r_x208).1; have := (r_x208).2; have := (r_x225).1; have := (r_x225).2; have := (rc_1).1; have := (rc_1).2; have := kc_0; have := kc_1; have := kc_124; omega))
            · skip
              have r_x221 : mh_r x221 (0) (0) := mh_eq1 (show x221.toInt = (0 : Int32).toInt from c227) r_x221 rc_0 (0) (0) (by decide)
              refine mw_iconst (v := 0) 59 rfl dX4_readChoice_58 (by decide) ?_
              refine mw_zret dX4_readChoice_59 rfl (mh_r_wk rc_0 (by decide)) ⟨(0), rfl, ⟨(mh_r_wk rc_0 (by decide)), (Eq.trans hE1 (mh_lbT t194 (mh_lbT t196 (mh_ifT c201 (mh_lbS E_s203 (mh_ifT c205 (mh_lbT (mh_eadd t209) (mh_lbT t211 (mh_lbS t212 (mh_lb2T E_s217 (mh_lb2T E_s222 (mh_lbT t226 (mh_ifT c227 rfl))))))))))))), ?_, hI_s222, hF_s222⟩⟩
              · skip
                have := congrArg Int32.toInt t115
                have := congrArg Int32.toInt t117
                have := congrArg Int32.toInt t121
                have := congrArg Int32.toInt t123
                have := congrArg Int32.toInt t194
                have := congrArg Int32.toInt t196
                have := congrArg Int32.toInt t214
                have := congrArg Int32.toInt t215
                have := congrArg Int32.toInt t219
                have := congrArg Int32.toInt t220
                have := congrArg Int32.toInt t224
                have := congrArg Int32.toInt t226
                have := (r_x216).1; have := (r_x216).2
                have := (r_p1).1; have := (r_p1).2
                have := (rc_0).1; have := (rc_0).2
                have := (r_x114).1; have := (r_x114).2
                have := (r_x116).1; have := (r_x116).2
                have := (r_x122).1; have := (r_x122).2
                have := (r_x193).1; have := (r_x193).2
                have := (r_x195).1; have := (r_x195).2
                have := (r_x208).1; have := (r_x208).2
                have := (r_x225).1; have := (r_x225).2
                have := (rc_1).1; have := (rc_1).2
                have := kc_0
                have := kc_1
                have := kc_124
                omega
    exact mw_lv [0, 1] rfl (L10 222 s119 hI_s119 hF_s119 (by
        have := congrArg Int32.toInt t115
        have := congrArg Int32.toInt t117
        have := congrArg Int32.toInt t121
        have := congrArg Int32.toInt t123
        have := (r_p1).1; have := (r_p1).2
        have := (r_x114).1; have := (r_x114).2
        have := (r_x116).1; have := (r_x116).2
        have := (r_x122).1; have := (r_x122).2
        have := kc_0
        have := kc_1
        have := kc_124
        omega) (mh_lbT t115 (mh_lbT t117 (mh_lb2T E_s119 (mh_lbT t123 (mh_ifF c124 rfl))))) (by have := (rd_56_3 hI_s119).1; omega))
  · skip
    have r_x118 : mh_r x118 (0) (0) := mh_eq1 (show x118.toInt = (0 : Int32).toInt from c124) r_x118 rc_0 (0) (0) (by decide)
    refine mw_iconst (v := 0) 9 rfl dX4_readChoice_8 (by decide) ?_
    refine mw_zret dX4_readChoice_9 rfl (mh_r_wk rc_0 (by decide)) ⟨(0), rfl, ⟨(mh_r_wk rc_0 (by decide)), (mh_lbT t115 (mh_lbT t117 (mh_lb2T E_s119 (mh_lbT t123 (mh_ifT c124 rfl))))), ?_, hI_s119, hF_s119⟩⟩
    · skip
      have := congrArg Int32.toInt t115
      have := congrArg Int32.toInt t117
      have := congrArg Int32.toInt t121
      have := congrArg Int32.toInt t123
      have := (r_p1).1; have := (r_p1).2
      have := (rc_0).1; have := (rc_0).2
      have := (r_x114).1; have := (r_x114).2
      have := (r_x116).1; have := (r_x116).2
      have := (r_x122).1; have := (r_x122).2
      have := kc_0
      have := kc_1
      have := kc_124
      omega

def mh_rcN : Nat → mh_Rc
  | 0 => (fun s _ => (0, s), fun s _ => (0, s), fun s _ => (0, s))
  | n + 1 => (f_eX4_readSum (mh_rcN n), f_eX4_readChoice (mh_rcN n), f_eX4_readPiece (mh_rcN n))
theorem mh_rd_ste (l : Launch) (G : mh_G) (H : Nat) (o : Int) (rc : mh_Rc) (ho : 0 ≤ o ∧ o ≤ 6) (ih : o < 6 → mh_RBe l G H (o + 1) rc) : mh_RBe l G (H + 10) o (f_eX4_readSum rc, f_eX4_readChoice rc, f_eX4_readPiece rc) := by
  intro d
  refine ⟨?_, ?_, ?_⟩
  · intro B D hB s0 hI0 p1 hp
    have h := w_eX4_readSum l G (d + 4) hB hI0 p1 ⟨by omega, by omega⟩ H rc (fun q => by rw [hp]; exact ih (by omega))
    rw [show d + 4 + (H + 6) = d + (H + 10) by omega] at h
    exact h
  · intro B D hB s0 hI0 p1 hp
    have h := w_eX4_readChoice l G (d + 0) hB hI0 p1 ⟨by omega, by omega⟩ H rc (fun q => by rw [hp]; exact ih (by omega))
    rw [show d + 0 + (H + 10) = d + (H + 10) by omega] at h
    exact h
  · intro B D hB s0 hI0 p1 hp
    have h := w_eX4_readPiece l G (d + 2) hB hI0 p1 ⟨by omega, by omega⟩ H rc (fun q => by rw [hp]; exact ih (by omega))
    rw [show d + 2 + (H + 8) = d + (H + 10) by omega] at h
    exact h
theorem mh_rd6e (l : Launch) (G : mh_G) : mh_RBe l G 13 6 (mh_rcN 1) := mh_rd_ste l G 3 6 (mh_rcN 0) (by decide) (fun h => absurd h (by decide))
theorem mh_rd5e (l : Launch) (G : mh_G) : mh_RBe l G 23 5 (mh_rcN 2) := mh_rd_ste l G 13 5 (mh_rcN 1) (by decide) (fun _ => mh_rd6e l G)
theorem mh_rd4e (l : Launch) (G : mh_G) : mh_RBe l G 33 4 (mh_rcN 3) := mh_rd_ste l G 23 4 (mh_rcN 2) (by decide) (fun _ => mh_rd5e l G)
theorem mh_rd3e (l : Launch) (G : mh_G) : mh_RBe l G 43 3 (mh_rcN 4) := mh_rd_ste l G 33 3 (mh_rcN 3) (by decide) (fun _ => mh_rd4e l G)
theorem mh_rd2e (l : Launch) (G : mh_G) : mh_RBe l G 53 2 (mh_rcN 5) := mh_rd_ste l G 43 2 (mh_rcN 4) (by decide) (fun _ => mh_rd3e l G)
theorem mh_rd1e (l : Launch) (G : mh_G) : mh_RBe l G 63 1 (mh_rcN 6) := mh_rd_ste l G 53 1 (mh_rcN 5) (by decide) (fun _ => mh_rd2e l G)
theorem mh_rd0e (l : Launch) (G : mh_G) : mh_RBe l G 73 0 (mh_rcN 7) := mh_rd_ste l G 63 0 (mh_rcN 6) (by decide) (fun _ => mh_rd1e l G)

def S_eX4_readClause : List (Nat × Nat) := [(56, 4), (56, 3), (41, 9999), (49, 9999), (40, 8), (48, 8), (40, 10), (48, 10), (42, 9999), (50, 9999), (43, 9999), (51, 9999), (44, 9999), (52, 9999), (45, 9999), (53, 9999), (40, 7), (48, 7), (40, 9), (48, 9)]
def f_eX4_readClause (s0 : mh_H) : Int32 × mh_H := mh_lb (s0.1 56 2) (fun x72 => mh_lb (s0.1 56 3) (fun x74 => mh_lb (f_eX4_sign s0) (fun x76 => if x76.toInt < 0 then mh_lb2 (f_eX4_fail s0 (1 : Int32)) (fun x80 s81 => (x80, s81)) else mh_lb (UInt32.toInt32 (Int32.toUInt32 x76 % 65536)) (fun x85 => mh_lb (mh_ixf 1 x85) (fun x87 => if x87.toInt < 0 then mh_lb2 (f_eX4_fail s0 (1 : Int32)) (fun x152 s153 => (x152, s153)) else mh_lb (s0.2.2 56 1) (fun k92 => mh_lb (s0.1 k92 7) (fun x93 => if x93.toInt < (14 : Int32).toInt then mh_lb (x74 + (1 : Int32)) (fun x98 => mh_lb (mh_pI s0 56 3 x98) (fun s100 => mh_lb (s100.2.2 56 1) (fun k103 => mh_lb (s100.1 k103 8) (fun x104 => mh_lb2 ((mh_rcN 7).1 s100 (0 : Int32)) (fun x108 s109 => mh_lb (s109.1 56 3) (fun x112 => if x108.toInt = 0 then ((0 : Int32), s109) else mh_lb (s109.2.2 56 1) (fun k116 => mh_lb (s109.1 k116 8) (fun x117 => mh_lb2 (f_eX4_take s109 (40 : Int32)) (fun x119 s120 => mh_lb (s120.1 56 3) (fun x123 => if x119.toInt = 0 then ((0 : Int32), s120) else mh_lb2 ((mh_rcN 6).2.1 s120 (1 : Int32)) (fun x126 s127 => mh_lb (s127.1 56 3) (fun x130 => if x126.toInt = 0 then ((0 : Int32), s127) else mh_lb2 (f_eX4_take s127 (41 : Int32)) (fun x133 s134 => mh_lb (s134.1 56 3) (fun x137 => if x133.toInt = 0 then ((0 : Int32), s134) else mh_lb (s134.2.2 56 1) (fun k141 => mh_lb (f_eX1_addClause s134 k141 x76 x104 x117) (fun s143 => ((1 : Int32), s143))))))))))))))))) else mh_lb2 (f_eX4_fail s0 (4 : Int32)) (fun x147 s148 => (x147, s148)))))))))
def P_eX4_readClause (B D : Int) (s0 : mh_H) : Int32 → mh_H → Prop := fun z s => mh_r z (0) (1) ∧ f_eX4_readClause s0 = (z, s) ∧ ((s0.1 56 3).toInt ≤ (s.1 56 3).toInt) ∧ mh_I B D s ∧ mh_F S_eX4_readClause s0 s
set_option maxRecDepth 100000 in
set_option maxHeartbeats 4000000 in
theorem w_eX4_readClause (l : Launch) (G : mh_G) (d : Nat) {B D : Int} (hB : B ≤ 1700000000 ∧ D ≤ 1700000000) {s0 : mh_H} (hI0 : mh_I B D s0) : mh_Mi l G (d + 75) mM_X4_readClause [.ref (G.2.2.2 56)] s0 (P_eX4_readClause B D s0) := by
  refine mh_enter (lv := [(0, .ref (G.2.2.2 56))]) (by decide) rfl (Nat.le_of_ble_eq_true rfl) ?_
  have hF0 : mh_F S_eX4_readClause s0 s0 := mh_F_rf
  obtain ⟨x72, t73⟩ : ∃ z : Int32, z = s0.1 56 2 := ⟨_, rfl⟩
  have r_x72 : mh_r x72 0 220 := by rw [t73]; exact rd_56_2 hI0
  obtain ⟨x74, t75⟩ : ∃ z : Int32, z = s0.1 56 3 := ⟨_, rfl⟩
  have r_x74 : mh_r x74 0 220 := by rw [t75]; exact rd_56_3 hI0
  refine mw_aload_n 1 rfl 0 dX4_readClause_0 rfl rfl ?_
  refine mw_callVi [] [] 4 rfl dX4_readClause_1 ml_X4_51 mc_X4_sign mk_X4_sign rfl rfl (by decide) (w_eX4_sign l G (d + 74) ⟨by omega, by omega⟩ hI0) rfl rfl (Nat.le_of_ble_eq_true rfl) (mh_rok (by omega) (by decide)) (fun x76 s77 q78 => ?_)
  obtain ⟨r_x76, E_s77, e0_s77, rfl⟩ := q78
  have hq_x76 : 0 ≤ x76.toInt → x74.toInt < x72.toInt := by have h9 := e0_s77; rw [← t75, ← t73] at h9; exact h9
  refine mw_istore_n 5 rfl [(1, .int x76), (0, .ref (G.2.2.2 56))] dX4_readClause_4 rfl (by decide) rfl ?_
  refine mw_iload_n 6 rfl 0 dX4_readClause_5 rfl rfl ?_
  refine mw_if_lt 9 rfl 19 dX4_readClause_6 (by decide) (fun c79 => ?_) (fun c79 => ?_)
  · skip
    have r_x76 : mh_r x76 (-1) (-1) := mh_lt1 (show x76.toInt < (0 : Int32).toInt from c79) r_x76 rc_0 (-1) (by decide)
    refine mw_aload_n 20 rfl 1 dX4_readClause_19 rfl rfl ?_
    refine mw_iconst (v := 1) 21 rfl dX4_readClause_20 (by decide) ?_
    refine mw_callVi [.int (1)] [] 24 rfl dX4_readClause_21 ml_X4_55 mc_X4_fail mk_X4_fail rfl rfl (by decide) (w_eX4_fail l G (d + 74) ⟨by omega, by omega⟩ hI0 (1)) rfl rfl (Nat.le_of_ble_eq_true rfl) (mh_rok (by omega) (by decide)) (fun x80 s81 q82 => ?_)
    obtain ⟨r_x80, E_s81, hI_s81, hG_s81⟩ := q82
    have hF_s81 : mh_F S_eX4_readClause s0 s81 := mh_F_tl hF0 hG_s81 (by decide +kernel)
    have t83 : x72 = s81.1 56 2 := (t73).trans (hG_s81 56 2 (mh_nsI (by rfl))).1.symm
    have t84 : x74 = s81.1 56 3 := (t75).trans (hG_s81 56 3 (mh_nsI (by rfl))).1.symm
    refine mw_zret dX4_readClause_24 rfl (mh_r_wk r_x80 (by decide)) ⟨x80, rfl, ⟨(mh_r_wk r_x80 (by decide)), (mh_lbT t73 (mh_lbT t75 (mh_lbS E_s77 (mh_ifT c79 (mh_lb2T E_s81 rfl))))), ?_, hI_s81, hF_s81⟩⟩
    · skip
      have := congrArg Int32.toInt t73
      have := congrArg Int32.toInt t75
      have := congrArg Int32.toInt t83
      have := congrArg Int32.toInt t84
      have := (r_x76).1; have := (r_x76).2
      have := (r_x80).1; have := (r_x80).2
      have := (r_x72).1; have := (r_x72).2
      have := (r_x74).1; have := (r_x74).2
      have := kc_0
      have := kc_1
      have := kc_4
      have := kc_14
      have := kc_40
      have := kc_41
      omega
  · skip
    have r_x76 : mh_r x76 (0) (255) := mh_le2 (show (0 : Int32).toInt ≤ x76.toInt from c79) rc_0 r_x76 (0) (by decide)
    refine mw_ldcS (k := 1001) (tx := "cwsmyf") 11 rfl dX4_readClause_9 (fun _ _ _ h => h.2.2.1) ?_
    refine mw_iload_n 12 rfl 0 dX4_readClause_11 rfl rfl ?_
    refine mw_i2c 13 rfl dX4_readClause_12 (fun x85 t86 => ?_)
    have r_x85 : mh_r x85 (0) (65535) := by rw [t86]; exact mh_i2c
    refine mw_callKi (i := 1) (by decide) [.int x85] [] 16 rfl dX4_readClause_13 ml_X4_60 mc_J0_indexOf_0f7a4 mk_J0_indexOf_0f7a4 rfl (c_indexOfE l G (d + 71) 1 (by decide) s0 x85) rfl rfl (Nat.le_of_ble_eq_true rfl) (mh_rok (by omega) (by decide)) (fun x87 s88 q89 => ?_)
    obtain ⟨E_s88, rfl⟩ := q89
    refine mw_if_ge 19 rfl 25 dX4_readClause_16 (by decide) (fun c90 => ?_) (fun c90 => ?_)
    · skip
      have r_x87 : mh_r x87 (0) (2147483647) := mh_le2 (show (0 : Int32).toInt ≤ x87.toInt from c90) rc_0 (mh_r_full x87) (0) (by decide)
      refine mw_aload_n 26 rfl 1 dX4_readClause_25 rfl rfl ?_
      obtain ⟨k92, t91⟩ : ∃ y : Nat, s0.2.2 56 1 = y := ⟨_, rfl⟩
      have hk92 : mh_isL k92 := by rw [← t91]; exact hI0.2.1.2.2.2
      refine mw_geta 29 rfl dX4_readClause_26 gf_X4_25 rfl k92 t91 ?_
      refine mw_geti 32 rfl dX4_readClause_29 gf_X4_44 (ly_L hk92) (fun x93 t94 => ?_)
      have r_x93 : mh_r x93 (0) (14) := by rw [t94]; exact rd_L_7 hI0 hk92
      refine mw_bipush (v := 14) 34 rfl dX4_readClause_32 (by decide) ?_
      refine mw_icmp_lt 37 rfl 43 dX4_readClause_34 (by decide) (fun c95 => ?_) (fun c95 => ?_)
      · skip
        have r_x93 : mh_r x93 (0) (13) := mh_lt1 c95 r_x93 rc_14 (13) (by decide)
        refine mw_aload_n 44 rfl 1 dX4_readClause_43 rfl rfl ?_
        refine mw_dup 45 rfl dX4_readClause_44 rfl ?_
        refine mw_geti 48 rfl dX4_readClause_45 gf_X4_15 rfl (fun x96 t97 => ?_)
        obtain rfl : x74 = x96 := t75.trans t97.symm
        have r_x74 : mh_r x74 (0) (219) := ⟨(r_x74).1, by have := congrArg Int32.toInt t73; have := congrArg Int32.toInt t75; have := (r_x76).1; have := (r_x76).2; have := (r_x74).1; have := (r_x74).2; have := (r_x72).1; have := (r_x72).2; have := (r_x93).1; have := (r_x93).2; have := kc_0; have := kc_1; have := kc_4; have := kc_14; have := kc_40; have := kc_41; omega⟩
        refine mw_iconst (v := 1) 49 rfl dX4_readClause_48 (by decide) ?_
        refine mw_iadd 50 rfl (1) (220) dX4_readClause_49 r_x74 rc_1 (by decide) (fun x98 t99 r_x98 => ?_)
        refine mw_puti 53 rfl dX4_readClause_50 pf_X4_15 rfl (fun s100 t101 => ?_)
        have hI_s100 : mh_I B D s100 := by rw [t101]; exact wr_56_3 hI0 (mh_r_wk r_x98 (by decide))
        have hF_s100 : mh_F S_eX4_readClause s0 s100 := by rw [t101]; exact mh_F_pI hF0 (mh_sj 1 rfl)
        refine mw_aload_n 54 rfl 1 dX4_readClause_53 rfl rfl ?_
        obtain ⟨k103, t102⟩ : ∃ y : Nat, s100.2.2 56 1 = y := ⟨_, rfl⟩
        have hk103 : mh_isL k103 := by rw [← t102]; exact hI_s100.2.1.2.2.2
        refine mw_geta 57 rfl dX4_readClause_54 gf_X4_25 rfl k103 t102 ?_
        refine mw_geti 60 rfl dX4_readClause_57 gf_X4_66 (ly_L hk103) (fun x104 t105 => ?_)
        have r_x104 : mh_r x104 (0) (400) := by rw [t105]; exact rd_L_8 hI_s100 hk103
        refine mw_istore_n 61 rfl [(2, .int x104), (1, .int x76), (0, .ref (G.2.2.2 56))] dX4_readClause_60 rfl (by decide) rfl ?_
        refine mw_aload_n 62 rfl 2 dX4_readClause_61 rfl rfl ?_
        refine mw_iconst (v := 0) 63 rfl dX4_readClause_62 (by decide) ?_
        have t106 : x72 = s100.1 56 2 := by rw [t101]; exact (t73).trans (mh_pI_n (by omega)).symm
        have t107 : x98 = s100.1 56 3 := by rw [t101]; exact mh_pI_s.symm
        refine mw_callVi [.int (0)] [] 66 rfl dX4_readClause_63 ml_X4_69 mc_X4_readSum mk_X4_readSum rfl rfl (by decide) ((mh_rd0e l G (d + 1)).1 ⟨by omega, by omega⟩ hI_s100 (0) (by decide)) rfl rfl (Nat.le_of_ble_eq_true rfl) (mh_rok (by omega) (by decide)) (fun x108 s109 q110 => ?_)
        obtain ⟨r_x108, E_s109, e0_s109, hI_s109, hG_s109⟩ := q110
        have hF_s109 : mh_F S_eX4_readClause s0 s109 := mh_F_tl hF_s100 hG_s109 (by decide +kernel)
        have t111 : x72 = s109.1 56 2 := (t106).trans (hG_s109 56 2 (mh_nsI (by rfl))).1.symm
        obtain ⟨x112, t113⟩ : ∃ z : Int32, z = s109.1 56 3 := ⟨_, rfl⟩
        have r_x112 : mh_r x112 0 220 := by rw [t113]; exact rd_56_3 hI_s109
        refine mw_if_ne 69 rfl 71 dX4_readClause_66 (by decide) (fun c114 => ?_) (fun c114 => ?_)
        · skip
          have r_x108 : mh_r x108 (1) (1) := mh_ne1 (show x108.toInt ≠ (0 : Int32).toInt from c114) r_x108 rc_0 (1) (1) (by decide)
          refine mw_aload_n 72 rfl 2 dX4_readClause_71 rfl rfl ?_
          obtain ⟨k116, t115⟩ : ∃ y : Nat, s109.2.2 56 1 = y := ⟨_, rfl⟩
          have hk116 : mh_isL k116 := by rw [← t115]; exact hI_s109.2.1.2.2.2
          refine mw_geta 75 rfl dX4_readClause_72 gf_X4_25 rfl k116 t115 ?_
          refine mw_geti 78 rfl dX4_readClause_75 gf_X4_66 (ly_L hk116) (fun x117 t118 => ?_)
          have r_x117 : mh_r x117 (0) (400) := by rw [t118]; exact rd_L_8 hI_s109 hk116
          refine mw_istore_n 79 rfl [(3, .int x117), (2, .int x104), (1, .int x76), (0, .ref (G.2.2.2 56))] dX4_readClause_78 rfl (by decide) rfl ?_
          refine mw_aload_n 80 rfl 3 dX4_readClause_79 rfl rfl ?_
          refine mw_bipush (v := 40) 82 rfl dX4_readClause_80 (by decide) ?_
          refine mw_callVi [.int (40)] [] 85 rfl dX4_readClause_82 ml_X4_47 mc_X4_take mk_X4_take rfl rfl (by decide) (w_eX4_take l G (d + 73) ⟨by omega, by omega⟩ hI_s109 (40) (mh_r_wk rc_40 (by decide))) rfl rfl (Nat.le_of_ble_eq_true rfl) (mh_rok (by omega) (by decide)) (fun x119 s120 q121 => ?_)
          obtain ⟨r_x119, E_s120, e0_s120, hI_s120, hG_s120⟩ := q121
          have hF_s120 : mh_F S_eX4_readClause s0 s120 := mh_F_tl hF_s109 hG_s120 (by decide +kernel)
          have t122 : x72 = s120.1 56 2 := (t111).trans (hG_s120 56 2 (mh_nsI (by rfl))).1.symm
          obtain ⟨x123, t124⟩ : ∃ z : Int32, z = s120.1 56 3 := ⟨_, rfl⟩
          have r_x123 : mh_r x123 0 220 := by rw [t124]; exact rd_56_3 hI_s120
          refine mw_if_eq 88 rfl 105 dX4_readClause_85 (by decide) (fun c125 => ?_) (fun c125 => ?_)
          · skip
            have r_x119 : mh_r x119 (0) (0) := mh_eq1 (show x119.toInt = (0 : Int32).toInt from c125) r_x119 rc_0 (0) (0) (by decide)
            refine mw_iconst (v := 0) 106 rfl dX4_readClause_105 (by decide) ?_
            refine mw_zret dX4_readClause_106 rfl (mh_r_wk rc_0 (by decide)) ⟨(0), rfl, ⟨(mh_r_wk rc_0 (by decide)), (mh_lbT t73 (mh_lbT t75 (mh_lbS E_s77 (mh_ifF (Int.not_lt.mpr c79) (mh_lbT t86 (mh_lbT E_s88 (mh_ifF (Int.not_lt.mpr c90) (mh_lbS t91 (mh_lbT t94 (mh_ifT c95 (mh_lbT (mh_eadd t99) (mh_lbT t101 (mh_lbS t102 (mh_lbT t105 (mh_lb2T E_s109 (mh_lbT t113 (mh_ifF c114 (mh_lbS t115 (mh_lbT t118 (mh_lb2T E_s120 (mh_lbT t124 (mh_ifT c125 rfl)))))))))))))))))))))), ?_, hI_s120, hF_s120⟩⟩
            · skip
              have := congrArg Int32.toInt t73
              have := congrArg Int32.toInt t75
              have := congrArg Int32.toInt t106
              have := congrArg Int32.toInt t107
              have := congrArg Int32.toInt t111
              have := congrArg Int32.toInt t113
              have := congrArg Int32.toInt t122
              have := congrArg Int32.toInt t124
              have := (r_x117).1; have := (r_x117).2
              have := (r_x104).1; have := (r_x104).2
              have := (r_x76).1; have := (r_x76).2
              have := (rc_0).1; have := (rc_0).2
              have := (r_x72).1; have := (r_x72).2
              have := (r_x74).1; have := (r_x74).2
              have := (r_x93).1; have := (r_x93).2
              have := (r_x98).1; have := (r_x98).2
              have := (r_x112).1; have := (r_x112).2
              have := (r_x123).1; have := (r_x123).2
              have := (rc_1).1; have := (rc_1).2
              have := kc_0
              have := kc_1
              have := kc_4
              have := kc_14
              have := kc_40
              have := kc_41
              omega
          · skip
            have r_x119 : mh_r x119 (1) (1) := mh_ne1 (show x119.toInt ≠ (0 : Int32).toInt from c125) r_x119 rc_0 (1) (1) (by decide)
            refine mw_aload_n 89 rfl 3 dX4_readClause_88 rfl rfl ?_
            refine mw_iconst (v := 1) 90 rfl dX4_readClause_89 (by decide) ?_
            refine mw_callVi [.int (1)] [] 93 rfl dX4_readClause_90 ml_X4_72 mc_X4_readChoice mk_X4_readChoice rfl rfl (by decide) ((mh_rd1e l G (d + 11)).2.1 ⟨by omega, by omega⟩ hI_s120 (1) (by decide)) rfl rfl (Nat.le_of_ble_eq_true rfl) (mh_rok (by omega) (by decide)) (fun x126 s127 q128 => ?_)
            obtain ⟨r_x126, E_s127, e0_s127, hI_s127, hG_s127⟩ := q128
            have hF_s127 : mh_F S_eX4_readClause s0 s127 := mh_F_tl hF_s120 hG_s127 (by decide +kernel)
            have t129 : x72 = s127.1 56 2 := (t122).trans (hG_s127 56 2 (mh_nsI (by rfl))).1.symm
            obtain ⟨x130, t131⟩ : ∃ z : Int32, z = s127.1 56 3 := ⟨_, rfl⟩
            have r_x130 : mh_r x130 0 220 := by rw [t131]; exact rd_56_3 hI_s127
            refine mw_if_eq 96 rfl 105 dX4_readClause_93 (by decide) (fun c132 => ?_) (fun c132 => ?_)
            · skip
              have r_x126 : mh_r x126 (0) (0) := mh_eq1 (show x126.toInt = (0 : Int32).toInt from c132) r_x126 rc_0 (0) (0) (by decide)
              refine mw_iconst (v := 0) 106 rfl dX4_readClause_105 (by decide) ?_
              refine mw_zret dX4_readClause_106 rfl (mh_r_wk rc_0 (by decide)) ⟨(0), rfl, ⟨(mh_r_wk rc_0 (by decide)), (mh_lbT t73 (mh_lbT t75 (mh_lbS E_s77 (mh_ifF (Int.not_lt.mpr c79) (mh_lbT t86 (mh_lbT E_s88 (mh_ifF (Int.not_lt.mpr c90) (mh_lbS t91 (mh_lbT t94 (mh_ifT c95 (mh_lbT (mh_eadd t99) (mh_lbT t101 (mh_lbS t102 (mh_lbT t105 (mh_lb2T E_s109 (mh_lbT t113 (mh_ifF c114 (mh_lbS t115 (mh_lbT t118 (mh_lb2T E_s120 (mh_lbT t124 (mh_ifF c125 (mh_lb2T E_s127 (mh_lbT t131 (mh_ifT c132 rfl))))))))))))))))))))))))), ?_, hI_s127, hF_s127⟩⟩
              · skip
                have := congrArg Int32.toInt t73
                have := congrArg Int32.toInt t75
                have := congrArg Int32.toInt t106
                have := congrArg Int32.toInt t107
                have := congrArg Int32.toInt t111
                have := congrArg Int32.toInt t113
                have := congrArg Int32.toInt t122
                have := congrArg Int32.toInt t124
                have := congrArg Int32.toInt t129
                have := congrArg Int32.toInt t131
                have := (r_x117).1; have := (r_x117).2
                have := (r_x104).1; have := (r_x104).2
                have := (r_x76).1; have := (r_x76).2
                have := (rc_0).1; have := (rc_0).2
                have := (r_x72).1; have := (r_x72).2
                have := (r_x74).1; have := (r_x74).2
                have := (r_x93).1; have := (r_x93).2
                have := (r_x98).1; have := (r_x98).2
                have := (r_x112).1; have := (r_x112).2
                have := (r_x123).1; have := (r_x123).2
                have := (r_x130).1; have := (r_x130).2
                have := (rc_1).1; have := (rc_1).2
                have := kc_0
                have := kc_1
                have := kc_4
                have := kc_14
                have := kc_40
                have := kc_41
                omega
            · skip
              have r_x126 : mh_r x126 (1) (1) := mh_ne1 (show x126.toInt ≠ (0 : Int32).toInt from c132) r_x126 rc_0 (1) (1) (by decide)
              refine mw_aload_n 97 rfl 3 dX4_readClause_96 rfl rfl ?_
              refine mw_bipush (v := 41) 99 rfl dX4_readClause_97 (by decide) ?_
              refine mw_callVi [.int (41)] [] 102 rfl dX4_readClause_99 ml_X4_47 mc_X4_take mk_X4_take rfl rfl (by decide) (w_eX4_take l G (d + 73) ⟨by omega, by omega⟩ hI_s127 (41) (mh_r_wk rc_41 (by decide))) rfl rfl (Nat.le_of_ble_eq_true rfl) (mh_rok (by omega) (by decide)) (fun x133 s134 q135 => ?_)
              obtain ⟨r_x133, E_s134, e0_s134, hI_s134, hG_s134⟩ := q135
              have hF_s134 : mh_F S_eX4_readClause s0 s134 := mh_F_tl hF_s127 hG_s134 (by decide +kernel)
              have t136 : x72 = s134.1 56 2 := (t129).trans (hG_s134 56 2 (mh_nsI (by rfl))).1.symm
              obtain ⟨x137, t138⟩ : ∃ z : Int32, z = s134.1 56 3 := ⟨_, rfl⟩
              have r_x137 : mh_r x137 0 220 := by rw [t138]; exact rd_56_3 hI_s134
              refine mw_if_ne 105 rfl 107 dX4_readClause_102 (by decide) (fun c139 => ?_) (fun c139 => ?_)
              · skip
                have r_x133 : mh_r x133 (1) (1) := mh_ne1 (show x133.toInt ≠ (0 : Int32).toInt from c139) r_x133 rc_0 (1) (1) (by decide)
                refine mw_aload_n 108 rfl 3 dX4_readClause_107 rfl rfl ?_
                obtain ⟨k141, t140⟩ : ∃ y : Nat, s134.2.2 56 1 = y := ⟨_, rfl⟩
                have hk141 : mh_isL k141 := by rw [← t140]; exact hI_s134.2.1.2.2.2
                refine mw_geta 111 rfl dX4_readClause_108 gf_X4_25 rfl k141 t140 ?_
                refine mw_iload_n 112 rfl 2 dX4_readClause_111 rfl rfl ?_
                refine mw_iload_n 113 rfl 1 dX4_readClause_112 rfl rfl ?_
                refine mw_iload_n 114 rfl 0 dX4_readClause_113 rfl rfl ?_
                refine mw_callVv [.int x76, .int x104, .int x117] [] 117 rfl dX4_readClause_114 ml_X4_75 mc_X1_addClause mk_X1_addClause (ly_L hk141) rfl (by decide) (w_eX1_addClause l G (d + 74) ⟨by omega, by omega⟩ hI_s134 k141 hk141 x76 x104 x117) rfl rfl (Nat.le_of_ble_eq_true rfl) (mh_rok (by omega) (by decide)) (fun s143 q144 => ?_)
                obtain ⟨E_s143, hI_s143, hG_s143⟩ := q144
                have hF_s143 : mh_F S_eX4_readClause s0 s143 := mh_F_tl hF_s134 hG_s143 (by rcases hk141 with rfl | rfl <;> decide +kernel)
                have t145 : x72 = s143.1 56 2 := (t136).trans (hG_s143 56 2 (mh_nsI (by rcases hk141 with rfl | rfl <;> rfl))).1.symm
                have t146 : x137 = s143.1 56 3 := (t138).trans (hG_s143 56 3 (mh_nsI (by rcases hk141 with rfl | rfl <;> rfl))).1.symm
                refine mw_iconst (v := 1) 118 rfl dX4_readClause_117 (by decide) ?_
                refine mw_zret dX4_readClause_118 rfl (mh_r_wk rc_1 (by decide)) ⟨(1), rfl, ⟨(mh_r_wk rc_1 (by decide)), (mh_lbT t73 (mh_lbT t75 (mh_lbS E_s77 (mh_ifF (Int.not_lt.mpr c79) (mh_lbT t86 (mh_lbT E_s88 (mh_ifF (Int.not_lt.mpr c90) (mh_lbS t91 (mh_lbT t94 (mh_ifT c95 (mh_lbT (mh_eadd t99) (mh_lbT t101 (mh_lbS t102 (mh_lbT t105 (mh_lb2T E_s109 (mh_lbT t113 (mh_ifF c114 (mh_lbS t115 (mh_lbT t118 (mh_lb2T E_s120 (mh_lbT t124 (mh_ifF c125 (mh_lb2T E_s127 (mh_lbT t131 (mh_ifF c132 (mh_lb2T E_s134 (mh_lbT t138 (mh_ifF c139 (mh_lbS t140 (mh_lbS E_s143 rfl)))))))))))))))))))))))))))))), ?_, hI_s143, hF_s143⟩⟩
                · skip
                  have := congrArg Int32.toInt t73
                  have := congrArg Int32.toInt t75
                  have := congrArg Int32.toInt t106
                  have := congrArg Int32.toInt t107
                  have := congrArg Int32.toInt t111
                  have := congrArg Int32.toInt t113
                  have := congrArg Int32.toInt t122
                  have := congrArg Int32.toInt t124
                  have := congrArg Int32.toInt t129
                  have := congrArg Int32.toInt t131
                  have := congrArg Int32.toInt t136
                  have := congrArg Int32.toInt t138
                  have := congrArg Int32.toInt t145
                  have := congrArg Int32.toInt t146
                  have := (r_x117).1; have := (r_x117).2
                  have := (r_x104).1; have := (r_x104).2
                  have := (r_x76).1; have := (r_x76).2
                  have := (rc_1).1; have := (rc_1).2
                  have := (r_x72).1; have := (r_x72).2
                  have := (r_x74).1; have := (r_x74).2
                  have := (r_x93).1; have := (r_x93).2
                  have := (r_x98).1; have := (r_x98).2
                  have := (r_x112).1; have := (r_x112).2
                  have := (r_x123).1; have := (r_x123).2
                  have := (r_x130).1; have := (r_x130).2
                  have := (r_x137).1; have := (r_x137).2
                  have := kc_0
                  have := kc_1
                  have := kc_4
                  have := kc_14
                  have := kc_40
                  have := kc_41
                  omega
              · skip
                have r_x133 : mh_r x133 (0) (0) := mh_eq1 (show x133.toInt = (0 : Int32).toInt from c139) r_x133 rc_0 (0) (0) (by decide)
                refine mw_iconst (v := 0) 106 rfl dX4_readClause_105 (by decide) ?_
                refine mw_zret dX4_readClause_106 rfl (mh_r_wk rc_0 (by decide)) ⟨(0), rfl, ⟨(mh_r_wk rc_0 (by decide)), (mh_lbT t73 (mh_lbT t75 (mh_lbS E_s77 (mh_ifF (Int.not_lt.mpr c79) (mh_lbT t86 (mh_lbT E_s88 (mh_ifF (Int.not_lt.mpr c90) (mh_lbS t91 (mh_lbT t94 (mh_ifT c95 (mh_lbT (mh_eadd t99) (mh_lbT t101 (mh_lbS t102 (mh_lbT t105 (mh_lb2T E_s109 (mh_lbT t113 (mh_ifF c114 (mh_lbS t115 (mh_lbT t118 (mh_lb2T E_s120 (mh_lbT t124 (mh_ifF c125 (mh_lb2T E_s127 (mh_lbT t131 (mh_ifF c132 (mh_lb2T E_s134 (mh_lbT t138 (mh_ifT c139 rfl)))))))))))))))))))))))))))), ?_, hI_s134, hF_s134⟩⟩
                · skip
                  have := congrArg Int32.toInt t73
                  have := congrArg Int32.toInt t75
                  have := congrArg Int32.toInt t106
                  have := congrArg Int32.toInt t107
                  have := congrArg Int32.toInt t111
                  have := congrArg Int32.toInt t113
                  have := congrArg Int32.toInt t122
                  have := congrArg Int32.toInt t124
                  have := congrArg Int32.toInt t129
                  have := congrArg Int32.toInt t131
                  have := congrArg Int32.toInt t136
                  have := congrArg Int32.toInt t138
                  have := (r_x117).1; have := (r_x117).2
                  have := (r_x104).1; have := (r_x104).2
                  have := (r_x76).1; have := (r_x76).2
                  have := (rc_0).1; have := (rc_0).2
                  have := (r_x72).1; have := (r_x72).2
                  have := (r_x74).1; have := (r_x74).2
                  have := (r_x93).1; have := (r_x93).2
                  have := (r_x98).1; have := (r_x98).2
                  have := (r_x112).1; have := (r_x112).2
                  have := (r_x123).1; have := (r_x123).2
                  have := (r_x130).1; have := (r_x130).2
                  have := (r_x137).1; have := (r_x137).2
                  have := (rc_1).1; have := (rc_1).2
                  have := kc_0
                  have := kc_1
                  have := kc_4
                  have := kc_14
                  have := kc_40
                  have := kc_41
                  omega
        · skip
          have r_x108 : mh_r x108 (0) (0) := mh_eq1 (show x108.toInt = (0 : Int32).toInt from c114) r_x108 rc_0 (0) (0) (by decide)
          refine mw_iconst (v := 0) 70 rfl dX4_readClause_69 (by decide) ?_
          refine mw_zret dX4_readClause_70 rfl (mh_r_wk rc_0 (by decide)) ⟨(0), rfl, ⟨(mh_r_wk rc_0 (by decide)), (mh_lbT t73 (mh_lbT t75 (mh_lbS E_s77 (mh_ifF (Int.not_lt.mpr c79) (mh_lbT t86 (mh_lbT E_s88 (mh_ifF (Int.not_lt.mpr c90) (mh_lbS t91 (mh_lbT t94 (mh_ifT c95 (mh_lbT (mh_eadd t99) (mh_lbT t101 (mh_lbS t102 (mh_lbT t105 (mh_lb2T E_s109 (mh_lbT t113 (mh_ifT c114 rfl))))))))))))))))), ?_, hI_s109, hF_s109⟩⟩
          · skip
            have := congrArg Int32.toInt t73
            have := congrArg Int32.toInt t75
            have := congrArg Int32.toInt t106
            have := congrArg Int32.toInt t107
            have := congrArg Int32.toInt t111
            have := congrArg Int32.toInt t113
            have := (r_x104).1; have := (r_x104).2
            have := (r_x76).1; have := (r_x76).2
            have := (rc_0).1; have := (rc_0).2
            have := (r_x72).1; have := (r_x72).2
            have := (r_x74).1; have := (r_x74).2
            have := (r_x93).1; have := (r_x93).2
            have := (r_x98).1; have := (r_x98).2
            have := (r_x112).1; have := (r_x112).2
            have := (rc_1).1; have := (rc_1).2
            have := kc_0
            have := kc_1
            have := kc_4
            have := kc_14
            have := kc_40
            have := kc_41
            omega
      · skip
        have r_x93 : mh_r x93 (14) (14) := mh_le2 c95 rc_14 r_x93 (14) (by decide)
        refine mw_aload_n 38 rfl 1 dX4_readClause_37 rfl rfl ?_
        refine mw_iconst (v := 4) 39 rfl dX4_readClause_38 (by decide) ?_
        refine mw_callVi [.int (4)] [] 42 rfl dX4_readClause_39 ml_X4_55 mc_X4_fail mk_X4_fail rfl rfl (by decide) (w_eX4_fail l G (d + 74) ⟨by omega, by omega⟩ hI0 (4)) rfl rfl (Nat.le_of_ble_eq_true rfl) (mh_rok (by omega) (by decide)) (fun x147 s148 q149 => ?_)
        obtain ⟨r_x147, E_s148, hI_s148, hG_s148⟩ := q149
        have hF_s148 : mh_F S_eX4_readClause s0 s148 := mh_F_tl hF0 hG_s148 (by decide +kernel)
        have t150 : x72 = s148.1 56 2 := (t73).trans (hG_s148 56 2 (mh_nsI (by rfl))).1.symm
        have t151 : x74 = s148.1 56 3 := (t75).trans (hG_s148 56 3 (mh_nsI (by rfl))).1.symm
        refine mw_zret dX4_readClause_42 rfl (mh_r_wk r_x147 (by decide)) ⟨x147, rfl, ⟨(mh_r_wk r_x147 (by decide)), (mh_lbT t73 (mh_lbT t75 (mh_lbS E_s77 (mh_ifF (Int.not_lt.mpr c79) (mh_lbT t86 (mh_lbT E_s88 (mh_ifF (Int.not_lt.mpr c90) (mh_lbS t91 (mh_lbT t94 (mh_ifF (Int.not_lt.mpr c95) (mh_lb2T E_s148 rfl))))))))))), ?_, hI_s148, hF_s148⟩⟩
        · skip
          have := congrArg Int32.toInt t73
          have := congrArg Int32.toInt t75
          have := congrArg Int32.toInt t150
          have := congrArg Int32.toInt t151
          have := (r_x76).1; have := (r_x76).2
          have := (r_x147).1; have := (r_x147).2
          have := (r_x72).1; have := (r_x72).2
          have := (r_x74).1; have := (r_x74).2
          have := (r_x93).1; have := (r_x93).2
          have := kc_0
          have := kc_1
          have := kc_4
          have := kc_14
          have := kc_40
          have := kc_41
          omega
    · skip
      have r_x87 : mh_r x87 (-2147483648) (-1) := mh_lt1 (show x87.toInt < (0 : Int32).toInt from c90) (mh_r_full x87) rc_0 (-1) (by decide)
      refine mw_aload_n 20 rfl 1 dX4_readClause_19 rfl rfl ?_
      refine mw_iconst (v := 1) 21 rfl dX4_readClause_20 (by decide) ?_
      refine mw_callVi [.int (1)] [] 24 rfl dX4_readClause_21 ml_X4_55 mc_X4_fail mk_X4_fail rfl rfl (by decide) (w_eX4_fail l G (d + 74) ⟨by omega, by omega⟩ hI0 (1)) rfl rfl (Nat.le_of_ble_eq_true rfl) (mh_rok (by omega) (by decide)) (fun x152 s153 q154 => ?_)
      obtain ⟨r_x152, E_s153, hI_s153, hG_s153⟩ := q154
      have hF_s153 : mh_F S_eX4_readClause s0 s153 := mh_F_tl hF0 hG_s153 (by decide +kernel)
      have t155 : x72 = s153.1 56 2 := (t73).trans (hG_s153 56 2 (mh_nsI (by rfl))).1.symm
      have t156 : x74 = s153.1 56 3 := (t75).trans (hG_s153 56 3 (mh_nsI (by rfl))).1.symm
      refine mw_zret dX4_readClause_24 rfl (mh_r_wk r_x152 (by decide)) ⟨x152, rfl, ⟨(mh_r_wk r_x152 (by decide)), (mh_lbT t73 (mh_lbT t75 (mh_lbS E_s77 (mh_ifF (Int.not_lt.mpr c79) (mh_lbT t86 (mh_lbT E_s88 (mh_ifT c90 (mh_lb2T E_s153 rfl)))))))), ?_, hI_s153, hF_s153⟩⟩
      · skip
        have := congrArg Int32.toInt t73
        have := congrArg Int32.toInt t75
        have := congrArg Int32.toInt t155
        have := congrArg Int32.toInt t156
        have := (r_x76).1; have := (r_x76).2
        have := (r_x152).1; have := (r_x152).2
        have := (r_x72).1; have := (r_x72).2
        have := (r_x74).1; have := (r_x74).2
        have := kc_0
        have := kc_1
        have := kc_4
        have := kc_14
        have := kc_40
        have := kc_41
        omega

def S_eX4_read (kl : Nat) : List (Nat × Nat) := [(56, 1), (56, 2), (56, 3), (56, 4), (kl, 7), (kl, 8), (kl, 9), (kl, 10), (41, 9999), (49, 9999), (40, 8), (48, 8), (40, 10), (48, 10), (42, 9999), (50, 9999), (43, 9999), (51, 9999), (44, 9999), (52, 9999), (45, 9999), (53, 9999), (40, 7), (48, 7), (40, 9), (48, 9)]
def ls_eX4_read_34_1 (kl : Nat) (lo_34_1 : mh_H → Int32 → Int32 × mh_H) (s284 : mh_H) (x283 : Int32) : Int32 × mh_H := if (14 : Int32).toInt < x283.toInt then mh_lb (s284.1 56 4) (fun x304 => (x304, s284)) else mh_lb2 (f_eX4_readClause s284) (fun x306 s307 => if x306.toInt = 0 then mh_lb (s307.1 56 4) (fun x325 => (x325, s307)) else mh_lb (s307.1 56 3) (fun x310 => mh_lb (s307.1 56 2) (fun x312 => if x310.toInt < x312.toInt then mh_lb2 (f_eX4_take s307 (59 : Int32)) (fun x315 s316 => if x315.toInt = 0 then mh_lb (s316.1 56 4) (fun x321 => (x321, s316)) else mh_lb (x283 + (1 : Int32)) (fun x319 => (lo_34_1 s316 x319))) else mh_lb (s307.1 kl 7) (fun x323 => (x323, s307)))))
def l_eX4_read_34_1 (kl : Nat) : Nat → mh_H → Int32 → Int32 × mh_H
  | 0 => fun s284 _ => (0, s284)
  | n + 1 => ls_eX4_read_34_1 kl (l_eX4_read_34_1 kl n)
theorem l_eX4_read_34_1_s (kl : Nat) (n : Nat) : l_eX4_read_34_1 kl (n + 1) = ls_eX4_read_34_1 kl (l_eX4_read_34_1 kl n) := rfl
def f_eX4_read (s0 : mh_H) (kl : Nat) (p1 : Int32) : Int32 × mh_H := mh_lb (mh_pR s0 56 1 kl) (fun s164 => mh_lb (mh_mi32 p1 (220 : Int32)) (fun x166 => mh_lb (mh_pI s164 56 2 x166) (fun s168 => mh_lb (mh_pI s168 56 3 (0 : Int32)) (fun s170 => mh_lb (mh_pI s170 56 4 (0 : Int32)) (fun s172 => mh_lb (f_eX1_clear s172 kl) (fun s175 => (l_eX4_read_34_1 kl 16 s175 (0 : Int32))))))))
def P_eX4_read (B D : Int) (s0 : mh_H) (kl : Nat) (p1 : Int32) : Int32 → mh_H → Prop := fun z s => mh_r z (-2147483648) (2147483647) ∧ f_eX4_read s0 kl p1 = (z, s) ∧ mh_I B D s ∧ mh_F (S_eX4_read kl) s0 s
set_option maxRecDepth 100000 in
set_option maxHeartbeats 4000000 in
theorem w_eX4_read (l : Launch) (G : mh_G) (d : Nat) {B D : Int} (hB : B ≤ 480000000 ∧ D ≤ 480000000) {s0 : mh_H} (hI0 : mh_I B D s0) (kl : Nat) (hkl : mh_isL kl) (p1 : Int32) (r_p1 : mh_r p1 (1) (200)) : mh_Mi l G (d + 76) mM_X4_read [.ref (G.2.2.2 56), .int p1, .ref (G.2.2.2 kl)] s0 (P_eX4_read B D s0 kl p1) := by
  refine mh_enter (lv := [(0, .ref (G.2.2.2 56)), (1, .int p1), (2, .ref (G.2.2.2 kl))]) (by decide) rfl (Nat.le_of_ble_eq_true rfl) ?_
  have hF0 : mh_F (S_eX4_read kl) s0 s0 := mh_F_rf
  refine mw_aload_n 1 rfl 0 dX4_read_0 rfl rfl ?_
  refine mw_aload_n 2 rfl 2 dX4_read_1 rfl rfl ?_
  refine mw_puta 5 rfl dX4_read_2 pf_X4_25 rfl (fun s164 t165 => ?_)
  have hI_s164 : mh_I B D s164 := by rw [t165]; exact mh_I_pR hI0 hkl rfl
  have hF_s164 : mh_F (S_eX4_read kl) s0 s164 := by rw [t165]; exact mh_F_pR hF0 (mh_sj 0 rfl)
  refine mw_aload_n 6 rfl 0 dX4_read_5 rfl rfl ?_
  refine mw_iload_n 7 rfl 1 dX4_read_6 rfl rfl ?_
  refine mw_aload_n 8 rfl 0 dX4_read_7 rfl rfl ?_
  refine mw_geta 11 rfl dX4_read_8 gf_X4_21 rfl 38 (mh_rf hI_s164 54 rfl) ?_
  refine mw_alen 12 rfl dX4_read_11 rfl (by decide) (v := 220) (by decide) ?_
  refine mw_mmin (1) (200) 15 rfl dX4_read_12 ml_X4_29 r_p1 rc_220 (by decide) (mh_mr (D := d + 76) (by omega) (Nat.le_of_ble_eq_true rfl)) (fun x166 t167 r_x166 => ?_)
  refine mw_puti 18 rfl dX4_read_15 pf_X4_9 rfl (fun s168 t169 => ?_)
  have hI_s168 : mh_I B D s168 := by rw [t169]; exact wr_56_2 hI_s164 (mh_r_wk r_x166 (by decide))
  have hF_s168 : mh_F (S_eX4_read kl) s0 s168 := by rw [t169]; exact mh_F_pI hF_s164 (mh_sj 1 rfl)
  refine mw_aload_n 19 rfl 0 dX4_read_18 rfl rfl ?_
  refine mw_iconst (v := 0) 20 rfl dX4_read_19 (by decide) ?_
  refine mw_puti 23 rfl dX4_read_20 pf_X4_15 rfl (fun s170 t171 => ?_)
  have hI_s170 : mh_I B D s170 := by rw [t171]; exact wr_56_3 hI_s168 (mh_r_wk rc_0 (by decide))
  have hF_s170 : mh_F (S_eX4_read kl) s0 s170 := by rw [t171]; exact mh_F_pI hF_s168 (mh_sj 2 rfl)
  refine mw_aload_n 24 rfl 0 dX4_read_23 rfl rfl ?_
  refine mw_iconst (v := 0) 25 rfl dX4_read_24 (by decide) ?_
  refine mw_puti 28 rfl dX4_read_25 pf_X4_18 rfl (fun s172 t173 => ?_)
  have hI_s172 : mh_I B D s172 := by rw [t173]; exact wr_56_4 hI_s170
  have hF_s172 : mh_F (S_eX4_read kl) s0 s172 := by rw [t173]; exact mh_F_pI hF_s170 (mh_sj 3 rfl)
  refine mw_aload_n 29 rfl 2 dX4_read_28 rfl rfl ?_
  refine mw_callVv [] [] 32 rfl dX4_read_29 ml_X4_35 mc_X1_clear mk_X1_clear (ly_L hkl) rfl (by decide) (w_eX1_clear l G (d + 75) ⟨by omega, by omega⟩ hI_s172 kl hkl) rfl rfl (Nat.le_of_ble_eq_true rfl) (mh_rok (by omega) (by decide)) (fun s175 q176 => ?_)
  obtain ⟨E_s175, hI_s175, hG_s175⟩ := q176
  have hF_s175 : mh_F (S_eX4_read kl) s0 s175 := mh_F_tl hF_s172 hG_s175 (by rcases hkl with rfl | rfl <;> decide +kernel)
  refine mw_iconst (v := 0) 33 rfl dX4_read_32 (by decide) ?_
  refine mw_istore_n 34 rfl [(3, .int (0)), (0, .ref (G.2.2.2 56)), (1, .int p1), (2, .ref (G.2.2.2 kl))] dX4_read_33 rfl (by decide) rfl ?_
  have L34 : ∀ n1 : Nat, ∀ (x283 : Int32) (s284 : mh_H), mh_r x283 (0) (15) → mh_I B D s284 → mh_F (S_eX4_read kl) s0 s284 → (f_eX4_read s0 kl p1 = l_eX4_read_34_1 kl n1 s284 x283) → (15) - x283.toInt < (n1 : Int) → mh_W G (mh_XM l G (d + 76) (mh_Qi (P_eX4_read B D s0 kl p1))) mM_X4_read 34 [(0, .ref (G.2.2.2 56)), (1, .int p1), (2, .ref (G.2.2.2 kl)), (3, .int x283)] [] s284 := by
    intro n1
    induction n1 with
    | zero =>
      intro x283 s284 r_x283 hI_s284 hF_s284 hE1 hmn1
      exact absurd hmn1 (by have := r_x283.1; have := r_x283.2; omega)
    | succ n1 ihn1 =>
      intro x283 s284 r_x283 hI_s284 hF_s284 hE1 hmn1
      rw [l_eX4_read_34_1_s] at hE1
      refine mw_iload_n 35 rfl 3 dX4_read_34 rfl rfl ?_
      refine mw_bipush (v := 14) 37 rfl dX4_read_35 (by decide) ?_
      refine mw_icmp_gt 40 rfl 88 dX4_read_37 (by decide) (fun c303 => ?_) (fun c303 => ?_)
      · skip
        have r_x283 : mh_r x283 (15) (15) := mh_lt2 c303 rc_14 r_x283 (15) (by decide)
        refine mw_aload_n 89 rfl 0 dX4_read_88 rfl rfl ?_
        refine mw_geti 92 rfl dX4_read_89 gf_X4_18 rfl (fun x304 t305 => ?_)
        exact mw_iret dX4_read_92 rfl ⟨x304, rfl, ⟨(mh_r_full x304), (Eq.trans hE1 (mh_ifT c303 (mh_lbT t305 rfl))), hI_s284, hF_s284⟩⟩
      · skip
        have r_x283 : mh_r x283 (0) (14) := mh_le1 c303 r_x283 rc_14 (14) (by decide)
        refine mw_aload_n 41 rfl 0 dX4_read_40 rfl rfl ?_
        refine mw_callVi [] [] 44 rfl dX4_read_41 ml_X4_40 mc_X4_readClause mk_X4_readClause rfl rfl (by decide) (w_eX4_readClause l G (d + 0) ⟨by omega, by omega⟩ hI_s284) rfl rfl (Nat.le_of_ble_eq_true rfl) (mh_rok (by omega) (by decide)) (fun x306 s307 q308 => ?_)
        obtain ⟨r_x306, E_s307, e0_s307, hI_s307, hG_s307⟩ := q308
        have hF_s307 : mh_F (S_eX4_read kl) s0 s307 := mh_F_tl hF_s284 hG_s307 (by rcases hkl with rfl | rfl <;> decide +kernel)
        refine mw_if_ne 47 rfl 52 dX4_read_44 (by decide) (fun c309 => ?_) (fun c309 => ?_)
        · skip
          have r_x306 : mh_r x306 (1) (1) := mh_ne1 (show x306.toInt ≠ (0 : Int32).toInt from c309) r_x306 rc_0 (1) (1) (by decide)
          refine mw_aload_n 53 rfl 0 dX4_read_52 rfl rfl ?_
          refine mw_geti 56 rfl dX4_read_53 gf_X4_15 rfl (fun x310 t311 => ?_)
          have r_x310 : mh_r x310 (0) (220) := by rw [t311]; exact rd_56_3 hI_s307
          refine mw_aload_n 57 rfl 0 dX4_read_56 rfl rfl ?_
          refine mw_geti 60 rfl dX4_read_57 gf_X4_9 rfl (fun x312 t313 => ?_)
          have r_x312 : mh_r x312 (0) (220) := by rw [t313]; exact rd_56_2 hI_s307
          refine mw_icmp_lt 63 rfl 68 dX4_read_60 (by decide) (fun c314 => ?_) (fun c314 => ?_)
          · skip
            have r_x310 : mh_r x310 (0) (219) := mh_lt1 c314 r_x310 r_x312 (219) (by decide)
            have r_x312 : mh_r x312 (1) (220) := mh_lt2 c314 r_x310 r_x312 (1) (by decide)
            refine mw_aload_n 69 rfl 0 dX4_read_68 rfl rfl ?_
            refine mw_bipush (v := 59) 71 rfl dX4_read_69 (by decide) ?_
            refine mw_callVi [.int (59)] [] 74 rfl dX4_read_71 ml_X4_47 mc_X4_take mk_X4_take rfl rfl (by decide) (w_eX4_take l G (d + 74) ⟨by omega, by omega⟩ hI_s307 (59) (mh_r_wk rc_59 (by decide))) rfl rfl (Nat.le_of_ble_eq_true rfl) (mh_rok (by omega) (by decide)) (fun x315 s316 q317 => ?_)
            obtain ⟨r_x315, E_s316, e0_s316, hI_s316, hG_s316⟩ := q317
            have hF_s316 : mh_F (S_eX4_read kl) s0 s316 := mh_F_tl hF_s307 hG_s316 (by rcases hkl with rfl | rfl <;> decide +kernel)
            refine mw_if_ne 77 rfl 82 dX4_read_74 (by decide) (fun c318 => ?_) (fun c318 => ?_)
            · skip
              have r_x315 : mh_r x315 (1) (1) := mh_ne1 (show x315.toInt ≠ (0 : Int32).toInt from c318) r_x315 rc_0 (1) (1) (by decide)
              refine mw_iincR (k := 3) (1) (15) 85 rfl (fun z => [(3, .int z), (0, .ref (G.2.2.2 56)), (1, .int p1), (2, .ref (G.2.2.2 kl))]) dX4_read_82 rfl (by decide) (fun _ => rfl) r_x283 (by decide) (by decide) (fun x319 t320 r_x319 => ?_)
              refine mw_goto 88 rfl 34 dX4_read_85 (by decide) ?_
              exact mw_lv [1, 2, 3, 0] rfl (ihn1 x319 s316 (mh_r_wk r_x319 (by decide)) hI_s316 hF_s316 (Eq.trans hE1 (mh_ifF (Int.not_lt.mpr c303) (mh_lb2T E_s307 (mh_ifF c309 (mh_lbT t311 (mh_lbT t313 (mh_ifT c314 (mh_lb2T E_s316 (mh_ifF c318 (mh_lbT (mh_einc t320 rfl) rfl)))))))))) (by have : x319.toInt = x283.toInt + (1) := t320; omega))
            · skip
              have r_x315 : mh_r x315 (0) (0) := mh_eq1 (show x315.toInt = (0 : Int32).toInt from c318) r_x315 rc_0 (0) (0) (by decide)
              refine mw_aload_n 78 rfl 0 dX4_read_77 rfl rfl ?_
              refine mw_geti 81 rfl dX4_read_78 gf_X4_18 rfl (fun x321 t322 => ?_)
              exact mw_iret dX4_read_81 rfl ⟨x321, rfl, ⟨(mh_r_full x321), (Eq.trans hE1 (mh_ifF (Int.not_lt.mpr c303) (mh_lb2T E_s307 (mh_ifF c309 (mh_lbT t311 (mh_lbT t313 (mh_ifT c314 (mh_lb2T E_s316 (mh_ifT c318 (mh_lbT t322 rfl)))))))))), hI_s316, hF_s316⟩⟩
          · skip
            refine mw_aload_n 64 rfl 2 dX4_read_63 rfl rfl ?_
            refine mw_geti 67 rfl dX4_read_64 gf_X4_44 (ly_L hkl) (fun x323 t324 => ?_)
            have r_x323 : mh_r x323 (0) (14) := by rw [t324]; exact rd_L_7 hI_s307 hkl
            exact mw_iret dX4_read_67 rfl ⟨x323, rfl, ⟨(mh_r_wk r_x323 (by decide)), (Eq.trans hE1 (mh_ifF (Int.not_lt.mpr c303) (mh_lb2T E_s307 (mh_ifF c309 (mh_lbT t311 (mh_lbT t313 (mh_ifF (Int.not_lt.mpr c314) (mh_lbT t324 rfl)))))))), hI_s307, hF_s307⟩⟩
        · skip
          have r_x306 : mh_r x306 (0) (0) := mh_eq1 (show x306.toInt = (0 : Int32).toInt from c309) r_x306 rc_0 (0) (0) (by decide)
          refine mw_aload_n 48 rfl 0 dX4_read_47 rfl rfl ?_
          refine mw_geti 51 rfl dX4_read_48 gf_X4_18 rfl (fun x325 t326 => ?_)
          exact mw_iret dX4_read_51 rfl ⟨x325, rfl, ⟨(mh_r_full x325), (Eq.trans hE1 (mh_ifF (Int.not_lt.mpr c303) (mh_lb2T E_s307 (mh_ifT c309 (mh_lbT t326 rfl))))), hI_s307, hF_s307⟩⟩
  exact mw_lv [1, 2, 3, 0] rfl (L34 16 (0) s175 (mh_r_wk rc_0 (by decide)) hI_s175 hF_s175 (mh_lbT t165 (mh_lbT (mh_emin t167) (mh_lbT t169 (mh_lbT t171 (mh_lbT t173 (mh_lbS E_s175 rfl)))))) (by have := (rc_0).1; have := (rc_0).2; omega))

def S_eX9_law : List (Nat × Nat) := [(56, 1), (56, 2), (56, 3), (56, 4), (40, 7), (48, 7), (40, 8), (48, 8), (40, 9), (48, 9), (40, 10), (48, 10), (41, 9999), (49, 9999), (42, 9999), (50, 9999), (43, 9999), (51, 9999), (44, 9999), (52, 9999), (45, 9999), (53, 9999), (37, 1), (0, 11), (0, 12)]
def f_eX9_law (s0 : mh_H) (p1 : Int32) : Int32 × mh_H := if p1.toInt < (1 : Int32).toInt then ((-1 : Int32), s0) else if (200 : Int32).toInt < p1.toInt then ((-1 : Int32), s0) else mh_lb (s0.1 37 1) (fun x24 => if x24.toInt < p1.toInt then ((-1 : Int32), s0) else mh_lb (s0.2.2 0 12) (fun k28 => mh_lb2 (f_eX4_read s0 k28 p1) (fun x29 s30 => mh_lb (mh_pI s30 37 1 (0 : Int32)) (fun s32 => if 0 < x29.toInt then mh_lb (s32.2.2 0 11) (fun k36 => mh_lb (s32.2.2 0 12) (fun k38 => mh_lb (mh_pR s32 0 11 k38) (fun s39 => mh_lb (mh_pR s39 0 12 k36) (fun s41 => (x29, s41))))) else (x29, s32)))))
def P_eX9_law (B D : Int) (s0 : mh_H) (p1 : Int32) : Int32 → mh_H → Prop := fun z s => mh_r z (-2147483648) (2147483647) ∧ f_eX9_law s0 p1 = (z, s) ∧ mh_I B D s ∧ mh_F S_eX9_law s0 s
set_option maxRecDepth 100000 in
set_option maxHeartbeats 4000000 in
theorem w_eX9_law (l : Launch) (G : mh_G) (d : Nat) {B D : Int} (hB : B ≤ 460000000 ∧ D ≤ 460000000) {s0 : mh_H} (hI0 : mh_I B D s0) (p1 : Int32) : mh_Mi l G (d + 77) mM_X9_law [.ref (G.2.2.2 0), .int p1] s0 (P_eX9_law B D s0 p1) := by
  refine mh_enter (lv := [(0, .ref (G.2.2.2 0)), (1, .int p1)]) (by decide) rfl (Nat.le_of_ble_eq_true rfl) ?_
  have hF0 : mh_F S_eX9_law s0 s0 := mh_F_rf
  refine mw_iload_n 1 rfl 1 dX9_law_0 rfl rfl ?_
  refine mw_iconst (v := 1) 2 rfl dX9_law_1 (by decide) ?_
  refine mw_icmp_lt 5 rfl 23 dX9_law_2 (by decide) (fun c22 => ?_) (fun c22 => ?_)
  · skip
    have r_p1 : mh_r p1 (-2147483648) (0) := mh_lt1 c22 (mh_r_full p1) rc_1 (0) (by decide)
    refine mw_iconst (v := -1) 24 rfl dX9_law_23 (by decide) ?_
    exact mw_iret dX9_law_24 rfl ⟨(-1), rfl, ⟨(mh_r_wk rc_m1 (by decide)), (mh_ifT c22 rfl), hI0, hF0⟩⟩
  · skip
    have r_p1 : mh_r p1 (1) (2147483647) := mh_le2 c22 rc_1 (mh_r_full p1) (1) (by decide)
    refine mw_iload_n 6 rfl 1 dX9_law_5 rfl rfl ?_
    refine mw_sipush (v := 200) 9 rfl dX9_law_6 (by decide) ?_
    refine mw_icmp_gt 12 rfl 23 dX9_law_9 (by decide) (fun c23 => ?_) (fun c23 => ?_)
    · skip
      have r_p1 : mh_r p1 (201) (2147483647) := mh_lt2 c23 rc_200 r_p1 (201) (by decide)
      refine mw_iconst (v := -1) 24 rfl dX9_law_23 (by decide) ?_
      exact mw_iret dX9_law_24 rfl ⟨(-1), rfl, ⟨(mh_r_wk rc_m1 (by decide)), (mh_ifF (Int.not_lt.mpr c22) (mh_ifT c23 rfl)), hI0, hF0⟩⟩
    · skip
      have r_p1 : mh_r p1 (1) (200) := mh_le1 c23 r_p1 rc_200 (200) (by decide)
      refine mw_iload_n 13 rfl 1 dX9_law_12 rfl rfl ?_
      refine mw_aload_n 14 rfl 0 dX9_law_13 rfl rfl ?_
      refine mw_geta 17 rfl dX9_law_14 gf_X9_60 rfl 37 (mh_rf hI0 8 rfl) ?_
      refine mw_geti 20 rfl dX9_law_17 gf_X9_116 rfl (fun x24 t25 => ?_)
      have r_x24 : mh_r x24 (0) (220) := by rw [t25]; exact rd_37_1 hI0
      refine mw_icmp_le 23 rfl 25 dX9_law_20 (by decide) (fun c26 => ?_) (fun c26 => ?_)
      · skip
        have r_x24 : mh_r x24 (1) (220) := mh_le2 c26 r_p1 r_x24 (1) (by decide)
        refine mw_aload_n 26 rfl 0 dX9_law_25 rfl rfl ?_
        refine mw_geta 29 rfl dX9_law_26 gf_X9_86 rfl 56 (mh_rf hI0 9 rfl) ?_
        refine mw_iload_n 30 rfl 1 dX9_law_29 rfl rfl ?_
        refine mw_aload_n 31 rfl 0 dX9_law_30 rfl rfl ?_
        obtain ⟨k28, t27⟩ : ∃ y : Nat, s0.2.2 0 12 = y := ⟨_, rfl⟩
        have hk28 : mh_isL k28 := by rw [← t27]; exact hI0.2.1.2.2.1
        refine mw_geta 34 rfl dX9_law_31 gf_X9_75 rfl k28 t27 ?_
        refine mw_callVi [.int p1, .ref (G.2.2.2 k28)] [] 37 rfl dX9_law_34 ml_X9_124 mc_X4_read mk_X4_read rfl rfl (by decide) (w_eX4_read l G (d + 0) ⟨by omega, by omega⟩ hI0 k28 hk28 p1 r_p1) rfl rfl (Nat.le_of_ble_eq_true rfl) (mh_rok (by omega) (by decide)) (fun x29 s30 q31 => ?_)
        obtain ⟨r_x29, E_s30, hI_s30, hG_s30⟩ := q31
        have hF_s30 : mh_F S_eX9_law s0 s30 := mh_F_tl hF0 hG_s30 (by rcases hk28 with rfl | rfl <;> decide +kernel)
        refine mw_istore_n 38 rfl [(2, .int x29), (0, .ref (G.2.2.2 0)), (1, .int p1)] dX9_law_37 rfl (by decide) rfl ?_
        refine mw_aload_n 39 rfl 1 dX9_law_38 rfl rfl ?_
        refine mw_geta 42 rfl dX9_law_39 gf_X9_60 rfl 37 (mh_rf hI_s30 8 rfl) ?_
        refine mw_iconst (v := 0) 43 rfl dX9_law_42 (by decide) ?_
        refine mw_puti 46 rfl dX9_law_43 pf_X9_116 rfl (fun s32 t33 => ?_)
        have hI_s32 : mh_I B D s32 := by rw [t33]; exact wr_37_1 hI_s30 (mh_r_wk rc_0 (by decide))
        have hF_s32 : mh_F S_eX9_law s0 s32 := by rw [t33]; exact mh_F_pI hF_s30 (mh_sj 22 rfl)
        refine mw_iload_n 47 rfl 0 dX9_law_46 rfl rfl ?_
        refine mw_if_le 50 rfl 68 dX9_law_47 (by decide) (fun c34 => ?_) (fun c34 => ?_)
        · skip
          have r_x29 : mh_r x29 (-2147483648) (0) := mh_le1 (show x29.toInt ≤ (0 : Int32).toInt from c34) r_x29 rc_0 (0) (by decide)
          refine mw_iload_n 69 rfl 0 dX9_law_68 rfl rfl ?_
          exact mw_iret dX9_law_69 rfl ⟨x29, rfl, ⟨(mh_r_wk r_x29 (by decide)), (mh_ifF (Int.not_lt.mpr c22) (mh_ifF (Int.not_lt.mpr c23) (mh_lbT t25 (mh_ifF (Int.not_lt.mpr c26) (mh_lbS t27 (mh_lb2T E_s30 (mh_lbT t33 (mh_ifF (Int.not_lt.mpr c34) rfl)))))))), hI_s32, hF_s32⟩⟩
        · skip
          have r_x29 : mh_r x29 (1) (2147483647) := mh_lt2 (show (0 : Int32).toInt < x29.toInt from c34) rc_0 r_x29 (1) (by decide)
          refine mw_aload_n 51 rfl 1 dX9_law_50 rfl rfl ?_
          obtain ⟨k36, t35⟩ : ∃ y : Nat, s32.2.2 0 11 = y := ⟨_, rfl⟩
          have hk36 : mh_isL k36 := by rw [← t35]; exact hI_s32.2.1.2.1
          refine mw_geta 54 rfl dX9_law_51 gf_X9_71 rfl k36 t35 ?_
          refine mw_astore_n 55 rfl [(3, .ref (G.2.2.2 k36)), (2, .int x29), (0, .ref (G.2.2.2 0)), (1, .int p1)] dX9_law_54 rfl (by decide) rfl ?_
          refine mw_aload_n 56 rfl 2 dX9_law_55 rfl rfl ?_
          refine mw_aload_n 57 rfl 2 dX9_law_56 rfl rfl ?_
          obtain ⟨k38, t37⟩ : ∃ y : Nat, s32.2.2 0 12 = y := ⟨_, rfl⟩
          have hk38 : mh_isL k38 := by rw [← t37]; exact hI_s32.2.1.2.2.1
          refine mw_geta 60 rfl dX9_law_57 gf_X9_75 rfl k38 t37 ?_
          refine mw_puta 63 rfl dX9_law_60 pf_X9_71 rfl (fun s39 t40 => ?_)
          have hI_s39 : mh_I B D s39 := by rw [t40]; exact mh_I_pR hI_s32 hk38 rfl
          have hF_s39 : mh_F S_eX9_law s0 s39 := by rw [t40]; exact mh_F_pR hF_s32 (mh_sj 23 rfl)
          refine mw_aload_n 64 rfl 2 dX9_law_63 rfl rfl ?_
          refine mw_aload_n 65 rfl 0 dX9_law_64 rfl rfl ?_
          refine mw_puta 68 rfl dX9_law_65 pf_X9_75 rfl (fun s41 t42 => ?_)
          have hI_s41 : mh_I B D s41 := by rw [t42]; exact mh_I_pR hI_s39 hk36 rfl
          have hF_s41 : mh_F S_eX9_law s0 s41 := by rw [t42]; exact mh_F_pR hF_s39 (mh_sj 24 rfl)
          refine mw_iload_n 69 rfl 1 dX9_law_68 rfl rfl ?_
          exact mw_iret dX9_law_69 rfl ⟨x29, rfl, ⟨(mh_r_wk r_x29 (by decide)), (mh_ifF (Int.not_lt.mpr c22) (mh_ifF (Int.not_lt.mpr c23) (mh_lbT t25 (mh_ifF (Int.not_lt.mpr c26) (mh_lbS t27 (mh_lb2T E_s30 (mh_lbT t33 (mh_ifT c34 (mh_lbS t35 (mh_lbS t37 (mh_lbT t40 (mh_lbT t42 rfl)))))))))))), hI_s41, hF_s41⟩⟩
      · skip
        have r_x24 : mh_r x24 (0) (199) := mh_lt1 c26 r_x24 r_p1 (199) (by decide)
        refine mw_iconst (v := -1) 24 rfl dX9_law_23 (by decide) ?_
        exact mw_iret dX9_law_24 rfl ⟨(-1), rfl, ⟨(mh_r_wk rc_m1 (by decide)), (mh_ifF (Int.not_lt.mpr c22) (mh_ifF (Int.not_lt.mpr c23) (mh_lbT t25 (mh_ifT c26 rfl)))), hI0, hF0⟩⟩

def V_X9_was (B D : Int) (s0 : mh_H) (p1 : Int32) (p2 : Int32) (p3 : Int32) (p4 : Int32) (p5 : Int32) : Int32 → mh_H → Prop := fun z s => mh_r z (-1) (60) ∧ (((0 ≤ p1.toInt ∧ p1.toInt ≤ 99) ∧ (0 ≤ p2.toInt ∧ p2.toInt ≤ 99) ∧ (0 ≤ p3.toInt ∧ p3.toInt ≤ 99) ∧ (0 ≤ p4.toInt ∧ p4.toInt ≤ 99) ∧ (0 ≤ p5.toInt ∧ p5.toInt ≤ 999) ∧ (s0.1 29 5).toInt < 60) → z.toInt = (s0.1 29 5).toInt + 1 ∧ (s.1 29 5).toInt = (s0.1 29 5).toInt + 1) ∧ (¬ ((0 ≤ p1.toInt ∧ p1.toInt ≤ 99) ∧ (0 ≤ p2.toInt ∧ p2.toInt ≤ 99) ∧ (0 ≤ p3.toInt ∧ p3.toInt ≤ 99) ∧ (0 ≤ p4.toInt ∧ p4.toInt ≤ 99) ∧ (0 ≤ p5.toInt ∧ p5.toInt ≤ 999) ∧ (s0.1 29 5).toInt < 60) → z.toInt = -1 ∧ (s.1 29 5).toInt = (s0.1 29 5).toInt) ∧ mh_I B D s ∧ mh_F S_X9_was s0 s
set_option maxRecDepth 100000 in
set_option maxHeartbeats 4000000 in
theorem v_X9_was (l : Launch) (G : mh_G) (d : Nat) {B D : Int} (hB : B ≤ 1960000000 ∧ D ≤ 1960000000) {s0 : mh_H} (hI0 : mh_I B D s0) (p1 : Int32) (p2 : Int32) (p3 : Int32) (p4 : Int32) (p5 : Int32) : mh_Mi l G (d + 2) mM_X9_was [.ref (G.2.2.2 0), .int p1, .int p2, .int p3, .int p4, .int p5] s0 (V_X9_was B D s0 p1 p2 p3 p4 p5) := by
  refine mh_enter (lv := [(0, .ref (G.2.2.2 0)), (1, .int p1), (2, .int p2), (3, .int p3), (4, .int p4), (5, .int p5)]) (by decide) rfl (Nat.le_of_ble_eq_true rfl) ?_
  have hF0 : mh_F S_X9_was s0 s0 := mh_F_rf
  refine mw_iload_n 1 rfl 1 dX9_was_0 rfl rfl ?_
  refine mw_iload_n 2 rfl 2 dX9_was_1 rfl rfl ?_
  refine mw_iload_n 3 rfl 3 dX9_was_2 rfl rfl ?_
  refine mw_callSi [.int p1, .int p2, .int p3] [] 6 rfl dX9_was_3 ml_X9_232 mc_X9_isEvening mk_X9_isEvening (w_X9_isEvening l G (d + 0) ⟨by omega, by omega⟩ hI0 p1 p2 p3) rfl rfl (Nat.le_of_ble_eq_true rfl) (mh_rok (by omega) (by decide)) (fun x36 s37 q38 => ?_)
  obtain ⟨r_x36, e0_s37, rfl⟩ := q38
  refine mw_if_eq 9 rfl 42 dX9_was_6 (by decide) (fun c39 => ?_) (fun c39 => ?_)
  · skip
    have r_x36 : mh_r x36 (0) (0) := mh_eq1 (show x36.toInt = (0 : Int32).toInt from c39) r_x36 rc_0 (0) (0) (by decide)
    refine mw_iconst (v := -1) 43 rfl dX9_was_42 (by decide) ?_
    refine mw_iret dX9_was_43 rfl ⟨(-1), rfl, ⟨(mh_r_wk rc_m1 (by decide)), ?_, ?_, hI0, hF0⟩⟩
    · skip
      have := (rc_m1).1; have := (rc_m1).2
      have := kc_m1
      have := kc_0
      have := kc_1
      have := kc_60
      have := kc_99
      have := kc_999
      omega
    · skip
      have := (rc_m1).1; have := (rc_m1).2
      have := kc_m1
      have := kc_0
      have := kc_1
      have := kc_60
      have := kc_99
      have := kc_999
      omega
  · skip
    have r_p1 : mh_r p1 (0) (99) := ⟨by have := e0_s37.1 (mh_z1 r_x36 c39); have := ((mh_r_full p1)).1; omega, by have := e0_s37.1 (mh_z1 r_x36 c39); have := ((mh_r_full p1)).2; omega⟩
    have r_p2 : mh_r p2 (0) (99) := ⟨by have := e0_s37.1 (mh_z1 r_x36 c39); have := ((mh_r_full p2)).1; omega, by have := e0_s37.1 (mh_z1 r_x36 c39); have := ((mh_r_full p2)).2; omega⟩
    have r_p3 : mh_r p3 (0) (99) := ⟨by have := e0_s37.1 (mh_z1 r_x36 c39); have := ((mh_r_full p3)).1; omega, by have := e0_s37.1 (mh_z1 r_x36 c39); have := ((mh_r_full p3)).2; omega⟩
    have r_x36 : mh_r x36 (1) (1) := mh_ne1 (show x36.toInt ≠ (0 : Int32).toInt from c39) r_x36 rc_0 (1) (1) (by decide)
    refine mw_iload 11 rfl 4 dX9_was_9  rfl ?_
    refine mw_bipush (v := 99) 13 rfl dX9_was_11 (by decide) ?_
    refine mw_callSi [.int p4, .int (99)] [] 16 rfl dX9_was_13 ml_X9_98 mc_X9_isWithin mk_X9_isWithin (w_X9_isWithin l G (d + 1) ⟨by omega, by omega⟩ hI0 p4 (99)) rfl rfl (Nat.le_of_ble_eq_true rfl) (mh_rok (by omega) (by decide)) (fun x40 s41 q42 => ?_)
    obtain ⟨r_x40, e0_s41, rfl⟩ := q42
    refine mw_if_eq 19 rfl 42 dX9_was_16 (by decide) (fun c43 => ?_) (fun c43 => ?_)
    · skip
      have r_x40 : mh_r x40 (0) (0) := mh_eq1 (show x40.toInt = (0 : Int32).toInt from c43) r_x40 rc_0 (0) (0) (by decide)
      refine mw_iconst (v := -1) 43 rfl dX9_was_42 (by decide) ?_
      refine mw_iret dX9_was_43 rfl ⟨(-1), rfl, ⟨(mh_r_wk rc_m1 (by decide)), ?_, ?_, hI0, hF0⟩⟩
      · skip
        have := (r_p1).1; have := (r_p1).2
        have := (r_p2).1; have := (r_p2).2
        have := (r_p3).1; have := (r_p3).2
        have := (rc_m1).1; have := (rc_m1).2
        have := kc_m1
        have := kc_0
        have := kc_1
        have := kc_60
        have := kc_99
        have := kc_999
        omega
      · skip
        have := (r_p1).1; have := (r_p1).2
        have := (r_p2).1; have := (r_p2).2
        have := (r_p3).1; have := (r_p3).2
        have := (rc_m1).1; have := (rc_m1).2
        have := kc_m1
        have := kc_0
        have := kc_1
        have := kc_60
        have := kc_99
        have := kc_999
        omega
    · skip
      have r_p4 : mh_r p4 (0) (99) := ⟨by have := e0_s41.1 (mh_z1 r_x40 c43); have := ((mh_r_full p4)).1; omega, by have := e0_s41.1 (mh_z1 r_x40 c43); have := ((mh_r_full p4)).2; have := (rc_99).2; omega⟩
      have r_x40 : mh_r x40 (1) (1) := mh_ne1 (show x40.toInt ≠ (0 : Int32).toInt from c43) r_x40 rc_0 (1) (1) (by decide)
      refine mw_iload 21 rfl 5 dX9_was_19  rfl ?_
      refine mw_sipush (v := 999) 24 rfl dX9_was_21 (by decide) ?_
      refine mw_callSi [.int p5, .int (999)] [] 27 rfl dX9_was_24 ml_X9_98 mc_X9_isWithin mk_X9_isWithin (w_X9_isWithin l G (d + 1) ⟨by omega, by omega⟩ hI0 p5 (999)) rfl rfl (Nat.le_of_ble_eq_true rfl) (mh_rok (by omega) (by decide)) (fun x44 s45 q46 => ?_)
      obtain ⟨r_x44, e0_s45, rfl⟩ := q46
      refine mw_if_eq 30 rfl 42 dX9_was_27 (by decide) (fun c47 => ?_) (fun c47 => ?_)
      · skip
        have r_x44 : mh_r x44 (0) (0) := mh_eq1 (show x44.toInt = (0 : Int32).toInt from c47) r_x44 rc_0 (0) (0) (by decide)
        refine mw_iconst (v := -1) 43 rfl dX9_was_42 (by decide) ?_
        refine mw_iret dX9_was_43 rfl ⟨(-1), rfl, ⟨(mh_r_wk rc_m1 (by decide)), ?_, ?_, hI0, hF0⟩⟩
        · skip
          have := (r_p1).1; have := (r_p1).2
          have := (r_p2).1; have := (r_p2).2
          have := (r_p3).1; have := (r_p3).2
          have := (r_p4).1; have := (r_p4).2
          have := (rc_m1).1; have := (rc_m1).2
          have := kc_m1
          have := kc_0
          have := kc_1
          have := kc_60
          have := kc_99
          have := kc_999
          omega
        · skip
          have := (r_p1).1; have := (r_p1).2
          have := (r_p2).1; have := (r_p2).2
          have := (r_p3).1; have := (r_p3).2
          have := (r_p4).1; have := (r_p4).2
          have := (rc_m1).1; have := (rc_m1).2
          have := kc_m1
          have := kc_0
          have := kc_1
          have := kc_60
          have := kc_99
          have := kc_999
          omega
      · skip
        have r_p5 : mh_r p5 (0) (999) := ⟨by have := e0_s45.1 (mh_z1 r_x44 c47); have := ((mh_r_full p5)).1; omega, by have := e0_s45.1 (mh_z1 r_x44 c47); have := ((mh_r_full p5)).2; have := (rc_999).2; omega⟩
        have r_x44 : mh_r x44 (1) (1) := mh_ne1 (show x44.toInt ≠ (0 : Int32).toInt from c47) r_x44 rc_0 (1) (1) (by decide)
        refine mw_aload_n 31 rfl 0 dX9_was_30 rfl rfl ?_
        refine mw_geta 34 rfl dX9_was_31 gf_X9_46 rfl 29 (mh_rf hI0 6 rfl) ?_
        refine mw_geti 37 rfl dX9_was_34 gf_X9_236 rfl (fun x48 t49 => ?_)
        have r_x48 : mh_r x48 (0) (60) := by rw [t49]; exact rd_29_5 hI0
        refine mw_bipush (v := 60) 39 rfl dX9_was_37 (by decide) ?_
        refine mw_icmp_lt 42 rfl 44 dX9_was_39 (by decide) (fun c50 => ?_) (fun c50 => ?_)
        · skip
          have r_x48 : mh_r x48 (0) (59) := mh_lt1 c50 r_x48 rc_60 (59) (by decide)
          refine mw_aload_n 45 rfl 0 dX9_was_44 rfl rfl ?_
          refine mw_geta 48 rfl dX9_was_45 gf_X9_46 rfl 29 (mh_rf hI0 6 rfl) ?_
          refine mw_geti 51 rfl dX9_was_48 gf_X9_236 rfl (fun x51 t52 => ?_)
          obtain rfl : x48 = x51 := t49.trans t52.symm
          refine mw_istore 53 rfl [(6, .int x48), (0, .ref (G.2.2.2 0)), (1, .int p1), (2, .int p2), (3, .int p3), (4, .int p4), (5, .int p5)] dX9_was_51  (by decide) rfl ?_
          refine mw_aload_n 54 rfl 1 dX9_was_53 rfl rfl ?_
          refine mw_geta 57 rfl dX9_was_54 gf_X9_46 rfl 29 (mh_rf hI0 6 rfl) ?_
          refine mw_geta 60 rfl dX9_was_57 gf_X9_237 rfl 30 (mh_rf hI0 33 rfl) ?_
          refine mw_iload 62 rfl 0 dX9_was_60  rfl ?_
          refine mw_iload_n 63 rfl 2 dX9_was_62 rfl rfl ?_
          refine mw_iast 64 rfl dX9_was_63 rfl r_x48 (by decide) (fun s53 t54 => ?_)
          have hI_s53 : mh_I B D s53 := by rw [t54]; exact wr_30 hI0
          have hF_s53 : mh_F S_X9_was s0 s53 := by rw [t54]; exact mh_F_pI hF0 (mh_si 0 rfl)
          refine mw_aload_n 65 rfl 1 dX9_was_64 rfl rfl ?_
          refine mw_geta 68 rfl dX9_was_65 gf_X9_46 rfl 29 (mh_rf hI_s53 6 rfl) ?_
          refine mw_geta 71 rfl dX9_was_68 gf_X9_240 rfl 31 (mh_rf hI_s53 34 rfl) ?_
          refine mw_iload 73 rfl 0 dX9_was_71  rfl ?_
          refine mw_iload_n 74 rfl 3 dX9_was_73 rfl rfl ?_
          refine mw_iast 75 rfl dX9_was_74 rfl r_x48 (by decide) (fun s55 t56 => ?_)
          have hI_s55 : mh_I B D s55 := by rw [t56]; exact wr_31 hI_s53
          have hF_s55 : mh_F S_X9_was s0 s55 := by rw [t56]; exact mh_F_pI hF_s53 (mh_si 1 rfl)
          refine mw_aload_n 76 rfl 1 dX9_was_75 rfl rfl ?_
          refine mw_geta 79 rfl dX9_was_76 gf_X9_46 rfl 29 (mh_rf hI_s55 6 rfl) ?_
          refine mw_geta 82 rfl dX9_was_79 gf_X9_243 rfl 32 (mh_rf hI_s55 35 rfl) ?_
          refine mw_iload 84 rfl 0 dX9_was_82  rfl ?_
          refine mw_iload_n 85 rfl 4 dX9_was_84 rfl rfl ?_
          refine mw_iast 86 rfl dX9_was_85 rfl r_x48 (by decide) (fun s57 t58 => ?_)
          have hI_s57 : mh_I B D s57 := by rw [t58]; exact wr_32 hI_s55
          have hF_s57 : mh_F S_X9_was s0 s57 := by rw [t58]; exact mh_F_pI hF_s55 (mh_si 2 rfl)
          refine mw_aload_n 87 rfl 1 dX9_was_86 rfl rfl ?_
          refine mw_geta 90 rfl dX9_was_87 gf_X9_46 rfl 29 (mh_rf hI_s57 6 rfl) ?_
          refine mw_geta 93 rfl dX9_was_90 gf_X9_246 rfl 33 (mh_rf hI_s57 36 rfl) ?_
          refine mw_iload 95 rfl 0 dX9_was_93  rfl ?_
          refine mw_iload 97 rfl 5 dX9_was_95  rfl ?_
          refine mw_iast 98 rfl dX9_was_97 rfl r_x48 (by decide) (fun s59 t60 => ?_)
          have hI_s59 : mh_I B D s59 := by rw [t60]; exact wr_33 hI_s57
          have hF_s59 : mh_F S_X9_was s0 s59 := by rw [t60]; exact mh_F_pI hF_s57 (mh_si 3 rfl)
          refine mw_aload_n 99 rfl 1 dX9_was_98 rfl rfl ?_
          refine mw_geta 102 rfl dX9_was_99 gf_X9_46 rfl 29 (mh_rf hI_s59 6 rfl) ?_
          refine mw_geta 105 rfl dX9_was_102 gf_X9_249 rfl 34 (mh_rf hI_s59 37 rfl) ?_
          refine mw_iload 107 rfl 0 dX9_was_105  rfl ?_
          refine mw_iload 109 rfl 6 dX9_was_107  rfl ?_
          refine mw_iast 110 rfl dX9_was_109 rfl r_x48 (by decide) (fun s61 t62 => ?_)
          have hI_s61 : mh_I B D s61 := by rw [t62]; exact wr_34 hI_s59
          have hF_s61 : mh_F S_X9_was s0 s61 := by rw [t62]; exact mh_F_pI hF_s59 (mh_si 4 rfl)
          refine mw_aload_n 111 rfl 1 dX9_was_110 rfl rfl ?_
          refine mw_geta 114 rfl dX9_was_111 gf_X9_46 rfl 29 (mh_rf hI_s61 6 rfl) ?_
          refine mw_dup 115 rfl dX9_was_114 rfl ?_
          refine mw_geti 118 rfl dX9_was_115 gf_X9_236 rfl (fun x63 t64 => ?_)
          have t65 : x48 = s53.1 29 5 := by rw [t54]; exact (t49).trans (mh_pI_n (by omega)).symm
          have t66 : x48 = s55.1 29 5 := by rw [t56]; exact (t65).trans (mh_pI_n (by omega)).symm
          have t67 : x48 = s57.1 29 5 := by rw [t58]; exact (t66).trans (mh_pI_n (by omega)).symm
          have t68 : x48 = s59.1 29 5 := by rw [t60]; exact (t67).trans (mh_pI_n (by omega)).symm
          have t69 : x48 = s61.1 29 5 := by rw [t62]; exact (t68).trans (mh_pI_n (by omega)).symm
          obtain rfl : x48 = x63 := t69.trans t64.symm
          refine mw_iconst (v := 1) 119 rfl dX9_was_118 (by decide) ?_
          refine mw_iadd 120 rfl (1) (60) dX9_was_119 r_x48 rc_1 (by decide) (fun x70 t71 r_x70 => ?_)
          refine mw_puti 123 rfl dX9_was_120 pf_X9_236 rfl (fun s72 t73 => ?_)
          have hI_s72 : mh_I B D s72 := by rw [t73]; exact wr_29_5 hI_s61 (mh_r_wk r_x70 (by decide))
          have hF_s72 : mh_F S_X9_was s0 s72 := by rw [t73]; exact mh_F_pI hF_s61 (mh_sj 5 rfl)
          refine mw_aload_n 124 rfl 1 dX9_was_123 rfl rfl ?_
          refine mw_geta 127 rfl dX9_was_124 gf_X9_46 rfl 29 (mh_rf hI_s72 6 rfl) ?_
          refine mw_geti 130 rfl dX9_was_127 gf_X9_236 rfl (fun x74 t75 => ?_)
          have t76 : x70 = s72.1 29 5 := by rw [t73]; exact mh_pI_s.symm
          obtain rfl : x70 = x74 := t76.trans t75.symm
          refine mw_iret dX9_was_130 rfl ⟨x70, rfl, ⟨(mh_r_wk r_x70 (by decide)), ?_, ?_, hI_s72, hF_s72⟩⟩
          · skip
            have := (r_x48).1; have := (r_x48).2
            have := (r_p1).1; have := (r_p1).2
            have := (r_p2).1; have := (r_p2).2
            have := (r_p3).1; have := (r_p3).2
            have := (r_p4).1; have := (r_p4).2
            have := (r_p5).1; have := (r_p5).2
            have := (r_x70).1; have := (r_x70).2
            have := (rc_1).1; have := (rc_1).2
            have := kc_m1
            have := kc_0
            have := kc_1
            have := kc_60
            have := kc_99
            have := kc_999
            have := congrArg Int32.toInt t49
            have := congrArg Int32.toInt t52
            have := congrArg Int32.toInt t64
            have := congrArg Int32.toInt t65
            have := congrArg Int32.toInt t66
            have := congrArg Int32.toInt t67
            have := congrArg Int32.toInt t68
            have := congrArg Int32.toInt t69
            have := congrArg Int32.toInt t75
            have := congrArg Int32.toInt t76
            omega
          · skip
            have := (r_x48).1; have := (r_x48).2
            have := (r_p1).1; have := (r_p1).2
            have := (r_p2).1; have := (r_p2).2
            have := (r_p3).1; have := (r_p3).2
            have := (r_p4).1; have := (r_p4).2
            have := (r_p5).1; have := (r_p5).2
            have := (r_x70).1; have := (r_x70).2
            have := (rc_1).1; have := (rc_1).2
            have := kc_m1
            have := kc_0
            have := kc_1
            have := kc_60
            have := kc_99
            have := kc_999
            have := congrArg Int32.toInt t49
            have := congrArg Int32.toInt t52
            have := congrArg Int32.toInt t64
            have := congrArg Int32.toInt t65
            have := congrArg Int32.toInt t66
            have := congrArg Int32.toInt t67
            have := congrArg Int32.toInt t68
            have := congrArg Int32.toInt t69
            have := congrArg Int32.toInt t75
            have := congrArg Int32.toInt t76
            omega
        · skip
          have r_x48 : mh_r x48 (60) (60) := mh_le2 c50 rc_60 r_x48 (60) (by decide)
          refine mw_iconst (v := -1) 43 rfl dX9_was_42 (by decide) ?_
          refine mw_iret dX9_was_43 rfl ⟨(-1), rfl, ⟨(mh_r_wk rc_m1 (by decide)), ?_, ?_, hI0, hF0⟩⟩
          · skip
            have := (r_p1).1; have := (r_p1).2
            have := (r_p2).1; have := (r_p2).2
            have := (r_p3).1; have := (r_p3).2
            have := (r_p4).1; have := (r_p4).2
            have := (r_p5).1; have := (r_p5).2
            have := (rc_m1).1; have := (rc_m1).2
            have := (r_x48).1; have := (r_x48).2
            have := kc_m1
            have := kc_0
            have := kc_1
            have := kc_60
            have := kc_99
            have := kc_999
            have := congrArg Int32.toInt t49
            omega
          · skip
            have := (r_p1).1; have := (r_p1).2
            have := (r_p2).1; have := (r_p2).2
            have := (r_p3).1; have := (r_p3).2
            have := (r_p4).1; have := (r_p4).2
            have := (r_p5).1; have := (r_p5).2
            have := (rc_m1).1; have := (rc_m1).2
            have := (r_x48).1; have := (r_x48).2
            have := kc_m1
            have := kc_0
            have := kc_1
            have := kc_60
            have := kc_99
            have := kc_999
            have := congrArg Int32.toInt t49
            omega

def V_X10_was (B D : Int) (s0 : mh_H) (p1 : Int32) (p2 : Int32) (p3 : Int32) (p4 : Int32) (p5 : Int32) : Int32 → mh_H → Prop := fun z s => mh_r z (-1) (60) ∧ (((0 ≤ p1.toInt ∧ p1.toInt ≤ 99) ∧ (0 ≤ p2.toInt ∧ p2.toInt ≤ 99) ∧ (0 ≤ p3.toInt ∧ p3.toInt ≤ 99) ∧ (0 ≤ p4.toInt ∧ p4.toInt ≤ 99) ∧ (0 ≤ p5.toInt ∧ p5.toInt ≤ 999) ∧ (s0.1 57 58).toInt < 60) → z.toInt = (s0.1 57 58).toInt + 1 ∧ (s.1 57 58).toInt = (s0.1 57 58).toInt + 1) ∧ (¬ ((0 ≤ p1.toInt ∧ p1.toInt ≤ 99) ∧ (0 ≤ p2.toInt ∧ p2.toInt ≤ 99) ∧ (0 ≤ p3.toInt ∧ p3.toInt ≤ 99) ∧ (0 ≤ p4.toInt ∧ p4.toInt ≤ 99) ∧ (0 ≤ p5.toInt ∧ p5.toInt ≤ 999) ∧ (s0.1 57 58).toInt < 60) → z.toInt = -1 ∧ (s.1 57 58).toInt = (s0.1 57 58).toInt) ∧ mh_I B D s ∧ mh_F S_X10_was s0 s
set_option maxRecDepth 100000 in
set_option maxHeartbeats 4000000 in
theorem v_X10_was (l : Launch) (G : mh_G) (d : Nat) {B D : Int} (hB : B ≤ 1980000000 ∧ D ≤ 1980000000) {s0 : mh_H} (hI0 : mh_I B D s0) (p1 : Int32) (p2 : Int32) (p3 : Int32) (p4 : Int32) (p5 : Int32) : mh_Mi l G (d + 1) mM_X10_was [.ref (G.2.2.2 57), .int p1, .int p2, .int p3, .int p4, .int p5] s0 (V_X10_was B D s0 p1 p2 p3 p4 p5) := by
  refine mh_enter (lv := [(0, .ref (G.2.2.2 57)), (1, .int p1), (2, .int p2), (3, .int p3), (4, .int p4), (5, .int p5)]) (by decide) rfl (Nat.le_of_ble_eq_true rfl) ?_
  have hF0 : mh_F S_X10_was s0 s0 := mh_F_rf
  refine mw_iload_n 1 rfl 1 dX10_was_0 rfl rfl ?_
  refine mw_i2l 2 rfl dX10_was_1 (fun y72 t73 => ?_)
  refine mw_lconst (v := 0) 3 rfl dX10_was_2 (by decide) ?_
  refine mw_ldc2 6 rfl dX10_was_3 ck_X10_170 ?_
  refine mw_callSi [.long y72, .long (0), .long (99)] [] 9 rfl dX10_was_6 ml_X10_154 mc_X10_lies mk_X10_lies (w_X10_lies l G (d + 0) ⟨by omega, by omega⟩ hI0 y72 (0) (99)) rfl rfl (Nat.le_of_ble_eq_true rfl) (mh_rok (by omega) (by decide)) (fun x74 s75 q76 => ?_)
  obtain ⟨r_x74, e0_s75, rfl⟩ := q76
  have f_x74 : x74.toInt = 1 ↔ (0 ≤ p1.toInt ∧ p1.toInt ≤ 99) := by rw [e0_s75]; exact by simp only [t73, Int32.toInt_toInt64]; first | done | exact Iff.rfl
  refine mw_if_eq 12 rfl 71 dX10_was_9 (by decide) (fun c77 => ?_) (fun c77 => ?_)
  · skip
    have r_x74 : mh_r x74 (0) (0) := mh_eq1 (show x74.toInt = (0 : Int32).toInt from c77) r_x74 rc_0 (0) (0) (by decide)
    refine mw_iconst (v := -1) 72 rfl dX10_was_71 (by decide) ?_
    refine mw_iret dX10_was_72 rfl ⟨(-1), rfl, ⟨(mh_r_wk rc_m1 (by decide)), ?_, ?_, hI0, hF0⟩⟩
    · skip
      have := (rc_m1).1; have := (rc_m1).2
      have := kc_m1
      have := kc_0
      have := kc_1
      have := kc_2
      have := kc_3
      have := kc_60
      omega
    · skip
      have := (rc_m1).1; have := (rc_m1).2
      have := kc_m1
      have := kc_0
      have := kc_1
      have := kc_2
      have := kc_3
      have := kc_60
      omega
  · skip
    have r_p1 : mh_r p1 (0) (99) := ⟨by have := f_x74.1 (mh_z1 r_x74 c77); have := ((mh_r_full p1)).1; omega, by have := f_x74.1 (mh_z1 r_x74 c77); have := ((mh_r_full p1)).2; omega⟩
    have r_x74 : mh_r x74 (1) (1) := mh_ne1 (show x74.toInt ≠ (0 : Int32).toInt from c77) r_x74 rc_0 (1) (1) (by decide)
    refine mw_iload_n 13 rfl 2 dX10_was_12 rfl rfl ?_
    refine mw_i2l 14 rfl dX10_was_13 (fun y78 t79 => ?_)
    refine mw_lconst (v := 0) 15 rfl dX10_was_14 (by decide) ?_
    refine mw_ldc2 18 rfl dX10_was_15 ck_X10_170 ?_
    refine mw_callSi [.long y78, .long (0), .long (99)] [] 21 rfl dX10_was_18 ml_X10_154 mc_X10_lies mk_X10_lies (w_X10_lies l G (d + 0) ⟨by omega, by omega⟩ hI0 y78 (0) (99)) rfl rfl (Nat.le_of_ble_eq_true rfl) (mh_rok (by omega) (by decide)) (fun x80 s81 q82 => ?_)
    obtain ⟨r_x80, e0_s81, rfl⟩ := q82
    have f_x80 : x80.toInt = 1 ↔ (0 ≤ p2.toInt ∧ p2.toInt ≤ 99) := by rw [e0_s81]; exact by simp only [t79, Int32.toInt_toInt64]; first | done | exact Iff.rfl
    refine mw_if_eq 24 rfl 71 dX10_was_21 (by decide) (fun c83 => ?_) (fun c83 => ?_)
    · skip
      have r_x80 : mh_r x80 (0) (0) := mh_eq1 (show x80.toInt = (0 : Int32).toInt from c83) r_x80 rc_0 (0) (0) (by decide)
      refine mw_iconst (v := -1) 72 rfl dX10_was_71 (by decide) ?_
      refine mw_iret dX10_was_72 rfl ⟨(-1), rfl, ⟨(mh_r_wk rc_m1 (by decide)), ?_, ?_, hI0, hF0⟩⟩
      · skip
        have := (r_p1).1; have := (r_p1).2
        have := (rc_m1).1; have := (rc_m1).2
        have := kc_m1
        have := kc_0
        have := kc_1
        have := kc_2
        have := kc_3
        have := kc_60
        omega
      · skip
        have := (r_p1).1; have := (r_p1).2
        have := (rc_m1).1; have := (rc_m1).2
        have := kc_m1
        have := kc_0
        have := kc_1
        have := kc_2
        have := kc_3
        have := kc_60
        omega
    · skip
      have r_p2 : mh_r p2 (0) (99) := ⟨by have := f_x80.1 (mh_z1 r_x80 c83); have := ((mh_r_full p2)).1; omega, by have := f_x80.1 (mh_z1 r_x80 c83); have := ((mh_r_full p2)).2; omega⟩
      have r_x80 : mh_r x80 (1) (1) := mh_ne1 (show x80.toInt ≠ (0 : Int32).toInt from c83) r_x80 rc_0 (1) (1) (by decide)
      refine mw_iload_n 25 rfl 3 dX10_was_24 rfl rfl ?_
      refine mw_i2l 26 rfl dX10_was_25 (fun y84 t85 => ?_)
      refine mw_lconst (v := 0) 27 rfl dX10_was_26 (by decide) ?_
      refine mw_ldc2 30 rfl dX10_was_27 ck_X10_170 ?_
      refine mw_callSi [.long y84, .long (0), .long (99)] [] 33 rfl dX10_was_30 ml_X10_154 mc_X10_lies mk_X10_lies (w_X10_lies l G (d + 0) ⟨by omega, by omega⟩ hI0 y84 (0) (99)) rfl rfl (Nat.le_of_ble_eq_true rfl) (mh_rok (by omega) (by decide)) (fun x86 s87 q88 => ?_)
      obtain ⟨r_x86, e0_s87, rfl⟩ := q88
      have f_x86 : x86.toInt = 1 ↔ (0 ≤ p3.toInt ∧ p3.toInt ≤ 99) := by rw [e0_s87]; exact by simp only [t85, Int32.toInt_toInt64]; first | done | exact Iff.rfl
      refine mw_if_eq 36 rfl 71 dX10_was_33 (by decide) (fun c89 => ?_) (fun c89 => ?_)
      · skip
        have r_x86 : mh_r x86 (0) (0) := mh_eq1 (show x86.toInt = (0 : Int32).toInt from c89) r_x86 rc_0 (0) (0) (by decide)
        refine mw_iconst (v := -1) 72 rfl dX10_was_71 (by decide) ?_
        refine mw_iret dX10_was_72 rfl ⟨(-1), rfl, ⟨(mh_r_wk rc_m1 (by decide)), ?_, ?_, hI0, hF0⟩⟩
        · skip
          have := (r_p1).1; have := (r_p1).2
          have := (r_p2).1; have := (r_p2).2
          have := (rc_m1).1; have := (rc_m1).2
          have := kc_m1
          have := kc_0
          have := kc_1
          have := kc_2
          have := kc_3
          have := kc_60
          omega
        · skip
          have := (r_p1).1; have := (r_p1).2
          have := (r_p2).1; have := (r_p2).2
          have := (rc_m1).1; have := (rc_m1).2
          have := kc_m1
          have := kc_0
          have := kc_1
          have := kc_2
          have := kc_3
          have := kc_60
          omega
      · skip
        have r_p3 : mh_r p3 (0) (99) := ⟨by have := f_x86.1 (mh_z1 r_x86 c89); have := ((mh_r_full p3)).1; omega, by have := f_x86.1 (mh_z1 r_x86 c89); have := ((mh_r_full p3)).2; omega⟩
        have r_x86 : mh_r x86 (1) (1) := mh_ne1 (show x86.toInt ≠ (0 : Int32).toInt from c89) r_x86 rc_0 (1) (1) (by decide)
        refine mw_iload 38 rfl 4 dX10_was_36  rfl ?_
        refine mw_i2l 39 rfl dX10_was_38 (fun y90 t91 => ?_)
        refine mw_lconst (v := 0) 40 rfl dX10_was_39 (by decide) ?_
        refine mw_ldc2 43 rfl dX10_was_40 ck_X10_170 ?_
        refine mw_callSi [.long y90, .long (0), .long (99)] [] 46 rfl dX10_was_43 ml_X10_154 mc_X10_lies mk_X10_lies (w_X10_lies l G (d + 0) ⟨by omega, by omega⟩ hI0 y90 (0) (99)) rfl rfl (Nat.le_of_ble_eq_true rfl) (mh_rok (by omega) (by decide)) (fun x92 s93 q94 => ?_)
        obtain ⟨r_x92, e0_s93, rfl⟩ := q94
        have f_x92 : x92.toInt = 1 ↔ (0 ≤ p4.toInt ∧ p4.toInt ≤ 99) := by rw [e0_s93]; exact by simp only [t91, Int32.toInt_toInt64]; first | done | exact Iff.rfl
        refine mw_if_eq 49 rfl 71 dX10_was_46 (by decide) (fun c95 => ?_) (fun c95 => ?_)
        · skip
          have r_x92 : mh_r x92 (0) (0) := mh_eq1 (show x92.toInt = (0 : Int32).toInt from c95) r_x92 rc_0 (0) (0) (by decide)
          refine mw_iconst (v := -1) 72 rfl dX10_was_71 (by decide) ?_
          refine mw_iret dX10_was_72 rfl ⟨(-1), rfl, ⟨(mh_r_wk rc_m1 (by decide)), ?_, ?_, hI0, hF0⟩⟩
          · skip
            have := (r_p1).1; have := (r_p1).2
            have := (r_p2).1; have := (r_p2).2
            have := (r_p3).1; have := (r_p3).2
            have := (rc_m1).1; have := (rc_m1).2
            have := kc_m1
            have := kc_0
            have := kc_1
            have := kc_2
            have := kc_3
            have := kc_60
            omega
          · skip
            have := (r_p1).1; have := (r_p1).2
            have := (r_p2).1; have := (r_p2).2
            have := (r_p3).1; have := (r_p3).2
            have := (rc_m1).1; have := (rc_m1).2
            have := kc_m1
            have := kc_0
            have := kc_1
            have := kc_2
            have := kc_3
            have := kc_60
            omega
        · skip
          have r_p4 : mh_r p4 (0) (99) := ⟨by have := f_x92.1 (mh_z1 r_x92 c95); have := ((mh_r_full p4)).1; omega, by have := f_x92.1 (mh_z1 r_x92 c95); have := ((mh_r_full p4)).2; omega⟩
          have r_x92 : mh_r x92 (1) (1) := mh_ne1 (show x92.toInt ≠ (0 : Int32).toInt from c95) r_x92 rc_0 (1) (1) (by decide)
          refine mw_iload 51 rfl 5 dX10_was_49  rfl ?_
          refine mw_i2l 52 rfl dX10_was_51 (fun y96 t97 => ?_)
          refine mw_lconst (v := 0) 53 rfl dX10_was_52 (by decide) ?_
          refine mw_ldc2 56 rfl dX10_was_53 ck_X10_430 ?_
          refine mw_callSi [.long y96, .long (0), .long (999)] [] 59 rfl dX10_was_56 ml_X10_154 mc_X10_lies mk_X10_lies (w_X10_lies l G (d + 0) ⟨by omega, by omega⟩ hI0 y96 (0) (999)) rfl rfl (Nat.le_of_ble_eq_true rfl) (mh_rok (by omega) (by decide)) (fun x98 s99 q100 => ?_)
          obtain ⟨r_x98, e0_s99, rfl⟩ := q100
          have f_x98 : x98.toInt = 1 ↔ (0 ≤ p5.toInt ∧ p5.toInt ≤ 999) := by rw [e0_s99]; exact by simp only [t97, Int32.toInt_toInt64]; first | done | exact Iff.rfl
          refine mw_if_eq 62 rfl 71 dX10_was_59 (by decide) (fun c101 => ?_) (fun c101 => ?_)
          · skip
            have r_x98 : mh_r x98 (0) (0) := mh_eq1 (show x98.toInt = (0 : Int32).toInt from c101) r_x98 rc_0 (0) (0) (by decide)
            refine mw_iconst (v := -1) 72 rfl dX10_was_71 (by decide) ?_
            refine mw_iret dX10_was_72 rfl ⟨(-1), rfl, ⟨(mh_r_wk rc_m1 (by decide)), ?_, ?_, hI0, hF0⟩⟩
            · skip
              have := (r_p1).1; have := (r_p1).2
              have := (r_p2).1; have := (r_p2).2
              have := (r_p3).1; have := (r_p3).2
              have := (r_p4).1; have := (r_p4).2
              have := (rc_m1).1; have := (rc_m1).2
              have := kc_m1
              have := kc_0
              have := kc_1
              have := kc_2
              have := kc_3
              have := kc_60
              omega
            · skip
              have := (r_p1).1; have := (r_p1).2
              have := (r_p2).1; have := (r_p2).2
              have := (r_p3).1; have := (r_p3).2
              have := (r_p4).1; have := (r_p4).2
              have := (rc_m1).1; have := (rc_m1).2
              have := kc_m1
              have := kc_0
              have := kc_1
              have := kc_2
              have := kc_3
              have := kc_60
              omega
          · skip
            have r_p5 : mh_r p5 (0) (999) := ⟨by have := f_x98.1 (mh_z1 r_x98 c101); have := ((mh_r_full p5)).1; omega, by have := f_x98.1 (mh_z1 r_x98 c101); have := ((mh_r_full p5)).2; omega⟩
            have r_x98 : mh_r x98 (1) (1) := mh_ne1 (show x98.toInt ≠ (0 : Int32).toInt from c101) r_x98 rc_0 (1) (1) (by decide)
            refine mw_aload_n 63 rfl 0 dX10_was_62 rfl rfl ?_
            refine mw_geti 66 rfl dX10_was_63 gf_X10_432 rfl (fun x102 t103 => ?_)
            have r_x102 : mh_r x102 (0) (60) := by rw [t103]; exact rd_57_58 hI0
            refine mw_bipush (v := 60) 68 rfl dX10_was_66 (by decide) ?_
            refine mw_icmp_ne 71 rfl 73 dX10_was_68 (by decide) (fun c104 => ?_) (fun c104 => ?_)
            · skip
              have r_x102 : mh_r x102 (0) (59) := mh_ne1 c104 r_x102 rc_60 (0) (59) (by decide)
              refine mw_aload_n 74 rfl 0 dX10_was_73 rfl rfl ?_
              refine mw_geta 77 rfl dX10_was_74 gf_X10_134 rfl 97 (mh_rf hI0 94 rfl) ?_
              refine mw_iconst (v := 3) 78 rfl dX10_was_77 (by decide) ?_
              refine mw_aload_n 79 rfl 0 dX10_was_78 rfl rfl ?_
              refine mw_geti 82 rfl dX10_was_79 gf_X10_432 rfl (fun x105 t106 => ?_)
              obtain rfl : x102 = x105 := t103.trans t106.symm
              refine mw_imul 83 rfl (0) (177) dX10_was_82 rc_3 r_x102 (by decide) (fun x107 t108 r_x107 => ?_)
              refine mw_iload_n 84 rfl 1 dX10_was_83 rfl rfl ?_
              refine mw_iast 85 rfl dX10_was_84 rfl r_x107 (by decide) (fun s109 t110 => ?_)
              have hI_s109 : mh_I B D s109 := by rw [t110]; exact wr_97 hI0
              have hF_s109 : mh_F S_X10_was s0 s109 := by rw [t110]; exact mh_F_pI hF0 (mh_si 0 rfl)
              refine mw_aload_n 86 rfl 0 dX10_was_85 rfl rfl ?_
              refine mw_geta 89 rfl dX10_was_86 gf_X10_134 rfl 97 (mh_rf hI_s109 94 rfl) ?_
              refine mw_iconst (v := 3) 90 rfl dX10_was_89 (by decide) ?_
              refine mw_aload_n 91 rfl 0 dX10_was_90 rfl rfl ?_
              refine mw_geti 94 rfl dX10_was_91 gf_X10_432 rfl (fun x111 t112 => ?_)
              have t113 : x102 = s109.1 57 58 := by rw [t110]; exact (t103).trans (mh_pI_n (by omega)).symm
              obtain rfl : x102 = x111 := t113.trans t112.symm
              refine mw_imul 95 rfl (0) (177) dX10_was_94 rc_3 r_x102 (by decide) (fun x114 t115 r_x114 => ?_)
              obtain rfl : x107 = x114 := Int32.toInt_inj.mp (t108.trans t115.symm)
              refine mw_iconst (v := 1) 96 rfl dX10_was_95 (by decide) ?_
              refine mw_iadd 97 rfl (1) (178) dX10_was_96 r_x107 rc_1 (by decide) (fun x116 t117 r_x116 => ?_)
              refine mw_iload_n 98 rfl 2 dX10_was_97 rfl rfl ?_
              refine mw_iast 99 rfl dX10_was_98 rfl r_x116 (by decide) (fun s118 t119 => ?_)
              have hI_s118 : mh_I B D s118 := by rw [t119]; exact wr_97 hI_s109
              have hF_s118 : mh_F S_X10_was s0 s118 := by rw [t119]; exact mh_F_pI hF_s109 (mh_si 0 rfl)
              refine mw_aload_n 100 rfl 0 dX10_was_99 rfl rfl ?_
              refine mw_geta 103 rfl dX10_was_100 gf_X10_134 rfl 97 (mh_rf hI_s118 94 rfl) ?_
              refine mw_iconst (v := 3) 104 rfl dX10_was_103 (by decide) ?_
              refine mw_aload_n 105 rfl 0 dX10_was_104 rfl rfl ?_
              refine mw_geti 108 rfl dX10_was_105 gf_X10_432 rfl (fun x120 t121 => ?_)
              have t122 : x102 = s118.1 57 58 := by rw [t119]; exact (t113).trans (mh_pI_n (by omega)).symm
              obtain rfl : x102 = x120 := t122.trans t121.symm
              refine mw_imul 109 rfl (0) (177) dX10_was_108 rc_3 r_x102 (by decide) (fun x123 t124 r_x123 => ?_)
              obtain rfl : x107 = x123 := Int32.toInt_inj.mp (t108.trans t124.symm)
              refine mw_iconst (v := 2) 110 rfl dX10_was_109 (by decide) ?_
              refine mw_iadd 111 rfl (2) (179) dX10_was_110 r_x107 rc_2 (by decide) (fun x125 t126 r_x125 => ?_)
              refine mw_iload_n 112 rfl 3 dX10_was_111 rfl rfl ?_
              refine mw_iast 113 rfl dX10_was_112 rfl r_x125 (by decide) (fun s127 t128 => ?_)
              have hI_s127 : mh_I B D s127 := by rw [t128]; exact wr_97 hI_s118
              have hF_s127 : mh_F S_X10_was s0 s127 := by rw [t128]; exact mh_F_pI hF_s118 (mh_si 0 rfl)
              refine mw_aload_n 114 rfl 0 dX10_was_113 rfl rfl ?_
              refine mw_geta 117 rfl dX10_was_114 gf_X10_137 rfl 98 (mh_rf hI_s127 95 rfl) ?_
              refine mw_aload_n 118 rfl 0 dX10_was_117 rfl rfl ?_
              refine mw_geti 121 rfl dX10_was_118 gf_X10_432 rfl (fun x129 t130 => ?_)
              have t131 : x102 = s127.1 57 58 := by rw [t128]; exact (t122).trans (mh_pI_n (by omega)).symm
              obtain rfl : x102 = x129 := t131.trans t130.symm
              refine mw_iload 123 rfl 4 dX10_was_121  rfl ?_
              refine mw_iast 124 rfl dX10_was_123 rfl r_x102 (by decide) (fun s132 t133 => ?_)
              have hI_s132 : mh_I B D s132 := by rw [t133]; exact wr_98 hI_s127
              have hF_s132 : mh_F S_X10_was s0 s132 := by rw [t133]; exact mh_F_pI hF_s127 (mh_si 1 rfl)
              refine mw_aload_n 125 rfl 0 dX10_was_124 rfl rfl ?_
              refine mw_geta 128 rfl dX10_was_125 gf_X10_140 rfl 99 (mh_rf hI_s132 96 rfl) ?_
              refine mw_aload_n 129 rfl 0 dX10_was_128 rfl rfl ?_
              refine mw_geti 132 rfl dX10_was_129 gf_X10_432 rfl (fun x134 t135 => ?_)
              have t136 : x102 = s132.1 57 58 := by rw [t133]; exact (t131).trans (mh_pI_n (by omega)).symm
              obtain rfl : x102 = x134 := t136.trans t135.symm
              refine mw_iload 134 rfl 5 dX10_was_132  rfl ?_
              refine mw_iast 135 rfl dX10_was_134 rfl r_x102 (by decide) (fun s137 t138 => ?_)
              have hI_s137 : mh_I B D s137 := by rw [t138]; exact wr_99 hI_s132
              have hF_s137 : mh_F S_X10_was s0 s137 := by rw [t138]; exact mh_F_pI hF_s132 (mh_si 2 rfl)
              refine mw_aload_n 136 rfl 0 dX10_was_135 rfl rfl ?_
              refine mw_dup 137 rfl dX10_was_136 rfl ?_
              refine mw_geti 140 rfl dX10_was_137 gf_X10_432 rfl (fun x139 t140 => ?_)
              have t141 : x102 = s137.1 57 58 := by rw [t138]; exact (t136).trans (mh_pI_n (by omega)).symm
              obtain rfl : x102 = x139 := t141.trans t140.symm
              refine mw_iconst (v := 1) 141 rfl dX10_was_140 (by decide) ?_
              refine mw_iadd 142 rfl (1) (60) dX10_was_141 r_x102 rc_1 (by decide) (fun x142 t143 r_x142 => ?_)
              refine mw_puti 145 rfl dX10_was_142 pf_X10_432 rfl (fun s144 t145 => ?_)
              have hI_s144 : mh_I B D s144 := by rw [t145]; exact wr_57_58 hI_s137 (mh_r_wk r_x142 (by decide))
              have hF_s144 : mh_F S_X10_was s0 s144 := by rw [t145]; exact mh_F_pI hF_s137 (mh_sj 3 rfl)
              refine mw_aload_n 146 rfl 0 dX10_was_145 rfl rfl ?_
              refine mw_geti 149 rfl dX10_was_146 gf_X10_432 rfl (fun x146 t147 => ?_)
              have t148 : x142 = s144.1 57 58 := by rw [t145]; exact mh_pI_s.symm
              obtain rfl : x142 = x146 := t148.trans t147.symm
              refine mw_iret dX10_was_149 rfl ⟨x142, rfl, ⟨(mh_r_wk r_x142 (by decide)), ?_, ?_, hI_s144, hF_s144⟩⟩
              · skip
                have := (r_p1).1; have := (r_p1).2
                have := (r_p2).1; have := (r_p2).2
                have := (r_p3).1; have := (r_p3).2
                have := (r_p4).1; have := (r_p4).2
                have := (r_p5).1; have := (r_p5).2
                have := (r_x142).1; have := (r_x142).2
                have := (r_x102).1; have := (r_x102).2
                have := (rc_1).1; have := (rc_1).2
                have := kc_m1
                have := kc_0
                have := kc_1
                have := kc_2
                have := kc_3
                have := kc_60
                have := congrArg Int32.toInt t103
                have := congrArg Int32.toInt t106
                have := congrArg Int32.toInt t112
                have := congrArg Int32.toInt t113
                have := congrArg Int32.toInt t121
                have := congrArg Int32.toInt t122
                have := congrArg Int32.toInt t130
                have := congrArg Int32.toInt t131
                have := congrArg Int32.toInt t135
                have := congrArg Int32.toInt t136
                have := congrArg Int32.toInt t140
                have := congrArg Int32.toInt t141
                have := congrArg Int32.toInt t147
                have := congrArg Int32.toInt t148
                omega
              · skip
                have := (r_p1).1; have := (r_p1).2
                have := (r_p2).1; have := (r_p2).2
                have := (r_p3).1; have := (r_p3).2
                have := (r_p4).1; have := (r_p4).2
                have := (r_p5).1; have := (r_p5).2
                have := (r_x142).1; have := (r_x142).2
                have := (r_x102).1; have := (r_x102).2
                have := (rc_1).1; have := (rc_1).2
                have := kc_m1
                have := kc_0
                have := kc_1
                have := kc_2
                have := kc_3
                have := kc_60
                have := congrArg Int32.toInt t103
                have := congrArg Int32.toInt t106
                have := congrArg Int32.toInt t112
                have := congrArg Int32.toInt t113
                have := congrArg Int32.toInt t121
                have := congrArg Int32.toInt t122
                have := congrArg Int32.toInt t130
                have := congrArg Int32.toInt t131
                have := congrArg Int32.toInt t135
                have := congrArg Int32.toInt t136
                have := congrArg Int32.toInt t140
                have := congrArg Int32.toInt t141
                have := congrArg Int32.toInt t147
                have := congrArg Int32.toInt t148
                omega
            · skip
              have r_x102 : mh_r x102 (60) (60) := mh_eq1 c104 r_x102 rc_60 (60) (60) (by decide)
              refine mw_iconst (v := -1) 72 rfl dX10_was_71 (by decide) ?_
              refine mw_iret dX10_was_72 rfl ⟨(-1), rfl, ⟨(mh_r_wk rc_m1 (by decide)), ?_, ?_, hI0, hF0⟩⟩
              · skip
                have := (r_p1).1; have := (r_p1).2
                have := (r_p2).1; have := (r_p2).2
                have := (r_p3).1; have := (r_p3).2
                have := (r_p4).1; have := (r_p4).2
                have := (r_p5).1; have := (r_p5).2
                have := (rc_m1).1; have := (rc_m1).2
                have := (r_x102).1; have := (r_x102).2
                have := kc_m1
                have := kc_0
                have := kc_1
                have := kc_2
                have := kc_3
                have := kc_60
                have := congrArg Int32.toInt t103
                omega
              · skip
                have := (r_p1).1; have := (r_p1).2
                have := (r_p2).1; have := (r_p2).2
                have := (r_p3).1; have := (r_p3).2
                have := (r_p4).1; have := (r_p4).2
                have := (r_p5).1; have := (r_p5).2
                have := (rc_m1).1; have := (rc_m1).2
                have := (r_x102).1; have := (r_x102).2
                have := kc_m1
                have := kc_0
                have := kc_1
                have := kc_2
                have := kc_3
                have := kc_60
                have := congrArg Int32.toInt t103
                omega

def V_X9_undo (B D : Int) (s0 : mh_H) : Int32 → mh_H → Prop := fun z s => mh_r z (0) (1) ∧ (z.toInt = (s0.1 0 13).toInt) ∧ mh_I B D s ∧ mh_F S_X9_undo s0 s
set_option maxRecDepth 100000 in
set_option maxHeartbeats 4000000 in
theorem v_X9_undo (l : Launch) (G : mh_G) (d : Nat) {B D : Int} (hB : B ≤ 1960000000 ∧ D ≤ 1960000000) {s0 : mh_H} (hI0 : mh_I B D s0) : mh_Mi l G (d + 2) mM_X9_undo [.ref (G.2.2.2 0)] s0 (V_X9_undo B D s0) := by
  refine mh_enter (lv := [(0, .ref (G.2.2.2 0))]) (by decide) rfl (Nat.le_of_ble_eq_true rfl) ?_
  have hF0 : mh_F S_X9_undo s0 s0 := mh_F_rf
  refine mw_aload_n 1 rfl 0 dX9_undo_0 rfl rfl ?_
  refine mw_geti 4 rfl dX9_undo_1 gf_X9_90 rfl (fun x7 t8 => ?_)
  have r_x7 : mh_r x7 (0) (1) := by rw [t8]; exact rd_0_13 hI0
  refine mw_if_ne 7 rfl 9 dX9_undo_4 (by decide) (fun c9 => ?_) (fun c9 => ?_)
  · skip
    have r_x7 : mh_r x7 (1) (1) := mh_ne1 (show x7.toInt ≠ (0 : Int32).toInt from c9) r_x7 rc_0 (1) (1) (by decide)
    refine mw_aload_n 10 rfl 0 dX9_undo_9 rfl rfl ?_
    refine mw_geta 13 rfl dX9_undo_10 gf_X9_10 rfl 1 (mh_rf hI0 0 rfl) ?_
    refine mw_aload_n 14 rfl 0 dX9_undo_13 rfl rfl ?_
    refine mw_geta 17 rfl dX9_undo_14 gf_X9_16 rfl 7 (mh_rf hI0 1 rfl) ?_
    refine mw_callVv [.ref (G.2.2.2 7)] [] 20 rfl dX9_undo_17 ml_X9_169 mc_X8_copyFrom mk_X8_copyFrom rfl rfl (by decide) (w_X8_copyFrom l G (d + 0) ⟨by omega, by omega⟩ hI0 1 (Or.inl rfl) 7 (Or.inr (Or.inl rfl))) rfl rfl (Nat.le_of_ble_eq_true rfl) (mh_rok (by omega) (by decide)) (fun s11 q12 => ?_)
    obtain ⟨hI_s11, hG_s11⟩ := q12
    have hF_s11 : mh_F S_X9_undo s0 s11 := mh_F_tl hF0 hG_s11 (by decide +kernel)
    refine mw_iconst (v := 1) 21 rfl dX9_undo_20 (by decide) ?_
    refine mw_zret dX9_undo_21 rfl (mh_r_wk rc_1 (by decide)) ⟨(1), rfl, ⟨(mh_r_wk rc_1 (by decide)), ?_, hI_s11, hF_s11⟩⟩
    · skip
      have := (rc_1).1; have := (rc_1).2
      have := (r_x7).1; have := (r_x7).2
      have := kc_0
      have := kc_1
      have := congrArg Int32.toInt t8
      omega
  · skip
    have r_x7 : mh_r x7 (0) (0) := mh_eq1 (show x7.toInt = (0 : Int32).toInt from c9) r_x7 rc_0 (0) (0) (by decide)
    refine mw_iconst (v := 0) 8 rfl dX9_undo_7 (by decide) ?_
    refine mw_zret dX9_undo_8 rfl (mh_r_wk rc_0 (by decide)) ⟨(0), rfl, ⟨(mh_r_wk rc_0 (by decide)), ?_, hI0, hF0⟩⟩
    · skip
      have := (rc_0).1; have := (rc_0).2
      have := (r_x7).1; have := (r_x7).2
      have := kc_0
      have := kc_1
      have := congrArg Int32.toInt t8
      omega

def V_X10_undo (B D : Int) (s0 : mh_H) : Int32 → mh_H → Prop := fun z s => mh_r z (0) (1) ∧ (z.toInt = (s0.1 57 64).toInt) ∧ mh_I B B s ∧ mh_F S_X10_undo s0 s
set_option maxRecDepth 100000 in
set_option maxHeartbeats 4000000 in
theorem v_X10_undo (l : Launch) (G : mh_G) (d : Nat) {B D : Int} (hB : B ≤ 1980000000 ∧ D ≤ 1980000000) {s0 : mh_H} (hI0 : mh_I B B s0) : mh_Mi l G (d + 1) mM_X10_undo [.ref (G.2.2.2 57)] s0 (V_X10_undo B D s0) := by
  refine mh_enter (lv := [(0, .ref (G.2.2.2 57))]) (by decide) rfl (Nat.le_of_ble_eq_true rfl) ?_
  have hF0 : mh_F S_X10_undo s0 s0 := mh_F_rf
  refine mw_aload_n 1 rfl 0 dX10_undo_0 rfl rfl ?_
  refine mw_geti 4 rfl dX10_undo_1 gf_X10_462 rfl (fun x99 t100 => ?_)
  have r_x99 : mh_r x99 (0) (1) := by rw [t100]; exact rd_57_64 hI0
  refine mw_if_ne 7 rfl 9 dX10_undo_4 (by decide) (fun c101 => ?_) (fun c101 => ?_)
  · skip
    have r_x99 : mh_r x99 (1) (1) := mh_ne1 (show x99.toInt ≠ (0 : Int32).toInt from c101) r_x99 rc_0 (1) (1) (by decide)
    refine mw_aload_n 10 rfl 0 dX10_undo_9 rfl rfl ?_
    refine mw_iconst (v := 1) 11 rfl dX10_undo_10 (by decide) ?_
    refine mw_callVv [.int (1)] [] 14 rfl dX10_undo_11 ml_X10_394 mc_X10_putsBack mk_X10_putsBack rfl rfl (by decide) (w_X10_putsBack l G (d + 0) ⟨by have := (r_x99).1; have := (r_x99).2; have := kc_0; have := kc_1; have := kc_100; skip; omega, by have := (r_x99).1; have := (r_x99).2; have := kc_0; have := kc_1; have := kc_100; skip; omega⟩ hI0 (1) (mh_r_wk rc_1 (by decide))) rfl rfl (Nat.le_of_ble_eq_true rfl) (mh_rok (by omega) (by decide)) (fun s103 q104 => ?_)
    obtain ⟨hI_s103, hG_s103⟩ := q104
    have hF_s103 : mh_F S_X10_undo s0 s103 := mh_F_tl hF0 hG_s103 (by decide +kernel)
    refine mw_aload_n 15 rfl 0 dX10_undo_14 rfl rfl ?_
    refine mw_aload_n 16 rfl 0 dX10_undo_15 rfl rfl ?_
    refine mw_geti 19 rfl dX10_undo_16 gf_X10_465 rfl (fun x105 t106 => ?_)
    have r_x105 : mh_r x105 (0) (65535) := by rw [t106]; exact rd_57_65 hI_s103
    refine mw_puti 22 rfl dX10_undo_19 pf_X10_13 rfl (fun s107 t108 => ?_)
    have hI_s107 : mh_I B B s107 := by rw [t108]; exact wr_57_3 hI_s103 r_x105
    have hF_s107 : mh_F S_X10_undo s0 s107 := by rw [t108]; exact mh_F_pI hF_s103 (mh_sj 6 rfl)
    refine mw_iconst (v := 0) 23 rfl dX10_undo_22 (by decide) ?_
    refine mw_istore_n 24 rfl [(1, .int (0)), (0, .ref (G.2.2.2 57))] dX10_undo_23 rfl (by decide) rfl ?_
    have L24 : ∀ n1 : Nat, ∀ (x179 : Int32) (s180 : mh_H), mh_r x179 (0) (100) → mh_I B B s180 → mh_F S_X10_undo s0 s180 → (100) - x179.toInt < (n1 : Int) → mh_W G (mh_XM l G (d + 1) (mh_Qi (V_X10_undo B D s0))) mM_X10_undo 24 [(0, .ref (G.2.2.2 57)), (1, .int x179)] [] s180 := by
      intro n1
      induction n1 with
      | zero =>
        intro x179 s180 r_x179 hI_s180 hF_s180 hmn1
        exact absurd hmn1 (by have := r_x179.1; have := r_x179.2; omega)
      | succ n1 ihn1 =>
        intro x179 s180 r_x179 hI_s180 hF_s180 hmn1
        refine mw_iload_n 25 rfl 1 dX10_undo_24 rfl rfl ?_
        refine mw_bipush (v := 100) 27 rfl dX10_undo_25 (by decide) ?_
        refine mw_icmp_ge 30 rfl 48 dX10_undo_27 (by decide) (fun c190 => ?_) (fun c190 => ?_)
        · skip
          have r_x179 : mh_r x179 (100) (100) := mh_le2 c190 rc_100 r_x179 (100) (by decide)
          refine mw_iconst (v := 1) 49 rfl dX10_undo_48 (by decide) ?_
          refine mw_zret dX10_undo_49 rfl (mh_r_wk rc_1 (by decide)) ⟨(1), rfl, ⟨(mh_r_wk rc_1 (by decide)), ?_, hI_s180, hF_s180⟩⟩
          · skip
            have := (r_x179).1; have := (r_x179).2
            have := (rc_1).1; have := (rc_1).2
            have := kc_0
            have := kc_1
            have := kc_100
            have := congrArg Int32.toInt t100
            have := congrArg Int32.toInt t106
            omega
        · skip
          have r_x179 : mh_r x179 (0) (99) := mh_lt1 c190 r_x179 rc_100 (99) (by decide)
          refine mw_aload_n 31 rfl 0 dX10_undo_30 rfl rfl ?_
          refine mw_geta 34 rfl dX10_undo_31 gf_X10_30 rfl 63 (mh_rf hI_s180 60 rfl) ?_
          refine mw_iload_n 35 rfl 1 dX10_undo_34 rfl rfl ?_
          refine mw_aload_n 36 rfl 0 dX10_undo_35 rfl rfl ?_
          refine mw_geta 39 rfl dX10_undo_36 gf_X10_149 rfl 102 (mh_rf hI_s180 99 rfl) ?_
          refine mw_iload_n 40 rfl 1 dX10_undo_39 rfl rfl ?_
          refine mw_iald 41 rfl dX10_undo_40 rfl r_x179 (by decide) (fun x191 t192 => ?_)
          refine mw_iast 42 rfl dX10_undo_41 rfl r_x179 (by decide) (fun s193 t194 => ?_)
          have hI_s193 : mh_I B B s193 := by rw [t194]; exact wr_63 hI_s180
          have hF_s193 : mh_F S_X10_undo s0 s193 := by rw [t194]; exact mh_F_pI hF_s180 (mh_si 7 rfl)
          refine mw_iincR (k := 1) (1) (100) 45 rfl (fun z => [(1, .int z), (0, .ref (G.2.2.2 57))]) dX10_undo_42 rfl (by decide) (fun _ => rfl) r_x179 (by decide) (by decide) (fun x195 t196 r_x195 => ?_)
          refine mw_goto 48 rfl 24 dX10_undo_45 (by decide) ?_
          exact mw_lv [1, 0] rfl (ihn1 x195 s193 (mh_r_wk r_x195 (by decide)) hI_s193 hF_s193 (by have : x195.toInt = x179.toInt + (1) := t196; omega))
    exact mw_lv [1, 0] rfl (L24 101 (0) s107 (mh_r_wk rc_0 (by decide)) hI_s107 hF_s107 (by have := (rc_0).1; have := (rc_0).2; omega))
  · skip
    have r_x99 : mh_r x99 (0) (0) := mh_eq1 (show x99.toInt = (0 : Int32).toInt from c101) r_x99 rc_0 (0) (0) (by decide)
    refine mw_iconst (v := 0) 8 rfl dX10_undo_7 (by decide) ?_
    refine mw_zret dX10_undo_8 rfl (mh_r_wk rc_0 (by decide)) ⟨(0), rfl, ⟨(mh_r_wk rc_0 (by decide)), ?_, hI0, hF0⟩⟩
    · skip
      have := (rc_0).1; have := (rc_0).2
      have := (r_x99).1; have := (r_x99).2
      have := kc_0
      have := kc_1
      have := kc_100
      have := congrArg Int32.toInt t100
      omega

def V_X9_keep (B D : Int) (s0 : mh_H) : Int32 → mh_H → Prop := fun z s => mh_r z (-2147483648) (2147483647) ∧ ((s.1 0 13).toInt = 1) ∧ mh_I B D s ∧ mh_F S_X9_keep s0 s
set_option maxRecDepth 100000 in
set_option maxHeartbeats 4000000 in
theorem v_X9_keep (l : Launch) (G : mh_G) (d : Nat) {B D : Int} (hB : B ≤ 1960000000 ∧ D ≤ 1960000000) {s0 : mh_H} (hI0 : mh_I B D s0) : mh_Mi l G (d + 2) mM_X9_keep [.ref (G.2.2.2 0)] s0 (V_X9_keep B D s0) := by
  refine mh_enter (lv := [(0, .ref (G.2.2.2 0))]) (by decide) rfl (Nat.le_of_ble_eq_true rfl) ?_
  have hF0 : mh_F S_X9_keep s0 s0 := mh_F_rf
  refine mw_aload_n 1 rfl 0 dX9_keep_0 rfl rfl ?_
  refine mw_geta 4 rfl dX9_keep_1 gf_X9_16 rfl 7 (mh_rf hI0 1 rfl) ?_
  refine mw_aload_n 5 rfl 0 dX9_keep_4 rfl rfl ?_
  refine mw_geta 8 rfl dX9_keep_5 gf_X9_10 rfl 1 (mh_rf hI0 0 rfl) ?_
  refine mw_callVv [.ref (G.2.2.2 1)] [] 11 rfl dX9_keep_8 ml_X9_169 mc_X8_copyFrom mk_X8_copyFrom rfl rfl (by decide) (w_X8_copyFrom l G (d + 0) ⟨by omega, by omega⟩ hI0 7 (Or.inr (Or.inl rfl)) 1 (Or.inl rfl)) rfl rfl (Nat.le_of_ble_eq_true rfl) (mh_rok (by omega) (by decide)) (fun s9 q10 => ?_)
  obtain ⟨hI_s9, hG_s9⟩ := q10
  have hF_s9 : mh_F S_X9_keep s0 s9 := mh_F_tl hF0 hG_s9 (by decide +kernel)
  refine mw_aload_n 12 rfl 0 dX9_keep_11 rfl rfl ?_
  refine mw_iconst (v := 1) 13 rfl dX9_keep_12 (by decide) ?_
  refine mw_putz 16 rfl dX9_keep_13 pf_X9_90 rfl (mh_r_wk rc_1 (by decide)) (fun s11 t12 => ?_)
  have hI_s11 : mh_I B D s11 := by rw [t12]; exact wr_0_13 hI_s9 (mh_r_wk rc_1 (by decide))
  have hF_s11 : mh_F S_X9_keep s0 s11 := by rw [t12]; exact mh_F_pI hF_s9 (mh_sj 8 rfl)
  refine mw_aload_n 17 rfl 0 dX9_keep_16 rfl rfl ?_
  refine mw_geta 20 rfl dX9_keep_17 gf_X9_10 rfl 1 (mh_rf hI_s11 0 rfl) ?_
  refine mw_geti 23 rfl dX9_keep_20 gf_X9_176 rfl (fun x13 t14 => ?_)
  refine mw_iret dX9_keep_23 rfl ⟨x13, rfl, ⟨(mh_r_full x13), ?_, hI_s11, hF_s11⟩⟩
  · skip
    have := kc_0
    have := kc_1
    have := congrArg Int32.toInt t14
    omega

def V_X10_keep (B D : Int) (s0 : mh_H) : Int32 → mh_H → Prop := fun z s => mh_r z (0) (1980000000) ∧ ((s.1 57 64).toInt = 1) ∧ mh_I B B s ∧ mh_F S_X10_keep s0 s
set_option maxRecDepth 100000 in
set_option maxHeartbeats 4000000 in
theorem v_X10_keep (l : Launch) (G : mh_G) (d : Nat) {B D : Int} (hB : B ≤ 1980000000 ∧ D ≤ 1980000000) {s0 : mh_H} (hI0 : mh_I B B s0) : mh_Mi l G (d + 1) mM_X10_keep [.ref (G.2.2.2 57)] s0 (V_X10_keep B D s0) := by
  refine mh_enter (lv := [(0, .ref (G.2.2.2 57))]) (by decide) rfl (Nat.le_of_ble_eq_true rfl) ?_
  have hF0 : mh_F S_X10_keep s0 s0 := mh_F_rf
  refine mw_aload_n 1 rfl 0 dX10_keep_0 rfl rfl ?_
  refine mw_iconst (v := 1) 2 rfl dX10_keep_1 (by decide) ?_
  refine mw_putz 5 rfl dX10_keep_2 pf_X10_462 rfl (mh_r_wk rc_1 (by decide)) (fun s100 t101 => ?_)
  have hI_s100 : mh_I B B s100 := by rw [t101]; exact wr_57_64 hI0 (mh_r_wk rc_1 (by decide))
  have hF_s100 : mh_F S_X10_keep s0 s100 := by rw [t101]; exact mh_F_pI hF0 (mh_sj 0 rfl)
  refine mw_aload_n 6 rfl 0 dX10_keep_5 rfl rfl ?_
  refine mw_iconst (v := 1) 7 rfl dX10_keep_6 (by decide) ?_
  refine mw_callVv [.int (1)] [] 10 rfl dX10_keep_7 ml_X10_388 mc_X10_setsAside mk_X10_setsAside rfl rfl (by decide) (w_X10_setsAside l G (d + 0) ⟨by have := kc_0; have := kc_1; have := kc_100; skip; omega, by have := kc_0; have := kc_1; have := kc_100; skip; omega⟩ hI_s100 (1) (mh_r_wk rc_1 (by decide)) (by omega)) rfl rfl (Nat.le_of_ble_eq_true rfl) (mh_rok (by omega) (by decide)) (fun s103 q104 => ?_)
  obtain ⟨hI_s103, hG_s103⟩ := q104
  have hF_s103 : mh_F S_X10_keep s0 s103 := mh_F_tl hF_s100 hG_s103 (by decide +kernel)
  refine mw_aload_n 11 rfl 0 dX10_keep_10 rfl rfl ?_
  refine mw_aload_n 12 rfl 0 dX10_keep_11 rfl rfl ?_
  refine mw_geti 15 rfl dX10_keep_12 gf_X10_13 rfl (fun x105 t106 => ?_)
  have r_x105 : mh_r x105 (0) (65535) := by rw [t106]; exact rd_57_3 hI_s103
  refine mw_puti 18 rfl dX10_keep_15 pf_X10_465 rfl (fun s107 t108 => ?_)
  have hI_s107 : mh_I B B s107 := by rw [t108]; exact wr_57_65 hI_s103 r_x105
  have hF_s107 : mh_F S_X10_keep s0 s107 := by rw [t108]; exact mh_F_pI hF_s103 (mh_sj 7 rfl)
  refine mw_iconst (v := 0) 19 rfl dX10_keep_18 (by decide) ?_
  refine mw_istore_n 20 rfl [(1, .int (0)), (0, .ref (G.2.2.2 57))] dX10_keep_19 rfl (by decide) rfl ?_
  have L20 : ∀ n1 : Nat, ∀ (x179 : Int32) (s180 : mh_H), mh_r x179 (0) (100) → mh_I B B s180 → mh_F S_X10_keep s0 s180 → (100) - x179.toInt < (n1 : Int) → mh_W G (mh_XM l G (d + 1) (mh_Qi (V_X10_keep B D s0))) mM_X10_keep 20 [(0, .ref (G.2.2.2 57)), (1, .int x179)] [] s180 := by
    intro n1
    induction n1 with
    | zero =>
      intro x179 s180 r_x179 hI_s180 hF_s180 hmn1
      exact absurd hmn1 (by have := r_x179.1; have := r_x179.2; omega)
    | succ n1 ihn1 =>
      intro x179 s180 r_x179 hI_s180 hF_s180 hmn1
      refine mw_iload_n 21 rfl 1 dX10_keep_20 rfl rfl ?_
      refine mw_bipush (v := 100) 23 rfl dX10_keep_21 (by decide) ?_
      refine mw_icmp_ge 26 rfl 44 dX10_keep_23 (by decide) (fun c190 => ?_) (fun c190 => ?_)
      · skip
        have r_x179 : mh_r x179 (100) (100) := mh_le2 c190 rc_100 r_x179 (100) (by decide)
        refine mw_aload_n 45 rfl 0 dX10_keep_44 rfl rfl ?_
        refine mw_geti 48 rfl dX10_keep_45 gf_X10_301 rfl (fun x191 t192 => ?_)
        have r_x191 : mh_r x191 (0) (1980000000) := by rw [t192]; exact mh_r_wk (rd_57_2 hI_s180) ⟨by decide, by skip; omega⟩
        refine mw_iret dX10_keep_48 rfl ⟨x191, rfl, ⟨r_x191, ?_, hI_s180, hF_s180⟩⟩
        · skip
          have := (r_x179).1; have := (r_x179).2
          have := (r_x191).1; have := (r_x191).2
          have := kc_0
          have := kc_1
          have := kc_100
          have := congrArg Int32.toInt t106
          have := congrArg Int32.toInt t192
          omega
      · skip
        have r_x179 : mh_r x179 (0) (99) := mh_lt1 c190 r_x179 rc_100 (99) (by decide)
        refine mw_aload_n 27 rfl 0 dX10_keep_26 rfl rfl ?_
        refine mw_geta 30 rfl dX10_keep_27 gf_X10_149 rfl 102 (mh_rf hI_s180 99 rfl) ?_
        refine mw_iload_n 31 rfl 1 dX10_keep_30 rfl rfl ?_
        refine mw_aload_n 32 rfl 0 dX10_keep_31 rfl rfl ?_
        refine mw_geta 35 rfl dX10_keep_32 gf_X10_30 rfl 63 (mh_rf hI_s180 60 rfl) ?_
        refine mw_iload_n 36 rfl 1 dX10_keep_35 rfl rfl ?_
        refine mw_iald 37 rfl dX10_keep_36 rfl r_x179 (by decide) (fun x193 t194 => ?_)
        refine mw_iast 38 rfl dX10_keep_37 rfl r_x179 (by decide) (fun s195 t196 => ?_)
        have hI_s195 : mh_I B B s195 := by rw [t196]; exact wr_102 hI_s180
        have hF_s195 : mh_F S_X10_keep s0 s195 := by rw [t196]; exact mh_F_pI hF_s180 (mh_si 8 rfl)
        refine mw_iincR (k := 1) (1) (100) 41 rfl (fun z => [(1, .int z), (0, .ref (G.2.2.2 57))]) dX10_keep_38 rfl (by decide) (fun _ => rfl) r_x179 (by decide) (by decide) (fun x197 t198 r_x197 => ?_)
        refine mw_goto 44 rfl 20 dX10_keep_41 (by decide) ?_
        exact mw_lv [1, 0] rfl (ihn1 x197 s195 (mh_r_wk r_x197 (by decide)) hI_s195 hF_s195 (by have : x197.toInt = x179.toInt + (1) := t198; omega))
  exact mw_lv [1, 0] rfl (L20 101 (0) s107 (mh_r_wk rc_0 (by decide)) hI_s107 hF_s107 (by have := (rc_0).1; have := (rc_0).2; omega))


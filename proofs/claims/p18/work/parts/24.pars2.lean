def S_X10_opens : List (Nat × Nat) := [(57, 28), (76, 9999), (57, 29), (57, 23), (57, 25)]
def P_X10_opens (B D : Int) (s0 : mh_H) (b : Int) : mh_H → Prop := fun s => (mh_pb b s) ∧ (s.1 76 = mh_u1 (s0.1 76) (s0.1 57 29).toInt.toNat (mh_hr s0)) ∧ ((s.1 57 29).toInt = (s0.1 57 29).toInt + 1 ∧ (s.1 57 23).toInt = (s0.1 57 23).toInt + 1 ∧ ((s.1 57 25).toInt = 0 → (s0.1 57 25).toInt = 0)) ∧ mh_I B D s ∧ mh_F S_X10_opens s0 s
set_option maxRecDepth 100000 in
set_option maxHeartbeats 4000000 in
theorem w_X10_opens (l : Launch) (G : mh_G) (d : Nat) {B D : Int} (hB : B ≤ 1980000000 ∧ D ≤ 1980000000) {s0 : mh_H} (hI0 : mh_I B D s0) (b : Int) (hb : mh_pb b s0) (hlt : (s0.1 57 23).toInt < (s0.1 57 24).toInt) : mh_Mv l G (d + 1) mM_X10_opens [.ref (G.2.2.2 57)] s0 (P_X10_opens B D s0 b) := by
  refine mh_enter (lv := [(0, .ref (G.2.2.2 57))]) (by decide) rfl (Nat.le_of_ble_eq_true rfl) ?_
  have hF0 : mh_F S_X10_opens s0 s0 := mh_F_rf
  obtain ⟨x53, t54⟩ : ∃ z : Int32, z = s0.1 57 23 := ⟨_, rfl⟩
  obtain ⟨x55, t56⟩ : ∃ z : Int32, z = s0.1 57 24 := ⟨_, rfl⟩
  obtain ⟨x57, t58⟩ : ∃ z : Int32, z = s0.1 57 25 := ⟨_, rfl⟩
  obtain ⟨x59, t60⟩ : ∃ z : Int32, z = s0.1 57 27 := ⟨_, rfl⟩
  obtain ⟨x61, t62⟩ : ∃ z : Int32, z = s0.1 57 29 := ⟨_, rfl⟩
  have pb_s0 : 0 ≤ x53.toInt ∧ x53.toInt ≤ x55.toInt ∧ x55.toInt ≤ 200 ∧ 0 ≤ x61.toInt ∧ 0 ≤ b ∧ b ≤ x59.toInt ∧ x61.toInt + x59.toInt ≤ x53.toInt ∧ x57.toInt ≤ 0 := by have h9 := hb; unfold mh_pb at h9; rw [← t54, ← t56, ← t58, ← t60, ← t62] at h9; exact h9
  have r_x53 : mh_r x53 (0) (200) := ⟨by have := ((mh_r_full x53)).1; omega, by have := ((mh_r_full x53)).2; omega⟩
  have r_x55 : mh_r x55 (0) (200) := ⟨by have := ((mh_r_full x55)).1; omega, by have := ((mh_r_full x55)).2; omega⟩
  have r_x57 : mh_r x57 (-2147483648) (0) := ⟨by have := ((mh_r_full x57)).1; omega, by have := ((mh_r_full x57)).2; omega⟩
  have r_x59 : mh_r x59 (0) (200) := ⟨by have := ((mh_r_full x59)).1; omega, by have := ((mh_r_full x59)).2; omega⟩
  have r_x61 : mh_r x61 (0) (200) := ⟨by have := ((mh_r_full x61)).1; omega, by have := ((mh_r_full x61)).2; omega⟩
  rw [← t54, ← t56] at hlt
  refine mw_aload_n 1 rfl 0 dX10_opens_0 rfl rfl ?_
  refine mw_geti 4 rfl dX10_opens_1 gf_X10_207 rfl (fun x63 t64 => ?_)
  refine mw_bipush (v := 6) 6 rfl dX10_opens_4 (by decide) ?_
  refine mw_icmp_ne 9 rfl 18 dX10_opens_6 (by decide) (fun c65 => ?_) (fun c65 => ?_)
  · skip
    refine mw_aload_n 19 rfl 0 dX10_opens_18 rfl rfl ?_
    refine mw_dup 20 rfl dX10_opens_19 rfl ?_
    refine mw_geti 23 rfl dX10_opens_20 gf_X10_207 rfl (fun x66 t67 => ?_)
    obtain rfl : x63 = x66 := t64.trans t67.symm
    refine mw_iconst (v := 1) 24 rfl dX10_opens_23 (by decide) ?_
    refine mw_iadd_u 25 rfl dX10_opens_24 (fun x68 t69 => ?_)
    refine mw_puti 28 rfl dX10_opens_25 pf_X10_207 rfl (fun s70 t71 => ?_)
    have hI_s70 : mh_I B D s70 := by rw [t71]; exact wr_57_28 hI0
    have hF_s70 : mh_F S_X10_opens s0 s70 := by rw [t71]; exact mh_F_pI hF0 (mh_sj 0 rfl)
    refine mw_aload_n 29 rfl 0 dX10_opens_28 rfl rfl ?_
    refine mw_aload_n 30 rfl 0 dX10_opens_29 rfl rfl ?_
    have t72 : x53 = s70.1 57 23 := by rw [t71]; exact (t54).trans (mh_pI_n (by omega)).symm
    have t73 : x55 = s70.1 57 24 := by rw [t71]; exact (t56).trans (mh_pI_n (by omega)).symm
    refine mw_callVi [] [.ref (G.2.2.2 57)] 33 rfl dX10_opens_30 ml_X10_214 mc_X10_here mk_X10_here rfl rfl (by decide) (w_X10_here l G (d + 0) ⟨by omega, by omega⟩ hI_s70 (by rw [← t72, ← t73]; have := (r_x53).1; have := (r_x53).2; have := (r_x55).1; have := (r_x55).2; have := (r_x57).1; have := (r_x57).2; have := (r_x59).1; have := (r_x59).2; have := (r_x61).1; have := (r_x61).2; have := kc_0; have := kc_1; have := kc_5; have := kc_6; omega)) rfl rfl (Nat.le_of_ble_eq_true rfl) (mh_rok (by omega) (by decide)) (fun x74 s75 q76 => ?_)
    obtain ⟨r_x74, e0_s75, rfl⟩ := q76
    have hq_x74 : x74.toInt ≠ 0 → x53.toInt < x55.toInt := fun q => by rw [t72, t73]; exact mh_hr_lt (by rw [← e0_s75]; exact q)
    have t77 : x61 = s70.1 57 29 := by rw [t71]; exact (t62).trans (mh_pI_n (by omega)).symm
    refine mw_callVv [.int x74] [] 36 rfl dX10_opens_33 ml_X10_218 mc_X10_puts mk_X10_puts rfl rfl (by decide) (w_X10_puts l G (d + 0) ⟨by omega, by omega⟩ hI_s70 x74 (by rw [← t77, ← t72]; have := (r_x53).1; have := (r_x53).2; have := (r_x55).1; have := (r_x55).2; have := (r_x57).1; have := (r_x57).2; have := (r_x59).1; have := (r_x59).2; have := (r_x61).1; have := (r_x61).2; have := kc_0; have := kc_1; have := kc_5; have := kc_6; omega)) rfl rfl (Nat.le_of_ble_eq_true rfl) (mh_rok (by omega) (by decide)) (fun s79 q80 => ?_)
    obtain ⟨e0_s79, hI_s79, hG_s79⟩ := q80
    have hF_s79 : mh_F S_X10_opens s0 s79 := mh_F_tl hF_s70 hG_s79 (by decide +kernel)
    obtain ⟨x81, t82⟩ : ∃ z : Int32, z = s79.1 57 29 := ⟨_, rfl⟩
    obtain ⟨x83, t84⟩ : ∃ z : Int32, z = s79.1 57 23 := ⟨_, rfl⟩
    rw [← t77, ← t82, ← t72, ← t84] at e0_s79
    have r_x81 : mh_r x81 (1) (201) := ⟨by have := e0_s79.2; have := (r_x61).1; omega, by have := e0_s79.2; have := (r_x61).2; omega⟩
    have r_x83 : mh_r x83 (1) (201) := ⟨by have := e0_s79.2; have := (r_x53).1; omega, by have := e0_s79.2; have := (r_x53).2; omega⟩
    refine mw_vret dX10_opens_36 rfl ⟨rfl, ⟨?_, ?_, ?_, hI_s79, hF_s79⟩⟩
    · skip
      have t85 : x55 = s79.1 57 24 := (t73).trans (hG_s79 57 24 (mh_nsI (by rfl))).1.symm
      have t86 : x57 = s70.1 57 25 := by rw [t71]; exact (t58).trans (mh_pI_n (by omega)).symm
      have t87 : x57 = s79.1 57 25 := (t86).trans (hG_s79 57 25 (mh_nsI (by rfl))).1.symm
      have t88 : x59 = s70.1 57 27 := by rw [t71]; exact (t60).trans (mh_pI_n (by omega)).symm
      have t89 : x59 = s79.1 57 27 := (t88).trans (hG_s79 57 27 (mh_nsI (by rfl))).1.symm
      exact (show mh_pb b s79 by unfold mh_pb; rw [← t84, ← t85, ← t87, ← t89, ← t82]; have := kc_0; have := kc_1; have := (r_x53).1; have := (r_x53).2; have := (r_x55).1; have := (r_x55).2; have := (r_x57).1; have := (r_x57).2; have := (r_x59).1; have := (r_x59).2; have := (r_x61).1; have := (r_x61).2; have := (r_x81).1; have := (r_x81).2; have := (r_x83).1; have := (r_x83).2; have := kc_0; have := kc_1; have := kc_5; have := kc_6; omega)
    · skip
      have h8 : mh_hr s70 = mh_hr s0 := mh_hr_c (t72.symm.trans t54) (t73.symm.trans t56) ((by rw [t71]; exact mh_row_n (by decide) : s70.1 58 = s0.1 58))
      have h7 : s70.1 76 = s0.1 76 := (by rw [t71]; exact mh_row_n (by decide) : s70.1 76 = s0.1 76)
      rw [← t62, e0_s79.1, h7, e0_s75, h8]
    · skip
      have t90 : x55 = s79.1 57 24 := (t73).trans (hG_s79 57 24 (mh_nsI (by rfl))).1.symm
      have t91 : x57 = s70.1 57 25 := by rw [t71]; exact (t58).trans (mh_pI_n (by omega)).symm
      have t92 : x57 = s79.1 57 25 := (t91).trans (hG_s79 57 25 (mh_nsI (by rfl))).1.symm
      have t93 : x59 = s70.1 57 27 := by rw [t71]; exact (t60).trans (mh_pI_n (by omega)).symm
      have t94 : x59 = s79.1 57 27 := (t93).trans (hG_s79 57 27 (mh_nsI (by rfl))).1.symm
      have := congrArg Int32.toInt t54
      have := congrArg Int32.toInt t56
      have := congrArg Int32.toInt t58
      have := congrArg Int32.toInt t60
      have := congrArg Int32.toInt t62
      have := congrArg Int32.toInt t72
      have := congrArg Int32.toInt t73
      have := congrArg Int32.toInt t77
      have := congrArg Int32.toInt t82
      have := congrArg Int32.toInt t84
      have := congrArg Int32.toInt t90
      have := congrArg Int32.toInt t92
      have := congrArg Int32.toInt t94
      have := (r_x53).1; have := (r_x53).2
      have := (r_x55).1; have := (r_x55).2
      have := (r_x57).1; have := (r_x57).2
      have := (r_x59).1; have := (r_x59).2
      have := (r_x61).1; have := (r_x61).2
      have := (r_x81).1; have := (r_x81).2
      have := (r_x83).1; have := (r_x83).2
      have := kc_0
      have := kc_1
      have := kc_5
      have := kc_6
      omega
  · skip
    have r_x63 : mh_r x63 (6) (6) := mh_eq1 c65 (mh_r_full x63) rc_6 (6) (6) (by decide)
    refine mw_aload_n 10 rfl 0 dX10_opens_9 rfl rfl ?_
    refine mw_iconst (v := 5) 11 rfl dX10_opens_10 (by decide) ?_
    refine mw_aload_n 12 rfl 0 dX10_opens_11 rfl rfl ?_
    refine mw_geti 15 rfl dX10_opens_12 gf_X10_188 rfl (fun x95 t96 => ?_)
    obtain rfl : x53 = x95 := t54.trans t96.symm
    refine mw_callVv [.int (5), .int x53] [] 18 rfl dX10_opens_15 ml_X10_210 mc_X10_wrongs mk_X10_wrongs rfl rfl (by decide) (w_X10_wrongs l G (d + 0) ⟨by omega, by omega⟩ hI0 (5) (mh_r_wk rc_5 (by decide)) x53 r_x53 (by rw [← t58]; have := (r_x53).1; have := (r_x53).2; have := (r_x55).1; have := (r_x55).2; have := (r_x57).1; have := (r_x57).2; have := (r_x59).1; have := (r_x59).2; have := (r_x61).1; have := (r_x61).2; have := (r_x63).1; have := (r_x63).2; have := kc_0; have := kc_1; have := kc_5; have := kc_6; omega)) rfl rfl (Nat.le_of_ble_eq_true rfl) (mh_rok (by omega) (by decide)) (fun s98 q99 => ?_)
    obtain ⟨e0_s98, hI_s98, hG_s98⟩ := q99
    have hF_s98 : mh_F S_X10_opens s0 s98 := mh_F_tl hF0 hG_s98 (by decide +kernel)
    obtain ⟨x100, t101⟩ : ∃ z : Int32, z = s98.1 57 25 := ⟨_, rfl⟩
    have hw_s98 : x100.toInt < 0 := by rw [t101]; exact e0_s98
    have r_x100 : mh_r x100 (-2147483648) (-1) := ⟨((mh_r_full x100)).1, by have := hw_s98; omega⟩
    refine mw_aload_n 19 rfl 0 dX10_opens_18 rfl rfl ?_
    refine mw_dup 20 rfl dX10_opens_19 rfl ?_
    refine mw_geti 23 rfl dX10_opens_20 gf_X10_207 rfl (fun x102 t103 => ?_)
    have t104 : x63 = s98.1 57 28 := (t64).trans (hG_s98 57 28 (mh_nsI (by rfl))).1.symm
    obtain rfl : x63 = x102 := t104.trans t103.symm
    refine mw_iconst (v := 1) 24 rfl dX10_opens_23 (by decide) ?_
    refine mw_iadd 25 rfl (7) (7) dX10_opens_24 r_x63 rc_1 (by decide) (fun x105 t106 r_x105 => ?_)
    refine mw_puti 28 rfl dX10_opens_25 pf_X10_207 rfl (fun s107 t108 => ?_)
    have hI_s107 : mh_I B D s107 := by rw [t108]; exact wr_57_28 hI_s98
    have hF_s107 : mh_F S_X10_opens s0 s107 := by rw [t108]; exact mh_F_pI hF_s98 (mh_sj 0 rfl)
    refine mw_aload_n 29 rfl 0 dX10_opens_28 rfl rfl ?_
    refine mw_aload_n 30 rfl 0 dX10_opens_29 rfl rfl ?_
    have t109 : x53 = s98.1 57 23 := (t54).trans (hG_s98 57 23 (mh_nsI (by rfl))).1.symm
    have t110 : x53 = s107.1 57 23 := by rw [t108]; exact (t109).trans (mh_pI_n (by omega)).symm
    have t111 : x55 = s98.1 57 24 := (t56).trans (hG_s98 57 24 (mh_nsI (by rfl))).1.symm
    have t112 : x55 = s107.1 57 24 := by rw [t108]; exact (t111).trans (mh_pI_n (by omega)).symm
    refine mw_callVi [] [.ref (G.2.2.2 57)] 33 rfl dX10_opens_30 ml_X10_214 mc_X10_here mk_X10_here rfl rfl (by decide) (w_X10_here l G (d + 0) ⟨by omega, by omega⟩ hI_s107 (by rw [← t110, ← t112]; have := (r_x53).1; have := (r_x53).2; have := (r_x55).1; have := (r_x55).2; have := (r_x57).1; have := (r_x57).2; have := (r_x59).1; have := (r_x59).2; have := (r_x61).1; have := (r_x61).2; have := (r_x63).1; have := (r_x63).2; have := (r_x100).1; have := (r_x100).2; have := kc_0; have := kc_1; have := kc_5; have := kc_6; omega)) rfl rfl (Nat.le_of_ble_eq_true rfl) (mh_rok (by omega) (by decide)) (fun x113 s114 q115 => ?_)
    obtain ⟨r_x113, e0_s114, rfl⟩ := q115
    have hq_x113 : x113.toInt ≠ 0 → x53.toInt < x55.toInt := fun q => by rw [t110, t112]; exact mh_hr_lt (by rw [← e0_s114]; exact q)
    have t116 : x61 = s98.1 57 29 := (t62).trans (hG_s98 57 29 (mh_nsI (by rfl))).1.symm
    have t117 : x61 = s107.1 57 29 := by rw [t108]; exact (t116).trans (mh_pI_n (by omega)).symm
    refine mw_callVv [.int x113] [] 36 rfl dX10_opens_33 ml_X10_218 mc_X10_puts mk_X10_puts rfl rfl (by decide) (w_X10_puts l G (d + 0) ⟨by omega, by omega⟩ hI_s107 x113 (by rw [← t117, ← t110]; have := (r_x53).1; have := (r_x53).2; have := (r_x55).1; have := (r_x55).2; have := (r_x57).1; have := (r_x57).2; have := (r_x59).1; have := (r_x59).2; have := (r_x61).1; have := (r_x61).2; have := (r_x63).1; have := (r_x63).2; have := (r_x100).1; have := (r_x100).2; have := kc_0; have := kc_1; have := kc_5; have := kc_6; omega)) rfl rfl (Nat.le_of_ble_eq_true rfl) (mh_rok (by omega) (by decide)) (fun s119 q120 => ?_)
    obtain ⟨e0_s119, hI_s119, hG_s119⟩ := q120
    have hF_s119 : mh_F S_X10_opens s0 s119 := mh_F_tl hF_s107 hG_s119 (by decide +kernel)
    obtain ⟨x121, t122⟩ : ∃ z : Int32, z = s119.1 57 29 := ⟨_, rfl⟩
    obtain ⟨x123, t124⟩ : ∃ z : Int32, z = s119.1 57 23 := ⟨_, rfl⟩
    rw [← t117, ← t122, ← t110, ← t124] at e0_s119
    have r_x121 : mh_r x121 (1) (201) := ⟨by have := e0_s119.2; have := (r_x61).1; omega, by have := e0_s119.2; have := (r_x61).2; omega⟩
    have r_x123 : mh_r x123 (1) (201) := ⟨by have := e0_s119.2; have := (r_x53).1; omega, by have := e0_s119.2; have := (r_x53).2; omega⟩
    refine mw_vret dX10_opens_36 rfl ⟨rfl, ⟨?_, ?_, ?_, hI_s119, hF_s119⟩⟩
    · skip
      have t125 : x55 = s119.1 57 24 := (t112).trans (hG_s119 57 24 (mh_nsI (by rfl))).1.symm
      have t126 : x100 = s107.1 57 25 := by rw [t108]; exact (t101).trans (mh_pI_n (by omega)).symm
      have t127 : x100 = s119.1 57 25 := (t126).trans (hG_s119 57 25 (mh_nsI (by rfl))).1.symm
      have t128 : x59 = s98.1 57 27 := (t60).trans (hG_s98 57 27 (mh_nsI (by rfl))).1.symm
      have t129 : x59 = s107.1 57 27 := by rw [t108]; exact (t128).trans (mh_pI_n (by omega)).symm
      have t130 : x59 = s119.1 57 27 := (t129).trans (hG_s119 57 27 (mh_nsI (by rfl))).1.symm
      exact (show mh_pb b s119 by unfold mh_pb; rw [← t124, ← t125, ← t127, ← t130, ← t122]; have := kc_0; have := kc_1; have := (r_x53).1; have := (r_x53).2; have := (r_x55).1; have := (r_x55).2; have := (r_x57).1; have := (r_x57).2; have := (r_x59).1; have := (r_x59).2; have := (r_x61).1; have := (r_x61).2; have := (r_x63).1; have := (r_x63).2; have := (r_x100).1; have := (r_x100).2; have := (r_x121).1; have := (r_x121).2; have := (r_x123).1; have := (r_x123).2; have := kc_0; have := kc_1; have := kc_5; have := kc_6; omega)
    · skip
      have h8 : mh_hr s107 = mh_hr s0 := mh_hr_c (t110.symm.trans t54) (t112.symm.trans t56) (((by rw [t108]; exact mh_row_n (by decide) : s107.1 58 = s98.1 58)).trans (mh_F_row hG_s98 58 rfl))
      have h7 : s107.1 76 = s0.1 76 := ((by rw [t108]; exact mh_row_n (by decide) : s107.1 76 = s98.1 76)).trans (mh_F_row hG_s98 76 rfl)
      rw [← t62, e0_s119.1, h7, e0_s114, h8]
    · skip
      have t131 : x55 = s119.1 57 24 := (t112).trans (hG_s119 57 24 (mh_nsI (by rfl))).1.symm
      have t132 : x100 = s107.1 57 25 := by rw [t108]; exact (t101).trans (mh_pI_n (by omega)).symm
      have t133 : x100 = s119.1 57 25 := (t132).trans (hG_s119 57 25 (mh_nsI (by rfl))).1.symm
      have t134 : x59 = s98.1 57 27 := (t60).trans (hG_s98 57 27 (mh_nsI (by rfl))).1.symm
      have t135 : x59 = s107.1 57 27 := by rw [t108]; exact (t134).trans (mh_pI_n (by omega)).symm
      have t136 : x59 = s119.1 57 27 := (t135).trans (hG_s119 57 27 (mh_nsI (by rfl))).1.symm
      have := congrArg Int32.toInt t54
      have := congrArg Int32.toInt t56
      have := congrArg Int32.toInt t58
      have := congrArg Int32.toInt t60
      have := congrArg Int32.toInt t62
      have := congrArg Int32.toInt t101
      have := congrArg Int32.toInt t110
      have := congrArg Int32.toInt t112
      have := congrArg Int32.toInt t117
      have := congrArg Int32.toInt t122
      have := congrArg Int32.toInt t124
      have := congrArg Int32.toInt t131
      have := congrArg Int32.toInt t133
      have := congrArg Int32.toInt t136
      have := (r_x53).1; have := (r_x53).2
      have := (r_x55).1; have := (r_x55).2
      have := (r_x57).1; have := (r_x57).2
      have := (r_x59).1; have := (r_x59).2
      have := (r_x61).1; have := (r_x61).2
      have := (r_x63).1; have := (r_x63).2
      have := (r_x100).1; have := (r_x100).2
      have := (r_x121).1; have := (r_x121).2
      have := (r_x123).1; have := (r_x123).2
      have := kc_0
      have := kc_1
      have := kc_5
      have := kc_6
      omega

def S_X10_reads : List (Nat × Nat) := [(57, 23), (57, 25)]
def P_X10_reads (B D : Int) (s0 : mh_H) (b : Int) : Int32 → mh_H → Prop := fun z s => mh_r z (-2147483648) (2147483647) ∧ (mh_pb b s) ∧ ((s0.1 57 23).toInt ≤ (s.1 57 23).toInt ∧ ((s.1 57 25).toInt = 0 → (s0.1 57 25).toInt = 0)) ∧ ((s0.1 57 25).toInt = 0 → 48 ≤ (mh_hr s0).toInt ∧ (mh_hr s0).toInt ≤ 57 → (s.1 57 25).toInt = 0 → (s0.1 57 23).toInt + 1 ≤ (s.1 57 23).toInt) ∧ mh_I B D s ∧ mh_F S_X10_reads s0 s
set_option maxRecDepth 100000 in
set_option maxHeartbeats 4000000 in
theorem w_X10_reads (l : Launch) (G : mh_G) (d : Nat) {B D : Int} (hB : B ≤ 1960000000 ∧ D ≤ 1960000000) {s0 : mh_H} (hI0 : mh_I B D s0) (b : Int) (hb : mh_pb b s0) : mh_Mi l G (d + 2) mM_X10_reads [.ref (G.2.2.2 57)] s0 (P_X10_reads B D s0 b) := by
  refine mh_enter (lv := [(0, .ref (G.2.2.2 57))]) (by decide) rfl (Nat.le_of_ble_eq_true rfl) ?_
  have hF0 : mh_F S_X10_reads s0 s0 := mh_F_rf
  obtain ⟨x311, t312⟩ : ∃ z : Int32, z = s0.1 57 23 := ⟨_, rfl⟩
  obtain ⟨x313, t314⟩ : ∃ z : Int32, z = s0.1 57 24 := ⟨_, rfl⟩
  obtain ⟨x315, t316⟩ : ∃ z : Int32, z = s0.1 57 25 := ⟨_, rfl⟩
  obtain ⟨x317, t318⟩ : ∃ z : Int32, z = s0.1 57 27 := ⟨_, rfl⟩
  obtain ⟨x319, t320⟩ : ∃ z : Int32, z = s0.1 57 29 := ⟨_, rfl⟩
  have pb_s0 : 0 ≤ x311.toInt ∧ x311.toInt ≤ x313.toInt ∧ x313.toInt ≤ 200 ∧ 0 ≤ x319.toInt ∧ 0 ≤ b ∧ b ≤ x317.toInt ∧ x319.toInt + x317.toInt ≤ x311.toInt ∧ x315.toInt ≤ 0 := by have h9 := hb; unfold mh_pb at h9; rw [← t312, ← t314, ← t316, ← t318, ← t320] at h9; exact h9
  have r_x311 : mh_r x311 (0) (200) := ⟨by have := ((mh_r_full x311)).1; omega, by have := ((mh_r_full x311)).2; omega⟩
  have r_x313 : mh_r x313 (0) (200) := ⟨by have := ((mh_r_full x313)).1; omega, by have := ((mh_r_full x313)).2; omega⟩
  have r_x315 : mh_r x315 (-2147483648) (0) := ⟨by have := ((mh_r_full x315)).1; omega, by have := ((mh_r_full x315)).2; omega⟩
  have r_x317 : mh_r x317 (0) (200) := ⟨by have := ((mh_r_full x317)).1; omega, by have := ((mh_r_full x317)).2; omega⟩
  have r_x319 : mh_r x319 (0) (200) := ⟨by have := ((mh_r_full x319)).1; omega, by have := ((mh_r_full x319)).2; omega⟩
  refine mw_aload_n 1 rfl 0 dX10_reads_0 rfl rfl ?_
  refine mw_geti 4 rfl dX10_reads_1 gf_X10_188 rfl (fun x321 t322 => ?_)
  obtain rfl : x311 = x321 := t312.trans t322.symm
  refine mw_istore_n 5 rfl [(1, .int x311), (0, .ref (G.2.2.2 57))] dX10_reads_4 rfl (by decide) rfl ?_
  refine mw_iconst (v := 0) 6 rfl dX10_reads_5 (by decide) ?_
  refine mw_istore_n 7 rfl [(2, .int (0)), (1, .int x311), (0, .ref (G.2.2.2 57))] dX10_reads_6 rfl (by decide) rfl ?_
  have L7 : ∀ n1 : Nat, ∀ (x497 : Int32) (s498 : mh_H), mh_I B D s498 → mh_F S_X10_reads s0 s498 → (mh_pb b s498 ∧ (s0.1 57 23).toInt ≤ (s498.1 57 23).toInt ∧ ((s498.1 57 25).toInt = 0 → (s0.1 57 25).toInt = 0) ∧ ((s498.1 57 23).toInt = (s0.1 57 23).toInt → s498.1 57 23 = s0.1 57 23 ∧ s498.1 57 25 = s0.1 57 25)) → 200 - (s498.1 57 23).toInt < (n1 : Int) → mh_W G (mh_XM l G (d + 2) (mh_Qi (P_X10_reads B D s0 b))) mM_X10_reads 7 [(0, .ref (G.2.2.2 57)), (1, .int x311), (2, .int x497)] [] s498 := by
    intro n1
    induction n1 with
    | zero =>
      intro x497 s498 hI_s498 hF_s498 iv hmn1
      exact absurd hmn1 (by have h9 := iv.1; unfold mh_pb at h9; omega)
    | succ n1 ihn1 =>
      intro x497 s498 hI_s498 hF_s498 iv hmn1
      obtain ⟨x561, t562⟩ : ∃ z : Int32, z = s498.1 57 23 := ⟨_, rfl⟩
      obtain ⟨x563, t564⟩ : ∃ z : Int32, z = s498.1 57 24 := ⟨_, rfl⟩
      obtain ⟨x565, t566⟩ : ∃ z : Int32, z = s498.1 57 25 := ⟨_, rfl⟩
      obtain ⟨x567, t568⟩ : ∃ z : Int32, z = s498.1 57 27 := ⟨_, rfl⟩
      obtain ⟨x569, t570⟩ : ∃ z : Int32, z = s498.1 57 29 := ⟨_, rfl⟩
      have pb_s498 : 0 ≤ x561.toInt ∧ x561.toInt ≤ x563.toInt ∧ x563.toInt ≤ 200 ∧ 0 ≤ x569.toInt ∧ 0 ≤ b ∧ b ≤ x567.toInt ∧ x569.toInt + x567.toInt ≤ x561.toInt ∧ x565.toInt ≤ 0 := by have h9 := iv.1; unfold mh_pb at h9; rw [← t562, ← t564, ← t566, ← t568, ← t570] at h9; exact h9
      have r_x561 : mh_r x561 (0) (200) := ⟨by have := ((mh_r_full x561)).1; omega, by have := ((mh_r_full x561)).2; omega⟩
      have r_x563 : mh_r x563 (0) (200) := ⟨by have := ((mh_r_full x563)).1; omega, by have := ((mh_r_full x563)).2; omega⟩
      have r_x565 : mh_r x565 (-2147483648) (0) := ⟨by have := ((mh_r_full x565)).1; omega, by have := ((mh_r_full x565)).2; omega⟩
      have r_x567 : mh_r x567 (0) (200) := ⟨by have := ((mh_r_full x567)).1; omega, by have := ((mh_r_full x567)).2; omega⟩
      have r_x569 : mh_r x569 (0) (200) := ⟨by have := ((mh_r_full x569)).1; omega, by have := ((mh_r_full x569)).2; omega⟩
      refine mw_aload_n 8 rfl 0 dX10_reads_7 rfl rfl ?_
      refine mw_callVi [] [] 11 rfl dX10_reads_8 ml_X10_197 mc_X10_isGood mk_X10_isGood rfl rfl (by decide) (w_X10_isGood l G (d + 1) ⟨by omega, by omega⟩ hI_s498) rfl rfl (Nat.le_of_ble_eq_true rfl) (mh_rok (by omega) (by decide)) (fun x571 s572 q573 => ?_)
      obtain ⟨r_x571, e0_s572, rfl⟩ := q573
      rw [← t566] at e0_s572
      refine mw_if_eq 14 rfl 66 dX10_reads_11 (by decide) (fun c574 => ?_) (fun c574 => ?_)
      · skip
        have r_x565 : mh_r x565 (-2147483648) (-1) := ⟨(r_x565).1, by have := (r_x565).2; have : x565.toInt ≠ 0 := (fun q => by have := e0_s572.2 q; have := c574; omega); omega⟩
        have r_x571 : mh_r x571 (0) (0) := mh_eq1 (show x571.toInt = (0 : Int32).toInt from c574) r_x571 rc_0 (0) (0) (by decide)
        refine mw_iload_n 67 rfl 2 dX10_reads_66 rfl rfl ?_
        refine mw_iret dX10_reads_67 rfl ⟨x497, rfl, ⟨(mh_r_full x497), ?_, ?_, ?_, hI_s498, hF_s498⟩⟩
        · skip
          exact iv.1
        · skip
          exact ⟨iv.2.1, iv.2.2.1⟩
        · skip
          have := congrArg Int32.toInt t562
          have := congrArg Int32.toInt t564
          have := congrArg Int32.toInt t566
          have := congrArg Int32.toInt t568
          have := congrArg Int32.toInt t570
          have := (r_x311).1; have := (r_x311).2
          have := (r_x561).1; have := (r_x561).2
          have := (r_x563).1; have := (r_x563).2
          have := (r_x565).1; have := (r_x565).2
          have := (r_x567).1; have := (r_x567).2
          have := (r_x569).1; have := (r_x569).2
          have := kc_0
          have := kc_1
          have := kc_2
          have := kc_5
          have := kc_10
          have := kc_48
          intro q1 q2
          omega
      · skip
        have r_x565 : mh_r x565 (0) (0) := ⟨by have := e0_s572.1 (mh_z1 r_x571 c574); omega, by have := e0_s572.1 (mh_z1 r_x571 c574); omega⟩
        have r_x571 : mh_r x571 (1) (1) := mh_ne1 (show x571.toInt ≠ (0 : Int32).toInt from c574) r_x571 rc_0 (1) (1) (by decide)
        refine mw_aload_n 15 rfl 0 dX10_reads_14 rfl rfl ?_
        refine mw_callVi [] [] 18 rfl dX10_reads_15 ml_X10_225 mc_X10_seesDigit mk_X10_seesDigit rfl rfl (by decide) (w_X10_seesDigit l G (d + 0) ⟨by omega, by omega⟩ hI_s498 (by rw [← t562, ← t564]; have := (r_x311).1; have := (r_x311).2; have := (r_x561).1; have := (r_x561).2; have := (r_x563).1; have := (r_x563).2; have := (r_x565).1; have := (r_x565).2; have := (r_x567).1; have := (r_x567).2; have := (r_x569).1; have := (r_x569).2; have := kc_0; have := kc_1; have := kc_2; have := kc_5; have := kc_10; have := kc_48; omega)) rfl rfl (Nat.le_of_ble_eq_true rfl) (mh_rok (by omega) (by decide)) (fun x575 s576 q577 => ?_)
        obtain ⟨r_x575, e0_s576, rfl⟩ := q577
        have hd_x575 : x575.toInt = 1 → x561.toInt < x563.toInt := fun q => by rw [t562, t564]; exact mh_hr_lt (by have := e0_s576.1 q; omega)
        refine mw_if_eq 21 rfl 66 dX10_reads_18 (by decide) (fun c578 => ?_) (fun c578 => ?_)
        · skip
          have r_x575 : mh_r x575 (0) (0) := mh_eq1 (show x575.toInt = (0 : Int32).toInt from c578) r_x575 rc_0 (0) (0) (by decide)
          refine mw_iload_n 67 rfl 2 dX10_reads_66 rfl rfl ?_
          refine mw_iret dX10_reads_67 rfl ⟨x497, rfl, ⟨(mh_r_full x497), ?_, ?_, ?_, hI_s498, hF_s498⟩⟩
          · skip
            exact iv.1
          · skip
            exact ⟨iv.2.1, iv.2.2.1⟩
          · skip
            have := congrArg Int32.toInt t562
            have := congrArg Int32.toInt t564
            have := congrArg Int32.toInt t566
            have := congrArg Int32.toInt t568
            have := congrArg Int32.toInt t570
            have := (r_x311).1; have := (r_x311).2
            have := (r_x561).1; have := (r_x561).2
            have := (r_x563).1; have := (r_x563).2
            have := (r_x565).1; have := (r_x565).2
            have := (r_x567).1; have := (r_x567).2
            have := (r_x569).1; have := (r_x569).2
            have := kc_0
            have := kc_1
            have := kc_2
            have := kc_5
            have := kc_10
            have := kc_48
            intro q1 q2
            by_cases q3 : (s498.1 57 23).toInt = (s0.1 57 23).toInt
            · exfalso
              have h9 := (iv.2.2.2 q3)
              have h8 : mh_hr s498 = mh_hr s0 := mh_hr_c h9.1 (hF_s498 57 24 (mh_nsI rfl)).1 (mh_F_row hF_s498 58 rfl)
              rw [h8] at e0_s576
              have := e0_s576.2 q2
              omega
            · have := iv.2.1
              omega
        · skip
          have hl_x575 := hd_x575 (mh_z1 r_x575 c578)
          have hk_x575 := e0_s576.1 (mh_z1 r_x575 c578)
          have r_x575 : mh_r x575 (1) (1) := mh_ne1 (show x575.toInt ≠ (0 : Int32).toInt from c578) r_x575 rc_0 (1) (1) (by decide)
          refine mw_aload_n 22 rfl 0 dX10_reads_21 rfl rfl ?_
          refine mw_geti 25 rfl dX10_reads_22 gf_X10_188 rfl (fun x579 t580 => ?_)
          obtain rfl : x561 = x579 := t562.trans t580.symm
          refine mw_iload_n 26 rfl 1 dX10_reads_25 rfl rfl ?_
          refine mw_iconst (v := 5) 27 rfl dX10_reads_26 (by decide) ?_
          refine mw_iadd 28 rfl (5) (205) dX10_reads_27 r_x311 rc_5 (by decide) (fun x581 t582 r_x581 => ?_)
          refine mw_icmp_ne 31 rfl 40 dX10_reads_28 (by decide) (fun c583 => ?_) (fun c583 => ?_)
          · skip
            refine mw_bipush (v := 10) 42 rfl dX10_reads_40 (by decide) ?_
            refine mw_iload_n 43 rfl 2 dX10_reads_42 rfl rfl ?_
            refine mw_imul_u 44 rfl dX10_reads_43 (fun x584 t585 => ?_)
            refine mw_aload_n 45 rfl 0 dX10_reads_44 rfl rfl ?_
            refine mw_callVi [] [.int x584] 48 rfl dX10_reads_45 ml_X10_214 mc_X10_here mk_X10_here rfl rfl (by decide) (w_X10_here l G (d + 1) ⟨by omega, by omega⟩ hI_s498 (by rw [← t562, ← t564]; have := (r_x311).1; have := (r_x311).2; have := (r_x561).1; have := (r_x561).2; have := (r_x563).1; have := (r_x563).2; have := (r_x565).1; have := (r_x565).2; have := (r_x567).1; have := (r_x567).2; have := (r_x569).1; have := (r_x569).2; have := (rc_10).1; have := (rc_10).2; have := kc_0; have := kc_1; have := kc_2; have := kc_5; have := kc_10; have := kc_48; omega)) rfl rfl (Nat.le_of_ble_eq_true rfl) (mh_rok (by omega) (by decide)) (fun x586 s587 q588 => ?_)
            obtain ⟨r_x586, e0_s587, rfl⟩ := q588
            have hq_x586 : x586.toInt ≠ 0 → x561.toInt < x563.toInt := fun q => by rw [t562, t564]; exact mh_hr_lt (by rw [← e0_s587]; exact q)
            refine mw_iadd_u 49 rfl dX10_reads_48 (fun x589 t590 => ?_)
            refine mw_bipush (v := 48) 51 rfl dX10_reads_49 (by decide) ?_
            refine mw_isub_u 52 rfl dX10_reads_51 (fun x591 t592 => ?_)
            refine mw_istore_n 53 rfl [(2, .int x591), (0, .ref (G.2.2.2 57)), (1, .int x311)] dX10_reads_52 rfl (by decide) rfl ?_
            refine mw_aload_n 54 rfl 1 dX10_reads_53 rfl rfl ?_
            refine mw_dup 55 rfl dX10_reads_54 rfl ?_
            refine mw_geti 58 rfl dX10_reads_55 gf_X10_188 rfl (fun x593 t594 => ?_)
            obtain rfl : x561 = x593 := t562.trans t594.symm
            refine mw_iconst (v := 1) 59 rfl dX10_reads_58 (by decide) ?_
            refine mw_iadd 60 rfl (1) (201) dX10_reads_59 r_x561 rc_1 (by decide) (fun x595 t596 r_x595 => ?_)
            refine mw_puti 63 rfl dX10_reads_60 pf_X10_188 rfl (fun s597 t598 => ?_)
            have hI_s597 : mh_I B D s597 := by rw [t598]; exact wr_57_23 hI_s498
            have hF_s597 : mh_F S_X10_reads s0 s597 := by rw [t598]; exact mh_F_pI hF_s498 (mh_sj 0 rfl)
            refine mw_goto 66 rfl 7 dX10_reads_63 (by decide) ?_
            have t599 : x595 = s597.1 57 23 := by rw [t598]; exact mh_pI_s.symm
            have t600 : x563 = s597.1 57 24 := by rw [t598]; exact (t564).trans (mh_pI_n (by omega)).symm
            have t601 : x565 = s597.1 57 25 := by rw [t598]; exact (t566).trans (mh_pI_n (by omega)).symm
            have t602 : x567 = s597.1 57 27 := by rw [t598]; exact (t568).trans (mh_pI_n (by omega)).symm
            have t603 : x569 = s597.1 57 29 := by rw [t598]; exact (t570).trans (mh_pI_n (by omega)).symm
            exact mw_lv [1, 2, 0] rfl (ihn1 x591 s597 hI_s597 hF_s597 (by
                refine ⟨(show mh_pb b s597 by unfold mh_pb; rw [← t599, ← t600, ← t601, ← t602, ← t603]; have := kc_0; have := kc_1; have := (r_x311).1; have := (r_x311).2; have := (r_x561).1; have := (r_x561).2; have := (r_x563).1; have := (r_x563).2; have := (r_x565).1; have := (r_x565).2; have := (r_x567).1; have := (r_x567).2; have := (r_x569).1; have := (r_x569).2; have := (r_x595).1; have := (r_x595).2; have := (rc_48).1; have := (rc_48).2; have := (rc_1).1; have := (rc_1).2; have := kc_0; have := kc_1; have := kc_2; have := kc_5; have := kc_10; have := kc_48; omega), ?_, ?_, ?_⟩
                · have := congrArg Int32.toInt t562; have := congrArg Int32.toInt t564; have := congrArg Int32.toInt t566; have := congrArg Int32.toInt t568; have := congrArg Int32.toInt t570; have := congrArg Int32.toInt t599; have := congrArg Int32.toInt t600; have := congrArg Int32.toInt t601; have := congrArg Int32.toInt t602; have := congrArg Int32.toInt t603; have := (r_x311).1; have := (r_x311).2; have := (r_x561).1; have := (r_x561).2; have := (r_x563).1; have := (r_x563).2; have := (r_x565).1; have := (r_x565).2; have := (r_x567).1; have := (r_x567).2; have := (r_x569).1; have := (r_x569).2; have := (r_x595).1; have := (r_x595).2; have := (rc_48).1; have := (rc_48).2; have := (rc_1).1; have := (rc_1).2; have := kc_0; have := kc_1; have := kc_2; have := kc_5; have := kc_10; have := kc_48; omega
                · have := congrArg Int32.toInt t562; have := congrArg Int32.toInt t564; have := congrArg Int32.toInt t566; have := congrArg Int32.toInt t568; have := congrArg Int32.toInt t570; have := congrArg Int32.toInt t599; have := congrArg Int32.toInt t600; have := congrArg Int32.toInt t601; have := congrArg Int32.toInt t602; have := congrArg Int32.toInt t603; have := (r_x311).1; have := (r_x311).2; have := (r_x561).1; have := (r_x561).2; have := (r_x563).1; have := (r_x563).2; have := (r_x565).1; have := (r_x565).2; have := (r_x567).1; have := (r_x567).2; have := (r_x569).1; have := (r_x569).2; have := (r_x595).1; have := (r_x595).2; have := (rc_48).1; have := (rc_48).2; have := (rc_1).1; have := (rc_1).2; have := kc_0; have := kc_1; have := kc_2; have := kc_5; have := kc_10; have := kc_48; omega
                · intro q; exact absurd q (by have := congrArg Int32.toInt t562; have := congrArg Int32.toInt t564; have := congrArg Int32.toInt t566; have := congrArg Int32.toInt t568; have := congrArg Int32.toInt t570; have := congrArg Int32.toInt t599; have := congrArg Int32.toInt t600; have := congrArg Int32.toInt t601; have := congrArg Int32.toInt t602; have := congrArg Int32.toInt t603; have := (r_x311).1; have := (r_x311).2; have := (r_x561).1; have := (r_x561).2; have := (r_x563).1; have := (r_x563).2; have := (r_x565).1; have := (r_x565).2; have := (r_x567).1; have := (r_x567).2; have := (r_x569).1; have := (r_x569).2; have := (r_x595).1; have := (r_x595).2; have := (rc_48).1; have := (rc_48).2; have := (rc_1).1; have := (rc_1).2; have := kc_0; have := kc_1; have := kc_2; have := kc_5; have := kc_10; have := kc_48; omega)) (by have := congrArg Int32.toInt t562; have := congrArg Int32.toInt t564; have := congrArg Int32.toInt t566; have := congrArg Int32.toInt t568; have := congrArg Int32.toInt t570; have := congrArg Int32.toInt t599; have := congrArg Int32.toInt t600; have := congrArg Int32.toInt t601; have := congrArg Int32.toInt t602; have := congrArg Int32.toInt t603; have := (r_x311).1; have := (r_x311).2; have := (r_x561).1; have := (r_x561).2; have := (r_x563).1; have := (r_x563).2; have := (r_x565).1; have := (r_x565).2; have := (r_x567).1; have := (r_x567).2; have := (r_x569).1; have := (r_x569).2; have := (r_x595).1; have := (r_x595).2; have := (rc_48).1; have := (rc_48).2; have := (rc_1).1; have := (rc_1).2; have := kc_0; have := kc_1; have := kc_2; have := kc_5; have := kc_10; have := kc_48; omega))
          · skip
            have r_x561 : mh_r x561 (5) (200) := mh_eq1 c583 r_x561 r_x581 (5) (200) (by decide)
            have r_x581 : mh_r x581 (5) (200) := mh_eq1 c583.symm r_x581 r_x561 (5) (200) (by decide)
            have r_x311 : mh_r x311 (0) (195) := by have := (show x581.toInt = x311.toInt + (5) from t582); have := (r_x311).1; have := (r_x311).2; have := (r_x581).1; have := (r_x581).2; exact ⟨by omega, by omega⟩
            refine mw_aload_n 32 rfl 0 dX10_reads_31 rfl rfl ?_
            refine mw_iconst (v := 2) 33 rfl dX10_reads_32 (by decide) ?_
            refine mw_aload_n 34 rfl 0 dX10_reads_33 rfl rfl ?_
            refine mw_geti 37 rfl dX10_reads_34 gf_X10_188 rfl (fun x604 t605 => ?_)
            obtain rfl : x561 = x604 := t562.trans t605.symm
            refine mw_callVv [.int (2), .int x561] [] 40 rfl dX10_reads_37 ml_X10_210 mc_X10_wrongs mk_X10_wrongs rfl rfl (by decide) (w_X10_wrongs l G (d + 1) ⟨by omega, by omega⟩ hI_s498 (2) (mh_r_wk rc_2 (by decide)) x561 (mh_r_wk r_x561 (by decide)) (by rw [← t566]; have := (r_x311).1; have := (r_x311).2; have := (r_x561).1; have := (r_x561).2; have := (r_x563).1; have := (r_x563).2; have := (r_x565).1; have := (r_x565).2; have := (r_x567).1; have := (r_x567).2; have := (r_x569).1; have := (r_x569).2; have := kc_0; have := kc_1; have := kc_2; have := kc_5; have := kc_10; have := kc_48; omega)) rfl rfl (Nat.le_of_ble_eq_true rfl) (mh_rok (by omega) (by decide)) (fun s607 q608 => ?_)
            obtain ⟨e0_s607, hI_s607, hG_s607⟩ := q608
            have hF_s607 : mh_F S_X10_reads s0 s607 := mh_F_tl hF_s498 hG_s607 (by decide +kernel)
            obtain ⟨x609, t610⟩ : ∃ z : Int32, z = s607.1 57 25 := ⟨_, rfl⟩
            have hw_s607 : x609.toInt < 0 := by rw [t610]; exact e0_s607
            have r_x609 : mh_r x609 (-2147483648) (-1) := ⟨((mh_r_full x609)).1, by have := hw_s607; omega⟩
            refine mw_bipush (v := 10) 42 rfl dX10_reads_40 (by decide) ?_
            refine mw_iload_n 43 rfl 2 dX10_reads_42 rfl rfl ?_
            refine mw_imul_u 44 rfl dX10_reads_43 (fun x611 t612 => ?_)
            refine mw_aload_n 45 rfl 0 dX10_reads_44 rfl rfl ?_
            have t613 : x561 = s607.1 57 23 := (t562).trans (hG_s607 57 23 (mh_nsI (by rfl))).1.symm
            have t614 : x563 = s607.1 57 24 := (t564).trans (hG_s607 57 24 (mh_nsI (by rfl))).1.symm
            refine mw_callVi [] [.int x611] 48 rfl dX10_reads_45 ml_X10_214 mc_X10_here mk_X10_here rfl rfl (by decide) (w_X10_here l G (d + 1) ⟨by omega, by omega⟩ hI_s607 (by rw [← t613, ← t614]; have := (r_x311).1; have := (r_x311).2; have := (r_x561).1; have := (r_x561).2; have := (r_x563).1; have := (r_x563).2; have := (r_x565).1; have := (r_x565).2; have := (r_x567).1; have := (r_x567).2; have := (r_x569).1; have := (r_x569).2; have := (r_x609).1; have := (r_x609).2; have := (rc_10).1; have := (rc_10).2; have := kc_0; have := kc_1; have := kc_2; have := kc_5; have := kc_10; have := kc_48; omega)) rfl rfl (Nat.le_of_ble_eq_true rfl) (mh_rok (by omega) (by decide)) (fun x615 s616 q617 => ?_)
            obtain ⟨r_x615, e0_s616, rfl⟩ := q617
            have hq_x615 : x615.toInt ≠ 0 → x561.toInt < x563.toInt := fun q => by rw [t613, t614]; exact mh_hr_lt (by rw [← e0_s616]; exact q)
            refine mw_iadd_u 49 rfl dX10_reads_48 (fun x618 t619 => ?_)
            refine mw_bipush (v := 48) 51 rfl dX10_reads_49 (by decide) ?_
            refine mw_isub_u 52 rfl dX10_reads_51 (fun x620 t621 => ?_)
            refine mw_istore_n 53 rfl [(2, .int x620), (0, .ref (G.2.2.2 57)), (1, .int x311)] dX10_reads_52 rfl (by decide) rfl ?_
            refine mw_aload_n 54 rfl 1 dX10_reads_53 rfl rfl ?_
            refine mw_dup 55 rfl dX10_reads_54 rfl ?_
            refine mw_geti 58 rfl dX10_reads_55 gf_X10_188 rfl (fun x622 t623 => ?_)
            obtain rfl : x561 = x622 := t613.trans t623.symm
            refine mw_iconst (v := 1) 59 rfl dX10_reads_58 (by decide) ?_
            refine mw_iadd 60 rfl (6) (201) dX10_reads_59 r_x561 rc_1 (by decide) (fun x624 t625 r_x624 => ?_)
            refine mw_puti 63 rfl dX10_reads_60 pf_X10_188 rfl (fun s626 t627 => ?_)
            have hI_s626 : mh_I B D s626 := by rw [t627]; exact wr_57_23 hI_s607
            have hF_s626 : mh_F S_X10_reads s0 s626 := by rw [t627]; exact mh_F_pI hF_s607 (mh_sj 0 rfl)
            refine mw_goto 66 rfl 7 dX10_reads_63 (by decide) ?_
            have t628 : x624 = s626.1 57 23 := by rw [t627]; exact mh_pI_s.symm
            have t629 : x563 = s626.1 57 24 := by rw [t627]; exact (t614).trans (mh_pI_n (by omega)).symm
            have t630 : x609 = s626.1 57 25 := by rw [t627]; exact (t610).trans (mh_pI_n (by omega)).symm
            have t631 : x567 = s607.1 57 27 := (t568).trans (hG_s607 57 27 (mh_nsI (by rfl))).1.symm
            have t632 : x567 = s626.1 57 27 := by rw [t627]; exact (t631).trans (mh_pI_n (by omega)).symm
            have t633 : x569 = s607.1 57 29 := (t570).trans (hG_s607 57 29 (mh_nsI (by rfl))).1.symm
            have t634 : x569 = s626.1 57 29 := by rw [t627]; exact (t633).trans (mh_pI_n (by omega)).symm
            exact mw_lv [1, 2, 0] rfl (ihn1 x620 s626 hI_s626 hF_s626 (by
                refine ⟨(show mh_pb b s626 by unfold mh_pb; rw [← t628, ← t629, ← t630, ← t632, ← t634]; have := kc_0; have := kc_1; have := (r_x311).1; have := (r_x311).2; have := (r_x561).1; have := (r_x561).2; have := (r_x563).1; have := (r_x563).2; have := (r_x565).1; have := (r_x565).2; have := (r_x567).1; have := (r_x567).2; have := (r_x569).1; have := (r_x569).2; have := (r_x609).1; have := (r_x609).2; have := (r_x624).1; have := (r_x624).2; have := (rc_48).1; have := (rc_48).2; have := (rc_1).1; have := (rc_1).2; have := kc_0; have := kc_1; have := kc_2; have := kc_5; have := kc_10; have := kc_48; omega), ?_, ?_, ?_⟩
                · have := congrArg Int32.toInt t562; have := congrArg Int32.toInt t564; have := congrArg Int32.toInt t566; have := congrArg Int32.toInt t568; have := congrArg Int32.toInt t570; have := congrArg Int32.toInt t610; have := congrArg Int32.toInt t613; have := congrArg Int32.toInt t614; have := congrArg Int32.toInt t628; have := congrArg Int32.toInt t629; have := congrArg Int32.toInt t630; have := congrArg Int32.toInt t632; have := congrArg Int32.toInt t634; have := (r_x311).1; have := (r_x311).2; have := (r_x561).1; have := (r_x561).2; have := (r_x563).1; have := (r_x563).2; have := (r_x565).1; have := (r_x565).2; have := (r_x567).1; have := (r_x567).2; have := (r_x569).1; have := (r_x569).2; have := (r_x609).1; have := (r_x609).2; have := (r_x624).1; have := (r_x624).2; have := (rc_48).1; have := (rc_48).2; have := (rc_1).1; have := (rc_1).2; have := kc_0; have := kc_1; have := kc_2; have := kc_5; have := kc_10; have := kc_48; omega
                · have := congrArg Int32.toInt t562; have := congrArg Int32.toInt t564; have := congrArg Int32.toInt t566; have := congrArg Int32.toInt t568; have := congrArg Int32.toInt t570; have := congrArg Int32.toInt t610; have := congrArg Int32.toInt t613; have := congrArg Int32.toInt t614; have := congrArg Int32.toInt t628; have := congrArg Int32.toInt t629; have := congrArg Int32.toInt t630; have := congrArg Int32.toInt t632; have := congrArg Int32.toInt t634; have := (r_x311).1; have := (r_x311).2; have := (r_x561).1; have := (r_x561).2; have := (r_x563).1; have := (r_x563).2; have := (r_x565).1; have := (r_x565).2; have := (r_x567).1; have := (r_x567).2; have := (r_x569).1; have := (r_x569).2; have := (r_x609).1; have := (r_x609).2; have := (r_x624).1; have := (r_x624).2; have := (rc_48).1; have := (rc_48).2; have := (rc_1).1; have := (rc_1).2; have := kc_0; have := kc_1; have := kc_2; have := kc_5; have := kc_10; have := kc_48; omega
                · intro q; exact absurd q (by have := congrArg Int32.toInt t562; have := congrArg Int32.toInt t564; have := congrArg Int32.toInt t566; have := congrArg Int32.toInt t568; have := congrArg Int32.toInt t570; have := congrArg Int32.toInt t610; have := congrArg Int32.toInt t613; have := congrArg Int32.toInt t614; have := congrArg Int32.toInt t628; have := congrArg Int32.toInt t629; have := congrArg Int32.toInt t630; have := congrArg Int32.toInt t632; have := congrArg Int32.toInt t634; have := (r_x311).1; have := (r_x311).2; have := (r_x561).1; have := (r_x561).2; have := (r_x563).1; have := (r_x563).2; have := (r_x565).1; have := (r_x565).2; have := (r_x567).1; have := (r_x567).2; have := (r_x569).1; have := (r_x569).2; have := (r_x609).1; have := (r_x609).2; have := (r_x624).1; have := (r_x624).2; have := (rc_48).1; have := (rc_48).2; have := (rc_1).1; have := (rc_1).2; have := kc_0; have := kc_1; have := kc_2; have := kc_5; have := kc_10; have := kc_48; omega)) (by have := congrArg Int32.toInt t562; have := congrArg Int32.toInt t564; have := congrArg Int32.toInt t566; have := congrArg Int32.toInt t568; have := congrArg Int32.toInt t570; have := congrArg Int32.toInt t610; have := congrArg Int32.toInt t613; have := congrArg Int32.toInt t614; have := congrArg Int32.toInt t628; have := congrArg Int32.toInt t629; have := congrArg Int32.toInt t630; have := congrArg Int32.toInt t632; have := congrArg Int32.toInt t634; have := (r_x311).1; have := (r_x311).2; have := (r_x561).1; have := (r_x561).2; have := (r_x563).1; have := (r_x563).2; have := (r_x565).1; have := (r_x565).2; have := (r_x567).1; have := (r_x567).2; have := (r_x569).1; have := (r_x569).2; have := (r_x609).1; have := (r_x609).2; have := (r_x624).1; have := (r_x624).2; have := (rc_48).1; have := (rc_48).2; have := (rc_1).1; have := (rc_1).2; have := kc_0; have := kc_1; have := kc_2; have := kc_5; have := kc_10; have := kc_48; omega))
  exact mw_lv [2, 1, 0] rfl (L7 202 (0) s0 hI0 hF0 (by
      exact ⟨hb, Int.le_refl _, fun h => h, fun _ => ⟨rfl, rfl⟩⟩) (by have h9 := hb; unfold mh_pb at h9; omega))

def S_X10_folds : List (Nat × Nat) := [(74, 9999), (75, 9999), (57, 27), (57, 29)]
def P_X10_folds (B D : Int) (s0 : mh_H) (p1 : Int32) (b : Int) : mh_H → Prop := fun s => (mh_pb b s) ∧ (mh_pd b 1 s) ∧ (mh_pk b s0 s) ∧ ((s.1 57 29).toInt ≤ (s0.1 57 29).toInt) ∧ (∀ j : Nat, (s.1 57 29).toInt.toNat ≤ j → j < (s0.1 57 29).toInt.toNat → ((s0.1 76 j).toInt = 42 ∨ (s0.1 76 j).toInt = 47 ∨ (s0.1 76 j).toInt = 37 ∨ (s0.1 76 j).toInt = 43 ∨ (s0.1 76 j).toInt = 45)) ∧ (¬ ((mh_tp s).toInt = 42 ∨ (mh_tp s).toInt = 47 ∨ (mh_tp s).toInt = 37) ∧ (p1.toInt = 1 → ¬ ((mh_tp s).toInt = 43 ∨ (mh_tp s).toInt = 45))) ∧ mh_I B D s ∧ mh_F S_X10_folds s0 s
set_option maxRecDepth 100000 in
set_option maxHeartbeats 4000000 in
theorem w_X10_folds (l : Launch) (G : mh_G) (d : Nat) {B D : Int} (hB : B ≤ 1960000000 ∧ D ≤ 1960000000) {s0 : mh_H} (hI0 : mh_I B D s0) (p1 : Int32) (r_p1 : mh_r p1 (0) (1)) (b : Int) (hb : mh_pb b s0) (hd : mh_pd b 1 s0) : mh_Mv l G (d + 2) mM_X10_folds [.ref (G.2.2.2 57), .int p1] s0 (P_X10_folds B D s0 p1 b) := by
  refine mh_enter (lv := [(0, .ref (G.2.2.2 57)), (1, .int p1)]) (by decide) rfl (Nat.le_of_ble_eq_true rfl) ?_
  have hF0 : mh_F S_X10_folds s0 s0 := mh_F_rf
  obtain ⟨x162, t163⟩ : ∃ z : Int32, z = s0.1 57 23 := ⟨_, rfl⟩
  obtain ⟨x164, t165⟩ : ∃ z : Int32, z = s0.1 57 24 := ⟨_, rfl⟩
  obtain ⟨x166, t167⟩ : ∃ z : Int32, z = s0.1 57 25 := ⟨_, rfl⟩
  obtain ⟨x168, t169⟩ : ∃ z : Int32, z = s0.1 57 27 := ⟨_, rfl⟩
  obtain ⟨x170, t171⟩ : ∃ z : Int32, z = s0.1 57 29 := ⟨_, rfl⟩
  have pb_s0 : 0 ≤ x162.toInt ∧ x162.toInt ≤ x164.toInt ∧ x164.toInt ≤ 200 ∧ 0 ≤ x170.toInt ∧ 0 ≤ b ∧ b ≤ x168.toInt ∧ x170.toInt + x168.toInt ≤ x162.toInt ∧ x166.toInt ≤ 0 := by have h9 := hb; unfold mh_pb at h9; rw [← t163, ← t165, ← t167, ← t169, ← t171] at h9; exact h9
  have r_x162 : mh_r x162 (0) (200) := ⟨by have := ((mh_r_full x162)).1; omega, by have := ((mh_r_full x162)).2; omega⟩
  have r_x164 : mh_r x164 (0) (200) := ⟨by have := ((mh_r_full x164)).1; omega, by have := ((mh_r_full x164)).2; omega⟩
  have r_x166 : mh_r x166 (-2147483648) (0) := ⟨by have := ((mh_r_full x166)).1; omega, by have := ((mh_r_full x166)).2; omega⟩
  have r_x168 : mh_r x168 (0) (200) := ⟨by have := ((mh_r_full x168)).1; omega, by have := ((mh_r_full x168)).2; omega⟩
  have r_x170 : mh_r x170 (0) (200) := ⟨by have := ((mh_r_full x170)).1; omega, by have := ((mh_r_full x170)).2; omega⟩
  have L0 : ∀ n1 : Nat, ∀  (s215 : mh_H), mh_I B D s215 → mh_F S_X10_folds s0 s215 → (mh_pb b s215 ∧ mh_pd b 1 s215 ∧ mh_pk b s0 s215 ∧ (s215.1 57 29).toInt ≤ (s0.1 57 29).toInt ∧ (∀ j : Nat, (s215.1 57 29).toInt.toNat ≤ j → j < (s0.1 57 29).toInt.toNat → ((s0.1 76 j).toInt = 42 ∨ (s0.1 76 j).toInt = 47 ∨ (s0.1 76 j).toInt = 37 ∨ (s0.1 76 j).toInt = 43 ∨ (s0.1 76 j).toInt = 45))) → (s215.1 57 29).toInt < (n1 : Int) → mh_W G (mh_XM l G (d + 2) (mh_Qv (P_X10_folds B D s0 p1 b))) mM_X10_folds 0 [(0, .ref (G.2.2.2 57)), (1, .int p1)] [] s215 := by
    intro n1
    induction n1 with
    | zero =>
      intro s215 hI_s215 hF_s215 iv hmn1
      exact absurd hmn1 (by have h9 := iv.1; unfold mh_pb at h9; omega)
    | succ n1 ihn1 =>
      intro s215 hI_s215 hF_s215 iv hmn1
      obtain ⟨x270, t271⟩ : ∃ z : Int32, z = s215.1 57 23 := ⟨_, rfl⟩
      obtain ⟨x272, t273⟩ : ∃ z : Int32, z = s215.1 57 24 := ⟨_, rfl⟩
      obtain ⟨x274, t275⟩ : ∃ z : Int32, z = s215.1 57 25 := ⟨_, rfl⟩
      obtain ⟨x276, t277⟩ : ∃ z : Int32, z = s215.1 57 27 := ⟨_, rfl⟩
      obtain ⟨x278, t279⟩ : ∃ z : Int32, z = s215.1 57 29 := ⟨_, rfl⟩
      have pb_s215 : 0 ≤ x270.toInt ∧ x270.toInt ≤ x272.toInt ∧ x272.toInt ≤ 200 ∧ 0 ≤ x278.toInt ∧ 0 ≤ b ∧ b ≤ x276.toInt ∧ x278.toInt + x276.toInt ≤ x270.toInt ∧ x274.toInt ≤ 0 := by have h9 := iv.1; unfold mh_pb at h9; rw [← t271, ← t273, ← t275, ← t277, ← t279] at h9; exact h9
      have r_x270 : mh_r x270 (0) (200) := ⟨by have := ((mh_r_full x270)).1; omega, by have := ((mh_r_full x270)).2; omega⟩
      have r_x272 : mh_r x272 (0) (200) := ⟨by have := ((mh_r_full x272)).1; omega, by have := ((mh_r_full x272)).2; omega⟩
      have r_x274 : mh_r x274 (-2147483648) (0) := ⟨by have := ((mh_r_full x274)).1; omega, by have := ((mh_r_full x274)).2; omega⟩
      have r_x276 : mh_r x276 (0) (200) := ⟨by have := ((mh_r_full x276)).1; omega, by have := ((mh_r_full x276)).2; omega⟩
      have r_x278 : mh_r x278 (0) (200) := ⟨by have := ((mh_r_full x278)).1; omega, by have := ((mh_r_full x278)).2; omega⟩
      refine mw_aload_n 1 rfl 0 dX10_folds_0 rfl rfl ?_
      refine mw_callVi [] [] 4 rfl dX10_folds_1 ml_X10_228 mc_X10_top mk_X10_top rfl rfl (by decide) (w_X10_top l G (d + 1) ⟨by omega, by omega⟩ hI_s215 (by rw [← t279]; have := (r_p1).1; have := (r_p1).2; have := (r_x270).1; have := (r_x270).2; have := (r_x272).1; have := (r_x272).2; have := (r_x274).1; have := (r_x274).2; have := (r_x276).1; have := (r_x276).2; have := (r_x278).1; have := (r_x278).2; have := kc_0; have := kc_1; omega)) rfl rfl (Nat.le_of_ble_eq_true rfl) (mh_rok (by omega) (by decide)) (fun x280 s281 q282 => ?_)
      obtain ⟨r_x280, e0_s281, rfl⟩ := q282
      have hq_x280 : x280.toInt ≠ 0 → 0 < x278.toInt ∧ s215.1 76 (x278.toInt.toNat - 1) = x280 := fun q => by rw [t279]; have h9 := mh_tp_s (σ := s215) (by rw [← e0_s281]; exact q); rw [← e0_s281] at h9; exact h9
      refine mw_callSi [.int x280] [] 7 rfl dX10_folds_4 ml_X10_231 mc_X10_isTimes mk_X10_isTimes (w_X10_isTimes l G (d + 1) ⟨by omega, by omega⟩ hI_s215 x280) rfl rfl (Nat.le_of_ble_eq_true rfl) (mh_rok (by omega) (by decide)) (fun x283 s284 q285 => ?_)
      obtain ⟨r_x283, e0_s284, rfl⟩ := q285
      refine mw_if_ne 10 rfl 24 dX10_folds_7 (by decide) (fun c286 => ?_) (fun c286 => ?_)
      · skip
        have hk_x283 := e0_s284.1 (mh_z1 r_x283 c286)
        have r_x283 : mh_r x283 (1) (1) := mh_ne1 (show x283.toInt ≠ (0 : Int32).toInt from c286) r_x283 rc_0 (1) (1) (by decide)
        refine mw_aload_n 25 rfl 0 dX10_folds_24 rfl rfl ?_
        refine mw_aload_n 26 rfl 0 dX10_folds_25 rfl rfl ?_
        refine mw_callVi [] [.ref (G.2.2.2 57)] 29 rfl dX10_folds_26 ml_X10_228 mc_X10_top mk_X10_top rfl rfl (by decide) (w_X10_top l G (d + 1) ⟨by omega, by omega⟩ hI_s215 (by rw [← t279]; have := (r_p1).1; have := (r_p1).2; have := (r_x270).1; have := (r_x270).2; have := (r_x272).1; have := (r_x272).2; have := (r_x274).1; have := (r_x274).2; have := (r_x276).1; have := (r_x276).2; have := (r_x278).1; have := (r_x278).2; have := kc_0; have := kc_1; omega)) rfl rfl (Nat.le_of_ble_eq_true rfl) (mh_rok (by omega) (by decide)) (fun x287 s288 q289 => ?_)
        obtain ⟨r_x287, e0_s288, rfl⟩ := q289
        obtain rfl : x280 = x287 := e0_s281.trans e0_s288.symm
        refine mw_iconst (v := 0) 30 rfl dX10_folds_29 (by decide) ?_
        refine mw_callVv [.int x280, .int (0)] [] 33 rfl dX10_folds_30 ml_X10_237 mc_X10_emit mk_X10_emit rfl rfl (by decide) (w_X10_emit l G (d + 0) ⟨by omega, by omega⟩ hI_s215 x280 (0) (by rw [← t275, ← t277]; have := (r_p1).1; have := (r_p1).2; have := (r_x270).1; have := (r_x270).2; have := (r_x272).1; have := (r_x272).2; have := (r_x274).1; have := (r_x274).2; have := (r_x276).1; have := (r_x276).2; have := (r_x278).1; have := (r_x278).2; have := kc_0; have := kc_1; omega)) rfl rfl (Nat.le_of_ble_eq_true rfl) (mh_rok (by omega) (by decide)) (fun s291 q292 => ?_)
        obtain ⟨e0_s291, hI_s291, hG_s291⟩ := q292
        have hF_s291 : mh_F S_X10_folds s0 s291 := mh_F_tl hF_s215 hG_s291 (by decide +kernel)
        obtain ⟨x293, t294⟩ : ∃ z : Int32, z = s291.1 57 27 := ⟨_, rfl⟩
        have hm_s291 : (x274.toInt = 0 → s291.1 74 = mh_u1 (s215.1 74) x276.toInt.toNat x280 ∧ x293.toInt = x276.toInt + 1) ∧ (x274.toInt ≠ 0 → s291.1 74 = s215.1 74 ∧ x293.toInt = x276.toInt) := by
          have h9 := e0_s291
          rw [← t275, ← t277] at h9
          rw [← t294] at h9
          exact ⟨h9.1, fun q => ⟨(h9.2 q).1, congrArg Int32.toInt (h9.2 q).2⟩⟩
        have hn_s291 : (x274.toInt = 0 ∧ x293.toInt = x276.toInt + 1) ∨ (x274.toInt ≠ 0 ∧ x293.toInt = x276.toInt) := by by_cases q : x274.toInt = 0; exact Or.inl ⟨q, (hm_s291.1 q).2⟩; exact Or.inr ⟨q, (hm_s291.2 q).2⟩
        have r_x293 : mh_r x293 (0) (201) := ⟨by have := (r_x276).1; omega, by have := (r_x276).2; omega⟩
        refine mw_aload_n 34 rfl 0 dX10_folds_33 rfl rfl ?_
        refine mw_dup 35 rfl dX10_folds_34 rfl ?_
        refine mw_geti 38 rfl dX10_folds_35 gf_X10_204 rfl (fun x295 t296 => ?_)
        have t297 : x278 = s291.1 57 29 := (t279).trans (hG_s291 57 29 (mh_nsI (by rfl))).1.symm
        obtain rfl : x278 = x295 := t297.trans t296.symm
        refine mw_iconst (v := 1) 39 rfl dX10_folds_38 (by decide) ?_
        refine mw_isub 40 rfl (-1) (199) dX10_folds_39 r_x278 rc_1 (by decide) (fun x298 t299 r_x298 => ?_)
        refine mw_puti 43 rfl dX10_folds_40 pf_X10_204 rfl (fun s300 t301 => ?_)
        have hI_s300 : mh_I B D s300 := by rw [t301]; exact wr_57_29 hI_s291
        have hF_s300 : mh_F S_X10_folds s0 s300 := by rw [t301]; exact mh_F_pI hF_s291 (mh_sj 3 rfl)
        refine mw_goto 46 rfl 0 dX10_folds_43 (by decide) ?_
        have t302 : x270 = s291.1 57 23 := (t271).trans (hG_s291 57 23 (mh_nsI (by rfl))).1.symm
        have t303 : x270 = s300.1 57 23 := by rw [t301]; exact (t302).trans (mh_pI_n (by omega)).symm
        have t304 : x272 = s291.1 57 24 := (t273).trans (hG_s291 57 24 (mh_nsI (by rfl))).1.symm
        have t305 : x272 = s300.1 57 24 := by rw [t301]; exact (t304).trans (mh_pI_n (by omega)).symm
        have t306 : x274 = s291.1 57 25 := (t275).trans (hG_s291 57 25 (mh_nsI (by rfl))).1.symm
        have t307 : x274 = s300.1 57 25 := by rw [t301]; exact (t306).trans (mh_pI_n (by omega)).symm
        have t308 : x293 = s300.1 57 27 := by rw [t301]; exact (t294).trans (mh_pI_n (by omega)).symm
        have t309 : x298 = s300.1 57 29 := by rw [t301]; exact mh_pI_s.symm
        exact mw_lv [0, 1] rfl (ihn1 s300 hI_s300 hF_s300 (by
            refine ⟨(show mh_pb b s300 by unfold mh_pb; rw [← t303, ← t305, ← t307, ← t308, ← t309]; have := kc_0; have := kc_1; have := (r_p1).1; have := (r_p1).2; have := (r_x270).1; have := (r_x270).2; have := (r_x272).1; have := (r_x272).2; have := (r_x274).1; have := (r_x274).2; have := (r_x276).1; have := (r_x276).2; have := (r_x278).1; have := (r_x278).2; have := (r_x293).1; have := (r_x293).2; have := (r_x298).1; have := (r_x298).2; have := (rc_1).1; have := (rc_1).2; have := kc_0; have := kc_1; omega), ?_, ?_, ?_, ?_⟩
            · skip
              intro hg
              have := congrArg Int32.toInt t271
              have := congrArg Int32.toInt t273
              have := congrArg Int32.toInt t275
              have := congrArg Int32.toInt t277
              have := congrArg Int32.toInt t279
              have := congrArg Int32.toInt t294
              have := congrArg Int32.toInt t297
              have := congrArg Int32.toInt t303
              have := congrArg Int32.toInt t305
              have := congrArg Int32.toInt t307
              have := congrArg Int32.toInt t308
              have := congrArg Int32.toInt t309
              have := (r_p1).1; have := (r_p1).2
              have := (r_x270).1; have := (r_x270).2
              have := (r_x272).1; have := (r_x272).2
              have := (r_x274).1; have := (r_x274).2
              have := (r_x276).1; have := (r_x276).2
              have := (r_x278).1; have := (r_x278).2
              have := (r_x293).1; have := (r_x293).2
              have := (r_x298).1; have := (r_x298).2
              have := (rc_1).1; have := (rc_1).2
              have := kc_0
              have := kc_1
              have hq9 := hq_x280 (by omega)
              have hg0 : x274.toInt = 0 := by omega
              have h74 : s300.1 74 = mh_u1 (s215.1 74) x276.toInt.toNat x280 := ((by rw [t301]; exact mh_row_n (by decide) : s300.1 74 = s291.1 74)).trans (hm_s291.1 hg0).1
              have h76 : s300.1 76 = s215.1 76 := ((by rw [t301]; exact mh_row_n (by decide) : s300.1 76 = s291.1 76)).trans (mh_F_row hG_s291 76 rfl)
              have hB := iv.2.1 (by rw [← t275]; exact hg0)
              rw [← t277, ← t279] at hB
              have hcod : (s300.1 57 27).toInt = x276.toInt + 1 := by rw [← t308]; exact (hm_s291.1 hg0).2
              have hst : (s300.1 57 29).toInt.toNat = x278.toInt.toNat - 1 := by rw [← t309]; omega
              rw [h74, h76, hcod, hst]
              exact mh_pdr_bin hB ⟨by omega, by omega⟩ (by omega) hq9.2 (by show ¬ (_ ∨ _ ∨ _); omega) (by omega)
            · skip
              have := congrArg Int32.toInt t271
              have := congrArg Int32.toInt t273
              have := congrArg Int32.toInt t275
              have := congrArg Int32.toInt t277
              have := congrArg Int32.toInt t279
              have := congrArg Int32.toInt t294
              have := congrArg Int32.toInt t297
              have := congrArg Int32.toInt t303
              have := congrArg Int32.toInt t305
              have := congrArg Int32.toInt t307
              have := congrArg Int32.toInt t308
              have := congrArg Int32.toInt t309
              have := (r_p1).1; have := (r_p1).2
              have := (r_x270).1; have := (r_x270).2
              have := (r_x272).1; have := (r_x272).2
              have := (r_x274).1; have := (r_x274).2
              have := (r_x276).1; have := (r_x276).2
              have := (r_x278).1; have := (r_x278).2
              have := (r_x293).1; have := (r_x293).2
              have := (r_x298).1; have := (r_x298).2
              have := (rc_1).1; have := (rc_1).2
              have := kc_0
              have := kc_1
              exact mh_pk_tr iv.2.2.1 (mh_pk_tr (mh_pk_em hm_s291 ⟨by omega, by omega⟩) (mh_pk_row ((by rw [t301]; exact mh_row_n (by decide) : s300.1 74 = s291.1 74))))
            · skip
              have := congrArg Int32.toInt t271
              have := congrArg Int32.toInt t273
              have := congrArg Int32.toInt t275
              have := congrArg Int32.toInt t277
              have := congrArg Int32.toInt t279
              have := congrArg Int32.toInt t294
              have := congrArg Int32.toInt t297
              have := congrArg Int32.toInt t303
              have := congrArg Int32.toInt t305
              have := congrArg Int32.toInt t307
              have := congrArg Int32.toInt t308
              have := congrArg Int32.toInt t309
              have := (r_p1).1; have := (r_p1).2
              have := (r_x270).1; have := (r_x270).2
              have := (r_x272).1; have := (r_x272).2
              have := (r_x274).1; have := (r_x274).2
              have := (r_x276).1; have := (r_x276).2
              have := (r_x278).1; have := (r_x278).2
              have := (r_x293).1; have := (r_x293).2
              have := (r_x298).1; have := (r_x298).2
              have := (rc_1).1; have := (rc_1).2
              have := kc_0
              have := kc_1
              omega
            · skip
              intro j h1 h2
              have := congrArg Int32.toInt t271
              have := congrArg Int32.toInt t273
              have := congrArg Int32.toInt t275
              have := congrArg Int32.toInt t277
              have := congrArg Int32.toInt t279
              have := congrArg Int32.toInt t294
              have := congrArg Int32.toInt t297
              have := congrArg Int32.toInt t303
              have := congrArg Int32.toInt t305
              have := congrArg Int32.toInt t307
              have := congrArg Int32.toInt t308
              have := congrArg Int32.toInt t309
              have := (r_p1).1; have := (r_p1).2
              have := (r_x270).1; have := (r_x270).2
              have := (r_x272).1; have := (r_x272).2
              have := (r_x274).1; have := (r_x274).2
              have := (r_x276).1; have := (r_x276).2
              have := (r_x278).1; have := (r_x278).2
              have := (r_x293).1; have := (r_x293).2
              have := (r_x298).1; have := (r_x298).2
              have := (rc_1).1; have := (rc_1).2
              have := kc_0
              have := kc_1
              have hq9 := hq_x280 (by omega)
              rcases Nat.lt_or_ge j x278.toInt.toNat with h3 | h3
              · have h4 : j = x278.toInt.toNat - 1 := by omega
                have h5 : s0.1 76 j = x280 := by rw [h4, ← mh_F_row hF_s215 76 rfl]; exact hq9.2
                rw [h5]; omega
              · exact iv.2.2.2.2 j (by rw [← t279]; exact h3) h2) (by have := congrArg Int32.toInt t271; have := congrArg Int32.toInt t273; have := congrArg Int32.toInt t275; have := congrArg Int32.toInt t277; have := congrArg Int32.toInt t279; have := congrArg Int32.toInt t294; have := congrArg Int32.toInt t297; have := congrArg Int32.toInt t303; have := congrArg Int32.toInt t305; have := congrArg Int32.toInt t307; have := congrArg Int32.toInt t308; have := congrArg Int32.toInt t309; have := (r_p1).1; have := (r_p1).2; have := (r_x270).1; have := (r_x270).2; have := (r_x272).1; have := (r_x272).2; have := (r_x274).1; have := (r_x274).2; have := (r_x276).1; have := (r_x276).2; have := (r_x278).1; have := (r_x278).2; have := (r_x293).1; have := (r_x293).2; have := (r_x298).1; have := (r_x298).2; have := (rc_1).1; have := (rc_1).2; have := kc_0; have := kc_1; omega))
      · skip
        have hk_x283 := fun q => (by have := e0_s284.2 q; have := c286; omega : False)
        have r_x283 : mh_r x283 (0) (0) := mh_eq1 (show x283.toInt = (0 : Int32).toInt from c286) r_x283 rc_0 (0) (0) (by decide)
        refine mw_iload_n 11 rfl 1 dX10_folds_10 rfl rfl ?_
        refine mw_if_eq 14 rfl 46 dX10_folds_11 (by decide) (fun c310 => ?_) (fun c310 => ?_)
        · skip
          have r_p1 : mh_r p1 (0) (0) := mh_eq1 (show p1.toInt = (0 : Int32).toInt from c310) r_p1 rc_0 (0) (0) (by decide)
          refine mw_vret dX10_folds_46 rfl ⟨rfl, ⟨?_, ?_, ?_, ?_, ?_, ?_, hI_s215, hF_s215⟩⟩
          · skip
            exact iv.1
          · skip
            exact iv.2.1
          · skip
            exact iv.2.2.1
          · skip
            exact iv.2.2.2.1
          · skip
            exact iv.2.2.2.2
          · skip
            rw [← e0_s281]
            have := congrArg Int32.toInt t271
            have := congrArg Int32.toInt t273
            have := congrArg Int32.toInt t275
            have := congrArg Int32.toInt t277
            have := congrArg Int32.toInt t279
            have := (r_p1).1; have := (r_p1).2
            have := (r_x270).1; have := (r_x270).2
            have := (r_x272).1; have := (r_x272).2
            have := (r_x274).1; have := (r_x274).2
            have := (r_x276).1; have := (r_x276).2
            have := (r_x278).1; have := (r_x278).2
            have := kc_0
            have := kc_1
            refine ⟨fun q => ?_, fun q1 q => ?_⟩
            · first | omega | (exact (by assumption : _ → False) q)
            · first | omega | (exact (by assumption : _ → False) q)
        · skip
          have r_p1 : mh_r p1 (1) (1) := mh_ne1 (show p1.toInt ≠ (0 : Int32).toInt from c310) r_p1 rc_0 (1) (1) (by decide)
          refine mw_aload_n 15 rfl 0 dX10_folds_14 rfl rfl ?_
          refine mw_callVi [] [] 18 rfl dX10_folds_15 ml_X10_228 mc_X10_top mk_X10_top rfl rfl (by decide) (w_X10_top l G (d + 1) ⟨by omega, by omega⟩ hI_s215 (by rw [← t279]; have := (r_p1).1; have := (r_p1).2; have := (r_x270).1; have := (r_x270).2; have := (r_x272).1; have := (r_x272).2; have := (r_x274).1; have := (r_x274).2; have := (r_x276).1; have := (r_x276).2; have := (r_x278).1; have := (r_x278).2; have := kc_0; have := kc_1; omega)) rfl rfl (Nat.le_of_ble_eq_true rfl) (mh_rok (by omega) (by decide)) (fun x311 s312 q313 => ?_)
          obtain ⟨r_x311, e0_s312, rfl⟩ := q313
          obtain rfl : x280 = x311 := e0_s281.trans e0_s312.symm
          refine mw_callSi [.int x280] [] 21 rfl dX10_folds_18 ml_X10_234 mc_X10_isPlus mk_X10_isPlus (w_X10_isPlus l G (d + 1) ⟨by omega, by omega⟩ hI_s215 x280) rfl rfl (Nat.le_of_ble_eq_true rfl) (mh_rok (by omega) (by decide)) (fun x314 s315 q316 => ?_)
          obtain ⟨r_x314, e0_s315, rfl⟩ := q316
          refine mw_if_eq 24 rfl 46 dX10_folds_21 (by decide) (fun c317 => ?_) (fun c317 => ?_)
          · skip
            have hk_x314 := fun q => (by have := e0_s315.2 q; have := c317; omega : False)
            have r_x314 : mh_r x314 (0) (0) := mh_eq1 (show x314.toInt = (0 : Int32).toInt from c317) r_x314 rc_0 (0) (0) (by decide)
            refine mw_vret dX10_folds_46 rfl ⟨rfl, ⟨?_, ?_, ?_, ?_, ?_, ?_, hI_s215, hF_s215⟩⟩
            · skip
              exact iv.1
            · skip
              exact iv.2.1
            · skip
              exact iv.2.2.1
            · skip
              exact iv.2.2.2.1
            · skip
              exact iv.2.2.2.2
            · skip
              rw [← e0_s281]
              have := congrArg Int32.toInt t271
              have := congrArg Int32.toInt t273
              have := congrArg Int32.toInt t275
              have := congrArg Int32.toInt t277
              have := congrArg Int32.toInt t279
              have := (r_p1).1; have := (r_p1).2
              have := (r_x270).1; have := (r_x270).2
              have := (r_x272).1; have := (r_x272).2
              have := (r_x274).1; have := (r_x274).2
              have := (r_x276).1; have := (r_x276).2
              have := (r_x278).1; have := (r_x278).2
              have := kc_0
              have := kc_1
              refine ⟨fun q => ?_, fun q1 q => ?_⟩
              · first | omega | (exact (by assumption : _ → False) q)
              · first | omega | (exact (by assumption : _ → False) q)
          · skip
            have hk_x314 := e0_s315.1 (mh_z1 r_x314 c317)
            have r_x314 : mh_r x314 (1) (1) := mh_ne1 (show x314.toInt ≠ (0 : Int32).toInt from c317) r_x314 rc_0 (1) (1) (by decide)
            refine mw_aload_n 25 rfl 0 dX10_folds_24 rfl rfl ?_
            refine mw_aload_n 26 rfl 0 dX10_folds_25 rfl rfl ?_
            refine mw_callVi [] [.ref (G.2.2.2 57)] 29 rfl dX10_folds_26 ml_X10_228 mc_X10_top mk_X10_top rfl rfl (by decide) (w_X10_top l G (d + 1) ⟨by omega, by omega⟩ hI_s215 (by rw [← t279]; have := (r_p1).1; have := (r_p1).2; have := (r_x270).1; have := (r_x270).2; have := (r_x272).1; have := (r_x272).2; have := (r_x274).1; have := (r_x274).2; have := (r_x276).1; have := (r_x276).2; have := (r_x278).1; have := (r_x278).2; have := kc_0; have := kc_1; omega)) rfl rfl (Nat.le_of_ble_eq_true rfl) (mh_rok (by omega) (by decide)) (fun x318 s319 q320 => ?_)
            obtain ⟨r_x318, e0_s319, rfl⟩ := q320
            obtain rfl : x280 = x318 := e0_s281.trans e0_s319.symm
            refine mw_iconst (v := 0) 30 rfl dX10_folds_29 (by decide) ?_
            refine mw_callVv [.int x280, .int (0)] [] 33 rfl dX10_folds_30 ml_X10_237 mc_X10_emit mk_X10_emit rfl rfl (by decide) (w_X10_emit l G (d + 0) ⟨by omega, by omega⟩ hI_s215 x280 (0) (by rw [← t275, ← t277]; have := (r_p1).1; have := (r_p1).2; have := (r_x270).1; have := (r_x270).2; have := (r_x272).1; have := (r_x272).2; have := (r_x274).1; have := (r_x274).2; have := (r_x276).1; have := (r_x276).2; have := (r_x278).1; have := (r_x278).2; have := kc_0; have := kc_1; omega)) rfl rfl (Nat.le_of_ble_eq_true rfl) (mh_rok (by omega) (by decide)) (fun s322 q323 => ?_)
            obtain ⟨e0_s322, hI_s322, hG_s322⟩ := q323
            have hF_s322 : mh_F S_X10_folds s0 s322 := mh_F_tl hF_s215 hG_s322 (by decide +kernel)
            obtain ⟨x324, t325⟩ : ∃ z : Int32, z = s322.1 57 27 := ⟨_, rfl⟩
            have hm_s322 : (x274.toInt = 0 → s322.1 74 = mh_u1 (s215.1 74) x276.toInt.toNat x280 ∧ x324.toInt = x276.toInt + 1) ∧ (x274.toInt ≠ 0 → s322.1 74 = s215.1 74 ∧ x324.toInt = x276.toInt) := by
              have h9 := e0_s322
              rw [← t275, ← t277] at h9
              rw [← t325] at h9
              exact ⟨h9.1, fun q => ⟨(h9.2 q).1, congrArg Int32.toInt (h9.2 q).2⟩⟩
            have hn_s322 : (x274.toInt = 0 ∧ x324.toInt = x276.toInt + 1) ∨ (x274.toInt ≠ 0 ∧ x324.toInt = x276.toInt) := by by_cases q : x274.toInt = 0; exact Or.inl ⟨q, (hm_s322.1 q).2⟩; exact Or.inr ⟨q, (hm_s322.2 q).2⟩
            have r_x324 : mh_r x324 (0) (201) := ⟨by have := (r_x276).1; omega, by have := (r_x276).2; omega⟩
            refine mw_aload_n 34 rfl 0 dX10_folds_33 rfl rfl ?_
            refine mw_dup 35 rfl dX10_folds_34 rfl ?_
            refine mw_geti 38 rfl dX10_folds_35 gf_X10_204 rfl (fun x326 t327 => ?_)
            have t328 : x278 = s322.1 57 29 := (t279).trans (hG_s322 57 29 (mh_nsI (by rfl))).1.symm
            obtain rfl : x278 = x326 := t328.trans t327.symm
            refine mw_iconst (v := 1) 39 rfl dX10_folds_38 (by decide) ?_
            refine mw_isub 40 rfl (-1) (199) dX10_folds_39 r_x278 rc_1 (by decide) (fun x329 t330 r_x329 => ?_)
            refine mw_puti 43 rfl dX10_folds_40 pf_X10_204 rfl (fun s331 t332 => ?_)
            have hI_s331 : mh_I B D s331 := by rw [t332]; exact wr_57_29 hI_s322
            have hF_s331 : mh_F S_X10_folds s0 s331 := by rw [t332]; exact mh_F_pI hF_s322 (mh_sj 3 rfl)
            refine mw_goto 46 rfl 0 dX10_folds_43 (by decide) ?_
            have t333 : x270 = s322.1 57 23 := (t271).trans (hG_s322 57 23 (mh_nsI (by rfl))).1.symm
            have t334 : x270 = s331.1 57 23 := by rw [t332]; exact (t333).trans (mh_pI_n (by omega)).symm
            have t335 : x272 = s322.1 57 24 := (t273).trans (hG_s322 57 24 (mh_nsI (by rfl))).1.symm
            have t336 : x272 = s331.1 57 24 := by rw [t332]; exact (t335).trans (mh_pI_n (by omega)).symm
            have t337 : x274 = s322.1 57 25 := (t275).trans (hG_s322 57 25 (mh_nsI (by rfl))).1.symm
            have t338 : x274 = s331.1 57 25 := by rw [t332]; exact (t337).trans (mh_pI_n (by omega)).symm
            have t339 : x324 = s331.1 57 27 := by rw [t332]; exact (t325).trans (mh_pI_n (by omega)).symm
            have t340 : x329 = s331.1 57 29 := by rw [t332]; exact mh_pI_s.symm
            exact mw_lv [0, 1] rfl (ihn1 s331 hI_s331 hF_s331 (by
                refine ⟨(show mh_pb b s331 by unfold mh_pb; rw [← t334, ← t336, ← t338, ← t339, ← t340]; have := kc_0; have := kc_1; have := (r_p1).1; have := (r_p1).2; have := (r_x270).1; have := (r_x270).2; have := (r_x272).1; have := (r_x272).2; have := (r_x274).1; have := (r_x274).2; have := (r_x276).1; have := (r_x276).2; have := (r_x278).1; have := (r_x278).2; have := (r_x324).1; have := (r_x324).2; have := (r_x329).1; have := (r_x329).2; have := (rc_1).1; have := (rc_1).2; have := kc_0; have := kc_1; omega), ?_, ?_, ?_, ?_⟩
                · skip
                  intro hg
                  have := congrArg Int32.toInt t271
                  have := congrArg Int32.toInt t273
                  have := congrArg Int32.toInt t275
                  have := congrArg Int32.toInt t277
                  have := congrArg Int32.toInt t279
                  have := congrArg Int32.toInt t325
                  have := congrArg Int32.toInt t328
                  have := congrArg Int32.toInt t334
                  have := congrArg Int32.toInt t336
                  have := congrArg Int32.toInt t338
                  have := congrArg Int32.toInt t339
                  have := congrArg Int32.toInt t340
                  have := (r_p1).1; have := (r_p1).2
                  have := (r_x270).1; have := (r_x270).2
                  have := (r_x272).1; have := (r_x272).2
                  have := (r_x274).1; have := (r_x274).2
                  have := (r_x276).1; have := (r_x276).2
                  have := (r_x278).1; have := (r_x278).2
                  have := (r_x324).1; have := (r_x324).2
                  have := (r_x329).1; have := (r_x329).2
                  have := (rc_1).1; have := (rc_1).2
                  have := kc_0
                  have := kc_1
                  have hq9 := hq_x280 (by omega)
                  have hg0 : x274.toInt = 0 := by omega
                  have h74 : s331.1 74 = mh_u1 (s215.1 74) x276.toInt.toNat x280 := ((by rw [t332]; exact mh_row_n (by decide) : s331.1 74 = s322.1 74)).trans (hm_s322.1 hg0).1
                  have h76 : s331.1 76 = s215.1 76 := ((by rw [t332]; exact mh_row_n (by decide) : s331.1 76 = s322.1 76)).trans (mh_F_row hG_s322 76 rfl)
                  have hB := iv.2.1 (by rw [← t275]; exact hg0)
                  rw [← t277, ← t279] at hB
                  have hcod : (s331.1 57 27).toInt = x276.toInt + 1 := by rw [← t339]; exact (hm_s322.1 hg0).2
                  have hst : (s331.1 57 29).toInt.toNat = x278.toInt.toNat - 1 := by rw [← t340]; omega
                  rw [h74, h76, hcod, hst]
                  exact mh_pdr_bin hB ⟨by omega, by omega⟩ (by omega) hq9.2 (by show ¬ (_ ∨ _ ∨ _); omega) (by omega)
                · skip
                  have := congrArg Int32.toInt t271
                  have := congrArg Int32.toInt t273
                  have := congrArg Int32.toInt t275
                  have := congrArg Int32.toInt t277
                  have := congrArg Int32.toInt t279
                  have := congrArg Int32.toInt t325
                  have := congrArg Int32.toInt t328
                  have := congrArg Int32.toInt t334
                  have := congrArg Int32.toInt t336
                  have := congrArg Int32.toInt t338
                  have := congrArg Int32.toInt t339
                  have := congrArg Int32.toInt t340
                  have := (r_p1).1; have := (r_p1).2
                  have := (r_x270).1; have := (r_x270).2
                  have := (r_x272).1; have := (r_x272).2
                  have := (r_x274).1; have := (r_x274).2
                  have := (r_x276).1; have := (r_x276).2
                  have := (r_x278).1; have := (r_x278).2
                  have := (r_x324).1; have := (r_x324).2
                  have := (r_x329).1; have := (r_x329).2
                  have := (rc_1).1; have := (rc_1).2
                  have := kc_0
                  have := kc_1
                  exact mh_pk_tr iv.2.2.1 (mh_pk_tr (mh_pk_em hm_s322 ⟨by omega, by omega⟩) (mh_pk_row ((by rw [t332]; exact mh_row_n (by decide) : s331.1 74 = s322.1 74))))
                · skip
                  have := congrArg Int32.toInt t271
                  have := congrArg Int32.toInt t273
                  have := congrArg Int32.toInt t275
                  have := congrArg Int32.toInt t277
                  have := congrArg Int32.toInt t279
                  have := congrArg Int32.toInt t325
                  have := congrArg Int32.toInt t328
                  have := congrArg Int32.toInt t334
                  have := congrArg Int32.toInt t336
                  have := congrArg Int32.toInt t338
                  have := congrArg Int32.toInt t339
                  have := congrArg Int32.toInt t340
                  have := (r_p1).1; have := (r_p1).2
                  have := (r_x270).1; have := (r_x270).2
                  have := (r_x272).1; have := (r_x272).2
                  have := (r_x274).1; have := (r_x274).2
                  have := (r_x276).1; have := (r_x276).2
                  have := (r_x278).1; have := (r_x278).2
                  have := (r_x324).1; have := (r_x324).2
                  have := (r_x329).1; have := (r_x329).2
                  have := (rc_1).1; have := (rc_1).2
                  have := kc_0
                  have := kc_1
                  omega
                · skip
                  intro j h1 h2
                  have := congrArg Int32.toInt t271
                  have := congrArg Int32.toInt t273
                  have := congrArg Int32.toInt t275
                  have := congrArg Int32.toInt t277
                  have := congrArg Int32.toInt t279
                  have := congrArg Int32.toInt t325
                  have := congrArg Int32.toInt t328
                  have := congrArg Int32.toInt t334
                  have := congrArg Int32.toInt t336
                  have := congrArg Int32.toInt t338
                  have := congrArg Int32.toInt t339
                  have := congrArg Int32.toInt t340
                  have := (r_p1).1; have := (r_p1).2
                  have := (r_x270).1; have := (r_x270).2
                  have := (r_x272).1; have := (r_x272).2
                  have := (r_x274).1; have := (r_x274).2
                  have := (r_x276).1; have := (r_x276).2
                  have := (r_x278).1; have := (r_x278).2
                  have := (r_x324).1; have := (r_x324).2
                  have := (r_x329).1; have := (r_x329).2
                  have := (rc_1).1; have := (rc_1).2
                  have := kc_0
                  have := kc_1
                  have hq9 := hq_x280 (by omega)
                  rcases Nat.lt_or_ge j x278.toInt.toNat with h3 | h3
                  · have h4 : j = x278.toInt.toNat - 1 := by omega
                    have h5 : s0.1 76 j = x280 := by rw [h4, ← mh_F_row hF_s215 76 rfl]; exact hq9.2
                    rw [h5]; omega
                  · exact iv.2.2.2.2 j (by rw [← t279]; exact h3) h2) (by have := congrArg Int32.toInt t271; have := congrArg Int32.toInt t273; have := congrArg Int32.toInt t275; have := congrArg Int32.toInt t277; have := congrArg Int32.toInt t279; have := congrArg Int32.toInt t325; have := congrArg Int32.toInt t328; have := congrArg Int32.toInt t334; have := congrArg Int32.toInt t336; have := congrArg Int32.toInt t338; have := congrArg Int32.toInt t339; have := congrArg Int32.toInt t340; have := (r_p1).1; have := (r_p1).2; have := (r_x270).1; have := (r_x270).2; have := (r_x272).1; have := (r_x272).2; have := (r_x274).1; have := (r_x274).2; have := (r_x276).1; have := (r_x276).2; have := (r_x278).1; have := (r_x278).2; have := (r_x324).1; have := (r_x324).2; have := (r_x329).1; have := (r_x329).2; have := (rc_1).1; have := (rc_1).2; have := kc_0; have := kc_1; omega))
  exact mw_lv [0, 1] rfl (L0 202 s0 hI0 hF0 (by
      exact ⟨hb, hd, mh_pk_rf, Int.le_refl _, fun j h1 h2 => absurd h1 (by omega)⟩) (by have h9 := hb; unfold mh_pb at h9; omega))

def S_X10_joins : List (Nat × Nat) := [(74, 9999), (75, 9999), (57, 27), (57, 29)]
def P_X10_joins (B D : Int) (s0 : mh_H) (p1 : Int32) (b : Int) : mh_H → Prop := fun s => (mh_pb b s) ∧ (mh_pd b 1 s) ∧ (mh_pk b s0 s) ∧ ((s.1 57 29).toInt ≤ (s0.1 57 29).toInt) ∧ (∀ j : Nat, (s.1 57 29).toInt.toNat ≤ j → j < (s0.1 57 29).toInt.toNat → ((s0.1 76 j).toInt = 38 ∨ (s0.1 76 j).toInt = 124)) ∧ ((mh_tp s).toInt ≠ 38 ∧ (p1.toInt = 1 → (mh_tp s).toInt ≠ 124)) ∧ mh_I B D s ∧ mh_F S_X10_joins s0 s
set_option maxRecDepth 100000 in
set_option maxHeartbeats 4000000 in
theorem w_X10_joins (l : Launch) (G : mh_G) (d : Nat) {B D : Int} (hB : B ≤ 1960000000 ∧ D ≤ 1960000000) {s0 : mh_H} (hI0 : mh_I B D s0) (p1 : Int32) (r_p1 : mh_r p1 (0) (1)) (b : Int) (hb : mh_pb b s0) (hd : mh_pd b 1 s0) : mh_Mv l G (d + 2) mM_X10_joins [.ref (G.2.2.2 57), .int p1] s0 (P_X10_joins B D s0 p1 b) := by
  refine mh_enter (lv := [(0, .ref (G.2.2.2 57)), (1, .int p1)]) (by decide) rfl (Nat.le_of_ble_eq_true rfl) ?_
  have hF0 : mh_F S_X10_joins s0 s0 := mh_F_rf
  obtain ⟨x144, t145⟩ : ∃ z : Int32, z = s0.1 57 23 := ⟨_, rfl⟩
  obtain ⟨x146, t147⟩ : ∃ z : Int32, z = s0.1 57 24 := ⟨_, rfl⟩
  obtain ⟨x148, t149⟩ : ∃ z : Int32, z = s0.1 57 25 := ⟨_, rfl⟩
  obtain ⟨x150, t151⟩ : ∃ z : Int32, z = s0.1 57 27 := ⟨_, rfl⟩
  obtain ⟨x152, t153⟩ : ∃ z : Int32, z = s0.1 57 29 := ⟨_, rfl⟩
  have pb_s0 : 0 ≤ x144.toInt ∧ x144.toInt ≤ x146.toInt ∧ x146.toInt ≤ 200 ∧ 0 ≤ x152.toInt ∧ 0 ≤ b ∧ b ≤ x150.toInt ∧ x152.toInt + x150.toInt ≤ x144.toInt ∧ x148.toInt ≤ 0 := by have h9 := hb; unfold mh_pb at h9; rw [← t145, ← t147, ← t149, ← t151, ← t153] at h9; exact h9
  have r_x144 : mh_r x144 (0) (200) := ⟨by have := ((mh_r_full x144)).1; omega, by have := ((mh_r_full x144)).2; omega⟩
  have r_x146 : mh_r x146 (0) (200) := ⟨by have := ((mh_r_full x146)).1; omega, by have := ((mh_r_full x146)).2; omega⟩
  have r_x148 : mh_r x148 (-2147483648) (0) := ⟨by have := ((mh_r_full x148)).1; omega, by have := ((mh_r_full x148)).2; omega⟩
  have r_x150 : mh_r x150 (0) (200) := ⟨by have := ((mh_r_full x150)).1; omega, by have := ((mh_r_full x150)).2; omega⟩
  have r_x152 : mh_r x152 (0) (200) := ⟨by have := ((mh_r_full x152)).1; omega, by have := ((mh_r_full x152)).2; omega⟩
  have L0 : ∀ n1 : Nat, ∀  (s191 : mh_H), mh_I B D s191 → mh_F S_X10_joins s0 s191 → (mh_pb b s191 ∧ mh_pd b 1 s191 ∧ mh_pk b s0 s191 ∧ (s191.1 57 29).toInt ≤ (s0.1 57 29).toInt ∧ (∀ j : Nat, (s191.1 57 29).toInt.toNat ≤ j → j < (s0.1 57 29).toInt.toNat → ((s0.1 76 j).toInt = 38 ∨ (s0.1 76 j).toInt = 124))) → (s191.1 57 29).toInt < (n1 : Int) → mh_W G (mh_XM l G (d + 2) (mh_Qv (P_X10_joins B D s0 p1 b))) mM_X10_joins 0 [(0, .ref (G.2.2.2 57)), (1, .int p1)] [] s191 := by
    intro n1
    induction n1 with
    | zero =>
      intro s191 hI_s191 hF_s191 iv hmn1
      exact absurd hmn1 (by have h9 := iv.1; unfold mh_pb at h9; omega)
    | succ n1 ihn1 =>
      intro s191 hI_s191 hF_s191 iv hmn1
      obtain ⟨x240, t241⟩ : ∃ z : Int32, z = s191.1 57 23 := ⟨_, rfl⟩
      obtain ⟨x242, t243⟩ : ∃ z : Int32, z = s191.1 57 24 := ⟨_, rfl⟩
      obtain ⟨x244, t245⟩ : ∃ z : Int32, z = s191.1 57 25 := ⟨_, rfl⟩
      obtain ⟨x246, t247⟩ : ∃ z : Int32, z = s191.1 57 27 := ⟨_, rfl⟩
      obtain ⟨x248, t249⟩ : ∃ z : Int32, z = s191.1 57 29 := ⟨_, rfl⟩
      have pb_s191 : 0 ≤ x240.toInt ∧ x240.toInt ≤ x242.toInt ∧ x242.toInt ≤ 200 ∧ 0 ≤ x248.toInt ∧ 0 ≤ b ∧ b ≤ x246.toInt ∧ x248.toInt + x246.toInt ≤ x240.toInt ∧ x244.toInt ≤ 0 := by have h9 := iv.1; unfold mh_pb at h9; rw [← t241, ← t243, ← t245, ← t247, ← t249] at h9; exact h9
      have r_x240 : mh_r x240 (0) (200) := ⟨by have := ((mh_r_full x240)).1; omega, by have := ((mh_r_full x240)).2; omega⟩
      have r_x242 : mh_r x242 (0) (200) := ⟨by have := ((mh_r_full x242)).1; omega, by have := ((mh_r_full x242)).2; omega⟩
      have r_x244 : mh_r x244 (-2147483648) (0) := ⟨by have := ((mh_r_full x244)).1; omega, by have := ((mh_r_full x244)).2; omega⟩
      have r_x246 : mh_r x246 (0) (200) := ⟨by have := ((mh_r_full x246)).1; omega, by have := ((mh_r_full x246)).2; omega⟩
      have r_x248 : mh_r x248 (0) (200) := ⟨by have := ((mh_r_full x248)).1; omega, by have := ((mh_r_full x248)).2; omega⟩
      refine mw_aload_n 1 rfl 0 dX10_joins_0 rfl rfl ?_
      refine mw_callVi [] [] 4 rfl dX10_joins_1 ml_X10_228 mc_X10_top mk_X10_top rfl rfl (by decide) (w_X10_top l G (d + 1) ⟨by omega, by omega⟩ hI_s191 (by rw [← t249]; have := (r_p1).1; have := (r_p1).2; have := (r_x240).1; have := (r_x240).2; have := (r_x242).1; have := (r_x242).2; have := (r_x244).1; have := (r_x244).2; have := (r_x246).1; have := (r_x246).2; have := (r_x248).1; have := (r_x248).2; have := kc_0; have := kc_1; have := kc_38; have := kc_124; omega)) rfl rfl (Nat.le_of_ble_eq_true rfl) (mh_rok (by omega) (by decide)) (fun x250 s251 q252 => ?_)
      obtain ⟨r_x250, e0_s251, rfl⟩ := q252
      have hq_x250 : x250.toInt ≠ 0 → 0 < x248.toInt ∧ s191.1 76 (x248.toInt.toNat - 1) = x250 := fun q => by rw [t249]; have h9 := mh_tp_s (σ := s191) (by rw [← e0_s251]; exact q); rw [← e0_s251] at h9; exact h9
      refine mw_bipush (v := 38) 6 rfl dX10_joins_4 (by decide) ?_
      refine mw_icmp_eq 9 rfl 22 dX10_joins_6 (by decide) (fun c253 => ?_) (fun c253 => ?_)
      · skip
        have r_x250 : mh_r x250 (38) (38) := mh_eq1 c253 r_x250 rc_38 (38) (38) (by decide)
        refine mw_aload_n 23 rfl 0 dX10_joins_22 rfl rfl ?_
        refine mw_aload_n 24 rfl 0 dX10_joins_23 rfl rfl ?_
        refine mw_callVi [] [.ref (G.2.2.2 57)] 27 rfl dX10_joins_24 ml_X10_228 mc_X10_top mk_X10_top rfl rfl (by decide) (w_X10_top l G (d + 1) ⟨by omega, by omega⟩ hI_s191 (by rw [← t249]; have := (r_p1).1; have := (r_p1).2; have := (r_x240).1; have := (r_x240).2; have := (r_x242).1; have := (r_x242).2; have := (r_x244).1; have := (r_x244).2; have := (r_x246).1; have := (r_x246).2; have := (r_x248).1; have := (r_x248).2; have := kc_0; have := kc_1; have := kc_38; have := kc_124; omega)) rfl rfl (Nat.le_of_ble_eq_true rfl) (mh_rok (by omega) (by decide)) (fun x254 s255 q256 => ?_)
        obtain ⟨r_x254, e0_s255, rfl⟩ := q256
        obtain rfl : x250 = x254 := e0_s251.trans e0_s255.symm
        refine mw_iconst (v := 0) 28 rfl dX10_joins_27 (by decide) ?_
        refine mw_callVv [.int x250, .int (0)] [] 31 rfl dX10_joins_28 ml_X10_237 mc_X10_emit mk_X10_emit rfl rfl (by decide) (w_X10_emit l G (d + 0) ⟨by omega, by omega⟩ hI_s191 x250 (0) (by rw [← t245, ← t247]; have := (r_p1).1; have := (r_p1).2; have := (r_x240).1; have := (r_x240).2; have := (r_x242).1; have := (r_x242).2; have := (r_x244).1; have := (r_x244).2; have := (r_x246).1; have := (r_x246).2; have := (r_x248).1; have := (r_x248).2; have := kc_0; have := kc_1; have := kc_38; have := kc_124; omega)) rfl rfl (Nat.le_of_ble_eq_true rfl) (mh_rok (by omega) (by decide)) (fun s258 q259 => ?_)
        obtain ⟨e0_s258, hI_s258, hG_s258⟩ := q259
        have hF_s258 : mh_F S_X10_joins s0 s258 := mh_F_tl hF_s191 hG_s258 (by decide +kernel)
        obtain ⟨x260, t261⟩ : ∃ z : Int32, z = s258.1 57 27 := ⟨_, rfl⟩
        have hm_s258 : (x244.toInt = 0 → s258.1 74 = mh_u1 (s191.1 74) x246.toInt.toNat x250 ∧ x260.toInt = x246.toInt + 1) ∧ (x244.toInt ≠ 0 → s258.1 74 = s191.1 74 ∧ x260.toInt = x246.toInt) := by
          have h9 := e0_s258
          rw [← t245, ← t247] at h9
          rw [← t261] at h9
          exact ⟨h9.1, fun q => ⟨(h9.2 q).1, congrArg Int32.toInt (h9.2 q).2⟩⟩
        have hn_s258 : (x244.toInt = 0 ∧ x260.toInt = x246.toInt + 1) ∨ (x244.toInt ≠ 0 ∧ x260.toInt = x246.toInt) := by by_cases q : x244.toInt = 0; exact Or.inl ⟨q, (hm_s258.1 q).2⟩; exact Or.inr ⟨q, (hm_s258.2 q).2⟩
        have r_x260 : mh_r x260 (0) (201) := ⟨by have := (r_x246).1; omega, by have := (r_x246).2; omega⟩
        refine mw_aload_n 32 rfl 0 dX10_joins_31 rfl rfl ?_
        refine mw_dup 33 rfl dX10_joins_32 rfl ?_
        refine mw_geti 36 rfl dX10_joins_33 gf_X10_204 rfl (fun x262 t263 => ?_)
        have t264 : x248 = s258.1 57 29 := (t249).trans (hG_s258 57 29 (mh_nsI (by rfl))).1.symm
        obtain rfl : x248 = x262 := t264.trans t263.symm
        refine mw_iconst (v := 1) 37 rfl dX10_joins_36 (by decide) ?_
        refine mw_isub 38 rfl (-1) (199) dX10_joins_37 r_x248 rc_1 (by decide) (fun x265 t266 r_x265 => ?_)
        refine mw_puti 41 rfl dX10_joins_38 pf_X10_204 rfl (fun s267 t268 => ?_)
        have hI_s267 : mh_I B D s267 := by rw [t268]; exact wr_57_29 hI_s258
        have hF_s267 : mh_F S_X10_joins s0 s267 := by rw [t268]; exact mh_F_pI hF_s258 (mh_sj 3 rfl)
        refine mw_goto 44 rfl 0 dX10_joins_41 (by decide) ?_
        have t269 : x240 = s258.1 57 23 := (t241).trans (hG_s258 57 23 (mh_nsI (by rfl))).1.symm
        have t270 : x240 = s267.1 57 23 := by rw [t268]; exact (t269).trans (mh_pI_n (by omega)).symm
        have t271 : x242 = s258.1 57 24 := (t243).trans (hG_s258 57 24 (mh_nsI (by rfl))).1.symm
        have t272 : x242 = s267.1 57 24 := by rw [t268]; exact (t271).trans (mh_pI_n (by omega)).symm
        have t273 : x244 = s258.1 57 25 := (t245).trans (hG_s258 57 25 (mh_nsI (by rfl))).1.symm
        have t274 : x244 = s267.1 57 25 := by rw [t268]; exact (t273).trans (mh_pI_n (by omega)).symm
        have t275 : x260 = s267.1 57 27 := by rw [t268]; exact (t261).trans (mh_pI_n (by omega)).symm
        have t276 : x265 = s267.1 57 29 := by rw [t268]; exact mh_pI_s.symm
        exact mw_lv [0, 1] rfl (ihn1 s267 hI_s267 hF_s267 (by
            refine ⟨(show mh_pb b s267 by unfold mh_pb; rw [← t270, ← t272, ← t274, ← t275, ← t276]; have := kc_0; have := kc_1; have := (r_p1).1; have := (r_p1).2; have := (r_x240).1; have := (r_x240).2; have := (r_x242).1; have := (r_x242).2; have := (r_x244).1; have := (r_x244).2; have := (r_x246).1; have := (r_x246).2; have := (r_x248).1; have := (r_x248).2; have := (r_x260).1; have := (r_x260).2; have := (r_x265).1; have := (r_x265).2; have := (rc_1).1; have := (rc_1).2; have := kc_0; have := kc_1; have := kc_38; have := kc_124; omega), ?_, ?_, ?_, ?_⟩
            · skip
              intro hg
              have := congrArg Int32.toInt t241
              have := congrArg Int32.toInt t243
              have := congrArg Int32.toInt t245
              have := congrArg Int32.toInt t247
              have := congrArg Int32.toInt t249
              have := congrArg Int32.toInt t261
              have := congrArg Int32.toInt t264
              have := congrArg Int32.toInt t270
              have := congrArg Int32.toInt t272
              have := congrArg Int32.toInt t274
              have := congrArg Int32.toInt t275
              have := congrArg Int32.toInt t276
              have := (r_p1).1; have := (r_p1).2
              have := (r_x240).1; have := (r_x240).2
              have := (r_x242).1; have := (r_x242).2
              have := (r_x244).1; have := (r_x244).2
              have := (r_x246).1; have := (r_x246).2
              have := (r_x248).1; have := (r_x248).2
              have := (r_x260).1; have := (r_x260).2
              have := (r_x265).1; have := (r_x265).2
              have := (rc_1).1; have := (rc_1).2
              have := kc_0
              have := kc_1
              have := kc_38
              have := kc_124
              have hq9 := hq_x250 (by omega)
              have hg0 : x244.toInt = 0 := by omega
              have h74 : s267.1 74 = mh_u1 (s191.1 74) x246.toInt.toNat x250 := ((by rw [t268]; exact mh_row_n (by decide) : s267.1 74 = s258.1 74)).trans (hm_s258.1 hg0).1
              have h76 : s267.1 76 = s191.1 76 := ((by rw [t268]; exact mh_row_n (by decide) : s267.1 76 = s258.1 76)).trans (mh_F_row hG_s258 76 rfl)
              have hB := iv.2.1 (by rw [← t245]; exact hg0)
              rw [← t247, ← t249] at hB
              have hcod : (s267.1 57 27).toInt = x246.toInt + 1 := by rw [← t275]; exact (hm_s258.1 hg0).2
              have hst : (s267.1 57 29).toInt.toNat = x248.toInt.toNat - 1 := by rw [← t276]; omega
              rw [h74, h76, hcod, hst]
              exact mh_pdr_bin hB ⟨by omega, by omega⟩ (by omega) hq9.2 (by show ¬ (_ ∨ _ ∨ _); omega) (by omega)
            · skip
              have := congrArg Int32.toInt t241
              have := congrArg Int32.toInt t243
              have := congrArg Int32.toInt t245
              have := congrArg Int32.toInt t247
              have := congrArg Int32.toInt t249
              have := congrArg Int32.toInt t261
              have := congrArg Int32.toInt t264
              have := congrArg Int32.toInt t270
              have := congrArg Int32.toInt t272
              have := congrArg Int32.toInt t274
              have := congrArg Int32.toInt t275
              have := congrArg Int32.toInt t276
              have := (r_p1).1; have := (r_p1).2
              have := (r_x240).1; have := (r_x240).2
              have := (r_x242).1; have := (r_x242).2
              have := (r_x244).1; have := (r_x244).2
              have := (r_x246).1; have := (r_x246).2
              have := (r_x248).1; have := (r_x248).2
              have := (r_x260).1; have := (r_x260).2
              have := (r_x265).1; have := (r_x265).2
              have := (rc_1).1; have := (rc_1).2
              have := kc_0
              have := kc_1
              have := kc_38
              have := kc_124
              exact mh_pk_tr iv.2.2.1 (mh_pk_tr (mh_pk_em hm_s258 ⟨by omega, by omega⟩) (mh_pk_row ((by rw [t268]; exact mh_row_n (by decide) : s267.1 74 = s258.1 74))))
            · skip
              have := congrArg Int32.toInt t241
              have := congrArg Int32.toInt t243
              have := congrArg Int32.toInt t245
              have := congrArg Int32.toInt t247
              have := congrArg Int32.toInt t249
              have := congrArg Int32.toInt t261
              have := congrArg Int32.toInt t264
              have := congrArg Int32.toInt t270
              have := congrArg Int32.toInt t272
              have := congrArg Int32.toInt t274
              have := congrArg Int32.toInt t275
              have := congrArg Int32.toInt t276
              have := (r_p1).1; have := (r_p1).2
              have := (r_x240).1; have := (r_x240).2
              have := (r_x242).1; have := (r_x242).2
              have := (r_x244).1; have := (r_x244).2
              have := (r_x246).1; have := (r_x246).2
              have := (r_x248).1; have := (r_x248).2
              have := (r_x260).1; have := (r_x260).2
              have := (r_x265).1; have := (r_x265).2
              have := (rc_1).1; have := (rc_1).2
              have := kc_0
              have := kc_1
              have := kc_38
              have := kc_124
              omega
            · skip
              intro j h1 h2
              have := congrArg Int32.toInt t241
              have := congrArg Int32.toInt t243
              have := congrArg Int32.toInt t245
              have := congrArg Int32.toInt t247
              have := congrArg Int32.toInt t249
              have := congrArg Int32.toInt t261
              have := congrArg Int32.toInt t264
              have := congrArg Int32.toInt t270
              have := congrArg Int32.toInt t272
              have := congrArg Int32.toInt t274
              have := congrArg Int32.toInt t275
              have := congrArg Int32.toInt t276
              have := (r_p1).1; have := (r_p1).2
              have := (r_x240).1; have := (r_x240).2
              have := (r_x242).1; have := (r_x242).2
              have := (r_x244).1; have := (r_x244).2
              have := (r_x246).1; have := (r_x246).2
              have := (r_x248).1; have := (r_x248).2
              have := (r_x260).1; have := (r_x260).2
              have := (r_x265).1; have := (r_x265).2
              have := (rc_1).1; have := (rc_1).2
              have := kc_0
              have := kc_1
              have := kc_38
              have := kc_124
              have hq9 := hq_x250 (by omega)
              rcases Nat.lt_or_ge j x248.toInt.toNat with h3 | h3
              · have h4 : j = x248.toInt.toNat - 1 := by omega
                have h5 : s0.1 76 j = x250 := by rw [h4, ← mh_F_row hF_s191 76 rfl]; exact hq9.2
                rw [h5]; omega
              · exact iv.2.2.2.2 j (by rw [← t249]; exact h3) h2) (by have := congrArg Int32.toInt t241; have := congrArg Int32.toInt t243; have := congrArg Int32.toInt t245; have := congrArg Int32.toInt t247; have := congrArg Int32.toInt t249; have := congrArg Int32.toInt t261; have := congrArg Int32.toInt t264; have := congrArg Int32.toInt t270; have := congrArg Int32.toInt t272; have := congrArg Int32.toInt t274; have := congrArg Int32.toInt t275; have := congrArg Int32.toInt t276; have := (r_p1).1; have := (r_p1).2; have := (r_x240).1; have := (r_x240).2; have := (r_x242).1; have := (r_x242).2; have := (r_x244).1; have := (r_x244).2; have := (r_x246).1; have := (r_x246).2; have := (r_x248).1; have := (r_x248).2; have := (r_x260).1; have := (r_x260).2; have := (r_x265).1; have := (r_x265).2; have := (rc_1).1; have := (rc_1).2; have := kc_0; have := kc_1; have := kc_38; have := kc_124; omega))
      · skip
        refine mw_iload_n 10 rfl 1 dX10_joins_9 rfl rfl ?_
        refine mw_if_eq 13 rfl 44 dX10_joins_10 (by decide) (fun c277 => ?_) (fun c277 => ?_)
        · skip
          have r_p1 : mh_r p1 (0) (0) := mh_eq1 (show p1.toInt = (0 : Int32).toInt from c277) r_p1 rc_0 (0) (0) (by decide)
          refine mw_vret dX10_joins_44 rfl ⟨rfl, ⟨?_, ?_, ?_, ?_, ?_, ?_, hI_s191, hF_s191⟩⟩
          · skip
            exact iv.1
          · skip
            exact iv.2.1
          · skip
            exact iv.2.2.1
          · skip
            exact iv.2.2.2.1
          · skip
            exact iv.2.2.2.2
          · skip
            rw [← e0_s251]
            have := congrArg Int32.toInt t241
            have := congrArg Int32.toInt t243
            have := congrArg Int32.toInt t245
            have := congrArg Int32.toInt t247
            have := congrArg Int32.toInt t249
            have := (r_p1).1; have := (r_p1).2
            have := (r_x240).1; have := (r_x240).2
            have := (r_x242).1; have := (r_x242).2
            have := (r_x244).1; have := (r_x244).2
            have := (r_x246).1; have := (r_x246).2
            have := (r_x248).1; have := (r_x248).2
            have := kc_0
            have := kc_1
            have := kc_38
            have := kc_124
            omega
        · skip
          have r_p1 : mh_r p1 (1) (1) := mh_ne1 (show p1.toInt ≠ (0 : Int32).toInt from c277) r_p1 rc_0 (1) (1) (by decide)
          refine mw_aload_n 14 rfl 0 dX10_joins_13 rfl rfl ?_
          refine mw_callVi [] [] 17 rfl dX10_joins_14 ml_X10_228 mc_X10_top mk_X10_top rfl rfl (by decide) (w_X10_top l G (d + 1) ⟨by omega, by omega⟩ hI_s191 (by rw [← t249]; have := (r_p1).1; have := (r_p1).2; have := (r_x240).1; have := (r_x240).2; have := (r_x242).1; have := (r_x242).2; have := (r_x244).1; have := (r_x244).2; have := (r_x246).1; have := (r_x246).2; have := (r_x248).1; have := (r_x248).2; have := kc_0; have := kc_1; have := kc_38; have := kc_124; omega)) rfl rfl (Nat.le_of_ble_eq_true rfl) (mh_rok (by omega) (by decide)) (fun x278 s279 q280 => ?_)
          obtain ⟨r_x278, e0_s279, rfl⟩ := q280
          obtain rfl : x250 = x278 := e0_s251.trans e0_s279.symm
          refine mw_bipush (v := 124) 19 rfl dX10_joins_17 (by decide) ?_
          refine mw_icmp_ne 22 rfl 44 dX10_joins_19 (by decide) (fun c281 => ?_) (fun c281 => ?_)
          · skip
            refine mw_vret dX10_joins_44 rfl ⟨rfl, ⟨?_, ?_, ?_, ?_, ?_, ?_, hI_s191, hF_s191⟩⟩
            · skip
              exact iv.1
            · skip
              exact iv.2.1
            · skip
              exact iv.2.2.1
            · skip
              exact iv.2.2.2.1
            · skip
              exact iv.2.2.2.2
            · skip
              rw [← e0_s251]
              have := congrArg Int32.toInt t241
              have := congrArg Int32.toInt t243
              have := congrArg Int32.toInt t245
              have := congrArg Int32.toInt t247
              have := congrArg Int32.toInt t249
              have := (r_p1).1; have := (r_p1).2
              have := (r_x240).1; have := (r_x240).2
              have := (r_x242).1; have := (r_x242).2
              have := (r_x244).1; have := (r_x244).2
              have := (r_x246).1; have := (r_x246).2
              have := (r_x248).1; have := (r_x248).2
              have := kc_0
              have := kc_1
              have := kc_38
              have := kc_124
              omega
          · skip
            have r_x250 : mh_r x250 (124) (124) := mh_eq1 c281 r_x250 rc_124 (124) (124) (by decide)
            refine mw_aload_n 23 rfl 0 dX10_joins_22 rfl rfl ?_
            refine mw_aload_n 24 rfl 0 dX10_joins_23 rfl rfl ?_
            refine mw_callVi [] [.ref (G.2.2.2 57)] 27 rfl dX10_joins_24 ml_X10_228 mc_X10_top mk_X10_top rfl rfl (by decide) (w_X10_top l G (d + 1) ⟨by omega, by omega⟩ hI_s191 (by rw [← t249]; have := (r_p1).1; have := (r_p1).2; have := (r_x240).1; have := (r_x240).2; have := (r_x242).1; have := (r_x242).2; have := (r_x244).1; have := (r_x244).2; have := (r_x246).1; have := (r_x246).2; have := (r_x248).1; have := (r_x248).2; have := kc_0; have := kc_1; have := kc_38; have := kc_124; omega)) rfl rfl (Nat.le_of_ble_eq_true rfl) (mh_rok (by omega) (by decide)) (fun x282 s283 q284 => ?_)
            obtain ⟨r_x282, e0_s283, rfl⟩ := q284
            obtain rfl : x250 = x282 := e0_s251.trans e0_s283.symm
            refine mw_iconst (v := 0) 28 rfl dX10_joins_27 (by decide) ?_
            refine mw_callVv [.int x250, .int (0)] [] 31 rfl dX10_joins_28 ml_X10_237 mc_X10_emit mk_X10_emit rfl rfl (by decide) (w_X10_emit l G (d + 0) ⟨by omega, by omega⟩ hI_s191 x250 (0) (by rw [← t245, ← t247]; have := (r_p1).1; have := (r_p1).2; have := (r_x240).1; have := (r_x240).2; have := (r_x242).1; have := (r_x242).2; have := (r_x244).1; have := (r_x244).2; have := (r_x246).1; have := (r_x246).2; have := (r_x248).1; have := (r_x248).2; have := kc_0; have := kc_1; have := kc_38; have := kc_124; omega)) rfl rfl (Nat.le_of_ble_eq_true rfl) (mh_rok (by omega) (by decide)) (fun s286 q287 => ?_)
            obtain ⟨e0_s286, hI_s286, hG_s286⟩ := q287
            have hF_s286 : mh_F S_X10_joins s0 s286 := mh_F_tl hF_s191 hG_s286 (by decide +kernel)
            obtain ⟨x288, t289⟩ : ∃ z : Int32, z = s286.1 57 27 := ⟨_, rfl⟩
            have hm_s286 : (x244.toInt = 0 → s286.1 74 = mh_u1 (s191.1 74) x246.toInt.toNat x250 ∧ x288.toInt = x246.toInt + 1) ∧ (x244.toInt ≠ 0 → s286.1 74 = s191.1 74 ∧ x288.toInt = x246.toInt) := by
              have h9 := e0_s286
              rw [← t245, ← t247] at h9
              rw [← t289] at h9
              exact ⟨h9.1, fun q => ⟨(h9.2 q).1, congrArg Int32.toInt (h9.2 q).2⟩⟩
            have hn_s286 : (x244.toInt = 0 ∧ x288.toInt = x246.toInt + 1) ∨ (x244.toInt ≠ 0 ∧ x288.toInt = x246.toInt) := by by_cases q : x244.toInt = 0; exact Or.inl ⟨q, (hm_s286.1 q).2⟩; exact Or.inr ⟨q, (hm_s286.2 q).2⟩
            have r_x288 : mh_r x288 (0) (201) := ⟨by have := (r_x246).1; omega, by have := (r_x246).2; omega⟩
            refine mw_aload_n 32 rfl 0 dX10_joins_31 rfl rfl ?_
            refine mw_dup 33 rfl dX10_joins_32 rfl ?_
            refine mw_geti 36 rfl dX10_joins_33 gf_X10_204 rfl (fun x290 t291 => ?_)
            have t292 : x248 = s286.1 57 29 := (t249).trans (hG_s286 57 29 (mh_nsI (by rfl))).1.symm
            obtain rfl : x248 = x290 := t292.trans t291.symm
            refine mw_iconst (v := 1) 37 rfl dX10_joins_36 (by decide) ?_
            refine mw_isub 38 rfl (-1) (199) dX10_joins_37 r_x248 rc_1 (by decide) (fun x293 t294 r_x293 => ?_)
            refine mw_puti 41 rfl dX10_joins_38 pf_X10_204 rfl (fun s295 t296 => ?_)
            have hI_s295 : mh_I B D s295 := by rw [t296]; exact wr_57_29 hI_s286
            have hF_s295 : mh_F S_X10_joins s0 s295 := by rw [t296]; exact mh_F_pI hF_s286 (mh_sj 3 rfl)
            refine mw_goto 44 rfl 0 dX10_joins_41 (by decide) ?_
            have t297 : x240 = s286.1 57 23 := (t241).trans (hG_s286 57 23 (mh_nsI (by rfl))).1.symm
            have t298 : x240 = s295.1 57 23 := by rw [t296]; exact (t297).trans (mh_pI_n (by omega)).symm
            have t299 : x242 = s286.1 57 24 := (t243).trans (hG_s286 57 24 (mh_nsI (by rfl))).1.symm
            have t300 : x242 = s295.1 57 24 := by rw [t296]; exact (t299).trans (mh_pI_n (by omega)).symm
            have t301 : x244 = s286.1 57 25 := (t245).trans (hG_s286 57 25 (mh_nsI (by rfl))).1.symm
            have t302 : x244 = s295.1 57 25 := by rw [t296]; exact (t301).trans (mh_pI_n (by omega)).symm
            have t303 : x288 = s295.1 57 27 := by rw [t296]; exact (t289).trans (mh_pI_n (by omega)).symm
            have t304 : x293 = s295.1 57 29 := by rw [t296]; exact mh_pI_s.symm
            exact mw_lv [0, 1] rfl (ihn1 s295 hI_s295 hF_s295 (by
                refine ⟨(show mh_pb b s295 by unfold mh_pb; rw [← t298, ← t300, ← t302, ← t303, ← t304]; have := kc_0; have := kc_1; have := (r_p1).1; have := (r_p1).2; have := (r_x240).1; have := (r_x240).2; have := (r_x242).1; have := (r_x242).2; have := (r_x244).1; have := (r_x244).2; have := (r_x246).1; have := (r_x246).2; have := (r_x248).1; have := (r_x248).2; have := (r_x288).1; have := (r_x288).2; have := (r_x293).1; have := (r_x293).2; have := (rc_1).1; have := (rc_1).2; have := kc_0; have := kc_1; have := kc_38; have := kc_124; omega), ?_, ?_, ?_, ?_⟩
                · skip
                  intro hg
                  have := congrArg Int32.toInt t241
                  have := congrArg Int32.toInt t243
                  have := congrArg Int32.toInt t245
                  have := congrArg Int32.toInt t247
                  have := congrArg Int32.toInt t249
                  have := congrArg Int32.toInt t289
                  have := congrArg Int32.toInt t292
                  have := congrArg Int32.toInt t298
                  have := congrArg Int32.toInt t300
                  have := congrArg Int32.toInt t302
                  have := congrArg Int32.toInt t303
                  have := congrArg Int32.toInt t304
                  have := (r_p1).1; have := (r_p1).2
                  have := (r_x240).1; have := (r_x240).2
                  have := (r_x242).1; have := (r_x242).2
                  have := (r_x244).1; have := (r_x244).2
                  have := (r_x246).1; have := (r_x246).2
                  have := (r_x248).1; have := (r_x248).2
                  have := (r_x288).1; have := (r_x288).2
                  have := (r_x293).1; have := (r_x293).2
                  have := (rc_1).1; have := (rc_1).2
                  have := kc_0
                  have := kc_1
                  have := kc_38
                  have := kc_124
                  have hq9 := hq_x250 (by omega)
                  have hg0 : x244.toInt = 0 := by omega
                  have h74 : s295.1 74 = mh_u1 (s191.1 74) x246.toInt.toNat x250 := ((by rw [t296]; exact mh_row_n (by decide) : s295.1 74 = s286.1 74)).trans (hm_s286.1 hg0).1
                  have h76 : s295.1 76 = s191.1 76 := ((by rw [t296]; exact mh_row_n (by decide) : s295.1 76 = s286.1 76)).trans (mh_F_row hG_s286 76 rfl)
                  have hB := iv.2.1 (by rw [← t245]; exact hg0)
                  rw [← t247, ← t249] at hB
                  have hcod : (s295.1 57 27).toInt = x246.toInt + 1 := by rw [← t303]; exact (hm_s286.1 hg0).2
                  have hst : (s295.1 57 29).toInt.toNat = x248.toInt.toNat - 1 := by rw [← t304]; omega
                  rw [h74, h76, hcod, hst]
                  exact mh_pdr_bin hB ⟨by omega, by omega⟩ (by omega) hq9.2 (by show ¬ (_ ∨ _ ∨ _); omega) (by omega)
                · skip
                  have := congrArg Int32.toInt t241
                  have := congrArg Int32.toInt t243
                  have := congrArg Int32.toInt t245
                  have := congrArg Int32.toInt t247
                  have := congrArg Int32.toInt t249
                  have := congrArg Int32.toInt t289
                  have := congrArg Int32.toInt t292
                  have := congrArg Int32.toInt t298
                  have := congrArg Int32.toInt t300
                  have := congrArg Int32.toInt t302
                  have := congrArg Int32.toInt t303
                  have := congrArg Int32.toInt t304
                  have := (r_p1).1; have := (r_p1).2
                  have := (r_x240).1; have := (r_x240).2
                  have := (r_x242).1; have := (r_x242).2
                  have := (r_x244).1; have := (r_x244).2
                  have := (r_x246).1; have := (r_x246).2
                  have := (r_x248).1; have := (r_x248).2
                  have := (r_x288).1; have := (r_x288).2
                  have := (r_x293).1; have := (r_x293).2
                  have := (rc_1).1; have := (rc_1).2
                  have := kc_0
                  have := kc_1
                  have := kc_38
                  have := kc_124
                  exact mh_pk_tr iv.2.2.1 (mh_pk_tr (mh_pk_em hm_s286 ⟨by omega, by omega⟩) (mh_pk_row ((by rw [t296]; exact mh_row_n (by decide) : s295.1 74 = s286.1 74))))
                · skip
                  have := congrArg Int32.toInt t241
                  have := congrArg Int32.toInt t243
                  have := congrArg Int32.toInt t245
                  have := congrArg Int32.toInt t247
                  have := congrArg Int32.toInt t249
                  have := congrArg Int32.toInt t289
                  have := congrArg Int32.toInt t292
                  have := congrArg Int32.toInt t298
                  have := congrArg Int32.toInt t300
                  have := congrArg Int32.toInt t302
                  have := congrArg Int32.toInt t303
                  have := congrArg Int32.toInt t304
                  have := (r_p1).1; have := (r_p1).2
                  have := (r_x240).1; have := (r_x240).2
                  have := (r_x242).1; have := (r_x242).2
                  have := (r_x244).1; have := (r_x244).2
                  have := (r_x246).1; have := (r_x246).2
                  have := (r_x248).1; have := (r_x248).2
                  have := (r_x288).1; have := (r_x288).2
                  have := (r_x293).1; have := (r_x293).2
                  have := (rc_1).1; have := (rc_1).2
                  have := kc_0
                  have := kc_1
                  have := kc_38
                  have := kc_124
                  omega
                · skip
                  intro j h1 h2
                  have := congrArg Int32.toInt t241
                  have := congrArg Int32.toInt t243
                  have := congrArg Int32.toInt t245
                  have := congrArg Int32.toInt t247
                  have := congrArg Int32.toInt t249
                  have := congrArg Int32.toInt t289
                  have := congrArg Int32.toInt t292
                  have := congrArg Int32.toInt t298
                  have := congrArg Int32.toInt t300
                  have := congrArg Int32.toInt t302
                  have := congrArg Int32.toInt t303
                  have := congrArg Int32.toInt t304
                  have := (r_p1).1; have := (r_p1).2
                  have := (r_x240).1; have := (r_x240).2
                  have := (r_x242).1; have := (r_x242).2
                  have := (r_x244).1; have := (r_x244).2
                  have := (r_x246).1; have := (r_x246).2
                  have := (r_x248).1; have := (r_x248).2
                  have := (r_x288).1; have := (r_x288).2
                  have := (r_x293).1; have := (r_x293).2
                  have := (rc_1).1; have := (rc_1).2
                  have := kc_0
                  have := kc_1
                  have := kc_38
                  have := kc_124
                  have hq9 := hq_x250 (by omega)
                  rcases Nat.lt_or_ge j x248.toInt.toNat with h3 | h3
                  · have h4 : j = x248.toInt.toNat - 1 := by omega
                    have h5 : s0.1 76 j = x250 := by rw [h4, ← mh_F_row hF_s191 76 rfl]; exact hq9.2
                    rw [h5]; omega
                  · exact iv.2.2.2.2 j (by rw [← t249]; exact h3) h2) (by have := congrArg Int32.toInt t241; have := congrArg Int32.toInt t243; have := congrArg Int32.toInt t245; have := congrArg Int32.toInt t247; have := congrArg Int32.toInt t249; have := congrArg Int32.toInt t289; have := congrArg Int32.toInt t292; have := congrArg Int32.toInt t298; have := congrArg Int32.toInt t300; have := congrArg Int32.toInt t302; have := congrArg Int32.toInt t303; have := congrArg Int32.toInt t304; have := (r_p1).1; have := (r_p1).2; have := (r_x240).1; have := (r_x240).2; have := (r_x242).1; have := (r_x242).2; have := (r_x244).1; have := (r_x244).2; have := (r_x246).1; have := (r_x246).2; have := (r_x248).1; have := (r_x248).2; have := (r_x288).1; have := (r_x288).2; have := (r_x293).1; have := (r_x293).2; have := (rc_1).1; have := (rc_1).2; have := kc_0; have := kc_1; have := kc_38; have := kc_124; omega))
  exact mw_lv [0, 1] rfl (L0 202 s0 hI0 hF0 (by
      exact ⟨hb, hd, mh_pk_rf, Int.le_refl _, fun j h1 h2 => absurd h1 (by omega)⟩) (by have h9 := hb; unfold mh_pb at h9; omega))

def S_X10_ends : List (Nat × Nat) := [(74, 9999), (75, 9999), (57, 27), (57, 29), (57, 28)]
def P_X10_ends (B D : Int) (s0 : mh_H) (b : Int) : mh_H → Prop := fun s => (mh_pb b s) ∧ (mh_pd b 1 s) ∧ (mh_pk b s0 s) ∧ ((s.1 57 29).toInt ≤ (s0.1 57 29).toInt) ∧ (∀ j : Nat, (s.1 57 29).toInt.toNat ≤ j → j < (s0.1 57 29).toInt.toNat → ((s0.1 76 j).toInt = 33)) ∧ ((mh_tp s).toInt ≠ 33) ∧ mh_I B D s ∧ mh_F S_X10_ends s0 s
set_option maxRecDepth 100000 in
set_option maxHeartbeats 4000000 in
theorem w_X10_ends (l : Launch) (G : mh_G) (d : Nat) {B D : Int} (hB : B ≤ 1960000000 ∧ D ≤ 1960000000) {s0 : mh_H} (hI0 : mh_I B D s0) (b : Int) (hb : mh_pb b s0) (hd : mh_pd b 1 s0) : mh_Mv l G (d + 2) mM_X10_ends [.ref (G.2.2.2 57)] s0 (P_X10_ends B D s0 b) := by
  refine mh_enter (lv := [(0, .ref (G.2.2.2 57))]) (by decide) rfl (Nat.le_of_ble_eq_true rfl) ?_
  have hF0 : mh_F S_X10_ends s0 s0 := mh_F_rf
  obtain ⟨x96, t97⟩ : ∃ z : Int32, z = s0.1 57 23 := ⟨_, rfl⟩
  obtain ⟨x98, t99⟩ : ∃ z : Int32, z = s0.1 57 24 := ⟨_, rfl⟩
  obtain ⟨x100, t101⟩ : ∃ z : Int32, z = s0.1 57 25 := ⟨_, rfl⟩
  obtain ⟨x102, t103⟩ : ∃ z : Int32, z = s0.1 57 27 := ⟨_, rfl⟩
  obtain ⟨x104, t105⟩ : ∃ z : Int32, z = s0.1 57 29 := ⟨_, rfl⟩
  have pb_s0 : 0 ≤ x96.toInt ∧ x96.toInt ≤ x98.toInt ∧ x98.toInt ≤ 200 ∧ 0 ≤ x104.toInt ∧ 0 ≤ b ∧ b ≤ x102.toInt ∧ x104.toInt + x102.toInt ≤ x96.toInt ∧ x100.toInt ≤ 0 := by have h9 := hb; unfold mh_pb at h9; rw [← t97, ← t99, ← t101, ← t103, ← t105] at h9; exact h9
  have r_x96 : mh_r x96 (0) (200) := ⟨by have := ((mh_r_full x96)).1; omega, by have := ((mh_r_full x96)).2; omega⟩
  have r_x98 : mh_r x98 (0) (200) := ⟨by have := ((mh_r_full x98)).1; omega, by have := ((mh_r_full x98)).2; omega⟩
  have r_x100 : mh_r x100 (-2147483648) (0) := ⟨by have := ((mh_r_full x100)).1; omega, by have := ((mh_r_full x100)).2; omega⟩
  have r_x102 : mh_r x102 (0) (200) := ⟨by have := ((mh_r_full x102)).1; omega, by have := ((mh_r_full x102)).2; omega⟩
  have r_x104 : mh_r x104 (0) (200) := ⟨by have := ((mh_r_full x104)).1; omega, by have := ((mh_r_full x104)).2; omega⟩
  have L0 : ∀ n1 : Nat, ∀  (s127 : mh_H), mh_I B D s127 → mh_F S_X10_ends s0 s127 → (mh_pb b s127 ∧ mh_pd b 1 s127 ∧ mh_pk b s0 s127 ∧ (s127.1 57 29).toInt ≤ (s0.1 57 29).toInt ∧ (∀ j : Nat, (s127.1 57 29).toInt.toNat ≤ j → j < (s0.1 57 29).toInt.toNat → ((s0.1 76 j).toInt = 33))) → (s127.1 57 29).toInt < (n1 : Int) → mh_W G (mh_XM l G (d + 2) (mh_Qv (P_X10_ends B D s0 b))) mM_X10_ends 0 [(0, .ref (G.2.2.2 57))] [] s127 := by
    intro n1
    induction n1 with
    | zero =>
      intro s127 hI_s127 hF_s127 iv hmn1
      exact absurd hmn1 (by have h9 := iv.1; unfold mh_pb at h9; omega)
    | succ n1 ihn1 =>
      intro s127 hI_s127 hF_s127 iv hmn1
      obtain ⟨x160, t161⟩ : ∃ z : Int32, z = s127.1 57 23 := ⟨_, rfl⟩
      obtain ⟨x162, t163⟩ : ∃ z : Int32, z = s127.1 57 24 := ⟨_, rfl⟩
      obtain ⟨x164, t165⟩ : ∃ z : Int32, z = s127.1 57 25 := ⟨_, rfl⟩
      obtain ⟨x166, t167⟩ : ∃ z : Int32, z = s127.1 57 27 := ⟨_, rfl⟩
      obtain ⟨x168, t169⟩ : ∃ z : Int32, z = s127.1 57 29 := ⟨_, rfl⟩
      have pb_s127 : 0 ≤ x160.toInt ∧ x160.toInt ≤ x162.toInt ∧ x162.toInt ≤ 200 ∧ 0 ≤ x168.toInt ∧ 0 ≤ b ∧ b ≤ x166.toInt ∧ x168.toInt + x166.toInt ≤ x160.toInt ∧ x164.toInt ≤ 0 := by have h9 := iv.1; unfold mh_pb at h9; rw [← t161, ← t163, ← t165, ← t167, ← t169] at h9; exact h9
      have r_x160 : mh_r x160 (0) (200) := ⟨by have := ((mh_r_full x160)).1; omega, by have := ((mh_r_full x160)).2; omega⟩
      have r_x162 : mh_r x162 (0) (200) := ⟨by have := ((mh_r_full x162)).1; omega, by have := ((mh_r_full x162)).2; omega⟩
      have r_x164 : mh_r x164 (-2147483648) (0) := ⟨by have := ((mh_r_full x164)).1; omega, by have := ((mh_r_full x164)).2; omega⟩
      have r_x166 : mh_r x166 (0) (200) := ⟨by have := ((mh_r_full x166)).1; omega, by have := ((mh_r_full x166)).2; omega⟩
      have r_x168 : mh_r x168 (0) (200) := ⟨by have := ((mh_r_full x168)).1; omega, by have := ((mh_r_full x168)).2; omega⟩
      refine mw_aload_n 1 rfl 0 dX10_ends_0 rfl rfl ?_
      refine mw_callVi [] [] 4 rfl dX10_ends_1 ml_X10_228 mc_X10_top mk_X10_top rfl rfl (by decide) (w_X10_top l G (d + 1) ⟨by omega, by omega⟩ hI_s127 (by rw [← t169]; have := (r_x160).1; have := (r_x160).2; have := (r_x162).1; have := (r_x162).2; have := (r_x164).1; have := (r_x164).2; have := (r_x166).1; have := (r_x166).2; have := (r_x168).1; have := (r_x168).2; have := kc_0; have := kc_1; have := kc_2; have := kc_33; omega)) rfl rfl (Nat.le_of_ble_eq_true rfl) (mh_rok (by omega) (by decide)) (fun x170 s171 q172 => ?_)
      obtain ⟨r_x170, e0_s171, rfl⟩ := q172
      have hq_x170 : x170.toInt ≠ 0 → 0 < x168.toInt ∧ s127.1 76 (x168.toInt.toNat - 1) = x170 := fun q => by rw [t169]; have h9 := mh_tp_s (σ := s127) (by rw [← e0_s171]; exact q); rw [← e0_s171] at h9; exact h9
      refine mw_bipush (v := 33) 6 rfl dX10_ends_4 (by decide) ?_
      refine mw_icmp_ne 9 rfl 38 dX10_ends_6 (by decide) (fun c173 => ?_) (fun c173 => ?_)
      · skip
        refine mw_vret dX10_ends_38 rfl ⟨rfl, ⟨?_, ?_, ?_, ?_, ?_, ?_, hI_s127, hF_s127⟩⟩
        · skip
          exact iv.1
        · skip
          exact iv.2.1
        · skip
          exact iv.2.2.1
        · skip
          exact iv.2.2.2.1
        · skip
          exact iv.2.2.2.2
        · skip
          rw [← e0_s171]
          have := congrArg Int32.toInt t161
          have := congrArg Int32.toInt t163
          have := congrArg Int32.toInt t165
          have := congrArg Int32.toInt t167
          have := congrArg Int32.toInt t169
          have := (r_x160).1; have := (r_x160).2
          have := (r_x162).1; have := (r_x162).2
          have := (r_x164).1; have := (r_x164).2
          have := (r_x166).1; have := (r_x166).2
          have := (r_x168).1; have := (r_x168).2
          have := kc_0
          have := kc_1
          have := kc_2
          have := kc_33
          omega
      · skip
        have r_x170 : mh_r x170 (33) (33) := mh_eq1 c173 r_x170 rc_33 (33) (33) (by decide)
        refine mw_aload_n 10 rfl 0 dX10_ends_9 rfl rfl ?_
        refine mw_iconst (v := 2) 11 rfl dX10_ends_10 (by decide) ?_
        refine mw_iconst (v := 0) 12 rfl dX10_ends_11 (by decide) ?_
        refine mw_callVv [.int (2), .int (0)] [] 15 rfl dX10_ends_12 ml_X10_237 mc_X10_emit mk_X10_emit rfl rfl (by decide) (w_X10_emit l G (d + 0) ⟨by omega, by omega⟩ hI_s127 (2) (0) (by rw [← t165, ← t167]; have := (r_x160).1; have := (r_x160).2; have := (r_x162).1; have := (r_x162).2; have := (r_x164).1; have := (r_x164).2; have := (r_x166).1; have := (r_x166).2; have := (r_x168).1; have := (r_x168).2; have := kc_0; have := kc_1; have := kc_2; have := kc_33; omega)) rfl rfl (Nat.le_of_ble_eq_true rfl) (mh_rok (by omega) (by decide)) (fun s175 q176 => ?_)
        obtain ⟨e0_s175, hI_s175, hG_s175⟩ := q176
        have hF_s175 : mh_F S_X10_ends s0 s175 := mh_F_tl hF_s127 hG_s175 (by decide +kernel)
        obtain ⟨x177, t178⟩ : ∃ z : Int32, z = s175.1 57 27 := ⟨_, rfl⟩
        have hm_s175 : (x164.toInt = 0 → s175.1 74 = mh_u1 (s127.1 74) x166.toInt.toNat (2 : Int32) ∧ x177.toInt = x166.toInt + 1) ∧ (x164.toInt ≠ 0 → s175.1 74 = s127.1 74 ∧ x177.toInt = x166.toInt) := by
          have h9 := e0_s175
          rw [← t165, ← t167] at h9
          rw [← t178] at h9
          exact ⟨h9.1, fun q => ⟨(h9.2 q).1, congrArg Int32.toInt (h9.2 q).2⟩⟩
        have hn_s175 : (x164.toInt = 0 ∧ x177.toInt = x166.toInt + 1) ∨ (x164.toInt ≠ 0 ∧ x177.toInt = x166.toInt) := by by_cases q : x164.toInt = 0; exact Or.inl ⟨q, (hm_s175.1 q).2⟩; exact Or.inr ⟨q, (hm_s175.2 q).2⟩
        have r_x177 : mh_r x177 (0) (201) := ⟨by have := (r_x166).1; omega, by have := (r_x166).2; omega⟩
        refine mw_aload_n 16 rfl 0 dX10_ends_15 rfl rfl ?_
        refine mw_dup 17 rfl dX10_ends_16 rfl ?_
        refine mw_geti 20 rfl dX10_ends_17 gf_X10_204 rfl (fun x179 t180 => ?_)
        have t181 : x168 = s175.1 57 29 := (t169).trans (hG_s175 57 29 (mh_nsI (by rfl))).1.symm
        obtain rfl : x168 = x179 := t181.trans t180.symm
        refine mw_iconst (v := 1) 21 rfl dX10_ends_20 (by decide) ?_
        refine mw_isub 22 rfl (-1) (199) dX10_ends_21 r_x168 rc_1 (by decide) (fun x182 t183 r_x182 => ?_)
        refine mw_puti 25 rfl dX10_ends_22 pf_X10_204 rfl (fun s184 t185 => ?_)
        have hI_s184 : mh_I B D s184 := by rw [t185]; exact wr_57_29 hI_s175
        have hF_s184 : mh_F S_X10_ends s0 s184 := by rw [t185]; exact mh_F_pI hF_s175 (mh_sj 3 rfl)
        refine mw_aload_n 26 rfl 0 dX10_ends_25 rfl rfl ?_
        refine mw_dup 27 rfl dX10_ends_26 rfl ?_
        refine mw_geti 30 rfl dX10_ends_27 gf_X10_207 rfl (fun x186 t187 => ?_)
        refine mw_iconst (v := 1) 31 rfl dX10_ends_30 (by decide) ?_
        refine mw_isub_u 32 rfl dX10_ends_31 (fun x188 t189 => ?_)
        refine mw_puti 35 rfl dX10_ends_32 pf_X10_207 rfl (fun s190 t191 => ?_)
        have hI_s190 : mh_I B D s190 := by rw [t191]; exact wr_57_28 hI_s184
        have hF_s190 : mh_F S_X10_ends s0 s190 := by rw [t191]; exact mh_F_pI hF_s184 (mh_sj 4 rfl)
        refine mw_goto 38 rfl 0 dX10_ends_35 (by decide) ?_
        have t192 : x160 = s175.1 57 23 := (t161).trans (hG_s175 57 23 (mh_nsI (by rfl))).1.symm
        have t193 : x160 = s184.1 57 23 := by rw [t185]; exact (t192).trans (mh_pI_n (by omega)).symm
        have t194 : x160 = s190.1 57 23 := by rw [t191]; exact (t193).trans (mh_pI_n (by omega)).symm
        have t195 : x162 = s175.1 57 24 := (t163).trans (hG_s175 57 24 (mh_nsI (by rfl))).1.symm
        have t196 : x162 = s184.1 57 24 := by rw [t185]; exact (t195).trans (mh_pI_n (by omega)).symm
        have t197 : x162 = s190.1 57 24 := by rw [t191]; exact (t196).trans (mh_pI_n (by omega)).symm
        have t198 : x164 = s175.1 57 25 := (t165).trans (hG_s175 57 25 (mh_nsI (by rfl))).1.symm
        have t199 : x164 = s184.1 57 25 := by rw [t185]; exact (t198).trans (mh_pI_n (by omega)).symm
        have t200 : x164 = s190.1 57 25 := by rw [t191]; exact (t199).trans (mh_pI_n (by omega)).symm
        have t201 : x177 = s184.1 57 27 := by rw [t185]; exact (t178).trans (mh_pI_n (by omega)).symm
        have t202 : x177 = s190.1 57 27 := by rw [t191]; exact (t201).trans (mh_pI_n (by omega)).symm
        have t203 : x182 = s184.1 57 29 := by rw [t185]; exact mh_pI_s.symm
        have t204 : x182 = s190.1 57 29 := by rw [t191]; exact (t203).trans (mh_pI_n (by omega)).symm
        exact mw_lv [0] rfl (ihn1 s190 hI_s190 hF_s190 (by
            refine ⟨(show mh_pb b s190 by unfold mh_pb; rw [← t194, ← t197, ← t200, ← t202, ← t204]; have := kc_0; have := kc_1; have := (r_x160).1; have := (r_x160).2; have := (r_x162).1; have := (r_x162).2; have := (r_x164).1; have := (r_x164).2; have := (r_x166).1; have := (r_x166).2; have := (r_x168).1; have := (r_x168).2; have := (r_x177).1; have := (r_x177).2; have := (r_x182).1; have := (r_x182).2; have := (rc_1).1; have := (rc_1).2; have := kc_0; have := kc_1; have := kc_2; have := kc_33; omega), ?_, ?_, ?_, ?_⟩
            · skip
              intro hg
              have := congrArg Int32.toInt t161
              have := congrArg Int32.toInt t163
              have := congrArg Int32.toInt t165
              have := congrArg Int32.toInt t167
              have := congrArg Int32.toInt t169
              have := congrArg Int32.toInt t178
              have := congrArg Int32.toInt t181
              have := congrArg Int32.toInt t194
              have := congrArg Int32.toInt t197
              have := congrArg Int32.toInt t200
              have := congrArg Int32.toInt t202
              have := congrArg Int32.toInt t204
              have := (r_x160).1; have := (r_x160).2
              have := (r_x162).1; have := (r_x162).2
              have := (r_x164).1; have := (r_x164).2
              have := (r_x166).1; have := (r_x166).2
              have := (r_x168).1; have := (r_x168).2
              have := (r_x177).1; have := (r_x177).2
              have := (r_x182).1; have := (r_x182).2
              have := (rc_1).1; have := (rc_1).2
              have := kc_0
              have := kc_1
              have := kc_2
              have := kc_33
              have hq9 := hq_x170 (by omega)
              have hg0 : x164.toInt = 0 := by omega
              have h74 : s190.1 74 = mh_u1 (s127.1 74) x166.toInt.toNat (2 : Int32) := (((by rw [t191]; exact mh_row_n (by decide) : s190.1 74 = s184.1 74)).trans (by rw [t185]; exact mh_row_n (by decide) : s184.1 74 = s175.1 74)).trans (hm_s175.1 hg0).1
              have h76 : s190.1 76 = s127.1 76 := (((by rw [t191]; exact mh_row_n (by decide) : s190.1 76 = s184.1 76)).trans (by rw [t185]; exact mh_row_n (by decide) : s184.1 76 = s175.1 76)).trans (mh_F_row hG_s175 76 rfl)
              have hB := iv.2.1 (by rw [← t165]; exact hg0)
              rw [← t167, ← t169] at hB
              have hcod : (s190.1 57 27).toInt = x166.toInt + 1 := by rw [← t202]; exact (hm_s175.1 hg0).2
              have hst : (s190.1 57 29).toInt.toNat = x168.toInt.toNat - 1 := by rw [← t204]; omega
              rw [h74, h76, hcod, hst]
              exact mh_pdr_not hB ⟨by omega, by omega⟩ (by omega) (by rw [hq9.2]; show (_ ∨ _ ∨ _); omega) (by omega)
            · skip
              have := congrArg Int32.toInt t161
              have := congrArg Int32.toInt t163
              have := congrArg Int32.toInt t165
              have := congrArg Int32.toInt t167
              have := congrArg Int32.toInt t169
              have := congrArg Int32.toInt t178
              have := congrArg Int32.toInt t181
              have := congrArg Int32.toInt t194
              have := congrArg Int32.toInt t197
              have := congrArg Int32.toInt t200
              have := congrArg Int32.toInt t202
              have := congrArg Int32.toInt t204
              have := (r_x160).1; have := (r_x160).2
              have := (r_x162).1; have := (r_x162).2
              have := (r_x164).1; have := (r_x164).2
              have := (r_x166).1; have := (r_x166).2
              have := (r_x168).1; have := (r_x168).2
              have := (r_x177).1; have := (r_x177).2
              have := (r_x182).1; have := (r_x182).2
              have := (rc_1).1; have := (rc_1).2
              have := kc_0
              have := kc_1
              have := kc_2
              have := kc_33
              exact mh_pk_tr iv.2.2.1 (mh_pk_tr (mh_pk_em hm_s175 ⟨by omega, by omega⟩) (mh_pk_row (((by rw [t191]; exact mh_row_n (by decide) : s190.1 74 = s184.1 74)).trans (by rw [t185]; exact mh_row_n (by decide) : s184.1 74 = s175.1 74))))
            · skip
              have := congrArg Int32.toInt t161
              have := congrArg Int32.toInt t163
              have := congrArg Int32.toInt t165
              have := congrArg Int32.toInt t167
              have := congrArg Int32.toInt t169
              have := congrArg Int32.toInt t178
              have := congrArg Int32.toInt t181
              have := congrArg Int32.toInt t194
              have := congrArg Int32.toInt t197
              have := congrArg Int32.toInt t200
              have := congrArg Int32.toInt t202
              have := congrArg Int32.toInt t204
              have := (r_x160).1; have := (r_x160).2
              have := (r_x162).1; have := (r_x162).2
              have := (r_x164).1; have := (r_x164).2
              have := (r_x166).1; have := (r_x166).2
              have := (r_x168).1; have := (r_x168).2
              have := (r_x177).1; have := (r_x177).2
              have := (r_x182).1; have := (r_x182).2
              have := (rc_1).1; have := (rc_1).2
              have := kc_0
              have := kc_1
              have := kc_2
              have := kc_33
              omega
            · skip
              intro j h1 h2
              have := congrArg Int32.toInt t161
              have := congrArg Int32.toInt t163
              have := congrArg Int32.toInt t165
              have := congrArg Int32.toInt t167
              have := congrArg Int32.toInt t169
              have := congrArg Int32.toInt t178
              have := congrArg Int32.toInt t181
              have := congrArg Int32.toInt t194
              have := congrArg Int32.toInt t197
              have := congrArg Int32.toInt t200
              have := congrArg Int32.toInt t202
              have := congrArg Int32.toInt t204
              have := (r_x160).1; have := (r_x160).2
              have := (r_x162).1; have := (r_x162).2
              have := (r_x164).1; have := (r_x164).2
              have := (r_x166).1; have := (r_x166).2
              have := (r_x168).1; have := (r_x168).2
              have := (r_x177).1; have := (r_x177).2
              have := (r_x182).1; have := (r_x182).2
              have := (rc_1).1; have := (rc_1).2
              have := kc_0
              have := kc_1
              have := kc_2
              have := kc_33
              have hq9 := hq_x170 (by omega)
              rcases Nat.lt_or_ge j x168.toInt.toNat with h3 | h3
              · have h4 : j = x168.toInt.toNat - 1 := by omega
                have h5 : s0.1 76 j = x170 := by rw [h4, ← mh_F_row hF_s127 76 rfl]; exact hq9.2
                rw [h5]; omega
              · exact iv.2.2.2.2 j (by rw [← t169]; exact h3) h2) (by have := congrArg Int32.toInt t161; have := congrArg Int32.toInt t163; have := congrArg Int32.toInt t165; have := congrArg Int32.toInt t167; have := congrArg Int32.toInt t169; have := congrArg Int32.toInt t178; have := congrArg Int32.toInt t181; have := congrArg Int32.toInt t194; have := congrArg Int32.toInt t197; have := congrArg Int32.toInt t200; have := congrArg Int32.toInt t202; have := congrArg Int32.toInt t204; have := (r_x160).1; have := (r_x160).2; have := (r_x162).1; have := (r_x162).2; have := (r_x164).1; have := (r_x164).2; have := (r_x166).1; have := (r_x166).2; have := (r_x168).1; have := (r_x168).2; have := (r_x177).1; have := (r_x177).2; have := (r_x182).1; have := (r_x182).2; have := (rc_1).1; have := (rc_1).2; have := kc_0; have := kc_1; have := kc_2; have := kc_33; omega))
  exact mw_lv [0] rfl (L0 202 s0 hI0 hF0 (by
      exact ⟨hb, hd, mh_pk_rf, Int.le_refl _, fun j h1 h2 => absurd h1 (by omega)⟩) (by have h9 := hb; unfold mh_pb at h9; omega))

def S_X10_opens : List (Nat × Nat) := [(57, 28), (76, 9999), (57, 29), (57, 23), (57, 25)]
def P_X10_opens (B D : Int) (s0 : mh_H) (b : Int) : mh_H → Prop := fun s => (mh_pb b s) ∧ (s.1 76 = mh_u1 (s0.1 76) (s0.1 57 29).toInt.toNat (mh_hr s0)) ∧ ((s.1 57 29).toInt = (s0.1 57 29).toInt + 1 ∧ (s.1 57 23).toInt = (s0.1 57 23).toInt + 1 ∧ ((s.1 57 25).toInt = 0 → (s0.1 57 25).toInt = 0)) ∧ mh_I B D s ∧ mh_F S_X10_opens s0 s
set_option maxRecDepth 100000 in
set_option maxHeartbeats 4000000 in
theorem w_X10_opens (l : Launch) (G : mh_G) (d : Nat) {B D : Int} (hB : B ≤ 1980000000 ∧ D ≤ 1980000000) {s0 : mh_H} (hI0 : mh_I B D s0) (b : Int) (hb : mh_pb b s0) (hlt : (s0.1 57 23).toInt < (s0.1 57 24).toInt) : mh_Mv l G (d + 1) mM_X10_opens [.ref (G.2.2.2 57)] s0 (P_X10_opens B D s0 b) := by
  refine mh_enter (lv := [(0, .ref (G.2.2.2 57))]) (by decide) rfl (Nat.le_of_ble_eq_true rfl) ?_
  have hF0 : mh_F S_X10_opens s0 s0 := mh_F_rf
  obtain ⟨x53, t54⟩ : ∃ z : Int32, z = s0.1 57 23 := ⟨_, rfl⟩
  obtain ⟨x55, t56⟩ : ∃ z : Int32, z = s0.1 57 24 := ⟨_, rfl⟩
  obtain ⟨x57, t58⟩ : ∃ z : Int32, z = s0.1 57 25 := ⟨_, rfl⟩
  obtain ⟨x59, t60⟩ : ∃ z : Int32, z = s0.1 57 27 := ⟨_, rfl⟩
  obtain ⟨x61, t62⟩ : ∃ z : Int32, z = s0.1 57 29 := ⟨_, rfl⟩
  have pb_s0 : 0 ≤ x53.toInt ∧ x53.toInt ≤ x55.toInt ∧ x55.toInt ≤ 200 ∧ 0 ≤ x61.toInt ∧ 0 ≤ b ∧ b ≤ x59.toInt ∧ x61.toInt + x59.toInt ≤ x53.toInt ∧ x57.toInt ≤ 0 := by have h9 := hb; unfold mh_pb at h9; rw [← t54, ← t56, ← t58, ← t60, ← t62] at h9; exact h9
  have r_x53 : mh_r x53 (0) (200) := ⟨by have := ((mh_r_full x53)).1; omega, by have := ((mh_r_full x53)).2; omega⟩
  have r_x55 : mh_r x55 (0) (200) := ⟨by have := ((mh_r_full x55)).1; omega, by have := ((mh_r_full x55)).2; omega⟩
  have r_x57 : mh_r x57 (-2147483648) (0) := ⟨by have := ((mh_r_full x57)).1; omega, by have := ((mh_r_full x57)).2; omega⟩
  have r_x59 : mh_r x59 (0) (200) := ⟨by have := ((mh_r_full x59)).1; omega, by have := ((mh_r_full x59)).2; omega⟩
  have r_x61 : mh_r x61 (0) (200) := ⟨by have := ((mh_r_full x61)).1; omega, by have := ((mh_r_full x61)).2; omega⟩
  rw [← t54, ← t56] at hlt
  refine mw_aload_n 1 rfl 0 dX10_opens_0 rfl rfl ?_
  refine mw_geti 4 rfl dX10_opens_1 gf_X10_207 rfl (fun x63 t64 => ?_)
  refine mw_bipush (v := 6) 6 rfl dX10_opens_4 (by decide) ?_
  refine mw_icmp_ne 9 rfl 18 dX10_opens_6 (by decide) (fun c65 => ?_) (fun c65 => ?_)
  · skip
    refine mw_aload_n 19 rfl 0 dX10_opens_18 rfl rfl ?_
    refine mw_dup 20 rfl dX10_opens_19 rfl ?_
    refine mw_geti 23 rfl dX10_opens_20 gf_X10_207 rfl (fun x66 t67 => ?_)
    obtain rfl : x63 = x66 := t64.trans t67.symm
    refine mw_iconst (v := 1) 24 rfl dX10_opens_23 (by decide) ?_
    refine mw_iadd_u 25 rfl dX10_opens_24 (fun x68 t69 => ?_)
    refine mw_puti 28 rfl dX10_opens_25 pf_X10_207 rfl (fun s70 t71 => ?_)
    have hI_s70 : mh_I B D s70 := by rw [t71]; exact wr_57_28 hI0
    have hF_s70 : mh_F S_X10_opens s0 s70 := by rw [t71]; exact mh_F_pI hF0 (mh_sj 0 rfl)
    refine mw_aload_n 29 rfl 0 dX10_opens_28 rfl rfl ?_
    refine mw_aload_n 30 rfl 0 dX10_opens_29 rfl rfl ?_
    have t72 : x53 = s70.1 57 23 := by rw [t71]; exact (t54).trans (mh_pI_n (by omega)).symm
    have t73 : x55 = s70.1 57 24 := by rw [t71]; exact (t56).trans (mh_pI_n (by omega)).symm
    refine mw_callVi [] [.ref (G.2.2.2 57)] 33 rfl dX10_opens_30 ml_X10_214 mc_X10_here mk_X10_here rfl rfl (by decide) (w_X10_here l G (d + 0) ⟨by omega, by omega⟩ hI_s70 (by rw [← t72, ← t73]; have := (r_x53).1; have := (r_x53).2; have := (r_x55).1; have := (r_x55).2; have := (r_x57).1; have := (r_x57).2; have := (r_x59).1; have := (r_x59).2; have := (r_x61).1; have := (r_x61).2; have := kc_0; have := kc_1; have := kc_5; have := kc_6; omega)) rfl rfl (Nat.le_of_ble_eq_true rfl) (mh_rok (by omega) (by decide)) (fun x74 s75 q76 => ?_)
    obtain ⟨r_x74, e0_s75, rfl⟩ := q76
    have hq_x74 : x74.toInt ≠ 0 → x53.toInt < x55.toInt := fun q => by rw [t72, t73]; exact mh_hr_lt (by rw [← e0_s75]; exact q)
    have t77 : x61 = s70.1 57 29 := by rw [t71]; exact (t62).trans (mh_pI_n (by omega)).symm
    refine mw_callVv [.int x74] [] 36 rfl dX10_opens_33 ml_X10_218 mc_X10_puts mk_X10_puts rfl rfl (by decide) (w_X10_puts l G (d + 0) ⟨by omega, by omega⟩ hI_s70 x74 (by rw [← t77, ← t72]; have := (r_x53).1; have := (r_x53).2; have := (r_x55).1; have := (r_x55).2; have := (r_x57).1; have := (r_x57).2; have := (r_x59).1; have := (r_x59).2; have := (r_x61).1; have := (r_x61).2; have := kc_0; have := kc_1; have := kc_5; have := kc_6; omega)) rfl rfl (Nat.le_of_ble_eq_true rfl) (mh_rok (by omega) (by decide)) (fun s79 q80 => ?_)
    obtain ⟨e0_s79, hI_s79, hG_s79⟩ := q80
    have hF_s79 : mh_F S_X10_opens s0 s79 := mh_F_tl hF_s70 hG_s79 (by decide +kernel)
    obtain ⟨x81, t82⟩ : ∃ z : Int32, z = s79.1 57 29 := ⟨_, rfl⟩
    obtain ⟨x83, t84⟩ : ∃ z : Int32, z = s79.1 57 23 := ⟨_, rfl⟩
    rw [← t77, ← t82, ← t72, ← t84] at e0_s79
    have r_x81 : mh_r x81 (1) (201) := ⟨by have := e0_s79.2; have := (r_x61).1; omega, by have := e0_s79.2; have := (r_x61).2; omega⟩
    have r_x83 : mh_r x83 (1) (201) := ⟨by have := e0_s79.2; have := (r_x53).1; omega, by have := e0_s79.2; have := (r_x53).2; omega⟩
    refine mw_vret dX10_opens_36 rfl ⟨rfl, ⟨?_, ?_, ?_, hI_s79, hF_s79⟩⟩
    · skip
      have t85 : x55 = s79.1 57 24 := (t73).trans (hG_s79 57 24 (mh_nsI (by rfl))).1.symm
      have t86 : x57 = s70.1 57 25 := by rw [t71]; exact (t58).trans (mh_pI_n (by omega)).symm
      have t87 : x57 = s79.1 57 25 := (t86).trans (hG_s79 57 25 (mh_nsI (by rfl))).1.symm
      have t88 : x59 = s70.1 57 27 := by rw [t71]; exact (t60).trans (mh_pI_n (by omega)).symm
      have t89 : x59 = s79.1 57 27 := (t88).trans (hG_s79 57 27 (mh_nsI (by rfl))).1.symm
      exact (show mh_pb b s79 by unfold mh_pb; rw [← t84, ← t85, ← t87, ← t89, ← t82]; have := kc_0; have := kc_1; have := (r_x53).1; have := (r_x53).2; have := (r_x55).1; have := (r_x55).2; have := (r_x57).1; have := (r_x57).2; have := (r_x59).1; have := (r_x59).2; have := (r_x61).1; have := (r_x61).2; have := (r_x81).1; have := (r_x81).2; have := (r_x83).1; have := (r_x83).2; have := kc_0; have := kc_1; have := kc_5; have := kc_6; omega)
    · skip
      have h8 : mh_hr s70 = mh_hr s0 := mh_hr_c (t72.symm.trans t54) (t73.symm.trans t56) ((by rw [t71]; exact mh_row_n (by decide) : s70.1 58 = s0.1 58))
      have h7 : s70.1 76 = s0.1 76 := (by rw [t71]; exact mh_row_n (by decide) : s70.1 76 = s0.1 76)
      rw [← t62, e0_s79.1, h7, e0_s75, h8]
    · skip
      have t90 : x55 = s79.1 57 24 := (t73).trans (hG_s79 57 24 (mh_nsI (by rfl))).1.symm
      have t91 : x57 = s70.1 57 25 := by rw [t71]; exact (t58).trans (mh_pI_n (by omega)).symm
      have t92 : x57 = s79.1 57 25 := (t91).trans (hG_s79 57 25 (mh_nsI (by rfl))).1.symm
      have t93 : x59 = s70.1 57 27 := by rw [t71]; exact (t60).trans (mh_pI_n (by omega)).symm
      have t94 : x59 = s79.1 57 27 := (t93).trans (hG_s79 57 27 (mh_nsI (by rfl))).1.symm
      have := congrArg Int32.toInt t54
      have := congrArg Int32.toInt t56
      have := congrArg Int32.toInt t58
      have := congrArg Int32.toInt t60
      have := congrArg Int32.toInt t62
      have := congrArg Int32.toInt t72
      have := congrArg Int32.toInt t73
      have := congrArg Int32.toInt t77
      have := congrArg Int32.toInt t82
      have := congrArg Int32.toInt t84
      have := congrArg Int32.toInt t90
      have := congrArg Int32.toInt t92
      have := congrArg Int32.toInt t94
      have := (r_x53).1; have := (r_x53).2
      have := (r_x55).1; have := (r_x55).2
      have := (r_x57).1; have := (r_x57).2
      have := (r_x59).1; have := (r_x59).2
      have := (r_x61).1; have := (r_x61).2
      have := (r_x81).1; have := (r_x81).2
      have := (r_x83).1; have := (r_x83).2
      have := kc_0
      have := kc_1
      have := kc_5
      have := kc_6
      omega
  · skip
    have r_x63 : mh_r x63 (6) (6) := mh_eq1 c65 (mh_r_full x63) rc_6 (6) (6) (by decide)
    refine mw_aload_n 10 rfl 0 dX10_opens_9 rfl rfl ?_
    refine mw_iconst (v := 5) 11 rfl dX10_opens_10 (by decide) ?_
    refine mw_aload_n 12 rfl 0 dX10_opens_11 rfl rfl ?_
    refine mw_geti 15 rfl dX10_opens_12 gf_X10_188 rfl (fun x95 t96 => ?_)
    obtain rfl : x53 = x95 := t54.trans t96.symm
    refine mw_callVv [.int (5), .int x53] [] 18 rfl dX10_opens_15 ml_X10_210 mc_X10_wrongs mk_X10_wrongs rfl rfl (by decide) (w_X10_wrongs l G (d + 0) ⟨by omega, by omega⟩ hI0 (5) (mh_r_wk rc_5 (by decide)) x53 r_x53 (by rw [← t58]; have := (r_x53).1; have := (r_x53).2; have := (r_x55).1; have := (r_x55).2; have := (r_x57).1; have := (r_x57).2; have := (r_x59).1; have := (r_x59).2; have := (r_x61).1; have := (r_x61).2; have := (r_x63).1; have := (r_x63).2; have := kc_0; have := kc_1; have := kc_5; have := kc_6; omega)) rfl rfl (Nat.le_of_ble_eq_true rfl) (mh_rok (by omega) (by decide)) (fun s98 q99 => ?_)
    obtain ⟨e0_s98, hI_s98, hG_s98⟩ := q99
    have hF_s98 : mh_F S_X10_opens s0 s98 := mh_F_tl hF0 hG_s98 (by decide +kernel)
    obtain ⟨x100, t101⟩ : ∃ z : Int32, z = s98.1 57 25 := ⟨_, rfl⟩
    have hw_s98 : x100.toInt < 0 := by rw [t101]; exact e0_s98
    have r_x100 : mh_r x100 (-2147483648) (-1) := ⟨((mh_r_full x100)).1, by have := hw_s98; omega⟩
    refine mw_aload_n 19 rfl 0 dX10_opens_18 rfl rfl ?_
    refine mw_dup 20 rfl dX10_opens_19 rfl ?_
    refine mw_geti 23 rfl dX10_opens_20 gf_X10_207 rfl (fun x102 t103 => ?_)
    have t104 : x63 = s98.1 57 28 := (t64).trans (hG_s98 57 28 (mh_nsI (by rfl))).1.symm
    obtain rfl : x63 = x102 := t104.trans t103.symm
    refine mw_iconst (v := 1) 24 rfl dX10_opens_23 (by decide) ?_
    refine mw_iadd 25 rfl (7) (7) dX10_opens_24 r_x63 rc_1 (by decide) (fun x105 t106 r_x105 => ?_)
    refine mw_puti 28 rfl dX10_opens_25 pf_X10_207 rfl (fun s107 t108 => ?_)
    have hI_s107 : mh_I B D s107 := by rw [t108]; exact wr_57_28 hI_s98
    have hF_s107 : mh_F S_X10_opens s0 s107 := by rw [t108]; exact mh_F_pI hF_s98 (mh_sj 0 rfl)
    refine mw_aload_n 29 rfl 0 dX10_opens_28 rfl rfl ?_
    refine mw_aload_n 30 rfl 0 dX10_opens_29 rfl rfl ?_
    have t109 : x53 = s98.1 57 23 := (t54).trans (hG_s98 57 23 (mh_nsI (by rfl))).1.symm
    have t110 : x53 = s107.1 57 23 := by rw [t108]; exact (t109).trans (mh_pI_n (by omega)).symm
    have t111 : x55 = s98.1 57 24 := (t56).trans (hG_s98 57 24 (mh_nsI (by rfl))).1.symm
    have t112 : x55 = s107.1 57 24 := by rw [t108]; exact (t111).trans (mh_pI_n (by omega)).symm
    refine mw_callVi [] [.ref (G.2.2.2 57)] 33 rfl dX10_opens_30 ml_X10_214 mc_X10_here mk_X10_here rfl rfl (by decide) (w_X10_here l G (d + 0) ⟨by omega, by omega⟩ hI_s107 (by rw [← t110, ← t112]; have := (r_x53).1; have := (r_x53).2; have := (r_x55).1; have := (r_x55).2; have := (r_x57).1; have := (r_x57).2; have := (r_x59).1; have := (r_x59).2; have := (r_x61).1; have := (r_x61).2; have := (r_x63).1; have := (r_x63).2; have := (r_x100).1; have := (r_x100).2; have := kc_0; have := kc_1; have := kc_5; have := kc_6; omega)) rfl rfl (Nat.le_of_ble_eq_true rfl) (mh_rok (by omega) (by decide)) (fun x113 s114 q115 => ?_)
    obtain ⟨r_x113, e0_s114, rfl⟩ := q115
    have hq_x113 : x113.toInt ≠ 0 → x53.toInt < x55.toInt := fun q => by rw [t110, t112]; exact mh_hr_lt (by rw [← e0_s114]; exact q)
    have t116 : x61 = s98.1 57 29 := (t62).trans (hG_s98 57 29 (mh_nsI (by rfl))).1.symm
    have t117 : x61 = s107.1 57 29 := by rw [t108]; exact (t116).trans (mh_pI_n (by omega)).symm
    refine mw_callVv [.int x113] [] 36 rfl dX10_opens_33 ml_X10_218 mc_X10_puts mk_X10_puts rfl rfl (by decide) (w_X10_puts l G (d + 0) ⟨by omega, by omega⟩ hI_s107 x113 (by rw [← t117, ← t110]; have := (r_x53).1; have := (r_x53).2; have := (r_x55).1; have := (r_x55).2; have := (r_x57).1; have := (r_x57).2; have := (r_x59).1; have := (r_x59).2; have := (r_x61).1; have := (r_x61).2; have := (r_x63).1; have := (r_x63).2; have := (r_x100).1; have := (r_x100).2; have := kc_0; have := kc_1; have := kc_5; have := kc_6; omega)) rfl rfl (Nat.le_of_ble_eq_true rfl) (mh_rok (by omega) (by decide)) (fun s119 q120 => ?_)
    obtain ⟨e0_s119, hI_s119, hG_s119⟩ := q120
    have hF_s119 : mh_F S_X10_opens s0 s119 := mh_F_tl hF_s107 hG_s119 (by decide +kernel)
    obtain ⟨x121, t122⟩ : ∃ z : Int32, z = s119.1 57 29 := ⟨_, rfl⟩
    obtain ⟨x123, t124⟩ : ∃ z : Int32, z = s119.1 57 23 := ⟨_, rfl⟩
    rw [← t117, ← t122, ← t110, ← t124] at e0_s119
    have r_x121 : mh_r x121 (1) (201) := ⟨by have := e0_s119.2; have := (r_x61).1; omega, by have := e0_s119.2; have := (r_x61).2; omega⟩
    have r_x123 : mh_r x123 (1) (201) := ⟨by have := e0_s119.2; have := (r_x53).1; omega, by have := e0_s119.2; have := (r_x53).2; omega⟩
    refine mw_vret dX10_opens_36 rfl ⟨rfl, ⟨?_, ?_, ?_, hI_s119, hF_s119⟩⟩
    · skip
      have t125 : x55 = s119.1 57 24 := (t112).trans (hG_s119 57 24 (mh_nsI (by rfl))).1.symm
      have t126 : x100 = s107.1 57 25 := by rw [t108]; exact (t101).trans (mh_pI_n (by omega)).symm
      have t127 : x100 = s119.1 57 25 := (t126).trans (hG_s119 57 25 (mh_nsI (by rfl))).1.symm
      have t128 : x59 = s98.1 57 27 := (t60).trans (hG_s98 57 27 (mh_nsI (by rfl))).1.symm
      have t129 : x59 = s107.1 57 27 := by rw [t108]; exact (t128).trans (mh_pI_n (by omega)).symm
      have t130 : x59 = s119.1 57 27 := (t129).trans (hG_s119 57 27 (mh_nsI (by rfl))).1.symm
      exact (show mh_pb b s119 by unfold mh_pb; rw [← t124, ← t125, ← t127, ← t130, ← t122]; have := kc_0; have := kc_1; have := (r_x53).1; have := (r_x53).2; have := (r_x55).1; have := (r_x55).2; have := (r_x57).1; have := (r_x57).2; have := (r_x59).1; have := (r_x59).2; have := (r_x61).1; have := (r_x61).2; have := (r_x63).1; have := (r_x63).2; have := (r_x100).1; have := (r_x100).2; have := (r_x121).1; have := (r_x121).2; have := (r_x123).1; have := (r_x123).2; have := kc_0; have := kc_1; have := kc_5; have := kc_6; omega)
    · skip
      have h8 : mh_hr s107 = mh_hr s0 := mh_hr_c (t110.symm.trans t54) (t112.symm.trans t56) (((by rw [t108]; exact mh_row_n (by decide) : s107.1 58 = s98.1 58)).trans (mh_F_row hG_s98 58 rfl))
      have h7 : s107.1 76 = s0.1 76 := ((by rw [t108]; exact mh_row_n (by decide) : s107.1 76 = s98.1 76)).trans (mh_F_row hG_s98 76 rfl)
      rw [← t62, e0_s119.1, h7, e0_s114, h8]
    · skip
      have t131 : x55 = s119.1 57 24 := (t112).trans (hG_s119 57 24 (mh_nsI (by rfl))).1.symm
      have t132 : x100 = s107.1 57 25 := by rw [t108]; exact (t101).trans (mh_pI_n (by omega)).symm
      have t133 : x100 = s119.1 57 25 := (t132).trans (hG_s119 57 25 (mh_nsI (by rfl))).1.symm
      have t134 : x59 = s98.1 57 27 := (t60).trans (hG_s98 57 27 (mh_nsI (by rfl))).1.symm
      have t135 : x59 = s107.1 57 27 := by rw [t108]; exact (t134).trans (mh_pI_n (by omega)).symm
      have t136 : x59 = s119.1 57 27 := (t135).trans (hG_s119 57 27 (mh_nsI (by rfl))).1.symm
      have := congrArg Int32.toInt t54
      have := congrArg Int32.toInt t56
      have := congrArg Int32.toInt t58
      have := congrArg Int32.toInt t60
      have := congrArg Int32.toInt t62
      have := congrArg Int32.toInt t101
      have := congrArg Int32.toInt t110
      have := congrArg Int32.toInt t112
      have := congrArg Int32.toInt t117
      have := congrArg Int32.toInt t122
      have := congrArg Int32.toInt t124
      have := congrArg Int32.toInt t131
      have := congrArg Int32.toInt t133
      have := congrArg Int32.toInt t136
      have := (r_x53).1; have := (r_x53).2
      have := (r_x55).1; have := (r_x55).2
      have := (r_x57).1; have := (r_x57).2
      have := (r_x59).1; have := (r_x59).2
      have := (r_x61).1; have := (r_x61).2
      have := (r_x63).1; have := (r_x63).2
      have := (r_x100).1; have := (r_x100).2
      have := (r_x121).1; have := (r_x121).2
      have := (r_x123).1; have := (r_x123).2
      have := kc_0
      have := kc_1
      have := kc_5
      have := kc_6
      omega

def S_X10_reads : List (Nat × Nat) := [(57, 23), (57, 25)]
def P_X10_reads (B D : Int) (s0 : mh_H) (b : Int) : Int32 → mh_H → Prop := fun z s => mh_r z (-2147483648) (2147483647) ∧ (mh_pb b s) ∧ ((s0.1 57 23).toInt ≤ (s.1 57 23).toInt ∧ ((s.1 57 25).toInt = 0 → (s0.1 57 25).toInt = 0)) ∧ ((s0.1 57 25).toInt = 0 → 48 ≤ (mh_hr s0).toInt ∧ (mh_hr s0).toInt ≤ 57 → (s.1 57 25).toInt = 0 → (s0.1 57 23).toInt + 1 ≤ (s.1 57 23).toInt) ∧ mh_I B D s ∧ mh_F S_X10_reads s0 s
set_option maxRecDepth 100000 in
set_option maxHeartbeats 4000000 in
theorem w_X10_reads (l : Launch) (G : mh_G) (d : Nat) {B D : Int} (hB : B ≤ 1960000000 ∧ D ≤ 1960000000) {s0 : mh_H} (hI0 : mh_I B D s0) (b : Int) (hb : mh_pb b s0) : mh_Mi l G (d + 2) mM_X10_reads [.ref (G.2.2.2 57)] s0 (P_X10_reads B D s0 b) := by
  refine mh_enter (lv := [(0, .ref (G.2.2.2 57))]) (by decide) rfl (Nat.le_of_ble_eq_true rfl) ?_
  have hF0 : mh_F S_X10_reads s0 s0 := mh_F_rf
  obtain ⟨x311, t312⟩ : ∃ z : Int32, z = s0.1 57 23 := ⟨_, rfl⟩
  obtain ⟨x313, t314⟩ : ∃ z : Int32, z = s0.1 57 24 := ⟨_, rfl⟩
  obtain ⟨x315, t316⟩ : ∃ z : Int32, z = s0.1 57 25 := ⟨_, rfl⟩
  obtain ⟨x317, t318⟩ : ∃ z : Int32, z = s0.1 57 27 := ⟨_, rfl⟩
  obtain ⟨x319, t320⟩ : ∃ z : Int32, z = s0.1 57 29 := ⟨_, rfl⟩
  have pb_s0 : 0 ≤ x311.toInt ∧ x311.toInt ≤ x313.toInt ∧ x313.toInt ≤ 200 ∧ 0 ≤ x319.toInt ∧ 0 ≤ b ∧ b ≤ x317.toInt ∧ x319.toInt + x317.toInt ≤ x311.toInt ∧ x315.toInt ≤ 0 := by have h9 := hb; unfold mh_pb at h9; rw [← t312, ← t314, ← t316, ← t318, ← t320] at h9; exact h9
  have r_x311 : mh_r x311 (0) (200) := ⟨by have := ((mh_r_full x311)).1; omega, by have := ((mh_r_full x311)).2; omega⟩
  have r_x313 : mh_r x313 (0) (200) := ⟨by have := ((mh_r_full x313)).1; omega, by have := ((mh_r_full x313)).2; omega⟩
  have r_x315 : mh_r x315 (-2147483648) (0) := ⟨by have := ((mh_r_full x315)).1; omega, by have := ((mh_r_full x315)).2; omega⟩
  have r_x317 : mh_r x317 (0) (200) := ⟨by have := ((mh_r_full x317)).1; omega, by have := ((mh_r_full x317)).2; omega⟩
  have r_x319 : mh_r x319 (0) (200) := ⟨by have := ((mh_r_full x319)).1; omega, by have := ((mh_r_full x319)).2; omega⟩
  refine mw_aload_n 1 rfl 0 dX10_reads_0 rfl rfl ?_
  refine mw_geti 4 rfl dX10_reads_1 gf_X10_188 rfl (fun x321 t322 => ?_)
  obtain rfl : x311 = x321 := t312.trans t322.symm
  refine mw_istore_n 5 rfl [(1, .int x311), (0, .ref (G.2.2.2 57))] dX10_reads_4 rfl (by decide) rfl ?_
  refine mw_iconst (v := 0) 6 rfl dX10_reads_5 (by decide) ?_
  refine mw_istore_n 7 rfl [(2, .int (0)), (1, .int x311), (0, .ref (G.2.2.2 57))] dX10_reads_6 rfl (by decide) rfl ?_
  have L7 : ∀ n1 : Nat, ∀ (x497 : Int32) (s498 : mh_H), mh_I B D s498 → mh_F S_X10_reads s0 s498 → (mh_pb b s498 ∧ (s0.1 57 23).toInt ≤ (s498.1 57 23).toInt ∧ ((s498.1 57 25).toInt = 0 → (s0.1 57 25).toInt = 0) ∧ ((s498.1 57 23).toInt = (s0.1 57 23).toInt → s498.1 57 23 = s0.1 57 23 ∧ s498.1 57 25 = s0.1 57 25)) → 200 - (s498.1 57 23).toInt < (n1 : Int) → mh_W G (mh_XM l G (d + 2) (mh_Qi (P_X10_reads B D s0 b))) mM_X10_reads 7 [(0, .ref (G.2.2.2 57)), (1, .int x311), (2, .int x497)] [] s498 := by
    intro n1
    induction n1 with
    | zero =>
      intro x497 s498 hI_s498 hF_s498 iv hmn1
      exact absurd hmn1 (by have h9 := iv.1; unfold mh_pb at h9; omega)
    | succ n1 ihn1 =>
      intro x497 s498 hI_s498 hF_s498 iv hmn1
      obtain ⟨x561, t562⟩ : ∃ z : Int32, z = s498.1 57 23 := ⟨_, rfl⟩
      obtain ⟨x563, t564⟩ : ∃ z : Int32, z = s498.1 57 24 := ⟨_, rfl⟩
      obtain ⟨x565, t566⟩ : ∃ z : Int32, z = s498.1 57 25 := ⟨_, rfl⟩
      obtain ⟨x567, t568⟩ : ∃ z : Int32, z = s498.1 57 27 := ⟨_, rfl⟩
      obtain ⟨x569, t570⟩ : ∃ z : Int32, z = s498.1 57 29 := ⟨_, rfl⟩
      have pb_s498 : 0 ≤ x561.toInt ∧ x561.toInt ≤ x563.toInt ∧ x563.toInt ≤ 200 ∧ 0 ≤ x569.toInt ∧ 0 ≤ b ∧ b ≤ x567.toInt ∧ x569.toInt + x567.toInt ≤ x561.toInt ∧ x565.toInt ≤ 0 := by have h9 := iv.1; unfold mh_pb at h9; rw [← t562, ← t564, ← t566, ← t568, ← t570] at h9; exact h9
      have r_x561 : mh_r x561 (0) (200) := ⟨by have := ((mh_r_full x561)).1; omega, by have := ((mh_r_full x561)).2; omega⟩
      have r_x563 : mh_r x563 (0) (200) := ⟨by have := ((mh_r_full x563)).1; omega, by have := ((mh_r_full x563)).2; omega⟩
      have r_x565 : mh_r x565 (-2147483648) (0) := ⟨by have := ((mh_r_full x565)).1; omega, by have := ((mh_r_full x565)).2; omega⟩
      have r_x567 : mh_r x567 (0) (200) := ⟨by have := ((mh_r_full x567)).1; omega, by have := ((mh_r_full x567)).2; omega⟩
      have r_x569 : mh_r x569 (0) (200) := ⟨by have := ((mh_r_full x569)).1; omega, by have := ((mh_r_full x569)).2; omega⟩
      refine mw_aload_n 8 rfl 0 dX10_reads_7 rfl rfl ?_
      refine mw_callVi [] [] 11 rfl dX10_reads_8 ml_X10_197 mc_X10_isGood mk_X10_isGood rfl rfl (by decide) (w_X10_isGood l G (d + 1) ⟨by omega, by omega⟩ hI_s498) rfl rfl (Nat.le_of_ble_eq_true rfl) (mh_rok (by omega) (by decide)) (fun x571 s572 q573 => ?_)
      obtain ⟨r_x571, e0_s572, rfl⟩ := q573
      rw [← t566] at e0_s572
      refine mw_if_eq 14 rfl 66 dX10_reads_11 (by decide) (fun c574 => ?_) (fun c574 => ?_)
      · skip
        have r_x565 : mh_r x565 (-2147483648) (-1) := ⟨(r_x565).1, by have := (r_x565).2; have : x565.toInt ≠ 0 := (fun q => by have := e0_s572.2 q; have := c574; omega); omega⟩
        have r_x571 : mh_r x571 (0) (0) := mh_eq1 (show x571.toInt = (0 : Int32).toInt from c574) r_x571 rc_0 (0) (0) (by decide)
        refine mw_iload_n 67 rfl 2 dX10_reads_66 rfl rfl ?_
        refine mw_iret dX10_reads_67 rfl ⟨x497, rfl, ⟨(mh_r_full x497), ?_, ?_, ?_, hI_s498, hF_s498⟩⟩
        · skip
          exact iv.1
        · skip
          exact ⟨iv.2.1, iv.2.2.1⟩
        · skip
          have := congrArg Int32.toInt t562
          have := congrArg Int32.toInt t564
          have := congrArg Int32.toInt t566
          have := congrArg Int32.toInt t568
          have := congrArg Int32.toInt t570
          have := (r_x311).1; have := (r_x311).2
          have := (r_x561).1; have := (r_x561).2
          have := (r_x563).1; have := (r_x563).2
          have := (r_x565).1; have := (r_x565).2
          have := (r_x567).1; have := (r_x567).2
          have := (r_x569).1; have := (r_x569).2
          have := kc_0
          have := kc_1
          have := kc_2
          have := kc_5
          have := kc_10
          have := kc_48
          intro q1 q2
          omega
      · skip
        have r_x565 : mh_r x565 (0) (0) := ⟨by have := e0_s572.1 (mh_z1 r_x571 c574); omega, by have := e0_s572.1 (mh_z1 r_x571 c574); omega⟩
        have r_x571 : mh_r x571 (1) (1) := mh_ne1 (show x571.toInt ≠ (0 : Int32).toInt from c574) r_x571 rc_0 (1) (1) (by decide)
        refine mw_aload_n 15 rfl 0 dX10_reads_14 rfl rfl ?_
        refine mw_callVi [] [] 18 rfl dX10_reads_15 ml_X10_225 mc_X10_seesDigit mk_X10_seesDigit rfl rfl (by decide) (w_X10_seesDigit l G (d + 0) ⟨by omega, by omega⟩ hI_s498 (by rw [← t562, ← t564]; have := (r_x311).1; have := (r_x311).2; have := (r_x561).1; have := (r_x561).2; have := (r_x563).1; have := (r_x563).2; have := (r_x565).1; have := (r_x565).2; have := (r_x567).1; have := (r_x567).2; have := (r_x569).1; have := (r_x569).2; have := kc_0; have := kc_1; have := kc_2; have := kc_5; have := kc_10; have := kc_48; omega)) rfl rfl (Nat.le_of_ble_eq_true rfl) (mh_rok (by omega) (by decide)) (fun x575 s576 q577 => ?_)
        obtain ⟨r_x575, e0_s576, rfl⟩ := q577
        have hd_x575 : x575.toInt = 1 → x561.toInt < x563.toInt := fun q => by rw [t562, t564]; exact mh_hr_lt (by have := e0_s576.1 q; omega)
        refine mw_if_eq 21 rfl 66 dX10_reads_18 (by decide) (fun c578 => ?_) (fun c578 => ?_)
        · skip
          have r_x575 : mh_r x575 (0) (0) := mh_eq1 (show x575.toInt = (0 : Int32).toInt from c578) r_x575 rc_0 (0) (0) (by decide)
          refine mw_iload_n 67 rfl 2 dX10_reads_66 rfl rfl ?_
          refine mw_iret dX10_reads_67 rfl ⟨x497, rfl, ⟨(mh_r_full x497), ?_, ?_, ?_, hI_s498, hF_s498⟩⟩
          · skip
            exact iv.1
          · skip
            exact ⟨iv.2.1, iv.2.2.1⟩
          · skip
            have := congrArg Int32.toInt t562
            have := congrArg Int32.toInt t564
            have := congrArg Int32.toInt t566
            have := congrArg Int32.toInt t568
            have := congrArg Int32.toInt t570
            have := (r_x311).1; have := (r_x311).2
            have := (r_x561).1; have := (r_x561).2
            have := (r_x563).1; have := (r_x563).2
            have := (r_x565).1; have := (r_x565).2
            have := (r_x567).1; have := (r_x567).2
            have := (r_x569).1; have := (r_x569).2
            have := kc_0
            have := kc_1
            have := kc_2
            have := kc_5
            have := kc_10
            have := kc_48
            intro q1 q2
            by_cases q3 : (s498.1 57 23).toInt = (s0.1 57 23).toInt
            · exfalso
              have h9 := (iv.2.2.2 q3)
              have h8 : mh_hr s498 = mh_hr s0 := mh_hr_c h9.1 (hF_s498 57 24 (mh_nsI rfl)).1 (mh_F_row hF_s498 58 rfl)
              rw [h8] at e0_s576
              have := e0_s576.2 q2
              omega
            · have := iv.2.1
              omega
        · skip
          have hl_x575 := hd_x575 (mh_z1 r_x575 c578)
          have hk_x575 := e0_s576.1 (mh_z1 r_x575 c578)
          have r_x575 : mh_r x575 (1) (1) := mh_ne1 (show x575.toInt ≠ (0 : Int32).toInt from c578) r_x575 rc_0 (1) (1) (by decide)
          refine mw_aload_n 22 rfl 0 dX10_reads_21 rfl rfl ?_
          refine mw_geti 25 rfl dX10_reads_22 gf_X10_188 rfl (fun x579 t580 => ?_)
          obtain rfl : x561 = x579 := t562.trans t580.symm
          refine mw_iload_n 26 rfl 1 dX10_reads_25 rfl rfl ?_
          refine mw_iconst (v := 5) 27 rfl dX10_reads_26 (by decide) ?_
          refine mw_iadd 28 rfl (5) (205) dX10_reads_27 r_x311 rc_5 (by decide) (fun x581 t582 r_x581 => ?_)
          refine mw_icmp_ne 31 rfl 40 dX10_reads_28 (by decide) (fun c583 => ?_) (fun c583 => ?_)
          · skip
            refine mw_bipush (v := 10) 42 rfl dX10_reads_40 (by decide) ?_
            refine mw_iload_n 43 rfl 2 dX10_reads_42 rfl rfl ?_
            refine mw_imul_u 44 rfl dX10_reads_43 (fun x584 t585 => ?_)
            refine mw_aload_n 45 rfl 0 dX10_reads_44 rfl rfl ?_
            refine mw_callVi [] [.int x584] 48 rfl dX10_reads_45 ml_X10_214 mc_X10_here mk_X10_here rfl rfl (by decide) (w_X10_here l G (d + 1) ⟨by omega, by omega⟩ hI_s498 (by rw [← t562, ← t564]; have := (r_x311).1; have := (r_x311).2; have := (r_x561).1; have := (r_x561).2; have := (r_x563).1; have := (r_x563).2; have := (r_x565).1; have := (r_x565).2; have := (r_x567).1; have := (r_x567).2; have := (r_x569).1; have := (r_x569).2; have := (rc_10).1; have := (rc_10).2; have := kc_0; have := kc_1; have := kc_2; have := kc_5; have := kc_10; have := kc_48; omega)) rfl rfl (Nat.le_of_ble_eq_true rfl) (mh_rok (by omega) (by decide)) (fun x586 s587 q588 => ?_)
            obtain ⟨r_x586, e0_s587, rfl⟩ := q588
            have hq_x586 : x586.toInt ≠ 0 → x561.toInt < x563.toInt := fun q => by rw [t562, t564]; exact mh_hr_lt (by rw [← e0_s587]; exact q)
            refine mw_iadd_u 49 rfl dX10_reads_48 (fun x589 t590 => ?_)
            refine mw_bipush (v := 48) 51 rfl dX10_reads_49 (by decide) ?_
            refine mw_isub_u 52 rfl dX10_reads_51 (fun x591 t592 => ?_)
            refine mw_istore_n 53 rfl [(2, .int x591), (0, .ref (G.2.2.2 57)), (1, .int x311)] dX10_reads_52 rfl (by decide) rfl ?_
            refine mw_aload_n 54 rfl 1 dX10_reads_53 rfl rfl ?_
            refine mw_dup 55 rfl dX10_reads_54 rfl ?_
            refine mw_geti 58 rfl dX10_reads_55 gf_X10_188 rfl (fun x593 t594 => ?_)
            obtain rfl : x561 = x593 := t562.trans t594.symm
            refine mw_iconst (v := 1) 59 rfl dX10_reads_58 (by decide) ?_
            refine mw_iadd 60 rfl (1) (201) dX10_reads_59 r_x561 rc_1 (by decide) (fun x595 t596 r_x595 => ?_)
            refine mw_puti 63 rfl dX10_reads_60 pf_X10_188 rfl (fun s597 t598 => ?_)
            have hI_s597 : mh_I B D s597 := by rw [t598]; exact wr_57_23 hI_s498
            have hF_s597 : mh_F S_X10_reads s0 s597 := by rw [t598]; exact mh_F_pI hF_s498 (mh_sj 0 rfl)
            refine mw_goto 66 rfl 7 dX10_reads_63 (by decide) ?_
            have t599 : x595 = s597.1 57 23 := by rw [t598]; exact mh_pI_s.symm
            have t600 : x563 = s597.1 57 24 := by rw [t598]; exact (t564).trans (mh_pI_n (by omega)).symm
            have t601 : x565 = s597.1 57 25 := by rw [t598]; exact (t566).trans (mh_pI_n (by omega)).symm
            have t602 : x567 = s597.1 57 27 := by rw [t598]; exact (t568).trans (mh_pI_n (by omega)).symm
            have t603 : x569 = s597.1 57 29 := by rw [t598]; exact (t570).trans (mh_pI_n (by omega)).symm
            exact mw_lv [1, 2, 0] rfl (ihn1 x591 s597 hI_s597 hF_s597 (by
                refine ⟨(show mh_pb b s597 by unfold mh_pb; rw [← t599, ← t600, ← t601, ← t602, ← t603]; have := kc_0; have := kc_1; have := (r_x311).1; have := (r_x311).2; have := (r_x561).1; have := (r_x561).2; have := (r_x563).1; have := (r_x563).2; have := (r_x565).1; have := (r_x565).2; have := (r_x567).1; have := (r_x567).2; have := (r_x569).1; have := (r_x569).2; have := (r_x595).1; have := (r_x595).2; have := (rc_48).1; have := (rc_48).2; have := (rc_1).1; have := (rc_1).2; have := kc_0; have := kc_1; have := kc_2; have := kc_5; have := kc_10; have := kc_48; omega), ?_, ?_, ?_⟩
                · have := congrArg Int32.toInt t562; have := congrArg Int32.toInt t564; have := congrArg Int32.toInt t566; have := congrArg Int32.toInt t568; have := congrArg Int32.toInt t570; have := congrArg Int32.toInt t599; have := congrArg Int32.toInt t600; have := congrArg Int32.toInt t601; have := congrArg Int32.toInt t602; have := congrArg Int32.toInt t603; have := (r_x311).1; have := (r_x311).2; have := (r_x561).1; have := (r_x561).2; have := (r_x563).1; have := (r_x563).2; have := (r_x565).1; have := (r_x565).2; have := (r_x567).1; have := (r_x567).2; have := (r_x569).1; have := (r_x569).2; have := (r_x595).1; have := (r_x595).2; have := (rc_48).1; have := (rc_48).2; have := (rc_1).1; have := (rc_1).2; have := kc_0; have := kc_1; have := kc_2; have := kc_5; have := kc_10; have := kc_48; omega
                · have := congrArg Int32.toInt t562; have := congrArg Int32.toInt t564; have := congrArg Int32.toInt t566; have := congrArg Int32.toInt t568; have := congrArg Int32.toInt t570; have := congrArg Int32.toInt t599; have := congrArg Int32.toInt t600; have := congrArg Int32.toInt t601; have := congrArg Int32.toInt t602; have := congrArg Int32.toInt t603; have := (r_x311).1; have := (r_x311).2; have := (r_x561).1; have := (r_x561).2; have := (r_x563).1; have := (r_x563).2; have := (r_x565).1; have := (r_x565).2; have := (r_x567).1; have := (r_x567).2; have := (r_x569).1; have := (r_x569).2; have := (r_x595).1; have := (r_x595).2; have := (rc_48).1; have := (rc_48).2; have := (rc_1).1; have := (rc_1).2; have := kc_0; have := kc_1; have := kc_2; have := kc_5; have := kc_10; have := kc_48; omega
                · intro q; exact absurd q (by have := congrArg Int32.toInt t562; have := congrArg Int32.toInt t564; have := congrArg Int32.toInt t566; have := congrArg Int32.toInt t568; have := congrArg Int32.toInt t570; have := congrArg Int32.toInt t599; have := congrArg Int32.toInt t600; have := congrArg Int32.toInt t601; have := congrArg Int32.toInt t602; have := congrArg Int32.toInt t603; have := (r_x311).1; have := (r_x311).2; have := (r_x561).1; have := (r_x561).2; have := (r_x563).1; have := (r_x563).2; have := (r_x565).1; have := (r_x565).2; have := (r_x567).1; have := (r_x567).2; have := (r_x569).1; have := (r_x569).2; have := (r_x595).1; have := (r_x595).2; have := (rc_48).1; have := (rc_48).2; have := (rc_1).1; have := (rc_1).2; have := kc_0; have := kc_1; have := kc_2; have := kc_5; have := kc_10; have := kc_48; omega)) (by have := congrArg Int32.toInt t562; have := congrArg Int32.toInt t564; have := congrArg Int32.toInt t566; have := congrArg Int32.toInt t568; have := congrArg Int32.toInt t570; have := congrArg Int32.toInt t599; have := congrArg Int32.toInt t600; have := congrArg Int32.toInt t601; have := congrArg Int32.toInt t602; have := congrArg Int32.toInt t603; have := (r_x311).1; have := (r_x311).2; have := (r_x561).1; have := (r_x561).2; have := (r_x563).1; have := (r_x563).2; have := (r_x565).1; have := (r_x565).2; have := (r_x567).1; have := (r_x567).2; have := (r_x569).1; have := (r_x569).2; have := (r_x595).1; have := (r_x595).2; have := (rc_48).1; have := (rc_48).2; have := (rc_1).1; have := (rc_1).2; have := kc_0; have := kc_1; have := kc_2; have := kc_5; have := kc_10; have := kc_48; omega))
          · skip
            have r_x561 : mh_r x561 (5) (200) := mh_eq1 c583 r_x561 r_x581 (5) (200) (by decide)
            have r_x581 : mh_r x581 (5) (200) := mh_eq1 c583.symm r_x581 r_x561 (5) (200) (by decide)
            have r_x311 : mh_r x311 (0) (195) := by have := (show x581.toInt = x311.toInt + (5) from t582); have := (r_x311).1; have := (r_x311).2; have := (r_x581).1; have := (r_x581).2; exact ⟨by omega, by omega⟩
            refine mw_aload_n 32 rfl 0 dX10_reads_31 rfl rfl ?_
            refine mw_iconst (v := 2) 33 rfl dX10_reads_32 (by decide) ?_
            refine mw_aload_n 34 rfl 0 dX10_reads_33 rfl rfl ?_
            refine mw_geti 37 rfl dX10_reads_34 gf_X10_188 rfl (fun x604 t605 => ?_)
            obtain rfl : x561 = x604 := t562.trans t605.symm
            refine mw_callVv [.int (2), .int x561] [] 40 rfl dX10_reads_37 ml_X10_210 mc_X10_wrongs mk_X10_wrongs rfl rfl (by decide) (w_X10_wrongs l G (d + 1) ⟨by omega, by omega⟩ hI_s498 (2) (mh_r_wk rc_2 (by decide)) x561 (mh_r_wk r_x561 (by decide)) (by rw [← t566]; have := (r_x311).1; have := (r_x311).2; have := (r_x561).1; have := (r_x561).2; have := (r_x563).1; have := (r_x563).2; have := (r_x565).1; have := (r_x565).2; have := (r_x567).1; have := (r_x567).2; have := (r_x569).1; have := (r_x569).2; have := kc_0; have := kc_1; have := kc_2; have := kc_5; have := kc_10; have := kc_48; omega)) rfl rfl (Nat.le_of_ble_eq_true rfl) (mh_rok (by omega) (by decide)) (fun s607 q608 => ?_)
            obtain ⟨e0_s607, hI_s607, hG_s607⟩ := q608
            have hF_s607 : mh_F S_X10_reads s0 s607 := mh_F_tl hF_s498 hG_s607 (by decide +kernel)
            obtain ⟨x609, t610⟩ : ∃ z : Int32, z = s607.1 57 25 := ⟨_, rfl⟩
            have hw_s607 : x609.toInt < 0 := by rw [t610]; exact e0_s607
            have r_x609 : mh_r x609 (-2147483648) (-1) := ⟨((mh_r_full x609)).1, by have := hw_s607; omega⟩
            refine mw_bipush (v := 10) 42 rfl dX10_reads_40 (by decide) ?_
            refine mw_iload_n 43 rfl 2 dX10_reads_42 rfl rfl ?_
            refine mw_imul_u 44 rfl dX10_reads_43 (fun x611 t612 => ?_)
            refine mw_aload_n 45 rfl 0 dX10_reads_44 rfl rfl ?_
            have t613 : x561 = s607.1 57 23 := (t562).trans (hG_s607 57 23 (mh_nsI (by rfl))).1.symm
            have t614 : x563 = s607.1 57 24 := (t564).trans (hG_s607 57 24 (mh_nsI (by rfl))).1.symm
            refine mw_callVi [] [.int x611] 48 rfl dX10_reads_45 ml_X10_214 mc_X10_here mk_X10_here rfl rfl (by decide) (w_X10_here l G (d + 1) ⟨by omega, by omega⟩ hI_s607 (by rw [← t613, ← t614]; have := (r_x311).1; have := (r_x311).2; have := (r_x561).1; have := (r_x561).2; have := (r_x563).1; have := (r_x563).2; have := (r_x565).1; have := (r_x565).2; have := (r_x567).1; have := (r_x567).2; have := (r_x569).1; have := (r_x569).2; have := (r_x609).1; have := (r_x609).2; have := (rc_10).1; have := (rc_10).2; have := kc_0; have := kc_1; have := kc_2; have := kc_5; have := kc_10; have := kc_48; omega)) rfl rfl (Nat.le_of_ble_eq_true rfl) (mh_rok (by omega) (by decide)) (fun x615 s616 q617 => ?_)
            obtain ⟨r_x615, e0_s616, rfl⟩ := q617
            have hq_x615 : x615.toInt ≠ 0 → x561.toInt < x563.toInt := fun q => by rw [t613, t614]; exact mh_hr_lt (by rw [← e0_s616]; exact q)
            refine mw_iadd_u 49 rfl dX10_reads_48 (fun x618 t619 => ?_)
            refine mw_bipush (v := 48) 51 rfl dX10_reads_49 (by decide) ?_
            refine mw_isub_u 52 rfl dX10_reads_51 (fun x620 t621 => ?_)
            refine mw_istore_n 53 rfl [(2, .int x620), (0, .ref (G.2.2.2 57)), (1, .int x311)] dX10_reads_52 rfl (by decide) rfl ?_
            refine mw_aload_n 54 rfl 1 dX10_reads_53 rfl rfl ?_
            refine mw_dup 55 rfl dX10_reads_54 rfl ?_
            refine mw_geti 58 rfl dX10_reads_55 gf_X10_188 rfl (fun x622 t623 => ?_)
            obtain rfl : x561 = x622 := t613.trans t623.symm
            refine mw_iconst (v := 1) 59 rfl dX10_reads_58 (by decide) ?_
            refine mw_iadd 60 rfl (6) (201) dX10_reads_59 r_x561 rc_1 (by decide) (fun x624 t625 r_x624 => ?_)
            refine mw_puti 63 rfl dX10_reads_60 pf_X10_188 rfl (fun s626 t627 => ?_)
            have hI_s626 : mh_I B D s626 := by rw [t627]; exact wr_57_23 hI_s607
            have hF_s626 : mh_F S_X10_reads s0 s626 := by rw [t627]; exact mh_F_pI hF_s607 (mh_sj 0 rfl)
            refine mw_goto 66 rfl 7 dX10_reads_63 (by decide) ?_
            have t628 : x624 = s626.1 57 23 := by rw [t627]; exact mh_pI_s.symm
            have t629 : x563 = s626.1 57 24 := by rw [t627]; exact (t614).trans (mh_pI_n (by omega)).symm
            have t630 : x609 = s626.1 57 25 := by rw [t627]; exact (t610).trans (mh_pI_n (by omega)).symm
            have t631 : x567 = s607.1 57 27 := (t568).trans (hG_s607 57 27 (mh_nsI (by rfl))).1.symm
            have t632 : x567 = s626.1 57 27 := by rw [t627]; exact (t631).trans (mh_pI_n (by omega)).symm
            have t633 : x569 = s607.1 57 29 := (t570).trans (hG_s607 57 29 (mh_nsI (by rfl))).1.symm
            have t634 : x569 = s626.1 57 29 := by rw [t627]; exact (t633).trans (mh_pI_n (by omega)).symm
            exact mw_lv [1, 2, 0] rfl (ihn1 x620 s626 hI_s626 hF_s626 (by
                refine ⟨(show mh_pb b s626 by unfold mh_pb; rw [← t628, ← t629, ← t630, ← t632, ← t634]; have := kc_0; have := kc_1; have := (r_x311).1; have := (r_x311).2; have := (r_x561).1; have := (r_x561).2; have := (r_x563).1; have := (r_x563).2; have := (r_x565).1; have := (r_x565).2; have := (r_x567).1; have := (r_x567).2; have := (r_x569).1; have := (r_x569).2; have := (r_x609).1; have := (r_x609).2; have := (r_x624).1; have := (r_x624).2; have := (rc_48).1; have := (rc_48).2; have := (rc_1).1; have := (rc_1).2; have := kc_0; have := kc_1; have := kc_2; have := kc_5; have := kc_10; have := kc_48; omega), ?_, ?_, ?_⟩
                · have := congrArg Int32.toInt t562; have := congrArg Int32.toInt t564; have := congrArg Int32.toInt t566; have := congrArg Int32.toInt t568; have := congrArg Int32.toInt t570; have := congrArg Int32.toInt t610; have := congrArg Int32.toInt t613; have := congrArg Int32.toInt t614; have := congrArg Int32.toInt t628; have := congrArg Int32.toInt t629; have := congrArg Int32.toInt t630; have := congrArg Int32.toInt t632; have := congrArg Int32.toInt t634; have := (r_x311).1; have := (r_x311).2; have := (r_x561).1; have := (r_x561).2; have := (r_x563).1; have := (r_x563).2; have := (r_x565).1; have := (r_x565).2; have := (r_x567).1; have := (r_x567).2; have := (r_x569).1; have := (r_x569).2; have := (r_x609).1; have := (r_x609).2; have := (r_x624).1; have := (r_x624).2; have := (rc_48).1; have := (rc_48).2; have := (rc_1).1; have := (rc_1).2; have := kc_0; have := kc_1; have := kc_2; have := kc_5; have := kc_10; have := kc_48; omega
                · have := congrArg Int32.toInt t562; have := congrArg Int32.toInt t564; have := congrArg Int32.toInt t566; have := congrArg Int32.toInt t568; have := congrArg Int32.toInt t570; have := congrArg Int32.toInt t610; have := congrArg Int32.toInt t613; have := congrArg Int32.toInt t614; have := congrArg Int32.toInt t628; have := congrArg Int32.toInt t629; have := congrArg Int32.toInt t630; have := congrArg Int32.toInt t632; have := congrArg Int32.toInt t634; have := (r_x311).1; have := (r_x311).2; have := (r_x561).1; have := (r_x561).2; have := (r_x563).1; have := (r_x563).2; have := (r_x565).1; have := (r_x565).2; have := (r_x567).1; have := (r_x567).2; have := (r_x569).1; have := (r_x569).2; have := (r_x609).1; have := (r_x609).2; have := (r_x624).1; have := (r_x624).2; have := (rc_48).1; have := (rc_48).2; have := (rc_1).1; have := (rc_1).2; have := kc_0; have := kc_1; have := kc_2; have := kc_5; have := kc_10; have := kc_48; omega
                · intro q; exact absurd q (by have := congrArg Int32.toInt t562; have := congrArg Int32.toInt t564; have := congrArg Int32.toInt t566; have := congrArg Int32.toInt t568; have := congrArg Int32.toInt t570; have := congrArg Int32.toInt t610; have := congrArg Int32.toInt t613; have := congrArg Int32.toInt t614; have := congrArg Int32.toInt t628; have := congrArg Int32.toInt t629; have := congrArg Int32.toInt t630; have := congrArg Int32.toInt t632; have := congrArg Int32.toInt t634; have := (r_x311).1; have := (r_x311).2; have := (r_x561).1; have := (r_x561).2; have := (r_x563).1; have := (r_x563).2; have := (r_x565).1; have := (r_x565).2; have := (r_x567).1; have := (r_x567).2; have := (r_x569).1; have := (r_x569).2; have := (r_x609).1; have := (r_x609).2; have := (r_x624).1; have := (r_x624).2; have := (rc_48).1; have := (rc_48).2; have := (rc_1).1; have := (rc_1).2; have := kc_0; have := kc_1; have := kc_2; have := kc_5; have := kc_10; have := kc_48; omega)) (by have := congrArg Int32.toInt t562; have := congrArg Int32.toInt t564; have := congrArg Int32.toInt t566; have := congrArg Int32.toInt t568; have := congrArg Int32.toInt t570; have := congrArg Int32.toInt t610; have := congrArg Int32.toInt t613; have := congrArg Int32.toInt t614; have := congrArg Int32.toInt t628; have := congrArg Int32.toInt t629; have := congrArg Int32.toInt t630; have := congrArg Int32.toInt t632; have := congrArg Int32.toInt t634; have := (r_x311).1; have := (r_x311).2; have := (r_x561).1; have := (r_x561).2; have := (r_x563).1; have := (r_x563).2; have := (r_x565).1; have := (r_x565).2; have := (r_x567).1; have := (r_x567).2; have := (r_x569).1; have := (r_x569).2; have := (r_x609).1; have := (r_x609).2; have := (r_x624).1; have := (r_x624).2; have := (rc_48).1; have := (rc_48).2; have := (rc_1).1; have := (rc_1).2; have := kc_0; have := kc_1; have := kc_2; have := kc_5; have := kc_10; have := kc_48; omega))
  exact mw_lv [2, 1, 0] rfl (L7 202 (0) s0 hI0 hF0 (by
      exact ⟨hb, Int.le_refl _, fun h => h, fun _ => ⟨rfl, rfl⟩⟩) (by have h9 := hb; unfold mh_pb at h9; omega))

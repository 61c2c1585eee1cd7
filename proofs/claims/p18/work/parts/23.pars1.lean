def P_X10_here (B D : Int) (s0 : mh_H) : Int32 → mh_H → Prop := fun z s => mh_r z (0) (255) ∧ (z = mh_hr s0) ∧ s0 = s
set_option maxRecDepth 100000 in
set_option maxHeartbeats 4000000 in
theorem w_X10_here (l : Launch) (G : mh_G) (d : Nat) {B D : Int} (hB : B ≤ 2000000000 ∧ D ≤ 2000000000) {s0 : mh_H} (hI0 : mh_I B D s0) (hh : 0 ≤ (s0.1 57 23).toInt ∧ (s0.1 57 24).toInt ≤ 200) : mh_Mi l G (d + 0) mM_X10_here [.ref (G.2.2.2 57)] s0 (P_X10_here B D s0) := by
  refine mh_enter (lv := [(0, .ref (G.2.2.2 57))]) (by decide) rfl (Nat.le_of_ble_eq_true rfl) ?_
  refine mw_aload_n 1 rfl 0 dX10_here_0 rfl rfl ?_
  refine mw_geti 4 rfl dX10_here_1 gf_X10_188 rfl (fun x12 t13 => ?_)
  have r_x12 : mh_r x12 (0) (2147483647) := ⟨by rw [t13]; exact hh.1, ((mh_r_full x12)).2⟩
  refine mw_aload_n 5 rfl 0 dX10_here_4 rfl rfl ?_
  refine mw_geti 8 rfl dX10_here_5 gf_X10_191 rfl (fun x14 t15 => ?_)
  have r_x14 : mh_r x14 (-2147483648) (200) := ⟨((mh_r_full x14)).1, by rw [t15]; exact hh.2⟩
  refine mw_icmp_ge 11 rfl 27 dX10_here_8 (by decide) (fun c16 => ?_) (fun c16 => ?_)
  · skip
    refine mw_iconst (v := 0) 28 rfl dX10_here_27 (by decide) ?_
    refine mw_iret dX10_here_28 rfl ⟨(0), rfl, ⟨(mh_r_wk rc_0 (by decide)), ?_, rfl⟩⟩
    · skip
      have := (rc_0).1; have := (rc_0).2
      have := (r_x12).1; have := (r_x12).2
      have := (r_x14).1; have := (r_x14).2
      have := kc_0
      have := kc_1
      have := kc_255
      unfold mh_hr
      rw [← t13, ← t15]
      rw [if_neg (by omega)]
  · skip
    have r_x12 : mh_r x12 (0) (199) := mh_lt1 c16 r_x12 r_x14 (199) (by decide)
    have r_x14 : mh_r x14 (1) (200) := mh_lt2 c16 r_x12 r_x14 (1) (by decide)
    refine mw_aload_n 12 rfl 0 dX10_here_11 rfl rfl ?_
    refine mw_geta 15 rfl dX10_here_12 gf_X10_7 rfl 58 (mh_rf hI0 55 rfl) ?_
    refine mw_aload_n 16 rfl 0 dX10_here_15 rfl rfl ?_
    refine mw_geti 19 rfl dX10_here_16 gf_X10_188 rfl (fun x17 t18 => ?_)
    obtain rfl : x12 = x17 := t13.trans t18.symm
    refine mw_bald 20 rfl dX10_here_19 rfl r_x12 (by decide) (fun x19 t20 => ?_)
    have r_x19 : mh_r x19 (-128) (127) := by rw [t20]; exact rd_58 hI0 _
    refine mw_sipush (v := 255) 23 rfl dX10_here_20 (by decide) ?_
    refine mw_iand_u 24 rfl dX10_here_23 (fun x21 t22 => ?_)
    have r_x21 : mh_r x21 0 255 := by rw [t22]; exact mh_and255
    refine mw_goto 27 rfl 28 dX10_here_24 (by decide) ?_
    refine mw_iret dX10_here_28 rfl ⟨x21, rfl, ⟨r_x21, ?_, rfl⟩⟩
    · skip
      have := (r_x21).1; have := (r_x21).2
      have := (r_x12).1; have := (r_x12).2
      have := (r_x14).1; have := (r_x14).2
      have := (r_x19).1; have := (r_x19).2
      have := kc_0
      have := kc_1
      have := kc_255
      unfold mh_hr
      rw [← t13, ← t15]
      rw [if_pos (by omega), ← t20]
      exact t22

def S_X10_wrongs : List (Nat × Nat) := [(57, 25)]
def P_X10_wrongs (B D : Int) (s0 : mh_H) (p1 : Int32) (p2 : Int32) : mh_H → Prop := fun s => ((s.1 57 25).toInt < 0) ∧ mh_I B D s ∧ mh_F S_X10_wrongs s0 s
set_option maxRecDepth 100000 in
set_option maxHeartbeats 4000000 in
theorem w_X10_wrongs (l : Launch) (G : mh_G) (d : Nat) {B D : Int} (hB : B ≤ 2000000000 ∧ D ≤ 2000000000) {s0 : mh_H} (hI0 : mh_I B D s0) (p1 : Int32) (r_p1 : mh_r p1 (1) (5)) (p2 : Int32) (r_p2 : mh_r p2 (0) (200)) (hw : (s0.1 57 25).toInt ≤ 0) : mh_Mv l G (d + 0) mM_X10_wrongs [.ref (G.2.2.2 57), .int p1, .int p2] s0 (P_X10_wrongs B D s0 p1 p2) := by
  refine mh_enter (lv := [(0, .ref (G.2.2.2 57)), (1, .int p1), (2, .int p2)]) (by decide) rfl (Nat.le_of_ble_eq_true rfl) ?_
  have hF0 : mh_F S_X10_wrongs s0 s0 := mh_F_rf
  refine mw_aload_n 1 rfl 0 dX10_wrongs_0 rfl rfl ?_
  refine mw_aload_n 2 rfl 0 dX10_wrongs_1 rfl rfl ?_
  refine mw_geti 5 rfl dX10_wrongs_2 gf_X10_194 rfl (fun x14 t15 => ?_)
  have r_x14 : mh_r x14 (-2147483648) (0) := ⟨((mh_r_full x14)).1, by rw [t15]; exact hw⟩
  refine mw_if_ge 8 rfl 15 dX10_wrongs_5 (by decide) (fun c16 => ?_) (fun c16 => ?_)
  · skip
    have r_x14 : mh_r x14 (0) (0) := mh_le2 (show (0 : Int32).toInt ≤ x14.toInt from c16) rc_0 r_x14 (0) (by decide)
    refine mw_sipush (v := -1000) 18 rfl dX10_wrongs_15 (by decide) ?_
    refine mw_iload_n 19 rfl 1 dX10_wrongs_18 rfl rfl ?_
    refine mw_imul 20 rfl (-5000) (-1000) dX10_wrongs_19 rc_m1000 r_p1 (by decide) (fun x17 t18 r_x17 => ?_)
    refine mw_iload_n 21 rfl 2 dX10_wrongs_20 rfl rfl ?_
    refine mw_isub 22 rfl (-5200) (-1000) dX10_wrongs_21 r_x17 r_p2 (by decide) (fun x19 t20 r_x19 => ?_)
    refine mw_puti 25 rfl dX10_wrongs_22 pf_X10_194 rfl (fun s21 t22 => ?_)
    have hI_s21 : mh_I B D s21 := by rw [t22]; exact wr_57_25 hI0
    have hF_s21 : mh_F S_X10_wrongs s0 s21 := by rw [t22]; exact mh_F_pI hF0 (mh_sj 0 rfl)
    refine mw_vret dX10_wrongs_25 rfl ⟨rfl, ⟨?_, hI_s21, hF_s21⟩⟩
    · skip
      have t23 : x19 = s21.1 57 25 := by rw [t22]; exact mh_pI_s.symm
      rw [← t23]
      have := (r_p1).1; have := (r_p1).2
      have := (r_p2).1; have := (r_p2).2
      have := (r_x14).1; have := (r_x14).2
      have := (r_x19).1; have := (r_x19).2
      have := (r_x17).1; have := (r_x17).2
      have := kc_m1000
      have := kc_0
      have := kc_1
      omega
  · skip
    have r_x14 : mh_r x14 (-2147483648) (-1) := mh_lt1 (show x14.toInt < (0 : Int32).toInt from c16) r_x14 rc_0 (-1) (by decide)
    refine mw_aload_n 9 rfl 0 dX10_wrongs_8 rfl rfl ?_
    refine mw_geti 12 rfl dX10_wrongs_9 gf_X10_194 rfl (fun x24 t25 => ?_)
    obtain rfl : x14 = x24 := t15.trans t25.symm
    refine mw_goto 15 rfl 22 dX10_wrongs_12 (by decide) ?_
    refine mw_puti 25 rfl dX10_wrongs_22 pf_X10_194 rfl (fun s26 t27 => ?_)
    have hI_s26 : mh_I B D s26 := by rw [t27]; exact wr_57_25 hI0
    have hF_s26 : mh_F S_X10_wrongs s0 s26 := by rw [t27]; exact mh_F_pI hF0 (mh_sj 0 rfl)
    refine mw_vret dX10_wrongs_25 rfl ⟨rfl, ⟨?_, hI_s26, hF_s26⟩⟩
    · skip
      have t28 : x14 = s26.1 57 25 := by rw [t27]; exact mh_pI_s.symm
      rw [← t28]
      have := (r_p1).1; have := (r_p1).2
      have := (r_p2).1; have := (r_p2).2
      have := (r_x14).1; have := (r_x14).2
      have := kc_m1000
      have := kc_0
      have := kc_1
      omega

def P_X10_isGood (B D : Int) (s0 : mh_H) : Int32 → mh_H → Prop := fun z s => mh_r z (0) (1) ∧ (z.toInt = 1 ↔ (s0.1 57 25).toInt = 0) ∧ s0 = s
set_option maxRecDepth 100000 in
set_option maxHeartbeats 4000000 in
theorem w_X10_isGood (l : Launch) (G : mh_G) (d : Nat) {B D : Int} (hB : B ≤ 2000000000 ∧ D ≤ 2000000000) {s0 : mh_H} (hI0 : mh_I B D s0) : mh_Mi l G (d + 0) mM_X10_isGood [.ref (G.2.2.2 57)] s0 (P_X10_isGood B D s0) := by
  refine mh_enter (lv := [(0, .ref (G.2.2.2 57))]) (by decide) rfl (Nat.le_of_ble_eq_true rfl) ?_
  refine mw_aload_n 1 rfl 0 dX10_isGood_0 rfl rfl ?_
  refine mw_geti 4 rfl dX10_isGood_1 gf_X10_194 rfl (fun x4 t5 => ?_)
  refine mw_if_ne 7 rfl 11 dX10_isGood_4 (by decide) (fun c6 => ?_) (fun c6 => ?_)
  · skip
    refine mw_iconst (v := 0) 12 rfl dX10_isGood_11 (by decide) ?_
    refine mw_zret dX10_isGood_12 rfl (mh_r_wk rc_0 (by decide)) ⟨(0), rfl, ⟨(mh_r_wk rc_0 (by decide)), ?_, rfl⟩⟩
    · skip
      rw [← t5]
      have := (rc_0).1; have := (rc_0).2
      have := kc_0
      have := kc_1
      omega
  · skip
    have r_x4 : mh_r x4 (0) (0) := mh_eq1 (show x4.toInt = (0 : Int32).toInt from c6) (mh_r_full x4) rc_0 (0) (0) (by decide)
    refine mw_iconst (v := 1) 8 rfl dX10_isGood_7 (by decide) ?_
    refine mw_goto 11 rfl 12 dX10_isGood_8 (by decide) ?_
    refine mw_zret dX10_isGood_12 rfl (mh_r_wk rc_1 (by decide)) ⟨(1), rfl, ⟨(mh_r_wk rc_1 (by decide)), ?_, rfl⟩⟩
    · skip
      rw [← t5]
      have := (rc_1).1; have := (rc_1).2
      have := (r_x4).1; have := (r_x4).2
      have := kc_0
      have := kc_1
      omega

def S_X10_emit : List (Nat × Nat) := [(74, 9999), (75, 9999), (57, 27)]
def P_X10_emit (B D : Int) (s0 : mh_H) (p1 : Int32) (p2 : Int32) : mh_H → Prop := fun s => (((s0.1 57 25).toInt = 0 → s.1 74 = mh_u1 (s0.1 74) (s0.1 57 27).toInt.toNat p1 ∧ (s.1 57 27).toInt = (s0.1 57 27).toInt + 1) ∧ ((s0.1 57 25).toInt ≠ 0 → s.1 74 = s0.1 74 ∧ s.1 57 27 = s0.1 57 27)) ∧ mh_I B D s ∧ mh_F S_X10_emit s0 s
set_option maxRecDepth 100000 in
set_option maxHeartbeats 4000000 in
theorem w_X10_emit (l : Launch) (G : mh_G) (d : Nat) {B D : Int} (hB : B ≤ 1980000000 ∧ D ≤ 1980000000) {s0 : mh_H} (hI0 : mh_I B D s0) (p1 : Int32) (p2 : Int32) (he : (s0.1 57 25).toInt = 0 → 0 ≤ (s0.1 57 27).toInt ∧ (s0.1 57 27).toInt ≤ 199) : mh_Mv l G (d + 1) mM_X10_emit [.ref (G.2.2.2 57), .int p1, .int p2] s0 (P_X10_emit B D s0 p1 p2) := by
  refine mh_enter (lv := [(0, .ref (G.2.2.2 57)), (1, .int p1), (2, .int p2)]) (by decide) rfl (Nat.le_of_ble_eq_true rfl) ?_
  have hF0 : mh_F S_X10_emit s0 s0 := mh_F_rf
  refine mw_aload_n 1 rfl 0 dX10_emit_0 rfl rfl ?_
  refine mw_callVi [] [] 4 rfl dX10_emit_1 ml_X10_197 mc_X10_isGood mk_X10_isGood rfl rfl (by decide) (w_X10_isGood l G (d + 0) ⟨by omega, by omega⟩ hI0) rfl rfl (Nat.le_of_ble_eq_true rfl) (mh_rok (by omega) (by decide)) (fun x21 s22 q23 => ?_)
  obtain ⟨r_x21, e0_s22, rfl⟩ := q23
  obtain ⟨x24, t25⟩ : ∃ z : Int32, z = s0.1 57 25 := ⟨_, rfl⟩
  rw [← t25] at e0_s22
  refine mw_if_ne 7 rfl 8 dX10_emit_4 (by decide) (fun c26 => ?_) (fun c26 => ?_)
  · skip
    have r_x24 : mh_r x24 (0) (0) := ⟨by have := e0_s22.1 (mh_z1 r_x21 c26); omega, by have := e0_s22.1 (mh_z1 r_x21 c26); omega⟩
    have r_x21 : mh_r x21 (1) (1) := mh_ne1 (show x21.toInt ≠ (0 : Int32).toInt from c26) r_x21 rc_0 (1) (1) (by decide)
    refine mw_aload_n 9 rfl 0 dX10_emit_8 rfl rfl ?_
    refine mw_geta 12 rfl dX10_emit_9 gf_X10_63 rfl 74 (mh_rf hI0 71 rfl) ?_
    refine mw_aload_n 13 rfl 0 dX10_emit_12 rfl rfl ?_
    refine mw_geti 16 rfl dX10_emit_13 gf_X10_201 rfl (fun x27 t28 => ?_)
    have r_x27 : mh_r x27 (0) (199) := ⟨by have h9 := he (by rw [← t25]; have := (r_x24).1; have := (r_x24).2; have := kc_0; have := kc_1; omega); rw [← t28] at h9; exact h9.1, by have h9 := he (by rw [← t25]; have := (r_x24).1; have := (r_x24).2; have := kc_0; have := kc_1; omega); rw [← t28] at h9; exact h9.2⟩
    refine mw_iload_n 17 rfl 1 dX10_emit_16 rfl rfl ?_
    refine mw_iast 18 rfl dX10_emit_17 rfl r_x27 (by decide) (fun s29 t30 => ?_)
    have hI_s29 : mh_I B D s29 := by rw [t30]; exact wr_74 hI0
    have hF_s29 : mh_F S_X10_emit s0 s29 := by rw [t30]; exact mh_F_pI hF0 (mh_si 0 rfl)
    refine mw_aload_n 19 rfl 0 dX10_emit_18 rfl rfl ?_
    refine mw_geta 22 rfl dX10_emit_19 gf_X10_66 rfl 75 (mh_rf hI_s29 72 rfl) ?_
    refine mw_aload_n 23 rfl 0 dX10_emit_22 rfl rfl ?_
    refine mw_geti 26 rfl dX10_emit_23 gf_X10_201 rfl (fun x31 t32 => ?_)
    have t33 : x27 = s29.1 57 27 := by rw [t30]; exact (t28).trans (mh_pI_n (by omega)).symm
    obtain rfl : x27 = x31 := t33.trans t32.symm
    refine mw_iload_n 27 rfl 2 dX10_emit_26 rfl rfl ?_
    refine mw_iast 28 rfl dX10_emit_27 rfl r_x27 (by decide) (fun s34 t35 => ?_)
    have hI_s34 : mh_I B D s34 := by rw [t35]; exact wr_75 hI_s29
    have hF_s34 : mh_F S_X10_emit s0 s34 := by rw [t35]; exact mh_F_pI hF_s29 (mh_si 1 rfl)
    refine mw_aload_n 29 rfl 0 dX10_emit_28 rfl rfl ?_
    refine mw_dup 30 rfl dX10_emit_29 rfl ?_
    refine mw_geti 33 rfl dX10_emit_30 gf_X10_201 rfl (fun x36 t37 => ?_)
    have t38 : x27 = s34.1 57 27 := by rw [t35]; exact (t33).trans (mh_pI_n (by omega)).symm
    obtain rfl : x27 = x36 := t38.trans t37.symm
    refine mw_iconst (v := 1) 34 rfl dX10_emit_33 (by decide) ?_
    refine mw_iadd 35 rfl (1) (200) dX10_emit_34 r_x27 rc_1 (by decide) (fun x39 t40 r_x39 => ?_)
    refine mw_puti 38 rfl dX10_emit_35 pf_X10_201 rfl (fun s41 t42 => ?_)
    have hI_s41 : mh_I B D s41 := by rw [t42]; exact wr_57_27 hI_s34
    have hF_s41 : mh_F S_X10_emit s0 s41 := by rw [t42]; exact mh_F_pI hF_s34 (mh_sj 2 rfl)
    refine mw_vret dX10_emit_38 rfl ⟨rfl, ⟨?_, hI_s41, hF_s41⟩⟩
    · skip
      have t43 : x39 = s41.1 57 27 := by rw [t42]; exact mh_pI_s.symm
      rw [← t25, ← t28, ← t43]
      have e9 : s41.1 74 = (mh_u1 (s0.1 74) x27.toNatClampNeg p1) := by rw [t42, mh_row_n (by decide), t35, mh_row_n (by decide), t30, mh_row_s]
      have := (r_x24).1; have := (r_x24).2
      have := (r_x27).1; have := (r_x27).2
      have := (r_x39).1; have := (r_x39).2
      have := (rc_1).1; have := (rc_1).2
      have := kc_0
      have := kc_1
      exact ⟨fun _ => ⟨e9, by omega⟩, fun h => absurd (by omega) h⟩
  · skip
    have r_x21 : mh_r x21 (0) (0) := mh_eq1 (show x21.toInt = (0 : Int32).toInt from c26) r_x21 rc_0 (0) (0) (by decide)
    refine mw_vret dX10_emit_7 rfl ⟨rfl, ⟨?_, hI0, hF0⟩⟩
    · skip
      rw [← t25]
      have := kc_0
      have := kc_1
      exact ⟨fun h => absurd h (by omega), fun _ => ⟨rfl, rfl⟩⟩

def P_X10_top (B D : Int) (s0 : mh_H) : Int32 → mh_H → Prop := fun z s => mh_r z (-2147483648) (2147483647) ∧ (z = mh_tp s0) ∧ s0 = s
set_option maxRecDepth 100000 in
set_option maxHeartbeats 4000000 in
theorem w_X10_top (l : Launch) (G : mh_G) (d : Nat) {B D : Int} (hB : B ≤ 2000000000 ∧ D ≤ 2000000000) {s0 : mh_H} (hI0 : mh_I B D s0) (ht : (s0.1 57 29).toInt ≤ 240) : mh_Mi l G (d + 0) mM_X10_top [.ref (G.2.2.2 57)] s0 (P_X10_top B D s0) := by
  refine mh_enter (lv := [(0, .ref (G.2.2.2 57))]) (by decide) rfl (Nat.le_of_ble_eq_true rfl) ?_
  refine mw_aload_n 1 rfl 0 dX10_top_0 rfl rfl ?_
  refine mw_geti 4 rfl dX10_top_1 gf_X10_204 rfl (fun x10 t11 => ?_)
  have r_x10 : mh_r x10 (-2147483648) (240) := ⟨((mh_r_full x10)).1, by rw [t11]; exact ht⟩
  refine mw_if_le 7 rfl 21 dX10_top_4 (by decide) (fun c12 => ?_) (fun c12 => ?_)
  · skip
    have r_x10 : mh_r x10 (-2147483648) (0) := mh_le1 (show x10.toInt ≤ (0 : Int32).toInt from c12) r_x10 rc_0 (0) (by decide)
    refine mw_iconst (v := 0) 22 rfl dX10_top_21 (by decide) ?_
    refine mw_iret dX10_top_22 rfl ⟨(0), rfl, ⟨(mh_r_wk rc_0 (by decide)), ?_, rfl⟩⟩
    · skip
      have := (rc_0).1; have := (rc_0).2
      have := (r_x10).1; have := (r_x10).2
      have := kc_0
      have := kc_1
      unfold mh_tp
      rw [← t11]
      rw [if_neg (by omega)]
  · skip
    have r_x10 : mh_r x10 (1) (240) := mh_lt2 (show (0 : Int32).toInt < x10.toInt from c12) rc_0 r_x10 (1) (by decide)
    refine mw_aload_n 8 rfl 0 dX10_top_7 rfl rfl ?_
    refine mw_geta 11 rfl dX10_top_8 gf_X10_69 rfl 76 (mh_rf hI0 73 rfl) ?_
    refine mw_aload_n 12 rfl 0 dX10_top_11 rfl rfl ?_
    refine mw_geti 15 rfl dX10_top_12 gf_X10_204 rfl (fun x13 t14 => ?_)
    obtain rfl : x10 = x13 := t11.trans t14.symm
    refine mw_iconst (v := 1) 16 rfl dX10_top_15 (by decide) ?_
    refine mw_isub 17 rfl (0) (239) dX10_top_16 r_x10 rc_1 (by decide) (fun x15 t16 r_x15 => ?_)
    refine mw_iald 18 rfl dX10_top_17 rfl r_x15 (by decide) (fun x17 t18 => ?_)
    refine mw_goto 21 rfl 22 dX10_top_18 (by decide) ?_
    refine mw_iret dX10_top_22 rfl ⟨x17, rfl, ⟨(mh_r_full x17), ?_, rfl⟩⟩
    · skip
      have := (r_x10).1; have := (r_x10).2
      have := kc_0
      have := kc_1
      unfold mh_tp
      rw [← t11]
      have h8 : x15.toNatClampNeg = x10.toInt.toNat - 1 := by show x15.toInt.toNat = x10.toInt.toNat - 1; omega
      rw [if_pos (by omega), ← h8]
      exact t18

def S_X10_puts : List (Nat × Nat) := [(76, 9999), (57, 29), (57, 23)]
def P_X10_puts (B D : Int) (s0 : mh_H) (p1 : Int32) : mh_H → Prop := fun s => (s.1 76 = mh_u1 (s0.1 76) (s0.1 57 29).toInt.toNat p1 ∧ (s.1 57 29).toInt = (s0.1 57 29).toInt + 1 ∧ (s.1 57 23).toInt = (s0.1 57 23).toInt + 1) ∧ mh_I B D s ∧ mh_F S_X10_puts s0 s
set_option maxRecDepth 100000 in
set_option maxHeartbeats 4000000 in
theorem w_X10_puts (l : Launch) (G : mh_G) (d : Nat) {B D : Int} (hB : B ≤ 2000000000 ∧ D ≤ 2000000000) {s0 : mh_H} (hI0 : mh_I B D s0) (p1 : Int32) (hp : 0 ≤ (s0.1 57 29).toInt ∧ (s0.1 57 29).toInt ≤ 239 ∧ 0 ≤ (s0.1 57 23).toInt ∧ (s0.1 57 23).toInt ≤ 1000) : mh_Mv l G (d + 0) mM_X10_puts [.ref (G.2.2.2 57), .int p1] s0 (P_X10_puts B D s0 p1) := by
  refine mh_enter (lv := [(0, .ref (G.2.2.2 57)), (1, .int p1)]) (by decide) rfl (Nat.le_of_ble_eq_true rfl) ?_
  have hF0 : mh_F S_X10_puts s0 s0 := mh_F_rf
  refine mw_aload_n 1 rfl 0 dX10_puts_0 rfl rfl ?_
  refine mw_geta 4 rfl dX10_puts_1 gf_X10_69 rfl 76 (mh_rf hI0 73 rfl) ?_
  refine mw_aload_n 5 rfl 0 dX10_puts_4 rfl rfl ?_
  refine mw_geti 8 rfl dX10_puts_5 gf_X10_204 rfl (fun x17 t18 => ?_)
  have r_x17 : mh_r x17 (0) (239) := ⟨by rw [t18]; exact hp.1, by rw [t18]; exact hp.2.1⟩
  refine mw_iload_n 9 rfl 1 dX10_puts_8 rfl rfl ?_
  refine mw_iast 10 rfl dX10_puts_9 rfl r_x17 (by decide) (fun s19 t20 => ?_)
  have hI_s19 : mh_I B D s19 := by rw [t20]; exact wr_76 hI0
  have hF_s19 : mh_F S_X10_puts s0 s19 := by rw [t20]; exact mh_F_pI hF0 (mh_si 0 rfl)
  refine mw_aload_n 11 rfl 0 dX10_puts_10 rfl rfl ?_
  refine mw_dup 12 rfl dX10_puts_11 rfl ?_
  refine mw_geti 15 rfl dX10_puts_12 gf_X10_204 rfl (fun x21 t22 => ?_)
  have t23 : x17 = s19.1 57 29 := by rw [t20]; exact (t18).trans (mh_pI_n (by omega)).symm
  obtain rfl : x17 = x21 := t23.trans t22.symm
  refine mw_iconst (v := 1) 16 rfl dX10_puts_15 (by decide) ?_
  refine mw_iadd 17 rfl (1) (240) dX10_puts_16 r_x17 rc_1 (by decide) (fun x24 t25 r_x24 => ?_)
  refine mw_puti 20 rfl dX10_puts_17 pf_X10_204 rfl (fun s26 t27 => ?_)
  have hI_s26 : mh_I B D s26 := by rw [t27]; exact wr_57_29 hI_s19
  have hF_s26 : mh_F S_X10_puts s0 s26 := by rw [t27]; exact mh_F_pI hF_s19 (mh_sj 1 rfl)
  refine mw_aload_n 21 rfl 0 dX10_puts_20 rfl rfl ?_
  refine mw_dup 22 rfl dX10_puts_21 rfl ?_
  refine mw_geti 25 rfl dX10_puts_22 gf_X10_188 rfl (fun x28 t29 => ?_)
  have r_x28 : mh_r x28 (0) (1000) := by rw [show x28 = s0.1 57 23 from (by rw [t29, t27, mh_pI_n (by omega), t20, mh_pI_n (by omega)])]; exact hp.2.2
  refine mw_iconst (v := 1) 26 rfl dX10_puts_25 (by decide) ?_
  refine mw_iadd 27 rfl (1) (1001) dX10_puts_26 r_x28 rc_1 (by decide) (fun x30 t31 r_x30 => ?_)
  refine mw_puti 30 rfl dX10_puts_27 pf_X10_188 rfl (fun s32 t33 => ?_)
  have hI_s32 : mh_I B D s32 := by rw [t33]; exact wr_57_23 hI_s26
  have hF_s32 : mh_F S_X10_puts s0 s32 := by rw [t33]; exact mh_F_pI hF_s26 (mh_sj 2 rfl)
  refine mw_vret dX10_puts_30 rfl ⟨rfl, ⟨?_, hI_s32, hF_s32⟩⟩
  · skip
    have t34 : x24 = s26.1 57 29 := by rw [t27]; exact mh_pI_s.symm
    have t35 : x24 = s32.1 57 29 := by rw [t33]; exact (t34).trans (mh_pI_n (by omega)).symm
    have t36 : x30 = s32.1 57 23 := by rw [t33]; exact mh_pI_s.symm
    have e9 : s32.1 76 = (mh_u1 (s0.1 76) x17.toNatClampNeg p1) := by rw [t33, mh_row_n (by decide), t27, mh_row_n (by decide), t20, mh_row_s]
    have e8 : x28 = s0.1 57 23 := (by rw [t29, t27, mh_pI_n (by omega), t20, mh_pI_n (by omega)])
    rw [← t18, ← t35, ← t36, ← e8]
    have := (r_x17).1; have := (r_x17).2
    have := (r_x28).1; have := (r_x28).2
    have := (r_x24).1; have := (r_x24).2
    have := (r_x30).1; have := (r_x30).2
    have := (rc_1).1; have := (rc_1).2
    have := kc_0
    have := kc_1
    exact ⟨e9, by omega, by omega⟩

def P_X10_isTimes (B D : Int) (s0 : mh_H) (p0 : Int32) : Int32 → mh_H → Prop := fun z s => mh_r z (0) (1) ∧ (z.toInt = 1 ↔ (p0.toInt = 42 ∨ p0.toInt = 47 ∨ p0.toInt = 37)) ∧ s0 = s
set_option maxRecDepth 100000 in
set_option maxHeartbeats 4000000 in
theorem w_X10_isTimes (l : Launch) (G : mh_G) (d : Nat) {B D : Int} (hB : B ≤ 2000000000 ∧ D ≤ 2000000000) {s0 : mh_H} (hI0 : mh_I B D s0) (p0 : Int32) : mh_Mi l G (d + 0) mM_X10_isTimes [.int p0] s0 (P_X10_isTimes B D s0 p0) := by
  refine mh_enter (lv := [(0, .int p0)]) (by decide) rfl (Nat.le_of_ble_eq_true rfl) ?_
  refine mw_iload_n 1 rfl 0 dX10_isTimes_0 rfl rfl ?_
  refine mw_bipush (v := 42) 3 rfl dX10_isTimes_1 (by decide) ?_
  refine mw_icmp_eq 6 rfl 18 dX10_isTimes_3 (by decide) (fun c4 => ?_) (fun c4 => ?_)
  · skip
    have r_p0 : mh_r p0 (42) (42) := mh_eq1 c4 (mh_r_full p0) rc_42 (42) (42) (by decide)
    refine mw_iconst (v := 1) 19 rfl dX10_isTimes_18 (by decide) ?_
    refine mw_goto 22 rfl 23 dX10_isTimes_19 (by decide) ?_
    refine mw_zret dX10_isTimes_23 rfl (mh_r_wk rc_1 (by decide)) ⟨(1), rfl, ⟨(mh_r_wk rc_1 (by decide)), ?_, rfl⟩⟩
    · skip
      have := (r_p0).1; have := (r_p0).2
      have := (rc_1).1; have := (rc_1).2
      have := kc_0
      have := kc_1
      have := kc_37
      have := kc_42
      have := kc_47
      omega
  · skip
    refine mw_iload_n 7 rfl 0 dX10_isTimes_6 rfl rfl ?_
    refine mw_bipush (v := 47) 9 rfl dX10_isTimes_7 (by decide) ?_
    refine mw_icmp_eq 12 rfl 18 dX10_isTimes_9 (by decide) (fun c5 => ?_) (fun c5 => ?_)
    · skip
      have r_p0 : mh_r p0 (47) (47) := mh_eq1 c5 (mh_r_full p0) rc_47 (47) (47) (by decide)
      refine mw_iconst (v := 1) 19 rfl dX10_isTimes_18 (by decide) ?_
      refine mw_goto 22 rfl 23 dX10_isTimes_19 (by decide) ?_
      refine mw_zret dX10_isTimes_23 rfl (mh_r_wk rc_1 (by decide)) ⟨(1), rfl, ⟨(mh_r_wk rc_1 (by decide)), ?_, rfl⟩⟩
      · skip
        have := (r_p0).1; have := (r_p0).2
        have := (rc_1).1; have := (rc_1).2
        have := kc_0
        have := kc_1
        have := kc_37
        have := kc_42
        have := kc_47
        omega
    · skip
      refine mw_iload_n 13 rfl 0 dX10_isTimes_12 rfl rfl ?_
      refine mw_bipush (v := 37) 15 rfl dX10_isTimes_13 (by decide) ?_
      refine mw_icmp_ne 18 rfl 22 dX10_isTimes_15 (by decide) (fun c6 => ?_) (fun c6 => ?_)
      · skip
        refine mw_iconst (v := 0) 23 rfl dX10_isTimes_22 (by decide) ?_
        refine mw_zret dX10_isTimes_23 rfl (mh_r_wk rc_0 (by decide)) ⟨(0), rfl, ⟨(mh_r_wk rc_0 (by decide)), ?_, rfl⟩⟩
        · skip
          have := (rc_0).1; have := (rc_0).2
          have := kc_0
          have := kc_1
          have := kc_37
          have := kc_42
          have := kc_47
          omega
      · skip
        have r_p0 : mh_r p0 (37) (37) := mh_eq1 c6 (mh_r_full p0) rc_37 (37) (37) (by decide)
        refine mw_iconst (v := 1) 19 rfl dX10_isTimes_18 (by decide) ?_
        refine mw_goto 22 rfl 23 dX10_isTimes_19 (by decide) ?_
        refine mw_zret dX10_isTimes_23 rfl (mh_r_wk rc_1 (by decide)) ⟨(1), rfl, ⟨(mh_r_wk rc_1 (by decide)), ?_, rfl⟩⟩
        · skip
          have := (r_p0).1; have := (r_p0).2
          have := (rc_1).1; have := (rc_1).2
          have := kc_0
          have := kc_1
          have := kc_37
          have := kc_42
          have := kc_47
          omega

def P_X10_isPlus (B D : Int) (s0 : mh_H) (p0 : Int32) : Int32 → mh_H → Prop := fun z s => mh_r z (0) (1) ∧ (z.toInt = 1 ↔ (p0.toInt = 43 ∨ p0.toInt = 45)) ∧ s0 = s
set_option maxRecDepth 100000 in
set_option maxHeartbeats 4000000 in
theorem w_X10_isPlus (l : Launch) (G : mh_G) (d : Nat) {B D : Int} (hB : B ≤ 2000000000 ∧ D ≤ 2000000000) {s0 : mh_H} (hI0 : mh_I B D s0) (p0 : Int32) : mh_Mi l G (d + 0) mM_X10_isPlus [.int p0] s0 (P_X10_isPlus B D s0 p0) := by
  refine mh_enter (lv := [(0, .int p0)]) (by decide) rfl (Nat.le_of_ble_eq_true rfl) ?_
  refine mw_iload_n 1 rfl 0 dX10_isPlus_0 rfl rfl ?_
  refine mw_bipush (v := 43) 3 rfl dX10_isPlus_1 (by decide) ?_
  refine mw_icmp_eq 6 rfl 12 dX10_isPlus_3 (by decide) (fun c3 => ?_) (fun c3 => ?_)
  · skip
    have r_p0 : mh_r p0 (43) (43) := mh_eq1 c3 (mh_r_full p0) rc_43 (43) (43) (by decide)
    refine mw_iconst (v := 1) 13 rfl dX10_isPlus_12 (by decide) ?_
    refine mw_goto 16 rfl 17 dX10_isPlus_13 (by decide) ?_
    refine mw_zret dX10_isPlus_17 rfl (mh_r_wk rc_1 (by decide)) ⟨(1), rfl, ⟨(mh_r_wk rc_1 (by decide)), ?_, rfl⟩⟩
    · skip
      have := (r_p0).1; have := (r_p0).2
      have := (rc_1).1; have := (rc_1).2
      have := kc_0
      have := kc_1
      have := kc_43
      have := kc_45
      omega
  · skip
    refine mw_iload_n 7 rfl 0 dX10_isPlus_6 rfl rfl ?_
    refine mw_bipush (v := 45) 9 rfl dX10_isPlus_7 (by decide) ?_
    refine mw_icmp_ne 12 rfl 16 dX10_isPlus_9 (by decide) (fun c4 => ?_) (fun c4 => ?_)
    · skip
      refine mw_iconst (v := 0) 17 rfl dX10_isPlus_16 (by decide) ?_
      refine mw_zret dX10_isPlus_17 rfl (mh_r_wk rc_0 (by decide)) ⟨(0), rfl, ⟨(mh_r_wk rc_0 (by decide)), ?_, rfl⟩⟩
      · skip
        have := (rc_0).1; have := (rc_0).2
        have := kc_0
        have := kc_1
        have := kc_43
        have := kc_45
        omega
    · skip
      have r_p0 : mh_r p0 (45) (45) := mh_eq1 c4 (mh_r_full p0) rc_45 (45) (45) (by decide)
      refine mw_iconst (v := 1) 13 rfl dX10_isPlus_12 (by decide) ?_
      refine mw_goto 16 rfl 17 dX10_isPlus_13 (by decide) ?_
      refine mw_zret dX10_isPlus_17 rfl (mh_r_wk rc_1 (by decide)) ⟨(1), rfl, ⟨(mh_r_wk rc_1 (by decide)), ?_, rfl⟩⟩
      · skip
        have := (r_p0).1; have := (r_p0).2
        have := (rc_1).1; have := (rc_1).2
        have := kc_0
        have := kc_1
        have := kc_43
        have := kc_45
        omega

def P_X10_isSign (B D : Int) (s0 : mh_H) (p0 : Int32) : Int32 → mh_H → Prop := fun z s => mh_r z (0) (1) ∧ (z.toInt = 1 ↔ (p0.toInt = 60 ∨ p0.toInt = 62 ∨ p0.toInt = 61)) ∧ s0 = s
set_option maxRecDepth 100000 in
set_option maxHeartbeats 4000000 in
theorem w_X10_isSign (l : Launch) (G : mh_G) (d : Nat) {B D : Int} (hB : B ≤ 2000000000 ∧ D ≤ 2000000000) {s0 : mh_H} (hI0 : mh_I B D s0) (p0 : Int32) : mh_Mi l G (d + 0) mM_X10_isSign [.int p0] s0 (P_X10_isSign B D s0 p0) := by
  refine mh_enter (lv := [(0, .int p0)]) (by decide) rfl (Nat.le_of_ble_eq_true rfl) ?_
  refine mw_iload_n 1 rfl 0 dX10_isSign_0 rfl rfl ?_
  refine mw_bipush (v := 60) 3 rfl dX10_isSign_1 (by decide) ?_
  refine mw_icmp_eq 6 rfl 18 dX10_isSign_3 (by decide) (fun c4 => ?_) (fun c4 => ?_)
  · skip
    have r_p0 : mh_r p0 (60) (60) := mh_eq1 c4 (mh_r_full p0) rc_60 (60) (60) (by decide)
    refine mw_iconst (v := 1) 19 rfl dX10_isSign_18 (by decide) ?_
    refine mw_goto 22 rfl 23 dX10_isSign_19 (by decide) ?_
    refine mw_zret dX10_isSign_23 rfl (mh_r_wk rc_1 (by decide)) ⟨(1), rfl, ⟨(mh_r_wk rc_1 (by decide)), ?_, rfl⟩⟩
    · skip
      have := (r_p0).1; have := (r_p0).2
      have := (rc_1).1; have := (rc_1).2
      have := kc_0
      have := kc_1
      have := kc_60
      have := kc_61
      have := kc_62
      omega
  · skip
    refine mw_iload_n 7 rfl 0 dX10_isSign_6 rfl rfl ?_
    refine mw_bipush (v := 62) 9 rfl dX10_isSign_7 (by decide) ?_
    refine mw_icmp_eq 12 rfl 18 dX10_isSign_9 (by decide) (fun c5 => ?_) (fun c5 => ?_)
    · skip
      have r_p0 : mh_r p0 (62) (62) := mh_eq1 c5 (mh_r_full p0) rc_62 (62) (62) (by decide)
      refine mw_iconst (v := 1) 19 rfl dX10_isSign_18 (by decide) ?_
      refine mw_goto 22 rfl 23 dX10_isSign_19 (by decide) ?_
      refine mw_zret dX10_isSign_23 rfl (mh_r_wk rc_1 (by decide)) ⟨(1), rfl, ⟨(mh_r_wk rc_1 (by decide)), ?_, rfl⟩⟩
      · skip
        have := (r_p0).1; have := (r_p0).2
        have := (rc_1).1; have := (rc_1).2
        have := kc_0
        have := kc_1
        have := kc_60
        have := kc_61
        have := kc_62
        omega
    · skip
      refine mw_iload_n 13 rfl 0 dX10_isSign_12 rfl rfl ?_
      refine mw_bipush (v := 61) 15 rfl dX10_isSign_13 (by decide) ?_
      refine mw_icmp_ne 18 rfl 22 dX10_isSign_15 (by decide) (fun c6 => ?_) (fun c6 => ?_)
      · skip
        refine mw_iconst (v := 0) 23 rfl dX10_isSign_22 (by decide) ?_
        refine mw_zret dX10_isSign_23 rfl (mh_r_wk rc_0 (by decide)) ⟨(0), rfl, ⟨(mh_r_wk rc_0 (by decide)), ?_, rfl⟩⟩
        · skip
          have := (rc_0).1; have := (rc_0).2
          have := kc_0
          have := kc_1
          have := kc_60
          have := kc_61
          have := kc_62
          omega
      · skip
        have r_p0 : mh_r p0 (61) (61) := mh_eq1 c6 (mh_r_full p0) rc_61 (61) (61) (by decide)
        refine mw_iconst (v := 1) 19 rfl dX10_isSign_18 (by decide) ?_
        refine mw_goto 22 rfl 23 dX10_isSign_19 (by decide) ?_
        refine mw_zret dX10_isSign_23 rfl (mh_r_wk rc_1 (by decide)) ⟨(1), rfl, ⟨(mh_r_wk rc_1 (by decide)), ?_, rfl⟩⟩
        · skip
          have := (r_p0).1; have := (r_p0).2
          have := (rc_1).1; have := (rc_1).2
          have := kc_0
          have := kc_1
          have := kc_60
          have := kc_61
          have := kc_62
          omega

def P_X10_isValue (B D : Int) (s0 : mh_H) (p0 : Int32) : Int32 → mh_H → Prop := fun z s => mh_r z (0) (1) ∧ (z.toInt = 1 → p0.toInt ≠ 0) ∧ s0 = s
set_option maxRecDepth 100000 in
set_option maxHeartbeats 4000000 in
theorem w_X10_isValue (l : Launch) (G : mh_G) (d : Nat) {B D : Int} (hB : B ≤ 2000000000 ∧ D ≤ 2000000000) {s0 : mh_H} (hI0 : mh_I B D s0) (p0 : Int32) : mh_Mi l G (d + 0) mM_X10_isValue [.int p0] s0 (P_X10_isValue B D s0 p0) := by
  refine mh_enter (lv := [(0, .int p0)]) (by decide) rfl (Nat.le_of_ble_eq_true rfl) ?_
  refine mw_iload_n 1 rfl 0 dX10_isValue_0 rfl rfl ?_
  refine mw_bipush (v := 104) 3 rfl dX10_isValue_1 (by decide) ?_
  refine mw_icmp_eq 6 rfl 78 dX10_isValue_3 (by decide) (fun c14 => ?_) (fun c14 => ?_)
  · skip
    have r_p0 : mh_r p0 (104) (104) := mh_eq1 c14 (mh_r_full p0) rc_104 (104) (104) (by decide)
    refine mw_iconst (v := 1) 79 rfl dX10_isValue_78 (by decide) ?_
    refine mw_goto 82 rfl 83 dX10_isValue_79 (by decide) ?_
    refine mw_zret dX10_isValue_83 rfl (mh_r_wk rc_1 (by decide)) ⟨(1), rfl, ⟨(mh_r_wk rc_1 (by decide)), ?_, rfl⟩⟩
    · skip
      have := (r_p0).1; have := (r_p0).2
      have := (rc_1).1; have := (rc_1).2
      have := kc_0
      have := kc_1
      have := kc_99
      have := kc_100
      have := kc_104
      have := kc_105
      have := kc_106
      have := kc_107
      have := kc_108
      have := kc_110
      have := kc_116
      have := kc_118
      have := kc_119
      have := kc_120
      have := kc_121
      omega
  · skip
    refine mw_iload_n 7 rfl 0 dX10_isValue_6 rfl rfl ?_
    refine mw_bipush (v := 107) 9 rfl dX10_isValue_7 (by decide) ?_
    refine mw_icmp_eq 12 rfl 78 dX10_isValue_9 (by decide) (fun c15 => ?_) (fun c15 => ?_)
    · skip
      have r_p0 : mh_r p0 (107) (107) := mh_eq1 c15 (mh_r_full p0) rc_107 (107) (107) (by decide)
      refine mw_iconst (v := 1) 79 rfl dX10_isValue_78 (by decide) ?_
      refine mw_goto 82 rfl 83 dX10_isValue_79 (by decide) ?_
      refine mw_zret dX10_isValue_83 rfl (mh_r_wk rc_1 (by decide)) ⟨(1), rfl, ⟨(mh_r_wk rc_1 (by decide)), ?_, rfl⟩⟩
      · skip
        have := (r_p0).1; have := (r_p0).2
        have := (rc_1).1; have := (rc_1).2
        have := kc_0
        have := kc_1
        have := kc_99
        have := kc_100
        have := kc_104
        have := kc_105
        have := kc_106
        have := kc_107
        have := kc_108
        have := kc_110
        have := kc_116
        have := kc_118
        have := kc_119
        have := kc_120
        have := kc_121
        omega
    · skip
      refine mw_iload_n 13 rfl 0 dX10_isValue_12 rfl rfl ?_
      refine mw_bipush (v := 116) 15 rfl dX10_isValue_13 (by decide) ?_
      refine mw_icmp_eq 18 rfl 78 dX10_isValue_15 (by decide) (fun c16 => ?_) (fun c16 => ?_)
      · skip
        have r_p0 : mh_r p0 (116) (116) := mh_eq1 c16 (mh_r_full p0) rc_116 (116) (116) (by decide)
        refine mw_iconst (v := 1) 79 rfl dX10_isValue_78 (by decide) ?_
        refine mw_goto 82 rfl 83 dX10_isValue_79 (by decide) ?_
        refine mw_zret dX10_isValue_83 rfl (mh_r_wk rc_1 (by decide)) ⟨(1), rfl, ⟨(mh_r_wk rc_1 (by decide)), ?_, rfl⟩⟩
        · skip
          have := (r_p0).1; have := (r_p0).2
          have := (rc_1).1; have := (rc_1).2
          have := kc_0
          have := kc_1
          have := kc_99
          have := kc_100
          have := kc_104
          have := kc_105
          have := kc_106
          have := kc_107
          have := kc_108
          have := kc_110
          have := kc_116
          have := kc_118
          have := kc_119
          have := kc_120
          have := kc_121
          omega
      · skip
        refine mw_iload_n 19 rfl 0 dX10_isValue_18 rfl rfl ?_
        refine mw_bipush (v := 118) 21 rfl dX10_isValue_19 (by decide) ?_
        refine mw_icmp_eq 24 rfl 78 dX10_isValue_21 (by decide) (fun c17 => ?_) (fun c17 => ?_)
        · skip
          have r_p0 : mh_r p0 (118) (118) := mh_eq1 c17 (mh_r_full p0) rc_118 (118) (118) (by decide)
          refine mw_iconst (v := 1) 79 rfl dX10_isValue_78 (by decide) ?_
          refine mw_goto 82 rfl 83 dX10_isValue_79 (by decide) ?_
          refine mw_zret dX10_isValue_83 rfl (mh_r_wk rc_1 (by decide)) ⟨(1), rfl, ⟨(mh_r_wk rc_1 (by decide)), ?_, rfl⟩⟩
          · skip
            have := (r_p0).1; have := (r_p0).2
            have := (rc_1).1; have := (rc_1).2
            have := kc_0
            have := kc_1
            have := kc_99
            have := kc_100
            have := kc_104
            have := kc_105
            have := kc_106
            have := kc_107
            have := kc_108
            have := kc_110
            have := kc_116
            have := kc_118
            have := kc_119
            have := kc_120
            have := kc_121
            omega
        · skip
          refine mw_iload_n 25 rfl 0 dX10_isValue_24 rfl rfl ?_
          refine mw_bipush (v := 99) 27 rfl dX10_isValue_25 (by decide) ?_
          refine mw_icmp_eq 30 rfl 78 dX10_isValue_27 (by decide) (fun c18 => ?_) (fun c18 => ?_)
          · skip
            have r_p0 : mh_r p0 (99) (99) := mh_eq1 c18 (mh_r_full p0) rc_99 (99) (99) (by decide)
            refine mw_iconst (v := 1) 79 rfl dX10_isValue_78 (by decide) ?_
            refine mw_goto 82 rfl 83 dX10_isValue_79 (by decide) ?_
            refine mw_zret dX10_isValue_83 rfl (mh_r_wk rc_1 (by decide)) ⟨(1), rfl, ⟨(mh_r_wk rc_1 (by decide)), ?_, rfl⟩⟩
            · skip
              have := (r_p0).1; have := (r_p0).2
              have := (rc_1).1; have := (rc_1).2
              have := kc_0
              have := kc_1
              have := kc_99
              have := kc_100
              have := kc_104
              have := kc_105
              have := kc_106
              have := kc_107
              have := kc_108
              have := kc_110
              have := kc_116
              have := kc_118
              have := kc_119
              have := kc_120
              have := kc_121
              omega
          · skip
            refine mw_iload_n 31 rfl 0 dX10_isValue_30 rfl rfl ?_
            refine mw_bipush (v := 119) 33 rfl dX10_isValue_31 (by decide) ?_
            refine mw_icmp_eq 36 rfl 78 dX10_isValue_33 (by decide) (fun c19 => ?_) (fun c19 => ?_)
            · skip
              have r_p0 : mh_r p0 (119) (119) := mh_eq1 c19 (mh_r_full p0) rc_119 (119) (119) (by decide)
              refine mw_iconst (v := 1) 79 rfl dX10_isValue_78 (by decide) ?_
              refine mw_goto 82 rfl 83 dX10_isValue_79 (by decide) ?_
              refine mw_zret dX10_isValue_83 rfl (mh_r_wk rc_1 (by decide)) ⟨(1), rfl, ⟨(mh_r_wk rc_1 (by decide)), ?_, rfl⟩⟩
              · skip
                have := (r_p0).1; have := (r_p0).2
                have := (rc_1).1; have := (rc_1).2
                have := kc_0
                have := kc_1
                have := kc_99
                have := kc_100
                have := kc_104
                have := kc_105
                have := kc_106
                have := kc_107
                have := kc_108
                have := kc_110
                have := kc_116
                have := kc_118
                have := kc_119
                have := kc_120
                have := kc_121
                omega
            · skip
              refine mw_iload_n 37 rfl 0 dX10_isValue_36 rfl rfl ?_
              refine mw_bipush (v := 120) 39 rfl dX10_isValue_37 (by decide) ?_
              refine mw_icmp_eq 42 rfl 78 dX10_isValue_39 (by decide) (fun c20 => ?_) (fun c20 => ?_)
              · skip
                have r_p0 : mh_r p0 (120) (120) := mh_eq1 c20 (mh_r_full p0) rc_120 (120) (120) (by decide)
                refine mw_iconst (v := 1) 79 rfl dX10_isValue_78 (by decide) ?_
                refine mw_goto 82 rfl 83 dX10_isValue_79 (by decide) ?_
                refine mw_zret dX10_isValue_83 rfl (mh_r_wk rc_1 (by decide)) ⟨(1), rfl, ⟨(mh_r_wk rc_1 (by decide)), ?_, rfl⟩⟩
                · skip
                  have := (r_p0).1; have := (r_p0).2
                  have := (rc_1).1; have := (rc_1).2
                  have := kc_0
                  have := kc_1
                  have := kc_99
                  have := kc_100
                  have := kc_104
                  have := kc_105
                  have := kc_106
                  have := kc_107
                  have := kc_108
                  have := kc_110
                  have := kc_116
                  have := kc_118
                  have := kc_119
                  have := kc_120
                  have := kc_121
                  omega
              · skip
                refine mw_iload_n 43 rfl 0 dX10_isValue_42 rfl rfl ?_
                refine mw_bipush (v := 121) 45 rfl dX10_isValue_43 (by decide) ?_
                refine mw_icmp_eq 48 rfl 78 dX10_isValue_45 (by decide) (fun c21 => ?_) (fun c21 => ?_)
                · skip
                  have r_p0 : mh_r p0 (121) (121) := mh_eq1 c21 (mh_r_full p0) rc_121 (121) (121) (by decide)
                  refine mw_iconst (v := 1) 79 rfl dX10_isValue_78 (by decide) ?_
                  refine mw_goto 82 rfl 83 dX10_isValue_79 (by decide) ?_
                  refine mw_zret dX10_isValue_83 rfl (mh_r_wk rc_1 (by decide)) ⟨(1), rfl, ⟨(mh_r_wk rc_1 (by decide)), ?_, rfl⟩⟩
                  · skip
                    have := (r_p0).1; have := (r_p0).2
                    have := (rc_1).1; have := (rc_1).2
                    have := kc_0
                    have := kc_1
                    have := kc_99
                    have := kc_100
                    have := kc_104
                    have := kc_105
                    have := kc_106
                    have := kc_107
                    have := kc_108
                    have := kc_110
                    have := kc_116
                    have := kc_118
                    have := kc_119
                    have := kc_120
                    have := kc_121
                    omega
                · skip
                  refine mw_iload_n 49 rfl 0 dX10_isValue_48 rfl rfl ?_
                  refine mw_bipush (v := 110) 51 rfl dX10_isValue_49 (by decide) ?_
                  refine mw_icmp_eq 54 rfl 78 dX10_isValue_51 (by decide) (fun c22 => ?_) (fun c22 => ?_)
                  · skip
                    have r_p0 : mh_r p0 (110) (110) := mh_eq1 c22 (mh_r_full p0) rc_110 (110) (110) (by decide)
                    refine mw_iconst (v := 1) 79 rfl dX10_isValue_78 (by decide) ?_
                    refine mw_goto 82 rfl 83 dX10_isValue_79 (by decide) ?_
                    refine mw_zret dX10_isValue_83 rfl (mh_r_wk rc_1 (by decide)) ⟨(1), rfl, ⟨(mh_r_wk rc_1 (by decide)), ?_, rfl⟩⟩
                    · skip
                      have := (r_p0).1; have := (r_p0).2
                      have := (rc_1).1; have := (rc_1).2
                      have := kc_0
                      have := kc_1
                      have := kc_99
                      have := kc_100
                      have := kc_104
                      have := kc_105
                      have := kc_106
                      have := kc_107
                      have := kc_108
                      have := kc_110
                      have := kc_116
                      have := kc_118
                      have := kc_119
                      have := kc_120
                      have := kc_121
                      omega
                  · skip
                    refine mw_iload_n 55 rfl 0 dX10_isValue_54 rfl rfl ?_
                    refine mw_bipush (v := 100) 57 rfl dX10_isValue_55 (by decide) ?_
                    refine mw_icmp_eq 60 rfl 78 dX10_isValue_57 (by decide) (fun c23 => ?_) (fun c23 => ?_)
                    · skip
                      have r_p0 : mh_r p0 (100) (100) := mh_eq1 c23 (mh_r_full p0) rc_100 (100) (100) (by decide)
                      refine mw_iconst (v := 1) 79 rfl dX10_isValue_78 (by decide) ?_
                      refine mw_goto 82 rfl 83 dX10_isValue_79 (by decide) ?_
                      refine mw_zret dX10_isValue_83 rfl (mh_r_wk rc_1 (by decide)) ⟨(1), rfl, ⟨(mh_r_wk rc_1 (by decide)), ?_, rfl⟩⟩
                      · skip
                        have := (r_p0).1; have := (r_p0).2
                        have := (rc_1).1; have := (rc_1).2
                        have := kc_0
                        have := kc_1
                        have := kc_99
                        have := kc_100
                        have := kc_104
                        have := kc_105
                        have := kc_106
                        have := kc_107
                        have := kc_108
                        have := kc_110
                        have := kc_116
                        have := kc_118
                        have := kc_119
                        have := kc_120
                        have := kc_121
                        omega
                    · skip
                      refine mw_iload_n 61 rfl 0 dX10_isValue_60 rfl rfl ?_
                      refine mw_bipush (v := 105) 63 rfl dX10_isValue_61 (by decide) ?_
                      refine mw_icmp_eq 66 rfl 78 dX10_isValue_63 (by decide) (fun c24 => ?_) (fun c24 => ?_)
                      · skip
                        have r_p0 : mh_r p0 (105) (105) := mh_eq1 c24 (mh_r_full p0) rc_105 (105) (105) (by decide)
                        refine mw_iconst (v := 1) 79 rfl dX10_isValue_78 (by decide) ?_
                        refine mw_goto 82 rfl 83 dX10_isValue_79 (by decide) ?_
                        refine mw_zret dX10_isValue_83 rfl (mh_r_wk rc_1 (by decide)) ⟨(1), rfl, ⟨(mh_r_wk rc_1 (by decide)), ?_, rfl⟩⟩
                        · skip
                          have := (r_p0).1; have := (r_p0).2
                          have := (rc_1).1; have := (rc_1).2
                          have := kc_0
                          have := kc_1
                          have := kc_99
                          have := kc_100
                          have := kc_104
                          have := kc_105
                          have := kc_106
                          have := kc_107
                          have := kc_108
                          have := kc_110
                          have := kc_116
                          have := kc_118
                          have := kc_119
                          have := kc_120
                          have := kc_121
                          omega
                      · skip
                        refine mw_iload_n 67 rfl 0 dX10_isValue_66 rfl rfl ?_
                        refine mw_bipush (v := 106) 69 rfl dX10_isValue_67 (by decide) ?_
                        refine mw_icmp_eq 72 rfl 78 dX10_isValue_69 (by decide) (fun c25 => ?_) (fun c25 => ?_)
                        · skip
                          have r_p0 : mh_r p0 (106) (106) := mh_eq1 c25 (mh_r_full p0) rc_106 (106) (106) (by decide)
                          refine mw_iconst (v := 1) 79 rfl dX10_isValue_78 (by decide) ?_
                          refine mw_goto 82 rfl 83 dX10_isValue_79 (by decide) ?_
                          refine mw_zret dX10_isValue_83 rfl (mh_r_wk rc_1 (by decide)) ⟨(1), rfl, ⟨(mh_r_wk rc_1 (by decide)), ?_, rfl⟩⟩
                          · skip
                            have := (r_p0).1; have := (r_p0).2
                            have := (rc_1).1; have := (rc_1).2
                            have := kc_0
                            have := kc_1
                            have := kc_99
                            have := kc_100
                            have := kc_104
                            have := kc_105
                            have := kc_106
                            have := kc_107
                            have := kc_108
                            have := kc_110
                            have := kc_116
                            have := kc_118
                            have := kc_119
                            have := kc_120
                            have := kc_121
                            omega
                        · skip
                          refine mw_iload_n 73 rfl 0 dX10_isValue_72 rfl rfl ?_
                          refine mw_bipush (v := 108) 75 rfl dX10_isValue_73 (by decide) ?_
                          refine mw_icmp_ne 78 rfl 82 dX10_isValue_75 (by decide) (fun c26 => ?_) (fun c26 => ?_)
                          · skip
                            refine mw_iconst (v := 0) 83 rfl dX10_isValue_82 (by decide) ?_
                            refine mw_zret dX10_isValue_83 rfl (mh_r_wk rc_0 (by decide)) ⟨(0), rfl, ⟨(mh_r_wk rc_0 (by decide)), ?_, rfl⟩⟩
                            · skip
                              have := (rc_0).1; have := (rc_0).2
                              have := kc_0
                              have := kc_1
                              have := kc_99
                              have := kc_100
                              have := kc_104
                              have := kc_105
                              have := kc_106
                              have := kc_107
                              have := kc_108
                              have := kc_110
                              have := kc_116
                              have := kc_118
                              have := kc_119
                              have := kc_120
                              have := kc_121
                              omega
                          · skip
                            have r_p0 : mh_r p0 (108) (108) := mh_eq1 c26 (mh_r_full p0) rc_108 (108) (108) (by decide)
                            refine mw_iconst (v := 1) 79 rfl dX10_isValue_78 (by decide) ?_
                            refine mw_goto 82 rfl 83 dX10_isValue_79 (by decide) ?_
                            refine mw_zret dX10_isValue_83 rfl (mh_r_wk rc_1 (by decide)) ⟨(1), rfl, ⟨(mh_r_wk rc_1 (by decide)), ?_, rfl⟩⟩
                            · skip
                              have := (r_p0).1; have := (r_p0).2
                              have := (rc_1).1; have := (rc_1).2
                              have := kc_0
                              have := kc_1
                              have := kc_99
                              have := kc_100
                              have := kc_104
                              have := kc_105
                              have := kc_106
                              have := kc_107
                              have := kc_108
                              have := kc_110
                              have := kc_116
                              have := kc_118
                              have := kc_119
                              have := kc_120
                              have := kc_121
                              omega

def P_X10_isClause (B D : Int) (s0 : mh_H) (p0 : Int32) : Int32 → mh_H → Prop := fun z s => mh_r z (0) (1) ∧ (z.toInt = 1 → p0.toInt ≠ 0) ∧ s0 = s
set_option maxRecDepth 100000 in
set_option maxHeartbeats 4000000 in
theorem w_X10_isClause (l : Launch) (G : mh_G) (d : Nat) {B D : Int} (hB : B ≤ 2000000000 ∧ D ≤ 2000000000) {s0 : mh_H} (hI0 : mh_I B D s0) (p0 : Int32) : mh_Mi l G (d + 0) mM_X10_isClause [.int p0] s0 (P_X10_isClause B D s0 p0) := by
  refine mh_enter (lv := [(0, .int p0)]) (by decide) rfl (Nat.le_of_ble_eq_true rfl) ?_
  refine mw_iload_n 1 rfl 0 dX10_isClause_0 rfl rfl ?_
  refine mw_bipush (v := 99) 3 rfl dX10_isClause_1 (by decide) ?_
  refine mw_icmp_eq 6 rfl 36 dX10_isClause_3 (by decide) (fun c7 => ?_) (fun c7 => ?_)
  · skip
    have r_p0 : mh_r p0 (99) (99) := mh_eq1 c7 (mh_r_full p0) rc_99 (99) (99) (by decide)
    refine mw_iconst (v := 1) 37 rfl dX10_isClause_36 (by decide) ?_
    refine mw_goto 40 rfl 41 dX10_isClause_37 (by decide) ?_
    refine mw_zret dX10_isClause_41 rfl (mh_r_wk rc_1 (by decide)) ⟨(1), rfl, ⟨(mh_r_wk rc_1 (by decide)), ?_, rfl⟩⟩
    · skip
      have := (r_p0).1; have := (r_p0).2
      have := (rc_1).1; have := (rc_1).2
      have := kc_0
      have := kc_1
      have := kc_99
      have := kc_102
      have := kc_109
      have := kc_115
      have := kc_119
      have := kc_121
      omega
  · skip
    refine mw_iload_n 7 rfl 0 dX10_isClause_6 rfl rfl ?_
    refine mw_bipush (v := 119) 9 rfl dX10_isClause_7 (by decide) ?_
    refine mw_icmp_eq 12 rfl 36 dX10_isClause_9 (by decide) (fun c8 => ?_) (fun c8 => ?_)
    · skip
      have r_p0 : mh_r p0 (119) (119) := mh_eq1 c8 (mh_r_full p0) rc_119 (119) (119) (by decide)
      refine mw_iconst (v := 1) 37 rfl dX10_isClause_36 (by decide) ?_
      refine mw_goto 40 rfl 41 dX10_isClause_37 (by decide) ?_
      refine mw_zret dX10_isClause_41 rfl (mh_r_wk rc_1 (by decide)) ⟨(1), rfl, ⟨(mh_r_wk rc_1 (by decide)), ?_, rfl⟩⟩
      · skip
        have := (r_p0).1; have := (r_p0).2
        have := (rc_1).1; have := (rc_1).2
        have := kc_0
        have := kc_1
        have := kc_99
        have := kc_102
        have := kc_109
        have := kc_115
        have := kc_119
        have := kc_121
        omega
    · skip
      refine mw_iload_n 13 rfl 0 dX10_isClause_12 rfl rfl ?_
      refine mw_bipush (v := 115) 15 rfl dX10_isClause_13 (by decide) ?_
      refine mw_icmp_eq 18 rfl 36 dX10_isClause_15 (by decide) (fun c9 => ?_) (fun c9 => ?_)
      · skip
        have r_p0 : mh_r p0 (115) (115) := mh_eq1 c9 (mh_r_full p0) rc_115 (115) (115) (by decide)
        refine mw_iconst (v := 1) 37 rfl dX10_isClause_36 (by decide) ?_
        refine mw_goto 40 rfl 41 dX10_isClause_37 (by decide) ?_
        refine mw_zret dX10_isClause_41 rfl (mh_r_wk rc_1 (by decide)) ⟨(1), rfl, ⟨(mh_r_wk rc_1 (by decide)), ?_, rfl⟩⟩
        · skip
          have := (r_p0).1; have := (r_p0).2
          have := (rc_1).1; have := (rc_1).2
          have := kc_0
          have := kc_1
          have := kc_99
          have := kc_102
          have := kc_109
          have := kc_115
          have := kc_119
          have := kc_121
          omega
      · skip
        refine mw_iload_n 19 rfl 0 dX10_isClause_18 rfl rfl ?_
        refine mw_bipush (v := 109) 21 rfl dX10_isClause_19 (by decide) ?_
        refine mw_icmp_eq 24 rfl 36 dX10_isClause_21 (by decide) (fun c10 => ?_) (fun c10 => ?_)
        · skip
          have r_p0 : mh_r p0 (109) (109) := mh_eq1 c10 (mh_r_full p0) rc_109 (109) (109) (by decide)
          refine mw_iconst (v := 1) 37 rfl dX10_isClause_36 (by decide) ?_
          refine mw_goto 40 rfl 41 dX10_isClause_37 (by decide) ?_
          refine mw_zret dX10_isClause_41 rfl (mh_r_wk rc_1 (by decide)) ⟨(1), rfl, ⟨(mh_r_wk rc_1 (by decide)), ?_, rfl⟩⟩
          · skip
            have := (r_p0).1; have := (r_p0).2
            have := (rc_1).1; have := (rc_1).2
            have := kc_0
            have := kc_1
            have := kc_99
            have := kc_102
            have := kc_109
            have := kc_115
            have := kc_119
            have := kc_121
            omega
        · skip
          refine mw_iload_n 25 rfl 0 dX10_isClause_24 rfl rfl ?_
          refine mw_bipush (v := 121) 27 rfl dX10_isClause_25 (by decide) ?_
          refine mw_icmp_eq 30 rfl 36 dX10_isClause_27 (by decide) (fun c11 => ?_) (fun c11 => ?_)
          · skip
            have r_p0 : mh_r p0 (121) (121) := mh_eq1 c11 (mh_r_full p0) rc_121 (121) (121) (by decide)
            refine mw_iconst (v := 1) 37 rfl dX10_isClause_36 (by decide) ?_
            refine mw_goto 40 rfl 41 dX10_isClause_37 (by decide) ?_
            refine mw_zret dX10_isClause_41 rfl (mh_r_wk rc_1 (by decide)) ⟨(1), rfl, ⟨(mh_r_wk rc_1 (by decide)), ?_, rfl⟩⟩
            · skip
              have := (r_p0).1; have := (r_p0).2
              have := (rc_1).1; have := (rc_1).2
              have := kc_0
              have := kc_1
              have := kc_99
              have := kc_102
              have := kc_109
              have := kc_115
              have := kc_119
              have := kc_121
              omega
          · skip
            refine mw_iload_n 31 rfl 0 dX10_isClause_30 rfl rfl ?_
            refine mw_bipush (v := 102) 33 rfl dX10_isClause_31 (by decide) ?_
            refine mw_icmp_ne 36 rfl 40 dX10_isClause_33 (by decide) (fun c12 => ?_) (fun c12 => ?_)
            · skip
              refine mw_iconst (v := 0) 41 rfl dX10_isClause_40 (by decide) ?_
              refine mw_zret dX10_isClause_41 rfl (mh_r_wk rc_0 (by decide)) ⟨(0), rfl, ⟨(mh_r_wk rc_0 (by decide)), ?_, rfl⟩⟩
              · skip
                have := (rc_0).1; have := (rc_0).2
                have := kc_0
                have := kc_1
                have := kc_99
                have := kc_102
                have := kc_109
                have := kc_115
                have := kc_119
                have := kc_121
                omega
            · skip
              have r_p0 : mh_r p0 (102) (102) := mh_eq1 c12 (mh_r_full p0) rc_102 (102) (102) (by decide)
              refine mw_iconst (v := 1) 37 rfl dX10_isClause_36 (by decide) ?_
              refine mw_goto 40 rfl 41 dX10_isClause_37 (by decide) ?_
              refine mw_zret dX10_isClause_41 rfl (mh_r_wk rc_1 (by decide)) ⟨(1), rfl, ⟨(mh_r_wk rc_1 (by decide)), ?_, rfl⟩⟩
              · skip
                have := (r_p0).1; have := (r_p0).2
                have := (rc_1).1; have := (rc_1).2
                have := kc_0
                have := kc_1
                have := kc_99
                have := kc_102
                have := kc_109
                have := kc_115
                have := kc_119
                have := kc_121
                omega

def P_X10_seesDigit (B D : Int) (s0 : mh_H) : Int32 → mh_H → Prop := fun z s => mh_r z (0) (1) ∧ (z.toInt = 1 ↔ 48 ≤ (mh_hr s0).toInt ∧ (mh_hr s0).toInt ≤ 57) ∧ s0 = s
set_option maxRecDepth 100000 in
set_option maxHeartbeats 4000000 in
theorem w_X10_seesDigit (l : Launch) (G : mh_G) (d : Nat) {B D : Int} (hB : B ≤ 1980000000 ∧ D ≤ 1980000000) {s0 : mh_H} (hI0 : mh_I B D s0) (hh : 0 ≤ (s0.1 57 23).toInt ∧ (s0.1 57 24).toInt ≤ 200) : mh_Mi l G (d + 1) mM_X10_seesDigit [.ref (G.2.2.2 57)] s0 (P_X10_seesDigit B D s0) := by
  refine mh_enter (lv := [(0, .ref (G.2.2.2 57))]) (by decide) rfl (Nat.le_of_ble_eq_true rfl) ?_
  obtain ⟨x13, t14⟩ : ∃ z : Int32, z = s0.1 57 23 := ⟨_, rfl⟩
  obtain ⟨x15, t16⟩ : ∃ z : Int32, z = s0.1 57 24 := ⟨_, rfl⟩
  rw [← t14, ← t16] at hh
  refine mw_aload_n 1 rfl 0 dX10_seesDigit_0 rfl rfl ?_
  refine mw_callVi [] [] 4 rfl dX10_seesDigit_1 ml_X10_214 mc_X10_here mk_X10_here rfl rfl (by decide) (w_X10_here l G (d + 0) ⟨by omega, by omega⟩ hI0 (by rw [← t14, ← t16]; have := kc_0; have := kc_1; omega)) rfl rfl (Nat.le_of_ble_eq_true rfl) (mh_rok (by omega) (by decide)) (fun x17 s18 q19 => ?_)
  obtain ⟨r_x17, e0_s18, rfl⟩ := q19
  have hq_x17 : x17.toInt ≠ 0 → x13.toInt < x15.toInt := fun q => by rw [t14, t16]; exact mh_hr_lt (by rw [← e0_s18]; exact q)
  refine mw_i2l 5 rfl dX10_seesDigit_4 (fun y20 t21 => ?_)
  refine mw_ldc2 8 rfl dX10_seesDigit_5 ck_X10_221 ?_
  refine mw_ldc2 11 rfl dX10_seesDigit_8 ck_X10_223 ?_
  refine mw_callSi [.long y20, .long (48), .long (57)] [] 14 rfl dX10_seesDigit_11 ml_X10_154 mc_X10_lies mk_X10_lies (w_X10_lies l G (d + 0) ⟨by omega, by omega⟩ hI0 y20 (48) (57)) rfl rfl (Nat.le_of_ble_eq_true rfl) (mh_rok (by omega) (by decide)) (fun x22 s23 q24 => ?_)
  obtain ⟨r_x22, e0_s23, rfl⟩ := q24
  have f_x22 : x22.toInt = 1 ↔ (48 ≤ x17.toInt ∧ x17.toInt ≤ 57) := by rw [e0_s23]; exact by simp only [t21, Int32.toInt_toInt64]; first | done | exact Iff.rfl
  refine mw_zret dX10_seesDigit_14 rfl r_x22 ⟨x22, rfl, ⟨r_x22, ?_, rfl⟩⟩
  · skip
    rw [← e0_s18]
    have := (r_x22).1; have := (r_x22).2
    have := kc_0
    have := kc_1
    omega

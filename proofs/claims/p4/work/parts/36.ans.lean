def V_X9_wind (B D : Int) (s0 : mh_H) (p1 : Int32) (p2 : Int32) : Int32 → mh_H → Prop := fun z s => mh_r z (0) (1) ∧ (z.toInt = 1 ↔ (mh_r p1 (0) (99) ∧ mh_r p2 (0) (9))) ∧ mh_I B D s ∧ mh_F S_X9_wind s0 s
set_option maxRecDepth 100000 in
set_option maxHeartbeats 4000000 in
theorem v_X9_wind (l : Launch) (G : mh_G) (d : Nat) {B D : Int} (hB : B ≤ 1980000000 ∧ D ≤ 1980000000) {s0 : mh_H} (hI0 : mh_I B D s0) (p1 : Int32) (p2 : Int32) : mh_Mi l G (d + 1) mM_X9_wind [.ref (G.2.2.2 0), .int p1, .int p2] s0 (V_X9_wind B D s0 p1 p2) := by
  refine mh_enter (lv := [(0, .ref (G.2.2.2 0)), (1, .int p1), (2, .int p2)]) (by decide) rfl (Nat.le_of_ble_eq_true rfl) ?_
  have hF0 : mh_F S_X9_wind s0 s0 := mh_F_rf
  refine mw_iload_n 1 rfl 1 dX9_wind_0 rfl rfl ?_
  refine mw_bipush (v := 99) 3 rfl dX9_wind_1 (by decide) ?_
  refine mw_callSi [.int p1, .int (99)] [] 6 rfl dX9_wind_3 ml_X9_98 mc_X9_isWithin mk_X9_isWithin (w_X9_isWithin l G (d + 0) ⟨by omega, by omega⟩ hI0 p1 (99)) rfl rfl (Nat.le_of_ble_eq_true rfl) (mh_rok (by omega) (by decide)) (fun x11 s12 q13 => ?_)
  obtain ⟨r_x11, e0_s12, rfl⟩ := q13
  refine mw_if_eq 9 rfl 18 dX9_wind_6 (by decide) (fun c14 => ?_) (fun c14 => ?_)
  · skip
    have r_x11 : mh_r x11 (0) (0) := mh_eq1 (show x11.toInt = (0 : Int32).toInt from c14) r_x11 rc_0 (0) (0) (by decide)
    refine mw_iconst (v := 0) 19 rfl dX9_wind_18 (by decide) ?_
    exact mw_zret dX9_wind_19 rfl (mh_r_wk rc_0 (by decide)) ⟨(0), rfl, ⟨(mh_r_wk rc_0 (by decide)), ⟨fun h => absurd h (by decide), fun h => by exfalso; have c0 : (99 : Int32).toInt = 99 := rfl; have c1 : (4 : Int32).toInt = 4 := rfl; have c2 : (9999 : Int32).toInt = 9999 := rfl; have c3 : (9 : Int32).toInt = 9 := rfl; have c4 : (19 : Int32).toInt = 19 := rfl; have c5 : (143 : Int32).toInt = 143 := rfl; have c6 : (65535 : Int32).toInt = 65535 := rfl; have d0 : (0 : Int64).toInt = 0 := rfl; have d1 : (1 : Int64).toInt = 1 := rfl; have d2 : (99 : Int64).toInt = 99 := rfl; have d3 : (4 : Int64).toInt = 4 := rfl; have d4 : (9999 : Int64).toInt = 9999 := rfl; have d5 : (9 : Int64).toInt = 9 := rfl; have d6 : (19 : Int64).toInt = 19 := rfl; have d7 : (143 : Int64).toInt = 143 := rfl; have d8 : (65535 : Int64).toInt = 65535 := rfl; simp only [mh_r] at *; omega⟩, hI0, hF0⟩⟩
  · skip
    have r_p1 : mh_r p1 (0) (99) := ⟨by have := e0_s12.1 (mh_z1 r_x11 c14); have := ((mh_r_full p1)).1; omega, by have := e0_s12.1 (mh_z1 r_x11 c14); have := ((mh_r_full p1)).2; have := (rc_99).2; omega⟩
    have r_x11 : mh_r x11 (1) (1) := mh_ne1 (show x11.toInt ≠ (0 : Int32).toInt from c14) r_x11 rc_0 (1) (1) (by decide)
    refine mw_iload_n 10 rfl 2 dX9_wind_9 rfl rfl ?_
    refine mw_bipush (v := 9) 12 rfl dX9_wind_10 (by decide) ?_
    refine mw_callSi [.int p2, .int (9)] [] 15 rfl dX9_wind_12 ml_X9_98 mc_X9_isWithin mk_X9_isWithin (w_X9_isWithin l G (d + 0) ⟨by omega, by omega⟩ hI0 p2 (9)) rfl rfl (Nat.le_of_ble_eq_true rfl) (mh_rok (by omega) (by decide)) (fun x15 s16 q17 => ?_)
    obtain ⟨r_x15, e0_s16, rfl⟩ := q17
    refine mw_if_ne 18 rfl 20 dX9_wind_15 (by decide) (fun c18 => ?_) (fun c18 => ?_)
    · skip
      have r_p2 : mh_r p2 (0) (9) := ⟨by have := e0_s16.1 (mh_z1 r_x15 c18); have := ((mh_r_full p2)).1; omega, by have := e0_s16.1 (mh_z1 r_x15 c18); have := ((mh_r_full p2)).2; have := (rc_9).2; omega⟩
      have r_x15 : mh_r x15 (1) (1) := mh_ne1 (show x15.toInt ≠ (0 : Int32).toInt from c18) r_x15 rc_0 (1) (1) (by decide)
      refine mw_aload_n 21 rfl 0 dX9_wind_20 rfl rfl ?_
      refine mw_geta 24 rfl dX9_wind_21 gf_X9_10 rfl 1 (mh_rf hI0 0 rfl) ?_
      refine mw_geta 27 rfl dX9_wind_24 gf_X9_113 rfl 6 (mh_rf hI0 15 rfl) ?_
      refine mw_iload_n 28 rfl 1 dX9_wind_27 rfl rfl ?_
      refine mw_iload_n 29 rfl 2 dX9_wind_28 rfl rfl ?_
      refine mw_iast 30 rfl dX9_wind_29 rfl r_p1 (by decide) (fun s19 t20 => ?_)
      have hI_s19 : mh_I B D s19 := by rw [t20]; exact wr_6 hI0
      have hF_s19 : mh_F S_X9_wind s0 s19 := by rw [t20]; exact mh_F_pI hF0 (mh_si 0 rfl)
      refine mw_iconst (v := 1) 31 rfl dX9_wind_30 (by decide) ?_
      exact mw_zret dX9_wind_31 rfl (mh_r_wk rc_1 (by decide)) ⟨(1), rfl, ⟨(mh_r_wk rc_1 (by decide)), ⟨fun _ => ⟨r_p1, r_p2⟩, fun _ => rfl⟩, hI_s19, hF_s19⟩⟩
    · skip
      have r_x15 : mh_r x15 (0) (0) := mh_eq1 (show x15.toInt = (0 : Int32).toInt from c18) r_x15 rc_0 (0) (0) (by decide)
      refine mw_iconst (v := 0) 19 rfl dX9_wind_18 (by decide) ?_
      exact mw_zret dX9_wind_19 rfl (mh_r_wk rc_0 (by decide)) ⟨(0), rfl, ⟨(mh_r_wk rc_0 (by decide)), ⟨fun h => absurd h (by decide), fun h => by exfalso; have c0 : (99 : Int32).toInt = 99 := rfl; have c1 : (4 : Int32).toInt = 4 := rfl; have c2 : (9999 : Int32).toInt = 9999 := rfl; have c3 : (9 : Int32).toInt = 9 := rfl; have c4 : (19 : Int32).toInt = 19 := rfl; have c5 : (143 : Int32).toInt = 143 := rfl; have c6 : (65535 : Int32).toInt = 65535 := rfl; have d0 : (0 : Int64).toInt = 0 := rfl; have d1 : (1 : Int64).toInt = 1 := rfl; have d2 : (99 : Int64).toInt = 99 := rfl; have d3 : (4 : Int64).toInt = 4 := rfl; have d4 : (9999 : Int64).toInt = 9999 := rfl; have d5 : (9 : Int64).toInt = 9 := rfl; have d6 : (19 : Int64).toInt = 19 := rfl; have d7 : (143 : Int64).toInt = 143 := rfl; have d8 : (65535 : Int64).toInt = 65535 := rfl; simp only [mh_r] at *; omega⟩, hI0, hF0⟩⟩


def V_X10_wind (B D : Int) (s0 : mh_H) (p1 : Int32) (p2 : Int32) : Int32 → mh_H → Prop := fun z s => mh_r z (0) (1) ∧ (z.toInt = 1 ↔ (mh_r p1 (0) (99) ∧ mh_r p2 (0) (9))) ∧ mh_I B D s ∧ mh_F S_X10_wind s0 s
set_option maxRecDepth 100000 in
set_option maxHeartbeats 4000000 in
theorem v_X10_wind (l : Launch) (G : mh_G) (d : Nat) {B D : Int} (hB : B ≤ 1980000000 ∧ D ≤ 1980000000) {s0 : mh_H} (hI0 : mh_I B D s0) (p1 : Int32) (p2 : Int32) : mh_Mi l G (d + 1) mM_X10_wind [.ref (G.2.2.2 57), .int p1, .int p2] s0 (V_X10_wind B D s0 p1 p2) := by
  refine mh_enter (lv := [(0, .ref (G.2.2.2 57)), (1, .int p1), (2, .int p2)]) (by decide) rfl (Nat.le_of_ble_eq_true rfl) ?_
  have hF0 : mh_F S_X10_wind s0 s0 := mh_F_rf
  refine mw_iload_n 1 rfl 1 dX10_wind_0 rfl rfl ?_
  refine mw_i2l 2 rfl dX10_wind_1 (fun y15 t16 => ?_)
  refine mw_lconst (v := 0) 3 rfl dX10_wind_2 (by decide) ?_
  refine mw_ldc2 6 rfl dX10_wind_3 ck_X10_170 ?_
  refine mw_callSi [.long y15, .long (0), .long (99)] [] 9 rfl dX10_wind_6 ml_X10_154 mc_X10_lies mk_X10_lies (w_X10_lies l G (d + 0) ⟨by omega, by omega⟩ hI0 y15 (0) (99)) rfl rfl (Nat.le_of_ble_eq_true rfl) (mh_rok (by omega) (by decide)) (fun x17 s18 q19 => ?_)
  obtain ⟨r_x17, e0_s18, rfl⟩ := q19
  have f_x17 : x17.toInt = 1 ↔ (0 ≤ p1.toInt ∧ p1.toInt ≤ 99) := by rw [e0_s18]; exact by simp only [t16, Int32.toInt_toInt64]; first | done | exact Iff.rfl
  refine mw_if_eq 12 rfl 24 dX10_wind_9 (by decide) (fun c20 => ?_) (fun c20 => ?_)
  · skip
    have r_x17 : mh_r x17 (0) (0) := mh_eq1 (show x17.toInt = (0 : Int32).toInt from c20) r_x17 rc_0 (0) (0) (by decide)
    refine mw_iconst (v := 0) 25 rfl dX10_wind_24 (by decide) ?_
    exact mw_zret dX10_wind_25 rfl (mh_r_wk rc_0 (by decide)) ⟨(0), rfl, ⟨(mh_r_wk rc_0 (by decide)), ⟨fun h => absurd h (by decide), fun h => by exfalso; have c0 : (99 : Int32).toInt = 99 := rfl; have c1 : (4 : Int32).toInt = 4 := rfl; have c2 : (9999 : Int32).toInt = 9999 := rfl; have c3 : (9 : Int32).toInt = 9 := rfl; have c4 : (19 : Int32).toInt = 19 := rfl; have c5 : (143 : Int32).toInt = 143 := rfl; have c6 : (65535 : Int32).toInt = 65535 := rfl; have d0 : (0 : Int64).toInt = 0 := rfl; have d1 : (1 : Int64).toInt = 1 := rfl; have d2 : (99 : Int64).toInt = 99 := rfl; have d3 : (4 : Int64).toInt = 4 := rfl; have d4 : (9999 : Int64).toInt = 9999 := rfl; have d5 : (9 : Int64).toInt = 9 := rfl; have d6 : (19 : Int64).toInt = 19 := rfl; have d7 : (143 : Int64).toInt = 143 := rfl; have d8 : (65535 : Int64).toInt = 65535 := rfl; simp only [mh_r] at *; omega⟩, hI0, hF0⟩⟩
  · skip
    have r_p1 : mh_r p1 (0) (99) := ⟨by have := f_x17.1 (mh_z1 r_x17 c20); have := ((mh_r_full p1)).1; omega, by have := f_x17.1 (mh_z1 r_x17 c20); have := ((mh_r_full p1)).2; omega⟩
    have r_x17 : mh_r x17 (1) (1) := mh_ne1 (show x17.toInt ≠ (0 : Int32).toInt from c20) r_x17 rc_0 (1) (1) (by decide)
    refine mw_iload_n 13 rfl 2 dX10_wind_12 rfl rfl ?_
    refine mw_i2l 14 rfl dX10_wind_13 (fun y21 t22 => ?_)
    refine mw_lconst (v := 0) 15 rfl dX10_wind_14 (by decide) ?_
    refine mw_ldc2 18 rfl dX10_wind_15 ck_X10_179 ?_
    refine mw_callSi [.long y21, .long (0), .long (9)] [] 21 rfl dX10_wind_18 ml_X10_154 mc_X10_lies mk_X10_lies (w_X10_lies l G (d + 0) ⟨by omega, by omega⟩ hI0 y21 (0) (9)) rfl rfl (Nat.le_of_ble_eq_true rfl) (mh_rok (by omega) (by decide)) (fun x23 s24 q25 => ?_)
    obtain ⟨r_x23, e0_s24, rfl⟩ := q25
    have f_x23 : x23.toInt = 1 ↔ (0 ≤ p2.toInt ∧ p2.toInt ≤ 9) := by rw [e0_s24]; exact by simp only [t22, Int32.toInt_toInt64]; first | done | exact Iff.rfl
    refine mw_if_ne 24 rfl 26 dX10_wind_21 (by decide) (fun c26 => ?_) (fun c26 => ?_)
    · skip
      have r_p2 : mh_r p2 (0) (9) := ⟨by have := f_x23.1 (mh_z1 r_x23 c26); have := ((mh_r_full p2)).1; omega, by have := f_x23.1 (mh_z1 r_x23 c26); have := ((mh_r_full p2)).2; omega⟩
      have r_x23 : mh_r x23 (1) (1) := mh_ne1 (show x23.toInt ≠ (0 : Int32).toInt from c26) r_x23 rc_0 (1) (1) (by decide)
      refine mw_aload_n 27 rfl 0 dX10_wind_26 rfl rfl ?_
      refine mw_geta 30 rfl dX10_wind_27 gf_X10_30 rfl 63 (mh_rf hI0 60 rfl) ?_
      refine mw_iload_n 31 rfl 1 dX10_wind_30 rfl rfl ?_
      refine mw_iload_n 32 rfl 2 dX10_wind_31 rfl rfl ?_
      refine mw_iast 33 rfl dX10_wind_32 rfl r_p1 (by decide) (fun s27 t28 => ?_)
      have hI_s27 : mh_I B D s27 := by rw [t28]; exact wr_63 hI0
      have hF_s27 : mh_F S_X10_wind s0 s27 := by rw [t28]; exact mh_F_pI hF0 (mh_si 0 rfl)
      refine mw_iconst (v := 1) 34 rfl dX10_wind_33 (by decide) ?_
      exact mw_zret dX10_wind_34 rfl (mh_r_wk rc_1 (by decide)) ⟨(1), rfl, ⟨(mh_r_wk rc_1 (by decide)), ⟨fun _ => ⟨r_p1, r_p2⟩, fun _ => rfl⟩, hI_s27, hF_s27⟩⟩
    · skip
      have r_x23 : mh_r x23 (0) (0) := mh_eq1 (show x23.toInt = (0 : Int32).toInt from c26) r_x23 rc_0 (0) (0) (by decide)
      refine mw_iconst (v := 0) 25 rfl dX10_wind_24 (by decide) ?_
      exact mw_zret dX10_wind_25 rfl (mh_r_wk rc_0 (by decide)) ⟨(0), rfl, ⟨(mh_r_wk rc_0 (by decide)), ⟨fun h => absurd h (by decide), fun h => by exfalso; have c0 : (99 : Int32).toInt = 99 := rfl; have c1 : (4 : Int32).toInt = 4 := rfl; have c2 : (9999 : Int32).toInt = 9999 := rfl; have c3 : (9 : Int32).toInt = 9 := rfl; have c4 : (19 : Int32).toInt = 19 := rfl; have c5 : (143 : Int32).toInt = 143 := rfl; have c6 : (65535 : Int32).toInt = 65535 := rfl; have d0 : (0 : Int64).toInt = 0 := rfl; have d1 : (1 : Int64).toInt = 1 := rfl; have d2 : (99 : Int64).toInt = 99 := rfl; have d3 : (4 : Int64).toInt = 4 := rfl; have d4 : (9999 : Int64).toInt = 9999 := rfl; have d5 : (9 : Int64).toInt = 9 := rfl; have d6 : (19 : Int64).toInt = 19 := rfl; have d7 : (143 : Int64).toInt = 143 := rfl; have d8 : (65535 : Int64).toInt = 65535 := rfl; simp only [mh_r] at *; omega⟩, hI0, hF0⟩⟩



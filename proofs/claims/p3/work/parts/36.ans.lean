def V_X9_air (B D : Int) (s0 : mh_H) (p1 : Int32) (p2 : Int32) (p3 : Int32) (p4 : Int32) : Int32 → mh_H → Prop := fun z s => mh_r z (0) (1) ∧ (z.toInt = 1 ↔ (mh_r p1 (0) (11) ∧ mh_r p2 (0) (11) ∧ mh_r p3 (0) (9999) ∧ mh_r p4 (0) (9999))) ∧ mh_I B D s ∧ mh_F S_X9_air s0 s
set_option maxRecDepth 100000 in
set_option maxHeartbeats 4000000 in
theorem v_X9_air (l : Launch) (G : mh_G) (d : Nat) {B D : Int} (hB : B ≤ 1960000000 ∧ D ≤ 1960000000) {s0 : mh_H} (hI0 : mh_I B D s0) (p1 : Int32) (p2 : Int32) (p3 : Int32) (p4 : Int32) : mh_Mi l G (d + 2) mM_X9_air [.ref (G.2.2.2 0), .int p1, .int p2, .int p3, .int p4] s0 (V_X9_air B D s0 p1 p2 p3 p4) := by
  refine mh_enter (lv := [(0, .ref (G.2.2.2 0)), (1, .int p1), (2, .int p2), (3, .int p3), (4, .int p4)]) (by decide) rfl (Nat.le_of_ble_eq_true rfl) ?_
  have hF0 : mh_F S_X9_air s0 s0 := mh_F_rf
  refine mw_iload_n 1 rfl 1 dX9_air_0 rfl rfl ?_
  refine mw_iload_n 2 rfl 2 dX9_air_1 rfl rfl ?_
  refine mw_callSi [.int p1, .int p2] [] 5 rfl dX9_air_2 ml_X9_94 mc_X9_isPlace mk_X9_isPlace (w_X9_isPlace l G (d + 0) ⟨by omega, by omega⟩ hI0 p1 p2) rfl rfl (Nat.le_of_ble_eq_true rfl) (mh_rok (by omega) (by decide)) (fun x21 s22 q23 => ?_)
  obtain ⟨r_x21, e0_s22, rfl⟩ := q23
  refine mw_if_eq 8 rfl 29 dX9_air_5 (by decide) (fun c24 => ?_) (fun c24 => ?_)
  · skip
    have r_x21 : mh_r x21 (0) (0) := mh_eq1 (show x21.toInt = (0 : Int32).toInt from c24) r_x21 rc_0 (0) (0) (by decide)
    refine mw_iconst (v := 0) 30 rfl dX9_air_29 (by decide) ?_
    exact mw_zret dX9_air_30 rfl (mh_r_wk rc_0 (by decide)) ⟨(0), rfl, ⟨(mh_r_wk rc_0 (by decide)), ⟨fun h => absurd h (by decide), fun h => by exfalso; have c0 : (99 : Int32).toInt = 99 := rfl; have c1 : (4 : Int32).toInt = 4 := rfl; have c2 : (9999 : Int32).toInt = 9999 := rfl; have c3 : (9 : Int32).toInt = 9 := rfl; have c4 : (19 : Int32).toInt = 19 := rfl; have c5 : (143 : Int32).toInt = 143 := rfl; have c6 : (65535 : Int32).toInt = 65535 := rfl; have d0 : (0 : Int64).toInt = 0 := rfl; have d1 : (1 : Int64).toInt = 1 := rfl; have d2 : (99 : Int64).toInt = 99 := rfl; have d3 : (4 : Int64).toInt = 4 := rfl; have d4 : (9999 : Int64).toInt = 9999 := rfl; have d5 : (9 : Int64).toInt = 9 := rfl; have d6 : (19 : Int64).toInt = 19 := rfl; have d7 : (143 : Int64).toInt = 143 := rfl; have d8 : (65535 : Int64).toInt = 65535 := rfl; simp only [mh_r] at *; omega⟩, hI0, hF0⟩⟩
  · skip
    have r_p1 : mh_r p1 (0) (11) := ⟨by have := e0_s22.1 (mh_z1 r_x21 c24); have := ((mh_r_full p1)).1; omega, by have := e0_s22.1 (mh_z1 r_x21 c24); have := ((mh_r_full p1)).2; omega⟩
    have r_p2 : mh_r p2 (0) (11) := ⟨by have := e0_s22.1 (mh_z1 r_x21 c24); have := ((mh_r_full p2)).1; omega, by have := e0_s22.1 (mh_z1 r_x21 c24); have := ((mh_r_full p2)).2; omega⟩
    have r_x21 : mh_r x21 (1) (1) := mh_ne1 (show x21.toInt ≠ (0 : Int32).toInt from c24) r_x21 rc_0 (1) (1) (by decide)
    refine mw_iload_n 9 rfl 3 dX9_air_8 rfl rfl ?_
    refine mw_sipush (v := 9999) 12 rfl dX9_air_9 (by decide) ?_
    refine mw_callSi [.int p3, .int (9999)] [] 15 rfl dX9_air_12 ml_X9_98 mc_X9_isWithin mk_X9_isWithin (w_X9_isWithin l G (d + 1) ⟨by omega, by omega⟩ hI0 p3 (9999)) rfl rfl (Nat.le_of_ble_eq_true rfl) (mh_rok (by omega) (by decide)) (fun x25 s26 q27 => ?_)
    obtain ⟨r_x25, e0_s26, rfl⟩ := q27
    refine mw_if_eq 18 rfl 29 dX9_air_15 (by decide) (fun c28 => ?_) (fun c28 => ?_)
    · skip
      have r_x25 : mh_r x25 (0) (0) := mh_eq1 (show x25.toInt = (0 : Int32).toInt from c28) r_x25 rc_0 (0) (0) (by decide)
      refine mw_iconst (v := 0) 30 rfl dX9_air_29 (by decide) ?_
      exact mw_zret dX9_air_30 rfl (mh_r_wk rc_0 (by decide)) ⟨(0), rfl, ⟨(mh_r_wk rc_0 (by decide)), ⟨fun h => absurd h (by decide), fun h => by exfalso; have c0 : (99 : Int32).toInt = 99 := rfl; have c1 : (4 : Int32).toInt = 4 := rfl; have c2 : (9999 : Int32).toInt = 9999 := rfl; have c3 : (9 : Int32).toInt = 9 := rfl; have c4 : (19 : Int32).toInt = 19 := rfl; have c5 : (143 : Int32).toInt = 143 := rfl; have c6 : (65535 : Int32).toInt = 65535 := rfl; have d0 : (0 : Int64).toInt = 0 := rfl; have d1 : (1 : Int64).toInt = 1 := rfl; have d2 : (99 : Int64).toInt = 99 := rfl; have d3 : (4 : Int64).toInt = 4 := rfl; have d4 : (9999 : Int64).toInt = 9999 := rfl; have d5 : (9 : Int64).toInt = 9 := rfl; have d6 : (19 : Int64).toInt = 19 := rfl; have d7 : (143 : Int64).toInt = 143 := rfl; have d8 : (65535 : Int64).toInt = 65535 := rfl; simp only [mh_r] at *; omega⟩, hI0, hF0⟩⟩
    · skip
      have r_p3 : mh_r p3 (0) (9999) := ⟨by have := e0_s26.1 (mh_z1 r_x25 c28); have := ((mh_r_full p3)).1; omega, by have := e0_s26.1 (mh_z1 r_x25 c28); have := ((mh_r_full p3)).2; have := (rc_9999).2; omega⟩
      have r_x25 : mh_r x25 (1) (1) := mh_ne1 (show x25.toInt ≠ (0 : Int32).toInt from c28) r_x25 rc_0 (1) (1) (by decide)
      refine mw_iload 20 rfl 4 dX9_air_18  rfl ?_
      refine mw_sipush (v := 9999) 23 rfl dX9_air_20 (by decide) ?_
      refine mw_callSi [.int p4, .int (9999)] [] 26 rfl dX9_air_23 ml_X9_98 mc_X9_isWithin mk_X9_isWithin (w_X9_isWithin l G (d + 1) ⟨by omega, by omega⟩ hI0 p4 (9999)) rfl rfl (Nat.le_of_ble_eq_true rfl) (mh_rok (by omega) (by decide)) (fun x29 s30 q31 => ?_)
      obtain ⟨r_x29, e0_s30, rfl⟩ := q31
      refine mw_if_ne 29 rfl 31 dX9_air_26 (by decide) (fun c32 => ?_) (fun c32 => ?_)
      · skip
        have r_p4 : mh_r p4 (0) (9999) := ⟨by have := e0_s30.1 (mh_z1 r_x29 c32); have := ((mh_r_full p4)).1; omega, by have := e0_s30.1 (mh_z1 r_x29 c32); have := ((mh_r_full p4)).2; have := (rc_9999).2; omega⟩
        have r_x29 : mh_r x29 (1) (1) := mh_ne1 (show x29.toInt ≠ (0 : Int32).toInt from c32) r_x29 rc_0 (1) (1) (by decide)
        refine mw_bipush (v := 12) 33 rfl dX9_air_31 (by decide) ?_
        refine mw_iload_n 34 rfl 2 dX9_air_33 rfl rfl ?_
        refine mw_imul 35 rfl (0) (132) dX9_air_34 rc_12 r_p2 (by decide) (fun x33 t34 r_x33 => ?_)
        refine mw_iload_n 36 rfl 1 dX9_air_35 rfl rfl ?_
        refine mw_iadd 37 rfl (0) (143) dX9_air_36 r_x33 r_p1 (by decide) (fun x35 t36 r_x35 => ?_)
        refine mw_istore 39 rfl [(5, .int x35), (0, .ref (G.2.2.2 0)), (1, .int p1), (2, .int p2), (3, .int p3), (4, .int p4)] dX9_air_37  (by decide) rfl ?_
        refine mw_aload_n 40 rfl 1 dX9_air_39 rfl rfl ?_
        refine mw_geta 43 rfl dX9_air_40 gf_X9_10 rfl 1 (mh_rf hI0 0 rfl) ?_
        refine mw_geta 46 rfl dX9_air_43 gf_X9_107 rfl 4 (mh_rf hI0 13 rfl) ?_
        refine mw_iload 48 rfl 0 dX9_air_46  rfl ?_
        refine mw_iload_n 49 rfl 4 dX9_air_48 rfl rfl ?_
        refine mw_iast 50 rfl dX9_air_49 rfl r_x35 (by decide) (fun s37 t38 => ?_)
        have hI_s37 : mh_I B D s37 := by rw [t38]; exact wr_4 hI0
        have hF_s37 : mh_F S_X9_air s0 s37 := by rw [t38]; exact mh_F_pI hF0 (mh_si 0 rfl)
        refine mw_aload_n 51 rfl 1 dX9_air_50 rfl rfl ?_
        refine mw_geta 54 rfl dX9_air_51 gf_X9_10 rfl 1 (mh_rf hI_s37 0 rfl) ?_
        refine mw_geta 57 rfl dX9_air_54 gf_X9_110 rfl 5 (mh_rf hI_s37 14 rfl) ?_
        refine mw_iload 59 rfl 0 dX9_air_57  rfl ?_
        refine mw_iload 61 rfl 5 dX9_air_59  rfl ?_
        refine mw_iast 62 rfl dX9_air_61 rfl r_x35 (by decide) (fun s39 t40 => ?_)
        have hI_s39 : mh_I B D s39 := by rw [t40]; exact wr_5 hI_s37
        have hF_s39 : mh_F S_X9_air s0 s39 := by rw [t40]; exact mh_F_pI hF_s37 (mh_si 1 rfl)
        refine mw_iconst (v := 1) 63 rfl dX9_air_62 (by decide) ?_
        exact mw_zret dX9_air_63 rfl (mh_r_wk rc_1 (by decide)) ⟨(1), rfl, ⟨(mh_r_wk rc_1 (by decide)), ⟨fun _ => ⟨r_p1, r_p2, r_p3, r_p4⟩, fun _ => rfl⟩, hI_s39, hF_s39⟩⟩
      · skip
        have r_x29 : mh_r x29 (0) (0) := mh_eq1 (show x29.toInt = (0 : Int32).toInt from c32) r_x29 rc_0 (0) (0) (by decide)
        refine mw_iconst (v := 0) 30 rfl dX9_air_29 (by decide) ?_
        exact mw_zret dX9_air_30 rfl (mh_r_wk rc_0 (by decide)) ⟨(0), rfl, ⟨(mh_r_wk rc_0 (by decide)), ⟨fun h => absurd h (by decide), fun h => by exfalso; have c0 : (99 : Int32).toInt = 99 := rfl; have c1 : (4 : Int32).toInt = 4 := rfl; have c2 : (9999 : Int32).toInt = 9999 := rfl; have c3 : (9 : Int32).toInt = 9 := rfl; have c4 : (19 : Int32).toInt = 19 := rfl; have c5 : (143 : Int32).toInt = 143 := rfl; have c6 : (65535 : Int32).toInt = 65535 := rfl; have d0 : (0 : Int64).toInt = 0 := rfl; have d1 : (1 : Int64).toInt = 1 := rfl; have d2 : (99 : Int64).toInt = 99 := rfl; have d3 : (4 : Int64).toInt = 4 := rfl; have d4 : (9999 : Int64).toInt = 9999 := rfl; have d5 : (9 : Int64).toInt = 9 := rfl; have d6 : (19 : Int64).toInt = 19 := rfl; have d7 : (143 : Int64).toInt = 143 := rfl; have d8 : (65535 : Int64).toInt = 65535 := rfl; simp only [mh_r] at *; omega⟩, hI0, hF0⟩⟩


def V_X10_air (B D : Int) (s0 : mh_H) (p1 : Int32) (p2 : Int32) (p3 : Int32) (p4 : Int32) : Int32 → mh_H → Prop := fun z s => mh_r z (0) (1) ∧ (z.toInt = 1 ↔ (mh_r p1 (0) (11) ∧ mh_r p2 (0) (11) ∧ mh_r p3 (0) (9999) ∧ mh_r p4 (0) (9999))) ∧ mh_I B D s ∧ mh_F S_X10_air s0 s
set_option maxRecDepth 100000 in
set_option maxHeartbeats 4000000 in
theorem v_X10_air (l : Launch) (G : mh_G) (d : Nat) {B D : Int} (hB : B ≤ 1940000000 ∧ D ≤ 1940000000) {s0 : mh_H} (hI0 : mh_I B D s0) (p1 : Int32) (p2 : Int32) (p3 : Int32) (p4 : Int32) : mh_Mi l G (d + 3) mM_X10_air [.ref (G.2.2.2 57), .int p1, .int p2, .int p3, .int p4] s0 (V_X10_air B D s0 p1 p2 p3 p4) := by
  refine mh_enter (lv := [(0, .ref (G.2.2.2 57)), (1, .int p1), (2, .int p2), (3, .int p3), (4, .int p4)]) (by decide) rfl (Nat.le_of_ble_eq_true rfl) ?_
  have hF0 : mh_F S_X10_air s0 s0 := mh_F_rf
  refine mw_iload_n 1 rfl 1 dX10_air_0 rfl rfl ?_
  refine mw_iload_n 2 rfl 2 dX10_air_1 rfl rfl ?_
  refine mw_callSi [.int p1, .int p2] [] 5 rfl dX10_air_2 ml_X10_166 mc_X10_isCell mk_X10_isCell (w_X10_isCell l G (d + 0) ⟨by omega, by omega⟩ hI0 p1 p2) rfl rfl (Nat.le_of_ble_eq_true rfl) (mh_rok (by omega) (by decide)) (fun x27 s28 q29 => ?_)
  obtain ⟨r_x27, e0_s28, rfl⟩ := q29
  refine mw_if_eq 8 rfl 33 dX10_air_5 (by decide) (fun c30 => ?_) (fun c30 => ?_)
  · skip
    have r_x27 : mh_r x27 (0) (0) := mh_eq1 (show x27.toInt = (0 : Int32).toInt from c30) r_x27 rc_0 (0) (0) (by decide)
    refine mw_iconst (v := 0) 34 rfl dX10_air_33 (by decide) ?_
    exact mw_zret dX10_air_34 rfl (mh_r_wk rc_0 (by decide)) ⟨(0), rfl, ⟨(mh_r_wk rc_0 (by decide)), ⟨fun h => absurd h (by decide), fun h => by exfalso; have c0 : (99 : Int32).toInt = 99 := rfl; have c1 : (4 : Int32).toInt = 4 := rfl; have c2 : (9999 : Int32).toInt = 9999 := rfl; have c3 : (9 : Int32).toInt = 9 := rfl; have c4 : (19 : Int32).toInt = 19 := rfl; have c5 : (143 : Int32).toInt = 143 := rfl; have c6 : (65535 : Int32).toInt = 65535 := rfl; have d0 : (0 : Int64).toInt = 0 := rfl; have d1 : (1 : Int64).toInt = 1 := rfl; have d2 : (99 : Int64).toInt = 99 := rfl; have d3 : (4 : Int64).toInt = 4 := rfl; have d4 : (9999 : Int64).toInt = 9999 := rfl; have d5 : (9 : Int64).toInt = 9 := rfl; have d6 : (19 : Int64).toInt = 19 := rfl; have d7 : (143 : Int64).toInt = 143 := rfl; have d8 : (65535 : Int64).toInt = 65535 := rfl; simp only [mh_r] at *; omega⟩, hI0, hF0⟩⟩
  · skip
    have r_p1 : mh_r p1 (0) (11) := ⟨by have := e0_s28.1 (mh_z1 r_x27 c30); have := ((mh_r_full p1)).1; omega, by have := e0_s28.1 (mh_z1 r_x27 c30); have := ((mh_r_full p1)).2; omega⟩
    have r_p2 : mh_r p2 (0) (11) := ⟨by have := e0_s28.1 (mh_z1 r_x27 c30); have := ((mh_r_full p2)).1; omega, by have := e0_s28.1 (mh_z1 r_x27 c30); have := ((mh_r_full p2)).2; omega⟩
    have r_x27 : mh_r x27 (1) (1) := mh_ne1 (show x27.toInt ≠ (0 : Int32).toInt from c30) r_x27 rc_0 (1) (1) (by decide)
    refine mw_iload_n 9 rfl 3 dX10_air_8 rfl rfl ?_
    refine mw_i2l 10 rfl dX10_air_9 (fun y31 t32 => ?_)
    refine mw_lconst (v := 0) 11 rfl dX10_air_10 (by decide) ?_
    refine mw_ldc2 14 rfl dX10_air_11 ck_X10_177 ?_
    refine mw_callSi [.long y31, .long (0), .long (9999)] [] 17 rfl dX10_air_14 ml_X10_154 mc_X10_lies mk_X10_lies (w_X10_lies l G (d + 2) ⟨by omega, by omega⟩ hI0 y31 (0) (9999)) rfl rfl (Nat.le_of_ble_eq_true rfl) (mh_rok (by omega) (by decide)) (fun x33 s34 q35 => ?_)
    obtain ⟨r_x33, e0_s34, rfl⟩ := q35
    have f_x33 : x33.toInt = 1 ↔ (0 ≤ p3.toInt ∧ p3.toInt ≤ 9999) := by rw [e0_s34]; exact by simp only [t32, Int32.toInt_toInt64]; first | done | exact Iff.rfl
    refine mw_if_eq 20 rfl 33 dX10_air_17 (by decide) (fun c36 => ?_) (fun c36 => ?_)
    · skip
      have r_x33 : mh_r x33 (0) (0) := mh_eq1 (show x33.toInt = (0 : Int32).toInt from c36) r_x33 rc_0 (0) (0) (by decide)
      refine mw_iconst (v := 0) 34 rfl dX10_air_33 (by decide) ?_
      exact mw_zret dX10_air_34 rfl (mh_r_wk rc_0 (by decide)) ⟨(0), rfl, ⟨(mh_r_wk rc_0 (by decide)), ⟨fun h => absurd h (by decide), fun h => by exfalso; have c0 : (99 : Int32).toInt = 99 := rfl; have c1 : (4 : Int32).toInt = 4 := rfl; have c2 : (9999 : Int32).toInt = 9999 := rfl; have c3 : (9 : Int32).toInt = 9 := rfl; have c4 : (19 : Int32).toInt = 19 := rfl; have c5 : (143 : Int32).toInt = 143 := rfl; have c6 : (65535 : Int32).toInt = 65535 := rfl; have d0 : (0 : Int64).toInt = 0 := rfl; have d1 : (1 : Int64).toInt = 1 := rfl; have d2 : (99 : Int64).toInt = 99 := rfl; have d3 : (4 : Int64).toInt = 4 := rfl; have d4 : (9999 : Int64).toInt = 9999 := rfl; have d5 : (9 : Int64).toInt = 9 := rfl; have d6 : (19 : Int64).toInt = 19 := rfl; have d7 : (143 : Int64).toInt = 143 := rfl; have d8 : (65535 : Int64).toInt = 65535 := rfl; simp only [mh_r] at *; omega⟩, hI0, hF0⟩⟩
    · skip
      have r_p3 : mh_r p3 (0) (9999) := ⟨by have := f_x33.1 (mh_z1 r_x33 c36); have := ((mh_r_full p3)).1; omega, by have := f_x33.1 (mh_z1 r_x33 c36); have := ((mh_r_full p3)).2; omega⟩
      have r_x33 : mh_r x33 (1) (1) := mh_ne1 (show x33.toInt ≠ (0 : Int32).toInt from c36) r_x33 rc_0 (1) (1) (by decide)
      refine mw_iload 22 rfl 4 dX10_air_20  rfl ?_
      refine mw_i2l 23 rfl dX10_air_22 (fun y37 t38 => ?_)
      refine mw_lconst (v := 0) 24 rfl dX10_air_23 (by decide) ?_
      refine mw_ldc2 27 rfl dX10_air_24 ck_X10_177 ?_
      refine mw_callSi [.long y37, .long (0), .long (9999)] [] 30 rfl dX10_air_27 ml_X10_154 mc_X10_lies mk_X10_lies (w_X10_lies l G (d + 2) ⟨by omega, by omega⟩ hI0 y37 (0) (9999)) rfl rfl (Nat.le_of_ble_eq_true rfl) (mh_rok (by omega) (by decide)) (fun x39 s40 q41 => ?_)
      obtain ⟨r_x39, e0_s40, rfl⟩ := q41
      have f_x39 : x39.toInt = 1 ↔ (0 ≤ p4.toInt ∧ p4.toInt ≤ 9999) := by rw [e0_s40]; exact by simp only [t38, Int32.toInt_toInt64]; first | done | exact Iff.rfl
      refine mw_if_ne 33 rfl 35 dX10_air_30 (by decide) (fun c42 => ?_) (fun c42 => ?_)
      · skip
        have r_p4 : mh_r p4 (0) (9999) := ⟨by have := f_x39.1 (mh_z1 r_x39 c42); have := ((mh_r_full p4)).1; omega, by have := f_x39.1 (mh_z1 r_x39 c42); have := ((mh_r_full p4)).2; omega⟩
        have r_x39 : mh_r x39 (1) (1) := mh_ne1 (show x39.toInt ≠ (0 : Int32).toInt from c42) r_x39 rc_0 (1) (1) (by decide)
        refine mw_aload_n 36 rfl 0 dX10_air_35 rfl rfl ?_
        refine mw_geta 39 rfl dX10_air_36 gf_X10_24 rfl 61 (mh_rf hI0 58 rfl) ?_
        refine mw_iload_n 40 rfl 1 dX10_air_39 rfl rfl ?_
        refine mw_iload_n 41 rfl 2 dX10_air_40 rfl rfl ?_
        refine mw_callSi [.int p1, .int p2] [.ref (G.2.2.2 61)] 44 rfl dX10_air_41 ml_X10_174 mc_X10_cellAt mk_X10_cellAt (w_X10_cellAt l G (d + 2) ⟨by omega, by omega⟩ hI0 p1 r_p1 p2 r_p2) rfl rfl (Nat.le_of_ble_eq_true rfl) (mh_rok (by omega) (by decide)) (fun x43 s44 q45 => ?_)
        obtain ⟨r_x43, rfl⟩ := q45
        refine mw_iload_n 45 rfl 3 dX10_air_44 rfl rfl ?_
        refine mw_iast 46 rfl dX10_air_45 rfl r_x43 (by decide) (fun s46 t47 => ?_)
        have hI_s46 : mh_I B D s46 := by rw [t47]; exact wr_61 hI0
        have hF_s46 : mh_F S_X10_air s0 s46 := by rw [t47]; exact mh_F_pI hF0 (mh_si 0 rfl)
        refine mw_aload_n 47 rfl 0 dX10_air_46 rfl rfl ?_
        refine mw_geta 50 rfl dX10_air_47 gf_X10_27 rfl 62 (mh_rf hI_s46 59 rfl) ?_
        refine mw_iload_n 51 rfl 1 dX10_air_50 rfl rfl ?_
        refine mw_iload_n 52 rfl 2 dX10_air_51 rfl rfl ?_
        refine mw_callSi [.int p1, .int p2] [.ref (G.2.2.2 62)] 55 rfl dX10_air_52 ml_X10_174 mc_X10_cellAt mk_X10_cellAt (w_X10_cellAt l G (d + 2) ⟨by omega, by omega⟩ hI_s46 p1 r_p1 p2 r_p2) rfl rfl (Nat.le_of_ble_eq_true rfl) (mh_rok (by omega) (by decide)) (fun x48 s49 q50 => ?_)
        obtain ⟨r_x48, rfl⟩ := q50
        refine mw_iload 57 rfl 4 dX10_air_55  rfl ?_
        refine mw_iast 58 rfl dX10_air_57 rfl r_x48 (by decide) (fun s51 t52 => ?_)
        have hI_s51 : mh_I B D s51 := by rw [t52]; exact wr_62 hI_s46
        have hF_s51 : mh_F S_X10_air s0 s51 := by rw [t52]; exact mh_F_pI hF_s46 (mh_si 1 rfl)
        refine mw_iconst (v := 1) 59 rfl dX10_air_58 (by decide) ?_
        exact mw_zret dX10_air_59 rfl (mh_r_wk rc_1 (by decide)) ⟨(1), rfl, ⟨(mh_r_wk rc_1 (by decide)), ⟨fun _ => ⟨r_p1, r_p2, r_p3, r_p4⟩, fun _ => rfl⟩, hI_s51, hF_s51⟩⟩
      · skip
        have r_x39 : mh_r x39 (0) (0) := mh_eq1 (show x39.toInt = (0 : Int32).toInt from c42) r_x39 rc_0 (0) (0) (by decide)
        refine mw_iconst (v := 0) 34 rfl dX10_air_33 (by decide) ?_
        exact mw_zret dX10_air_34 rfl (mh_r_wk rc_0 (by decide)) ⟨(0), rfl, ⟨(mh_r_wk rc_0 (by decide)), ⟨fun h => absurd h (by decide), fun h => by exfalso; have c0 : (99 : Int32).toInt = 99 := rfl; have c1 : (4 : Int32).toInt = 4 := rfl; have c2 : (9999 : Int32).toInt = 9999 := rfl; have c3 : (9 : Int32).toInt = 9 := rfl; have c4 : (19 : Int32).toInt = 19 := rfl; have c5 : (143 : Int32).toInt = 143 := rfl; have c6 : (65535 : Int32).toInt = 65535 := rfl; have d0 : (0 : Int64).toInt = 0 := rfl; have d1 : (1 : Int64).toInt = 1 := rfl; have d2 : (99 : Int64).toInt = 99 := rfl; have d3 : (4 : Int64).toInt = 4 := rfl; have d4 : (9999 : Int64).toInt = 9999 := rfl; have d5 : (9 : Int64).toInt = 9 := rfl; have d6 : (19 : Int64).toInt = 19 := rfl; have d7 : (143 : Int64).toInt = 143 := rfl; have d8 : (65535 : Int64).toInt = 65535 := rfl; simp only [mh_r] at *; omega⟩, hI0, hF0⟩⟩



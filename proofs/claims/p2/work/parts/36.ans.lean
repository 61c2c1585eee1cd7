def V_X9_ground (B D : Int) (s0 : mh_H) (p1 : Int32) (p2 : Int32) (p3 : Int32) (p4 : Int32) : Int32 → mh_H → Prop := fun z s => mh_r z (0) (1) ∧ (z.toInt = 1 ↔ (mh_r p1 (0) (11) ∧ mh_r p2 (0) (11) ∧ mh_r p3 (0) (99) ∧ mh_r p4 (0) (4))) ∧ mh_I B D s ∧ mh_F S_X9_ground s0 s
set_option maxRecDepth 100000 in
set_option maxHeartbeats 4000000 in
theorem v_X9_ground (l : Launch) (G : mh_G) (d : Nat) {B D : Int} (hB : B ≤ 1960000000 ∧ D ≤ 1960000000) {s0 : mh_H} (hI0 : mh_I B D s0) (p1 : Int32) (p2 : Int32) (p3 : Int32) (p4 : Int32) : mh_Mi l G (d + 2) mM_X9_ground [.ref (G.2.2.2 0), .int p1, .int p2, .int p3, .int p4] s0 (V_X9_ground B D s0 p1 p2 p3 p4) := by
  refine mh_enter (lv := [(0, .ref (G.2.2.2 0)), (1, .int p1), (2, .int p2), (3, .int p3), (4, .int p4)]) (by decide) rfl (Nat.le_of_ble_eq_true rfl) ?_
  have hF0 : mh_F S_X9_ground s0 s0 := mh_F_rf
  refine mw_iload_n 1 rfl 1 dX9_ground_0 rfl rfl ?_
  refine mw_iload_n 2 rfl 2 dX9_ground_1 rfl rfl ?_
  refine mw_callSi [.int p1, .int p2] [] 5 rfl dX9_ground_2 ml_X9_94 mc_X9_isPlace mk_X9_isPlace (w_X9_isPlace l G (d + 0) ⟨by omega, by omega⟩ hI0 p1 p2) rfl rfl (Nat.le_of_ble_eq_true rfl) (mh_rok (by omega) (by decide)) (fun x21 s22 q23 => ?_)
  obtain ⟨r_x21, e0_s22, rfl⟩ := q23
  refine mw_if_eq 8 rfl 26 dX9_ground_5 (by decide) (fun c24 => ?_) (fun c24 => ?_)
  · skip
    have r_x21 : mh_r x21 (0) (0) := mh_eq1 (show x21.toInt = (0 : Int32).toInt from c24) r_x21 rc_0 (0) (0) (by decide)
    refine mw_iconst (v := 0) 27 rfl dX9_ground_26 (by decide) ?_
    exact mw_zret dX9_ground_27 rfl (mh_r_wk rc_0 (by decide)) ⟨(0), rfl, ⟨(mh_r_wk rc_0 (by decide)), ⟨fun h => absurd h (by decide), fun h => by exfalso; have c0 : (99 : Int32).toInt = 99 := rfl; have c1 : (4 : Int32).toInt = 4 := rfl; have c2 : (0 : Int64).toInt = 0 := rfl; have c3 : (99 : Int64).toInt = 99 := rfl; have c4 : (4 : Int64).toInt = 4 := rfl; simp only [mh_r] at *; omega⟩, hI0, hF0⟩⟩
  · skip
    have r_p1 : mh_r p1 (0) (11) := ⟨by have := e0_s22.1 (mh_z1 r_x21 c24); have := ((mh_r_full p1)).1; omega, by have := e0_s22.1 (mh_z1 r_x21 c24); have := ((mh_r_full p1)).2; omega⟩
    have r_p2 : mh_r p2 (0) (11) := ⟨by have := e0_s22.1 (mh_z1 r_x21 c24); have := ((mh_r_full p2)).1; omega, by have := e0_s22.1 (mh_z1 r_x21 c24); have := ((mh_r_full p2)).2; omega⟩
    have r_x21 : mh_r x21 (1) (1) := mh_ne1 (show x21.toInt ≠ (0 : Int32).toInt from c24) r_x21 rc_0 (1) (1) (by decide)
    refine mw_iload_n 9 rfl 3 dX9_ground_8 rfl rfl ?_
    refine mw_bipush (v := 99) 11 rfl dX9_ground_9 (by decide) ?_
    refine mw_callSi [.int p3, .int (99)] [] 14 rfl dX9_ground_11 ml_X9_98 mc_X9_isWithin mk_X9_isWithin (w_X9_isWithin l G (d + 1) ⟨by omega, by omega⟩ hI0 p3 (99)) rfl rfl (Nat.le_of_ble_eq_true rfl) (mh_rok (by omega) (by decide)) (fun x25 s26 q27 => ?_)
    obtain ⟨r_x25, e0_s26, rfl⟩ := q27
    refine mw_if_eq 17 rfl 26 dX9_ground_14 (by decide) (fun c28 => ?_) (fun c28 => ?_)
    · skip
      have r_x25 : mh_r x25 (0) (0) := mh_eq1 (show x25.toInt = (0 : Int32).toInt from c28) r_x25 rc_0 (0) (0) (by decide)
      refine mw_iconst (v := 0) 27 rfl dX9_ground_26 (by decide) ?_
      exact mw_zret dX9_ground_27 rfl (mh_r_wk rc_0 (by decide)) ⟨(0), rfl, ⟨(mh_r_wk rc_0 (by decide)), ⟨fun h => absurd h (by decide), fun h => by exfalso; have c0 : (99 : Int32).toInt = 99 := rfl; have c1 : (4 : Int32).toInt = 4 := rfl; have c2 : (0 : Int64).toInt = 0 := rfl; have c3 : (99 : Int64).toInt = 99 := rfl; have c4 : (4 : Int64).toInt = 4 := rfl; simp only [mh_r] at *; omega⟩, hI0, hF0⟩⟩
    · skip
      have r_p3 : mh_r p3 (0) (99) := ⟨by have := e0_s26.1 (mh_z1 r_x25 c28); have := ((mh_r_full p3)).1; omega, by have := e0_s26.1 (mh_z1 r_x25 c28); have := ((mh_r_full p3)).2; have := (rc_99).2; omega⟩
      have r_x25 : mh_r x25 (1) (1) := mh_ne1 (show x25.toInt ≠ (0 : Int32).toInt from c28) r_x25 rc_0 (1) (1) (by decide)
      refine mw_iload 19 rfl 4 dX9_ground_17  rfl ?_
      refine mw_iconst (v := 4) 20 rfl dX9_ground_19 (by decide) ?_
      refine mw_callSi [.int p4, .int (4)] [] 23 rfl dX9_ground_20 ml_X9_98 mc_X9_isWithin mk_X9_isWithin (w_X9_isWithin l G (d + 1) ⟨by omega, by omega⟩ hI0 p4 (4)) rfl rfl (Nat.le_of_ble_eq_true rfl) (mh_rok (by omega) (by decide)) (fun x29 s30 q31 => ?_)
      obtain ⟨r_x29, e0_s30, rfl⟩ := q31
      refine mw_if_ne 26 rfl 28 dX9_ground_23 (by decide) (fun c32 => ?_) (fun c32 => ?_)
      · skip
        have r_p4 : mh_r p4 (0) (4) := ⟨by have := e0_s30.1 (mh_z1 r_x29 c32); have := ((mh_r_full p4)).1; omega, by have := e0_s30.1 (mh_z1 r_x29 c32); have := ((mh_r_full p4)).2; have := (rc_4).2; omega⟩
        have r_x29 : mh_r x29 (1) (1) := mh_ne1 (show x29.toInt ≠ (0 : Int32).toInt from c32) r_x29 rc_0 (1) (1) (by decide)
        refine mw_bipush (v := 12) 30 rfl dX9_ground_28 (by decide) ?_
        refine mw_iload_n 31 rfl 2 dX9_ground_30 rfl rfl ?_
        refine mw_imul 32 rfl (0) (132) dX9_ground_31 rc_12 r_p2 (by decide) (fun x33 t34 r_x33 => ?_)
        refine mw_iload_n 33 rfl 1 dX9_ground_32 rfl rfl ?_
        refine mw_iadd 34 rfl (0) (143) dX9_ground_33 r_x33 r_p1 (by decide) (fun x35 t36 r_x35 => ?_)
        refine mw_istore 36 rfl [(5, .int x35), (0, .ref (G.2.2.2 0)), (1, .int p1), (2, .int p2), (3, .int p3), (4, .int p4)] dX9_ground_34  (by decide) rfl ?_
        refine mw_aload_n 37 rfl 1 dX9_ground_36 rfl rfl ?_
        refine mw_geta 40 rfl dX9_ground_37 gf_X9_10 rfl 1 (mh_rf hI0 0 rfl) ?_
        refine mw_geta 43 rfl dX9_ground_40 gf_X9_101 rfl 2 (mh_rf hI0 11 rfl) ?_
        refine mw_iload 45 rfl 0 dX9_ground_43  rfl ?_
        refine mw_iload_n 46 rfl 4 dX9_ground_45 rfl rfl ?_
        refine mw_iast 47 rfl dX9_ground_46 rfl r_x35 (by decide) (fun s37 t38 => ?_)
        have hI_s37 : mh_I B D s37 := by rw [t38]; exact wr_2 hI0
        have hF_s37 : mh_F S_X9_ground s0 s37 := by rw [t38]; exact mh_F_pI hF0 (mh_si 0 rfl)
        refine mw_aload_n 48 rfl 1 dX9_ground_47 rfl rfl ?_
        refine mw_geta 51 rfl dX9_ground_48 gf_X9_10 rfl 1 (mh_rf hI_s37 0 rfl) ?_
        refine mw_geta 54 rfl dX9_ground_51 gf_X9_104 rfl 3 (mh_rf hI_s37 12 rfl) ?_
        refine mw_iload 56 rfl 0 dX9_ground_54  rfl ?_
        refine mw_iload 58 rfl 5 dX9_ground_56  rfl ?_
        refine mw_iast 59 rfl dX9_ground_58 rfl r_x35 (by decide) (fun s39 t40 => ?_)
        have hI_s39 : mh_I B D s39 := by rw [t40]; exact wr_3 hI_s37
        have hF_s39 : mh_F S_X9_ground s0 s39 := by rw [t40]; exact mh_F_pI hF_s37 (mh_si 1 rfl)
        refine mw_iconst (v := 1) 60 rfl dX9_ground_59 (by decide) ?_
        exact mw_zret dX9_ground_60 rfl (mh_r_wk rc_1 (by decide)) ⟨(1), rfl, ⟨(mh_r_wk rc_1 (by decide)), ⟨fun _ => ⟨r_p1, r_p2, r_p3, r_p4⟩, fun _ => rfl⟩, hI_s39, hF_s39⟩⟩
      · skip
        have r_x29 : mh_r x29 (0) (0) := mh_eq1 (show x29.toInt = (0 : Int32).toInt from c32) r_x29 rc_0 (0) (0) (by decide)
        refine mw_iconst (v := 0) 27 rfl dX9_ground_26 (by decide) ?_
        exact mw_zret dX9_ground_27 rfl (mh_r_wk rc_0 (by decide)) ⟨(0), rfl, ⟨(mh_r_wk rc_0 (by decide)), ⟨fun h => absurd h (by decide), fun h => by exfalso; have c0 : (99 : Int32).toInt = 99 := rfl; have c1 : (4 : Int32).toInt = 4 := rfl; have c2 : (0 : Int64).toInt = 0 := rfl; have c3 : (99 : Int64).toInt = 99 := rfl; have c4 : (4 : Int64).toInt = 4 := rfl; simp only [mh_r] at *; omega⟩, hI0, hF0⟩⟩


def V_X10_ground (B D : Int) (s0 : mh_H) (p1 : Int32) (p2 : Int32) (p3 : Int32) (p4 : Int32) : Int32 → mh_H → Prop := fun z s => mh_r z (0) (1) ∧ (z.toInt = 1 ↔ (mh_r p1 (0) (11) ∧ mh_r p2 (0) (11) ∧ mh_r p3 (0) (99) ∧ mh_r p4 (0) (4))) ∧ mh_I B D s ∧ mh_F S_X10_ground s0 s
set_option maxRecDepth 100000 in
set_option maxHeartbeats 4000000 in
theorem v_X10_ground (l : Launch) (G : mh_G) (d : Nat) {B D : Int} (hB : B ≤ 1940000000 ∧ D ≤ 1940000000) {s0 : mh_H} (hI0 : mh_I B D s0) (p1 : Int32) (p2 : Int32) (p3 : Int32) (p4 : Int32) : mh_Mi l G (d + 3) mM_X10_ground [.ref (G.2.2.2 57), .int p1, .int p2, .int p3, .int p4] s0 (V_X10_ground B D s0 p1 p2 p3 p4) := by
  refine mh_enter (lv := [(0, .ref (G.2.2.2 57)), (1, .int p1), (2, .int p2), (3, .int p3), (4, .int p4)]) (by decide) rfl (Nat.le_of_ble_eq_true rfl) ?_
  have hF0 : mh_F S_X10_ground s0 s0 := mh_F_rf
  refine mw_iload_n 1 rfl 1 dX10_ground_0 rfl rfl ?_
  refine mw_iload_n 2 rfl 2 dX10_ground_1 rfl rfl ?_
  refine mw_callSi [.int p1, .int p2] [] 5 rfl dX10_ground_2 ml_X10_166 mc_X10_isCell mk_X10_isCell (w_X10_isCell l G (d + 0) ⟨by omega, by omega⟩ hI0 p1 p2) rfl rfl (Nat.le_of_ble_eq_true rfl) (mh_rok (by omega) (by decide)) (fun x27 s28 q29 => ?_)
  obtain ⟨r_x27, e0_s28, rfl⟩ := q29
  refine mw_if_eq 8 rfl 33 dX10_ground_5 (by decide) (fun c30 => ?_) (fun c30 => ?_)
  · skip
    have r_x27 : mh_r x27 (0) (0) := mh_eq1 (show x27.toInt = (0 : Int32).toInt from c30) r_x27 rc_0 (0) (0) (by decide)
    refine mw_iconst (v := 0) 34 rfl dX10_ground_33 (by decide) ?_
    exact mw_zret dX10_ground_34 rfl (mh_r_wk rc_0 (by decide)) ⟨(0), rfl, ⟨(mh_r_wk rc_0 (by decide)), ⟨fun h => absurd h (by decide), fun h => by exfalso; have c0 : (99 : Int32).toInt = 99 := rfl; have c1 : (4 : Int32).toInt = 4 := rfl; have c2 : (0 : Int64).toInt = 0 := rfl; have c3 : (99 : Int64).toInt = 99 := rfl; have c4 : (4 : Int64).toInt = 4 := rfl; simp only [mh_r] at *; omega⟩, hI0, hF0⟩⟩
  · skip
    have r_p1 : mh_r p1 (0) (11) := ⟨by have := e0_s28.1 (mh_z1 r_x27 c30); have := ((mh_r_full p1)).1; omega, by have := e0_s28.1 (mh_z1 r_x27 c30); have := ((mh_r_full p1)).2; omega⟩
    have r_p2 : mh_r p2 (0) (11) := ⟨by have := e0_s28.1 (mh_z1 r_x27 c30); have := ((mh_r_full p2)).1; omega, by have := e0_s28.1 (mh_z1 r_x27 c30); have := ((mh_r_full p2)).2; omega⟩
    have r_x27 : mh_r x27 (1) (1) := mh_ne1 (show x27.toInt ≠ (0 : Int32).toInt from c30) r_x27 rc_0 (1) (1) (by decide)
    refine mw_iload_n 9 rfl 3 dX10_ground_8 rfl rfl ?_
    refine mw_i2l 10 rfl dX10_ground_9 (fun y31 t32 => ?_)
    refine mw_lconst (v := 0) 11 rfl dX10_ground_10 (by decide) ?_
    refine mw_ldc2 14 rfl dX10_ground_11 ck_X10_170 ?_
    refine mw_callSi [.long y31, .long (0), .long (99)] [] 17 rfl dX10_ground_14 ml_X10_154 mc_X10_lies mk_X10_lies (w_X10_lies l G (d + 2) ⟨by omega, by omega⟩ hI0 y31 (0) (99)) rfl rfl (Nat.le_of_ble_eq_true rfl) (mh_rok (by omega) (by decide)) (fun x33 s34 q35 => ?_)
    obtain ⟨r_x33, e0_s34, rfl⟩ := q35
    have f_x33 : x33.toInt = 1 ↔ (0 ≤ p3.toInt ∧ p3.toInt ≤ 99) := by rw [e0_s34]; exact by simp only [t32, Int32.toInt_toInt64]; first | done | exact Iff.rfl
    refine mw_if_eq 20 rfl 33 dX10_ground_17 (by decide) (fun c36 => ?_) (fun c36 => ?_)
    · skip
      have r_x33 : mh_r x33 (0) (0) := mh_eq1 (show x33.toInt = (0 : Int32).toInt from c36) r_x33 rc_0 (0) (0) (by decide)
      refine mw_iconst (v := 0) 34 rfl dX10_ground_33 (by decide) ?_
      exact mw_zret dX10_ground_34 rfl (mh_r_wk rc_0 (by decide)) ⟨(0), rfl, ⟨(mh_r_wk rc_0 (by decide)), ⟨fun h => absurd h (by decide), fun h => by exfalso; have c0 : (99 : Int32).toInt = 99 := rfl; have c1 : (4 : Int32).toInt = 4 := rfl; have c2 : (0 : Int64).toInt = 0 := rfl; have c3 : (99 : Int64).toInt = 99 := rfl; have c4 : (4 : Int64).toInt = 4 := rfl; simp only [mh_r] at *; omega⟩, hI0, hF0⟩⟩
    · skip
      have r_p3 : mh_r p3 (0) (99) := ⟨by have := f_x33.1 (mh_z1 r_x33 c36); have := ((mh_r_full p3)).1; omega, by have := f_x33.1 (mh_z1 r_x33 c36); have := ((mh_r_full p3)).2; omega⟩
      have r_x33 : mh_r x33 (1) (1) := mh_ne1 (show x33.toInt ≠ (0 : Int32).toInt from c36) r_x33 rc_0 (1) (1) (by decide)
      refine mw_iload 22 rfl 4 dX10_ground_20  rfl ?_
      refine mw_i2l 23 rfl dX10_ground_22 (fun y37 t38 => ?_)
      refine mw_lconst (v := 0) 24 rfl dX10_ground_23 (by decide) ?_
      refine mw_ldc2 27 rfl dX10_ground_24 ck_X10_172 ?_
      refine mw_callSi [.long y37, .long (0), .long (4)] [] 30 rfl dX10_ground_27 ml_X10_154 mc_X10_lies mk_X10_lies (w_X10_lies l G (d + 2) ⟨by omega, by omega⟩ hI0 y37 (0) (4)) rfl rfl (Nat.le_of_ble_eq_true rfl) (mh_rok (by omega) (by decide)) (fun x39 s40 q41 => ?_)
      obtain ⟨r_x39, e0_s40, rfl⟩ := q41
      have f_x39 : x39.toInt = 1 ↔ (0 ≤ p4.toInt ∧ p4.toInt ≤ 4) := by rw [e0_s40]; exact by simp only [t38, Int32.toInt_toInt64]; first | done | exact Iff.rfl
      refine mw_if_ne 33 rfl 35 dX10_ground_30 (by decide) (fun c42 => ?_) (fun c42 => ?_)
      · skip
        have r_p4 : mh_r p4 (0) (4) := ⟨by have := f_x39.1 (mh_z1 r_x39 c42); have := ((mh_r_full p4)).1; omega, by have := f_x39.1 (mh_z1 r_x39 c42); have := ((mh_r_full p4)).2; omega⟩
        have r_x39 : mh_r x39 (1) (1) := mh_ne1 (show x39.toInt ≠ (0 : Int32).toInt from c42) r_x39 rc_0 (1) (1) (by decide)
        refine mw_aload_n 36 rfl 0 dX10_ground_35 rfl rfl ?_
        refine mw_geta 39 rfl dX10_ground_36 gf_X10_17 rfl 59 (mh_rf hI0 56 rfl) ?_
        refine mw_iload_n 40 rfl 1 dX10_ground_39 rfl rfl ?_
        refine mw_iload_n 41 rfl 2 dX10_ground_40 rfl rfl ?_
        refine mw_callSi [.int p1, .int p2] [.ref (G.2.2.2 59)] 44 rfl dX10_ground_41 ml_X10_174 mc_X10_cellAt mk_X10_cellAt (w_X10_cellAt l G (d + 2) ⟨by omega, by omega⟩ hI0 p1 r_p1 p2 r_p2) rfl rfl (Nat.le_of_ble_eq_true rfl) (mh_rok (by omega) (by decide)) (fun x43 s44 q45 => ?_)
        obtain ⟨r_x43, rfl⟩ := q45
        refine mw_iload_n 45 rfl 3 dX10_ground_44 rfl rfl ?_
        refine mw_iast 46 rfl dX10_ground_45 rfl r_x43 (by decide) (fun s46 t47 => ?_)
        have hI_s46 : mh_I B D s46 := by rw [t47]; exact wr_59 hI0
        have hF_s46 : mh_F S_X10_ground s0 s46 := by rw [t47]; exact mh_F_pI hF0 (mh_si 0 rfl)
        refine mw_aload_n 47 rfl 0 dX10_ground_46 rfl rfl ?_
        refine mw_geta 50 rfl dX10_ground_47 gf_X10_21 rfl 60 (mh_rf hI_s46 57 rfl) ?_
        refine mw_iload_n 51 rfl 1 dX10_ground_50 rfl rfl ?_
        refine mw_iload_n 52 rfl 2 dX10_ground_51 rfl rfl ?_
        refine mw_callSi [.int p1, .int p2] [.ref (G.2.2.2 60)] 55 rfl dX10_ground_52 ml_X10_174 mc_X10_cellAt mk_X10_cellAt (w_X10_cellAt l G (d + 2) ⟨by omega, by omega⟩ hI_s46 p1 r_p1 p2 r_p2) rfl rfl (Nat.le_of_ble_eq_true rfl) (mh_rok (by omega) (by decide)) (fun x48 s49 q50 => ?_)
        obtain ⟨r_x48, rfl⟩ := q50
        refine mw_iload 57 rfl 4 dX10_ground_55  rfl ?_
        refine mw_iast 58 rfl dX10_ground_57 rfl r_x48 (by decide) (fun s51 t52 => ?_)
        have hI_s51 : mh_I B D s51 := by rw [t52]; exact wr_60 hI_s46
        have hF_s51 : mh_F S_X10_ground s0 s51 := by rw [t52]; exact mh_F_pI hF_s46 (mh_si 1 rfl)
        refine mw_iconst (v := 1) 59 rfl dX10_ground_58 (by decide) ?_
        exact mw_zret dX10_ground_59 rfl (mh_r_wk rc_1 (by decide)) ⟨(1), rfl, ⟨(mh_r_wk rc_1 (by decide)), ⟨fun _ => ⟨r_p1, r_p2, r_p3, r_p4⟩, fun _ => rfl⟩, hI_s51, hF_s51⟩⟩
      · skip
        have r_x39 : mh_r x39 (0) (0) := mh_eq1 (show x39.toInt = (0 : Int32).toInt from c42) r_x39 rc_0 (0) (0) (by decide)
        refine mw_iconst (v := 0) 34 rfl dX10_ground_33 (by decide) ?_
        exact mw_zret dX10_ground_34 rfl (mh_r_wk rc_0 (by decide)) ⟨(0), rfl, ⟨(mh_r_wk rc_0 (by decide)), ⟨fun h => absurd h (by decide), fun h => by exfalso; have c0 : (99 : Int32).toInt = 99 := rfl; have c1 : (4 : Int32).toInt = 4 := rfl; have c2 : (0 : Int64).toInt = 0 := rfl; have c3 : (99 : Int64).toInt = 99 := rfl; have c4 : (4 : Int64).toInt = 4 := rfl; simp only [mh_r] at *; omega⟩, hI0, hF0⟩⟩



def S_X9_air : List (Nat × Nat) := [(4, 9999), (5, 9999)]
def P_X9_air (B D : Int) (s0 : mh_H) (p1 : Int32) (p2 : Int32) (p3 : Int32) (p4 : Int32) : Int32 → mh_H → Prop := fun z s => mh_r z (0) (1) ∧ mh_I B D s ∧ mh_F S_X9_air s0 s
set_option maxRecDepth 100000 in
set_option maxHeartbeats 4000000 in
theorem w_X9_air (l : Launch) (G : mh_G) (d : Nat) {B D : Int} (hB : B ≤ 1960000000 ∧ D ≤ 1960000000) {s0 : mh_H} (hI0 : mh_I B D s0) (p1 : Int32) (p2 : Int32) (p3 : Int32) (p4 : Int32) : mh_Mi l G (d + 2) mM_X9_air [.ref (G.2.2.2 0), .int p1, .int p2, .int p3, .int p4] s0 (P_X9_air B D s0 p1 p2 p3 p4) := by
  refine mh_enter (lv := [(0, .ref (G.2.2.2 0)), (1, .int p1), (2, .int p2), (3, .int p3), (4, .int p4)]) (by decide) rfl (Nat.le_of_ble_eq_true rfl) ?_
  have hF0 : mh_F S_X9_air s0 s0 := mh_F_rf
  refine mw_iload_n 1 rfl 1 dX9_air_0 rfl rfl ?_
  refine mw_iload_n 2 rfl 2 dX9_air_1 rfl rfl ?_
  refine mw_callSi [.int p1, .int p2] [] 5 rfl dX9_air_2 ml_X9_94 mc_X9_isPlace mk_X9_isPlace (w_X9_isPlace l G (d + 0) ⟨by omega, by omega⟩ hI0 p1 p2) rfl rfl (Nat.le_of_ble_eq_true rfl) (mh_rok (by omega) (by decide)) (fun x21 s22 q23 => ?_)
  obtain ⟨r_x21, e0_s22, rfl⟩ := q23
  refine mw_if_eq 8 rfl 29 dX9_air_5 (by decide) (fun c24 => ?_) (fun c24 => ?_)
  · skip
    have r_x21 : mh_r x21 (0) (0) := mh_eq1 (show x21.toInt = (0 : Int32).toInt from c24) r_x21 rc_0 (0) (0) (by decide)
    refine mw_iconst (v := 0) 30 rfl dX9_air_29 (by decide) ?_
    exact mw_zret dX9_air_30 rfl (mh_r_wk rc_0 (by decide)) ⟨(0), rfl, ⟨(mh_r_wk rc_0 (by decide)), hI0, hF0⟩⟩
  · skip
    have r_p1 : mh_r p1 (0) (11) := ⟨by have := e0_s22.1 (mh_z1 r_x21 c24); have := ((mh_r_full p1)).1; omega, by have := e0_s22.1 (mh_z1 r_x21 c24); have := ((mh_r_full p1)).2; omega⟩
    have r_p2 : mh_r p2 (0) (11) := ⟨by have := e0_s22.1 (mh_z1 r_x21 c24); have := ((mh_r_full p2)).1; omega, by have := e0_s22.1 (mh_z1 r_x21 c24); have := ((mh_r_full p2)).2; omega⟩
    have r_x21 : mh_r x21 (1) (1) := mh_ne1 (show x21.toInt ≠ (0 : Int32).toInt from c24) r_x21 rc_0 (1) (1) (by decide)
    refine mw_iload_n 9 rfl 3 dX9_air_8 rfl rfl ?_
    refine mw_sipush (v := 9999) 12 rfl dX9_air_9 (by decide) ?_
    refine mw_callSi [.int p3, .int (9999)] [] 15 rfl dX9_air_12 ml_X9_98 mc_X9_isWithin mk_X9_isWithin (w_X9_isWithin l G (d + 1) ⟨by omega, by omega⟩ hI0 p3 (9999)) rfl rfl (Nat.le_of_ble_eq_true rfl) (mh_rok (by omega) (by decide)) (fun x25 s26 q27 => ?_)
    obtain ⟨r_x25, e0_s26, rfl⟩ := q27
    refine mw_if_eq 18 rfl 29 dX9_air_15 (by decide) (fun c28 => ?_) (fun c28 => ?_)
    · skip
      have r_x25 : mh_r x25 (0) (0) := mh_eq1 (show x25.toInt = (0 : Int32).toInt from c28) r_x25 rc_0 (0) (0) (by decide)
      refine mw_iconst (v := 0) 30 rfl dX9_air_29 (by decide) ?_
      exact mw_zret dX9_air_30 rfl (mh_r_wk rc_0 (by decide)) ⟨(0), rfl, ⟨(mh_r_wk rc_0 (by decide)), hI0, hF0⟩⟩
    · skip
      have r_p3 : mh_r p3 (0) (9999) := ⟨by have := e0_s26.1 (mh_z1 r_x25 c28); have := ((mh_r_full p3)).1; omega, by have := e0_s26.1 (mh_z1 r_x25 c28); have := ((mh_r_full p3)).2; have := (rc_9999).2; omega⟩
      have r_x25 : mh_r x25 (1) (1) := mh_ne1 (show x25.toInt ≠ (0 : Int32).toInt from c28) r_x25 rc_0 (1) (1) (by decide)
      refine mw_iload 20 rfl 4 dX9_air_18  rfl ?_
      refine mw_sipush (v := 9999) 23 rfl dX9_air_20 (by decide) ?_
      refine mw_callSi [.int p4, .int (9999)] [] 26 rfl dX9_air_23 ml_X9_98 mc_X9_isWithin mk_X9_isWithin (w_X9_isWithin l G (d + 1) ⟨by omega, by omega⟩ hI0 p4 (9999)) rfl rfl (Nat.le_of_ble_eq_true rfl) (mh_rok (by omega) (by decide)) (fun x29 s30 q31 => ?_)
      obtain ⟨r_x29, e0_s30, rfl⟩ := q31
      refine mw_if_ne 29 rfl 31 dX9_air_26 (by decide) (fun c32 => ?_) (fun c32 => ?_)
      · skip
        have r_p4 : mh_r p4 (0) (9999) := ⟨by have := e0_s30.1 (mh_z1 r_x29 c32); have := ((mh_r_full p4)).1; omega, by have := e0_s30.1 (mh_z1 r_x29 c32); have := ((mh_r_full p4)).2; have := (rc_9999).2; omega⟩
        have r_x29 : mh_r x29 (1) (1) := mh_ne1 (show x29.toInt ≠ (0 : Int32).toInt from c32) r_x29 rc_0 (1) (1) (by decide)
        refine mw_bipush (v := 12) 33 rfl dX9_air_31 (by decide) ?_
        refine mw_iload_n 34 rfl 2 dX9_air_33 rfl rfl ?_
        refine mw_imul 35 rfl (0) (132) dX9_air_34 rc_12 r_p2 (by decide) (fun x33 t34 r_x33 => ?_)
        refine mw_iload_n 36 rfl 1 dX9_air_35 rfl rfl ?_
        refine mw_iadd 37 rfl (0) (143) dX9_air_36 r_x33 r_p1 (by decide) (fun x35 t36 r_x35 => ?_)
        refine mw_istore 39 rfl [(5, .int x35), (0, .ref (G.2.2.2 0)), (1, .int p1), (2, .int p2), (3, .int p3), (4, .int p4)] dX9_air_37  (by decide) rfl ?_
        refine mw_aload_n 40 rfl 1 dX9_air_39 rfl rfl ?_
        refine mw_geta 43 rfl dX9_air_40 gf_X9_10 rfl 1 (mh_rf hI0 0 rfl) ?_
        refine mw_geta 46 rfl dX9_air_43 gf_X9_107 rfl 4 (mh_rf hI0 13 rfl) ?_
        refine mw_iload 48 rfl 0 dX9_air_46  rfl ?_
        refine mw_iload_n 49 rfl 4 dX9_air_48 rfl rfl ?_
        refine mw_iast 50 rfl dX9_air_49 rfl r_x35 (by decide) (fun s37 t38 => ?_)
        have hI_s37 : mh_I B D s37 := by rw [t38]; exact wr_4 hI0
        have hF_s37 : mh_F S_X9_air s0 s37 := by rw [t38]; exact mh_F_pI hF0 (mh_si 0 rfl)
        refine mw_aload_n 51 rfl 1 dX9_air_50 rfl rfl ?_
        refine mw_geta 54 rfl dX9_air_51 gf_X9_10 rfl 1 (mh_rf hI_s37 0 rfl) ?_
        refine mw_geta 57 rfl dX9_air_54 gf_X9_110 rfl 5 (mh_rf hI_s37 14 rfl) ?_
        refine mw_iload 59 rfl 0 dX9_air_57  rfl ?_
        refine mw_iload 61 rfl 5 dX9_air_59  rfl ?_
        refine mw_iast 62 rfl dX9_air_61 rfl r_x35 (by decide) (fun s39 t40 => ?_)
        have hI_s39 : mh_I B D s39 := by rw [t40]; exact wr_5 hI_s37
        have hF_s39 : mh_F S_X9_air s0 s39 := by rw [t40]; exact mh_F_pI hF_s37 (mh_si 1 rfl)
        refine mw_iconst (v := 1) 63 rfl dX9_air_62 (by decide) ?_
        exact mw_zret dX9_air_63 rfl (mh_r_wk rc_1 (by decide)) ⟨(1), rfl, ⟨(mh_r_wk rc_1 (by decide)), hI_s39, hF_s39⟩⟩
      · skip
        have r_x29 : mh_r x29 (0) (0) := mh_eq1 (show x29.toInt = (0 : Int32).toInt from c32) r_x29 rc_0 (0) (0) (by decide)
        refine mw_iconst (v := 0) 30 rfl dX9_air_29 (by decide) ?_
        exact mw_zret dX9_air_30 rfl (mh_r_wk rc_0 (by decide)) ⟨(0), rfl, ⟨(mh_r_wk rc_0 (by decide)), hI0, hF0⟩⟩

def S_X9_ground : List (Nat × Nat) := [(2, 9999), (3, 9999)]
def P_X9_ground (B D : Int) (s0 : mh_H) (p1 : Int32) (p2 : Int32) (p3 : Int32) (p4 : Int32) : Int32 → mh_H → Prop := fun z s => mh_r z (0) (1) ∧ mh_I B D s ∧ mh_F S_X9_ground s0 s
set_option maxRecDepth 100000 in
set_option maxHeartbeats 4000000 in
theorem w_X9_ground (l : Launch) (G : mh_G) (d : Nat) {B D : Int} (hB : B ≤ 1960000000 ∧ D ≤ 1960000000) {s0 : mh_H} (hI0 : mh_I B D s0) (p1 : Int32) (p2 : Int32) (p3 : Int32) (p4 : Int32) : mh_Mi l G (d + 2) mM_X9_ground [.ref (G.2.2.2 0), .int p1, .int p2, .int p3, .int p4] s0 (P_X9_ground B D s0 p1 p2 p3 p4) := by
  refine mh_enter (lv := [(0, .ref (G.2.2.2 0)), (1, .int p1), (2, .int p2), (3, .int p3), (4, .int p4)]) (by decide) rfl (Nat.le_of_ble_eq_true rfl) ?_
  have hF0 : mh_F S_X9_ground s0 s0 := mh_F_rf
  refine mw_iload_n 1 rfl 1 dX9_ground_0 rfl rfl ?_
  refine mw_iload_n 2 rfl 2 dX9_ground_1 rfl rfl ?_
  refine mw_callSi [.int p1, .int p2] [] 5 rfl dX9_ground_2 ml_X9_94 mc_X9_isPlace mk_X9_isPlace (w_X9_isPlace l G (d + 0) ⟨by omega, by omega⟩ hI0 p1 p2) rfl rfl (Nat.le_of_ble_eq_true rfl) (mh_rok (by omega) (by decide)) (fun x21 s22 q23 => ?_)
  obtain ⟨r_x21, e0_s22, rfl⟩ := q23
  refine mw_if_eq 8 rfl 26 dX9_ground_5 (by decide) (fun c24 => ?_) (fun c24 => ?_)
  · skip
    have r_x21 : mh_r x21 (0) (0) := mh_eq1 (show x21.toInt = (0 : Int32).toInt from c24) r_x21 rc_0 (0) (0) (by decide)
    refine mw_iconst (v := 0) 27 rfl dX9_ground_26 (by decide) ?_
    exact mw_zret dX9_ground_27 rfl (mh_r_wk rc_0 (by decide)) ⟨(0), rfl, ⟨(mh_r_wk rc_0 (by decide)), hI0, hF0⟩⟩
  · skip
    have r_p1 : mh_r p1 (0) (11) := ⟨by have := e0_s22.1 (mh_z1 r_x21 c24); have := ((mh_r_full p1)).1; omega, by have := e0_s22.1 (mh_z1 r_x21 c24); have := ((mh_r_full p1)).2; omega⟩
    have r_p2 : mh_r p2 (0) (11) := ⟨by have := e0_s22.1 (mh_z1 r_x21 c24); have := ((mh_r_full p2)).1; omega, by have := e0_s22.1 (mh_z1 r_x21 c24); have := ((mh_r_full p2)).2; omega⟩
    have r_x21 : mh_r x21 (1) (1) := mh_ne1 (show x21.toInt ≠ (0 : Int32).toInt from c24) r_x21 rc_0 (1) (1) (by decide)
    refine mw_iload_n 9 rfl 3 dX9_ground_8 rfl rfl ?_
    refine mw_bipush (v := 99) 11 rfl dX9_ground_9 (by decide) ?_
    refine mw_callSi [.int p3, .int (99)] [] 14 rfl dX9_ground_11 ml_X9_98 mc_X9_isWithin mk_X9_isWithin (w_X9_isWithin l G (d + 1) ⟨by omega, by omega⟩ hI0 p3 (99)) rfl rfl (Nat.le_of_ble_eq_true rfl) (mh_rok (by omega) (by decide)) (fun x25 s26 q27 => ?_)
    obtain ⟨r_x25, e0_s26, rfl⟩ := q27
    refine mw_if_eq 17 rfl 26 dX9_ground_14 (by decide) (fun c28 => ?_) (fun c28 => ?_)
    · skip
      have r_x25 : mh_r x25 (0) (0) := mh_eq1 (show x25.toInt = (0 : Int32).toInt from c28) r_x25 rc_0 (0) (0) (by decide)
      refine mw_iconst (v := 0) 27 rfl dX9_ground_26 (by decide) ?_
      exact mw_zret dX9_ground_27 rfl (mh_r_wk rc_0 (by decide)) ⟨(0), rfl, ⟨(mh_r_wk rc_0 (by decide)), hI0, hF0⟩⟩
    · skip
      have r_p3 : mh_r p3 (0) (99) := ⟨by have := e0_s26.1 (mh_z1 r_x25 c28); have := ((mh_r_full p3)).1; omega, by have := e0_s26.1 (mh_z1 r_x25 c28); have := ((mh_r_full p3)).2; have := (rc_99).2; omega⟩
      have r_x25 : mh_r x25 (1) (1) := mh_ne1 (show x25.toInt ≠ (0 : Int32).toInt from c28) r_x25 rc_0 (1) (1) (by decide)
      refine mw_iload 19 rfl 4 dX9_ground_17  rfl ?_
      refine mw_iconst (v := 4) 20 rfl dX9_ground_19 (by decide) ?_
      refine mw_callSi [.int p4, .int (4)] [] 23 rfl dX9_ground_20 ml_X9_98 mc_X9_isWithin mk_X9_isWithin (w_X9_isWithin l G (d + 1) ⟨by omega, by omega⟩ hI0 p4 (4)) rfl rfl (Nat.le_of_ble_eq_true rfl) (mh_rok (by omega) (by decide)) (fun x29 s30 q31 => ?_)
      obtain ⟨r_x29, e0_s30, rfl⟩ := q31
      refine mw_if_ne 26 rfl 28 dX9_ground_23 (by decide) (fun c32 => ?_) (fun c32 => ?_)
      · skip
        have r_p4 : mh_r p4 (0) (4) := ⟨by have := e0_s30.1 (mh_z1 r_x29 c32); have := ((mh_r_full p4)).1; omega, by have := e0_s30.1 (mh_z1 r_x29 c32); have := ((mh_r_full p4)).2; have := (rc_4).2; omega⟩
        have r_x29 : mh_r x29 (1) (1) := mh_ne1 (show x29.toInt ≠ (0 : Int32).toInt from c32) r_x29 rc_0 (1) (1) (by decide)
        refine mw_bipush (v := 12) 30 rfl dX9_ground_28 (by decide) ?_
        refine mw_iload_n 31 rfl 2 dX9_ground_30 rfl rfl ?_
        refine mw_imul 32 rfl (0) (132) dX9_ground_31 rc_12 r_p2 (by decide) (fun x33 t34 r_x33 => ?_)
        refine mw_iload_n 33 rfl 1 dX9_ground_32 rfl rfl ?_
        refine mw_iadd 34 rfl (0) (143) dX9_ground_33 r_x33 r_p1 (by decide) (fun x35 t36 r_x35 => ?_)
        refine mw_istore 36 rfl [(5, .int x35), (0, .ref (G.2.2.2 0)), (1, .int p1), (2, .int p2), (3, .int p3), (4, .int p4)] dX9_ground_34  (by decide) rfl ?_
        refine mw_aload_n 37 rfl 1 dX9_ground_36 rfl rfl ?_
        refine mw_geta 40 rfl dX9_ground_37 gf_X9_10 rfl 1 (mh_rf hI0 0 rfl) ?_
        refine mw_geta 43 rfl dX9_ground_40 gf_X9_101 rfl 2 (mh_rf hI0 11 rfl) ?_
        refine mw_iload 45 rfl 0 dX9_ground_43  rfl ?_
        refine mw_iload_n 46 rfl 4 dX9_ground_45 rfl rfl ?_
        refine mw_iast 47 rfl dX9_ground_46 rfl r_x35 (by decide) (fun s37 t38 => ?_)
        have hI_s37 : mh_I B D s37 := by rw [t38]; exact wr_2 hI0
        have hF_s37 : mh_F S_X9_ground s0 s37 := by rw [t38]; exact mh_F_pI hF0 (mh_si 0 rfl)
        refine mw_aload_n 48 rfl 1 dX9_ground_47 rfl rfl ?_
        refine mw_geta 51 rfl dX9_ground_48 gf_X9_10 rfl 1 (mh_rf hI_s37 0 rfl) ?_
        refine mw_geta 54 rfl dX9_ground_51 gf_X9_104 rfl 3 (mh_rf hI_s37 12 rfl) ?_
        refine mw_iload 56 rfl 0 dX9_ground_54  rfl ?_
        refine mw_iload 58 rfl 5 dX9_ground_56  rfl ?_
        refine mw_iast 59 rfl dX9_ground_58 rfl r_x35 (by decide) (fun s39 t40 => ?_)
        have hI_s39 : mh_I B D s39 := by rw [t40]; exact wr_3 hI_s37
        have hF_s39 : mh_F S_X9_ground s0 s39 := by rw [t40]; exact mh_F_pI hF_s37 (mh_si 1 rfl)
        refine mw_iconst (v := 1) 60 rfl dX9_ground_59 (by decide) ?_
        exact mw_zret dX9_ground_60 rfl (mh_r_wk rc_1 (by decide)) ⟨(1), rfl, ⟨(mh_r_wk rc_1 (by decide)), hI_s39, hF_s39⟩⟩
      · skip
        have r_x29 : mh_r x29 (0) (0) := mh_eq1 (show x29.toInt = (0 : Int32).toInt from c32) r_x29 rc_0 (0) (0) (by decide)
        refine mw_iconst (v := 0) 27 rfl dX9_ground_26 (by decide) ?_
        exact mw_zret dX9_ground_27 rfl (mh_r_wk rc_0 (by decide)) ⟨(0), rfl, ⟨(mh_r_wk rc_0 (by decide)), hI0, hF0⟩⟩

def S_X9_wind : List (Nat × Nat) := [(6, 9999)]
def P_X9_wind (B D : Int) (s0 : mh_H) (p1 : Int32) (p2 : Int32) : Int32 → mh_H → Prop := fun z s => mh_r z (0) (1) ∧ mh_I B D s ∧ mh_F S_X9_wind s0 s
set_option maxRecDepth 100000 in
set_option maxHeartbeats 4000000 in
theorem w_X9_wind (l : Launch) (G : mh_G) (d : Nat) {B D : Int} (hB : B ≤ 1980000000 ∧ D ≤ 1980000000) {s0 : mh_H} (hI0 : mh_I B D s0) (p1 : Int32) (p2 : Int32) : mh_Mi l G (d + 1) mM_X9_wind [.ref (G.2.2.2 0), .int p1, .int p2] s0 (P_X9_wind B D s0 p1 p2) := by
  refine mh_enter (lv := [(0, .ref (G.2.2.2 0)), (1, .int p1), (2, .int p2)]) (by decide) rfl (Nat.le_of_ble_eq_true rfl) ?_
  have hF0 : mh_F S_X9_wind s0 s0 := mh_F_rf
  refine mw_iload_n 1 rfl 1 dX9_wind_0 rfl rfl ?_
  refine mw_bipush (v := 99) 3 rfl dX9_wind_1 (by decide) ?_
  refine mw_callSi [.int p1, .int (99)] [] 6 rfl dX9_wind_3 ml_X9_98 mc_X9_isWithin mk_X9_isWithin (w_X9_isWithin l G (d + 0) ⟨by omega, by omega⟩ hI0 p1 (99)) rfl rfl (Nat.le_of_ble_eq_true rfl) (mh_rok (by omega) (by decide)) (fun x11 s12 q13 => ?_)
  obtain ⟨r_x11, e0_s12, rfl⟩ := q13
  refine mw_if_eq 9 rfl 18 dX9_wind_6 (by decide) (fun c14 => ?_) (fun c14 => ?_)
  · skip
    have r_x11 : mh_r x11 (0) (0) := mh_eq1 (show x11.toInt = (0 : Int32).toInt from c14) r_x11 rc_0 (0) (0) (by decide)
    refine mw_iconst (v := 0) 19 rfl dX9_wind_18 (by decide) ?_
    exact mw_zret dX9_wind_19 rfl (mh_r_wk rc_0 (by decide)) ⟨(0), rfl, ⟨(mh_r_wk rc_0 (by decide)), hI0, hF0⟩⟩
  · skip
    have r_p1 : mh_r p1 (0) (99) := ⟨by have := e0_s12.1 (mh_z1 r_x11 c14); have := ((mh_r_full p1)).1; omega, by have := e0_s12.1 (mh_z1 r_x11 c14); have := ((mh_r_full p1)).2; have := (rc_99).2; omega⟩
    have r_x11 : mh_r x11 (1) (1) := mh_ne1 (show x11.toInt ≠ (0 : Int32).toInt from c14) r_x11 rc_0 (1) (1) (by decide)
    refine mw_iload_n 10 rfl 2 dX9_wind_9 rfl rfl ?_
    refine mw_bipush (v := 9) 12 rfl dX9_wind_10 (by decide) ?_
    refine mw_callSi [.int p2, .int (9)] [] 15 rfl dX9_wind_12 ml_X9_98 mc_X9_isWithin mk_X9_isWithin (w_X9_isWithin l G (d + 0) ⟨by omega, by omega⟩ hI0 p2 (9)) rfl rfl (Nat.le_of_ble_eq_true rfl) (mh_rok (by omega) (by decide)) (fun x15 s16 q17 => ?_)
    obtain ⟨r_x15, e0_s16, rfl⟩ := q17
    refine mw_if_ne 18 rfl 20 dX9_wind_15 (by decide) (fun c18 => ?_) (fun c18 => ?_)
    · skip
      have r_p2 : mh_r p2 (0) (9) := ⟨by have := e0_s16.1 (mh_z1 r_x15 c18); have := ((mh_r_full p2)).1; omega, by have := e0_s16.1 (mh_z1 r_x15 c18); have := ((mh_r_full p2)).2; have := (rc_9).2; omega⟩
      have r_x15 : mh_r x15 (1) (1) := mh_ne1 (show x15.toInt ≠ (0 : Int32).toInt from c18) r_x15 rc_0 (1) (1) (by decide)
      refine mw_aload_n 21 rfl 0 dX9_wind_20 rfl rfl ?_
      refine mw_geta 24 rfl dX9_wind_21 gf_X9_10 rfl 1 (mh_rf hI0 0 rfl) ?_
      refine mw_geta 27 rfl dX9_wind_24 gf_X9_113 rfl 6 (mh_rf hI0 15 rfl) ?_
      refine mw_iload_n 28 rfl 1 dX9_wind_27 rfl rfl ?_
      refine mw_iload_n 29 rfl 2 dX9_wind_28 rfl rfl ?_
      refine mw_iast 30 rfl dX9_wind_29 rfl r_p1 (by decide) (fun s19 t20 => ?_)
      have hI_s19 : mh_I B D s19 := by rw [t20]; exact wr_6 hI0
      have hF_s19 : mh_F S_X9_wind s0 s19 := by rw [t20]; exact mh_F_pI hF0 (mh_si 0 rfl)
      refine mw_iconst (v := 1) 31 rfl dX9_wind_30 (by decide) ?_
      exact mw_zret dX9_wind_31 rfl (mh_r_wk rc_1 (by decide)) ⟨(1), rfl, ⟨(mh_r_wk rc_1 (by decide)), hI_s19, hF_s19⟩⟩
    · skip
      have r_x15 : mh_r x15 (0) (0) := mh_eq1 (show x15.toInt = (0 : Int32).toInt from c18) r_x15 rc_0 (0) (0) (by decide)
      refine mw_iconst (v := 0) 19 rfl dX9_wind_18 (by decide) ?_
      exact mw_zret dX9_wind_19 rfl (mh_r_wk rc_0 (by decide)) ⟨(0), rfl, ⟨(mh_r_wk rc_0 (by decide)), hI0, hF0⟩⟩

def S_X9_feed : List (Nat × Nat) := [(38, 9999), (37, 1)]
def P_X9_feed (B D : Int) (s0 : mh_H) (p1 : Int32) (p2 : Int32) (p3 : Int32) (p4 : Int32) (p5 : Int32) : Int32 → mh_H → Prop := fun z s => mh_r z (-1) (220) ∧ mh_I B D s ∧ mh_F S_X9_feed s0 s
set_option maxRecDepth 100000 in
set_option maxHeartbeats 4000000 in
theorem w_X9_feed (l : Launch) (G : mh_G) (d : Nat) {B D : Int} (hB : B ≤ 1980000000 ∧ D ≤ 1980000000) {s0 : mh_H} (hI0 : mh_I B D s0) (p1 : Int32) (p2 : Int32) (p3 : Int32) (p4 : Int32) (p5 : Int32) : mh_Mi l G (d + 1) mM_X9_feed [.ref (G.2.2.2 0), .int p1, .int p2, .int p3, .int p4, .int p5] s0 (P_X9_feed B D s0 p1 p2 p3 p4 p5) := by
  refine mh_enter (lv := [(0, .ref (G.2.2.2 0)), (1, .int p1), (2, .int p2), (3, .int p3), (4, .int p4), (5, .int p5)]) (by decide) rfl (Nat.le_of_ble_eq_true rfl) ?_
  have hF0 : mh_F S_X9_feed s0 s0 := mh_F_rf
  refine mw_aload_n 1 rfl 0 dX9_feed_0 rfl rfl ?_
  refine mw_geta 4 rfl dX9_feed_1 gf_X9_60 rfl 37 (mh_rf hI0 8 rfl) ?_
  refine mw_geti 7 rfl dX9_feed_4 gf_X9_116 rfl (fun x21 t22 => ?_)
  have r_x21 : mh_r x21 (0) (220) := by rw [t22]; exact rd_37_1 hI0
  refine mw_sipush (v := 200) 10 rfl dX9_feed_7 (by decide) ?_
  refine mw_icmp_le 13 rfl 15 dX9_feed_10 (by decide) (fun c23 => ?_) (fun c23 => ?_)
  · skip
    have r_x21 : mh_r x21 (0) (200) := mh_le1 c23 r_x21 rc_200 (200) (by decide)
    refine mw_aload_n 16 rfl 0 dX9_feed_15 rfl rfl ?_
    refine mw_geta 19 rfl dX9_feed_16 gf_X9_60 rfl 37 (mh_rf hI0 8 rfl) ?_
    refine mw_iload_n 20 rfl 1 dX9_feed_19 rfl rfl ?_
    refine mw_callVv [.int p1] [] 23 rfl dX9_feed_20 ml_X9_120 mc_X7_put mk_X7_put rfl rfl (by decide) (w_X7_put l G (d + 0) ⟨by omega, by omega⟩ hI0 p1) rfl rfl (Nat.le_of_ble_eq_true rfl) (mh_rok (by omega) (by decide)) (fun s25 q26 => ?_)
    obtain ⟨hI_s25, hG_s25⟩ := q26
    have hF_s25 : mh_F S_X9_feed s0 s25 := mh_F_tl hF0 hG_s25 (by decide +kernel)
    refine mw_aload_n 24 rfl 0 dX9_feed_23 rfl rfl ?_
    refine mw_geta 27 rfl dX9_feed_24 gf_X9_60 rfl 37 (mh_rf hI_s25 8 rfl) ?_
    refine mw_iload_n 28 rfl 2 dX9_feed_27 rfl rfl ?_
    refine mw_callVv [.int p2] [] 31 rfl dX9_feed_28 ml_X9_120 mc_X7_put mk_X7_put rfl rfl (by decide) (w_X7_put l G (d + 0) ⟨by omega, by omega⟩ hI_s25 p2) rfl rfl (Nat.le_of_ble_eq_true rfl) (mh_rok (by omega) (by decide)) (fun s28 q29 => ?_)
    obtain ⟨hI_s28, hG_s28⟩ := q29
    have hF_s28 : mh_F S_X9_feed s0 s28 := mh_F_tl hF_s25 hG_s28 (by decide +kernel)
    refine mw_aload_n 32 rfl 0 dX9_feed_31 rfl rfl ?_
    refine mw_geta 35 rfl dX9_feed_32 gf_X9_60 rfl 37 (mh_rf hI_s28 8 rfl) ?_
    refine mw_iload_n 36 rfl 3 dX9_feed_35 rfl rfl ?_
    refine mw_callVv [.int p3] [] 39 rfl dX9_feed_36 ml_X9_120 mc_X7_put mk_X7_put rfl rfl (by decide) (w_X7_put l G (d + 0) ⟨by omega, by omega⟩ hI_s28 p3) rfl rfl (Nat.le_of_ble_eq_true rfl) (mh_rok (by omega) (by decide)) (fun s31 q32 => ?_)
    obtain ⟨hI_s31, hG_s31⟩ := q32
    have hF_s31 : mh_F S_X9_feed s0 s31 := mh_F_tl hF_s28 hG_s31 (by decide +kernel)
    refine mw_aload_n 40 rfl 0 dX9_feed_39 rfl rfl ?_
    refine mw_geta 43 rfl dX9_feed_40 gf_X9_60 rfl 37 (mh_rf hI_s31 8 rfl) ?_
    refine mw_iload 45 rfl 4 dX9_feed_43  rfl ?_
    refine mw_callVv [.int p4] [] 48 rfl dX9_feed_45 ml_X9_120 mc_X7_put mk_X7_put rfl rfl (by decide) (w_X7_put l G (d + 0) ⟨by omega, by omega⟩ hI_s31 p4) rfl rfl (Nat.le_of_ble_eq_true rfl) (mh_rok (by omega) (by decide)) (fun s34 q35 => ?_)
    obtain ⟨hI_s34, hG_s34⟩ := q35
    have hF_s34 : mh_F S_X9_feed s0 s34 := mh_F_tl hF_s31 hG_s34 (by decide +kernel)
    refine mw_aload_n 49 rfl 0 dX9_feed_48 rfl rfl ?_
    refine mw_geta 52 rfl dX9_feed_49 gf_X9_60 rfl 37 (mh_rf hI_s34 8 rfl) ?_
    refine mw_iload 54 rfl 5 dX9_feed_52  rfl ?_
    refine mw_callVv [.int p5] [] 57 rfl dX9_feed_54 ml_X9_120 mc_X7_put mk_X7_put rfl rfl (by decide) (w_X7_put l G (d + 0) ⟨by omega, by omega⟩ hI_s34 p5) rfl rfl (Nat.le_of_ble_eq_true rfl) (mh_rok (by omega) (by decide)) (fun s37 q38 => ?_)
    obtain ⟨hI_s37, hG_s37⟩ := q38
    have hF_s37 : mh_F S_X9_feed s0 s37 := mh_F_tl hF_s34 hG_s37 (by decide +kernel)
    refine mw_aload_n 58 rfl 0 dX9_feed_57 rfl rfl ?_
    refine mw_geta 61 rfl dX9_feed_58 gf_X9_60 rfl 37 (mh_rf hI_s37 8 rfl) ?_
    refine mw_geti 64 rfl dX9_feed_61 gf_X9_116 rfl (fun x39 t40 => ?_)
    have r_x39 : mh_r x39 (0) (220) := by rw [t40]; exact rd_37_1 hI_s37
    exact mw_iret dX9_feed_64 rfl ⟨x39, rfl, ⟨(mh_r_wk r_x39 (by decide)), hI_s37, hF_s37⟩⟩
  · skip
    have r_x21 : mh_r x21 (201) (220) := mh_lt2 c23 rc_200 r_x21 (201) (by decide)
    refine mw_iconst (v := -1) 14 rfl dX9_feed_13 (by decide) ?_
    exact mw_iret dX9_feed_14 rfl ⟨(-1), rfl, ⟨(mh_r_wk rc_m1 (by decide)), hI0, hF0⟩⟩

def S_X9_was : List (Nat × Nat) := [(30, 9999), (31, 9999), (32, 9999), (33, 9999), (34, 9999), (29, 5)]
def P_X9_was (B D : Int) (s0 : mh_H) (p1 : Int32) (p2 : Int32) (p3 : Int32) (p4 : Int32) (p5 : Int32) : Int32 → mh_H → Prop := fun z s => mh_r z (-1) (60) ∧ mh_I B D s ∧ mh_F S_X9_was s0 s
set_option maxRecDepth 100000 in
set_option maxHeartbeats 4000000 in
theorem w_X9_was (l : Launch) (G : mh_G) (d : Nat) {B D : Int} (hB : B ≤ 1960000000 ∧ D ≤ 1960000000) {s0 : mh_H} (hI0 : mh_I B D s0) (p1 : Int32) (p2 : Int32) (p3 : Int32) (p4 : Int32) (p5 : Int32) : mh_Mi l G (d + 2) mM_X9_was [.ref (G.2.2.2 0), .int p1, .int p2, .int p3, .int p4, .int p5] s0 (P_X9_was B D s0 p1 p2 p3 p4 p5) := by
  refine mh_enter (lv := [(0, .ref (G.2.2.2 0)), (1, .int p1), (2, .int p2), (3, .int p3), (4, .int p4), (5, .int p5)]) (by decide) rfl (Nat.le_of_ble_eq_true rfl) ?_
  have hF0 : mh_F S_X9_was s0 s0 := mh_F_rf
  refine mw_iload_n 1 rfl 1 dX9_was_0 rfl rfl ?_
  refine mw_iload_n 2 rfl 2 dX9_was_1 rfl rfl ?_
  refine mw_iload_n 3 rfl 3 dX9_was_2 rfl rfl ?_
  refine mw_callSi [.int p1, .int p2, .int p3] [] 6 rfl dX9_was_3 ml_X9_232 mc_X9_isEvening mk_X9_isEvening (w_X9_isEvening l G (d + 0) ⟨by omega, by omega⟩ hI0 p1 p2 p3) rfl rfl (Nat.le_of_ble_eq_true rfl) (mh_rok (by omega) (by decide)) (fun x36 s37 q38 => ?_)
  obtain ⟨r_x36, e0_s37, rfl⟩ := q38
  refine mw_if_eq 9 rfl 42 dX9_was_6 (by decide) (fun c39 => ?_) (fun c39 => ?_)
  · skip
    have r_x36 : mh_r x36 (0) (0) := mh_eq1 (show x36.toInt = (0 : Int32).toInt from c39) r_x36 rc_0 (0) (0) (by decide)
    refine mw_iconst (v := -1) 43 rfl dX9_was_42 (by decide) ?_
    exact mw_iret dX9_was_43 rfl ⟨(-1), rfl, ⟨(mh_r_wk rc_m1 (by decide)), hI0, hF0⟩⟩
  · skip
    have r_p1 : mh_r p1 (0) (99) := ⟨by have := e0_s37.1 (mh_z1 r_x36 c39); have := ((mh_r_full p1)).1; omega, by have := e0_s37.1 (mh_z1 r_x36 c39); have := ((mh_r_full p1)).2; omega⟩
    have r_p2 : mh_r p2 (0) (99) := ⟨by have := e0_s37.1 (mh_z1 r_x36 c39); have := ((mh_r_full p2)).1; omega, by have := e0_s37.1 (mh_z1 r_x36 c39); have := ((mh_r_full p2)).2; omega⟩
    have r_p3 : mh_r p3 (0) (99) := ⟨by have := e0_s37.1 (mh_z1 r_x36 c39); have := ((mh_r_full p3)).1; omega, by have := e0_s37.1 (mh_z1 r_x36 c39); have := ((mh_r_full p3)).2; omega⟩
    have r_x36 : mh_r x36 (1) (1) := mh_ne1 (show x36.toInt ≠ (0 : Int32).toInt from c39) r_x36 rc_0 (1) (1) (by decide)
    refine mw_iload 11 rfl 4 dX9_was_9  rfl ?_
    refine mw_bipush (v := 99) 13 rfl dX9_was_11 (by decide) ?_
    refine mw_callSi [.int p4, .int (99)] [] 16 rfl dX9_was_13 ml_X9_98 mc_X9_isWithin mk_X9_isWithin (w_X9_isWithin l G (d + 1) ⟨by omega, by omega⟩ hI0 p4 (99)) rfl rfl (Nat.le_of_ble_eq_true rfl) (mh_rok (by omega) (by decide)) (fun x40 s41 q42 => ?_)
    obtain ⟨r_x40, e0_s41, rfl⟩ := q42
    refine mw_if_eq 19 rfl 42 dX9_was_16 (by decide) (fun c43 => ?_) (fun c43 => ?_)
    · skip
      have r_x40 : mh_r x40 (0) (0) := mh_eq1 (show x40.toInt = (0 : Int32).toInt from c43) r_x40 rc_0 (0) (0) (by decide)
      refine mw_iconst (v := -1) 43 rfl dX9_was_42 (by decide) ?_
      exact mw_iret dX9_was_43 rfl ⟨(-1), rfl, ⟨(mh_r_wk rc_m1 (by decide)), hI0, hF0⟩⟩
    · skip
      have r_p4 : mh_r p4 (0) (99) := ⟨by have := e0_s41.1 (mh_z1 r_x40 c43); have := ((mh_r_full p4)).1; omega, by have := e0_s41.1 (mh_z1 r_x40 c43); have := ((mh_r_full p4)).2; have := (rc_99).2; omega⟩
      have r_x40 : mh_r x40 (1) (1) := mh_ne1 (show x40.toInt ≠ (0 : Int32).toInt from c43) r_x40 rc_0 (1) (1) (by decide)
      refine mw_iload 21 rfl 5 dX9_was_19  rfl ?_
      refine mw_sipush (v := 999) 24 rfl dX9_was_21 (by decide) ?_
      refine mw_callSi [.int p5, .int (999)] [] 27 rfl dX9_was_24 ml_X9_98 mc_X9_isWithin mk_X9_isWithin (w_X9_isWithin l G (d + 1) ⟨by omega, by omega⟩ hI0 p5 (999)) rfl rfl (Nat.le_of_ble_eq_true rfl) (mh_rok (by omega) (by decide)) (fun x44 s45 q46 => ?_)
      obtain ⟨r_x44, e0_s45, rfl⟩ := q46
      refine mw_if_eq 30 rfl 42 dX9_was_27 (by decide) (fun c47 => ?_) (fun c47 => ?_)
      · skip
        have r_x44 : mh_r x44 (0) (0) := mh_eq1 (show x44.toInt = (0 : Int32).toInt from c47) r_x44 rc_0 (0) (0) (by decide)
        refine mw_iconst (v := -1) 43 rfl dX9_was_42 (by decide) ?_
        exact mw_iret dX9_was_43 rfl ⟨(-1), rfl, ⟨(mh_r_wk rc_m1 (by decide)), hI0, hF0⟩⟩
      · skip
        have r_p5 : mh_r p5 (0) (999) := ⟨by have := e0_s45.1 (mh_z1 r_x44 c47); have := ((mh_r_full p5)).1; omega, by have := e0_s45.1 (mh_z1 r_x44 c47); have := ((mh_r_full p5)).2; have := (rc_999).2; omega⟩
        have r_x44 : mh_r x44 (1) (1) := mh_ne1 (show x44.toInt ≠ (0 : Int32).toInt from c47) r_x44 rc_0 (1) (1) (by decide)
        refine mw_aload_n 31 rfl 0 dX9_was_30 rfl rfl ?_
        refine mw_geta 34 rfl dX9_was_31 gf_X9_46 rfl 29 (mh_rf hI0 6 rfl) ?_
        refine mw_geti 37 rfl dX9_was_34 gf_X9_236 rfl (fun x48 t49 => ?_)
        have r_x48 : mh_r x48 (0) (60) := by rw [t49]; exact rd_29_5 hI0
        refine mw_bipush (v := 60) 39 rfl dX9_was_37 (by decide) ?_
        refine mw_icmp_lt 42 rfl 44 dX9_was_39 (by decide) (fun c50 => ?_) (fun c50 => ?_)
        · skip
          have r_x48 : mh_r x48 (0) (59) := mh_lt1 c50 r_x48 rc_60 (59) (by decide)
          refine mw_aload_n 45 rfl 0 dX9_was_44 rfl rfl ?_
          refine mw_geta 48 rfl dX9_was_45 gf_X9_46 rfl 29 (mh_rf hI0 6 rfl) ?_
          refine mw_geti 51 rfl dX9_was_48 gf_X9_236 rfl (fun x51 t52 => ?_)
          obtain rfl : x48 = x51 := t49.trans t52.symm
          refine mw_istore 53 rfl [(6, .int x48), (0, .ref (G.2.2.2 0)), (1, .int p1), (2, .int p2), (3, .int p3), (4, .int p4), (5, .int p5)] dX9_was_51  (by decide) rfl ?_
          refine mw_aload_n 54 rfl 1 dX9_was_53 rfl rfl ?_
          refine mw_geta 57 rfl dX9_was_54 gf_X9_46 rfl 29 (mh_rf hI0 6 rfl) ?_
          refine mw_geta 60 rfl dX9_was_57 gf_X9_237 rfl 30 (mh_rf hI0 33 rfl) ?_
          refine mw_iload 62 rfl 0 dX9_was_60  rfl ?_
          refine mw_iload_n 63 rfl 2 dX9_was_62 rfl rfl ?_
          refine mw_iast 64 rfl dX9_was_63 rfl r_x48 (by decide) (fun s53 t54 => ?_)
          have hI_s53 : mh_I B D s53 := by rw [t54]; exact wr_30 hI0
          have hF_s53 : mh_F S_X9_was s0 s53 := by rw [t54]; exact mh_F_pI hF0 (mh_si 0 rfl)
          refine mw_aload_n 65 rfl 1 dX9_was_64 rfl rfl ?_
          refine mw_geta 68 rfl dX9_was_65 gf_X9_46 rfl 29 (mh_rf hI_s53 6 rfl) ?_
          refine mw_geta 71 rfl dX9_was_68 gf_X9_240 rfl 31 (mh_rf hI_s53 34 rfl) ?_
          refine mw_iload 73 rfl 0 dX9_was_71  rfl ?_
          refine mw_iload_n 74 rfl 3 dX9_was_73 rfl rfl ?_
          refine mw_iast 75 rfl dX9_was_74 rfl r_x48 (by decide) (fun s55 t56 => ?_)
          have hI_s55 : mh_I B D s55 := by rw [t56]; exact wr_31 hI_s53
          have hF_s55 : mh_F S_X9_was s0 s55 := by rw [t56]; exact mh_F_pI hF_s53 (mh_si 1 rfl)
          refine mw_aload_n 76 rfl 1 dX9_was_75 rfl rfl ?_
          refine mw_geta 79 rfl dX9_was_76 gf_X9_46 rfl 29 (mh_rf hI_s55 6 rfl) ?_
          refine mw_geta 82 rfl dX9_was_79 gf_X9_243 rfl 32 (mh_rf hI_s55 35 rfl) ?_
          refine mw_iload 84 rfl 0 dX9_was_82  rfl ?_
          refine mw_iload_n 85 rfl 4 dX9_was_84 rfl rfl ?_
          refine mw_iast 86 rfl dX9_was_85 rfl r_x48 (by decide) (fun s57 t58 => ?_)
          have hI_s57 : mh_I B D s57 := by rw [t58]; exact wr_32 hI_s55
          have hF_s57 : mh_F S_X9_was s0 s57 := by rw [t58]; exact mh_F_pI hF_s55 (mh_si 2 rfl)
          refine mw_aload_n 87 rfl 1 dX9_was_86 rfl rfl ?_
          refine mw_geta 90 rfl dX9_was_87 gf_X9_46 rfl 29 (mh_rf hI_s57 6 rfl) ?_
          refine mw_geta 93 rfl dX9_was_90 gf_X9_246 rfl 33 (mh_rf hI_s57 36 rfl) ?_
          refine mw_iload 95 rfl 0 dX9_was_93  rfl ?_
          refine mw_iload 97 rfl 5 dX9_was_95  rfl ?_
          refine mw_iast 98 rfl dX9_was_97 rfl r_x48 (by decide) (fun s59 t60 => ?_)
          have hI_s59 : mh_I B D s59 := by rw [t60]; exact wr_33 hI_s57
          have hF_s59 : mh_F S_X9_was s0 s59 := by rw [t60]; exact mh_F_pI hF_s57 (mh_si 3 rfl)
          refine mw_aload_n 99 rfl 1 dX9_was_98 rfl rfl ?_
          refine mw_geta 102 rfl dX9_was_99 gf_X9_46 rfl 29 (mh_rf hI_s59 6 rfl) ?_
          refine mw_geta 105 rfl dX9_was_102 gf_X9_249 rfl 34 (mh_rf hI_s59 37 rfl) ?_
          refine mw_iload 107 rfl 0 dX9_was_105  rfl ?_
          refine mw_iload 109 rfl 6 dX9_was_107  rfl ?_
          refine mw_iast 110 rfl dX9_was_109 rfl r_x48 (by decide) (fun s61 t62 => ?_)
          have hI_s61 : mh_I B D s61 := by rw [t62]; exact wr_34 hI_s59
          have hF_s61 : mh_F S_X9_was s0 s61 := by rw [t62]; exact mh_F_pI hF_s59 (mh_si 4 rfl)
          refine mw_aload_n 111 rfl 1 dX9_was_110 rfl rfl ?_
          refine mw_geta 114 rfl dX9_was_111 gf_X9_46 rfl 29 (mh_rf hI_s61 6 rfl) ?_
          refine mw_dup 115 rfl dX9_was_114 rfl ?_
          refine mw_geti 118 rfl dX9_was_115 gf_X9_236 rfl (fun x63 t64 => ?_)
          have t65 : x48 = s53.1 29 5 := by rw [t54]; exact (t49).trans (mh_pI_n (by omega)).symm
          have t66 : x48 = s55.1 29 5 := by rw [t56]; exact (t65).trans (mh_pI_n (by omega)).symm
          have t67 : x48 = s57.1 29 5 := by rw [t58]; exact (t66).trans (mh_pI_n (by omega)).symm
          have t68 : x48 = s59.1 29 5 := by rw [t60]; exact (t67).trans (mh_pI_n (by omega)).symm
          have t69 : x48 = s61.1 29 5 := by rw [t62]; exact (t68).trans (mh_pI_n (by omega)).symm
          obtain rfl : x48 = x63 := t69.trans t64.symm
          refine mw_iconst (v := 1) 119 rfl dX9_was_118 (by decide) ?_
          refine mw_iadd 120 rfl (1) (60) dX9_was_119 r_x48 rc_1 (by decide) (fun x70 t71 r_x70 => ?_)
          refine mw_puti 123 rfl dX9_was_120 pf_X9_236 rfl (fun s72 t73 => ?_)
          have hI_s72 : mh_I B D s72 := by rw [t73]; exact wr_29_5 hI_s61 (mh_r_wk r_x70 (by decide))
          have hF_s72 : mh_F S_X9_was s0 s72 := by rw [t73]; exact mh_F_pI hF_s61 (mh_sj 5 rfl)
          refine mw_aload_n 124 rfl 1 dX9_was_123 rfl rfl ?_
          refine mw_geta 127 rfl dX9_was_124 gf_X9_46 rfl 29 (mh_rf hI_s72 6 rfl) ?_
          refine mw_geti 130 rfl dX9_was_127 gf_X9_236 rfl (fun x74 t75 => ?_)
          have t76 : x70 = s72.1 29 5 := by rw [t73]; exact mh_pI_s.symm
          obtain rfl : x70 = x74 := t76.trans t75.symm
          exact mw_iret dX9_was_130 rfl ⟨x70, rfl, ⟨(mh_r_wk r_x70 (by decide)), hI_s72, hF_s72⟩⟩
        · skip
          have r_x48 : mh_r x48 (60) (60) := mh_le2 c50 rc_60 r_x48 (60) (by decide)
          refine mw_iconst (v := -1) 43 rfl dX9_was_42 (by decide) ?_
          exact mw_iret dX9_was_43 rfl ⟨(-1), rfl, ⟨(mh_r_wk rc_m1 (by decide)), hI0, hF0⟩⟩

def S_X9_seed : List (Nat × Nat) := [(1, 7)]
def P_X9_seed (B D : Int) (s0 : mh_H) (p1 : Int32) : Int32 → mh_H → Prop := fun z s => mh_r z (0) (1) ∧ mh_I B D s ∧ mh_F S_X9_seed s0 s
set_option maxRecDepth 100000 in
set_option maxHeartbeats 4000000 in
theorem w_X9_seed (l : Launch) (G : mh_G) (d : Nat) {B D : Int} (hB : B ≤ 1980000000 ∧ D ≤ 1980000000) {s0 : mh_H} (hI0 : mh_I B D s0) (p1 : Int32) : mh_Mi l G (d + 1) mM_X9_seed [.ref (G.2.2.2 0), .int p1] s0 (P_X9_seed B D s0 p1) := by
  refine mh_enter (lv := [(0, .ref (G.2.2.2 0)), (1, .int p1)]) (by decide) rfl (Nat.le_of_ble_eq_true rfl) ?_
  have hF0 : mh_F S_X9_seed s0 s0 := mh_F_rf
  refine mw_iload_n 1 rfl 1 dX9_seed_0 rfl rfl ?_
  refine mw_ldcw 4 rfl dX9_seed_1 ck_X9_294 ?_
  refine mw_callSi [.int p1, .int (65535)] [] 7 rfl dX9_seed_4 ml_X9_98 mc_X9_isWithin mk_X9_isWithin (w_X9_isWithin l G (d + 0) ⟨by omega, by omega⟩ hI0 p1 (65535)) rfl rfl (Nat.le_of_ble_eq_true rfl) (mh_rok (by omega) (by decide)) (fun x7 s8 q9 => ?_)
  obtain ⟨r_x7, e0_s8, rfl⟩ := q9
  refine mw_if_ne 10 rfl 12 dX9_seed_7 (by decide) (fun c10 => ?_) (fun c10 => ?_)
  · skip
    have r_p1 : mh_r p1 (0) (65535) := ⟨by have := e0_s8.1 (mh_z1 r_x7 c10); have := ((mh_r_full p1)).1; omega, by have := e0_s8.1 (mh_z1 r_x7 c10); have := ((mh_r_full p1)).2; have := (rc_65535).2; omega⟩
    have r_x7 : mh_r x7 (1) (1) := mh_ne1 (show x7.toInt ≠ (0 : Int32).toInt from c10) r_x7 rc_0 (1) (1) (by decide)
    refine mw_aload_n 13 rfl 0 dX9_seed_12 rfl rfl ?_
    refine mw_geta 16 rfl dX9_seed_13 gf_X9_10 rfl 1 (mh_rf hI0 0 rfl) ?_
    refine mw_iload_n 17 rfl 1 dX9_seed_16 rfl rfl ?_
    refine mw_puti 20 rfl dX9_seed_17 pf_X9_295 rfl (fun s11 t12 => ?_)
    have hI_s11 : mh_I B D s11 := by rw [t12]; exact wr_1_7 hI0
    have hF_s11 : mh_F S_X9_seed s0 s11 := by rw [t12]; exact mh_F_pI hF0 (mh_sj 0 rfl)
    refine mw_iconst (v := 1) 21 rfl dX9_seed_20 (by decide) ?_
    exact mw_zret dX9_seed_21 rfl (mh_r_wk rc_1 (by decide)) ⟨(1), rfl, ⟨(mh_r_wk rc_1 (by decide)), hI_s11, hF_s11⟩⟩
  · skip
    have r_x7 : mh_r x7 (0) (0) := mh_eq1 (show x7.toInt = (0 : Int32).toInt from c10) r_x7 rc_0 (0) (0) (by decide)
    refine mw_iconst (v := 0) 11 rfl dX9_seed_10 (by decide) ?_
    exact mw_zret dX9_seed_11 rfl (mh_r_wk rc_0 (by decide)) ⟨(0), rfl, ⟨(mh_r_wk rc_0 (by decide)), hI0, hF0⟩⟩

def S_X9_road : List (Nat × Nat) := [(24, 9999), (25, 9999), (26, 9999), (23, 5)]
def P_X9_road (B D : Int) (s0 : mh_H) (p1 : Int32) (p2 : Int32) (p3 : Int32) (p4 : Int32) (p5 : Int32) : Int32 → mh_H → Prop := fun z s => mh_r z (0) (1) ∧ mh_I B D s ∧ mh_F S_X9_road s0 s
set_option maxRecDepth 100000 in
set_option maxHeartbeats 4000000 in
theorem w_X9_road (l : Launch) (G : mh_G) (d : Nat) {B D : Int} (hB : B ≤ 1980000000 ∧ D ≤ 1980000000) {s0 : mh_H} (hI0 : mh_I B D s0) (p1 : Int32) (p2 : Int32) (p3 : Int32) (p4 : Int32) (p5 : Int32) : mh_Mi l G (d + 1) mM_X9_road [.ref (G.2.2.2 0), .int p1, .int p2, .int p3, .int p4, .int p5] s0 (P_X9_road B D s0 p1 p2 p3 p4 p5) := by
  refine mh_enter (lv := [(0, .ref (G.2.2.2 0)), (1, .int p1), (2, .int p2), (3, .int p3), (4, .int p4), (5, .int p5)]) (by decide) rfl (Nat.le_of_ble_eq_true rfl) ?_
  have hF0 : mh_F S_X9_road s0 s0 := mh_F_rf
  refine mw_iload_n 1 rfl 1 dX9_road_0 rfl rfl ?_
  refine mw_bipush (v := 19) 3 rfl dX9_road_1 (by decide) ?_
  refine mw_callSi [.int p1, .int (19)] [] 6 rfl dX9_road_3 ml_X9_98 mc_X9_isWithin mk_X9_isWithin (w_X9_isWithin l G (d + 0) ⟨by omega, by omega⟩ hI0 p1 (19)) rfl rfl (Nat.le_of_ble_eq_true rfl) (mh_rok (by omega) (by decide)) (fun x35 s36 q37 => ?_)
  obtain ⟨r_x35, e0_s36, rfl⟩ := q37
  refine mw_if_eq 9 rfl 32 dX9_road_6 (by decide) (fun c38 => ?_) (fun c38 => ?_)
  · skip
    have r_x35 : mh_r x35 (0) (0) := mh_eq1 (show x35.toInt = (0 : Int32).toInt from c38) r_x35 rc_0 (0) (0) (by decide)
    refine mw_iconst (v := 0) 33 rfl dX9_road_32 (by decide) ?_
    exact mw_zret dX9_road_33 rfl (mh_r_wk rc_0 (by decide)) ⟨(0), rfl, ⟨(mh_r_wk rc_0 (by decide)), hI0, hF0⟩⟩
  · skip
    have r_p1 : mh_r p1 (0) (19) := ⟨by have := e0_s36.1 (mh_z1 r_x35 c38); have := ((mh_r_full p1)).1; omega, by have := e0_s36.1 (mh_z1 r_x35 c38); have := ((mh_r_full p1)).2; have := (rc_19).2; omega⟩
    have r_x35 : mh_r x35 (1) (1) := mh_ne1 (show x35.toInt ≠ (0 : Int32).toInt from c38) r_x35 rc_0 (1) (1) (by decide)
    refine mw_iload_n 10 rfl 2 dX9_road_9 rfl rfl ?_
    refine mw_bipush (v := 9) 12 rfl dX9_road_10 (by decide) ?_
    refine mw_callSi [.int p2, .int (9)] [] 15 rfl dX9_road_12 ml_X9_98 mc_X9_isWithin mk_X9_isWithin (w_X9_isWithin l G (d + 0) ⟨by omega, by omega⟩ hI0 p2 (9)) rfl rfl (Nat.le_of_ble_eq_true rfl) (mh_rok (by omega) (by decide)) (fun x39 s40 q41 => ?_)
    obtain ⟨r_x39, e0_s40, rfl⟩ := q41
    refine mw_if_eq 18 rfl 32 dX9_road_15 (by decide) (fun c42 => ?_) (fun c42 => ?_)
    · skip
      have r_x39 : mh_r x39 (0) (0) := mh_eq1 (show x39.toInt = (0 : Int32).toInt from c42) r_x39 rc_0 (0) (0) (by decide)
      refine mw_iconst (v := 0) 33 rfl dX9_road_32 (by decide) ?_
      exact mw_zret dX9_road_33 rfl (mh_r_wk rc_0 (by decide)) ⟨(0), rfl, ⟨(mh_r_wk rc_0 (by decide)), hI0, hF0⟩⟩
    · skip
      have r_p2 : mh_r p2 (0) (9) := ⟨by have := e0_s40.1 (mh_z1 r_x39 c42); have := ((mh_r_full p2)).1; omega, by have := e0_s40.1 (mh_z1 r_x39 c42); have := ((mh_r_full p2)).2; have := (rc_9).2; omega⟩
      have r_x39 : mh_r x39 (1) (1) := mh_ne1 (show x39.toInt ≠ (0 : Int32).toInt from c42) r_x39 rc_0 (1) (1) (by decide)
      refine mw_iload_n 19 rfl 3 dX9_road_18 rfl rfl ?_
      refine mw_bipush (v := 9) 21 rfl dX9_road_19 (by decide) ?_
      refine mw_callSi [.int p3, .int (9)] [] 24 rfl dX9_road_21 ml_X9_98 mc_X9_isWithin mk_X9_isWithin (w_X9_isWithin l G (d + 0) ⟨by omega, by omega⟩ hI0 p3 (9)) rfl rfl (Nat.le_of_ble_eq_true rfl) (mh_rok (by omega) (by decide)) (fun x43 s44 q45 => ?_)
      obtain ⟨r_x43, e0_s44, rfl⟩ := q45
      refine mw_if_eq 27 rfl 32 dX9_road_24 (by decide) (fun c46 => ?_) (fun c46 => ?_)
      · skip
        have r_x43 : mh_r x43 (0) (0) := mh_eq1 (show x43.toInt = (0 : Int32).toInt from c46) r_x43 rc_0 (0) (0) (by decide)
        refine mw_iconst (v := 0) 33 rfl dX9_road_32 (by decide) ?_
        exact mw_zret dX9_road_33 rfl (mh_r_wk rc_0 (by decide)) ⟨(0), rfl, ⟨(mh_r_wk rc_0 (by decide)), hI0, hF0⟩⟩
      · skip
        have r_p3 : mh_r p3 (0) (9) := ⟨by have := e0_s44.1 (mh_z1 r_x43 c46); have := ((mh_r_full p3)).1; omega, by have := e0_s44.1 (mh_z1 r_x43 c46); have := ((mh_r_full p3)).2; have := (rc_9).2; omega⟩
        have r_x43 : mh_r x43 (1) (1) := mh_ne1 (show x43.toInt ≠ (0 : Int32).toInt from c46) r_x43 rc_0 (1) (1) (by decide)
        refine mw_iload_n 28 rfl 2 dX9_road_27 rfl rfl ?_
        refine mw_iload_n 29 rfl 3 dX9_road_28 rfl rfl ?_
        refine mw_icmp_ne 32 rfl 34 dX9_road_29 (by decide) (fun c47 => ?_) (fun c47 => ?_)
        · skip
          refine mw_iload 36 rfl 4 dX9_road_34  rfl ?_
          refine mw_iconst (v := 1) 37 rfl dX9_road_36 (by decide) ?_
          refine mw_icmp_lt 40 rfl 58 dX9_road_37 (by decide) (fun c48 => ?_) (fun c48 => ?_)
          · skip
            have r_p4 : mh_r p4 (-2147483648) (0) := mh_lt1 c48 (mh_r_full p4) rc_1 (0) (by decide)
            refine mw_iconst (v := 0) 59 rfl dX9_road_58 (by decide) ?_
            exact mw_zret dX9_road_59 rfl (mh_r_wk rc_0 (by decide)) ⟨(0), rfl, ⟨(mh_r_wk rc_0 (by decide)), hI0, hF0⟩⟩
          · skip
            have r_p4 : mh_r p4 (1) (2147483647) := mh_le2 c48 rc_1 (mh_r_full p4) (1) (by decide)
            refine mw_iload 42 rfl 4 dX9_road_40  rfl ?_
            refine mw_bipush (v := 99) 44 rfl dX9_road_42 (by decide) ?_
            refine mw_icmp_gt 47 rfl 58 dX9_road_44 (by decide) (fun c49 => ?_) (fun c49 => ?_)
            · skip
              have r_p4 : mh_r p4 (100) (2147483647) := mh_lt2 c49 rc_99 r_p4 (100) (by decide)
              refine mw_iconst (v := 0) 59 rfl dX9_road_58 (by decide) ?_
              exact mw_zret dX9_road_59 rfl (mh_r_wk rc_0 (by decide)) ⟨(0), rfl, ⟨(mh_r_wk rc_0 (by decide)), hI0, hF0⟩⟩
            · skip
              have r_p4 : mh_r p4 (1) (99) := mh_le1 c49 r_p4 rc_99 (99) (by decide)
              refine mw_iload 49 rfl 5 dX9_road_47  rfl ?_
              refine mw_sipush (v := 143) 52 rfl dX9_road_49 (by decide) ?_
              refine mw_callSi [.int p5, .int (143)] [] 55 rfl dX9_road_52 ml_X9_98 mc_X9_isWithin mk_X9_isWithin (w_X9_isWithin l G (d + 0) ⟨by omega, by omega⟩ hI0 p5 (143)) rfl rfl (Nat.le_of_ble_eq_true rfl) (mh_rok (by omega) (by decide)) (fun x50 s51 q52 => ?_)
              obtain ⟨r_x50, e0_s51, rfl⟩ := q52
              refine mw_if_ne 58 rfl 60 dX9_road_55 (by decide) (fun c53 => ?_) (fun c53 => ?_)
              · skip
                have r_p5 : mh_r p5 (0) (143) := ⟨by have := e0_s51.1 (mh_z1 r_x50 c53); have := ((mh_r_full p5)).1; omega, by have := e0_s51.1 (mh_z1 r_x50 c53); have := ((mh_r_full p5)).2; have := (rc_143).2; omega⟩
                have r_x50 : mh_r x50 (1) (1) := mh_ne1 (show x50.toInt ≠ (0 : Int32).toInt from c53) r_x50 rc_0 (1) (1) (by decide)
                refine mw_aload_n 61 rfl 0 dX9_road_60 rfl rfl ?_
                refine mw_geta 64 rfl dX9_road_61 gf_X9_39 rfl 23 (mh_rf hI0 5 rfl) ?_
                refine mw_geta 67 rfl dX9_road_64 gf_X9_201 rfl 24 (mh_rf hI0 28 rfl) ?_
                refine mw_iload_n 68 rfl 1 dX9_road_67 rfl rfl ?_
                refine mw_iconst (v := 1) 69 rfl dX9_road_68 (by decide) ?_
                refine mw_iload_n 70 rfl 2 dX9_road_69 rfl rfl ?_
                refine mw_ishl_u 71 rfl dX9_road_70 (fun x54 _ => ?_)
                refine mw_iconst (v := 1) 72 rfl dX9_road_71 (by decide) ?_
                refine mw_iload_n 73 rfl 3 dX9_road_72 rfl rfl ?_
                refine mw_ishl_u 74 rfl dX9_road_73 (fun x55 _ => ?_)
                refine mw_ior_u 75 rfl dX9_road_74 (fun x56 _ => ?_)
                refine mw_iast 76 rfl dX9_road_75 rfl r_p1 (by decide) (fun s57 t58 => ?_)
                have hI_s57 : mh_I B D s57 := by rw [t58]; exact wr_24 hI0
                have hF_s57 : mh_F S_X9_road s0 s57 := by rw [t58]; exact mh_F_pI hF0 (mh_si 0 rfl)
                refine mw_aload_n 77 rfl 0 dX9_road_76 rfl rfl ?_
                refine mw_geta 80 rfl dX9_road_77 gf_X9_39 rfl 23 (mh_rf hI_s57 5 rfl) ?_
                refine mw_geta 83 rfl dX9_road_80 gf_X9_204 rfl 25 (mh_rf hI_s57 29 rfl) ?_
                refine mw_iload_n 84 rfl 1 dX9_road_83 rfl rfl ?_
                refine mw_iload 86 rfl 4 dX9_road_84  rfl ?_
                refine mw_iast 87 rfl dX9_road_86 rfl r_p1 (by decide) (fun s59 t60 => ?_)
                have hI_s59 : mh_I B D s59 := by rw [t60]; exact wr_25 hI_s57 (mh_r_wk r_p4 (by decide))
                have hF_s59 : mh_F S_X9_road s0 s59 := by rw [t60]; exact mh_F_pI hF_s57 (mh_si 1 rfl)
                refine mw_aload_n 88 rfl 0 dX9_road_87 rfl rfl ?_
                refine mw_geta 91 rfl dX9_road_88 gf_X9_39 rfl 23 (mh_rf hI_s59 5 rfl) ?_
                refine mw_geta 94 rfl dX9_road_91 gf_X9_207 rfl 26 (mh_rf hI_s59 30 rfl) ?_
                refine mw_iload_n 95 rfl 1 dX9_road_94 rfl rfl ?_
                refine mw_iload 97 rfl 5 dX9_road_95  rfl ?_
                refine mw_iast 98 rfl dX9_road_97 rfl r_p1 (by decide) (fun s61 t62 => ?_)
                have hI_s61 : mh_I B D s61 := by rw [t62]; exact wr_26 hI_s59 r_p5
                have hF_s61 : mh_F S_X9_road s0 s61 := by rw [t62]; exact mh_F_pI hF_s59 (mh_si 2 rfl)
                refine mw_aload_n 99 rfl 0 dX9_road_98 rfl rfl ?_
                refine mw_geta 102 rfl dX9_road_99 gf_X9_39 rfl 23 (mh_rf hI_s61 5 rfl) ?_
                refine mw_dup 103 rfl dX9_road_102 rfl ?_
                refine mw_geti 106 rfl dX9_road_103 gf_X9_210 rfl (fun x63 t64 => ?_)
                refine mw_iconst (v := 1) 107 rfl dX9_road_106 (by decide) ?_
                refine mw_iload_n 108 rfl 1 dX9_road_107 rfl rfl ?_
                refine mw_ishl_u 109 rfl dX9_road_108 (fun x65 _ => ?_)
                refine mw_ior_u 110 rfl dX9_road_109 (fun x66 _ => ?_)
                refine mw_puti 113 rfl dX9_road_110 pf_X9_210 rfl (fun s67 t68 => ?_)
                have hI_s67 : mh_I B D s67 := by rw [t68]; exact wr_23_5 hI_s61
                have hF_s67 : mh_F S_X9_road s0 s67 := by rw [t68]; exact mh_F_pI hF_s61 (mh_sj 3 rfl)
                refine mw_iconst (v := 1) 114 rfl dX9_road_113 (by decide) ?_
                exact mw_zret dX9_road_114 rfl (mh_r_wk rc_1 (by decide)) ⟨(1), rfl, ⟨(mh_r_wk rc_1 (by decide)), hI_s67, hF_s67⟩⟩
              · skip
                have r_x50 : mh_r x50 (0) (0) := mh_eq1 (show x50.toInt = (0 : Int32).toInt from c53) r_x50 rc_0 (0) (0) (by decide)
                refine mw_iconst (v := 0) 59 rfl dX9_road_58 (by decide) ?_
                exact mw_zret dX9_road_59 rfl (mh_r_wk rc_0 (by decide)) ⟨(0), rfl, ⟨(mh_r_wk rc_0 (by decide)), hI0, hF0⟩⟩
        · skip
          refine mw_iconst (v := 0) 33 rfl dX9_road_32 (by decide) ?_
          exact mw_zret dX9_road_33 rfl (mh_r_wk rc_0 (by decide)) ⟨(0), rfl, ⟨(mh_r_wk rc_0 (by decide)), hI0, hF0⟩⟩

def S_X9_keep : List (Nat × Nat) := [(8, 9999), (9, 9999), (10, 9999), (11, 9999), (12, 9999), (7, 5), (7, 6), (7, 7), (0, 13)]
def P_X9_keep (B D : Int) (s0 : mh_H) : Int32 → mh_H → Prop := fun z s => mh_r z (-2147483648) (2147483647) ∧ mh_I B D s ∧ mh_F S_X9_keep s0 s
set_option maxRecDepth 100000 in
set_option maxHeartbeats 4000000 in
theorem w_X9_keep (l : Launch) (G : mh_G) (d : Nat) {B D : Int} (hB : B ≤ 1960000000 ∧ D ≤ 1960000000) {s0 : mh_H} (hI0 : mh_I B D s0) : mh_Mi l G (d + 2) mM_X9_keep [.ref (G.2.2.2 0)] s0 (P_X9_keep B D s0) := by
  refine mh_enter (lv := [(0, .ref (G.2.2.2 0))]) (by decide) rfl (Nat.le_of_ble_eq_true rfl) ?_
  have hF0 : mh_F S_X9_keep s0 s0 := mh_F_rf
  refine mw_aload_n 1 rfl 0 dX9_keep_0 rfl rfl ?_
  refine mw_geta 4 rfl dX9_keep_1 gf_X9_16 rfl 7 (mh_rf hI0 1 rfl) ?_
  refine mw_aload_n 5 rfl 0 dX9_keep_4 rfl rfl ?_
  refine mw_geta 8 rfl dX9_keep_5 gf_X9_10 rfl 1 (mh_rf hI0 0 rfl) ?_
  refine mw_callVv [.ref (G.2.2.2 1)] [] 11 rfl dX9_keep_8 ml_X9_169 mc_X8_copyFrom mk_X8_copyFrom rfl rfl (by decide) (w_X8_copyFrom l G (d + 0) ⟨by omega, by omega⟩ hI0 7 (Or.inr (Or.inl rfl)) 1 (Or.inl rfl)) rfl rfl (Nat.le_of_ble_eq_true rfl) (mh_rok (by omega) (by decide)) (fun s9 q10 => ?_)
  obtain ⟨hI_s9, hG_s9⟩ := q10
  have hF_s9 : mh_F S_X9_keep s0 s9 := mh_F_tl hF0 hG_s9 (by decide +kernel)
  refine mw_aload_n 12 rfl 0 dX9_keep_11 rfl rfl ?_
  refine mw_iconst (v := 1) 13 rfl dX9_keep_12 (by decide) ?_
  refine mw_putz 16 rfl dX9_keep_13 pf_X9_90 rfl (mh_r_wk rc_1 (by decide)) (fun s11 t12 => ?_)
  have hI_s11 : mh_I B D s11 := by rw [t12]; exact wr_0_13 hI_s9 (mh_r_wk rc_1 (by decide))
  have hF_s11 : mh_F S_X9_keep s0 s11 := by rw [t12]; exact mh_F_pI hF_s9 (mh_sj 8 rfl)
  refine mw_aload_n 17 rfl 0 dX9_keep_16 rfl rfl ?_
  refine mw_geta 20 rfl dX9_keep_17 gf_X9_10 rfl 1 (mh_rf hI_s11 0 rfl) ?_
  refine mw_geti 23 rfl dX9_keep_20 gf_X9_176 rfl (fun x13 t14 => ?_)
  exact mw_iret dX9_keep_23 rfl ⟨x13, rfl, ⟨(mh_r_full x13), hI_s11, hF_s11⟩⟩

def S_X9_undo : List (Nat × Nat) := [(2, 9999), (3, 9999), (4, 9999), (5, 9999), (6, 9999), (1, 5), (1, 6), (1, 7)]
def P_X9_undo (B D : Int) (s0 : mh_H) : Int32 → mh_H → Prop := fun z s => mh_r z (0) (1) ∧ mh_I B D s ∧ mh_F S_X9_undo s0 s
set_option maxRecDepth 100000 in
set_option maxHeartbeats 4000000 in
theorem w_X9_undo (l : Launch) (G : mh_G) (d : Nat) {B D : Int} (hB : B ≤ 1960000000 ∧ D ≤ 1960000000) {s0 : mh_H} (hI0 : mh_I B D s0) : mh_Mi l G (d + 2) mM_X9_undo [.ref (G.2.2.2 0)] s0 (P_X9_undo B D s0) := by
  refine mh_enter (lv := [(0, .ref (G.2.2.2 0))]) (by decide) rfl (Nat.le_of_ble_eq_true rfl) ?_
  have hF0 : mh_F S_X9_undo s0 s0 := mh_F_rf
  refine mw_aload_n 1 rfl 0 dX9_undo_0 rfl rfl ?_
  refine mw_geti 4 rfl dX9_undo_1 gf_X9_90 rfl (fun x7 t8 => ?_)
  have r_x7 : mh_r x7 (0) (1) := by rw [t8]; exact rd_0_13 hI0
  refine mw_if_ne 7 rfl 9 dX9_undo_4 (by decide) (fun c9 => ?_) (fun c9 => ?_)
  · skip
    have r_x7 : mh_r x7 (1) (1) := mh_ne1 (show x7.toInt ≠ (0 : Int32).toInt from c9) r_x7 rc_0 (1) (1) (by decide)
    refine mw_aload_n 10 rfl 0 dX9_undo_9 rfl rfl ?_
    refine mw_geta 13 rfl dX9_undo_10 gf_X9_10 rfl 1 (mh_rf hI0 0 rfl) ?_
    refine mw_aload_n 14 rfl 0 dX9_undo_13 rfl rfl ?_
    refine mw_geta 17 rfl dX9_undo_14 gf_X9_16 rfl 7 (mh_rf hI0 1 rfl) ?_
    refine mw_callVv [.ref (G.2.2.2 7)] [] 20 rfl dX9_undo_17 ml_X9_169 mc_X8_copyFrom mk_X8_copyFrom rfl rfl (by decide) (w_X8_copyFrom l G (d + 0) ⟨by omega, by omega⟩ hI0 1 (Or.inl rfl) 7 (Or.inr (Or.inl rfl))) rfl rfl (Nat.le_of_ble_eq_true rfl) (mh_rok (by omega) (by decide)) (fun s11 q12 => ?_)
    obtain ⟨hI_s11, hG_s11⟩ := q12
    have hF_s11 : mh_F S_X9_undo s0 s11 := mh_F_tl hF0 hG_s11 (by decide +kernel)
    refine mw_iconst (v := 1) 21 rfl dX9_undo_20 (by decide) ?_
    exact mw_zret dX9_undo_21 rfl (mh_r_wk rc_1 (by decide)) ⟨(1), rfl, ⟨(mh_r_wk rc_1 (by decide)), hI_s11, hF_s11⟩⟩
  · skip
    have r_x7 : mh_r x7 (0) (0) := mh_eq1 (show x7.toInt = (0 : Int32).toInt from c9) r_x7 rc_0 (0) (0) (by decide)
    refine mw_iconst (v := 0) 8 rfl dX9_undo_7 (by decide) ?_
    exact mw_zret dX9_undo_8 rfl (mh_r_wk rc_0 (by decide)) ⟨(0), rfl, ⟨(mh_r_wk rc_0 (by decide)), hI0, hF0⟩⟩

def P_X9_heightFreeOf (B D : Int) (s0 : mh_H) (p1 : Int32) : Int32 → mh_H → Prop := fun z s => mh_r z (0) (2147483647) ∧ s0 = s
set_option maxRecDepth 100000 in
set_option maxHeartbeats 4000000 in
theorem w_X9_heightFreeOf (l : Launch) (G : mh_G) (d : Nat) {B D : Int} (hB : B ≤ 1980000000 ∧ D ≤ 1980000000) {s0 : mh_H} (hI0 : mh_I B D s0) (p1 : Int32) : mh_Mi l G (d + 1) mM_X9_heightFreeOf [.ref (G.2.2.2 0), .int p1] s0 (P_X9_heightFreeOf B D s0 p1) := by
  refine mh_enter (lv := [(0, .ref (G.2.2.2 0)), (1, .int p1)]) (by decide) rfl (Nat.le_of_ble_eq_true rfl) ?_
  refine mw_iconst (v := 0) 1 rfl dX9_heightFreeOf_0 (by decide) ?_
  refine mw_istore_n 2 rfl [(2, .int (0)), (0, .ref (G.2.2.2 0)), (1, .int p1)] dX9_heightFreeOf_1 rfl (by decide) rfl ?_
  refine mw_iconst (v := 0) 3 rfl dX9_heightFreeOf_2 (by decide) ?_
  refine mw_istore_n 4 rfl [(3, .int (0)), (2, .int (0)), (0, .ref (G.2.2.2 0)), (1, .int p1)] dX9_heightFreeOf_3 rfl (by decide) rfl ?_
  have L4 : ∀ n1 : Nat, ∀ (x327 : Int32) (x328 : Int32), mh_r x327 (0) (144) → mh_r x328 (0) (2147483647) → (144) - x327.toInt < (n1 : Int) → mh_W G (mh_XM l G (d + 1) (mh_Qi (P_X9_heightFreeOf B D s0 p1))) mM_X9_heightFreeOf 4 [(0, .ref (G.2.2.2 0)), (1, .int p1), (2, .int x328), (3, .int x327)] [] s0 := by
    intro n1
    induction n1 with
    | zero =>
      intro x327 x328 r_x327 r_x328 hmn1
      exact absurd hmn1 (by have := r_x327.1; have := r_x327.2; omega)
    | succ n1 ihn1 =>
      intro x327 x328 r_x327 r_x328 hmn1
      refine mw_iload_n 5 rfl 3 dX9_heightFreeOf_4 rfl rfl ?_
      refine mw_sipush (v := 144) 8 rfl dX9_heightFreeOf_5 (by decide) ?_
      refine mw_icmp_ge 11 rfl 46 dX9_heightFreeOf_8 (by decide) (fun c344 => ?_) (fun c344 => ?_)
      · skip
        have r_x327 : mh_r x327 (144) (144) := mh_le2 c344 rc_144 r_x327 (144) (by decide)
        refine mw_iload_n 47 rfl 2 dX9_heightFreeOf_46 rfl rfl ?_
        exact mw_iret dX9_heightFreeOf_47 rfl ⟨x328, rfl, ⟨r_x328, rfl⟩⟩
      · skip
        have r_x327 : mh_r x327 (0) (143) := mh_lt1 c344 r_x327 rc_144 (143) (by decide)
        refine mw_aload_n 12 rfl 0 dX9_heightFreeOf_11 rfl rfl ?_
        refine mw_geta 15 rfl dX9_heightFreeOf_12 gf_X9_19 rfl 13 (mh_rf hI0 2 rfl) ?_
        refine mw_geta 18 rfl dX9_heightFreeOf_15 gf_X9_107 rfl 16 (mh_rf hI0 23 rfl) ?_
        refine mw_iload_n 19 rfl 3 dX9_heightFreeOf_18 rfl rfl ?_
        refine mw_iald 20 rfl dX9_heightFreeOf_19 rfl r_x327 (by decide) (fun x345 t346 => ?_)
        refine mw_iload_n 21 rfl 1 dX9_heightFreeOf_20 rfl rfl ?_
        have J40 : ∀ (x354 : Int32), mh_r x354 (0) (2147483647) → mh_W G (mh_XM l G (d + 1) (mh_Qi (P_X9_heightFreeOf B D s0 p1))) mM_X9_heightFreeOf 40 [(0, .ref (G.2.2.2 0)), (1, .int p1), (2, .int x354), (3, .int x327)] [] s0 := by
          intro x354 r_x354
          refine mw_iincR (k := 3) (1) (144) 43 rfl (fun z => [(3, .int z), (0, .ref (G.2.2.2 0)), (1, .int p1), (2, .int x354)]) dX9_heightFreeOf_40 rfl (by decide) (fun _ => rfl) r_x327 (by decide) (by decide) (fun x357 t358 r_x357 => ?_)
          refine mw_goto 46 rfl 4 dX9_heightFreeOf_43 (by decide) ?_
          exact mw_lv [1, 2, 3, 0] rfl (ihn1 x357 x354 (mh_r_wk r_x357 (by decide)) r_x354 (by have : x357.toInt = x327.toInt + (1) := t358; omega))
        refine mw_icmp_lt 24 rfl 40 dX9_heightFreeOf_21 (by decide) (fun c359 => ?_) (fun c359 => ?_)
        · skip
          have r_x345 : mh_r x345 (-2147483648) (2147483646) := mh_lt1 c359 (mh_r_full x345) (mh_r_full p1) (2147483646) (by decide)
          have r_p1 : mh_r p1 (-2147483647) (2147483647) := mh_lt2 c359 r_x345 (mh_r_full p1) (-2147483647) (by decide)
          exact mw_lv [0, 1, 2, 3] rfl (J40 x328 r_x328)
        · skip
          refine mw_iload_n 25 rfl 2 dX9_heightFreeOf_24 rfl rfl ?_
          refine mw_aload_n 26 rfl 0 dX9_heightFreeOf_25 rfl rfl ?_
          refine mw_geta 29 rfl dX9_heightFreeOf_26 gf_X9_19 rfl 13 (mh_rf hI0 2 rfl) ?_
          refine mw_geta 32 rfl dX9_heightFreeOf_29 gf_X9_101 rfl 14 (mh_rf hI0 21 rfl) ?_
          refine mw_iload_n 33 rfl 3 dX9_heightFreeOf_32 rfl rfl ?_
          refine mw_iald 34 rfl dX9_heightFreeOf_33 rfl r_x327 (by decide) (fun x360 t361 => ?_)
          refine mw_iconst (v := 1) 35 rfl dX9_heightFreeOf_34 (by decide) ?_
          refine mw_iadd_u 36 rfl dX9_heightFreeOf_35 (fun x362 t363 => ?_)
          refine mw_mmax (0) (2147483647) 39 rfl dX9_heightFreeOf_36 ml_X9_182 r_x328 (mh_r_full x362) (by decide) (mh_mr (D := d + 1) (by omega) (Nat.le_of_ble_eq_true rfl)) (fun x364 t365 r_x364 => ?_)
          refine mw_istore_n 40 rfl [(2, .int x364), (0, .ref (G.2.2.2 0)), (1, .int p1), (3, .int x327)] dX9_heightFreeOf_39 rfl (by decide) rfl ?_
          exact mw_lv [1, 2, 0, 3] rfl (J40 x364 r_x364)
  exact mw_lv [2, 3, 1, 0] rfl (L4 145 (0) (0) (mh_r_wk rc_0 (by decide)) (mh_r_wk rc_0 (by decide)) (by have := (rc_0).1; have := (rc_0).2; omega))

def P_X9_orNothing (B D : Int) (s0 : mh_H) (p0 : Int32) : Int32 → mh_H → Prop := fun z s => mh_r z (-2) (2147483647) ∧ s0 = s
set_option maxRecDepth 100000 in
set_option maxHeartbeats 4000000 in
theorem w_X9_orNothing (l : Launch) (G : mh_G) (d : Nat) {B D : Int} (hB : B ≤ 2000000000 ∧ D ≤ 2000000000) {s0 : mh_H} (hI0 : mh_I B D s0) (p0 : Int32) : mh_Mi l G (d + 0) mM_X9_orNothing [.int p0] s0 (P_X9_orNothing B D s0 p0) := by
  refine mh_enter (lv := [(0, .int p0)]) (by decide) rfl (Nat.le_of_ble_eq_true rfl) ?_
  refine mw_iload_n 1 rfl 0 dX9_orNothing_0 rfl rfl ?_
  refine mw_if_le 4 rfl 8 dX9_orNothing_1 (by decide) (fun c2 => ?_) (fun c2 => ?_)
  · skip
    have r_p0 : mh_r p0 (-2147483648) (0) := mh_le1 (show p0.toInt ≤ (0 : Int32).toInt from c2) (mh_r_full p0) rc_0 (0) (by decide)
    refine mw_bipush (v := -2) 10 rfl dX9_orNothing_8 (by decide) ?_
    exact mw_iret dX9_orNothing_10 rfl ⟨(-2), rfl, ⟨(mh_r_wk rc_m2 (by decide)), rfl⟩⟩
  · skip
    have r_p0 : mh_r p0 (1) (2147483647) := mh_lt2 (show (0 : Int32).toInt < p0.toInt from c2) rc_0 (mh_r_full p0) (1) (by decide)
    refine mw_iload_n 5 rfl 0 dX9_orNothing_4 rfl rfl ?_
    refine mw_goto 8 rfl 10 dX9_orNothing_5 (by decide) ?_
    exact mw_iret dX9_orNothing_10 rfl ⟨p0, rfl, ⟨(mh_r_wk r_p0 (by decide)), rfl⟩⟩

def S_X9_passTrial : List (Nat × Nat) := [(14, 9999), (15, 9999), (16, 9999), (17, 9999), (18, 9999), (13, 5), (13, 6), (13, 7), (46, 9999), (54, 9999), (47, 9999), (55, 9999), (20, 9999), (21, 9999)]
def P_X9_passTrial (B D : Int) (s0 : mh_H) (p1 : Int32) (p2 : Int32) : mh_H → Prop := fun s => mh_I B D s ∧ mh_F S_X9_passTrial s0 s
set_option maxRecDepth 100000 in
set_option maxHeartbeats 4000000 in
theorem w_X9_passTrial (l : Launch) (G : mh_G) (d : Nat) {B D : Int} (hB : B ≤ 1900000000 ∧ D ≤ 1900000000) {s0 : mh_H} (hI0 : mh_I B D s0) (p1 : Int32) (r_p1 : mh_r p1 (1) (60)) (p2 : Int32) (r_p2 : mh_r p2 (-1) (143)) : mh_Mv l G (d + 5) mM_X9_passTrial [.ref (G.2.2.2 0), .int p1, .int p2] s0 (P_X9_passTrial B D s0 p1 p2) := by
  refine mh_enter (lv := [(0, .ref (G.2.2.2 0)), (1, .int p1), (2, .int p2)]) (by decide) rfl (Nat.le_of_ble_eq_true rfl) ?_
  have hF0 : mh_F S_X9_passTrial s0 s0 := mh_F_rf
  refine mw_aload_n 1 rfl 0 dX9_passTrial_0 rfl rfl ?_
  refine mw_geta 4 rfl dX9_passTrial_1 gf_X9_19 rfl 13 (mh_rf hI0 2 rfl) ?_
  refine mw_aload_n 5 rfl 0 dX9_passTrial_4 rfl rfl ?_
  refine mw_geta 8 rfl dX9_passTrial_5 gf_X9_10 rfl 1 (mh_rf hI0 0 rfl) ?_
  refine mw_callVv [.ref (G.2.2.2 1)] [] 11 rfl dX9_passTrial_8 ml_X9_169 mc_X8_copyFrom mk_X8_copyFrom rfl rfl (by decide) (w_X8_copyFrom l G (d + 3) ⟨by omega, by omega⟩ hI0 13 (Or.inr (Or.inr rfl)) 1 (Or.inl rfl)) rfl rfl (Nat.le_of_ble_eq_true rfl) (mh_rok (by omega) (by decide)) (fun s100 q101 => ?_)
  obtain ⟨hI_s100, hG_s100⟩ := q101
  have hF_s100 : mh_F S_X9_passTrial s0 s100 := mh_F_tl hF0 hG_s100 (by decide +kernel)
  refine mw_iload_n 12 rfl 2 dX9_passTrial_11 rfl rfl ?_
  refine mw_sipush (v := 143) 15 rfl dX9_passTrial_12 (by decide) ?_
  refine mw_callSi [.int p2, .int (143)] [] 18 rfl dX9_passTrial_15 ml_X9_98 mc_X9_isWithin mk_X9_isWithin (w_X9_isWithin l G (d + 4) ⟨by omega, by omega⟩ hI_s100 p2 (143)) rfl rfl (Nat.le_of_ble_eq_true rfl) (mh_rok (by omega) (by decide)) (fun x102 s103 q104 => ?_)
  obtain ⟨r_x102, e0_s103, rfl⟩ := q104
  have J31 : ∀  (s108 : mh_H), mh_I B D s108 → mh_F S_X9_passTrial s0 s108 → mh_W G (mh_XM l G (d + 5) (mh_Qv (P_X9_passTrial B D s0 p1 p2))) mM_X9_passTrial 31 [(0, .ref (G.2.2.2 0)), (1, .int p1), (2, .int p2)] [] s108 := by
    intro s108 hI_s108 hF_s108
    refine mw_iconst (v := 0) 32 rfl dX9_passTrial_31 (by decide) ?_
    refine mw_istore_n 33 rfl [(3, .int (0)), (0, .ref (G.2.2.2 0)), (1, .int p1), (2, .int p2)] dX9_passTrial_32 rfl (by decide) rfl ?_
    have L33 : ∀ n1 : Nat, ∀ (x265 : Int32) (s266 : mh_H), mh_r x265 (0) (60) → mh_I B D s266 → mh_F S_X9_passTrial s0 s266 → (60) - x265.toInt < (n1 : Int) → mh_W G (mh_XM l G (d + 5) (mh_Qv (P_X9_passTrial B D s0 p1 p2))) mM_X9_passTrial 33 [(0, .ref (G.2.2.2 0)), (1, .int p1), (2, .int p2), (3, .int x265)] [] s266 := by
      intro n1
      induction n1 with
      | zero =>
        intro x265 s266 r_x265 hI_s266 hF_s266 hmn1
        exact absurd hmn1 (by have := r_x265.1; have := r_x265.2; omega)
      | succ n1 ihn1 =>
        intro x265 s266 r_x265 hI_s266 hF_s266 hmn1
        refine mw_iload_n 34 rfl 3 dX9_passTrial_33 rfl rfl ?_
        refine mw_iload_n 35 rfl 1 dX9_passTrial_34 rfl rfl ?_
        refine mw_icmp_ge 38 rfl 59 dX9_passTrial_35 (by decide) (fun c277 => ?_) (fun c277 => ?_)
        · skip
          have r_x265 : mh_r x265 (1) (60) := mh_le2 c277 r_p1 r_x265 (1) (by decide)
          exact mw_vret dX9_passTrial_59 rfl ⟨rfl, ⟨hI_s266, hF_s266⟩⟩
        · skip
          have r_x265 : mh_r x265 (0) (59) := mh_lt1 c277 r_x265 r_p1 (59) (by decide)
          refine mw_aload_n 39 rfl 0 dX9_passTrial_38 rfl rfl ?_
          refine mw_geta 42 rfl dX9_passTrial_39 gf_X9_25 rfl 19 (mh_rf hI_s266 3 rfl) ?_
          refine mw_aload_n 43 rfl 0 dX9_passTrial_42 rfl rfl ?_
          refine mw_geta 46 rfl dX9_passTrial_43 gf_X9_19 rfl 13 (mh_rf hI_s266 2 rfl) ?_
          refine mw_aload_n 47 rfl 0 dX9_passTrial_46 rfl rfl ?_
          obtain ⟨k279, t278⟩ : ∃ y : Nat, s266.2.2 0 11 = y := ⟨_, rfl⟩
          have hk279 : mh_isL k279 := by rw [← t278]; exact hI_s266.2.1.2.1
          refine mw_geta 50 rfl dX9_passTrial_47 gf_X9_71 rfl k279 t278 ?_
          refine mw_callVv [.ref (G.2.2.2 13), .ref (G.2.2.2 k279)] [] 53 rfl dX9_passTrial_50 ml_X9_135 mc_X0_pass mk_X0_pass rfl rfl (by decide) (w_X0_pass l G (d + 0) ⟨by omega, by omega⟩ hI_s266 13 (Or.inr (Or.inr rfl)) k279 hk279) rfl rfl (Nat.le_of_ble_eq_true rfl) (mh_rok (by omega) (by decide)) (fun s281 q282 => ?_)
          obtain ⟨hI_s281, hG_s281⟩ := q282
          have hF_s281 : mh_F S_X9_passTrial s0 s281 := mh_F_tl hF_s266 hG_s281 (by rcases hk279 with rfl | rfl <;> decide +kernel)
          refine mw_iincR (k := 3) (1) (60) 56 rfl (fun z => [(3, .int z), (0, .ref (G.2.2.2 0)), (1, .int p1), (2, .int p2)]) dX9_passTrial_53 rfl (by decide) (fun _ => rfl) r_x265 (by decide) (by decide) (fun x283 t284 r_x283 => ?_)
          refine mw_goto 59 rfl 33 dX9_passTrial_56 (by decide) ?_
          exact mw_lv [1, 2, 3, 0] rfl (ihn1 x283 s281 (mh_r_wk r_x283 (by decide)) hI_s281 hF_s281 (by have : x283.toInt = x265.toInt + (1) := t284; omega))
    exact mw_lv [1, 2, 3, 0] rfl (L33 61 (0) s108 (mh_r_wk rc_0 (by decide)) hI_s108 hF_s108 (by have := (rc_0).1; have := (rc_0).2; omega))
  refine mw_if_eq 21 rfl 31 dX9_passTrial_18 (by decide) (fun c285 => ?_) (fun c285 => ?_)
  · skip
    have r_x102 : mh_r x102 (0) (0) := mh_eq1 (show x102.toInt = (0 : Int32).toInt from c285) r_x102 rc_0 (0) (0) (by decide)
    exact mw_lv [0, 1, 2] rfl (J31 s100 hI_s100 hF_s100)
  · skip
    have r_p2 : mh_r p2 (0) (143) := ⟨by have := e0_s103.1 (mh_z1 r_x102 c285); have := (r_p2).1; omega, by have := e0_s103.1 (mh_z1 r_x102 c285); have := (r_p2).2; have := (rc_143).2; omega⟩
    have r_x102 : mh_r x102 (1) (1) := mh_ne1 (show x102.toInt ≠ (0 : Int32).toInt from c285) r_x102 rc_0 (1) (1) (by decide)
    refine mw_aload_n 22 rfl 0 dX9_passTrial_21 rfl rfl ?_
    refine mw_geta 25 rfl dX9_passTrial_22 gf_X9_19 rfl 13 (mh_rf hI_s100 2 rfl) ?_
    refine mw_geta 28 rfl dX9_passTrial_25 gf_X9_104 rfl 15 (mh_rf hI_s100 22 rfl) ?_
    refine mw_iload_n 29 rfl 2 dX9_passTrial_28 rfl rfl ?_
    refine mw_iconst (v := 2) 30 rfl dX9_passTrial_29 (by decide) ?_
    refine mw_iast 31 rfl dX9_passTrial_30 rfl r_p2 (by decide) (fun s286 t287 => ?_)
    have hI_s286 : mh_I B D s286 := by rw [t287]; exact wr_15 hI_s100
    have hF_s286 : mh_F S_X9_passTrial s0 s286 := by rw [t287]; exact mh_F_pI hF_s100 (mh_si 1 rfl)
    exact mw_lv [0, 1, 2] rfl (J31 s286 hI_s286 hF_s286)

def P_X9_sumOf_c (B D : Int) (s0 : mh_H) : Int32 → mh_H → Prop := fun z s => mh_r z (-2147483648) (2147483647) ∧ s0 = s
set_option maxRecDepth 100000 in
set_option maxHeartbeats 4000000 in
theorem w_X9_sumOf_c (l : Launch) (G : mh_G) (d : Nat) {B D : Int} (hB : B ≤ 2000000000 ∧ D ≤ 2000000000) {s0 : mh_H} (hI0 : mh_I B D s0) : mh_Mi l G (d + 0) mM_X9_sumOf [.ref (G.2.2.2 4)] s0 (P_X9_sumOf_c B D s0) := by
  refine mh_enter (lv := [(0, .ref (G.2.2.2 4))]) (by decide) rfl (Nat.le_of_ble_eq_true rfl) ?_
  refine mw_iconst (v := 0) 1 rfl dX9_sumOf_0 (by decide) ?_
  refine mw_istore_n 2 rfl [(1, .int (0)), (0, .ref (G.2.2.2 4))] dX9_sumOf_1 rfl (by decide) rfl ?_
  refine mw_aload_n 3 rfl 1 dX9_sumOf_2 rfl rfl ?_
  refine mw_astore_n 4 rfl [(2, .ref (G.2.2.2 4)), (1, .int (0)), (0, .ref (G.2.2.2 4))] dX9_sumOf_3 rfl (by decide) rfl ?_
  refine mw_aload_n 5 rfl 0 dX9_sumOf_4 rfl rfl ?_
  refine mw_alen 6 rfl dX9_sumOf_5 rfl (by decide) (v := 144) (by decide) ?_
  refine mw_istore_n 7 rfl [(3, .int (144)), (2, .ref (G.2.2.2 4)), (1, .int (0)), (0, .ref (G.2.2.2 4))] dX9_sumOf_6 rfl (by decide) rfl ?_
  refine mw_iconst (v := 0) 8 rfl dX9_sumOf_7 (by decide) ?_
  refine mw_istore 10 rfl [(4, .int (0)), (3, .int (144)), (2, .ref (G.2.2.2 4)), (1, .int (0)), (0, .ref (G.2.2.2 4))] dX9_sumOf_8  (by decide) rfl ?_
  have L10 : ∀ n1 : Nat, ∀ (x195 : Int32) (x196 : Int32), mh_r x195 (0) (144) → (144) - x195.toInt < (n1 : Int) → mh_W G (mh_XM l G (d + 0) (mh_Qi (P_X9_sumOf_c B D s0))) mM_X9_sumOf 10 [(0, .ref (G.2.2.2 4)), (1, .int x196), (2, .ref (G.2.2.2 4)), (3, .int (144)), (4, .int x195)] [] s0 := by
    intro n1
    induction n1 with
    | zero =>
      intro x195 x196 r_x195 hmn1
      exact absurd hmn1 (by have := r_x195.1; have := r_x195.2; omega)
    | succ n1 ihn1 =>
      intro x195 x196 r_x195 hmn1
      refine mw_iload 12 rfl 4 dX9_sumOf_10  rfl ?_
      refine mw_iload_n 13 rfl 3 dX9_sumOf_12 rfl rfl ?_
      refine mw_icmp_ge 16 rfl 33 dX9_sumOf_13 (by decide) (fun c206 => ?_) (fun c206 => ?_)
      · skip
        have r_x195 : mh_r x195 (144) (144) := mh_le2 c206 rc_144 r_x195 (144) (by decide)
        refine mw_iload_n 34 rfl 1 dX9_sumOf_33 rfl rfl ?_
        exact mw_iret dX9_sumOf_34 rfl ⟨x196, rfl, ⟨(mh_r_full x196), rfl⟩⟩
      · skip
        have r_x195 : mh_r x195 (0) (143) := mh_lt1 c206 r_x195 rc_144 (143) (by decide)
        refine mw_aload_n 17 rfl 2 dX9_sumOf_16 rfl rfl ?_
        refine mw_iload 19 rfl 4 dX9_sumOf_17  rfl ?_
        refine mw_iald 20 rfl dX9_sumOf_19 rfl r_x195 (by decide) (fun x207 t208 => ?_)
        refine mw_istore 22 rfl [(5, .int x207), (0, .ref (G.2.2.2 4)), (1, .int x196), (2, .ref (G.2.2.2 4)), (3, .int (144)), (4, .int x195)] dX9_sumOf_20  (by decide) rfl ?_
        refine mw_iload_n 23 rfl 2 dX9_sumOf_22 rfl rfl ?_
        refine mw_iload 25 rfl 0 dX9_sumOf_23  rfl ?_
        refine mw_iadd_u 26 rfl dX9_sumOf_25 (fun x209 t210 => ?_)
        refine mw_istore_n 27 rfl [(1, .int x209), (5, .int x207), (0, .ref (G.2.2.2 4)), (2, .ref (G.2.2.2 4)), (3, .int (144)), (4, .int x195)] dX9_sumOf_26 rfl (by decide) rfl ?_
        refine mw_iincR (k := 5) (1) (144) 30 rfl (fun z => [(4, .int z), (1, .int x209), (5, .int x207), (0, .ref (G.2.2.2 4)), (2, .ref (G.2.2.2 4)), (3, .int (144))]) dX9_sumOf_27 rfl (by decide) (fun _ => rfl) r_x195 (by decide) (by decide) (fun x211 t212 r_x211 => ?_)
        refine mw_goto 33 rfl 10 dX9_sumOf_30 (by decide) ?_
        exact mw_lv [3, 1, 4, 5, 0] rfl (ihn1 x211 x209 (mh_r_wk r_x211 (by decide)) (by have : x211.toInt = x195.toInt + (1) := t212; omega))
  exact mw_lv [4, 3, 2, 1, 0] rfl (L10 145 (0) (0) (mh_r_wk rc_0 (by decide)) (by have := (rc_0).1; have := (rc_0).2; omega))

def P_X9_sumOf_w (B D : Int) (s0 : mh_H) : Int32 → mh_H → Prop := fun z s => mh_r z (-2147483648) (2147483647) ∧ s0 = s
set_option maxRecDepth 100000 in
set_option maxHeartbeats 4000000 in
theorem w_X9_sumOf_w (l : Launch) (G : mh_G) (d : Nat) {B D : Int} (hB : B ≤ 2000000000 ∧ D ≤ 2000000000) {s0 : mh_H} (hI0 : mh_I B D s0) : mh_Mi l G (d + 0) mM_X9_sumOf [.ref (G.2.2.2 5)] s0 (P_X9_sumOf_w B D s0) := by
  refine mh_enter (lv := [(0, .ref (G.2.2.2 5))]) (by decide) rfl (Nat.le_of_ble_eq_true rfl) ?_
  refine mw_iconst (v := 0) 1 rfl dX9_sumOf_0 (by decide) ?_
  refine mw_istore_n 2 rfl [(1, .int (0)), (0, .ref (G.2.2.2 5))] dX9_sumOf_1 rfl (by decide) rfl ?_
  refine mw_aload_n 3 rfl 1 dX9_sumOf_2 rfl rfl ?_
  refine mw_astore_n 4 rfl [(2, .ref (G.2.2.2 5)), (1, .int (0)), (0, .ref (G.2.2.2 5))] dX9_sumOf_3 rfl (by decide) rfl ?_
  refine mw_aload_n 5 rfl 0 dX9_sumOf_4 rfl rfl ?_
  refine mw_alen 6 rfl dX9_sumOf_5 rfl (by decide) (v := 144) (by decide) ?_
  refine mw_istore_n 7 rfl [(3, .int (144)), (2, .ref (G.2.2.2 5)), (1, .int (0)), (0, .ref (G.2.2.2 5))] dX9_sumOf_6 rfl (by decide) rfl ?_
  refine mw_iconst (v := 0) 8 rfl dX9_sumOf_7 (by decide) ?_
  refine mw_istore 10 rfl [(4, .int (0)), (3, .int (144)), (2, .ref (G.2.2.2 5)), (1, .int (0)), (0, .ref (G.2.2.2 5))] dX9_sumOf_8  (by decide) rfl ?_
  have L10 : ∀ n1 : Nat, ∀ (x195 : Int32) (x196 : Int32), mh_r x195 (0) (144) → (144) - x195.toInt < (n1 : Int) → mh_W G (mh_XM l G (d + 0) (mh_Qi (P_X9_sumOf_w B D s0))) mM_X9_sumOf 10 [(0, .ref (G.2.2.2 5)), (1, .int x196), (2, .ref (G.2.2.2 5)), (3, .int (144)), (4, .int x195)] [] s0 := by
    intro n1
    induction n1 with
    | zero =>
      intro x195 x196 r_x195 hmn1
      exact absurd hmn1 (by have := r_x195.1; have := r_x195.2; omega)
    | succ n1 ihn1 =>
      intro x195 x196 r_x195 hmn1
      refine mw_iload 12 rfl 4 dX9_sumOf_10  rfl ?_
      refine mw_iload_n 13 rfl 3 dX9_sumOf_12 rfl rfl ?_
      refine mw_icmp_ge 16 rfl 33 dX9_sumOf_13 (by decide) (fun c206 => ?_) (fun c206 => ?_)
      · skip
        have r_x195 : mh_r x195 (144) (144) := mh_le2 c206 rc_144 r_x195 (144) (by decide)
        refine mw_iload_n 34 rfl 1 dX9_sumOf_33 rfl rfl ?_
        exact mw_iret dX9_sumOf_34 rfl ⟨x196, rfl, ⟨(mh_r_full x196), rfl⟩⟩
      · skip
        have r_x195 : mh_r x195 (0) (143) := mh_lt1 c206 r_x195 rc_144 (143) (by decide)
        refine mw_aload_n 17 rfl 2 dX9_sumOf_16 rfl rfl ?_
        refine mw_iload 19 rfl 4 dX9_sumOf_17  rfl ?_
        refine mw_iald 20 rfl dX9_sumOf_19 rfl r_x195 (by decide) (fun x207 t208 => ?_)
        refine mw_istore 22 rfl [(5, .int x207), (0, .ref (G.2.2.2 5)), (1, .int x196), (2, .ref (G.2.2.2 5)), (3, .int (144)), (4, .int x195)] dX9_sumOf_20  (by decide) rfl ?_
        refine mw_iload_n 23 rfl 2 dX9_sumOf_22 rfl rfl ?_
        refine mw_iload 25 rfl 0 dX9_sumOf_23  rfl ?_
        refine mw_iadd_u 26 rfl dX9_sumOf_25 (fun x209 t210 => ?_)
        refine mw_istore_n 27 rfl [(1, .int x209), (5, .int x207), (0, .ref (G.2.2.2 5)), (2, .ref (G.2.2.2 5)), (3, .int (144)), (4, .int x195)] dX9_sumOf_26 rfl (by decide) rfl ?_
        refine mw_iincR (k := 5) (1) (144) 30 rfl (fun z => [(4, .int z), (1, .int x209), (5, .int x207), (0, .ref (G.2.2.2 5)), (2, .ref (G.2.2.2 5)), (3, .int (144))]) dX9_sumOf_27 rfl (by decide) (fun _ => rfl) r_x195 (by decide) (by decide) (fun x211 t212 r_x211 => ?_)
        refine mw_goto 33 rfl 10 dX9_sumOf_30 (by decide) ?_
        exact mw_lv [3, 1, 4, 5, 0] rfl (ihn1 x211 x209 (mh_r_wk r_x211 (by decide)) (by have : x211.toInt = x195.toInt + (1) := t212; omega))
  exact mw_lv [4, 3, 2, 1, 0] rfl (L10 145 (0) (0) (mh_r_wk rc_0 (by decide)) (by have := (rc_0).1; have := (rc_0).2; omega))

def P_X9_tellWorks (B D : Int) (s0 : mh_H) (p1 : Int32) : Int32 → mh_H → Prop := fun z s => mh_r z (-2147483648) (2147483647) ∧ s0 = s
set_option maxRecDepth 100000 in
set_option maxHeartbeats 4000000 in
theorem w_X9_tellWorks (l : Launch) (G : mh_G) (d : Nat) {B D : Int} (hB : B ≤ 2000000000 ∧ D ≤ 2000000000) {s0 : mh_H} (hI0 : mh_I B D s0) (p1 : Int32) : mh_Mi l G (d + 0) mM_X9_tellWorks [.ref (G.2.2.2 0), .int p1] s0 (P_X9_tellWorks B D s0 p1) := by
  refine mh_enter (lv := [(0, .ref (G.2.2.2 0)), (1, .int p1)]) (by decide) rfl (Nat.le_of_ble_eq_true rfl) ?_
  refine mw_iconst (v := 0) 1 rfl dX9_tellWorks_0 (by decide) ?_
  refine mw_istore_n 2 rfl [(2, .int (0)), (0, .ref (G.2.2.2 0)), (1, .int p1)] dX9_tellWorks_1 rfl (by decide) rfl ?_
  refine mw_iconst (v := 0) 3 rfl dX9_tellWorks_2 (by decide) ?_
  refine mw_istore_n 4 rfl [(3, .int (0)), (2, .int (0)), (0, .ref (G.2.2.2 0)), (1, .int p1)] dX9_tellWorks_3 rfl (by decide) rfl ?_
  refine mw_bipush (v := -2) 6 rfl dX9_tellWorks_4 (by decide) ?_
  refine mw_istore 8 rfl [(4, .int (-2)), (3, .int (0)), (2, .int (0)), (0, .ref (G.2.2.2 0)), (1, .int p1)] dX9_tellWorks_6  (by decide) rfl ?_
  refine mw_iconst (v := 0) 9 rfl dX9_tellWorks_8 (by decide) ?_
  refine mw_istore 11 rfl [(5, .int (0)), (4, .int (-2)), (3, .int (0)), (2, .int (0)), (0, .ref (G.2.2.2 0)), (1, .int p1)] dX9_tellWorks_9  (by decide) rfl ?_
  refine mw_iconst (v := 0) 12 rfl dX9_tellWorks_11 (by decide) ?_
  refine mw_istore 14 rfl [(6, .int (0)), (5, .int (0)), (4, .int (-2)), (3, .int (0)), (2, .int (0)), (0, .ref (G.2.2.2 0)), (1, .int p1)] dX9_tellWorks_12  (by decide) rfl ?_
  have L14 : ∀ n1 : Nat, ∀ (x984 : Int32) (x985 : Int32) (x986 : Int32) (x987 : Int32) (x988 : Int32), mh_r x984 (0) (144) → mh_r x985 (0) (2147483647) → mh_r x986 (-2) (143) → (144) - x984.toInt < (n1 : Int) → mh_W G (mh_XM l G (d + 0) (mh_Qi (P_X9_tellWorks B D s0 p1))) mM_X9_tellWorks 14 [(0, .ref (G.2.2.2 0)), (1, .int p1), (2, .int x988), (3, .int x987), (4, .int x986), (5, .int x985), (6, .int x984)] [] s0 := by
    intro n1
    induction n1 with
    | zero =>
      intro x984 x985 x986 x987 x988 r_x984 r_x985 r_x986 hmn1
      exact absurd hmn1 (by have := r_x984.1; have := r_x984.2; omega)
    | succ n1 ihn1 =>
      intro x984 x985 x986 x987 x988 r_x984 r_x985 r_x986 hmn1
      refine mw_iload 16 rfl 6 dX9_tellWorks_14  rfl ?_
      refine mw_sipush (v := 144) 19 rfl dX9_tellWorks_16 (by decide) ?_
      refine mw_icmp_ge 22 rfl 79 dX9_tellWorks_19 (by decide) (fun c1012 => ?_) (fun c1012 => ?_)
      · skip
        have r_x984 : mh_r x984 (144) (144) := mh_le2 c1012 rc_144 r_x984 (144) (by decide)
        refine mw_iload_n 80 rfl 1 dX9_tellWorks_79 rfl rfl ?_
        rcases (show p1.toInt = 0 ∨ p1.toInt = 1 ∨ p1.toInt = 2 ∨ (p1.toInt < 0 ∨ 2 < p1.toInt) by have := (mh_r_full p1).1; have := (mh_r_full p1).2; omega) with c1013 | c1013 | c1013 | c1013
        · refine mw_tabIn 108 dX9_tellWorks_80 (by rw [c1013]; decide) (by rw [c1013]; decide) (by rw [c1013]; rfl) (by decide) ?_
          have r_p1 : mh_r p1 (0) (0) := mh_eq1 (show p1.toInt = (0 : Int32).toInt from c1013.trans rfl) (mh_r_full p1) rc_0 (0) (0) (by decide)
          refine mw_iload_n 109 rfl 2 dX9_tellWorks_108 rfl rfl ?_
          exact mw_iret dX9_tellWorks_109 rfl ⟨x988, rfl, ⟨(mh_r_full x988), rfl⟩⟩
        · refine mw_tabIn 110 dX9_tellWorks_80 (by rw [c1013]; decide) (by rw [c1013]; decide) (by rw [c1013]; rfl) (by decide) ?_
          have r_p1 : mh_r p1 (1) (1) := mh_eq1 (show p1.toInt = (1 : Int32).toInt from c1013.trans rfl) (mh_r_full p1) rc_1 (1) (1) (by decide)
          refine mw_iload_n 111 rfl 3 dX9_tellWorks_110 rfl rfl ?_
          exact mw_iret dX9_tellWorks_111 rfl ⟨x987, rfl, ⟨(mh_r_full x987), rfl⟩⟩
        · refine mw_tabIn 112 dX9_tellWorks_80 (by rw [c1013]; decide) (by rw [c1013]; decide) (by rw [c1013]; rfl) (by decide) ?_
          have r_p1 : mh_r p1 (2) (2) := mh_eq1 (show p1.toInt = (2 : Int32).toInt from c1013.trans rfl) (mh_r_full p1) rc_2 (2) (2) (by decide)
          refine mw_iload 114 rfl 4 dX9_tellWorks_112  rfl ?_
          exact mw_iret dX9_tellWorks_114 rfl ⟨x986, rfl, ⟨(mh_r_wk r_x986 (by decide)), rfl⟩⟩
        · refine mw_tabOut 115 dX9_tellWorks_80 c1013 (by decide) ?_
          refine mw_iload 117 rfl 5 dX9_tellWorks_115  rfl ?_
          exact mw_iret dX9_tellWorks_117 rfl ⟨x985, rfl, ⟨(mh_r_wk r_x985 (by decide)), rfl⟩⟩
      · skip
        have r_x984 : mh_r x984 (0) (143) := mh_lt1 c1012 r_x984 rc_144 (143) (by decide)
        refine mw_aload_n 23 rfl 0 dX9_tellWorks_22 rfl rfl ?_
        refine mw_geta 26 rfl dX9_tellWorks_23 gf_X9_19 rfl 13 (mh_rf hI0 2 rfl) ?_
        refine mw_geta 29 rfl dX9_tellWorks_26 gf_X9_107 rfl 16 (mh_rf hI0 23 rfl) ?_
        refine mw_iload 31 rfl 6 dX9_tellWorks_29  rfl ?_
        refine mw_iald 32 rfl dX9_tellWorks_31 rfl r_x984 (by decide) (fun x1014 t1015 => ?_)
        refine mw_aload_n 33 rfl 0 dX9_tellWorks_32 rfl rfl ?_
        refine mw_geta 36 rfl dX9_tellWorks_33 gf_X9_64 rfl 39 (mh_rf hI0 10 rfl) ?_
        refine mw_iload 38 rfl 6 dX9_tellWorks_36  rfl ?_
        refine mw_iald 39 rfl dX9_tellWorks_38 rfl r_x984 (by decide) (fun x1016 t1017 => ?_)
        refine mw_isub_u 40 rfl dX9_tellWorks_39 (fun x1018 t1019 => ?_)
        refine mw_istore 42 rfl [(7, .int x1018), (0, .ref (G.2.2.2 0)), (1, .int p1), (2, .int x988), (3, .int x987), (4, .int x986), (5, .int x985), (6, .int x984)] dX9_tellWorks_40  (by decide) rfl ?_
        refine mw_iload 44 rfl 0 dX9_tellWorks_42  rfl ?_
        have J50 : ∀ (x1022 : Int32), mh_W G (mh_XM l G (d + 0) (mh_Qi (P_X9_tellWorks B D s0 p1))) mM_X9_tellWorks 50 [(0, .ref (G.2.2.2 0)), (1, .int p1), (2, .int x1022), (3, .int x987), (4, .int x986), (5, .int x985), (6, .int x984), (7, .int x1018)] [] s0 := by
          intro x1022
          refine mw_iload 52 rfl 7 dX9_tellWorks_50  rfl ?_
          have J58 : ∀ (x1033 : Int32), mh_W G (mh_XM l G (d + 0) (mh_Qi (P_X9_tellWorks B D s0 p1))) mM_X9_tellWorks 58 [(0, .ref (G.2.2.2 0)), (1, .int p1), (2, .int x1022), (3, .int x1033), (4, .int x986), (5, .int x985), (6, .int x984), (7, .int x1018)] [] s0 := by
            intro x1033
            refine mw_iload 60 rfl 7 dX9_tellWorks_58  rfl ?_
            refine mw_iload 62 rfl 5 dX9_tellWorks_60  rfl ?_
            have J73 : ∀ (x1040 : Int32) (x1041 : Int32), mh_r x1040 (-2) (143) → mh_r x1041 (0) (2147483647) → mh_W G (mh_XM l G (d + 0) (mh_Qi (P_X9_tellWorks B D s0 p1))) mM_X9_tellWorks 73 [(0, .ref (G.2.2.2 0)), (1, .int p1), (2, .int x1022), (3, .int x1033), (4, .int x1040), (5, .int x1041), (6, .int x984), (7, .int x1018)] [] s0 := by
              intro x1040 x1041 r_x1040 r_x1041
              refine mw_iincR (k := 6) (1) (144) 76 rfl (fun z => [(6, .int z), (0, .ref (G.2.2.2 0)), (1, .int p1), (2, .int x1022), (3, .int x1033), (4, .int x1040), (5, .int x1041), (7, .int x1018)]) dX9_tellWorks_73 rfl (by decide) (fun _ => rfl) r_x984 (by decide) (by decide) (fun x1044 t1045 r_x1044 => ?_)
              refine mw_goto 79 rfl 14 dX9_tellWorks_76 (by decide) ?_
              exact mw_lv [1, 2, 3, 4, 5, 6, 0] rfl (ihn1 x1044 x1041 x1040 x1033 x1022 (mh_r_wk r_x1044 (by decide)) r_x1041 r_x1040 (by have : x1044.toInt = x984.toInt + (1) := t1045; omega))
            refine mw_icmp_le 65 rfl 73 dX9_tellWorks_62 (by decide) (fun c1046 => ?_) (fun c1046 => ?_)
            · skip
              exact mw_lv [0, 1, 2, 3, 4, 5, 6, 7] rfl (J73 x986 x985 r_x986 r_x985)
            · skip
              have r_x985 : mh_r x985 (0) (2147483646) := mh_lt1 c1046 r_x985 (mh_r_full x1018) (2147483646) (by decide)
              have r_x1018 : mh_r x1018 (1) (2147483647) := mh_lt2 c1046 r_x985 (mh_r_full x1018) (1) (by decide)
              refine mw_iload 67 rfl 6 dX9_tellWorks_65  rfl ?_
              refine mw_istore 69 rfl [(4, .int x984), (0, .ref (G.2.2.2 0)), (1, .int p1), (2, .int x1022), (3, .int x1033), (5, .int x985), (6, .int x984), (7, .int x1018)] dX9_tellWorks_67  (by decide) rfl ?_
              refine mw_iload 71 rfl 7 dX9_tellWorks_69  rfl ?_
              refine mw_istore 73 rfl [(5, .int x1018), (4, .int x984), (0, .ref (G.2.2.2 0)), (1, .int p1), (2, .int x1022), (3, .int x1033), (6, .int x984), (7, .int x1018)] dX9_tellWorks_71  (by decide) rfl ?_
              exact mw_lv [2, 3, 4, 5, 1, 0, 6, 7] rfl (J73 x984 x1018 (mh_r_wk r_x984 (by decide)) (mh_r_wk r_x1018 (by decide)))
          refine mw_if_ge 55 rfl 58 dX9_tellWorks_52 (by decide) (fun c1047 => ?_) (fun c1047 => ?_)
          · skip
            have r_x1018 : mh_r x1018 (0) (2147483647) := mh_le2 (show (0 : Int32).toInt ≤ x1018.toInt from c1047) rc_0 (mh_r_full x1018) (0) (by decide)
            exact mw_lv [0, 1, 2, 3, 4, 5, 6, 7] rfl (J58 x987)
          · skip
            have r_x1018 : mh_r x1018 (-2147483648) (-1) := mh_lt1 (show x1018.toInt < (0 : Int32).toInt from c1047) (mh_r_full x1018) rc_0 (-1) (by decide)
            refine mw_iincU (k := 3) 58 rfl (fun z => [(3, .int z), (0, .ref (G.2.2.2 0)), (1, .int p1), (2, .int x1022), (4, .int x986), (5, .int x985), (6, .int x984), (7, .int x1018)]) dX9_tellWorks_55 rfl (by decide) (fun _ => rfl) (fun x1048 _ => ?_)
            exact mw_lv [1, 2, 3, 0, 4, 5, 6, 7] rfl (J58 x1048)
        refine mw_if_le 47 rfl 50 dX9_tellWorks_44 (by decide) (fun c1049 => ?_) (fun c1049 => ?_)
        · skip
          have r_x1018 : mh_r x1018 (-2147483648) (0) := mh_le1 (show x1018.toInt ≤ (0 : Int32).toInt from c1049) (mh_r_full x1018) rc_0 (0) (by decide)
          exact mw_lv [1, 2, 3, 4, 5, 6, 7, 0] rfl (J50 x988)
        · skip
          have r_x1018 : mh_r x1018 (1) (2147483647) := mh_lt2 (show (0 : Int32).toInt < x1018.toInt from c1049) rc_0 (mh_r_full x1018) (1) (by decide)
          refine mw_iincU (k := 3) 50 rfl (fun z => [(2, .int z), (7, .int x1018), (0, .ref (G.2.2.2 0)), (1, .int p1), (3, .int x987), (4, .int x986), (5, .int x985), (6, .int x984)]) dX9_tellWorks_47 rfl (by decide) (fun _ => rfl) (fun x1050 _ => ?_)
          exact mw_lv [2, 3, 0, 4, 5, 6, 7, 1] rfl (J50 x1050)
  exact mw_lv [5, 6, 4, 3, 2, 1, 0] rfl (L14 145 (0) (0) (-2) (0) (0) (mh_r_wk rc_0 (by decide)) (mh_r_wk rc_0 (by decide)) (mh_r_wk rc_m2 (by decide)) (by have := (rc_0).1; have := (rc_0).2; omega))

def P_X9_lowestTerm (B D : Int) (s0 : mh_H) (p0 : Int64) (p2 : Int64) (p4 : Int32) : Int64 → mh_H → Prop := fun z s => s0 = s
set_option maxRecDepth 100000 in
set_option maxHeartbeats 4000000 in
theorem w_X9_lowestTerm (l : Launch) (G : mh_G) (d : Nat) {B D : Int} (hB : B ≤ 2000000000 ∧ D ≤ 2000000000) {s0 : mh_H} (hI0 : mh_I B D s0) (p0 : Int64) (p2 : Int64) (p4 : Int32) : mh_Ml l G (d + 0) mM_X9_lowestTerm [.long p0, .long p2, .int p4] s0 (P_X9_lowestTerm B D s0 p0 p2 p4) := by
  refine mh_enter (lv := [(0, .long p0), (2, .long p2), (4, .int p4)]) (by decide) rfl (Nat.le_of_ble_eq_true rfl) ?_
  refine mw_lload_n 1 rfl 0 dX9_lowestTerm_0 rfl rfl ?_
  refine mw_lstore 3 rfl [(5, .long p0), (0, .long p0), (2, .long p2), (4, .int p4)] dX9_lowestTerm_1  (by decide) rfl ?_
  refine mw_lload_n 4 rfl 2 dX9_lowestTerm_3 rfl rfl ?_
  refine mw_lstore 6 rfl [(7, .long p2), (5, .long p0), (0, .long p0), (2, .long p2), (4, .int p4)] dX9_lowestTerm_4  (by decide) rfl ?_
  refine mw_iconst (v := 0) 7 rfl dX9_lowestTerm_6 (by decide) ?_
  refine mw_istore 9 rfl [(9, .int (0)), (7, .long p2), (5, .long p0), (0, .long p0), (2, .long p2), (4, .int p4)] dX9_lowestTerm_7  (by decide) rfl ?_
  have L9 : ∀ n1 : Nat, ∀ (x316 : Int32) (y317 : Int64) (y318 : Int64), mh_r x316 (0) (200) → (200) - x316.toInt < (n1 : Int) → mh_W G (mh_XM l G (d + 0) (mh_Ql (P_X9_lowestTerm B D s0 p0 p2 p4))) mM_X9_lowestTerm 9 [(0, .long p0), (2, .long p2), (4, .int p4), (5, .long y318), (7, .long y317), (9, .int x316)] [] s0 := by
    intro n1
    induction n1 with
    | zero =>
      intro x316 y317 y318 r_x316 hmn1
      exact absurd hmn1 (by have := r_x316.1; have := r_x316.2; omega)
    | succ n1 ihn1 =>
      intro x316 y317 y318 r_x316 hmn1
      refine mw_iload 11 rfl 5 dX9_lowestTerm_9  rfl ?_
      refine mw_sipush (v := 200) 14 rfl dX9_lowestTerm_11 (by decide) ?_
      have J45 : mh_W G (mh_XM l G (d + 0) (mh_Ql (P_X9_lowestTerm B D s0 p0 p2 p4))) mM_X9_lowestTerm 45 [(0, .long p0), (2, .long p2), (4, .int p4), (5, .long y318), (7, .long y317), (9, .int x316)] [] s0 := by
        skip
        refine mw_lload 47 rfl 4 dX9_lowestTerm_45  rfl ?_
        refine mw_lconst (v := 0) 48 rfl dX9_lowestTerm_47 (by decide) ?_
        refine mw_lcmp 49 rfl dX9_lowestTerm_48 (fun x349 t350 => ?_)
        have g351 := mh_lc t350
        have r_x349 : mh_r x349 (-1) 1 := g351.2.2
        refine mw_if_ne 52 rfl 54 dX9_lowestTerm_49 (by decide) (fun c352 => ?_) (fun c352 => ?_)
        · skip
          refine mw_iload 56 rfl 2 dX9_lowestTerm_54  rfl ?_
          refine mw_if_ne 59 rfl 66 dX9_lowestTerm_56 (by decide) (fun c353 => ?_) (fun c353 => ?_)
          · skip
            refine mw_lload_n 67 rfl 1 dX9_lowestTerm_66 rfl rfl ?_
            refine mw_lload 69 rfl 4 dX9_lowestTerm_67  rfl ?_
            refine mw_ldiv 70 rfl dX9_lowestTerm_69 (mh_lnz (by have := mh_l0; omega)) (fun y354 t355 => ?_)
            exact mw_lret dX9_lowestTerm_70 rfl ⟨y354, rfl, rfl⟩
          · skip
            have r_p4 : mh_r p4 (0) (0) := mh_eq1 (show p4.toInt = (0 : Int32).toInt from c353) (mh_r_full p4) rc_0 (0) (0) (by decide)
            refine mw_lload_n 60 rfl 0 dX9_lowestTerm_59 rfl rfl ?_
            refine mw_lload 62 rfl 4 dX9_lowestTerm_60  rfl ?_
            refine mw_ldiv 63 rfl dX9_lowestTerm_62 (mh_lnz (by have := mh_l0; omega)) (fun y356 t357 => ?_)
            refine mw_goto 66 rfl 70 dX9_lowestTerm_63 (by decide) ?_
            exact mw_lret dX9_lowestTerm_70 rfl ⟨y356, rfl, rfl⟩
        · skip
          have r_x349 : mh_r x349 (0) (0) := mh_eq1 (show x349.toInt = (0 : Int32).toInt from c352) r_x349 rc_0 (0) (0) (by decide)
          refine mw_lconst (v := 0) 53 rfl dX9_lowestTerm_52 (by decide) ?_
          exact mw_lret dX9_lowestTerm_53 rfl ⟨(0), rfl, rfl⟩
      refine mw_icmp_ge 17 rfl 45 dX9_lowestTerm_14 (by decide) (fun c358 => ?_) (fun c358 => ?_)
      · skip
        have r_x316 : mh_r x316 (200) (200) := mh_le2 c358 rc_200 r_x316 (200) (by decide)
        exact mw_lv [0, 1, 2, 3, 4, 5] rfl (J45)
      · skip
        have r_x316 : mh_r x316 (0) (199) := mh_lt1 c358 r_x316 rc_200 (199) (by decide)
        refine mw_lload 19 rfl 3 dX9_lowestTerm_17  rfl ?_
        refine mw_lconst (v := 0) 20 rfl dX9_lowestTerm_19 (by decide) ?_
        refine mw_lcmp 21 rfl dX9_lowestTerm_20 (fun x359 t360 => ?_)
        have g361 := mh_lc t360
        have r_x359 : mh_r x359 (-1) 1 := g361.2.2
        refine mw_if_eq 24 rfl 45 dX9_lowestTerm_21 (by decide) (fun c362 => ?_) (fun c362 => ?_)
        · skip
          have r_x359 : mh_r x359 (0) (0) := mh_eq1 (show x359.toInt = (0 : Int32).toInt from c362) r_x359 rc_0 (0) (0) (by decide)
          exact mw_lv [0, 1, 2, 3, 4, 5] rfl (J45)
        · skip
          refine mw_lload 26 rfl 4 dX9_lowestTerm_24  rfl ?_
          refine mw_lload 28 rfl 3 dX9_lowestTerm_26  rfl ?_
          refine mw_lrem 29 rfl dX9_lowestTerm_28 (mh_lnz (by have := mh_l0; omega)) (fun y363 t364 => ?_)
          refine mw_lstore 31 rfl [(10, .long y363), (0, .long p0), (2, .long p2), (4, .int p4), (5, .long y318), (7, .long y317), (9, .int x316)] dX9_lowestTerm_29  (by decide) rfl ?_
          refine mw_lload 33 rfl 4 dX9_lowestTerm_31  rfl ?_
          refine mw_lstore 35 rfl [(7, .long y318), (10, .long y363), (0, .long p0), (2, .long p2), (4, .int p4), (5, .long y318), (9, .int x316)] dX9_lowestTerm_33  (by decide) rfl ?_
          refine mw_lload 37 rfl 1 dX9_lowestTerm_35  rfl ?_
          refine mw_lstore 39 rfl [(5, .long y363), (7, .long y318), (10, .long y363), (0, .long p0), (2, .long p2), (4, .int p4), (9, .int x316)] dX9_lowestTerm_37  (by decide) rfl ?_
          refine mw_iincR (k := 6) (1) (200) 42 rfl (fun z => [(9, .int z), (5, .long y363), (7, .long y318), (10, .long y363), (0, .long p0), (2, .long p2), (4, .int p4)]) dX9_lowestTerm_39 rfl (by decide) (fun _ => rfl) r_x316 (by decide) (by decide) (fun x365 t366 r_x365 => ?_)
          refine mw_goto 45 rfl 9 dX9_lowestTerm_42 (by decide) ?_
          exact mw_lv [4, 5, 6, 1, 2, 0] rfl (ihn1 x365 y318 y363 (mh_r_wk r_x365 (by decide)) (by have : x365.toInt = x316.toInt + (1) := t366; omega))
  exact mw_lv [3, 4, 5, 2, 1, 0] rfl (L9 201 (0) p2 p0 (mh_r_wk rc_0 (by decide)) (by have := (rc_0).1; have := (rc_0).2; omega))

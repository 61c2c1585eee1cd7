def V_X9_seed (B D : Int) (s0 : mh_H) (p1 : Int32) : Int32 → mh_H → Prop := fun z s => mh_r z (0) (1) ∧ (z.toInt = 1 ↔ (mh_r p1 (0) (65535))) ∧ mh_I B D s ∧ mh_F S_X9_seed s0 s
set_option maxRecDepth 100000 in
set_option maxHeartbeats 4000000 in
theorem v_X9_seed (l : Launch) (G : mh_G) (d : Nat) {B D : Int} (hB : B ≤ 1980000000 ∧ D ≤ 1980000000) {s0 : mh_H} (hI0 : mh_I B D s0) (p1 : Int32) : mh_Mi l G (d + 1) mM_X9_seed [.ref (G.2.2.2 0), .int p1] s0 (V_X9_seed B D s0 p1) := by
  refine mh_enter (lv := [(0, .ref (G.2.2.2 0)), (1, .int p1)]) (by decide) rfl (Nat.le_of_ble_eq_true rfl) ?_
  have hF0 : mh_F S_X9_seed s0 s0 := mh_F_rf
  refine mw_iload_n 1 rfl 1 dX9_seed_0 rfl rfl ?_
  refine mw_ldcw 4 rfl dX9_seed_1 ck_X9_294 ?_
  refine mw_callSi [.int p1, .int (65535)] [] 7 rfl dX9_seed_4 ml_X9_98 mc_X9_isWithin mk_X9_isWithin (w_X9_isWithin l G (d + 0) ⟨by omega, by omega⟩ hI0 p1 (65535)) rfl rfl (Nat.le_of_ble_eq_true rfl) (mh_rok (by omega) (by decide)) (fun x7 s8 q9 => ?_)
  obtain ⟨r_x7, e0_s8, rfl⟩ := q9
  refine mw_if_ne 10 rfl 12 dX9_seed_7 (by decide) (fun c10 => ?_) (fun c10 => ?_)
  · skip
    have r_p1 : mh_r p1 (0) (65535) := ⟨by have := e0_s8.1 (mh_z1 r_x7 c10); have := ((mh_r_full p1)).1; omega, by have := e0_s8.1 (mh_z1 r_x7 c10); have := ((mh_r_full p1)).2; have := (rc_65535).2; omega⟩
    have r_x7 : mh_r x7 (1) (1) := mh_ne1 (show x7.toInt ≠ (0 : Int32).toInt from c10) r_x7 rc_0 (1) (1) (by decide)
    refine mw_aload_n 13 rfl 0 dX9_seed_12 rfl rfl ?_
    refine mw_geta 16 rfl dX9_seed_13 gf_X9_10 rfl 1 (mh_rf hI0 0 rfl) ?_
    refine mw_iload_n 17 rfl 1 dX9_seed_16 rfl rfl ?_
    refine mw_puti 20 rfl dX9_seed_17 pf_X9_295 rfl (fun s11 t12 => ?_)
    have hI_s11 : mh_I B D s11 := by rw [t12]; exact wr_1_7 hI0
    have hF_s11 : mh_F S_X9_seed s0 s11 := by rw [t12]; exact mh_F_pI hF0 (mh_sj 0 rfl)
    refine mw_iconst (v := 1) 21 rfl dX9_seed_20 (by decide) ?_
    exact mw_zret dX9_seed_21 rfl (mh_r_wk rc_1 (by decide)) ⟨(1), rfl, ⟨(mh_r_wk rc_1 (by decide)), ⟨fun _ => r_p1, fun _ => rfl⟩, hI_s11, hF_s11⟩⟩
  · skip
    have r_x7 : mh_r x7 (0) (0) := mh_eq1 (show x7.toInt = (0 : Int32).toInt from c10) r_x7 rc_0 (0) (0) (by decide)
    refine mw_iconst (v := 0) 11 rfl dX9_seed_10 (by decide) ?_
    exact mw_zret dX9_seed_11 rfl (mh_r_wk rc_0 (by decide)) ⟨(0), rfl, ⟨(mh_r_wk rc_0 (by decide)), ⟨fun h => absurd h (by decide), fun h => by exfalso; have c0 : (99 : Int32).toInt = 99 := rfl; have c1 : (4 : Int32).toInt = 4 := rfl; have c2 : (9999 : Int32).toInt = 9999 := rfl; have c3 : (9 : Int32).toInt = 9 := rfl; have c4 : (19 : Int32).toInt = 19 := rfl; have c5 : (143 : Int32).toInt = 143 := rfl; have c6 : (65535 : Int32).toInt = 65535 := rfl; have d0 : (0 : Int64).toInt = 0 := rfl; have d1 : (1 : Int64).toInt = 1 := rfl; have d2 : (99 : Int64).toInt = 99 := rfl; have d3 : (4 : Int64).toInt = 4 := rfl; have d4 : (9999 : Int64).toInt = 9999 := rfl; have d5 : (9 : Int64).toInt = 9 := rfl; have d6 : (19 : Int64).toInt = 19 := rfl; have d7 : (143 : Int64).toInt = 143 := rfl; have d8 : (65535 : Int64).toInt = 65535 := rfl; simp only [mh_r] at *; omega⟩, hI0, hF0⟩⟩


def V_X10_seed (B D : Int) (s0 : mh_H) (p1 : Int32) : Int32 → mh_H → Prop := fun z s => mh_r z (0) (1) ∧ (z.toInt = 1 ↔ (mh_r p1 (0) (65535))) ∧ mh_I B D s ∧ mh_F S_X10_seed s0 s
set_option maxRecDepth 100000 in
set_option maxHeartbeats 4000000 in
theorem v_X10_seed (l : Launch) (G : mh_G) (d : Nat) {B D : Int} (hB : B ≤ 1980000000 ∧ D ≤ 1980000000) {s0 : mh_H} (hI0 : mh_I B D s0) (p1 : Int32) : mh_Mi l G (d + 1) mM_X10_seed [.ref (G.2.2.2 57), .int p1] s0 (V_X10_seed B D s0 p1) := by
  refine mh_enter (lv := [(0, .ref (G.2.2.2 57)), (1, .int p1)]) (by decide) rfl (Nat.le_of_ble_eq_true rfl) ?_
  have hF0 : mh_F S_X10_seed s0 s0 := mh_F_rf
  refine mw_iload_n 1 rfl 1 dX10_seed_0 rfl rfl ?_
  refine mw_i2l 2 rfl dX10_seed_1 (fun y9 t10 => ?_)
  refine mw_lconst (v := 0) 3 rfl dX10_seed_2 (by decide) ?_
  refine mw_ldc2 6 rfl dX10_seed_3 ck_X10_459 ?_
  refine mw_callSi [.long y9, .long (0), .long (65535)] [] 9 rfl dX10_seed_6 ml_X10_154 mc_X10_lies mk_X10_lies (w_X10_lies l G (d + 0) ⟨by omega, by omega⟩ hI0 y9 (0) (65535)) rfl rfl (Nat.le_of_ble_eq_true rfl) (mh_rok (by omega) (by decide)) (fun x11 s12 q13 => ?_)
  obtain ⟨r_x11, e0_s12, rfl⟩ := q13
  have f_x11 : x11.toInt = 1 ↔ (0 ≤ p1.toInt ∧ p1.toInt ≤ 65535) := by rw [e0_s12]; exact by simp only [t10, Int32.toInt_toInt64]; first | done | exact Iff.rfl
  refine mw_if_ne 12 rfl 14 dX10_seed_9 (by decide) (fun c14 => ?_) (fun c14 => ?_)
  · skip
    have r_p1 : mh_r p1 (0) (65535) := ⟨by have := f_x11.1 (mh_z1 r_x11 c14); have := ((mh_r_full p1)).1; omega, by have := f_x11.1 (mh_z1 r_x11 c14); have := ((mh_r_full p1)).2; omega⟩
    have r_x11 : mh_r x11 (1) (1) := mh_ne1 (show x11.toInt ≠ (0 : Int32).toInt from c14) r_x11 rc_0 (1) (1) (by decide)
    refine mw_aload_n 15 rfl 0 dX10_seed_14 rfl rfl ?_
    refine mw_iload_n 16 rfl 1 dX10_seed_15 rfl rfl ?_
    refine mw_puti 19 rfl dX10_seed_16 pf_X10_13 rfl (fun s15 t16 => ?_)
    have hI_s15 : mh_I B D s15 := by rw [t16]; exact wr_57_3 hI0 r_p1
    have hF_s15 : mh_F S_X10_seed s0 s15 := by rw [t16]; exact mh_F_pI hF0 (mh_sj 0 rfl)
    refine mw_iconst (v := 1) 20 rfl dX10_seed_19 (by decide) ?_
    exact mw_zret dX10_seed_20 rfl (mh_r_wk rc_1 (by decide)) ⟨(1), rfl, ⟨(mh_r_wk rc_1 (by decide)), ⟨fun _ => r_p1, fun _ => rfl⟩, hI_s15, hF_s15⟩⟩
  · skip
    have r_x11 : mh_r x11 (0) (0) := mh_eq1 (show x11.toInt = (0 : Int32).toInt from c14) r_x11 rc_0 (0) (0) (by decide)
    refine mw_iconst (v := 0) 13 rfl dX10_seed_12 (by decide) ?_
    exact mw_zret dX10_seed_13 rfl (mh_r_wk rc_0 (by decide)) ⟨(0), rfl, ⟨(mh_r_wk rc_0 (by decide)), ⟨fun h => absurd h (by decide), fun h => by exfalso; have c0 : (99 : Int32).toInt = 99 := rfl; have c1 : (4 : Int32).toInt = 4 := rfl; have c2 : (9999 : Int32).toInt = 9999 := rfl; have c3 : (9 : Int32).toInt = 9 := rfl; have c4 : (19 : Int32).toInt = 19 := rfl; have c5 : (143 : Int32).toInt = 143 := rfl; have c6 : (65535 : Int32).toInt = 65535 := rfl; have d0 : (0 : Int64).toInt = 0 := rfl; have d1 : (1 : Int64).toInt = 1 := rfl; have d2 : (99 : Int64).toInt = 99 := rfl; have d3 : (4 : Int64).toInt = 4 := rfl; have d4 : (9999 : Int64).toInt = 9999 := rfl; have d5 : (9 : Int64).toInt = 9 := rfl; have d6 : (19 : Int64).toInt = 19 := rfl; have d7 : (143 : Int64).toInt = 143 := rfl; have d8 : (65535 : Int64).toInt = 65535 := rfl; simp only [mh_r] at *; omega⟩, hI0, hF0⟩⟩



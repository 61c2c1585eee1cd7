def P_X9_isWithin (B D : Int) (s0 : mh_H) (p0 : Int32) (p1 : Int32) : Int32 → mh_H → Prop := fun z s => mh_r z (0) (1) ∧ (z.toInt = 1 ↔ (0 ≤ p0.toInt ∧ p0.toInt ≤ p1.toInt)) ∧ s0 = s
set_option maxRecDepth 100000 in
set_option maxHeartbeats 4000000 in
theorem w_X9_isWithin (l : Launch) (G : mh_G) (d : Nat) {B D : Int} (hB : B ≤ 2000000000 ∧ D ≤ 2000000000) {s0 : mh_H} (hI0 : mh_I B D s0) (p0 : Int32) (p1 : Int32) : mh_Mi l G (d + 0) mM_X9_isWithin [.int p0, .int p1] s0 (P_X9_isWithin B D s0 p0 p1) := by
  refine mh_enter (lv := [(0, .int p0), (1, .int p1)]) (by decide) rfl (Nat.le_of_ble_eq_true rfl) ?_
  refine mw_iload_n 1 rfl 0 dX9_isWithin_0 rfl rfl ?_
  refine mw_if_lt 4 rfl 13 dX9_isWithin_1 (by decide) (fun c3 => ?_) (fun c3 => ?_)
  · skip
    have r_p0 : mh_r p0 (-2147483648) (-1) := mh_lt1 (show p0.toInt < (0 : Int32).toInt from c3) (mh_r_full p0) rc_0 (-1) (by decide)
    refine mw_iconst (v := 0) 14 rfl dX9_isWithin_13 (by decide) ?_
    refine mw_zret dX9_isWithin_14 rfl (mh_r_wk rc_0 (by decide)) ⟨(0), rfl, ⟨(mh_r_wk rc_0 (by decide)), ?_, rfl⟩⟩
    · skip
      have := (r_p0).1; have := (r_p0).2
      have := (rc_0).1; have := (rc_0).2
      have := kc_0
      have := kc_1
      omega
  · skip
    have r_p0 : mh_r p0 (0) (2147483647) := mh_le2 (show (0 : Int32).toInt ≤ p0.toInt from c3) rc_0 (mh_r_full p0) (0) (by decide)
    refine mw_iload_n 5 rfl 0 dX9_isWithin_4 rfl rfl ?_
    refine mw_iload_n 6 rfl 1 dX9_isWithin_5 rfl rfl ?_
    refine mw_icmp_gt 9 rfl 13 dX9_isWithin_6 (by decide) (fun c4 => ?_) (fun c4 => ?_)
    · skip
      have r_p1 : mh_r p1 (-2147483648) (2147483646) := mh_lt1 c4 (mh_r_full p1) r_p0 (2147483646) (by decide)
      refine mw_iconst (v := 0) 14 rfl dX9_isWithin_13 (by decide) ?_
      refine mw_zret dX9_isWithin_14 rfl (mh_r_wk rc_0 (by decide)) ⟨(0), rfl, ⟨(mh_r_wk rc_0 (by decide)), ?_, rfl⟩⟩
      · skip
        have := (r_p0).1; have := (r_p0).2
        have := (r_p1).1; have := (r_p1).2
        have := (rc_0).1; have := (rc_0).2
        have := kc_0
        have := kc_1
        omega
    · skip
      have r_p1 : mh_r p1 (0) (2147483647) := mh_le2 c4 r_p0 (mh_r_full p1) (0) (by decide)
      refine mw_iconst (v := 1) 10 rfl dX9_isWithin_9 (by decide) ?_
      refine mw_goto 13 rfl 14 dX9_isWithin_10 (by decide) ?_
      refine mw_zret dX9_isWithin_14 rfl (mh_r_wk rc_1 (by decide)) ⟨(1), rfl, ⟨(mh_r_wk rc_1 (by decide)), ?_, rfl⟩⟩
      · skip
        have := (r_p0).1; have := (r_p0).2
        have := (r_p1).1; have := (r_p1).2
        have := (rc_1).1; have := (rc_1).2
        have := kc_0
        have := kc_1
        omega

def P_X9_isPlace (B D : Int) (s0 : mh_H) (p0 : Int32) (p1 : Int32) : Int32 → mh_H → Prop := fun z s => mh_r z (0) (1) ∧ (z.toInt = 1 ↔ ((0 ≤ p0.toInt ∧ p0.toInt ≤ 11) ∧ 0 ≤ p1.toInt ∧ p1.toInt ≤ 11)) ∧ s0 = s
set_option maxRecDepth 100000 in
set_option maxHeartbeats 4000000 in
theorem w_X9_isPlace (l : Launch) (G : mh_G) (d : Nat) {B D : Int} (hB : B ≤ 1980000000 ∧ D ≤ 1980000000) {s0 : mh_H} (hI0 : mh_I B D s0) (p0 : Int32) (p1 : Int32) : mh_Mi l G (d + 1) mM_X9_isPlace [.int p0, .int p1] s0 (P_X9_isPlace B D s0 p0 p1) := by
  refine mh_enter (lv := [(0, .int p0), (1, .int p1)]) (by decide) rfl (Nat.le_of_ble_eq_true rfl) ?_
  refine mw_iload_n 1 rfl 0 dX9_isPlace_0 rfl rfl ?_
  refine mw_bipush (v := 11) 3 rfl dX9_isPlace_1 (by decide) ?_
  refine mw_callSi [.int p0, .int (11)] [] 6 rfl dX9_isPlace_3 ml_X9_98 mc_X9_isWithin mk_X9_isWithin (w_X9_isWithin l G (d + 0) ⟨by omega, by omega⟩ hI0 p0 (11)) rfl rfl (Nat.le_of_ble_eq_true rfl) (mh_rok (by omega) (by decide)) (fun x9 s10 q11 => ?_)
  obtain ⟨r_x9, e0_s10, rfl⟩ := q11
  refine mw_if_eq 9 rfl 22 dX9_isPlace_6 (by decide) (fun c12 => ?_) (fun c12 => ?_)
  · skip
    have r_x9 : mh_r x9 (0) (0) := mh_eq1 (show x9.toInt = (0 : Int32).toInt from c12) r_x9 rc_0 (0) (0) (by decide)
    refine mw_iconst (v := 0) 23 rfl dX9_isPlace_22 (by decide) ?_
    refine mw_zret dX9_isPlace_23 rfl (mh_r_wk rc_0 (by decide)) ⟨(0), rfl, ⟨(mh_r_wk rc_0 (by decide)), ?_, rfl⟩⟩
    · skip
      have := (rc_0).1; have := (rc_0).2
      have := kc_0
      have := kc_1
      have := kc_11
      omega
  · skip
    have r_p0 : mh_r p0 (0) (11) := ⟨by have := e0_s10.1 (mh_z1 r_x9 c12); have := ((mh_r_full p0)).1; omega, by have := e0_s10.1 (mh_z1 r_x9 c12); have := ((mh_r_full p0)).2; have := (rc_11).2; omega⟩
    have r_x9 : mh_r x9 (1) (1) := mh_ne1 (show x9.toInt ≠ (0 : Int32).toInt from c12) r_x9 rc_0 (1) (1) (by decide)
    refine mw_iload_n 10 rfl 1 dX9_isPlace_9 rfl rfl ?_
    refine mw_bipush (v := 11) 12 rfl dX9_isPlace_10 (by decide) ?_
    refine mw_callSi [.int p1, .int (11)] [] 15 rfl dX9_isPlace_12 ml_X9_98 mc_X9_isWithin mk_X9_isWithin (w_X9_isWithin l G (d + 0) ⟨by omega, by omega⟩ hI0 p1 (11)) rfl rfl (Nat.le_of_ble_eq_true rfl) (mh_rok (by omega) (by decide)) (fun x13 s14 q15 => ?_)
    obtain ⟨r_x13, e0_s14, rfl⟩ := q15
    refine mw_if_eq 18 rfl 22 dX9_isPlace_15 (by decide) (fun c16 => ?_) (fun c16 => ?_)
    · skip
      have r_x13 : mh_r x13 (0) (0) := mh_eq1 (show x13.toInt = (0 : Int32).toInt from c16) r_x13 rc_0 (0) (0) (by decide)
      refine mw_iconst (v := 0) 23 rfl dX9_isPlace_22 (by decide) ?_
      refine mw_zret dX9_isPlace_23 rfl (mh_r_wk rc_0 (by decide)) ⟨(0), rfl, ⟨(mh_r_wk rc_0 (by decide)), ?_, rfl⟩⟩
      · skip
        have := (r_p0).1; have := (r_p0).2
        have := (rc_0).1; have := (rc_0).2
        have := kc_0
        have := kc_1
        have := kc_11
        omega
    · skip
      have r_p1 : mh_r p1 (0) (11) := ⟨by have := e0_s14.1 (mh_z1 r_x13 c16); have := ((mh_r_full p1)).1; omega, by have := e0_s14.1 (mh_z1 r_x13 c16); have := ((mh_r_full p1)).2; have := (rc_11).2; omega⟩
      have r_x13 : mh_r x13 (1) (1) := mh_ne1 (show x13.toInt ≠ (0 : Int32).toInt from c16) r_x13 rc_0 (1) (1) (by decide)
      refine mw_iconst (v := 1) 19 rfl dX9_isPlace_18 (by decide) ?_
      refine mw_goto 22 rfl 23 dX9_isPlace_19 (by decide) ?_
      refine mw_zret dX9_isPlace_23 rfl (mh_r_wk rc_1 (by decide)) ⟨(1), rfl, ⟨(mh_r_wk rc_1 (by decide)), ?_, rfl⟩⟩
      · skip
        have := (r_p0).1; have := (r_p0).2
        have := (r_p1).1; have := (r_p1).2
        have := (rc_1).1; have := (rc_1).2
        have := kc_0
        have := kc_1
        have := kc_11
        omega

def P_X9_isNight (B D : Int) (s0 : mh_H) (p0 : Int32) : Int32 → mh_H → Prop := fun z s => mh_r z (0) (1) ∧ (z.toInt = 1 ↔ (1 ≤ p0.toInt ∧ p0.toInt ≤ 60)) ∧ s0 = s
set_option maxRecDepth 100000 in
set_option maxHeartbeats 4000000 in
theorem w_X9_isNight (l : Launch) (G : mh_G) (d : Nat) {B D : Int} (hB : B ≤ 2000000000 ∧ D ≤ 2000000000) {s0 : mh_H} (hI0 : mh_I B D s0) (p0 : Int32) : mh_Mi l G (d + 0) mM_X9_isNight [.int p0] s0 (P_X9_isNight B D s0 p0) := by
  refine mh_enter (lv := [(0, .int p0)]) (by decide) rfl (Nat.le_of_ble_eq_true rfl) ?_
  refine mw_iload_n 1 rfl 0 dX9_isNight_0 rfl rfl ?_
  refine mw_iconst (v := 1) 2 rfl dX9_isNight_1 (by decide) ?_
  refine mw_icmp_lt 5 rfl 15 dX9_isNight_2 (by decide) (fun c3 => ?_) (fun c3 => ?_)
  · skip
    have r_p0 : mh_r p0 (-2147483648) (0) := mh_lt1 c3 (mh_r_full p0) rc_1 (0) (by decide)
    refine mw_iconst (v := 0) 16 rfl dX9_isNight_15 (by decide) ?_
    refine mw_zret dX9_isNight_16 rfl (mh_r_wk rc_0 (by decide)) ⟨(0), rfl, ⟨(mh_r_wk rc_0 (by decide)), ?_, rfl⟩⟩
    · skip
      have := (r_p0).1; have := (r_p0).2
      have := (rc_0).1; have := (rc_0).2
      have := kc_0
      have := kc_1
      have := kc_60
      omega
  · skip
    have r_p0 : mh_r p0 (1) (2147483647) := mh_le2 c3 rc_1 (mh_r_full p0) (1) (by decide)
    refine mw_iload_n 6 rfl 0 dX9_isNight_5 rfl rfl ?_
    refine mw_bipush (v := 60) 8 rfl dX9_isNight_6 (by decide) ?_
    refine mw_icmp_gt 11 rfl 15 dX9_isNight_8 (by decide) (fun c4 => ?_) (fun c4 => ?_)
    · skip
      have r_p0 : mh_r p0 (61) (2147483647) := mh_lt2 c4 rc_60 r_p0 (61) (by decide)
      refine mw_iconst (v := 0) 16 rfl dX9_isNight_15 (by decide) ?_
      refine mw_zret dX9_isNight_16 rfl (mh_r_wk rc_0 (by decide)) ⟨(0), rfl, ⟨(mh_r_wk rc_0 (by decide)), ?_, rfl⟩⟩
      · skip
        have := (r_p0).1; have := (r_p0).2
        have := (rc_0).1; have := (rc_0).2
        have := kc_0
        have := kc_1
        have := kc_60
        omega
    · skip
      have r_p0 : mh_r p0 (1) (60) := mh_le1 c4 r_p0 rc_60 (60) (by decide)
      refine mw_iconst (v := 1) 12 rfl dX9_isNight_11 (by decide) ?_
      refine mw_goto 15 rfl 16 dX9_isNight_12 (by decide) ?_
      refine mw_zret dX9_isNight_16 rfl (mh_r_wk rc_1 (by decide)) ⟨(1), rfl, ⟨(mh_r_wk rc_1 (by decide)), ?_, rfl⟩⟩
      · skip
        have := (r_p0).1; have := (r_p0).2
        have := (rc_1).1; have := (rc_1).2
        have := kc_0
        have := kc_1
        have := kc_60
        omega

def P_X9_isEvening (B D : Int) (s0 : mh_H) (p0 : Int32) (p1 : Int32) (p2 : Int32) : Int32 → mh_H → Prop := fun z s => mh_r z (0) (1) ∧ (z.toInt = 1 ↔ ((0 ≤ p0.toInt ∧ p0.toInt ≤ 99) ∧ (0 ≤ p1.toInt ∧ p1.toInt ≤ 99) ∧ 0 ≤ p2.toInt ∧ p2.toInt ≤ 99)) ∧ s0 = s
set_option maxRecDepth 100000 in
set_option maxHeartbeats 4000000 in
theorem w_X9_isEvening (l : Launch) (G : mh_G) (d : Nat) {B D : Int} (hB : B ≤ 1980000000 ∧ D ≤ 1980000000) {s0 : mh_H} (hI0 : mh_I B D s0) (p0 : Int32) (p1 : Int32) (p2 : Int32) : mh_Mi l G (d + 1) mM_X9_isEvening [.int p0, .int p1, .int p2] s0 (P_X9_isEvening B D s0 p0 p1 p2) := by
  refine mh_enter (lv := [(0, .int p0), (1, .int p1), (2, .int p2)]) (by decide) rfl (Nat.le_of_ble_eq_true rfl) ?_
  refine mw_iload_n 1 rfl 0 dX9_isEvening_0 rfl rfl ?_
  refine mw_bipush (v := 99) 3 rfl dX9_isEvening_1 (by decide) ?_
  refine mw_callSi [.int p0, .int (99)] [] 6 rfl dX9_isEvening_3 ml_X9_98 mc_X9_isWithin mk_X9_isWithin (w_X9_isWithin l G (d + 0) ⟨by omega, by omega⟩ hI0 p0 (99)) rfl rfl (Nat.le_of_ble_eq_true rfl) (mh_rok (by omega) (by decide)) (fun x13 s14 q15 => ?_)
  obtain ⟨r_x13, e0_s14, rfl⟩ := q15
  refine mw_if_eq 9 rfl 31 dX9_isEvening_6 (by decide) (fun c16 => ?_) (fun c16 => ?_)
  · skip
    have r_x13 : mh_r x13 (0) (0) := mh_eq1 (show x13.toInt = (0 : Int32).toInt from c16) r_x13 rc_0 (0) (0) (by decide)
    refine mw_iconst (v := 0) 32 rfl dX9_isEvening_31 (by decide) ?_
    refine mw_zret dX9_isEvening_32 rfl (mh_r_wk rc_0 (by decide)) ⟨(0), rfl, ⟨(mh_r_wk rc_0 (by decide)), ?_, rfl⟩⟩
    · skip
      have := (rc_0).1; have := (rc_0).2
      have := kc_0
      have := kc_1
      have := kc_99
      omega
  · skip
    have r_p0 : mh_r p0 (0) (99) := ⟨by have := e0_s14.1 (mh_z1 r_x13 c16); have := ((mh_r_full p0)).1; omega, by have := e0_s14.1 (mh_z1 r_x13 c16); have := ((mh_r_full p0)).2; have := (rc_99).2; omega⟩
    have r_x13 : mh_r x13 (1) (1) := mh_ne1 (show x13.toInt ≠ (0 : Int32).toInt from c16) r_x13 rc_0 (1) (1) (by decide)
    refine mw_iload_n 10 rfl 1 dX9_isEvening_9 rfl rfl ?_
    refine mw_bipush (v := 99) 12 rfl dX9_isEvening_10 (by decide) ?_
    refine mw_callSi [.int p1, .int (99)] [] 15 rfl dX9_isEvening_12 ml_X9_98 mc_X9_isWithin mk_X9_isWithin (w_X9_isWithin l G (d + 0) ⟨by omega, by omega⟩ hI0 p1 (99)) rfl rfl (Nat.le_of_ble_eq_true rfl) (mh_rok (by omega) (by decide)) (fun x17 s18 q19 => ?_)
    obtain ⟨r_x17, e0_s18, rfl⟩ := q19
    refine mw_if_eq 18 rfl 31 dX9_isEvening_15 (by decide) (fun c20 => ?_) (fun c20 => ?_)
    · skip
      have r_x17 : mh_r x17 (0) (0) := mh_eq1 (show x17.toInt = (0 : Int32).toInt from c20) r_x17 rc_0 (0) (0) (by decide)
      refine mw_iconst (v := 0) 32 rfl dX9_isEvening_31 (by decide) ?_
      refine mw_zret dX9_isEvening_32 rfl (mh_r_wk rc_0 (by decide)) ⟨(0), rfl, ⟨(mh_r_wk rc_0 (by decide)), ?_, rfl⟩⟩
      · skip
        have := (r_p0).1; have := (r_p0).2
        have := (rc_0).1; have := (rc_0).2
        have := kc_0
        have := kc_1
        have := kc_99
        omega
    · skip
      have r_p1 : mh_r p1 (0) (99) := ⟨by have := e0_s18.1 (mh_z1 r_x17 c20); have := ((mh_r_full p1)).1; omega, by have := e0_s18.1 (mh_z1 r_x17 c20); have := ((mh_r_full p1)).2; have := (rc_99).2; omega⟩
      have r_x17 : mh_r x17 (1) (1) := mh_ne1 (show x17.toInt ≠ (0 : Int32).toInt from c20) r_x17 rc_0 (1) (1) (by decide)
      refine mw_iload_n 19 rfl 2 dX9_isEvening_18 rfl rfl ?_
      refine mw_bipush (v := 99) 21 rfl dX9_isEvening_19 (by decide) ?_
      refine mw_callSi [.int p2, .int (99)] [] 24 rfl dX9_isEvening_21 ml_X9_98 mc_X9_isWithin mk_X9_isWithin (w_X9_isWithin l G (d + 0) ⟨by omega, by omega⟩ hI0 p2 (99)) rfl rfl (Nat.le_of_ble_eq_true rfl) (mh_rok (by omega) (by decide)) (fun x21 s22 q23 => ?_)
      obtain ⟨r_x21, e0_s22, rfl⟩ := q23
      refine mw_if_eq 27 rfl 31 dX9_isEvening_24 (by decide) (fun c24 => ?_) (fun c24 => ?_)
      · skip
        have r_x21 : mh_r x21 (0) (0) := mh_eq1 (show x21.toInt = (0 : Int32).toInt from c24) r_x21 rc_0 (0) (0) (by decide)
        refine mw_iconst (v := 0) 32 rfl dX9_isEvening_31 (by decide) ?_
        refine mw_zret dX9_isEvening_32 rfl (mh_r_wk rc_0 (by decide)) ⟨(0), rfl, ⟨(mh_r_wk rc_0 (by decide)), ?_, rfl⟩⟩
        · skip
          have := (r_p0).1; have := (r_p0).2
          have := (r_p1).1; have := (r_p1).2
          have := (rc_0).1; have := (rc_0).2
          have := kc_0
          have := kc_1
          have := kc_99
          omega
      · skip
        have r_p2 : mh_r p2 (0) (99) := ⟨by have := e0_s22.1 (mh_z1 r_x21 c24); have := ((mh_r_full p2)).1; omega, by have := e0_s22.1 (mh_z1 r_x21 c24); have := ((mh_r_full p2)).2; have := (rc_99).2; omega⟩
        have r_x21 : mh_r x21 (1) (1) := mh_ne1 (show x21.toInt ≠ (0 : Int32).toInt from c24) r_x21 rc_0 (1) (1) (by decide)
        refine mw_iconst (v := 1) 28 rfl dX9_isEvening_27 (by decide) ?_
        refine mw_goto 31 rfl 32 dX9_isEvening_28 (by decide) ?_
        refine mw_zret dX9_isEvening_32 rfl (mh_r_wk rc_1 (by decide)) ⟨(1), rfl, ⟨(mh_r_wk rc_1 (by decide)), ?_, rfl⟩⟩
        · skip
          have := (r_p0).1; have := (r_p0).2
          have := (r_p1).1; have := (r_p1).2
          have := (r_p2).1; have := (r_p2).2
          have := (rc_1).1; have := (rc_1).2
          have := kc_0
          have := kc_1
          have := kc_99
          omega

def P_X9_arePrices (B D : Int) (s0 : mh_H) (p0 : Int32) (p1 : Int32) : Int32 → mh_H → Prop := fun z s => mh_r z (0) (1) ∧ (z.toInt = 1 ↔ ((0 ≤ p0.toInt ∧ p0.toInt ≤ 999) ∧ 0 ≤ p1.toInt ∧ p1.toInt ≤ 999)) ∧ s0 = s
set_option maxRecDepth 100000 in
set_option maxHeartbeats 4000000 in
theorem w_X9_arePrices (l : Launch) (G : mh_G) (d : Nat) {B D : Int} (hB : B ≤ 1980000000 ∧ D ≤ 1980000000) {s0 : mh_H} (hI0 : mh_I B D s0) (p0 : Int32) (p1 : Int32) : mh_Mi l G (d + 1) mM_X9_arePrices [.int p0, .int p1] s0 (P_X9_arePrices B D s0 p0 p1) := by
  refine mh_enter (lv := [(0, .int p0), (1, .int p1)]) (by decide) rfl (Nat.le_of_ble_eq_true rfl) ?_
  refine mw_iload_n 1 rfl 0 dX9_arePrices_0 rfl rfl ?_
  refine mw_sipush (v := 999) 4 rfl dX9_arePrices_1 (by decide) ?_
  refine mw_callSi [.int p0, .int (999)] [] 7 rfl dX9_arePrices_4 ml_X9_98 mc_X9_isWithin mk_X9_isWithin (w_X9_isWithin l G (d + 0) ⟨by omega, by omega⟩ hI0 p0 (999)) rfl rfl (Nat.le_of_ble_eq_true rfl) (mh_rok (by omega) (by decide)) (fun x9 s10 q11 => ?_)
  obtain ⟨r_x9, e0_s10, rfl⟩ := q11
  refine mw_if_eq 10 rfl 24 dX9_arePrices_7 (by decide) (fun c12 => ?_) (fun c12 => ?_)
  · skip
    have r_x9 : mh_r x9 (0) (0) := mh_eq1 (show x9.toInt = (0 : Int32).toInt from c12) r_x9 rc_0 (0) (0) (by decide)
    refine mw_iconst (v := 0) 25 rfl dX9_arePrices_24 (by decide) ?_
    refine mw_zret dX9_arePrices_25 rfl (mh_r_wk rc_0 (by decide)) ⟨(0), rfl, ⟨(mh_r_wk rc_0 (by decide)), ?_, rfl⟩⟩
    · skip
      have := (rc_0).1; have := (rc_0).2
      have := kc_0
      have := kc_1
      have := kc_999
      omega
  · skip
    have r_p0 : mh_r p0 (0) (999) := ⟨by have := e0_s10.1 (mh_z1 r_x9 c12); have := ((mh_r_full p0)).1; omega, by have := e0_s10.1 (mh_z1 r_x9 c12); have := ((mh_r_full p0)).2; have := (rc_999).2; omega⟩
    have r_x9 : mh_r x9 (1) (1) := mh_ne1 (show x9.toInt ≠ (0 : Int32).toInt from c12) r_x9 rc_0 (1) (1) (by decide)
    refine mw_iload_n 11 rfl 1 dX9_arePrices_10 rfl rfl ?_
    refine mw_sipush (v := 999) 14 rfl dX9_arePrices_11 (by decide) ?_
    refine mw_callSi [.int p1, .int (999)] [] 17 rfl dX9_arePrices_14 ml_X9_98 mc_X9_isWithin mk_X9_isWithin (w_X9_isWithin l G (d + 0) ⟨by omega, by omega⟩ hI0 p1 (999)) rfl rfl (Nat.le_of_ble_eq_true rfl) (mh_rok (by omega) (by decide)) (fun x13 s14 q15 => ?_)
    obtain ⟨r_x13, e0_s14, rfl⟩ := q15
    refine mw_if_eq 20 rfl 24 dX9_arePrices_17 (by decide) (fun c16 => ?_) (fun c16 => ?_)
    · skip
      have r_x13 : mh_r x13 (0) (0) := mh_eq1 (show x13.toInt = (0 : Int32).toInt from c16) r_x13 rc_0 (0) (0) (by decide)
      refine mw_iconst (v := 0) 25 rfl dX9_arePrices_24 (by decide) ?_
      refine mw_zret dX9_arePrices_25 rfl (mh_r_wk rc_0 (by decide)) ⟨(0), rfl, ⟨(mh_r_wk rc_0 (by decide)), ?_, rfl⟩⟩
      · skip
        have := (r_p0).1; have := (r_p0).2
        have := (rc_0).1; have := (rc_0).2
        have := kc_0
        have := kc_1
        have := kc_999
        omega
    · skip
      have r_p1 : mh_r p1 (0) (999) := ⟨by have := e0_s14.1 (mh_z1 r_x13 c16); have := ((mh_r_full p1)).1; omega, by have := e0_s14.1 (mh_z1 r_x13 c16); have := ((mh_r_full p1)).2; have := (rc_999).2; omega⟩
      have r_x13 : mh_r x13 (1) (1) := mh_ne1 (show x13.toInt ≠ (0 : Int32).toInt from c16) r_x13 rc_0 (1) (1) (by decide)
      refine mw_iconst (v := 1) 21 rfl dX9_arePrices_20 (by decide) ?_
      refine mw_goto 24 rfl 25 dX9_arePrices_21 (by decide) ?_
      refine mw_zret dX9_arePrices_25 rfl (mh_r_wk rc_1 (by decide)) ⟨(1), rfl, ⟨(mh_r_wk rc_1 (by decide)), ?_, rfl⟩⟩
      · skip
        have := (r_p0).1; have := (r_p0).2
        have := (r_p1).1; have := (r_p1).2
        have := (rc_1).1; have := (rc_1).2
        have := kc_0
        have := kc_1
        have := kc_999
        omega

def P_X10_lies (B D : Int) (s0 : mh_H) (p0 : Int64) (p2 : Int64) (p4 : Int64) : Int32 → mh_H → Prop := fun z s => mh_r z (0) (1) ∧ (z.toInt = 1 ↔ (p2.toInt ≤ p0.toInt ∧ p0.toInt ≤ p4.toInt)) ∧ s0 = s
set_option maxRecDepth 100000 in
set_option maxHeartbeats 4000000 in
theorem w_X10_lies (l : Launch) (G : mh_G) (d : Nat) {B D : Int} (hB : B ≤ 2000000000 ∧ D ≤ 2000000000) {s0 : mh_H} (hI0 : mh_I B D s0) (p0 : Int64) (p2 : Int64) (p4 : Int64) : mh_Mi l G (d + 0) mM_X10_lies [.long p0, .long p2, .long p4] s0 (P_X10_lies B D s0 p0 p2 p4) := by
  refine mh_enter (lv := [(0, .long p0), (2, .long p2), (4, .long p4)]) (by decide) rfl (Nat.le_of_ble_eq_true rfl) ?_
  refine mw_lload_n 1 rfl 0 dX10_lies_0 rfl rfl ?_
  refine mw_lload_n 2 rfl 1 dX10_lies_1 rfl rfl ?_
  refine mw_lcmp 3 rfl dX10_lies_2 (fun x9 t10 => ?_)
  have g11 := mh_lc t10
  have r_x9 : mh_r x9 (-1) 1 := g11.2.2
  refine mw_if_lt 6 rfl 17 dX10_lies_3 (by decide) (fun c12 => ?_) (fun c12 => ?_)
  · skip
    have r_x9 : mh_r x9 (-1) (-1) := mh_lt1 (show x9.toInt < (0 : Int32).toInt from c12) r_x9 rc_0 (-1) (by decide)
    refine mw_iconst (v := 0) 18 rfl dX10_lies_17 (by decide) ?_
    refine mw_zret dX10_lies_18 rfl (mh_r_wk rc_0 (by decide)) ⟨(0), rfl, ⟨(mh_r_wk rc_0 (by decide)), ?_, rfl⟩⟩
    · skip
      have := (rc_0).1; have := (rc_0).2
      have := kc_0
      have := kc_1
      omega
  · skip
    have r_x9 : mh_r x9 (0) (1) := mh_le2 (show (0 : Int32).toInt ≤ x9.toInt from c12) rc_0 r_x9 (0) (by decide)
    refine mw_lload_n 7 rfl 0 dX10_lies_6 rfl rfl ?_
    refine mw_lload 9 rfl 2 dX10_lies_7  rfl ?_
    refine mw_lcmp 10 rfl dX10_lies_9 (fun x13 t14 => ?_)
    have g15 := mh_lc t14
    have r_x13 : mh_r x13 (-1) 1 := g15.2.2
    refine mw_if_gt 13 rfl 17 dX10_lies_10 (by decide) (fun c16 => ?_) (fun c16 => ?_)
    · skip
      have r_x13 : mh_r x13 (1) (1) := mh_lt2 (show (0 : Int32).toInt < x13.toInt from c16) rc_0 r_x13 (1) (by decide)
      refine mw_iconst (v := 0) 18 rfl dX10_lies_17 (by decide) ?_
      refine mw_zret dX10_lies_18 rfl (mh_r_wk rc_0 (by decide)) ⟨(0), rfl, ⟨(mh_r_wk rc_0 (by decide)), ?_, rfl⟩⟩
      · skip
        have := (rc_0).1; have := (rc_0).2
        have := kc_0
        have := kc_1
        omega
    · skip
      have r_x13 : mh_r x13 (-1) (0) := mh_le1 (show x13.toInt ≤ (0 : Int32).toInt from c16) r_x13 rc_0 (0) (by decide)
      refine mw_iconst (v := 1) 14 rfl dX10_lies_13 (by decide) ?_
      refine mw_goto 17 rfl 18 dX10_lies_14 (by decide) ?_
      refine mw_zret dX10_lies_18 rfl (mh_r_wk rc_1 (by decide)) ⟨(1), rfl, ⟨(mh_r_wk rc_1 (by decide)), ?_, rfl⟩⟩
      · skip
        have := (rc_1).1; have := (rc_1).2
        have := kc_0
        have := kc_1
        omega

def P_X10_isSide (B D : Int) (s0 : mh_H) (p0 : Int32) : Int32 → mh_H → Prop := fun z s => mh_r z (0) (1) ∧ (z.toInt = 1 ↔ (0 ≤ p0.toInt ∧ p0.toInt ≤ 11)) ∧ s0 = s
set_option maxRecDepth 100000 in
set_option maxHeartbeats 4000000 in
theorem w_X10_isSide (l : Launch) (G : mh_G) (d : Nat) {B D : Int} (hB : B ≤ 1980000000 ∧ D ≤ 1980000000) {s0 : mh_H} (hI0 : mh_I B D s0) (p0 : Int32) : mh_Mi l G (d + 1) mM_X10_isSide [.int p0] s0 (P_X10_isSide B D s0 p0) := by
  refine mh_enter (lv := [(0, .int p0)]) (by decide) rfl (Nat.le_of_ble_eq_true rfl) ?_
  refine mw_iload_n 1 rfl 0 dX10_isSide_0 rfl rfl ?_
  refine mw_i2l 2 rfl dX10_isSide_1 (fun y6 t7 => ?_)
  refine mw_lconst (v := 0) 3 rfl dX10_isSide_2 (by decide) ?_
  refine mw_ldc2 6 rfl dX10_isSide_3 ck_X10_152 ?_
  refine mw_callSi [.long y6, .long (0), .long (11)] [] 9 rfl dX10_isSide_6 ml_X10_154 mc_X10_lies mk_X10_lies (w_X10_lies l G (d + 0) ⟨by omega, by omega⟩ hI0 y6 (0) (11)) rfl rfl (Nat.le_of_ble_eq_true rfl) (mh_rok (by omega) (by decide)) (fun x8 s9 q10 => ?_)
  obtain ⟨r_x8, e0_s9, rfl⟩ := q10
  have f_x8 : x8.toInt = 1 ↔ (0 ≤ p0.toInt ∧ p0.toInt ≤ 11) := by rw [e0_s9]; exact by simp only [t7, Int32.toInt_toInt64]; first | done | exact Iff.rfl
  refine mw_zret dX10_isSide_9 rfl r_x8 ⟨x8, rfl, ⟨r_x8, ?_, rfl⟩⟩
  · skip
    have := (r_x8).1; have := (r_x8).2
    have := kc_0
    have := kc_1
    omega

def P_X10_isCell (B D : Int) (s0 : mh_H) (p0 : Int32) (p1 : Int32) : Int32 → mh_H → Prop := fun z s => mh_r z (0) (1) ∧ (z.toInt = 1 ↔ ((0 ≤ p0.toInt ∧ p0.toInt ≤ 11) ∧ 0 ≤ p1.toInt ∧ p1.toInt ≤ 11)) ∧ s0 = s
set_option maxRecDepth 100000 in
set_option maxHeartbeats 4000000 in
theorem w_X10_isCell (l : Launch) (G : mh_G) (d : Nat) {B D : Int} (hB : B ≤ 1960000000 ∧ D ≤ 1960000000) {s0 : mh_H} (hI0 : mh_I B D s0) (p0 : Int32) (p1 : Int32) : mh_Mi l G (d + 2) mM_X10_isCell [.int p0, .int p1] s0 (P_X10_isCell B D s0 p0 p1) := by
  refine mh_enter (lv := [(0, .int p0), (1, .int p1)]) (by decide) rfl (Nat.le_of_ble_eq_true rfl) ?_
  refine mw_iload_n 1 rfl 0 dX10_isCell_0 rfl rfl ?_
  refine mw_callSi [.int p0] [] 4 rfl dX10_isCell_1 ml_X10_158 mc_X10_isSide mk_X10_isSide (w_X10_isSide l G (d + 0) ⟨by omega, by omega⟩ hI0 p0) rfl rfl (Nat.le_of_ble_eq_true rfl) (mh_rok (by omega) (by decide)) (fun x9 s10 q11 => ?_)
  obtain ⟨r_x9, e0_s10, rfl⟩ := q11
  refine mw_if_eq 7 rfl 18 dX10_isCell_4 (by decide) (fun c12 => ?_) (fun c12 => ?_)
  · skip
    have r_x9 : mh_r x9 (0) (0) := mh_eq1 (show x9.toInt = (0 : Int32).toInt from c12) r_x9 rc_0 (0) (0) (by decide)
    refine mw_iconst (v := 0) 19 rfl dX10_isCell_18 (by decide) ?_
    refine mw_zret dX10_isCell_19 rfl (mh_r_wk rc_0 (by decide)) ⟨(0), rfl, ⟨(mh_r_wk rc_0 (by decide)), ?_, rfl⟩⟩
    · skip
      have := (rc_0).1; have := (rc_0).2
      have := kc_0
      have := kc_1
      omega
  · skip
    have r_p0 : mh_r p0 (0) (11) := ⟨by have := e0_s10.1 (mh_z1 r_x9 c12); have := ((mh_r_full p0)).1; omega, by have := e0_s10.1 (mh_z1 r_x9 c12); have := ((mh_r_full p0)).2; omega⟩
    have r_x9 : mh_r x9 (1) (1) := mh_ne1 (show x9.toInt ≠ (0 : Int32).toInt from c12) r_x9 rc_0 (1) (1) (by decide)
    refine mw_iload_n 8 rfl 1 dX10_isCell_7 rfl rfl ?_
    refine mw_callSi [.int p1] [] 11 rfl dX10_isCell_8 ml_X10_158 mc_X10_isSide mk_X10_isSide (w_X10_isSide l G (d + 0) ⟨by omega, by omega⟩ hI0 p1) rfl rfl (Nat.le_of_ble_eq_true rfl) (mh_rok (by omega) (by decide)) (fun x13 s14 q15 => ?_)
    obtain ⟨r_x13, e0_s14, rfl⟩ := q15
    refine mw_if_eq 14 rfl 18 dX10_isCell_11 (by decide) (fun c16 => ?_) (fun c16 => ?_)
    · skip
      have r_x13 : mh_r x13 (0) (0) := mh_eq1 (show x13.toInt = (0 : Int32).toInt from c16) r_x13 rc_0 (0) (0) (by decide)
      refine mw_iconst (v := 0) 19 rfl dX10_isCell_18 (by decide) ?_
      refine mw_zret dX10_isCell_19 rfl (mh_r_wk rc_0 (by decide)) ⟨(0), rfl, ⟨(mh_r_wk rc_0 (by decide)), ?_, rfl⟩⟩
      · skip
        have := (r_p0).1; have := (r_p0).2
        have := (rc_0).1; have := (rc_0).2
        have := kc_0
        have := kc_1
        omega
    · skip
      have r_p1 : mh_r p1 (0) (11) := ⟨by have := e0_s14.1 (mh_z1 r_x13 c16); have := ((mh_r_full p1)).1; omega, by have := e0_s14.1 (mh_z1 r_x13 c16); have := ((mh_r_full p1)).2; omega⟩
      have r_x13 : mh_r x13 (1) (1) := mh_ne1 (show x13.toInt ≠ (0 : Int32).toInt from c16) r_x13 rc_0 (1) (1) (by decide)
      refine mw_iconst (v := 1) 15 rfl dX10_isCell_14 (by decide) ?_
      refine mw_goto 18 rfl 19 dX10_isCell_15 (by decide) ?_
      refine mw_zret dX10_isCell_19 rfl (mh_r_wk rc_1 (by decide)) ⟨(1), rfl, ⟨(mh_r_wk rc_1 (by decide)), ?_, rfl⟩⟩
      · skip
        have := (r_p0).1; have := (r_p0).2
        have := (r_p1).1; have := (r_p1).2
        have := (rc_1).1; have := (rc_1).2
        have := kc_0
        have := kc_1
        omega

def P_X10_isNight (B D : Int) (s0 : mh_H) (p0 : Int32) : Int32 → mh_H → Prop := fun z s => mh_r z (0) (1) ∧ (z.toInt = 1 ↔ (1 ≤ p0.toInt ∧ p0.toInt ≤ 60)) ∧ s0 = s
set_option maxRecDepth 100000 in
set_option maxHeartbeats 4000000 in
theorem w_X10_isNight (l : Launch) (G : mh_G) (d : Nat) {B D : Int} (hB : B ≤ 1980000000 ∧ D ≤ 1980000000) {s0 : mh_H} (hI0 : mh_I B D s0) (p0 : Int32) : mh_Mi l G (d + 1) mM_X10_isNight [.int p0] s0 (P_X10_isNight B D s0 p0) := by
  refine mh_enter (lv := [(0, .int p0)]) (by decide) rfl (Nat.le_of_ble_eq_true rfl) ?_
  refine mw_iload_n 1 rfl 0 dX10_isNight_0 rfl rfl ?_
  refine mw_i2l 2 rfl dX10_isNight_1 (fun y6 t7 => ?_)
  refine mw_lconst (v := 1) 3 rfl dX10_isNight_2 (by decide) ?_
  refine mw_ldc2 6 rfl dX10_isNight_3 ck_X10_371 ?_
  refine mw_callSi [.long y6, .long (1), .long (60)] [] 9 rfl dX10_isNight_6 ml_X10_154 mc_X10_lies mk_X10_lies (w_X10_lies l G (d + 0) ⟨by omega, by omega⟩ hI0 y6 (1) (60)) rfl rfl (Nat.le_of_ble_eq_true rfl) (mh_rok (by omega) (by decide)) (fun x8 s9 q10 => ?_)
  obtain ⟨r_x8, e0_s9, rfl⟩ := q10
  have f_x8 : x8.toInt = 1 ↔ (1 ≤ p0.toInt ∧ p0.toInt ≤ 60) := by rw [e0_s9]; exact by simp only [t7, Int32.toInt_toInt64]; first | done | exact Iff.rfl
  refine mw_zret dX10_isNight_9 rfl r_x8 ⟨x8, rfl, ⟨r_x8, ?_, rfl⟩⟩
  · skip
    have := (r_x8).1; have := (r_x8).2
    have := kc_0
    have := kc_1
    omega

def P_X10_isNode (B D : Int) (s0 : mh_H) (p0 : Int32) : Int32 → mh_H → Prop := fun z s => mh_r z (0) (1) ∧ (z.toInt = 1 ↔ (0 ≤ p0.toInt ∧ p0.toInt ≤ 9)) ∧ s0 = s
set_option maxRecDepth 100000 in
set_option maxHeartbeats 4000000 in
theorem w_X10_isNode (l : Launch) (G : mh_G) (d : Nat) {B D : Int} (hB : B ≤ 1980000000 ∧ D ≤ 1980000000) {s0 : mh_H} (hI0 : mh_I B D s0) (p0 : Int32) : mh_Mi l G (d + 1) mM_X10_isNode [.int p0] s0 (P_X10_isNode B D s0 p0) := by
  refine mh_enter (lv := [(0, .int p0)]) (by decide) rfl (Nat.le_of_ble_eq_true rfl) ?_
  refine mw_iload_n 1 rfl 0 dX10_isNode_0 rfl rfl ?_
  refine mw_i2l 2 rfl dX10_isNode_1 (fun y6 t7 => ?_)
  refine mw_lconst (v := 0) 3 rfl dX10_isNode_2 (by decide) ?_
  refine mw_ldc2 6 rfl dX10_isNode_3 ck_X10_179 ?_
  refine mw_callSi [.long y6, .long (0), .long (9)] [] 9 rfl dX10_isNode_6 ml_X10_154 mc_X10_lies mk_X10_lies (w_X10_lies l G (d + 0) ⟨by omega, by omega⟩ hI0 y6 (0) (9)) rfl rfl (Nat.le_of_ble_eq_true rfl) (mh_rok (by omega) (by decide)) (fun x8 s9 q10 => ?_)
  obtain ⟨r_x8, e0_s9, rfl⟩ := q10
  have f_x8 : x8.toInt = 1 ↔ (0 ≤ p0.toInt ∧ p0.toInt ≤ 9) := by rw [e0_s9]; exact by simp only [t7, Int32.toInt_toInt64]; first | done | exact Iff.rfl
  refine mw_zret dX10_isNode_9 rfl r_x8 ⟨x8, rfl, ⟨r_x8, ?_, rfl⟩⟩
  · skip
    have := (r_x8).1; have := (r_x8).2
    have := kc_0
    have := kc_1
    omega

def P_X10_isPrice (B D : Int) (s0 : mh_H) (p0 : Int32) : Int32 → mh_H → Prop := fun z s => mh_r z (0) (1) ∧ (z.toInt = 1 ↔ (0 ≤ p0.toInt ∧ p0.toInt ≤ 999)) ∧ s0 = s
set_option maxRecDepth 100000 in
set_option maxHeartbeats 4000000 in
theorem w_X10_isPrice (l : Launch) (G : mh_G) (d : Nat) {B D : Int} (hB : B ≤ 1980000000 ∧ D ≤ 1980000000) {s0 : mh_H} (hI0 : mh_I B D s0) (p0 : Int32) : mh_Mi l G (d + 1) mM_X10_isPrice [.int p0] s0 (P_X10_isPrice B D s0 p0) := by
  refine mh_enter (lv := [(0, .int p0)]) (by decide) rfl (Nat.le_of_ble_eq_true rfl) ?_
  refine mw_iload_n 1 rfl 0 dX10_isPrice_0 rfl rfl ?_
  refine mw_i2l 2 rfl dX10_isPrice_1 (fun y6 t7 => ?_)
  refine mw_lconst (v := 0) 3 rfl dX10_isPrice_2 (by decide) ?_
  refine mw_ldc2 6 rfl dX10_isPrice_3 ck_X10_430 ?_
  refine mw_callSi [.long y6, .long (0), .long (999)] [] 9 rfl dX10_isPrice_6 ml_X10_154 mc_X10_lies mk_X10_lies (w_X10_lies l G (d + 0) ⟨by omega, by omega⟩ hI0 y6 (0) (999)) rfl rfl (Nat.le_of_ble_eq_true rfl) (mh_rok (by omega) (by decide)) (fun x8 s9 q10 => ?_)
  obtain ⟨r_x8, e0_s9, rfl⟩ := q10
  have f_x8 : x8.toInt = 1 ↔ (0 ≤ p0.toInt ∧ p0.toInt ≤ 999) := by rw [e0_s9]; exact by simp only [t7, Int32.toInt_toInt64]; first | done | exact Iff.rfl
  refine mw_zret dX10_isPrice_9 rfl r_x8 ⟨x8, rfl, ⟨r_x8, ?_, rfl⟩⟩
  · skip
    have := (r_x8).1; have := (r_x8).2
    have := kc_0
    have := kc_1
    omega

def P_X10_isWithin (B D : Int) (s0 : mh_H) (p0 : Int32) (p1 : Int32) (p2 : Int32) : Int32 → mh_H → Prop := fun z s => mh_r z (0) (1) ∧ s0 = s
set_option maxRecDepth 100000 in
set_option maxHeartbeats 4000000 in
theorem w_X10_isWithin (l : Launch) (G : mh_G) (d : Nat) {B D : Int} (hB : B ≤ 1980000000 ∧ D ≤ 1980000000) {s0 : mh_H} (hI0 : mh_I B D s0) (p0 : Int32) (p1 : Int32) (p2 : Int32) : mh_Mi l G (d + 1) mM_X10_isWithin [.int p0, .int p1, .int p2] s0 (P_X10_isWithin B D s0 p0 p1 p2) := by
  refine mh_enter (lv := [(0, .int p0), (1, .int p1), (2, .int p2)]) (by decide) rfl (Nat.le_of_ble_eq_true rfl) ?_
  refine mw_iload_n 1 rfl 0 dX10_isWithin_0 rfl rfl ?_
  refine mw_iload_n 2 rfl 1 dX10_isWithin_1 rfl rfl ?_
  refine mw_isub_u 3 rfl dX10_isWithin_2 (fun x13 t14 => ?_)
  refine mw_i2l 4 rfl dX10_isWithin_3 (fun y15 t16 => ?_)
  refine mw_iload_n 5 rfl 2 dX10_isWithin_4 rfl rfl ?_
  refine mw_ineg 6 rfl dX10_isWithin_5 (fun x17 _ => ?_)
  refine mw_i2l 7 rfl dX10_isWithin_6 (fun y18 t19 => ?_)
  refine mw_iload_n 8 rfl 2 dX10_isWithin_7 rfl rfl ?_
  refine mw_i2l 9 rfl dX10_isWithin_8 (fun y20 t21 => ?_)
  refine mw_callSi [.long y15, .long y18, .long y20] [] 12 rfl dX10_isWithin_9 ml_X10_154 mc_X10_lies mk_X10_lies (w_X10_lies l G (d + 0) ⟨by omega, by omega⟩ hI0 y15 y18 y20) rfl rfl (Nat.le_of_ble_eq_true rfl) (mh_rok (by omega) (by decide)) (fun x22 s23 q24 => ?_)
  obtain ⟨r_x22, e0_s23, rfl⟩ := q24
  have f_x22 : x22.toInt = 1 ↔ (x17.toInt ≤ x13.toInt ∧ x13.toInt ≤ p2.toInt) := by rw [e0_s23]; exact by simp only [t16, t19, t21, Int32.toInt_toInt64]; first | done | exact Iff.rfl
  exact mw_zret dX10_isWithin_12 rfl r_x22 ⟨x22, rfl, ⟨r_x22, rfl⟩⟩

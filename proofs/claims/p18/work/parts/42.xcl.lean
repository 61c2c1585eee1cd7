def f_eX9_isWithin (s0 : mh_H) (p0 : Int32) (p1 : Int32) : Int32 := if p0.toInt < 0 then (0 : Int32) else if p1.toInt < p0.toInt then (0 : Int32) else (1 : Int32)
def P_eX9_isWithin (B D : Int) (s0 : mh_H) (p0 : Int32) (p1 : Int32) : Int32 → mh_H → Prop := fun z s => mh_r z (0) (1) ∧ f_eX9_isWithin s0 p0 p1 = z ∧ (z.toInt = 1 ↔ (0 ≤ p0.toInt ∧ p0.toInt ≤ p1.toInt)) ∧ s0 = s
set_option maxRecDepth 100000 in
set_option maxHeartbeats 4000000 in
theorem w_eX9_isWithin (l : Launch) (G : mh_G) (d : Nat) {B D : Int} (hB : B ≤ 2000000000 ∧ D ≤ 2000000000) {s0 : mh_H} (hI0 : mh_I B D s0) (p0 : Int32) (p1 : Int32) : mh_Mi l G (d + 0) mM_X9_isWithin [.int p0, .int p1] s0 (P_eX9_isWithin B D s0 p0 p1) := by
  refine mh_enter (lv := [(0, .int p0), (1, .int p1)]) (by decide) rfl (Nat.le_of_ble_eq_true rfl) ?_
  refine mw_iload_n 1 rfl 0 dX9_isWithin_0 rfl rfl ?_
  refine mw_if_lt 4 rfl 13 dX9_isWithin_1 (by decide) (fun c3 => ?_) (fun c3 => ?_)
  · skip
    have r_p0 : mh_r p0 (-2147483648) (-1) := mh_lt1 (show p0.toInt < (0 : Int32).toInt from c3) (mh_r_full p0) rc_0 (-1) (by decide)
    refine mw_iconst (v := 0) 14 rfl dX9_isWithin_13 (by decide) ?_
    refine mw_zret dX9_isWithin_14 rfl (mh_r_wk rc_0 (by decide)) ⟨(0), rfl, ⟨(mh_r_wk rc_0 (by decide)), (mh_ifT c3 rfl), ?_, rfl⟩⟩
    · skip
      have := (r_p0).1; have := (r_p0).2
      have := (rc_0).1; have := (rc_0).2
      have := kc_0
      have := kc_1
      omega
  · skip
    have r_p0 : mh_r p0 (0) (2147483647) := mh_le2 (show (0 : Int32).toInt ≤ p0.toInt from c3) rc_0 (mh_r_full p0) (0) (by decide)
    refine mw_iload_n 5 rfl 0 dX9_isWithin_4 rfl rfl ?_
    refine mw_iload_n 6 rfl 1 dX9_isWithin_5 rfl rfl ?_
    refine mw_icmp_gt 9 rfl 13 dX9_isWithin_6 (by decide) (fun c4 => ?_) (fun c4 => ?_)
    · skip
      have r_p1 : mh_r p1 (-2147483648) (2147483646) := mh_lt1 c4 (mh_r_full p1) r_p0 (2147483646) (by decide)
      refine mw_iconst (v := 0) 14 rfl dX9_isWithin_13 (by decide) ?_
      refine mw_zret dX9_isWithin_14 rfl (mh_r_wk rc_0 (by decide)) ⟨(0), rfl, ⟨(mh_r_wk rc_0 (by decide)), (mh_ifF (Int.not_lt.mpr c3) (mh_ifT c4 rfl)), ?_, rfl⟩⟩
      · skip
        have := (r_p0).1; have := (r_p0).2
        have := (r_p1).1; have := (r_p1).2
        have := (rc_0).1; have := (rc_0).2
        have := kc_0
        have := kc_1
        omega
    · skip
      have r_p1 : mh_r p1 (0) (2147483647) := mh_le2 c4 r_p0 (mh_r_full p1) (0) (by decide)
      refine mw_iconst (v := 1) 10 rfl dX9_isWithin_9 (by decide) ?_
      refine mw_goto 13 rfl 14 dX9_isWithin_10 (by decide) ?_
      refine mw_zret dX9_isWithin_14 rfl (mh_r_wk rc_1 (by decide)) ⟨(1), rfl, ⟨(mh_r_wk rc_1 (by decide)), (mh_ifF (Int.not_lt.mpr c3) (mh_ifF (Int.not_lt.mpr c4) rfl)), ?_, rfl⟩⟩
      · skip
        have := (r_p0).1; have := (r_p0).2
        have := (r_p1).1; have := (r_p1).2
        have := (rc_1).1; have := (rc_1).2
        have := kc_0
        have := kc_1
        omega

def f_eX9_isEvening (s0 : mh_H) (p0 : Int32) (p1 : Int32) (p2 : Int32) : Int32 := mh_lb (f_eX9_isWithin s0 p0 (99 : Int32)) (fun x13 => if x13.toInt = 0 then (0 : Int32) else mh_lb (f_eX9_isWithin s0 p1 (99 : Int32)) (fun x17 => if x17.toInt = 0 then (0 : Int32) else mh_lb (f_eX9_isWithin s0 p2 (99 : Int32)) (fun x21 => if x21.toInt = 0 then (0 : Int32) else (1 : Int32))))
def P_eX9_isEvening (B D : Int) (s0 : mh_H) (p0 : Int32) (p1 : Int32) (p2 : Int32) : Int32 → mh_H → Prop := fun z s => mh_r z (0) (1) ∧ f_eX9_isEvening s0 p0 p1 p2 = z ∧ (z.toInt = 1 ↔ ((0 ≤ p0.toInt ∧ p0.toInt ≤ 99) ∧ (0 ≤ p1.toInt ∧ p1.toInt ≤ 99) ∧ 0 ≤ p2.toInt ∧ p2.toInt ≤ 99)) ∧ s0 = s
set_option maxRecDepth 100000 in
set_option maxHeartbeats 4000000 in
theorem w_eX9_isEvening (l : Launch) (G : mh_G) (d : Nat) {B D : Int} (hB : B ≤ 1980000000 ∧ D ≤ 1980000000) {s0 : mh_H} (hI0 : mh_I B D s0) (p0 : Int32) (p1 : Int32) (p2 : Int32) : mh_Mi l G (d + 1) mM_X9_isEvening [.int p0, .int p1, .int p2] s0 (P_eX9_isEvening B D s0 p0 p1 p2) := by
  refine mh_enter (lv := [(0, .int p0), (1, .int p1), (2, .int p2)]) (by decide) rfl (Nat.le_of_ble_eq_true rfl) ?_
  refine mw_iload_n 1 rfl 0 dX9_isEvening_0 rfl rfl ?_
  refine mw_bipush (v := 99) 3 rfl dX9_isEvening_1 (by decide) ?_
  refine mw_callSi [.int p0, .int (99)] [] 6 rfl dX9_isEvening_3 ml_X9_98 mc_X9_isWithin mk_X9_isWithin (w_eX9_isWithin l G (d + 0) ⟨by omega, by omega⟩ hI0 p0 (99)) rfl rfl (Nat.le_of_ble_eq_true rfl) (mh_rok (by omega) (by decide)) (fun x13 s14 q15 => ?_)
  obtain ⟨r_x13, E_s14, e0_s14, rfl⟩ := q15
  refine mw_if_eq 9 rfl 31 dX9_isEvening_6 (by decide) (fun c16 => ?_) (fun c16 => ?_)
  · skip
    have r_x13 : mh_r x13 (0) (0) := mh_eq1 (show x13.toInt = (0 : Int32).toInt from c16) r_x13 rc_0 (0) (0) (by decide)
    refine mw_iconst (v := 0) 32 rfl dX9_isEvening_31 (by decide) ?_
    refine mw_zret dX9_isEvening_32 rfl (mh_r_wk rc_0 (by decide)) ⟨(0), rfl, ⟨(mh_r_wk rc_0 (by decide)), (mh_lbS E_s14 (mh_ifT c16 rfl)), ?_, rfl⟩⟩
    · skip
      have := (rc_0).1; have := (rc_0).2
      have := kc_0
      have := kc_1
      have := kc_99
      omega
  · skip
    have r_p0 : mh_r p0 (0) (99) := ⟨by have := e0_s14.1 (mh_z1 r_x13 c16); have := ((mh_r_full p0)).1; omega, by have := e0_s14.1 (mh_z1 r_x13 c16); have := ((mh_r_full p0)).2; have := (rc_99).2; omega⟩
    have r_x13 : mh_r x13 (1) (1) := mh_ne1 (show x13.toInt ≠ (0 : Int32).toInt from c16) r_x13 rc_0 (1) (1) (by decide)
    refine mw_iload_n 10 rfl 1 dX9_isEvening_9 rfl rfl ?_
    refine mw_bipush (v := 99) 12 rfl dX9_isEvening_10 (by decide) ?_
    refine mw_callSi [.int p1, .int (99)] [] 15 rfl dX9_isEvening_12 ml_X9_98 mc_X9_isWithin mk_X9_isWithin (w_eX9_isWithin l G (d + 0) ⟨by omega, by omega⟩ hI0 p1 (99)) rfl rfl (Nat.le_of_ble_eq_true rfl) (mh_rok (by omega) (by decide)) (fun x17 s18 q19 => ?_)
    obtain ⟨r_x17, E_s18, e0_s18, rfl⟩ := q19
    refine mw_if_eq 18 rfl 31 dX9_isEvening_15 (by decide) (fun c20 => ?_) (fun c20 => ?_)
    · skip
      have r_x17 : mh_r x17 (0) (0) := mh_eq1 (show x17.toInt = (0 : Int32).toInt from c20) r_x17 rc_0 (0) (0) (by decide)
      refine mw_iconst (v := 0) 32 rfl dX9_isEvening_31 (by decide) ?_
      refine mw_zret dX9_isEvening_32 rfl (mh_r_wk rc_0 (by decide)) ⟨(0), rfl, ⟨(mh_r_wk rc_0 (by decide)), (mh_lbS E_s14 (mh_ifF c16 (mh_lbS E_s18 (mh_ifT c20 rfl)))), ?_, rfl⟩⟩
      · skip
        have := (r_p0).1; have := (r_p0).2
        have := (rc_0).1; have := (rc_0).2
        have := kc_0
        have := kc_1
        have := kc_99
        omega
    · skip
      have r_p1 : mh_r p1 (0) (99) := ⟨by have := e0_s18.1 (mh_z1 r_x17 c20); have := ((mh_r_full p1)).1; omega, by have := e0_s18.1 (mh_z1 r_x17 c20); have := ((mh_r_full p1)).2; have := (rc_99).2; omega⟩
      have r_x17 : mh_r x17 (1) (1) := mh_ne1 (show x17.toInt ≠ (0 : Int32).toInt from c20) r_x17 rc_0 (1) (1) (by decide)
      refine mw_iload_n 19 rfl 2 dX9_isEvening_18 rfl rfl ?_
      refine mw_bipush (v := 99) 21 rfl dX9_isEvening_19 (by decide) ?_
      refine mw_callSi [.int p2, .int (99)] [] 24 rfl dX9_isEvening_21 ml_X9_98 mc_X9_isWithin mk_X9_isWithin (w_eX9_isWithin l G (d + 0) ⟨by omega, by omega⟩ hI0 p2 (99)) rfl rfl (Nat.le_of_ble_eq_true rfl) (mh_rok (by omega) (by decide)) (fun x21 s22 q23 => ?_)
      obtain ⟨r_x21, E_s22, e0_s22, rfl⟩ := q23
      refine mw_if_eq 27 rfl 31 dX9_isEvening_24 (by decide) (fun c24 => ?_) (fun c24 => ?_)
      · skip
        have r_x21 : mh_r x21 (0) (0) := mh_eq1 (show x21.toInt = (0 : Int32).toInt from c24) r_x21 rc_0 (0) (0) (by decide)
        refine mw_iconst (v := 0) 32 rfl dX9_isEvening_31 (by decide) ?_
        refine mw_zret dX9_isEvening_32 rfl (mh_r_wk rc_0 (by decide)) ⟨(0), rfl, ⟨(mh_r_wk rc_0 (by decide)), (mh_lbS E_s14 (mh_ifF c16 (mh_lbS E_s18 (mh_ifF c20 (mh_lbS E_s22 (mh_ifT c24 rfl)))))), ?_, rfl⟩⟩
        · skip
          have := (r_p0).1; have := (r_p0).2
          have := (r_p1).1; have := (r_p1).2
          have := (rc_0).1; have := (rc_0).2
          have := kc_0
          have := kc_1
          have := kc_99
          omega
      · skip
        have r_p2 : mh_r p2 (0) (99) := ⟨by have := e0_s22.1 (mh_z1 r_x21 c24); have := ((mh_r_full p2)).1; omega, by have := e0_s22.1 (mh_z1 r_x21 c24); have := ((mh_r_full p2)).2; have := (rc_99).2; omega⟩
        have r_x21 : mh_r x21 (1) (1) := mh_ne1 (show x21.toInt ≠ (0 : Int32).toInt from c24) r_x21 rc_0 (1) (1) (by decide)
        refine mw_iconst (v := 1) 28 rfl dX9_isEvening_27 (by decide) ?_
        refine mw_goto 31 rfl 32 dX9_isEvening_28 (by decide) ?_
        refine mw_zret dX9_isEvening_32 rfl (mh_r_wk rc_1 (by decide)) ⟨(1), rfl, ⟨(mh_r_wk rc_1 (by decide)), (mh_lbS E_s14 (mh_ifF c16 (mh_lbS E_s18 (mh_ifF c20 (mh_lbS E_s22 (mh_ifF c24 rfl)))))), ?_, rfl⟩⟩
        · skip
          have := (r_p0).1; have := (r_p0).2
          have := (r_p1).1; have := (r_p1).2
          have := (r_p2).1; have := (r_p2).2
          have := (rc_1).1; have := (rc_1).2
          have := kc_0
          have := kc_1
          have := kc_99
          omega

def f_eX9_arePrices (s0 : mh_H) (p0 : Int32) (p1 : Int32) : Int32 := mh_lb (f_eX9_isWithin s0 p0 (999 : Int32)) (fun x9 => if x9.toInt = 0 then (0 : Int32) else mh_lb (f_eX9_isWithin s0 p1 (999 : Int32)) (fun x13 => if x13.toInt = 0 then (0 : Int32) else (1 : Int32)))
def P_eX9_arePrices (B D : Int) (s0 : mh_H) (p0 : Int32) (p1 : Int32) : Int32 → mh_H → Prop := fun z s => mh_r z (0) (1) ∧ f_eX9_arePrices s0 p0 p1 = z ∧ (z.toInt = 1 ↔ ((0 ≤ p0.toInt ∧ p0.toInt ≤ 999) ∧ 0 ≤ p1.toInt ∧ p1.toInt ≤ 999)) ∧ s0 = s
set_option maxRecDepth 100000 in
set_option maxHeartbeats 4000000 in
theorem w_eX9_arePrices (l : Launch) (G : mh_G) (d : Nat) {B D : Int} (hB : B ≤ 1980000000 ∧ D ≤ 1980000000) {s0 : mh_H} (hI0 : mh_I B D s0) (p0 : Int32) (p1 : Int32) : mh_Mi l G (d + 1) mM_X9_arePrices [.int p0, .int p1] s0 (P_eX9_arePrices B D s0 p0 p1) := by
  refine mh_enter (lv := [(0, .int p0), (1, .int p1)]) (by decide) rfl (Nat.le_of_ble_eq_true rfl) ?_
  refine mw_iload_n 1 rfl 0 dX9_arePrices_0 rfl rfl ?_
  refine mw_sipush (v := 999) 4 rfl dX9_arePrices_1 (by decide) ?_
  refine mw_callSi [.int p0, .int (999)] [] 7 rfl dX9_arePrices_4 ml_X9_98 mc_X9_isWithin mk_X9_isWithin (w_eX9_isWithin l G (d + 0) ⟨by omega, by omega⟩ hI0 p0 (999)) rfl rfl (Nat.le_of_ble_eq_true rfl) (mh_rok (by omega) (by decide)) (fun x9 s10 q11 => ?_)
  obtain ⟨r_x9, E_s10, e0_s10, rfl⟩ := q11
  refine mw_if_eq 10 rfl 24 dX9_arePrices_7 (by decide) (fun c12 => ?_) (fun c12 => ?_)
  · skip
    have r_x9 : mh_r x9 (0) (0) := mh_eq1 (show x9.toInt = (0 : Int32).toInt from c12) r_x9 rc_0 (0) (0) (by decide)
    refine mw_iconst (v := 0) 25 rfl dX9_arePrices_24 (by decide) ?_
    refine mw_zret dX9_arePrices_25 rfl (mh_r_wk rc_0 (by decide)) ⟨(0), rfl, ⟨(mh_r_wk rc_0 (by decide)), (mh_lbS E_s10 (mh_ifT c12 rfl)), ?_, rfl⟩⟩
    · skip
      have := (rc_0).1; have := (rc_0).2
      have := kc_0
      have := kc_1
      have := kc_999
      omega
  · skip
    have r_p0 : mh_r p0 (0) (999) := ⟨by have := e0_s10.1 (mh_z1 r_x9 c12); have := ((mh_r_full p0)).1; omega, by have := e0_s10.1 (mh_z1 r_x9 c12); have := ((mh_r_full p0)).2; have := (rc_999).2; omega⟩
    have r_x9 : mh_r x9 (1) (1) := mh_ne1 (show x9.toInt ≠ (0 : Int32).toInt from c12) r_x9 rc_0 (1) (1) (by decide)
    refine mw_iload_n 11 rfl 1 dX9_arePrices_10 rfl rfl ?_
    refine mw_sipush (v := 999) 14 rfl dX9_arePrices_11 (by decide) ?_
    refine mw_callSi [.int p1, .int (999)] [] 17 rfl dX9_arePrices_14 ml_X9_98 mc_X9_isWithin mk_X9_isWithin (w_eX9_isWithin l G (d + 0) ⟨by omega, by omega⟩ hI0 p1 (999)) rfl rfl (Nat.le_of_ble_eq_true rfl) (mh_rok (by omega) (by decide)) (fun x13 s14 q15 => ?_)
    obtain ⟨r_x13, E_s14, e0_s14, rfl⟩ := q15
    refine mw_if_eq 20 rfl 24 dX9_arePrices_17 (by decide) (fun c16 => ?_) (fun c16 => ?_)
    · skip
      have r_x13 : mh_r x13 (0) (0) := mh_eq1 (show x13.toInt = (0 : Int32).toInt from c16) r_x13 rc_0 (0) (0) (by decide)
      refine mw_iconst (v := 0) 25 rfl dX9_arePrices_24 (by decide) ?_
      refine mw_zret dX9_arePrices_25 rfl (mh_r_wk rc_0 (by decide)) ⟨(0), rfl, ⟨(mh_r_wk rc_0 (by decide)), (mh_lbS E_s10 (mh_ifF c12 (mh_lbS E_s14 (mh_ifT c16 rfl)))), ?_, rfl⟩⟩
      · skip
        have := (r_p0).1; have := (r_p0).2
        have := (rc_0).1; have := (rc_0).2
        have := kc_0
        have := kc_1
        have := kc_999
        omega
    · skip
      have r_p1 : mh_r p1 (0) (999) := ⟨by have := e0_s14.1 (mh_z1 r_x13 c16); have := ((mh_r_full p1)).1; omega, by have := e0_s14.1 (mh_z1 r_x13 c16); have := ((mh_r_full p1)).2; have := (rc_999).2; omega⟩
      have r_x13 : mh_r x13 (1) (1) := mh_ne1 (show x13.toInt ≠ (0 : Int32).toInt from c16) r_x13 rc_0 (1) (1) (by decide)
      refine mw_iconst (v := 1) 21 rfl dX9_arePrices_20 (by decide) ?_
      refine mw_goto 24 rfl 25 dX9_arePrices_21 (by decide) ?_
      refine mw_zret dX9_arePrices_25 rfl (mh_r_wk rc_1 (by decide)) ⟨(1), rfl, ⟨(mh_r_wk rc_1 (by decide)), (mh_lbS E_s10 (mh_ifF c12 (mh_lbS E_s14 (mh_ifF c16 rfl)))), ?_, rfl⟩⟩
      · skip
        have := (r_p0).1; have := (r_p0).2
        have := (r_p1).1; have := (r_p1).2
        have := (rc_1).1; have := (rc_1).2
        have := kc_0
        have := kc_1
        have := kc_999
        omega

def f_eX10_lies (s0 : mh_H) (p0 : Int64) (p2 : Int64) (p4 : Int64) : Int32 := mh_lb (lg_cmp p0 p2) (fun x9 => if x9.toInt < 0 then (0 : Int32) else mh_lb (lg_cmp p0 p4) (fun x13 => if 0 < x13.toInt then (0 : Int32) else (1 : Int32)))
def P_eX10_lies (B D : Int) (s0 : mh_H) (p0 : Int64) (p2 : Int64) (p4 : Int64) : Int32 → mh_H → Prop := fun z s => mh_r z (0) (1) ∧ f_eX10_lies s0 p0 p2 p4 = z ∧ (z.toInt = 1 ↔ (p2.toInt ≤ p0.toInt ∧ p0.toInt ≤ p4.toInt)) ∧ s0 = s
set_option maxRecDepth 100000 in
set_option maxHeartbeats 4000000 in
theorem w_eX10_lies (l : Launch) (G : mh_G) (d : Nat) {B D : Int} (hB : B ≤ 2000000000 ∧ D ≤ 2000000000) {s0 : mh_H} (hI0 : mh_I B D s0) (p0 : Int64) (p2 : Int64) (p4 : Int64) : mh_Mi l G (d + 0) mM_X10_lies [.long p0, .long p2, .long p4] s0 (P_eX10_lies B D s0 p0 p2 p4) := by
  refine mh_enter (lv := [(0, .long p0), (2, .long p2), (4, .long p4)]) (by decide) rfl (Nat.le_of_ble_eq_true rfl) ?_
  refine mw_lload_n 1 rfl 0 dX10_lies_0 rfl rfl ?_
  refine mw_lload_n 2 rfl 1 dX10_lies_1 rfl rfl ?_
  refine mw_lcmp 3 rfl dX10_lies_2 (fun x9 t10 => ?_)
  have g11 := mh_lc t10
  have r_x9 : mh_r x9 (-1) 1 := g11.2.2
  refine mw_if_lt 6 rfl 17 dX10_lies_3 (by decide) (fun c12 => ?_) (fun c12 => ?_)
  · skip
    have r_x9 : mh_r x9 (-1) (-1) := mh_lt1 (show x9.toInt < (0 : Int32).toInt from c12) r_x9 rc_0 (-1) (by decide)
    refine mw_iconst (v := 0) 18 rfl dX10_lies_17 (by decide) ?_
    refine mw_zret dX10_lies_18 rfl (mh_r_wk rc_0 (by decide)) ⟨(0), rfl, ⟨(mh_r_wk rc_0 (by decide)), (mh_lbT t10 (mh_ifT c12 rfl)), ?_, rfl⟩⟩
    · skip
      have := (rc_0).1; have := (rc_0).2
      have := kc_0
      have := kc_1
      omega
  · skip
    have r_x9 : mh_r x9 (0) (1) := mh_le2 (show (0 : Int32).toInt ≤ x9.toInt from c12) rc_0 r_x9 (0) (by decide)
    refine mw_lload_n 7 rfl 0 dX10_lies_6 rfl rfl ?_
    refine mw_lload 9 rfl 2 dX10_lies_7  rfl ?_
    refine mw_lcmp 10 rfl dX10_lies_9 (fun x13 t14 => ?_)
    have g15 := mh_lc t14
    have r_x13 : mh_r x13 (-1) 1 := g15.2.2
    refine mw_if_gt 13 rfl 17 dX10_lies_10 (by decide) (fun c16 => ?_) (fun c16 => ?_)
    · skip
      have r_x13 : mh_r x13 (1) (1) := mh_lt2 (show (0 : Int32).toInt < x13.toInt from c16) rc_0 r_x13 (1) (by decide)
      refine mw_iconst (v := 0) 18 rfl dX10_lies_17 (by decide) ?_
      refine mw_zret dX10_lies_18 rfl (mh_r_wk rc_0 (by decide)) ⟨(0), rfl, ⟨(mh_r_wk rc_0 (by decide)), (mh_lbT t10 (mh_ifF (Int.not_lt.mpr c12) (mh_lbT t14 (mh_ifT c16 rfl)))), ?_, rfl⟩⟩
      · skip
        have := (rc_0).1; have := (rc_0).2
        have := kc_0
        have := kc_1
        omega
    · skip
      have r_x13 : mh_r x13 (-1) (0) := mh_le1 (show x13.toInt ≤ (0 : Int32).toInt from c16) r_x13 rc_0 (0) (by decide)
      refine mw_iconst (v := 1) 14 rfl dX10_lies_13 (by decide) ?_
      refine mw_goto 17 rfl 18 dX10_lies_14 (by decide) ?_
      refine mw_zret dX10_lies_18 rfl (mh_r_wk rc_1 (by decide)) ⟨(1), rfl, ⟨(mh_r_wk rc_1 (by decide)), (mh_lbT t10 (mh_ifF (Int.not_lt.mpr c12) (mh_lbT t14 (mh_ifF (Int.not_lt.mpr c16) rfl)))), ?_, rfl⟩⟩
      · skip
        have := (rc_1).1; have := (rc_1).2
        have := kc_0
        have := kc_1
        omega

def f_eX10_isPrice (s0 : mh_H) (p0 : Int32) : Int32 := mh_lb (Int32.toInt64 p0) (fun y6 => mh_lb (f_eX10_lies s0 y6 (0 : Int64) (999 : Int64)) (fun x8 => x8))
def P_eX10_isPrice (B D : Int) (s0 : mh_H) (p0 : Int32) : Int32 → mh_H → Prop := fun z s => mh_r z (0) (1) ∧ f_eX10_isPrice s0 p0 = z ∧ (z.toInt = 1 ↔ (0 ≤ p0.toInt ∧ p0.toInt ≤ 999)) ∧ s0 = s
set_option maxRecDepth 100000 in
set_option maxHeartbeats 4000000 in
theorem w_eX10_isPrice (l : Launch) (G : mh_G) (d : Nat) {B D : Int} (hB : B ≤ 1980000000 ∧ D ≤ 1980000000) {s0 : mh_H} (hI0 : mh_I B D s0) (p0 : Int32) : mh_Mi l G (d + 1) mM_X10_isPrice [.int p0] s0 (P_eX10_isPrice B D s0 p0) := by
  refine mh_enter (lv := [(0, .int p0)]) (by decide) rfl (Nat.le_of_ble_eq_true rfl) ?_
  refine mw_iload_n 1 rfl 0 dX10_isPrice_0 rfl rfl ?_
  refine mw_i2l 2 rfl dX10_isPrice_1 (fun y6 t7 => ?_)
  refine mw_lconst (v := 0) 3 rfl dX10_isPrice_2 (by decide) ?_
  refine mw_ldc2 6 rfl dX10_isPrice_3 ck_X10_430 ?_
  refine mw_callSi [.long y6, .long (0), .long (999)] [] 9 rfl dX10_isPrice_6 ml_X10_154 mc_X10_lies mk_X10_lies (w_eX10_lies l G (d + 0) ⟨by omega, by omega⟩ hI0 y6 (0) (999)) rfl rfl (Nat.le_of_ble_eq_true rfl) (mh_rok (by omega) (by decide)) (fun x8 s9 q10 => ?_)
  obtain ⟨r_x8, E_s9, e0_s9, rfl⟩ := q10
  have f_x8 : x8.toInt = 1 ↔ (0 ≤ p0.toInt ∧ p0.toInt ≤ 999) := by rw [e0_s9]; exact by simp only [t7, Int32.toInt_toInt64]; first | done | exact Iff.rfl
  refine mw_zret dX10_isPrice_9 rfl r_x8 ⟨x8, rfl, ⟨r_x8, (mh_lbT t7 (mh_lbS E_s9 rfl)), ?_, rfl⟩⟩
  · skip
    have := (r_x8).1; have := (r_x8).2
    have := kc_0
    have := kc_1
    omega

def f_eX10_isWithin (s0 : mh_H) (p0 : Int32) (p1 : Int32) (p2 : Int32) : Int32 := mh_lb (p0 - p1) (fun x14 => mh_lb (Int32.toInt64 x14) (fun y16 => mh_lb (-p2) (fun x18 => mh_lb (Int32.toInt64 x18) (fun y20 => mh_lb (Int32.toInt64 p2) (fun y22 => mh_lb (f_eX10_lies s0 y16 y20 y22) (fun x24 => x24))))))
def P_eX10_isWithin (B D : Int) (s0 : mh_H) (p0 : Int32) (p1 : Int32) (p2 : Int32) : Int32 → mh_H → Prop := fun z s => mh_r z (0) (1) ∧ f_eX10_isWithin s0 p0 p1 p2 = z ∧ s0 = s
set_option maxRecDepth 100000 in
set_option maxHeartbeats 4000000 in
theorem w_eX10_isWithin (l : Launch) (G : mh_G) (d : Nat) {B D : Int} (hB : B ≤ 1980000000 ∧ D ≤ 1980000000) {s0 : mh_H} (hI0 : mh_I B D s0) (p0 : Int32) (p1 : Int32) (p2 : Int32) : mh_Mi l G (d + 1) mM_X10_isWithin [.int p0, .int p1, .int p2] s0 (P_eX10_isWithin B D s0 p0 p1 p2) := by
  refine mh_enter (lv := [(0, .int p0), (1, .int p1), (2, .int p2)]) (by decide) rfl (Nat.le_of_ble_eq_true rfl) ?_
  refine mw_iload_n 1 rfl 0 dX10_isWithin_0 rfl rfl ?_
  refine mw_iload_n 2 rfl 1 dX10_isWithin_1 rfl rfl ?_
  refine mw_isub_u 3 rfl dX10_isWithin_2 (fun x14 t15 => ?_)
  refine mw_i2l 4 rfl dX10_isWithin_3 (fun y16 t17 => ?_)
  refine mw_iload_n 5 rfl 2 dX10_isWithin_4 rfl rfl ?_
  refine mw_ineg 6 rfl dX10_isWithin_5 (fun x18 t19 => ?_)
  refine mw_i2l 7 rfl dX10_isWithin_6 (fun y20 t21 => ?_)
  refine mw_iload_n 8 rfl 2 dX10_isWithin_7 rfl rfl ?_
  refine mw_i2l 9 rfl dX10_isWithin_8 (fun y22 t23 => ?_)
  refine mw_callSi [.long y16, .long y20, .long y22] [] 12 rfl dX10_isWithin_9 ml_X10_154 mc_X10_lies mk_X10_lies (w_eX10_lies l G (d + 0) ⟨by omega, by omega⟩ hI0 y16 y20 y22) rfl rfl (Nat.le_of_ble_eq_true rfl) (mh_rok (by omega) (by decide)) (fun x24 s25 q26 => ?_)
  obtain ⟨r_x24, E_s25, e0_s25, rfl⟩ := q26
  have f_x24 : x24.toInt = 1 ↔ (x18.toInt ≤ x14.toInt ∧ x14.toInt ≤ p2.toInt) := by rw [e0_s25]; exact by simp only [t17, t21, t23, Int32.toInt_toInt64]; first | done | exact Iff.rfl
  exact mw_zret dX10_isWithin_12 rfl r_x24 ⟨x24, rfl, ⟨r_x24, (mh_lbT t15 (mh_lbT t17 (mh_lbT t19 (mh_lbT t21 (mh_lbT t23 (mh_lbS E_s25 rfl)))))), rfl⟩⟩

def j_eX3_cost_14_1 (p2 : Int32) (p3 : Int32) (p4 : Int32) (x10 : Int32) : Int32 := if x10.toInt = p2.toInt then (0 : Int32) else if x10.toInt = 0 then p4 else p3
def f_eX3_cost (s0 : mh_H) (p1 : Int32) (p2 : Int32) (p3 : Int32) (p4 : Int32) : Int32 := mh_lb (s0.1 33 p1.toNatClampNeg) (fun x7 => if 0 < x7.toInt then (j_eX3_cost_14_1 p2 p3 p4 (1 : Int32)) else (j_eX3_cost_14_1 p2 p3 p4 (0 : Int32)))
def P_eX3_cost (B D : Int) (s0 : mh_H) (p1 : Int32) (p2 : Int32) (p3 : Int32) (p4 : Int32) : Int32 → mh_H → Prop := fun z s => mh_r z (-2147483648) (2147483647) ∧ f_eX3_cost s0 p1 p2 p3 p4 = z ∧ s0 = s
set_option maxRecDepth 100000 in
set_option maxHeartbeats 4000000 in
theorem w_eX3_cost (l : Launch) (G : mh_G) (d : Nat) {B D : Int} (hB : B ≤ 2000000000 ∧ D ≤ 2000000000) {s0 : mh_H} (hI0 : mh_I B D s0) (p1 : Int32) (r_p1 : mh_r p1 (0) (59)) (p2 : Int32) (r_p2 : mh_r p2 (0) (1)) (p3 : Int32) (p4 : Int32) : mh_Mi l G (d + 0) mM_X3_cost [.ref (G.2.2.2 29), .int p1, .int p2, .int p3, .int p4] s0 (P_eX3_cost B D s0 p1 p2 p3 p4) := by
  refine mh_enter (lv := [(0, .ref (G.2.2.2 29)), (1, .int p1), (2, .int p2), (3, .int p3), (4, .int p4)]) (by decide) rfl (Nat.le_of_ble_eq_true rfl) ?_
  refine mw_aload_n 1 rfl 0 dX3_cost_0 rfl rfl ?_
  refine mw_geta 4 rfl dX3_cost_1 gf_X3_21 rfl 33 (mh_rf hI0 36 rfl) ?_
  refine mw_iload_n 5 rfl 1 dX3_cost_4 rfl rfl ?_
  refine mw_iald 6 rfl dX3_cost_5 rfl r_p1 (by decide) (fun x7 t8 => ?_)
  have J14 : ∀ (x10 : Int32), mh_r x10 (0) (1) → (f_eX3_cost s0 p1 p2 p3 p4 = j_eX3_cost_14_1 p2 p3 p4 x10) → mh_W G (mh_XM l G (d + 0) (mh_Qi (P_eX3_cost B D s0 p1 p2 p3 p4))) mM_X3_cost 14 [(0, .ref (G.2.2.2 29)), (1, .int p1), (2, .int p2), (3, .int p3), (4, .int p4)] [.int x10] s0 := by
    intro x10 r_x10 hE1
    refine mw_istore 16 rfl [(5, .int x10), (0, .ref (G.2.2.2 29)), (1, .int p1), (2, .int p2), (3, .int p3), (4, .int p4)] dX3_cost_14  (by decide) rfl ?_
    refine mw_iload 18 rfl 0 dX3_cost_16  rfl ?_
    refine mw_iload_n 19 rfl 3 dX3_cost_18 rfl rfl ?_
    refine mw_icmp_ne 22 rfl 24 dX3_cost_19 (by decide) (fun c13 => ?_) (fun c13 => ?_)
    · skip
      refine mw_iload 26 rfl 0 dX3_cost_24  rfl ?_
      refine mw_if_eq 29 rfl 33 dX3_cost_26 (by decide) (fun c14 => ?_) (fun c14 => ?_)
      · skip
        have r_x10 : mh_r x10 (0) (0) := mh_eq1 (show x10.toInt = (0 : Int32).toInt from c14) r_x10 rc_0 (0) (0) (by decide)
        refine mw_iload 35 rfl 5 dX3_cost_33  rfl ?_
        exact mw_iret dX3_cost_35 rfl ⟨p4, rfl, ⟨(mh_r_full p4), (Eq.trans hE1 (mh_ifF c13 (mh_ifT c14 rfl))), rfl⟩⟩
      · skip
        have r_x10 : mh_r x10 (1) (1) := mh_ne1 (show x10.toInt ≠ (0 : Int32).toInt from c14) r_x10 rc_0 (1) (1) (by decide)
        refine mw_iload_n 30 rfl 4 dX3_cost_29 rfl rfl ?_
        refine mw_goto 33 rfl 35 dX3_cost_30 (by decide) ?_
        exact mw_iret dX3_cost_35 rfl ⟨p3, rfl, ⟨(mh_r_full p3), (Eq.trans hE1 (mh_ifF c13 (mh_ifF c14 rfl))), rfl⟩⟩
    · skip
      refine mw_iconst (v := 0) 23 rfl dX3_cost_22 (by decide) ?_
      exact mw_iret dX3_cost_23 rfl ⟨(0), rfl, ⟨(mh_r_wk rc_0 (by decide)), (Eq.trans hE1 (mh_ifT c13 rfl)), rfl⟩⟩
  refine mw_if_le 9 rfl 13 dX3_cost_6 (by decide) (fun c15 => ?_) (fun c15 => ?_)
  · skip
    have r_x7 : mh_r x7 (-2147483648) (0) := mh_le1 (show x7.toInt ≤ (0 : Int32).toInt from c15) (mh_r_full x7) rc_0 (0) (by decide)
    refine mw_iconst (v := 0) 14 rfl dX3_cost_13 (by decide) ?_
    exact mw_lv [0, 1, 2, 3, 4] rfl (J14 (0) (mh_r_wk rc_0 (by decide)) (mh_lbT t8 (mh_ifF (Int.not_lt.mpr c15) rfl)))
  · skip
    have r_x7 : mh_r x7 (1) (2147483647) := mh_lt2 (show (0 : Int32).toInt < x7.toInt from c15) rc_0 (mh_r_full x7) (1) (by decide)
    refine mw_iconst (v := 1) 10 rfl dX3_cost_9 (by decide) ?_
    refine mw_goto 13 rfl 14 dX3_cost_10 (by decide) ?_
    exact mw_lv [0, 1, 2, 3, 4] rfl (J14 (1) (mh_r_wk rc_1 (by decide)) (mh_lbT t8 (mh_ifT c15 rfl)))

def f_eX3_eveningNumber (s0 : mh_H) (p1 : Int32) (p2 : Int32) : Int32 := if p2.toInt = 0 then mh_lb (s0.1 30 p1.toNatClampNeg) (fun x15 => x15) else if p2.toInt = (1 : Int32).toInt then mh_lb (s0.1 31 p1.toNatClampNeg) (fun x13 => x13) else mh_lb (s0.1 32 p1.toNatClampNeg) (fun x11 => x11)
def P_eX3_eveningNumber (B D : Int) (s0 : mh_H) (p1 : Int32) (p2 : Int32) : Int32 → mh_H → Prop := fun z s => mh_r z (-2147483648) (2147483647) ∧ f_eX3_eveningNumber s0 p1 p2 = z ∧ s0 = s
set_option maxRecDepth 100000 in
set_option maxHeartbeats 4000000 in
theorem w_eX3_eveningNumber (l : Launch) (G : mh_G) (d : Nat) {B D : Int} (hB : B ≤ 2000000000 ∧ D ≤ 2000000000) {s0 : mh_H} (hI0 : mh_I B D s0) (p1 : Int32) (r_p1 : mh_r p1 (0) (59)) (p2 : Int32) : mh_Mi l G (d + 0) mM_X3_eveningNumber [.ref (G.2.2.2 29), .int p1, .int p2] s0 (P_eX3_eveningNumber B D s0 p1 p2) := by
  refine mh_enter (lv := [(0, .ref (G.2.2.2 29)), (1, .int p1), (2, .int p2)]) (by decide) rfl (Nat.le_of_ble_eq_true rfl) ?_
  refine mw_iload_n 1 rfl 2 dX3_eveningNumber_0 rfl rfl ?_
  refine mw_if_ne 4 rfl 11 dX3_eveningNumber_1 (by decide) (fun c9 => ?_) (fun c9 => ?_)
  · skip
    refine mw_iload_n 12 rfl 2 dX3_eveningNumber_11 rfl rfl ?_
    refine mw_iconst (v := 1) 13 rfl dX3_eveningNumber_12 (by decide) ?_
    refine mw_icmp_ne 16 rfl 25 dX3_eveningNumber_13 (by decide) (fun c10 => ?_) (fun c10 => ?_)
    · skip
      refine mw_aload_n 26 rfl 0 dX3_eveningNumber_25 rfl rfl ?_
      refine mw_geta 29 rfl dX3_eveningNumber_26 gf_X3_18 rfl 32 (mh_rf hI0 35 rfl) ?_
      refine mw_iload_n 30 rfl 1 dX3_eveningNumber_29 rfl rfl ?_
      refine mw_iald 31 rfl dX3_eveningNumber_30 rfl r_p1 (by decide) (fun x11 t12 => ?_)
      exact mw_iret dX3_eveningNumber_31 rfl ⟨x11, rfl, ⟨(mh_r_full x11), (mh_ifF c9 (mh_ifF c10 (mh_lbT t12 rfl))), rfl⟩⟩
    · skip
      have r_p2 : mh_r p2 (1) (1) := mh_eq1 c10 (mh_r_full p2) rc_1 (1) (1) (by decide)
      refine mw_aload_n 17 rfl 0 dX3_eveningNumber_16 rfl rfl ?_
      refine mw_geta 20 rfl dX3_eveningNumber_17 gf_X3_15 rfl 31 (mh_rf hI0 34 rfl) ?_
      refine mw_iload_n 21 rfl 1 dX3_eveningNumber_20 rfl rfl ?_
      refine mw_iald 22 rfl dX3_eveningNumber_21 rfl r_p1 (by decide) (fun x13 t14 => ?_)
      refine mw_goto 25 rfl 31 dX3_eveningNumber_22 (by decide) ?_
      exact mw_iret dX3_eveningNumber_31 rfl ⟨x13, rfl, ⟨(mh_r_full x13), (mh_ifF c9 (mh_ifT c10 (mh_lbT t14 rfl))), rfl⟩⟩
  · skip
    have r_p2 : mh_r p2 (0) (0) := mh_eq1 (show p2.toInt = (0 : Int32).toInt from c9) (mh_r_full p2) rc_0 (0) (0) (by decide)
    refine mw_aload_n 5 rfl 0 dX3_eveningNumber_4 rfl rfl ?_
    refine mw_geta 8 rfl dX3_eveningNumber_5 gf_X3_9 rfl 30 (mh_rf hI0 33 rfl) ?_
    refine mw_iload_n 9 rfl 1 dX3_eveningNumber_8 rfl rfl ?_
    refine mw_iald 10 rfl dX3_eveningNumber_9 rfl r_p1 (by decide) (fun x15 t16 => ?_)
    exact mw_iret dX3_eveningNumber_10 rfl ⟨x15, rfl, ⟨(mh_r_full x15), (mh_ifT c9 (mh_lbT t16 rfl)), rfl⟩⟩

def j_eX3_lineCost_38_2 (lo_6_1 : Int32 → Int32 → Int32) (s0 : mh_H) (p3 : Int32) (p4 : Int32) (x285 : Int32) (x286 : Int32) (x313 : Int32) : Int32 := mh_lb (f_eX3_cost s0 x285 x313 p3 p4) (fun x321 => mh_lb (x286 + x321) (fun x324 => mh_lb (x285 + (1 : Int32)) (fun x326 => (lo_6_1 x326 x324))))
def ls_eX3_lineCost_6_1 (s0 : mh_H) (p1 : Int32) (p2 : Int32) (p3 : Int32) (p4 : Int32) (lo_6_1 : Int32 → Int32 → Int32) (x285 : Int32) (x286 : Int32) : Int32 := mh_lb (s0.1 29 5) (fun x305 => if x285.toInt < x305.toInt then mh_lb (f_eX3_eveningNumber s0 x285 p1) (fun x309 => if x309.toInt < p2.toInt then (j_eX3_lineCost_38_2 lo_6_1 s0 p3 p4 x285 x286 (0 : Int32)) else (j_eX3_lineCost_38_2 lo_6_1 s0 p3 p4 x285 x286 (1 : Int32))) else x286)
def l_eX3_lineCost_6_1 (s0 : mh_H) (p1 : Int32) (p2 : Int32) (p3 : Int32) (p4 : Int32) : Nat → Int32 → Int32 → Int32
  | 0 => fun _ _ => 0
  | n + 1 => ls_eX3_lineCost_6_1 s0 p1 p2 p3 p4 (l_eX3_lineCost_6_1 s0 p1 p2 p3 p4 n)
theorem l_eX3_lineCost_6_1_s (s0 : mh_H) (p1 : Int32) (p2 : Int32) (p3 : Int32) (p4 : Int32) (n : Nat) : l_eX3_lineCost_6_1 s0 p1 p2 p3 p4 (n + 1) = ls_eX3_lineCost_6_1 s0 p1 p2 p3 p4 (l_eX3_lineCost_6_1 s0 p1 p2 p3 p4 n) := rfl
def f_eX3_lineCost (s0 : mh_H) (p1 : Int32) (p2 : Int32) (p3 : Int32) (p4 : Int32) : Int32 := (l_eX3_lineCost_6_1 s0 p1 p2 p3 p4 61 (0 : Int32) (0 : Int32))
def P_eX3_lineCost (B D : Int) (s0 : mh_H) (p1 : Int32) (p2 : Int32) (p3 : Int32) (p4 : Int32) : Int32 → mh_H → Prop := fun z s => mh_r z (-2147483648) (2147483647) ∧ f_eX3_lineCost s0 p1 p2 p3 p4 = z ∧ s0 = s
set_option maxRecDepth 100000 in
set_option maxHeartbeats 4000000 in
theorem w_eX3_lineCost (l : Launch) (G : mh_G) (d : Nat) {B D : Int} (hB : B ≤ 1980000000 ∧ D ≤ 1980000000) {s0 : mh_H} (hI0 : mh_I B D s0) (p1 : Int32) (p2 : Int32) (p3 : Int32) (p4 : Int32) : mh_Mi l G (d + 1) mM_X3_lineCost [.ref (G.2.2.2 29), .int p1, .int p2, .int p3, .int p4] s0 (P_eX3_lineCost B D s0 p1 p2 p3 p4) := by
  refine mh_enter (lv := [(0, .ref (G.2.2.2 29)), (1, .int p1), (2, .int p2), (3, .int p3), (4, .int p4)]) (by decide) rfl (Nat.le_of_ble_eq_true rfl) ?_
  refine mw_iconst (v := 0) 1 rfl dX3_lineCost_0 (by decide) ?_
  refine mw_istore 3 rfl [(5, .int (0)), (0, .ref (G.2.2.2 29)), (1, .int p1), (2, .int p2), (3, .int p3), (4, .int p4)] dX3_lineCost_1  (by decide) rfl ?_
  refine mw_iconst (v := 0) 4 rfl dX3_lineCost_3 (by decide) ?_
  refine mw_istore 6 rfl [(6, .int (0)), (5, .int (0)), (0, .ref (G.2.2.2 29)), (1, .int p1), (2, .int p2), (3, .int p3), (4, .int p4)] dX3_lineCost_4  (by decide) rfl ?_
  have L6 : ∀ n1 : Nat, ∀ (x285 : Int32) (x286 : Int32), mh_r x285 (0) (60) → (f_eX3_lineCost s0 p1 p2 p3 p4 = l_eX3_lineCost_6_1 s0 p1 p2 p3 p4 n1 x285 x286) → (60) - x285.toInt < (n1 : Int) → mh_W G (mh_XM l G (d + 1) (mh_Qi (P_eX3_lineCost B D s0 p1 p2 p3 p4))) mM_X3_lineCost 6 [(0, .ref (G.2.2.2 29)), (1, .int p1), (2, .int p2), (3, .int p3), (4, .int p4), (5, .int x286), (6, .int x285)] [] s0 := by
    intro n1
    induction n1 with
    | zero =>
      intro x285 x286 r_x285 hE1 hmn1
      exact absurd hmn1 (by have := r_x285.1; have := r_x285.2; omega)
    | succ n1 ihn1 =>
      intro x285 x286 r_x285 hE1 hmn1
      rw [l_eX3_lineCost_6_1_s] at hE1
      refine mw_iload 8 rfl 6 dX3_lineCost_6  rfl ?_
      refine mw_aload_n 9 rfl 0 dX3_lineCost_8 rfl rfl ?_
      refine mw_geti 12 rfl dX3_lineCost_9 gf_X3_27 rfl (fun x305 t306 => ?_)
      have r_x305 : mh_r x305 (0) (60) := by rw [t306]; exact rd_29_5 hI0
      refine mw_icmp_ge 15 rfl 62 dX3_lineCost_12 (by decide) (fun c307 => ?_) (fun c307 => ?_)
      · skip
        refine mw_iload 64 rfl 5 dX3_lineCost_62  rfl ?_
        exact mw_iret dX3_lineCost_64 rfl ⟨x286, rfl, ⟨(mh_r_full x286), (Eq.trans hE1 (mh_lbT t306 (mh_ifF (Int.not_lt.mpr c307) rfl))), rfl⟩⟩
      · skip
        have r_x285 : mh_r x285 (0) (59) := mh_lt1 c307 r_x285 r_x305 (59) (by decide)
        have r_x305 : mh_r x305 (1) (60) := mh_lt2 c307 r_x285 r_x305 (1) (by decide)
        refine mw_iload 17 rfl 6 dX3_lineCost_15  rfl ?_
        refine mw_bipush (v := 60) 19 rfl dX3_lineCost_17 (by decide) ?_
        refine mw_icmp_ge 22 rfl 62 dX3_lineCost_19 (by decide) (fun c308 => ?_) (fun c308 => ?_)
        · skip
          exact (mh_nle c308 rc_60 r_x285 (by decide)).elim
        · skip
          refine mw_aload_n 23 rfl 0 dX3_lineCost_22 rfl rfl ?_
          refine mw_iload 25 rfl 6 dX3_lineCost_23  rfl ?_
          refine mw_iload_n 26 rfl 1 dX3_lineCost_25 rfl rfl ?_
          refine mw_callVi [.int x285, .int p1] [] 29 rfl dX3_lineCost_26 ml_X3_31 mc_X3_eveningNumber mk_X3_eveningNumber rfl rfl (by decide) (w_eX3_eveningNumber l G (d + 0) ⟨by omega, by omega⟩ hI0 x285 r_x285 p1) rfl rfl (Nat.le_of_ble_eq_true rfl) (mh_rok (by omega) (by decide)) (fun x309 s310 q311 => ?_)
          obtain ⟨r_x309, E_s310, rfl⟩ := q311
          refine mw_iload_n 30 rfl 2 dX3_lineCost_29 rfl rfl ?_
          have J38 : ∀ (x313 : Int32), mh_r x313 (0) (1) → (f_eX3_lineCost s0 p1 p2 p3 p4 = j_eX3_lineCost_38_2 (l_eX3_lineCost_6_1 s0 p1 p2 p3 p4 n1) s0 p3 p4 x285 x286 x313) → mh_W G (mh_XM l G (d + 1) (mh_Qi (P_eX3_lineCost B D s0 p1 p2 p3 p4))) mM_X3_lineCost 38 [(0, .ref (G.2.2.2 29)), (1, .int p1), (2, .int p2), (3, .int p3), (4, .int p4), (5, .int x286), (6, .int x285)] [.int x313] s0 := by
            intro x313 r_x313 hE2
            refine mw_istore 40 rfl [(7, .int x313), (0, .ref (G.2.2.2 29)), (1, .int p1), (2, .int p2), (3, .int p3), (4, .int p4), (5, .int x286), (6, .int x285)] dX3_lineCost_38  (by decide) rfl ?_
            refine mw_iload 42 rfl 6 dX3_lineCost_40  rfl ?_
            refine mw_aload_n 43 rfl 1 dX3_lineCost_42 rfl rfl ?_
            refine mw_iload 45 rfl 7 dX3_lineCost_43  rfl ?_
            refine mw_iload 47 rfl 0 dX3_lineCost_45  rfl ?_
            refine mw_iload_n 48 rfl 4 dX3_lineCost_47 rfl rfl ?_
            refine mw_iload 50 rfl 5 dX3_lineCost_48  rfl ?_
            refine mw_callVi [.int x285, .int x313, .int p3, .int p4] [.int x286] 53 rfl dX3_lineCost_50 ml_X3_35 mc_X3_cost mk_X3_cost rfl rfl (by decide) (w_eX3_cost l G (d + 0) ⟨by omega, by omega⟩ hI0 x285 r_x285 x313 r_x313 p3 p4) rfl rfl (Nat.le_of_ble_eq_true rfl) (mh_rok (by omega) (by decide)) (fun x321 s322 q323 => ?_)
            obtain ⟨r_x321, E_s322, rfl⟩ := q323
            refine mw_iadd_u 54 rfl dX3_lineCost_53 (fun x324 t325 => ?_)
            refine mw_istore 56 rfl [(5, .int x324), (7, .int x313), (0, .ref (G.2.2.2 29)), (1, .int p1), (2, .int p2), (3, .int p3), (4, .int p4), (6, .int x285)] dX3_lineCost_54  (by decide) rfl ?_
            refine mw_iincR (k := 7) (1) (60) 59 rfl (fun z => [(6, .int z), (5, .int x324), (7, .int x313), (0, .ref (G.2.2.2 29)), (1, .int p1), (2, .int p2), (3, .int p3), (4, .int p4)]) dX3_lineCost_56 rfl (by decide) (fun _ => rfl) r_x285 (by decide) (by decide) (fun x326 t327 r_x326 => ?_)
            refine mw_goto 62 rfl 6 dX3_lineCost_59 (by decide) ?_
            exact mw_lv [3, 4, 5, 6, 7, 1, 0] rfl (ihn1 x326 x324 (mh_r_wk r_x326 (by decide)) (Eq.trans hE2 (mh_lbS E_s322 (mh_lbT t325 (mh_lbT (mh_einc t327 rfl) rfl)))) (by have : x326.toInt = x285.toInt + (1) := t327; omega))
          refine mw_icmp_lt 33 rfl 37 dX3_lineCost_30 (by decide) (fun c328 => ?_) (fun c328 => ?_)
          · skip
            have r_x309 : mh_r x309 (-2147483648) (2147483646) := mh_lt1 c328 r_x309 (mh_r_full p2) (2147483646) (by decide)
            have r_p2 : mh_r p2 (-2147483647) (2147483647) := mh_lt2 c328 r_x309 (mh_r_full p2) (-2147483647) (by decide)
            refine mw_iconst (v := 0) 38 rfl dX3_lineCost_37 (by decide) ?_
            exact mw_lv [0, 1, 2, 3, 4, 5, 6] rfl (J38 (0) (mh_r_wk rc_0 (by decide)) (Eq.trans hE1 (mh_lbT t306 (mh_ifT c307 (mh_lbS E_s310 (mh_ifT c328 rfl))))))
          · skip
            refine mw_iconst (v := 1) 34 rfl dX3_lineCost_33 (by decide) ?_
            refine mw_goto 37 rfl 38 dX3_lineCost_34 (by decide) ?_
            exact mw_lv [0, 1, 2, 3, 4, 5, 6] rfl (J38 (1) (mh_r_wk rc_1 (by decide)) (Eq.trans hE1 (mh_lbT t306 (mh_ifT c307 (mh_lbS E_s310 (mh_ifF (Int.not_lt.mpr c328) rfl))))))
  exact mw_lv [2, 3, 4, 5, 6, 1, 0] rfl (L6 61 (0) (0) (mh_r_wk rc_0 (by decide)) (rfl) (by have := (rc_0).1; have := (rc_0).2; omega))

def j_eX3_bestLine_43_2 (lo_10_1 : Int32 → Int32 → Int32 → Int32) (x231 : Int32) (x251 : Int32) (x252 : Int32) : Int32 := mh_lb (x231 + (1 : Int32)) (fun x255 => (lo_10_1 x255 x252 x251))
def ls_eX3_bestLine_10_1 (s0 : mh_H) (p1 : Int32) (p2 : Int32) (p3 : Int32) (lo_10_1 : Int32 → Int32 → Int32 → Int32) (x231 : Int32) (x232 : Int32) (x233 : Int32) : Int32 := if (100 : Int32).toInt < x231.toInt then x233 else mh_lb (f_eX3_lineCost s0 p1 x231 p2 p3) (fun x247 => if x247.toInt < x232.toInt then (j_eX3_bestLine_43_2 lo_10_1 x231 x231 x247) else (j_eX3_bestLine_43_2 lo_10_1 x231 x233 x232))
def l_eX3_bestLine_10_1 (s0 : mh_H) (p1 : Int32) (p2 : Int32) (p3 : Int32) : Nat → Int32 → Int32 → Int32 → Int32
  | 0 => fun _ _ _ => 0
  | n + 1 => ls_eX3_bestLine_10_1 s0 p1 p2 p3 (l_eX3_bestLine_10_1 s0 p1 p2 p3 n)
theorem l_eX3_bestLine_10_1_s (s0 : mh_H) (p1 : Int32) (p2 : Int32) (p3 : Int32) (n : Nat) : l_eX3_bestLine_10_1 s0 p1 p2 p3 (n + 1) = ls_eX3_bestLine_10_1 s0 p1 p2 p3 (l_eX3_bestLine_10_1 s0 p1 p2 p3 n) := rfl
def f_eX3_bestLine (s0 : mh_H) (p1 : Int32) (p2 : Int32) (p3 : Int32) : Int32 := (l_eX3_bestLine_10_1 s0 p1 p2 p3 102 (0 : Int32) (2147483647 : Int32) (0 : Int32))
def P_eX3_bestLine (B D : Int) (s0 : mh_H) (p1 : Int32) (p2 : Int32) (p3 : Int32) : Int32 → mh_H → Prop := fun z s => mh_r z (0) (100) ∧ f_eX3_bestLine s0 p1 p2 p3 = z ∧ s0 = s
set_option maxRecDepth 100000 in
set_option maxHeartbeats 4000000 in
theorem w_eX3_bestLine (l : Launch) (G : mh_G) (d : Nat) {B D : Int} (hB : B ≤ 1960000000 ∧ D ≤ 1960000000) {s0 : mh_H} (hI0 : mh_I B D s0) (p1 : Int32) (p2 : Int32) (p3 : Int32) : mh_Mi l G (d + 2) mM_X3_bestLine [.ref (G.2.2.2 29), .int p1, .int p2, .int p3] s0 (P_eX3_bestLine B D s0 p1 p2 p3) := by
  refine mh_enter (lv := [(0, .ref (G.2.2.2 29)), (1, .int p1), (2, .int p2), (3, .int p3)]) (by decide) rfl (Nat.le_of_ble_eq_true rfl) ?_
  refine mw_iconst (v := 0) 1 rfl dX3_bestLine_0 (by decide) ?_
  refine mw_istore 3 rfl [(4, .int (0)), (0, .ref (G.2.2.2 29)), (1, .int p1), (2, .int p2), (3, .int p3)] dX3_bestLine_1  (by decide) rfl ?_
  refine mw_ldc 5 rfl dX3_bestLine_3 ck_X3_41 ?_
  refine mw_istore 7 rfl [(5, .int (2147483647)), (4, .int (0)), (0, .ref (G.2.2.2 29)), (1, .int p1), (2, .int p2), (3, .int p3)] dX3_bestLine_5  (by decide) rfl ?_
  refine mw_iconst (v := 0) 8 rfl dX3_bestLine_7 (by decide) ?_
  refine mw_istore 10 rfl [(6, .int (0)), (5, .int (2147483647)), (4, .int (0)), (0, .ref (G.2.2.2 29)), (1, .int p1), (2, .int p2), (3, .int p3)] dX3_bestLine_8  (by decide) rfl ?_
  have L10 : ∀ n1 : Nat, ∀ (x231 : Int32) (x232 : Int32) (x233 : Int32), mh_r x231 (0) (101) → mh_r x233 (0) (100) → (f_eX3_bestLine s0 p1 p2 p3 = l_eX3_bestLine_10_1 s0 p1 p2 p3 n1 x231 x232 x233) → (101) - x231.toInt < (n1 : Int) → mh_W G (mh_XM l G (d + 2) (mh_Qi (P_eX3_bestLine B D s0 p1 p2 p3))) mM_X3_bestLine 10 [(0, .ref (G.2.2.2 29)), (1, .int p1), (2, .int p2), (3, .int p3), (4, .int x233), (5, .int x232), (6, .int x231)] [] s0 := by
    intro n1
    induction n1 with
    | zero =>
      intro x231 x232 x233 r_x231 r_x233 hE1 hmn1
      exact absurd hmn1 (by have := r_x231.1; have := r_x231.2; omega)
    | succ n1 ihn1 =>
      intro x231 x232 x233 r_x231 r_x233 hE1 hmn1
      rw [l_eX3_bestLine_10_1_s] at hE1
      refine mw_iload 12 rfl 6 dX3_bestLine_10  rfl ?_
      refine mw_bipush (v := 100) 14 rfl dX3_bestLine_12 (by decide) ?_
      refine mw_icmp_gt 17 rfl 49 dX3_bestLine_14 (by decide) (fun c246 => ?_) (fun c246 => ?_)
      · skip
        have r_x231 : mh_r x231 (101) (101) := mh_lt2 c246 rc_100 r_x231 (101) (by decide)
        refine mw_iload 51 rfl 4 dX3_bestLine_49  rfl ?_
        exact mw_iret dX3_bestLine_51 rfl ⟨x233, rfl, ⟨r_x233, (Eq.trans hE1 (mh_ifT c246 rfl)), rfl⟩⟩
      · skip
        have r_x231 : mh_r x231 (0) (100) := mh_le1 c246 r_x231 rc_100 (100) (by decide)
        refine mw_aload_n 18 rfl 0 dX3_bestLine_17 rfl rfl ?_
        refine mw_iload_n 19 rfl 1 dX3_bestLine_18 rfl rfl ?_
        refine mw_iload 21 rfl 6 dX3_bestLine_19  rfl ?_
        refine mw_iload_n 22 rfl 2 dX3_bestLine_21 rfl rfl ?_
        refine mw_iload_n 23 rfl 3 dX3_bestLine_22 rfl rfl ?_
        refine mw_callVi [.int p1, .int x231, .int p2, .int p3] [] 26 rfl dX3_bestLine_23 ml_X3_42 mc_X3_lineCost mk_X3_lineCost rfl rfl (by decide) (w_eX3_lineCost l G (d + 0) ⟨by omega, by omega⟩ hI0 p1 x231 p2 p3) rfl rfl (Nat.le_of_ble_eq_true rfl) (mh_rok (by omega) (by decide)) (fun x247 s248 q249 => ?_)
        obtain ⟨r_x247, E_s248, rfl⟩ := q249
        refine mw_istore 28 rfl [(7, .int x247), (0, .ref (G.2.2.2 29)), (1, .int p1), (2, .int p2), (3, .int p3), (4, .int x233), (5, .int x232), (6, .int x231)] dX3_bestLine_26  (by decide) rfl ?_
        refine mw_iload 30 rfl 0 dX3_bestLine_28  rfl ?_
        refine mw_iload 32 rfl 6 dX3_bestLine_30  rfl ?_
        have J43 : ∀ (x251 : Int32) (x252 : Int32), mh_r x251 (0) (100) → (f_eX3_bestLine s0 p1 p2 p3 = j_eX3_bestLine_43_2 (l_eX3_bestLine_10_1 s0 p1 p2 p3 n1) x231 x251 x252) → mh_W G (mh_XM l G (d + 2) (mh_Qi (P_eX3_bestLine B D s0 p1 p2 p3))) mM_X3_bestLine 43 [(0, .ref (G.2.2.2 29)), (1, .int p1), (2, .int p2), (3, .int p3), (4, .int x251), (5, .int x252), (6, .int x231), (7, .int x247)] [] s0 := by
          intro x251 x252 r_x251 hE2
          refine mw_iincR (k := 6) (1) (101) 46 rfl (fun z => [(6, .int z), (0, .ref (G.2.2.2 29)), (1, .int p1), (2, .int p2), (3, .int p3), (4, .int x251), (5, .int x252), (7, .int x247)]) dX3_bestLine_43 rfl (by decide) (fun _ => rfl) r_x231 (by decide) (by decide) (fun x255 t256 r_x255 => ?_)
          refine mw_goto 49 rfl 10 dX3_bestLine_46 (by decide) ?_
          exact mw_lv [1, 2, 3, 4, 5, 6, 0] rfl (ihn1 x255 x252 x251 (mh_r_wk r_x255 (by decide)) r_x251 (Eq.trans hE2 (mh_lbT (mh_einc t256 rfl) rfl)) (by have : x255.toInt = x231.toInt + (1) := t256; omega))
        refine mw_icmp_ge 35 rfl 43 dX3_bestLine_32 (by decide) (fun c257 => ?_) (fun c257 => ?_)
        · skip
          exact mw_lv [1, 2, 3, 4, 5, 6, 7, 0] rfl (J43 x233 x232 r_x233 (Eq.trans hE1 (mh_ifF (Int.not_lt.mpr c246) (mh_lbS E_s248 (mh_ifF (Int.not_lt.mpr c257) rfl)))))
        · skip
          have r_x247 : mh_r x247 (-2147483648) (2147483646) := mh_lt1 c257 r_x247 (mh_r_full x232) (2147483646) (by decide)
          have r_x232 : mh_r x232 (-2147483647) (2147483647) := mh_lt2 c257 r_x247 (mh_r_full x232) (-2147483647) (by decide)
          refine mw_iload 37 rfl 7 dX3_bestLine_35  rfl ?_
          refine mw_istore 39 rfl [(4, .int x231), (7, .int x247), (0, .ref (G.2.2.2 29)), (1, .int p1), (2, .int p2), (3, .int p3), (5, .int x232), (6, .int x231)] dX3_bestLine_37  (by decide) rfl ?_
          refine mw_iload 41 rfl 1 dX3_bestLine_39  rfl ?_
          refine mw_istore 43 rfl [(5, .int x247), (4, .int x231), (7, .int x247), (0, .ref (G.2.2.2 29)), (1, .int p1), (2, .int p2), (3, .int p3), (6, .int x231)] dX3_bestLine_41  (by decide) rfl ?_
          exact mw_lv [3, 4, 5, 6, 1, 0, 7, 2] rfl (J43 x231 x247 r_x231 (Eq.trans hE1 (mh_ifF (Int.not_lt.mpr c246) (mh_lbS E_s248 (mh_ifT c257 rfl)))))
  exact mw_lv [3, 4, 5, 6, 2, 1, 0] rfl (L10 102 (0) (2147483647) (0) (mh_r_wk rc_0 (by decide)) (mh_r_wk rc_0 (by decide)) (rfl) (by have := (rc_0).1; have := (rc_0).2; omega))

def f_eX3_isAlike (s0 : mh_H) (p1 : Int32) (p2 : Int32) (p3 : Int32) (p4 : Int32) (p5 : Int32) : Int32 := mh_lb (s0.1 30 p1.toNatClampNeg) (fun x22 => mh_lb (x22 - p2) (fun x24 => mh_lb (mh_ab32 x24) (fun x26 => if p5.toInt < x26.toInt then (0 : Int32) else mh_lb (s0.1 31 p1.toNatClampNeg) (fun x29 => mh_lb (x29 - p3) (fun x31 => mh_lb (mh_ab32 x31) (fun x33 => if p5.toInt < x33.toInt then (0 : Int32) else mh_lb (s0.1 32 p1.toNatClampNeg) (fun x36 => mh_lb (x36 - p4) (fun x38 => mh_lb (mh_ab32 x38) (fun x40 => if p5.toInt < x40.toInt then (0 : Int32) else (1 : Int32))))))))))
def P_eX3_isAlike (B D : Int) (s0 : mh_H) (p1 : Int32) (p2 : Int32) (p3 : Int32) (p4 : Int32) (p5 : Int32) : Int32 → mh_H → Prop := fun z s => mh_r z (0) (1) ∧ f_eX3_isAlike s0 p1 p2 p3 p4 p5 = z ∧ s0 = s
set_option maxRecDepth 100000 in
set_option maxHeartbeats 4000000 in
theorem w_eX3_isAlike (l : Launch) (G : mh_G) (d : Nat) {B D : Int} (hB : B ≤ 1980000000 ∧ D ≤ 1980000000) {s0 : mh_H} (hI0 : mh_I B D s0) (p1 : Int32) (r_p1 : mh_r p1 (0) (59)) (p2 : Int32) (p3 : Int32) (p4 : Int32) (p5 : Int32) : mh_Mi l G (d + 1) mM_X3_isAlike [.ref (G.2.2.2 29), .int p1, .int p2, .int p3, .int p4, .int p5] s0 (P_eX3_isAlike B D s0 p1 p2 p3 p4 p5) := by
  refine mh_enter (lv := [(0, .ref (G.2.2.2 29)), (1, .int p1), (2, .int p2), (3, .int p3), (4, .int p4), (5, .int p5)]) (by decide) rfl (Nat.le_of_ble_eq_true rfl) ?_
  refine mw_aload_n 1 rfl 0 dX3_isAlike_0 rfl rfl ?_
  refine mw_geta 4 rfl dX3_isAlike_1 gf_X3_9 rfl 30 (mh_rf hI0 33 rfl) ?_
  refine mw_iload_n 5 rfl 1 dX3_isAlike_4 rfl rfl ?_
  refine mw_iald 6 rfl dX3_isAlike_5 rfl r_p1 (by decide) (fun x22 t23 => ?_)
  refine mw_iload_n 7 rfl 2 dX3_isAlike_6 rfl rfl ?_
  refine mw_isub_u 8 rfl dX3_isAlike_7 (fun x24 t25 => ?_)
  refine mw_mabs 11 rfl dX3_isAlike_8 ml_X3_46 (mh_mr (D := d + 1) (by omega) (Nat.le_of_ble_eq_true rfl)) (fun x26 t27 => ?_)
  refine mw_iload 13 rfl 5 dX3_isAlike_11  rfl ?_
  refine mw_icmp_gt 16 rfl 53 dX3_isAlike_13 (by decide) (fun c28 => ?_) (fun c28 => ?_)
  · skip
    have r_p5 : mh_r p5 (-2147483648) (2147483646) := mh_lt1 c28 (mh_r_full p5) (mh_r_full x26) (2147483646) (by decide)
    have r_x26 : mh_r x26 (-2147483647) (2147483647) := mh_lt2 c28 r_p5 (mh_r_full x26) (-2147483647) (by decide)
    refine mw_iconst (v := 0) 54 rfl dX3_isAlike_53 (by decide) ?_
    exact mw_zret dX3_isAlike_54 rfl (mh_r_wk rc_0 (by decide)) ⟨(0), rfl, ⟨(mh_r_wk rc_0 (by decide)), (mh_lbT t23 (mh_lbT t25 (mh_lbT t27 (mh_ifT c28 rfl)))), rfl⟩⟩
  · skip
    refine mw_aload_n 17 rfl 0 dX3_isAlike_16 rfl rfl ?_
    refine mw_geta 20 rfl dX3_isAlike_17 gf_X3_15 rfl 31 (mh_rf hI0 34 rfl) ?_
    refine mw_iload_n 21 rfl 1 dX3_isAlike_20 rfl rfl ?_
    refine mw_iald 22 rfl dX3_isAlike_21 rfl r_p1 (by decide) (fun x29 t30 => ?_)
    refine mw_iload_n 23 rfl 3 dX3_isAlike_22 rfl rfl ?_
    refine mw_isub_u 24 rfl dX3_isAlike_23 (fun x31 t32 => ?_)
    refine mw_mabs 27 rfl dX3_isAlike_24 ml_X3_46 (mh_mr (D := d + 1) (by omega) (Nat.le_of_ble_eq_true rfl)) (fun x33 t34 => ?_)
    refine mw_iload 29 rfl 5 dX3_isAlike_27  rfl ?_
    refine mw_icmp_gt 32 rfl 53 dX3_isAlike_29 (by decide) (fun c35 => ?_) (fun c35 => ?_)
    · skip
      have r_p5 : mh_r p5 (-2147483648) (2147483646) := mh_lt1 c35 (mh_r_full p5) (mh_r_full x33) (2147483646) (by decide)
      have r_x33 : mh_r x33 (-2147483647) (2147483647) := mh_lt2 c35 r_p5 (mh_r_full x33) (-2147483647) (by decide)
      refine mw_iconst (v := 0) 54 rfl dX3_isAlike_53 (by decide) ?_
      exact mw_zret dX3_isAlike_54 rfl (mh_r_wk rc_0 (by decide)) ⟨(0), rfl, ⟨(mh_r_wk rc_0 (by decide)), (mh_lbT t23 (mh_lbT t25 (mh_lbT t27 (mh_ifF (Int.not_lt.mpr c28) (mh_lbT t30 (mh_lbT t32 (mh_lbT t34 (mh_ifT c35 rfl)))))))), rfl⟩⟩
    · skip
      refine mw_aload_n 33 rfl 0 dX3_isAlike_32 rfl rfl ?_
      refine mw_geta 36 rfl dX3_isAlike_33 gf_X3_18 rfl 32 (mh_rf hI0 35 rfl) ?_
      refine mw_iload_n 37 rfl 1 dX3_isAlike_36 rfl rfl ?_
      refine mw_iald 38 rfl dX3_isAlike_37 rfl r_p1 (by decide) (fun x36 t37 => ?_)
      refine mw_iload 40 rfl 4 dX3_isAlike_38  rfl ?_
      refine mw_isub_u 41 rfl dX3_isAlike_40 (fun x38 t39 => ?_)
      refine mw_mabs 44 rfl dX3_isAlike_41 ml_X3_46 (mh_mr (D := d + 1) (by omega) (Nat.le_of_ble_eq_true rfl)) (fun x40 t41 => ?_)
      refine mw_iload 46 rfl 5 dX3_isAlike_44  rfl ?_
      refine mw_icmp_gt 49 rfl 53 dX3_isAlike_46 (by decide) (fun c42 => ?_) (fun c42 => ?_)
      · skip
        have r_p5 : mh_r p5 (-2147483648) (2147483646) := mh_lt1 c42 (mh_r_full p5) (mh_r_full x40) (2147483646) (by decide)
        have r_x40 : mh_r x40 (-2147483647) (2147483647) := mh_lt2 c42 r_p5 (mh_r_full x40) (-2147483647) (by decide)
        refine mw_iconst (v := 0) 54 rfl dX3_isAlike_53 (by decide) ?_
        exact mw_zret dX3_isAlike_54 rfl (mh_r_wk rc_0 (by decide)) ⟨(0), rfl, ⟨(mh_r_wk rc_0 (by decide)), (mh_lbT t23 (mh_lbT t25 (mh_lbT t27 (mh_ifF (Int.not_lt.mpr c28) (mh_lbT t30 (mh_lbT t32 (mh_lbT t34 (mh_ifF (Int.not_lt.mpr c35) (mh_lbT t37 (mh_lbT t39 (mh_lbT t41 (mh_ifT c42 rfl)))))))))))), rfl⟩⟩
      · skip
        refine mw_iconst (v := 1) 50 rfl dX3_isAlike_49 (by decide) ?_
        refine mw_goto 53 rfl 54 dX3_isAlike_50 (by decide) ?_
        exact mw_zret dX3_isAlike_54 rfl (mh_r_wk rc_1 (by decide)) ⟨(1), rfl, ⟨(mh_r_wk rc_1 (by decide)), (mh_lbT t23 (mh_lbT t25 (mh_lbT t27 (mh_ifF (Int.not_lt.mpr c28) (mh_lbT t30 (mh_lbT t32 (mh_lbT t34 (mh_ifF (Int.not_lt.mpr c35) (mh_lbT t37 (mh_lbT t39 (mh_lbT t41 (mh_ifF (Int.not_lt.mpr c42) rfl)))))))))))), rfl⟩⟩

def j_eX3_sendCost_65_2 (lo_6_1 : Int32 → Int32 → Int32) (x413 : Int32) (x462 : Int32) : Int32 := mh_lb (x413 + (1 : Int32)) (fun x465 => (lo_6_1 x465 x462))
def j_eX3_sendCost_62_3 (lo_6_1 : Int32 → Int32 → Int32) (x413 : Int32) (x414 : Int32) (x479 : Int32) : Int32 := mh_lb (x414 + x479) (fun x482 => (j_eX3_sendCost_65_2 lo_6_1 x413 x482))
def ls_eX3_sendCost_6_1 (s0 : mh_H) (p1 : Int32) (p2 : Int32) (p3 : Int32) (lo_6_1 : Int32 → Int32 → Int32) (x413 : Int32) (x414 : Int32) : Int32 := mh_lb (s0.1 29 5) (fun x441 => if x413.toInt < x441.toInt then mh_lb (s0.1 33 x413.toNatClampNeg) (fun x445 => if 0 < x445.toInt then mh_lb (s0.1 34 x413.toNatClampNeg) (fun x468 => mh_lb (x468 - p1) (fun x470 => if 0 < x470.toInt then mh_lb (p2 * x470) (fun x489 => (j_eX3_sendCost_62_3 lo_6_1 x413 x414 x489)) else mh_lb (-x470) (fun x485 => mh_lb (p3 * x485) (fun x487 => (j_eX3_sendCost_62_3 lo_6_1 x413 x414 x487))))) else (j_eX3_sendCost_65_2 lo_6_1 x413 x414)) else x414)
def l_eX3_sendCost_6_1 (s0 : mh_H) (p1 : Int32) (p2 : Int32) (p3 : Int32) : Nat → Int32 → Int32 → Int32
  | 0 => fun _ _ => 0
  | n + 1 => ls_eX3_sendCost_6_1 s0 p1 p2 p3 (l_eX3_sendCost_6_1 s0 p1 p2 p3 n)
theorem l_eX3_sendCost_6_1_s (s0 : mh_H) (p1 : Int32) (p2 : Int32) (p3 : Int32) (n : Nat) : l_eX3_sendCost_6_1 s0 p1 p2 p3 (n + 1) = ls_eX3_sendCost_6_1 s0 p1 p2 p3 (l_eX3_sendCost_6_1 s0 p1 p2 p3 n) := rfl
def f_eX3_sendCost (s0 : mh_H) (p1 : Int32) (p2 : Int32) (p3 : Int32) : Int32 := (l_eX3_sendCost_6_1 s0 p1 p2 p3 61 (0 : Int32) (0 : Int32))
def P_eX3_sendCost (B D : Int) (s0 : mh_H) (p1 : Int32) (p2 : Int32) (p3 : Int32) : Int32 → mh_H → Prop := fun z s => mh_r z (-2147483648) (2147483647) ∧ f_eX3_sendCost s0 p1 p2 p3 = z ∧ s0 = s
set_option maxRecDepth 100000 in
set_option maxHeartbeats 4000000 in
theorem w_eX3_sendCost (l : Launch) (G : mh_G) (d : Nat) {B D : Int} (hB : B ≤ 2000000000 ∧ D ≤ 2000000000) {s0 : mh_H} (hI0 : mh_I B D s0) (p1 : Int32) (p2 : Int32) (p3 : Int32) : mh_Mi l G (d + 0) mM_X3_sendCost [.ref (G.2.2.2 29), .int p1, .int p2, .int p3] s0 (P_eX3_sendCost B D s0 p1 p2 p3) := by
  refine mh_enter (lv := [(0, .ref (G.2.2.2 29)), (1, .int p1), (2, .int p2), (3, .int p3)]) (by decide) rfl (Nat.le_of_ble_eq_true rfl) ?_
  refine mw_iconst (v := 0) 1 rfl dX3_sendCost_0 (by decide) ?_
  refine mw_istore 3 rfl [(4, .int (0)), (0, .ref (G.2.2.2 29)), (1, .int p1), (2, .int p2), (3, .int p3)] dX3_sendCost_1  (by decide) rfl ?_
  refine mw_iconst (v := 0) 4 rfl dX3_sendCost_3 (by decide) ?_
  refine mw_istore 6 rfl [(5, .int (0)), (4, .int (0)), (0, .ref (G.2.2.2 29)), (1, .int p1), (2, .int p2), (3, .int p3)] dX3_sendCost_4  (by decide) rfl ?_
  have L6 : ∀ n1 : Nat, ∀ (x413 : Int32) (x414 : Int32), mh_r x413 (0) (60) → (f_eX3_sendCost s0 p1 p2 p3 = l_eX3_sendCost_6_1 s0 p1 p2 p3 n1 x413 x414) → (60) - x413.toInt < (n1 : Int) → mh_W G (mh_XM l G (d + 0) (mh_Qi (P_eX3_sendCost B D s0 p1 p2 p3))) mM_X3_sendCost 6 [(0, .ref (G.2.2.2 29)), (1, .int p1), (2, .int p2), (3, .int p3), (4, .int x414), (5, .int x413)] [] s0 := by
    intro n1
    induction n1 with
    | zero =>
      intro x413 x414 r_x413 hE1 hmn1
      exact absurd hmn1 (by have := r_x413.1; have := r_x413.2; omega)
    | succ n1 ihn1 =>
      intro x413 x414 r_x413 hE1 hmn1
      rw [l_eX3_sendCost_6_1_s] at hE1
      refine mw_iload 8 rfl 5 dX3_sendCost_6  rfl ?_
      refine mw_aload_n 9 rfl 0 dX3_sendCost_8 rfl rfl ?_
      refine mw_geti 12 rfl dX3_sendCost_9 gf_X3_27 rfl (fun x441 t442 => ?_)
      have r_x441 : mh_r x441 (0) (60) := by rw [t442]; exact rd_29_5 hI0
      refine mw_icmp_ge 15 rfl 71 dX3_sendCost_12 (by decide) (fun c443 => ?_) (fun c443 => ?_)
      · skip
        refine mw_iload 73 rfl 4 dX3_sendCost_71  rfl ?_
        exact mw_iret dX3_sendCost_73 rfl ⟨x414, rfl, ⟨(mh_r_full x414), (Eq.trans hE1 (mh_lbT t442 (mh_ifF (Int.not_lt.mpr c443) rfl))), rfl⟩⟩
      · skip
        have r_x413 : mh_r x413 (0) (59) := mh_lt1 c443 r_x413 r_x441 (59) (by decide)
        have r_x441 : mh_r x441 (1) (60) := mh_lt2 c443 r_x413 r_x441 (1) (by decide)
        refine mw_iload 17 rfl 5 dX3_sendCost_15  rfl ?_
        refine mw_bipush (v := 60) 19 rfl dX3_sendCost_17 (by decide) ?_
        refine mw_icmp_ge 22 rfl 71 dX3_sendCost_19 (by decide) (fun c444 => ?_) (fun c444 => ?_)
        · skip
          exact (mh_nle c444 rc_60 r_x413 (by decide)).elim
        · skip
          refine mw_aload_n 23 rfl 0 dX3_sendCost_22 rfl rfl ?_
          refine mw_geta 26 rfl dX3_sendCost_23 gf_X3_21 rfl 33 (mh_rf hI0 36 rfl) ?_
          refine mw_iload 28 rfl 5 dX3_sendCost_26  rfl ?_
          refine mw_iald 29 rfl dX3_sendCost_28 rfl r_x413 (by decide) (fun x445 t446 => ?_)
          have J65 : ∀ (x462 : Int32), (f_eX3_sendCost s0 p1 p2 p3 = j_eX3_sendCost_65_2 (l_eX3_sendCost_6_1 s0 p1 p2 p3 n1) x413 x462) → mh_W G (mh_XM l G (d + 0) (mh_Qi (P_eX3_sendCost B D s0 p1 p2 p3))) mM_X3_sendCost 65 [(0, .ref (G.2.2.2 29)), (1, .int p1), (2, .int p2), (3, .int p3), (4, .int x462), (5, .int x413)] [] s0 := by
            intro x462 hE2
            refine mw_iincR (k := 5) (1) (60) 68 rfl (fun z => [(5, .int z), (0, .ref (G.2.2.2 29)), (1, .int p1), (2, .int p2), (3, .int p3), (4, .int x462)]) dX3_sendCost_65 rfl (by decide) (fun _ => rfl) r_x413 (by decide) (by decide) (fun x465 t466 r_x465 => ?_)
            refine mw_goto 71 rfl 6 dX3_sendCost_68 (by decide) ?_
            exact mw_lv [1, 2, 3, 4, 5, 0] rfl (ihn1 x465 x462 (mh_r_wk r_x465 (by decide)) (Eq.trans hE2 (mh_lbT (mh_einc t466 rfl) rfl)) (by have : x465.toInt = x413.toInt + (1) := t466; omega))
          refine mw_if_le 32 rfl 65 dX3_sendCost_29 (by decide) (fun c467 => ?_) (fun c467 => ?_)
          · skip
            have r_x445 : mh_r x445 (-2147483648) (0) := mh_le1 (show x445.toInt ≤ (0 : Int32).toInt from c467) (mh_r_full x445) rc_0 (0) (by decide)
            exact mw_lv [0, 1, 2, 3, 4, 5] rfl (J65 x414 (Eq.trans hE1 (mh_lbT t442 (mh_ifT c443 (mh_lbT t446 (mh_ifF (Int.not_lt.mpr c467) rfl))))))
          · skip
            have r_x445 : mh_r x445 (1) (2147483647) := mh_lt2 (show (0 : Int32).toInt < x445.toInt from c467) rc_0 (mh_r_full x445) (1) (by decide)
            refine mw_aload_n 33 rfl 0 dX3_sendCost_32 rfl rfl ?_
            refine mw_geta 36 rfl dX3_sendCost_33 gf_X3_24 rfl 34 (mh_rf hI0 37 rfl) ?_
            refine mw_iload 38 rfl 5 dX3_sendCost_36  rfl ?_
            refine mw_iald 39 rfl dX3_sendCost_38 rfl r_x413 (by decide) (fun x468 t469 => ?_)
            refine mw_iload_n 40 rfl 1 dX3_sendCost_39 rfl rfl ?_
            refine mw_isub_u 41 rfl dX3_sendCost_40 (fun x470 t471 => ?_)
            refine mw_istore 43 rfl [(6, .int x470), (0, .ref (G.2.2.2 29)), (1, .int p1), (2, .int p2), (3, .int p3), (4, .int x414), (5, .int x413)] dX3_sendCost_41  (by decide) rfl ?_
            refine mw_iload 45 rfl 5 dX3_sendCost_43  rfl ?_
            refine mw_iload 47 rfl 0 dX3_sendCost_45  rfl ?_
            have J62 : ∀ (x479 : Int32), (f_eX3_sendCost s0 p1 p2 p3 = j_eX3_sendCost_62_3 (l_eX3_sendCost_6_1 s0 p1 p2 p3 n1) x413 x414 x479) → mh_W G (mh_XM l G (d + 0) (mh_Qi (P_eX3_sendCost B D s0 p1 p2 p3))) mM_X3_sendCost 62 [(0, .ref (G.2.2.2 29)), (1, .int p1), (2, .int p2), (3, .int p3), (4, .int x414), (5, .int x413), (6, .int x470)] [.int x479, .int x414] s0 := by
              intro x479 hE3
              refine mw_iadd_u 63 rfl dX3_sendCost_62 (fun x482 t483 => ?_)
              refine mw_istore 65 rfl [(4, .int x482), (0, .ref (G.2.2.2 29)), (1, .int p1), (2, .int p2), (3, .int p3), (5, .int x413), (6, .int x470)] dX3_sendCost_63  (by decide) rfl ?_
              exact mw_lv [1, 2, 3, 4, 0, 5] rfl (J65 x482 (Eq.trans hE3 (mh_lbT t483 rfl)))
            refine mw_if_le 50 rfl 57 dX3_sendCost_47 (by decide) (fun c484 => ?_) (fun c484 => ?_)
            · skip
              have r_x470 : mh_r x470 (-2147483648) (0) := mh_le1 (show x470.toInt ≤ (0 : Int32).toInt from c484) (mh_r_full x470) rc_0 (0) (by decide)
              refine mw_iload_n 58 rfl 4 dX3_sendCost_57 rfl rfl ?_
              refine mw_iload 60 rfl 0 dX3_sendCost_58  rfl ?_
              refine mw_ineg 61 rfl dX3_sendCost_60 (fun x485 t486 => ?_)
              refine mw_imul_u 62 rfl dX3_sendCost_61 (fun x487 t488 => ?_)
              exact mw_lv [1, 2, 3, 4, 5, 6, 0] rfl (J62 x487 (Eq.trans hE1 (mh_lbT t442 (mh_ifT c443 (mh_lbT t446 (mh_ifT c467 (mh_lbT t469 (mh_lbT t471 (mh_ifF (Int.not_lt.mpr c484) (mh_lbT t486 (mh_lbT t488 rfl)))))))))))
            · skip
              have r_x470 : mh_r x470 (1) (2147483647) := mh_lt2 (show (0 : Int32).toInt < x470.toInt from c484) rc_0 (mh_r_full x470) (1) (by decide)
              refine mw_iload_n 51 rfl 3 dX3_sendCost_50 rfl rfl ?_
              refine mw_iload 53 rfl 0 dX3_sendCost_51  rfl ?_
              refine mw_imul_u 54 rfl dX3_sendCost_53 (fun x489 t490 => ?_)
              refine mw_goto 57 rfl 62 dX3_sendCost_54 (by decide) ?_
              exact mw_lv [1, 2, 3, 4, 5, 6, 0] rfl (J62 x489 (Eq.trans hE1 (mh_lbT t442 (mh_ifT c443 (mh_lbT t446 (mh_ifT c467 (mh_lbT t469 (mh_lbT t471 (mh_ifT c484 (mh_lbT t490 rfl))))))))))
  exact mw_lv [2, 3, 4, 5, 1, 0] rfl (L6 61 (0) (0) (mh_r_wk rc_0 (by decide)) (rfl) (by have := (rc_0).1; have := (rc_0).2; omega))

def S_eX9_was : List (Nat × Nat) := [(30, 9999), (31, 9999), (32, 9999), (33, 9999), (34, 9999), (29, 5)]
def f_eX9_was (s0 : mh_H) (p1 : Int32) (p2 : Int32) (p3 : Int32) (p4 : Int32) (p5 : Int32) : Int32 × mh_H := mh_lb (f_eX9_isEvening s0 p1 p2 p3) (fun x36 => if x36.toInt = 0 then ((-1 : Int32), s0) else mh_lb (f_eX9_isWithin s0 p4 (99 : Int32)) (fun x40 => if x40.toInt = 0 then ((-1 : Int32), s0) else mh_lb (f_eX9_isWithin s0 p5 (999 : Int32)) (fun x44 => if x44.toInt = 0 then ((-1 : Int32), s0) else mh_lb (s0.1 29 5) (fun x48 => if x48.toInt < (60 : Int32).toInt then mh_lb (mh_pI s0 30 x48.toNatClampNeg p1) (fun s53 => mh_lb (mh_pI s53 31 x48.toNatClampNeg p2) (fun s55 => mh_lb (mh_pI s55 32 x48.toNatClampNeg p3) (fun s57 => mh_lb (mh_pI s57 33 x48.toNatClampNeg p4) (fun s59 => mh_lb (mh_pI s59 34 x48.toNatClampNeg p5) (fun s61 => mh_lb (x48 + (1 : Int32)) (fun x70 => mh_lb (mh_pI s61 29 5 x70) (fun s72 => (x70, s72)))))))) else ((-1 : Int32), s0)))))
def P_eX9_was (B D : Int) (s0 : mh_H) (p1 : Int32) (p2 : Int32) (p3 : Int32) (p4 : Int32) (p5 : Int32) : Int32 → mh_H → Prop := fun z s => mh_r z (-1) (60) ∧ f_eX9_was s0 p1 p2 p3 p4 p5 = (z, s) ∧ mh_I B D s ∧ mh_F S_eX9_was s0 s
set_option maxRecDepth 100000 in
set_option maxHeartbeats 4000000 in
theorem w_eX9_was (l : Launch) (G : mh_G) (d : Nat) {B D : Int} (hB : B ≤ 1960000000 ∧ D ≤ 1960000000) {s0 : mh_H} (hI0 : mh_I B D s0) (p1 : Int32) (p2 : Int32) (p3 : Int32) (p4 : Int32) (p5 : Int32) : mh_Mi l G (d + 2) mM_X9_was [.ref (G.2.2.2 0), .int p1, .int p2, .int p3, .int p4, .int p5] s0 (P_eX9_was B D s0 p1 p2 p3 p4 p5) := by
  refine mh_enter (lv := [(0, .ref (G.2.2.2 0)), (1, .int p1), (2, .int p2), (3, .int p3), (4, .int p4), (5, .int p5)]) (by decide) rfl (Nat.le_of_ble_eq_true rfl) ?_
  have hF0 : mh_F S_eX9_was s0 s0 := mh_F_rf
  refine mw_iload_n 1 rfl 1 dX9_was_0 rfl rfl ?_
  refine mw_iload_n 2 rfl 2 dX9_was_1 rfl rfl ?_
  refine mw_iload_n 3 rfl 3 dX9_was_2 rfl rfl ?_
  refine mw_callSi [.int p1, .int p2, .int p3] [] 6 rfl dX9_was_3 ml_X9_232 mc_X9_isEvening mk_X9_isEvening (w_eX9_isEvening l G (d + 0) ⟨by omega, by omega⟩ hI0 p1 p2 p3) rfl rfl (Nat.le_of_ble_eq_true rfl) (mh_rok (by omega) (by decide)) (fun x36 s37 q38 => ?_)
  obtain ⟨r_x36, E_s37, e0_s37, rfl⟩ := q38
  refine mw_if_eq 9 rfl 42 dX9_was_6 (by decide) (fun c39 => ?_) (fun c39 => ?_)
  · skip
    have r_x36 : mh_r x36 (0) (0) := mh_eq1 (show x36.toInt = (0 : Int32).toInt from c39) r_x36 rc_0 (0) (0) (by decide)
    refine mw_iconst (v := -1) 43 rfl dX9_was_42 (by decide) ?_
    exact mw_iret dX9_was_43 rfl ⟨(-1), rfl, ⟨(mh_r_wk rc_m1 (by decide)), (mh_lbS E_s37 (mh_ifT c39 rfl)), hI0, hF0⟩⟩
  · skip
    have r_p1 : mh_r p1 (0) (99) := ⟨by have := e0_s37.1 (mh_z1 r_x36 c39); have := ((mh_r_full p1)).1; omega, by have := e0_s37.1 (mh_z1 r_x36 c39); have := ((mh_r_full p1)).2; omega⟩
    have r_p2 : mh_r p2 (0) (99) := ⟨by have := e0_s37.1 (mh_z1 r_x36 c39); have := ((mh_r_full p2)).1; omega, by have := e0_s37.1 (mh_z1 r_x36 c39); have := ((mh_r_full p2)).2; omega⟩
    have r_p3 : mh_r p3 (0) (99) := ⟨by have := e0_s37.1 (mh_z1 r_x36 c39); have := ((mh_r_full p3)).1; omega, by have := e0_s37.1 (mh_z1 r_x36 c39); have := ((mh_r_full p3)).2; omega⟩
    have r_x36 : mh_r x36 (1) (1) := mh_ne1 (show x36.toInt ≠ (0 : Int32).toInt from c39) r_x36 rc_0 (1) (1) (by decide)
    refine mw_iload 11 rfl 4 dX9_was_9  rfl ?_
    refine mw_bipush (v := 99) 13 rfl dX9_was_11 (by decide) ?_
    refine mw_callSi [.int p4, .int (99)] [] 16 rfl dX9_was_13 ml_X9_98 mc_X9_isWithin mk_X9_isWithin (w_eX9_isWithin l G (d + 1) ⟨by omega, by omega⟩ hI0 p4 (99)) rfl rfl (Nat.le_of_ble_eq_true rfl) (mh_rok (by omega) (by decide)) (fun x40 s41 q42 => ?_)
    obtain ⟨r_x40, E_s41, e0_s41, rfl⟩ := q42
    refine mw_if_eq 19 rfl 42 dX9_was_16 (by decide) (fun c43 => ?_) (fun c43 => ?_)
    · skip
      have r_x40 : mh_r x40 (0) (0) := mh_eq1 (show x40.toInt = (0 : Int32).toInt from c43) r_x40 rc_0 (0) (0) (by decide)
      refine mw_iconst (v := -1) 43 rfl dX9_was_42 (by decide) ?_
      exact mw_iret dX9_was_43 rfl ⟨(-1), rfl, ⟨(mh_r_wk rc_m1 (by decide)), (mh_lbS E_s37 (mh_ifF c39 (mh_lbS E_s41 (mh_ifT c43 rfl)))), hI0, hF0⟩⟩
    · skip
      have r_p4 : mh_r p4 (0) (99) := ⟨by have := e0_s41.1 (mh_z1 r_x40 c43); have := ((mh_r_full p4)).1; omega, by have := e0_s41.1 (mh_z1 r_x40 c43); have := ((mh_r_full p4)).2; have := (rc_99).2; omega⟩
      have r_x40 : mh_r x40 (1) (1) := mh_ne1 (show x40.toInt ≠ (0 : Int32).toInt from c43) r_x40 rc_0 (1) (1) (by decide)
      refine mw_iload 21 rfl 5 dX9_was_19  rfl ?_
      refine mw_sipush (v := 999) 24 rfl dX9_was_21 (by decide) ?_
      refine mw_callSi [.int p5, .int (999)] [] 27 rfl dX9_was_24 ml_X9_98 mc_X9_isWithin mk_X9_isWithin (w_eX9_isWithin l G (d + 1) ⟨by omega, by omega⟩ hI0 p5 (999)) rfl rfl (Nat.le_of_ble_eq_true rfl) (mh_rok (by omega) (by decide)) (fun x44 s45 q46 => ?_)
      obtain ⟨r_x44, E_s45, e0_s45, rfl⟩ := q46
      refine mw_if_eq 30 rfl 42 dX9_was_27 (by decide) (fun c47 => ?_) (fun c47 => ?_)
      · skip
        have r_x44 : mh_r x44 (0) (0) := mh_eq1 (show x44.toInt = (0 : Int32).toInt from c47) r_x44 rc_0 (0) (0) (by decide)
        refine mw_iconst (v := -1) 43 rfl dX9_was_42 (by decide) ?_
        exact mw_iret dX9_was_43 rfl ⟨(-1), rfl, ⟨(mh_r_wk rc_m1 (by decide)), (mh_lbS E_s37 (mh_ifF c39 (mh_lbS E_s41 (mh_ifF c43 (mh_lbS E_s45 (mh_ifT c47 rfl)))))), hI0, hF0⟩⟩
      · skip
        have r_p5 : mh_r p5 (0) (999) := ⟨by have := e0_s45.1 (mh_z1 r_x44 c47); have := ((mh_r_full p5)).1; omega, by have := e0_s45.1 (mh_z1 r_x44 c47); have := ((mh_r_full p5)).2; have := (rc_999).2; omega⟩
        have r_x44 : mh_r x44 (1) (1) := mh_ne1 (show x44.toInt ≠ (0 : Int32).toInt from c47) r_x44 rc_0 (1) (1) (by decide)
        refine mw_aload_n 31 rfl 0 dX9_was_30 rfl rfl ?_
        refine mw_geta 34 rfl dX9_was_31 gf_X9_46 rfl 29 (mh_rf hI0 6 rfl) ?_
        refine mw_geti 37 rfl dX9_was_34 gf_X9_236 rfl (fun x48 t49 => ?_)
        have r_x48 : mh_r x48 (0) (60) := by rw [t49]; exact rd_29_5 hI0
        refine mw_bipush (v := 60) 39 rfl dX9_was_37 (by decide) ?_
        refine mw_icmp_lt 42 rfl 44 dX9_was_39 (by decide) (fun c50 => ?_) (fun c50 => ?_)
        · skip
          have r_x48 : mh_r x48 (0) (59) := mh_lt1 c50 r_x48 rc_60 (59) (by decide)
          refine mw_aload_n 45 rfl 0 dX9_was_44 rfl rfl ?_
          refine mw_geta 48 rfl dX9_was_45 gf_X9_46 rfl 29 (mh_rf hI0 6 rfl) ?_
          refine mw_geti 51 rfl dX9_was_48 gf_X9_236 rfl (fun x51 t52 => ?_)
          obtain rfl : x48 = x51 := t49.trans t52.symm
          refine mw_istore 53 rfl [(6, .int x48), (0, .ref (G.2.2.2 0)), (1, .int p1), (2, .int p2), (3, .int p3), (4, .int p4), (5, .int p5)] dX9_was_51  (by decide) rfl ?_
          refine mw_aload_n 54 rfl 1 dX9_was_53 rfl rfl ?_
          refine mw_geta 57 rfl dX9_was_54 gf_X9_46 rfl 29 (mh_rf hI0 6 rfl) ?_
          refine mw_geta 60 rfl dX9_was_57 gf_X9_237 rfl 30 (mh_rf hI0 33 rfl) ?_
          refine mw_iload 62 rfl 0 dX9_was_60  rfl ?_
          refine mw_iload_n 63 rfl 2 dX9_was_62 rfl rfl ?_
          refine mw_iast 64 rfl dX9_was_63 rfl r_x48 (by decide) (fun s53 t54 => ?_)
          have hI_s53 : mh_I B D s53 := by rw [t54]; exact wr_30 hI0
          have hF_s53 : mh_F S_eX9_was s0 s53 := by rw [t54]; exact mh_F_pI hF0 (mh_si 0 rfl)
          refine mw_aload_n 65 rfl 1 dX9_was_64 rfl rfl ?_
          refine mw_geta 68 rfl dX9_was_65 gf_X9_46 rfl 29 (mh_rf hI_s53 6 rfl) ?_
          refine mw_geta 71 rfl dX9_was_68 gf_X9_240 rfl 31 (mh_rf hI_s53 34 rfl) ?_
          refine mw_iload 73 rfl 0 dX9_was_71  rfl ?_
          refine mw_iload_n 74 rfl 3 dX9_was_73 rfl rfl ?_
          refine mw_iast 75 rfl dX9_was_74 rfl r_x48 (by decide) (fun s55 t56 => ?_)
          have hI_s55 : mh_I B D s55 := by rw [t56]; exact wr_31 hI_s53
          have hF_s55 : mh_F S_eX9_was s0 s55 := by rw [t56]; exact mh_F_pI hF_s53 (mh_si 1 rfl)
          refine mw_aload_n 76 rfl 1 dX9_was_75 rfl rfl ?_
          refine mw_geta 79 rfl dX9_was_76 gf_X9_46 rfl 29 (mh_rf hI_s55 6 rfl) ?_
          refine mw_geta 82 rfl dX9_was_79 gf_X9_243 rfl 32 (mh_rf hI_s55 35 rfl) ?_
          refine mw_iload 84 rfl 0 dX9_was_82  rfl ?_
          refine mw_iload_n 85 rfl 4 dX9_was_84 rfl rfl ?_
          refine mw_iast 86 rfl dX9_was_85 rfl r_x48 (by decide) (fun s57 t58 => ?_)
          have hI_s57 : mh_I B D s57 := by rw [t58]; exact wr_32 hI_s55
          have hF_s57 : mh_F S_eX9_was s0 s57 := by rw [t58]; exact mh_F_pI hF_s55 (mh_si 2 rfl)
          refine mw_aload_n 87 rfl 1 dX9_was_86 rfl rfl ?_
          refine mw_geta 90 rfl dX9_was_87 gf_X9_46 rfl 29 (mh_rf hI_s57 6 rfl) ?_
          refine mw_geta 93 rfl dX9_was_90 gf_X9_246 rfl 33 (mh_rf hI_s57 36 rfl) ?_
          refine mw_iload 95 rfl 0 dX9_was_93  rfl ?_
          refine mw_iload 97 rfl 5 dX9_was_95  rfl ?_
          refine mw_iast 98 rfl dX9_was_97 rfl r_x48 (by decide) (fun s59 t60 => ?_)
          have hI_s59 : mh_I B D s59 := by rw [t60]; exact wr_33 hI_s57
          have hF_s59 : mh_F S_eX9_was s0 s59 := by rw [t60]; exact mh_F_pI hF_s57 (mh_si 3 rfl)
          refine mw_aload_n 99 rfl 1 dX9_was_98 rfl rfl ?_
          refine mw_geta 102 rfl dX9_was_99 gf_X9_46 rfl 29 (mh_rf hI_s59 6 rfl) ?_
          refine mw_geta 105 rfl dX9_was_102 gf_X9_249 rfl 34 (mh_rf hI_s59 37 rfl) ?_
          refine mw_iload 107 rfl 0 dX9_was_105  rfl ?_
          refine mw_iload 109 rfl 6 dX9_was_107  rfl ?_
          refine mw_iast 110 rfl dX9_was_109 rfl r_x48 (by decide) (fun s61 t62 => ?_)
          have hI_s61 : mh_I B D s61 := by rw [t62]; exact wr_34 hI_s59
          have hF_s61 : mh_F S_eX9_was s0 s61 := by rw [t62]; exact mh_F_pI hF_s59 (mh_si 4 rfl)
          refine mw_aload_n 111 rfl 1 dX9_was_110 rfl rfl ?_
          refine mw_geta 114 rfl dX9_was_111 gf_X9_46 rfl 29 (mh_rf hI_s61 6 rfl) ?_
          refine mw_dup 115 rfl dX9_was_114 rfl ?_
          refine mw_geti 118 rfl dX9_was_115 gf_X9_236 rfl (fun x63 t64 => ?_)
          have t65 : x48 = s53.1 29 5 := by rw [t54]; exact (t49).trans (mh_pI_n (by omega)).symm
          have t66 : x48 = s55.1 29 5 := by rw [t56]; exact (t65).trans (mh_pI_n (by omega)).symm
          have t67 : x48 = s57.1 29 5 := by rw [t58]; exact (t66).trans (mh_pI_n (by omega)).symm
          have t68 : x48 = s59.1 29 5 := by rw [t60]; exact (t67).trans (mh_pI_n (by omega)).symm
          have t69 : x48 = s61.1 29 5 := by rw [t62]; exact (t68).trans (mh_pI_n (by omega)).symm
          obtain rfl : x48 = x63 := t69.trans t64.symm
          refine mw_iconst (v := 1) 119 rfl dX9_was_118 (by decide) ?_
          refine mw_iadd 120 rfl (1) (60) dX9_was_119 r_x48 rc_1 (by decide) (fun x70 t71 r_x70 => ?_)
          refine mw_puti 123 rfl dX9_was_120 pf_X9_236 rfl (fun s72 t73 => ?_)
          have hI_s72 : mh_I B D s72 := by rw [t73]; exact wr_29_5 hI_s61 (mh_r_wk r_x70 (by decide))
          have hF_s72 : mh_F S_eX9_was s0 s72 := by rw [t73]; exact mh_F_pI hF_s61 (mh_sj 5 rfl)
          refine mw_aload_n 124 rfl 1 dX9_was_123 rfl rfl ?_
          refine mw_geta 127 rfl dX9_was_124 gf_X9_46 rfl 29 (mh_rf hI_s72 6 rfl) ?_
          refine mw_geti 130 rfl dX9_was_127 gf_X9_236 rfl (fun x74 t75 => ?_)
          have t76 : x70 = s72.1 29 5 := by rw [t73]; exact mh_pI_s.symm
          obtain rfl : x70 = x74 := t76.trans t75.symm
          exact mw_iret dX9_was_130 rfl ⟨x70, rfl, ⟨(mh_r_wk r_x70 (by decide)), (mh_lbS E_s37 (mh_ifF c39 (mh_lbS E_s41 (mh_ifF c43 (mh_lbS E_s45 (mh_ifF c47 (mh_lbT t49 (mh_ifT c50 (mh_lbT t54 (mh_lbT t56 (mh_lbT t58 (mh_lbT t60 (mh_lbT t62 (mh_lbT (mh_eadd t71) (mh_lbT t73 rfl))))))))))))))), hI_s72, hF_s72⟩⟩
        · skip
          have r_x48 : mh_r x48 (60) (60) := mh_le2 c50 rc_60 r_x48 (60) (by decide)
          refine mw_iconst (v := -1) 43 rfl dX9_was_42 (by decide) ?_
          exact mw_iret dX9_was_43 rfl ⟨(-1), rfl, ⟨(mh_r_wk rc_m1 (by decide)), (mh_lbS E_s37 (mh_ifF c39 (mh_lbS E_s41 (mh_ifF c43 (mh_lbS E_s45 (mh_ifF c47 (mh_lbT t49 (mh_ifF (Int.not_lt.mpr c50) rfl)))))))), hI0, hF0⟩⟩

def j_eX9_lowestTerm_45_2 (p0 : Int64) (p2 : Int64) (p4 : Int32) (y317 : Int64) : Int64 := mh_lb (lg_cmp y317 (0 : Int64)) (fun x349 => if x349.toInt = 0 then (0 : Int64) else if p4.toInt = 0 then mh_lb (p0 / y317) (fun y356 => y356) else mh_lb (p2 / y317) (fun y354 => y354))
def ls_eX9_lowestTerm_9_1 (p0 : Int64) (p2 : Int64) (p4 : Int32) (lo_9_1 : Int32 → Int64 → Int64 → Int64) (x316 : Int32) (y317 : Int64) (y318 : Int64) : Int64 := if x316.toInt < (200 : Int32).toInt then mh_lb (lg_cmp y318 (0 : Int64)) (fun x359 => if x359.toInt = 0 then (j_eX9_lowestTerm_45_2 p0 p2 p4 y317) else mh_lb (y317 - y317 / y318 * y318) (fun y363 => mh_lb (x316 + (1 : Int32)) (fun x365 => (lo_9_1 x365 y318 y363)))) else (j_eX9_lowestTerm_45_2 p0 p2 p4 y317)
def l_eX9_lowestTerm_9_1 (p0 : Int64) (p2 : Int64) (p4 : Int32) : Nat → Int32 → Int64 → Int64 → Int64
  | 0 => fun _ _ _ => 0
  | n + 1 => ls_eX9_lowestTerm_9_1 p0 p2 p4 (l_eX9_lowestTerm_9_1 p0 p2 p4 n)
theorem l_eX9_lowestTerm_9_1_s (p0 : Int64) (p2 : Int64) (p4 : Int32) (n : Nat) : l_eX9_lowestTerm_9_1 p0 p2 p4 (n + 1) = ls_eX9_lowestTerm_9_1 p0 p2 p4 (l_eX9_lowestTerm_9_1 p0 p2 p4 n) := rfl
def f_eX9_lowestTerm (s0 : mh_H) (p0 : Int64) (p2 : Int64) (p4 : Int32) : Int64 := (l_eX9_lowestTerm_9_1 p0 p2 p4 201 (0 : Int32) p2 p0)
def P_eX9_lowestTerm (B D : Int) (s0 : mh_H) (p0 : Int64) (p2 : Int64) (p4 : Int32) : Int64 → mh_H → Prop := fun z s => f_eX9_lowestTerm s0 p0 p2 p4 = z ∧ s0 = s
set_option maxRecDepth 100000 in
set_option maxHeartbeats 4000000 in
theorem w_eX9_lowestTerm (l : Launch) (G : mh_G) (d : Nat) {B D : Int} (hB : B ≤ 2000000000 ∧ D ≤ 2000000000) {s0 : mh_H} (hI0 : mh_I B D s0) (p0 : Int64) (p2 : Int64) (p4 : Int32) : mh_Ml l G (d + 0) mM_X9_lowestTerm [.long p0, .long p2, .int p4] s0 (P_eX9_lowestTerm B D s0 p0 p2 p4) := by
  refine mh_enter (lv := [(0, .long p0), (2, .long p2), (4, .int p4)]) (by decide) rfl (Nat.le_of_ble_eq_true rfl) ?_
  refine mw_lload_n 1 rfl 0 dX9_lowestTerm_0 rfl rfl ?_
  refine mw_lstore 3 rfl [(5, .long p0), (0, .long p0), (2, .long p2), (4, .int p4)] dX9_lowestTerm_1  (by decide) rfl ?_
  refine mw_lload_n 4 rfl 2 dX9_lowestTerm_3 rfl rfl ?_
  refine mw_lstore 6 rfl [(7, .long p2), (5, .long p0), (0, .long p0), (2, .long p2), (4, .int p4)] dX9_lowestTerm_4  (by decide) rfl ?_
  refine mw_iconst (v := 0) 7 rfl dX9_lowestTerm_6 (by decide) ?_
  refine mw_istore 9 rfl [(9, .int (0)), (7, .long p2), (5, .long p0), (0, .long p0), (2, .long p2), (4, .int p4)] dX9_lowestTerm_7  (by decide) rfl ?_
  have L9 : ∀ n1 : Nat, ∀ (x316 : Int32) (y317 : Int64) (y318 : Int64), mh_r x316 (0) (200) → (f_eX9_lowestTerm s0 p0 p2 p4 = l_eX9_lowestTerm_9_1 p0 p2 p4 n1 x316 y317 y318) → (200) - x316.toInt < (n1 : Int) → mh_W G (mh_XM l G (d + 0) (mh_Ql (P_eX9_lowestTerm B D s0 p0 p2 p4))) mM_X9_lowestTerm 9 [(0, .long p0), (2, .long p2), (4, .int p4), (5, .long y318), (7, .long y317), (9, .int x316)] [] s0 := by
    intro n1
    induction n1 with
    | zero =>
      intro x316 y317 y318 r_x316 hE1 hmn1
      exact absurd hmn1 (by have := r_x316.1; have := r_x316.2; omega)
    | succ n1 ihn1 =>
      intro x316 y317 y318 r_x316 hE1 hmn1
      rw [l_eX9_lowestTerm_9_1_s] at hE1
      refine mw_iload 11 rfl 5 dX9_lowestTerm_9  rfl ?_
      refine mw_sipush (v := 200) 14 rfl dX9_lowestTerm_11 (by decide) ?_
      have J45 : (f_eX9_lowestTerm s0 p0 p2 p4 = j_eX9_lowestTerm_45_2 p0 p2 p4 y317) → mh_W G (mh_XM l G (d + 0) (mh_Ql (P_eX9_lowestTerm B D s0 p0 p2 p4))) mM_X9_lowestTerm 45 [(0, .long p0), (2, .long p2), (4, .int p4), (5, .long y318), (7, .long y317), (9, .int x316)] [] s0 := by
        intro hE2
        refine mw_lload 47 rfl 4 dX9_lowestTerm_45  rfl ?_
        refine mw_lconst (v := 0) 48 rfl dX9_lowestTerm_47 (by decide) ?_
        refine mw_lcmp 49 rfl dX9_lowestTerm_48 (fun x349 t350 => ?_)
        have g351 := mh_lc t350
        have r_x349 : mh_r x349 (-1) 1 := g351.2.2
        refine mw_if_ne 52 rfl 54 dX9_lowestTerm_49 (by decide) (fun c352 => ?_) (fun c352 => ?_)
        · skip
          refine mw_iload 56 rfl 2 dX9_lowestTerm_54  rfl ?_
          refine mw_if_ne 59 rfl 66 dX9_lowestTerm_56 (by decide) (fun c353 => ?_) (fun c353 => ?_)
          · skip
            refine mw_lload_n 67 rfl 1 dX9_lowestTerm_66 rfl rfl ?_
            refine mw_lload 69 rfl 4 dX9_lowestTerm_67  rfl ?_
            refine mw_ldiv 70 rfl dX9_lowestTerm_69 (mh_lnz (by have := mh_l0; omega)) (fun y354 t355 => ?_)
            exact mw_lret dX9_lowestTerm_70 rfl ⟨y354, rfl, ⟨(Eq.trans hE2 (mh_lbT t350 (mh_ifF c352 (mh_ifF c353 (mh_lbT t355 rfl))))), rfl⟩⟩
          · skip
            have r_p4 : mh_r p4 (0) (0) := mh_eq1 (show p4.toInt = (0 : Int32).toInt from c353) (mh_r_full p4) rc_0 (0) (0) (by decide)
            refine mw_lload_n 60 rfl 0 dX9_lowestTerm_59 rfl rfl ?_
            refine mw_lload 62 rfl 4 dX9_lowestTerm_60  rfl ?_
            refine mw_ldiv 63 rfl dX9_lowestTerm_62 (mh_lnz (by have := mh_l0; omega)) (fun y356 t357 => ?_)
            refine mw_goto 66 rfl 70 dX9_lowestTerm_63 (by decide) ?_
            exact mw_lret dX9_lowestTerm_70 rfl ⟨y356, rfl, ⟨(Eq.trans hE2 (mh_lbT t350 (mh_ifF c352 (mh_ifT c353 (mh_lbT t357 rfl))))), rfl⟩⟩
        · skip
          have r_x349 : mh_r x349 (0) (0) := mh_eq1 (show x349.toInt = (0 : Int32).toInt from c352) r_x349 rc_0 (0) (0) (by decide)
          refine mw_lconst (v := 0) 53 rfl dX9_lowestTerm_52 (by decide) ?_
          exact mw_lret dX9_lowestTerm_53 rfl ⟨(0), rfl, ⟨(Eq.trans hE2 (mh_lbT t350 (mh_ifT c352 rfl))), rfl⟩⟩
      refine mw_icmp_ge 17 rfl 45 dX9_lowestTerm_14 (by decide) (fun c358 => ?_) (fun c358 => ?_)
      · skip
        have r_x316 : mh_r x316 (200) (200) := mh_le2 c358 rc_200 r_x316 (200) (by decide)
        exact mw_lv [0, 1, 2, 3, 4, 5] rfl (J45 (Eq.trans hE1 (mh_ifF (Int.not_lt.mpr c358) rfl)))
      · skip
        have r_x316 : mh_r x316 (0) (199) := mh_lt1 c358 r_x316 rc_200 (199) (by decide)
        refine mw_lload 19 rfl 3 dX9_lowestTerm_17  rfl ?_
        refine mw_lconst (v := 0) 20 rfl dX9_lowestTerm_19 (by decide) ?_
        refine mw_lcmp 21 rfl dX9_lowestTerm_20 (fun x359 t360 => ?_)
        have g361 := mh_lc t360
        have r_x359 : mh_r x359 (-1) 1 := g361.2.2
        refine mw_if_eq 24 rfl 45 dX9_lowestTerm_21 (by decide) (fun c362 => ?_) (fun c362 => ?_)
        · skip
          have r_x359 : mh_r x359 (0) (0) := mh_eq1 (show x359.toInt = (0 : Int32).toInt from c362) r_x359 rc_0 (0) (0) (by decide)
          exact mw_lv [0, 1, 2, 3, 4, 5] rfl (J45 (Eq.trans hE1 (mh_ifT c358 (mh_lbT t360 (mh_ifT c362 rfl)))))
        · skip
          refine mw_lload 26 rfl 4 dX9_lowestTerm_24  rfl ?_
          refine mw_lload 28 rfl 3 dX9_lowestTerm_26  rfl ?_
          refine mw_lrem 29 rfl dX9_lowestTerm_28 (mh_lnz (by have := mh_l0; omega)) (fun y363 t364 => ?_)
          refine mw_lstore 31 rfl [(10, .long y363), (0, .long p0), (2, .long p2), (4, .int p4), (5, .long y318), (7, .long y317), (9, .int x316)] dX9_lowestTerm_29  (by decide) rfl ?_
          refine mw_lload 33 rfl 4 dX9_lowestTerm_31  rfl ?_
          refine mw_lstore 35 rfl [(7, .long y318), (10, .long y363), (0, .long p0), (2, .long p2), (4, .int p4), (5, .long y318), (9, .int x316)] dX9_lowestTerm_33  (by decide) rfl ?_
          refine mw_lload 37 rfl 1 dX9_lowestTerm_35  rfl ?_
          refine mw_lstore 39 rfl [(5, .long y363), (7, .long y318), (10, .long y363), (0, .long p0), (2, .long p2), (4, .int p4), (9, .int x316)] dX9_lowestTerm_37  (by decide) rfl ?_
          refine mw_iincR (k := 6) (1) (200) 42 rfl (fun z => [(9, .int z), (5, .long y363), (7, .long y318), (10, .long y363), (0, .long p0), (2, .long p2), (4, .int p4)]) dX9_lowestTerm_39 rfl (by decide) (fun _ => rfl) r_x316 (by decide) (by decide) (fun x365 t366 r_x365 => ?_)
          refine mw_goto 45 rfl 9 dX9_lowestTerm_42 (by decide) ?_
          exact mw_lv [4, 5, 6, 1, 2, 0] rfl (ihn1 x365 y318 y363 (mh_r_wk r_x365 (by decide)) (Eq.trans hE1 (mh_ifT c358 (mh_lbT t360 (mh_ifF c362 (mh_lbT t364 (mh_lbT (mh_einc t366 rfl) rfl)))))) (by have : x365.toInt = x316.toInt + (1) := t366; omega))
  exact mw_lv [3, 4, 5, 2, 1, 0] rfl (L9 201 (0) p2 p0 (mh_r_wk rc_0 (by decide)) (rfl) (by have := (rc_0).1; have := (rc_0).2; omega))

def f_eX9_line (s0 : mh_H) (p1 : Int32) (p2 : Int32) (p3 : Int32) (p4 : Int32) : Int32 := mh_lb (f_eX9_isWithin s0 p1 (2 : Int32)) (fun x20 => if x20.toInt = 0 then (-1 : Int32) else mh_lb (f_eX9_arePrices s0 p2 p3) (fun x24 => if x24.toInt = 0 then (-1 : Int32) else mh_lb (f_eX9_isWithin s0 p4 (1 : Int32)) (fun x28 => if x28.toInt = 0 then (-1 : Int32) else mh_lb (f_eX3_bestLine s0 p1 p2 p3) (fun x32 => if p4.toInt = 0 then mh_lb (f_eX3_lineCost s0 p1 x32 p2 p3) (fun x36 => x36) else x32))))
def P_eX9_line (B D : Int) (s0 : mh_H) (p1 : Int32) (p2 : Int32) (p3 : Int32) (p4 : Int32) : Int32 → mh_H → Prop := fun z s => mh_r z (-2147483648) (2147483647) ∧ f_eX9_line s0 p1 p2 p3 p4 = z ∧ s0 = s
set_option maxRecDepth 100000 in
set_option maxHeartbeats 4000000 in
theorem w_eX9_line (l : Launch) (G : mh_G) (d : Nat) {B D : Int} (hB : B ≤ 1940000000 ∧ D ≤ 1940000000) {s0 : mh_H} (hI0 : mh_I B D s0) (p1 : Int32) (p2 : Int32) (p3 : Int32) (p4 : Int32) : mh_Mi l G (d + 3) mM_X9_line [.ref (G.2.2.2 0), .int p1, .int p2, .int p3, .int p4] s0 (P_eX9_line B D s0 p1 p2 p3 p4) := by
  refine mh_enter (lv := [(0, .ref (G.2.2.2 0)), (1, .int p1), (2, .int p2), (3, .int p3), (4, .int p4)]) (by decide) rfl (Nat.le_of_ble_eq_true rfl) ?_
  refine mw_iload_n 1 rfl 1 dX9_line_0 rfl rfl ?_
  refine mw_iconst (v := 2) 2 rfl dX9_line_1 (by decide) ?_
  refine mw_callSi [.int p1, .int (2)] [] 5 rfl dX9_line_2 ml_X9_98 mc_X9_isWithin mk_X9_isWithin (w_eX9_isWithin l G (d + 2) ⟨by omega, by omega⟩ hI0 p1 (2)) rfl rfl (Nat.le_of_ble_eq_true rfl) (mh_rok (by omega) (by decide)) (fun x20 s21 q22 => ?_)
  obtain ⟨r_x20, E_s21, e0_s21, rfl⟩ := q22
  refine mw_if_eq 8 rfl 25 dX9_line_5 (by decide) (fun c23 => ?_) (fun c23 => ?_)
  · skip
    have r_x20 : mh_r x20 (0) (0) := mh_eq1 (show x20.toInt = (0 : Int32).toInt from c23) r_x20 rc_0 (0) (0) (by decide)
    refine mw_iconst (v := -1) 26 rfl dX9_line_25 (by decide) ?_
    exact mw_iret dX9_line_26 rfl ⟨(-1), rfl, ⟨(mh_r_wk rc_m1 (by decide)), (mh_lbS E_s21 (mh_ifT c23 rfl)), rfl⟩⟩
  · skip
    have r_p1 : mh_r p1 (0) (2) := ⟨by have := e0_s21.1 (mh_z1 r_x20 c23); have := ((mh_r_full p1)).1; omega, by have := e0_s21.1 (mh_z1 r_x20 c23); have := ((mh_r_full p1)).2; have := (rc_2).2; omega⟩
    have r_x20 : mh_r x20 (1) (1) := mh_ne1 (show x20.toInt ≠ (0 : Int32).toInt from c23) r_x20 rc_0 (1) (1) (by decide)
    refine mw_iload_n 9 rfl 2 dX9_line_8 rfl rfl ?_
    refine mw_iload_n 10 rfl 3 dX9_line_9 rfl rfl ?_
    refine mw_callSi [.int p2, .int p3] [] 13 rfl dX9_line_10 ml_X9_252 mc_X9_arePrices mk_X9_arePrices (w_eX9_arePrices l G (d + 1) ⟨by omega, by omega⟩ hI0 p2 p3) rfl rfl (Nat.le_of_ble_eq_true rfl) (mh_rok (by omega) (by decide)) (fun x24 s25 q26 => ?_)
    obtain ⟨r_x24, E_s25, e0_s25, rfl⟩ := q26
    refine mw_if_eq 16 rfl 25 dX9_line_13 (by decide) (fun c27 => ?_) (fun c27 => ?_)
    · skip
      have r_x24 : mh_r x24 (0) (0) := mh_eq1 (show x24.toInt = (0 : Int32).toInt from c27) r_x24 rc_0 (0) (0) (by decide)
      refine mw_iconst (v := -1) 26 rfl dX9_line_25 (by decide) ?_
      exact mw_iret dX9_line_26 rfl ⟨(-1), rfl, ⟨(mh_r_wk rc_m1 (by decide)), (mh_lbS E_s21 (mh_ifF c23 (mh_lbS E_s25 (mh_ifT c27 rfl)))), rfl⟩⟩
    · skip
      have r_p2 : mh_r p2 (0) (999) := ⟨by have := e0_s25.1 (mh_z1 r_x24 c27); have := ((mh_r_full p2)).1; omega, by have := e0_s25.1 (mh_z1 r_x24 c27); have := ((mh_r_full p2)).2; omega⟩
      have r_p3 : mh_r p3 (0) (999) := ⟨by have := e0_s25.1 (mh_z1 r_x24 c27); have := ((mh_r_full p3)).1; omega, by have := e0_s25.1 (mh_z1 r_x24 c27); have := ((mh_r_full p3)).2; omega⟩
      have r_x24 : mh_r x24 (1) (1) := mh_ne1 (show x24.toInt ≠ (0 : Int32).toInt from c27) r_x24 rc_0 (1) (1) (by decide)
      refine mw_iload 18 rfl 4 dX9_line_16  rfl ?_
      refine mw_iconst (v := 1) 19 rfl dX9_line_18 (by decide) ?_
      refine mw_callSi [.int p4, .int (1)] [] 22 rfl dX9_line_19 ml_X9_98 mc_X9_isWithin mk_X9_isWithin (w_eX9_isWithin l G (d + 2) ⟨by omega, by omega⟩ hI0 p4 (1)) rfl rfl (Nat.le_of_ble_eq_true rfl) (mh_rok (by omega) (by decide)) (fun x28 s29 q30 => ?_)
      obtain ⟨r_x28, E_s29, e0_s29, rfl⟩ := q30
      refine mw_if_ne 25 rfl 27 dX9_line_22 (by decide) (fun c31 => ?_) (fun c31 => ?_)
      · skip
        have r_p4 : mh_r p4 (0) (1) := ⟨by have := e0_s29.1 (mh_z1 r_x28 c31); have := ((mh_r_full p4)).1; omega, by have := e0_s29.1 (mh_z1 r_x28 c31); have := ((mh_r_full p4)).2; have := (rc_1).2; omega⟩
        have r_x28 : mh_r x28 (1) (1) := mh_ne1 (show x28.toInt ≠ (0 : Int32).toInt from c31) r_x28 rc_0 (1) (1) (by decide)
        refine mw_aload_n 28 rfl 0 dX9_line_27 rfl rfl ?_
        refine mw_geta 31 rfl dX9_line_28 gf_X9_46 rfl 29 (mh_rf hI0 6 rfl) ?_
        refine mw_iload_n 32 rfl 1 dX9_line_31 rfl rfl ?_
        refine mw_iload_n 33 rfl 2 dX9_line_32 rfl rfl ?_
        refine mw_iload_n 34 rfl 3 dX9_line_33 rfl rfl ?_
        refine mw_callVi [.int p1, .int p2, .int p3] [] 37 rfl dX9_line_34 ml_X9_255 mc_X3_bestLine mk_X3_bestLine rfl rfl (by decide) (w_eX3_bestLine l G (d + 0) ⟨by omega, by omega⟩ hI0 p1 p2 p3) rfl rfl (Nat.le_of_ble_eq_true rfl) (mh_rok (by omega) (by decide)) (fun x32 s33 q34 => ?_)
        obtain ⟨r_x32, E_s33, rfl⟩ := q34
        refine mw_istore 39 rfl [(5, .int x32), (0, .ref (G.2.2.2 0)), (1, .int p1), (2, .int p2), (3, .int p3), (4, .int p4)] dX9_line_37  (by decide) rfl ?_
        refine mw_iload 41 rfl 5 dX9_line_39  rfl ?_
        refine mw_if_ne 44 rfl 59 dX9_line_41 (by decide) (fun c35 => ?_) (fun c35 => ?_)
        · skip
          have r_p4 : mh_r p4 (1) (1) := mh_ne1 (show p4.toInt ≠ (0 : Int32).toInt from c35) r_p4 rc_0 (1) (1) (by decide)
          refine mw_iload 61 rfl 0 dX9_line_59  rfl ?_
          exact mw_iret dX9_line_61 rfl ⟨x32, rfl, ⟨(mh_r_wk r_x32 (by decide)), (mh_lbS E_s21 (mh_ifF c23 (mh_lbS E_s25 (mh_ifF c27 (mh_lbS E_s29 (mh_ifF c31 (mh_lbS E_s33 (mh_ifF c35 rfl)))))))), rfl⟩⟩
        · skip
          have r_p4 : mh_r p4 (0) (0) := mh_eq1 (show p4.toInt = (0 : Int32).toInt from c35) r_p4 rc_0 (0) (0) (by decide)
          refine mw_aload_n 45 rfl 1 dX9_line_44 rfl rfl ?_
          refine mw_geta 48 rfl dX9_line_45 gf_X9_46 rfl 29 (mh_rf hI0 6 rfl) ?_
          refine mw_iload_n 49 rfl 2 dX9_line_48 rfl rfl ?_
          refine mw_iload 51 rfl 0 dX9_line_49  rfl ?_
          refine mw_iload_n 52 rfl 3 dX9_line_51 rfl rfl ?_
          refine mw_iload_n 53 rfl 4 dX9_line_52 rfl rfl ?_
          refine mw_callVi [.int p1, .int x32, .int p2, .int p3] [] 56 rfl dX9_line_53 ml_X9_259 mc_X3_lineCost mk_X3_lineCost rfl rfl (by decide) (w_eX3_lineCost l G (d + 1) ⟨by omega, by omega⟩ hI0 p1 x32 p2 p3) rfl rfl (Nat.le_of_ble_eq_true rfl) (mh_rok (by omega) (by decide)) (fun x36 s37 q38 => ?_)
          obtain ⟨r_x36, E_s37, rfl⟩ := q38
          refine mw_goto 59 rfl 61 dX9_line_56 (by decide) ?_
          exact mw_iret dX9_line_61 rfl ⟨x36, rfl, ⟨r_x36, (mh_lbS E_s21 (mh_ifF c23 (mh_lbS E_s25 (mh_ifF c27 (mh_lbS E_s29 (mh_ifF c31 (mh_lbS E_s33 (mh_ifT c35 (mh_lbS E_s37 rfl))))))))), rfl⟩⟩
      · skip
        have r_x28 : mh_r x28 (0) (0) := mh_eq1 (show x28.toInt = (0 : Int32).toInt from c31) r_x28 rc_0 (0) (0) (by decide)
        refine mw_iconst (v := -1) 26 rfl dX9_line_25 (by decide) ?_
        exact mw_iret dX9_line_26 rfl ⟨(-1), rfl, ⟨(mh_r_wk rc_m1 (by decide)), (mh_lbS E_s21 (mh_ifF c23 (mh_lbS E_s25 (mh_ifF c27 (mh_lbS E_s29 (mh_ifT c31 rfl)))))), rfl⟩⟩

def j_eX9_odds_110_2 (lo_42_1 : Int32 → Int32 → Int32 → Int32 → Int32) (x1260 : Int32) (x1322 : Int32) (x1323 : Int32) (x1324 : Int32) : Int32 := mh_lb (x1260 + (1 : Int32)) (fun x1327 => (lo_42_1 x1327 x1322 x1324 x1323))
def j_eX9_odds_93_3 (lo_42_1 : Int32 → Int32 → Int32 → Int32 → Int32) (x1260 : Int32) (x1261 : Int32) (x1330 : Int32) (x1332 : Int32) (x1337 : Int32) : Int32 := mh_lb (mh_ma32 x1261 x1332) (fun x1344 => (j_eX9_odds_110_2 lo_42_1 x1260 x1344 x1330 x1337))
def ls_eX9_odds_42_1 (s0 : mh_H) (p1 : Int32) (p2 : Int32) (p3 : Int32) (p4 : Int32) (p5 : Int32) (lo_42_1 : Int32 → Int32 → Int32 → Int32 → Int32) (x1260 : Int32) (x1261 : Int32) (x1262 : Int32) (x1263 : Int32) : Int32 := mh_lb (s0.1 29 5) (fun x1292 => if x1260.toInt < x1292.toInt then mh_lb (f_eX3_isAlike s0 x1260 p1 p2 p3 p4) (fun x1306 => if x1306.toInt = 0 then (j_eX9_odds_110_2 lo_42_1 x1260 x1261 x1263 x1262) else mh_lb (x1263 + (1 : Int32)) (fun x1330 => mh_lb (s0.1 33 x1260.toNatClampNeg) (fun x1332 => if 0 < x1332.toInt then mh_lb (x1262 + (1 : Int32)) (fun x1347 => (j_eX9_odds_93_3 lo_42_1 x1260 x1261 x1330 x1332 x1347)) else (j_eX9_odds_93_3 lo_42_1 x1260 x1261 x1330 x1332 x1262)))) else if x1263.toInt = 0 then (-2 : Int32) else if p5.toInt = (2 : Int32).toInt then x1261 else mh_lb (Int32.toInt64 x1262) (fun y1297 => mh_lb (Int32.toInt64 x1263) (fun y1299 => mh_lb (f_eX9_lowestTerm s0 y1297 y1299 p5) (fun y1301 => mh_lb (Int64.toInt32 y1301) (fun x1304 => x1304)))))
def l_eX9_odds_42_1 (s0 : mh_H) (p1 : Int32) (p2 : Int32) (p3 : Int32) (p4 : Int32) (p5 : Int32) : Nat → Int32 → Int32 → Int32 → Int32 → Int32
  | 0 => fun _ _ _ _ => 0
  | n + 1 => ls_eX9_odds_42_1 s0 p1 p2 p3 p4 p5 (l_eX9_odds_42_1 s0 p1 p2 p3 p4 p5 n)
theorem l_eX9_odds_42_1_s (s0 : mh_H) (p1 : Int32) (p2 : Int32) (p3 : Int32) (p4 : Int32) (p5 : Int32) (n : Nat) : l_eX9_odds_42_1 s0 p1 p2 p3 p4 p5 (n + 1) = ls_eX9_odds_42_1 s0 p1 p2 p3 p4 p5 (l_eX9_odds_42_1 s0 p1 p2 p3 p4 p5 n) := rfl
def f_eX9_odds (s0 : mh_H) (p1 : Int32) (p2 : Int32) (p3 : Int32) (p4 : Int32) (p5 : Int32) : Int32 := mh_lb (f_eX9_isEvening s0 p1 p2 p3) (fun x664 => if x664.toInt = 0 then (-1 : Int32) else mh_lb (f_eX9_isWithin s0 p4 (99 : Int32)) (fun x668 => if x668.toInt = 0 then (-1 : Int32) else mh_lb (f_eX9_isWithin s0 p5 (2 : Int32)) (fun x672 => if x672.toInt = 0 then (-1 : Int32) else (l_eX9_odds_42_1 s0 p1 p2 p3 p4 p5 61 (0 : Int32) (0 : Int32) (0 : Int32) (0 : Int32)))))
def P_eX9_odds (B D : Int) (s0 : mh_H) (p1 : Int32) (p2 : Int32) (p3 : Int32) (p4 : Int32) (p5 : Int32) : Int32 → mh_H → Prop := fun z s => mh_r z (-2147483648) (2147483647) ∧ f_eX9_odds s0 p1 p2 p3 p4 p5 = z ∧ s0 = s
set_option maxRecDepth 100000 in
set_option maxHeartbeats 4000000 in
theorem w_eX9_odds (l : Launch) (G : mh_G) (d : Nat) {B D : Int} (hB : B ≤ 1960000000 ∧ D ≤ 1960000000) {s0 : mh_H} (hI0 : mh_I B D s0) (p1 : Int32) (p2 : Int32) (p3 : Int32) (p4 : Int32) (p5 : Int32) : mh_Mi l G (d + 2) mM_X9_odds [.ref (G.2.2.2 0), .int p1, .int p2, .int p3, .int p4, .int p5] s0 (P_eX9_odds B D s0 p1 p2 p3 p4 p5) := by
  refine mh_enter (lv := [(0, .ref (G.2.2.2 0)), (1, .int p1), (2, .int p2), (3, .int p3), (4, .int p4), (5, .int p5)]) (by decide) rfl (Nat.le_of_ble_eq_true rfl) ?_
  refine mw_iload_n 1 rfl 1 dX9_odds_0 rfl rfl ?_
  refine mw_iload_n 2 rfl 2 dX9_odds_1 rfl rfl ?_
  refine mw_iload_n 3 rfl 3 dX9_odds_2 rfl rfl ?_
  refine mw_callSi [.int p1, .int p2, .int p3] [] 6 rfl dX9_odds_3 ml_X9_232 mc_X9_isEvening mk_X9_isEvening (w_eX9_isEvening l G (d + 0) ⟨by omega, by omega⟩ hI0 p1 p2 p3) rfl rfl (Nat.le_of_ble_eq_true rfl) (mh_rok (by omega) (by decide)) (fun x664 s665 q666 => ?_)
  obtain ⟨r_x664, E_s665, e0_s665, rfl⟩ := q666
  refine mw_if_eq 9 rfl 28 dX9_odds_6 (by decide) (fun c667 => ?_) (fun c667 => ?_)
  · skip
    have r_x664 : mh_r x664 (0) (0) := mh_eq1 (show x664.toInt = (0 : Int32).toInt from c667) r_x664 rc_0 (0) (0) (by decide)
    refine mw_iconst (v := -1) 29 rfl dX9_odds_28 (by decide) ?_
    exact mw_iret dX9_odds_29 rfl ⟨(-1), rfl, ⟨(mh_r_wk rc_m1 (by decide)), (mh_lbS E_s665 (mh_ifT c667 rfl)), rfl⟩⟩
  · skip
    have r_p1 : mh_r p1 (0) (99) := ⟨by have := e0_s665.1 (mh_z1 r_x664 c667); have := ((mh_r_full p1)).1; omega, by have := e0_s665.1 (mh_z1 r_x664 c667); have := ((mh_r_full p1)).2; omega⟩
    have r_p2 : mh_r p2 (0) (99) := ⟨by have := e0_s665.1 (mh_z1 r_x664 c667); have := ((mh_r_full p2)).1; omega, by have := e0_s665.1 (mh_z1 r_x664 c667); have := ((mh_r_full p2)).2; omega⟩
    have r_p3 : mh_r p3 (0) (99) := ⟨by have := e0_s665.1 (mh_z1 r_x664 c667); have := ((mh_r_full p3)).1; omega, by have := e0_s665.1 (mh_z1 r_x664 c667); have := ((mh_r_full p3)).2; omega⟩
    have r_x664 : mh_r x664 (1) (1) := mh_ne1 (show x664.toInt ≠ (0 : Int32).toInt from c667) r_x664 rc_0 (1) (1) (by decide)
    refine mw_iload 11 rfl 4 dX9_odds_9  rfl ?_
    refine mw_bipush (v := 99) 13 rfl dX9_odds_11 (by decide) ?_
    refine mw_callSi [.int p4, .int (99)] [] 16 rfl dX9_odds_13 ml_X9_98 mc_X9_isWithin mk_X9_isWithin (w_eX9_isWithin l G (d + 1) ⟨by omega, by omega⟩ hI0 p4 (99)) rfl rfl (Nat.le_of_ble_eq_true rfl) (mh_rok (by omega) (by decide)) (fun x668 s669 q670 => ?_)
    obtain ⟨r_x668, E_s669, e0_s669, rfl⟩ := q670
    refine mw_if_eq 19 rfl 28 dX9_odds_16 (by decide) (fun c671 => ?_) (fun c671 => ?_)
    · skip
      have r_x668 : mh_r x668 (0) (0) := mh_eq1 (show x668.toInt = (0 : Int32).toInt from c671) r_x668 rc_0 (0) (0) (by decide)
      refine mw_iconst (v := -1) 29 rfl dX9_odds_28 (by decide) ?_
      exact mw_iret dX9_odds_29 rfl ⟨(-1), rfl, ⟨(mh_r_wk rc_m1 (by decide)), (mh_lbS E_s665 (mh_ifF c667 (mh_lbS E_s669 (mh_ifT c671 rfl)))), rfl⟩⟩
    · skip
      have r_p4 : mh_r p4 (0) (99) := ⟨by have := e0_s669.1 (mh_z1 r_x668 c671); have := ((mh_r_full p4)).1; omega, by have := e0_s669.1 (mh_z1 r_x668 c671); have := ((mh_r_full p4)).2; have := (rc_99).2; omega⟩
      have r_x668 : mh_r x668 (1) (1) := mh_ne1 (show x668.toInt ≠ (0 : Int32).toInt from c671) r_x668 rc_0 (1) (1) (by decide)
      refine mw_iload 21 rfl 5 dX9_odds_19  rfl ?_
      refine mw_iconst (v := 2) 22 rfl dX9_odds_21 (by decide) ?_
      refine mw_callSi [.int p5, .int (2)] [] 25 rfl dX9_odds_22 ml_X9_98 mc_X9_isWithin mk_X9_isWithin (w_eX9_isWithin l G (d + 1) ⟨by omega, by omega⟩ hI0 p5 (2)) rfl rfl (Nat.le_of_ble_eq_true rfl) (mh_rok (by omega) (by decide)) (fun x672 s673 q674 => ?_)
      obtain ⟨r_x672, E_s673, e0_s673, rfl⟩ := q674
      refine mw_if_ne 28 rfl 30 dX9_odds_25 (by decide) (fun c675 => ?_) (fun c675 => ?_)
      · skip
        have r_p5 : mh_r p5 (0) (2) := ⟨by have := e0_s673.1 (mh_z1 r_x672 c675); have := ((mh_r_full p5)).1; omega, by have := e0_s673.1 (mh_z1 r_x672 c675); have := ((mh_r_full p5)).2; have := (rc_2).2; omega⟩
        have r_x672 : mh_r x672 (1) (1) := mh_ne1 (show x672.toInt ≠ (0 : Int32).toInt from c675) r_x672 rc_0 (1) (1) (by decide)
        refine mw_iconst (v := 0) 31 rfl dX9_odds_30 (by decide) ?_
        refine mw_istore 33 rfl [(6, .int (0)), (0, .ref (G.2.2.2 0)), (1, .int p1), (2, .int p2), (3, .int p3), (4, .int p4), (5, .int p5)] dX9_odds_31  (by decide) rfl ?_
        refine mw_iconst (v := 0) 34 rfl dX9_odds_33 (by decide) ?_
        refine mw_istore 36 rfl [(7, .int (0)), (6, .int (0)), (0, .ref (G.2.2.2 0)), (1, .int p1), (2, .int p2), (3, .int p3), (4, .int p4), (5, .int p5)] dX9_odds_34  (by decide) rfl ?_
        refine mw_iconst (v := 0) 37 rfl dX9_odds_36 (by decide) ?_
        refine mw_istore 39 rfl [(8, .int (0)), (7, .int (0)), (6, .int (0)), (0, .ref (G.2.2.2 0)), (1, .int p1), (2, .int p2), (3, .int p3), (4, .int p4), (5, .int p5)] dX9_odds_37  (by decide) rfl ?_
        refine mw_iconst (v := 0) 40 rfl dX9_odds_39 (by decide) ?_
        refine mw_istore 42 rfl [(9, .int (0)), (8, .int (0)), (7, .int (0)), (6, .int (0)), (0, .ref (G.2.2.2 0)), (1, .int p1), (2, .int p2), (3, .int p3), (4, .int p4), (5, .int p5)] dX9_odds_40  (by decide) rfl ?_
        have L42 : ∀ n1 : Nat, ∀ (x1260 : Int32) (x1261 : Int32) (x1262 : Int32) (x1263 : Int32), mh_r x1260 (0) (60) → mh_r x1261 (0) (2147483647) → (f_eX9_odds s0 p1 p2 p3 p4 p5 = l_eX9_odds_42_1 s0 p1 p2 p3 p4 p5 n1 x1260 x1261 x1262 x1263) → (60) - x1260.toInt < (n1 : Int) → mh_W G (mh_XM l G (d + 2) (mh_Qi (P_eX9_odds B D s0 p1 p2 p3 p4 p5))) mM_X9_odds 42 [(0, .ref (G.2.2.2 0)), (1, .int p1), (2, .int p2), (3, .int p3), (4, .int p4), (5, .int p5), (6, .int x1263), (7, .int x1262), (8, .int x1261), (9, .int x1260)] [] s0 := by
          intro n1
          induction n1 with
          | zero =>
            intro x1260 x1261 x1262 x1263 r_x1260 r_x1261 hE1 hmn1
            exact absurd hmn1 (by have := r_x1260.1; have := r_x1260.2; omega)
          | succ n1 ihn1 =>
            intro x1260 x1261 x1262 x1263 r_x1260 r_x1261 hE1 hmn1
            rw [l_eX9_odds_42_1_s] at hE1
            refine mw_iload 44 rfl 9 dX9_odds_42  rfl ?_
            refine mw_aload_n 45 rfl 0 dX9_odds_44 rfl rfl ?_
            refine mw_geta 48 rfl dX9_odds_45 gf_X9_46 rfl 29 (mh_rf hI0 6 rfl) ?_
            refine mw_geti 51 rfl dX9_odds_48 gf_X9_236 rfl (fun x1292 t1293 => ?_)
            have r_x1292 : mh_r x1292 (0) (60) := by rw [t1293]; exact rd_29_5 hI0
            refine mw_icmp_ge 54 rfl 116 dX9_odds_51 (by decide) (fun c1294 => ?_) (fun c1294 => ?_)
            · skip
              refine mw_iload 118 rfl 6 dX9_odds_116  rfl ?_
              refine mw_if_ne 121 rfl 124 dX9_odds_118 (by decide) (fun c1295 => ?_) (fun c1295 => ?_)
              · skip
                refine mw_iload 126 rfl 5 dX9_odds_124  rfl ?_
                refine mw_iconst (v := 2) 127 rfl dX9_odds_126 (by decide) ?_
                refine mw_icmp_ne 130 rfl 133 dX9_odds_127 (by decide) (fun c1296 => ?_) (fun c1296 => ?_)
                · skip
                  have r_p5 : mh_r p5 (0) (1) := mh_ne1 c1296 r_p5 rc_2 (0) (1) (by decide)
                  refine mw_iload 135 rfl 7 dX9_odds_133  rfl ?_
                  refine mw_i2l 136 rfl dX9_odds_135 (fun y1297 t1298 => ?_)
                  refine mw_iload 138 rfl 6 dX9_odds_136  rfl ?_
                  refine mw_i2l 139 rfl dX9_odds_138 (fun y1299 t1300 => ?_)
                  refine mw_iload 141 rfl 5 dX9_odds_139  rfl ?_
                  refine mw_callSl [.long y1297, .long y1299, .int p5] [] 144 rfl dX9_odds_141 ml_X9_277 mc_X9_lowestTerm mk_X9_lowestTerm (w_eX9_lowestTerm l G (d + 1) ⟨by omega, by omega⟩ hI0 y1297 y1299 p5) rfl rfl (Nat.le_of_ble_eq_true rfl) (mh_rok (by omega) (by decide)) (fun y1301 s1302 q1303 => ?_)
                  obtain ⟨E_s1302, rfl⟩ := q1303
                  refine mw_l2i 145 rfl dX9_odds_144 (fun x1304 t1305 => ?_)
                  exact mw_iret dX9_odds_145 rfl ⟨x1304, rfl, ⟨(mh_r_full x1304), (Eq.trans hE1 (mh_lbT t1293 (mh_ifF (Int.not_lt.mpr c1294) (mh_ifF c1295 (mh_ifF c1296 (mh_lbT t1298 (mh_lbT t1300 (mh_lbS E_s1302 (mh_lbT t1305 rfl))))))))), rfl⟩⟩
                · skip
                  have r_p5 : mh_r p5 (2) (2) := mh_eq1 c1296 r_p5 rc_2 (2) (2) (by decide)
                  refine mw_iload 132 rfl 8 dX9_odds_130  rfl ?_
                  exact mw_iret dX9_odds_132 rfl ⟨x1261, rfl, ⟨(mh_r_wk r_x1261 (by decide)), (Eq.trans hE1 (mh_lbT t1293 (mh_ifF (Int.not_lt.mpr c1294) (mh_ifF c1295 (mh_ifT c1296 rfl))))), rfl⟩⟩
              · skip
                have r_x1263 : mh_r x1263 (0) (0) := mh_eq1 (show x1263.toInt = (0 : Int32).toInt from c1295) (mh_r_full x1263) rc_0 (0) (0) (by decide)
                refine mw_bipush (v := -2) 123 rfl dX9_odds_121 (by decide) ?_
                exact mw_iret dX9_odds_123 rfl ⟨(-2), rfl, ⟨(mh_r_wk rc_m2 (by decide)), (Eq.trans hE1 (mh_lbT t1293 (mh_ifF (Int.not_lt.mpr c1294) (mh_ifT c1295 rfl)))), rfl⟩⟩
            · skip
              have r_x1260 : mh_r x1260 (0) (59) := mh_lt1 c1294 r_x1260 r_x1292 (59) (by decide)
              have r_x1292 : mh_r x1292 (1) (60) := mh_lt2 c1294 r_x1260 r_x1292 (1) (by decide)
              refine mw_aload_n 55 rfl 0 dX9_odds_54 rfl rfl ?_
              refine mw_geta 58 rfl dX9_odds_55 gf_X9_46 rfl 29 (mh_rf hI0 6 rfl) ?_
              refine mw_iload 60 rfl 9 dX9_odds_58  rfl ?_
              refine mw_iload_n 61 rfl 1 dX9_odds_60 rfl rfl ?_
              refine mw_iload_n 62 rfl 2 dX9_odds_61 rfl rfl ?_
              refine mw_iload_n 63 rfl 3 dX9_odds_62 rfl rfl ?_
              refine mw_iload 65 rfl 4 dX9_odds_63  rfl ?_
              refine mw_callVi [.int x1260, .int p1, .int p2, .int p3, .int p4] [] 68 rfl dX9_odds_65 ml_X9_273 mc_X3_isAlike mk_X3_isAlike rfl rfl (by decide) (w_eX3_isAlike l G (d + 0) ⟨by omega, by omega⟩ hI0 x1260 r_x1260 p1 p2 p3 p4) rfl rfl (Nat.le_of_ble_eq_true rfl) (mh_rok (by omega) (by decide)) (fun x1306 s1307 q1308 => ?_)
              obtain ⟨r_x1306, E_s1307, rfl⟩ := q1308
              have J110 : ∀ (x1322 : Int32) (x1323 : Int32) (x1324 : Int32), mh_r x1322 (0) (2147483647) → (f_eX9_odds s0 p1 p2 p3 p4 p5 = j_eX9_odds_110_2 (l_eX9_odds_42_1 s0 p1 p2 p3 p4 p5 n1) x1260 x1322 x1323 x1324) → mh_W G (mh_XM l G (d + 2) (mh_Qi (P_eX9_odds B D s0 p1 p2 p3 p4 p5))) mM_X9_odds 110 [(0, .ref (G.2.2.2 0)), (1, .int p1), (2, .int p2), (3, .int p3), (4, .int p4), (5, .int p5), (6, .int x1323), (7, .int x1324), (8, .int x1322), (9, .int x1260)] [] s0 := by
                intro x1322 x1323 x1324 r_x1322 hE2
                refine mw_iincR (k := 9) (1) (60) 113 rfl (fun z => [(9, .int z), (0, .ref (G.2.2.2 0)), (1, .int p1), (2, .int p2), (3, .int p3), (4, .int p4), (5, .int p5), (6, .int x1323), (7, .int x1324), (8, .int x1322)]) dX9_odds_110 rfl (by decide) (fun _ => rfl) r_x1260 (by decide) (by decide) (fun x1327 t1328 r_x1327 => ?_)
                refine mw_goto 116 rfl 42 dX9_odds_113 (by decide) ?_
                exact mw_lv [1, 2, 3, 4, 5, 6, 7, 8, 9, 0] rfl (ihn1 x1327 x1322 x1324 x1323 (mh_r_wk r_x1327 (by decide)) r_x1322 (Eq.trans hE2 (mh_lbT (mh_einc t1328 rfl) rfl)) (by have : x1327.toInt = x1260.toInt + (1) := t1328; omega))
              refine mw_if_ne 71 rfl 74 dX9_odds_68 (by decide) (fun c1329 => ?_) (fun c1329 => ?_)
              · skip
                have r_x1306 : mh_r x1306 (1) (1) := mh_ne1 (show x1306.toInt ≠ (0 : Int32).toInt from c1329) r_x1306 rc_0 (1) (1) (by decide)
                refine mw_iincU (k := 6) 77 rfl (fun z => [(6, .int z), (0, .ref (G.2.2.2 0)), (1, .int p1), (2, .int p2), (3, .int p3), (4, .int p4), (5, .int p5), (7, .int x1262), (8, .int x1261), (9, .int x1260)]) dX9_odds_74 rfl (by decide) (fun _ => rfl) (fun x1330 t1331 => ?_)
                refine mw_aload_n 78 rfl 1 dX9_odds_77 rfl rfl ?_
                refine mw_geta 81 rfl dX9_odds_78 gf_X9_46 rfl 29 (mh_rf hI0 6 rfl) ?_
                refine mw_geta 84 rfl dX9_odds_81 gf_X9_246 rfl 33 (mh_rf hI0 36 rfl) ?_
                refine mw_iload 86 rfl 9 dX9_odds_84  rfl ?_
                refine mw_iald 87 rfl dX9_odds_86 rfl r_x1260 (by decide) (fun x1332 t1333 => ?_)
                have J93 : ∀ (x1337 : Int32), (f_eX9_odds s0 p1 p2 p3 p4 p5 = j_eX9_odds_93_3 (l_eX9_odds_42_1 s0 p1 p2 p3 p4 p5 n1) x1260 x1261 x1330 x1332 x1337) → mh_W G (mh_XM l G (d + 2) (mh_Qi (P_eX9_odds B D s0 p1 p2 p3 p4 p5))) mM_X9_odds 93 [(0, .ref (G.2.2.2 0)), (1, .int p1), (2, .int p2), (3, .int p3), (4, .int p4), (5, .int p5), (6, .int x1330), (7, .int x1337), (8, .int x1261), (9, .int x1260)] [] s0 := by
                  intro x1337 hE3
                  refine mw_iload 95 rfl 8 dX9_odds_93  rfl ?_
                  refine mw_aload_n 96 rfl 0 dX9_odds_95 rfl rfl ?_
                  refine mw_geta 99 rfl dX9_odds_96 gf_X9_46 rfl 29 (mh_rf hI0 6 rfl) ?_
                  refine mw_geta 102 rfl dX9_odds_99 gf_X9_246 rfl 33 (mh_rf hI0 36 rfl) ?_
                  refine mw_iload 104 rfl 9 dX9_odds_102  rfl ?_
                  refine mw_iald 105 rfl dX9_odds_104 rfl r_x1260 (by decide) (fun x1342 t1343 => ?_)
                  obtain rfl : x1332 = x1342 := t1333.trans t1343.symm
                  refine mw_mmax (0) (2147483647) 108 rfl dX9_odds_105 ml_X9_182 r_x1261 (mh_r_full x1332) (by decide) (mh_mr (D := d + 2) (by omega) (Nat.le_of_ble_eq_true rfl)) (fun x1344 t1345 r_x1344 => ?_)
                  refine mw_istore 110 rfl [(8, .int x1344), (0, .ref (G.2.2.2 0)), (1, .int p1), (2, .int p2), (3, .int p3), (4, .int p4), (5, .int p5), (6, .int x1330), (7, .int x1337), (9, .int x1260)] dX9_odds_108  (by decide) rfl ?_
                  exact mw_lv [1, 2, 3, 4, 5, 6, 7, 8, 0, 9] rfl (J110 x1344 x1330 x1337 r_x1344 (Eq.trans hE3 (mh_lbT (mh_emax t1345) rfl)))
                refine mw_if_le 90 rfl 93 dX9_odds_87 (by decide) (fun c1346 => ?_) (fun c1346 => ?_)
                · skip
                  have r_x1332 : mh_r x1332 (-2147483648) (0) := mh_le1 (show x1332.toInt ≤ (0 : Int32).toInt from c1346) (mh_r_full x1332) rc_0 (0) (by decide)
                  exact mw_lv [1, 2, 3, 4, 5, 6, 0, 7, 8, 9] rfl (J93 x1262 (Eq.trans hE1 (mh_lbT t1293 (mh_ifT c1294 (mh_lbS E_s1307 (mh_ifF c1329 (mh_lbT (mh_eincU t1331 rfl) (mh_lbT t1333 (mh_ifF (Int.not_lt.mpr c1346) rfl)))))))))
                · skip
                  have r_x1332 : mh_r x1332 (1) (2147483647) := mh_lt2 (show (0 : Int32).toInt < x1332.toInt from c1346) rc_0 (mh_r_full x1332) (1) (by decide)
                  refine mw_iincU (k := 7) 93 rfl (fun z => [(7, .int z), (6, .int x1330), (0, .ref (G.2.2.2 0)), (1, .int p1), (2, .int p2), (3, .int p3), (4, .int p4), (5, .int p5), (8, .int x1261), (9, .int x1260)]) dX9_odds_90 rfl (by decide) (fun _ => rfl) (fun x1347 t1348 => ?_)
                  exact mw_lv [2, 3, 4, 5, 6, 7, 1, 0, 8, 9] rfl (J93 x1347 (Eq.trans hE1 (mh_lbT t1293 (mh_ifT c1294 (mh_lbS E_s1307 (mh_ifF c1329 (mh_lbT (mh_eincU t1331 rfl) (mh_lbT t1333 (mh_ifT c1346 (mh_lbT (mh_eincU t1348 rfl) rfl))))))))))
              · skip
                have r_x1306 : mh_r x1306 (0) (0) := mh_eq1 (show x1306.toInt = (0 : Int32).toInt from c1329) r_x1306 rc_0 (0) (0) (by decide)
                refine mw_goto 74 rfl 110 dX9_odds_71 (by decide) ?_
                exact mw_lv [0, 1, 2, 3, 4, 5, 6, 7, 8, 9] rfl (J110 x1261 x1263 x1262 r_x1261 (Eq.trans hE1 (mh_lbT t1293 (mh_ifT c1294 (mh_lbS E_s1307 (mh_ifT c1329 rfl))))))
        exact mw_lv [4, 5, 6, 7, 8, 9, 3, 2, 1, 0] rfl (L42 61 (0) (0) (0) (0) (mh_r_wk rc_0 (by decide)) (mh_r_wk rc_0 (by decide)) (mh_lbS E_s665 (mh_ifF c667 (mh_lbS E_s669 (mh_ifF c671 (mh_lbS E_s673 (mh_ifF c675 rfl)))))) (by have := (rc_0).1; have := (rc_0).2; omega))
      · skip
        have r_x672 : mh_r x672 (0) (0) := mh_eq1 (show x672.toInt = (0 : Int32).toInt from c675) r_x672 rc_0 (0) (0) (by decide)
        refine mw_iconst (v := -1) 29 rfl dX9_odds_28 (by decide) ?_
        exact mw_iret dX9_odds_29 rfl ⟨(-1), rfl, ⟨(mh_r_wk rc_m1 (by decide)), (mh_lbS E_s665 (mh_ifF c667 (mh_lbS E_s669 (mh_ifF c671 (mh_lbS E_s673 (mh_ifT c675 rfl)))))), rfl⟩⟩

def j_eX9_tells_64_2 (lo_20_1 : Int32 → Int32 → Int32 → Int32) (x119 : Int32) (x145 : Int32) (x146 : Int32) : Int32 := mh_lb (x119 + (1 : Int32)) (fun x149 => (lo_20_1 x149 x146 x145))
def ls_eX9_tells_20_1 (s0 : mh_H) (p1 : Int32) (p2 : Int32) (lo_20_1 : Int32 → Int32 → Int32 → Int32) (x119 : Int32) (x120 : Int32) (x121 : Int32) : Int32 := if x119.toInt < (3 : Int32).toInt then mh_lb (f_eX3_bestLine s0 x119 p1 p2) (fun x138 => mh_lb (f_eX3_lineCost s0 x119 x138 p1 p2) (fun x141 => if x141.toInt < x120.toInt then (j_eX9_tells_64_2 lo_20_1 x119 x119 x141) else (j_eX9_tells_64_2 lo_20_1 x119 x121 x120))) else x121
def l_eX9_tells_20_1 (s0 : mh_H) (p1 : Int32) (p2 : Int32) : Nat → Int32 → Int32 → Int32 → Int32
  | 0 => fun _ _ _ => 0
  | n + 1 => ls_eX9_tells_20_1 s0 p1 p2 (l_eX9_tells_20_1 s0 p1 p2 n)
theorem l_eX9_tells_20_1_s (s0 : mh_H) (p1 : Int32) (p2 : Int32) (n : Nat) : l_eX9_tells_20_1 s0 p1 p2 (n + 1) = ls_eX9_tells_20_1 s0 p1 p2 (l_eX9_tells_20_1 s0 p1 p2 n) := rfl
def f_eX9_tells (s0 : mh_H) (p1 : Int32) (p2 : Int32) : Int32 := mh_lb (f_eX9_arePrices s0 p1 p2) (fun x75 => if x75.toInt = 0 then (-1 : Int32) else (l_eX9_tells_20_1 s0 p1 p2 4 (0 : Int32) (2147483647 : Int32) (0 : Int32)))
def P_eX9_tells (B D : Int) (s0 : mh_H) (p1 : Int32) (p2 : Int32) : Int32 → mh_H → Prop := fun z s => mh_r z (-1) (2) ∧ f_eX9_tells s0 p1 p2 = z ∧ s0 = s
set_option maxRecDepth 100000 in
set_option maxHeartbeats 4000000 in
theorem w_eX9_tells (l : Launch) (G : mh_G) (d : Nat) {B D : Int} (hB : B ≤ 1940000000 ∧ D ≤ 1940000000) {s0 : mh_H} (hI0 : mh_I B D s0) (p1 : Int32) (p2 : Int32) : mh_Mi l G (d + 3) mM_X9_tells [.ref (G.2.2.2 0), .int p1, .int p2] s0 (P_eX9_tells B D s0 p1 p2) := by
  refine mh_enter (lv := [(0, .ref (G.2.2.2 0)), (1, .int p1), (2, .int p2)]) (by decide) rfl (Nat.le_of_ble_eq_true rfl) ?_
  refine mw_iload_n 1 rfl 1 dX9_tells_0 rfl rfl ?_
  refine mw_iload_n 2 rfl 2 dX9_tells_1 rfl rfl ?_
  refine mw_callSi [.int p1, .int p2] [] 5 rfl dX9_tells_2 ml_X9_252 mc_X9_arePrices mk_X9_arePrices (w_eX9_arePrices l G (d + 1) ⟨by omega, by omega⟩ hI0 p1 p2) rfl rfl (Nat.le_of_ble_eq_true rfl) (mh_rok (by omega) (by decide)) (fun x75 s76 q77 => ?_)
  obtain ⟨r_x75, E_s76, e0_s76, rfl⟩ := q77
  refine mw_if_ne 8 rfl 10 dX9_tells_5 (by decide) (fun c78 => ?_) (fun c78 => ?_)
  · skip
    have r_p1 : mh_r p1 (0) (999) := ⟨by have := e0_s76.1 (mh_z1 r_x75 c78); have := ((mh_r_full p1)).1; omega, by have := e0_s76.1 (mh_z1 r_x75 c78); have := ((mh_r_full p1)).2; omega⟩
    have r_p2 : mh_r p2 (0) (999) := ⟨by have := e0_s76.1 (mh_z1 r_x75 c78); have := ((mh_r_full p2)).1; omega, by have := e0_s76.1 (mh_z1 r_x75 c78); have := ((mh_r_full p2)).2; omega⟩
    have r_x75 : mh_r x75 (1) (1) := mh_ne1 (show x75.toInt ≠ (0 : Int32).toInt from c78) r_x75 rc_0 (1) (1) (by decide)
    refine mw_iconst (v := 0) 11 rfl dX9_tells_10 (by decide) ?_
    refine mw_istore_n 12 rfl [(3, .int (0)), (0, .ref (G.2.2.2 0)), (1, .int p1), (2, .int p2)] dX9_tells_11 rfl (by decide) rfl ?_
    refine mw_ldcw 15 rfl dX9_tells_12 ck_X9_265 ?_
    refine mw_istore 17 rfl [(4, .int (2147483647)), (3, .int (0)), (0, .ref (G.2.2.2 0)), (1, .int p1), (2, .int p2)] dX9_tells_15  (by decide) rfl ?_
    refine mw_iconst (v := 0) 18 rfl dX9_tells_17 (by decide) ?_
    refine mw_istore 20 rfl [(5, .int (0)), (4, .int (2147483647)), (3, .int (0)), (0, .ref (G.2.2.2 0)), (1, .int p1), (2, .int p2)] dX9_tells_18  (by decide) rfl ?_
    have L20 : ∀ n1 : Nat, ∀ (x119 : Int32) (x120 : Int32) (x121 : Int32), mh_r x119 (0) (3) → mh_r x121 (0) (2) → (f_eX9_tells s0 p1 p2 = l_eX9_tells_20_1 s0 p1 p2 n1 x119 x120 x121) → (3) - x119.toInt < (n1 : Int) → mh_W G (mh_XM l G (d + 3) (mh_Qi (P_eX9_tells B D s0 p1 p2))) mM_X9_tells 20 [(0, .ref (G.2.2.2 0)), (1, .int p1), (2, .int p2), (3, .int x121), (4, .int x120), (5, .int x119)] [] s0 := by
      intro n1
      induction n1 with
      | zero =>
        intro x119 x120 x121 r_x119 r_x121 hE1 hmn1
        exact absurd hmn1 (by have := r_x119.1; have := r_x119.2; omega)
      | succ n1 ihn1 =>
        intro x119 x120 x121 r_x119 r_x121 hE1 hmn1
        rw [l_eX9_tells_20_1_s] at hE1
        refine mw_iload 22 rfl 5 dX9_tells_20  rfl ?_
        refine mw_iconst (v := 3) 23 rfl dX9_tells_22 (by decide) ?_
        refine mw_icmp_ge 26 rfl 70 dX9_tells_23 (by decide) (fun c137 => ?_) (fun c137 => ?_)
        · skip
          have r_x119 : mh_r x119 (3) (3) := mh_le2 c137 rc_3 r_x119 (3) (by decide)
          refine mw_iload_n 71 rfl 3 dX9_tells_70 rfl rfl ?_
          exact mw_iret dX9_tells_71 rfl ⟨x121, rfl, ⟨(mh_r_wk r_x121 (by decide)), (Eq.trans hE1 (mh_ifF (Int.not_lt.mpr c137) rfl)), rfl⟩⟩
        · skip
          have r_x119 : mh_r x119 (0) (2) := mh_lt1 c137 r_x119 rc_3 (2) (by decide)
          refine mw_aload_n 27 rfl 0 dX9_tells_26 rfl rfl ?_
          refine mw_geta 30 rfl dX9_tells_27 gf_X9_46 rfl 29 (mh_rf hI0 6 rfl) ?_
          refine mw_iload 32 rfl 5 dX9_tells_30  rfl ?_
          refine mw_aload_n 33 rfl 0 dX9_tells_32 rfl rfl ?_
          refine mw_geta 36 rfl dX9_tells_33 gf_X9_46 rfl 29 (mh_rf hI0 6 rfl) ?_
          refine mw_iload 38 rfl 5 dX9_tells_36  rfl ?_
          refine mw_iload_n 39 rfl 1 dX9_tells_38 rfl rfl ?_
          refine mw_iload_n 40 rfl 2 dX9_tells_39 rfl rfl ?_
          refine mw_callVi [.int x119, .int p1, .int p2] [.int x119, .ref (G.2.2.2 29)] 43 rfl dX9_tells_40 ml_X9_255 mc_X3_bestLine mk_X3_bestLine rfl rfl (by decide) (w_eX3_bestLine l G (d + 0) ⟨by omega, by omega⟩ hI0 x119 p1 p2) rfl rfl (Nat.le_of_ble_eq_true rfl) (mh_rok (by omega) (by decide)) (fun x138 s139 q140 => ?_)
          obtain ⟨r_x138, E_s139, rfl⟩ := q140
          refine mw_iload_n 44 rfl 1 dX9_tells_43 rfl rfl ?_
          refine mw_iload_n 45 rfl 2 dX9_tells_44 rfl rfl ?_
          refine mw_callVi [.int x119, .int x138, .int p1, .int p2] [] 48 rfl dX9_tells_45 ml_X9_259 mc_X3_lineCost mk_X3_lineCost rfl rfl (by decide) (w_eX3_lineCost l G (d + 1) ⟨by omega, by omega⟩ hI0 x119 x138 p1 p2) rfl rfl (Nat.le_of_ble_eq_true rfl) (mh_rok (by omega) (by decide)) (fun x141 s142 q143 => ?_)
          obtain ⟨r_x141, E_s142, rfl⟩ := q143
          refine mw_istore 50 rfl [(6, .int x141), (0, .ref (G.2.2.2 0)), (1, .int p1), (2, .int p2), (3, .int x121), (4, .int x120), (5, .int x119)] dX9_tells_48  (by decide) rfl ?_
          refine mw_iload 52 rfl 0 dX9_tells_50  rfl ?_
          refine mw_iload 54 rfl 5 dX9_tells_52  rfl ?_
          have J64 : ∀ (x145 : Int32) (x146 : Int32), mh_r x145 (0) (2) → (f_eX9_tells s0 p1 p2 = j_eX9_tells_64_2 (l_eX9_tells_20_1 s0 p1 p2 n1) x119 x145 x146) → mh_W G (mh_XM l G (d + 3) (mh_Qi (P_eX9_tells B D s0 p1 p2))) mM_X9_tells 64 [(0, .ref (G.2.2.2 0)), (1, .int p1), (2, .int p2), (3, .int x145), (4, .int x146), (5, .int x119), (6, .int x141)] [] s0 := by
            intro x145 x146 r_x145 hE2
            refine mw_iincR (k := 5) (1) (3) 67 rfl (fun z => [(5, .int z), (0, .ref (G.2.2.2 0)), (1, .int p1), (2, .int p2), (3, .int x145), (4, .int x146), (6, .int x141)]) dX9_tells_64 rfl (by decide) (fun _ => rfl) r_x119 (by decide) (by decide) (fun x149 t150 r_x149 => ?_)
            refine mw_goto 70 rfl 20 dX9_tells_67 (by decide) ?_
            exact mw_lv [1, 2, 3, 4, 5, 0] rfl (ihn1 x149 x146 x145 (mh_r_wk r_x149 (by decide)) r_x145 (Eq.trans hE2 (mh_lbT (mh_einc t150 rfl) rfl)) (by have : x149.toInt = x119.toInt + (1) := t150; omega))
          refine mw_icmp_ge 57 rfl 64 dX9_tells_54 (by decide) (fun c151 => ?_) (fun c151 => ?_)
          · skip
            exact mw_lv [1, 2, 3, 4, 5, 6, 0] rfl (J64 x121 x120 r_x121 (Eq.trans hE1 (mh_ifT c137 (mh_lbS E_s139 (mh_lbS E_s142 (mh_ifF (Int.not_lt.mpr c151) rfl))))))
          · skip
            have r_x141 : mh_r x141 (-2147483648) (2147483646) := mh_lt1 c151 r_x141 (mh_r_full x120) (2147483646) (by decide)
            have r_x120 : mh_r x120 (-2147483647) (2147483647) := mh_lt2 c151 r_x141 (mh_r_full x120) (-2147483647) (by decide)
            refine mw_iload 59 rfl 6 dX9_tells_57  rfl ?_
            refine mw_istore_n 60 rfl [(3, .int x119), (6, .int x141), (0, .ref (G.2.2.2 0)), (1, .int p1), (2, .int p2), (4, .int x120), (5, .int x119)] dX9_tells_59 rfl (by decide) rfl ?_
            refine mw_iload 62 rfl 1 dX9_tells_60  rfl ?_
            refine mw_istore 64 rfl [(4, .int x141), (3, .int x119), (6, .int x141), (0, .ref (G.2.2.2 0)), (1, .int p1), (2, .int p2), (5, .int x119)] dX9_tells_62  (by decide) rfl ?_
            exact mw_lv [3, 4, 5, 1, 0, 6, 2] rfl (J64 x119 x141 r_x119 (Eq.trans hE1 (mh_ifT c137 (mh_lbS E_s139 (mh_lbS E_s142 (mh_ifT c151 rfl))))))
    exact mw_lv [3, 4, 5, 2, 1, 0] rfl (L20 4 (0) (2147483647) (0) (mh_r_wk rc_0 (by decide)) (mh_r_wk rc_0 (by decide)) (mh_lbS E_s76 (mh_ifF c78 rfl)) (by have := (rc_0).1; have := (rc_0).2; omega))
  · skip
    have r_x75 : mh_r x75 (0) (0) := mh_eq1 (show x75.toInt = (0 : Int32).toInt from c78) r_x75 rc_0 (0) (0) (by decide)
    refine mw_iconst (v := -1) 9 rfl dX9_tells_8 (by decide) ?_
    exact mw_iret dX9_tells_9 rfl ⟨(-1), rfl, ⟨(mh_r_wk rc_m1 (by decide)), (mh_lbS E_s76 (mh_ifT c78 rfl)), rfl⟩⟩

def j_eX9_when_75_2 (lo_39_1 : Int32 → Int32 → Int32 → Int32) (x496 : Int32) (x517 : Int32) (x518 : Int32) : Int32 := mh_lb (x496 + (1 : Int32)) (fun x521 => (lo_39_1 x521 x518 x517))
def ls_eX9_when_39_1 (s0 : mh_H) (p1 : Int32) (p2 : Int32) (p3 : Int32) (lo_39_1 : Int32 → Int32 → Int32 → Int32) (x496 : Int32) (x497 : Int32) (x498 : Int32) : Int32 := if (999 : Int32).toInt < x496.toInt then if p3.toInt = 0 then x498 else x497 else mh_lb (f_eX3_sendCost s0 x496 p1 p2) (fun x513 => if x513.toInt < x497.toInt then (j_eX9_when_75_2 lo_39_1 x496 x496 x513) else (j_eX9_when_75_2 lo_39_1 x496 x498 x497))
def l_eX9_when_39_1 (s0 : mh_H) (p1 : Int32) (p2 : Int32) (p3 : Int32) : Nat → Int32 → Int32 → Int32 → Int32
  | 0 => fun _ _ _ => 0
  | n + 1 => ls_eX9_when_39_1 s0 p1 p2 p3 (l_eX9_when_39_1 s0 p1 p2 p3 n)
theorem l_eX9_when_39_1_s (s0 : mh_H) (p1 : Int32) (p2 : Int32) (p3 : Int32) (n : Nat) : l_eX9_when_39_1 s0 p1 p2 p3 (n + 1) = ls_eX9_when_39_1 s0 p1 p2 p3 (l_eX9_when_39_1 s0 p1 p2 p3 n) := rfl
def f_eX9_when (s0 : mh_H) (p1 : Int32) (p2 : Int32) (p3 : Int32) : Int32 := mh_lb (f_eX9_isWithin s0 p1 (99 : Int32)) (fun x261 => if x261.toInt = 0 then (-1 : Int32) else mh_lb (f_eX9_isWithin s0 p2 (99 : Int32)) (fun x265 => if x265.toInt = 0 then (-1 : Int32) else mh_lb (f_eX9_isWithin s0 p3 (1 : Int32)) (fun x269 => if x269.toInt = 0 then (-1 : Int32) else (l_eX9_when_39_1 s0 p1 p2 p3 1001 (0 : Int32) (2147483647 : Int32) (0 : Int32)))))
def P_eX9_when (B D : Int) (s0 : mh_H) (p1 : Int32) (p2 : Int32) (p3 : Int32) : Int32 → mh_H → Prop := fun z s => mh_r z (-2147483648) (2147483647) ∧ f_eX9_when s0 p1 p2 p3 = z ∧ s0 = s
set_option maxRecDepth 100000 in
set_option maxHeartbeats 4000000 in
theorem w_eX9_when (l : Launch) (G : mh_G) (d : Nat) {B D : Int} (hB : B ≤ 1980000000 ∧ D ≤ 1980000000) {s0 : mh_H} (hI0 : mh_I B D s0) (p1 : Int32) (p2 : Int32) (p3 : Int32) : mh_Mi l G (d + 1) mM_X9_when [.ref (G.2.2.2 0), .int p1, .int p2, .int p3] s0 (P_eX9_when B D s0 p1 p2 p3) := by
  refine mh_enter (lv := [(0, .ref (G.2.2.2 0)), (1, .int p1), (2, .int p2), (3, .int p3)]) (by decide) rfl (Nat.le_of_ble_eq_true rfl) ?_
  refine mw_iload_n 1 rfl 1 dX9_when_0 rfl rfl ?_
  refine mw_bipush (v := 99) 3 rfl dX9_when_1 (by decide) ?_
  refine mw_callSi [.int p1, .int (99)] [] 6 rfl dX9_when_3 ml_X9_98 mc_X9_isWithin mk_X9_isWithin (w_eX9_isWithin l G (d + 0) ⟨by omega, by omega⟩ hI0 p1 (99)) rfl rfl (Nat.le_of_ble_eq_true rfl) (mh_rok (by omega) (by decide)) (fun x261 s262 q263 => ?_)
  obtain ⟨r_x261, E_s262, e0_s262, rfl⟩ := q263
  refine mw_if_eq 9 rfl 26 dX9_when_6 (by decide) (fun c264 => ?_) (fun c264 => ?_)
  · skip
    have r_x261 : mh_r x261 (0) (0) := mh_eq1 (show x261.toInt = (0 : Int32).toInt from c264) r_x261 rc_0 (0) (0) (by decide)
    refine mw_iconst (v := -1) 27 rfl dX9_when_26 (by decide) ?_
    exact mw_iret dX9_when_27 rfl ⟨(-1), rfl, ⟨(mh_r_wk rc_m1 (by decide)), (mh_lbS E_s262 (mh_ifT c264 rfl)), rfl⟩⟩
  · skip
    have r_p1 : mh_r p1 (0) (99) := ⟨by have := e0_s262.1 (mh_z1 r_x261 c264); have := ((mh_r_full p1)).1; omega, by have := e0_s262.1 (mh_z1 r_x261 c264); have := ((mh_r_full p1)).2; have := (rc_99).2; omega⟩
    have r_x261 : mh_r x261 (1) (1) := mh_ne1 (show x261.toInt ≠ (0 : Int32).toInt from c264) r_x261 rc_0 (1) (1) (by decide)
    refine mw_iload_n 10 rfl 2 dX9_when_9 rfl rfl ?_
    refine mw_bipush (v := 99) 12 rfl dX9_when_10 (by decide) ?_
    refine mw_callSi [.int p2, .int (99)] [] 15 rfl dX9_when_12 ml_X9_98 mc_X9_isWithin mk_X9_isWithin (w_eX9_isWithin l G (d + 0) ⟨by omega, by omega⟩ hI0 p2 (99)) rfl rfl (Nat.le_of_ble_eq_true rfl) (mh_rok (by omega) (by decide)) (fun x265 s266 q267 => ?_)
    obtain ⟨r_x265, E_s266, e0_s266, rfl⟩ := q267
    refine mw_if_eq 18 rfl 26 dX9_when_15 (by decide) (fun c268 => ?_) (fun c268 => ?_)
    · skip
      have r_x265 : mh_r x265 (0) (0) := mh_eq1 (show x265.toInt = (0 : Int32).toInt from c268) r_x265 rc_0 (0) (0) (by decide)
      refine mw_iconst (v := -1) 27 rfl dX9_when_26 (by decide) ?_
      exact mw_iret dX9_when_27 rfl ⟨(-1), rfl, ⟨(mh_r_wk rc_m1 (by decide)), (mh_lbS E_s262 (mh_ifF c264 (mh_lbS E_s266 (mh_ifT c268 rfl)))), rfl⟩⟩
    · skip
      have r_p2 : mh_r p2 (0) (99) := ⟨by have := e0_s266.1 (mh_z1 r_x265 c268); have := ((mh_r_full p2)).1; omega, by have := e0_s266.1 (mh_z1 r_x265 c268); have := ((mh_r_full p2)).2; have := (rc_99).2; omega⟩
      have r_x265 : mh_r x265 (1) (1) := mh_ne1 (show x265.toInt ≠ (0 : Int32).toInt from c268) r_x265 rc_0 (1) (1) (by decide)
      refine mw_iload_n 19 rfl 3 dX9_when_18 rfl rfl ?_
      refine mw_iconst (v := 1) 20 rfl dX9_when_19 (by decide) ?_
      refine mw_callSi [.int p3, .int (1)] [] 23 rfl dX9_when_20 ml_X9_98 mc_X9_isWithin mk_X9_isWithin (w_eX9_isWithin l G (d + 0) ⟨by omega, by omega⟩ hI0 p3 (1)) rfl rfl (Nat.le_of_ble_eq_true rfl) (mh_rok (by omega) (by decide)) (fun x269 s270 q271 => ?_)
      obtain ⟨r_x269, E_s270, e0_s270, rfl⟩ := q271
      refine mw_if_ne 26 rfl 28 dX9_when_23 (by decide) (fun c272 => ?_) (fun c272 => ?_)
      · skip
        have r_p3 : mh_r p3 (0) (1) := ⟨by have := e0_s270.1 (mh_z1 r_x269 c272); have := ((mh_r_full p3)).1; omega, by have := e0_s270.1 (mh_z1 r_x269 c272); have := ((mh_r_full p3)).2; have := (rc_1).2; omega⟩
        have r_x269 : mh_r x269 (1) (1) := mh_ne1 (show x269.toInt ≠ (0 : Int32).toInt from c272) r_x269 rc_0 (1) (1) (by decide)
        refine mw_iconst (v := 0) 29 rfl dX9_when_28 (by decide) ?_
        refine mw_istore 31 rfl [(4, .int (0)), (0, .ref (G.2.2.2 0)), (1, .int p1), (2, .int p2), (3, .int p3)] dX9_when_29  (by decide) rfl ?_
        refine mw_ldcw 34 rfl dX9_when_31 ck_X9_265 ?_
        refine mw_istore 36 rfl [(5, .int (2147483647)), (4, .int (0)), (0, .ref (G.2.2.2 0)), (1, .int p1), (2, .int p2), (3, .int p3)] dX9_when_34  (by decide) rfl ?_
        refine mw_iconst (v := 0) 37 rfl dX9_when_36 (by decide) ?_
        refine mw_istore 39 rfl [(6, .int (0)), (5, .int (2147483647)), (4, .int (0)), (0, .ref (G.2.2.2 0)), (1, .int p1), (2, .int p2), (3, .int p3)] dX9_when_37  (by decide) rfl ?_
        have L39 : ∀ n1 : Nat, ∀ (x496 : Int32) (x497 : Int32) (x498 : Int32), mh_r x496 (0) (1000) → mh_r x498 (0) (999) → (f_eX9_when s0 p1 p2 p3 = l_eX9_when_39_1 s0 p1 p2 p3 n1 x496 x497 x498) → (1000) - x496.toInt < (n1 : Int) → mh_W G (mh_XM l G (d + 1) (mh_Qi (P_eX9_when B D s0 p1 p2 p3))) mM_X9_when 39 [(0, .ref (G.2.2.2 0)), (1, .int p1), (2, .int p2), (3, .int p3), (4, .int x498), (5, .int x497), (6, .int x496)] [] s0 := by
          intro n1
          induction n1 with
          | zero =>
            intro x496 x497 x498 r_x496 r_x498 hE1 hmn1
            exact absurd hmn1 (by have := r_x496.1; have := r_x496.2; omega)
          | succ n1 ihn1 =>
            intro x496 x497 x498 r_x496 r_x498 hE1 hmn1
            rw [l_eX9_when_39_1_s] at hE1
            refine mw_iload 41 rfl 6 dX9_when_39  rfl ?_
            refine mw_sipush (v := 999) 44 rfl dX9_when_41 (by decide) ?_
            refine mw_icmp_gt 47 rfl 81 dX9_when_44 (by decide) (fun c511 => ?_) (fun c511 => ?_)
            · skip
              have r_x496 : mh_r x496 (1000) (1000) := mh_lt2 c511 rc_999 r_x496 (1000) (by decide)
              refine mw_iload_n 82 rfl 3 dX9_when_81 rfl rfl ?_
              refine mw_if_ne 85 rfl 90 dX9_when_82 (by decide) (fun c512 => ?_) (fun c512 => ?_)
              · skip
                have r_p3 : mh_r p3 (1) (1) := mh_ne1 (show p3.toInt ≠ (0 : Int32).toInt from c512) r_p3 rc_0 (1) (1) (by decide)
                refine mw_iload 92 rfl 5 dX9_when_90  rfl ?_
                exact mw_iret dX9_when_92 rfl ⟨x497, rfl, ⟨(mh_r_full x497), (Eq.trans hE1 (mh_ifT c511 (mh_ifF c512 rfl))), rfl⟩⟩
              · skip
                have r_p3 : mh_r p3 (0) (0) := mh_eq1 (show p3.toInt = (0 : Int32).toInt from c512) r_p3 rc_0 (0) (0) (by decide)
                refine mw_iload 87 rfl 4 dX9_when_85  rfl ?_
                refine mw_goto 90 rfl 92 dX9_when_87 (by decide) ?_
                exact mw_iret dX9_when_92 rfl ⟨x498, rfl, ⟨(mh_r_wk r_x498 (by decide)), (Eq.trans hE1 (mh_ifT c511 (mh_ifT c512 rfl))), rfl⟩⟩
            · skip
              have r_x496 : mh_r x496 (0) (999) := mh_le1 c511 r_x496 rc_999 (999) (by decide)
              refine mw_aload_n 48 rfl 0 dX9_when_47 rfl rfl ?_
              refine mw_geta 51 rfl dX9_when_48 gf_X9_46 rfl 29 (mh_rf hI0 6 rfl) ?_
              refine mw_iload 53 rfl 6 dX9_when_51  rfl ?_
              refine mw_iload_n 54 rfl 1 dX9_when_53 rfl rfl ?_
              refine mw_iload_n 55 rfl 2 dX9_when_54 rfl rfl ?_
              refine mw_callVi [.int x496, .int p1, .int p2] [] 58 rfl dX9_when_55 ml_X9_281 mc_X3_sendCost mk_X3_sendCost rfl rfl (by decide) (w_eX3_sendCost l G (d + 0) ⟨by omega, by omega⟩ hI0 x496 p1 p2) rfl rfl (Nat.le_of_ble_eq_true rfl) (mh_rok (by omega) (by decide)) (fun x513 s514 q515 => ?_)
              obtain ⟨r_x513, E_s514, rfl⟩ := q515
              refine mw_istore 60 rfl [(7, .int x513), (0, .ref (G.2.2.2 0)), (1, .int p1), (2, .int p2), (3, .int p3), (4, .int x498), (5, .int x497), (6, .int x496)] dX9_when_58  (by decide) rfl ?_
              refine mw_iload 62 rfl 0 dX9_when_60  rfl ?_
              refine mw_iload 64 rfl 6 dX9_when_62  rfl ?_
              have J75 : ∀ (x517 : Int32) (x518 : Int32), mh_r x517 (0) (999) → (f_eX9_when s0 p1 p2 p3 = j_eX9_when_75_2 (l_eX9_when_39_1 s0 p1 p2 p3 n1) x496 x517 x518) → mh_W G (mh_XM l G (d + 1) (mh_Qi (P_eX9_when B D s0 p1 p2 p3))) mM_X9_when 75 [(0, .ref (G.2.2.2 0)), (1, .int p1), (2, .int p2), (3, .int p3), (4, .int x517), (5, .int x518), (6, .int x496), (7, .int x513)] [] s0 := by
                intro x517 x518 r_x517 hE2
                refine mw_iincR (k := 6) (1) (1000) 78 rfl (fun z => [(6, .int z), (0, .ref (G.2.2.2 0)), (1, .int p1), (2, .int p2), (3, .int p3), (4, .int x517), (5, .int x518), (7, .int x513)]) dX9_when_75 rfl (by decide) (fun _ => rfl) r_x496 (by decide) (by decide) (fun x521 t522 r_x521 => ?_)
                refine mw_goto 81 rfl 39 dX9_when_78 (by decide) ?_
                exact mw_lv [1, 2, 3, 4, 5, 6, 0] rfl (ihn1 x521 x518 x517 (mh_r_wk r_x521 (by decide)) r_x517 (Eq.trans hE2 (mh_lbT (mh_einc t522 rfl) rfl)) (by have : x521.toInt = x496.toInt + (1) := t522; omega))
              refine mw_icmp_ge 67 rfl 75 dX9_when_64 (by decide) (fun c523 => ?_) (fun c523 => ?_)
              · skip
                exact mw_lv [1, 2, 3, 4, 5, 6, 7, 0] rfl (J75 x498 x497 r_x498 (Eq.trans hE1 (mh_ifF (Int.not_lt.mpr c511) (mh_lbS E_s514 (mh_ifF (Int.not_lt.mpr c523) rfl)))))
              · skip
                have r_x513 : mh_r x513 (-2147483648) (2147483646) := mh_lt1 c523 r_x513 (mh_r_full x497) (2147483646) (by decide)
                have r_x497 : mh_r x497 (-2147483647) (2147483647) := mh_lt2 c523 r_x513 (mh_r_full x497) (-2147483647) (by decide)
                refine mw_iload 69 rfl 7 dX9_when_67  rfl ?_
                refine mw_istore 71 rfl [(4, .int x496), (7, .int x513), (0, .ref (G.2.2.2 0)), (1, .int p1), (2, .int p2), (3, .int p3), (5, .int x497), (6, .int x496)] dX9_when_69  (by decide) rfl ?_
                refine mw_iload 73 rfl 1 dX9_when_71  rfl ?_
                refine mw_istore 75 rfl [(5, .int x513), (4, .int x496), (7, .int x513), (0, .ref (G.2.2.2 0)), (1, .int p1), (2, .int p2), (3, .int p3), (6, .int x496)] dX9_when_73  (by decide) rfl ?_
                exact mw_lv [3, 4, 5, 6, 1, 0, 7, 2] rfl (J75 x496 x513 r_x496 (Eq.trans hE1 (mh_ifF (Int.not_lt.mpr c511) (mh_lbS E_s514 (mh_ifT c523 rfl)))))
        exact mw_lv [3, 4, 5, 6, 2, 1, 0] rfl (L39 1001 (0) (2147483647) (0) (mh_r_wk rc_0 (by decide)) (mh_r_wk rc_0 (by decide)) (mh_lbS E_s262 (mh_ifF c264 (mh_lbS E_s266 (mh_ifF c268 (mh_lbS E_s270 (mh_ifF c272 rfl)))))) (by have := (rc_0).1; have := (rc_0).2; omega))
      · skip
        have r_x269 : mh_r x269 (0) (0) := mh_eq1 (show x269.toInt = (0 : Int32).toInt from c272) r_x269 rc_0 (0) (0) (by decide)
        refine mw_iconst (v := -1) 27 rfl dX9_when_26 (by decide) ?_
        exact mw_iret dX9_when_27 rfl ⟨(-1), rfl, ⟨(mh_r_wk rc_m1 (by decide)), (mh_lbS E_s262 (mh_ifF c264 (mh_lbS E_s266 (mh_ifF c268 (mh_lbS E_s270 (mh_ifT c272 rfl)))))), rfl⟩⟩

def S_eX10_was : List (Nat × Nat) := [(97, 9999), (98, 9999), (99, 9999), (57, 58)]
def f_eX10_was (s0 : mh_H) (p1 : Int32) (p2 : Int32) (p3 : Int32) (p4 : Int32) (p5 : Int32) : Int32 × mh_H := mh_lb (Int32.toInt64 p1) (fun y72 => mh_lb (f_eX10_lies s0 y72 (0 : Int64) (99 : Int64)) (fun x74 => if x74.toInt = 0 then ((-1 : Int32), s0) else mh_lb (Int32.toInt64 p2) (fun y78 => mh_lb (f_eX10_lies s0 y78 (0 : Int64) (99 : Int64)) (fun x80 => if x80.toInt = 0 then ((-1 : Int32), s0) else mh_lb (Int32.toInt64 p3) (fun y84 => mh_lb (f_eX10_lies s0 y84 (0 : Int64) (99 : Int64)) (fun x86 => if x86.toInt = 0 then ((-1 : Int32), s0) else mh_lb (Int32.toInt64 p4) (fun y90 => mh_lb (f_eX10_lies s0 y90 (0 : Int64) (99 : Int64)) (fun x92 => if x92.toInt = 0 then ((-1 : Int32), s0) else mh_lb (Int32.toInt64 p5) (fun y96 => mh_lb (f_eX10_lies s0 y96 (0 : Int64) (999 : Int64)) (fun x98 => if x98.toInt = 0 then ((-1 : Int32), s0) else mh_lb (s0.1 57 58) (fun x102 => if x102.toInt = (60 : Int32).toInt then ((-1 : Int32), s0) else mh_lb ((3 : Int32) * x102) (fun x107 => mh_lb (mh_pI s0 97 x107.toNatClampNeg p1) (fun s109 => mh_lb (x107 + (1 : Int32)) (fun x116 => mh_lb (mh_pI s109 97 x116.toNatClampNeg p2) (fun s118 => mh_lb (x107 + (2 : Int32)) (fun x125 => mh_lb (mh_pI s118 97 x125.toNatClampNeg p3) (fun s127 => mh_lb (mh_pI s127 98 x102.toNatClampNeg p4) (fun s132 => mh_lb (mh_pI s132 99 x102.toNatClampNeg p5) (fun s137 => mh_lb (x102 + (1 : Int32)) (fun x142 => mh_lb (mh_pI s137 57 58 x142) (fun s144 => (x142, s144))))))))))))))))))))))
def P_eX10_was (B D : Int) (s0 : mh_H) (p1 : Int32) (p2 : Int32) (p3 : Int32) (p4 : Int32) (p5 : Int32) : Int32 → mh_H → Prop := fun z s => mh_r z (-1) (60) ∧ f_eX10_was s0 p1 p2 p3 p4 p5 = (z, s) ∧ mh_I B D s ∧ mh_F S_eX10_was s0 s
set_option maxRecDepth 100000 in
set_option maxHeartbeats 4000000 in
theorem w_eX10_was (l : Launch) (G : mh_G) (d : Nat) {B D : Int} (hB : B ≤ 1980000000 ∧ D ≤ 1980000000) {s0 : mh_H} (hI0 : mh_I B D s0) (p1 : Int32) (p2 : Int32) (p3 : Int32) (p4 : Int32) (p5 : Int32) : mh_Mi l G (d + 1) mM_X10_was [.ref (G.2.2.2 57), .int p1, .int p2, .int p3, .int p4, .int p5] s0 (P_eX10_was B D s0 p1 p2 p3 p4 p5) := by
  refine mh_enter (lv := [(0, .ref (G.2.2.2 57)), (1, .int p1), (2, .int p2), (3, .int p3), (4, .int p4), (5, .int p5)]) (by decide) rfl (Nat.le_of_ble_eq_true rfl) ?_
  have hF0 : mh_F S_eX10_was s0 s0 := mh_F_rf
  refine mw_iload_n 1 rfl 1 dX10_was_0 rfl rfl ?_
  refine mw_i2l 2 rfl dX10_was_1 (fun y72 t73 => ?_)
  refine mw_lconst (v := 0) 3 rfl dX10_was_2 (by decide) ?_
  refine mw_ldc2 6 rfl dX10_was_3 ck_X10_170 ?_
  refine mw_callSi [.long y72, .long (0), .long (99)] [] 9 rfl dX10_was_6 ml_X10_154 mc_X10_lies mk_X10_lies (w_eX10_lies l G (d + 0) ⟨by omega, by omega⟩ hI0 y72 (0) (99)) rfl rfl (Nat.le_of_ble_eq_true rfl) (mh_rok (by omega) (by decide)) (fun x74 s75 q76 => ?_)
  obtain ⟨r_x74, E_s75, e0_s75, rfl⟩ := q76
  have f_x74 : x74.toInt = 1 ↔ (0 ≤ p1.toInt ∧ p1.toInt ≤ 99) := by rw [e0_s75]; exact by simp only [t73, Int32.toInt_toInt64]; first | done | exact Iff.rfl
  refine mw_if_eq 12 rfl 71 dX10_was_9 (by decide) (fun c77 => ?_) (fun c77 => ?_)
  · skip
    have r_x74 : mh_r x74 (0) (0) := mh_eq1 (show x74.toInt = (0 : Int32).toInt from c77) r_x74 rc_0 (0) (0) (by decide)
    refine mw_iconst (v := -1) 72 rfl dX10_was_71 (by decide) ?_
    exact mw_iret dX10_was_72 rfl ⟨(-1), rfl, ⟨(mh_r_wk rc_m1 (by decide)), (mh_lbT t73 (mh_lbS E_s75 (mh_ifT c77 rfl))), hI0, hF0⟩⟩
  · skip
    have r_p1 : mh_r p1 (0) (99) := ⟨by have := f_x74.1 (mh_z1 r_x74 c77); have := ((mh_r_full p1)).1; omega, by have := f_x74.1 (mh_z1 r_x74 c77); have := ((mh_r_full p1)).2; omega⟩
    have r_x74 : mh_r x74 (1) (1) := mh_ne1 (show x74.toInt ≠ (0 : Int32).toInt from c77) r_x74 rc_0 (1) (1) (by decide)
    refine mw_iload_n 13 rfl 2 dX10_was_12 rfl rfl ?_
    refine mw_i2l 14 rfl dX10_was_13 (fun y78 t79 => ?_)
    refine mw_lconst (v := 0) 15 rfl dX10_was_14 (by decide) ?_
    refine mw_ldc2 18 rfl dX10_was_15 ck_X10_170 ?_
    refine mw_callSi [.long y78, .long (0), .long (99)] [] 21 rfl dX10_was_18 ml_X10_154 mc_X10_lies mk_X10_lies (w_eX10_lies l G (d + 0) ⟨by omega, by omega⟩ hI0 y78 (0) (99)) rfl rfl (Nat.le_of_ble_eq_true rfl) (mh_rok (by omega) (by decide)) (fun x80 s81 q82 => ?_)
    obtain ⟨r_x80, E_s81, e0_s81, rfl⟩ := q82
    have f_x80 : x80.toInt = 1 ↔ (0 ≤ p2.toInt ∧ p2.toInt ≤ 99) := by rw [e0_s81]; exact by simp only [t79, Int32.toInt_toInt64]; first | done | exact Iff.rfl
    refine mw_if_eq 24 rfl 71 dX10_was_21 (by decide) (fun c83 => ?_) (fun c83 => ?_)
    · skip
      have r_x80 : mh_r x80 (0) (0) := mh_eq1 (show x80.toInt = (0 : Int32).toInt from c83) r_x80 rc_0 (0) (0) (by decide)
      refine mw_iconst (v := -1) 72 rfl dX10_was_71 (by decide) ?_
      exact mw_iret dX10_was_72 rfl ⟨(-1), rfl, ⟨(mh_r_wk rc_m1 (by decide)), (mh_lbT t73 (mh_lbS E_s75 (mh_ifF c77 (mh_lbT t79 (mh_lbS E_s81 (mh_ifT c83 rfl)))))), hI0, hF0⟩⟩
    · skip
      have r_p2 : mh_r p2 (0) (99) := ⟨by have := f_x80.1 (mh_z1 r_x80 c83); have := ((mh_r_full p2)).1; omega, by have := f_x80.1 (mh_z1 r_x80 c83); have := ((mh_r_full p2)).2; omega⟩
      have r_x80 : mh_r x80 (1) (1) := mh_ne1 (show x80.toInt ≠ (0 : Int32).toInt from c83) r_x80 rc_0 (1) (1) (by decide)
      refine mw_iload_n 25 rfl 3 dX10_was_24 rfl rfl ?_
      refine mw_i2l 26 rfl dX10_was_25 (fun y84 t85 => ?_)
      refine mw_lconst (v := 0) 27 rfl dX10_was_26 (by decide) ?_
      refine mw_ldc2 30 rfl dX10_was_27 ck_X10_170 ?_
      refine mw_callSi [.long y84, .long (0), .long (99)] [] 33 rfl dX10_was_30 ml_X10_154 mc_X10_lies mk_X10_lies (w_eX10_lies l G (d + 0) ⟨by omega, by omega⟩ hI0 y84 (0) (99)) rfl rfl (Nat.le_of_ble_eq_true rfl) (mh_rok (by omega) (by decide)) (fun x86 s87 q88 => ?_)
      obtain ⟨r_x86, E_s87, e0_s87, rfl⟩ := q88
      have f_x86 : x86.toInt = 1 ↔ (0 ≤ p3.toInt ∧ p3.toInt ≤ 99) := by rw [e0_s87]; exact by simp only [t85, Int32.toInt_toInt64]; first | done | exact Iff.rfl
      refine mw_if_eq 36 rfl 71 dX10_was_33 (by decide) (fun c89 => ?_) (fun c89 => ?_)
      · skip
        have r_x86 : mh_r x86 (0) (0) := mh_eq1 (show x86.toInt = (0 : Int32).toInt from c89) r_x86 rc_0 (0) (0) (by decide)
        refine mw_iconst (v := -1) 72 rfl dX10_was_71 (by decide) ?_
        exact mw_iret dX10_was_72 rfl ⟨(-1), rfl, ⟨(mh_r_wk rc_m1 (by decide)), (mh_lbT t73 (mh_lbS E_s75 (mh_ifF c77 (mh_lbT t79 (mh_lbS E_s81 (mh_ifF c83 (mh_lbT t85 (mh_lbS E_s87 (mh_ifT c89 rfl))))))))), hI0, hF0⟩⟩
      · skip
        have r_p3 : mh_r p3 (0) (99) := ⟨by have := f_x86.1 (mh_z1 r_x86 c89); have := ((mh_r_full p3)).1; omega, by have := f_x86.1 (mh_z1 r_x86 c89); have := ((mh_r_full p3)).2; omega⟩
        have r_x86 : mh_r x86 (1) (1) := mh_ne1 (show x86.toInt ≠ (0 : Int32).toInt from c89) r_x86 rc_0 (1) (1) (by decide)
        refine mw_iload 38 rfl 4 dX10_was_36  rfl ?_
        refine mw_i2l 39 rfl dX10_was_38 (fun y90 t91 => ?_)
        refine mw_lconst (v := 0) 40 rfl dX10_was_39 (by decide) ?_
        refine mw_ldc2 43 rfl dX10_was_40 ck_X10_170 ?_
        refine mw_callSi [.long y90, .long (0), .long (99)] [] 46 rfl dX10_was_43 ml_X10_154 mc_X10_lies mk_X10_lies (w_eX10_lies l G (d + 0) ⟨by omega, by omega⟩ hI0 y90 (0) (99)) rfl rfl (Nat.le_of_ble_eq_true rfl) (mh_rok (by omega) (by decide)) (fun x92 s93 q94 => ?_)
        obtain ⟨r_x92, E_s93, e0_s93, rfl⟩ := q94
        have f_x92 : x92.toInt = 1 ↔ (0 ≤ p4.toInt ∧ p4.toInt ≤ 99) := by rw [e0_s93]; exact by simp only [t91, Int32.toInt_toInt64]; first | done | exact Iff.rfl
        refine mw_if_eq 49 rfl 71 dX10_was_46 (by decide) (fun c95 => ?_) (fun c95 => ?_)
        · skip
          have r_x92 : mh_r x92 (0) (0) := mh_eq1 (show x92.toInt = (0 : Int32).toInt from c95) r_x92 rc_0 (0) (0) (by decide)
          refine mw_iconst (v := -1) 72 rfl dX10_was_71 (by decide) ?_
          exact mw_iret dX10_was_72 rfl ⟨(-1), rfl, ⟨(mh_r_wk rc_m1 (by decide)), (mh_lbT t73 (mh_lbS E_s75 (mh_ifF c77 (mh_lbT t79 (mh_lbS E_s81 (mh_ifF c83 (mh_lbT t85 (mh_lbS E_s87 (mh_ifF c89 (mh_lbT t91 (mh_lbS E_s93 (mh_ifT c95 rfl)))))))))))), hI0, hF0⟩⟩
        · skip
          have r_p4 : mh_r p4 (0) (99) := ⟨by have := f_x92.1 (mh_z1 r_x92 c95); have := ((mh_r_full p4)).1; omega, by have := f_x92.1 (mh_z1 r_x92 c95); have := ((mh_r_full p4)).2; omega⟩
          have r_x92 : mh_r x92 (1) (1) := mh_ne1 (show x92.toInt ≠ (0 : Int32).toInt from c95) r_x92 rc_0 (1) (1) (by decide)
          refine mw_iload 51 rfl 5 dX10_was_49  rfl ?_
          refine mw_i2l 52 rfl dX10_was_51 (fun y96 t97 => ?_)
          refine mw_lconst (v := 0) 53 rfl dX10_was_52 (by decide) ?_
          refine mw_ldc2 56 rfl dX10_was_53 ck_X10_430 ?_
          refine mw_callSi [.long y96, .long (0), .long (999)] [] 59 rfl dX10_was_56 ml_X10_154 mc_X10_lies mk_X10_lies (w_eX10_lies l G (d + 0) ⟨by omega, by omega⟩ hI0 y96 (0) (999)) rfl rfl (Nat.le_of_ble_eq_true rfl) (mh_rok (by omega) (by decide)) (fun x98 s99 q100 => ?_)
          obtain ⟨r_x98, E_s99, e0_s99, rfl⟩ := q100
          have f_x98 : x98.toInt = 1 ↔ (0 ≤ p5.toInt ∧ p5.toInt ≤ 999) := by rw [e0_s99]; exact by simp only [t97, Int32.toInt_toInt64]; first | done | exact Iff.rfl
          refine mw_if_eq 62 rfl 71 dX10_was_59 (by decide) (fun c101 => ?_) (fun c101 => ?_)
          · skip
            have r_x98 : mh_r x98 (0) (0) := mh_eq1 (show x98.toInt = (0 : Int32).toInt from c101) r_x98 rc_0 (0) (0) (by decide)
            refine mw_iconst (v := -1) 72 rfl dX10_was_71 (by decide) ?_
            exact mw_iret dX10_was_72 rfl ⟨(-1), rfl, ⟨(mh_r_wk rc_m1 (by decide)), (mh_lbT t73 (mh_lbS E_s75 (mh_ifF c77 (mh_lbT t79 (mh_lbS E_s81 (mh_ifF c83 (mh_lbT t85 (mh_lbS E_s87 (mh_ifF c89 (mh_lbT t91 (mh_lbS E_s93 (mh_ifF c95 (mh_lbT t97 (mh_lbS E_s99 (mh_ifT c101 rfl))))))))))))))), hI0, hF0⟩⟩
          · skip
            have r_p5 : mh_r p5 (0) (999) := ⟨by have := f_x98.1 (mh_z1 r_x98 c101); have := ((mh_r_full p5)).1; omega, by have := f_x98.1 (mh_z1 r_x98 c101); have := ((mh_r_full p5)).2; omega⟩
            have r_x98 : mh_r x98 (1) (1) := mh_ne1 (show x98.toInt ≠ (0 : Int32).toInt from c101) r_x98 rc_0 (1) (1) (by decide)
            refine mw_aload_n 63 rfl 0 dX10_was_62 rfl rfl ?_
            refine mw_geti 66 rfl dX10_was_63 gf_X10_432 rfl (fun x102 t103 => ?_)
            have r_x102 : mh_r x102 (0) (60) := by rw [t103]; exact rd_57_58 hI0
            refine mw_bipush (v := 60) 68 rfl dX10_was_66 (by decide) ?_
            refine mw_icmp_ne 71 rfl 73 dX10_was_68 (by decide) (fun c104 => ?_) (fun c104 => ?_)
            · skip
              have r_x102 : mh_r x102 (0) (59) := mh_ne1 c104 r_x102 rc_60 (0) (59) (by decide)
              refine mw_aload_n 74 rfl 0 dX10_was_73 rfl rfl ?_
              refine mw_geta 77 rfl dX10_was_74 gf_X10_134 rfl 97 (mh_rf hI0 94 rfl) ?_
              refine mw_iconst (v := 3) 78 rfl dX10_was_77 (by decide) ?_
              refine mw_aload_n 79 rfl 0 dX10_was_78 rfl rfl ?_
              refine mw_geti 82 rfl dX10_was_79 gf_X10_432 rfl (fun x105 t106 => ?_)
              obtain rfl : x102 = x105 := t103.trans t106.symm
              refine mw_imul 83 rfl (0) (177) dX10_was_82 rc_3 r_x102 (by decide) (fun x107 t108 r_x107 => ?_)
              refine mw_iload_n 84 rfl 1 dX10_was_83 rfl rfl ?_
              refine mw_iast 85 rfl dX10_was_84 rfl r_x107 (by decide) (fun s109 t110 => ?_)
              have hI_s109 : mh_I B D s109 := by rw [t110]; exact wr_97 hI0
              have hF_s109 : mh_F S_eX10_was s0 s109 := by rw [t110]; exact mh_F_pI hF0 (mh_si 0 rfl)
              refine mw_aload_n 86 rfl 0 dX10_was_85 rfl rfl ?_
              refine mw_geta 89 rfl dX10_was_86 gf_X10_134 rfl 97 (mh_rf hI_s109 94 rfl) ?_
              refine mw_iconst (v := 3) 90 rfl dX10_was_89 (by decide) ?_
              refine mw_aload_n 91 rfl 0 dX10_was_90 rfl rfl ?_
              refine mw_geti 94 rfl dX10_was_91 gf_X10_432 rfl (fun x111 t112 => ?_)
              have t113 : x102 = s109.1 57 58 := by rw [t110]; exact (t103).trans (mh_pI_n (by omega)).symm
              obtain rfl : x102 = x111 := t113.trans t112.symm
              refine mw_imul 95 rfl (0) (177) dX10_was_94 rc_3 r_x102 (by decide) (fun x114 t115 r_x114 => ?_)
              obtain rfl : x107 = x114 := Int32.toInt_inj.mp (t108.trans t115.symm)
              refine mw_iconst (v := 1) 96 rfl dX10_was_95 (by decide) ?_
              refine mw_iadd 97 rfl (1) (178) dX10_was_96 r_x107 rc_1 (by decide) (fun x116 t117 r_x116 => ?_)
              refine mw_iload_n 98 rfl 2 dX10_was_97 rfl rfl ?_
              refine mw_iast 99 rfl dX10_was_98 rfl r_x116 (by decide) (fun s118 t119 => ?_)
              have hI_s118 : mh_I B D s118 := by rw [t119]; exact wr_97 hI_s109
              have hF_s118 : mh_F S_eX10_was s0 s118 := by rw [t119]; exact mh_F_pI hF_s109 (mh_si 0 rfl)
              refine mw_aload_n 100 rfl 0 dX10_was_99 rfl rfl ?_
              refine mw_geta 103 rfl dX10_was_100 gf_X10_134 rfl 97 (mh_rf hI_s118 94 rfl) ?_
              refine mw_iconst (v := 3) 104 rfl dX10_was_103 (by decide) ?_
              refine mw_aload_n 105 rfl 0 dX10_was_104 rfl rfl ?_
              refine mw_geti 108 rfl dX10_was_105 gf_X10_432 rfl (fun x120 t121 => ?_)
              have t122 : x102 = s118.1 57 58 := by rw [t119]; exact (t113).trans (mh_pI_n (by omega)).symm
              obtain rfl : x102 = x120 := t122.trans t121.symm
              refine mw_imul 109 rfl (0) (177) dX10_was_108 rc_3 r_x102 (by decide) (fun x123 t124 r_x123 => ?_)
              obtain rfl : x107 = x123 := Int32.toInt_inj.mp (t108.trans t124.symm)
              refine mw_iconst (v := 2) 110 rfl dX10_was_109 (by decide) ?_
              refine mw_iadd 111 rfl (2) (179) dX10_was_110 r_x107 rc_2 (by decide) (fun x125 t126 r_x125 => ?_)
              refine mw_iload_n 112 rfl 3 dX10_was_111 rfl rfl ?_
              refine mw_iast 113 rfl dX10_was_112 rfl r_x125 (by decide) (fun s127 t128 => ?_)
              have hI_s127 : mh_I B D s127 := by rw [t128]; exact wr_97 hI_s118
              have hF_s127 : mh_F S_eX10_was s0 s127 := by rw [t128]; exact mh_F_pI hF_s118 (mh_si 0 rfl)
              refine mw_aload_n 114 rfl 0 dX10_was_113 rfl rfl ?_
              refine mw_geta 117 rfl dX10_was_114 gf_X10_137 rfl 98 (mh_rf hI_s127 95 rfl) ?_
              refine mw_aload_n 118 rfl 0 dX10_was_117 rfl rfl ?_
              refine mw_geti 121 rfl dX10_was_118 gf_X10_432 rfl (fun x129 t130 => ?_)
              have t131 : x102 = s127.1 57 58 := by rw [t128]; exact (t122).trans (mh_pI_n (by omega)).symm
              obtain rfl : x102 = x129 := t131.trans t130.symm
              refine mw_iload 123 rfl 4 dX10_was_121  rfl ?_
              refine mw_iast 124 rfl dX10_was_123 rfl r_x102 (by decide) (fun s132 t133 => ?_)
              have hI_s132 : mh_I B D s132 := by rw [t133]; exact wr_98 hI_s127
              have hF_s132 : mh_F S_eX10_was s0 s132 := by rw [t133]; exact mh_F_pI hF_s127 (mh_si 1 rfl)
              refine mw_aload_n 125 rfl 0 dX10_was_124 rfl rfl ?_
              refine mw_geta 128 rfl dX10_was_125 gf_X10_140 rfl 99 (mh_rf hI_s132 96 rfl) ?_
              refine mw_aload_n 129 rfl 0 dX10_was_128 rfl rfl ?_
              refine mw_geti 132 rfl dX10_was_129 gf_X10_432 rfl (fun x134 t135 => ?_)
              have t136 : x102 = s132.1 57 58 := by rw [t133]; exact (t131).trans (mh_pI_n (by omega)).symm
              obtain rfl : x102 = x134 := t136.trans t135.symm
              refine mw_iload 134 rfl 5 dX10_was_132  rfl ?_
              refine mw_iast 135 rfl dX10_was_134 rfl r_x102 (by decide) (fun s137 t138 => ?_)
              have hI_s137 : mh_I B D s137 := by rw [t138]; exact wr_99 hI_s132
              have hF_s137 : mh_F S_eX10_was s0 s137 := by rw [t138]; exact mh_F_pI hF_s132 (mh_si 2 rfl)
              refine mw_aload_n 136 rfl 0 dX10_was_135 rfl rfl ?_
              refine mw_dup 137 rfl dX10_was_136 rfl ?_
              refine mw_geti 140 rfl dX10_was_137 gf_X10_432 rfl (fun x139 t140 => ?_)
              have t141 : x102 = s137.1 57 58 := by rw [t138]; exact (t136).trans (mh_pI_n (by omega)).symm
              obtain rfl : x102 = x139 := t141.trans t140.symm
              refine mw_iconst (v := 1) 141 rfl dX10_was_140 (by decide) ?_
              refine mw_iadd 142 rfl (1) (60) dX10_was_141 r_x102 rc_1 (by decide) (fun x142 t143 r_x142 => ?_)
              refine mw_puti 145 rfl dX10_was_142 pf_X10_432 rfl (fun s144 t145 => ?_)
              have hI_s144 : mh_I B D s144 := by rw [t145]; exact wr_57_58 hI_s137 (mh_r_wk r_x142 (by decide))
              have hF_s144 : mh_F S_eX10_was s0 s144 := by rw [t145]; exact mh_F_pI hF_s137 (mh_sj 3 rfl)
              refine mw_aload_n 146 rfl 0 dX10_was_145 rfl rfl ?_
              refine mw_geti 149 rfl dX10_was_146 gf_X10_432 rfl (fun x146 t147 => ?_)
              have t148 : x142 = s144.1 57 58 := by rw [t145]; exact mh_pI_s.symm
              obtain rfl : x142 = x146 := t148.trans t147.symm
              exact mw_iret dX10_was_149 rfl ⟨x142, rfl, ⟨(mh_r_wk r_x142 (by decide)), (mh_lbT t73 (mh_lbS E_s75 (mh_ifF c77 (mh_lbT t79 (mh_lbS E_s81 (mh_ifF c83 (mh_lbT t85 (mh_lbS E_s87 (mh_ifF c89 (mh_lbT t91 (mh_lbS E_s93 (mh_ifF c95 (mh_lbT t97 (mh_lbS E_s99 (mh_ifF c101 (mh_lbT t103 (mh_ifF c104 (mh_lbT (mh_emul t108) (mh_lbT t110 (mh_lbT (mh_eadd t117) (mh_lbT t119 (mh_lbT (mh_eadd t126) (mh_lbT t128 (mh_lbT t133 (mh_lbT t138 (mh_lbT (mh_eadd t143) (mh_lbT t145 rfl))))))))))))))))))))))))))), hI_s144, hF_s144⟩⟩
            · skip
              have r_x102 : mh_r x102 (60) (60) := mh_eq1 c104 r_x102 rc_60 (60) (60) (by decide)
              refine mw_iconst (v := -1) 72 rfl dX10_was_71 (by decide) ?_
              exact mw_iret dX10_was_72 rfl ⟨(-1), rfl, ⟨(mh_r_wk rc_m1 (by decide)), (mh_lbT t73 (mh_lbS E_s75 (mh_ifF c77 (mh_lbT t79 (mh_lbS E_s81 (mh_ifF c83 (mh_lbT t85 (mh_lbS E_s87 (mh_ifF c89 (mh_lbT t91 (mh_lbS E_s93 (mh_ifF c95 (mh_lbT t97 (mh_lbS E_s99 (mh_ifF c101 (mh_lbT t103 (mh_ifT c104 rfl))))))))))))))))), hI0, hF0⟩⟩

def j_eX10_costOf_73_4 (lo_6_1 : Int32 → Int32 → Int32) (x447 : Int32) (x514 : Int32) : Int32 := mh_lb (x447 + (1 : Int32)) (fun x517 => (lo_6_1 x517 x514))
def j_eX10_costOf_70_5 (lo_6_1 : Int32 → Int32 → Int32) (x447 : Int32) (x448 : Int32) (x521 : Int32) : Int32 := mh_lb (x448 + x521) (fun x524 => (j_eX10_costOf_73_4 lo_6_1 x447 x524))
def j_eX10_costOf_54_3 (lo_6_1 : Int32 → Int32 → Int32) (p3 : Int32) (p4 : Int32) (x447 : Int32) (x448 : Int32) (x484 : Int32) (x500 : Int32) : Int32 := if x484.toInt = x500.toInt then (j_eX10_costOf_73_4 lo_6_1 x447 x448) else if x484.toInt = 0 then (j_eX10_costOf_70_5 lo_6_1 x447 x448 p3) else (j_eX10_costOf_70_5 lo_6_1 x447 x448 p4)
def j_eX10_costOf_35_2 (lo_6_1 : Int32 → Int32 → Int32) (s0 : mh_H) (p3 : Int32) (p4 : Int32) (x447 : Int32) (x448 : Int32) (x484 : Int32) : Int32 := mh_lb (s0.1 98 x447.toNatClampNeg) (fun x497 => if 0 < x497.toInt then (j_eX10_costOf_54_3 lo_6_1 p3 p4 x447 x448 x484 (1 : Int32)) else (j_eX10_costOf_54_3 lo_6_1 p3 p4 x447 x448 x484 (0 : Int32)))
def ls_eX10_costOf_6_1 (s0 : mh_H) (p1 : Int32) (p2 : Int32) (p3 : Int32) (p4 : Int32) (lo_6_1 : Int32 → Int32 → Int32) (x447 : Int32) (x448 : Int32) : Int32 := mh_lb (s0.1 57 58) (fun x474 => if x447.toInt < x474.toInt then mh_lb ((3 : Int32) * x447) (fun x477 => mh_lb (x477 + p1) (fun x479 => mh_lb (s0.1 97 x479.toNatClampNeg) (fun x481 => if x481.toInt < p2.toInt then (j_eX10_costOf_35_2 lo_6_1 s0 p3 p4 x447 x448 (0 : Int32)) else (j_eX10_costOf_35_2 lo_6_1 s0 p3 p4 x447 x448 (1 : Int32))))) else x448)
def l_eX10_costOf_6_1 (s0 : mh_H) (p1 : Int32) (p2 : Int32) (p3 : Int32) (p4 : Int32) : Nat → Int32 → Int32 → Int32
  | 0 => fun _ _ => 0
  | n + 1 => ls_eX10_costOf_6_1 s0 p1 p2 p3 p4 (l_eX10_costOf_6_1 s0 p1 p2 p3 p4 n)
theorem l_eX10_costOf_6_1_s (s0 : mh_H) (p1 : Int32) (p2 : Int32) (p3 : Int32) (p4 : Int32) (n : Nat) : l_eX10_costOf_6_1 s0 p1 p2 p3 p4 (n + 1) = ls_eX10_costOf_6_1 s0 p1 p2 p3 p4 (l_eX10_costOf_6_1 s0 p1 p2 p3 p4 n) := rfl
def f_eX10_costOf (s0 : mh_H) (p1 : Int32) (p2 : Int32) (p3 : Int32) (p4 : Int32) : Int32 := (l_eX10_costOf_6_1 s0 p1 p2 p3 p4 61 (0 : Int32) (0 : Int32))
def P_eX10_costOf (B D : Int) (s0 : mh_H) (p1 : Int32) (p2 : Int32) (p3 : Int32) (p4 : Int32) : Int32 → mh_H → Prop := fun z s => mh_r z (-2147483648) (2147483647) ∧ f_eX10_costOf s0 p1 p2 p3 p4 = z ∧ s0 = s
set_option maxRecDepth 100000 in
set_option maxHeartbeats 4000000 in
theorem w_eX10_costOf (l : Launch) (G : mh_G) (d : Nat) {B D : Int} (hB : B ≤ 2000000000 ∧ D ≤ 2000000000) {s0 : mh_H} (hI0 : mh_I B D s0) (p1 : Int32) (r_p1 : mh_r p1 (0) (2)) (p2 : Int32) (p3 : Int32) (p4 : Int32) : mh_Mi l G (d + 0) mM_X10_costOf [.ref (G.2.2.2 57), .int p1, .int p2, .int p3, .int p4] s0 (P_eX10_costOf B D s0 p1 p2 p3 p4) := by
  refine mh_enter (lv := [(0, .ref (G.2.2.2 57)), (1, .int p1), (2, .int p2), (3, .int p3), (4, .int p4)]) (by decide) rfl (Nat.le_of_ble_eq_true rfl) ?_
  refine mw_iconst (v := 0) 1 rfl dX10_costOf_0 (by decide) ?_
  refine mw_istore 3 rfl [(5, .int (0)), (0, .ref (G.2.2.2 57)), (1, .int p1), (2, .int p2), (3, .int p3), (4, .int p4)] dX10_costOf_1  (by decide) rfl ?_
  refine mw_iconst (v := 0) 4 rfl dX10_costOf_3 (by decide) ?_
  refine mw_istore 6 rfl [(6, .int (0)), (5, .int (0)), (0, .ref (G.2.2.2 57)), (1, .int p1), (2, .int p2), (3, .int p3), (4, .int p4)] dX10_costOf_4  (by decide) rfl ?_
  have L6 : ∀ n1 : Nat, ∀ (x447 : Int32) (x448 : Int32), mh_r x447 (0) (60) → (f_eX10_costOf s0 p1 p2 p3 p4 = l_eX10_costOf_6_1 s0 p1 p2 p3 p4 n1 x447 x448) → (60) - x447.toInt < (n1 : Int) → mh_W G (mh_XM l G (d + 0) (mh_Qi (P_eX10_costOf B D s0 p1 p2 p3 p4))) mM_X10_costOf 6 [(0, .ref (G.2.2.2 57)), (1, .int p1), (2, .int p2), (3, .int p3), (4, .int p4), (5, .int x448), (6, .int x447)] [] s0 := by
    intro n1
    induction n1 with
    | zero =>
      intro x447 x448 r_x447 hE1 hmn1
      exact absurd hmn1 (by have := r_x447.1; have := r_x447.2; omega)
    | succ n1 ihn1 =>
      intro x447 x448 r_x447 hE1 hmn1
      rw [l_eX10_costOf_6_1_s] at hE1
      refine mw_iload 8 rfl 6 dX10_costOf_6  rfl ?_
      refine mw_aload_n 9 rfl 0 dX10_costOf_8 rfl rfl ?_
      refine mw_geti 12 rfl dX10_costOf_9 gf_X10_432 rfl (fun x474 t475 => ?_)
      have r_x474 : mh_r x474 (0) (60) := by rw [t475]; exact rd_57_58 hI0
      refine mw_icmp_ge 15 rfl 79 dX10_costOf_12 (by decide) (fun c476 => ?_) (fun c476 => ?_)
      · skip
        refine mw_iload 81 rfl 5 dX10_costOf_79  rfl ?_
        exact mw_iret dX10_costOf_81 rfl ⟨x448, rfl, ⟨(mh_r_full x448), (Eq.trans hE1 (mh_lbT t475 (mh_ifF (Int.not_lt.mpr c476) rfl))), rfl⟩⟩
      · skip
        have r_x447 : mh_r x447 (0) (59) := mh_lt1 c476 r_x447 r_x474 (59) (by decide)
        have r_x474 : mh_r x474 (1) (60) := mh_lt2 c476 r_x447 r_x474 (1) (by decide)
        refine mw_aload_n 16 rfl 0 dX10_costOf_15 rfl rfl ?_
        refine mw_geta 19 rfl dX10_costOf_16 gf_X10_134 rfl 97 (mh_rf hI0 94 rfl) ?_
        refine mw_iconst (v := 3) 20 rfl dX10_costOf_19 (by decide) ?_
        refine mw_iload 22 rfl 6 dX10_costOf_20  rfl ?_
        refine mw_imul 23 rfl (0) (177) dX10_costOf_22 rc_3 r_x447 (by decide) (fun x477 t478 r_x477 => ?_)
        refine mw_iload_n 24 rfl 1 dX10_costOf_23 rfl rfl ?_
        refine mw_iadd 25 rfl (0) (179) dX10_costOf_24 r_x477 r_p1 (by decide) (fun x479 t480 r_x479 => ?_)
        refine mw_iald 26 rfl dX10_costOf_25 rfl r_x479 (by decide) (fun x481 t482 => ?_)
        refine mw_iload_n 27 rfl 2 dX10_costOf_26 rfl rfl ?_
        have J35 : ∀ (x484 : Int32), mh_r x484 (0) (1) → (f_eX10_costOf s0 p1 p2 p3 p4 = j_eX10_costOf_35_2 (l_eX10_costOf_6_1 s0 p1 p2 p3 p4 n1) s0 p3 p4 x447 x448 x484) → mh_W G (mh_XM l G (d + 0) (mh_Qi (P_eX10_costOf B D s0 p1 p2 p3 p4))) mM_X10_costOf 35 [(0, .ref (G.2.2.2 57)), (1, .int p1), (2, .int p2), (3, .int p3), (4, .int p4), (5, .int x448), (6, .int x447)] [.int x484] s0 := by
          intro x484 r_x484 hE2
          refine mw_istore 37 rfl [(7, .int x484), (0, .ref (G.2.2.2 57)), (1, .int p1), (2, .int p2), (3, .int p3), (4, .int p4), (5, .int x448), (6, .int x447)] dX10_costOf_35  (by decide) rfl ?_
          refine mw_iload 39 rfl 0 dX10_costOf_37  rfl ?_
          refine mw_aload_n 40 rfl 1 dX10_costOf_39 rfl rfl ?_
          refine mw_geta 43 rfl dX10_costOf_40 gf_X10_137 rfl 98 (mh_rf hI0 95 rfl) ?_
          refine mw_iload 45 rfl 7 dX10_costOf_43  rfl ?_
          refine mw_iald 46 rfl dX10_costOf_45 rfl r_x447 (by decide) (fun x497 t498 => ?_)
          have J54 : ∀ (x500 : Int32), mh_r x500 (0) (1) → (f_eX10_costOf s0 p1 p2 p3 p4 = j_eX10_costOf_54_3 (l_eX10_costOf_6_1 s0 p1 p2 p3 p4 n1) p3 p4 x447 x448 x484 x500) → mh_W G (mh_XM l G (d + 0) (mh_Qi (P_eX10_costOf B D s0 p1 p2 p3 p4))) mM_X10_costOf 54 [(0, .ref (G.2.2.2 57)), (1, .int p1), (2, .int p2), (3, .int p3), (4, .int p4), (5, .int x448), (6, .int x447), (7, .int x484)] [.int x500, .int x484] s0 := by
            intro x500 r_x500 hE3
            have J73 : ∀ (x514 : Int32), (f_eX10_costOf s0 p1 p2 p3 p4 = j_eX10_costOf_73_4 (l_eX10_costOf_6_1 s0 p1 p2 p3 p4 n1) x447 x514) → mh_W G (mh_XM l G (d + 0) (mh_Qi (P_eX10_costOf B D s0 p1 p2 p3 p4))) mM_X10_costOf 73 [(0, .ref (G.2.2.2 57)), (1, .int p1), (2, .int p2), (3, .int p3), (4, .int p4), (5, .int x514), (6, .int x447), (7, .int x484)] [] s0 := by
              intro x514 hE4
              refine mw_iincR (k := 6) (1) (60) 76 rfl (fun z => [(6, .int z), (0, .ref (G.2.2.2 57)), (1, .int p1), (2, .int p2), (3, .int p3), (4, .int p4), (5, .int x514), (7, .int x484)]) dX10_costOf_73 rfl (by decide) (fun _ => rfl) r_x447 (by decide) (by decide) (fun x517 t518 r_x517 => ?_)
              refine mw_goto 79 rfl 6 dX10_costOf_76 (by decide) ?_
              exact mw_lv [1, 2, 3, 4, 5, 6, 0] rfl (ihn1 x517 x514 (mh_r_wk r_x517 (by decide)) (Eq.trans hE4 (mh_lbT (mh_einc t518 rfl) rfl)) (by have : x517.toInt = x447.toInt + (1) := t518; omega))
            refine mw_icmp_eq 57 rfl 73 dX10_costOf_54 (by decide) (fun c519 => ?_) (fun c519 => ?_)
            · skip
              exact mw_lv [0, 1, 2, 3, 4, 5, 6, 7] rfl (J73 x448 (Eq.trans hE3 (mh_ifT c519 rfl)))
            · skip
              refine mw_iload 59 rfl 5 dX10_costOf_57  rfl ?_
              refine mw_iload 61 rfl 7 dX10_costOf_59  rfl ?_
              have J70 : ∀ (x521 : Int32), (f_eX10_costOf s0 p1 p2 p3 p4 = j_eX10_costOf_70_5 (l_eX10_costOf_6_1 s0 p1 p2 p3 p4 n1) x447 x448 x521) → mh_W G (mh_XM l G (d + 0) (mh_Qi (P_eX10_costOf B D s0 p1 p2 p3 p4))) mM_X10_costOf 70 [(0, .ref (G.2.2.2 57)), (1, .int p1), (2, .int p2), (3, .int p3), (4, .int p4), (5, .int x448), (6, .int x447), (7, .int x484)] [.int x521, .int x448] s0 := by
                intro x521 hE5
                refine mw_iadd_u 71 rfl dX10_costOf_70 (fun x524 t525 => ?_)
                refine mw_istore 73 rfl [(5, .int x524), (0, .ref (G.2.2.2 57)), (1, .int p1), (2, .int p2), (3, .int p3), (4, .int p4), (6, .int x447), (7, .int x484)] dX10_costOf_71  (by decide) rfl ?_
                exact mw_lv [1, 2, 3, 4, 5, 0, 6, 7] rfl (J73 x524 (Eq.trans hE5 (mh_lbT t525 rfl)))
              refine mw_if_eq 64 rfl 69 dX10_costOf_61 (by decide) (fun c526 => ?_) (fun c526 => ?_)
              · skip
                have r_x484 : mh_r x484 (0) (0) := mh_eq1 (show x484.toInt = (0 : Int32).toInt from c526) r_x484 rc_0 (0) (0) (by decide)
                refine mw_iload_n 70 rfl 3 dX10_costOf_69 rfl rfl ?_
                exact mw_lv [0, 1, 2, 3, 4, 5, 6, 7] rfl (J70 p3 (Eq.trans hE3 (mh_ifF c519 (mh_ifT c526 rfl))))
              · skip
                have r_x484 : mh_r x484 (1) (1) := mh_ne1 (show x484.toInt ≠ (0 : Int32).toInt from c526) r_x484 rc_0 (1) (1) (by decide)
                refine mw_iload 66 rfl 4 dX10_costOf_64  rfl ?_
                refine mw_goto 69 rfl 70 dX10_costOf_66 (by decide) ?_
                exact mw_lv [0, 1, 2, 3, 4, 5, 6, 7] rfl (J70 p4 (Eq.trans hE3 (mh_ifF c519 (mh_ifF c526 rfl))))
          refine mw_if_le 49 rfl 53 dX10_costOf_46 (by decide) (fun c527 => ?_) (fun c527 => ?_)
          · skip
            have r_x497 : mh_r x497 (-2147483648) (0) := mh_le1 (show x497.toInt ≤ (0 : Int32).toInt from c527) (mh_r_full x497) rc_0 (0) (by decide)
            refine mw_iconst (v := 0) 54 rfl dX10_costOf_53 (by decide) ?_
            exact mw_lv [1, 2, 3, 4, 5, 6, 7, 0] rfl (J54 (0) (mh_r_wk rc_0 (by decide)) (Eq.trans hE2 (mh_lbT t498 (mh_ifF (Int.not_lt.mpr c527) rfl))))
          · skip
            have r_x497 : mh_r x497 (1) (2147483647) := mh_lt2 (show (0 : Int32).toInt < x497.toInt from c527) rc_0 (mh_r_full x497) (1) (by decide)
            refine mw_iconst (v := 1) 50 rfl dX10_costOf_49 (by decide) ?_
            refine mw_goto 53 rfl 54 dX10_costOf_50 (by decide) ?_
            exact mw_lv [1, 2, 3, 4, 5, 6, 7, 0] rfl (J54 (1) (mh_r_wk rc_1 (by decide)) (Eq.trans hE2 (mh_lbT t498 (mh_ifT c527 rfl))))
        refine mw_icmp_lt 30 rfl 34 dX10_costOf_27 (by decide) (fun c528 => ?_) (fun c528 => ?_)
        · skip
          have r_x481 : mh_r x481 (-2147483648) (2147483646) := mh_lt1 c528 (mh_r_full x481) (mh_r_full p2) (2147483646) (by decide)
          have r_p2 : mh_r p2 (-2147483647) (2147483647) := mh_lt2 c528 r_x481 (mh_r_full p2) (-2147483647) (by decide)
          refine mw_iconst (v := 0) 35 rfl dX10_costOf_34 (by decide) ?_
          exact mw_lv [0, 1, 2, 3, 4, 5, 6] rfl (J35 (0) (mh_r_wk rc_0 (by decide)) (Eq.trans hE1 (mh_lbT t475 (mh_ifT c476 (mh_lbT (mh_emul t478) (mh_lbT (mh_eadd t480) (mh_lbT t482 (mh_ifT c528 rfl))))))))
        · skip
          refine mw_iconst (v := 1) 31 rfl dX10_costOf_30 (by decide) ?_
          refine mw_goto 34 rfl 35 dX10_costOf_31 (by decide) ?_
          exact mw_lv [0, 1, 2, 3, 4, 5, 6] rfl (J35 (1) (mh_r_wk rc_1 (by decide)) (Eq.trans hE1 (mh_lbT t475 (mh_ifT c476 (mh_lbT (mh_emul t478) (mh_lbT (mh_eadd t480) (mh_lbT t482 (mh_ifF (Int.not_lt.mpr c528) rfl))))))))
  exact mw_lv [2, 3, 4, 5, 6, 1, 0] rfl (L6 61 (0) (0) (mh_r_wk rc_0 (by decide)) (rfl) (by have := (rc_0).1; have := (rc_0).2; omega))

def j_eX10_bestLine_38_2 (lo_6_1 : Int32 → Int32 → Int32) (x231 : Int32) (x254 : Int32) : Int32 := mh_lb (x231 + (1 : Int32)) (fun x257 => (lo_6_1 x257 x254))
def ls_eX10_bestLine_6_1 (s0 : mh_H) (p1 : Int32) (p2 : Int32) (p3 : Int32) (lo_6_1 : Int32 → Int32 → Int32) (x231 : Int32) (x232 : Int32) : Int32 := if (100 : Int32).toInt < x231.toInt then x232 else mh_lb (f_eX10_costOf s0 p1 x231 p2 p3) (fun x247 => mh_lb (f_eX10_costOf s0 p1 x232 p2 p3) (fun x250 => if x247.toInt < x250.toInt then (j_eX10_bestLine_38_2 lo_6_1 x231 x231) else (j_eX10_bestLine_38_2 lo_6_1 x231 x232)))
def l_eX10_bestLine_6_1 (s0 : mh_H) (p1 : Int32) (p2 : Int32) (p3 : Int32) : Nat → Int32 → Int32 → Int32
  | 0 => fun _ _ => 0
  | n + 1 => ls_eX10_bestLine_6_1 s0 p1 p2 p3 (l_eX10_bestLine_6_1 s0 p1 p2 p3 n)
theorem l_eX10_bestLine_6_1_s (s0 : mh_H) (p1 : Int32) (p2 : Int32) (p3 : Int32) (n : Nat) : l_eX10_bestLine_6_1 s0 p1 p2 p3 (n + 1) = ls_eX10_bestLine_6_1 s0 p1 p2 p3 (l_eX10_bestLine_6_1 s0 p1 p2 p3 n) := rfl
def f_eX10_bestLine (s0 : mh_H) (p1 : Int32) (p2 : Int32) (p3 : Int32) : Int32 := (l_eX10_bestLine_6_1 s0 p1 p2 p3 101 (1 : Int32) (0 : Int32))
def P_eX10_bestLine (B D : Int) (s0 : mh_H) (p1 : Int32) (p2 : Int32) (p3 : Int32) : Int32 → mh_H → Prop := fun z s => mh_r z (0) (100) ∧ f_eX10_bestLine s0 p1 p2 p3 = z ∧ s0 = s
set_option maxRecDepth 100000 in
set_option maxHeartbeats 4000000 in
theorem w_eX10_bestLine (l : Launch) (G : mh_G) (d : Nat) {B D : Int} (hB : B ≤ 1980000000 ∧ D ≤ 1980000000) {s0 : mh_H} (hI0 : mh_I B D s0) (p1 : Int32) (r_p1 : mh_r p1 (0) (2)) (p2 : Int32) (p3 : Int32) : mh_Mi l G (d + 1) mM_X10_bestLine [.ref (G.2.2.2 57), .int p1, .int p2, .int p3] s0 (P_eX10_bestLine B D s0 p1 p2 p3) := by
  refine mh_enter (lv := [(0, .ref (G.2.2.2 57)), (1, .int p1), (2, .int p2), (3, .int p3)]) (by decide) rfl (Nat.le_of_ble_eq_true rfl) ?_
  refine mw_iconst (v := 0) 1 rfl dX10_bestLine_0 (by decide) ?_
  refine mw_istore 3 rfl [(4, .int (0)), (0, .ref (G.2.2.2 57)), (1, .int p1), (2, .int p2), (3, .int p3)] dX10_bestLine_1  (by decide) rfl ?_
  refine mw_iconst (v := 1) 4 rfl dX10_bestLine_3 (by decide) ?_
  refine mw_istore 6 rfl [(5, .int (1)), (4, .int (0)), (0, .ref (G.2.2.2 57)), (1, .int p1), (2, .int p2), (3, .int p3)] dX10_bestLine_4  (by decide) rfl ?_
  have L6 : ∀ n1 : Nat, ∀ (x231 : Int32) (x232 : Int32), mh_r x231 (1) (101) → mh_r x232 (0) (100) → (f_eX10_bestLine s0 p1 p2 p3 = l_eX10_bestLine_6_1 s0 p1 p2 p3 n1 x231 x232) → (101) - x231.toInt < (n1 : Int) → mh_W G (mh_XM l G (d + 1) (mh_Qi (P_eX10_bestLine B D s0 p1 p2 p3))) mM_X10_bestLine 6 [(0, .ref (G.2.2.2 57)), (1, .int p1), (2, .int p2), (3, .int p3), (4, .int x232), (5, .int x231)] [] s0 := by
    intro n1
    induction n1 with
    | zero =>
      intro x231 x232 r_x231 r_x232 hE1 hmn1
      exact absurd hmn1 (by have := r_x231.1; have := r_x231.2; omega)
    | succ n1 ihn1 =>
      intro x231 x232 r_x231 r_x232 hE1 hmn1
      rw [l_eX10_bestLine_6_1_s] at hE1
      refine mw_iload 8 rfl 5 dX10_bestLine_6  rfl ?_
      refine mw_bipush (v := 100) 10 rfl dX10_bestLine_8 (by decide) ?_
      refine mw_icmp_gt 13 rfl 44 dX10_bestLine_10 (by decide) (fun c246 => ?_) (fun c246 => ?_)
      · skip
        have r_x231 : mh_r x231 (101) (101) := mh_lt2 c246 rc_100 r_x231 (101) (by decide)
        refine mw_iload 46 rfl 4 dX10_bestLine_44  rfl ?_
        exact mw_iret dX10_bestLine_46 rfl ⟨x232, rfl, ⟨r_x232, (Eq.trans hE1 (mh_ifT c246 rfl)), rfl⟩⟩
      · skip
        have r_x231 : mh_r x231 (1) (100) := mh_le1 c246 r_x231 rc_100 (100) (by decide)
        refine mw_aload_n 14 rfl 0 dX10_bestLine_13 rfl rfl ?_
        refine mw_iload_n 15 rfl 1 dX10_bestLine_14 rfl rfl ?_
        refine mw_iload 17 rfl 5 dX10_bestLine_15  rfl ?_
        refine mw_iload_n 18 rfl 2 dX10_bestLine_17 rfl rfl ?_
        refine mw_iload_n 19 rfl 3 dX10_bestLine_18 rfl rfl ?_
        refine mw_callVi [.int p1, .int x231, .int p2, .int p3] [] 22 rfl dX10_bestLine_19 ml_X10_435 mc_X10_costOf mk_X10_costOf rfl rfl (by decide) (w_eX10_costOf l G (d + 0) ⟨by omega, by omega⟩ hI0 p1 r_p1 x231 p2 p3) rfl rfl (Nat.le_of_ble_eq_true rfl) (mh_rok (by omega) (by decide)) (fun x247 s248 q249 => ?_)
        obtain ⟨r_x247, E_s248, rfl⟩ := q249
        refine mw_aload_n 23 rfl 0 dX10_bestLine_22 rfl rfl ?_
        refine mw_iload_n 24 rfl 1 dX10_bestLine_23 rfl rfl ?_
        refine mw_iload 26 rfl 4 dX10_bestLine_24  rfl ?_
        refine mw_iload_n 27 rfl 2 dX10_bestLine_26 rfl rfl ?_
        refine mw_iload_n 28 rfl 3 dX10_bestLine_27 rfl rfl ?_
        refine mw_callVi [.int p1, .int x232, .int p2, .int p3] [.int x247] 31 rfl dX10_bestLine_28 ml_X10_435 mc_X10_costOf mk_X10_costOf rfl rfl (by decide) (w_eX10_costOf l G (d + 0) ⟨by omega, by omega⟩ hI0 p1 r_p1 x232 p2 p3) rfl rfl (Nat.le_of_ble_eq_true rfl) (mh_rok (by omega) (by decide)) (fun x250 s251 q252 => ?_)
        obtain ⟨r_x250, E_s251, rfl⟩ := q252
        have J38 : ∀ (x254 : Int32), mh_r x254 (0) (100) → (f_eX10_bestLine s0 p1 p2 p3 = j_eX10_bestLine_38_2 (l_eX10_bestLine_6_1 s0 p1 p2 p3 n1) x231 x254) → mh_W G (mh_XM l G (d + 1) (mh_Qi (P_eX10_bestLine B D s0 p1 p2 p3))) mM_X10_bestLine 38 [(0, .ref (G.2.2.2 57)), (1, .int p1), (2, .int p2), (3, .int p3), (4, .int x254), (5, .int x231)] [] s0 := by
          intro x254 r_x254 hE2
          refine mw_iincR (k := 5) (2) (101) 41 rfl (fun z => [(5, .int z), (0, .ref (G.2.2.2 57)), (1, .int p1), (2, .int p2), (3, .int p3), (4, .int x254)]) dX10_bestLine_38 rfl (by decide) (fun _ => rfl) r_x231 (by decide) (by decide) (fun x257 t258 r_x257 => ?_)
          refine mw_goto 44 rfl 6 dX10_bestLine_41 (by decide) ?_
          exact mw_lv [1, 2, 3, 4, 5, 0] rfl (ihn1 x257 x254 (mh_r_wk r_x257 (by decide)) r_x254 (Eq.trans hE2 (mh_lbT (mh_einc t258 rfl) rfl)) (by have : x257.toInt = x231.toInt + (1) := t258; omega))
        refine mw_icmp_ge 34 rfl 38 dX10_bestLine_31 (by decide) (fun c259 => ?_) (fun c259 => ?_)
        · skip
          exact mw_lv [0, 1, 2, 3, 4, 5] rfl (J38 x232 r_x232 (Eq.trans hE1 (mh_ifF (Int.not_lt.mpr c246) (mh_lbS E_s248 (mh_lbS E_s251 (mh_ifF (Int.not_lt.mpr c259) rfl))))))
        · skip
          have r_x247 : mh_r x247 (-2147483648) (2147483646) := mh_lt1 c259 r_x247 r_x250 (2147483646) (by decide)
          have r_x250 : mh_r x250 (-2147483647) (2147483647) := mh_lt2 c259 r_x247 r_x250 (-2147483647) (by decide)
          refine mw_iload 36 rfl 5 dX10_bestLine_34  rfl ?_
          refine mw_istore 38 rfl [(4, .int x231), (0, .ref (G.2.2.2 57)), (1, .int p1), (2, .int p2), (3, .int p3), (5, .int x231)] dX10_bestLine_36  (by decide) rfl ?_
          exact mw_lv [1, 2, 3, 4, 0, 5] rfl (J38 x231 (mh_r_wk r_x231 (by decide)) (Eq.trans hE1 (mh_ifF (Int.not_lt.mpr c246) (mh_lbS E_s248 (mh_lbS E_s251 (mh_ifT c259 rfl))))))
  exact mw_lv [2, 3, 4, 5, 1, 0] rfl (L6 101 (1) (0) (mh_r_wk rc_1 (by decide)) (mh_r_wk rc_0 (by decide)) (rfl) (by have := (rc_1).1; have := (rc_1).2; omega))

def f_eX10_line (s0 : mh_H) (p1 : Int32) (p2 : Int32) (p3 : Int32) (p4 : Int32) : Int32 := mh_lb (Int32.toInt64 p1) (fun y28 => mh_lb (f_eX10_lies s0 y28 (0 : Int64) (2 : Int64)) (fun x30 => if x30.toInt = 0 then (-1 : Int32) else mh_lb (f_eX10_isPrice s0 p2) (fun x34 => if x34.toInt = 0 then (-1 : Int32) else mh_lb (f_eX10_isPrice s0 p3) (fun x38 => if x38.toInt = 0 then (-1 : Int32) else mh_lb (Int32.toInt64 p4) (fun y42 => mh_lb (f_eX10_lies s0 y42 (0 : Int64) (1 : Int64)) (fun x44 => if x44.toInt = 0 then (-1 : Int32) else mh_lb (f_eX10_bestLine s0 p1 p2 p3) (fun x48 => if p4.toInt = (1 : Int32).toInt then x48 else mh_lb (f_eX10_costOf s0 p1 x48 p2 p3) (fun x52 => x52))))))))
def P_eX10_line (B D : Int) (s0 : mh_H) (p1 : Int32) (p2 : Int32) (p3 : Int32) (p4 : Int32) : Int32 → mh_H → Prop := fun z s => mh_r z (-2147483648) (2147483647) ∧ f_eX10_line s0 p1 p2 p3 p4 = z ∧ s0 = s
set_option maxRecDepth 100000 in
set_option maxHeartbeats 4000000 in
theorem w_eX10_line (l : Launch) (G : mh_G) (d : Nat) {B D : Int} (hB : B ≤ 1960000000 ∧ D ≤ 1960000000) {s0 : mh_H} (hI0 : mh_I B D s0) (p1 : Int32) (p2 : Int32) (p3 : Int32) (p4 : Int32) : mh_Mi l G (d + 2) mM_X10_line [.ref (G.2.2.2 57), .int p1, .int p2, .int p3, .int p4] s0 (P_eX10_line B D s0 p1 p2 p3 p4) := by
  refine mh_enter (lv := [(0, .ref (G.2.2.2 57)), (1, .int p1), (2, .int p2), (3, .int p3), (4, .int p4)]) (by decide) rfl (Nat.le_of_ble_eq_true rfl) ?_
  refine mw_iload_n 1 rfl 1 dX10_line_0 rfl rfl ?_
  refine mw_i2l 2 rfl dX10_line_1 (fun y28 t29 => ?_)
  refine mw_lconst (v := 0) 3 rfl dX10_line_2 (by decide) ?_
  refine mw_ldc2 6 rfl dX10_line_3 ck_X10_425 ?_
  refine mw_callSi [.long y28, .long (0), .long (2)] [] 9 rfl dX10_line_6 ml_X10_154 mc_X10_lies mk_X10_lies (w_eX10_lies l G (d + 1) ⟨by omega, by omega⟩ hI0 y28 (0) (2)) rfl rfl (Nat.le_of_ble_eq_true rfl) (mh_rok (by omega) (by decide)) (fun x30 s31 q32 => ?_)
  obtain ⟨r_x30, E_s31, e0_s31, rfl⟩ := q32
  have f_x30 : x30.toInt = 1 ↔ (0 ≤ p1.toInt ∧ p1.toInt ≤ 2) := by rw [e0_s31]; exact by simp only [t29, Int32.toInt_toInt64]; first | done | exact Iff.rfl
  refine mw_if_eq 12 rfl 37 dX10_line_9 (by decide) (fun c33 => ?_) (fun c33 => ?_)
  · skip
    have r_x30 : mh_r x30 (0) (0) := mh_eq1 (show x30.toInt = (0 : Int32).toInt from c33) r_x30 rc_0 (0) (0) (by decide)
    refine mw_iconst (v := -1) 38 rfl dX10_line_37 (by decide) ?_
    exact mw_iret dX10_line_38 rfl ⟨(-1), rfl, ⟨(mh_r_wk rc_m1 (by decide)), (mh_lbT t29 (mh_lbS E_s31 (mh_ifT c33 rfl))), rfl⟩⟩
  · skip
    have r_p1 : mh_r p1 (0) (2) := ⟨by have := f_x30.1 (mh_z1 r_x30 c33); have := ((mh_r_full p1)).1; omega, by have := f_x30.1 (mh_z1 r_x30 c33); have := ((mh_r_full p1)).2; omega⟩
    have r_x30 : mh_r x30 (1) (1) := mh_ne1 (show x30.toInt ≠ (0 : Int32).toInt from c33) r_x30 rc_0 (1) (1) (by decide)
    refine mw_iload_n 13 rfl 2 dX10_line_12 rfl rfl ?_
    refine mw_callSi [.int p2] [] 16 rfl dX10_line_13 ml_X10_438 mc_X10_isPrice mk_X10_isPrice (w_eX10_isPrice l G (d + 0) ⟨by omega, by omega⟩ hI0 p2) rfl rfl (Nat.le_of_ble_eq_true rfl) (mh_rok (by omega) (by decide)) (fun x34 s35 q36 => ?_)
    obtain ⟨r_x34, E_s35, e0_s35, rfl⟩ := q36
    refine mw_if_eq 19 rfl 37 dX10_line_16 (by decide) (fun c37 => ?_) (fun c37 => ?_)
    · skip
      have r_x34 : mh_r x34 (0) (0) := mh_eq1 (show x34.toInt = (0 : Int32).toInt from c37) r_x34 rc_0 (0) (0) (by decide)
      refine mw_iconst (v := -1) 38 rfl dX10_line_37 (by decide) ?_
      exact mw_iret dX10_line_38 rfl ⟨(-1), rfl, ⟨(mh_r_wk rc_m1 (by decide)), (mh_lbT t29 (mh_lbS E_s31 (mh_ifF c33 (mh_lbS E_s35 (mh_ifT c37 rfl))))), rfl⟩⟩
    · skip
      have r_p2 : mh_r p2 (0) (999) := ⟨by have := e0_s35.1 (mh_z1 r_x34 c37); have := ((mh_r_full p2)).1; omega, by have := e0_s35.1 (mh_z1 r_x34 c37); have := ((mh_r_full p2)).2; omega⟩
      have r_x34 : mh_r x34 (1) (1) := mh_ne1 (show x34.toInt ≠ (0 : Int32).toInt from c37) r_x34 rc_0 (1) (1) (by decide)
      refine mw_iload_n 20 rfl 3 dX10_line_19 rfl rfl ?_
      refine mw_callSi [.int p3] [] 23 rfl dX10_line_20 ml_X10_438 mc_X10_isPrice mk_X10_isPrice (w_eX10_isPrice l G (d + 0) ⟨by omega, by omega⟩ hI0 p3) rfl rfl (Nat.le_of_ble_eq_true rfl) (mh_rok (by omega) (by decide)) (fun x38 s39 q40 => ?_)
      obtain ⟨r_x38, E_s39, e0_s39, rfl⟩ := q40
      refine mw_if_eq 26 rfl 37 dX10_line_23 (by decide) (fun c41 => ?_) (fun c41 => ?_)
      · skip
        have r_x38 : mh_r x38 (0) (0) := mh_eq1 (show x38.toInt = (0 : Int32).toInt from c41) r_x38 rc_0 (0) (0) (by decide)
        refine mw_iconst (v := -1) 38 rfl dX10_line_37 (by decide) ?_
        exact mw_iret dX10_line_38 rfl ⟨(-1), rfl, ⟨(mh_r_wk rc_m1 (by decide)), (mh_lbT t29 (mh_lbS E_s31 (mh_ifF c33 (mh_lbS E_s35 (mh_ifF c37 (mh_lbS E_s39 (mh_ifT c41 rfl))))))), rfl⟩⟩
      · skip
        have r_p3 : mh_r p3 (0) (999) := ⟨by have := e0_s39.1 (mh_z1 r_x38 c41); have := ((mh_r_full p3)).1; omega, by have := e0_s39.1 (mh_z1 r_x38 c41); have := ((mh_r_full p3)).2; omega⟩
        have r_x38 : mh_r x38 (1) (1) := mh_ne1 (show x38.toInt ≠ (0 : Int32).toInt from c41) r_x38 rc_0 (1) (1) (by decide)
        refine mw_iload 28 rfl 4 dX10_line_26  rfl ?_
        refine mw_i2l 29 rfl dX10_line_28 (fun y42 t43 => ?_)
        refine mw_lconst (v := 0) 30 rfl dX10_line_29 (by decide) ?_
        refine mw_lconst (v := 1) 31 rfl dX10_line_30 (by decide) ?_
        refine mw_callSi [.long y42, .long (0), .long (1)] [] 34 rfl dX10_line_31 ml_X10_154 mc_X10_lies mk_X10_lies (w_eX10_lies l G (d + 1) ⟨by omega, by omega⟩ hI0 y42 (0) (1)) rfl rfl (Nat.le_of_ble_eq_true rfl) (mh_rok (by omega) (by decide)) (fun x44 s45 q46 => ?_)
        obtain ⟨r_x44, E_s45, e0_s45, rfl⟩ := q46
        have f_x44 : x44.toInt = 1 ↔ (0 ≤ p4.toInt ∧ p4.toInt ≤ 1) := by rw [e0_s45]; exact by simp only [t43, Int32.toInt_toInt64]; first | done | exact Iff.rfl
        refine mw_if_ne 37 rfl 39 dX10_line_34 (by decide) (fun c47 => ?_) (fun c47 => ?_)
        · skip
          have r_p4 : mh_r p4 (0) (1) := ⟨by have := f_x44.1 (mh_z1 r_x44 c47); have := ((mh_r_full p4)).1; omega, by have := f_x44.1 (mh_z1 r_x44 c47); have := ((mh_r_full p4)).2; omega⟩
          have r_x44 : mh_r x44 (1) (1) := mh_ne1 (show x44.toInt ≠ (0 : Int32).toInt from c47) r_x44 rc_0 (1) (1) (by decide)
          refine mw_aload_n 40 rfl 0 dX10_line_39 rfl rfl ?_
          refine mw_iload_n 41 rfl 1 dX10_line_40 rfl rfl ?_
          refine mw_iload_n 42 rfl 2 dX10_line_41 rfl rfl ?_
          refine mw_iload_n 43 rfl 3 dX10_line_42 rfl rfl ?_
          refine mw_callVi [.int p1, .int p2, .int p3] [] 46 rfl dX10_line_43 ml_X10_441 mc_X10_bestLine mk_X10_bestLine rfl rfl (by decide) (w_eX10_bestLine l G (d + 0) ⟨by omega, by omega⟩ hI0 p1 r_p1 p2 p3) rfl rfl (Nat.le_of_ble_eq_true rfl) (mh_rok (by omega) (by decide)) (fun x48 s49 q50 => ?_)
          obtain ⟨r_x48, E_s49, rfl⟩ := q50
          refine mw_istore 48 rfl [(5, .int x48), (0, .ref (G.2.2.2 57)), (1, .int p1), (2, .int p2), (3, .int p3), (4, .int p4)] dX10_line_46  (by decide) rfl ?_
          refine mw_iload 50 rfl 5 dX10_line_48  rfl ?_
          refine mw_iconst (v := 1) 51 rfl dX10_line_50 (by decide) ?_
          refine mw_icmp_ne 54 rfl 59 dX10_line_51 (by decide) (fun c51 => ?_) (fun c51 => ?_)
          · skip
            have r_p4 : mh_r p4 (0) (0) := mh_ne1 c51 r_p4 rc_1 (0) (0) (by decide)
            refine mw_aload_n 60 rfl 1 dX10_line_59 rfl rfl ?_
            refine mw_iload_n 61 rfl 2 dX10_line_60 rfl rfl ?_
            refine mw_iload 63 rfl 0 dX10_line_61  rfl ?_
            refine mw_iload_n 64 rfl 3 dX10_line_63 rfl rfl ?_
            refine mw_iload_n 65 rfl 4 dX10_line_64 rfl rfl ?_
            refine mw_callVi [.int p1, .int x48, .int p2, .int p3] [] 68 rfl dX10_line_65 ml_X10_435 mc_X10_costOf mk_X10_costOf rfl rfl (by decide) (w_eX10_costOf l G (d + 1) ⟨by omega, by omega⟩ hI0 p1 r_p1 x48 p2 p3) rfl rfl (Nat.le_of_ble_eq_true rfl) (mh_rok (by omega) (by decide)) (fun x52 s53 q54 => ?_)
            obtain ⟨r_x52, E_s53, rfl⟩ := q54
            exact mw_iret dX10_line_68 rfl ⟨x52, rfl, ⟨r_x52, (mh_lbT t29 (mh_lbS E_s31 (mh_ifF c33 (mh_lbS E_s35 (mh_ifF c37 (mh_lbS E_s39 (mh_ifF c41 (mh_lbT t43 (mh_lbS E_s45 (mh_ifF c47 (mh_lbS E_s49 (mh_ifF c51 (mh_lbS E_s53 rfl))))))))))))), rfl⟩⟩
          · skip
            have r_p4 : mh_r p4 (1) (1) := mh_eq1 c51 r_p4 rc_1 (1) (1) (by decide)
            refine mw_iload 56 rfl 0 dX10_line_54  rfl ?_
            refine mw_goto 59 rfl 68 dX10_line_56 (by decide) ?_
            exact mw_iret dX10_line_68 rfl ⟨x48, rfl, ⟨(mh_r_wk r_x48 (by decide)), (mh_lbT t29 (mh_lbS E_s31 (mh_ifF c33 (mh_lbS E_s35 (mh_ifF c37 (mh_lbS E_s39 (mh_ifF c41 (mh_lbT t43 (mh_lbS E_s45 (mh_ifF c47 (mh_lbS E_s49 (mh_ifT c51 rfl)))))))))))), rfl⟩⟩
        · skip
          have r_x44 : mh_r x44 (0) (0) := mh_eq1 (show x44.toInt = (0 : Int32).toInt from c47) r_x44 rc_0 (0) (0) (by decide)
          refine mw_iconst (v := -1) 38 rfl dX10_line_37 (by decide) ?_
          exact mw_iret dX10_line_38 rfl ⟨(-1), rfl, ⟨(mh_r_wk rc_m1 (by decide)), (mh_lbT t29 (mh_lbS E_s31 (mh_ifF c33 (mh_lbS E_s35 (mh_ifF c37 (mh_lbS E_s39 (mh_ifF c41 (mh_lbT t43 (mh_lbS E_s45 (mh_ifT c47 rfl)))))))))), rfl⟩⟩

def j_eX10_tells_63_2 (lo_21_1 : Int32 → Int32 → Int32) (x127 : Int32) (x162 : Int32) : Int32 := mh_lb (x127 + (1 : Int32)) (fun x165 => (lo_21_1 x165 x162))
def ls_eX10_tells_21_1 (s0 : mh_H) (p1 : Int32) (p2 : Int32) (lo_21_1 : Int32 → Int32 → Int32) (x127 : Int32) (x128 : Int32) : Int32 := if x127.toInt < (3 : Int32).toInt then mh_lb (f_eX10_bestLine s0 x127 p1 p2) (fun x149 => mh_lb (f_eX10_costOf s0 x127 x149 p1 p2) (fun x152 => mh_lb (f_eX10_bestLine s0 x128 p1 p2) (fun x155 => mh_lb (f_eX10_costOf s0 x128 x155 p1 p2) (fun x158 => if x152.toInt < x158.toInt then (j_eX10_tells_63_2 lo_21_1 x127 x127) else (j_eX10_tells_63_2 lo_21_1 x127 x128))))) else x128
def l_eX10_tells_21_1 (s0 : mh_H) (p1 : Int32) (p2 : Int32) : Nat → Int32 → Int32 → Int32
  | 0 => fun _ _ => 0
  | n + 1 => ls_eX10_tells_21_1 s0 p1 p2 (l_eX10_tells_21_1 s0 p1 p2 n)
theorem l_eX10_tells_21_1_s (s0 : mh_H) (p1 : Int32) (p2 : Int32) (n : Nat) : l_eX10_tells_21_1 s0 p1 p2 (n + 1) = ls_eX10_tells_21_1 s0 p1 p2 (l_eX10_tells_21_1 s0 p1 p2 n) := rfl
def f_eX10_tells (s0 : mh_H) (p1 : Int32) (p2 : Int32) : Int32 := mh_lb (f_eX10_isPrice s0 p1) (fun x83 => if x83.toInt = 0 then (-1 : Int32) else mh_lb (f_eX10_isPrice s0 p2) (fun x87 => if x87.toInt = 0 then (-1 : Int32) else (l_eX10_tells_21_1 s0 p1 p2 3 (1 : Int32) (0 : Int32))))
def P_eX10_tells (B D : Int) (s0 : mh_H) (p1 : Int32) (p2 : Int32) : Int32 → mh_H → Prop := fun z s => mh_r z (-1) (2) ∧ f_eX10_tells s0 p1 p2 = z ∧ s0 = s
set_option maxRecDepth 100000 in
set_option maxHeartbeats 4000000 in
theorem w_eX10_tells (l : Launch) (G : mh_G) (d : Nat) {B D : Int} (hB : B ≤ 1960000000 ∧ D ≤ 1960000000) {s0 : mh_H} (hI0 : mh_I B D s0) (p1 : Int32) (p2 : Int32) : mh_Mi l G (d + 2) mM_X10_tells [.ref (G.2.2.2 57), .int p1, .int p2] s0 (P_eX10_tells B D s0 p1 p2) := by
  refine mh_enter (lv := [(0, .ref (G.2.2.2 57)), (1, .int p1), (2, .int p2)]) (by decide) rfl (Nat.le_of_ble_eq_true rfl) ?_
  refine mw_iload_n 1 rfl 1 dX10_tells_0 rfl rfl ?_
  refine mw_callSi [.int p1] [] 4 rfl dX10_tells_1 ml_X10_438 mc_X10_isPrice mk_X10_isPrice (w_eX10_isPrice l G (d + 0) ⟨by omega, by omega⟩ hI0 p1) rfl rfl (Nat.le_of_ble_eq_true rfl) (mh_rok (by omega) (by decide)) (fun x83 s84 q85 => ?_)
  obtain ⟨r_x83, E_s84, e0_s84, rfl⟩ := q85
  refine mw_if_eq 7 rfl 14 dX10_tells_4 (by decide) (fun c86 => ?_) (fun c86 => ?_)
  · skip
    have r_x83 : mh_r x83 (0) (0) := mh_eq1 (show x83.toInt = (0 : Int32).toInt from c86) r_x83 rc_0 (0) (0) (by decide)
    refine mw_iconst (v := -1) 15 rfl dX10_tells_14 (by decide) ?_
    exact mw_iret dX10_tells_15 rfl ⟨(-1), rfl, ⟨(mh_r_wk rc_m1 (by decide)), (mh_lbS E_s84 (mh_ifT c86 rfl)), rfl⟩⟩
  · skip
    have r_p1 : mh_r p1 (0) (999) := ⟨by have := e0_s84.1 (mh_z1 r_x83 c86); have := ((mh_r_full p1)).1; omega, by have := e0_s84.1 (mh_z1 r_x83 c86); have := ((mh_r_full p1)).2; omega⟩
    have r_x83 : mh_r x83 (1) (1) := mh_ne1 (show x83.toInt ≠ (0 : Int32).toInt from c86) r_x83 rc_0 (1) (1) (by decide)
    refine mw_iload_n 8 rfl 2 dX10_tells_7 rfl rfl ?_
    refine mw_callSi [.int p2] [] 11 rfl dX10_tells_8 ml_X10_438 mc_X10_isPrice mk_X10_isPrice (w_eX10_isPrice l G (d + 0) ⟨by omega, by omega⟩ hI0 p2) rfl rfl (Nat.le_of_ble_eq_true rfl) (mh_rok (by omega) (by decide)) (fun x87 s88 q89 => ?_)
    obtain ⟨r_x87, E_s88, e0_s88, rfl⟩ := q89
    refine mw_if_ne 14 rfl 16 dX10_tells_11 (by decide) (fun c90 => ?_) (fun c90 => ?_)
    · skip
      have r_p2 : mh_r p2 (0) (999) := ⟨by have := e0_s88.1 (mh_z1 r_x87 c90); have := ((mh_r_full p2)).1; omega, by have := e0_s88.1 (mh_z1 r_x87 c90); have := ((mh_r_full p2)).2; omega⟩
      have r_x87 : mh_r x87 (1) (1) := mh_ne1 (show x87.toInt ≠ (0 : Int32).toInt from c90) r_x87 rc_0 (1) (1) (by decide)
      refine mw_iconst (v := 0) 17 rfl dX10_tells_16 (by decide) ?_
      refine mw_istore_n 18 rfl [(3, .int (0)), (0, .ref (G.2.2.2 57)), (1, .int p1), (2, .int p2)] dX10_tells_17 rfl (by decide) rfl ?_
      refine mw_iconst (v := 1) 19 rfl dX10_tells_18 (by decide) ?_
      refine mw_istore 21 rfl [(4, .int (1)), (3, .int (0)), (0, .ref (G.2.2.2 57)), (1, .int p1), (2, .int p2)] dX10_tells_19  (by decide) rfl ?_
      have L21 : ∀ n1 : Nat, ∀ (x127 : Int32) (x128 : Int32), mh_r x127 (1) (3) → mh_r x128 (0) (2) → (f_eX10_tells s0 p1 p2 = l_eX10_tells_21_1 s0 p1 p2 n1 x127 x128) → (3) - x127.toInt < (n1 : Int) → mh_W G (mh_XM l G (d + 2) (mh_Qi (P_eX10_tells B D s0 p1 p2))) mM_X10_tells 21 [(0, .ref (G.2.2.2 57)), (1, .int p1), (2, .int p2), (3, .int x128), (4, .int x127)] [] s0 := by
        intro n1
        induction n1 with
        | zero =>
          intro x127 x128 r_x127 r_x128 hE1 hmn1
          exact absurd hmn1 (by have := r_x127.1; have := r_x127.2; omega)
        | succ n1 ihn1 =>
          intro x127 x128 r_x127 r_x128 hE1 hmn1
          rw [l_eX10_tells_21_1_s] at hE1
          refine mw_iload 23 rfl 4 dX10_tells_21  rfl ?_
          refine mw_iconst (v := 3) 24 rfl dX10_tells_23 (by decide) ?_
          refine mw_icmp_ge 27 rfl 69 dX10_tells_24 (by decide) (fun c148 => ?_) (fun c148 => ?_)
          · skip
            have r_x127 : mh_r x127 (3) (3) := mh_le2 c148 rc_3 r_x127 (3) (by decide)
            refine mw_iload_n 70 rfl 3 dX10_tells_69 rfl rfl ?_
            exact mw_iret dX10_tells_70 rfl ⟨x128, rfl, ⟨(mh_r_wk r_x128 (by decide)), (Eq.trans hE1 (mh_ifF (Int.not_lt.mpr c148) rfl)), rfl⟩⟩
          · skip
            have r_x127 : mh_r x127 (1) (2) := mh_lt1 c148 r_x127 rc_3 (2) (by decide)
            refine mw_aload_n 28 rfl 0 dX10_tells_27 rfl rfl ?_
            refine mw_iload 30 rfl 4 dX10_tells_28  rfl ?_
            refine mw_aload_n 31 rfl 0 dX10_tells_30 rfl rfl ?_
            refine mw_iload 33 rfl 4 dX10_tells_31  rfl ?_
            refine mw_iload_n 34 rfl 1 dX10_tells_33 rfl rfl ?_
            refine mw_iload_n 35 rfl 2 dX10_tells_34 rfl rfl ?_
            refine mw_callVi [.int x127, .int p1, .int p2] [.int x127, .ref (G.2.2.2 57)] 38 rfl dX10_tells_35 ml_X10_441 mc_X10_bestLine mk_X10_bestLine rfl rfl (by decide) (w_eX10_bestLine l G (d + 0) ⟨by omega, by omega⟩ hI0 x127 (mh_r_wk r_x127 (by decide)) p1 p2) rfl rfl (Nat.le_of_ble_eq_true rfl) (mh_rok (by omega) (by decide)) (fun x149 s150 q151 => ?_)
            obtain ⟨r_x149, E_s150, rfl⟩ := q151
            refine mw_iload_n 39 rfl 1 dX10_tells_38 rfl rfl ?_
            refine mw_iload_n 40 rfl 2 dX10_tells_39 rfl rfl ?_
            refine mw_callVi [.int x127, .int x149, .int p1, .int p2] [] 43 rfl dX10_tells_40 ml_X10_435 mc_X10_costOf mk_X10_costOf rfl rfl (by decide) (w_eX10_costOf l G (d + 1) ⟨by omega, by omega⟩ hI0 x127 (mh_r_wk r_x127 (by decide)) x149 p1 p2) rfl rfl (Nat.le_of_ble_eq_true rfl) (mh_rok (by omega) (by decide)) (fun x152 s153 q154 => ?_)
            obtain ⟨r_x152, E_s153, rfl⟩ := q154
            refine mw_aload_n 44 rfl 0 dX10_tells_43 rfl rfl ?_
            refine mw_iload_n 45 rfl 3 dX10_tells_44 rfl rfl ?_
            refine mw_aload_n 46 rfl 0 dX10_tells_45 rfl rfl ?_
            refine mw_iload_n 47 rfl 3 dX10_tells_46 rfl rfl ?_
            refine mw_iload_n 48 rfl 1 dX10_tells_47 rfl rfl ?_
            refine mw_iload_n 49 rfl 2 dX10_tells_48 rfl rfl ?_
            refine mw_callVi [.int x128, .int p1, .int p2] [.int x128, .ref (G.2.2.2 57), .int x152] 52 rfl dX10_tells_49 ml_X10_441 mc_X10_bestLine mk_X10_bestLine rfl rfl (by decide) (w_eX10_bestLine l G (d + 0) ⟨by omega, by omega⟩ hI0 x128 r_x128 p1 p2) rfl rfl (Nat.le_of_ble_eq_true rfl) (mh_rok (by omega) (by decide)) (fun x155 s156 q157 => ?_)
            obtain ⟨r_x155, E_s156, rfl⟩ := q157
            refine mw_iload_n 53 rfl 1 dX10_tells_52 rfl rfl ?_
            refine mw_iload_n 54 rfl 2 dX10_tells_53 rfl rfl ?_
            refine mw_callVi [.int x128, .int x155, .int p1, .int p2] [.int x152] 57 rfl dX10_tells_54 ml_X10_435 mc_X10_costOf mk_X10_costOf rfl rfl (by decide) (w_eX10_costOf l G (d + 1) ⟨by omega, by omega⟩ hI0 x128 r_x128 x155 p1 p2) rfl rfl (Nat.le_of_ble_eq_true rfl) (mh_rok (by omega) (by decide)) (fun x158 s159 q160 => ?_)
            obtain ⟨r_x158, E_s159, rfl⟩ := q160
            have J63 : ∀ (x162 : Int32), mh_r x162 (0) (2) → (f_eX10_tells s0 p1 p2 = j_eX10_tells_63_2 (l_eX10_tells_21_1 s0 p1 p2 n1) x127 x162) → mh_W G (mh_XM l G (d + 2) (mh_Qi (P_eX10_tells B D s0 p1 p2))) mM_X10_tells 63 [(0, .ref (G.2.2.2 57)), (1, .int p1), (2, .int p2), (3, .int x162), (4, .int x127)] [] s0 := by
              intro x162 r_x162 hE2
              refine mw_iincR (k := 4) (2) (3) 66 rfl (fun z => [(4, .int z), (0, .ref (G.2.2.2 57)), (1, .int p1), (2, .int p2), (3, .int x162)]) dX10_tells_63 rfl (by decide) (fun _ => rfl) r_x127 (by decide) (by decide) (fun x165 t166 r_x165 => ?_)
              refine mw_goto 69 rfl 21 dX10_tells_66 (by decide) ?_
              exact mw_lv [1, 2, 3, 4, 0] rfl (ihn1 x165 x162 (mh_r_wk r_x165 (by decide)) r_x162 (Eq.trans hE2 (mh_lbT (mh_einc t166 rfl) rfl)) (by have : x165.toInt = x127.toInt + (1) := t166; omega))
            refine mw_icmp_ge 60 rfl 63 dX10_tells_57 (by decide) (fun c167 => ?_) (fun c167 => ?_)
            · skip
              exact mw_lv [0, 1, 2, 3, 4] rfl (J63 x128 r_x128 (Eq.trans hE1 (mh_ifT c148 (mh_lbS E_s150 (mh_lbS E_s153 (mh_lbS E_s156 (mh_lbS E_s159 (mh_ifF (Int.not_lt.mpr c167) rfl))))))))
            · skip
              have r_x152 : mh_r x152 (-2147483648) (2147483646) := mh_lt1 c167 r_x152 r_x158 (2147483646) (by decide)
              have r_x158 : mh_r x158 (-2147483647) (2147483647) := mh_lt2 c167 r_x152 r_x158 (-2147483647) (by decide)
              refine mw_iload 62 rfl 4 dX10_tells_60  rfl ?_
              refine mw_istore_n 63 rfl [(3, .int x127), (0, .ref (G.2.2.2 57)), (1, .int p1), (2, .int p2), (4, .int x127)] dX10_tells_62 rfl (by decide) rfl ?_
              exact mw_lv [1, 2, 3, 0, 4] rfl (J63 x127 (mh_r_wk r_x127 (by decide)) (Eq.trans hE1 (mh_ifT c148 (mh_lbS E_s150 (mh_lbS E_s153 (mh_lbS E_s156 (mh_lbS E_s159 (mh_ifT c167 rfl))))))))
      exact mw_lv [2, 3, 4, 1, 0] rfl (L21 3 (1) (0) (mh_r_wk rc_1 (by decide)) (mh_r_wk rc_0 (by decide)) (mh_lbS E_s84 (mh_ifF c86 (mh_lbS E_s88 (mh_ifF c90 rfl)))) (by have := (rc_1).1; have := (rc_1).2; omega))
    · skip
      have r_x87 : mh_r x87 (0) (0) := mh_eq1 (show x87.toInt = (0 : Int32).toInt from c90) r_x87 rc_0 (0) (0) (by decide)
      refine mw_iconst (v := -1) 15 rfl dX10_tells_14 (by decide) ?_
      exact mw_iret dX10_tells_15 rfl ⟨(-1), rfl, ⟨(mh_r_wk rc_m1 (by decide)), (mh_lbS E_s84 (mh_ifF c86 (mh_lbS E_s88 (mh_ifT c90 rfl)))), rfl⟩⟩

def ls_eX10_divisor_6_1 (lo_6_1 : Int64 → Int64 → Int64) (y29 : Int64) (y30 : Int64) : Int64 := mh_lb (lg_cmp y29 (0 : Int64)) (fun x39 => if x39.toInt = 0 then y30 else mh_lb (y30 - y30 / y29 * y29) (fun y43 => (lo_6_1 y43 y29)))
def l_eX10_divisor_6_1 : Nat → Int64 → Int64 → Int64
  | 0 => fun _ _ => 0
  | n + 1 => ls_eX10_divisor_6_1 (l_eX10_divisor_6_1 n)
theorem l_eX10_divisor_6_1_s (n : Nat) : l_eX10_divisor_6_1 (n + 1) = ls_eX10_divisor_6_1 (l_eX10_divisor_6_1 n) := rfl
def f_eX10_divisor (s0 : mh_H) (p0 : Int64) (p2 : Int64) : Int64 := (l_eX10_divisor_6_1 9223372036854775809 p2 p0)
def P_eX10_divisor (B D : Int) (s0 : mh_H) (p0 : Int64) (p2 : Int64) : Int64 → mh_H → Prop := fun z s => f_eX10_divisor s0 p0 p2 = z ∧ (z.toInt.natAbs = Nat.gcd p0.toInt.natAbs p2.toInt.natAbs) ∧ (0 ≤ p0.toInt ∧ 0 ≤ p2.toInt → 0 ≤ z.toInt) ∧ s0 = s
set_option maxRecDepth 100000 in
set_option maxHeartbeats 4000000 in
theorem w_eX10_divisor (l : Launch) (G : mh_G) (d : Nat) {B D : Int} (hB : B ≤ 2000000000 ∧ D ≤ 2000000000) {s0 : mh_H} (hI0 : mh_I B D s0) (p0 : Int64) (p2 : Int64) : mh_Ml l G (d + 0) mM_X10_divisor [.long p0, .long p2] s0 (P_eX10_divisor B D s0 p0 p2) := by
  refine mh_enter (lv := [(0, .long p0), (2, .long p2)]) (by decide) rfl (Nat.le_of_ble_eq_true rfl) ?_
  refine mw_lload_n 1 rfl 0 dX10_divisor_0 rfl rfl ?_
  refine mw_lstore 3 rfl [(4, .long p0), (0, .long p0), (2, .long p2)] dX10_divisor_1  (by decide) rfl ?_
  refine mw_lload_n 4 rfl 2 dX10_divisor_3 rfl rfl ?_
  refine mw_lstore 6 rfl [(6, .long p2), (4, .long p0), (0, .long p0), (2, .long p2)] dX10_divisor_4  (by decide) rfl ?_
  have L6 : ∀ n1 : Nat, ∀ (y29 : Int64) (y30 : Int64), (Nat.gcd y30.toInt.natAbs y29.toInt.natAbs = Nat.gcd p0.toInt.natAbs p2.toInt.natAbs ∧ (0 ≤ p0.toInt ∧ 0 ≤ p2.toInt → 0 ≤ y30.toInt ∧ 0 ≤ y29.toInt)) → (f_eX10_divisor s0 p0 p2 = l_eX10_divisor_6_1 n1 y29 y30) → (y29.toInt.natAbs : Int) < (n1 : Int) → mh_W G (mh_XM l G (d + 0) (mh_Ql (P_eX10_divisor B D s0 p0 p2))) mM_X10_divisor 6 [(0, .long p0), (2, .long p2), (4, .long y30), (6, .long y29)] [] s0 := by
    intro n1
    induction n1 with
    | zero =>
      intro y29 y30 iv hE1 hmn1
      exact absurd hmn1 (by omega)
    | succ n1 ihn1 =>
      intro y29 y30 iv hE1 hmn1
      rw [l_eX10_divisor_6_1_s] at hE1
      refine mw_lload 8 rfl 3 dX10_divisor_6  rfl ?_
      refine mw_lconst (v := 0) 9 rfl dX10_divisor_8 (by decide) ?_
      refine mw_lcmp 10 rfl dX10_divisor_9 (fun x39 t40 => ?_)
      have g41 := mh_lc t40
      have r_x39 : mh_r x39 (-1) 1 := g41.2.2
      refine mw_if_eq 13 rfl 31 dX10_divisor_10 (by decide) (fun c42 => ?_) (fun c42 => ?_)
      · skip
        have r_x39 : mh_r x39 (0) (0) := mh_eq1 (show x39.toInt = (0 : Int32).toInt from c42) r_x39 rc_0 (0) (0) (by decide)
        refine mw_lload 33 rfl 2 dX10_divisor_31  rfl ?_
        refine mw_lret dX10_divisor_33 rfl ⟨y30, rfl, ⟨(Eq.trans hE1 (mh_lbT t40 (mh_ifT c42 rfl))), ?_, ?_, rfl⟩⟩
        · skip
          have h9 := iv.1
          have h8 : y29.toInt.natAbs = 0 := by have := mh_l0; omega
          rw [h8, Nat.gcd_zero_right] at h9
          exact h9
        · skip
          intro hh
          exact (iv.2 hh).1
      · skip
        refine mw_lload 15 rfl 2 dX10_divisor_13  rfl ?_
        refine mw_lload 17 rfl 3 dX10_divisor_15  rfl ?_
        refine mw_lrem 18 rfl dX10_divisor_17 (mh_lnz (by have := mh_l0; omega)) (fun y43 t44 => ?_)
        refine mw_lstore 20 rfl [(8, .long y43), (0, .long p0), (2, .long p2), (4, .long y30), (6, .long y29)] dX10_divisor_18  (by decide) rfl ?_
        refine mw_lload 22 rfl 4 dX10_divisor_20  rfl ?_
        refine mw_lstore 24 rfl [(4, .long y29), (8, .long y43), (0, .long p0), (2, .long p2), (6, .long y29)] dX10_divisor_22  (by decide) rfl ?_
        refine mw_lload 26 rfl 1 dX10_divisor_24  rfl ?_
        refine mw_lstore 28 rfl [(6, .long y43), (4, .long y29), (8, .long y43), (0, .long p0), (2, .long p2)] dX10_divisor_26  (by decide) rfl ?_
        refine mw_goto 31 rfl 6 dX10_divisor_28 (by decide) ?_
        exact mw_lv [3, 4, 1, 0] rfl (ihn1 y43 y29 (by
            refine ⟨?_, ?_⟩
            · first | rfl | exact mh_gcs (by assumption) (by have := mh_l0; omega) iv.1
            · intro hh; first | exact hh | (have := iv.2 hh; have := (mh_lrm2 (by assumption) (by have := mh_l0; omega)).2.1 this.1; omega)) (Eq.trans hE1 (mh_lbT t40 (mh_ifF c42 (mh_lbT t44 rfl)))) (by have := (mh_lrm2 (by assumption) (by have := mh_l0; omega)).2.2; omega))
  exact mw_lv [2, 3, 1, 0] rfl (L6 9223372036854775809 p2 p0 (by
      refine ⟨?_, ?_⟩
      · first | rfl | exact mh_gcs (by assumption) (by have := mh_l0; omega) iv.1
      · intro hh; first | exact hh | (have := iv.2 hh; have := (mh_lrm2 (by assumption) (by have := mh_l0; omega)).2.1 this.1; omega)) (rfl) (by have := Int64.le_toInt p2; have := Int64.toInt_lt p2; omega))

def j_eX10_odds_195_2 (lo_76_1 : Int32 → Int32 → Int32 → Int32 → Int32) (x1045 : Int32) (x1164 : Int32) (x1165 : Int32) (x1166 : Int32) : Int32 := mh_lb (x1045 + (1 : Int32)) (fun x1169 => (lo_76_1 x1169 x1166 x1165 x1164))
def j_eX10_odds_193_4 (lo_76_1 : Int32 → Int32 → Int32 → Int32 → Int32) (x1045 : Int32) (x1192 : Int32) (x1206 : Int32) (x1213 : Int32) : Int32 := (j_eX10_odds_195_2 lo_76_1 x1045 x1192 x1206 x1213)
def j_eX10_odds_166_3 (lo_76_1 : Int32 → Int32 → Int32 → Int32 → Int32) (x1045 : Int32) (x1046 : Int32) (x1047 : Int32) (x1192 : Int32) (x1194 : Int32) (x1197 : Int32) : Int32 := mh_lb (x1047 + x1197) (fun x1206 => if x1046.toInt < x1194.toInt then (j_eX10_odds_193_4 lo_76_1 x1045 x1192 x1206 x1194) else (j_eX10_odds_193_4 lo_76_1 x1045 x1192 x1206 x1046))
def ls_eX10_odds_76_1 (s0 : mh_H) (p1 : Int32) (p2 : Int32) (p3 : Int32) (p4 : Int32) (p5 : Int32) (lo_76_1 : Int32 → Int32 → Int32 → Int32 → Int32) (x1045 : Int32) (x1046 : Int32) (x1047 : Int32) (x1048 : Int32) : Int32 := mh_lb (s0.1 57 58) (fun x1103 => if x1045.toInt < x1103.toInt then mh_lb ((3 : Int32) * x1045) (fun x1122 => mh_lb (s0.1 97 x1122.toNatClampNeg) (fun x1124 => mh_lb (f_eX10_isWithin s0 x1124 p1 p4) (fun x1126 => if x1126.toInt = 0 then (j_eX10_odds_195_2 lo_76_1 x1045 x1048 x1047 x1046) else mh_lb (x1122 + (1 : Int32)) (fun x1174 => mh_lb (s0.1 97 x1174.toNatClampNeg) (fun x1176 => mh_lb (f_eX10_isWithin s0 x1176 p2 p4) (fun x1178 => if x1178.toInt = 0 then (j_eX10_odds_195_2 lo_76_1 x1045 x1048 x1047 x1046) else mh_lb (x1122 + (2 : Int32)) (fun x1184 => mh_lb (s0.1 97 x1184.toNatClampNeg) (fun x1186 => mh_lb (f_eX10_isWithin s0 x1186 p3 p4) (fun x1188 => if x1188.toInt = 0 then (j_eX10_odds_195_2 lo_76_1 x1045 x1048 x1047 x1046) else mh_lb (x1048 + (1 : Int32)) (fun x1192 => mh_lb (s0.1 98 x1045.toNatClampNeg) (fun x1194 => if 0 < x1194.toInt then (j_eX10_odds_166_3 lo_76_1 x1045 x1046 x1047 x1192 x1194 (1 : Int32)) else (j_eX10_odds_166_3 lo_76_1 x1045 x1046 x1047 x1192 x1194 (0 : Int32))))))))))))) else if x1048.toInt = 0 then (-2 : Int32) else if p5.toInt = (2 : Int32).toInt then x1046 else mh_lb (Int32.toInt64 x1047) (fun y1108 => mh_lb (Int32.toInt64 x1048) (fun y1110 => mh_lb (f_eX10_divisor s0 y1108 y1110) (fun y1112 => mh_lb (Int64.toInt32 y1112) (fun x1115 => if p5.toInt = 0 then mh_lb (x1047 / x1115) (fun x1120 => x1120) else mh_lb (x1048 / x1115) (fun x1118 => x1118))))))
def l_eX10_odds_76_1 (s0 : mh_H) (p1 : Int32) (p2 : Int32) (p3 : Int32) (p4 : Int32) (p5 : Int32) : Nat → Int32 → Int32 → Int32 → Int32 → Int32
  | 0 => fun _ _ _ _ => 0
  | n + 1 => ls_eX10_odds_76_1 s0 p1 p2 p3 p4 p5 (l_eX10_odds_76_1 s0 p1 p2 p3 p4 p5 n)
theorem l_eX10_odds_76_1_s (s0 : mh_H) (p1 : Int32) (p2 : Int32) (p3 : Int32) (p4 : Int32) (p5 : Int32) (n : Nat) : l_eX10_odds_76_1 s0 p1 p2 p3 p4 p5 (n + 1) = ls_eX10_odds_76_1 s0 p1 p2 p3 p4 p5 (l_eX10_odds_76_1 s0 p1 p2 p3 p4 p5 n) := rfl
def f_eX10_odds (s0 : mh_H) (p1 : Int32) (p2 : Int32) (p3 : Int32) (p4 : Int32) (p5 : Int32) : Int32 := mh_lb (Int32.toInt64 p1) (fun y585 => mh_lb (f_eX10_lies s0 y585 (0 : Int64) (99 : Int64)) (fun x587 => if x587.toInt = 0 then (-1 : Int32) else mh_lb (Int32.toInt64 p2) (fun y591 => mh_lb (f_eX10_lies s0 y591 (0 : Int64) (99 : Int64)) (fun x593 => if x593.toInt = 0 then (-1 : Int32) else mh_lb (Int32.toInt64 p3) (fun y597 => mh_lb (f_eX10_lies s0 y597 (0 : Int64) (99 : Int64)) (fun x599 => if x599.toInt = 0 then (-1 : Int32) else mh_lb (Int32.toInt64 p4) (fun y603 => mh_lb (f_eX10_lies s0 y603 (0 : Int64) (99 : Int64)) (fun x605 => if x605.toInt = 0 then (-1 : Int32) else mh_lb (Int32.toInt64 p5) (fun y609 => mh_lb (f_eX10_lies s0 y609 (0 : Int64) (2 : Int64)) (fun x611 => if x611.toInt = 0 then (-1 : Int32) else (l_eX10_odds_76_1 s0 p1 p2 p3 p4 p5 61 (0 : Int32) (0 : Int32) (0 : Int32) (0 : Int32))))))))))))
def P_eX10_odds (B D : Int) (s0 : mh_H) (p1 : Int32) (p2 : Int32) (p3 : Int32) (p4 : Int32) (p5 : Int32) : Int32 → mh_H → Prop := fun z s => mh_r z (-2) (2147483647) ∧ f_eX10_odds s0 p1 p2 p3 p4 p5 = z ∧ s0 = s
set_option maxRecDepth 100000 in
set_option maxHeartbeats 4000000 in
theorem w_eX10_odds (l : Launch) (G : mh_G) (d : Nat) {B D : Int} (hB : B ≤ 1960000000 ∧ D ≤ 1960000000) {s0 : mh_H} (hI0 : mh_I B D s0) (p1 : Int32) (p2 : Int32) (p3 : Int32) (p4 : Int32) (p5 : Int32) : mh_Mi l G (d + 2) mM_X10_odds [.ref (G.2.2.2 57), .int p1, .int p2, .int p3, .int p4, .int p5] s0 (P_eX10_odds B D s0 p1 p2 p3 p4 p5) := by
  refine mh_enter (lv := [(0, .ref (G.2.2.2 57)), (1, .int p1), (2, .int p2), (3, .int p3), (4, .int p4), (5, .int p5)]) (by decide) rfl (Nat.le_of_ble_eq_true rfl) ?_
  refine mw_iload_n 1 rfl 1 dX10_odds_0 rfl rfl ?_
  refine mw_i2l 2 rfl dX10_odds_1 (fun y585 t586 => ?_)
  refine mw_lconst (v := 0) 3 rfl dX10_odds_2 (by decide) ?_
  refine mw_ldc2 6 rfl dX10_odds_3 ck_X10_170 ?_
  refine mw_callSi [.long y585, .long (0), .long (99)] [] 9 rfl dX10_odds_6 ml_X10_154 mc_X10_lies mk_X10_lies (w_eX10_lies l G (d + 1) ⟨by omega, by omega⟩ hI0 y585 (0) (99)) rfl rfl (Nat.le_of_ble_eq_true rfl) (mh_rok (by omega) (by decide)) (fun x587 s588 q589 => ?_)
  obtain ⟨r_x587, E_s588, e0_s588, rfl⟩ := q589
  have f_x587 : x587.toInt = 1 ↔ (0 ≤ p1.toInt ∧ p1.toInt ≤ 99) := by rw [e0_s588]; exact by simp only [t586, Int32.toInt_toInt64]; first | done | exact Iff.rfl
  refine mw_if_eq 12 rfl 62 dX10_odds_9 (by decide) (fun c590 => ?_) (fun c590 => ?_)
  · skip
    have r_x587 : mh_r x587 (0) (0) := mh_eq1 (show x587.toInt = (0 : Int32).toInt from c590) r_x587 rc_0 (0) (0) (by decide)
    refine mw_iconst (v := -1) 63 rfl dX10_odds_62 (by decide) ?_
    exact mw_iret dX10_odds_63 rfl ⟨(-1), rfl, ⟨(mh_r_wk rc_m1 (by decide)), (mh_lbT t586 (mh_lbS E_s588 (mh_ifT c590 rfl))), rfl⟩⟩
  · skip
    have r_p1 : mh_r p1 (0) (99) := ⟨by have := f_x587.1 (mh_z1 r_x587 c590); have := ((mh_r_full p1)).1; omega, by have := f_x587.1 (mh_z1 r_x587 c590); have := ((mh_r_full p1)).2; omega⟩
    have r_x587 : mh_r x587 (1) (1) := mh_ne1 (show x587.toInt ≠ (0 : Int32).toInt from c590) r_x587 rc_0 (1) (1) (by decide)
    refine mw_iload_n 13 rfl 2 dX10_odds_12 rfl rfl ?_
    refine mw_i2l 14 rfl dX10_odds_13 (fun y591 t592 => ?_)
    refine mw_lconst (v := 0) 15 rfl dX10_odds_14 (by decide) ?_
    refine mw_ldc2 18 rfl dX10_odds_15 ck_X10_170 ?_
    refine mw_callSi [.long y591, .long (0), .long (99)] [] 21 rfl dX10_odds_18 ml_X10_154 mc_X10_lies mk_X10_lies (w_eX10_lies l G (d + 1) ⟨by omega, by omega⟩ hI0 y591 (0) (99)) rfl rfl (Nat.le_of_ble_eq_true rfl) (mh_rok (by omega) (by decide)) (fun x593 s594 q595 => ?_)
    obtain ⟨r_x593, E_s594, e0_s594, rfl⟩ := q595
    have f_x593 : x593.toInt = 1 ↔ (0 ≤ p2.toInt ∧ p2.toInt ≤ 99) := by rw [e0_s594]; exact by simp only [t592, Int32.toInt_toInt64]; first | done | exact Iff.rfl
    refine mw_if_eq 24 rfl 62 dX10_odds_21 (by decide) (fun c596 => ?_) (fun c596 => ?_)
    · skip
      have r_x593 : mh_r x593 (0) (0) := mh_eq1 (show x593.toInt = (0 : Int32).toInt from c596) r_x593 rc_0 (0) (0) (by decide)
      refine mw_iconst (v := -1) 63 rfl dX10_odds_62 (by decide) ?_
      exact mw_iret dX10_odds_63 rfl ⟨(-1), rfl, ⟨(mh_r_wk rc_m1 (by decide)), (mh_lbT t586 (mh_lbS E_s588 (mh_ifF c590 (mh_lbT t592 (mh_lbS E_s594 (mh_ifT c596 rfl)))))), rfl⟩⟩
    · skip
      have r_p2 : mh_r p2 (0) (99) := ⟨by have := f_x593.1 (mh_z1 r_x593 c596); have := ((mh_r_full p2)).1; omega, by have := f_x593.1 (mh_z1 r_x593 c596); have := ((mh_r_full p2)).2; omega⟩
      have r_x593 : mh_r x593 (1) (1) := mh_ne1 (show x593.toInt ≠ (0 : Int32).toInt from c596) r_x593 rc_0 (1) (1) (by decide)
      refine mw_iload_n 25 rfl 3 dX10_odds_24 rfl rfl ?_
      refine mw_i2l 26 rfl dX10_odds_25 (fun y597 t598 => ?_)
      refine mw_lconst (v := 0) 27 rfl dX10_odds_26 (by decide) ?_
      refine mw_ldc2 30 rfl dX10_odds_27 ck_X10_170 ?_
      refine mw_callSi [.long y597, .long (0), .long (99)] [] 33 rfl dX10_odds_30 ml_X10_154 mc_X10_lies mk_X10_lies (w_eX10_lies l G (d + 1) ⟨by omega, by omega⟩ hI0 y597 (0) (99)) rfl rfl (Nat.le_of_ble_eq_true rfl) (mh_rok (by omega) (by decide)) (fun x599 s600 q601 => ?_)
      obtain ⟨r_x599, E_s600, e0_s600, rfl⟩ := q601
      have f_x599 : x599.toInt = 1 ↔ (0 ≤ p3.toInt ∧ p3.toInt ≤ 99) := by rw [e0_s600]; exact by simp only [t598, Int32.toInt_toInt64]; first | done | exact Iff.rfl
      refine mw_if_eq 36 rfl 62 dX10_odds_33 (by decide) (fun c602 => ?_) (fun c602 => ?_)
      · skip
        have r_x599 : mh_r x599 (0) (0) := mh_eq1 (show x599.toInt = (0 : Int32).toInt from c602) r_x599 rc_0 (0) (0) (by decide)
        refine mw_iconst (v := -1) 63 rfl dX10_odds_62 (by decide) ?_
        exact mw_iret dX10_odds_63 rfl ⟨(-1), rfl, ⟨(mh_r_wk rc_m1 (by decide)), (mh_lbT t586 (mh_lbS E_s588 (mh_ifF c590 (mh_lbT t592 (mh_lbS E_s594 (mh_ifF c596 (mh_lbT t598 (mh_lbS E_s600 (mh_ifT c602 rfl))))))))), rfl⟩⟩
      · skip
        have r_p3 : mh_r p3 (0) (99) := ⟨by have := f_x599.1 (mh_z1 r_x599 c602); have := ((mh_r_full p3)).1; omega, by have := f_x599.1 (mh_z1 r_x599 c602); have := ((mh_r_full p3)).2; omega⟩
        have r_x599 : mh_r x599 (1) (1) := mh_ne1 (show x599.toInt ≠ (0 : Int32).toInt from c602) r_x599 rc_0 (1) (1) (by decide)
        refine mw_iload 38 rfl 4 dX10_odds_36  rfl ?_
        refine mw_i2l 39 rfl dX10_odds_38 (fun y603 t604 => ?_)
        refine mw_lconst (v := 0) 40 rfl dX10_odds_39 (by decide) ?_
        refine mw_ldc2 43 rfl dX10_odds_40 ck_X10_170 ?_
        refine mw_callSi [.long y603, .long (0), .long (99)] [] 46 rfl dX10_odds_43 ml_X10_154 mc_X10_lies mk_X10_lies (w_eX10_lies l G (d + 1) ⟨by omega, by omega⟩ hI0 y603 (0) (99)) rfl rfl (Nat.le_of_ble_eq_true rfl) (mh_rok (by omega) (by decide)) (fun x605 s606 q607 => ?_)
        obtain ⟨r_x605, E_s606, e0_s606, rfl⟩ := q607
        have f_x605 : x605.toInt = 1 ↔ (0 ≤ p4.toInt ∧ p4.toInt ≤ 99) := by rw [e0_s606]; exact by simp only [t604, Int32.toInt_toInt64]; first | done | exact Iff.rfl
        refine mw_if_eq 49 rfl 62 dX10_odds_46 (by decide) (fun c608 => ?_) (fun c608 => ?_)
        · skip
          have r_x605 : mh_r x605 (0) (0) := mh_eq1 (show x605.toInt = (0 : Int32).toInt from c608) r_x605 rc_0 (0) (0) (by decide)
          refine mw_iconst (v := -1) 63 rfl dX10_odds_62 (by decide) ?_
          exact mw_iret dX10_odds_63 rfl ⟨(-1), rfl, ⟨(mh_r_wk rc_m1 (by decide)), (mh_lbT t586 (mh_lbS E_s588 (mh_ifF c590 (mh_lbT t592 (mh_lbS E_s594 (mh_ifF c596 (mh_lbT t598 (mh_lbS E_s600 (mh_ifF c602 (mh_lbT t604 (mh_lbS E_s606 (mh_ifT c608 rfl)))))))))))), rfl⟩⟩
        · skip
          have r_p4 : mh_r p4 (0) (99) := ⟨by have := f_x605.1 (mh_z1 r_x605 c608); have := ((mh_r_full p4)).1; omega, by have := f_x605.1 (mh_z1 r_x605 c608); have := ((mh_r_full p4)).2; omega⟩
          have r_x605 : mh_r x605 (1) (1) := mh_ne1 (show x605.toInt ≠ (0 : Int32).toInt from c608) r_x605 rc_0 (1) (1) (by decide)
          refine mw_iload 51 rfl 5 dX10_odds_49  rfl ?_
          refine mw_i2l 52 rfl dX10_odds_51 (fun y609 t610 => ?_)
          refine mw_lconst (v := 0) 53 rfl dX10_odds_52 (by decide) ?_
          refine mw_ldc2 56 rfl dX10_odds_53 ck_X10_425 ?_
          refine mw_callSi [.long y609, .long (0), .long (2)] [] 59 rfl dX10_odds_56 ml_X10_154 mc_X10_lies mk_X10_lies (w_eX10_lies l G (d + 1) ⟨by omega, by omega⟩ hI0 y609 (0) (2)) rfl rfl (Nat.le_of_ble_eq_true rfl) (mh_rok (by omega) (by decide)) (fun x611 s612 q613 => ?_)
          obtain ⟨r_x611, E_s612, e0_s612, rfl⟩ := q613
          have f_x611 : x611.toInt = 1 ↔ (0 ≤ p5.toInt ∧ p5.toInt ≤ 2) := by rw [e0_s612]; exact by simp only [t610, Int32.toInt_toInt64]; first | done | exact Iff.rfl
          refine mw_if_ne 62 rfl 64 dX10_odds_59 (by decide) (fun c614 => ?_) (fun c614 => ?_)
          · skip
            have r_p5 : mh_r p5 (0) (2) := ⟨by have := f_x611.1 (mh_z1 r_x611 c614); have := ((mh_r_full p5)).1; omega, by have := f_x611.1 (mh_z1 r_x611 c614); have := ((mh_r_full p5)).2; omega⟩
            have r_x611 : mh_r x611 (1) (1) := mh_ne1 (show x611.toInt ≠ (0 : Int32).toInt from c614) r_x611 rc_0 (1) (1) (by decide)
            refine mw_iconst (v := 0) 65 rfl dX10_odds_64 (by decide) ?_
            refine mw_istore 67 rfl [(6, .int (0)), (0, .ref (G.2.2.2 57)), (1, .int p1), (2, .int p2), (3, .int p3), (4, .int p4), (5, .int p5)] dX10_odds_65  (by decide) rfl ?_
            refine mw_iconst (v := 0) 68 rfl dX10_odds_67 (by decide) ?_
            refine mw_istore 70 rfl [(7, .int (0)), (6, .int (0)), (0, .ref (G.2.2.2 57)), (1, .int p1), (2, .int p2), (3, .int p3), (4, .int p4), (5, .int p5)] dX10_odds_68  (by decide) rfl ?_
            refine mw_iconst (v := 0) 71 rfl dX10_odds_70 (by decide) ?_
            refine mw_istore 73 rfl [(8, .int (0)), (7, .int (0)), (6, .int (0)), (0, .ref (G.2.2.2 57)), (1, .int p1), (2, .int p2), (3, .int p3), (4, .int p4), (5, .int p5)] dX10_odds_71  (by decide) rfl ?_
            refine mw_iconst (v := 0) 74 rfl dX10_odds_73 (by decide) ?_
            refine mw_istore 76 rfl [(9, .int (0)), (8, .int (0)), (7, .int (0)), (6, .int (0)), (0, .ref (G.2.2.2 57)), (1, .int p1), (2, .int p2), (3, .int p3), (4, .int p4), (5, .int p5)] dX10_odds_74  (by decide) rfl ?_
            have L76 : ∀ n1 : Nat, ∀ (x1045 : Int32) (x1046 : Int32) (x1047 : Int32) (x1048 : Int32), mh_r x1045 (0) (60) → mh_r x1046 (0) (2147483647) → mh_r x1047 (0) (60) → mh_r x1048 (0) (60) → (0 ≤ x1047.toInt ∧ x1047.toInt ≤ x1048.toInt ∧ x1048.toInt ≤ x1045.toInt) → (f_eX10_odds s0 p1 p2 p3 p4 p5 = l_eX10_odds_76_1 s0 p1 p2 p3 p4 p5 n1 x1045 x1046 x1047 x1048) → (60) - x1045.toInt < (n1 : Int) → mh_W G (mh_XM l G (d + 2) (mh_Qi (P_eX10_odds B D s0 p1 p2 p3 p4 p5))) mM_X10_odds 76 [(0, .ref (G.2.2.2 57)), (1, .int p1), (2, .int p2), (3, .int p3), (4, .int p4), (5, .int p5), (6, .int x1048), (7, .int x1047), (8, .int x1046), (9, .int x1045)] [] s0 := by
              intro n1
              induction n1 with
              | zero =>
                intro x1045 x1046 x1047 x1048 r_x1045 r_x1046 r_x1047 r_x1048 iv hE1 hmn1
                exact absurd hmn1 (by have := r_x1045.1; have := r_x1045.2; omega)
              | succ n1 ihn1 =>
                intro x1045 x1046 x1047 x1048 r_x1045 r_x1046 r_x1047 r_x1048 iv hE1 hmn1
                rw [l_eX10_odds_76_1_s] at hE1
                refine mw_iload 78 rfl 9 dX10_odds_76  rfl ?_
                refine mw_aload_n 79 rfl 0 dX10_odds_78 rfl rfl ?_
                refine mw_geti 82 rfl dX10_odds_79 gf_X10_432 rfl (fun x1103 t1104 => ?_)
                have r_x1103 : mh_r x1103 (0) (60) := by rw [t1104]; exact rd_57_58 hI0
                refine mw_icmp_ge 85 rfl 201 dX10_odds_82 (by decide) (fun c1105 => ?_) (fun c1105 => ?_)
                · skip
                  refine mw_iload 203 rfl 6 dX10_odds_201  rfl ?_
                  refine mw_if_ne 206 rfl 209 dX10_odds_203 (by decide) (fun c1106 => ?_) (fun c1106 => ?_)
                  · skip
                    have r_x1048 : mh_r x1048 (1) (60) := mh_ne1 (show x1048.toInt ≠ (0 : Int32).toInt from c1106) r_x1048 rc_0 (1) (60) (by decide)
                    refine mw_iload 211 rfl 5 dX10_odds_209  rfl ?_
                    refine mw_iconst (v := 2) 212 rfl dX10_odds_211 (by decide) ?_
                    refine mw_icmp_ne 215 rfl 218 dX10_odds_212 (by decide) (fun c1107 => ?_) (fun c1107 => ?_)
                    · skip
                      have r_p5 : mh_r p5 (0) (1) := mh_ne1 c1107 r_p5 rc_2 (0) (1) (by decide)
                      refine mw_iload 220 rfl 7 dX10_odds_218  rfl ?_
                      refine mw_i2l 221 rfl dX10_odds_220 (fun y1108 t1109 => ?_)
                      refine mw_iload 223 rfl 6 dX10_odds_221  rfl ?_
                      refine mw_i2l 224 rfl dX10_odds_223 (fun y1110 t1111 => ?_)
                      refine mw_callSl [.long y1108, .long y1110] [] 227 rfl dX10_odds_224 ml_X10_448 mc_X10_divisor mk_X10_divisor (w_eX10_divisor l G (d + 1) ⟨by omega, by omega⟩ hI0 y1108 y1110) rfl rfl (Nat.le_of_ble_eq_true rfl) (mh_rok (by omega) (by decide)) (fun y1112 s1113 q1114 => ?_)
                      obtain ⟨E_s1113, e0_s1113, e1_s1113, rfl⟩ := q1114
                      refine mw_l2i 228 rfl dX10_odds_227 (fun x1115 t1116 => ?_)
                      have r_x1115 : mh_r x1115 (1) (60) := (mh_g32 (n := 60) t1116 e0_s1113 (e1_s1113 ⟨by rw [t1109, Int32.toInt_toInt64]; exact (r_x1047).1, by rw [t1111, Int32.toInt_toInt64]; have := (r_x1048).1; omega⟩) (by rw [t1111, Int32.toInt_toInt64]; have := (r_x1048).1; have := (r_x1048).2; omega) (by decide)).1
                      refine mw_istore 230 rfl [(9, .int x1115), (0, .ref (G.2.2.2 57)), (1, .int p1), (2, .int p2), (3, .int p3), (4, .int p4), (5, .int p5), (6, .int x1048), (7, .int x1047), (8, .int x1046)] dX10_odds_228  (by decide) rfl ?_
                      refine mw_iload 232 rfl 6 dX10_odds_230  rfl ?_
                      refine mw_if_ne 235 rfl 243 dX10_odds_232 (by decide) (fun c1117 => ?_) (fun c1117 => ?_)
                      · skip
                        have r_p5 : mh_r p5 (1) (1) := mh_ne1 (show p5.toInt ≠ (0 : Int32).toInt from c1117) r_p5 rc_0 (1) (1) (by decide)
                        refine mw_iload 245 rfl 7 dX10_odds_243  rfl ?_
                        refine mw_iload 247 rfl 0 dX10_odds_245  rfl ?_
                        refine mw_idiv 248 rfl (0) (60) dX10_odds_247 r_x1048 r_x1115 (by decide) (fun x1118 t1119 r_x1118 => ?_)
                        exact mw_iret dX10_odds_248 rfl ⟨x1118, rfl, ⟨(mh_r_wk r_x1118 (by decide)), (Eq.trans hE1 (mh_lbT t1104 (mh_ifF (Int.not_lt.mpr c1105) (mh_ifF c1106 (mh_ifF c1107 (mh_lbT t1109 (mh_lbT t1111 (mh_lbS E_s1113 (mh_lbT t1116 (mh_ifF c1117 (mh_lbT (mh_ediv t1119) rfl))))))))))), rfl⟩⟩
                      · skip
                        have r_p5 : mh_r p5 (0) (0) := mh_eq1 (show p5.toInt = (0 : Int32).toInt from c1117) r_p5 rc_0 (0) (0) (by decide)
                        refine mw_iload 237 rfl 8 dX10_odds_235  rfl ?_
                        refine mw_iload 239 rfl 0 dX10_odds_237  rfl ?_
                        refine mw_idiv 240 rfl (0) (60) dX10_odds_239 r_x1047 r_x1115 (by decide) (fun x1120 t1121 r_x1120 => ?_)
                        refine mw_goto 243 rfl 248 dX10_odds_240 (by decide) ?_
                        exact mw_iret dX10_odds_248 rfl ⟨x1120, rfl, ⟨(mh_r_wk r_x1120 (by decide)), (Eq.trans hE1 (mh_lbT t1104 (mh_ifF (Int.not_lt.mpr c1105) (mh_ifF c1106 (mh_ifF c1107 (mh_lbT t1109 (mh_lbT t1111 (mh_lbS E_s1113 (mh_lbT t1116 (mh_ifT c1117 (mh_lbT (mh_ediv t1121) rfl))))))))))), rfl⟩⟩
                    · skip
                      have r_p5 : mh_r p5 (2) (2) := mh_eq1 c1107 r_p5 rc_2 (2) (2) (by decide)
                      refine mw_iload 217 rfl 8 dX10_odds_215  rfl ?_
                      exact mw_iret dX10_odds_217 rfl ⟨x1046, rfl, ⟨(mh_r_wk r_x1046 (by decide)), (Eq.trans hE1 (mh_lbT t1104 (mh_ifF (Int.not_lt.mpr c1105) (mh_ifF c1106 (mh_ifT c1107 rfl))))), rfl⟩⟩
                  · skip
                    have r_x1048 : mh_r x1048 (0) (0) := mh_eq1 (show x1048.toInt = (0 : Int32).toInt from c1106) r_x1048 rc_0 (0) (0) (by decide)
                    refine mw_bipush (v := -2) 208 rfl dX10_odds_206 (by decide) ?_
                    exact mw_iret dX10_odds_208 rfl ⟨(-2), rfl, ⟨(mh_r_wk rc_m2 (by decide)), (Eq.trans hE1 (mh_lbT t1104 (mh_ifF (Int.not_lt.mpr c1105) (mh_ifT c1106 rfl)))), rfl⟩⟩
                · skip
                  have r_x1045 : mh_r x1045 (0) (59) := mh_lt1 c1105 r_x1045 r_x1103 (59) (by decide)
                  have r_x1103 : mh_r x1103 (1) (60) := mh_lt2 c1105 r_x1045 r_x1103 (1) (by decide)
                  refine mw_aload_n 86 rfl 0 dX10_odds_85 rfl rfl ?_
                  refine mw_geta 89 rfl dX10_odds_86 gf_X10_134 rfl 97 (mh_rf hI0 94 rfl) ?_
                  refine mw_iconst (v := 3) 90 rfl dX10_odds_89 (by decide) ?_
                  refine mw_iload 92 rfl 9 dX10_odds_90  rfl ?_
                  refine mw_imul 93 rfl (0) (177) dX10_odds_92 rc_3 r_x1045 (by decide) (fun x1122 t1123 r_x1122 => ?_)
                  refine mw_iald 94 rfl dX10_odds_93 rfl r_x1122 (by decide) (fun x1124 t1125 => ?_)
                  refine mw_iload_n 95 rfl 1 dX10_odds_94 rfl rfl ?_
                  refine mw_iload 97 rfl 4 dX10_odds_95  rfl ?_
                  refine mw_callSi [.int x1124, .int p1, .int p4] [] 100 rfl dX10_odds_97 ml_X10_444 mc_X10_isWithin mk_X10_isWithin (w_eX10_isWithin l G (d + 0) ⟨by omega, by omega⟩ hI0 x1124 p1 p4) rfl rfl (Nat.le_of_ble_eq_true rfl) (mh_rok (by omega) (by decide)) (fun x1126 s1127 q1128 => ?_)
                  obtain ⟨r_x1126, E_s1127, rfl⟩ := q1128
                  have J195 : ∀ (x1164 : Int32) (x1165 : Int32) (x1166 : Int32), mh_r x1164 (0) (60) → mh_r x1165 (0) (60) → mh_r x1166 (0) (2147483647) → (0 ≤ x1165.toInt ∧ x1165.toInt ≤ x1164.toInt ∧ x1164.toInt ≤ x1045.toInt + 1) → (f_eX10_odds s0 p1 p2 p3 p4 p5 = j_eX10_odds_195_2 (l_eX10_odds_76_1 s0 p1 p2 p3 p4 p5 n1) x1045 x1164 x1165 x1166) → mh_W G (mh_XM l G (d + 2) (mh_Qi (P_eX10_odds B D s0 p1 p2 p3 p4 p5))) mM_X10_odds 195 [(0, .ref (G.2.2.2 57)), (1, .int p1), (2, .int p2), (3, .int p3), (4, .int p4), (5, .int p5), (6, .int x1164), (7, .int x1165), (8, .int x1166), (9, .int x1045)] [] s0 := by
                    intro x1164 x1165 x1166 r_x1164 r_x1165 r_x1166 iw hE2
                    refine mw_iincR (k := 9) (1) (60) 198 rfl (fun z => [(9, .int z), (0, .ref (G.2.2.2 57)), (1, .int p1), (2, .int p2), (3, .int p3), (4, .int p4), (5, .int p5), (6, .int x1164), (7, .int x1165), (8, .int x1166)]) dX10_odds_195 rfl (by decide) (fun _ => rfl) r_x1045 (by decide) (by decide) (fun x1169 t1170 r_x1169 => ?_)
                    refine mw_goto 201 rfl 76 dX10_odds_198 (by decide) ?_
                    exact mw_lv [1, 2, 3, 4, 5, 6, 7, 8, 9, 0] rfl (ihn1 x1169 x1166 x1165 x1164 (mh_r_wk r_x1169 (by decide)) r_x1166 r_x1165 r_x1164 (by
                        have := (r_x1169).1; have := (r_x1169).2
                        have := (r_p1).1; have := (r_p1).2
                        have := (r_p2).1; have := (r_p2).2
                        have := (r_p3).1; have := (r_p3).2
                        have := (r_p4).1; have := (r_p4).2
                        have := (r_p5).1; have := (r_p5).2
                        have := (r_x1164).1; have := (r_x1164).2
                        have := (r_x1165).1; have := (r_x1165).2
                        have := (r_x1166).1; have := (r_x1166).2
                        have := (r_x1103).1; have := (r_x1103).2
                        have := kc_m2
                        have := kc_m1
                        have := kc_0
                        have := kc_1
                        have := kc_2
                        have := kc_3
                        omega) (Eq.trans hE2 (mh_lbT (mh_einc t1170 rfl) rfl)) (by have : x1169.toInt = x1045.toInt + (1) := t1170; omega))
                  refine mw_if_eq 103 rfl 195 dX10_odds_100 (by decide) (fun c1171 => ?_) (fun c1171 => ?_)
                  · skip
                    have r_x1126 : mh_r x1126 (0) (0) := mh_eq1 (show x1126.toInt = (0 : Int32).toInt from c1171) r_x1126 rc_0 (0) (0) (by decide)
                    exact mw_lv [0, 1, 2, 3, 4, 5, 6, 7, 8, 9] rfl (J195 x1048 x1047 x1046 r_x1048 r_x1047 r_x1046 (by
                        have := (r_p1).1; have := (r_p1).2
                        have := (r_p2).1; have := (r_p2).2
                        have := (r_p3).1; have := (r_p3).2
                        have := (r_p4).1; have := (r_p4).2
                        have := (r_p5).1; have := (r_p5).2
                        have := (r_x1048).1; have := (r_x1048).2
                        have := (r_x1047).1; have := (r_x1047).2
                        have := (r_x1046).1; have := (r_x1046).2
                        have := (r_x1045).1; have := (r_x1045).2
                        have := (r_x1103).1; have := (r_x1103).2
                        have := kc_m2
                        have := kc_m1
                        have := kc_0
                        have := kc_1
                        have := kc_2
                        have := kc_3
                        omega) (Eq.trans hE1 (mh_lbT t1104 (mh_ifT c1105 (mh_lbT (mh_emul t1123) (mh_lbT t1125 (mh_lbS E_s1127 (mh_ifT c1171 rfl))))))))
                  · skip
                    have r_x1126 : mh_r x1126 (1) (1) := mh_ne1 (show x1126.toInt ≠ (0 : Int32).toInt from c1171) r_x1126 rc_0 (1) (1) (by decide)
                    refine mw_aload_n 104 rfl 0 dX10_odds_103 rfl rfl ?_
                    refine mw_geta 107 rfl dX10_odds_104 gf_X10_134 rfl 97 (mh_rf hI0 94 rfl) ?_
                    refine mw_iconst (v := 3) 108 rfl dX10_odds_107 (by decide) ?_
                    refine mw_iload 110 rfl 9 dX10_odds_108  rfl ?_
                    refine mw_imul 111 rfl (0) (177) dX10_odds_110 rc_3 r_x1045 (by decide) (fun x1172 t1173 r_x1172 => ?_)
                    obtain rfl : x1122 = x1172 := Int32.toInt_inj.mp (t1123.trans t1173.symm)
                    refine mw_iconst (v := 1) 112 rfl dX10_odds_111 (by decide) ?_
                    refine mw_iadd 113 rfl (1) (178) dX10_odds_112 r_x1122 rc_1 (by decide) (fun x1174 t1175 r_x1174 => ?_)
                    refine mw_iald 114 rfl dX10_odds_113 rfl r_x1174 (by decide) (fun x1176 t1177 => ?_)
                    refine mw_iload_n 115 rfl 2 dX10_odds_114 rfl rfl ?_
                    refine mw_iload 117 rfl 4 dX10_odds_115  rfl ?_
                    refine mw_callSi [.int x1176, .int p2, .int p4] [] 120 rfl dX10_odds_117 ml_X10_444 mc_X10_isWithin mk_X10_isWithin (w_eX10_isWithin l G (d + 0) ⟨by omega, by omega⟩ hI0 x1176 p2 p4) rfl rfl (Nat.le_of_ble_eq_true rfl) (mh_rok (by omega) (by decide)) (fun x1178 s1179 q1180 => ?_)
                    obtain ⟨r_x1178, E_s1179, rfl⟩ := q1180
                    refine mw_if_eq 123 rfl 195 dX10_odds_120 (by decide) (fun c1181 => ?_) (fun c1181 => ?_)
                    · skip
                      have r_x1178 : mh_r x1178 (0) (0) := mh_eq1 (show x1178.toInt = (0 : Int32).toInt from c1181) r_x1178 rc_0 (0) (0) (by decide)
                      exact mw_lv [0, 1, 2, 3, 4, 5, 6, 7, 8, 9] rfl (J195 x1048 x1047 x1046 r_x1048 r_x1047 r_x1046 (by
                          have := (r_p1).1; have := (r_p1).2
                          have := (r_p2).1; have := (r_p2).2
                          have := (r_p3).1; have := (r_p3).2
                          have := (r_p4).1; have := (r_p4).2
                          have := (r_p5).1; have := (r_p5).2
                          have := (r_x1048).1; have := (r_x1048).2
                          have := (r_x1047).1; have := (r_x1047).2
                          have := (r_x1046).1; have := (r_x1046).2
                          have := (r_x1045).1; have := (r_x1045).2
                          have := (r_x1103).1; have := (r_x1103).2
                          have := kc_m2
                          have := kc_m1
                          have := kc_0
                          have := kc_1
                          have := kc_2
                          have := kc_3
                          omega) (Eq.trans hE1 (mh_lbT t1104 (mh_ifT c1105 (mh_lbT (mh_emul t1123) (mh_lbT t1125 (mh_lbS E_s1127 (mh_ifF c1171 (mh_lbT (mh_eadd t1175) (mh_lbT t1177 (mh_lbS E_s1179 (mh_ifT c1181 rfl))))))))))))
                    · skip
                      have r_x1178 : mh_r x1178 (1) (1) := mh_ne1 (show x1178.toInt ≠ (0 : Int32).toInt from c1181) r_x1178 rc_0 (1) (1) (by decide)
                      refine mw_aload_n 124 rfl 0 dX10_odds_123 rfl rfl ?_
                      refine mw_geta 127 rfl dX10_odds_124 gf_X10_134 rfl 97 (mh_rf hI0 94 rfl) ?_
                      refine mw_iconst (v := 3) 128 rfl dX10_odds_127 (by decide) ?_
                      refine mw_iload 130 rfl 9 dX10_odds_128  rfl ?_
                      refine mw_imul 131 rfl (0) (177) dX10_odds_130 rc_3 r_x1045 (by decide) (fun x1182 t1183 r_x1182 => ?_)
                      obtain rfl : x1122 = x1182 := Int32.toInt_inj.mp (t1123.trans t1183.symm)
                      refine mw_iconst (v := 2) 132 rfl dX10_odds_131 (by decide) ?_
                      refine mw_iadd 133 rfl (2) (179) dX10_odds_132 r_x1122 rc_2 (by decide) (fun x1184 t1185 r_x1184 => ?_)
                      refine mw_iald 134 rfl dX10_odds_133 rfl r_x1184 (by decide) (fun x1186 t1187 => ?_)
                      refine mw_iload_n 135 rfl 3 dX10_odds_134 rfl rfl ?_
                      refine mw_iload 137 rfl 4 dX10_odds_135  rfl ?_
                      refine mw_callSi [.int x1186, .int p3, .int p4] [] 140 rfl dX10_odds_137 ml_X10_444 mc_X10_isWithin mk_X10_isWithin (w_eX10_isWithin l G (d + 0) ⟨by omega, by omega⟩ hI0 x1186 p3 p4) rfl rfl (Nat.le_of_ble_eq_true rfl) (mh_rok (by omega) (by decide)) (fun x1188 s1189 q1190 => ?_)
                      obtain ⟨r_x1188, E_s1189, rfl⟩ := q1190
                      refine mw_if_ne 143 rfl 146 dX10_odds_140 (by decide) (fun c1191 => ?_) (fun c1191 => ?_)
                      · skip
                        have r_x1188 : mh_r x1188 (1) (1) := mh_ne1 (show x1188.toInt ≠ (0 : Int32).toInt from c1191) r_x1188 rc_0 (1) (1) (by decide)
                        have r_x1048 : mh_r x1048 (0) (59) := ⟨by have := (r_p1).1; have := (r_p1).2; have := (r_p2).1; have := (r_p2).2; have := (r_p3).1; have := (r_p3).2; have := (r_p4).1; have := (r_p4).2; have := (r_p5).1; have := (r_p5).2; have := (r_x1048).1; have := (r_x1048).2; have := (r_x1047).1; have := (r_x1047).2; have := (r_x1046).1; have := (r_x1046).2; have := (r_x1045).1; have := (r_x1045).2; have := (r_x1103).1; have := (r_x1103).2; have := kc_m2; have := kc_m1; have := kc_0; have := kc_1; have := kc_2; have := kc_3; omega, by have := (r_p1).1; have := (r_p1).2; have := (r_p2).1; have := (r_p2).2; have := (r_p3).1; have := (r_p3).2; have := (r_p4).1; have := (r_p4).2; have := (r_p5).1; have := (r_p5).2; have := (r_x1048).1; have := (r_x1048).2; have := (r_x1047).1; have := (r_x1047).2; have := (r_x1046).1; have := (r_x1046).2; have := (r_x1045).1; have := (r_x1045).2; have := (r_x1103).1; have := (r_x1103).2; have := kc_m2; have := kc_m1; have := kc_0; have := kc_1; have := kc_2; have := kc_3; omega⟩
                        have r_x1047 : mh_r x1047 (0) (59) := ⟨by have := (r_p1).1; have := (r_p1).2; have := (r_p2).1; have := (r_p2).2; have := (r_p3).1; have := (r_p3).2; have := (r_p4).1; have := (r_p4).2; have := (r_p5).1; have := (r_p5).2; have := (r_x1048).1; have := (r_x1048).2; have := (r_x1047).1; have := (r_x1047).2; have := (r_x1046).1; have := (r_x1046).2; have := (r_x1045).1; have := (r_x1045).2; have := (r_x1103).1; have := (r_x1103).2; have := kc_m2; have := kc_m1; have := kc_0; have := kc_1; have := kc_2; have := kc_3; omega, by have := (r_p1).1; have := (r_p1).2; have := (r_p2).1; have := (r_p2).2; have := (r_p3).1; have := (r_p3).2; have := (r_p4).1; have := (r_p4).2; have := (r_p5).1; have := (r_p5).2; have := (r_x1048).1; have := (r_x1048).2; have := (r_x1047).1; have := (r_x1047).2; have := (r_x1046).1; have := (r_x1046).2; have := (r_x1045).1; have := (r_x1045).2; have := (r_x1103).1; have := (r_x1103).2; have := kc_m2; have := kc_m1; have := kc_0; have := kc_1; have := kc_2; have := kc_3; omega⟩
                        refine mw_iincR (k := 6) (1) (60) 149 rfl (fun z => [(6, .int z), (0, .ref (G.2.2.2 57)), (1, .int p1), (2, .int p2), (3, .int p3), (4, .int p4), (5, .int p5), (7, .int x1047), (8, .int x1046), (9, .int x1045)]) dX10_odds_146 rfl (by decide) (fun _ => rfl) r_x1048 (by decide) (by decide) (fun x1192 t1193 r_x1192 => ?_)
                        refine mw_iload 151 rfl 7 dX10_odds_149  rfl ?_
                        refine mw_aload_n 152 rfl 1 dX10_odds_151 rfl rfl ?_
                        refine mw_geta 155 rfl dX10_odds_152 gf_X10_137 rfl 98 (mh_rf hI0 95 rfl) ?_
                        refine mw_iload 157 rfl 9 dX10_odds_155  rfl ?_
                        refine mw_iald 158 rfl dX10_odds_157 rfl r_x1045 (by decide) (fun x1194 t1195 => ?_)
                        have J166 : ∀ (x1197 : Int32), mh_r x1197 (0) (1) → (f_eX10_odds s0 p1 p2 p3 p4 p5 = j_eX10_odds_166_3 (l_eX10_odds_76_1 s0 p1 p2 p3 p4 p5 n1) x1045 x1046 x1047 x1192 x1194 x1197) → mh_W G (mh_XM l G (d + 2) (mh_Qi (P_eX10_odds B D s0 p1 p2 p3 p4 p5))) mM_X10_odds 166 [(0, .ref (G.2.2.2 57)), (1, .int p1), (2, .int p2), (3, .int p3), (4, .int p4), (5, .int p5), (6, .int x1192), (7, .int x1047), (8, .int x1046), (9, .int x1045)] [.int x1197, .int x1047] s0 := by
                          intro x1197 r_x1197 hE3
                          refine mw_iadd 167 rfl (0) (60) dX10_odds_166 r_x1047 r_x1197 (by decide) (fun x1206 t1207 r_x1206 => ?_)
                          refine mw_istore 169 rfl [(7, .int x1206), (0, .ref (G.2.2.2 57)), (1, .int p1), (2, .int p2), (3, .int p3), (4, .int p4), (5, .int p5), (6, .int x1192), (8, .int x1046), (9, .int x1045)] dX10_odds_167  (by decide) rfl ?_
                          refine mw_aload_n 170 rfl 1 dX10_odds_169 rfl rfl ?_
                          refine mw_geta 173 rfl dX10_odds_170 gf_X10_137 rfl 98 (mh_rf hI0 95 rfl) ?_
                          refine mw_iload 175 rfl 9 dX10_odds_173  rfl ?_
                          refine mw_iald 176 rfl dX10_odds_175 rfl r_x1045 (by decide) (fun x1208 t1209 => ?_)
                          obtain rfl : x1194 = x1208 := t1195.trans t1209.symm
                          refine mw_iload 178 rfl 8 dX10_odds_176  rfl ?_
                          have J193 : ∀ (x1213 : Int32), mh_r x1213 (0) (2147483647) → (f_eX10_odds s0 p1 p2 p3 p4 p5 = j_eX10_odds_193_4 (l_eX10_odds_76_1 s0 p1 p2 p3 p4 p5 n1) x1045 x1192 x1206 x1213) → mh_W G (mh_XM l G (d + 2) (mh_Qi (P_eX10_odds B D s0 p1 p2 p3 p4 p5))) mM_X10_odds 193 [(0, .ref (G.2.2.2 57)), (1, .int p1), (2, .int p2), (3, .int p3), (4, .int p4), (5, .int p5), (6, .int x1192), (7, .int x1206), (8, .int x1046), (9, .int x1045)] [.int x1213] s0 := by
                            intro x1213 r_x1213 hE4
                            refine mw_istore 195 rfl [(8, .int x1213), (0, .ref (G.2.2.2 57)), (1, .int p1), (2, .int p2), (3, .int p3), (4, .int p4), (5, .int p5), (6, .int x1192), (7, .int x1206), (9, .int x1045)] dX10_odds_193  (by decide) rfl ?_
                            exact mw_lv [1, 2, 3, 4, 5, 6, 7, 8, 0, 9] rfl (J195 x1192 x1206 x1213 (mh_r_wk r_x1192 (by decide)) r_x1206 r_x1213 (by
                                have := (r_x1213).1; have := (r_x1213).2
                                have := (r_p1).1; have := (r_p1).2
                                have := (r_p2).1; have := (r_p2).2
                                have := (r_p3).1; have := (r_p3).2
                                have := (r_p4).1; have := (r_p4).2
                                have := (r_p5).1; have := (r_p5).2
                                have := (r_x1192).1; have := (r_x1192).2
                                have := (r_x1206).1; have := (r_x1206).2
                                have := (r_x1045).1; have := (r_x1045).2
                                have := (r_x1103).1; have := (r_x1103).2
                                have := (r_x1047).1; have := (r_x1047).2
                                have := (r_x1197).1; have := (r_x1197).2
                                have := kc_m2
                                have := kc_m1
                                have := kc_0
                                have := kc_1
                                have := kc_2
                                have := kc_3
                                omega) (Eq.trans hE4 rfl))
                          refine mw_icmp_le 181 rfl 191 dX10_odds_178 (by decide) (fun c1214 => ?_) (fun c1214 => ?_)
                          · skip
                            refine mw_iload 193 rfl 8 dX10_odds_191  rfl ?_
                            exact mw_lv [1, 2, 3, 4, 5, 6, 7, 0, 8, 9] rfl (J193 x1046 r_x1046 (Eq.trans hE3 (mh_lbT (mh_eadd t1207) (mh_ifF (Int.not_lt.mpr c1214) rfl))))
                          · skip
                            have r_x1046 : mh_r x1046 (0) (2147483646) := mh_lt1 c1214 r_x1046 (mh_r_full x1194) (2147483646) (by decide)
                            have r_x1194 : mh_r x1194 (1) (2147483647) := mh_lt2 c1214 r_x1046 (mh_r_full x1194) (1) (by decide)
                            refine mw_aload_n 182 rfl 1 dX10_odds_181 rfl rfl ?_
                            refine mw_geta 185 rfl dX10_odds_182 gf_X10_137 rfl 98 (mh_rf hI0 95 rfl) ?_
                            refine mw_iload 187 rfl 9 dX10_odds_185  rfl ?_
                            refine mw_iald 188 rfl dX10_odds_187 rfl r_x1045 (by decide) (fun x1215 t1216 => ?_)
                            obtain rfl : x1194 = x1215 := t1195.trans t1216.symm
                            refine mw_goto 191 rfl 193 dX10_odds_188 (by decide) ?_
                            exact mw_lv [1, 2, 3, 4, 5, 6, 7, 0, 8, 9] rfl (J193 x1194 (mh_r_wk r_x1194 (by decide)) (Eq.trans hE3 (mh_lbT (mh_eadd t1207) (mh_ifT c1214 rfl))))
                        refine mw_if_le 161 rfl 165 dX10_odds_158 (by decide) (fun c1217 => ?_) (fun c1217 => ?_)
                        · skip
                          have r_x1194 : mh_r x1194 (-2147483648) (0) := mh_le1 (show x1194.toInt ≤ (0 : Int32).toInt from c1217) (mh_r_full x1194) rc_0 (0) (by decide)
                          refine mw_iconst (v := 0) 166 rfl dX10_odds_165 (by decide) ?_
                          exact mw_lv [1, 2, 3, 4, 5, 6, 0, 7, 8, 9] rfl (J166 (0) (mh_r_wk rc_0 (by decide)) (Eq.trans hE1 (mh_lbT t1104 (mh_ifT c1105 (mh_lbT (mh_emul t1123) (mh_lbT t1125 (mh_lbS E_s1127 (mh_ifF c1171 (mh_lbT (mh_eadd t1175) (mh_lbT t1177 (mh_lbS E_s1179 (mh_ifF c1181 (mh_lbT (mh_eadd t1185) (mh_lbT t1187 (mh_lbS E_s1189 (mh_ifF c1191 (mh_lbT (mh_einc t1193 rfl) (mh_lbT t1195 (mh_ifF (Int.not_lt.mpr c1217) rfl)))))))))))))))))))
                        · skip
                          have r_x1194 : mh_r x1194 (1) (2147483647) := mh_lt2 (show (0 : Int32).toInt < x1194.toInt from c1217) rc_0 (mh_r_full x1194) (1) (by decide)
                          refine mw_iconst (v := 1) 162 rfl dX10_odds_161 (by decide) ?_
                          refine mw_goto 165 rfl 166 dX10_odds_162 (by decide) ?_
                          exact mw_lv [1, 2, 3, 4, 5, 6, 0, 7, 8, 9] rfl (J166 (1) (mh_r_wk rc_1 (by decide)) (Eq.trans hE1 (mh_lbT t1104 (mh_ifT c1105 (mh_lbT (mh_emul t1123) (mh_lbT t1125 (mh_lbS E_s1127 (mh_ifF c1171 (mh_lbT (mh_eadd t1175) (mh_lbT t1177 (mh_lbS E_s1179 (mh_ifF c1181 (mh_lbT (mh_eadd t1185) (mh_lbT t1187 (mh_lbS E_s1189 (mh_ifF c1191 (mh_lbT (mh_einc t1193 rfl) (mh_lbT t1195 (mh_ifT c1217 rfl)))))))))))))))))))
                      · skip
                        have r_x1188 : mh_r x1188 (0) (0) := mh_eq1 (show x1188.toInt = (0 : Int32).toInt from c1191) r_x1188 rc_0 (0) (0) (by decide)
                        refine mw_goto 146 rfl 195 dX10_odds_143 (by decide) ?_
                        exact mw_lv [0, 1, 2, 3, 4, 5, 6, 7, 8, 9] rfl (J195 x1048 x1047 x1046 r_x1048 r_x1047 r_x1046 (by
                            have := (r_p1).1; have := (r_p1).2
                            have := (r_p2).1; have := (r_p2).2
                            have := (r_p3).1; have := (r_p3).2
                            have := (r_p4).1; have := (r_p4).2
                            have := (r_p5).1; have := (r_p5).2
                            have := (r_x1048).1; have := (r_x1048).2
                            have := (r_x1047).1; have := (r_x1047).2
                            have := (r_x1046).1; have := (r_x1046).2
                            have := (r_x1045).1; have := (r_x1045).2
                            have := (r_x1103).1; have := (r_x1103).2
                            have := kc_m2
                            have := kc_m1
                            have := kc_0
                            have := kc_1
                            have := kc_2
                            have := kc_3
                            omega) (Eq.trans hE1 (mh_lbT t1104 (mh_ifT c1105 (mh_lbT (mh_emul t1123) (mh_lbT t1125 (mh_lbS E_s1127 (mh_ifF c1171 (mh_lbT (mh_eadd t1175) (mh_lbT t1177 (mh_lbS E_s1179 (mh_ifF c1181 (mh_lbT (mh_eadd t1185) (mh_lbT t1187 (mh_lbS E_s1189 (mh_ifT c1191 rfl))))))))))))))))
            exact mw_lv [4, 5, 6, 7, 8, 9, 3, 2, 1, 0] rfl (L76 61 (0) (0) (0) (0) (mh_r_wk rc_0 (by decide)) (mh_r_wk rc_0 (by decide)) (mh_r_wk rc_0 (by decide)) (mh_r_wk rc_0 (by decide)) (by
                have := (rc_0).1; have := (rc_0).2
                have := (r_p1).1; have := (r_p1).2
                have := (r_p2).1; have := (r_p2).2
                have := (r_p3).1; have := (r_p3).2
                have := (r_p4).1; have := (r_p4).2
                have := (r_p5).1; have := (r_p5).2
                have := kc_m2
                have := kc_m1
                have := kc_0
                have := kc_1
                have := kc_2
                have := kc_3
                omega) (mh_lbT t586 (mh_lbS E_s588 (mh_ifF c590 (mh_lbT t592 (mh_lbS E_s594 (mh_ifF c596 (mh_lbT t598 (mh_lbS E_s600 (mh_ifF c602 (mh_lbT t604 (mh_lbS E_s606 (mh_ifF c608 (mh_lbT t610 (mh_lbS E_s612 (mh_ifF c614 rfl))))))))))))))) (by have := (rc_0).1; have := (rc_0).2; omega))
          · skip
            have r_x611 : mh_r x611 (0) (0) := mh_eq1 (show x611.toInt = (0 : Int32).toInt from c614) r_x611 rc_0 (0) (0) (by decide)
            refine mw_iconst (v := -1) 63 rfl dX10_odds_62 (by decide) ?_
            exact mw_iret dX10_odds_63 rfl ⟨(-1), rfl, ⟨(mh_r_wk rc_m1 (by decide)), (mh_lbT t586 (mh_lbS E_s588 (mh_ifF c590 (mh_lbT t592 (mh_lbS E_s594 (mh_ifF c596 (mh_lbT t598 (mh_lbS E_s600 (mh_ifF c602 (mh_lbT t604 (mh_lbS E_s606 (mh_ifF c608 (mh_lbT t610 (mh_lbS E_s612 (mh_ifT c614 rfl))))))))))))))), rfl⟩⟩

def j_eX10_costWhen_69_2 (lo_6_1 : Int32 → Int32 → Int32) (x403 : Int32) (x458 : Int32) : Int32 := mh_lb (x403 + (1 : Int32)) (fun x461 => (lo_6_1 x461 x458))
def j_eX10_costWhen_66_3 (lo_6_1 : Int32 → Int32 → Int32) (x403 : Int32) (x404 : Int32) (x479 : Int32) : Int32 := mh_lb (x404 + x479) (fun x482 => (j_eX10_costWhen_69_2 lo_6_1 x403 x482))
def ls_eX10_costWhen_6_1 (s0 : mh_H) (p1 : Int32) (p2 : Int32) (p3 : Int32) (lo_6_1 : Int32 → Int32 → Int32) (x403 : Int32) (x404 : Int32) : Int32 := mh_lb (s0.1 57 58) (fun x434 => if x403.toInt < x434.toInt then mh_lb (s0.1 98 x403.toNatClampNeg) (fun x437 => if x437.toInt = 0 then (j_eX10_costWhen_69_2 lo_6_1 x403 x404) else mh_lb (s0.1 99 x403.toNatClampNeg) (fun x464 => if p1.toInt < x464.toInt then mh_lb (x464 - p1) (fun x493 => mh_lb (p2 * x493) (fun x495 => (j_eX10_costWhen_66_3 lo_6_1 x403 x404 x495))) else mh_lb (p1 - x464) (fun x487 => mh_lb (p3 * x487) (fun x489 => (j_eX10_costWhen_66_3 lo_6_1 x403 x404 x489))))) else x404)
def l_eX10_costWhen_6_1 (s0 : mh_H) (p1 : Int32) (p2 : Int32) (p3 : Int32) : Nat → Int32 → Int32 → Int32
  | 0 => fun _ _ => 0
  | n + 1 => ls_eX10_costWhen_6_1 s0 p1 p2 p3 (l_eX10_costWhen_6_1 s0 p1 p2 p3 n)
theorem l_eX10_costWhen_6_1_s (s0 : mh_H) (p1 : Int32) (p2 : Int32) (p3 : Int32) (n : Nat) : l_eX10_costWhen_6_1 s0 p1 p2 p3 (n + 1) = ls_eX10_costWhen_6_1 s0 p1 p2 p3 (l_eX10_costWhen_6_1 s0 p1 p2 p3 n) := rfl
def f_eX10_costWhen (s0 : mh_H) (p1 : Int32) (p2 : Int32) (p3 : Int32) : Int32 := (l_eX10_costWhen_6_1 s0 p1 p2 p3 61 (0 : Int32) (0 : Int32))
def P_eX10_costWhen (B D : Int) (s0 : mh_H) (p1 : Int32) (p2 : Int32) (p3 : Int32) : Int32 → mh_H → Prop := fun z s => mh_r z (-2147483648) (2147483647) ∧ f_eX10_costWhen s0 p1 p2 p3 = z ∧ s0 = s
set_option maxRecDepth 100000 in
set_option maxHeartbeats 4000000 in
theorem w_eX10_costWhen (l : Launch) (G : mh_G) (d : Nat) {B D : Int} (hB : B ≤ 2000000000 ∧ D ≤ 2000000000) {s0 : mh_H} (hI0 : mh_I B D s0) (p1 : Int32) (p2 : Int32) (p3 : Int32) : mh_Mi l G (d + 0) mM_X10_costWhen [.ref (G.2.2.2 57), .int p1, .int p2, .int p3] s0 (P_eX10_costWhen B D s0 p1 p2 p3) := by
  refine mh_enter (lv := [(0, .ref (G.2.2.2 57)), (1, .int p1), (2, .int p2), (3, .int p3)]) (by decide) rfl (Nat.le_of_ble_eq_true rfl) ?_
  refine mw_iconst (v := 0) 1 rfl dX10_costWhen_0 (by decide) ?_
  refine mw_istore 3 rfl [(4, .int (0)), (0, .ref (G.2.2.2 57)), (1, .int p1), (2, .int p2), (3, .int p3)] dX10_costWhen_1  (by decide) rfl ?_
  refine mw_iconst (v := 0) 4 rfl dX10_costWhen_3 (by decide) ?_
  refine mw_istore 6 rfl [(5, .int (0)), (4, .int (0)), (0, .ref (G.2.2.2 57)), (1, .int p1), (2, .int p2), (3, .int p3)] dX10_costWhen_4  (by decide) rfl ?_
  have L6 : ∀ n1 : Nat, ∀ (x403 : Int32) (x404 : Int32), mh_r x403 (0) (60) → (f_eX10_costWhen s0 p1 p2 p3 = l_eX10_costWhen_6_1 s0 p1 p2 p3 n1 x403 x404) → (60) - x403.toInt < (n1 : Int) → mh_W G (mh_XM l G (d + 0) (mh_Qi (P_eX10_costWhen B D s0 p1 p2 p3))) mM_X10_costWhen 6 [(0, .ref (G.2.2.2 57)), (1, .int p1), (2, .int p2), (3, .int p3), (4, .int x404), (5, .int x403)] [] s0 := by
    intro n1
    induction n1 with
    | zero =>
      intro x403 x404 r_x403 hE1 hmn1
      exact absurd hmn1 (by have := r_x403.1; have := r_x403.2; omega)
    | succ n1 ihn1 =>
      intro x403 x404 r_x403 hE1 hmn1
      rw [l_eX10_costWhen_6_1_s] at hE1
      refine mw_iload 8 rfl 5 dX10_costWhen_6  rfl ?_
      refine mw_aload_n 9 rfl 0 dX10_costWhen_8 rfl rfl ?_
      refine mw_geti 12 rfl dX10_costWhen_9 gf_X10_432 rfl (fun x434 t435 => ?_)
      have r_x434 : mh_r x434 (0) (60) := by rw [t435]; exact rd_57_58 hI0
      refine mw_icmp_ge 15 rfl 75 dX10_costWhen_12 (by decide) (fun c436 => ?_) (fun c436 => ?_)
      · skip
        refine mw_iload 77 rfl 4 dX10_costWhen_75  rfl ?_
        exact mw_iret dX10_costWhen_77 rfl ⟨x404, rfl, ⟨(mh_r_full x404), (Eq.trans hE1 (mh_lbT t435 (mh_ifF (Int.not_lt.mpr c436) rfl))), rfl⟩⟩
      · skip
        have r_x403 : mh_r x403 (0) (59) := mh_lt1 c436 r_x403 r_x434 (59) (by decide)
        have r_x434 : mh_r x434 (1) (60) := mh_lt2 c436 r_x403 r_x434 (1) (by decide)
        refine mw_aload_n 16 rfl 0 dX10_costWhen_15 rfl rfl ?_
        refine mw_geta 19 rfl dX10_costWhen_16 gf_X10_137 rfl 98 (mh_rf hI0 95 rfl) ?_
        refine mw_iload 21 rfl 5 dX10_costWhen_19  rfl ?_
        refine mw_iald 22 rfl dX10_costWhen_21 rfl r_x403 (by decide) (fun x437 t438 => ?_)
        have J69 : ∀ (x458 : Int32), (f_eX10_costWhen s0 p1 p2 p3 = j_eX10_costWhen_69_2 (l_eX10_costWhen_6_1 s0 p1 p2 p3 n1) x403 x458) → mh_W G (mh_XM l G (d + 0) (mh_Qi (P_eX10_costWhen B D s0 p1 p2 p3))) mM_X10_costWhen 69 [(0, .ref (G.2.2.2 57)), (1, .int p1), (2, .int p2), (3, .int p3), (4, .int x458), (5, .int x403)] [] s0 := by
          intro x458 hE2
          refine mw_iincR (k := 5) (1) (60) 72 rfl (fun z => [(5, .int z), (0, .ref (G.2.2.2 57)), (1, .int p1), (2, .int p2), (3, .int p3), (4, .int x458)]) dX10_costWhen_69 rfl (by decide) (fun _ => rfl) r_x403 (by decide) (by decide) (fun x461 t462 r_x461 => ?_)
          refine mw_goto 75 rfl 6 dX10_costWhen_72 (by decide) ?_
          exact mw_lv [1, 2, 3, 4, 5, 0] rfl (ihn1 x461 x458 (mh_r_wk r_x461 (by decide)) (Eq.trans hE2 (mh_lbT (mh_einc t462 rfl) rfl)) (by have : x461.toInt = x403.toInt + (1) := t462; omega))
        refine mw_if_ne 25 rfl 28 dX10_costWhen_22 (by decide) (fun c463 => ?_) (fun c463 => ?_)
        · skip
          refine mw_iload 30 rfl 4 dX10_costWhen_28  rfl ?_
          refine mw_aload_n 31 rfl 0 dX10_costWhen_30 rfl rfl ?_
          refine mw_geta 34 rfl dX10_costWhen_31 gf_X10_140 rfl 99 (mh_rf hI0 96 rfl) ?_
          refine mw_iload 36 rfl 5 dX10_costWhen_34  rfl ?_
          refine mw_iald 37 rfl dX10_costWhen_36 rfl r_x403 (by decide) (fun x464 t465 => ?_)
          refine mw_iload_n 38 rfl 1 dX10_costWhen_37 rfl rfl ?_
          have J66 : ∀ (x479 : Int32), (f_eX10_costWhen s0 p1 p2 p3 = j_eX10_costWhen_66_3 (l_eX10_costWhen_6_1 s0 p1 p2 p3 n1) x403 x404 x479) → mh_W G (mh_XM l G (d + 0) (mh_Qi (P_eX10_costWhen B D s0 p1 p2 p3))) mM_X10_costWhen 66 [(0, .ref (G.2.2.2 57)), (1, .int p1), (2, .int p2), (3, .int p3), (4, .int x404), (5, .int x403)] [.int x479, .int x404] s0 := by
            intro x479 hE3
            refine mw_iadd_u 67 rfl dX10_costWhen_66 (fun x482 t483 => ?_)
            refine mw_istore 69 rfl [(4, .int x482), (0, .ref (G.2.2.2 57)), (1, .int p1), (2, .int p2), (3, .int p3), (5, .int x403)] dX10_costWhen_67  (by decide) rfl ?_
            exact mw_lv [1, 2, 3, 4, 0, 5] rfl (J69 x482 (Eq.trans hE3 (mh_lbT t483 rfl)))
          refine mw_icmp_le 41 rfl 55 dX10_costWhen_38 (by decide) (fun c484 => ?_) (fun c484 => ?_)
          · skip
            refine mw_iload_n 56 rfl 3 dX10_costWhen_55 rfl rfl ?_
            refine mw_iload_n 57 rfl 1 dX10_costWhen_56 rfl rfl ?_
            refine mw_aload_n 58 rfl 0 dX10_costWhen_57 rfl rfl ?_
            refine mw_geta 61 rfl dX10_costWhen_58 gf_X10_140 rfl 99 (mh_rf hI0 96 rfl) ?_
            refine mw_iload 63 rfl 5 dX10_costWhen_61  rfl ?_
            refine mw_iald 64 rfl dX10_costWhen_63 rfl r_x403 (by decide) (fun x485 t486 => ?_)
            obtain rfl : x464 = x485 := t465.trans t486.symm
            refine mw_isub_u 65 rfl dX10_costWhen_64 (fun x487 t488 => ?_)
            refine mw_imul_u 66 rfl dX10_costWhen_65 (fun x489 t490 => ?_)
            exact mw_lv [0, 1, 2, 3, 4, 5] rfl (J66 x489 (Eq.trans hE1 (mh_lbT t435 (mh_ifT c436 (mh_lbT t438 (mh_ifF c463 (mh_lbT t465 (mh_ifF (Int.not_lt.mpr c484) (mh_lbT t488 (mh_lbT t490 rfl))))))))))
          · skip
            have r_p1 : mh_r p1 (-2147483648) (2147483646) := mh_lt1 c484 (mh_r_full p1) (mh_r_full x464) (2147483646) (by decide)
            have r_x464 : mh_r x464 (-2147483647) (2147483647) := mh_lt2 c484 r_p1 (mh_r_full x464) (-2147483647) (by decide)
            refine mw_iload_n 42 rfl 2 dX10_costWhen_41 rfl rfl ?_
            refine mw_aload_n 43 rfl 0 dX10_costWhen_42 rfl rfl ?_
            refine mw_geta 46 rfl dX10_costWhen_43 gf_X10_140 rfl 99 (mh_rf hI0 96 rfl) ?_
            refine mw_iload 48 rfl 5 dX10_costWhen_46  rfl ?_
            refine mw_iald 49 rfl dX10_costWhen_48 rfl r_x403 (by decide) (fun x491 t492 => ?_)
            obtain rfl : x464 = x491 := t465.trans t492.symm
            refine mw_iload_n 50 rfl 1 dX10_costWhen_49 rfl rfl ?_
            refine mw_isub_u 51 rfl dX10_costWhen_50 (fun x493 t494 => ?_)
            refine mw_imul_u 52 rfl dX10_costWhen_51 (fun x495 t496 => ?_)
            refine mw_goto 55 rfl 66 dX10_costWhen_52 (by decide) ?_
            exact mw_lv [0, 1, 2, 3, 4, 5] rfl (J66 x495 (Eq.trans hE1 (mh_lbT t435 (mh_ifT c436 (mh_lbT t438 (mh_ifF c463 (mh_lbT t465 (mh_ifT c484 (mh_lbT t494 (mh_lbT t496 rfl))))))))))
        · skip
          have r_x437 : mh_r x437 (0) (0) := mh_eq1 (show x437.toInt = (0 : Int32).toInt from c463) (mh_r_full x437) rc_0 (0) (0) (by decide)
          refine mw_goto 28 rfl 69 dX10_costWhen_25 (by decide) ?_
          exact mw_lv [0, 1, 2, 3, 4, 5] rfl (J69 x404 (Eq.trans hE1 (mh_lbT t435 (mh_ifT c436 (mh_lbT t438 (mh_ifT c463 rfl))))))
  exact mw_lv [2, 3, 4, 5, 1, 0] rfl (L6 61 (0) (0) (mh_r_wk rc_0 (by decide)) (rfl) (by have := (rc_0).1; have := (rc_0).2; omega))

def j_eX10_when_87_2 (lo_51_1 : Int32 → Int32 → Int32 → Int32) (x422 : Int32) (x443 : Int32) (x444 : Int32) : Int32 := mh_lb (x422 + (1 : Int32)) (fun x447 => (lo_51_1 x447 x443 x444))
def ls_eX10_when_51_1 (s0 : mh_H) (p1 : Int32) (p2 : Int32) (p3 : Int32) (lo_51_1 : Int32 → Int32 → Int32 → Int32) (x422 : Int32) (x423 : Int32) (x424 : Int32) : Int32 := if x422.toInt < (1000 : Int32).toInt then mh_lb (f_eX10_costWhen s0 x422 p1 p2) (fun x439 => if x439.toInt < x423.toInt then (j_eX10_when_87_2 lo_51_1 x422 x439 x422) else (j_eX10_when_87_2 lo_51_1 x422 x423 x424)) else if p3.toInt = 0 then x424 else x423
def l_eX10_when_51_1 (s0 : mh_H) (p1 : Int32) (p2 : Int32) (p3 : Int32) : Nat → Int32 → Int32 → Int32 → Int32
  | 0 => fun _ _ _ => 0
  | n + 1 => ls_eX10_when_51_1 s0 p1 p2 p3 (l_eX10_when_51_1 s0 p1 p2 p3 n)
theorem l_eX10_when_51_1_s (s0 : mh_H) (p1 : Int32) (p2 : Int32) (p3 : Int32) (n : Nat) : l_eX10_when_51_1 s0 p1 p2 p3 (n + 1) = ls_eX10_when_51_1 s0 p1 p2 p3 (l_eX10_when_51_1 s0 p1 p2 p3 n) := rfl
def f_eX10_when (s0 : mh_H) (p1 : Int32) (p2 : Int32) (p3 : Int32) : Int32 := mh_lb (Int32.toInt64 p1) (fun y224 => mh_lb (f_eX10_lies s0 y224 (0 : Int64) (99 : Int64)) (fun x226 => if x226.toInt = 0 then (-1 : Int32) else mh_lb (Int32.toInt64 p2) (fun y230 => mh_lb (f_eX10_lies s0 y230 (0 : Int64) (99 : Int64)) (fun x232 => if x232.toInt = 0 then (-1 : Int32) else mh_lb (Int32.toInt64 p3) (fun y236 => mh_lb (f_eX10_lies s0 y236 (0 : Int64) (1 : Int64)) (fun x238 => if x238.toInt = 0 then (-1 : Int32) else mh_lb (f_eX10_costWhen s0 (0 : Int32) p1 p2) (fun x242 => (l_eX10_when_51_1 s0 p1 p2 p3 1000 (1 : Int32) x242 (0 : Int32)))))))))
def P_eX10_when (B D : Int) (s0 : mh_H) (p1 : Int32) (p2 : Int32) (p3 : Int32) : Int32 → mh_H → Prop := fun z s => mh_r z (-2147483648) (2147483647) ∧ f_eX10_when s0 p1 p2 p3 = z ∧ s0 = s
set_option maxRecDepth 100000 in
set_option maxHeartbeats 4000000 in
theorem w_eX10_when (l : Launch) (G : mh_G) (d : Nat) {B D : Int} (hB : B ≤ 1980000000 ∧ D ≤ 1980000000) {s0 : mh_H} (hI0 : mh_I B D s0) (p1 : Int32) (p2 : Int32) (p3 : Int32) : mh_Mi l G (d + 1) mM_X10_when [.ref (G.2.2.2 57), .int p1, .int p2, .int p3] s0 (P_eX10_when B D s0 p1 p2 p3) := by
  refine mh_enter (lv := [(0, .ref (G.2.2.2 57)), (1, .int p1), (2, .int p2), (3, .int p3)]) (by decide) rfl (Nat.le_of_ble_eq_true rfl) ?_
  refine mw_iload_n 1 rfl 1 dX10_when_0 rfl rfl ?_
  refine mw_i2l 2 rfl dX10_when_1 (fun y224 t225 => ?_)
  refine mw_lconst (v := 0) 3 rfl dX10_when_2 (by decide) ?_
  refine mw_ldc2 6 rfl dX10_when_3 ck_X10_170 ?_
  refine mw_callSi [.long y224, .long (0), .long (99)] [] 9 rfl dX10_when_6 ml_X10_154 mc_X10_lies mk_X10_lies (w_eX10_lies l G (d + 0) ⟨by omega, by omega⟩ hI0 y224 (0) (99)) rfl rfl (Nat.le_of_ble_eq_true rfl) (mh_rok (by omega) (by decide)) (fun x226 s227 q228 => ?_)
  obtain ⟨r_x226, E_s227, e0_s227, rfl⟩ := q228
  have f_x226 : x226.toInt = 1 ↔ (0 ≤ p1.toInt ∧ p1.toInt ≤ 99) := by rw [e0_s227]; exact by simp only [t225, Int32.toInt_toInt64]; first | done | exact Iff.rfl
  refine mw_if_eq 12 rfl 34 dX10_when_9 (by decide) (fun c229 => ?_) (fun c229 => ?_)
  · skip
    have r_x226 : mh_r x226 (0) (0) := mh_eq1 (show x226.toInt = (0 : Int32).toInt from c229) r_x226 rc_0 (0) (0) (by decide)
    refine mw_iconst (v := -1) 35 rfl dX10_when_34 (by decide) ?_
    exact mw_iret dX10_when_35 rfl ⟨(-1), rfl, ⟨(mh_r_wk rc_m1 (by decide)), (mh_lbT t225 (mh_lbS E_s227 (mh_ifT c229 rfl))), rfl⟩⟩
  · skip
    have r_p1 : mh_r p1 (0) (99) := ⟨by have := f_x226.1 (mh_z1 r_x226 c229); have := ((mh_r_full p1)).1; omega, by have := f_x226.1 (mh_z1 r_x226 c229); have := ((mh_r_full p1)).2; omega⟩
    have r_x226 : mh_r x226 (1) (1) := mh_ne1 (show x226.toInt ≠ (0 : Int32).toInt from c229) r_x226 rc_0 (1) (1) (by decide)
    refine mw_iload_n 13 rfl 2 dX10_when_12 rfl rfl ?_
    refine mw_i2l 14 rfl dX10_when_13 (fun y230 t231 => ?_)
    refine mw_lconst (v := 0) 15 rfl dX10_when_14 (by decide) ?_
    refine mw_ldc2 18 rfl dX10_when_15 ck_X10_170 ?_
    refine mw_callSi [.long y230, .long (0), .long (99)] [] 21 rfl dX10_when_18 ml_X10_154 mc_X10_lies mk_X10_lies (w_eX10_lies l G (d + 0) ⟨by omega, by omega⟩ hI0 y230 (0) (99)) rfl rfl (Nat.le_of_ble_eq_true rfl) (mh_rok (by omega) (by decide)) (fun x232 s233 q234 => ?_)
    obtain ⟨r_x232, E_s233, e0_s233, rfl⟩ := q234
    have f_x232 : x232.toInt = 1 ↔ (0 ≤ p2.toInt ∧ p2.toInt ≤ 99) := by rw [e0_s233]; exact by simp only [t231, Int32.toInt_toInt64]; first | done | exact Iff.rfl
    refine mw_if_eq 24 rfl 34 dX10_when_21 (by decide) (fun c235 => ?_) (fun c235 => ?_)
    · skip
      have r_x232 : mh_r x232 (0) (0) := mh_eq1 (show x232.toInt = (0 : Int32).toInt from c235) r_x232 rc_0 (0) (0) (by decide)
      refine mw_iconst (v := -1) 35 rfl dX10_when_34 (by decide) ?_
      exact mw_iret dX10_when_35 rfl ⟨(-1), rfl, ⟨(mh_r_wk rc_m1 (by decide)), (mh_lbT t225 (mh_lbS E_s227 (mh_ifF c229 (mh_lbT t231 (mh_lbS E_s233 (mh_ifT c235 rfl)))))), rfl⟩⟩
    · skip
      have r_p2 : mh_r p2 (0) (99) := ⟨by have := f_x232.1 (mh_z1 r_x232 c235); have := ((mh_r_full p2)).1; omega, by have := f_x232.1 (mh_z1 r_x232 c235); have := ((mh_r_full p2)).2; omega⟩
      have r_x232 : mh_r x232 (1) (1) := mh_ne1 (show x232.toInt ≠ (0 : Int32).toInt from c235) r_x232 rc_0 (1) (1) (by decide)
      refine mw_iload_n 25 rfl 3 dX10_when_24 rfl rfl ?_
      refine mw_i2l 26 rfl dX10_when_25 (fun y236 t237 => ?_)
      refine mw_lconst (v := 0) 27 rfl dX10_when_26 (by decide) ?_
      refine mw_lconst (v := 1) 28 rfl dX10_when_27 (by decide) ?_
      refine mw_callSi [.long y236, .long (0), .long (1)] [] 31 rfl dX10_when_28 ml_X10_154 mc_X10_lies mk_X10_lies (w_eX10_lies l G (d + 0) ⟨by omega, by omega⟩ hI0 y236 (0) (1)) rfl rfl (Nat.le_of_ble_eq_true rfl) (mh_rok (by omega) (by decide)) (fun x238 s239 q240 => ?_)
      obtain ⟨r_x238, E_s239, e0_s239, rfl⟩ := q240
      have f_x238 : x238.toInt = 1 ↔ (0 ≤ p3.toInt ∧ p3.toInt ≤ 1) := by rw [e0_s239]; exact by simp only [t237, Int32.toInt_toInt64]; first | done | exact Iff.rfl
      refine mw_if_ne 34 rfl 36 dX10_when_31 (by decide) (fun c241 => ?_) (fun c241 => ?_)
      · skip
        have r_p3 : mh_r p3 (0) (1) := ⟨by have := f_x238.1 (mh_z1 r_x238 c241); have := ((mh_r_full p3)).1; omega, by have := f_x238.1 (mh_z1 r_x238 c241); have := ((mh_r_full p3)).2; omega⟩
        have r_x238 : mh_r x238 (1) (1) := mh_ne1 (show x238.toInt ≠ (0 : Int32).toInt from c241) r_x238 rc_0 (1) (1) (by decide)
        refine mw_iconst (v := 0) 37 rfl dX10_when_36 (by decide) ?_
        refine mw_istore 39 rfl [(4, .int (0)), (0, .ref (G.2.2.2 57)), (1, .int p1), (2, .int p2), (3, .int p3)] dX10_when_37  (by decide) rfl ?_
        refine mw_aload_n 40 rfl 1 dX10_when_39 rfl rfl ?_
        refine mw_iconst (v := 0) 41 rfl dX10_when_40 (by decide) ?_
        refine mw_iload_n 42 rfl 2 dX10_when_41 rfl rfl ?_
        refine mw_iload_n 43 rfl 3 dX10_when_42 rfl rfl ?_
        refine mw_callVi [.int (0), .int p1, .int p2] [] 46 rfl dX10_when_43 ml_X10_452 mc_X10_costWhen mk_X10_costWhen rfl rfl (by decide) (w_eX10_costWhen l G (d + 0) ⟨by omega, by omega⟩ hI0 (0) p1 p2) rfl rfl (Nat.le_of_ble_eq_true rfl) (mh_rok (by omega) (by decide)) (fun x242 s243 q244 => ?_)
        obtain ⟨r_x242, E_s243, rfl⟩ := q244
        refine mw_istore 48 rfl [(5, .int x242), (4, .int (0)), (0, .ref (G.2.2.2 57)), (1, .int p1), (2, .int p2), (3, .int p3)] dX10_when_46  (by decide) rfl ?_
        refine mw_iconst (v := 1) 49 rfl dX10_when_48 (by decide) ?_
        refine mw_istore 51 rfl [(6, .int (1)), (5, .int x242), (4, .int (0)), (0, .ref (G.2.2.2 57)), (1, .int p1), (2, .int p2), (3, .int p3)] dX10_when_49  (by decide) rfl ?_
        have L51 : ∀ n1 : Nat, ∀ (x422 : Int32) (x423 : Int32) (x424 : Int32), mh_r x422 (1) (1000) → mh_r x424 (0) (999) → (f_eX10_when s0 p1 p2 p3 = l_eX10_when_51_1 s0 p1 p2 p3 n1 x422 x423 x424) → (1000) - x422.toInt < (n1 : Int) → mh_W G (mh_XM l G (d + 1) (mh_Qi (P_eX10_when B D s0 p1 p2 p3))) mM_X10_when 51 [(0, .ref (G.2.2.2 57)), (1, .int p1), (2, .int p2), (3, .int p3), (4, .int x424), (5, .int x423), (6, .int x422)] [] s0 := by
          intro n1
          induction n1 with
          | zero =>
            intro x422 x423 x424 r_x422 r_x424 hE1 hmn1
            exact absurd hmn1 (by have := r_x422.1; have := r_x422.2; omega)
          | succ n1 ihn1 =>
            intro x422 x423 x424 r_x422 r_x424 hE1 hmn1
            rw [l_eX10_when_51_1_s] at hE1
            refine mw_iload 53 rfl 6 dX10_when_51  rfl ?_
            refine mw_sipush (v := 1000) 56 rfl dX10_when_53 (by decide) ?_
            refine mw_icmp_ge 59 rfl 93 dX10_when_56 (by decide) (fun c437 => ?_) (fun c437 => ?_)
            · skip
              have r_x422 : mh_r x422 (1000) (1000) := mh_le2 c437 rc_1000 r_x422 (1000) (by decide)
              refine mw_iload_n 94 rfl 3 dX10_when_93 rfl rfl ?_
              refine mw_if_ne 97 rfl 102 dX10_when_94 (by decide) (fun c438 => ?_) (fun c438 => ?_)
              · skip
                have r_p3 : mh_r p3 (1) (1) := mh_ne1 (show p3.toInt ≠ (0 : Int32).toInt from c438) r_p3 rc_0 (1) (1) (by decide)
                refine mw_iload 104 rfl 5 dX10_when_102  rfl ?_
                exact mw_iret dX10_when_104 rfl ⟨x423, rfl, ⟨(mh_r_full x423), (Eq.trans hE1 (mh_ifF (Int.not_lt.mpr c437) (mh_ifF c438 rfl))), rfl⟩⟩
              · skip
                have r_p3 : mh_r p3 (0) (0) := mh_eq1 (show p3.toInt = (0 : Int32).toInt from c438) r_p3 rc_0 (0) (0) (by decide)
                refine mw_iload 99 rfl 4 dX10_when_97  rfl ?_
                refine mw_goto 102 rfl 104 dX10_when_99 (by decide) ?_
                exact mw_iret dX10_when_104 rfl ⟨x424, rfl, ⟨(mh_r_wk r_x424 (by decide)), (Eq.trans hE1 (mh_ifF (Int.not_lt.mpr c437) (mh_ifT c438 rfl))), rfl⟩⟩
            · skip
              have r_x422 : mh_r x422 (1) (999) := mh_lt1 c437 r_x422 rc_1000 (999) (by decide)
              refine mw_aload_n 60 rfl 0 dX10_when_59 rfl rfl ?_
              refine mw_iload 62 rfl 6 dX10_when_60  rfl ?_
              refine mw_iload_n 63 rfl 1 dX10_when_62 rfl rfl ?_
              refine mw_iload_n 64 rfl 2 dX10_when_63 rfl rfl ?_
              refine mw_callVi [.int x422, .int p1, .int p2] [] 67 rfl dX10_when_64 ml_X10_452 mc_X10_costWhen mk_X10_costWhen rfl rfl (by decide) (w_eX10_costWhen l G (d + 0) ⟨by omega, by omega⟩ hI0 x422 p1 p2) rfl rfl (Nat.le_of_ble_eq_true rfl) (mh_rok (by omega) (by decide)) (fun x439 s440 q441 => ?_)
              obtain ⟨r_x439, E_s440, rfl⟩ := q441
              refine mw_istore 69 rfl [(7, .int x439), (0, .ref (G.2.2.2 57)), (1, .int p1), (2, .int p2), (3, .int p3), (4, .int x424), (5, .int x423), (6, .int x422)] dX10_when_67  (by decide) rfl ?_
              refine mw_iload 71 rfl 0 dX10_when_69  rfl ?_
              refine mw_iload 73 rfl 6 dX10_when_71  rfl ?_
              have J87 : ∀ (x443 : Int32) (x444 : Int32), mh_r x444 (0) (999) → (f_eX10_when s0 p1 p2 p3 = j_eX10_when_87_2 (l_eX10_when_51_1 s0 p1 p2 p3 n1) x422 x443 x444) → mh_W G (mh_XM l G (d + 1) (mh_Qi (P_eX10_when B D s0 p1 p2 p3))) mM_X10_when 87 [(0, .ref (G.2.2.2 57)), (1, .int p1), (2, .int p2), (3, .int p3), (4, .int x444), (5, .int x443), (6, .int x422), (7, .int x439)] [] s0 := by
                intro x443 x444 r_x444 hE2
                refine mw_iincR (k := 6) (2) (1000) 90 rfl (fun z => [(6, .int z), (0, .ref (G.2.2.2 57)), (1, .int p1), (2, .int p2), (3, .int p3), (4, .int x444), (5, .int x443), (7, .int x439)]) dX10_when_87 rfl (by decide) (fun _ => rfl) r_x422 (by decide) (by decide) (fun x447 t448 r_x447 => ?_)
                refine mw_goto 93 rfl 51 dX10_when_90 (by decide) ?_
                exact mw_lv [1, 2, 3, 4, 5, 6, 0] rfl (ihn1 x447 x443 x444 (mh_r_wk r_x447 (by decide)) r_x444 (Eq.trans hE2 (mh_lbT (mh_einc t448 rfl) rfl)) (by have : x447.toInt = x422.toInt + (1) := t448; omega))
              refine mw_icmp_lt 76 rfl 79 dX10_when_73 (by decide) (fun c449 => ?_) (fun c449 => ?_)
              · skip
                have r_x439 : mh_r x439 (-2147483648) (2147483646) := mh_lt1 c449 r_x439 (mh_r_full x423) (2147483646) (by decide)
                have r_x423 : mh_r x423 (-2147483647) (2147483647) := mh_lt2 c449 r_x439 (mh_r_full x423) (-2147483647) (by decide)
                refine mw_iload 81 rfl 7 dX10_when_79  rfl ?_
                refine mw_istore 83 rfl [(4, .int x422), (7, .int x439), (0, .ref (G.2.2.2 57)), (1, .int p1), (2, .int p2), (3, .int p3), (5, .int x423), (6, .int x422)] dX10_when_81  (by decide) rfl ?_
                refine mw_iload 85 rfl 1 dX10_when_83  rfl ?_
                refine mw_istore 87 rfl [(5, .int x439), (4, .int x422), (7, .int x439), (0, .ref (G.2.2.2 57)), (1, .int p1), (2, .int p2), (3, .int p3), (6, .int x422)] dX10_when_85  (by decide) rfl ?_
                exact mw_lv [3, 4, 5, 6, 1, 0, 7, 2] rfl (J87 x439 x422 (mh_r_wk r_x422 (by decide)) (Eq.trans hE1 (mh_ifT c437 (mh_lbS E_s440 (mh_ifT c449 rfl)))))
              · skip
                refine mw_goto 79 rfl 87 dX10_when_76 (by decide) ?_
                exact mw_lv [1, 2, 3, 4, 5, 6, 7, 0] rfl (J87 x423 x424 r_x424 (Eq.trans hE1 (mh_ifT c437 (mh_lbS E_s440 (mh_ifF (Int.not_lt.mpr c449) rfl)))))
        exact mw_lv [3, 4, 5, 6, 2, 1, 0] rfl (L51 1000 (1) x242 (0) (mh_r_wk rc_1 (by decide)) (mh_r_wk rc_0 (by decide)) (mh_lbT t225 (mh_lbS E_s227 (mh_ifF c229 (mh_lbT t231 (mh_lbS E_s233 (mh_ifF c235 (mh_lbT t237 (mh_lbS E_s239 (mh_ifF c241 (mh_lbS E_s243 rfl)))))))))) (by have := (rc_1).1; have := (rc_1).2; omega))
      · skip
        have r_x238 : mh_r x238 (0) (0) := mh_eq1 (show x238.toInt = (0 : Int32).toInt from c241) r_x238 rc_0 (0) (0) (by decide)
        refine mw_iconst (v := -1) 35 rfl dX10_when_34 (by decide) ?_
        exact mw_iret dX10_when_35 rfl ⟨(-1), rfl, ⟨(mh_r_wk rc_m1 (by decide)), (mh_lbT t225 (mh_lbS E_s227 (mh_ifF c229 (mh_lbT t231 (mh_lbS E_s233 (mh_ifF c235 (mh_lbT t237 (mh_lbS E_s239 (mh_ifT c241 rfl))))))))), rfl⟩⟩

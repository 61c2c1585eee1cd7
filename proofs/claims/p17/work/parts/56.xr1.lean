def f_eX4_sign (s0 : mh_H) : Int32 := mh_lb (s0.1 56 3) (fun x10 => mh_lb (s0.1 56 2) (fun x12 => if x10.toInt < x12.toInt then mh_lb (s0.1 38 x10.toNatClampNeg) (fun x17 => x17) else (-1 : Int32)))
def P_eX4_sign (B D : Int) (s0 : mh_H) : Int32 → mh_H → Prop := fun z s => mh_r z (-1) (255) ∧ f_eX4_sign s0 = z ∧ (0 ≤ z.toInt → (s0.1 56 3).toInt < (s0.1 56 2).toInt) ∧ s0 = s
set_option maxRecDepth 100000 in
set_option maxHeartbeats 4000000 in
theorem w_eX4_sign (l : Launch) (G : mh_G) (d : Nat) {B D : Int} (hB : B ≤ 2000000000 ∧ D ≤ 2000000000) {s0 : mh_H} (hI0 : mh_I B D s0) : mh_Mi l G (d + 0) mM_X4_sign [.ref (G.2.2.2 56)] s0 (P_eX4_sign B D s0) := by
  refine mh_enter (lv := [(0, .ref (G.2.2.2 56))]) (by decide) rfl (Nat.le_of_ble_eq_true rfl) ?_
  refine mw_aload_n 1 rfl 0 dX4_sign_0 rfl rfl ?_
  refine mw_geti 4 rfl dX4_sign_1 gf_X4_15 rfl (fun x10 t11 => ?_)
  have r_x10 : mh_r x10 (0) (220) := by rw [t11]; exact rd_56_3 hI0
  refine mw_aload_n 5 rfl 0 dX4_sign_4 rfl rfl ?_
  refine mw_geti 8 rfl dX4_sign_5 gf_X4_9 rfl (fun x12 t13 => ?_)
  have r_x12 : mh_r x12 (0) (220) := by rw [t13]; exact rd_56_2 hI0
  refine mw_icmp_ge 11 rfl 23 dX4_sign_8 (by decide) (fun c14 => ?_) (fun c14 => ?_)
  · skip
    refine mw_iconst (v := -1) 24 rfl dX4_sign_23 (by decide) ?_
    refine mw_iret dX4_sign_24 rfl ⟨(-1), rfl, ⟨(mh_r_wk rc_m1 (by decide)), (mh_lbT t11 (mh_lbT t13 (mh_ifF (Int.not_lt.mpr c14) rfl))), ?_, rfl⟩⟩
    · skip
      rw [← t11, ← t13]
      have := (rc_m1).1; have := (rc_m1).2
      have := (r_x10).1; have := (r_x10).2
      have := (r_x12).1; have := (r_x12).2
      have := kc_m1
      have := kc_0
      have := kc_1
      omega
  · skip
    have r_x10 : mh_r x10 (0) (219) := mh_lt1 c14 r_x10 r_x12 (219) (by decide)
    have r_x12 : mh_r x12 (1) (220) := mh_lt2 c14 r_x10 r_x12 (1) (by decide)
    refine mw_aload_n 12 rfl 0 dX4_sign_11 rfl rfl ?_
    refine mw_geta 15 rfl dX4_sign_12 gf_X4_21 rfl 38 (mh_rf hI0 54 rfl) ?_
    refine mw_aload_n 16 rfl 0 dX4_sign_15 rfl rfl ?_
    refine mw_geti 19 rfl dX4_sign_16 gf_X4_15 rfl (fun x15 t16 => ?_)
    obtain rfl : x10 = x15 := t11.trans t16.symm
    refine mw_iald 20 rfl dX4_sign_19 rfl r_x10 (by decide) (fun x17 t18 => ?_)
    have r_x17 : mh_r x17 (0) (255) := by rw [t18]; exact rd_38 hI0 _
    refine mw_goto 23 rfl 24 dX4_sign_20 (by decide) ?_
    refine mw_iret dX4_sign_24 rfl ⟨x17, rfl, ⟨(mh_r_wk r_x17 (by decide)), (mh_lbT t11 (mh_lbT t13 (mh_ifT c14 (mh_lbT t18 rfl)))), ?_, rfl⟩⟩
    · skip
      rw [← t11, ← t13]
      have := (r_x17).1; have := (r_x17).2
      have := (r_x10).1; have := (r_x10).2
      have := (r_x12).1; have := (r_x12).2
      have := kc_m1
      have := kc_0
      have := kc_1
      omega

def S_eX4_fail : List (Nat × Nat) := [(56, 4)]
def f_eX4_fail (s0 : mh_H) (p1 : Int32) : Int32 × mh_H := mh_lb ((-1000 : Int32) * p1) (fun x9 => mh_lb (s0.1 56 3) (fun x11 => mh_lb (x9 - x11) (fun x13 => mh_lb (mh_pI s0 56 4 x13) (fun s15 => ((0 : Int32), s15)))))
def P_eX4_fail (B D : Int) (s0 : mh_H) (p1 : Int32) : Int32 → mh_H → Prop := fun z s => mh_r z (0) (0) ∧ f_eX4_fail s0 p1 = (z, s) ∧ mh_I B D s ∧ mh_F S_eX4_fail s0 s
set_option maxRecDepth 100000 in
set_option maxHeartbeats 4000000 in
theorem w_eX4_fail (l : Launch) (G : mh_G) (d : Nat) {B D : Int} (hB : B ≤ 2000000000 ∧ D ≤ 2000000000) {s0 : mh_H} (hI0 : mh_I B D s0) (p1 : Int32) : mh_Mi l G (d + 0) mM_X4_fail [.ref (G.2.2.2 56), .int p1] s0 (P_eX4_fail B D s0 p1) := by
  refine mh_enter (lv := [(0, .ref (G.2.2.2 56)), (1, .int p1)]) (by decide) rfl (Nat.le_of_ble_eq_true rfl) ?_
  have hF0 : mh_F S_eX4_fail s0 s0 := mh_F_rf
  refine mw_aload_n 1 rfl 0 dX4_fail_0 rfl rfl ?_
  refine mw_sipush (v := -1000) 4 rfl dX4_fail_1 (by decide) ?_
  refine mw_iload_n 5 rfl 1 dX4_fail_4 rfl rfl ?_
  refine mw_imul_u 6 rfl dX4_fail_5 (fun x9 t10 => ?_)
  refine mw_aload_n 7 rfl 0 dX4_fail_6 rfl rfl ?_
  refine mw_geti 10 rfl dX4_fail_7 gf_X4_15 rfl (fun x11 t12 => ?_)
  have r_x11 : mh_r x11 (0) (220) := by rw [t12]; exact rd_56_3 hI0
  refine mw_isub_u 11 rfl dX4_fail_10 (fun x13 t14 => ?_)
  refine mw_puti 14 rfl dX4_fail_11 pf_X4_18 rfl (fun s15 t16 => ?_)
  have hI_s15 : mh_I B D s15 := by rw [t16]; exact wr_56_4 hI0
  have hF_s15 : mh_F S_eX4_fail s0 s15 := by rw [t16]; exact mh_F_pI hF0 (mh_sj 0 rfl)
  refine mw_iconst (v := 0) 15 rfl dX4_fail_14 (by decide) ?_
  exact mw_zret dX4_fail_15 rfl (mh_r_wk rc_0 (by decide)) ⟨(0), rfl, ⟨rc_0, (mh_lbT t10 (mh_lbT t12 (mh_lbT t14 (mh_lbT t16 rfl)))), hI_s15, hF_s15⟩⟩

def f_eX4_isDigit (s0 : mh_H) (p0 : Int32) : Int32 := if p0.toInt < (48 : Int32).toInt then (0 : Int32) else if (57 : Int32).toInt < p0.toInt then (0 : Int32) else (1 : Int32)
def P_eX4_isDigit (B D : Int) (s0 : mh_H) (p0 : Int32) : Int32 → mh_H → Prop := fun z s => mh_r z (0) (1) ∧ f_eX4_isDigit s0 p0 = z ∧ s0 = s
set_option maxRecDepth 100000 in
set_option maxHeartbeats 4000000 in
theorem w_eX4_isDigit (l : Launch) (G : mh_G) (d : Nat) {B D : Int} (hB : B ≤ 2000000000 ∧ D ≤ 2000000000) {s0 : mh_H} (hI0 : mh_I B D s0) (p0 : Int32) : mh_Mi l G (d + 0) mM_X4_isDigit [.int p0] s0 (P_eX4_isDigit B D s0 p0) := by
  refine mh_enter (lv := [(0, .int p0)]) (by decide) rfl (Nat.le_of_ble_eq_true rfl) ?_
  refine mw_iload_n 1 rfl 0 dX4_isDigit_0 rfl rfl ?_
  refine mw_bipush (v := 48) 3 rfl dX4_isDigit_1 (by decide) ?_
  refine mw_icmp_lt 6 rfl 16 dX4_isDigit_3 (by decide) (fun c3 => ?_) (fun c3 => ?_)
  · skip
    have r_p0 : mh_r p0 (-2147483648) (47) := mh_lt1 c3 (mh_r_full p0) rc_48 (47) (by decide)
    refine mw_iconst (v := 0) 17 rfl dX4_isDigit_16 (by decide) ?_
    exact mw_zret dX4_isDigit_17 rfl (mh_r_wk rc_0 (by decide)) ⟨(0), rfl, ⟨(mh_r_wk rc_0 (by decide)), (mh_ifT c3 rfl), rfl⟩⟩
  · skip
    have r_p0 : mh_r p0 (48) (2147483647) := mh_le2 c3 rc_48 (mh_r_full p0) (48) (by decide)
    refine mw_iload_n 7 rfl 0 dX4_isDigit_6 rfl rfl ?_
    refine mw_bipush (v := 57) 9 rfl dX4_isDigit_7 (by decide) ?_
    refine mw_icmp_gt 12 rfl 16 dX4_isDigit_9 (by decide) (fun c4 => ?_) (fun c4 => ?_)
    · skip
      have r_p0 : mh_r p0 (58) (2147483647) := mh_lt2 c4 rc_57 r_p0 (58) (by decide)
      refine mw_iconst (v := 0) 17 rfl dX4_isDigit_16 (by decide) ?_
      exact mw_zret dX4_isDigit_17 rfl (mh_r_wk rc_0 (by decide)) ⟨(0), rfl, ⟨(mh_r_wk rc_0 (by decide)), (mh_ifF (Int.not_lt.mpr c3) (mh_ifT c4 rfl)), rfl⟩⟩
    · skip
      have r_p0 : mh_r p0 (48) (57) := mh_le1 c4 r_p0 rc_57 (57) (by decide)
      refine mw_iconst (v := 1) 13 rfl dX4_isDigit_12 (by decide) ?_
      refine mw_goto 16 rfl 17 dX4_isDigit_13 (by decide) ?_
      exact mw_zret dX4_isDigit_17 rfl (mh_r_wk rc_1 (by decide)) ⟨(1), rfl, ⟨(mh_r_wk rc_1 (by decide)), (mh_ifF (Int.not_lt.mpr c3) (mh_ifF (Int.not_lt.mpr c4) rfl)), rfl⟩⟩

def S_eX4_take : List (Nat × Nat) := [(56, 3), (56, 4)]
def f_eX4_take (s0 : mh_H) (p1 : Int32) : Int32 × mh_H := mh_lb (s0.1 56 2) (fun x18 => mh_lb (s0.1 56 3) (fun x20 => mh_lb (f_eX4_sign s0) (fun x22 => if x22.toInt = p1.toInt then mh_lb (x20 + (1 : Int32)) (fun x28 => mh_lb (mh_pI s0 56 3 x28) (fun s30 => ((1 : Int32), s30))) else mh_lb2 (f_eX4_fail s0 (1 : Int32)) (fun x34 s35 => (x34, s35)))))
def P_eX4_take (B D : Int) (s0 : mh_H) (p1 : Int32) : Int32 → mh_H → Prop := fun z s => mh_r z (0) (1) ∧ f_eX4_take s0 p1 = (z, s) ∧ ((s0.1 56 3).toInt ≤ (s.1 56 3).toInt) ∧ mh_I B D s ∧ mh_F S_eX4_take s0 s
set_option maxRecDepth 100000 in
set_option maxHeartbeats 4000000 in
theorem w_eX4_take (l : Launch) (G : mh_G) (d : Nat) {B D : Int} (hB : B ≤ 1980000000 ∧ D ≤ 1980000000) {s0 : mh_H} (hI0 : mh_I B D s0) (p1 : Int32) (r_p1 : mh_r p1 (0) (255)) : mh_Mi l G (d + 1) mM_X4_take [.ref (G.2.2.2 56), .int p1] s0 (P_eX4_take B D s0 p1) := by
  refine mh_enter (lv := [(0, .ref (G.2.2.2 56)), (1, .int p1)]) (by decide) rfl (Nat.le_of_ble_eq_true rfl) ?_
  have hF0 : mh_F S_eX4_take s0 s0 := mh_F_rf
  obtain ⟨x18, t19⟩ : ∃ z : Int32, z = s0.1 56 2 := ⟨_, rfl⟩
  have r_x18 : mh_r x18 0 220 := by rw [t19]; exact rd_56_2 hI0
  obtain ⟨x20, t21⟩ : ∃ z : Int32, z = s0.1 56 3 := ⟨_, rfl⟩
  have r_x20 : mh_r x20 0 220 := by rw [t21]; exact rd_56_3 hI0
  refine mw_aload_n 1 rfl 0 dX4_take_0 rfl rfl ?_
  refine mw_callVi [] [] 4 rfl dX4_take_1 ml_X4_51 mc_X4_sign mk_X4_sign rfl rfl (by decide) (w_eX4_sign l G (d + 0) ⟨by omega, by omega⟩ hI0) rfl rfl (Nat.le_of_ble_eq_true rfl) (mh_rok (by omega) (by decide)) (fun x22 s23 q24 => ?_)
  obtain ⟨r_x22, E_s23, e0_s23, rfl⟩ := q24
  have hq_x22 : 0 ≤ x22.toInt → x20.toInt < x18.toInt := by have h9 := e0_s23; rw [← t21, ← t19] at h9; exact h9
  refine mw_iload_n 5 rfl 1 dX4_take_4 rfl rfl ?_
  refine mw_icmp_eq 8 rfl 14 dX4_take_5 (by decide) (fun c25 => ?_) (fun c25 => ?_)
  · skip
    have r_x22 : mh_r x22 (0) (255) := mh_eq1 c25 r_x22 r_p1 (0) (255) (by decide)
    refine mw_aload_n 15 rfl 0 dX4_take_14 rfl rfl ?_
    refine mw_dup 16 rfl dX4_take_15 rfl ?_
    refine mw_geti 19 rfl dX4_take_16 gf_X4_15 rfl (fun x26 t27 => ?_)
    obtain rfl : x20 = x26 := t21.trans t27.symm
    have r_x20 : mh_r x20 (0) (219) := ⟨(r_x20).1, by have := congrArg Int32.toInt t19; have := congrArg Int32.toInt t21; have := (r_p1).1; have := (r_p1).2; have := (r_x20).1; have := (r_x20).2; have := (r_x18).1; have := (r_x18).2; have := kc_0; have := kc_1; omega⟩
    refine mw_iconst (v := 1) 20 rfl dX4_take_19 (by decide) ?_
    refine mw_iadd 21 rfl (1) (220) dX4_take_20 r_x20 rc_1 (by decide) (fun x28 t29 r_x28 => ?_)
    refine mw_puti 24 rfl dX4_take_21 pf_X4_15 rfl (fun s30 t31 => ?_)
    have hI_s30 : mh_I B D s30 := by rw [t31]; exact wr_56_3 hI0 (mh_r_wk r_x28 (by decide))
    have hF_s30 : mh_F S_eX4_take s0 s30 := by rw [t31]; exact mh_F_pI hF0 (mh_sj 0 rfl)
    refine mw_iconst (v := 1) 25 rfl dX4_take_24 (by decide) ?_
    refine mw_zret dX4_take_25 rfl (mh_r_wk rc_1 (by decide)) ⟨(1), rfl, ⟨(mh_r_wk rc_1 (by decide)), (mh_lbT t19 (mh_lbT t21 (mh_lbS E_s23 (mh_ifT c25 (mh_lbT (mh_eadd t29) (mh_lbT t31 rfl)))))), ?_, hI_s30, hF_s30⟩⟩
    · skip
      have t32 : x18 = s30.1 56 2 := by rw [t31]; exact (t19).trans (mh_pI_n (by omega)).symm
      have t33 : x28 = s30.1 56 3 := by rw [t31]; exact mh_pI_s.symm
      have := congrArg Int32.toInt t19
      have := congrArg Int32.toInt t21
      have := congrArg Int32.toInt t32
      have := congrArg Int32.toInt t33
      have := (r_p1).1; have := (r_p1).2
      have := (rc_1).1; have := (rc_1).2
      have := (r_x18).1; have := (r_x18).2
      have := (r_x20).1; have := (r_x20).2
      have := (r_x28).1; have := (r_x28).2
      have := kc_0
      have := kc_1
      omega
  · skip
    refine mw_aload_n 9 rfl 0 dX4_take_8 rfl rfl ?_
    refine mw_iconst (v := 1) 10 rfl dX4_take_9 (by decide) ?_
    refine mw_callVi [.int (1)] [] 13 rfl dX4_take_10 ml_X4_55 mc_X4_fail mk_X4_fail rfl rfl (by decide) (w_eX4_fail l G (d + 0) ⟨by omega, by omega⟩ hI0 (1)) rfl rfl (Nat.le_of_ble_eq_true rfl) (mh_rok (by omega) (by decide)) (fun x34 s35 q36 => ?_)
    obtain ⟨r_x34, E_s35, hI_s35, hG_s35⟩ := q36
    have hF_s35 : mh_F S_eX4_take s0 s35 := mh_F_tl hF0 hG_s35 (by decide +kernel)
    have t37 : x18 = s35.1 56 2 := (t19).trans (hG_s35 56 2 (mh_nsI (by rfl))).1.symm
    have t38 : x20 = s35.1 56 3 := (t21).trans (hG_s35 56 3 (mh_nsI (by rfl))).1.symm
    refine mw_zret dX4_take_13 rfl (mh_r_wk r_x34 (by decide)) ⟨x34, rfl, ⟨(mh_r_wk r_x34 (by decide)), (mh_lbT t19 (mh_lbT t21 (mh_lbS E_s23 (mh_ifF c25 (mh_lb2T E_s35 rfl))))), ?_, hI_s35, hF_s35⟩⟩
    · skip
      have := congrArg Int32.toInt t19
      have := congrArg Int32.toInt t21
      have := congrArg Int32.toInt t37
      have := congrArg Int32.toInt t38
      have := (r_p1).1; have := (r_p1).2
      have := (r_x34).1; have := (r_x34).2
      have := (r_x18).1; have := (r_x18).2
      have := (r_x20).1; have := (r_x20).2
      have := kc_0
      have := kc_1
      omega

def S_eX4_readNumber : List (Nat × Nat) := [(56, 3), (41, 9999), (49, 9999), (40, 8), (48, 8), (56, 4)]
def ls_eX4_readNumber_4_1 (lo_4_1 : mh_H → Int32 → Int32 → Int32 × mh_H) (s464 : mh_H) (x462 : Int32) (x463 : Int32) : Int32 × mh_H := mh_lb (s464.1 56 2) (fun x502 => mh_lb (s464.1 56 3) (fun x504 => if x504.toInt < x502.toInt then mh_lb (f_eX4_sign s464) (fun x525 => mh_lb (f_eX4_isDigit s464 x525) (fun x528 => if x528.toInt = 0 then mh_lb (s464.2.2 56 1) (fun k533 => mh_lb (f_eX1_put s464 k533 (13 : Int32)) (fun s535 => mh_lb (s535.2.2 56 1) (fun k540 => mh_lb (f_eX1_put s535 k540 x463) (fun s542 => ((1 : Int32), s542))))) else if x462.toInt < (5 : Int32).toInt then mh_lb ((10 : Int32) * x463) (fun x547 => mh_lb (f_eX4_sign s464) (fun x549 => mh_lb (x547 + x549) (fun x552 => mh_lb (x552 - (48 : Int32)) (fun x554 => mh_lb (x504 + (1 : Int32)) (fun x558 => mh_lb (mh_pI s464 56 3 x558) (fun s560 => mh_lb (x462 + (1 : Int32)) (fun x562 => (lo_4_1 s560 x562 x554)))))))) else mh_lb2 (f_eX4_fail s464 (2 : Int32)) (fun x566 s567 => (x566, s567)))) else mh_lb (s464.2.2 56 1) (fun k512 => mh_lb (f_eX1_put s464 k512 (13 : Int32)) (fun s514 => mh_lb (s514.2.2 56 1) (fun k519 => mh_lb (f_eX1_put s514 k519 x463) (fun s521 => ((1 : Int32), s521)))))))
def l_eX4_readNumber_4_1 : Nat → mh_H → Int32 → Int32 → Int32 × mh_H
  | 0 => fun s464 _ _ => (0, s464)
  | n + 1 => ls_eX4_readNumber_4_1 (l_eX4_readNumber_4_1 n)
theorem l_eX4_readNumber_4_1_s (n : Nat) : l_eX4_readNumber_4_1 (n + 1) = ls_eX4_readNumber_4_1 (l_eX4_readNumber_4_1 n) := rfl
def f_eX4_readNumber (s0 : mh_H) : Int32 × mh_H := mh_lb (s0.1 56 2) (fun x280 => mh_lb (s0.1 56 3) (fun x282 => (l_eX4_readNumber_4_1 6 s0 (0 : Int32) (0 : Int32))))
def P_eX4_readNumber (B D : Int) (s0 : mh_H) : Int32 → mh_H → Prop := fun z s => mh_r z (0) (1) ∧ f_eX4_readNumber s0 = (z, s) ∧ ((s0.1 56 3).toInt ≤ (s.1 56 3).toInt) ∧ mh_I B D s ∧ mh_F S_eX4_readNumber s0 s
set_option maxRecDepth 100000 in
set_option maxHeartbeats 4000000 in
theorem w_eX4_readNumber (l : Launch) (G : mh_G) (d : Nat) {B D : Int} (hB : B ≤ 1980000000 ∧ D ≤ 1980000000) {s0 : mh_H} (hI0 : mh_I B D s0) : mh_Mi l G (d + 1) mM_X4_readNumber [.ref (G.2.2.2 56)] s0 (P_eX4_readNumber B D s0) := by
  refine mh_enter (lv := [(0, .ref (G.2.2.2 56))]) (by decide) rfl (Nat.le_of_ble_eq_true rfl) ?_
  have hF0 : mh_F S_eX4_readNumber s0 s0 := mh_F_rf
  obtain ⟨x280, t281⟩ : ∃ z : Int32, z = s0.1 56 2 := ⟨_, rfl⟩
  have r_x280 : mh_r x280 0 220 := by rw [t281]; exact rd_56_2 hI0
  obtain ⟨x282, t283⟩ : ∃ z : Int32, z = s0.1 56 3 := ⟨_, rfl⟩
  have r_x282 : mh_r x282 0 220 := by rw [t283]; exact rd_56_3 hI0
  refine mw_iconst (v := 0) 1 rfl dX4_readNumber_0 (by decide) ?_
  refine mw_istore_n 2 rfl [(1, .int (0)), (0, .ref (G.2.2.2 56))] dX4_readNumber_1 rfl (by decide) rfl ?_
  refine mw_iconst (v := 0) 3 rfl dX4_readNumber_2 (by decide) ?_
  refine mw_istore_n 4 rfl [(2, .int (0)), (1, .int (0)), (0, .ref (G.2.2.2 56))] dX4_readNumber_3 rfl (by decide) rfl ?_
  have L4 : ∀ n1 : Nat, ∀ (x462 : Int32) (x463 : Int32) (s464 : mh_H), mh_r x462 (0) (5) → mh_I B D s464 → mh_F S_eX4_readNumber s0 s464 → ((s0.1 56 3).toInt ≤ (s464.1 56 3).toInt) → (f_eX4_readNumber s0 = l_eX4_readNumber_4_1 n1 s464 x462 x463) → (5) - x462.toInt < (n1 : Int) → mh_W G (mh_XM l G (d + 1) (mh_Qi (P_eX4_readNumber B D s0))) mM_X4_readNumber 4 [(0, .ref (G.2.2.2 56)), (1, .int x463), (2, .int x462)] [] s464 := by
    intro n1
    induction n1 with
    | zero =>
      intro x462 x463 s464 r_x462 hI_s464 hF_s464 iv hE1 hmn1
      exact absurd hmn1 (by have := r_x462.1; have := r_x462.2; omega)
    | succ n1 ihn1 =>
      intro x462 x463 s464 r_x462 hI_s464 hF_s464 iv hE1 hmn1
      rw [l_eX4_readNumber_4_1_s] at hE1
      obtain ⟨x502, t503⟩ : ∃ z : Int32, z = s464.1 56 2 := ⟨_, rfl⟩
      have r_x502 : mh_r x502 0 220 := by rw [t503]; exact rd_56_2 hI_s464
      obtain ⟨x504, t505⟩ : ∃ z : Int32, z = s464.1 56 3 := ⟨_, rfl⟩
      have r_x504 : mh_r x504 0 220 := by rw [t505]; exact rd_56_3 hI_s464
      refine mw_aload_n 5 rfl 0 dX4_readNumber_4 rfl rfl ?_
      refine mw_geti 8 rfl dX4_readNumber_5 gf_X4_15 rfl (fun x506 t507 => ?_)
      obtain rfl : x504 = x506 := t505.trans t507.symm
      refine mw_aload_n 9 rfl 0 dX4_readNumber_8 rfl rfl ?_
      refine mw_geti 12 rfl dX4_readNumber_9 gf_X4_9 rfl (fun x508 t509 => ?_)
      obtain rfl : x502 = x508 := t503.trans t509.symm
      refine mw_icmp_ge 15 rfl 65 dX4_readNumber_12 (by decide) (fun c510 => ?_) (fun c510 => ?_)
      · skip
        refine mw_aload_n 66 rfl 0 dX4_readNumber_65 rfl rfl ?_
        obtain ⟨k512, t511⟩ : ∃ y : Nat, s464.2.2 56 1 = y := ⟨_, rfl⟩
        have hk512 : mh_isL k512 := by rw [← t511]; exact hI_s464.2.1.2.2.2
        refine mw_geta 69 rfl dX4_readNumber_66 gf_X4_25 rfl k512 t511 ?_
        refine mw_bipush (v := 13) 71 rfl dX4_readNumber_69 (by decide) ?_
        refine mw_callVv [.int (13)] [] 74 rfl dX4_readNumber_71 ml_X4_95 mc_X1_put mk_X1_put (ly_L hk512) rfl (by decide) (w_eX1_put l G (d + 0) ⟨by omega, by omega⟩ hI_s464 k512 hk512 (13)) rfl rfl (Nat.le_of_ble_eq_true rfl) (mh_rok (by omega) (by decide)) (fun s514 q515 => ?_)
        obtain ⟨E_s514, hI_s514, hG_s514⟩ := q515
        have hF_s514 : mh_F S_eX4_readNumber s0 s514 := mh_F_tl hF_s464 hG_s514 (by rcases hk512 with rfl | rfl <;> decide +kernel)
        have t516 : x502 = s514.1 56 2 := (t503).trans (hG_s514 56 2 (mh_nsI (by rcases hk512 with rfl | rfl <;> rfl))).1.symm
        have t517 : x504 = s514.1 56 3 := (t505).trans (hG_s514 56 3 (mh_nsI (by rcases hk512 with rfl | rfl <;> rfl))).1.symm
        refine mw_aload_n 75 rfl 0 dX4_readNumber_74 rfl rfl ?_
        obtain ⟨k519, t518⟩ : ∃ y : Nat, s514.2.2 56 1 = y := ⟨_, rfl⟩
        have hk519 : mh_isL k519 := by rw [← t518]; exact hI_s514.2.1.2.2.2
        refine mw_geta 78 rfl dX4_readNumber_75 gf_X4_25 rfl k519 t518 ?_
        refine mw_iload_n 79 rfl 1 dX4_readNumber_78 rfl rfl ?_
        refine mw_callVv [.int x463] [] 82 rfl dX4_readNumber_79 ml_X4_95 mc_X1_put mk_X1_put (ly_L hk519) rfl (by decide) (w_eX1_put l G (d + 0) ⟨by omega, by omega⟩ hI_s514 k519 hk519 x463) rfl rfl (Nat.le_of_ble_eq_true rfl) (mh_rok (by omega) (by decide)) (fun s521 q522 => ?_)
        obtain ⟨E_s521, hI_s521, hG_s521⟩ := q522
        have hF_s521 : mh_F S_eX4_readNumber s0 s521 := mh_F_tl hF_s514 hG_s521 (by rcases hk519 with rfl | rfl <;> decide +kernel)
        have t523 : x502 = s521.1 56 2 := (t516).trans (hG_s521 56 2 (mh_nsI (by rcases hk519 with rfl | rfl <;> rfl))).1.symm
        have t524 : x504 = s521.1 56 3 := (t517).trans (hG_s521 56 3 (mh_nsI (by rcases hk519 with rfl | rfl <;> rfl))).1.symm
        refine mw_iconst (v := 1) 83 rfl dX4_readNumber_82 (by decide) ?_
        refine mw_zret dX4_readNumber_83 rfl (mh_r_wk rc_1 (by decide)) ⟨(1), rfl, ⟨(mh_r_wk rc_1 (by decide)), (Eq.trans hE1 (mh_lbT t503 (mh_lbT t505 (mh_ifF (Int.not_lt.mpr c510) (mh_lbS t511 (mh_lbS E_s514 (mh_lbS t518 (mh_lbS E_s521 rfl)))))))), ?_, hI_s521, hF_s521⟩⟩
        · skip
          have := congrArg Int32.toInt t281
          have := congrArg Int32.toInt t283
          have := congrArg Int32.toInt t503
          have := congrArg Int32.toInt t505
          have := congrArg Int32.toInt t516
          have := congrArg Int32.toInt t517
          have := congrArg Int32.toInt t523
          have := congrArg Int32.toInt t524
          have := (r_x462).1; have := (r_x462).2
          have := (rc_1).1; have := (rc_1).2
          have := (r_x280).1; have := (r_x280).2
          have := (r_x282).1; have := (r_x282).2
          have := (r_x502).1; have := (r_x502).2
          have := (r_x504).1; have := (r_x504).2
          have := kc_0
          have := kc_1
          have := kc_2
          have := kc_5
          have := kc_10
          have := kc_13
          have := kc_48
          omega
      · skip
        have r_x504 : mh_r x504 (0) (219) := mh_lt1 c510 r_x504 r_x502 (219) (by decide)
        have r_x502 : mh_r x502 (1) (220) := mh_lt2 c510 r_x504 r_x502 (1) (by decide)
        refine mw_aload_n 16 rfl 0 dX4_readNumber_15 rfl rfl ?_
        refine mw_callVi [] [] 19 rfl dX4_readNumber_16 ml_X4_51 mc_X4_sign mk_X4_sign rfl rfl (by decide) (w_eX4_sign l G (d + 0) ⟨by omega, by omega⟩ hI_s464) rfl rfl (Nat.le_of_ble_eq_true rfl) (mh_rok (by omega) (by decide)) (fun x525 s526 q527 => ?_)
        obtain ⟨r_x525, E_s526, e0_s526, rfl⟩ := q527
        have hq_x525 : 0 ≤ x525.toInt → x504.toInt < x502.toInt := by have h9 := e0_s526; rw [← t505, ← t503] at h9; exact h9
        refine mw_callSi [.int x525] [] 22 rfl dX4_readNumber_19 ml_X4_104 mc_X4_isDigit mk_X4_isDigit (w_eX4_isDigit l G (d + 0) ⟨by omega, by omega⟩ hI_s464 x525) rfl rfl (Nat.le_of_ble_eq_true rfl) (mh_rok (by omega) (by decide)) (fun x528 s529 q530 => ?_)
        obtain ⟨r_x528, E_s529, rfl⟩ := q530
        refine mw_if_eq 25 rfl 65 dX4_readNumber_22 (by decide) (fun c531 => ?_) (fun c531 => ?_)
        · skip
          have r_x528 : mh_r x528 (0) (0) := mh_eq1 (show x528.toInt = (0 : Int32).toInt from c531) r_x528 rc_0 (0) (0) (by decide)
          refine mw_aload_n 66 rfl 0 dX4_readNumber_65 rfl rfl ?_
          obtain ⟨k533, t532⟩ : ∃ y : Nat, s464.2.2 56 1 = y := ⟨_, rfl⟩
          have hk533 : mh_isL k533 := by rw [← t532]; exact hI_s464.2.1.2.2.2
          refine mw_geta 69 rfl dX4_readNumber_66 gf_X4_25 rfl k533 t532 ?_
          refine mw_bipush (v := 13) 71 rfl dX4_readNumber_69 (by decide) ?_
          refine mw_callVv [.int (13)] [] 74 rfl dX4_readNumber_71 ml_X4_95 mc_X1_put mk_X1_put (ly_L hk533) rfl (by decide) (w_eX1_put l G (d + 0) ⟨by omega, by omega⟩ hI_s464 k533 hk533 (13)) rfl rfl (Nat.le_of_ble_eq_true rfl) (mh_rok (by omega) (by decide)) (fun s535 q536 => ?_)
          obtain ⟨E_s535, hI_s535, hG_s535⟩ := q536
          have hF_s535 : mh_F S_eX4_readNumber s0 s535 := mh_F_tl hF_s464 hG_s535 (by rcases hk533 with rfl | rfl <;> decide +kernel)
          have t537 : x502 = s535.1 56 2 := (t503).trans (hG_s535 56 2 (mh_nsI (by rcases hk533 with rfl | rfl <;> rfl))).1.symm
          have t538 : x504 = s535.1 56 3 := (t505).trans (hG_s535 56 3 (mh_nsI (by rcases hk533 with rfl | rfl <;> rfl))).1.symm
          refine mw_aload_n 75 rfl 0 dX4_readNumber_74 rfl rfl ?_
          obtain ⟨k540, t539⟩ : ∃ y : Nat, s535.2.2 56 1 = y := ⟨_, rfl⟩
          have hk540 : mh_isL k540 := by rw [← t539]; exact hI_s535.2.1.2.2.2
          refine mw_geta 78 rfl dX4_readNumber_75 gf_X4_25 rfl k540 t539 ?_
          refine mw_iload_n 79 rfl 1 dX4_readNumber_78 rfl rfl ?_
          refine mw_callVv [.int x463] [] 82 rfl dX4_readNumber_79 ml_X4_95 mc_X1_put mk_X1_put (ly_L hk540) rfl (by decide) (w_eX1_put l G (d + 0) ⟨by omega, by omega⟩ hI_s535 k540 hk540 x463) rfl rfl (Nat.le_of_ble_eq_true rfl) (mh_rok (by omega) (by decide)) (fun s542 q543 => ?_)
          obtain ⟨E_s542, hI_s542, hG_s542⟩ := q543
          have hF_s542 : mh_F S_eX4_readNumber s0 s542 := mh_F_tl hF_s535 hG_s542 (by rcases hk540 with rfl | rfl <;> decide +kernel)
          have t544 : x502 = s542.1 56 2 := (t537).trans (hG_s542 56 2 (mh_nsI (by rcases hk540 with rfl | rfl <;> rfl))).1.symm
          have t545 : x504 = s542.1 56 3 := (t538).trans (hG_s542 56 3 (mh_nsI (by rcases hk540 with rfl | rfl <;> rfl))).1.symm
          refine mw_iconst (v := 1) 83 rfl dX4_readNumber_82 (by decide) ?_
          refine mw_zret dX4_readNumber_83 rfl (mh_r_wk rc_1 (by decide)) ⟨(1), rfl, ⟨(mh_r_wk rc_1 (by decide)), (Eq.trans hE1 (mh_lbT t503 (mh_lbT t505 (mh_ifT c510 (mh_lbS E_s526 (mh_lbS E_s529 (mh_ifT c531 (mh_lbS t532 (mh_lbS E_s535 (mh_lbS t539 (mh_lbS E_s542 rfl))))))))))), ?_, hI_s542, hF_s542⟩⟩
          · skip
            have := congrArg Int32.toInt t281
            have := congrArg Int32.toInt t283
            have := congrArg Int32.toInt t503
            have := congrArg Int32.toInt t505
            have := congrArg Int32.toInt t537
            have := congrArg Int32.toInt t538
            have := congrArg Int32.toInt t544
            have := congrArg Int32.toInt t545
            have := (r_x462).1; have := (r_x462).2
            have := (rc_1).1; have := (rc_1).2
            have := (r_x280).1; have := (r_x280).2
            have := (r_x282).1; have := (r_x282).2
            have := (r_x502).1; have := (r_x502).2
            have := (r_x504).1; have := (r_x504).2
            have := kc_0
            have := kc_1
            have := kc_2
            have := kc_5
            have := kc_10
            have := kc_13
            have := kc_48
            omega
        · skip
          have r_x528 : mh_r x528 (1) (1) := mh_ne1 (show x528.toInt ≠ (0 : Int32).toInt from c531) r_x528 rc_0 (1) (1) (by decide)
          refine mw_iload_n 26 rfl 2 dX4_readNumber_25 rfl rfl ?_
          refine mw_iconst (v := 5) 27 rfl dX4_readNumber_26 (by decide) ?_
          refine mw_icmp_lt 30 rfl 36 dX4_readNumber_27 (by decide) (fun c546 => ?_) (fun c546 => ?_)
          · skip
            have r_x462 : mh_r x462 (0) (4) := mh_lt1 c546 r_x462 rc_5 (4) (by decide)
            refine mw_bipush (v := 10) 38 rfl dX4_readNumber_36 (by decide) ?_
            refine mw_iload_n 39 rfl 1 dX4_readNumber_38 rfl rfl ?_
            refine mw_imul_u 40 rfl dX4_readNumber_39 (fun x547 t548 => ?_)
            refine mw_aload_n 41 rfl 0 dX4_readNumber_40 rfl rfl ?_
            refine mw_callVi [] [.int x547] 44 rfl dX4_readNumber_41 ml_X4_51 mc_X4_sign mk_X4_sign rfl rfl (by decide) (w_eX4_sign l G (d + 0) ⟨by omega, by omega⟩ hI_s464) rfl rfl (Nat.le_of_ble_eq_true rfl) (mh_rok (by omega) (by decide)) (fun x549 s550 q551 => ?_)
            obtain ⟨r_x549, E_s550, e0_s550, rfl⟩ := q551
            have hq_x549 : 0 ≤ x549.toInt → x504.toInt < x502.toInt := by have h9 := e0_s550; rw [← t505, ← t503] at h9; exact h9
            refine mw_iadd_u 45 rfl dX4_readNumber_44 (fun x552 t553 => ?_)
            refine mw_bipush (v := 48) 47 rfl dX4_readNumber_45 (by decide) ?_
            refine mw_isub_u 48 rfl dX4_readNumber_47 (fun x554 t555 => ?_)
            refine mw_istore_n 49 rfl [(1, .int x554), (0, .ref (G.2.2.2 56)), (2, .int x462)] dX4_readNumber_48 rfl (by decide) rfl ?_
            refine mw_aload_n 50 rfl 1 dX4_readNumber_49 rfl rfl ?_
            refine mw_dup 51 rfl dX4_readNumber_50 rfl ?_
            refine mw_geti 54 rfl dX4_readNumber_51 gf_X4_15 rfl (fun x556 t557 => ?_)
            obtain rfl : x504 = x556 := t505.trans t557.symm
            refine mw_iconst (v := 1) 55 rfl dX4_readNumber_54 (by decide) ?_
            refine mw_iadd 56 rfl (1) (220) dX4_readNumber_55 r_x504 rc_1 (by decide) (fun x558 t559 r_x558 => ?_)
            refine mw_puti 59 rfl dX4_readNumber_56 pf_X4_15 rfl (fun s560 t561 => ?_)
            have hI_s560 : mh_I B D s560 := by rw [t561]; exact wr_56_3 hI_s464 (mh_r_wk r_x558 (by decide))
            have hF_s560 : mh_F S_eX4_readNumber s0 s560 := by rw [t561]; exact mh_F_pI hF_s464 (mh_sj 0 rfl)
            refine mw_iincR (k := 2) (1) (5) 62 rfl (fun z => [(2, .int z), (1, .int x554), (0, .ref (G.2.2.2 56))]) dX4_readNumber_59 rfl (by decide) (fun _ => rfl) r_x462 (by decide) (by decide) (fun x562 t563 r_x562 => ?_)
            refine mw_goto 65 rfl 4 dX4_readNumber_62 (by decide) ?_
            have t564 : x502 = s560.1 56 2 := by rw [t561]; exact (t503).trans (mh_pI_n (by omega)).symm
            have t565 : x558 = s560.1 56 3 := by rw [t561]; exact mh_pI_s.symm
            exact mw_lv [2, 1, 0] rfl (ihn1 x562 x554 s560 (mh_r_wk r_x562 (by decide)) hI_s560 hF_s560 (by
                have := congrArg Int32.toInt t281
                have := congrArg Int32.toInt t283
                have := congrArg Int32.toInt t503
                have := congrArg Int32.toInt t505
                have := congrArg Int32.toInt t564
                have := congrArg Int32.toInt t565
                have := (r_x562).1; have := (r_x562).2
                have := (r_x280).1; have := (r_x280).2
                have := (r_x282).1; have := (r_x282).2
                have := (r_x502).1; have := (r_x502).2
                have := (r_x504).1; have := (r_x504).2
                have := (r_x558).1; have := (r_x558).2
                have := (rc_48).1; have := (rc_48).2
                have := (rc_1).1; have := (rc_1).2
                have := kc_0
                have := kc_1
                have := kc_2
                have := kc_5
                have := kc_10
                have := kc_13
                have := kc_48
                omega) (Eq.trans hE1 (mh_lbT t503 (mh_lbT t505 (mh_ifT c510 (mh_lbS E_s526 (mh_lbS E_s529 (mh_ifF c531 (mh_ifT c546 (mh_lbT t548 (mh_lbS E_s550 (mh_lbT t553 (mh_lbT t555 (mh_lbT (mh_eadd t559) (mh_lbT t561 (mh_lbT (mh_einc t563 rfl) rfl))))))))))))))) (by have : x562.toInt = x462.toInt + (1) := t563; omega))
          · skip
            have r_x462 : mh_r x462 (5) (5) := mh_le2 c546 rc_5 r_x462 (5) (by decide)
            refine mw_aload_n 31 rfl 0 dX4_readNumber_30 rfl rfl ?_
            refine mw_iconst (v := 2) 32 rfl dX4_readNumber_31 (by decide) ?_
            refine mw_callVi [.int (2)] [] 35 rfl dX4_readNumber_32 ml_X4_55 mc_X4_fail mk_X4_fail rfl rfl (by decide) (w_eX4_fail l G (d + 0) ⟨by omega, by omega⟩ hI_s464 (2)) rfl rfl (Nat.le_of_ble_eq_true rfl) (mh_rok (by omega) (by decide)) (fun x566 s567 q568 => ?_)
            obtain ⟨r_x566, E_s567, hI_s567, hG_s567⟩ := q568
            have hF_s567 : mh_F S_eX4_readNumber s0 s567 := mh_F_tl hF_s464 hG_s567 (by decide +kernel)
            have t569 : x502 = s567.1 56 2 := (t503).trans (hG_s567 56 2 (mh_nsI (by rfl))).1.symm
            have t570 : x504 = s567.1 56 3 := (t505).trans (hG_s567 56 3 (mh_nsI (by rfl))).1.symm
            refine mw_zret dX4_readNumber_35 rfl (mh_r_wk r_x566 (by decide)) ⟨x566, rfl, ⟨(mh_r_wk r_x566 (by decide)), (Eq.trans hE1 (mh_lbT t503 (mh_lbT t505 (mh_ifT c510 (mh_lbS E_s526 (mh_lbS E_s529 (mh_ifF c531 (mh_ifF (Int.not_lt.mpr c546) (mh_lb2T E_s567 rfl))))))))), ?_, hI_s567, hF_s567⟩⟩
            · skip
              have := congrArg Int32.toInt t281
              have := congrArg Int32.toInt t283
              have := congrArg Int32.toInt t503
              have := congrArg Int32.toInt t505
              have := congrArg Int32.toInt t569
              have := congrArg Int32.toInt t570
              have := (r_x462).1; have := (r_x462).2
              have := (r_x566).1; have := (r_x566).2
              have := (r_x280).1; have := (r_x280).2
              have := (r_x282).1; have := (r_x282).2
              have := (r_x502).1; have := (r_x502).2
              have := (r_x504).1; have := (r_x504).2
              have := kc_0
              have := kc_1
              have := kc_2
              have := kc_5
              have := kc_10
              have := kc_13
              have := kc_48
              omega
  exact mw_lv [2, 1, 0] rfl (L4 6 (0) (0) s0 (mh_r_wk rc_0 (by decide)) hI0 hF0 (by
      have := congrArg Int32.toInt t281
      have := congrArg Int32.toInt t283
      have := (rc_0).1; have := (rc_0).2
      have := (r_x280).1; have := (r_x280).2
      have := (r_x282).1; have := (r_x282).2
      have := kc_0
      have := kc_1
      have := kc_2
      have := kc_5
      have := kc_10
      have := kc_13
      have := kc_48
      omega) (mh_lbT t281 (mh_lbT t283 rfl)) (by have := (rc_0).1; have := (rc_0).2; omega))


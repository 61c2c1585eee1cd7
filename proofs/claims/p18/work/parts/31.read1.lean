def P_X4_sign (B D : Int) (s0 : mh_H) : Int32 → mh_H → Prop := fun z s => mh_r z (-1) (255) ∧ (0 ≤ z.toInt → (s0.1 56 3).toInt < (s0.1 56 2).toInt) ∧ s0 = s
set_option maxRecDepth 100000 in
set_option maxHeartbeats 4000000 in
theorem w_X4_sign (l : Launch) (G : mh_G) (d : Nat) {B D : Int} (hB : B ≤ 2000000000 ∧ D ≤ 2000000000) {s0 : mh_H} (hI0 : mh_I B D s0) : mh_Mi l G (d + 0) mM_X4_sign [.ref (G.2.2.2 56)] s0 (P_X4_sign B D s0) := by
  refine mh_enter (lv := [(0, .ref (G.2.2.2 56))]) (by decide) rfl (Nat.le_of_ble_eq_true rfl) ?_
  refine mw_aload_n 1 rfl 0 dX4_sign_0 rfl rfl ?_
  refine mw_geti 4 rfl dX4_sign_1 gf_X4_15 rfl (fun x10 t11 => ?_)
  have r_x10 : mh_r x10 (0) (220) := by rw [t11]; exact rd_56_3 hI0
  refine mw_aload_n 5 rfl 0 dX4_sign_4 rfl rfl ?_
  refine mw_geti 8 rfl dX4_sign_5 gf_X4_9 rfl (fun x12 t13 => ?_)
  have r_x12 : mh_r x12 (0) (220) := by rw [t13]; exact rd_56_2 hI0
  refine mw_icmp_ge 11 rfl 23 dX4_sign_8 (by decide) (fun c14 => ?_) (fun c14 => ?_)
  · skip
    refine mw_iconst (v := -1) 24 rfl dX4_sign_23 (by decide) ?_
    refine mw_iret dX4_sign_24 rfl ⟨(-1), rfl, ⟨(mh_r_wk rc_m1 (by decide)), ?_, rfl⟩⟩
    · skip
      rw [← t11, ← t13]
      have := (rc_m1).1; have := (rc_m1).2
      have := (r_x10).1; have := (r_x10).2
      have := (r_x12).1; have := (r_x12).2
      have := kc_m1
      have := kc_0
      have := kc_1
      omega
  · skip
    have r_x10 : mh_r x10 (0) (219) := mh_lt1 c14 r_x10 r_x12 (219) (by decide)
    have r_x12 : mh_r x12 (1) (220) := mh_lt2 c14 r_x10 r_x12 (1) (by decide)
    refine mw_aload_n 12 rfl 0 dX4_sign_11 rfl rfl ?_
    refine mw_geta 15 rfl dX4_sign_12 gf_X4_21 rfl 38 (mh_rf hI0 54 rfl) ?_
    refine mw_aload_n 16 rfl 0 dX4_sign_15 rfl rfl ?_
    refine mw_geti 19 rfl dX4_sign_16 gf_X4_15 rfl (fun x15 t16 => ?_)
    obtain rfl : x10 = x15 := t11.trans t16.symm
    refine mw_iald 20 rfl dX4_sign_19 rfl r_x10 (by decide) (fun x17 t18 => ?_)
    have r_x17 : mh_r x17 (0) (255) := by rw [t18]; exact rd_38 hI0 _
    refine mw_goto 23 rfl 24 dX4_sign_20 (by decide) ?_
    refine mw_iret dX4_sign_24 rfl ⟨x17, rfl, ⟨(mh_r_wk r_x17 (by decide)), ?_, rfl⟩⟩
    · skip
      rw [← t11, ← t13]
      have := (r_x17).1; have := (r_x17).2
      have := (r_x10).1; have := (r_x10).2
      have := (r_x12).1; have := (r_x12).2
      have := kc_m1
      have := kc_0
      have := kc_1
      omega

def S_X4_fail : List (Nat × Nat) := [(56, 4)]
def P_X4_fail (B D : Int) (s0 : mh_H) (p1 : Int32) : Int32 → mh_H → Prop := fun z s => mh_r z (0) (0) ∧ mh_I B D s ∧ mh_F S_X4_fail s0 s
set_option maxRecDepth 100000 in
set_option maxHeartbeats 4000000 in
theorem w_X4_fail (l : Launch) (G : mh_G) (d : Nat) {B D : Int} (hB : B ≤ 2000000000 ∧ D ≤ 2000000000) {s0 : mh_H} (hI0 : mh_I B D s0) (p1 : Int32) : mh_Mi l G (d + 0) mM_X4_fail [.ref (G.2.2.2 56), .int p1] s0 (P_X4_fail B D s0 p1) := by
  refine mh_enter (lv := [(0, .ref (G.2.2.2 56)), (1, .int p1)]) (by decide) rfl (Nat.le_of_ble_eq_true rfl) ?_
  have hF0 : mh_F S_X4_fail s0 s0 := mh_F_rf
  refine mw_aload_n 1 rfl 0 dX4_fail_0 rfl rfl ?_
  refine mw_sipush (v := -1000) 4 rfl dX4_fail_1 (by decide) ?_
  refine mw_iload_n 5 rfl 1 dX4_fail_4 rfl rfl ?_
  refine mw_imul_u 6 rfl dX4_fail_5 (fun x9 t10 => ?_)
  refine mw_aload_n 7 rfl 0 dX4_fail_6 rfl rfl ?_
  refine mw_geti 10 rfl dX4_fail_7 gf_X4_15 rfl (fun x11 t12 => ?_)
  have r_x11 : mh_r x11 (0) (220) := by rw [t12]; exact rd_56_3 hI0
  refine mw_isub_u 11 rfl dX4_fail_10 (fun x13 t14 => ?_)
  refine mw_puti 14 rfl dX4_fail_11 pf_X4_18 rfl (fun s15 t16 => ?_)
  have hI_s15 : mh_I B D s15 := by rw [t16]; exact wr_56_4 hI0
  have hF_s15 : mh_F S_X4_fail s0 s15 := by rw [t16]; exact mh_F_pI hF0 (mh_sj 0 rfl)
  refine mw_iconst (v := 0) 15 rfl dX4_fail_14 (by decide) ?_
  exact mw_zret dX4_fail_15 rfl (mh_r_wk rc_0 (by decide)) ⟨(0), rfl, ⟨rc_0, hI_s15, hF_s15⟩⟩

def P_X4_isDigit (B D : Int) (s0 : mh_H) (p0 : Int32) : Int32 → mh_H → Prop := fun z s => mh_r z (0) (1) ∧ s0 = s
set_option maxRecDepth 100000 in
set_option maxHeartbeats 4000000 in
theorem w_X4_isDigit (l : Launch) (G : mh_G) (d : Nat) {B D : Int} (hB : B ≤ 2000000000 ∧ D ≤ 2000000000) {s0 : mh_H} (hI0 : mh_I B D s0) (p0 : Int32) : mh_Mi l G (d + 0) mM_X4_isDigit [.int p0] s0 (P_X4_isDigit B D s0 p0) := by
  refine mh_enter (lv := [(0, .int p0)]) (by decide) rfl (Nat.le_of_ble_eq_true rfl) ?_
  refine mw_iload_n 1 rfl 0 dX4_isDigit_0 rfl rfl ?_
  refine mw_bipush (v := 48) 3 rfl dX4_isDigit_1 (by decide) ?_
  refine mw_icmp_lt 6 rfl 16 dX4_isDigit_3 (by decide) (fun c3 => ?_) (fun c3 => ?_)
  · skip
    have r_p0 : mh_r p0 (-2147483648) (47) := mh_lt1 c3 (mh_r_full p0) rc_48 (47) (by decide)
    refine mw_iconst (v := 0) 17 rfl dX4_isDigit_16 (by decide) ?_
    exact mw_zret dX4_isDigit_17 rfl (mh_r_wk rc_0 (by decide)) ⟨(0), rfl, ⟨(mh_r_wk rc_0 (by decide)), rfl⟩⟩
  · skip
    have r_p0 : mh_r p0 (48) (2147483647) := mh_le2 c3 rc_48 (mh_r_full p0) (48) (by decide)
    refine mw_iload_n 7 rfl 0 dX4_isDigit_6 rfl rfl ?_
    refine mw_bipush (v := 57) 9 rfl dX4_isDigit_7 (by decide) ?_
    refine mw_icmp_gt 12 rfl 16 dX4_isDigit_9 (by decide) (fun c4 => ?_) (fun c4 => ?_)
    · skip
      have r_p0 : mh_r p0 (58) (2147483647) := mh_lt2 c4 rc_57 r_p0 (58) (by decide)
      refine mw_iconst (v := 0) 17 rfl dX4_isDigit_16 (by decide) ?_
      exact mw_zret dX4_isDigit_17 rfl (mh_r_wk rc_0 (by decide)) ⟨(0), rfl, ⟨(mh_r_wk rc_0 (by decide)), rfl⟩⟩
    · skip
      have r_p0 : mh_r p0 (48) (57) := mh_le1 c4 r_p0 rc_57 (57) (by decide)
      refine mw_iconst (v := 1) 13 rfl dX4_isDigit_12 (by decide) ?_
      refine mw_goto 16 rfl 17 dX4_isDigit_13 (by decide) ?_
      exact mw_zret dX4_isDigit_17 rfl (mh_r_wk rc_1 (by decide)) ⟨(1), rfl, ⟨(mh_r_wk rc_1 (by decide)), rfl⟩⟩

def S_X4_take : List (Nat × Nat) := [(56, 3), (56, 4)]
def P_X4_take (B D : Int) (s0 : mh_H) (p1 : Int32) : Int32 → mh_H → Prop := fun z s => mh_r z (0) (1) ∧ ((s0.1 56 3).toInt ≤ (s.1 56 3).toInt) ∧ mh_I B D s ∧ mh_F S_X4_take s0 s
set_option maxRecDepth 100000 in
set_option maxHeartbeats 4000000 in
theorem w_X4_take (l : Launch) (G : mh_G) (d : Nat) {B D : Int} (hB : B ≤ 1980000000 ∧ D ≤ 1980000000) {s0 : mh_H} (hI0 : mh_I B D s0) (p1 : Int32) (r_p1 : mh_r p1 (0) (255)) : mh_Mi l G (d + 1) mM_X4_take [.ref (G.2.2.2 56), .int p1] s0 (P_X4_take B D s0 p1) := by
  refine mh_enter (lv := [(0, .ref (G.2.2.2 56)), (1, .int p1)]) (by decide) rfl (Nat.le_of_ble_eq_true rfl) ?_
  have hF0 : mh_F S_X4_take s0 s0 := mh_F_rf
  obtain ⟨x18, t19⟩ : ∃ z : Int32, z = s0.1 56 2 := ⟨_, rfl⟩
  have r_x18 : mh_r x18 0 220 := by rw [t19]; exact rd_56_2 hI0
  obtain ⟨x20, t21⟩ : ∃ z : Int32, z = s0.1 56 3 := ⟨_, rfl⟩
  have r_x20 : mh_r x20 0 220 := by rw [t21]; exact rd_56_3 hI0
  refine mw_aload_n 1 rfl 0 dX4_take_0 rfl rfl ?_
  refine mw_callVi [] [] 4 rfl dX4_take_1 ml_X4_51 mc_X4_sign mk_X4_sign rfl rfl (by decide) (w_X4_sign l G (d + 0) ⟨by omega, by omega⟩ hI0) rfl rfl (Nat.le_of_ble_eq_true rfl) (mh_rok (by omega) (by decide)) (fun x22 s23 q24 => ?_)
  obtain ⟨r_x22, e0_s23, rfl⟩ := q24
  have hq_x22 : 0 ≤ x22.toInt → x20.toInt < x18.toInt := by have h9 := e0_s23; rw [← t21, ← t19] at h9; exact h9
  refine mw_iload_n 5 rfl 1 dX4_take_4 rfl rfl ?_
  refine mw_icmp_eq 8 rfl 14 dX4_take_5 (by decide) (fun c25 => ?_) (fun c25 => ?_)
  · skip
    have r_x22 : mh_r x22 (0) (255) := mh_eq1 c25 r_x22 r_p1 (0) (255) (by decide)
    refine mw_aload_n 15 rfl 0 dX4_take_14 rfl rfl ?_
    refine mw_dup 16 rfl dX4_take_15 rfl ?_
    refine mw_geti 19 rfl dX4_take_16 gf_X4_15 rfl (fun x26 t27 => ?_)
    obtain rfl : x20 = x26 := t21.trans t27.symm
    have r_x20 : mh_r x20 (0) (219) := ⟨(r_x20).1, by have := congrArg Int32.toInt t19; have := congrArg Int32.toInt t21; have := (r_p1).1; have := (r_p1).2; have := (r_x20).1; have := (r_x20).2; have := (r_x18).1; have := (r_x18).2; have := kc_0; have := kc_1; omega⟩
    refine mw_iconst (v := 1) 20 rfl dX4_take_19 (by decide) ?_
    refine mw_iadd 21 rfl (1) (220) dX4_take_20 r_x20 rc_1 (by decide) (fun x28 t29 r_x28 => ?_)
    refine mw_puti 24 rfl dX4_take_21 pf_X4_15 rfl (fun s30 t31 => ?_)
    have hI_s30 : mh_I B D s30 := by rw [t31]; exact wr_56_3 hI0 (mh_r_wk r_x28 (by decide))
    have hF_s30 : mh_F S_X4_take s0 s30 := by rw [t31]; exact mh_F_pI hF0 (mh_sj 0 rfl)
    refine mw_iconst (v := 1) 25 rfl dX4_take_24 (by decide) ?_
    refine mw_zret dX4_take_25 rfl (mh_r_wk rc_1 (by decide)) ⟨(1), rfl, ⟨(mh_r_wk rc_1 (by decide)), ?_, hI_s30, hF_s30⟩⟩
    · skip
      have t32 : x18 = s30.1 56 2 := by rw [t31]; exact (t19).trans (mh_pI_n (by omega)).symm
      have t33 : x28 = s30.1 56 3 := by rw [t31]; exact mh_pI_s.symm
      have := congrArg Int32.toInt t19
      have := congrArg Int32.toInt t21
      have := congrArg Int32.toInt t32
      have := congrArg Int32.toInt t33
      have := (r_p1).1; have := (r_p1).2
      have := (rc_1).1; have := (rc_1).2
      have := (r_x18).1; have := (r_x18).2
      have := (r_x20).1; have := (r_x20).2
      have := (r_x28).1; have := (r_x28).2
      have := kc_0
      have := kc_1
      omega
  · skip
    refine mw_aload_n 9 rfl 0 dX4_take_8 rfl rfl ?_
    refine mw_iconst (v := 1) 10 rfl dX4_take_9 (by decide) ?_
    refine mw_callVi [.int (1)] [] 13 rfl dX4_take_10 ml_X4_55 mc_X4_fail mk_X4_fail rfl rfl (by decide) (w_X4_fail l G (d + 0) ⟨by omega, by omega⟩ hI0 (1)) rfl rfl (Nat.le_of_ble_eq_true rfl) (mh_rok (by omega) (by decide)) (fun x34 s35 q36 => ?_)
    obtain ⟨r_x34, hI_s35, hG_s35⟩ := q36
    have hF_s35 : mh_F S_X4_take s0 s35 := mh_F_tl hF0 hG_s35 (by decide +kernel)
    have t37 : x18 = s35.1 56 2 := (t19).trans (hG_s35 56 2 (mh_nsI (by rfl))).1.symm
    have t38 : x20 = s35.1 56 3 := (t21).trans (hG_s35 56 3 (mh_nsI (by rfl))).1.symm
    refine mw_zret dX4_take_13 rfl (mh_r_wk r_x34 (by decide)) ⟨x34, rfl, ⟨(mh_r_wk r_x34 (by decide)), ?_, hI_s35, hF_s35⟩⟩
    · skip
      have := congrArg Int32.toInt t19
      have := congrArg Int32.toInt t21
      have := congrArg Int32.toInt t37
      have := congrArg Int32.toInt t38
      have := (r_p1).1; have := (r_p1).2
      have := (r_x34).1; have := (r_x34).2
      have := (r_x18).1; have := (r_x18).2
      have := (r_x20).1; have := (r_x20).2
      have := kc_0
      have := kc_1
      omega

def S_X4_readNumber : List (Nat × Nat) := [(56, 3), (41, 9999), (49, 9999), (40, 8), (48, 8), (56, 4)]
def P_X4_readNumber (B D : Int) (s0 : mh_H) : Int32 → mh_H → Prop := fun z s => mh_r z (0) (1) ∧ ((s0.1 56 3).toInt ≤ (s.1 56 3).toInt) ∧ mh_I B D s ∧ mh_F S_X4_readNumber s0 s
set_option maxRecDepth 100000 in
set_option maxHeartbeats 4000000 in
theorem w_X4_readNumber (l : Launch) (G : mh_G) (d : Nat) {B D : Int} (hB : B ≤ 1980000000 ∧ D ≤ 1980000000) {s0 : mh_H} (hI0 : mh_I B D s0) : mh_Mi l G (d + 1) mM_X4_readNumber [.ref (G.2.2.2 56)] s0 (P_X4_readNumber B D s0) := by
  refine mh_enter (lv := [(0, .ref (G.2.2.2 56))]) (by decide) rfl (Nat.le_of_ble_eq_true rfl) ?_
  have hF0 : mh_F S_X4_readNumber s0 s0 := mh_F_rf
  obtain ⟨x280, t281⟩ : ∃ z : Int32, z = s0.1 56 2 := ⟨_, rfl⟩
  have r_x280 : mh_r x280 0 220 := by rw [t281]; exact rd_56_2 hI0
  obtain ⟨x282, t283⟩ : ∃ z : Int32, z = s0.1 56 3 := ⟨_, rfl⟩
  have r_x282 : mh_r x282 0 220 := by rw [t283]; exact rd_56_3 hI0
  refine mw_iconst (v := 0) 1 rfl dX4_readNumber_0 (by decide) ?_
  refine mw_istore_n 2 rfl [(1, .int (0)), (0, .ref (G.2.2.2 56))] dX4_readNumber_1 rfl (by decide) rfl ?_
  refine mw_iconst (v := 0) 3 rfl dX4_readNumber_2 (by decide) ?_
  refine mw_istore_n 4 rfl [(2, .int (0)), (1, .int (0)), (0, .ref (G.2.2.2 56))] dX4_readNumber_3 rfl (by decide) rfl ?_
  have L4 : ∀ n1 : Nat, ∀ (x462 : Int32) (x463 : Int32) (s464 : mh_H), mh_r x462 (0) (5) → mh_I B D s464 → mh_F S_X4_readNumber s0 s464 → ((s0.1 56 3).toInt ≤ (s464.1 56 3).toInt) → (5) - x462.toInt < (n1 : Int) → mh_W G (mh_XM l G (d + 1) (mh_Qi (P_X4_readNumber B D s0))) mM_X4_readNumber 4 [(0, .ref (G.2.2.2 56)), (1, .int x463), (2, .int x462)] [] s464 := by
    intro n1
    induction n1 with
    | zero =>
      intro x462 x463 s464 r_x462 hI_s464 hF_s464 iv hmn1
      exact absurd hmn1 (by have := r_x462.1; have := r_x462.2; omega)
    | succ n1 ihn1 =>
      intro x462 x463 s464 r_x462 hI_s464 hF_s464 iv hmn1
      obtain ⟨x502, t503⟩ : ∃ z : Int32, z = s464.1 56 2 := ⟨_, rfl⟩
      have r_x502 : mh_r x502 0 220 := by rw [t503]; exact rd_56_2 hI_s464
      obtain ⟨x504, t505⟩ : ∃ z : Int32, z = s464.1 56 3 := ⟨_, rfl⟩
      have r_x504 : mh_r x504 0 220 := by rw [t505]; exact rd_56_3 hI_s464
      refine mw_aload_n 5 rfl 0 dX4_readNumber_4 rfl rfl ?_
      refine mw_geti 8 rfl dX4_readNumber_5 gf_X4_15 rfl (fun x506 t507 => ?_)
      obtain rfl : x504 = x506 := t505.trans t507.symm
      refine mw_aload_n 9 rfl 0 dX4_readNumber_8 rfl rfl ?_
      refine mw_geti 12 rfl dX4_readNumber_9 gf_X4_9 rfl (fun x508 t509 => ?_)
      obtain rfl : x502 = x508 := t503.trans t509.symm
      refine mw_icmp_ge 15 rfl 65 dX4_readNumber_12 (by decide) (fun c510 => ?_) (fun c510 => ?_)
      · skip
        refine mw_aload_n 66 rfl 0 dX4_readNumber_65 rfl rfl ?_
        obtain ⟨k512, t511⟩ : ∃ y : Nat, s464.2.2 56 1 = y := ⟨_, rfl⟩
        have hk512 : mh_isL k512 := by rw [← t511]; exact hI_s464.2.1.2.2.2
        refine mw_geta 69 rfl dX4_readNumber_66 gf_X4_25 rfl k512 t511 ?_
        refine mw_bipush (v := 13) 71 rfl dX4_readNumber_69 (by decide) ?_
        refine mw_callVv [.int (13)] [] 74 rfl dX4_readNumber_71 ml_X4_95 mc_X1_put mk_X1_put (ly_L hk512) rfl (by decide) (w_X1_put l G (d + 0) ⟨by omega, by omega⟩ hI_s464 k512 hk512 (13)) rfl rfl (Nat.le_of_ble_eq_true rfl) (mh_rok (by omega) (by decide)) (fun s514 q515 => ?_)
        obtain ⟨hI_s514, hG_s514⟩ := q515
        have hF_s514 : mh_F S_X4_readNumber s0 s514 := mh_F_tl hF_s464 hG_s514 (by rcases hk512 with rfl | rfl <;> decide +kernel)
        have t516 : x502 = s514.1 56 2 := (t503).trans (hG_s514 56 2 (mh_nsI (by rcases hk512 with rfl | rfl <;> rfl))).1.symm
        have t517 : x504 = s514.1 56 3 := (t505).trans (hG_s514 56 3 (mh_nsI (by rcases hk512 with rfl | rfl <;> rfl))).1.symm
        refine mw_aload_n 75 rfl 0 dX4_readNumber_74 rfl rfl ?_
        obtain ⟨k519, t518⟩ : ∃ y : Nat, s514.2.2 56 1 = y := ⟨_, rfl⟩
        have hk519 : mh_isL k519 := by rw [← t518]; exact hI_s514.2.1.2.2.2
        refine mw_geta 78 rfl dX4_readNumber_75 gf_X4_25 rfl k519 t518 ?_
        refine mw_iload_n 79 rfl 1 dX4_readNumber_78 rfl rfl ?_
        refine mw_callVv [.int x463] [] 82 rfl dX4_readNumber_79 ml_X4_95 mc_X1_put mk_X1_put (ly_L hk519) rfl (by decide) (w_X1_put l G (d + 0) ⟨by omega, by omega⟩ hI_s514 k519 hk519 x463) rfl rfl (Nat.le_of_ble_eq_true rfl) (mh_rok (by omega) (by decide)) (fun s521 q522 => ?_)
        obtain ⟨hI_s521, hG_s521⟩ := q522
        have hF_s521 : mh_F S_X4_readNumber s0 s521 := mh_F_tl hF_s514 hG_s521 (by rcases hk519 with rfl | rfl <;> decide +kernel)
        have t523 : x502 = s521.1 56 2 := (t516).trans (hG_s521 56 2 (mh_nsI (by rcases hk519 with rfl | rfl <;> rfl))).1.symm
        have t524 : x504 = s521.1 56 3 := (t517).trans (hG_s521 56 3 (mh_nsI (by rcases hk519 with rfl | rfl <;> rfl))).1.symm
        refine mw_iconst (v := 1) 83 rfl dX4_readNumber_82 (by decide) ?_
        refine mw_zret dX4_readNumber_83 rfl (mh_r_wk rc_1 (by decide)) ⟨(1), rfl, ⟨(mh_r_wk rc_1 (by decide)), ?_, hI_s521, hF_s521⟩⟩
        · skip
          have := congrArg Int32.toInt t281
          have := congrArg Int32.toInt t283
          have := congrArg Int32.toInt t503
          have := congrArg Int32.toInt t505
          have := congrArg Int32.toInt t516
          have := congrArg Int32.toInt t517
          have := congrArg Int32.toInt t523
          have := congrArg Int32.toInt t524
          have := (r_x462).1; have := (r_x462).2
          have := (rc_1).1; have := (rc_1).2
          have := (r_x280).1; have := (r_x280).2
          have := (r_x282).1; have := (r_x282).2
          have := (r_x502).1; have := (r_x502).2
          have := (r_x504).1; have := (r_x504).2
          have := kc_0
          have := kc_1
          have := kc_2
          have := kc_5
          have := kc_10
          have := kc_13
          have := kc_48
          omega
      · skip
        have r_x504 : mh_r x504 (0) (219) := mh_lt1 c510 r_x504 r_x502 (219) (by decide)
        have r_x502 : mh_r x502 (1) (220) := mh_lt2 c510 r_x504 r_x502 (1) (by decide)
        refine mw_aload_n 16 rfl 0 dX4_readNumber_15 rfl rfl ?_
        refine mw_callVi [] [] 19 rfl dX4_readNumber_16 ml_X4_51 mc_X4_sign mk_X4_sign rfl rfl (by decide) (w_X4_sign l G (d + 0) ⟨by omega, by omega⟩ hI_s464) rfl rfl (Nat.le_of_ble_eq_true rfl) (mh_rok (by omega) (by decide)) (fun x525 s526 q527 => ?_)
        obtain ⟨r_x525, e0_s526, rfl⟩ := q527
        have hq_x525 : 0 ≤ x525.toInt → x504.toInt < x502.toInt := by have h9 := e0_s526; rw [← t505, ← t503] at h9; exact h9
        refine mw_callSi [.int x525] [] 22 rfl dX4_readNumber_19 ml_X4_104 mc_X4_isDigit mk_X4_isDigit (w_X4_isDigit l G (d + 0) ⟨by omega, by omega⟩ hI_s464 x525) rfl rfl (Nat.le_of_ble_eq_true rfl) (mh_rok (by omega) (by decide)) (fun x528 s529 q530 => ?_)
        obtain ⟨r_x528, rfl⟩ := q530
        refine mw_if_eq 25 rfl 65 dX4_readNumber_22 (by decide) (fun c531 => ?_) (fun c531 => ?_)
        · skip
          have r_x528 : mh_r x528 (0) (0) := mh_eq1 (show x528.toInt = (0 : Int32).toInt from c531) r_x528 rc_0 (0) (0) (by decide)
          refine mw_aload_n 66 rfl 0 dX4_readNumber_65 rfl rfl ?_
          obtain ⟨k533, t532⟩ : ∃ y : Nat, s464.2.2 56 1 = y := ⟨_, rfl⟩
          have hk533 : mh_isL k533 := by rw [← t532]; exact hI_s464.2.1.2.2.2
          refine mw_geta 69 rfl dX4_readNumber_66 gf_X4_25 rfl k533 t532 ?_
          refine mw_bipush (v := 13) 71 rfl dX4_readNumber_69 (by decide) ?_
          refine mw_callVv [.int (13)] [] 74 rfl dX4_readNumber_71 ml_X4_95 mc_X1_put mk_X1_put (ly_L hk533) rfl (by decide) (w_X1_put l G (d + 0) ⟨by omega, by omega⟩ hI_s464 k533 hk533 (13)) rfl rfl (Nat.le_of_ble_eq_true rfl) (mh_rok (by omega) (by decide)) (fun s535 q536 => ?_)
          obtain ⟨hI_s535, hG_s535⟩ := q536
          have hF_s535 : mh_F S_X4_readNumber s0 s535 := mh_F_tl hF_s464 hG_s535 (by rcases hk533 with rfl | rfl <;> decide +kernel)
          have t537 : x502 = s535.1 56 2 := (t503).trans (hG_s535 56 2 (mh_nsI (by rcases hk533 with rfl | rfl <;> rfl))).1.symm
          have t538 : x504 = s535.1 56 3 := (t505).trans (hG_s535 56 3 (mh_nsI (by rcases hk533 with rfl | rfl <;> rfl))).1.symm
          refine mw_aload_n 75 rfl 0 dX4_readNumber_74 rfl rfl ?_
          obtain ⟨k540, t539⟩ : ∃ y : Nat, s535.2.2 56 1 = y := ⟨_, rfl⟩
          have hk540 : mh_isL k540 := by rw [← t539]; exact hI_s535.2.1.2.2.2
          refine mw_geta 78 rfl dX4_readNumber_75 gf_X4_25 rfl k540 t539 ?_
          refine mw_iload_n 79 rfl 1 dX4_readNumber_78 rfl rfl ?_
          refine mw_callVv [.int x463] [] 82 rfl dX4_readNumber_79 ml_X4_95 mc_X1_put mk_X1_put (ly_L hk540) rfl (by decide) (w_X1_put l G (d + 0) ⟨by omega, by omega⟩ hI_s535 k540 hk540 x463) rfl rfl (Nat.le_of_ble_eq_true rfl) (mh_rok (by omega) (by decide)) (fun s542 q543 => ?_)
          obtain ⟨hI_s542, hG_s542⟩ := q543
          have hF_s542 : mh_F S_X4_readNumber s0 s542 := mh_F_tl hF_s535 hG_s542 (by rcases hk540 with rfl | rfl <;> decide +kernel)
          have t544 : x502 = s542.1 56 2 := (t537).trans (hG_s542 56 2 (mh_nsI (by rcases hk540 with rfl | rfl <;> rfl))).1.symm
          have t545 : x504 = s542.1 56 3 := (t538).trans (hG_s542 56 3 (mh_nsI (by rcases hk540 with rfl | rfl <;> rfl))).1.symm
          refine mw_iconst (v := 1) 83 rfl dX4_readNumber_82 (by decide) ?_
          refine mw_zret dX4_readNumber_83 rfl (mh_r_wk rc_1 (by decide)) ⟨(1), rfl, ⟨(mh_r_wk rc_1 (by decide)), ?_, hI_s542, hF_s542⟩⟩
          · skip
            have := congrArg Int32.toInt t281
            have := congrArg Int32.toInt t283
            have := congrArg Int32.toInt t503
            have := congrArg Int32.toInt t505
            have := congrArg Int32.toInt t537
            have := congrArg Int32.toInt t538
            have := congrArg Int32.toInt t544
            have := congrArg Int32.toInt t545
            have := (r_x462).1; have := (r_x462).2
            have := (rc_1).1; have := (rc_1).2
            have := (r_x280).1; have := (r_x280).2
            have := (r_x282).1; have := (r_x282).2
            have := (r_x502).1; have := (r_x502).2
            have := (r_x504).1; have := (r_x504).2
            have := kc_0
            have := kc_1
            have := kc_2
            have := kc_5
            have := kc_10
            have := kc_13
            have := kc_48
            omega
        · skip
          have r_x528 : mh_r x528 (1) (1) := mh_ne1 (show x528.toInt ≠ (0 : Int32).toInt from c531) r_x528 rc_0 (1) (1) (by decide)
          refine mw_iload_n 26 rfl 2 dX4_readNumber_25 rfl rfl ?_
          refine mw_iconst (v := 5) 27 rfl dX4_readNumber_26 (by decide) ?_
          refine mw_icmp_lt 30 rfl 36 dX4_readNumber_27 (by decide) (fun c546 => ?_) (fun c546 => ?_)
          · skip
            have r_x462 : mh_r x462 (0) (4) := mh_lt1 c546 r_x462 rc_5 (4) (by decide)
            refine mw_bipush (v := 10) 38 rfl dX4_readNumber_36 (by decide) ?_
            refine mw_iload_n 39 rfl 1 dX4_readNumber_38 rfl rfl ?_
            refine mw_imul_u 40 rfl dX4_readNumber_39 (fun x547 t548 => ?_)
            refine mw_aload_n 41 rfl 0 dX4_readNumber_40 rfl rfl ?_
            refine mw_callVi [] [.int x547] 44 rfl dX4_readNumber_41 ml_X4_51 mc_X4_sign mk_X4_sign rfl rfl (by decide) (w_X4_sign l G (d + 0) ⟨by omega, by omega⟩ hI_s464) rfl rfl (Nat.le_of_ble_eq_true rfl) (mh_rok (by omega) (by decide)) (fun x549 s550 q551 => ?_)
            obtain ⟨r_x549, e0_s550, rfl⟩ := q551
            have hq_x549 : 0 ≤ x549.toInt → x504.toInt < x502.toInt := by have h9 := e0_s550; rw [← t505, ← t503] at h9; exact h9
            refine mw_iadd_u 45 rfl dX4_readNumber_44 (fun x552 t553 => ?_)
            refine mw_bipush (v := 48) 47 rfl dX4_readNumber_45 (by decide) ?_
            refine mw_isub_u 48 rfl dX4_readNumber_47 (fun x554 t555 => ?_)
            refine mw_istore_n 49 rfl [(1, .int x554), (0, .ref (G.2.2.2 56)), (2, .int x462)] dX4_readNumber_48 rfl (by decide) rfl ?_
            refine mw_aload_n 50 rfl 1 dX4_readNumber_49 rfl rfl ?_
            refine mw_dup 51 rfl dX4_readNumber_50 rfl ?_
            refine mw_geti 54 rfl dX4_readNumber_51 gf_X4_15 rfl (fun x556 t557 => ?_)
            obtain rfl : x504 = x556 := t505.trans t557.symm
            refine mw_iconst (v := 1) 55 rfl dX4_readNumber_54 (by decide) ?_
            refine mw_iadd 56 rfl (1) (220) dX4_readNumber_55 r_x504 rc_1 (by decide) (fun x558 t559 r_x558 => ?_)
            refine mw_puti 59 rfl dX4_readNumber_56 pf_X4_15 rfl (fun s560 t561 => ?_)
            have hI_s560 : mh_I B D s560 := by rw [t561]; exact wr_56_3 hI_s464 (mh_r_wk r_x558 (by decide))
            have hF_s560 : mh_F S_X4_readNumber s0 s560 := by rw [t561]; exact mh_F_pI hF_s464 (mh_sj 0 rfl)
            refine mw_iincR (k := 2) (1) (5) 62 rfl (fun z => [(2, .int z), (1, .int x554), (0, .ref (G.2.2.2 56))]) dX4_readNumber_59 rfl (by decide) (fun _ => rfl) r_x462 (by decide) (by decide) (fun x562 t563 r_x562 => ?_)
            refine mw_goto 65 rfl 4 dX4_readNumber_62 (by decide) ?_
            have t564 : x502 = s560.1 56 2 := by rw [t561]; exact (t503).trans (mh_pI_n (by omega)).symm
            have t565 : x558 = s560.1 56 3 := by rw [t561]; exact mh_pI_s.symm
            exact mw_lv [2, 1, 0] rfl (ihn1 x562 x554 s560 (mh_r_wk r_x562 (by decide)) hI_s560 hF_s560 (by
                have := congrArg Int32.toInt t281
                have := congrArg Int32.toInt t283
                have := congrArg Int32.toInt t503
                have := congrArg Int32.toInt t505
                have := congrArg Int32.toInt t564
                have := congrArg Int32.toInt t565
                have := (r_x562).1; have := (r_x562).2
                have := (r_x280).1; have := (r_x280).2
                have := (r_x282).1; have := (r_x282).2
                have := (r_x502).1; have := (r_x502).2
                have := (r_x504).1; have := (r_x504).2
                have := (r_x558).1; have := (r_x558).2
                have := (rc_48).1; have := (rc_48).2
                have := (rc_1).1; have := (rc_1).2
                have := kc_0
                have := kc_1
                have := kc_2
                have := kc_5
                have := kc_10
                have := kc_13
                have := kc_48
                omega) (by have : x562.toInt = x462.toInt + (1) := t563; omega))
          · skip
            have r_x462 : mh_r x462 (5) (5) := mh_le2 c546 rc_5 r_x462 (5) (by decide)
            refine mw_aload_n 31 rfl 0 dX4_readNumber_30 rfl rfl ?_
            refine mw_iconst (v := 2) 32 rfl dX4_readNumber_31 (by decide) ?_
            refine mw_callVi [.int (2)] [] 35 rfl dX4_readNumber_32 ml_X4_55 mc_X4_fail mk_X4_fail rfl rfl (by decide) (w_X4_fail l G (d + 0) ⟨by omega, by omega⟩ hI_s464 (2)) rfl rfl (Nat.le_of_ble_eq_true rfl) (mh_rok (by omega) (by decide)) (fun x566 s567 q568 => ?_)
            obtain ⟨r_x566, hI_s567, hG_s567⟩ := q568
            have hF_s567 : mh_F S_X4_readNumber s0 s567 := mh_F_tl hF_s464 hG_s567 (by decide +kernel)
            have t569 : x502 = s567.1 56 2 := (t503).trans (hG_s567 56 2 (mh_nsI (by rfl))).1.symm
            have t570 : x504 = s567.1 56 3 := (t505).trans (hG_s567 56 3 (mh_nsI (by rfl))).1.symm
            refine mw_zret dX4_readNumber_35 rfl (mh_r_wk r_x566 (by decide)) ⟨x566, rfl, ⟨(mh_r_wk r_x566 (by decide)), ?_, hI_s567, hF_s567⟩⟩
            · skip
              have := congrArg Int32.toInt t281
              have := congrArg Int32.toInt t283
              have := congrArg Int32.toInt t503
              have := congrArg Int32.toInt t505
              have := congrArg Int32.toInt t569
              have := congrArg Int32.toInt t570
              have := (r_x462).1; have := (r_x462).2
              have := (r_x566).1; have := (r_x566).2
              have := (r_x280).1; have := (r_x280).2
              have := (r_x282).1; have := (r_x282).2
              have := (r_x502).1; have := (r_x502).2
              have := (r_x504).1; have := (r_x504).2
              have := kc_0
              have := kc_1
              have := kc_2
              have := kc_5
              have := kc_10
              have := kc_13
              have := kc_48
              omega
  exact mw_lv [2, 1, 0] rfl (L4 6 (0) (0) s0 (mh_r_wk rc_0 (by decide)) hI0 hF0 (by
      have := congrArg Int32.toInt t281
      have := congrArg Int32.toInt t283
      have := (rc_0).1; have := (rc_0).2
      have := (r_x280).1; have := (r_x280).2
      have := (r_x282).1; have := (r_x282).2
      have := kc_0
      have := kc_1
      have := kc_2
      have := kc_5
      have := kc_10
      have := kc_13
      have := kc_48
      omega) (by have := (rc_0).1; have := (rc_0).2; omega))

def S_X4_rd : List (Nat × Nat) := [(56, 3), (56, 4), (41, 9999), (49, 9999), (40, 8), (48, 8), (40, 10), (48, 10)]
def P_X4_rd (B D : Int) (s0 : mh_H) : Int32 → mh_H → Prop := fun z s => mh_r z (0) (1) ∧ ((s0.1 56 3).toInt ≤ (s.1 56 3).toInt) ∧ mh_I B D s ∧ mh_F S_X4_rd s0 s
/-- what the reader's group does where so many are open -/
def mh_RB (l : Launch) (G : mh_G) (H : Nat) (o : Int) : Prop := ∀ d : Nat, (∀ {B D : Int} (hB : B ≤ 1700000000 ∧ D ≤ 1700000000) {s0 : mh_H} (hI0 : mh_I B D s0) (p1 : Int32) (hp : p1.toInt = o), mh_Mi l G (d + H) mM_X4_readSum [.ref (G.2.2.2 56), .int p1] s0 (P_X4_rd B D s0)) ∧ (∀ {B D : Int} (hB : B ≤ 1700000000 ∧ D ≤ 1700000000) {s0 : mh_H} (hI0 : mh_I B D s0) (p1 : Int32) (hp : p1.toInt = o), mh_Mi l G (d + H) mM_X4_readChoice [.ref (G.2.2.2 56), .int p1] s0 (P_X4_rd B D s0)) ∧ (∀ {B D : Int} (hB : B ≤ 1700000000 ∧ D ≤ 1700000000) {s0 : mh_H} (hI0 : mh_I B D s0) (p1 : Int32) (hp : p1.toInt = o), mh_Mi l G (d + H) mM_X4_readPiece [.ref (G.2.2.2 56), .int p1] s0 (P_X4_rd B D s0))
set_option maxRecDepth 100000 in
set_option maxHeartbeats 4000000 in
theorem w_X4_readFactor (l : Launch) (G : mh_G) (d : Nat) {B D : Int} (hB : B ≤ 1700000000 ∧ D ≤ 1700000000) {s0 : mh_H} (hI0 : mh_I B D s0) (p1 : Int32) (r_p1 : mh_r p1 (0) (6)) (H : Nat) (ih : p1.toInt < 6 → mh_RB l G H (p1.toInt + 1)) : mh_Mi l G (d + (H + 4)) mM_X4_readFactor [.ref (G.2.2.2 56), .int p1] s0 (P_X4_rd B D s0) := by
  refine mh_enter (lv := [(0, .ref (G.2.2.2 56)), (1, .int p1)]) (by decide) rfl (Nat.le_of_ble_eq_true rfl) ?_
  have hF0 : mh_F S_X4_rd s0 s0 := mh_F_rf
  obtain ⟨x80, t81⟩ : ∃ z : Int32, z = s0.1 56 2 := ⟨_, rfl⟩
  have r_x80 : mh_r x80 0 220 := by rw [t81]; exact rd_56_2 hI0
  obtain ⟨x82, t83⟩ : ∃ z : Int32, z = s0.1 56 3 := ⟨_, rfl⟩
  have r_x82 : mh_r x82 0 220 := by rw [t83]; exact rd_56_3 hI0
  refine mw_aload_n 1 rfl 0 dX4_readFactor_0 rfl rfl ?_
  refine mw_callVi [] [] 4 rfl dX4_readFactor_1 ml_X4_51 mc_X4_sign mk_X4_sign rfl rfl (by decide) (w_X4_sign l G (d + H + 3) ⟨by omega, by omega⟩ hI0) rfl rfl (Nat.le_of_ble_eq_true rfl) (mh_rok (by omega) (by decide)) (fun x84 s85 q86 => ?_)
  obtain ⟨r_x84, e0_s85, rfl⟩ := q86
  have hq_x84 : 0 ≤ x84.toInt → x82.toInt < x80.toInt := by have h9 := e0_s85; rw [← t83, ← t81] at h9; exact h9
  refine mw_istore_n 5 rfl [(2, .int x84), (0, .ref (G.2.2.2 56)), (1, .int p1)] dX4_readFactor_4 rfl (by decide) rfl ?_
  refine mw_iload_n 6 rfl 0 dX4_readFactor_5 rfl rfl ?_
  refine mw_bipush (v := 91) 8 rfl dX4_readFactor_6 (by decide) ?_
  refine mw_icmp_ne 11 rfl 58 dX4_readFactor_8 (by decide) (fun c87 => ?_) (fun c87 => ?_)
  · skip
    refine mw_iload_n 59 rfl 0 dX4_readFactor_58 rfl rfl ?_
    refine mw_callSi [.int x84] [] 62 rfl dX4_readFactor_59 ml_X4_104 mc_X4_isDigit mk_X4_isDigit (w_X4_isDigit l G (d + H + 3) ⟨by omega, by omega⟩ hI0 x84) rfl rfl (Nat.le_of_ble_eq_true rfl) (mh_rok (by omega) (by decide)) (fun x88 s89 q90 => ?_)
    obtain ⟨r_x88, rfl⟩ := q90
    refine mw_if_eq 65 rfl 70 dX4_readFactor_62 (by decide) (fun c91 => ?_) (fun c91 => ?_)
    · skip
      have r_x88 : mh_r x88 (0) (0) := mh_eq1 (show x88.toInt = (0 : Int32).toInt from c91) r_x88 rc_0 (0) (0) (by decide)
      refine mw_iload_n 71 rfl 0 dX4_readFactor_70 rfl rfl ?_
      refine mw_if_ge 74 rfl 78 dX4_readFactor_71 (by decide) (fun c92 => ?_) (fun c92 => ?_)
      · skip
        have r_x84 : mh_r x84 (0) (255) := mh_le2 (show (0 : Int32).toInt ≤ x84.toInt from c92) rc_0 r_x84 (0) (by decide)
        refine mw_ldcS (k := 1000) (tx := "hktvcwxyndijl") 80 rfl dX4_readFactor_78 (fun _ _ _ h => h.2.2.2.1) ?_
        refine mw_iload_n 81 rfl 0 dX4_readFactor_80 rfl rfl ?_
        refine mw_i2c 82 rfl dX4_readFactor_81 (fun x93 t94 => ?_)
        have r_x93 : mh_r x93 (0) (65535) := by rw [t94]; exact mh_i2c
        refine mw_callKi (i := 0) (by decide) [.int x93] [] 85 rfl dX4_readFactor_82 ml_X4_60 mc_J0_indexOf_0f7a4 mk_J0_indexOf_0f7a4 rfl (c_indexOf l G (d + H + 0) 0 (by decide) s0 x93) rfl rfl (Nat.le_of_ble_eq_true rfl) (mh_rok (by omega) (by decide)) (fun x95 s96 q97 => ?_)
        obtain rfl := q97
        refine mw_istore_n 86 rfl [(3, .int x95), (2, .int x84), (0, .ref (G.2.2.2 56)), (1, .int p1)] dX4_readFactor_85 rfl (by decide) rfl ?_
        refine mw_iload_n 87 rfl 0 dX4_readFactor_86 rfl rfl ?_
        refine mw_if_ge 90 rfl 96 dX4_readFactor_87 (by decide) (fun c98 => ?_) (fun c98 => ?_)
        · skip
          have r_x95 : mh_r x95 (0) (2147483647) := mh_le2 (show (0 : Int32).toInt ≤ x95.toInt from c98) rc_0 (mh_r_full x95) (0) (by decide)
          refine mw_aload_n 97 rfl 2 dX4_readFactor_96 rfl rfl ?_
          refine mw_dup 98 rfl dX4_readFactor_97 rfl ?_
          refine mw_geti 101 rfl dX4_readFactor_98 gf_X4_15 rfl (fun x99 t100 => ?_)
          obtain rfl : x82 = x99 := t83.trans t100.symm
          have r_x82 : mh_r x82 (0) (219) := ⟨(r_x82).1, by have := congrArg Int32.toInt t81; have := congrArg Int32.toInt t83; have := (r_x95).1; have := (r_x95).2; have := (r_x84).1; have := (r_x84).2; have := (r_p1).1; have := (r_p1).2; have := (r_x82).1; have := (r_x82).2; have := (r_x80).1; have := (r_x80).2; have := kc_m1; have := kc_0; have := kc_1; have := kc_5; have := kc_6; have := kc_8; have := kc_91; have := kc_93; omega⟩
          refine mw_iconst (v := 1) 102 rfl dX4_readFactor_101 (by decide) ?_
          refine mw_iadd 103 rfl (1) (220) dX4_readFactor_102 r_x82 rc_1 (by decide) (fun x101 t102 r_x101 => ?_)
          refine mw_puti 106 rfl dX4_readFactor_103 pf_X4_15 rfl (fun s103 t104 => ?_)
          have hI_s103 : mh_I B D s103 := by rw [t104]; exact wr_56_3 hI0 (mh_r_wk r_x101 (by decide))
          have hF_s103 : mh_F S_X4_rd s0 s103 := by rw [t104]; exact mh_F_pI hF0 (mh_sj 0 rfl)
          refine mw_aload_n 107 rfl 2 dX4_readFactor_106 rfl rfl ?_
          obtain ⟨k106, t105⟩ : ∃ y : Nat, s103.2.2 56 1 = y := ⟨_, rfl⟩
          have hk106 : mh_isL k106 := by rw [← t105]; exact hI_s103.2.1.2.2.2
          refine mw_geta 110 rfl dX4_readFactor_107 gf_X4_25 rfl k106 t105 ?_
          refine mw_iload_n 111 rfl 0 dX4_readFactor_110 rfl rfl ?_
          have t107 : x80 = s103.1 56 2 := by rw [t104]; exact (t81).trans (mh_pI_n (by omega)).symm
          have t108 : x101 = s103.1 56 3 := by rw [t104]; exact mh_pI_s.symm
          refine mw_callVv [.int x95] [] 114 rfl dX4_readFactor_111 ml_X4_95 mc_X1_put mk_X1_put (ly_L hk106) rfl (by decide) (w_X1_put l G (d + H + 3) ⟨by omega, by omega⟩ hI_s103 k106 hk106 x95) rfl rfl (Nat.le_of_ble_eq_true rfl) (mh_rok (by omega) (by decide)) (fun s110 q111 => ?_)
          obtain ⟨hI_s110, hG_s110⟩ := q111
          have hF_s110 : mh_F S_X4_rd s0 s110 := mh_F_tl hF_s103 hG_s110 (by rcases hk106 with rfl | rfl <;> decide +kernel)
          have t112 : x80 = s110.1 56 2 := (t107).trans (hG_s110 56 2 (mh_nsI (by rcases hk106 with rfl | rfl <;> rfl))).1.symm
          have t113 : x101 = s110.1 56 3 := (t108).trans (hG_s110 56 3 (mh_nsI (by rcases hk106 with rfl | rfl <;> rfl))).1.symm
          refine mw_aload_n 115 rfl 2 dX4_readFactor_114 rfl rfl ?_
          obtain ⟨k115, t114⟩ : ∃ y : Nat, s110.2.2 56 1 = y := ⟨_, rfl⟩
          have hk115 : mh_isL k115 := by rw [← t114]; exact hI_s110.2.1.2.2.2
          refine mw_geta 118 rfl dX4_readFactor_115 gf_X4_25 rfl k115 t114 ?_
          refine mw_aload_n 119 rfl 2 dX4_readFactor_118 rfl rfl ?_
          refine mw_geta 122 rfl dX4_readFactor_119 gf_X4_25 rfl k115 t114 ?_
          refine mw_geti 125 rfl dX4_readFactor_122 gf_X4_112 (ly_L hk115) (fun x117 t118 => ?_)
          have r_x117 : mh_r x117 (0) (1) := by rw [t118]; exact rd_L_10 hI_s110 hk115
          refine mw_if_ne 128 rfl 134 dX4_readFactor_125 (by decide) (fun c119 => ?_) (fun c119 => ?_)
          · skip
            have r_x117 : mh_r x117 (1) (1) := mh_ne1 (show x117.toInt ≠ (0 : Int32).toInt from c119) r_x117 rc_0 (1) (1) (by decide)
            refine mw_iconst (v := 1) 135 rfl dX4_readFactor_134 (by decide) ?_
            refine mw_goto 138 rfl 139 dX4_readFactor_135 (by decide) ?_
            refine mw_putz 142 rfl dX4_readFactor_139 pf_X4_112 (ly_L hk115) (mh_r_wk rc_1 (by decide)) (fun s120 t121 => ?_)
            have hI_s120 : mh_I B D s120 := by rw [t121]; exact wr_L_10 hI_s110 hk115 (mh_r_wk rc_1 (by decide))
            have hF_s120 : mh_F S_X4_rd s0 s120 := by rw [t121]; exact mh_F_pI hF_s110 (mh_isL_s (o := 0) hk115 (mh_sj 6 rfl) (mh_sj 7 rfl))
            refine mw_iconst (v := 1) 143 rfl dX4_readFactor_142 (by decide) ?_
            refine mw_zret dX4_readFactor_143 rfl (mh_r_wk rc_1 (by decide)) ⟨(1), rfl, ⟨(mh_r_wk rc_1 (by decide)), ?_, hI_s120, hF_s120⟩⟩
            · skip
              have t122 : x80 = s120.1 56 2 := by rw [t121]; exact (t112).trans (mh_pI_n (by rcases hk115 with rfl | rfl <;> omega)).symm
              have t123 : x101 = s120.1 56 3 := by rw [t121]; exact (t113).trans (mh_pI_n (by rcases hk115 with rfl | rfl <;> omega)).symm
              have := congrArg Int32.toInt t81
              have := congrArg Int32.toInt t83
              have := congrArg Int32.toInt t107
              have := congrArg Int32.toInt t108
              have := congrArg Int32.toInt t112
              have := congrArg Int32.toInt t113
              have := congrArg Int32.toInt t122
              have := congrArg Int32.toInt t123
              have := (r_x95).1; have := (r_x95).2
              have := (r_x84).1; have := (r_x84).2
              have := (r_p1).1; have := (r_p1).2
              have := (rc_1).1; have := (rc_1).2
              have := (r_x80).1; have := (r_x80).2
              have := (r_x82).1; have := (r_x82).2
              have := (r_x101).1; have := (r_x101).2
              have := (r_x117).1; have := (r_x117).2
              have := kc_m1
              have := kc_0
              have := kc_1
              have := kc_5
              have := kc_6
              have := kc_8
              have := kc_91
              have := kc_93
              omega
          · skip
            have r_x117 : mh_r x117 (0) (0) := mh_eq1 (show x117.toInt = (0 : Int32).toInt from c119) r_x117 rc_0 (0) (0) (by decide)
            refine mw_iload_n 129 rfl 0 dX4_readFactor_128 rfl rfl ?_
            refine mw_bipush (v := 8) 131 rfl dX4_readFactor_129 (by decide) ?_
            refine mw_icmp_ne 134 rfl 138 dX4_readFactor_131 (by decide) (fun c124 => ?_) (fun c124 => ?_)
            · skip
              refine mw_iconst (v := 0) 139 rfl dX4_readFactor_138 (by decide) ?_
              refine mw_putz 142 rfl dX4_readFactor_139 pf_X4_112 (ly_L hk115) (mh_r_wk rc_0 (by decide)) (fun s125 t126 => ?_)
              have hI_s125 : mh_I B D s125 := by rw [t126]; exact wr_L_10 hI_s110 hk115 (mh_r_wk rc_0 (by decide))
              have hF_s125 : mh_F S_X4_rd s0 s125 := by rw [t126]; exact mh_F_pI hF_s110 (mh_isL_s (o := 0) hk115 (mh_sj 6 rfl) (mh_sj 7 rfl))
              refine mw_iconst (v := 1) 143 rfl dX4_readFactor_142 (by decide) ?_
              refine mw_zret dX4_readFactor_143 rfl (mh_r_wk rc_1 (by decide)) ⟨(1), rfl, ⟨(mh_r_wk rc_1 (by decide)), ?_, hI_s125, hF_s125⟩⟩
              · skip
                have t127 : x80 = s125.1 56 2 := by rw [t126]; exact (t112).trans (mh_pI_n (by rcases hk115 with rfl | rfl <;> omega)).symm
                have t128 : x101 = s125.1 56 3 := by rw [t126]; exact (t113).trans (mh_pI_n (by rcases hk115 with rfl | rfl <;> omega)).symm
                have := congrArg Int32.toInt t81
                have := congrArg Int32.toInt t83
                have := congrArg Int32.toInt t107
                have := congrArg Int32.toInt t108
                have := congrArg Int32.toInt t112
                have := congrArg Int32.toInt t113
                have := congrArg Int32.toInt t127
                have := congrArg Int32.toInt t128
                have := (r_x95).1; have := (r_x95).2
                have := (r_x84).1; have := (r_x84).2
                have := (r_p1).1; have := (r_p1).2
                have := (rc_1).1; have := (rc_1).2
                have := (r_x80).1; have := (r_x80).2
                have := (r_x82).1; have := (r_x82).2
                have := (r_x101).1; have := (r_x101).2
                have := (r_x117).1; have := (r_x117).2
                have := kc_m1
                have := kc_0
                have := kc_1
                have := kc_5
                have := kc_6
                have := kc_8
                have := kc_91
                have := kc_93
                omega
            · skip
              have r_x95 : mh_r x95 (8) (8) := mh_eq1 c124 r_x95 rc_8 (8) (8) (by decide)
              refine mw_iconst (v := 1) 135 rfl dX4_readFactor_134 (by decide) ?_
              refine mw_goto 138 rfl 139 dX4_readFactor_135 (by decide) ?_
              refine mw_putz 142 rfl dX4_readFactor_139 pf_X4_112 (ly_L hk115) (mh_r_wk rc_1 (by decide)) (fun s129 t130 => ?_)
              have hI_s129 : mh_I B D s129 := by rw [t130]; exact wr_L_10 hI_s110 hk115 (mh_r_wk rc_1 (by decide))
              have hF_s129 : mh_F S_X4_rd s0 s129 := by rw [t130]; exact mh_F_pI hF_s110 (mh_isL_s (o := 0) hk115 (mh_sj 6 rfl) (mh_sj 7 rfl))
              refine mw_iconst (v := 1) 143 rfl dX4_readFactor_142 (by decide) ?_
              refine mw_zret dX4_readFactor_143 rfl (mh_r_wk rc_1 (by decide)) ⟨(1), rfl, ⟨(mh_r_wk rc_1 (by decide)), ?_, hI_s129, hF_s129⟩⟩
              · skip
                have t131 : x80 = s129.1 56 2 := by rw [t130]; exact (t112).trans (mh_pI_n (by rcases hk115 with rfl | rfl <;> omega)).symm
                have t132 : x101 = s129.1 56 3 := by rw [t130]; exact (t113).trans (mh_pI_n (by rcases hk115 with rfl | rfl <;> omega)).symm
                have := congrArg Int32.toInt t81
                have := congrArg Int32.toInt t83
                have := congrArg Int32.toInt t107
                have := congrArg Int32.toInt t108
                have := congrArg Int32.toInt t112
                have := congrArg Int32.toInt t113
                have := congrArg Int32.toInt t131
                have := congrArg Int32.toInt t132
                have := (r_x95).1; have := (r_x95).2
                have := (r_x84).1; have := (r_x84).2
                have := (r_p1).1; have := (r_p1).2
                have := (rc_1).1; have := (rc_1).2
                have := (r_x80).1; have := (r_x80).2
                have := (r_x82).1; have := (r_x82).2
                have := (r_x101).1; have := (r_x101).2
                have := (r_x117).1; have := (r_x117).2
                have := kc_m1
                have := kc_0
                have := kc_1
                have := kc_5
                have := kc_6
                have := kc_8
                have := kc_91
                have := kc_93
                omega
        · skip
          have r_x95 : mh_r x95 (-2147483648) (-1) := mh_lt1 (show x95.toInt < (0 : Int32).toInt from c98) (mh_r_full x95) rc_0 (-1) (by decide)
          refine mw_aload_n 91 rfl 2 dX4_readFactor_90 rfl rfl ?_
          refine mw_iconst (v := 1) 92 rfl dX4_readFactor_91 (by decide) ?_
          refine mw_callVi [.int (1)] [] 95 rfl dX4_readFactor_92 ml_X4_55 mc_X4_fail mk_X4_fail rfl rfl (by decide) (w_X4_fail l G (d + H + 3) ⟨by omega, by omega⟩ hI0 (1)) rfl rfl (Nat.le_of_ble_eq_true rfl) (mh_rok (by omega) (by decide)) (fun x133 s134 q135 => ?_)
          obtain ⟨r_x133, hI_s134, hG_s134⟩ := q135
          have hF_s134 : mh_F S_X4_rd s0 s134 := mh_F_tl hF0 hG_s134 (by decide +kernel)
          have t136 : x80 = s134.1 56 2 := (t81).trans (hG_s134 56 2 (mh_nsI (by rfl))).1.symm
          have t137 : x82 = s134.1 56 3 := (t83).trans (hG_s134 56 3 (mh_nsI (by rfl))).1.symm
          refine mw_zret dX4_readFactor_95 rfl (mh_r_wk r_x133 (by decide)) ⟨x133, rfl, ⟨(mh_r_wk r_x133 (by decide)), ?_, hI_s134, hF_s134⟩⟩
          · skip
            have := congrArg Int32.toInt t81
            have := congrArg Int32.toInt t83
            have := congrArg Int32.toInt t136
            have := congrArg Int32.toInt t137
            have := (r_x95).1; have := (r_x95).2
            have := (r_x84).1; have := (r_x84).2
            have := (r_p1).1; have := (r_p1).2
            have := (r_x133).1; have := (r_x133).2
            have := (r_x80).1; have := (r_x80).2
            have := (r_x82).1; have := (r_x82).2
            have := kc_m1
            have := kc_0
            have := kc_1
            have := kc_5
            have := kc_6
            have := kc_8
            have := kc_91
            have := kc_93
            omega
      · skip
        have r_x84 : mh_r x84 (-1) (-1) := mh_lt1 (show x84.toInt < (0 : Int32).toInt from c92) r_x84 rc_0 (-1) (by decide)
        refine mw_iconst (v := -1) 75 rfl dX4_readFactor_74 (by decide) ?_
        refine mw_goto 78 rfl 85 dX4_readFactor_75 (by decide) ?_
        refine mw_istore_n 86 rfl [(3, .int (-1)), (2, .int x84), (0, .ref (G.2.2.2 56)), (1, .int p1)] dX4_readFactor_85 rfl (by decide) rfl ?_
        refine mw_iload_n 87 rfl 0 dX4_readFactor_86 rfl rfl ?_
        refine mw_if_ge 90 rfl 96 dX4_readFactor_87 (by decide) (fun c138 => ?_) (fun c138 => ?_)
        · skip
          exact (mh_nle (show (0 : Int32).toInt ≤ (-1 : Int32).toInt from c138) rc_0 rc_m1 (by decide)).elim
        · skip
          refine mw_aload_n 91 rfl 2 dX4_readFactor_90 rfl rfl ?_
          refine mw_iconst (v := 1) 92 rfl dX4_readFactor_91 (by decide) ?_
          refine mw_callVi [.int (1)] [] 95 rfl dX4_readFactor_92 ml_X4_55 mc_X4_fail mk_X4_fail rfl rfl (by decide) (w_X4_fail l G (d + H + 3) ⟨by omega, by omega⟩ hI0 (1)) rfl rfl (Nat.le_of_ble_eq_true rfl) (mh_rok (by omega) (by decide)) (fun x139 s140 q141 => ?_)
          obtain ⟨r_x139, hI_s140, hG_s140⟩ := q141
          have hF_s140 : mh_F S_X4_rd s0 s140 := mh_F_tl hF0 hG_s140 (by decide +kernel)
          have t142 : x80 = s140.1 56 2 := (t81).trans (hG_s140 56 2 (mh_nsI (by rfl))).1.symm
          have t143 : x82 = s140.1 56 3 := (t83).trans (hG_s140 56 3 (mh_nsI (by rfl))).1.symm
          refine mw_zret dX4_readFactor_95 rfl (mh_r_wk r_x139 (by decide)) ⟨x139, rfl, ⟨(mh_r_wk r_x139 (by decide)), ?_, hI_s140, hF_s140⟩⟩
          · skip
            have := congrArg Int32.toInt t81
            have := congrArg Int32.toInt t83
            have := congrArg Int32.toInt t142
            have := congrArg Int32.toInt t143
            have := (rc_m1).1; have := (rc_m1).2
            have := (r_x84).1; have := (r_x84).2
            have := (r_p1).1; have := (r_p1).2
            have := (r_x139).1; have := (r_x139).2
            have := (r_x80).1; have := (r_x80).2
            have := (r_x82).1; have := (r_x82).2
            have := kc_m1
            have := kc_0
            have := kc_1
            have := kc_5
            have := kc_6
            have := kc_8
            have := kc_91
            have := kc_93
            omega
    · skip
      have r_x88 : mh_r x88 (1) (1) := mh_ne1 (show x88.toInt ≠ (0 : Int32).toInt from c91) r_x88 rc_0 (1) (1) (by decide)
      refine mw_aload_n 66 rfl 1 dX4_readFactor_65 rfl rfl ?_
      refine mw_callVi [] [] 69 rfl dX4_readFactor_66 ml_X4_107 mc_X4_readNumber mk_X4_readNumber rfl rfl (by decide) (w_X4_readNumber l G (d + H + 2) ⟨by omega, by omega⟩ hI0) rfl rfl (Nat.le_of_ble_eq_true rfl) (mh_rok (by omega) (by decide)) (fun x144 s145 q146 => ?_)
      obtain ⟨r_x144, e0_s145, hI_s145, hG_s145⟩ := q146
      have hF_s145 : mh_F S_X4_rd s0 s145 := mh_F_tl hF0 hG_s145 (by decide +kernel)
      have t147 : x80 = s145.1 56 2 := (t81).trans (hG_s145 56 2 (mh_nsI (by rfl))).1.symm
      obtain ⟨x148, t149⟩ : ∃ z : Int32, z = s145.1 56 3 := ⟨_, rfl⟩
      have r_x148 : mh_r x148 0 220 := by rw [t149]; exact rd_56_3 hI_s145
      refine mw_zret dX4_readFactor_69 rfl r_x144 ⟨x144, rfl, ⟨r_x144, ?_, hI_s145, hF_s145⟩⟩
      · skip
        have := congrArg Int32.toInt t81
        have := congrArg Int32.toInt t83
        have := congrArg Int32.toInt t147
        have := congrArg Int32.toInt t149
        have := (r_x84).1; have := (r_x84).2
        have := (r_p1).1; have := (r_p1).2
        have := (r_x144).1; have := (r_x144).2
        have := (r_x80).1; have := (r_x80).2
        have := (r_x82).1; have := (r_x82).2
        have := (r_x148).1; have := (r_x148).2
        have := kc_m1
        have := kc_0
        have := kc_1
        have := kc_5
        have := kc_6
        have := kc_8
        have := kc_91
        have := kc_93
        omega
  · skip
    have r_x84 : mh_r x84 (91) (91) := mh_eq1 c87 r_x84 rc_91 (91) (91) (by decide)
    refine mw_iload_n 12 rfl 2 dX4_readFactor_11 rfl rfl ?_
    refine mw_bipush (v := 6) 14 rfl dX4_readFactor_12 (by decide) ?_
    refine mw_icmp_lt 17 rfl 23 dX4_readFactor_14 (by decide) (fun c150 => ?_) (fun c150 => ?_)
    · skip
      have r_p1 : mh_r p1 (0) (5) := mh_lt1 c150 r_p1 rc_6 (5) (by decide)
      refine mw_aload_n 24 rfl 1 dX4_readFactor_23 rfl rfl ?_
      refine mw_dup 25 rfl dX4_readFactor_24 rfl ?_
      refine mw_geti 28 rfl dX4_readFactor_25 gf_X4_15 rfl (fun x151 t152 => ?_)
      obtain rfl : x82 = x151 := t83.trans t152.symm
      have r_x82 : mh_r x82 (0) (219) := ⟨(r_x82).1, by have := congrArg Int32.toInt t81; have := congrArg Int32.toInt t83; have := (r_x84).1; have := (r_x84).2; have := (r_p1).1; have := (r_p1).2; have := (r_x82).1; have := (r_x82).2; have := (r_x80).1; have := (r_x80).2; have := kc_m1; have := kc_0; have := kc_1; have := kc_5; have := kc_6; have := kc_8; have := kc_91; have := kc_93; omega⟩
      refine mw_iconst (v := 1) 29 rfl dX4_readFactor_28 (by decide) ?_
      refine mw_iadd 30 rfl (1) (220) dX4_readFactor_29 r_x82 rc_1 (by decide) (fun x153 t154 r_x153 => ?_)
      refine mw_puti 33 rfl dX4_readFactor_30 pf_X4_15 rfl (fun s155 t156 => ?_)
      have hI_s155 : mh_I B D s155 := by rw [t156]; exact wr_56_3 hI0 (mh_r_wk r_x153 (by decide))
      have hF_s155 : mh_F S_X4_rd s0 s155 := by rw [t156]; exact mh_F_pI hF0 (mh_sj 0 rfl)
      refine mw_aload_n 34 rfl 1 dX4_readFactor_33 rfl rfl ?_
      refine mw_iload_n 35 rfl 2 dX4_readFactor_34 rfl rfl ?_
      refine mw_iconst (v := 1) 36 rfl dX4_readFactor_35 (by decide) ?_
      refine mw_iadd 37 rfl (1) (6) dX4_readFactor_36 r_p1 rc_1 (by decide) (fun x157 t158 r_x157 => ?_)
      have t159 : x80 = s155.1 56 2 := by rw [t156]; exact (t81).trans (mh_pI_n (by omega)).symm
      have t160 : x153 = s155.1 56 3 := by rw [t156]; exact mh_pI_s.symm
      refine mw_callVi [.int x157] [] 40 rfl dX4_readFactor_37 ml_X4_69 mc_X4_readSum mk_X4_readSum rfl rfl (by decide) (((ih (by have := (r_p1).2; omega)) (d + 3)).1 hB hI_s155 x157 (by have := kc_1; omega)) rfl rfl (Nat.le_of_ble_eq_true rfl) (mh_rok (by omega) (by decide)) (fun x161 s162 q163 => ?_)
      obtain ⟨r_x161, e0_s162, hI_s162, hG_s162⟩ := q163
      have hF_s162 : mh_F S_X4_rd s0 s162 := mh_F_tl hF_s155 hG_s162 (by decide +kernel)
      have t164 : x80 = s162.1 56 2 := (t159).trans (hG_s162 56 2 (mh_nsI (by rfl))).1.symm
      obtain ⟨x165, t166⟩ : ∃ z : Int32, z = s162.1 56 3 := ⟨_, rfl⟩
      have r_x165 : mh_r x165 0 220 := by rw [t166]; exact rd_56_3 hI_s162
      refine mw_if_eq 43 rfl 56 dX4_readFactor_40 (by decide) (fun c167 => ?_) (fun c167 => ?_)
      · skip
        have r_x161 : mh_r x161 (0) (0) := mh_eq1 (show x161.toInt = (0 : Int32).toInt from c167) r_x161 rc_0 (0) (0) (by decide)
        refine mw_iconst (v := 0) 57 rfl dX4_readFactor_56 (by decide) ?_
        refine mw_zret dX4_readFactor_57 rfl (mh_r_wk rc_0 (by decide)) ⟨(0), rfl, ⟨(mh_r_wk rc_0 (by decide)), ?_, hI_s162, hF_s162⟩⟩
        · skip
          have := congrArg Int32.toInt t81
          have := congrArg Int32.toInt t83
          have := congrArg Int32.toInt t159
          have := congrArg Int32.toInt t160
          have := congrArg Int32.toInt t164
          have := congrArg Int32.toInt t166
          have := (r_x84).1; have := (r_x84).2
          have := (r_p1).1; have := (r_p1).2
          have := (rc_0).1; have := (rc_0).2
          have := (r_x80).1; have := (r_x80).2
          have := (r_x82).1; have := (r_x82).2
          have := (r_x153).1; have := (r_x153).2
          have := (r_x165).1; have := (r_x165).2
          have := (rc_1).1; have := (rc_1).2
          have := kc_m1
          have := kc_0
          have := kc_1
          have := kc_5
          have := kc_6
          have := kc_8
          have := kc_91
          have := kc_93
          omega
      · skip
        have r_x161 : mh_r x161 (1) (1) := mh_ne1 (show x161.toInt ≠ (0 : Int32).toInt from c167) r_x161 rc_0 (1) (1) (by decide)
        refine mw_aload_n 44 rfl 1 dX4_readFactor_43 rfl rfl ?_
        refine mw_bipush (v := 93) 46 rfl dX4_readFactor_44 (by decide) ?_
        refine mw_callVi [.int (93)] [] 49 rfl dX4_readFactor_46 ml_X4_47 mc_X4_take mk_X4_take rfl rfl (by decide) (w_X4_take l G (d + H + 2) ⟨by omega, by omega⟩ hI_s162 (93) (mh_r_wk rc_93 (by decide))) rfl rfl (Nat.le_of_ble_eq_true rfl) (mh_rok (by omega) (by decide)) (fun x168 s169 q170 => ?_)
        obtain ⟨r_x168, e0_s169, hI_s169, hG_s169⟩ := q170
        have hF_s169 : mh_F S_X4_rd s0 s169 := mh_F_tl hF_s162 hG_s169 (by decide +kernel)
        have t171 : x80 = s169.1 56 2 := (t164).trans (hG_s169 56 2 (mh_nsI (by rfl))).1.symm
        obtain ⟨x172, t173⟩ : ∃ z : Int32, z = s169.1 56 3 := ⟨_, rfl⟩
        have r_x172 : mh_r x172 0 220 := by rw [t173]; exact rd_56_3 hI_s169
        refine mw_if_eq 52 rfl 56 dX4_readFactor_49 (by decide) (fun c174 => ?_) (fun c174 => ?_)
        · skip
          have r_x168 : mh_r x168 (0) (0) := mh_eq1 (show x168.toInt = (0 : Int32).toInt from c174) r_x168 rc_0 (0) (0) (by decide)
          refine mw_iconst (v := 0) 57 rfl dX4_readFactor_56 (by decide) ?_
          refine mw_zret dX4_readFactor_57 rfl (mh_r_wk rc_0 (by decide)) ⟨(0), rfl, ⟨(mh_r_wk rc_0 (by decide)), ?_, hI_s169, hF_s169⟩⟩
          · skip
            have := congrArg Int32.toInt t81
            have := congrArg Int32.toInt t83
            have := congrArg Int32.toInt t159
            have := congrArg Int32.toInt t160
            have := congrArg Int32.toInt t164
            have := congrArg Int32.toInt t166
            have := congrArg Int32.toInt t171
            have := congrArg Int32.toInt t173
            have := (r_x84).1; have := (r_x84).2
            have := (r_p1).1; have := (r_p1).2
            have := (rc_0).1; have := (rc_0).2
            have := (r_x80).1; have := (r_x80).2
            have := (r_x82).1; have := (r_x82).2
            have := (r_x153).1; have := (r_x153).2
            have := (r_x165).1; have := (r_x165).2
            have := (r_x172).1; have := (r_x172).2
            have := (rc_1).1; have := (rc_1).2
            have := kc_m1
            have := kc_0
            have := kc_1
            have := kc_5
            have := kc_6
            have := kc_8
            have := kc_91
            have := kc_93
            omega
        · skip
          have r_x168 : mh_r x168 (1) (1) := mh_ne1 (show x168.toInt ≠ (0 : Int32).toInt from c174) r_x168 rc_0 (1) (1) (by decide)
          refine mw_iconst (v := 1) 53 rfl dX4_readFactor_52 (by decide) ?_
          refine mw_goto 56 rfl 57 dX4_readFactor_53 (by decide) ?_
          refine mw_zret dX4_readFactor_57 rfl (mh_r_wk rc_1 (by decide)) ⟨(1), rfl, ⟨(mh_r_wk rc_1 (by decide)), ?_, hI_s169, hF_s169⟩⟩
          · skip
            have := congrArg Int32.toInt t81
            have := congrArg Int32.toInt t83
            have := congrArg Int32.toInt t159
            have := congrArg Int32.toInt t160
            have := congrArg Int32.toInt t164
            have := congrArg Int32.toInt t166
            have := congrArg Int32.toInt t171
            have := congrArg Int32.toInt t173
            have := (r_x84).1; have := (r_x84).2
            have := (r_p1).1; have := (r_p1).2
            have := (rc_1).1; have := (rc_1).2
            have := (r_x80).1; have := (r_x80).2
            have := (r_x82).1; have := (r_x82).2
            have := (r_x153).1; have := (r_x153).2
            have := (r_x165).1; have := (r_x165).2
            have := (r_x172).1; have := (r_x172).2
            have := kc_m1
            have := kc_0
            have := kc_1
            have := kc_5
            have := kc_6
            have := kc_8
            have := kc_91
            have := kc_93
            omega
    · skip
      have r_p1 : mh_r p1 (6) (6) := mh_le2 c150 rc_6 r_p1 (6) (by decide)
      refine mw_aload_n 18 rfl 1 dX4_readFactor_17 rfl rfl ?_
      refine mw_iconst (v := 5) 19 rfl dX4_readFactor_18 (by decide) ?_
      refine mw_callVi [.int (5)] [] 22 rfl dX4_readFactor_19 ml_X4_55 mc_X4_fail mk_X4_fail rfl rfl (by decide) (w_X4_fail l G (d + H + 3) ⟨by omega, by omega⟩ hI0 (5)) rfl rfl (Nat.le_of_ble_eq_true rfl) (mh_rok (by omega) (by decide)) (fun x175 s176 q177 => ?_)
      obtain ⟨r_x175, hI_s176, hG_s176⟩ := q177
      have hF_s176 : mh_F S_X4_rd s0 s176 := mh_F_tl hF0 hG_s176 (by decide +kernel)
      have t178 : x80 = s176.1 56 2 := (t81).trans (hG_s176 56 2 (mh_nsI (by rfl))).1.symm
      have t179 : x82 = s176.1 56 3 := (t83).trans (hG_s176 56 3 (mh_nsI (by rfl))).1.symm
      refine mw_zret dX4_readFactor_22 rfl (mh_r_wk r_x175 (by decide)) ⟨x175, rfl, ⟨(mh_r_wk r_x175 (by decide)), ?_, hI_s176, hF_s176⟩⟩
      · skip
        have := congrArg Int32.toInt t81
        have := congrArg Int32.toInt t83
        have := congrArg Int32.toInt t178
        have := congrArg Int32.toInt t179
        have := (r_x84).1; have := (r_x84).2
        have := (r_p1).1; have := (r_p1).2
        have := (r_x175).1; have := (r_x175).2
        have := (r_x80).1; have := (r_x80).2
        have := (r_x82).1; have := (r_x82).2
        have := kc_m1
        have := kc_0
        have := kc_1
        have := kc_5
        have := kc_6
        have := kc_8
        have := kc_91
        have := kc_93
        omega

set_option maxRecDepth 100000 in
set_option maxHeartbeats 4000000 in
theorem w_X4_readTerm (l : Launch) (G : mh_G) (d : Nat) {B D : Int} (hB : B ≤ 1700000000 ∧ D ≤ 1700000000) {s0 : mh_H} (hI0 : mh_I B D s0) (p1 : Int32) (r_p1 : mh_r p1 (0) (6)) (H : Nat) (ih : p1.toInt < 6 → mh_RB l G H (p1.toInt + 1)) : mh_Mi l G (d + (H + 5)) mM_X4_readTerm [.ref (G.2.2.2 56), .int p1] s0 (P_X4_rd B D s0) := by
  refine mh_enter (lv := [(0, .ref (G.2.2.2 56)), (1, .int p1)]) (by decide) rfl (Nat.le_of_ble_eq_true rfl) ?_
  have hF0 : mh_F S_X4_rd s0 s0 := mh_F_rf
  obtain ⟨x252, t253⟩ : ∃ z : Int32, z = s0.1 56 2 := ⟨_, rfl⟩
  have r_x252 : mh_r x252 0 220 := by rw [t253]; exact rd_56_2 hI0
  obtain ⟨x254, t255⟩ : ∃ z : Int32, z = s0.1 56 3 := ⟨_, rfl⟩
  have r_x254 : mh_r x254 0 220 := by rw [t255]; exact rd_56_3 hI0
  refine mw_aload_n 1 rfl 0 dX4_readTerm_0 rfl rfl ?_
  refine mw_iload_n 2 rfl 1 dX4_readTerm_1 rfl rfl ?_
  refine mw_callVi [.int p1] [] 5 rfl dX4_readTerm_2 ml_X4_101 mc_X4_readFactor mk_X4_readFactor rfl rfl (by decide) (w_X4_readFactor l G (d + 0) hB hI0 p1 r_p1 H ih) rfl rfl (Nat.le_of_ble_eq_true rfl) (mh_rok (by omega) (by decide)) (fun x256 s257 q258 => ?_)
  obtain ⟨r_x256, e0_s257, hI_s257, hG_s257⟩ := q258
  have hF_s257 : mh_F S_X4_rd s0 s257 := mh_F_tl hF0 hG_s257 (by decide +kernel)
  have t259 : x252 = s257.1 56 2 := (t253).trans (hG_s257 56 2 (mh_nsI (by rfl))).1.symm
  obtain ⟨x260, t261⟩ : ∃ z : Int32, z = s257.1 56 3 := ⟨_, rfl⟩
  have r_x260 : mh_r x260 0 220 := by rw [t261]; exact rd_56_3 hI_s257
  refine mw_if_ne 8 rfl 10 dX4_readTerm_5 (by decide) (fun c262 => ?_) (fun c262 => ?_)
  · skip
    have r_x256 : mh_r x256 (1) (1) := mh_ne1 (show x256.toInt ≠ (0 : Int32).toInt from c262) r_x256 rc_0 (1) (1) (by decide)
    have L10 : ∀ n1 : Nat, ∀  (s340 : mh_H), mh_I B D s340 → mh_F S_X4_rd s0 s340 → ((s0.1 56 3).toInt ≤ (s340.1 56 3).toInt) → 220 - (s340.1 56 3).toInt < (n1 : Int) → mh_W G (mh_XM l G (d + (H + 5)) (mh_Qi (P_X4_rd B D s0))) mM_X4_readTerm 10 [(0, .ref (G.2.2.2 56)), (1, .int p1)] [] s340 := by
      intro n1
      induction n1 with
      | zero =>
        intro s340 hI_s340 hF_s340 iv hmn1
        exact absurd hmn1 (by have := (rd_56_3 hI_s340).2; omega)
      | succ n1 ihn1 =>
        intro s340 hI_s340 hF_s340 iv hmn1
        obtain ⟨x423, t424⟩ : ∃ z : Int32, z = s340.1 56 2 := ⟨_, rfl⟩
        have r_x423 : mh_r x423 0 220 := by rw [t424]; exact rd_56_2 hI_s340
        obtain ⟨x425, t426⟩ : ∃ z : Int32, z = s340.1 56 3 := ⟨_, rfl⟩
        have r_x425 : mh_r x425 0 220 := by rw [t426]; exact rd_56_3 hI_s340
        refine mw_aload_n 11 rfl 0 dX4_readTerm_10 rfl rfl ?_
        refine mw_geti 14 rfl dX4_readTerm_11 gf_X4_15 rfl (fun x427 t428 => ?_)
        obtain rfl : x425 = x427 := t426.trans t428.symm
        refine mw_aload_n 15 rfl 0 dX4_readTerm_14 rfl rfl ?_
        refine mw_geti 18 rfl dX4_readTerm_15 gf_X4_9 rfl (fun x429 t430 => ?_)
        obtain rfl : x423 = x429 := t424.trans t430.symm
        refine mw_icmp_ge 21 rfl 84 dX4_readTerm_18 (by decide) (fun c431 => ?_) (fun c431 => ?_)
        · skip
          refine mw_iconst (v := 1) 85 rfl dX4_readTerm_84 (by decide) ?_
          refine mw_zret dX4_readTerm_85 rfl (mh_r_wk rc_1 (by decide)) ⟨(1), rfl, ⟨(mh_r_wk rc_1 (by decide)), ?_, hI_s340, hF_s340⟩⟩
          · skip
            have := congrArg Int32.toInt t253
            have := congrArg Int32.toInt t255
            have := congrArg Int32.toInt t259
            have := congrArg Int32.toInt t261
            have := congrArg Int32.toInt t424
            have := congrArg Int32.toInt t426
            have := (r_p1).1; have := (r_p1).2
            have := (rc_1).1; have := (rc_1).2
            have := (r_x252).1; have := (r_x252).2
            have := (r_x254).1; have := (r_x254).2
            have := (r_x260).1; have := (r_x260).2
            have := (r_x423).1; have := (r_x423).2
            have := (r_x425).1; have := (r_x425).2
            have := kc_0
            have := kc_1
            have := kc_37
            have := kc_42
            have := kc_47
            omega
        · skip
          have r_x425 : mh_r x425 (0) (219) := mh_lt1 c431 r_x425 r_x423 (219) (by decide)
          have r_x423 : mh_r x423 (1) (220) := mh_lt2 c431 r_x425 r_x423 (1) (by decide)
          refine mw_aload_n 22 rfl 0 dX4_readTerm_21 rfl rfl ?_
          refine mw_callVi [] [] 25 rfl dX4_readTerm_22 ml_X4_51 mc_X4_sign mk_X4_sign rfl rfl (by decide) (w_X4_sign l G (d + H + 4) ⟨by omega, by omega⟩ hI_s340) rfl rfl (Nat.le_of_ble_eq_true rfl) (mh_rok (by omega) (by decide)) (fun x432 s433 q434 => ?_)
          obtain ⟨r_x432, e0_s433, rfl⟩ := q434
          have hq_x432 : 0 ≤ x432.toInt → x425.toInt < x423.toInt := by have h9 := e0_s433; rw [← t426, ← t424] at h9; exact h9
          refine mw_bipush (v := 42) 27 rfl dX4_readTerm_25 (by decide) ?_
          refine mw_icmp_eq 30 rfl 48 dX4_readTerm_27 (by decide) (fun c435 => ?_) (fun c435 => ?_)
          · skip
            have r_x432 : mh_r x432 (42) (42) := mh_eq1 c435 r_x432 rc_42 (42) (42) (by decide)
            refine mw_aload_n 49 rfl 0 dX4_readTerm_48 rfl rfl ?_
            refine mw_callVi [] [] 52 rfl dX4_readTerm_49 ml_X4_51 mc_X4_sign mk_X4_sign rfl rfl (by decide) (w_X4_sign l G (d + H + 4) ⟨by omega, by omega⟩ hI_s340) rfl rfl (Nat.le_of_ble_eq_true rfl) (mh_rok (by omega) (by decide)) (fun x436 s437 q438 => ?_)
            obtain ⟨r_x436, e0_s437, rfl⟩ := q438
            have hq_x436 : 0 ≤ x436.toInt → x425.toInt < x423.toInt := by have h9 := e0_s437; rw [← t426, ← t424] at h9; exact h9
            refine mw_istore_n 53 rfl [(2, .int x436), (0, .ref (G.2.2.2 56)), (1, .int p1)] dX4_readTerm_52 rfl (by decide) rfl ?_
            refine mw_aload_n 54 rfl 1 dX4_readTerm_53 rfl rfl ?_
            refine mw_dup 55 rfl dX4_readTerm_54 rfl ?_
            refine mw_geti 58 rfl dX4_readTerm_55 gf_X4_15 rfl (fun x439 t440 => ?_)
            obtain rfl : x425 = x439 := t426.trans t440.symm
            refine mw_iconst (v := 1) 59 rfl dX4_readTerm_58 (by decide) ?_
            refine mw_iadd 60 rfl (1) (220) dX4_readTerm_59 r_x425 rc_1 (by decide) (fun x441 t442 r_x441 => ?_)
            refine mw_puti 63 rfl dX4_readTerm_60 pf_X4_15 rfl (fun s443 t444 => ?_)
            have hI_s443 : mh_I B D s443 := by rw [t444]; exact wr_56_3 hI_s340 (mh_r_wk r_x441 (by decide))
            have hF_s443 : mh_F S_X4_rd s0 s443 := by rw [t444]; exact mh_F_pI hF_s340 (mh_sj 0 rfl)
            refine mw_aload_n 64 rfl 1 dX4_readTerm_63 rfl rfl ?_
            refine mw_iload_n 65 rfl 2 dX4_readTerm_64 rfl rfl ?_
            have t445 : x423 = s443.1 56 2 := by rw [t444]; exact (t424).trans (mh_pI_n (by omega)).symm
            have t446 : x441 = s443.1 56 3 := by rw [t444]; exact mh_pI_s.symm
            refine mw_callVi [.int p1] [] 68 rfl dX4_readTerm_65 ml_X4_101 mc_X4_readFactor mk_X4_readFactor rfl rfl (by decide) (w_X4_readFactor l G (d + 0) hB hI_s443 p1 r_p1 H ih) rfl rfl (Nat.le_of_ble_eq_true rfl) (mh_rok (by omega) (by decide)) (fun x447 s448 q449 => ?_)
            obtain ⟨r_x447, e0_s448, hI_s448, hG_s448⟩ := q449
            have hF_s448 : mh_F S_X4_rd s0 s448 := mh_F_tl hF_s443 hG_s448 (by decide +kernel)
            have t450 : x423 = s448.1 56 2 := (t445).trans (hG_s448 56 2 (mh_nsI (by rfl))).1.symm
            obtain ⟨x451, t452⟩ : ∃ z : Int32, z = s448.1 56 3 := ⟨_, rfl⟩
            have r_x451 : mh_r x451 0 220 := by rw [t452]; exact rd_56_3 hI_s448
            refine mw_if_ne 71 rfl 73 dX4_readTerm_68 (by decide) (fun c453 => ?_) (fun c453 => ?_)
            · skip
              have r_x447 : mh_r x447 (1) (1) := mh_ne1 (show x447.toInt ≠ (0 : Int32).toInt from c453) r_x447 rc_0 (1) (1) (by decide)
              refine mw_aload_n 74 rfl 1 dX4_readTerm_73 rfl rfl ?_
              obtain ⟨k455, t454⟩ : ∃ y : Nat, s448.2.2 56 1 = y := ⟨_, rfl⟩
              have hk455 : mh_isL k455 := by rw [← t454]; exact hI_s448.2.1.2.2.2
              refine mw_geta 77 rfl dX4_readTerm_74 gf_X4_25 rfl k455 t454 ?_
              refine mw_iload_n 78 rfl 0 dX4_readTerm_77 rfl rfl ?_
              refine mw_callVv [.int x436] [] 81 rfl dX4_readTerm_78 ml_X4_95 mc_X1_put mk_X1_put (ly_L hk455) rfl (by decide) (w_X1_put l G (d + H + 4) ⟨by omega, by omega⟩ hI_s448 k455 hk455 x436) rfl rfl (Nat.le_of_ble_eq_true rfl) (mh_rok (by omega) (by decide)) (fun s457 q458 => ?_)
              obtain ⟨hI_s457, hG_s457⟩ := q458
              have hF_s457 : mh_F S_X4_rd s0 s457 := mh_F_tl hF_s448 hG_s457 (by rcases hk455 with rfl | rfl <;> decide +kernel)
              have t459 : x423 = s457.1 56 2 := (t450).trans (hG_s457 56 2 (mh_nsI (by rcases hk455 with rfl | rfl <;> rfl))).1.symm
              have t460 : x451 = s457.1 56 3 := (t452).trans (hG_s457 56 3 (mh_nsI (by rcases hk455 with rfl | rfl <;> rfl))).1.symm
              refine mw_goto 84 rfl 10 dX4_readTerm_81 (by decide) ?_
              exact mw_lv [1, 2] rfl (ihn1 s457 hI_s457 hF_s457 (by
                  have := congrArg Int32.toInt t253
                  have := congrArg Int32.toInt t255
                  have := congrArg Int32.toInt t259
                  have := congrArg Int32.toInt t261
                  have := congrArg Int32.toInt t424
                  have := congrArg Int32.toInt t426
                  have := congrArg Int32.toInt t445
                  have := congrArg Int32.toInt t446
                  have := congrArg Int32.toInt t450
                  have := congrArg Int32.toInt t452
                  have := congrArg Int32.toInt t459
                  have := congrArg Int32.toInt t460
                  have := (r_x436).1; have := (r_x436).2
                  have := (r_p1).1; have := (r_p1).2
                  have := (r_x252).1; have := (r_x252).2
                  have := (r_x254).1; have := (r_x254).2
                  have := (r_x260).1; have := (r_x260).2
                  have := (r_x423).1; have := (r_x423).2
                  have := (r_x425).1; have := (r_x425).2
                  have := (r_x441).1; have := (r_x441).2
                  have := (r_x451).1; have := (r_x451).2
                  have := (rc_1).1; have := (rc_1).2
                  have := kc_0
                  have := kc_1
                  have := kc_37
                  have := kc_42
                  have := kc_47
                  omega) (by have := congrArg Int32.toInt t253; have := congrArg Int32.toInt t255; have := congrArg Int32.toInt t259; have := congrArg Int32.toInt t261; have := congrArg Int32.toInt t424; have := congrArg Int32.toInt t426; have := congrArg Int32.toInt t445; have := congrArg Int32.toInt t446; have := congrArg Int32.toInt t450; have := congrArg Int32.toInt t452; have := congrArg Int32.toInt t459; have := congrArg Int32.toInt t460; have := (r_x436).1; have := (r_x436).2; have := (r_p1).1; have := (r_p1).2; have := (r_x252).1; have := (r_x252).2; have := (r_x254).1; have := (r_x254).2; have := (r_x260).1; have := (r_x260).2; have := (r_x423).1; have := (r_x423).2; have := (r_x425).1; have := (r_x425).2; have := (r_x441).1; have := (r_x441).2; have := (r_x451).1; have := (r_x451).2; have := (rc_1).1; have := (rc_1).2; have := kc_0; have := kc_1; have := kc_37; have := kc_42; have := kc_47; omega))
            · skip
              have r_x447 : mh_r x447 (0) (0) := mh_eq1 (show x447.toInt = (0 : Int32).toInt from c453) r_x447 rc_0 (0) (0) (by decide)
              refine mw_iconst (v := 0) 72 rfl dX4_readTerm_71 (by decide) ?_
              refine mw_zret dX4_readTerm_72 rfl (mh_r_wk rc_0 (by decide)) ⟨(0), rfl, ⟨(mh_r_wk rc_0 (by decide)), ?_, hI_s448, hF_s448⟩⟩
              · skip
                have := congrArg Int32.toInt t253
                have := congrArg Int32.toInt t255
                have := congrArg Int32.toInt t259
                have := congrArg Int32.toInt t261
                have := congrArg Int32.toInt t424
                have := congrArg Int32.toInt t426
                have := congrArg Int32.toInt t445
                have := congrArg Int32.toInt t446
                have := congrArg Int32.toInt t450
                have := congrArg Int32.toInt t452
                have := (r_x436).1; have := (r_x436).2
                have := (r_p1).1; have := (r_p1).2
                have := (rc_0).1; have := (rc_0).2
                have := (r_x252).1; have := (r_x252).2
                have := (r_x254).1; have := (r_x254).2
                have := (r_x260).1; have := (r_x260).2
                have := (r_x423).1; have := (r_x423).2
                have := (r_x425).1; have := (r_x425).2
                have := (r_x441).1; have := (r_x441).2
                have := (r_x451).1; have := (r_x451).2
                have := (rc_1).1; have := (rc_1).2
                have := kc_0
                have := kc_1
                have := kc_37
                have := kc_42
                have := kc_47
                omega
          · skip
            refine mw_aload_n 31 rfl 0 dX4_readTerm_30 rfl rfl ?_
            refine mw_callVi [] [] 34 rfl dX4_readTerm_31 ml_X4_51 mc_X4_sign mk_X4_sign rfl rfl (by decide) (w_X4_sign l G (d + H + 4) ⟨by omega, by omega⟩ hI_s340) rfl rfl (Nat.le_of_ble_eq_true rfl) (mh_rok (by omega) (by decide)) (fun x461 s462 q463 => ?_)
            obtain ⟨r_x461, e0_s462, rfl⟩ := q463
            have hq_x461 : 0 ≤ x461.toInt → x425.toInt < x423.toInt := by have h9 := e0_s462; rw [← t426, ← t424] at h9; exact h9
            refine mw_bipush (v := 47) 36 rfl dX4_readTerm_34 (by decide) ?_
            refine mw_icmp_eq 39 rfl 48 dX4_readTerm_36 (by decide) (fun c464 => ?_) (fun c464 => ?_)
            · skip
              have r_x461 : mh_r x461 (47) (47) := mh_eq1 c464 r_x461 rc_47 (47) (47) (by decide)
              refine mw_aload_n 49 rfl 0 dX4_readTerm_48 rfl rfl ?_
              refine mw_callVi [] [] 52 rfl dX4_readTerm_49 ml_X4_51 mc_X4_sign mk_X4_sign rfl rfl (by decide) (w_X4_sign l G (d + H + 4) ⟨by omega, by omega⟩ hI_s340) rfl rfl (Nat.le_of_ble_eq_true rfl) (mh_rok (by omega) (by decide)) (fun x465 s466 q467 => ?_)
              obtain ⟨r_x465, e0_s466, rfl⟩ := q467
              have hq_x465 : 0 ≤ x465.toInt → x425.toInt < x423.toInt := by have h9 := e0_s466; rw [← t426, ← t424] at h9; exact h9
              refine mw_istore_n 53 rfl [(2, .int x465), (0, .ref (G.2.2.2 56)), (1, .int p1)] dX4_readTerm_52 rfl (by decide) rfl ?_
              refine mw_aload_n 54 rfl 1 dX4_readTerm_53 rfl rfl ?_
              refine mw_dup 55 rfl dX4_readTerm_54 rfl ?_
              refine mw_geti 58 rfl dX4_readTerm_55 gf_X4_15 rfl (fun x468 t469 => ?_)
              obtain rfl : x425 = x468 := t426.trans t469.symm
              refine mw_iconst (v := 1) 59 rfl dX4_readTerm_58 (by decide) ?_
              refine mw_iadd 60 rfl (1) (220) dX4_readTerm_59 r_x425 rc_1 (by decide) (fun x470 t471 r_x470 => ?_)
              refine mw_puti 63 rfl dX4_readTerm_60 pf_X4_15 rfl (fun s472 t473 => ?_)
              have hI_s472 : mh_I B D s472 := by rw [t473]; exact wr_56_3 hI_s340 (mh_r_wk r_x470 (by decide))
              have hF_s472 : mh_F S_X4_rd s0 s472 := by rw [t473]; exact mh_F_pI hF_s340 (mh_sj 0 rfl)
              refine mw_aload_n 64 rfl 1 dX4_readTerm_63 rfl rfl ?_
              refine mw_iload_n 65 rfl 2 dX4_readTerm_64 rfl rfl ?_
              have t474 : x423 = s472.1 56 2 := by rw [t473]; exact (t424).trans (mh_pI_n (by omega)).symm
              have t475 : x470 = s472.1 56 3 := by rw [t473]; exact mh_pI_s.symm
              refine mw_callVi [.int p1] [] 68 rfl dX4_readTerm_65 ml_X4_101 mc_X4_readFactor mk_X4_readFactor rfl rfl (by decide) (w_X4_readFactor l G (d + 0) hB hI_s472 p1 r_p1 H ih) rfl rfl (Nat.le_of_ble_eq_true rfl) (mh_rok (by omega) (by decide)) (fun x476 s477 q478 => ?_)
              obtain ⟨r_x476, e0_s477, hI_s477, hG_s477⟩ := q478
              have hF_s477 : mh_F S_X4_rd s0 s477 := mh_F_tl hF_s472 hG_s477 (by decide +kernel)
              have t479 : x423 = s477.1 56 2 := (t474).trans (hG_s477 56 2 (mh_nsI (by rfl))).1.symm
              obtain ⟨x480, t481⟩ : ∃ z : Int32, z = s477.1 56 3 := ⟨_, rfl⟩
              have r_x480 : mh_r x480 0 220 := by rw [t481]; exact rd_56_3 hI_s477
              refine mw_if_ne 71 rfl 73 dX4_readTerm_68 (by decide) (fun c482 => ?_) (fun c482 => ?_)
              · skip
                have r_x476 : mh_r x476 (1) (1) := mh_ne1 (show x476.toInt ≠ (0 : Int32).toInt from c482) r_x476 rc_0 (1) (1) (by decide)
                refine mw_aload_n 74 rfl 1 dX4_readTerm_73 rfl rfl ?_
                obtain ⟨k484, t483⟩ : ∃ y : Nat, s477.2.2 56 1 = y := ⟨_, rfl⟩
                have hk484 : mh_isL k484 := by rw [← t483]; exact hI_s477.2.1.2.2.2
                refine mw_geta 77 rfl dX4_readTerm_74 gf_X4_25 rfl k484 t483 ?_
                refine mw_iload_n 78 rfl 0 dX4_readTerm_77 rfl rfl ?_
                refine mw_callVv [.int x465] [] 81 rfl dX4_readTerm_78 ml_X4_95 mc_X1_put mk_X1_put (ly_L hk484) rfl (by decide) (w_X1_put l G (d + H + 4) ⟨by omega, by omega⟩ hI_s477 k484 hk484 x465) rfl rfl (Nat.le_of_ble_eq_true rfl) (mh_rok (by omega) (by decide)) (fun s486 q487 => ?_)
                obtain ⟨hI_s486, hG_s486⟩ := q487
                have hF_s486 : mh_F S_X4_rd s0 s486 := mh_F_tl hF_s477 hG_s486 (by rcases hk484 with rfl | rfl <;> decide +kernel)
                have t488 : x423 = s486.1 56 2 := (t479).trans (hG_s486 56 2 (mh_nsI (by rcases hk484 with rfl | rfl <;> rfl))).1.symm
                have t489 : x480 = s486.1 56 3 := (t481).trans (hG_s486 56 3 (mh_nsI (by rcases hk484 with rfl | rfl <;> rfl))).1.symm
                refine mw_goto 84 rfl 10 dX4_readTerm_81 (by decide) ?_
                exact mw_lv [1, 2] rfl (ihn1 s486 hI_s486 hF_s486 (by
                    have := congrArg Int32.toInt t253
                    have := congrArg Int32.toInt t255
                    have := congrArg Int32.toInt t259
                    have := congrArg Int32.toInt t261
                    have := congrArg Int32.toInt t424
                    have := congrArg Int32.toInt t426
                    have := congrArg Int32.toInt t474
                    have := congrArg Int32.toInt t475
                    have := congrArg Int32.toInt t479
                    have := congrArg Int32.toInt t481
                    have := congrArg Int32.toInt t488
                    have := congrArg Int32.toInt t489
                    have := (r_x465).1; have := (r_x465).2
                    have := (r_p1).1; have := (r_p1).2
                    have := (r_x252).1; have := (r_x252).2
                    have := (r_x254).1; have := (r_x254).2
                    have := (r_x260).1; have := (r_x260).2
                    have := (r_x423).1; have := (r_x423).2
                    have := (r_x425).1; have := (r_x425).2
                    have := (r_x470).1; have := (r_x470).2
                    have := (r_x480).1; have := (r_x480).2
                    have := (rc_1).1; have := (rc_1).2
                    have := kc_0
                    have := kc_1
                    have := kc_37
                    have := kc_42
                    have := kc_47
                    omega) (by have := congrArg Int32.toInt t253; have := congrArg Int32.toInt t255; have := congrArg Int32.toInt t259; have := congrArg Int32.toInt t261; have := congrArg Int32.toInt t424; have := congrArg Int32.toInt t426; have := congrArg Int32.toInt t474; have := congrArg Int32.toInt t475; have := congrArg Int32.toInt t479; have := congrArg Int32.toInt t481; have := congrArg Int32.toInt t488; have := congrArg Int32.toInt t489; have := (r_x465).1; have := (r_x465).2; have := (r_p1).1; have := (r_p1).2; have := (r_x252).1; have := (r_x252).2; have := (r_x254).1; have := (r_x254).2; have := (r_x260).1; have := (r_x260).2; have := (r_x423).1; have := (r_x423).2; have := (r_x425).1; have := (r_x425).2; have := (r_x470).1; have := (r_x470).2; have := (r_x480).1; have := (r_x480).2; have := (rc_1).1; have := (rc_1).2; have := kc_0; have := kc_1; have := kc_37; have := kc_42; have := kc_47; omega))
              · skip
                have r_x476 : mh_r x476 (0) (0) := mh_eq1 (show x476.toInt = (0 : Int32).toInt from c482) r_x476 rc_0 (0) (0) (by decide)
                refine mw_iconst (v := 0) 72 rfl dX4_readTerm_71 (by decide) ?_
                refine mw_zret dX4_readTerm_72 rfl (mh_r_wk rc_0 (by decide)) ⟨(0), rfl, ⟨(mh_r_wk rc_0 (by decide)), ?_, hI_s477, hF_s477⟩⟩
                · skip
                  have := congrArg Int32.toInt t253
                  have := congrArg Int32.toInt t255
                  have := congrArg Int32.toInt t259
                  have := congrArg Int32.toInt t261
                  have := congrArg Int32.toInt t424
                  have := congrArg Int32.toInt t426
                  have := congrArg Int32.toInt t474
                  have := congrArg Int32.toInt t475
                  have := congrArg Int32.toInt t479
                  have := congrArg Int32.toInt t481
                  have := (r_x465).1; have := (r_x465).2
                  have := (r_p1).1; have := (r_p1).2
                  have := (rc_0).1; have := (rc_0).2
                  have := (r_x252).1; have := (r_x252).2
                  have := (r_x254).1; have := (r_x254).2
                  have := (r_x260).1; have := (r_x260).2
                  have := (r_x423).1; have := (r_x423).2
                  have := (r_x425).1; have := (r_x425).2
                  have := (r_x470).1; have := (r_x470).2
                  have := (r_x480).1; have := (r_x480).2
                  have := (rc_1).1; have := (rc_1).2
                  have := kc_0
                  have := kc_1
                  have := kc_37
                  have := kc_42
                  have := kc_47
                  omega
            · skip
              refine mw_aload_n 40 rfl 0 dX4_readTerm_39 rfl rfl ?_
              refine mw_callVi [] [] 43 rfl dX4_readTerm_40 ml_X4_51 mc_X4_sign mk_X4_sign rfl rfl (by decide) (w_X4_sign l G (d + H + 4) ⟨by omega, by omega⟩ hI_s340) rfl rfl (Nat.le_of_ble_eq_true rfl) (mh_rok (by omega) (by decide)) (fun x490 s491 q492 => ?_)
              obtain ⟨r_x490, e0_s491, rfl⟩ := q492
              have hq_x490 : 0 ≤ x490.toInt → x425.toInt < x423.toInt := by have h9 := e0_s491; rw [← t426, ← t424] at h9; exact h9
              refine mw_bipush (v := 37) 45 rfl dX4_readTerm_43 (by decide) ?_
              refine mw_icmp_ne 48 rfl 84 dX4_readTerm_45 (by decide) (fun c493 => ?_) (fun c493 => ?_)
              · skip
                refine mw_iconst (v := 1) 85 rfl dX4_readTerm_84 (by decide) ?_
                refine mw_zret dX4_readTerm_85 rfl (mh_r_wk rc_1 (by decide)) ⟨(1), rfl, ⟨(mh_r_wk rc_1 (by decide)), ?_, hI_s340, hF_s340⟩⟩
                · skip
                  have := congrArg Int32.toInt t253
                  have := congrArg Int32.toInt t255
                  have := congrArg Int32.toInt t259
                  have := congrArg Int32.toInt t261
                  have := congrArg Int32.toInt t424
                  have := congrArg Int32.toInt t426
                  have := (r_p1).1; have := (r_p1).2
                  have := (rc_1).1; have := (rc_1).2
                  have := (r_x252).1; have := (r_x252).2
                  have := (r_x254).1; have := (r_x254).2
                  have := (r_x260).1; have := (r_x260).2
                  have := (r_x423).1; have := (r_x423).2
                  have := (r_x425).1; have := (r_x425).2
                  have := kc_0
                  have := kc_1
                  have := kc_37
                  have := kc_42
                  have := kc_47
                  omega
              · skip
                have r_x490 : mh_r x490 (37) (37) := mh_eq1 c493 r_x490 rc_37 (37) (37) (by decide)
                refine mw_aload_n 49 rfl 0 dX4_readTerm_48 rfl rfl ?_
                refine mw_callVi [] [] 52 rfl dX4_readTerm_49 ml_X4_51 mc_X4_sign mk_X4_sign rfl rfl (by decide) (w_X4_sign l G (d + H + 4) ⟨by omega, by omega⟩ hI_s340) rfl rfl (Nat.le_of_ble_eq_true rfl) (mh_rok (by omega) (by decide)) (fun x494 s495 q496 => ?_)
                obtain ⟨r_x494, e0_s495, rfl⟩ := q496
                have hq_x494 : 0 ≤ x494.toInt → x425.toInt < x423.toInt := by have h9 := e0_s495; rw [← t426, ← t424] at h9; exact h9
                refine mw_istore_n 53 rfl [(2, .int x494), (0, .ref (G.2.2.2 56)), (1, .int p1)] dX4_readTerm_52 rfl (by decide) rfl ?_
                refine mw_aload_n 54 rfl 1 dX4_readTerm_53 rfl rfl ?_
                refine mw_dup 55 rfl dX4_readTerm_54 rfl ?_
                refine mw_geti 58 rfl dX4_readTerm_55 gf_X4_15 rfl (fun x497 t498 => ?_)
                obtain rfl : x425 = x497 := t426.trans t498.symm
                refine mw_iconst (v := 1) 59 rfl dX4_readTerm_58 (by decide) ?_
                refine mw_iadd 60 rfl (1) (220) dX4_readTerm_59 r_x425 rc_1 (by decide) (fun x499 t500 r_x499 => ?_)
                refine mw_puti 63 rfl dX4_readTerm_60 pf_X4_15 rfl (fun s501 t502 => ?_)
                have hI_s501 : mh_I B D s501 := by rw [t502]; exact wr_56_3 hI_s340 (mh_r_wk r_x499 (by decide))
                have hF_s501 : mh_F S_X4_rd s0 s501 := by rw [t502]; exact mh_F_pI hF_s340 (mh_sj 0 rfl)
                refine mw_aload_n 64 rfl 1 dX4_readTerm_63 rfl rfl ?_
                refine mw_iload_n 65 rfl 2 dX4_readTerm_64 rfl rfl ?_
                have t503 : x423 = s501.1 56 2 := by rw [t502]; exact (t424).trans (mh_pI_n (by omega)).symm
                have t504 : x499 = s501.1 56 3 := by rw [t502]; exact mh_pI_s.symm
                refine mw_callVi [.int p1] [] 68 rfl dX4_readTerm_65 ml_X4_101 mc_X4_readFactor mk_X4_readFactor rfl rfl (by decide) (w_X4_readFactor l G (d + 0) hB hI_s501 p1 r_p1 H ih) rfl rfl (Nat.le_of_ble_eq_true rfl) (mh_rok (by omega) (by decide)) (fun x505 s506 q507 => ?_)
                obtain ⟨r_x505, e0_s506, hI_s506, hG_s506⟩ := q507
                have hF_s506 : mh_F S_X4_rd s0 s506 := mh_F_tl hF_s501 hG_s506 (by decide +kernel)
                have t508 : x423 = s506.1 56 2 := (t503).trans (hG_s506 56 2 (mh_nsI (by rfl))).1.symm
                obtain ⟨x509, t510⟩ : ∃ z : Int32, z = s506.1 56 3 := ⟨_, rfl⟩
                have r_x509 : mh_r x509 0 220 := by rw [t510]; exact rd_56_3 hI_s506
                refine mw_if_ne 71 rfl 73 dX4_readTerm_68 (by decide) (fun c511 => ?_) (fun c511 => ?_)
                · skip
                  have r_x505 : mh_r x505 (1) (1) := mh_ne1 (show x505.toInt ≠ (0 : Int32).toInt from c511) r_x505 rc_0 (1) (1) (by decide)
                  refine mw_aload_n 74 rfl 1 dX4_readTerm_73 rfl rfl ?_
                  obtain ⟨k513, t512⟩ : ∃ y : Nat, s506.2.2 56 1 = y := ⟨_, rfl⟩
                  have hk513 : mh_isL k513 := by rw [← t512]; exact hI_s506.2.1.2.2.2
                  refine mw_geta 77 rfl dX4_readTerm_74 gf_X4_25 rfl k513 t512 ?_
                  refine mw_iload_n 78 rfl 0 dX4_readTerm_77 rfl rfl ?_
                  refine mw_callVv [.int x494] [] 81 rfl dX4_readTerm_78 ml_X4_95 mc_X1_put mk_X1_put (ly_L hk513) rfl (by decide) (w_X1_put l G (d + H + 4) ⟨by omega, by omega⟩ hI_s506 k513 hk513 x494) rfl rfl (Nat.le_of_ble_eq_true rfl) (mh_rok (by omega) (by decide)) (fun s515 q516 => ?_)
                  obtain ⟨hI_s515, hG_s515⟩ := q516
                  have hF_s515 : mh_F S_X4_rd s0 s515 := mh_F_tl hF_s506 hG_s515 (by rcases hk513 with rfl | rfl <;> decide +kernel)
                  have t517 : x423 = s515.1 56 2 := (t508).trans (hG_s515 56 2 (mh_nsI (by rcases hk513 with rfl | rfl <;> rfl))).1.symm
                  have t518 : x509 = s515.1 56 3 := (t510).trans (hG_s515 56 3 (mh_nsI (by rcases hk513 with rfl | rfl <;> rfl))).1.symm
                  refine mw_goto 84 rfl 10 dX4_readTerm_81 (by decide) ?_
                  exact mw_lv [1, 2] rfl (ihn1 s515 hI_s515 hF_s515 (by
                      have := congrArg Int32.toInt t253
                      have := congrArg Int32.toInt t255
                      have := congrArg Int32.toInt t259
                      have := congrArg Int32.toInt t261
                      have := congrArg Int32.toInt t424
                      have := congrArg Int32.toInt t426
                      have := congrArg Int32.toInt t503
                      have := congrArg Int32.toInt t504
                      have := congrArg Int32.toInt t508
                      have := congrArg Int32.toInt t510
                      have := congrArg Int32.toInt t517
                      have := congrArg Int32.toInt t518
                      have := (r_x494).1; have := (r_x494).2
                      have := (r_p1).1; have := (r_p1).2
                      have := (r_x252).1; have := (r_x252).2
                      have := (r_x254).1; have := (r_x254).2
                      have := (r_x260).1; have := (r_x260).2
                      have := (r_x423).1; have := (r_x423).2
                      have := (r_x425).1; have := (r_x425).2
                      have := (r_x499).1; have := (r_x499).2
                      have := (r_x509).1; have := (r_x509).2
                      have := (rc_1).1; have := (rc_1).2
                      have := kc_0
                      have := kc_1
                      have := kc_37
                      have := kc_42
                      have := kc_47
                      omega) (by have := congrArg Int32.toInt t253; have := congrArg Int32.toInt t255; have := congrArg Int32.toInt t259; have := congrArg Int32.toInt t261; have := congrArg Int32.toInt t424; have := congrArg Int32.toInt t426; have := congrArg Int32.toInt t503; have := congrArg Int32.toInt t504; have := congrArg Int32.toInt t508; have := congrArg Int32.toInt t510; have := congrArg Int32.toInt t517; have := congrArg Int32.toInt t518; have := (r_x494).1; have := (r_x494).2; have := (r_p1).1; have := (r_p1).2; have := (r_x252).1; have := (r_x252).2; have := (r_x254).1; have := (r_x254).2; have := (r_x260).1; have := (r_x260).2; have := (r_x423).1; have := (r_x423).2; have := (r_x425).1; have := (r_x425).2; have := (r_x499).1; have := (r_x499).2; have := (r_x509).1; have := (r_x509).2; have := (rc_1).1; have := (rc_1).2; have := kc_0; have := kc_1; have := kc_37; have := kc_42; have := kc_47; omega))
                · skip
                  have r_x505 : mh_r x505 (0) (0) := mh_eq1 (show x505.toInt = (0 : Int32).toInt from c511) r_x505 rc_0 (0) (0) (by decide)
                  refine mw_iconst (v := 0) 72 rfl dX4_readTerm_71 (by decide) ?_
                  refine mw_zret dX4_readTerm_72 rfl (mh_r_wk rc_0 (by decide)) ⟨(0), rfl, ⟨(mh_r_wk rc_0 (by decide)), ?_, hI_s506, hF_s506⟩⟩
                  · skip
                    have := congrArg Int32.toInt t253
                    have := congrArg Int32.toInt t255
                    have := congrArg Int32.toInt t259
                    have := congrArg Int32.toInt t261
                    have := congrArg Int32.toInt t424
                    have := congrArg Int32.toInt t426
                    have := congrArg Int32.toInt t503
                    have := congrArg Int32.toInt t504
                    have := congrArg Int32.toInt t508
                    have := congrArg Int32.toInt t510
                    have := (r_x494).1; have := (r_x494).2
                    have := (r_p1).1; have := (r_p1).2
                    have := (rc_0).1; have := (rc_0).2
                    have := (r_x252).1; have := (r_x252).2
                    have := (r_x254).1; have := (r_x254).2
                    have := (r_x260).1; have := (r_x260).2
                    have := (r_x423).1; have := (r_x423).2
                    have := (r_x425).1; have := (r_x425).2
                    have := (r_x499).1; have := (r_x499).2
                    have := (r_x509).1; have := (r_x509).2
                    have := (rc_1).1; have := (rc_1).2
                    have := kc_0
                    have := kc_1
                    have := kc_37
                    have := kc_42
                    have := kc_47
                    omega
    exact mw_lv [0, 1] rfl (L10 222 s257 hI_s257 hF_s257 (by
        have := congrArg Int32.toInt t253
        have := congrArg Int32.toInt t255
        have := congrArg Int32.toInt t259
        have := congrArg Int32.toInt t261
        have := (r_p1).1; have := (r_p1).2
        have := (r_x252).1; have := (r_x252).2
        have := (r_x254).1; have := (r_x254).2
        have := (r_x260).1; have := (r_x260).2
        have := kc_0
        have := kc_1
        have := kc_37
        have := kc_42
        have := kc_47
        omega) (by have := (rd_56_3 hI_s257).1; omega))
  · skip
    have r_x256 : mh_r x256 (0) (0) := mh_eq1 (show x256.toInt = (0 : Int32).toInt from c262) r_x256 rc_0 (0) (0) (by decide)
    refine mw_iconst (v := 0) 9 rfl dX4_readTerm_8 (by decide) ?_
    refine mw_zret dX4_readTerm_9 rfl (mh_r_wk rc_0 (by decide)) ⟨(0), rfl, ⟨(mh_r_wk rc_0 (by decide)), ?_, hI_s257, hF_s257⟩⟩
    · skip
      have := congrArg Int32.toInt t253
      have := congrArg Int32.toInt t255
      have := congrArg Int32.toInt t259
      have := congrArg Int32.toInt t261
      have := (r_p1).1; have := (r_p1).2
      have := (rc_0).1; have := (rc_0).2
      have := (r_x252).1; have := (r_x252).2
      have := (r_x254).1; have := (r_x254).2
      have := (r_x260).1; have := (r_x260).2
      have := kc_0
      have := kc_1
      have := kc_37
      have := kc_42
      have := kc_47
      omega

set_option maxRecDepth 100000 in
set_option maxHeartbeats 4000000 in
theorem w_X4_readSum (l : Launch) (G : mh_G) (d : Nat) {B D : Int} (hB : B ≤ 1700000000 ∧ D ≤ 1700000000) {s0 : mh_H} (hI0 : mh_I B D s0) (p1 : Int32) (r_p1 : mh_r p1 (0) (6)) (H : Nat) (ih : p1.toInt < 6 → mh_RB l G H (p1.toInt + 1)) : mh_Mi l G (d + (H + 6)) mM_X4_readSum [.ref (G.2.2.2 56), .int p1] s0 (P_X4_rd B D s0) := by
  refine mh_enter (lv := [(0, .ref (G.2.2.2 56)), (1, .int p1)]) (by decide) rfl (Nat.le_of_ble_eq_true rfl) ?_
  have hF0 : mh_F S_X4_rd s0 s0 := mh_F_rf
  obtain ⟨x180, t181⟩ : ∃ z : Int32, z = s0.1 56 2 := ⟨_, rfl⟩
  have r_x180 : mh_r x180 0 220 := by rw [t181]; exact rd_56_2 hI0
  obtain ⟨x182, t183⟩ : ∃ z : Int32, z = s0.1 56 3 := ⟨_, rfl⟩
  have r_x182 : mh_r x182 0 220 := by rw [t183]; exact rd_56_3 hI0
  refine mw_aload_n 1 rfl 0 dX4_readSum_0 rfl rfl ?_
  refine mw_iload_n 2 rfl 1 dX4_readSum_1 rfl rfl ?_
  refine mw_callVi [.int p1] [] 5 rfl dX4_readSum_2 ml_X4_98 mc_X4_readTerm mk_X4_readTerm rfl rfl (by decide) (w_X4_readTerm l G (d + 0) hB hI0 p1 r_p1 H ih) rfl rfl (Nat.le_of_ble_eq_true rfl) (mh_rok (by omega) (by decide)) (fun x184 s185 q186 => ?_)
  obtain ⟨r_x184, e0_s185, hI_s185, hG_s185⟩ := q186
  have hF_s185 : mh_F S_X4_rd s0 s185 := mh_F_tl hF0 hG_s185 (by decide +kernel)
  have t187 : x180 = s185.1 56 2 := (t181).trans (hG_s185 56 2 (mh_nsI (by rfl))).1.symm
  obtain ⟨x188, t189⟩ : ∃ z : Int32, z = s185.1 56 3 := ⟨_, rfl⟩
  have r_x188 : mh_r x188 0 220 := by rw [t189]; exact rd_56_3 hI_s185
  refine mw_if_ne 8 rfl 10 dX4_readSum_5 (by decide) (fun c190 => ?_) (fun c190 => ?_)
  · skip
    have r_x184 : mh_r x184 (1) (1) := mh_ne1 (show x184.toInt ≠ (0 : Int32).toInt from c190) r_x184 rc_0 (1) (1) (by decide)
    have L10 : ∀ n1 : Nat, ∀  (s244 : mh_H), mh_I B D s244 → mh_F S_X4_rd s0 s244 → ((s0.1 56 3).toInt ≤ (s244.1 56 3).toInt) → 220 - (s244.1 56 3).toInt < (n1 : Int) → mh_W G (mh_XM l G (d + (H + 6)) (mh_Qi (P_X4_rd B D s0))) mM_X4_readSum 10 [(0, .ref (G.2.2.2 56)), (1, .int p1)] [] s244 := by
      intro n1
      induction n1 with
      | zero =>
        intro s244 hI_s244 hF_s244 iv hmn1
        exact absurd hmn1 (by have := (rd_56_3 hI_s244).2; omega)
      | succ n1 ihn1 =>
        intro s244 hI_s244 hF_s244 iv hmn1
        obtain ⟨x303, t304⟩ : ∃ z : Int32, z = s244.1 56 2 := ⟨_, rfl⟩
        have r_x303 : mh_r x303 0 220 := by rw [t304]; exact rd_56_2 hI_s244
        obtain ⟨x305, t306⟩ : ∃ z : Int32, z = s244.1 56 3 := ⟨_, rfl⟩
        have r_x305 : mh_r x305 0 220 := by rw [t306]; exact rd_56_3 hI_s244
        refine mw_aload_n 11 rfl 0 dX4_readSum_10 rfl rfl ?_
        refine mw_geti 14 rfl dX4_readSum_11 gf_X4_15 rfl (fun x307 t308 => ?_)
        obtain rfl : x305 = x307 := t306.trans t308.symm
        refine mw_aload_n 15 rfl 0 dX4_readSum_14 rfl rfl ?_
        refine mw_geti 18 rfl dX4_readSum_15 gf_X4_9 rfl (fun x309 t310 => ?_)
        obtain rfl : x303 = x309 := t304.trans t310.symm
        refine mw_icmp_ge 21 rfl 75 dX4_readSum_18 (by decide) (fun c311 => ?_) (fun c311 => ?_)
        · skip
          refine mw_iconst (v := 1) 76 rfl dX4_readSum_75 (by decide) ?_
          refine mw_zret dX4_readSum_76 rfl (mh_r_wk rc_1 (by decide)) ⟨(1), rfl, ⟨(mh_r_wk rc_1 (by decide)), ?_, hI_s244, hF_s244⟩⟩
          · skip
            have := congrArg Int32.toInt t181
            have := congrArg Int32.toInt t183
            have := congrArg Int32.toInt t187
            have := congrArg Int32.toInt t189
            have := congrArg Int32.toInt t304
            have := congrArg Int32.toInt t306
            have := (r_p1).1; have := (r_p1).2
            have := (rc_1).1; have := (rc_1).2
            have := (r_x180).1; have := (r_x180).2
            have := (r_x182).1; have := (r_x182).2
            have := (r_x188).1; have := (r_x188).2
            have := (r_x303).1; have := (r_x303).2
            have := (r_x305).1; have := (r_x305).2
            have := kc_0
            have := kc_1
            have := kc_43
            have := kc_45
            omega
        · skip
          have r_x305 : mh_r x305 (0) (219) := mh_lt1 c311 r_x305 r_x303 (219) (by decide)
          have r_x303 : mh_r x303 (1) (220) := mh_lt2 c311 r_x305 r_x303 (1) (by decide)
          refine mw_aload_n 22 rfl 0 dX4_readSum_21 rfl rfl ?_
          refine mw_callVi [] [] 25 rfl dX4_readSum_22 ml_X4_51 mc_X4_sign mk_X4_sign rfl rfl (by decide) (w_X4_sign l G (d + H + 5) ⟨by omega, by omega⟩ hI_s244) rfl rfl (Nat.le_of_ble_eq_true rfl) (mh_rok (by omega) (by decide)) (fun x312 s313 q314 => ?_)
          obtain ⟨r_x312, e0_s313, rfl⟩ := q314
          have hq_x312 : 0 ≤ x312.toInt → x305.toInt < x303.toInt := by have h9 := e0_s313; rw [← t306, ← t304] at h9; exact h9
          refine mw_bipush (v := 43) 27 rfl dX4_readSum_25 (by decide) ?_
          refine mw_icmp_eq 30 rfl 39 dX4_readSum_27 (by decide) (fun c315 => ?_) (fun c315 => ?_)
          · skip
            have r_x312 : mh_r x312 (43) (43) := mh_eq1 c315 r_x312 rc_43 (43) (43) (by decide)
            refine mw_aload_n 40 rfl 0 dX4_readSum_39 rfl rfl ?_
            refine mw_callVi [] [] 43 rfl dX4_readSum_40 ml_X4_51 mc_X4_sign mk_X4_sign rfl rfl (by decide) (w_X4_sign l G (d + H + 5) ⟨by omega, by omega⟩ hI_s244) rfl rfl (Nat.le_of_ble_eq_true rfl) (mh_rok (by omega) (by decide)) (fun x316 s317 q318 => ?_)
            obtain ⟨r_x316, e0_s317, rfl⟩ := q318
            have hq_x316 : 0 ≤ x316.toInt → x305.toInt < x303.toInt := by have h9 := e0_s317; rw [← t306, ← t304] at h9; exact h9
            refine mw_istore_n 44 rfl [(2, .int x316), (0, .ref (G.2.2.2 56)), (1, .int p1)] dX4_readSum_43 rfl (by decide) rfl ?_
            refine mw_aload_n 45 rfl 1 dX4_readSum_44 rfl rfl ?_
            refine mw_dup 46 rfl dX4_readSum_45 rfl ?_
            refine mw_geti 49 rfl dX4_readSum_46 gf_X4_15 rfl (fun x319 t320 => ?_)
            obtain rfl : x305 = x319 := t306.trans t320.symm
            refine mw_iconst (v := 1) 50 rfl dX4_readSum_49 (by decide) ?_
            refine mw_iadd 51 rfl (1) (220) dX4_readSum_50 r_x305 rc_1 (by decide) (fun x321 t322 r_x321 => ?_)
            refine mw_puti 54 rfl dX4_readSum_51 pf_X4_15 rfl (fun s323 t324 => ?_)
            have hI_s323 : mh_I B D s323 := by rw [t324]; exact wr_56_3 hI_s244 (mh_r_wk r_x321 (by decide))
            have hF_s323 : mh_F S_X4_rd s0 s323 := by rw [t324]; exact mh_F_pI hF_s244 (mh_sj 0 rfl)
            refine mw_aload_n 55 rfl 1 dX4_readSum_54 rfl rfl ?_
            refine mw_iload_n 56 rfl 2 dX4_readSum_55 rfl rfl ?_
            have t325 : x303 = s323.1 56 2 := by rw [t324]; exact (t304).trans (mh_pI_n (by omega)).symm
            have t326 : x321 = s323.1 56 3 := by rw [t324]; exact mh_pI_s.symm
            refine mw_callVi [.int p1] [] 59 rfl dX4_readSum_56 ml_X4_98 mc_X4_readTerm mk_X4_readTerm rfl rfl (by decide) (w_X4_readTerm l G (d + 0) hB hI_s323 p1 r_p1 H ih) rfl rfl (Nat.le_of_ble_eq_true rfl) (mh_rok (by omega) (by decide)) (fun x327 s328 q329 => ?_)
            obtain ⟨r_x327, e0_s328, hI_s328, hG_s328⟩ := q329
            have hF_s328 : mh_F S_X4_rd s0 s328 := mh_F_tl hF_s323 hG_s328 (by decide +kernel)
            have t330 : x303 = s328.1 56 2 := (t325).trans (hG_s328 56 2 (mh_nsI (by rfl))).1.symm
            obtain ⟨x331, t332⟩ : ∃ z : Int32, z = s328.1 56 3 := ⟨_, rfl⟩
            have r_x331 : mh_r x331 0 220 := by rw [t332]; exact rd_56_3 hI_s328
            refine mw_if_ne 62 rfl 64 dX4_readSum_59 (by decide) (fun c333 => ?_) (fun c333 => ?_)
            · skip
              have r_x327 : mh_r x327 (1) (1) := mh_ne1 (show x327.toInt ≠ (0 : Int32).toInt from c333) r_x327 rc_0 (1) (1) (by decide)
              refine mw_aload_n 65 rfl 1 dX4_readSum_64 rfl rfl ?_
              obtain ⟨k335, t334⟩ : ∃ y : Nat, s328.2.2 56 1 = y := ⟨_, rfl⟩
              have hk335 : mh_isL k335 := by rw [← t334]; exact hI_s328.2.1.2.2.2
              refine mw_geta 68 rfl dX4_readSum_65 gf_X4_25 rfl k335 t334 ?_
              refine mw_iload_n 69 rfl 0 dX4_readSum_68 rfl rfl ?_
              refine mw_callVv [.int x316] [] 72 rfl dX4_readSum_69 ml_X4_95 mc_X1_put mk_X1_put (ly_L hk335) rfl (by decide) (w_X1_put l G (d + H + 5) ⟨by omega, by omega⟩ hI_s328 k335 hk335 x316) rfl rfl (Nat.le_of_ble_eq_true rfl) (mh_rok (by omega) (by decide)) (fun s337 q338 => ?_)
              obtain ⟨hI_s337, hG_s337⟩ := q338
              have hF_s337 : mh_F S_X4_rd s0 s337 := mh_F_tl hF_s328 hG_s337 (by rcases hk335 with rfl | rfl <;> decide +kernel)
              have t339 : x303 = s337.1 56 2 := (t330).trans (hG_s337 56 2 (mh_nsI (by rcases hk335 with rfl | rfl <;> rfl))).1.symm
              have t340 : x331 = s337.1 56 3 := (t332).trans (hG_s337 56 3 (mh_nsI (by rcases hk335 with rfl | rfl <;> rfl))).1.symm
              refine mw_goto 75 rfl 10 dX4_readSum_72 (by decide) ?_
              exact mw_lv [1, 2] rfl (ihn1 s337 hI_s337 hF_s337 (by
                  have := congrArg Int32.toInt t181
                  have := congrArg Int32.toInt t183
                  have := congrArg Int32.toInt t187
                  have := congrArg Int32.toInt t189
                  have := congrArg Int32.toInt t304
                  have := congrArg Int32.toInt t306
                  have := congrArg Int32.toInt t325
                  have := congrArg Int32.toInt t326
                  have := congrArg Int32.toInt t330
                  have := congrArg Int32.toInt t332
                  have := congrArg Int32.toInt t339
                  have := congrArg Int32.toInt t340
                  have := (r_x316).1; have := (r_x316).2
                  have := (r_p1).1; have := (r_p1).2
                  have := (r_x180).1; have := (r_x180).2
                  have := (r_x182).1; have := (r_x182).2
                  have := (r_x188).1; have := (r_x188).2
                  have := (r_x303).1; have := (r_x303).2
                  have := (r_x305).1; have := (r_x305).2
                  have := (r_x321).1; have := (r_x321).2
                  have := (r_x331).1; have := (r_x331).2
                  have := (rc_1).1; have := (rc_1).2
                  have := kc_0
                  have := kc_1
                  have := kc_43
                  have := kc_45
                  omega) (by have := congrArg Int32.toInt t181; have := congrArg Int32.toInt t183; have := congrArg Int32.toInt t187; have := congrArg Int32.toInt t189; have := congrArg Int32.toInt t304; have := congrArg Int32.toInt t306; have := congrArg Int32.toInt t325; have := congrArg Int32.toInt t326; have := congrArg Int32.toInt t330; have := congrArg Int32.toInt t332; have := congrArg Int32.toInt t339; have := congrArg Int32.toInt t340; have := (r_x316).1; have := (r_x316).2; have := (r_p1).1; have := (r_p1).2; have := (r_x180).1; have := (r_x180).2; have := (r_x182).1; have := (r_x182).2; have := (r_x188).1; have := (r_x188).2; have := (r_x303).1; have := (r_x303).2; have := (r_x305).1; have := (r_x305).2; have := (r_x321).1; have := (r_x321).2; have := (r_x331).1; have := (r_x331).2; have := (rc_1).1; have := (rc_1).2; have := kc_0; have := kc_1; have := kc_43; have := kc_45; omega))
            · skip
              have r_x327 : mh_r x327 (0) (0) := mh_eq1 (show x327.toInt = (0 : Int32).toInt from c333) r_x327 rc_0 (0) (0) (by decide)
              refine mw_iconst (v := 0) 63 rfl dX4_readSum_62 (by decide) ?_
              refine mw_zret dX4_readSum_63 rfl (mh_r_wk rc_0 (by decide)) ⟨(0), rfl, ⟨(mh_r_wk rc_0 (by decide)), ?_, hI_s328, hF_s328⟩⟩
              · skip
                have := congrArg Int32.toInt t181
                have := congrArg Int32.toInt t183
                have := congrArg Int32.toInt t187
                have := congrArg Int32.toInt t189
                have := congrArg Int32.toInt t304
                have := congrArg Int32.toInt t306
                have := congrArg Int32.toInt t325
                have := congrArg Int32.toInt t326
                have := congrArg Int32.toInt t330
                have := congrArg Int32.toInt t332
                have := (r_x316).1; have := (r_x316).2
                have := (r_p1).1; have := (r_p1).2
                have := (rc_0).1; have := (rc_0).2
                have := (r_x180).1; have := (r_x180).2
                have := (r_x182).1; have := (r_x182).2
                have := (r_x188).1; have := (r_x188).2
                have := (r_x303).1; have := (r_x303).2
                have := (r_x305).1; have := (r_x305).2
                have := (r_x321).1; have := (r_x321).2
                have := (r_x331).1; have := (r_x331).2
                have := (rc_1).1; have := (rc_1).2
                have := kc_0
                have := kc_1
                have := kc_43
                have := kc_45
                omega
          · skip
            refine mw_aload_n 31 rfl 0 dX4_readSum_30 rfl rfl ?_
            refine mw_callVi [] [] 34 rfl dX4_readSum_31 ml_X4_51 mc_X4_sign mk_X4_sign rfl rfl (by decide) (w_X4_sign l G (d + H + 5) ⟨by omega, by omega⟩ hI_s244) rfl rfl (Nat.le_of_ble_eq_true rfl) (mh_rok (by omega) (by decide)) (fun x341 s342 q343 => ?_)
            obtain ⟨r_x341, e0_s342, rfl⟩ := q343
            have hq_x341 : 0 ≤ x341.toInt → x305.toInt < x303.toInt := by have h9 := e0_s342; rw [← t306, ← t304] at h9; exact h9
            refine mw_bipush (v := 45) 36 rfl dX4_readSum_34 (by decide) ?_
            refine mw_icmp_ne 39 rfl 75 dX4_readSum_36 (by decide) (fun c344 => ?_) (fun c344 => ?_)
            · skip
              refine mw_iconst (v := 1) 76 rfl dX4_readSum_75 (by decide) ?_
              refine mw_zret dX4_readSum_76 rfl (mh_r_wk rc_1 (by decide)) ⟨(1), rfl, ⟨(mh_r_wk rc_1 (by decide)), ?_, hI_s244, hF_s244⟩⟩
              · skip
                have := congrArg Int32.toInt t181
                have := congrArg Int32.toInt t183
                have := congrArg Int32.toInt t187
                have := congrArg Int32.toInt t189
                have := congrArg Int32.toInt t304
                have := congrArg Int32.toInt t306
                have := (r_p1).1; have := (r_p1).2
                have := (rc_1).1; have := (rc_1).2
                have := (r_x180).1; have := (r_x180).2
                have := (r_x182).1; have := (r_x182).2
                have := (r_x188).1; have := (r_x188).2
                have := (r_x303).1; have := (r_x303).2
                have := (r_x305).1; have := (r_x305).2
                have := kc_0
                have := kc_1
                have := kc_43
                have := kc_45
                omega
            · skip
              have r_x341 : mh_r x341 (45) (45) := mh_eq1 c344 r_x341 rc_45 (45) (45) (by decide)
              refine mw_aload_n 40 rfl 0 dX4_readSum_39 rfl rfl ?_
              refine mw_callVi [] [] 43 rfl dX4_readSum_40 ml_X4_51 mc_X4_sign mk_X4_sign rfl rfl (by decide) (w_X4_sign l G (d + H + 5) ⟨by omega, by omega⟩ hI_s244) rfl rfl (Nat.le_of_ble_eq_true rfl) (mh_rok (by omega) (by decide)) (fun x345 s346 q347 => ?_)
              obtain ⟨r_x345, e0_s346, rfl⟩ := q347
              have hq_x345 : 0 ≤ x345.toInt → x305.toInt < x303.toInt := by have h9 := e0_s346; rw [← t306, ← t304] at h9; exact h9
              refine mw_istore_n 44 rfl [(2, .int x345), (0, .ref (G.2.2.2 56)), (1, .int p1)] dX4_readSum_43 rfl (by decide) rfl ?_
              refine mw_aload_n 45 rfl 1 dX4_readSum_44 rfl rfl ?_
              refine mw_dup 46 rfl dX4_readSum_45 rfl ?_
              refine mw_geti 49 rfl dX4_readSum_46 gf_X4_15 rfl (fun x348 t349 => ?_)
              obtain rfl : x305 = x348 := t306.trans t349.symm
              refine mw_iconst (v := 1) 50 rfl dX4_readSum_49 (by decide) ?_
              refine mw_iadd 51 rfl (1) (220) dX4_readSum_50 r_x305 rc_1 (by decide) (fun x350 t351 r_x350 => ?_)
              refine mw_puti 54 rfl dX4_readSum_51 pf_X4_15 rfl (fun s352 t353 => ?_)
              have hI_s352 : mh_I B D s352 := by rw [t353]; exact wr_56_3 hI_s244 (mh_r_wk r_x350 (by decide))
              have hF_s352 : mh_F S_X4_rd s0 s352 := by rw [t353]; exact mh_F_pI hF_s244 (mh_sj 0 rfl)
              refine mw_aload_n 55 rfl 1 dX4_readSum_54 rfl rfl ?_
              refine mw_iload_n 56 rfl 2 dX4_readSum_55 rfl rfl ?_
              have t354 : x303 = s352.1 56 2 := by rw [t353]; exact (t304).trans (mh_pI_n (by omega)).symm
              have t355 : x350 = s352.1 56 3 := by rw [t353]; exact mh_pI_s.symm
              refine mw_callVi [.int p1] [] 59 rfl dX4_readSum_56 ml_X4_98 mc_X4_readTerm mk_X4_readTerm rfl rfl (by decide) (w_X4_readTerm l G (d + 0) hB hI_s352 p1 r_p1 H ih) rfl rfl (Nat.le_of_ble_eq_true rfl) (mh_rok (by omega) (by decide)) (fun x356 s357 q358 => ?_)
              obtain ⟨r_x356, e0_s357, hI_s357, hG_s357⟩ := q358
              have hF_s357 : mh_F S_X4_rd s0 s357 := mh_F_tl hF_s352 hG_s357 (by decide +kernel)
              have t359 : x303 = s357.1 56 2 := (t354).trans (hG_s357 56 2 (mh_nsI (by rfl))).1.symm
              obtain ⟨x360, t361⟩ : ∃ z : Int32, z = s357.1 56 3 := ⟨_, rfl⟩
              have r_x360 : mh_r x360 0 220 := by rw [t361]; exact rd_56_3 hI_s357
              refine mw_if_ne 62 rfl 64 dX4_readSum_59 (by decide) (fun c362 => ?_) (fun c362 => ?_)
              · skip
                have r_x356 : mh_r x356 (1) (1) := mh_ne1 (show x356.toInt ≠ (0 : Int32).toInt from c362) r_x356 rc_0 (1) (1) (by decide)
                refine mw_aload_n 65 rfl 1 dX4_readSum_64 rfl rfl ?_
                obtain ⟨k364, t363⟩ : ∃ y : Nat, s357.2.2 56 1 = y := ⟨_, rfl⟩
                have hk364 : mh_isL k364 := by rw [← t363]; exact hI_s357.2.1.2.2.2
                refine mw_geta 68 rfl dX4_readSum_65 gf_X4_25 rfl k364 t363 ?_
                refine mw_iload_n 69 rfl 0 dX4_readSum_68 rfl rfl ?_
                refine mw_callVv [.int x345] [] 72 rfl dX4_readSum_69 ml_X4_95 mc_X1_put mk_X1_put (ly_L hk364) rfl (by decide) (w_X1_put l G (d + H + 5) ⟨by omega, by omega⟩ hI_s357 k364 hk364 x345) rfl rfl (Nat.le_of_ble_eq_true rfl) (mh_rok (by omega) (by decide)) (fun s366 q367 => ?_)
                obtain ⟨hI_s366, hG_s366⟩ := q367
                have hF_s366 : mh_F S_X4_rd s0 s366 := mh_F_tl hF_s357 hG_s366 (by rcases hk364 with rfl | rfl <;> decide +kernel)
                have t368 : x303 = s366.1 56 2 := (t359).trans (hG_s366 56 2 (mh_nsI (by rcases hk364 with rfl | rfl <;> rfl))).1.symm
                have t369 : x360 = s366.1 56 3 := (t361).trans (hG_s366 56 3 (mh_nsI (by rcases hk364 with rfl | rfl <;> rfl))).1.symm
                refine mw_goto 75 rfl 10 dX4_readSum_72 (by decide) ?_
                exact mw_lv [1, 2] rfl (ihn1 s366 hI_s366 hF_s366 (by
                    have := congrArg Int32.toInt t181
                    have := congrArg Int32.toInt t183
                    have := congrArg Int32.toInt t187
                    have := congrArg Int32.toInt t189
                    have := congrArg Int32.toInt t304
                    have := congrArg Int32.toInt t306
                    have := congrArg Int32.toInt t354
                    have := congrArg Int32.toInt t355
                    have := congrArg Int32.toInt t359
                    have := congrArg Int32.toInt t361
                    have := congrArg Int32.toInt t368
                    have := congrArg Int32.toInt t369
                    have := (r_x345).1; have := (r_x345).2
                    have := (r_p1).1; have := (r_p1).2
                    have := (r_x180).1; have := (r_x180).2
                    have := (r_x182).1; have := (r_x182).2
                    have := (r_x188).1; have := (r_x188).2
                    have := (r_x303).1; have := (r_x303).2
                    have := (r_x305).1; have := (r_x305).2
                    have := (r_x350).1; have := (r_x350).2
                    have := (r_x360).1; have := (r_x360).2
                    have := (rc_1).1; have := (rc_1).2
                    have := kc_0
                    have := kc_1
                    have := kc_43
                    have := kc_45
                    omega) (by have := congrArg Int32.toInt t181; have := congrArg Int32.toInt t183; have := congrArg Int32.toInt t187; have := congrArg Int32.toInt t189; have := congrArg Int32.toInt t304; have := congrArg Int32.toInt t306; have := congrArg Int32.toInt t354; have := congrArg Int32.toInt t355; have := congrArg Int32.toInt t359; have := congrArg Int32.toInt t361; have := congrArg Int32.toInt t368; have := congrArg Int32.toInt t369; have := (r_x345).1; have := (r_x345).2; have := (r_p1).1; have := (r_p1).2; have := (r_x180).1; have := (r_x180).2; have := (r_x182).1; have := (r_x182).2; have := (r_x188).1; have := (r_x188).2; have := (r_x303).1; have := (r_x303).2; have := (r_x305).1; have := (r_x305).2; have := (r_x350).1; have := (r_x350).2; have := (r_x360).1; have := (r_x360).2; have := (rc_1).1; have := (rc_1).2; have := kc_0; have := kc_1; have := kc_43; have := kc_45; omega))
              · skip
                have r_x356 : mh_r x356 (0) (0) := mh_eq1 (show x356.toInt = (0 : Int32).toInt from c362) r_x356 rc_0 (0) (0) (by decide)
                refine mw_iconst (v := 0) 63 rfl dX4_readSum_62 (by decide) ?_
                refine mw_zret dX4_readSum_63 rfl (mh_r_wk rc_0 (by decide)) ⟨(0), rfl, ⟨(mh_r_wk rc_0 (by decide)), ?_, hI_s357, hF_s357⟩⟩
                · skip
                  have := congrArg Int32.toInt t181
                  have := congrArg Int32.toInt t183
                  have := congrArg Int32.toInt t187
                  have := congrArg Int32.toInt t189
                  have := congrArg Int32.toInt t304
                  have := congrArg Int32.toInt t306
                  have := congrArg Int32.toInt t354
                  have := congrArg Int32.toInt t355
                  have := congrArg Int32.toInt t359
                  have := congrArg Int32.toInt t361
                  have := (r_x345).1; have := (r_x345).2
                  have := (r_p1).1; have := (r_p1).2
                  have := (rc_0).1; have := (rc_0).2
                  have := (r_x180).1; have := (r_x180).2
                  have := (r_x182).1; have := (r_x182).2
                  have := (r_x188).1; have := (r_x188).2
                  have := (r_x303).1; have := (r_x303).2
                  have := (r_x305).1; have := (r_x305).2
                  have := (r_x350).1; have := (r_x350).2
                  have := (r_x360).1; have := (r_x360).2
                  have := (rc_1).1; have := (rc_1).2
                  have := kc_0
                  have := kc_1
                  have := kc_43
                  have := kc_45
                  omega
    exact mw_lv [0, 1] rfl (L10 222 s185 hI_s185 hF_s185 (by
        have := congrArg Int32.toInt t181
        have := congrArg Int32.toInt t183
        have := congrArg Int32.toInt t187
        have := congrArg Int32.toInt t189
        have := (r_p1).1; have := (r_p1).2
        have := (r_x180).1; have := (r_x180).2
        have := (r_x182).1; have := (r_x182).2
        have := (r_x188).1; have := (r_x188).2
        have := kc_0
        have := kc_1
        have := kc_43
        have := kc_45
        omega) (by have := (rd_56_3 hI_s185).1; omega))
  · skip
    have r_x184 : mh_r x184 (0) (0) := mh_eq1 (show x184.toInt = (0 : Int32).toInt from c190) r_x184 rc_0 (0) (0) (by decide)
    refine mw_iconst (v := 0) 9 rfl dX4_readSum_8 (by decide) ?_
    refine mw_zret dX4_readSum_9 rfl (mh_r_wk rc_0 (by decide)) ⟨(0), rfl, ⟨(mh_r_wk rc_0 (by decide)), ?_, hI_s185, hF_s185⟩⟩
    · skip
      have := congrArg Int32.toInt t181
      have := congrArg Int32.toInt t183
      have := congrArg Int32.toInt t187
      have := congrArg Int32.toInt t189
      have := (r_p1).1; have := (r_p1).2
      have := (rc_0).1; have := (rc_0).2
      have := (r_x180).1; have := (r_x180).2
      have := (r_x182).1; have := (r_x182).2
      have := (r_x188).1; have := (r_x188).2
      have := kc_0
      have := kc_1
      have := kc_43
      have := kc_45
      omega

set_option maxRecDepth 100000 in
set_option maxHeartbeats 4000000 in
theorem w_X4_readCompared (l : Launch) (G : mh_G) (d : Nat) {B D : Int} (hB : B ≤ 1700000000 ∧ D ≤ 1700000000) {s0 : mh_H} (hI0 : mh_I B D s0) (p1 : Int32) (r_p1 : mh_r p1 (0) (6)) (H : Nat) (ih : p1.toInt < 6 → mh_RB l G H (p1.toInt + 1)) : mh_Mi l G (d + (H + 7)) mM_X4_readCompared [.ref (G.2.2.2 56), .int p1] s0 (P_X4_rd B D s0) := by
  refine mh_enter (lv := [(0, .ref (G.2.2.2 56)), (1, .int p1)]) (by decide) rfl (Nat.le_of_ble_eq_true rfl) ?_
  have hF0 : mh_F S_X4_rd s0 s0 := mh_F_rf
  obtain ⟨x65, t66⟩ : ∃ z : Int32, z = s0.1 56 2 := ⟨_, rfl⟩
  have r_x65 : mh_r x65 0 220 := by rw [t66]; exact rd_56_2 hI0
  obtain ⟨x67, t68⟩ : ∃ z : Int32, z = s0.1 56 3 := ⟨_, rfl⟩
  have r_x67 : mh_r x67 0 220 := by rw [t68]; exact rd_56_3 hI0
  refine mw_aload_n 1 rfl 0 dX4_readCompared_0 rfl rfl ?_
  refine mw_callVi [] [] 4 rfl dX4_readCompared_1 ml_X4_51 mc_X4_sign mk_X4_sign rfl rfl (by decide) (w_X4_sign l G (d + H + 6) ⟨by omega, by omega⟩ hI0) rfl rfl (Nat.le_of_ble_eq_true rfl) (mh_rok (by omega) (by decide)) (fun x69 s70 q71 => ?_)
  obtain ⟨r_x69, e0_s70, rfl⟩ := q71
  have hq_x69 : 0 ≤ x69.toInt → x67.toInt < x65.toInt := by have h9 := e0_s70; rw [← t68, ← t66] at h9; exact h9
  refine mw_istore_n 5 rfl [(2, .int x69), (0, .ref (G.2.2.2 56)), (1, .int p1)] dX4_readCompared_4 rfl (by decide) rfl ?_
  refine mw_iload_n 6 rfl 0 dX4_readCompared_5 rfl rfl ?_
  refine mw_bipush (v := 60) 8 rfl dX4_readCompared_6 (by decide) ?_
  refine mw_icmp_eq 11 rfl 29 dX4_readCompared_8 (by decide) (fun c72 => ?_) (fun c72 => ?_)
  · skip
    have r_x69 : mh_r x69 (60) (60) := mh_eq1 c72 r_x69 rc_60 (60) (60) (by decide)
    refine mw_aload_n 30 rfl 1 dX4_readCompared_29 rfl rfl ?_
    refine mw_dup 31 rfl dX4_readCompared_30 rfl ?_
    refine mw_geti 34 rfl dX4_readCompared_31 gf_X4_15 rfl (fun x73 t74 => ?_)
    obtain rfl : x67 = x73 := t68.trans t74.symm
    have r_x67 : mh_r x67 (0) (219) := ⟨(r_x67).1, by have := congrArg Int32.toInt t66; have := congrArg Int32.toInt t68; have := (r_x69).1; have := (r_x69).2; have := (r_p1).1; have := (r_p1).2; have := (r_x67).1; have := (r_x67).2; have := (r_x65).1; have := (r_x65).2; have := kc_0; have := kc_1; have := kc_60; have := kc_61; have := kc_62; omega⟩
    refine mw_iconst (v := 1) 35 rfl dX4_readCompared_34 (by decide) ?_
    refine mw_iadd 36 rfl (1) (220) dX4_readCompared_35 r_x67 rc_1 (by decide) (fun x75 t76 r_x75 => ?_)
    refine mw_puti 39 rfl dX4_readCompared_36 pf_X4_15 rfl (fun s77 t78 => ?_)
    have hI_s77 : mh_I B D s77 := by rw [t78]; exact wr_56_3 hI0 (mh_r_wk r_x75 (by decide))
    have hF_s77 : mh_F S_X4_rd s0 s77 := by rw [t78]; exact mh_F_pI hF0 (mh_sj 0 rfl)
    refine mw_aload_n 40 rfl 1 dX4_readCompared_39 rfl rfl ?_
    refine mw_iload_n 41 rfl 2 dX4_readCompared_40 rfl rfl ?_
    have t79 : x65 = s77.1 56 2 := by rw [t78]; exact (t66).trans (mh_pI_n (by omega)).symm
    have t80 : x75 = s77.1 56 3 := by rw [t78]; exact mh_pI_s.symm
    refine mw_callVi [.int p1] [] 44 rfl dX4_readCompared_41 ml_X4_69 mc_X4_readSum mk_X4_readSum rfl rfl (by decide) (w_X4_readSum l G (d + 0) hB hI_s77 p1 r_p1 H ih) rfl rfl (Nat.le_of_ble_eq_true rfl) (mh_rok (by omega) (by decide)) (fun x81 s82 q83 => ?_)
    obtain ⟨r_x81, e0_s82, hI_s82, hG_s82⟩ := q83
    have hF_s82 : mh_F S_X4_rd s0 s82 := mh_F_tl hF_s77 hG_s82 (by decide +kernel)
    have t84 : x65 = s82.1 56 2 := (t79).trans (hG_s82 56 2 (mh_nsI (by rfl))).1.symm
    obtain ⟨x85, t86⟩ : ∃ z : Int32, z = s82.1 56 3 := ⟨_, rfl⟩
    have r_x85 : mh_r x85 0 220 := by rw [t86]; exact rd_56_3 hI_s82
    refine mw_if_ne 47 rfl 49 dX4_readCompared_44 (by decide) (fun c87 => ?_) (fun c87 => ?_)
    · skip
      have r_x81 : mh_r x81 (1) (1) := mh_ne1 (show x81.toInt ≠ (0 : Int32).toInt from c87) r_x81 rc_0 (1) (1) (by decide)
      refine mw_aload_n 50 rfl 1 dX4_readCompared_49 rfl rfl ?_
      obtain ⟨k89, t88⟩ : ∃ y : Nat, s82.2.2 56 1 = y := ⟨_, rfl⟩
      have hk89 : mh_isL k89 := by rw [← t88]; exact hI_s82.2.1.2.2.2
      refine mw_geta 53 rfl dX4_readCompared_50 gf_X4_25 rfl k89 t88 ?_
      refine mw_iload_n 54 rfl 0 dX4_readCompared_53 rfl rfl ?_
      refine mw_callVv [.int x69] [] 57 rfl dX4_readCompared_54 ml_X4_95 mc_X1_put mk_X1_put (ly_L hk89) rfl (by decide) (w_X1_put l G (d + H + 6) ⟨by omega, by omega⟩ hI_s82 k89 hk89 x69) rfl rfl (Nat.le_of_ble_eq_true rfl) (mh_rok (by omega) (by decide)) (fun s91 q92 => ?_)
      obtain ⟨hI_s91, hG_s91⟩ := q92
      have hF_s91 : mh_F S_X4_rd s0 s91 := mh_F_tl hF_s82 hG_s91 (by rcases hk89 with rfl | rfl <;> decide +kernel)
      have t93 : x65 = s91.1 56 2 := (t84).trans (hG_s91 56 2 (mh_nsI (by rcases hk89 with rfl | rfl <;> rfl))).1.symm
      have t94 : x85 = s91.1 56 3 := (t86).trans (hG_s91 56 3 (mh_nsI (by rcases hk89 with rfl | rfl <;> rfl))).1.symm
      refine mw_iconst (v := 1) 58 rfl dX4_readCompared_57 (by decide) ?_
      refine mw_zret dX4_readCompared_58 rfl (mh_r_wk rc_1 (by decide)) ⟨(1), rfl, ⟨(mh_r_wk rc_1 (by decide)), ?_, hI_s91, hF_s91⟩⟩
      · skip
        have := congrArg Int32.toInt t66
        have := congrArg Int32.toInt t68
        have := congrArg Int32.toInt t79
        have := congrArg Int32.toInt t80
        have := congrArg Int32.toInt t84
        have := congrArg Int32.toInt t86
        have := congrArg Int32.toInt t93
        have := congrArg Int32.toInt t94
        have := (r_x69).1; have := (r_x69).2
        have := (r_p1).1; have := (r_p1).2
        have := (rc_1).1; have := (rc_1).2
        have := (r_x65).1; have := (r_x65).2
        have := (r_x67).1; have := (r_x67).2
        have := (r_x75).1; have := (r_x75).2
        have := (r_x85).1; have := (r_x85).2
        have := kc_0
        have := kc_1
        have := kc_60
        have := kc_61
        have := kc_62
        omega
    · skip
      have r_x81 : mh_r x81 (0) (0) := mh_eq1 (show x81.toInt = (0 : Int32).toInt from c87) r_x81 rc_0 (0) (0) (by decide)
      refine mw_iconst (v := 0) 48 rfl dX4_readCompared_47 (by decide) ?_
      refine mw_zret dX4_readCompared_48 rfl (mh_r_wk rc_0 (by decide)) ⟨(0), rfl, ⟨(mh_r_wk rc_0 (by decide)), ?_, hI_s82, hF_s82⟩⟩
      · skip
        have := congrArg Int32.toInt t66
        have := congrArg Int32.toInt t68
        have := congrArg Int32.toInt t79
        have := congrArg Int32.toInt t80
        have := congrArg Int32.toInt t84
        have := congrArg Int32.toInt t86
        have := (r_x69).1; have := (r_x69).2
        have := (r_p1).1; have := (r_p1).2
        have := (rc_0).1; have := (rc_0).2
        have := (r_x65).1; have := (r_x65).2
        have := (r_x67).1; have := (r_x67).2
        have := (r_x75).1; have := (r_x75).2
        have := (r_x85).1; have := (r_x85).2
        have := (rc_1).1; have := (rc_1).2
        have := kc_0
        have := kc_1
        have := kc_60
        have := kc_61
        have := kc_62
        omega
  · skip
    refine mw_iload_n 12 rfl 0 dX4_readCompared_11 rfl rfl ?_
    refine mw_bipush (v := 62) 14 rfl dX4_readCompared_12 (by decide) ?_
    refine mw_icmp_eq 17 rfl 29 dX4_readCompared_14 (by decide) (fun c95 => ?_) (fun c95 => ?_)
    · skip
      have r_x69 : mh_r x69 (62) (62) := mh_eq1 c95 r_x69 rc_62 (62) (62) (by decide)
      refine mw_aload_n 30 rfl 1 dX4_readCompared_29 rfl rfl ?_
      refine mw_dup 31 rfl dX4_readCompared_30 rfl ?_
      refine mw_geti 34 rfl dX4_readCompared_31 gf_X4_15 rfl (fun x96 t97 => ?_)
      obtain rfl : x67 = x96 := t68.trans t97.symm
      have r_x67 : mh_r x67 (0) (219) := ⟨(r_x67).1, by have := congrArg Int32.toInt t66; have := congrArg Int32.toInt t68; have := (r_x69).1; have := (r_x69).2; have := (r_p1).1; have := (r_p1).2; have := (r_x67).1; have := (r_x67).2; have := (r_x65).1; have := (r_x65).2; have := kc_0; have := kc_1; have := kc_60; have := kc_61; have := kc_62; omega⟩
      refine mw_iconst (v := 1) 35 rfl dX4_readCompared_34 (by decide) ?_
      refine mw_iadd 36 rfl (1) (220) dX4_readCompared_35 r_x67 rc_1 (by decide) (fun x98 t99 r_x98 => ?_)
      refine mw_puti 39 rfl dX4_readCompared_36 pf_X4_15 rfl (fun s100 t101 => ?_)
      have hI_s100 : mh_I B D s100 := by rw [t101]; exact wr_56_3 hI0 (mh_r_wk r_x98 (by decide))
      have hF_s100 : mh_F S_X4_rd s0 s100 := by rw [t101]; exact mh_F_pI hF0 (mh_sj 0 rfl)
      refine mw_aload_n 40 rfl 1 dX4_readCompared_39 rfl rfl ?_
      refine mw_iload_n 41 rfl 2 dX4_readCompared_40 rfl rfl ?_
      have t102 : x65 = s100.1 56 2 := by rw [t101]; exact (t66).trans (mh_pI_n (by omega)).symm
      have t103 : x98 = s100.1 56 3 := by rw [t101]; exact mh_pI_s.symm
      refine mw_callVi [.int p1] [] 44 rfl dX4_readCompared_41 ml_X4_69 mc_X4_readSum mk_X4_readSum rfl rfl (by decide) (w_X4_readSum l G (d + 0) hB hI_s100 p1 r_p1 H ih) rfl rfl (Nat.le_of_ble_eq_true rfl) (mh_rok (by omega) (by decide)) (fun x104 s105 q106 => ?_)
      obtain ⟨r_x104, e0_s105, hI_s105, hG_s105⟩ := q106
      have hF_s105 : mh_F S_X4_rd s0 s105 := mh_F_tl hF_s100 hG_s105 (by decide +kernel)
      have t107 : x65 = s105.1 56 2 := (t102).trans (hG_s105 56 2 (mh_nsI (by rfl))).1.symm
      obtain ⟨x108, t109⟩ : ∃ z : Int32, z = s105.1 56 3 := ⟨_, rfl⟩
      have r_x108 : mh_r x108 0 220 := by rw [t109]; exact rd_56_3 hI_s105
      refine mw_if_ne 47 rfl 49 dX4_readCompared_44 (by decide) (fun c110 => ?_) (fun c110 => ?_)
      · skip
        have r_x104 : mh_r x104 (1) (1) := mh_ne1 (show x104.toInt ≠ (0 : Int32).toInt from c110) r_x104 rc_0 (1) (1) (by decide)
        refine mw_aload_n 50 rfl 1 dX4_readCompared_49 rfl rfl ?_
        obtain ⟨k112, t111⟩ : ∃ y : Nat, s105.2.2 56 1 = y := ⟨_, rfl⟩
        have hk112 : mh_isL k112 := by rw [← t111]; exact hI_s105.2.1.2.2.2
        refine mw_geta 53 rfl dX4_readCompared_50 gf_X4_25 rfl k112 t111 ?_
        refine mw_iload_n 54 rfl 0 dX4_readCompared_53 rfl rfl ?_
        refine mw_callVv [.int x69] [] 57 rfl dX4_readCompared_54 ml_X4_95 mc_X1_put mk_X1_put (ly_L hk112) rfl (by decide) (w_X1_put l G (d + H + 6) ⟨by omega, by omega⟩ hI_s105 k112 hk112 x69) rfl rfl (Nat.le_of_ble_eq_true rfl) (mh_rok (by omega) (by decide)) (fun s114 q115 => ?_)
        obtain ⟨hI_s114, hG_s114⟩ := q115
        have hF_s114 : mh_F S_X4_rd s0 s114 := mh_F_tl hF_s105 hG_s114 (by rcases hk112 with rfl | rfl <;> decide +kernel)
        have t116 : x65 = s114.1 56 2 := (t107).trans (hG_s114 56 2 (mh_nsI (by rcases hk112 with rfl | rfl <;> rfl))).1.symm
        have t117 : x108 = s114.1 56 3 := (t109).trans (hG_s114 56 3 (mh_nsI (by rcases hk112 with rfl | rfl <;> rfl))).1.symm
        refine mw_iconst (v := 1) 58 rfl dX4_readCompared_57 (by decide) ?_
        refine mw_zret dX4_readCompared_58 rfl (mh_r_wk rc_1 (by decide)) ⟨(1), rfl, ⟨(mh_r_wk rc_1 (by decide)), ?_, hI_s114, hF_s114⟩⟩
        · skip
          have := congrArg Int32.toInt t66
          have := congrArg Int32.toInt t68
          have := congrArg Int32.toInt t102
          have := congrArg Int32.toInt t103
          have := congrArg Int32.toInt t107
          have := congrArg Int32.toInt t109
          have := congrArg Int32.toInt t116
          have := congrArg Int32.toInt t117
          have := (r_x69).1; have := (r_x69).2
          have := (r_p1).1; have := (r_p1).2
          have := (rc_1).1; have := (rc_1).2
          have := (r_x65).1; have := (r_x65).2
          have := (r_x67).1; have := (r_x67).2
          have := (r_x98).1; have := (r_x98).2
          have := (r_x108).1; have := (r_x108).2
          have := kc_0
          have := kc_1
          have := kc_60
          have := kc_61
          have := kc_62
          omega
      · skip
        have r_x104 : mh_r x104 (0) (0) := mh_eq1 (show x104.toInt = (0 : Int32).toInt from c110) r_x104 rc_0 (0) (0) (by decide)
        refine mw_iconst (v := 0) 48 rfl dX4_readCompared_47 (by decide) ?_
        refine mw_zret dX4_readCompared_48 rfl (mh_r_wk rc_0 (by decide)) ⟨(0), rfl, ⟨(mh_r_wk rc_0 (by decide)), ?_, hI_s105, hF_s105⟩⟩
        · skip
          have := congrArg Int32.toInt t66
          have := congrArg Int32.toInt t68
          have := congrArg Int32.toInt t102
          have := congrArg Int32.toInt t103
          have := congrArg Int32.toInt t107
          have := congrArg Int32.toInt t109
          have := (r_x69).1; have := (r_x69).2
          have := (r_p1).1; have := (r_p1).2
          have := (rc_0).1; have := (rc_0).2
          have := (r_x65).1; have := (r_x65).2
          have := (r_x67).1; have := (r_x67).2
          have := (r_x98).1; have := (r_x98).2
          have := (r_x108).1; have := (r_x108).2
          have := (rc_1).1; have := (rc_1).2
          have := kc_0
          have := kc_1
          have := kc_60
          have := kc_61
          have := kc_62
          omega
    · skip
      refine mw_iload_n 18 rfl 0 dX4_readCompared_17 rfl rfl ?_
      refine mw_bipush (v := 61) 20 rfl dX4_readCompared_18 (by decide) ?_
      refine mw_icmp_eq 23 rfl 29 dX4_readCompared_20 (by decide) (fun c118 => ?_) (fun c118 => ?_)
      · skip
        have r_x69 : mh_r x69 (61) (61) := mh_eq1 c118 r_x69 rc_61 (61) (61) (by decide)
        refine mw_aload_n 30 rfl 1 dX4_readCompared_29 rfl rfl ?_
        refine mw_dup 31 rfl dX4_readCompared_30 rfl ?_
        refine mw_geti 34 rfl dX4_readCompared_31 gf_X4_15 rfl (fun x119 t120 => ?_)
        obtain rfl : x67 = x119 := t68.trans t120.symm
        have r_x67 : mh_r x67 (0) (219) := ⟨(r_x67).1, by have := congrArg Int32.toInt t66; have := congrArg Int32.toInt t68; have := (r_x69).1; have := (r_x69).2; have := (r_p1).1; have := (r_p1).2; have := (r_x67).1; have := (r_x67).2; have := (r_x65).1; have := (r_x65).2; have := kc_0; have := kc_1; have := kc_60; have := kc_61; have := kc_62; omega⟩
        refine mw_iconst (v := 1) 35 rfl dX4_readCompared_34 (by decide) ?_
        refine mw_iadd 36 rfl (1) (220) dX4_readCompared_35 r_x67 rc_1 (by decide) (fun x121 t122 r_x121 => ?_)
        refine mw_puti 39 rfl dX4_readCompared_36 pf_X4_15 rfl (fun s123 t124 => ?_)
        have hI_s123 : mh_I B D s123 := by rw [t124]; exact wr_56_3 hI0 (mh_r_wk r_x121 (by decide))
        have hF_s123 : mh_F S_X4_rd s0 s123 := by rw [t124]; exact mh_F_pI hF0 (mh_sj 0 rfl)
        refine mw_aload_n 40 rfl 1 dX4_readCompared_39 rfl rfl ?_
        refine mw_iload_n 41 rfl 2 dX4_readCompared_40 rfl rfl ?_
        have t125 : x65 = s123.1 56 2 := by rw [t124]; exact (t66).trans (mh_pI_n (by omega)).symm
        have t126 : x121 = s123.1 56 3 := by rw [t124]; exact mh_pI_s.symm
        refine mw_callVi [.int p1] [] 44 rfl dX4_readCompared_41 ml_X4_69 mc_X4_readSum mk_X4_readSum rfl rfl (by decide) (w_X4_readSum l G (d + 0) hB hI_s123 p1 r_p1 H ih) rfl rfl (Nat.le_of_ble_eq_true rfl) (mh_rok (by omega) (by decide)) (fun x127 s128 q129 => ?_)
        obtain ⟨r_x127, e0_s128, hI_s128, hG_s128⟩ := q129
        have hF_s128 : mh_F S_X4_rd s0 s128 := mh_F_tl hF_s123 hG_s128 (by decide +kernel)
        have t130 : x65 = s128.1 56 2 := (t125).trans (hG_s128 56 2 (mh_nsI (by rfl))).1.symm
        obtain ⟨x131, t132⟩ : ∃ z : Int32, z = s128.1 56 3 := ⟨_, rfl⟩
        have r_x131 : mh_r x131 0 220 := by rw [t132]; exact rd_56_3 hI_s128
        refine mw_if_ne 47 rfl 49 dX4_readCompared_44 (by decide) (fun c133 => ?_) (fun c133 => ?_)
        · skip
          have r_x127 : mh_r x127 (1) (1) := mh_ne1 (show x127.toInt ≠ (0 : Int32).toInt from c133) r_x127 rc_0 (1) (1) (by decide)
          refine mw_aload_n 50 rfl 1 dX4_readCompared_49 rfl rfl ?_
          obtain ⟨k135, t134⟩ : ∃ y : Nat, s128.2.2 56 1 = y := ⟨_, rfl⟩
          have hk135 : mh_isL k135 := by rw [← t134]; exact hI_s128.2.1.2.2.2
          refine mw_geta 53 rfl dX4_readCompared_50 gf_X4_25 rfl k135 t134 ?_
          refine mw_iload_n 54 rfl 0 dX4_readCompared_53 rfl rfl ?_
          refine mw_callVv [.int x69] [] 57 rfl dX4_readCompared_54 ml_X4_95 mc_X1_put mk_X1_put (ly_L hk135) rfl (by decide) (w_X1_put l G (d + H + 6) ⟨by omega, by omega⟩ hI_s128 k135 hk135 x69) rfl rfl (Nat.le_of_ble_eq_true rfl) (mh_rok (by omega) (by decide)) (fun s137 q138 => ?_)
          obtain ⟨hI_s137, hG_s137⟩ := q138
          have hF_s137 : mh_F S_X4_rd s0 s137 := mh_F_tl hF_s128 hG_s137 (by rcases hk135 with rfl | rfl <;> decide +kernel)
          have t139 : x65 = s137.1 56 2 := (t130).trans (hG_s137 56 2 (mh_nsI (by rcases hk135 with rfl | rfl <;> rfl))).1.symm
          have t140 : x131 = s137.1 56 3 := (t132).trans (hG_s137 56 3 (mh_nsI (by rcases hk135 with rfl | rfl <;> rfl))).1.symm
          refine mw_iconst (v := 1) 58 rfl dX4_readCompared_57 (by decide) ?_
          refine mw_zret dX4_readCompared_58 rfl (mh_r_wk rc_1 (by decide)) ⟨(1), rfl, ⟨(mh_r_wk rc_1 (by decide)), ?_, hI_s137, hF_s137⟩⟩
          · skip
            have := congrArg Int32.toInt t66
            have := congrArg Int32.toInt t68
            have := congrArg Int32.toInt t125
            have := congrArg Int32.toInt t126
            have := congrArg Int32.toInt t130
            have := congrArg Int32.toInt t132
            have := congrArg Int32.toInt t139
            have := congrArg Int32.toInt t140
            have := (r_x69).1; have := (r_x69).2
            have := (r_p1).1; have := (r_p1).2
            have := (rc_1).1; have := (rc_1).2
            have := (r_x65).1; have := (r_x65).2
            have := (r_x67).1; have := (r_x67).2
            have := (r_x121).1; have := (r_x121).2
            have := (r_x131).1; have := (r_x131).2
            have := kc_0
            have := kc_1
            have := kc_60
            have := kc_61
            have := kc_62
            omega
        · skip
          have r_x127 : mh_r x127 (0) (0) := mh_eq1 (show x127.toInt = (0 : Int32).toInt from c133) r_x127 rc_0 (0) (0) (by decide)
          refine mw_iconst (v := 0) 48 rfl dX4_readCompared_47 (by decide) ?_
          refine mw_zret dX4_readCompared_48 rfl (mh_r_wk rc_0 (by decide)) ⟨(0), rfl, ⟨(mh_r_wk rc_0 (by decide)), ?_, hI_s128, hF_s128⟩⟩
          · skip
            have := congrArg Int32.toInt t66
            have := congrArg Int32.toInt t68
            have := congrArg Int32.toInt t125
            have := congrArg Int32.toInt t126
            have := congrArg Int32.toInt t130
            have := congrArg Int32.toInt t132
            have := (r_x69).1; have := (r_x69).2
            have := (r_p1).1; have := (r_p1).2
            have := (rc_0).1; have := (rc_0).2
            have := (r_x65).1; have := (r_x65).2
            have := (r_x67).1; have := (r_x67).2
            have := (r_x121).1; have := (r_x121).2
            have := (r_x131).1; have := (r_x131).2
            have := (rc_1).1; have := (rc_1).2
            have := kc_0
            have := kc_1
            have := kc_60
            have := kc_61
            have := kc_62
            omega
      · skip
        refine mw_aload_n 24 rfl 1 dX4_readCompared_23 rfl rfl ?_
        refine mw_iconst (v := 1) 25 rfl dX4_readCompared_24 (by decide) ?_
        refine mw_callVi [.int (1)] [] 28 rfl dX4_readCompared_25 ml_X4_55 mc_X4_fail mk_X4_fail rfl rfl (by decide) (w_X4_fail l G (d + H + 6) ⟨by omega, by omega⟩ hI0 (1)) rfl rfl (Nat.le_of_ble_eq_true rfl) (mh_rok (by omega) (by decide)) (fun x141 s142 q143 => ?_)
        obtain ⟨r_x141, hI_s142, hG_s142⟩ := q143
        have hF_s142 : mh_F S_X4_rd s0 s142 := mh_F_tl hF0 hG_s142 (by decide +kernel)
        have t144 : x65 = s142.1 56 2 := (t66).trans (hG_s142 56 2 (mh_nsI (by rfl))).1.symm
        have t145 : x67 = s142.1 56 3 := (t68).trans (hG_s142 56 3 (mh_nsI (by rfl))).1.symm
        refine mw_zret dX4_readCompared_28 rfl (mh_r_wk r_x141 (by decide)) ⟨x141, rfl, ⟨(mh_r_wk r_x141 (by decide)), ?_, hI_s142, hF_s142⟩⟩
        · skip
          have := congrArg Int32.toInt t66
          have := congrArg Int32.toInt t68
          have := congrArg Int32.toInt t144
          have := congrArg Int32.toInt t145
          have := (r_x69).1; have := (r_x69).2
          have := (r_p1).1; have := (r_p1).2
          have := (r_x141).1; have := (r_x141).2
          have := (r_x65).1; have := (r_x65).2
          have := (r_x67).1; have := (r_x67).2
          have := kc_0
          have := kc_1
          have := kc_60
          have := kc_61
          have := kc_62
          omega

set_option maxRecDepth 100000 in
set_option maxHeartbeats 4000000 in
theorem w_X4_readPiece (l : Launch) (G : mh_G) (d : Nat) {B D : Int} (hB : B ≤ 1700000000 ∧ D ≤ 1700000000) {s0 : mh_H} (hI0 : mh_I B D s0) (p1 : Int32) (r_p1 : mh_r p1 (0) (6)) (H : Nat) (ih : p1.toInt < 6 → mh_RB l G H (p1.toInt + 1)) : mh_Mi l G (d + (H + 8)) mM_X4_readPiece [.ref (G.2.2.2 56), .int p1] s0 (P_X4_rd B D s0) := by
  refine mh_enter (lv := [(0, .ref (G.2.2.2 56)), (1, .int p1)]) (by decide) rfl (Nat.le_of_ble_eq_true rfl) ?_
  have hF0 : mh_F S_X4_rd s0 s0 := mh_F_rf
  obtain ⟨x71, t72⟩ : ∃ z : Int32, z = s0.1 56 2 := ⟨_, rfl⟩
  have r_x71 : mh_r x71 0 220 := by rw [t72]; exact rd_56_2 hI0
  obtain ⟨x73, t74⟩ : ∃ z : Int32, z = s0.1 56 3 := ⟨_, rfl⟩
  have r_x73 : mh_r x73 0 220 := by rw [t74]; exact rd_56_3 hI0
  refine mw_aload_n 1 rfl 0 dX4_readPiece_0 rfl rfl ?_
  refine mw_callVi [] [] 4 rfl dX4_readPiece_1 ml_X4_51 mc_X4_sign mk_X4_sign rfl rfl (by decide) (w_X4_sign l G (d + H + 7) ⟨by omega, by omega⟩ hI0) rfl rfl (Nat.le_of_ble_eq_true rfl) (mh_rok (by omega) (by decide)) (fun x75 s76 q77 => ?_)
  obtain ⟨r_x75, e0_s76, rfl⟩ := q77
  have hq_x75 : 0 ≤ x75.toInt → x73.toInt < x71.toInt := by have h9 := e0_s76; rw [← t74, ← t72] at h9; exact h9
  refine mw_istore_n 5 rfl [(2, .int x75), (0, .ref (G.2.2.2 56)), (1, .int p1)] dX4_readPiece_4 rfl (by decide) rfl ?_
  refine mw_iload_n 6 rfl 0 dX4_readPiece_5 rfl rfl ?_
  refine mw_bipush (v := 33) 8 rfl dX4_readPiece_6 (by decide) ?_
  refine mw_icmp_eq 11 rfl 39 dX4_readPiece_8 (by decide) (fun c78 => ?_) (fun c78 => ?_)
  · skip
    have r_x75 : mh_r x75 (33) (33) := mh_eq1 c78 r_x75 rc_33 (33) (33) (by decide)
    refine mw_iload_n 40 rfl 2 dX4_readPiece_39 rfl rfl ?_
    refine mw_bipush (v := 6) 42 rfl dX4_readPiece_40 (by decide) ?_
    refine mw_icmp_lt 45 rfl 51 dX4_readPiece_42 (by decide) (fun c79 => ?_) (fun c79 => ?_)
    · skip
      have r_p1 : mh_r p1 (0) (5) := mh_lt1 c79 r_p1 rc_6 (5) (by decide)
      refine mw_aload_n 52 rfl 1 dX4_readPiece_51 rfl rfl ?_
      refine mw_dup 53 rfl dX4_readPiece_52 rfl ?_
      refine mw_geti 56 rfl dX4_readPiece_53 gf_X4_15 rfl (fun x80 t81 => ?_)
      obtain rfl : x73 = x80 := t74.trans t81.symm
      have r_x73 : mh_r x73 (0) (219) := ⟨(r_x73).1, by have := congrArg Int32.toInt t72; have := congrArg Int32.toInt t74; have := (r_x75).1; have := (r_x75).2; have := (r_p1).1; have := (r_p1).2; have := (r_x73).1; have := (r_x73).2; have := (r_x71).1; have := (r_x71).2; have := kc_0; have := kc_1; have := kc_5; have := kc_6; have := kc_33; have := kc_40; have := kc_41; omega⟩
      refine mw_iconst (v := 1) 57 rfl dX4_readPiece_56 (by decide) ?_
      refine mw_iadd 58 rfl (1) (220) dX4_readPiece_57 r_x73 rc_1 (by decide) (fun x82 t83 r_x82 => ?_)
      refine mw_puti 61 rfl dX4_readPiece_58 pf_X4_15 rfl (fun s84 t85 => ?_)
      have hI_s84 : mh_I B D s84 := by rw [t85]; exact wr_56_3 hI0 (mh_r_wk r_x82 (by decide))
      have hF_s84 : mh_F S_X4_rd s0 s84 := by rw [t85]; exact mh_F_pI hF0 (mh_sj 0 rfl)
      refine mw_iload_n 62 rfl 0 dX4_readPiece_61 rfl rfl ?_
      refine mw_bipush (v := 40) 64 rfl dX4_readPiece_62 (by decide) ?_
      refine mw_icmp_ne 67 rfl 92 dX4_readPiece_64 (by decide) (fun c86 => ?_) (fun c86 => ?_)
      · skip
        refine mw_aload_n 93 rfl 1 dX4_readPiece_92 rfl rfl ?_
        refine mw_iload_n 94 rfl 2 dX4_readPiece_93 rfl rfl ?_
        refine mw_iconst (v := 1) 95 rfl dX4_readPiece_94 (by decide) ?_
        refine mw_iadd 96 rfl (1) (6) dX4_readPiece_95 r_p1 rc_1 (by decide) (fun x87 t88 r_x87 => ?_)
        have t89 : x71 = s84.1 56 2 := by rw [t85]; exact (t72).trans (mh_pI_n (by omega)).symm
        have t90 : x82 = s84.1 56 3 := by rw [t85]; exact mh_pI_s.symm
        refine mw_callVi [.int x87] [] 99 rfl dX4_readPiece_96 ml_X4_89 mc_X4_readPiece mk_X4_readPiece rfl rfl (by decide) (((ih (by have := (r_p1).2; omega)) (d + 7)).2.2 hB hI_s84 x87 (by have := kc_1; omega)) rfl rfl (Nat.le_of_ble_eq_true rfl) (mh_rok (by omega) (by decide)) (fun x91 s92 q93 => ?_)
        obtain ⟨r_x91, e0_s92, hI_s92, hG_s92⟩ := q93
        have hF_s92 : mh_F S_X4_rd s0 s92 := mh_F_tl hF_s84 hG_s92 (by decide +kernel)
        have t94 : x71 = s92.1 56 2 := (t89).trans (hG_s92 56 2 (mh_nsI (by rfl))).1.symm
        obtain ⟨x95, t96⟩ : ∃ z : Int32, z = s92.1 56 3 := ⟨_, rfl⟩
        have r_x95 : mh_r x95 0 220 := by rw [t96]; exact rd_56_3 hI_s92
        refine mw_if_ne 102 rfl 104 dX4_readPiece_99 (by decide) (fun c97 => ?_) (fun c97 => ?_)
        · skip
          have r_x91 : mh_r x91 (1) (1) := mh_ne1 (show x91.toInt ≠ (0 : Int32).toInt from c97) r_x91 rc_0 (1) (1) (by decide)
          refine mw_aload_n 105 rfl 1 dX4_readPiece_104 rfl rfl ?_
          obtain ⟨k99, t98⟩ : ∃ y : Nat, s92.2.2 56 1 = y := ⟨_, rfl⟩
          have hk99 : mh_isL k99 := by rw [← t98]; exact hI_s92.2.1.2.2.2
          refine mw_geta 108 rfl dX4_readPiece_105 gf_X4_25 rfl k99 t98 ?_
          refine mw_bipush (v := 33) 110 rfl dX4_readPiece_108 (by decide) ?_
          refine mw_callVv [.int (33)] [] 113 rfl dX4_readPiece_110 ml_X4_95 mc_X1_put mk_X1_put (ly_L hk99) rfl (by decide) (w_X1_put l G (d + H + 7) ⟨by omega, by omega⟩ hI_s92 k99 hk99 (33)) rfl rfl (Nat.le_of_ble_eq_true rfl) (mh_rok (by omega) (by decide)) (fun s101 q102 => ?_)
          obtain ⟨hI_s101, hG_s101⟩ := q102
          have hF_s101 : mh_F S_X4_rd s0 s101 := mh_F_tl hF_s92 hG_s101 (by rcases hk99 with rfl | rfl <;> decide +kernel)
          have t103 : x71 = s101.1 56 2 := (t94).trans (hG_s101 56 2 (mh_nsI (by rcases hk99 with rfl | rfl <;> rfl))).1.symm
          have t104 : x95 = s101.1 56 3 := (t96).trans (hG_s101 56 3 (mh_nsI (by rcases hk99 with rfl | rfl <;> rfl))).1.symm
          refine mw_iconst (v := 1) 114 rfl dX4_readPiece_113 (by decide) ?_
          refine mw_zret dX4_readPiece_114 rfl (mh_r_wk rc_1 (by decide)) ⟨(1), rfl, ⟨(mh_r_wk rc_1 (by decide)), ?_, hI_s101, hF_s101⟩⟩
          · skip
            have := congrArg Int32.toInt t72
            have := congrArg Int32.toInt t74
            have := congrArg Int32.toInt t89
            have := congrArg Int32.toInt t90
            have := congrArg Int32.toInt t94
            have := congrArg Int32.toInt t96
            have := congrArg Int32.toInt t103
            have := congrArg Int32.toInt t104
            have := (r_x75).1; have := (r_x75).2
            have := (r_p1).1; have := (r_p1).2
            have := (rc_1).1; have := (rc_1).2
            have := (r_x71).1; have := (r_x71).2
            have := (r_x73).1; have := (r_x73).2
            have := (r_x82).1; have := (r_x82).2
            have := (r_x95).1; have := (r_x95).2
            have := kc_0
            have := kc_1
            have := kc_5
            have := kc_6
            have := kc_33
            have := kc_40
            have := kc_41
            omega
        · skip
          have r_x91 : mh_r x91 (0) (0) := mh_eq1 (show x91.toInt = (0 : Int32).toInt from c97) r_x91 rc_0 (0) (0) (by decide)
          refine mw_iconst (v := 0) 103 rfl dX4_readPiece_102 (by decide) ?_
          refine mw_zret dX4_readPiece_103 rfl (mh_r_wk rc_0 (by decide)) ⟨(0), rfl, ⟨(mh_r_wk rc_0 (by decide)), ?_, hI_s92, hF_s92⟩⟩
          · skip
            have := congrArg Int32.toInt t72
            have := congrArg Int32.toInt t74
            have := congrArg Int32.toInt t89
            have := congrArg Int32.toInt t90
            have := congrArg Int32.toInt t94
            have := congrArg Int32.toInt t96
            have := (r_x75).1; have := (r_x75).2
            have := (r_p1).1; have := (r_p1).2
            have := (rc_0).1; have := (rc_0).2
            have := (r_x71).1; have := (r_x71).2
            have := (r_x73).1; have := (r_x73).2
            have := (r_x82).1; have := (r_x82).2
            have := (r_x95).1; have := (r_x95).2
            have := (rc_1).1; have := (rc_1).2
            have := kc_0
            have := kc_1
            have := kc_5
            have := kc_6
            have := kc_33
            have := kc_40
            have := kc_41
            omega
      · skip
        exact (mh_neq c86 r_x75 rc_40 (by decide)).elim
    · skip
      have r_p1 : mh_r p1 (6) (6) := mh_le2 c79 rc_6 r_p1 (6) (by decide)
      refine mw_aload_n 46 rfl 1 dX4_readPiece_45 rfl rfl ?_
      refine mw_iconst (v := 5) 47 rfl dX4_readPiece_46 (by decide) ?_
      refine mw_callVi [.int (5)] [] 50 rfl dX4_readPiece_47 ml_X4_55 mc_X4_fail mk_X4_fail rfl rfl (by decide) (w_X4_fail l G (d + H + 7) ⟨by omega, by omega⟩ hI0 (5)) rfl rfl (Nat.le_of_ble_eq_true rfl) (mh_rok (by omega) (by decide)) (fun x105 s106 q107 => ?_)
      obtain ⟨r_x105, hI_s106, hG_s106⟩ := q107
      have hF_s106 : mh_F S_X4_rd s0 s106 := mh_F_tl hF0 hG_s106 (by decide +kernel)
      have t108 : x71 = s106.1 56 2 := (t72).trans (hG_s106 56 2 (mh_nsI (by rfl))).1.symm
      have t109 : x73 = s106.1 56 3 := (t74).trans (hG_s106 56 3 (mh_nsI (by rfl))).1.symm
      refine mw_zret dX4_readPiece_50 rfl (mh_r_wk r_x105 (by decide)) ⟨x105, rfl, ⟨(mh_r_wk r_x105 (by decide)), ?_, hI_s106, hF_s106⟩⟩
      · skip
        have := congrArg Int32.toInt t72
        have := congrArg Int32.toInt t74
        have := congrArg Int32.toInt t108
        have := congrArg Int32.toInt t109
        have := (r_x75).1; have := (r_x75).2
        have := (r_p1).1; have := (r_p1).2
        have := (r_x105).1; have := (r_x105).2
        have := (r_x71).1; have := (r_x71).2
        have := (r_x73).1; have := (r_x73).2
        have := kc_0
        have := kc_1
        have := kc_5
        have := kc_6
        have := kc_33
        have := kc_40
        have := kc_41
        omega
  · skip
    refine mw_iload_n 12 rfl 0 dX4_readPiece_11 rfl rfl ?_
    refine mw_bipush (v := 40) 14 rfl dX4_readPiece_12 (by decide) ?_
    refine mw_icmp_eq 17 rfl 39 dX4_readPiece_14 (by decide) (fun c110 => ?_) (fun c110 => ?_)
    · skip
      have r_x75 : mh_r x75 (40) (40) := mh_eq1 c110 r_x75 rc_40 (40) (40) (by decide)
      refine mw_iload_n 40 rfl 2 dX4_readPiece_39 rfl rfl ?_
      refine mw_bipush (v := 6) 42 rfl dX4_readPiece_40 (by decide) ?_
      refine mw_icmp_lt 45 rfl 51 dX4_readPiece_42 (by decide) (fun c111 => ?_) (fun c111 => ?_)
      · skip
        have r_p1 : mh_r p1 (0) (5) := mh_lt1 c111 r_p1 rc_6 (5) (by decide)
        refine mw_aload_n 52 rfl 1 dX4_readPiece_51 rfl rfl ?_
        refine mw_dup 53 rfl dX4_readPiece_52 rfl ?_
        refine mw_geti 56 rfl dX4_readPiece_53 gf_X4_15 rfl (fun x112 t113 => ?_)
        obtain rfl : x73 = x112 := t74.trans t113.symm
        have r_x73 : mh_r x73 (0) (219) := ⟨(r_x73).1, by have := congrArg Int32.toInt t72; have := congrArg Int32.toInt t74; have := (r_x75).1; have := (r_x75).2; have := (r_p1).1; have := (r_p1).2; have := (r_x73).1; have := (r_x73).2; have := (r_x71).1; have := (r_x71).2; have := kc_0; have := kc_1; have := kc_5; have := kc_6; have := kc_33; have := kc_40; have := kc_41; omega⟩
        refine mw_iconst (v := 1) 57 rfl dX4_readPiece_56 (by decide) ?_
        refine mw_iadd 58 rfl (1) (220) dX4_readPiece_57 r_x73 rc_1 (by decide) (fun x114 t115 r_x114 => ?_)
        refine mw_puti 61 rfl dX4_readPiece_58 pf_X4_15 rfl (fun s116 t117 => ?_)
        have hI_s116 : mh_I B D s116 := by rw [t117]; exact wr_56_3 hI0 (mh_r_wk r_x114 (by decide))
        have hF_s116 : mh_F S_X4_rd s0 s116 := by rw [t117]; exact mh_F_pI hF0 (mh_sj 0 rfl)
        refine mw_iload_n 62 rfl 0 dX4_readPiece_61 rfl rfl ?_
        refine mw_bipush (v := 40) 64 rfl dX4_readPiece_62 (by decide) ?_
        refine mw_icmp_ne 67 rfl 92 dX4_readPiece_64 (by decide) (fun c118 => ?_) (fun c118 => ?_)
        · skip
          exact (mh_nne c118 r_x75 rc_40).elim
        · skip
          refine mw_aload_n 68 rfl 1 dX4_readPiece_67 rfl rfl ?_
          refine mw_iload_n 69 rfl 2 dX4_readPiece_68 rfl rfl ?_
          refine mw_iconst (v := 1) 70 rfl dX4_readPiece_69 (by decide) ?_
          refine mw_iadd 71 rfl (1) (6) dX4_readPiece_70 r_p1 rc_1 (by decide) (fun x119 t120 r_x119 => ?_)
          have t121 : x71 = s116.1 56 2 := by rw [t117]; exact (t72).trans (mh_pI_n (by omega)).symm
          have t122 : x114 = s116.1 56 3 := by rw [t117]; exact mh_pI_s.symm
          refine mw_callVi [.int x119] [] 74 rfl dX4_readPiece_71 ml_X4_72 mc_X4_readChoice mk_X4_readChoice rfl rfl (by decide) (((ih (by have := (r_p1).2; omega)) (d + 7)).2.1 hB hI_s116 x119 (by have := kc_1; omega)) rfl rfl (Nat.le_of_ble_eq_true rfl) (mh_rok (by omega) (by decide)) (fun x123 s124 q125 => ?_)
          obtain ⟨r_x123, e0_s124, hI_s124, hG_s124⟩ := q125
          have hF_s124 : mh_F S_X4_rd s0 s124 := mh_F_tl hF_s116 hG_s124 (by decide +kernel)
          have t126 : x71 = s124.1 56 2 := (t121).trans (hG_s124 56 2 (mh_nsI (by rfl))).1.symm
          obtain ⟨x127, t128⟩ : ∃ z : Int32, z = s124.1 56 3 := ⟨_, rfl⟩
          have r_x127 : mh_r x127 0 220 := by rw [t128]; exact rd_56_3 hI_s124
          refine mw_if_eq 77 rfl 90 dX4_readPiece_74 (by decide) (fun c129 => ?_) (fun c129 => ?_)
          · skip
            have r_x123 : mh_r x123 (0) (0) := mh_eq1 (show x123.toInt = (0 : Int32).toInt from c129) r_x123 rc_0 (0) (0) (by decide)
            refine mw_iconst (v := 0) 91 rfl dX4_readPiece_90 (by decide) ?_
            refine mw_zret dX4_readPiece_91 rfl (mh_r_wk rc_0 (by decide)) ⟨(0), rfl, ⟨(mh_r_wk rc_0 (by decide)), ?_, hI_s124, hF_s124⟩⟩
            · skip
              have := congrArg Int32.toInt t72
              have := congrArg Int32.toInt t74
              have := congrArg Int32.toInt t121
              have := congrArg Int32.toInt t122
              have := congrArg Int32.toInt t126
              have := congrArg Int32.toInt t128
              have := (r_x75).1; have := (r_x75).2
              have := (r_p1).1; have := (r_p1).2
              have := (rc_0).1; have := (rc_0).2
              have := (r_x71).1; have := (r_x71).2
              have := (r_x73).1; have := (r_x73).2
              have := (r_x114).1; have := (r_x114).2
              have := (r_x127).1; have := (r_x127).2
              have := (rc_1).1; have := (rc_1).2
              have := kc_0
              have := kc_1
              have := kc_5
              have := kc_6
              have := kc_33
              have := kc_40
              have := kc_41
              omega
          · skip
            have r_x123 : mh_r x123 (1) (1) := mh_ne1 (show x123.toInt ≠ (0 : Int32).toInt from c129) r_x123 rc_0 (1) (1) (by decide)
            refine mw_aload_n 78 rfl 1 dX4_readPiece_77 rfl rfl ?_
            refine mw_bipush (v := 41) 80 rfl dX4_readPiece_78 (by decide) ?_
            refine mw_callVi [.int (41)] [] 83 rfl dX4_readPiece_80 ml_X4_47 mc_X4_take mk_X4_take rfl rfl (by decide) (w_X4_take l G (d + H + 6) ⟨by omega, by omega⟩ hI_s124 (41) (mh_r_wk rc_41 (by decide))) rfl rfl (Nat.le_of_ble_eq_true rfl) (mh_rok (by omega) (by decide)) (fun x130 s131 q132 => ?_)
            obtain ⟨r_x130, e0_s131, hI_s131, hG_s131⟩ := q132
            have hF_s131 : mh_F S_X4_rd s0 s131 := mh_F_tl hF_s124 hG_s131 (by decide +kernel)
            have t133 : x71 = s131.1 56 2 := (t126).trans (hG_s131 56 2 (mh_nsI (by rfl))).1.symm
            obtain ⟨x134, t135⟩ : ∃ z : Int32, z = s131.1 56 3 := ⟨_, rfl⟩
            have r_x134 : mh_r x134 0 220 := by rw [t135]; exact rd_56_3 hI_s131
            refine mw_if_eq 86 rfl 90 dX4_readPiece_83 (by decide) (fun c136 => ?_) (fun c136 => ?_)
            · skip
              have r_x130 : mh_r x130 (0) (0) := mh_eq1 (show x130.toInt = (0 : Int32).toInt from c136) r_x130 rc_0 (0) (0) (by decide)
              refine mw_iconst (v := 0) 91 rfl dX4_readPiece_90 (by decide) ?_
              refine mw_zret dX4_readPiece_91 rfl (mh_r_wk rc_0 (by decide)) ⟨(0), rfl, ⟨(mh_r_wk rc_0 (by decide)), ?_, hI_s131, hF_s131⟩⟩
              · skip
                have := congrArg Int32.toInt t72
                have := congrArg Int32.toInt t74
                have := congrArg Int32.toInt t121
                have := congrArg Int32.toInt t122
                have := congrArg Int32.toInt t126
                have := congrArg Int32.toInt t128
                have := congrArg Int32.toInt t133
                have := congrArg Int32.toInt t135
                have := (r_x75).1; have := (r_x75).2
                have := (r_p1).1; have := (r_p1).2
                have := (rc_0).1; have := (rc_0).2
                have := (r_x71).1; have := (r_x71).2
                have := (r_x73).1; have := (r_x73).2
                have := (r_x114).1; have := (r_x114).2
                have := (r_x127).1; have := (r_x127).2
                have := (r_x134).1; have := (r_x134).2
                have := (rc_1).1; have := (rc_1).2
                have := kc_0
                have := kc_1
                have := kc_5
                have := kc_6
                have := kc_33
                have := kc_40
                have := kc_41
                omega
            · skip
              have r_x130 : mh_r x130 (1) (1) := mh_ne1 (show x130.toInt ≠ (0 : Int32).toInt from c136) r_x130 rc_0 (1) (1) (by decide)
              refine mw_iconst (v := 1) 87 rfl dX4_readPiece_86 (by decide) ?_
              refine mw_goto 90 rfl 91 dX4_readPiece_87 (by decide) ?_
              refine mw_zret dX4_readPiece_91 rfl (mh_r_wk rc_1 (by decide)) ⟨(1), rfl, ⟨(mh_r_wk rc_1 (by decide)), ?_, hI_s131, hF_s131⟩⟩
              · skip
                have := congrArg Int32.toInt t72
                have := congrArg Int32.toInt t74
                have := congrArg Int32.toInt t121
                have := congrArg Int32.toInt t122
                have := congrArg Int32.toInt t126
                have := congrArg Int32.toInt t128
                have := congrArg Int32.toInt t133
                have := congrArg Int32.toInt t135
                have := (r_x75).1; have := (r_x75).2
                have := (r_p1).1; have := (r_p1).2
                have := (rc_1).1; have := (rc_1).2
                have := (r_x71).1; have := (r_x71).2
                have := (r_x73).1; have := (r_x73).2
                have := (r_x114).1; have := (r_x114).2
                have := (r_x127).1; have := (r_x127).2
                have := (r_x134).1; have := (r_x134).2
                have := kc_0
                have := kc_1
                have := kc_5
                have := kc_6
                have := kc_33
                have := kc_40
                have := kc_41
                omega
      · skip
        have r_p1 : mh_r p1 (6) (6) := mh_le2 c111 rc_6 r_p1 (6) (by decide)
        refine mw_aload_n 46 rfl 1 dX4_readPiece_45 rfl rfl ?_
        refine mw_iconst (v := 5) 47 rfl dX4_readPiece_46 (by decide) ?_
        refine mw_callVi [.int (5)] [] 50 rfl dX4_readPiece_47 ml_X4_55 mc_X4_fail mk_X4_fail rfl rfl (by decide) (w_X4_fail l G (d + H + 7) ⟨by omega, by omega⟩ hI0 (5)) rfl rfl (Nat.le_of_ble_eq_true rfl) (mh_rok (by omega) (by decide)) (fun x137 s138 q139 => ?_)
        obtain ⟨r_x137, hI_s138, hG_s138⟩ := q139
        have hF_s138 : mh_F S_X4_rd s0 s138 := mh_F_tl hF0 hG_s138 (by decide +kernel)
        have t140 : x71 = s138.1 56 2 := (t72).trans (hG_s138 56 2 (mh_nsI (by rfl))).1.symm
        have t141 : x73 = s138.1 56 3 := (t74).trans (hG_s138 56 3 (mh_nsI (by rfl))).1.symm
        refine mw_zret dX4_readPiece_50 rfl (mh_r_wk r_x137 (by decide)) ⟨x137, rfl, ⟨(mh_r_wk r_x137 (by decide)), ?_, hI_s138, hF_s138⟩⟩
        · skip
          have := congrArg Int32.toInt t72
          have := congrArg Int32.toInt t74
          have := congrArg Int32.toInt t140
          have := congrArg Int32.toInt t141
          have := (r_x75).1; have := (r_x75).2
          have := (r_p1).1; have := (r_p1).2
          have := (r_x137).1; have := (r_x137).2
          have := (r_x71).1; have := (r_x71).2
          have := (r_x73).1; have := (r_x73).2
          have := kc_0
          have := kc_1
          have := kc_5
          have := kc_6
          have := kc_33
          have := kc_40
          have := kc_41
          omega
    · skip
      refine mw_aload_n 18 rfl 1 dX4_readPiece_17 rfl rfl ?_
      refine mw_iload_n 19 rfl 2 dX4_readPiece_18 rfl rfl ?_
      refine mw_callVi [.int p1] [] 22 rfl dX4_readPiece_19 ml_X4_69 mc_X4_readSum mk_X4_readSum rfl rfl (by decide) (w_X4_readSum l G (d + 1) hB hI0 p1 r_p1 H ih) rfl rfl (Nat.le_of_ble_eq_true rfl) (mh_rok (by omega) (by decide)) (fun x142 s143 q144 => ?_)
      obtain ⟨r_x142, e0_s143, hI_s143, hG_s143⟩ := q144
      have hF_s143 : mh_F S_X4_rd s0 s143 := mh_F_tl hF0 hG_s143 (by decide +kernel)
      have t145 : x71 = s143.1 56 2 := (t72).trans (hG_s143 56 2 (mh_nsI (by rfl))).1.symm
      obtain ⟨x146, t147⟩ : ∃ z : Int32, z = s143.1 56 3 := ⟨_, rfl⟩
      have r_x146 : mh_r x146 0 220 := by rw [t147]; exact rd_56_3 hI_s143
      refine mw_if_eq 25 rfl 37 dX4_readPiece_22 (by decide) (fun c148 => ?_) (fun c148 => ?_)
      · skip
        have r_x142 : mh_r x142 (0) (0) := mh_eq1 (show x142.toInt = (0 : Int32).toInt from c148) r_x142 rc_0 (0) (0) (by decide)
        refine mw_iconst (v := 0) 38 rfl dX4_readPiece_37 (by decide) ?_
        refine mw_zret dX4_readPiece_38 rfl (mh_r_wk rc_0 (by decide)) ⟨(0), rfl, ⟨(mh_r_wk rc_0 (by decide)), ?_, hI_s143, hF_s143⟩⟩
        · skip
          have := congrArg Int32.toInt t72
          have := congrArg Int32.toInt t74
          have := congrArg Int32.toInt t145
          have := congrArg Int32.toInt t147
          have := (r_x75).1; have := (r_x75).2
          have := (r_p1).1; have := (r_p1).2
          have := (rc_0).1; have := (rc_0).2
          have := (r_x71).1; have := (r_x71).2
          have := (r_x73).1; have := (r_x73).2
          have := (r_x146).1; have := (r_x146).2
          have := kc_0
          have := kc_1
          have := kc_5
          have := kc_6
          have := kc_33
          have := kc_40
          have := kc_41
          omega
      · skip
        have r_x142 : mh_r x142 (1) (1) := mh_ne1 (show x142.toInt ≠ (0 : Int32).toInt from c148) r_x142 rc_0 (1) (1) (by decide)
        refine mw_aload_n 26 rfl 1 dX4_readPiece_25 rfl rfl ?_
        refine mw_iload_n 27 rfl 2 dX4_readPiece_26 rfl rfl ?_
        refine mw_callVi [.int p1] [] 30 rfl dX4_readPiece_27 ml_X4_92 mc_X4_readCompared mk_X4_readCompared rfl rfl (by decide) (w_X4_readCompared l G (d + 0) hB hI_s143 p1 r_p1 H ih) rfl rfl (Nat.le_of_ble_eq_true rfl) (mh_rok (by omega) (by decide)) (fun x149 s150 q151 => ?_)
        obtain ⟨r_x149, e0_s150, hI_s150, hG_s150⟩ := q151
        have hF_s150 : mh_F S_X4_rd s0 s150 := mh_F_tl hF_s143 hG_s150 (by decide +kernel)
        have t152 : x71 = s150.1 56 2 := (t145).trans (hG_s150 56 2 (mh_nsI (by rfl))).1.symm
        obtain ⟨x153, t154⟩ : ∃ z : Int32, z = s150.1 56 3 := ⟨_, rfl⟩
        have r_x153 : mh_r x153 0 220 := by rw [t154]; exact rd_56_3 hI_s150
        refine mw_if_eq 33 rfl 37 dX4_readPiece_30 (by decide) (fun c155 => ?_) (fun c155 => ?_)
        · skip
          have r_x149 : mh_r x149 (0) (0) := mh_eq1 (show x149.toInt = (0 : Int32).toInt from c155) r_x149 rc_0 (0) (0) (by decide)
          refine mw_iconst (v := 0) 38 rfl dX4_readPiece_37 (by decide) ?_
          refine mw_zret dX4_readPiece_38 rfl (mh_r_wk rc_0 (by decide)) ⟨(0), rfl, ⟨(mh_r_wk rc_0 (by decide)), ?_, hI_s150, hF_s150⟩⟩
          · skip
            have := congrArg Int32.toInt t72
            have := congrArg Int32.toInt t74
            have := congrArg Int32.toInt t145
            have := congrArg Int32.toInt t147
            have := congrArg Int32.toInt t152
            have := congrArg Int32.toInt t154
            have := (r_x75).1; have := (r_x75).2
            have := (r_p1).1; have := (r_p1).2
            have := (rc_0).1; have := (rc_0).2
            have := (r_x71).1; have := (r_x71).2
            have := (r_x73).1; have := (r_x73).2
            have := (r_x146).1; have := (r_x146).2
            have := (r_x153).1; have := (r_x153).2
            have := kc_0
            have := kc_1
            have := kc_5
            have := kc_6
            have := kc_33
            have := kc_40
            have := kc_41
            omega
        · skip
          have r_x149 : mh_r x149 (1) (1) := mh_ne1 (show x149.toInt ≠ (0 : Int32).toInt from c155) r_x149 rc_0 (1) (1) (by decide)
          refine mw_iconst (v := 1) 34 rfl dX4_readPiece_33 (by decide) ?_
          refine mw_goto 37 rfl 38 dX4_readPiece_34 (by decide) ?_
          refine mw_zret dX4_readPiece_38 rfl (mh_r_wk rc_1 (by decide)) ⟨(1), rfl, ⟨(mh_r_wk rc_1 (by decide)), ?_, hI_s150, hF_s150⟩⟩
          · skip
            have := congrArg Int32.toInt t72
            have := congrArg Int32.toInt t74
            have := congrArg Int32.toInt t145
            have := congrArg Int32.toInt t147
            have := congrArg Int32.toInt t152
            have := congrArg Int32.toInt t154
            have := (r_x75).1; have := (r_x75).2
            have := (r_p1).1; have := (r_p1).2
            have := (rc_1).1; have := (rc_1).2
            have := (r_x71).1; have := (r_x71).2
            have := (r_x73).1; have := (r_x73).2
            have := (r_x146).1; have := (r_x146).2
            have := (r_x153).1; have := (r_x153).2
            have := kc_0
            have := kc_1
            have := kc_5
            have := kc_6
            have := kc_33
            have := kc_40
            have := kc_41
            omega

set_option maxRecDepth 100000 in
set_option maxHeartbeats 4000000 in
theorem w_X4_readPart (l : Launch) (G : mh_G) (d : Nat) {B D : Int} (hB : B ≤ 1700000000 ∧ D ≤ 1700000000) {s0 : mh_H} (hI0 : mh_I B D s0) (p1 : Int32) (r_p1 : mh_r p1 (0) (6)) (H : Nat) (ih : p1.toInt < 6 → mh_RB l G H (p1.toInt + 1)) : mh_Mi l G (d + (H + 9)) mM_X4_readPart [.ref (G.2.2.2 56), .int p1] s0 (P_X4_rd B D s0) := by
  refine mh_enter (lv := [(0, .ref (G.2.2.2 56)), (1, .int p1)]) (by decide) rfl (Nat.le_of_ble_eq_true rfl) ?_
  have hF0 : mh_F S_X4_rd s0 s0 := mh_F_rf
  obtain ⟨x114, t115⟩ : ∃ z : Int32, z = s0.1 56 2 := ⟨_, rfl⟩
  have r_x114 : mh_r x114 0 220 := by rw [t115]; exact rd_56_2 hI0
  obtain ⟨x116, t117⟩ : ∃ z : Int32, z = s0.1 56 3 := ⟨_, rfl⟩
  have r_x116 : mh_r x116 0 220 := by rw [t117]; exact rd_56_3 hI0
  refine mw_aload_n 1 rfl 0 dX4_readPart_0 rfl rfl ?_
  refine mw_iload_n 2 rfl 1 dX4_readPart_1 rfl rfl ?_
  refine mw_callVi [.int p1] [] 5 rfl dX4_readPart_2 ml_X4_89 mc_X4_readPiece mk_X4_readPiece rfl rfl (by decide) (w_X4_readPiece l G (d + 0) hB hI0 p1 r_p1 H ih) rfl rfl (Nat.le_of_ble_eq_true rfl) (mh_rok (by omega) (by decide)) (fun x118 s119 q120 => ?_)
  obtain ⟨r_x118, e0_s119, hI_s119, hG_s119⟩ := q120
  have hF_s119 : mh_F S_X4_rd s0 s119 := mh_F_tl hF0 hG_s119 (by decide +kernel)
  have t121 : x114 = s119.1 56 2 := (t115).trans (hG_s119 56 2 (mh_nsI (by rfl))).1.symm
  obtain ⟨x122, t123⟩ : ∃ z : Int32, z = s119.1 56 3 := ⟨_, rfl⟩
  have r_x122 : mh_r x122 0 220 := by rw [t123]; exact rd_56_3 hI_s119
  refine mw_if_ne 8 rfl 10 dX4_readPart_5 (by decide) (fun c124 => ?_) (fun c124 => ?_)
  · skip
    have r_x118 : mh_r x118 (1) (1) := mh_ne1 (show x118.toInt ≠ (0 : Int32).toInt from c124) r_x118 rc_0 (1) (1) (by decide)
    have L10 : ∀ n1 : Nat, ∀  (s156 : mh_H), mh_I B D s156 → mh_F S_X4_rd s0 s156 → ((s0.1 56 3).toInt ≤ (s156.1 56 3).toInt) → 220 - (s156.1 56 3).toInt < (n1 : Int) → mh_W G (mh_XM l G (d + (H + 9)) (mh_Qi (P_X4_rd B D s0))) mM_X4_readPart 10 [(0, .ref (G.2.2.2 56)), (1, .int p1)] [] s156 := by
      intro n1
      induction n1 with
      | zero =>
        intro s156 hI_s156 hF_s156 iv hmn1
        exact absurd hmn1 (by have := (rd_56_3 hI_s156).2; omega)
      | succ n1 ihn1 =>
        intro s156 hI_s156 hF_s156 iv hmn1
        obtain ⟨x193, t194⟩ : ∃ z : Int32, z = s156.1 56 2 := ⟨_, rfl⟩
        have r_x193 : mh_r x193 0 220 := by rw [t194]; exact rd_56_2 hI_s156
        obtain ⟨x195, t196⟩ : ∃ z : Int32, z = s156.1 56 3 := ⟨_, rfl⟩
        have r_x195 : mh_r x195 0 220 := by rw [t196]; exact rd_56_3 hI_s156
        refine mw_aload_n 11 rfl 0 dX4_readPart_10 rfl rfl ?_
        refine mw_geti 14 rfl dX4_readPart_11 gf_X4_15 rfl (fun x197 t198 => ?_)
        obtain rfl : x195 = x197 := t196.trans t198.symm
        refine mw_aload_n 15 rfl 0 dX4_readPart_14 rfl rfl ?_
        refine mw_geti 18 rfl dX4_readPart_15 gf_X4_9 rfl (fun x199 t200 => ?_)
        obtain rfl : x193 = x199 := t194.trans t200.symm
        refine mw_icmp_ge 21 rfl 71 dX4_readPart_18 (by decide) (fun c201 => ?_) (fun c201 => ?_)
        · skip
          refine mw_iconst (v := 1) 72 rfl dX4_readPart_71 (by decide) ?_
          refine mw_zret dX4_readPart_72 rfl (mh_r_wk rc_1 (by decide)) ⟨(1), rfl, ⟨(mh_r_wk rc_1 (by decide)), ?_, hI_s156, hF_s156⟩⟩
          · skip
            have := congrArg Int32.toInt t115
            have := congrArg Int32.toInt t117
            have := congrArg Int32.toInt t121
            have := congrArg Int32.toInt t123
            have := congrArg Int32.toInt t194
            have := congrArg Int32.toInt t196
            have := (r_p1).1; have := (r_p1).2
            have := (rc_1).1; have := (rc_1).2
            have := (r_x114).1; have := (r_x114).2
            have := (r_x116).1; have := (r_x116).2
            have := (r_x122).1; have := (r_x122).2
            have := (r_x193).1; have := (r_x193).2
            have := (r_x195).1; have := (r_x195).2
            have := kc_0
            have := kc_1
            have := kc_38
            omega
        · skip
          have r_x195 : mh_r x195 (0) (219) := mh_lt1 c201 r_x195 r_x193 (219) (by decide)
          have r_x193 : mh_r x193 (1) (220) := mh_lt2 c201 r_x195 r_x193 (1) (by decide)
          refine mw_aload_n 22 rfl 0 dX4_readPart_21 rfl rfl ?_
          refine mw_callVi [] [] 25 rfl dX4_readPart_22 ml_X4_51 mc_X4_sign mk_X4_sign rfl rfl (by decide) (w_X4_sign l G (d + H + 8) ⟨by omega, by omega⟩ hI_s156) rfl rfl (Nat.le_of_ble_eq_true rfl) (mh_rok (by omega) (by decide)) (fun x202 s203 q204 => ?_)
          obtain ⟨r_x202, e0_s203, rfl⟩ := q204
          have hq_x202 : 0 ≤ x202.toInt → x195.toInt < x193.toInt := by have h9 := e0_s203; rw [← t196, ← t194] at h9; exact h9
          refine mw_bipush (v := 38) 27 rfl dX4_readPart_25 (by decide) ?_
          refine mw_icmp_ne 30 rfl 71 dX4_readPart_27 (by decide) (fun c205 => ?_) (fun c205 => ?_)
          · skip
            refine mw_iconst (v := 1) 72 rfl dX4_readPart_71 (by decide) ?_
            refine mw_zret dX4_readPart_72 rfl (mh_r_wk rc_1 (by decide)) ⟨(1), rfl, ⟨(mh_r_wk rc_1 (by decide)), ?_, hI_s156, hF_s156⟩⟩
            · skip
              have := congrArg Int32.toInt t115
              have := congrArg Int32.toInt t117
              have := congrArg Int32.toInt t121
              have := congrArg Int32.toInt t123
              have := congrArg Int32.toInt t194
              have := congrArg Int32.toInt t196
              have := (r_p1).1; have := (r_p1).2
              have := (rc_1).1; have := (rc_1).2
              have := (r_x114).1; have := (r_x114).2
              have := (r_x116).1; have := (r_x116).2
              have := (r_x122).1; have := (r_x122).2
              have := (r_x193).1; have := (r_x193).2
              have := (r_x195).1; have := (r_x195).2
              have := kc_0
              have := kc_1
              have := kc_38
              omega
          · skip
            have r_x202 : mh_r x202 (38) (38) := mh_eq1 c205 r_x202 rc_38 (38) (38) (by decide)
            refine mw_aload_n 31 rfl 0 dX4_readPart_30 rfl rfl ?_
            refine mw_dup 32 rfl dX4_readPart_31 rfl ?_
            refine mw_geti 35 rfl dX4_readPart_32 gf_X4_15 rfl (fun x206 t207 => ?_)
            obtain rfl : x195 = x206 := t196.trans t207.symm
            refine mw_iconst (v := 1) 36 rfl dX4_readPart_35 (by decide) ?_
            refine mw_iadd 37 rfl (1) (220) dX4_readPart_36 r_x195 rc_1 (by decide) (fun x208 t209 r_x208 => ?_)
            refine mw_puti 40 rfl dX4_readPart_37 pf_X4_15 rfl (fun s210 t211 => ?_)
            have hI_s210 : mh_I B D s210 := by rw [t211]; exact wr_56_3 hI_s156 (mh_r_wk r_x208 (by decide))
            have hF_s210 : mh_F S_X4_rd s0 s210 := by rw [t211]; exact mh_F_pI hF_s156 (mh_sj 0 rfl)
            refine mw_aload_n 41 rfl 0 dX4_readPart_40 rfl rfl ?_
            obtain ⟨k213, t212⟩ : ∃ y : Nat, s210.2.2 56 1 = y := ⟨_, rfl⟩
            have hk213 : mh_isL k213 := by rw [← t212]; exact hI_s210.2.1.2.2.2
            refine mw_geta 44 rfl dX4_readPart_41 gf_X4_25 rfl k213 t212 ?_
            refine mw_bipush (v := 38) 46 rfl dX4_readPart_44 (by decide) ?_
            have t214 : x193 = s210.1 56 2 := by rw [t211]; exact (t194).trans (mh_pI_n (by omega)).symm
            have t215 : x208 = s210.1 56 3 := by rw [t211]; exact mh_pI_s.symm
            refine mw_callVi [.int (38)] [] 49 rfl dX4_readPart_46 ml_X4_82 mc_X1_putJump mk_X1_putJump (ly_L hk213) rfl (by decide) (w_X1_putJump l G (d + H + 7) ⟨by omega, by omega⟩ hI_s210 k213 hk213 (38)) rfl rfl (Nat.le_of_ble_eq_true rfl) (mh_rok (by omega) (by decide)) (fun x216 s217 q218 => ?_)
            obtain ⟨r_x216, hI_s217, hG_s217⟩ := q218
            have hF_s217 : mh_F S_X4_rd s0 s217 := mh_F_tl hF_s210 hG_s217 (by rcases hk213 with rfl | rfl <;> decide +kernel)
            have t219 : x193 = s217.1 56 2 := (t214).trans (hG_s217 56 2 (mh_nsI (by rcases hk213 with rfl | rfl <;> rfl))).1.symm
            have t220 : x208 = s217.1 56 3 := (t215).trans (hG_s217 56 3 (mh_nsI (by rcases hk213 with rfl | rfl <;> rfl))).1.symm
            refine mw_istore_n 50 rfl [(2, .int x216), (0, .ref (G.2.2.2 56)), (1, .int p1)] dX4_readPart_49 rfl (by decide) rfl ?_
            refine mw_aload_n 51 rfl 1 dX4_readPart_50 rfl rfl ?_
            refine mw_iload_n 52 rfl 2 dX4_readPart_51 rfl rfl ?_
            refine mw_callVi [.int p1] [] 55 rfl dX4_readPart_52 ml_X4_89 mc_X4_readPiece mk_X4_readPiece rfl rfl (by decide) (w_X4_readPiece l G (d + 0) hB hI_s217 p1 r_p1 H ih) rfl rfl (Nat.le_of_ble_eq_true rfl) (mh_rok (by omega) (by decide)) (fun x221 s222 q223 => ?_)
            obtain ⟨r_x221, e0_s222, hI_s222, hG_s222⟩ := q223
            have hF_s222 : mh_F S_X4_rd s0 s222 := mh_F_tl hF_s217 hG_s222 (by decide +kernel)
            have t224 : x193 = s222.1 56 2 := (t219).trans (hG_s222 56 2 (mh_nsI (by rfl))).1.symm
            obtain ⟨x225, t226⟩ : ∃ z : Int32, z = s222.1 56 3 := ⟨_, rfl⟩
            have r_x225 : mh_r x225 0 220 := by rw [t226]; exact rd_56_3 hI_s222
            refine mw_if_ne 58 rfl 60 dX4_readPart_55 (by decide) (fun c227 => ?_) (fun c227 => ?_)
            · skip
              have r_x221 : mh_r x221 (1) (1) := mh_ne1 (show x221.toInt ≠ (0 : Int32).toInt from c227) r_x221 rc_0 (1) (1) (by decide)
              refine mw_aload_n 61 rfl 1 dX4_readPart_60 rfl rfl ?_
              obtain ⟨k229, t228⟩ : ∃ y : Nat, s222.2.2 56 1 = y := ⟨_, rfl⟩
              have hk229 : mh_isL k229 := by rw [← t228]; exact hI_s222.2.1.2.2.2
              refine mw_geta 64 rfl dX4_readPart_61 gf_X4_25 rfl k229 t228 ?_
              refine mw_iload_n 65 rfl 0 dX4_readPart_64 rfl rfl ?_
              refine mw_callVv [.int x216] [] 68 rfl dX4_readPart_65 ml_X4_85 mc_X1_land mk_X1_land (ly_L hk229) rfl (by decide) (w_X1_land l G (d + H + 7) ⟨by omega, by omega⟩ hI_s222 k229 hk229 x216) rfl rfl (Nat.le_of_ble_eq_true rfl) (mh_rok (by omega) (by decide)) (fun s231 q232 => ?_)
              obtain ⟨hI_s231, hG_s231⟩ := q232
              have hF_s231 : mh_F S_X4_rd s0 s231 := mh_F_tl hF_s222 hG_s231 (by rcases hk229 with rfl | rfl <;> decide +kernel)
              have t233 : x193 = s231.1 56 2 := (t224).trans (hG_s231 56 2 (mh_nsI (by rcases hk229 with rfl | rfl <;> rfl))).1.symm
              have t234 : x225 = s231.1 56 3 := (t226).trans (hG_s231 56 3 (mh_nsI (by rcases hk229 with rfl | rfl <;> rfl))).1.symm
              refine mw_goto 71 rfl 10 dX4_readPart_68 (by decide) ?_
              exact mw_lv [1, 2] rfl (ihn1 s231 hI_s231 hF_s231 (by
                  have := congrArg Int32.toInt t115
                  have := congrArg Int32.toInt t117
                  have := congrArg Int32.toInt t121
                  have := congrArg Int32.toInt t123
                  have := congrArg Int32.toInt t194
                  have := congrArg Int32.toInt t196
                  have := congrArg Int32.toInt t214
                  have := congrArg Int32.toInt t215
                  have := congrArg Int32.toInt t219
                  have := congrArg Int32.toInt t220
                  have := congrArg Int32.toInt t224
                  have := congrArg Int32.toInt t226
                  have := congrArg Int32.toInt t233
                  have := congrArg Int32.toInt t234
                  have := (r_x216).1; have := (r_x216).2
                  have := (r_p1).1; have := (r_p1).2
                  have := (r_x114).1; have := (r_x114).2
                  have := (r_x116).1; have := (r_x116).2
                  have := (r_x122).1; have := (r_x122).2
                  have := (r_x193).1; have := (r_x193).2
                  have := (r_x195).1; have := (r_x195).2
                  have := (r_x208).1; have := (r_x208).2
                  have := (r_x225).1; have := (r_x225).2
                  have := (rc_1).1; have := (rc_1).2
                  have := kc_0
                  have := kc_1
                  have := kc_38
                  omega) (by have := congrArg Int32.toInt t115; have := congrArg Int32.toInt t117; have := congrArg Int32.toInt t121; have := congrArg Int32.toInt t123; have := congrArg Int32.toInt t194; have := congrArg Int32.toInt t196; have := congrArg Int32.toInt t214; have := congrArg Int32.toInt t215; have := congrArg Int32.toInt t219; have := congrArg Int32.toInt t220; have := congrArg Int32.toInt t224; have := congrArg Int32.toInt t226; have := congrArg Int32.toInt t233; have := congrArg Int32.toInt t234; have := (r_x216).1; have := (r_x216).2; have := (r_p1).1; have := (r_p1).2; have := (r_x114).1; have := (r_x114).2; have := (r_x116).1; have := (r_x116).2; have := (r_x122).1; have := (r_x122).2; have := (r_x193).1; have := (r_x193).2; have := (r_x195).1; have := (r_x195).2; have := (r_x208).1; have := (r_x208).2; have := (r_x225).1; have := (r_x225).2; have := (rc_1).1; have := (rc_1).2; have := kc_0; have := kc_1; have := kc_38; omega))
            · skip
              have r_x221 : mh_r x221 (0) (0) := mh_eq1 (show x221.toInt = (0 : Int32).toInt from c227) r_x221 rc_0 (0) (0) (by decide)
              refine mw_iconst (v := 0) 59 rfl dX4_readPart_58 (by decide) ?_
              refine mw_zret dX4_readPart_59 rfl (mh_r_wk rc_0 (by decide)) ⟨(0), rfl, ⟨(mh_r_wk rc_0 (by decide)), ?_, hI_s222, hF_s222⟩⟩
              · skip
                have := congrArg Int32.toInt t115
                have := congrArg Int32.toInt t117
                have := congrArg Int32.toInt t121
                have := congrArg Int32.toInt t123
                have := congrArg Int32.toInt t194
                have := congrArg Int32.toInt t196
                have := congrArg Int32.toInt t214
                have := congrArg Int32.toInt t215
                have := congrArg Int32.toInt t219
                have := congrArg Int32.toInt t220
                have := congrArg Int32.toInt t224
                have := congrArg Int32.toInt t226
                have := (r_x216).1; have := (r_x216).2
                have := (r_p1).1; have := (r_p1).2
                have := (rc_0).1; have := (rc_0).2
                have := (r_x114).1; have := (r_x114).2
                have := (r_x116).1; have := (r_x116).2
                have := (r_x122).1; have := (r_x122).2
                have := (r_x193).1; have := (r_x193).2
                have := (r_x195).1; have := (r_x195).2
                have := (r_x208).1; have := (r_x208).2
                have := (r_x225).1; have := (r_x225).2
                have := (rc_1).1; have := (rc_1).2
                have := kc_0
                have := kc_1
                have := kc_38
                omega
    exact mw_lv [0, 1] rfl (L10 222 s119 hI_s119 hF_s119 (by
        have := congrArg Int32.toInt t115
        have := congrArg Int32.toInt t117
        have := congrArg Int32.toInt t121
        have := congrArg Int32.toInt t123
        have := (r_p1).1; have := (r_p1).2
        have := (r_x114).1; have := (r_x114).2
        have := (r_x116).1; have := (r_x116).2
        have := (r_x122).1; have := (r_x122).2
        have := kc_0
        have := kc_1
        have := kc_38
        omega) (by have := (rd_56_3 hI_s119).1; omega))
  · skip
    have r_x118 : mh_r x118 (0) (0) := mh_eq1 (show x118.toInt = (0 : Int32).toInt from c124) r_x118 rc_0 (0) (0) (by decide)
    refine mw_iconst (v := 0) 9 rfl dX4_readPart_8 (by decide) ?_
    refine mw_zret dX4_readPart_9 rfl (mh_r_wk rc_0 (by decide)) ⟨(0), rfl, ⟨(mh_r_wk rc_0 (by decide)), ?_, hI_s119, hF_s119⟩⟩
    · skip
      have := congrArg Int32.toInt t115
      have := congrArg Int32.toInt t117
      have := congrArg Int32.toInt t121
      have := congrArg Int32.toInt t123
      have := (r_p1).1; have := (r_p1).2
      have := (rc_0).1; have := (rc_0).2
      have := (r_x114).1; have := (r_x114).2
      have := (r_x116).1; have := (r_x116).2
      have := (r_x122).1; have := (r_x122).2
      have := kc_0
      have := kc_1
      have := kc_38
      omega

set_option maxRecDepth 100000 in
set_option maxHeartbeats 4000000 in
theorem w_X4_readChoice (l : Launch) (G : mh_G) (d : Nat) {B D : Int} (hB : B ≤ 1700000000 ∧ D ≤ 1700000000) {s0 : mh_H} (hI0 : mh_I B D s0) (p1 : Int32) (r_p1 : mh_r p1 (0) (6)) (H : Nat) (ih : p1.toInt < 6 → mh_RB l G H (p1.toInt + 1)) : mh_Mi l G (d + (H + 10)) mM_X4_readChoice [.ref (G.2.2.2 56), .int p1] s0 (P_X4_rd B D s0) := by
  refine mh_enter (lv := [(0, .ref (G.2.2.2 56)), (1, .int p1)]) (by decide) rfl (Nat.le_of_ble_eq_true rfl) ?_
  have hF0 : mh_F S_X4_rd s0 s0 := mh_F_rf
  obtain ⟨x114, t115⟩ : ∃ z : Int32, z = s0.1 56 2 := ⟨_, rfl⟩
  have r_x114 : mh_r x114 0 220 := by rw [t115]; exact rd_56_2 hI0
  obtain ⟨x116, t117⟩ : ∃ z : Int32, z = s0.1 56 3 := ⟨_, rfl⟩
  have r_x116 : mh_r x116 0 220 := by rw [t117]; exact rd_56_3 hI0
  refine mw_aload_n 1 rfl 0 dX4_readChoice_0 rfl rfl ?_
  refine mw_iload_n 2 rfl 1 dX4_readChoice_1 rfl rfl ?_
  refine mw_callVi [.int p1] [] 5 rfl dX4_readChoice_2 ml_X4_79 mc_X4_readPart mk_X4_readPart rfl rfl (by decide) (w_X4_readPart l G (d + 0) hB hI0 p1 r_p1 H ih) rfl rfl (Nat.le_of_ble_eq_true rfl) (mh_rok (by omega) (by decide)) (fun x118 s119 q120 => ?_)
  obtain ⟨r_x118, e0_s119, hI_s119, hG_s119⟩ := q120
  have hF_s119 : mh_F S_X4_rd s0 s119 := mh_F_tl hF0 hG_s119 (by decide +kernel)
  have t121 : x114 = s119.1 56 2 := (t115).trans (hG_s119 56 2 (mh_nsI (by rfl))).1.symm
  obtain ⟨x122, t123⟩ : ∃ z : Int32, z = s119.1 56 3 := ⟨_, rfl⟩
  have r_x122 : mh_r x122 0 220 := by rw [t123]; exact rd_56_3 hI_s119
  refine mw_if_ne 8 rfl 10 dX4_readChoice_5 (by decide) (fun c124 => ?_) (fun c124 => ?_)
  · skip
    have r_x118 : mh_r x118 (1) (1) := mh_ne1 (show x118.toInt ≠ (0 : Int32).toInt from c124) r_x118 rc_0 (1) (1) (by decide)
    have L10 : ∀ n1 : Nat, ∀  (s156 : mh_H), mh_I B D s156 → mh_F S_X4_rd s0 s156 → ((s0.1 56 3).toInt ≤ (s156.1 56 3).toInt) → 220 - (s156.1 56 3).toInt < (n1 : Int) → mh_W G (mh_XM l G (d + (H + 10)) (mh_Qi (P_X4_rd B D s0))) mM_X4_readChoice 10 [(0, .ref (G.2.2.2 56)), (1, .int p1)] [] s156 := by
      intro n1
      induction n1 with
      | zero =>
        intro s156 hI_s156 hF_s156 iv hmn1
        exact absurd hmn1 (by have := (rd_56_3 hI_s156).2; omega)
      | succ n1 ihn1 =>
        intro s156 hI_s156 hF_s156 iv hmn1
        obtain ⟨x193, t194⟩ : ∃ z : Int32, z = s156.1 56 2 := ⟨_, rfl⟩
        have r_x193 : mh_r x193 0 220 := by rw [t194]; exact rd_56_2 hI_s156
        obtain ⟨x195, t196⟩ : ∃ z : Int32, z = s156.1 56 3 := ⟨_, rfl⟩
        have r_x195 : mh_r x195 0 220 := by rw [t196]; exact rd_56_3 hI_s156
        refine mw_aload_n 11 rfl 0 dX4_readChoice_10 rfl rfl ?_
        refine mw_geti 14 rfl dX4_readChoice_11 gf_X4_15 rfl (fun x197 t198 => ?_)
        obtain rfl : x195 = x197 := t196.trans t198.symm
        refine mw_aload_n 15 rfl 0 dX4_readChoice_14 rfl rfl ?_
        refine mw_geti 18 rfl dX4_readChoice_15 gf_X4_9 rfl (fun x199 t200 => ?_)
        obtain rfl : x193 = x199 := t194.trans t200.symm
        refine mw_icmp_ge 21 rfl 71 dX4_readChoice_18 (by decide) (fun c201 => ?_) (fun c201 => ?_)
        · skip
          refine mw_iconst (v := 1) 72 rfl dX4_readChoice_71 (by decide) ?_
          refine mw_zret dX4_readChoice_72 rfl (mh_r_wk rc_1 (by decide)) ⟨(1), rfl, ⟨(mh_r_wk rc_1 (by decide)), ?_, hI_s156, hF_s156⟩⟩
          · skip
            have := congrArg Int32.toInt t115
            have := congrArg Int32.toInt t117
            have := congrArg Int32.toInt t121
            have := congrArg Int32.toInt t123
            have := congrArg Int32.toInt t194
            have := congrArg Int32.toInt t196
            have := (r_p1).1; have := (r_p1).2
            have := (rc_1).1; have := (rc_1).2
            have := (r_x114).1; have := (r_x114).2
            have := (r_x116).1; have := (r_x116).2
            have := (r_x122).1; have := (r_x122).2
            have := (r_x193).1; have := (r_x193).2
            have := (r_x195).1; have := (r_x195).2
            have := kc_0
            have := kc_1
            have := kc_124
            omega
        · skip
          have r_x195 : mh_r x195 (0) (219) := mh_lt1 c201 r_x195 r_x193 (219) (by decide)
          have r_x193 : mh_r x193 (1) (220) := mh_lt2 c201 r_x195 r_x193 (1) (by decide)
          refine mw_aload_n 22 rfl 0 dX4_readChoice_21 rfl rfl ?_
          refine mw_callVi [] [] 25 rfl dX4_readChoice_22 ml_X4_51 mc_X4_sign mk_X4_sign rfl rfl (by decide) (w_X4_sign l G (d + H + 9) ⟨by omega, by omega⟩ hI_s156) rfl rfl (Nat.le_of_ble_eq_true rfl) (mh_rok (by omega) (by decide)) (fun x202 s203 q204 => ?_)
          obtain ⟨r_x202, e0_s203, rfl⟩ := q204
          have hq_x202 : 0 ≤ x202.toInt → x195.toInt < x193.toInt := by have h9 := e0_s203; rw [← t196, ← t194] at h9; exact h9
          refine mw_bipush (v := 124) 27 rfl dX4_readChoice_25 (by decide) ?_
          refine mw_icmp_ne 30 rfl 71 dX4_readChoice_27 (by decide) (fun c205 => ?_) (fun c205 => ?_)
          · skip
            refine mw_iconst (v := 1) 72 rfl dX4_readChoice_71 (by decide) ?_
            refine mw_zret dX4_readChoice_72 rfl (mh_r_wk rc_1 (by decide)) ⟨(1), rfl, ⟨(mh_r_wk rc_1 (by decide)), ?_, hI_s156, hF_s156⟩⟩
            · skip
              have := congrArg Int32.toInt t115
              have := congrArg Int32.toInt t117
              have := congrArg Int32.toInt t121
              have := congrArg Int32.toInt t123
              have := congrArg Int32.toInt t194
              have := congrArg Int32.toInt t196
              have := (r_p1).1; have := (r_p1).2
              have := (rc_1).1; have := (rc_1).2
              have := (r_x114).1; have := (r_x114).2
              have := (r_x116).1; have := (r_x116).2
              have := (r_x122).1; have := (r_x122).2
              have := (r_x193).1; have := (r_x193).2
              have := (r_x195).1; have := (r_x195).2
              have := kc_0
              have := kc_1
              have := kc_124
              omega
          · skip
            have r_x202 : mh_r x202 (124) (124) := mh_eq1 c205 r_x202 rc_124 (124) (124) (by decide)
            refine mw_aload_n 31 rfl 0 dX4_readChoice_30 rfl rfl ?_
            refine mw_dup 32 rfl dX4_readChoice_31 rfl ?_
            refine mw_geti 35 rfl dX4_readChoice_32 gf_X4_15 rfl (fun x206 t207 => ?_)
            obtain rfl : x195 = x206 := t196.trans t207.symm
            refine mw_iconst (v := 1) 36 rfl dX4_readChoice_35 (by decide) ?_
            refine mw_iadd 37 rfl (1) (220) dX4_readChoice_36 r_x195 rc_1 (by decide) (fun x208 t209 r_x208 => ?_)
            refine mw_puti 40 rfl dX4_readChoice_37 pf_X4_15 rfl (fun s210 t211 => ?_)
            have hI_s210 : mh_I B D s210 := by rw [t211]; exact wr_56_3 hI_s156 (mh_r_wk r_x208 (by decide))
            have hF_s210 : mh_F S_X4_rd s0 s210 := by rw [t211]; exact mh_F_pI hF_s156 (mh_sj 0 rfl)
            refine mw_aload_n 41 rfl 0 dX4_readChoice_40 rfl rfl ?_
            obtain ⟨k213, t212⟩ : ∃ y : Nat, s210.2.2 56 1 = y := ⟨_, rfl⟩
            have hk213 : mh_isL k213 := by rw [← t212]; exact hI_s210.2.1.2.2.2
            refine mw_geta 44 rfl dX4_readChoice_41 gf_X4_25 rfl k213 t212 ?_
            refine mw_bipush (v := 124) 46 rfl dX4_readChoice_44 (by decide) ?_
            have t214 : x193 = s210.1 56 2 := by rw [t211]; exact (t194).trans (mh_pI_n (by omega)).symm
            have t215 : x208 = s210.1 56 3 := by rw [t211]; exact mh_pI_s.symm
            refine mw_callVi [.int (124)] [] 49 rfl dX4_readChoice_46 ml_X4_82 mc_X1_putJump mk_X1_putJump (ly_L hk213) rfl (by decide) (w_X1_putJump l G (d + H + 8) ⟨by omega, by omega⟩ hI_s210 k213 hk213 (124)) rfl rfl (Nat.le_of_ble_eq_true rfl) (mh_rok (by omega) (by decide)) (fun x216 s217 q218 => ?_)
            obtain ⟨r_x216, hI_s217, hG_s217⟩ := q218
            have hF_s217 : mh_F S_X4_rd s0 s217 := mh_F_tl hF_s210 hG_s217 (by rcases hk213 with rfl | rfl <;> decide +kernel)
            have t219 : x193 = s217.1 56 2 := (t214).trans (hG_s217 56 2 (mh_nsI (by rcases hk213 with rfl | rfl <;> rfl))).1.symm
            have t220 : x208 = s217.1 56 3 := (t215).trans (hG_s217 56 3 (mh_nsI (by rcases hk213 with rfl | rfl <;> rfl))).1.symm
            refine mw_istore_n 50 rfl [(2, .int x216), (0, .ref (G.2.2.2 56)), (1, .int p1)] dX4_readChoice_49 rfl (by decide) rfl ?_
            refine mw_aload_n 51 rfl 1 dX4_readChoice_50 rfl rfl ?_
            refine mw_iload_n 52 rfl 2 dX4_readChoice_51 rfl rfl ?_
            refine mw_callVi [.int p1] [] 55 rfl dX4_readChoice_52 ml_X4_79 mc_X4_readPart mk_X4_readPart rfl rfl (by decide) (w_X4_readPart l G (d + 0) hB hI_s217 p1 r_p1 H ih) rfl rfl (Nat.le_of_ble_eq_true rfl) (mh_rok (by omega) (by decide)) (fun x221 s222 q223 => ?_)
            obtain ⟨r_x221, e0_s222, hI_s222, hG_s222⟩ := q223
            have hF_s222 : mh_F S_X4_rd s0 s222 := mh_F_tl hF_s217 hG_s222 (by decide +kernel)
            have t224 : x193 = s222.1 56 2 := (t219).trans (hG_s222 56 2 (mh_nsI (by rfl))).1.symm
            obtain ⟨x225, t226⟩ : ∃ z : Int32, z = s222.1 56 3 := ⟨_, rfl⟩
            have r_x225 : mh_r x225 0 220 := by rw [t226]; exact rd_56_3 hI_s222
            refine mw_if_ne 58 rfl 60 dX4_readChoice_55 (by decide) (fun c227 => ?_) (fun c227 => ?_)
            · skip
              have r_x221 : mh_r x221 (1) (1) := mh_ne1 (show x221.toInt ≠ (0 : Int32).toInt from c227) r_x221 rc_0 (1) (1) (by decide)
              refine mw_aload_n 61 rfl 1 dX4_readChoice_60 rfl rfl ?_
              obtain ⟨k229, t228⟩ : ∃ y : Nat, s222.2.2 56 1 = y := ⟨_, rfl⟩
              have hk229 : mh_isL k229 := by rw [← t228]; exact hI_s222.2.1.2.2.2
              refine mw_geta 64 rfl dX4_readChoice_61 gf_X4_25 rfl k229 t228 ?_
              refine mw_iload_n 65 rfl 0 dX4_readChoice_64 rfl rfl ?_
              refine mw_callVv [.int x216] [] 68 rfl dX4_readChoice_65 ml_X4_85 mc_X1_land mk_X1_land (ly_L hk229) rfl (by decide) (w_X1_land l G (d + H + 8) ⟨by omega, by omega⟩ hI_s222 k229 hk229 x216) rfl rfl (Nat.le_of_ble_eq_true rfl) (mh_rok (by omega) (by decide)) (fun s231 q232 => ?_)
              obtain ⟨hI_s231, hG_s231⟩ := q232
              have hF_s231 : mh_F S_X4_rd s0 s231 := mh_F_tl hF_s222 hG_s231 (by rcases hk229 with rfl | rfl <;> decide +kernel)
              have t233 : x193 = s231.1 56 2 := (t224).trans (hG_s231 56 2 (mh_nsI (by rcases hk229 with rfl | rfl <;> rfl))).1.symm
              have t234 : x225 = s231.1 56 3 := (t226).trans (hG_s231 56 3 (mh_nsI (by rcases hk229 with rfl | rfl <;> rfl))).1.symm
              refine mw_goto 71 rfl 10 dX4_readChoice_68 (by decide) ?_
              exact mw_lv [1, 2] rfl (ihn1 s231 hI_s231 hF_s231 (by
                  have := congrArg Int32.toInt t115
                  have := congrArg Int32.toInt t117
                  have := congrArg Int32.toInt t121
                  have := congrArg Int32.toInt t123
                  have := congrArg Int32.toInt t194
                  have := congrArg Int32.toInt t196
                  have := congrArg Int32.toInt t214
                  have := congrArg Int32.toInt t215
                  have := congrArg Int32.toInt t219
                  have := congrArg Int32.toInt t220
                  have := congrArg Int32.toInt t224
                  have := congrArg Int32.toInt t226
                  have := congrArg Int32.toInt t233
                  have := congrArg Int32.toInt t234
                  have := (r_x216).1; have := (r_x216).2
                  have := (r_p1).1; have := (r_p1).2
                  have := (r_x114).1; have := (r_x114).2
                  have := (r_x116).1; have := (r_x116).2
                  have := (r_x122).1; have := (r_x122).2
                  have := (r_x193).1; have := (r_x193).2
                  have := (r_x195).1; have := (r_x195).2
                  have := (r_x208).1; have := (r_x208).2
                  have := (r_x225).1; have := (r_x225).2
                  have := (rc_1).1; have := (rc_1).2
                  have := kc_0
                  have := kc_1
                  have := kc_124
                  omega) (by have := congrArg Int32.toInt t115; have := congrArg Int32.toInt t117; have := congrArg Int32.toInt t121; have := congrArg Int32.toInt t123; have := congrArg Int32.toInt t194; have := congrArg Int32.toInt t196; have := congrArg Int32.toInt t214; have := congrArg Int32.toInt t215; have := congrArg Int32.toInt t219; have := congrArg Int32.toInt t220; have := congrArg Int32.toInt t224; have := congrArg Int32.toInt t226; have := congrArg Int32.toInt t233; have := congrArg Int32.toInt t234; have := (r_x216).1; have := (r_x216).2; have := (r_p1).1; have := (r_p1).2; have := (r_x114).1; have := (r_x114).2; have := (r_x116).1; have := (r_x116).2; have := (r_x122).1; have := (r_x122).2; have := (r_x193).1; have := (r_x193).2; have := (r_x195).1; have := (r_x195).2; have := (r_x208).1; have := (r_x208).2; have := (r_x225).1; have := (r_x225).2; have := (rc_1).1; have := (rc_1).2; have := kc_0; have := kc_1; have := kc_124; omega))
            · skip
              have r_x221 : mh_r x221 (0) (0) := mh_eq1 (show x221.toInt = (0 : Int32).toInt from c227) r_x221 rc_0 (0) (0) (by decide)
              refine mw_iconst (v := 0) 59 rfl dX4_readChoice_58 (by decide) ?_
              refine mw_zret dX4_readChoice_59 rfl (mh_r_wk rc_0 (by decide)) ⟨(0), rfl, ⟨(mh_r_wk rc_0 (by decide)), ?_, hI_s222, hF_s222⟩⟩
              · skip
                have := congrArg Int32.toInt t115
                have := congrArg Int32.toInt t117
                have := congrArg Int32.toInt t121
                have := congrArg Int32.toInt t123
                have := congrArg Int32.toInt t194
                have := congrArg Int32.toInt t196
                have := congrArg Int32.toInt t214
                have := congrArg Int32.toInt t215
                have := congrArg Int32.toInt t219
                have := congrArg Int32.toInt t220
                have := congrArg Int32.toInt t224
                have := congrArg Int32.toInt t226
                have := (r_x216).1; have := (r_x216).2
                have := (r_p1).1; have := (r_p1).2
                have := (rc_0).1; have := (rc_0).2
                have := (r_x114).1; have := (r_x114).2
                have := (r_x116).1; have := (r_x116).2
                have := (r_x122).1; have := (r_x122).2
                have := (r_x193).1; have := (r_x193).2
                have := (r_x195).1; have := (r_x195).2
                have := (r_x208).1; have := (r_x208).2
                have := (r_x225).1; have := (r_x225).2
                have := (rc_1).1; have := (rc_1).2
                have := kc_0
                have := kc_1
                have := kc_124
                omega
    exact mw_lv [0, 1] rfl (L10 222 s119 hI_s119 hF_s119 (by
        have := congrArg Int32.toInt t115
        have := congrArg Int32.toInt t117
        have := congrArg Int32.toInt t121
        have := congrArg Int32.toInt t123
        have := (r_p1).1; have := (r_p1).2
        have := (r_x114).1; have := (r_x114).2
        have := (r_x116).1; have := (r_x116).2
        have := (r_x122).1; have := (r_x122).2
        have := kc_0
        have := kc_1
        have := kc_124
        omega) (by have := (rd_56_3 hI_s119).1; omega))
  · skip
    have r_x118 : mh_r x118 (0) (0) := mh_eq1 (show x118.toInt = (0 : Int32).toInt from c124) r_x118 rc_0 (0) (0) (by decide)
    refine mw_iconst (v := 0) 9 rfl dX4_readChoice_8 (by decide) ?_
    refine mw_zret dX4_readChoice_9 rfl (mh_r_wk rc_0 (by decide)) ⟨(0), rfl, ⟨(mh_r_wk rc_0 (by decide)), ?_, hI_s119, hF_s119⟩⟩
    · skip
      have := congrArg Int32.toInt t115
      have := congrArg Int32.toInt t117
      have := congrArg Int32.toInt t121
      have := congrArg Int32.toInt t123
      have := (r_p1).1; have := (r_p1).2
      have := (rc_0).1; have := (rc_0).2
      have := (r_x114).1; have := (r_x114).2
      have := (r_x116).1; have := (r_x116).2
      have := (r_x122).1; have := (r_x122).2
      have := kc_0
      have := kc_1
      have := kc_124
      omega

theorem mh_rd_st (l : Launch) (G : mh_G) (H : Nat) (o : Int) (ho : 0 ≤ o ∧ o ≤ 6) (ih : o < 6 → mh_RB l G H (o + 1)) : mh_RB l G (H + 10) o := by
  intro d
  refine ⟨?_, ?_, ?_⟩
  · intro B D hB s0 hI0 p1 hp
    have h := w_X4_readSum l G (d + 4) hB hI0 p1 ⟨by omega, by omega⟩ H (fun q => by rw [hp]; exact ih (by omega))
    rw [show d + 4 + (H + 6) = d + (H + 10) by omega] at h
    exact h
  · intro B D hB s0 hI0 p1 hp
    have h := w_X4_readChoice l G (d + 0) hB hI0 p1 ⟨by omega, by omega⟩ H (fun q => by rw [hp]; exact ih (by omega))
    rw [show d + 0 + (H + 10) = d + (H + 10) by omega] at h
    exact h
  · intro B D hB s0 hI0 p1 hp
    have h := w_X4_readPiece l G (d + 2) hB hI0 p1 ⟨by omega, by omega⟩ H (fun q => by rw [hp]; exact ih (by omega))
    rw [show d + 2 + (H + 8) = d + (H + 10) by omega] at h
    exact h
theorem mh_rd6 (l : Launch) (G : mh_G) : mh_RB l G 13 6 := mh_rd_st l G 3 6 (by decide) (fun h => absurd h (by decide))
theorem mh_rd5 (l : Launch) (G : mh_G) : mh_RB l G 23 5 := mh_rd_st l G 13 5 (by decide) (fun _ => mh_rd6 l G)
theorem mh_rd4 (l : Launch) (G : mh_G) : mh_RB l G 33 4 := mh_rd_st l G 23 4 (by decide) (fun _ => mh_rd5 l G)
theorem mh_rd3 (l : Launch) (G : mh_G) : mh_RB l G 43 3 := mh_rd_st l G 33 3 (by decide) (fun _ => mh_rd4 l G)
theorem mh_rd2 (l : Launch) (G : mh_G) : mh_RB l G 53 2 := mh_rd_st l G 43 2 (by decide) (fun _ => mh_rd3 l G)
theorem mh_rd1 (l : Launch) (G : mh_G) : mh_RB l G 63 1 := mh_rd_st l G 53 1 (by decide) (fun _ => mh_rd2 l G)
theorem mh_rd0 (l : Launch) (G : mh_G) : mh_RB l G 73 0 := mh_rd_st l G 63 0 (by decide) (fun _ => mh_rd1 l G)

def S_X4_readClause : List (Nat × Nat) := [(56, 4), (56, 3), (41, 9999), (49, 9999), (40, 8), (48, 8), (40, 10), (48, 10), (42, 9999), (50, 9999), (43, 9999), (51, 9999), (44, 9999), (52, 9999), (45, 9999), (53, 9999), (40, 7), (48, 7), (40, 9), (48, 9)]
def P_X4_readClause (B D : Int) (s0 : mh_H) : Int32 → mh_H → Prop := fun z s => mh_r z (0) (1) ∧ ((s0.1 56 3).toInt ≤ (s.1 56 3).toInt) ∧ mh_I B D s ∧ mh_F S_X4_readClause s0 s
set_option maxRecDepth 100000 in
set_option maxHeartbeats 4000000 in
theorem w_X4_readClause (l : Launch) (G : mh_G) (d : Nat) {B D : Int} (hB : B ≤ 1700000000 ∧ D ≤ 1700000000) {s0 : mh_H} (hI0 : mh_I B D s0) : mh_Mi l G (d + 75) mM_X4_readClause [.ref (G.2.2.2 56)] s0 (P_X4_readClause B D s0) := by
  refine mh_enter (lv := [(0, .ref (G.2.2.2 56))]) (by decide) rfl (Nat.le_of_ble_eq_true rfl) ?_
  have hF0 : mh_F S_X4_readClause s0 s0 := mh_F_rf
  obtain ⟨x72, t73⟩ : ∃ z : Int32, z = s0.1 56 2 := ⟨_, rfl⟩
  have r_x72 : mh_r x72 0 220 := by rw [t73]; exact rd_56_2 hI0
  obtain ⟨x74, t75⟩ : ∃ z : Int32, z = s0.1 56 3 := ⟨_, rfl⟩
  have r_x74 : mh_r x74 0 220 := by rw [t75]; exact rd_56_3 hI0
  refine mw_aload_n 1 rfl 0 dX4_readClause_0 rfl rfl ?_
  refine mw_callVi [] [] 4 rfl dX4_readClause_1 ml_X4_51 mc_X4_sign mk_X4_sign rfl rfl (by decide) (w_X4_sign l G (d + 74) ⟨by omega, by omega⟩ hI0) rfl rfl (Nat.le_of_ble_eq_true rfl) (mh_rok (by omega) (by decide)) (fun x76 s77 q78 => ?_)
  obtain ⟨r_x76, e0_s77, rfl⟩ := q78
  have hq_x76 : 0 ≤ x76.toInt → x74.toInt < x72.toInt := by have h9 := e0_s77; rw [← t75, ← t73] at h9; exact h9
  refine mw_istore_n 5 rfl [(1, .int x76), (0, .ref (G.2.2.2 56))] dX4_readClause_4 rfl (by decide) rfl ?_
  refine mw_iload_n 6 rfl 0 dX4_readClause_5 rfl rfl ?_
  refine mw_if_lt 9 rfl 19 dX4_readClause_6 (by decide) (fun c79 => ?_) (fun c79 => ?_)
  · skip
    have r_x76 : mh_r x76 (-1) (-1) := mh_lt1 (show x76.toInt < (0 : Int32).toInt from c79) r_x76 rc_0 (-1) (by decide)
    refine mw_aload_n 20 rfl 1 dX4_readClause_19 rfl rfl ?_
    refine mw_iconst (v := 1) 21 rfl dX4_readClause_20 (by decide) ?_
    refine mw_callVi [.int (1)] [] 24 rfl dX4_readClause_21 ml_X4_55 mc_X4_fail mk_X4_fail rfl rfl (by decide) (w_X4_fail l G (d + 74) ⟨by omega, by omega⟩ hI0 (1)) rfl rfl (Nat.le_of_ble_eq_true rfl) (mh_rok (by omega) (by decide)) (fun x80 s81 q82 => ?_)
    obtain ⟨r_x80, hI_s81, hG_s81⟩ := q82
    have hF_s81 : mh_F S_X4_readClause s0 s81 := mh_F_tl hF0 hG_s81 (by decide +kernel)
    have t83 : x72 = s81.1 56 2 := (t73).trans (hG_s81 56 2 (mh_nsI (by rfl))).1.symm
    have t84 : x74 = s81.1 56 3 := (t75).trans (hG_s81 56 3 (mh_nsI (by rfl))).1.symm
    refine mw_zret dX4_readClause_24 rfl (mh_r_wk r_x80 (by decide)) ⟨x80, rfl, ⟨(mh_r_wk r_x80 (by decide)), ?_, hI_s81, hF_s81⟩⟩
    · skip
      have := congrArg Int32.toInt t73
      have := congrArg Int32.toInt t75
      have := congrArg Int32.toInt t83
      have := congrArg Int32.toInt t84
      have := (r_x76).1; have := (r_x76).2
      have := (r_x80).1; have := (r_x80).2
      have := (r_x72).1; have := (r_x72).2
      have := (r_x74).1; have := (r_x74).2
      have := kc_0
      have := kc_1
      have := kc_4
      have := kc_14
      have := kc_40
      have := kc_41
      omega
  · skip
    have r_x76 : mh_r x76 (0) (255) := mh_le2 (show (0 : Int32).toInt ≤ x76.toInt from c79) rc_0 r_x76 (0) (by decide)
    refine mw_ldcS (k := 1001) (tx := "cwsmyf") 11 rfl dX4_readClause_9 (fun _ _ _ h => h.2.2.1) ?_
    refine mw_iload_n 12 rfl 0 dX4_readClause_11 rfl rfl ?_
    refine mw_i2c 13 rfl dX4_readClause_12 (fun x85 t86 => ?_)
    have r_x85 : mh_r x85 (0) (65535) := by rw [t86]; exact mh_i2c
    refine mw_callKi (i := 1) (by decide) [.int x85] [] 16 rfl dX4_readClause_13 ml_X4_60 mc_J0_indexOf_0f7a4 mk_J0_indexOf_0f7a4 rfl (c_indexOf l G (d + 71) 1 (by decide) s0 x85) rfl rfl (Nat.le_of_ble_eq_true rfl) (mh_rok (by omega) (by decide)) (fun x87 s88 q89 => ?_)
    obtain rfl := q89
    refine mw_if_ge 19 rfl 25 dX4_readClause_16 (by decide) (fun c90 => ?_) (fun c90 => ?_)
    · skip
      have r_x87 : mh_r x87 (0) (2147483647) := mh_le2 (show (0 : Int32).toInt ≤ x87.toInt from c90) rc_0 (mh_r_full x87) (0) (by decide)
      refine mw_aload_n 26 rfl 1 dX4_readClause_25 rfl rfl ?_
      obtain ⟨k92, t91⟩ : ∃ y : Nat, s0.2.2 56 1 = y := ⟨_, rfl⟩
      have hk92 : mh_isL k92 := by rw [← t91]; exact hI0.2.1.2.2.2
      refine mw_geta 29 rfl dX4_readClause_26 gf_X4_25 rfl k92 t91 ?_
      refine mw_geti 32 rfl dX4_readClause_29 gf_X4_44 (ly_L hk92) (fun x93 t94 => ?_)
      have r_x93 : mh_r x93 (0) (14) := by rw [t94]; exact rd_L_7 hI0 hk92
      refine mw_bipush (v := 14) 34 rfl dX4_readClause_32 (by decide) ?_
      refine mw_icmp_lt 37 rfl 43 dX4_readClause_34 (by decide) (fun c95 => ?_) (fun c95 => ?_)
      · skip
        have r_x93 : mh_r x93 (0) (13) := mh_lt1 c95 r_x93 rc_14 (13) (by decide)
        refine mw_aload_n 44 rfl 1 dX4_readClause_43 rfl rfl ?_
        refine mw_dup 45 rfl dX4_readClause_44 rfl ?_
        refine mw_geti 48 rfl dX4_readClause_45 gf_X4_15 rfl (fun x96 t97 => ?_)
        obtain rfl : x74 = x96 := t75.trans t97.symm
        have r_x74 : mh_r x74 (0) (219) := ⟨(r_x74).1, by have := congrArg Int32.toInt t73; have := congrArg Int32.toInt t75; have := (r_x76).1; have := (r_x76).2; have := (r_x74).1; have := (r_x74).2; have := (r_x72).1; have := (r_x72).2; have := (r_x93).1; have := (r_x93).2; have := kc_0; have := kc_1; have := kc_4; have := kc_14; have := kc_40; have := kc_41; omega⟩
        refine mw_iconst (v := 1) 49 rfl dX4_readClause_48 (by decide) ?_
        refine mw_iadd 50 rfl (1) (220) dX4_readClause_49 r_x74 rc_1 (by decide) (fun x98 t99 r_x98 => ?_)
        refine mw_puti 53 rfl dX4_readClause_50 pf_X4_15 rfl (fun s100 t101 => ?_)
        have hI_s100 : mh_I B D s100 := by rw [t101]; exact wr_56_3 hI0 (mh_r_wk r_x98 (by decide))
        have hF_s100 : mh_F S_X4_readClause s0 s100 := by rw [t101]; exact mh_F_pI hF0 (mh_sj 1 rfl)
        refine mw_aload_n 54 rfl 1 dX4_readClause_53 rfl rfl ?_
        obtain ⟨k103, t102⟩ : ∃ y : Nat, s100.2.2 56 1 = y := ⟨_, rfl⟩
        have hk103 : mh_isL k103 := by rw [← t102]; exact hI_s100.2.1.2.2.2
        refine mw_geta 57 rfl dX4_readClause_54 gf_X4_25 rfl k103 t102 ?_
        refine mw_geti 60 rfl dX4_readClause_57 gf_X4_66 (ly_L hk103) (fun x104 t105 => ?_)
        have r_x104 : mh_r x104 (0) (400) := by rw [t105]; exact rd_L_8 hI_s100 hk103
        refine mw_istore_n 61 rfl [(2, .int x104), (1, .int x76), (0, .ref (G.2.2.2 56))] dX4_readClause_60 rfl (by decide) rfl ?_
        refine mw_aload_n 62 rfl 2 dX4_readClause_61 rfl rfl ?_
        refine mw_iconst (v := 0) 63 rfl dX4_readClause_62 (by decide) ?_
        have t106 : x72 = s100.1 56 2 := by rw [t101]; exact (t73).trans (mh_pI_n (by omega)).symm
        have t107 : x98 = s100.1 56 3 := by rw [t101]; exact mh_pI_s.symm
        refine mw_callVi [.int (0)] [] 66 rfl dX4_readClause_63 ml_X4_69 mc_X4_readSum mk_X4_readSum rfl rfl (by decide) ((mh_rd0 l G (d + 1)).1 ⟨by omega, by omega⟩ hI_s100 (0) (by decide)) rfl rfl (Nat.le_of_ble_eq_true rfl) (mh_rok (by omega) (by decide)) (fun x108 s109 q110 => ?_)
        obtain ⟨r_x108, e0_s109, hI_s109, hG_s109⟩ := q110
        have hF_s109 : mh_F S_X4_readClause s0 s109 := mh_F_tl hF_s100 hG_s109 (by decide +kernel)
        have t111 : x72 = s109.1 56 2 := (t106).trans (hG_s109 56 2 (mh_nsI (by rfl))).1.symm
        obtain ⟨x112, t113⟩ : ∃ z : Int32, z = s109.1 56 3 := ⟨_, rfl⟩
        have r_x112 : mh_r x112 0 220 := by rw [t113]; exact rd_56_3 hI_s109
        refine mw_if_ne 69 rfl 71 dX4_readClause_66 (by decide) (fun c114 => ?_) (fun c114 => ?_)
        · skip
          have r_x108 : mh_r x108 (1) (1) := mh_ne1 (show x108.toInt ≠ (0 : Int32).toInt from c114) r_x108 rc_0 (1) (1) (by decide)
          refine mw_aload_n 72 rfl 2 dX4_readClause_71 rfl rfl ?_
          obtain ⟨k116, t115⟩ : ∃ y : Nat, s109.2.2 56 1 = y := ⟨_, rfl⟩
          have hk116 : mh_isL k116 := by rw [← t115]; exact hI_s109.2.1.2.2.2
          refine mw_geta 75 rfl dX4_readClause_72 gf_X4_25 rfl k116 t115 ?_
          refine mw_geti 78 rfl dX4_readClause_75 gf_X4_66 (ly_L hk116) (fun x117 t118 => ?_)
          have r_x117 : mh_r x117 (0) (400) := by rw [t118]; exact rd_L_8 hI_s109 hk116
          refine mw_istore_n 79 rfl [(3, .int x117), (2, .int x104), (1, .int x76), (0, .ref (G.2.2.2 56))] dX4_readClause_78 rfl (by decide) rfl ?_
          refine mw_aload_n 80 rfl 3 dX4_readClause_79 rfl rfl ?_
          refine mw_bipush (v := 40) 82 rfl dX4_readClause_80 (by decide) ?_
          refine mw_callVi [.int (40)] [] 85 rfl dX4_readClause_82 ml_X4_47 mc_X4_take mk_X4_take rfl rfl (by decide) (w_X4_take l G (d + 73) ⟨by omega, by omega⟩ hI_s109 (40) (mh_r_wk rc_40 (by decide))) rfl rfl (Nat.le_of_ble_eq_true rfl) (mh_rok (by omega) (by decide)) (fun x119 s120 q121 => ?_)
          obtain ⟨r_x119, e0_s120, hI_s120, hG_s120⟩ := q121
          have hF_s120 : mh_F S_X4_readClause s0 s120 := mh_F_tl hF_s109 hG_s120 (by decide +kernel)
          have t122 : x72 = s120.1 56 2 := (t111).trans (hG_s120 56 2 (mh_nsI (by rfl))).1.symm
          obtain ⟨x123, t124⟩ : ∃ z : Int32, z = s120.1 56 3 := ⟨_, rfl⟩
          have r_x123 : mh_r x123 0 220 := by rw [t124]; exact rd_56_3 hI_s120
          refine mw_if_eq 88 rfl 105 dX4_readClause_85 (by decide) (fun c125 => ?_) (fun c125 => ?_)
          · skip
            have r_x119 : mh_r x119 (0) (0) := mh_eq1 (show x119.toInt = (0 : Int32).toInt from c125) r_x119 rc_0 (0) (0) (by decide)
            refine mw_iconst (v := 0) 106 rfl dX4_readClause_105 (by decide) ?_
            refine mw_zret dX4_readClause_106 rfl (mh_r_wk rc_0 (by decide)) ⟨(0), rfl, ⟨(mh_r_wk rc_0 (by decide)), ?_, hI_s120, hF_s120⟩⟩
            · skip
              have := congrArg Int32.toInt t73
              have := congrArg Int32.toInt t75
              have := congrArg Int32.toInt t106
              have := congrArg Int32.toInt t107
              have := congrArg Int32.toInt t111
              have := congrArg Int32.toInt t113
              have := congrArg Int32.toInt t122
              have := congrArg Int32.toInt t124
              have := (r_x117).1; have := (r_x117).2
              have := (r_x104).1; have := (r_x104).2
              have := (r_x76).1; have := (r_x76).2
              have := (rc_0).1; have := (rc_0).2
              have := (r_x72).1; have := (r_x72).2
              have := (r_x74).1; have := (r_x74).2
              have := (r_x93).1; have := (r_x93).2
              have := (r_x98).1; have := (r_x98).2
              have := (r_x112).1; have := (r_x112).2
              have := (r_x123).1; have := (r_x123).2
              have := (rc_1).1; have := (rc_1).2
              have := kc_0
              have := kc_1
              have := kc_4
              have := kc_14
              have := kc_40
              have := kc_41
              omega
          · skip
            have r_x119 : mh_r x119 (1) (1) := mh_ne1 (show x119.toInt ≠ (0 : Int32).toInt from c125) r_x119 rc_0 (1) (1) (by decide)
            refine mw_aload_n 89 rfl 3 dX4_readClause_88 rfl rfl ?_
            refine mw_iconst (v := 1) 90 rfl dX4_readClause_89 (by decide) ?_
            refine mw_callVi [.int (1)] [] 93 rfl dX4_readClause_90 ml_X4_72 mc_X4_readChoice mk_X4_readChoice rfl rfl (by decide) ((mh_rd1 l G (d + 11)).2.1 ⟨by omega, by omega⟩ hI_s120 (1) (by decide)) rfl rfl (Nat.le_of_ble_eq_true rfl) (mh_rok (by omega) (by decide)) (fun x126 s127 q128 => ?_)
            obtain ⟨r_x126, e0_s127, hI_s127, hG_s127⟩ := q128
            have hF_s127 : mh_F S_X4_readClause s0 s127 := mh_F_tl hF_s120 hG_s127 (by decide +kernel)
            have t129 : x72 = s127.1 56 2 := (t122).trans (hG_s127 56 2 (mh_nsI (by rfl))).1.symm
            obtain ⟨x130, t131⟩ : ∃ z : Int32, z = s127.1 56 3 := ⟨_, rfl⟩
            have r_x130 : mh_r x130 0 220 := by rw [t131]; exact rd_56_3 hI_s127
            refine mw_if_eq 96 rfl 105 dX4_readClause_93 (by decide) (fun c132 => ?_) (fun c132 => ?_)
            · skip
              have r_x126 : mh_r x126 (0) (0) := mh_eq1 (show x126.toInt = (0 : Int32).toInt from c132) r_x126 rc_0 (0) (0) (by decide)
              refine mw_iconst (v := 0) 106 rfl dX4_readClause_105 (by decide) ?_
              refine mw_zret dX4_readClause_106 rfl (mh_r_wk rc_0 (by decide)) ⟨(0), rfl, ⟨(mh_r_wk rc_0 (by decide)), ?_, hI_s127, hF_s127⟩⟩
              · skip
                have := congrArg Int32.toInt t73
                have := congrArg Int32.toInt t75
                have := congrArg Int32.toInt t106
                have := congrArg Int32.toInt t107
                have := congrArg Int32.toInt t111
                have := congrArg Int32.toInt t113
                have := congrArg Int32.toInt t122
                have := congrArg Int32.toInt t124
                have := congrArg Int32.toInt t129
                have := congrArg Int32.toInt t131
                have := (r_x117).1; have := (r_x117).2
                have := (r_x104).1; have := (r_x104).2
                have := (r_x76).1; have := (r_x76).2
                have := (rc_0).1; have := (rc_0).2
                have := (r_x72).1; have := (r_x72).2
                have := (r_x74).1; have := (r_x74).2
                have := (r_x93).1; have := (r_x93).2
                have := (r_x98).1; have := (r_x98).2
                have := (r_x112).1; have := (r_x112).2
                have := (r_x123).1; have := (r_x123).2
                have := (r_x130).1; have := (r_x130).2
                have := (rc_1).1; have := (rc_1).2
                have := kc_0
                have := kc_1
                have := kc_4
                have := kc_14
                have := kc_40
                have := kc_41
                omega
            · skip
              have r_x126 : mh_r x126 (1) (1) := mh_ne1 (show x126.toInt ≠ (0 : Int32).toInt from c132) r_x126 rc_0 (1) (1) (by decide)
              refine mw_aload_n 97 rfl 3 dX4_readClause_96 rfl rfl ?_
              refine mw_bipush (v := 41) 99 rfl dX4_readClause_97 (by decide) ?_
              refine mw_callVi [.int (41)] [] 102 rfl dX4_readClause_99 ml_X4_47 mc_X4_take mk_X4_take rfl rfl (by decide) (w_X4_take l G (d + 73) ⟨by omega, by omega⟩ hI_s127 (41) (mh_r_wk rc_41 (by decide))) rfl rfl (Nat.le_of_ble_eq_true rfl) (mh_rok (by omega) (by decide)) (fun x133 s134 q135 => ?_)
              obtain ⟨r_x133, e0_s134, hI_s134, hG_s134⟩ := q135
              have hF_s134 : mh_F S_X4_readClause s0 s134 := mh_F_tl hF_s127 hG_s134 (by decide +kernel)
              have t136 : x72 = s134.1 56 2 := (t129).trans (hG_s134 56 2 (mh_nsI (by rfl))).1.symm
              obtain ⟨x137, t138⟩ : ∃ z : Int32, z = s134.1 56 3 := ⟨_, rfl⟩
              have r_x137 : mh_r x137 0 220 := by rw [t138]; exact rd_56_3 hI_s134
              refine mw_if_ne 105 rfl 107 dX4_readClause_102 (by decide) (fun c139 => ?_) (fun c139 => ?_)
              · skip
                have r_x133 : mh_r x133 (1) (1) := mh_ne1 (show x133.toInt ≠ (0 : Int32).toInt from c139) r_x133 rc_0 (1) (1) (by decide)
                refine mw_aload_n 108 rfl 3 dX4_readClause_107 rfl rfl ?_
                obtain ⟨k141, t140⟩ : ∃ y : Nat, s134.2.2 56 1 = y := ⟨_, rfl⟩
                have hk141 : mh_isL k141 := by rw [← t140]; exact hI_s134.2.1.2.2.2
                refine mw_geta 111 rfl dX4_readClause_108 gf_X4_25 rfl k141 t140 ?_
                refine mw_iload_n 112 rfl 2 dX4_readClause_111 rfl rfl ?_
                refine mw_iload_n 113 rfl 1 dX4_readClause_112 rfl rfl ?_
                refine mw_iload_n 114 rfl 0 dX4_readClause_113 rfl rfl ?_
                refine mw_callVv [.int x76, .int x104, .int x117] [] 117 rfl dX4_readClause_114 ml_X4_75 mc_X1_addClause mk_X1_addClause (ly_L hk141) rfl (by decide) (w_X1_addClause l G (d + 74) ⟨by omega, by omega⟩ hI_s134 k141 hk141 x76 x104 x117) rfl rfl (Nat.le_of_ble_eq_true rfl) (mh_rok (by omega) (by decide)) (fun s143 q144 => ?_)
                obtain ⟨hI_s143, hG_s143⟩ := q144
                have hF_s143 : mh_F S_X4_readClause s0 s143 := mh_F_tl hF_s134 hG_s143 (by rcases hk141 with rfl | rfl <;> decide +kernel)
                have t145 : x72 = s143.1 56 2 := (t136).trans (hG_s143 56 2 (mh_nsI (by rcases hk141 with rfl | rfl <;> rfl))).1.symm
                have t146 : x137 = s143.1 56 3 := (t138).trans (hG_s143 56 3 (mh_nsI (by rcases hk141 with rfl | rfl <;> rfl))).1.symm
                refine mw_iconst (v := 1) 118 rfl dX4_readClause_117 (by decide) ?_
                refine mw_zret dX4_readClause_118 rfl (mh_r_wk rc_1 (by decide)) ⟨(1), rfl, ⟨(mh_r_wk rc_1 (by decide)), ?_, hI_s143, hF_s143⟩⟩
                · skip
                  have := congrArg Int32.toInt t73
                  have := congrArg Int32.toInt t75
                  have := congrArg Int32.toInt t106
                  have := congrArg Int32.toInt t107
                  have := congrArg Int32.toInt t111
                  have := congrArg Int32.toInt t113
                  have := congrArg Int32.toInt t122
                  have := congrArg Int32.toInt t124
                  have := congrArg Int32.toInt t129
                  have := congrArg Int32.toInt t131
                  have := congrArg Int32.toInt t136
                  have := congrArg Int32.toInt t138
                  have := congrArg Int32.toInt t145
                  have := congrArg Int32.toInt t146
                  have := (r_x117).1; have := (r_x117).2
                  have := (r_x104).1; have := (r_x104).2
                  have := (r_x76).1; have := (r_x76).2
                  have := (rc_1).1; have := (rc_1).2
                  have := (r_x72).1; have := (r_x72).2
                  have := (r_x74).1; have := (r_x74).2
                  have := (r_x93).1; have := (r_x93).2
                  have := (r_x98).1; have := (r_x98).2
                  have := (r_x112).1; have := (r_x112).2
                  have := (r_x123).1; have := (r_x123).2
                  have := (r_x130).1; have := (r_x130).2
                  have := (r_x137).1; have := (r_x137).2
                  have := kc_0
                  have := kc_1
                  have := kc_4
                  have := kc_14
                  have := kc_40
                  have := kc_41
                  omega
              · skip
                have r_x133 : mh_r x133 (0) (0) := mh_eq1 (show x133.toInt = (0 : Int32).toInt from c139) r_x133 rc_0 (0) (0) (by decide)
                refine mw_iconst (v := 0) 106 rfl dX4_readClause_105 (by decide) ?_
                refine mw_zret dX4_readClause_106 rfl (mh_r_wk rc_0 (by decide)) ⟨(0), rfl, ⟨(mh_r_wk rc_0 (by decide)), ?_, hI_s134, hF_s134⟩⟩
                · skip
                  have := congrArg Int32.toInt t73
                  have := congrArg Int32.toInt t75
                  have := congrArg Int32.toInt t106
                  have := congrArg Int32.toInt t107
                  have := congrArg Int32.toInt t111
                  have := congrArg Int32.toInt t113
                  have := congrArg Int32.toInt t122
                  have := congrArg Int32.toInt t124
                  have := congrArg Int32.toInt t129
                  have := congrArg Int32.toInt t131
                  have := congrArg Int32.toInt t136
                  have := congrArg Int32.toInt t138
                  have := (r_x117).1; have := (r_x117).2
                  have := (r_x104).1; have := (r_x104).2
                  have := (r_x76).1; have := (r_x76).2
                  have := (rc_0).1; have := (rc_0).2
                  have := (r_x72).1; have := (r_x72).2
                  have := (r_x74).1; have := (r_x74).2
                  have := (r_x93).1; have := (r_x93).2
                  have := (r_x98).1; have := (r_x98).2
                  have := (r_x112).1; have := (r_x112).2
                  have := (r_x123).1; have := (r_x123).2
                  have := (r_x130).1; have := (r_x130).2
                  have := (r_x137).1; have := (r_x137).2
                  have := (rc_1).1; have := (rc_1).2
                  have := kc_0
                  have := kc_1
                  have := kc_4
                  have := kc_14
                  have := kc_40
                  have := kc_41
                  omega
        · skip
          have r_x108 : mh_r x108 (0) (0) := mh_eq1 (show x108.toInt = (0 : Int32).toInt from c114) r_x108 rc_0 (0) (0) (by decide)
          refine mw_iconst (v := 0) 70 rfl dX4_readClause_69 (by decide) ?_
          refine mw_zret dX4_readClause_70 rfl (mh_r_wk rc_0 (by decide)) ⟨(0), rfl, ⟨(mh_r_wk rc_0 (by decide)), ?_, hI_s109, hF_s109⟩⟩
          · skip
            have := congrArg Int32.toInt t73
            have := congrArg Int32.toInt t75
            have := congrArg Int32.toInt t106
            have := congrArg Int32.toInt t107
            have := congrArg Int32.toInt t111
            have := congrArg Int32.toInt t113
            have := (r_x104).1; have := (r_x104).2
            have := (r_x76).1; have := (r_x76).2
            have := (rc_0).1; have := (rc_0).2
            have := (r_x72).1; have := (r_x72).2
            have := (r_x74).1; have := (r_x74).2
            have := (r_x93).1; have := (r_x93).2
            have := (r_x98).1; have := (r_x98).2
            have := (r_x112).1; have := (r_x112).2
            have := (rc_1).1; have := (rc_1).2
            have := kc_0
            have := kc_1
            have := kc_4
            have := kc_14
            have := kc_40
            have := kc_41
            omega
      · skip
        have r_x93 : mh_r x93 (14) (14) := mh_le2 c95 rc_14 r_x93 (14) (by decide)
        refine mw_aload_n 38 rfl 1 dX4_readClause_37 rfl rfl ?_
        refine mw_iconst (v := 4) 39 rfl dX4_readClause_38 (by decide) ?_
        refine mw_callVi [.int (4)] [] 42 rfl dX4_readClause_39 ml_X4_55 mc_X4_fail mk_X4_fail rfl rfl (by decide) (w_X4_fail l G (d + 74) ⟨by omega, by omega⟩ hI0 (4)) rfl rfl (Nat.le_of_ble_eq_true rfl) (mh_rok (by omega) (by decide)) (fun x147 s148 q149 => ?_)
        obtain ⟨r_x147, hI_s148, hG_s148⟩ := q149
        have hF_s148 : mh_F S_X4_readClause s0 s148 := mh_F_tl hF0 hG_s148 (by decide +kernel)
        have t150 : x72 = s148.1 56 2 := (t73).trans (hG_s148 56 2 (mh_nsI (by rfl))).1.symm
        have t151 : x74 = s148.1 56 3 := (t75).trans (hG_s148 56 3 (mh_nsI (by rfl))).1.symm
        refine mw_zret dX4_readClause_42 rfl (mh_r_wk r_x147 (by decide)) ⟨x147, rfl, ⟨(mh_r_wk r_x147 (by decide)), ?_, hI_s148, hF_s148⟩⟩
        · skip
          have := congrArg Int32.toInt t73
          have := congrArg Int32.toInt t75
          have := congrArg Int32.toInt t150
          have := congrArg Int32.toInt t151
          have := (r_x76).1; have := (r_x76).2
          have := (r_x147).1; have := (r_x147).2
          have := (r_x72).1; have := (r_x72).2
          have := (r_x74).1; have := (r_x74).2
          have := (r_x93).1; have := (r_x93).2
          have := kc_0
          have := kc_1
          have := kc_4
          have := kc_14
          have := kc_40
          have := kc_41
          omega
    · skip
      have r_x87 : mh_r x87 (-2147483648) (-1) := mh_lt1 (show x87.toInt < (0 : Int32).toInt from c90) (mh_r_full x87) rc_0 (-1) (by decide)
      refine mw_aload_n 20 rfl 1 dX4_readClause_19 rfl rfl ?_
      refine mw_iconst (v := 1) 21 rfl dX4_readClause_20 (by decide) ?_
      refine mw_callVi [.int (1)] [] 24 rfl dX4_readClause_21 ml_X4_55 mc_X4_fail mk_X4_fail rfl rfl (by decide) (w_X4_fail l G (d + 74) ⟨by omega, by omega⟩ hI0 (1)) rfl rfl (Nat.le_of_ble_eq_true rfl) (mh_rok (by omega) (by decide)) (fun x152 s153 q154 => ?_)
      obtain ⟨r_x152, hI_s153, hG_s153⟩ := q154
      have hF_s153 : mh_F S_X4_readClause s0 s153 := mh_F_tl hF0 hG_s153 (by decide +kernel)
      have t155 : x72 = s153.1 56 2 := (t73).trans (hG_s153 56 2 (mh_nsI (by rfl))).1.symm
      have t156 : x74 = s153.1 56 3 := (t75).trans (hG_s153 56 3 (mh_nsI (by rfl))).1.symm
      refine mw_zret dX4_readClause_24 rfl (mh_r_wk r_x152 (by decide)) ⟨x152, rfl, ⟨(mh_r_wk r_x152 (by decide)), ?_, hI_s153, hF_s153⟩⟩
      · skip
        have := congrArg Int32.toInt t73
        have := congrArg Int32.toInt t75
        have := congrArg Int32.toInt t155
        have := congrArg Int32.toInt t156
        have := (r_x76).1; have := (r_x76).2
        have := (r_x152).1; have := (r_x152).2
        have := (r_x72).1; have := (r_x72).2
        have := (r_x74).1; have := (r_x74).2
        have := kc_0
        have := kc_1
        have := kc_4
        have := kc_14
        have := kc_40
        have := kc_41
        omega

def S_X4_read (kl : Nat) : List (Nat × Nat) := [(56, 1), (56, 2), (56, 3), (56, 4), (kl, 7), (kl, 8), (kl, 9), (kl, 10), (41, 9999), (49, 9999), (40, 8), (48, 8), (40, 10), (48, 10), (42, 9999), (50, 9999), (43, 9999), (51, 9999), (44, 9999), (52, 9999), (45, 9999), (53, 9999), (40, 7), (48, 7), (40, 9), (48, 9)]
def P_X4_read (B D : Int) (s0 : mh_H) (kl : Nat) (p1 : Int32) : Int32 → mh_H → Prop := fun z s => mh_r z (-2147483648) (2147483647) ∧ mh_I B D s ∧ mh_F (S_X4_read kl) s0 s
set_option maxRecDepth 100000 in
set_option maxHeartbeats 4000000 in
theorem w_X4_read (l : Launch) (G : mh_G) (d : Nat) {B D : Int} (hB : B ≤ 480000000 ∧ D ≤ 480000000) {s0 : mh_H} (hI0 : mh_I B D s0) (kl : Nat) (hkl : mh_isL kl) (p1 : Int32) (r_p1 : mh_r p1 (1) (200)) : mh_Mi l G (d + 76) mM_X4_read [.ref (G.2.2.2 56), .int p1, .ref (G.2.2.2 kl)] s0 (P_X4_read B D s0 kl p1) := by
  refine mh_enter (lv := [(0, .ref (G.2.2.2 56)), (1, .int p1), (2, .ref (G.2.2.2 kl))]) (by decide) rfl (Nat.le_of_ble_eq_true rfl) ?_
  have hF0 : mh_F (S_X4_read kl) s0 s0 := mh_F_rf
  refine mw_aload_n 1 rfl 0 dX4_read_0 rfl rfl ?_
  refine mw_aload_n 2 rfl 2 dX4_read_1 rfl rfl ?_
  refine mw_puta 5 rfl dX4_read_2 pf_X4_25 rfl (fun s164 t165 => ?_)
  have hI_s164 : mh_I B D s164 := by rw [t165]; exact mh_I_pR hI0 hkl rfl
  have hF_s164 : mh_F (S_X4_read kl) s0 s164 := by rw [t165]; exact mh_F_pR hF0 (mh_sj 0 rfl)
  refine mw_aload_n 6 rfl 0 dX4_read_5 rfl rfl ?_
  refine mw_iload_n 7 rfl 1 dX4_read_6 rfl rfl ?_
  refine mw_aload_n 8 rfl 0 dX4_read_7 rfl rfl ?_
  refine mw_geta 11 rfl dX4_read_8 gf_X4_21 rfl 38 (mh_rf hI_s164 54 rfl) ?_
  refine mw_alen 12 rfl dX4_read_11 rfl (by decide) (v := 220) (by decide) ?_
  refine mw_mmin (1) (200) 15 rfl dX4_read_12 ml_X4_29 r_p1 rc_220 (by decide) (mh_mr (D := d + 76) (by omega) (Nat.le_of_ble_eq_true rfl)) (fun x166 t167 r_x166 => ?_)
  refine mw_puti 18 rfl dX4_read_15 pf_X4_9 rfl (fun s168 t169 => ?_)
  have hI_s168 : mh_I B D s168 := by rw [t169]; exact wr_56_2 hI_s164 (mh_r_wk r_x166 (by decide))
  have hF_s168 : mh_F (S_X4_read kl) s0 s168 := by rw [t169]; exact mh_F_pI hF_s164 (mh_sj 1 rfl)
  refine mw_aload_n 19 rfl 0 dX4_read_18 rfl rfl ?_
  refine mw_iconst (v := 0) 20 rfl dX4_read_19 (by decide) ?_
  refine mw_puti 23 rfl dX4_read_20 pf_X4_15 rfl (fun s170 t171 => ?_)
  have hI_s170 : mh_I B D s170 := by rw [t171]; exact wr_56_3 hI_s168 (mh_r_wk rc_0 (by decide))
  have hF_s170 : mh_F (S_X4_read kl) s0 s170 := by rw [t171]; exact mh_F_pI hF_s168 (mh_sj 2 rfl)
  refine mw_aload_n 24 rfl 0 dX4_read_23 rfl rfl ?_
  refine mw_iconst (v := 0) 25 rfl dX4_read_24 (by decide) ?_
  refine mw_puti 28 rfl dX4_read_25 pf_X4_18 rfl (fun s172 t173 => ?_)
  have hI_s172 : mh_I B D s172 := by rw [t173]; exact wr_56_4 hI_s170
  have hF_s172 : mh_F (S_X4_read kl) s0 s172 := by rw [t173]; exact mh_F_pI hF_s170 (mh_sj 3 rfl)
  refine mw_aload_n 29 rfl 2 dX4_read_28 rfl rfl ?_
  refine mw_callVv [] [] 32 rfl dX4_read_29 ml_X4_35 mc_X1_clear mk_X1_clear (ly_L hkl) rfl (by decide) (w_X1_clear l G (d + 75) ⟨by omega, by omega⟩ hI_s172 kl hkl) rfl rfl (Nat.le_of_ble_eq_true rfl) (mh_rok (by omega) (by decide)) (fun s175 q176 => ?_)
  obtain ⟨hI_s175, hG_s175⟩ := q176
  have hF_s175 : mh_F (S_X4_read kl) s0 s175 := mh_F_tl hF_s172 hG_s175 (by rcases hkl with rfl | rfl <;> decide +kernel)
  refine mw_iconst (v := 0) 33 rfl dX4_read_32 (by decide) ?_
  refine mw_istore_n 34 rfl [(3, .int (0)), (0, .ref (G.2.2.2 56)), (1, .int p1), (2, .ref (G.2.2.2 kl))] dX4_read_33 rfl (by decide) rfl ?_
  have L34 : ∀ n1 : Nat, ∀ (x283 : Int32) (s284 : mh_H), mh_r x283 (0) (15) → mh_I B D s284 → mh_F (S_X4_read kl) s0 s284 → (15) - x283.toInt < (n1 : Int) → mh_W G (mh_XM l G (d + 76) (mh_Qi (P_X4_read B D s0 kl p1))) mM_X4_read 34 [(0, .ref (G.2.2.2 56)), (1, .int p1), (2, .ref (G.2.2.2 kl)), (3, .int x283)] [] s284 := by
    intro n1
    induction n1 with
    | zero =>
      intro x283 s284 r_x283 hI_s284 hF_s284 hmn1
      exact absurd hmn1 (by have := r_x283.1; have := r_x283.2; omega)
    | succ n1 ihn1 =>
      intro x283 s284 r_x283 hI_s284 hF_s284 hmn1
      refine mw_iload_n 35 rfl 3 dX4_read_34 rfl rfl ?_
      refine mw_bipush (v := 14) 37 rfl dX4_read_35 (by decide) ?_
      refine mw_icmp_gt 40 rfl 88 dX4_read_37 (by decide) (fun c303 => ?_) (fun c303 => ?_)
      · skip
        have r_x283 : mh_r x283 (15) (15) := mh_lt2 c303 rc_14 r_x283 (15) (by decide)
        refine mw_aload_n 89 rfl 0 dX4_read_88 rfl rfl ?_
        refine mw_geti 92 rfl dX4_read_89 gf_X4_18 rfl (fun x304 t305 => ?_)
        exact mw_iret dX4_read_92 rfl ⟨x304, rfl, ⟨(mh_r_full x304), hI_s284, hF_s284⟩⟩
      · skip
        have r_x283 : mh_r x283 (0) (14) := mh_le1 c303 r_x283 rc_14 (14) (by decide)
        refine mw_aload_n 41 rfl 0 dX4_read_40 rfl rfl ?_
        refine mw_callVi [] [] 44 rfl dX4_read_41 ml_X4_40 mc_X4_readClause mk_X4_readClause rfl rfl (by decide) (w_X4_readClause l G (d + 0) ⟨by omega, by omega⟩ hI_s284) rfl rfl (Nat.le_of_ble_eq_true rfl) (mh_rok (by omega) (by decide)) (fun x306 s307 q308 => ?_)
        obtain ⟨r_x306, e0_s307, hI_s307, hG_s307⟩ := q308
        have hF_s307 : mh_F (S_X4_read kl) s0 s307 := mh_F_tl hF_s284 hG_s307 (by rcases hkl with rfl | rfl <;> decide +kernel)
        refine mw_if_ne 47 rfl 52 dX4_read_44 (by decide) (fun c309 => ?_) (fun c309 => ?_)
        · skip
          have r_x306 : mh_r x306 (1) (1) := mh_ne1 (show x306.toInt ≠ (0 : Int32).toInt from c309) r_x306 rc_0 (1) (1) (by decide)
          refine mw_aload_n 53 rfl 0 dX4_read_52 rfl rfl ?_
          refine mw_geti 56 rfl dX4_read_53 gf_X4_15 rfl (fun x310 t311 => ?_)
          have r_x310 : mh_r x310 (0) (220) := by rw [t311]; exact rd_56_3 hI_s307
          refine mw_aload_n 57 rfl 0 dX4_read_56 rfl rfl ?_
          refine mw_geti 60 rfl dX4_read_57 gf_X4_9 rfl (fun x312 t313 => ?_)
          have r_x312 : mh_r x312 (0) (220) := by rw [t313]; exact rd_56_2 hI_s307
          refine mw_icmp_lt 63 rfl 68 dX4_read_60 (by decide) (fun c314 => ?_) (fun c314 => ?_)
          · skip
            have r_x310 : mh_r x310 (0) (219) := mh_lt1 c314 r_x310 r_x312 (219) (by decide)
            have r_x312 : mh_r x312 (1) (220) := mh_lt2 c314 r_x310 r_x312 (1) (by decide)
            refine mw_aload_n 69 rfl 0 dX4_read_68 rfl rfl ?_
            refine mw_bipush (v := 59) 71 rfl dX4_read_69 (by decide) ?_
            refine mw_callVi [.int (59)] [] 74 rfl dX4_read_71 ml_X4_47 mc_X4_take mk_X4_take rfl rfl (by decide) (w_X4_take l G (d + 74) ⟨by omega, by omega⟩ hI_s307 (59) (mh_r_wk rc_59 (by decide))) rfl rfl (Nat.le_of_ble_eq_true rfl) (mh_rok (by omega) (by decide)) (fun x315 s316 q317 => ?_)
            obtain ⟨r_x315, e0_s316, hI_s316, hG_s316⟩ := q317
            have hF_s316 : mh_F (S_X4_read kl) s0 s316 := mh_F_tl hF_s307 hG_s316 (by rcases hkl with rfl | rfl <;> decide +kernel)
            refine mw_if_ne 77 rfl 82 dX4_read_74 (by decide) (fun c318 => ?_) (fun c318 => ?_)
            · skip
              have r_x315 : mh_r x315 (1) (1) := mh_ne1 (show x315.toInt ≠ (0 : Int32).toInt from c318) r_x315 rc_0 (1) (1) (by decide)
              refine mw_iincR (k := 3) (1) (15) 85 rfl (fun z => [(3, .int z), (0, .ref (G.2.2.2 56)), (1, .int p1), (2, .ref (G.2.2.2 kl))]) dX4_read_82 rfl (by decide) (fun _ => rfl) r_x283 (by decide) (by decide) (fun x319 t320 r_x319 => ?_)
              refine mw_goto 88 rfl 34 dX4_read_85 (by decide) ?_
              exact mw_lv [1, 2, 3, 0] rfl (ihn1 x319 s316 (mh_r_wk r_x319 (by decide)) hI_s316 hF_s316 (by have : x319.toInt = x283.toInt + (1) := t320; omega))
            · skip
              have r_x315 : mh_r x315 (0) (0) := mh_eq1 (show x315.toInt = (0 : Int32).toInt from c318) r_x315 rc_0 (0) (0) (by decide)
              refine mw_aload_n 78 rfl 0 dX4_read_77 rfl rfl ?_
              refine mw_geti 81 rfl dX4_read_78 gf_X4_18 rfl (fun x321 t322 => ?_)
              exact mw_iret dX4_read_81 rfl ⟨x321, rfl, ⟨(mh_r_full x321), hI_s316, hF_s316⟩⟩
          · skip
            refine mw_aload_n 64 rfl 2 dX4_read_63 rfl rfl ?_
            refine mw_geti 67 rfl dX4_read_64 gf_X4_44 (ly_L hkl) (fun x323 t324 => ?_)
            have r_x323 : mh_r x323 (0) (14) := by rw [t324]; exact rd_L_7 hI_s307 hkl
            exact mw_iret dX4_read_67 rfl ⟨x323, rfl, ⟨(mh_r_wk r_x323 (by decide)), hI_s307, hF_s307⟩⟩
        · skip
          have r_x306 : mh_r x306 (0) (0) := mh_eq1 (show x306.toInt = (0 : Int32).toInt from c309) r_x306 rc_0 (0) (0) (by decide)
          refine mw_aload_n 48 rfl 0 dX4_read_47 rfl rfl ?_
          refine mw_geti 51 rfl dX4_read_48 gf_X4_18 rfl (fun x325 t326 => ?_)
          exact mw_iret dX4_read_51 rfl ⟨x325, rfl, ⟨(mh_r_full x325), hI_s307, hF_s307⟩⟩
  exact mw_lv [1, 2, 3, 0] rfl (L34 16 (0) s175 (mh_r_wk rc_0 (by decide)) hI_s175 hF_s175 (by have := (rc_0).1; have := (rc_0).2; omega))

def S_X9_law : List (Nat × Nat) := [(56, 1), (56, 2), (56, 3), (56, 4), (40, 7), (48, 7), (40, 8), (48, 8), (40, 9), (48, 9), (40, 10), (48, 10), (41, 9999), (49, 9999), (42, 9999), (50, 9999), (43, 9999), (51, 9999), (44, 9999), (52, 9999), (45, 9999), (53, 9999), (37, 1), (0, 11), (0, 12)]
def P_X9_law (B D : Int) (s0 : mh_H) (p1 : Int32) : Int32 → mh_H → Prop := fun z s => mh_r z (-2147483648) (2147483647) ∧ mh_I B D s ∧ mh_F S_X9_law s0 s
set_option maxRecDepth 100000 in
set_option maxHeartbeats 4000000 in
theorem w_X9_law (l : Launch) (G : mh_G) (d : Nat) {B D : Int} (hB : B ≤ 460000000 ∧ D ≤ 460000000) {s0 : mh_H} (hI0 : mh_I B D s0) (p1 : Int32) : mh_Mi l G (d + 77) mM_X9_law [.ref (G.2.2.2 0), .int p1] s0 (P_X9_law B D s0 p1) := by
  refine mh_enter (lv := [(0, .ref (G.2.2.2 0)), (1, .int p1)]) (by decide) rfl (Nat.le_of_ble_eq_true rfl) ?_
  have hF0 : mh_F S_X9_law s0 s0 := mh_F_rf
  refine mw_iload_n 1 rfl 1 dX9_law_0 rfl rfl ?_
  refine mw_iconst (v := 1) 2 rfl dX9_law_1 (by decide) ?_
  refine mw_icmp_lt 5 rfl 23 dX9_law_2 (by decide) (fun c22 => ?_) (fun c22 => ?_)
  · skip
    have r_p1 : mh_r p1 (-2147483648) (0) := mh_lt1 c22 (mh_r_full p1) rc_1 (0) (by decide)
    refine mw_iconst (v := -1) 24 rfl dX9_law_23 (by decide) ?_
    exact mw_iret dX9_law_24 rfl ⟨(-1), rfl, ⟨(mh_r_wk rc_m1 (by decide)), hI0, hF0⟩⟩
  · skip
    have r_p1 : mh_r p1 (1) (2147483647) := mh_le2 c22 rc_1 (mh_r_full p1) (1) (by decide)
    refine mw_iload_n 6 rfl 1 dX9_law_5 rfl rfl ?_
    refine mw_sipush (v := 200) 9 rfl dX9_law_6 (by decide) ?_
    refine mw_icmp_gt 12 rfl 23 dX9_law_9 (by decide) (fun c23 => ?_) (fun c23 => ?_)
    · skip
      have r_p1 : mh_r p1 (201) (2147483647) := mh_lt2 c23 rc_200 r_p1 (201) (by decide)
      refine mw_iconst (v := -1) 24 rfl dX9_law_23 (by decide) ?_
      exact mw_iret dX9_law_24 rfl ⟨(-1), rfl, ⟨(mh_r_wk rc_m1 (by decide)), hI0, hF0⟩⟩
    · skip
      have r_p1 : mh_r p1 (1) (200) := mh_le1 c23 r_p1 rc_200 (200) (by decide)
      refine mw_iload_n 13 rfl 1 dX9_law_12 rfl rfl ?_
      refine mw_aload_n 14 rfl 0 dX9_law_13 rfl rfl ?_
      refine mw_geta 17 rfl dX9_law_14 gf_X9_60 rfl 37 (mh_rf hI0 8 rfl) ?_
      refine mw_geti 20 rfl dX9_law_17 gf_X9_116 rfl (fun x24 t25 => ?_)
      have r_x24 : mh_r x24 (0) (220) := by rw [t25]; exact rd_37_1 hI0
      refine mw_icmp_le 23 rfl 25 dX9_law_20 (by decide) (fun c26 => ?_) (fun c26 => ?_)
      · skip
        have r_x24 : mh_r x24 (1) (220) := mh_le2 c26 r_p1 r_x24 (1) (by decide)
        refine mw_aload_n 26 rfl 0 dX9_law_25 rfl rfl ?_
        refine mw_geta 29 rfl dX9_law_26 gf_X9_86 rfl 56 (mh_rf hI0 9 rfl) ?_
        refine mw_iload_n 30 rfl 1 dX9_law_29 rfl rfl ?_
        refine mw_aload_n 31 rfl 0 dX9_law_30 rfl rfl ?_
        obtain ⟨k28, t27⟩ : ∃ y : Nat, s0.2.2 0 12 = y := ⟨_, rfl⟩
        have hk28 : mh_isL k28 := by rw [← t27]; exact hI0.2.1.2.2.1
        refine mw_geta 34 rfl dX9_law_31 gf_X9_75 rfl k28 t27 ?_
        refine mw_callVi [.int p1, .ref (G.2.2.2 k28)] [] 37 rfl dX9_law_34 ml_X9_124 mc_X4_read mk_X4_read rfl rfl (by decide) (w_X4_read l G (d + 0) ⟨by omega, by omega⟩ hI0 k28 hk28 p1 r_p1) rfl rfl (Nat.le_of_ble_eq_true rfl) (mh_rok (by omega) (by decide)) (fun x29 s30 q31 => ?_)
        obtain ⟨r_x29, hI_s30, hG_s30⟩ := q31
        have hF_s30 : mh_F S_X9_law s0 s30 := mh_F_tl hF0 hG_s30 (by rcases hk28 with rfl | rfl <;> decide +kernel)
        refine mw_istore_n 38 rfl [(2, .int x29), (0, .ref (G.2.2.2 0)), (1, .int p1)] dX9_law_37 rfl (by decide) rfl ?_
        refine mw_aload_n 39 rfl 1 dX9_law_38 rfl rfl ?_
        refine mw_geta 42 rfl dX9_law_39 gf_X9_60 rfl 37 (mh_rf hI_s30 8 rfl) ?_
        refine mw_iconst (v := 0) 43 rfl dX9_law_42 (by decide) ?_
        refine mw_puti 46 rfl dX9_law_43 pf_X9_116 rfl (fun s32 t33 => ?_)
        have hI_s32 : mh_I B D s32 := by rw [t33]; exact wr_37_1 hI_s30 (mh_r_wk rc_0 (by decide))
        have hF_s32 : mh_F S_X9_law s0 s32 := by rw [t33]; exact mh_F_pI hF_s30 (mh_sj 22 rfl)
        refine mw_iload_n 47 rfl 0 dX9_law_46 rfl rfl ?_
        refine mw_if_le 50 rfl 68 dX9_law_47 (by decide) (fun c34 => ?_) (fun c34 => ?_)
        · skip
          have r_x29 : mh_r x29 (-2147483648) (0) := mh_le1 (show x29.toInt ≤ (0 : Int32).toInt from c34) r_x29 rc_0 (0) (by decide)
          refine mw_iload_n 69 rfl 0 dX9_law_68 rfl rfl ?_
          exact mw_iret dX9_law_69 rfl ⟨x29, rfl, ⟨(mh_r_wk r_x29 (by decide)), hI_s32, hF_s32⟩⟩
        · skip
          have r_x29 : mh_r x29 (1) (2147483647) := mh_lt2 (show (0 : Int32).toInt < x29.toInt from c34) rc_0 r_x29 (1) (by decide)
          refine mw_aload_n 51 rfl 1 dX9_law_50 rfl rfl ?_
          obtain ⟨k36, t35⟩ : ∃ y : Nat, s32.2.2 0 11 = y := ⟨_, rfl⟩
          have hk36 : mh_isL k36 := by rw [← t35]; exact hI_s32.2.1.2.1
          refine mw_geta 54 rfl dX9_law_51 gf_X9_71 rfl k36 t35 ?_
          refine mw_astore_n 55 rfl [(3, .ref (G.2.2.2 k36)), (2, .int x29), (0, .ref (G.2.2.2 0)), (1, .int p1)] dX9_law_54 rfl (by decide) rfl ?_
          refine mw_aload_n 56 rfl 2 dX9_law_55 rfl rfl ?_
          refine mw_aload_n 57 rfl 2 dX9_law_56 rfl rfl ?_
          obtain ⟨k38, t37⟩ : ∃ y : Nat, s32.2.2 0 12 = y := ⟨_, rfl⟩
          have hk38 : mh_isL k38 := by rw [← t37]; exact hI_s32.2.1.2.2.1
          refine mw_geta 60 rfl dX9_law_57 gf_X9_75 rfl k38 t37 ?_
          refine mw_puta 63 rfl dX9_law_60 pf_X9_71 rfl (fun s39 t40 => ?_)
          have hI_s39 : mh_I B D s39 := by rw [t40]; exact mh_I_pR hI_s32 hk38 rfl
          have hF_s39 : mh_F S_X9_law s0 s39 := by rw [t40]; exact mh_F_pR hF_s32 (mh_sj 23 rfl)
          refine mw_aload_n 64 rfl 2 dX9_law_63 rfl rfl ?_
          refine mw_aload_n 65 rfl 0 dX9_law_64 rfl rfl ?_
          refine mw_puta 68 rfl dX9_law_65 pf_X9_75 rfl (fun s41 t42 => ?_)
          have hI_s41 : mh_I B D s41 := by rw [t42]; exact mh_I_pR hI_s39 hk36 rfl
          have hF_s41 : mh_F S_X9_law s0 s41 := by rw [t42]; exact mh_F_pR hF_s39 (mh_sj 24 rfl)
          refine mw_iload_n 69 rfl 1 dX9_law_68 rfl rfl ?_
          exact mw_iret dX9_law_69 rfl ⟨x29, rfl, ⟨(mh_r_wk r_x29 (by decide)), hI_s41, hF_s41⟩⟩
      · skip
        have r_x24 : mh_r x24 (0) (199) := mh_lt1 c26 r_x24 r_p1 (199) (by decide)
        refine mw_iconst (v := -1) 24 rfl dX9_law_23 (by decide) ?_
        exact mw_iret dX9_law_24 rfl ⟨(-1), rfl, ⟨(mh_r_wk rc_m1 (by decide)), hI0, hF0⟩⟩

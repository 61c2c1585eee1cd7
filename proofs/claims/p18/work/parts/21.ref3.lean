def S_X10_seed : List (Nat × Nat) := [(57, 3)]
def P_X10_seed (B D : Int) (s0 : mh_H) (p1 : Int32) : Int32 → mh_H → Prop := fun z s => mh_r z (0) (1) ∧ mh_I B D s ∧ mh_F S_X10_seed s0 s
set_option maxRecDepth 100000 in
set_option maxHeartbeats 4000000 in
theorem w_X10_seed (l : Launch) (G : mh_G) (d : Nat) {B D : Int} (hB : B ≤ 1980000000 ∧ D ≤ 1980000000) {s0 : mh_H} (hI0 : mh_I B D s0) (p1 : Int32) : mh_Mi l G (d + 1) mM_X10_seed [.ref (G.2.2.2 57), .int p1] s0 (P_X10_seed B D s0 p1) := by
  refine mh_enter (lv := [(0, .ref (G.2.2.2 57)), (1, .int p1)]) (by decide) rfl (Nat.le_of_ble_eq_true rfl) ?_
  have hF0 : mh_F S_X10_seed s0 s0 := mh_F_rf
  refine mw_iload_n 1 rfl 1 dX10_seed_0 rfl rfl ?_
  refine mw_i2l 2 rfl dX10_seed_1 (fun y9 t10 => ?_)
  refine mw_lconst (v := 0) 3 rfl dX10_seed_2 (by decide) ?_
  refine mw_ldc2 6 rfl dX10_seed_3 ck_X10_459 ?_
  refine mw_callSi [.long y9, .long (0), .long (65535)] [] 9 rfl dX10_seed_6 ml_X10_154 mc_X10_lies mk_X10_lies (w_X10_lies l G (d + 0) ⟨by omega, by omega⟩ hI0 y9 (0) (65535)) rfl rfl (Nat.le_of_ble_eq_true rfl) (mh_rok (by omega) (by decide)) (fun x11 s12 q13 => ?_)
  obtain ⟨r_x11, e0_s12, rfl⟩ := q13
  have f_x11 : x11.toInt = 1 ↔ (0 ≤ p1.toInt ∧ p1.toInt ≤ 65535) := by rw [e0_s12]; exact by simp only [t10, Int32.toInt_toInt64]; first | done | exact Iff.rfl
  refine mw_if_ne 12 rfl 14 dX10_seed_9 (by decide) (fun c14 => ?_) (fun c14 => ?_)
  · skip
    have r_p1 : mh_r p1 (0) (65535) := ⟨by have := f_x11.1 (mh_z1 r_x11 c14); have := ((mh_r_full p1)).1; omega, by have := f_x11.1 (mh_z1 r_x11 c14); have := ((mh_r_full p1)).2; omega⟩
    have r_x11 : mh_r x11 (1) (1) := mh_ne1 (show x11.toInt ≠ (0 : Int32).toInt from c14) r_x11 rc_0 (1) (1) (by decide)
    refine mw_aload_n 15 rfl 0 dX10_seed_14 rfl rfl ?_
    refine mw_iload_n 16 rfl 1 dX10_seed_15 rfl rfl ?_
    refine mw_puti 19 rfl dX10_seed_16 pf_X10_13 rfl (fun s15 t16 => ?_)
    have hI_s15 : mh_I B D s15 := by rw [t16]; exact wr_57_3 hI0 r_p1
    have hF_s15 : mh_F S_X10_seed s0 s15 := by rw [t16]; exact mh_F_pI hF0 (mh_sj 0 rfl)
    refine mw_iconst (v := 1) 20 rfl dX10_seed_19 (by decide) ?_
    exact mw_zret dX10_seed_20 rfl (mh_r_wk rc_1 (by decide)) ⟨(1), rfl, ⟨(mh_r_wk rc_1 (by decide)), hI_s15, hF_s15⟩⟩
  · skip
    have r_x11 : mh_r x11 (0) (0) := mh_eq1 (show x11.toInt = (0 : Int32).toInt from c14) r_x11 rc_0 (0) (0) (by decide)
    refine mw_iconst (v := 0) 13 rfl dX10_seed_12 (by decide) ?_
    exact mw_zret dX10_seed_13 rfl (mh_r_wk rc_0 (by decide)) ⟨(0), rfl, ⟨(mh_r_wk rc_0 (by decide)), hI0, hF0⟩⟩

def S_X10_draw : List (Nat × Nat) := [(57, 3), (63, 9999), (57, 33), (57, 34), (57, 35), (57, 36), (57, 37), (78, 9999), (77, 9999), (79, 9999), (80, 9999), (61, 9999), (62, 9999), (82, 9999), (81, 9999), (57, 4), (57, 2)]
def P_X10_draw (B D : Int) (s0 : mh_H) (p1 : Int32) : Int32 → mh_H → Prop := fun z s => mh_r z (-2147483648) (2147483647) ∧ mh_I (B + 60) D s ∧ mh_F S_X10_draw s0 s
set_option maxRecDepth 100000 in
set_option maxHeartbeats 4000000 in
theorem w_X10_draw (l : Launch) (G : mh_G) (d : Nat) {B D : Int} (hB : B ≤ 1820000000 ∧ D ≤ 1820000000) {s0 : mh_H} (hI0 : mh_I B D s0) (p1 : Int32) : mh_Mi l G (d + 9) mM_X10_draw [.ref (G.2.2.2 57), .int p1] s0 (P_X10_draw B D s0 p1) := by
  refine mh_enter (lv := [(0, .ref (G.2.2.2 57)), (1, .int p1)]) (by decide) rfl (Nat.le_of_ble_eq_true rfl) ?_
  have hF0 : mh_F S_X10_draw s0 s0 := mh_F_rf
  refine mw_iload_n 1 rfl 1 dX10_draw_0 rfl rfl ?_
  refine mw_callSi [.int p1] [] 4 rfl dX10_draw_1 ml_X10_373 mc_X10_isNight mk_X10_isNight (w_X10_isNight l G (d + 7) ⟨by omega, by omega⟩ hI0 p1) rfl rfl (Nat.le_of_ble_eq_true rfl) (mh_rok (by omega) (by decide)) (fun x329 s330 q331 => ?_)
  obtain ⟨r_x329, e0_s330, rfl⟩ := q331
  refine mw_if_ne 7 rfl 9 dX10_draw_4 (by decide) (fun c332 => ?_) (fun c332 => ?_)
  · skip
    have r_p1 : mh_r p1 (1) (60) := ⟨by have := e0_s330.1 (mh_z1 r_x329 c332); have := ((mh_r_full p1)).1; omega, by have := e0_s330.1 (mh_z1 r_x329 c332); have := ((mh_r_full p1)).2; omega⟩
    have r_x329 : mh_r x329 (1) (1) := mh_ne1 (show x329.toInt ≠ (0 : Int32).toInt from c332) r_x329 rc_0 (1) (1) (by decide)
    refine mw_aload_n 10 rfl 0 dX10_draw_9 rfl rfl ?_
    refine mw_getl 13 rfl dX10_draw_10 gf_X10_361 rfl (fun y333 _ => ?_)
    refine mw_lstore_n 14 rfl [(2, .long y333), (0, .ref (G.2.2.2 57)), (1, .int p1)] dX10_draw_13 rfl (by decide) rfl ?_
    refine mw_iconst (v := 0) 15 rfl dX10_draw_14 (by decide) ?_
    refine mw_istore 17 rfl [(4, .int (0)), (2, .long y333), (0, .ref (G.2.2.2 57)), (1, .int p1)] dX10_draw_15  (by decide) rfl ?_
    have L17 : ∀ n1 : Nat, ∀ (x588 : Int32) (s589 : mh_H), mh_r x588 (0) (60) → mh_I (B + x588.toInt) D s589 → mh_F S_X10_draw s0 s589 → (60) - x588.toInt < (n1 : Int) → mh_W G (mh_XM l G (d + 9) (mh_Qi (P_X10_draw B D s0 p1))) mM_X10_draw 17 [(0, .ref (G.2.2.2 57)), (1, .int p1), (2, .long y333), (4, .int x588)] [] s589 := by
      intro n1
      induction n1 with
      | zero =>
        intro x588 s589 r_x588 hI_s589 hF_s589 hmn1
        exact absurd hmn1 (by have := r_x588.1; have := r_x588.2; omega)
      | succ n1 ihn1 =>
        intro x588 s589 r_x588 hI_s589 hF_s589 hmn1
        refine mw_iload 19 rfl 3 dX10_draw_17  rfl ?_
        refine mw_iload_n 20 rfl 1 dX10_draw_19 rfl rfl ?_
        refine mw_icmp_ge 23 rfl 78 dX10_draw_20 (by decide) (fun c622 => ?_) (fun c622 => ?_)
        · skip
          have r_x588 : mh_r x588 (1) (60) := mh_le2 c622 r_p1 r_x588 (1) (by decide)
          refine mw_aload_n 79 rfl 0 dX10_draw_78 rfl rfl ?_
          refine mw_getl 82 rfl dX10_draw_79 gf_X10_361 rfl (fun y623 _ => ?_)
          refine mw_lload_n 83 rfl 2 dX10_draw_82 rfl rfl ?_
          refine mw_lsub 84 rfl dX10_draw_83 (fun y624 t625 => ?_)
          refine mw_l2i 85 rfl dX10_draw_84 (fun x626 t627 => ?_)
          exact mw_iret dX10_draw_85 rfl ⟨x626, rfl, ⟨(mh_r_full x626), (mh_I_mono hI_s589 (by have := (r_p1).1; have := (r_p1).2; have := (r_x588).1; have := (r_x588).2; have := kc_m1; have := kc_0; have := kc_1; have := kc_10; have := kc_100; have := kc_13849; have := kc_25173; have := kc_65536; skip; omega) (by have := (r_p1).1; have := (r_p1).2; have := (r_x588).1; have := (r_x588).2; have := kc_m1; have := kc_0; have := kc_1; have := kc_10; have := kc_100; have := kc_13849; have := kc_25173; have := kc_65536; skip; omega)), hF_s589⟩⟩
        · skip
          have r_x588 : mh_r x588 (0) (59) := mh_lt1 c622 r_x588 r_p1 (59) (by decide)
          refine mw_aload_n 24 rfl 0 dX10_draw_23 rfl rfl ?_
          refine mw_sipush (v := 25173) 27 rfl dX10_draw_24 (by decide) ?_
          refine mw_aload_n 28 rfl 0 dX10_draw_27 rfl rfl ?_
          refine mw_geti 31 rfl dX10_draw_28 gf_X10_13 rfl (fun x628 t629 => ?_)
          have r_x628 : mh_r x628 (0) (65535) := by rw [t629]; exact rd_57_3 hI_s589
          refine mw_imul 32 rfl (0) (1649712555) dX10_draw_31 rc_25173 r_x628 (by decide) (fun x630 t631 r_x630 => ?_)
          refine mw_sipush (v := 13849) 35 rfl dX10_draw_32 (by decide) ?_
          refine mw_iadd 36 rfl (13849) (1649726404) dX10_draw_35 r_x630 rc_13849 (by decide) (fun x632 t633 r_x632 => ?_)
          refine mw_ldcw 39 rfl dX10_draw_36 ck_X10_461 ?_
          refine mw_irem 40 rfl (0) (65535) dX10_draw_39 r_x632 rc_65536 (by decide) (fun x634 t635 r_x634 => ?_)
          have g636 : x634.toInt = x632.toInt % 65536 := mh_rme t635 (by have := (r_x632).1; omega) (by decide)
          refine mw_puti 43 rfl dX10_draw_40 pf_X10_13 rfl (fun s637 t638 => ?_)
          have hI_s637 : mh_I (B + x588.toInt) D s637 := by rw [t638]; exact wr_57_3 hI_s589 r_x634
          have hF_s637 : mh_F S_X10_draw s0 s637 := by rw [t638]; exact mh_F_pI hF_s589 (mh_sj 0 rfl)
          refine mw_aload_n 44 rfl 0 dX10_draw_43 rfl rfl ?_
          refine mw_geti 47 rfl dX10_draw_44 gf_X10_301 rfl (fun x639 t640 => ?_)
          have r_x639 : mh_r x639 (0) (1820001000) := by rw [t640]; exact mh_r_wk (rd_57_2 hI_s637) ⟨by decide, by have := (r_p1).1; have := (r_p1).2; have := (r_x588).1; have := (r_x588).2; have := (r_x628).1; have := (r_x628).2; have := kc_m1; have := kc_0; have := kc_1; have := kc_10; have := kc_100; have := kc_13849; have := kc_25173; have := kc_65536; omega⟩
          refine mw_bipush (v := 100) 49 rfl dX10_draw_47 (by decide) ?_
          have J68 : ∀  (s651 : mh_H), mh_I (B + x588.toInt) D s651 → mh_F S_X10_draw s0 s651 → mh_W G (mh_XM l G (d + 9) (mh_Qi (P_X10_draw B D s0 p1))) mM_X10_draw 68 [(0, .ref (G.2.2.2 57)), (1, .int p1), (2, .long y333), (4, .int x588)] [] s651 := by
            intro s651 hI_s651 hF_s651
            refine mw_aload_n 69 rfl 0 dX10_draw_68 rfl rfl ?_
            refine mw_callVv [] [] 72 rfl dX10_draw_69 ml_X10_376 mc_X10_stepOne mk_X10_stepOne rfl rfl (by decide) (w_X10_stepOne l G (d + 0) ⟨by have := (r_p1).1; have := (r_p1).2; have := (r_x588).1; have := (r_x588).2; have := kc_m1; have := kc_0; have := kc_1; have := kc_10; have := kc_100; have := kc_13849; have := kc_25173; have := kc_65536; skip; omega, by have := (r_p1).1; have := (r_p1).2; have := (r_x588).1; have := (r_x588).2; have := kc_m1; have := kc_0; have := kc_1; have := kc_10; have := kc_100; have := kc_13849; have := kc_25173; have := kc_65536; skip; omega⟩ hI_s651) rfl rfl (Nat.le_of_ble_eq_true rfl) (mh_rok (by omega) (by decide)) (fun s658 q659 => ?_)
            obtain ⟨hI_s658, hG_s658⟩ := q659
            have hF_s658 : mh_F S_X10_draw s0 s658 := mh_F_tl hF_s651 hG_s658 (by decide +kernel)
            refine mw_iincR (k := 3) (1) (60) 75 rfl (fun z => [(4, .int z), (0, .ref (G.2.2.2 57)), (1, .int p1), (2, .long y333)]) dX10_draw_72 rfl (by decide) (fun _ => rfl) r_x588 (by decide) (by decide) (fun x660 t661 r_x660 => ?_)
            refine mw_goto 78 rfl 17 dX10_draw_75 (by decide) ?_
            exact mw_lv [1, 2, 3, 0] rfl (ihn1 x660 s658 (mh_r_wk r_x660 (by decide)) (mh_I_mono hI_s658 (by have := (r_x660).1; have := (r_x660).2; have := (r_p1).1; have := (r_p1).2; have := kc_m1; have := kc_0; have := kc_1; have := kc_10; have := kc_100; have := kc_13849; have := kc_25173; have := kc_65536; skip; omega) (by have := (r_x660).1; have := (r_x660).2; have := (r_p1).1; have := (r_p1).2; have := kc_m1; have := kc_0; have := kc_1; have := kc_10; have := kc_100; have := kc_13849; have := kc_25173; have := kc_65536; skip; omega)) hF_s658 (by have : x660.toInt = x588.toInt + (1) := t661; omega))
          refine mw_icmp_ge 52 rfl 68 dX10_draw_49 (by decide) (fun c662 => ?_) (fun c662 => ?_)
          · skip
            have r_x639 : mh_r x639 (100) (1820001000) := mh_le2 c662 rc_100 r_x639 (100) (by decide)
            exact mw_lv [0, 1, 2, 3] rfl (J68 s637 hI_s637 hF_s637)
          · skip
            have r_x639 : mh_r x639 (0) (99) := mh_lt1 c662 r_x639 rc_100 (99) (by decide)
            refine mw_aload_n 53 rfl 0 dX10_draw_52 rfl rfl ?_
            refine mw_geta 56 rfl dX10_draw_53 gf_X10_30 rfl 63 (mh_rf hI_s637 60 rfl) ?_
            refine mw_aload_n 57 rfl 0 dX10_draw_56 rfl rfl ?_
            refine mw_geti 60 rfl dX10_draw_57 gf_X10_301 rfl (fun x663 t664 => ?_)
            obtain rfl : x639 = x663 := t640.trans t664.symm
            refine mw_aload_n 61 rfl 0 dX10_draw_60 rfl rfl ?_
            refine mw_geti 64 rfl dX10_draw_61 gf_X10_13 rfl (fun x665 t666 => ?_)
            have t667 : x634 = s637.1 57 3 := by rw [t638]; exact mh_pI_s.symm
            obtain rfl : x634 = x665 := t667.trans t666.symm
            refine mw_bipush (v := 10) 66 rfl dX10_draw_64 (by decide) ?_
            refine mw_irem 67 rfl (0) (9) dX10_draw_66 r_x634 rc_10 (by decide) (fun x668 t669 r_x668 => ?_)
            have g670 : x668.toInt = x634.toInt % 10 := mh_rme t669 (by have := (r_x634).1; omega) (by decide)
            refine mw_iast 68 rfl dX10_draw_67 rfl r_x639 (by decide) (fun s671 t672 => ?_)
            have hI_s671 : mh_I (B + x588.toInt) D s671 := by rw [t672]; exact wr_63 hI_s637
            have hF_s671 : mh_F S_X10_draw s0 s671 := by rw [t672]; exact mh_F_pI hF_s637 (mh_si 1 rfl)
            exact mw_lv [0, 1, 2, 3] rfl (J68 s671 hI_s671 hF_s671)
    exact mw_lv [2, 3, 1, 0] rfl (L17 61 (0) s0 (mh_r_wk rc_0 (by decide)) (mh_I_mono hI0 (by have := (rc_0).1; have := (rc_0).2; have := (r_p1).1; have := (r_p1).2; have := kc_m1; have := kc_0; have := kc_1; have := kc_10; have := kc_100; have := kc_13849; have := kc_25173; have := kc_65536; skip; omega) (by have := (rc_0).1; have := (rc_0).2; have := (r_p1).1; have := (r_p1).2; have := kc_m1; have := kc_0; have := kc_1; have := kc_10; have := kc_100; have := kc_13849; have := kc_25173; have := kc_65536; skip; omega)) hF0 (by have := (rc_0).1; have := (rc_0).2; omega))
  · skip
    have r_x329 : mh_r x329 (0) (0) := mh_eq1 (show x329.toInt = (0 : Int32).toInt from c332) r_x329 rc_0 (0) (0) (by decide)
    refine mw_iconst (v := -1) 8 rfl dX10_draw_7 (by decide) ?_
    exact mw_iret dX10_draw_8 rfl ⟨(-1), rfl, ⟨(mh_r_wk rc_m1 (by decide)), (mh_I_mono hI0 (by have := (rc_m1).1; have := (rc_m1).2; have := kc_m1; have := kc_0; have := kc_1; have := kc_10; have := kc_100; have := kc_13849; have := kc_25173; have := kc_65536; skip; omega) (by have := (rc_m1).1; have := (rc_m1).2; have := kc_m1; have := kc_0; have := kc_1; have := kc_10; have := kc_100; have := kc_13849; have := kc_25173; have := kc_65536; skip; omega)), hF0⟩⟩

def S_X10_keep : List (Nat × Nat) := [(57, 64), (83, 9999), (84, 9999), (85, 9999), (86, 9999), (87, 9999), (88, 9999), (57, 65), (102, 9999)]
def P_X10_keep (B D : Int) (s0 : mh_H) : Int32 → mh_H → Prop := fun z s => mh_r z (0) (1980000000) ∧ mh_I B B s ∧ mh_F S_X10_keep s0 s
set_option maxRecDepth 100000 in
set_option maxHeartbeats 4000000 in
theorem w_X10_keep (l : Launch) (G : mh_G) (d : Nat) {B D : Int} (hB : B ≤ 1980000000 ∧ D ≤ 1980000000) {s0 : mh_H} (hI0 : mh_I B B s0) : mh_Mi l G (d + 1) mM_X10_keep [.ref (G.2.2.2 57)] s0 (P_X10_keep B D s0) := by
  refine mh_enter (lv := [(0, .ref (G.2.2.2 57))]) (by decide) rfl (Nat.le_of_ble_eq_true rfl) ?_
  have hF0 : mh_F S_X10_keep s0 s0 := mh_F_rf
  refine mw_aload_n 1 rfl 0 dX10_keep_0 rfl rfl ?_
  refine mw_iconst (v := 1) 2 rfl dX10_keep_1 (by decide) ?_
  refine mw_putz 5 rfl dX10_keep_2 pf_X10_462 rfl (mh_r_wk rc_1 (by decide)) (fun s100 t101 => ?_)
  have hI_s100 : mh_I B B s100 := by rw [t101]; exact wr_57_64 hI0 (mh_r_wk rc_1 (by decide))
  have hF_s100 : mh_F S_X10_keep s0 s100 := by rw [t101]; exact mh_F_pI hF0 (mh_sj 0 rfl)
  refine mw_aload_n 6 rfl 0 dX10_keep_5 rfl rfl ?_
  refine mw_iconst (v := 1) 7 rfl dX10_keep_6 (by decide) ?_
  refine mw_callVv [.int (1)] [] 10 rfl dX10_keep_7 ml_X10_388 mc_X10_setsAside mk_X10_setsAside rfl rfl (by decide) (w_X10_setsAside l G (d + 0) ⟨by have := kc_0; have := kc_1; have := kc_100; skip; omega, by have := kc_0; have := kc_1; have := kc_100; skip; omega⟩ hI_s100 (1) (mh_r_wk rc_1 (by decide)) (by omega)) rfl rfl (Nat.le_of_ble_eq_true rfl) (mh_rok (by omega) (by decide)) (fun s103 q104 => ?_)
  obtain ⟨hI_s103, hG_s103⟩ := q104
  have hF_s103 : mh_F S_X10_keep s0 s103 := mh_F_tl hF_s100 hG_s103 (by decide +kernel)
  refine mw_aload_n 11 rfl 0 dX10_keep_10 rfl rfl ?_
  refine mw_aload_n 12 rfl 0 dX10_keep_11 rfl rfl ?_
  refine mw_geti 15 rfl dX10_keep_12 gf_X10_13 rfl (fun x105 t106 => ?_)
  have r_x105 : mh_r x105 (0) (65535) := by rw [t106]; exact rd_57_3 hI_s103
  refine mw_puti 18 rfl dX10_keep_15 pf_X10_465 rfl (fun s107 t108 => ?_)
  have hI_s107 : mh_I B B s107 := by rw [t108]; exact wr_57_65 hI_s103 r_x105
  have hF_s107 : mh_F S_X10_keep s0 s107 := by rw [t108]; exact mh_F_pI hF_s103 (mh_sj 7 rfl)
  refine mw_iconst (v := 0) 19 rfl dX10_keep_18 (by decide) ?_
  refine mw_istore_n 20 rfl [(1, .int (0)), (0, .ref (G.2.2.2 57))] dX10_keep_19 rfl (by decide) rfl ?_
  have L20 : ∀ n1 : Nat, ∀ (x179 : Int32) (s180 : mh_H), mh_r x179 (0) (100) → mh_I B B s180 → mh_F S_X10_keep s0 s180 → (100) - x179.toInt < (n1 : Int) → mh_W G (mh_XM l G (d + 1) (mh_Qi (P_X10_keep B D s0))) mM_X10_keep 20 [(0, .ref (G.2.2.2 57)), (1, .int x179)] [] s180 := by
    intro n1
    induction n1 with
    | zero =>
      intro x179 s180 r_x179 hI_s180 hF_s180 hmn1
      exact absurd hmn1 (by have := r_x179.1; have := r_x179.2; omega)
    | succ n1 ihn1 =>
      intro x179 s180 r_x179 hI_s180 hF_s180 hmn1
      refine mw_iload_n 21 rfl 1 dX10_keep_20 rfl rfl ?_
      refine mw_bipush (v := 100) 23 rfl dX10_keep_21 (by decide) ?_
      refine mw_icmp_ge 26 rfl 44 dX10_keep_23 (by decide) (fun c190 => ?_) (fun c190 => ?_)
      · skip
        have r_x179 : mh_r x179 (100) (100) := mh_le2 c190 rc_100 r_x179 (100) (by decide)
        refine mw_aload_n 45 rfl 0 dX10_keep_44 rfl rfl ?_
        refine mw_geti 48 rfl dX10_keep_45 gf_X10_301 rfl (fun x191 t192 => ?_)
        have r_x191 : mh_r x191 (0) (1980000000) := by rw [t192]; exact mh_r_wk (rd_57_2 hI_s180) ⟨by decide, by skip; omega⟩
        exact mw_iret dX10_keep_48 rfl ⟨x191, rfl, ⟨r_x191, hI_s180, hF_s180⟩⟩
      · skip
        have r_x179 : mh_r x179 (0) (99) := mh_lt1 c190 r_x179 rc_100 (99) (by decide)
        refine mw_aload_n 27 rfl 0 dX10_keep_26 rfl rfl ?_
        refine mw_geta 30 rfl dX10_keep_27 gf_X10_149 rfl 102 (mh_rf hI_s180 99 rfl) ?_
        refine mw_iload_n 31 rfl 1 dX10_keep_30 rfl rfl ?_
        refine mw_aload_n 32 rfl 0 dX10_keep_31 rfl rfl ?_
        refine mw_geta 35 rfl dX10_keep_32 gf_X10_30 rfl 63 (mh_rf hI_s180 60 rfl) ?_
        refine mw_iload_n 36 rfl 1 dX10_keep_35 rfl rfl ?_
        refine mw_iald 37 rfl dX10_keep_36 rfl r_x179 (by decide) (fun x193 t194 => ?_)
        refine mw_iast 38 rfl dX10_keep_37 rfl r_x179 (by decide) (fun s195 t196 => ?_)
        have hI_s195 : mh_I B B s195 := by rw [t196]; exact wr_102 hI_s180
        have hF_s195 : mh_F S_X10_keep s0 s195 := by rw [t196]; exact mh_F_pI hF_s180 (mh_si 8 rfl)
        refine mw_iincR (k := 1) (1) (100) 41 rfl (fun z => [(1, .int z), (0, .ref (G.2.2.2 57))]) dX10_keep_38 rfl (by decide) (fun _ => rfl) r_x179 (by decide) (by decide) (fun x197 t198 r_x197 => ?_)
        refine mw_goto 44 rfl 20 dX10_keep_41 (by decide) ?_
        exact mw_lv [1, 0] rfl (ihn1 x197 s195 (mh_r_wk r_x197 (by decide)) hI_s195 hF_s195 (by have : x197.toInt = x179.toInt + (1) := t198; omega))
  exact mw_lv [1, 0] rfl (L20 101 (0) s107 (mh_r_wk rc_0 (by decide)) hI_s107 hF_s107 (by have := (rc_0).1; have := (rc_0).2; omega))

def S_X10_undo : List (Nat × Nat) := [(61, 9999), (62, 9999), (59, 9999), (60, 9999), (57, 2), (57, 4), (57, 3), (63, 9999)]
def P_X10_undo (B D : Int) (s0 : mh_H) : Int32 → mh_H → Prop := fun z s => mh_r z (0) (1) ∧ mh_I B B s ∧ mh_F S_X10_undo s0 s
set_option maxRecDepth 100000 in
set_option maxHeartbeats 4000000 in
theorem w_X10_undo (l : Launch) (G : mh_G) (d : Nat) {B D : Int} (hB : B ≤ 1980000000 ∧ D ≤ 1980000000) {s0 : mh_H} (hI0 : mh_I B B s0) : mh_Mi l G (d + 1) mM_X10_undo [.ref (G.2.2.2 57)] s0 (P_X10_undo B D s0) := by
  refine mh_enter (lv := [(0, .ref (G.2.2.2 57))]) (by decide) rfl (Nat.le_of_ble_eq_true rfl) ?_
  have hF0 : mh_F S_X10_undo s0 s0 := mh_F_rf
  refine mw_aload_n 1 rfl 0 dX10_undo_0 rfl rfl ?_
  refine mw_geti 4 rfl dX10_undo_1 gf_X10_462 rfl (fun x99 t100 => ?_)
  have r_x99 : mh_r x99 (0) (1) := by rw [t100]; exact rd_57_64 hI0
  refine mw_if_ne 7 rfl 9 dX10_undo_4 (by decide) (fun c101 => ?_) (fun c101 => ?_)
  · skip
    have r_x99 : mh_r x99 (1) (1) := mh_ne1 (show x99.toInt ≠ (0 : Int32).toInt from c101) r_x99 rc_0 (1) (1) (by decide)
    refine mw_aload_n 10 rfl 0 dX10_undo_9 rfl rfl ?_
    refine mw_iconst (v := 1) 11 rfl dX10_undo_10 (by decide) ?_
    refine mw_callVv [.int (1)] [] 14 rfl dX10_undo_11 ml_X10_394 mc_X10_putsBack mk_X10_putsBack rfl rfl (by decide) (w_X10_putsBack l G (d + 0) ⟨by have := (r_x99).1; have := (r_x99).2; have := kc_0; have := kc_1; have := kc_100; skip; omega, by have := (r_x99).1; have := (r_x99).2; have := kc_0; have := kc_1; have := kc_100; skip; omega⟩ hI0 (1) (mh_r_wk rc_1 (by decide))) rfl rfl (Nat.le_of_ble_eq_true rfl) (mh_rok (by omega) (by decide)) (fun s103 q104 => ?_)
    obtain ⟨hI_s103, hG_s103⟩ := q104
    have hF_s103 : mh_F S_X10_undo s0 s103 := mh_F_tl hF0 hG_s103 (by decide +kernel)
    refine mw_aload_n 15 rfl 0 dX10_undo_14 rfl rfl ?_
    refine mw_aload_n 16 rfl 0 dX10_undo_15 rfl rfl ?_
    refine mw_geti 19 rfl dX10_undo_16 gf_X10_465 rfl (fun x105 t106 => ?_)
    have r_x105 : mh_r x105 (0) (65535) := by rw [t106]; exact rd_57_65 hI_s103
    refine mw_puti 22 rfl dX10_undo_19 pf_X10_13 rfl (fun s107 t108 => ?_)
    have hI_s107 : mh_I B B s107 := by rw [t108]; exact wr_57_3 hI_s103 r_x105
    have hF_s107 : mh_F S_X10_undo s0 s107 := by rw [t108]; exact mh_F_pI hF_s103 (mh_sj 6 rfl)
    refine mw_iconst (v := 0) 23 rfl dX10_undo_22 (by decide) ?_
    refine mw_istore_n 24 rfl [(1, .int (0)), (0, .ref (G.2.2.2 57))] dX10_undo_23 rfl (by decide) rfl ?_
    have L24 : ∀ n1 : Nat, ∀ (x179 : Int32) (s180 : mh_H), mh_r x179 (0) (100) → mh_I B B s180 → mh_F S_X10_undo s0 s180 → (100) - x179.toInt < (n1 : Int) → mh_W G (mh_XM l G (d + 1) (mh_Qi (P_X10_undo B D s0))) mM_X10_undo 24 [(0, .ref (G.2.2.2 57)), (1, .int x179)] [] s180 := by
      intro n1
      induction n1 with
      | zero =>
        intro x179 s180 r_x179 hI_s180 hF_s180 hmn1
        exact absurd hmn1 (by have := r_x179.1; have := r_x179.2; omega)
      | succ n1 ihn1 =>
        intro x179 s180 r_x179 hI_s180 hF_s180 hmn1
        refine mw_iload_n 25 rfl 1 dX10_undo_24 rfl rfl ?_
        refine mw_bipush (v := 100) 27 rfl dX10_undo_25 (by decide) ?_
        refine mw_icmp_ge 30 rfl 48 dX10_undo_27 (by decide) (fun c190 => ?_) (fun c190 => ?_)
        · skip
          have r_x179 : mh_r x179 (100) (100) := mh_le2 c190 rc_100 r_x179 (100) (by decide)
          refine mw_iconst (v := 1) 49 rfl dX10_undo_48 (by decide) ?_
          exact mw_zret dX10_undo_49 rfl (mh_r_wk rc_1 (by decide)) ⟨(1), rfl, ⟨(mh_r_wk rc_1 (by decide)), hI_s180, hF_s180⟩⟩
        · skip
          have r_x179 : mh_r x179 (0) (99) := mh_lt1 c190 r_x179 rc_100 (99) (by decide)
          refine mw_aload_n 31 rfl 0 dX10_undo_30 rfl rfl ?_
          refine mw_geta 34 rfl dX10_undo_31 gf_X10_30 rfl 63 (mh_rf hI_s180 60 rfl) ?_
          refine mw_iload_n 35 rfl 1 dX10_undo_34 rfl rfl ?_
          refine mw_aload_n 36 rfl 0 dX10_undo_35 rfl rfl ?_
          refine mw_geta 39 rfl dX10_undo_36 gf_X10_149 rfl 102 (mh_rf hI_s180 99 rfl) ?_
          refine mw_iload_n 40 rfl 1 dX10_undo_39 rfl rfl ?_
          refine mw_iald 41 rfl dX10_undo_40 rfl r_x179 (by decide) (fun x191 t192 => ?_)
          refine mw_iast 42 rfl dX10_undo_41 rfl r_x179 (by decide) (fun s193 t194 => ?_)
          have hI_s193 : mh_I B B s193 := by rw [t194]; exact wr_63 hI_s180
          have hF_s193 : mh_F S_X10_undo s0 s193 := by rw [t194]; exact mh_F_pI hF_s180 (mh_si 7 rfl)
          refine mw_iincR (k := 1) (1) (100) 45 rfl (fun z => [(1, .int z), (0, .ref (G.2.2.2 57))]) dX10_undo_42 rfl (by decide) (fun _ => rfl) r_x179 (by decide) (by decide) (fun x195 t196 r_x195 => ?_)
          refine mw_goto 48 rfl 24 dX10_undo_45 (by decide) ?_
          exact mw_lv [1, 0] rfl (ihn1 x195 s193 (mh_r_wk r_x195 (by decide)) hI_s193 hF_s193 (by have : x195.toInt = x179.toInt + (1) := t196; omega))
    exact mw_lv [1, 0] rfl (L24 101 (0) s107 (mh_r_wk rc_0 (by decide)) hI_s107 hF_s107 (by have := (rc_0).1; have := (rc_0).2; omega))
  · skip
    have r_x99 : mh_r x99 (0) (0) := mh_eq1 (show x99.toInt = (0 : Int32).toInt from c101) r_x99 rc_0 (0) (0) (by decide)
    refine mw_iconst (v := 0) 8 rfl dX10_undo_7 (by decide) ?_
    exact mw_zret dX10_undo_8 rfl (mh_r_wk rc_0 (by decide)) ⟨(0), rfl, ⟨(mh_r_wk rc_0 (by decide)), hI0, hF0⟩⟩

def P_X10_numberAt (B D : Int) (s0 : mh_H) (p1 : Int32) : Int32 → mh_H → Prop := fun z s => mh_r z (-2147483648) (2147483647) ∧ s0 = s
set_option maxRecDepth 100000 in
set_option maxHeartbeats 4000000 in
theorem w_X10_numberAt (l : Launch) (G : mh_G) (d : Nat) {B D : Int} (hB : B ≤ 2000000000 ∧ D ≤ 2000000000) {s0 : mh_H} (hI0 : mh_I B D s0) (p1 : Int32) (r_p1 : mh_r p1 (0) (54)) : mh_Mi l G (d + 0) mM_X10_numberAt [.ref (G.2.2.2 57), .int p1] s0 (P_X10_numberAt B D s0 p1) := by
  refine mh_enter (lv := [(0, .ref (G.2.2.2 57)), (1, .int p1)]) (by decide) rfl (Nat.le_of_ble_eq_true rfl) ?_
  refine mw_iconst (v := 0) 1 rfl dX10_numberAt_0 (by decide) ?_
  refine mw_istore_n 2 rfl [(2, .int (0)), (0, .ref (G.2.2.2 57)), (1, .int p1)] dX10_numberAt_1 rfl (by decide) rfl ?_
  refine mw_iconst (v := 0) 3 rfl dX10_numberAt_2 (by decide) ?_
  refine mw_istore_n 4 rfl [(3, .int (0)), (2, .int (0)), (0, .ref (G.2.2.2 57)), (1, .int p1)] dX10_numberAt_3 rfl (by decide) rfl ?_
  have L4 : ∀ n1 : Nat, ∀ (x147 : Int32) (x148 : Int32), mh_r x147 (0) (4) → (4) - x147.toInt < (n1 : Int) → mh_W G (mh_XM l G (d + 0) (mh_Qi (P_X10_numberAt B D s0 p1))) mM_X10_numberAt 4 [(0, .ref (G.2.2.2 57)), (1, .int p1), (2, .int x148), (3, .int x147)] [] s0 := by
    intro n1
    induction n1 with
    | zero =>
      intro x147 x148 r_x147 hmn1
      exact absurd hmn1 (by have := r_x147.1; have := r_x147.2; omega)
    | succ n1 ihn1 =>
      intro x147 x148 r_x147 hmn1
      refine mw_iload_n 5 rfl 3 dX10_numberAt_4 rfl rfl ?_
      refine mw_iconst (v := 4) 6 rfl dX10_numberAt_5 (by decide) ?_
      refine mw_icmp_ge 9 rfl 35 dX10_numberAt_6 (by decide) (fun c164 => ?_) (fun c164 => ?_)
      · skip
        have r_x147 : mh_r x147 (4) (4) := mh_le2 c164 rc_4 r_x147 (4) (by decide)
        refine mw_iload_n 36 rfl 2 dX10_numberAt_35 rfl rfl ?_
        exact mw_iret dX10_numberAt_36 rfl ⟨x148, rfl, ⟨(mh_r_full x148), rfl⟩⟩
      · skip
        have r_x147 : mh_r x147 (0) (3) := mh_lt1 c164 r_x147 rc_4 (3) (by decide)
        refine mw_iload_n 10 rfl 2 dX10_numberAt_9 rfl rfl ?_
        refine mw_bipush (v := 8) 12 rfl dX10_numberAt_10 (by decide) ?_
        refine mw_ishl_u 13 rfl dX10_numberAt_12 (fun x165 _ => ?_)
        refine mw_aload_n 14 rfl 0 dX10_numberAt_13 rfl rfl ?_
        refine mw_geta 17 rfl dX10_numberAt_14 gf_X10_7 rfl 58 (mh_rf hI0 55 rfl) ?_
        refine mw_iconst (v := 4) 18 rfl dX10_numberAt_17 (by decide) ?_
        refine mw_iload_n 19 rfl 1 dX10_numberAt_18 rfl rfl ?_
        refine mw_imul 20 rfl (0) (216) dX10_numberAt_19 rc_4 r_p1 (by decide) (fun x166 t167 r_x166 => ?_)
        refine mw_iload_n 21 rfl 3 dX10_numberAt_20 rfl rfl ?_
        refine mw_iadd 22 rfl (0) (219) dX10_numberAt_21 r_x166 r_x147 (by decide) (fun x168 t169 r_x168 => ?_)
        refine mw_bald 23 rfl dX10_numberAt_22 rfl r_x168 (by decide) (fun x170 t171 => ?_)
        have r_x170 : mh_r x170 (-128) (127) := by rw [t171]; exact rd_58 hI0 _
        refine mw_sipush (v := 255) 26 rfl dX10_numberAt_23 (by decide) ?_
        refine mw_iand_u 27 rfl dX10_numberAt_26 (fun x172 t173 => ?_)
        have r_x172 : mh_r x172 0 255 := by rw [t173]; exact mh_and255
        refine mw_ior_u 28 rfl dX10_numberAt_27 (fun x174 _ => ?_)
        refine mw_istore_n 29 rfl [(2, .int x174), (0, .ref (G.2.2.2 57)), (1, .int p1), (3, .int x147)] dX10_numberAt_28 rfl (by decide) rfl ?_
        refine mw_iincR (k := 3) (1) (4) 32 rfl (fun z => [(3, .int z), (2, .int x174), (0, .ref (G.2.2.2 57)), (1, .int p1)]) dX10_numberAt_29 rfl (by decide) (fun _ => rfl) r_x147 (by decide) (by decide) (fun x175 t176 r_x175 => ?_)
        refine mw_goto 35 rfl 4 dX10_numberAt_32 (by decide) ?_
        exact mw_lv [2, 3, 1, 0] rfl (ihn1 x175 x174 (mh_r_wk r_x175 (by decide)) (by have : x175.toInt = x147.toInt + (1) := t176; omega))
  exact mw_lv [2, 3, 1, 0] rfl (L4 5 (0) (0) (mh_r_wk rc_0 (by decide)) (by have := (rc_0).1; have := (rc_0).2; omega))

def S_X10_check : List (Nat × Nat) := [(57, 1)]
def P_X10_check (B D : Int) (s0 : mh_H) (p1 : Int32) (p2 : Int32) : Int32 → mh_H → Prop := fun z s => mh_r z (-2) (11) ∧ mh_I B D s ∧ mh_F S_X10_check s0 s
set_option maxRecDepth 100000 in
set_option maxHeartbeats 4000000 in
theorem w_X10_check (l : Launch) (G : mh_G) (d : Nat) {B D : Int} (hB : B ≤ 1960000000 ∧ D ≤ 1960000000) {s0 : mh_H} (hI0 : mh_I B D s0) (p1 : Int32) (p2 : Int32) : mh_Mi l G (d + 2) mM_X10_check [.ref (G.2.2.2 57), .int p1, .int p2] s0 (P_X10_check B D s0 p1 p2) := by
  refine mh_enter (lv := [(0, .ref (G.2.2.2 57)), (1, .int p1), (2, .int p2)]) (by decide) rfl (Nat.le_of_ble_eq_true rfl) ?_
  have hF0 : mh_F S_X10_check s0 s0 := mh_F_rf
  refine mw_iload_n 1 rfl 1 dX10_check_0 rfl rfl ?_
  refine mw_callSi [.int p1] [] 4 rfl dX10_check_1 ml_X10_158 mc_X10_isSide mk_X10_isSide (w_X10_isSide l G (d + 0) ⟨by omega, by omega⟩ hI0 p1) rfl rfl (Nat.le_of_ble_eq_true rfl) (mh_rok (by omega) (by decide)) (fun x135 s136 q137 => ?_)
  obtain ⟨r_x135, e0_s136, rfl⟩ := q137
  refine mw_if_eq 7 rfl 29 dX10_check_4 (by decide) (fun c138 => ?_) (fun c138 => ?_)
  · skip
    have r_x135 : mh_r x135 (0) (0) := mh_eq1 (show x135.toInt = (0 : Int32).toInt from c138) r_x135 rc_0 (0) (0) (by decide)
    refine mw_bipush (v := -2) 31 rfl dX10_check_29 (by decide) ?_
    exact mw_iret dX10_check_31 rfl ⟨(-2), rfl, ⟨(mh_r_wk rc_m2 (by decide)), hI0, hF0⟩⟩
  · skip
    have r_p1 : mh_r p1 (0) (11) := ⟨by have := e0_s136.1 (mh_z1 r_x135 c138); have := ((mh_r_full p1)).1; omega, by have := e0_s136.1 (mh_z1 r_x135 c138); have := ((mh_r_full p1)).2; omega⟩
    have r_x135 : mh_r x135 (1) (1) := mh_ne1 (show x135.toInt ≠ (0 : Int32).toInt from c138) r_x135 rc_0 (1) (1) (by decide)
    refine mw_iload_n 8 rfl 2 dX10_check_7 rfl rfl ?_
    refine mw_i2l 9 rfl dX10_check_8 (fun y139 t140 => ?_)
    refine mw_lconst (v := 0) 10 rfl dX10_check_9 (by decide) ?_
    refine mw_ldc2 13 rfl dX10_check_10 ck_X10_455 ?_
    refine mw_callSi [.long y139, .long (0), .long (12)] [] 16 rfl dX10_check_13 ml_X10_154 mc_X10_lies mk_X10_lies (w_X10_lies l G (d + 1) ⟨by omega, by omega⟩ hI0 y139 (0) (12)) rfl rfl (Nat.le_of_ble_eq_true rfl) (mh_rok (by omega) (by decide)) (fun x141 s142 q143 => ?_)
    obtain ⟨r_x141, e0_s142, rfl⟩ := q143
    have f_x141 : x141.toInt = 1 ↔ (0 ≤ p2.toInt ∧ p2.toInt ≤ 12) := by rw [e0_s142]; exact by simp only [t140, Int32.toInt_toInt64]; first | done | exact Iff.rfl
    refine mw_if_eq 19 rfl 29 dX10_check_16 (by decide) (fun c144 => ?_) (fun c144 => ?_)
    · skip
      have r_x141 : mh_r x141 (0) (0) := mh_eq1 (show x141.toInt = (0 : Int32).toInt from c144) r_x141 rc_0 (0) (0) (by decide)
      refine mw_bipush (v := -2) 31 rfl dX10_check_29 (by decide) ?_
      exact mw_iret dX10_check_31 rfl ⟨(-2), rfl, ⟨(mh_r_wk rc_m2 (by decide)), hI0, hF0⟩⟩
    · skip
      have r_p2 : mh_r p2 (0) (12) := ⟨by have := f_x141.1 (mh_z1 r_x141 c144); have := ((mh_r_full p2)).1; omega, by have := f_x141.1 (mh_z1 r_x141 c144); have := ((mh_r_full p2)).2; omega⟩
      have r_x141 : mh_r x141 (1) (1) := mh_ne1 (show x141.toInt ≠ (0 : Int32).toInt from c144) r_x141 rc_0 (1) (1) (by decide)
      refine mw_iload_n 20 rfl 2 dX10_check_19 rfl rfl ?_
      refine mw_aload_n 21 rfl 0 dX10_check_20 rfl rfl ?_
      refine mw_geti 24 rfl dX10_check_21 gf_X10_181 rfl (fun x145 t146 => ?_)
      have r_x145 : mh_r x145 (0) (220) := by rw [t146]; exact rd_57_1 hI0
      refine mw_iconst (v := 4) 25 rfl dX10_check_24 (by decide) ?_
      refine mw_idiv 26 rfl (0) (220) dX10_check_25 r_x145 rc_4 (by decide) (fun x147 t148 r_x147 => ?_)
      have r_x147 : mh_r x147 (0) (55) := mh_dvc t148 r_x145 (by decide) (by decide)
      have g149 : x147.toInt = x145.toInt / 4 := mh_dve t148 (by have := (r_x145).1; omega) (by decide)
      refine mw_icmp_le 29 rfl 32 dX10_check_26 (by decide) (fun c150 => ?_) (fun c150 => ?_)
      · skip
        refine mw_aload_n 33 rfl 0 dX10_check_32 rfl rfl ?_
        refine mw_iconst (v := 0) 34 rfl dX10_check_33 (by decide) ?_
        refine mw_puti 37 rfl dX10_check_34 pf_X10_181 rfl (fun s151 t152 => ?_)
        have hI_s151 : mh_I B D s151 := by rw [t152]; exact wr_57_1 hI0 (mh_r_wk rc_0 (by decide))
        have hF_s151 : mh_F S_X10_check s0 s151 := by rw [t152]; exact mh_F_pI hF0 (mh_sj 0 rfl)
        refine mw_iconst (v := 0) 38 rfl dX10_check_37 (by decide) ?_
        refine mw_istore_n 39 rfl [(3, .int (0)), (0, .ref (G.2.2.2 57)), (1, .int p1), (2, .int p2)] dX10_check_38 rfl (by decide) rfl ?_
        have L39 : ∀ n1 : Nat, ∀ (x243 : Int32), mh_r x243 (0) (14) → (14) - x243.toInt < (n1 : Int) → mh_W G (mh_XM l G (d + 2) (mh_Qi (P_X10_check B D s0 p1 p2))) mM_X10_check 39 [(0, .ref (G.2.2.2 57)), (1, .int p1), (2, .int p2), (3, .int x243)] [] s151 := by
          intro n1
          induction n1 with
          | zero =>
            intro x243 r_x243 hmn1
            exact absurd hmn1 (by have := r_x243.1; have := r_x243.2; omega)
          | succ n1 ihn1 =>
            intro x243 r_x243 hmn1
            refine mw_iload_n 40 rfl 3 dX10_check_39 rfl rfl ?_
            refine mw_iload_n 41 rfl 2 dX10_check_40 rfl rfl ?_
            refine mw_icmp_ge 44 rfl 70 dX10_check_41 (by decide) (fun c257 => ?_) (fun c257 => ?_)
            · skip
              refine mw_iconst (v := -1) 71 rfl dX10_check_70 (by decide) ?_
              exact mw_iret dX10_check_71 rfl ⟨(-1), rfl, ⟨(mh_r_wk rc_m1 (by decide)), hI_s151, hF_s151⟩⟩
            · skip
              have r_x243 : mh_r x243 (0) (11) := mh_lt1 c257 r_x243 r_p2 (11) (by decide)
              have r_p2 : mh_r p2 (1) (12) := mh_lt2 c257 r_x243 r_p2 (1) (by decide)
              refine mw_aload_n 45 rfl 0 dX10_check_44 rfl rfl ?_
              refine mw_iload_n 46 rfl 3 dX10_check_45 rfl rfl ?_
              refine mw_callVi [.int x243] [] 49 rfl dX10_check_46 ml_X10_468 mc_X10_numberAt mk_X10_numberAt rfl rfl (by decide) (w_X10_numberAt l G (d + 1) ⟨by omega, by omega⟩ hI_s151 x243 (mh_r_wk r_x243 (by decide))) rfl rfl (Nat.le_of_ble_eq_true rfl) (mh_rok (by omega) (by decide)) (fun x258 s259 q260 => ?_)
              obtain ⟨r_x258, rfl⟩ := q260
              refine mw_aload_n 50 rfl 0 dX10_check_49 rfl rfl ?_
              refine mw_geta 53 rfl dX10_check_50 gf_X10_24 rfl 61 (mh_rf hI_s151 58 rfl) ?_
              refine mw_iload_n 54 rfl 3 dX10_check_53 rfl rfl ?_
              refine mw_iload_n 55 rfl 1 dX10_check_54 rfl rfl ?_
              refine mw_callSi [.int x243, .int p1] [.ref (G.2.2.2 61), .int x258] 58 rfl dX10_check_55 ml_X10_174 mc_X10_cellAt mk_X10_cellAt (w_X10_cellAt l G (d + 1) ⟨by omega, by omega⟩ hI_s151 x243 r_x243 p1 r_p1) rfl rfl (Nat.le_of_ble_eq_true rfl) (mh_rok (by omega) (by decide)) (fun x261 s262 q263 => ?_)
              obtain ⟨r_x261, rfl⟩ := q263
              refine mw_iald 59 rfl dX10_check_58 rfl r_x261 (by decide) (fun x264 t265 => ?_)
              refine mw_icmp_eq 62 rfl 64 dX10_check_59 (by decide) (fun c266 => ?_) (fun c266 => ?_)
              · skip
                refine mw_iincR (k := 3) (1) (12) 67 rfl (fun z => [(3, .int z), (0, .ref (G.2.2.2 57)), (1, .int p1), (2, .int p2)]) dX10_check_64 rfl (by decide) (fun _ => rfl) r_x243 (by decide) (by decide) (fun x267 t268 r_x267 => ?_)
                refine mw_goto 70 rfl 39 dX10_check_67 (by decide) ?_
                exact mw_lv [1, 2, 3, 0] rfl (ihn1 x267 (mh_r_wk r_x267 (by decide)) (by have : x267.toInt = x243.toInt + (1) := t268; omega))
              · skip
                refine mw_iload_n 63 rfl 3 dX10_check_62 rfl rfl ?_
                exact mw_iret dX10_check_63 rfl ⟨x243, rfl, ⟨(mh_r_wk r_x243 (by decide)), hI_s151, hF_s151⟩⟩
        exact mw_lv [1, 2, 3, 0] rfl (L39 15 (0) (mh_r_wk rc_0 (by decide)) (by have := (rc_0).1; have := (rc_0).2; omega))
      · skip
        have r_x147 : mh_r x147 (0) (11) := mh_lt1 c150 r_x147 r_p2 (11) (by decide)
        have r_x145 : mh_r x145 (0) (47) := by have := g149; have := (r_x145).1; have := (r_x145).2; have := (r_x147).1; have := (r_x147).2; exact ⟨by omega, by omega⟩
        have r_p2 : mh_r p2 (1) (12) := mh_lt2 c150 r_x147 r_p2 (1) (by decide)
        refine mw_bipush (v := -2) 31 rfl dX10_check_29 (by decide) ?_
        exact mw_iret dX10_check_31 rfl ⟨(-2), rfl, ⟨(mh_r_wk rc_m2 (by decide)), hI0, hF0⟩⟩

def P_X10_roadsTold (B D : Int) (s0 : mh_H) : Int32 → mh_H → Prop := fun z s => mh_r z (-2147483648) (2147483647) ∧ s0 = s
set_option maxRecDepth 100000 in
set_option maxHeartbeats 4000000 in
theorem w_X10_roadsTold (l : Launch) (G : mh_G) (d : Nat) {B D : Int} (hB : B ≤ 2000000000 ∧ D ≤ 2000000000) {s0 : mh_H} (hI0 : mh_I B D s0) : mh_Mi l G (d + 0) mM_X10_roadsTold [.ref (G.2.2.2 57)] s0 (P_X10_roadsTold B D s0) := by
  refine mh_enter (lv := [(0, .ref (G.2.2.2 57))]) (by decide) rfl (Nat.le_of_ble_eq_true rfl) ?_
  refine mw_iconst (v := 0) 1 rfl dX10_roadsTold_0 (by decide) ?_
  refine mw_istore_n 2 rfl [(1, .int (0)), (0, .ref (G.2.2.2 57))] dX10_roadsTold_1 rfl (by decide) rfl ?_
  refine mw_iconst (v := 0) 3 rfl dX10_roadsTold_2 (by decide) ?_
  refine mw_istore_n 4 rfl [(2, .int (0)), (1, .int (0)), (0, .ref (G.2.2.2 57))] dX10_roadsTold_3 rfl (by decide) rfl ?_
  have L4 : ∀ n1 : Nat, ∀ (x151 : Int32) (x152 : Int32), mh_r x151 (0) (20) → (20) - x151.toInt < (n1 : Int) → mh_W G (mh_XM l G (d + 0) (mh_Qi (P_X10_roadsTold B D s0))) mM_X10_roadsTold 4 [(0, .ref (G.2.2.2 57)), (1, .int x152), (2, .int x151)] [] s0 := by
    intro n1
    induction n1 with
    | zero =>
      intro x151 x152 r_x151 hmn1
      exact absurd hmn1 (by have := r_x151.1; have := r_x151.2; omega)
    | succ n1 ihn1 =>
      intro x151 x152 r_x151 hmn1
      refine mw_iload_n 5 rfl 2 dX10_roadsTold_4 rfl rfl ?_
      refine mw_bipush (v := 20) 7 rfl dX10_roadsTold_5 (by decide) ?_
      refine mw_icmp_ge 10 rfl 35 dX10_roadsTold_7 (by decide) (fun c164 => ?_) (fun c164 => ?_)
      · skip
        have r_x151 : mh_r x151 (20) (20) := mh_le2 c164 rc_20 r_x151 (20) (by decide)
        refine mw_iload_n 36 rfl 1 dX10_roadsTold_35 rfl rfl ?_
        exact mw_iret dX10_roadsTold_36 rfl ⟨x152, rfl, ⟨(mh_r_full x152), rfl⟩⟩
      · skip
        have r_x151 : mh_r x151 (0) (19) := mh_lt1 c164 r_x151 rc_20 (19) (by decide)
        refine mw_iload_n 11 rfl 1 dX10_roadsTold_10 rfl rfl ?_
        refine mw_aload_n 12 rfl 0 dX10_roadsTold_11 rfl rfl ?_
        refine mw_geta 15 rfl dX10_roadsTold_12 gf_X10_113 rfl 90 (mh_rf hI0 87 rfl) ?_
        refine mw_iload_n 16 rfl 2 dX10_roadsTold_15 rfl rfl ?_
        refine mw_zald 17 rfl dX10_roadsTold_16 rfl r_x151 (by decide) (fun x165 t166 => ?_)
        have r_x165 : mh_r x165 (0) (1) := by rw [t166]; exact rd_90 hI0 _
        have J27 : ∀ (x169 : Int32), mh_W G (mh_XM l G (d + 0) (mh_Qi (P_X10_roadsTold B D s0))) mM_X10_roadsTold 27 [(0, .ref (G.2.2.2 57)), (1, .int x152), (2, .int x151)] [.int x169, .int x152] s0 := by
          intro x169
          refine mw_ior_u 28 rfl dX10_roadsTold_27 (fun x173 _ => ?_)
          refine mw_istore_n 29 rfl [(1, .int x173), (0, .ref (G.2.2.2 57)), (2, .int x151)] dX10_roadsTold_28 rfl (by decide) rfl ?_
          refine mw_iincR (k := 2) (1) (20) 32 rfl (fun z => [(2, .int z), (1, .int x173), (0, .ref (G.2.2.2 57))]) dX10_roadsTold_29 rfl (by decide) (fun _ => rfl) r_x151 (by decide) (by decide) (fun x174 t175 r_x174 => ?_)
          refine mw_goto 35 rfl 4 dX10_roadsTold_32 (by decide) ?_
          exact mw_lv [2, 1, 0] rfl (ihn1 x174 x173 (mh_r_wk r_x174 (by decide)) (by have : x174.toInt = x151.toInt + (1) := t175; omega))
        refine mw_if_eq 20 rfl 26 dX10_roadsTold_17 (by decide) (fun c176 => ?_) (fun c176 => ?_)
        · skip
          have r_x165 : mh_r x165 (0) (0) := mh_eq1 (show x165.toInt = (0 : Int32).toInt from c176) r_x165 rc_0 (0) (0) (by decide)
          refine mw_iconst (v := 0) 27 rfl dX10_roadsTold_26 (by decide) ?_
          exact mw_lv [0, 1, 2] rfl (J27 (0))
        · skip
          have r_x165 : mh_r x165 (1) (1) := mh_ne1 (show x165.toInt ≠ (0 : Int32).toInt from c176) r_x165 rc_0 (1) (1) (by decide)
          refine mw_iconst (v := 1) 21 rfl dX10_roadsTold_20 (by decide) ?_
          refine mw_iload_n 22 rfl 2 dX10_roadsTold_21 rfl rfl ?_
          refine mw_ishl_u 23 rfl dX10_roadsTold_22 (fun x177 _ => ?_)
          refine mw_goto 26 rfl 27 dX10_roadsTold_23 (by decide) ?_
          exact mw_lv [0, 1, 2] rfl (J27 x177)
  exact mw_lv [2, 1, 0] rfl (L4 21 (0) (0) (mh_r_wk rc_0 (by decide)) (by have := (rc_0).1; have := (rc_0).2; omega))

def P_X10_count (B D : Int) (s0 : mh_H) (p1 : Int32) : Int32 → mh_H → Prop := fun z s => mh_r z (-2147483648) (2147483647) ∧ s0 = s
set_option maxRecDepth 100000 in
set_option maxHeartbeats 4000000 in
theorem w_X10_count (l : Launch) (G : mh_G) (d : Nat) {B D : Int} (hB : B ≤ 1980000000 ∧ D ≤ 1980000000) {s0 : mh_H} (hI0 : mh_I B D s0) (p1 : Int32) : mh_Mi l G (d + 1) mM_X10_count [.ref (G.2.2.2 57), .int p1] s0 (P_X10_count B D s0 p1) := by
  refine mh_enter (lv := [(0, .ref (G.2.2.2 57)), (1, .int p1)]) (by decide) rfl (Nat.le_of_ble_eq_true rfl) ?_
  refine mw_iload_n 1 rfl 1 dX10_count_0 rfl rfl ?_
  refine mw_i2l 2 rfl dX10_count_1 (fun y25 t26 => ?_)
  refine mw_ldc2 5 rfl dX10_count_2 ck_X10_471 ?_
  refine mw_ldc2 8 rfl dX10_count_5 ck_X10_473 ?_
  refine mw_callSi [.long y25, .long (100), .long (199)] [] 11 rfl dX10_count_8 ml_X10_154 mc_X10_lies mk_X10_lies (w_X10_lies l G (d + 0) ⟨by omega, by omega⟩ hI0 y25 (100) (199)) rfl rfl (Nat.le_of_ble_eq_true rfl) (mh_rok (by omega) (by decide)) (fun x27 s28 q29 => ?_)
  obtain ⟨r_x27, e0_s28, rfl⟩ := q29
  have f_x27 : x27.toInt = 1 ↔ (100 ≤ p1.toInt ∧ p1.toInt ≤ 199) := by rw [e0_s28]; exact by simp only [t26, Int32.toInt_toInt64]; first | done | exact Iff.rfl
  refine mw_if_eq 14 rfl 24 dX10_count_11 (by decide) (fun c30 => ?_) (fun c30 => ?_)
  · skip
    have r_x27 : mh_r x27 (0) (0) := mh_eq1 (show x27.toInt = (0 : Int32).toInt from c30) r_x27 rc_0 (0) (0) (by decide)
    refine mw_iload_n 25 rfl 1 dX10_count_24 rfl rfl ?_
    rcases (show p1.toInt = 0 ∨ p1.toInt = 1 ∨ p1.toInt = 2 ∨ p1.toInt = 3 ∨ p1.toInt = 4 ∨ p1.toInt = 5 ∨ (p1.toInt < 0 ∨ 5 < p1.toInt) by have := (mh_r_full p1).1; have := (mh_r_full p1).2; omega) with c31 | c31 | c31 | c31 | c31 | c31 | c31
    · refine mw_tabIn 64 dX10_count_25 (by rw [c31]; decide) (by rw [c31]; decide) (by rw [c31]; rfl) (by decide) ?_
      have r_p1 : mh_r p1 (0) (0) := mh_eq1 (show p1.toInt = (0 : Int32).toInt from c31.trans rfl) (mh_r_full p1) rc_0 (0) (0) (by decide)
      refine mw_aload_n 65 rfl 0 dX10_count_64 rfl rfl ?_
      refine mw_geti 68 rfl dX10_count_65 gf_X10_301 rfl (fun x32 t33 => ?_)
      have r_x32 : mh_r x32 (0) (1980000000) := by rw [t33]; exact mh_r_wk (rd_57_2 hI0) ⟨by decide, by skip; omega⟩
      exact mw_iret dX10_count_68 rfl ⟨x32, rfl, ⟨(mh_r_wk r_x32 (by decide)), rfl⟩⟩
    · refine mw_tabIn 69 dX10_count_25 (by rw [c31]; decide) (by rw [c31]; decide) (by rw [c31]; rfl) (by decide) ?_
      have r_p1 : mh_r p1 (1) (1) := mh_eq1 (show p1.toInt = (1 : Int32).toInt from c31.trans rfl) (mh_r_full p1) rc_1 (1) (1) (by decide)
      refine mw_aload_n 70 rfl 0 dX10_count_69 rfl rfl ?_
      refine mw_geti 73 rfl dX10_count_70 gf_X10_298 rfl (fun x34 t35 => ?_)
      have r_x34 : mh_r x34 (0) (14) := by rw [t35]; exact rd_57_10 hI0
      exact mw_iret dX10_count_73 rfl ⟨x34, rfl, ⟨(mh_r_wk r_x34 (by decide)), rfl⟩⟩
    · refine mw_tabIn 74 dX10_count_25 (by rw [c31]; decide) (by rw [c31]; decide) (by rw [c31]; rfl) (by decide) ?_
      have r_p1 : mh_r p1 (2) (2) := mh_eq1 (show p1.toInt = (2 : Int32).toInt from c31.trans rfl) (mh_r_full p1) rc_2 (2) (2) (by decide)
      refine mw_aload_n 75 rfl 0 dX10_count_74 rfl rfl ?_
      refine mw_geti 78 rfl dX10_count_75 gf_X10_181 rfl (fun x36 t37 => ?_)
      have r_x36 : mh_r x36 (0) (220) := by rw [t37]; exact rd_57_1 hI0
      exact mw_iret dX10_count_78 rfl ⟨x36, rfl, ⟨(mh_r_wk r_x36 (by decide)), rfl⟩⟩
    · refine mw_tabIn 79 dX10_count_25 (by rw [c31]; decide) (by rw [c31]; decide) (by rw [c31]; rfl) (by decide) ?_
      have r_p1 : mh_r p1 (3) (3) := mh_eq1 (show p1.toInt = (3 : Int32).toInt from c31.trans rfl) (mh_r_full p1) rc_3 (3) (3) (by decide)
      refine mw_aload_n 80 rfl 0 dX10_count_79 rfl rfl ?_
      refine mw_geti 83 rfl dX10_count_80 gf_X10_432 rfl (fun x38 t39 => ?_)
      have r_x38 : mh_r x38 (0) (60) := by rw [t39]; exact rd_57_58 hI0
      exact mw_iret dX10_count_83 rfl ⟨x38, rfl, ⟨(mh_r_wk r_x38 (by decide)), rfl⟩⟩
    · refine mw_tabIn 84 dX10_count_25 (by rw [c31]; decide) (by rw [c31]; decide) (by rw [c31]; rfl) (by decide) ?_
      have r_p1 : mh_r p1 (4) (4) := mh_eq1 (show p1.toInt = (4 : Int32).toInt from c31.trans rfl) (mh_r_full p1) rc_4 (4) (4) (by decide)
      refine mw_aload_n 85 rfl 0 dX10_count_84 rfl rfl ?_
      refine mw_callVi [] [] 88 rfl dX10_count_85 ml_X10_475 mc_X10_roadsTold mk_X10_roadsTold rfl rfl (by decide) (w_X10_roadsTold l G (d + 0) ⟨by omega, by omega⟩ hI0) rfl rfl (Nat.le_of_ble_eq_true rfl) (mh_rok (by omega) (by decide)) (fun x40 s41 q42 => ?_)
      obtain ⟨r_x40, rfl⟩ := q42
      exact mw_iret dX10_count_88 rfl ⟨x40, rfl, ⟨r_x40, rfl⟩⟩
    · refine mw_tabIn 89 dX10_count_25 (by rw [c31]; decide) (by rw [c31]; decide) (by rw [c31]; rfl) (by decide) ?_
      have r_p1 : mh_r p1 (5) (5) := mh_eq1 (show p1.toInt = (5 : Int32).toInt from c31.trans rfl) (mh_r_full p1) rc_5 (5) (5) (by decide)
      refine mw_aload_n 90 rfl 0 dX10_count_89 rfl rfl ?_
      refine mw_geti 93 rfl dX10_count_90 gf_X10_13 rfl (fun x43 t44 => ?_)
      have r_x43 : mh_r x43 (0) (65535) := by rw [t44]; exact rd_57_3 hI0
      exact mw_iret dX10_count_93 rfl ⟨x43, rfl, ⟨(mh_r_wk r_x43 (by decide)), rfl⟩⟩
    · refine mw_tabOut 94 dX10_count_25 c31 (by decide) ?_
      refine mw_iconst (v := -1) 95 rfl dX10_count_94 (by decide) ?_
      exact mw_iret dX10_count_95 rfl ⟨(-1), rfl, ⟨(mh_r_wk rc_m1 (by decide)), rfl⟩⟩
  · skip
    have r_p1 : mh_r p1 (100) (199) := ⟨by have := f_x27.1 (mh_z1 r_x27 c30); have := ((mh_r_full p1)).1; omega, by have := f_x27.1 (mh_z1 r_x27 c30); have := ((mh_r_full p1)).2; omega⟩
    have r_x27 : mh_r x27 (1) (1) := mh_ne1 (show x27.toInt ≠ (0 : Int32).toInt from c30) r_x27 rc_0 (1) (1) (by decide)
    refine mw_aload_n 15 rfl 0 dX10_count_14 rfl rfl ?_
    refine mw_geta 18 rfl dX10_count_15 gf_X10_30 rfl 63 (mh_rf hI0 60 rfl) ?_
    refine mw_iload_n 19 rfl 1 dX10_count_18 rfl rfl ?_
    refine mw_bipush (v := 100) 21 rfl dX10_count_19 (by decide) ?_
    refine mw_isub 22 rfl (0) (99) dX10_count_21 r_p1 rc_100 (by decide) (fun x45 t46 r_x45 => ?_)
    refine mw_iald 23 rfl dX10_count_22 rfl r_x45 (by decide) (fun x47 t48 => ?_)
    exact mw_iret dX10_count_23 rfl ⟨x47, rfl, ⟨(mh_r_full x47), rfl⟩⟩

def S_X10_cell : List (Nat × Nat) := [(57, 33), (57, 34), (57, 35), (57, 36), (57, 37), (78, 9999), (77, 9999)]
def P_X10_cell (B D : Int) (s0 : mh_H) (p1 : Int32) (p2 : Int32) (p3 : Int32) : Int32 → mh_H → Prop := fun z s => mh_r z (-2147483648) (2147483647) ∧ mh_I B D s ∧ mh_F S_X10_cell s0 s
set_option maxRecDepth 100000 in
set_option maxHeartbeats 4000000 in
theorem w_X10_cell (l : Launch) (G : mh_G) (d : Nat) {B D : Int} (hB : B ≤ 1820000000 ∧ D ≤ 1820000000) {s0 : mh_H} (hI0 : mh_I B D s0) (p1 : Int32) (p2 : Int32) (p3 : Int32) : mh_Mi l G (d + 9) mM_X10_cell [.ref (G.2.2.2 57), .int p1, .int p2, .int p3] s0 (P_X10_cell B D s0 p1 p2 p3) := by
  refine mh_enter (lv := [(0, .ref (G.2.2.2 57)), (1, .int p1), (2, .int p2), (3, .int p3)]) (by decide) rfl (Nat.le_of_ble_eq_true rfl) ?_
  have hF0 : mh_F S_X10_cell s0 s0 := mh_F_rf
  refine mw_iload_n 1 rfl 1 dX10_cell_0 rfl rfl ?_
  refine mw_iload_n 2 rfl 2 dX10_cell_1 rfl rfl ?_
  refine mw_callSi [.int p1, .int p2] [] 5 rfl dX10_cell_2 ml_X10_166 mc_X10_isCell mk_X10_isCell (w_X10_isCell l G (d + 6) ⟨by omega, by omega⟩ hI0 p1 p2) rfl rfl (Nat.le_of_ble_eq_true rfl) (mh_rok (by omega) (by decide)) (fun x37 s38 q39 => ?_)
  obtain ⟨r_x37, e0_s38, rfl⟩ := q39
  refine mw_if_ne 8 rfl 10 dX10_cell_5 (by decide) (fun c40 => ?_) (fun c40 => ?_)
  · skip
    have r_p1 : mh_r p1 (0) (11) := ⟨by have := e0_s38.1 (mh_z1 r_x37 c40); have := ((mh_r_full p1)).1; omega, by have := e0_s38.1 (mh_z1 r_x37 c40); have := ((mh_r_full p1)).2; omega⟩
    have r_p2 : mh_r p2 (0) (11) := ⟨by have := e0_s38.1 (mh_z1 r_x37 c40); have := ((mh_r_full p2)).1; omega, by have := e0_s38.1 (mh_z1 r_x37 c40); have := ((mh_r_full p2)).2; omega⟩
    have r_x37 : mh_r x37 (1) (1) := mh_ne1 (show x37.toInt ≠ (0 : Int32).toInt from c40) r_x37 rc_0 (1) (1) (by decide)
    refine mw_iload_n 11 rfl 1 dX10_cell_10 rfl rfl ?_
    refine mw_iload_n 12 rfl 2 dX10_cell_11 rfl rfl ?_
    refine mw_callSi [.int p1, .int p2] [] 15 rfl dX10_cell_12 ml_X10_174 mc_X10_cellAt mk_X10_cellAt (w_X10_cellAt l G (d + 8) ⟨by omega, by omega⟩ hI0 p1 r_p1 p2 r_p2) rfl rfl (Nat.le_of_ble_eq_true rfl) (mh_rok (by omega) (by decide)) (fun x41 s42 q43 => ?_)
    obtain ⟨r_x41, rfl⟩ := q43
    refine mw_istore 17 rfl [(4, .int x41), (0, .ref (G.2.2.2 57)), (1, .int p1), (2, .int p2), (3, .int p3)] dX10_cell_15  (by decide) rfl ?_
    refine mw_iload_n 18 rfl 4 dX10_cell_17 rfl rfl ?_
    rcases (show p3.toInt = 0 ∨ p3.toInt = 1 ∨ p3.toInt = 2 ∨ p3.toInt = 3 ∨ p3.toInt = 4 ∨ p3.toInt = 5 ∨ p3.toInt = 6 ∨ p3.toInt = 7 ∨ (p3.toInt < 0 ∨ 7 < p3.toInt) by have := (mh_r_full p3).1; have := (mh_r_full p3).2; omega) with c44 | c44 | c44 | c44 | c44 | c44 | c44 | c44 | c44
    · refine mw_tabIn 64 dX10_cell_18 (by rw [c44]; decide) (by rw [c44]; decide) (by rw [c44]; rfl) (by decide) ?_
      have r_p3 : mh_r p3 (0) (0) := mh_eq1 (show p3.toInt = (0 : Int32).toInt from c44.trans rfl) (mh_r_full p3) rc_0 (0) (0) (by decide)
      refine mw_aload_n 65 rfl 1 dX10_cell_64 rfl rfl ?_
      refine mw_geta 68 rfl dX10_cell_65 gf_X10_17 rfl 59 (mh_rf hI0 56 rfl) ?_
      refine mw_iload 70 rfl 0 dX10_cell_68  rfl ?_
      refine mw_iald 71 rfl dX10_cell_70 rfl r_x41 (by decide) (fun x45 t46 => ?_)
      exact mw_iret dX10_cell_71 rfl ⟨x45, rfl, ⟨(mh_r_full x45), hI0, hF0⟩⟩
    · refine mw_tabIn 72 dX10_cell_18 (by rw [c44]; decide) (by rw [c44]; decide) (by rw [c44]; rfl) (by decide) ?_
      have r_p3 : mh_r p3 (1) (1) := mh_eq1 (show p3.toInt = (1 : Int32).toInt from c44.trans rfl) (mh_r_full p3) rc_1 (1) (1) (by decide)
      refine mw_aload_n 73 rfl 1 dX10_cell_72 rfl rfl ?_
      refine mw_geta 76 rfl dX10_cell_73 gf_X10_21 rfl 60 (mh_rf hI0 57 rfl) ?_
      refine mw_iload 78 rfl 0 dX10_cell_76  rfl ?_
      refine mw_iald 79 rfl dX10_cell_78 rfl r_x41 (by decide) (fun x47 t48 => ?_)
      exact mw_iret dX10_cell_79 rfl ⟨x47, rfl, ⟨(mh_r_full x47), hI0, hF0⟩⟩
    · refine mw_tabIn 80 dX10_cell_18 (by rw [c44]; decide) (by rw [c44]; decide) (by rw [c44]; rfl) (by decide) ?_
      have r_p3 : mh_r p3 (2) (2) := mh_eq1 (show p3.toInt = (2 : Int32).toInt from c44.trans rfl) (mh_r_full p3) rc_2 (2) (2) (by decide)
      refine mw_aload_n 81 rfl 1 dX10_cell_80 rfl rfl ?_
      refine mw_geta 84 rfl dX10_cell_81 gf_X10_24 rfl 61 (mh_rf hI0 58 rfl) ?_
      refine mw_iload 86 rfl 0 dX10_cell_84  rfl ?_
      refine mw_iald 87 rfl dX10_cell_86 rfl r_x41 (by decide) (fun x49 t50 => ?_)
      exact mw_iret dX10_cell_87 rfl ⟨x49, rfl, ⟨(mh_r_full x49), hI0, hF0⟩⟩
    · refine mw_tabIn 88 dX10_cell_18 (by rw [c44]; decide) (by rw [c44]; decide) (by rw [c44]; rfl) (by decide) ?_
      have r_p3 : mh_r p3 (3) (3) := mh_eq1 (show p3.toInt = (3 : Int32).toInt from c44.trans rfl) (mh_r_full p3) rc_3 (3) (3) (by decide)
      refine mw_aload_n 89 rfl 1 dX10_cell_88 rfl rfl ?_
      refine mw_geta 92 rfl dX10_cell_89 gf_X10_27 rfl 62 (mh_rf hI0 59 rfl) ?_
      refine mw_iload 94 rfl 0 dX10_cell_92  rfl ?_
      refine mw_iald 95 rfl dX10_cell_94 rfl r_x41 (by decide) (fun x51 t52 => ?_)
      exact mw_iret dX10_cell_95 rfl ⟨x51, rfl, ⟨(mh_r_full x51), hI0, hF0⟩⟩
    · refine mw_tabIn 96 dX10_cell_18 (by rw [c44]; decide) (by rw [c44]; decide) (by rw [c44]; rfl) (by decide) ?_
      have r_p3 : mh_r p3 (4) (4) := mh_eq1 (show p3.toInt = (4 : Int32).toInt from c44.trans rfl) (mh_r_full p3) rc_4 (4) (4) (by decide)
      refine mw_aload_n 97 rfl 1 dX10_cell_96 rfl rfl ?_
      refine mw_iload 99 rfl 0 dX10_cell_97  rfl ?_
      refine mw_callVi [.int x41] [] 102 rfl dX10_cell_99 ml_X10_349 mc_X10_mistAt mk_X10_mistAt rfl rfl (by decide) (w_X10_mistAt l G (d + 1) ⟨by omega, by omega⟩ hI0 x41 r_x41) rfl rfl (Nat.le_of_ble_eq_true rfl) (mh_rok (by omega) (by decide)) (fun x53 s54 q55 => ?_)
      obtain ⟨r_x53, e0_s54, hI_s54, hG_s54⟩ := q55
      have hF_s54 : mh_F S_X10_cell s0 s54 := mh_F_tl hF0 hG_s54 (by decide +kernel)
      exact mw_iret dX10_cell_102 rfl ⟨x53, rfl, ⟨(mh_r_wk r_x53 (by decide)), hI_s54, hF_s54⟩⟩
    · refine mw_tabIn 103 dX10_cell_18 (by rw [c44]; decide) (by rw [c44]; decide) (by rw [c44]; rfl) (by decide) ?_
      have r_p3 : mh_r p3 (5) (5) := mh_eq1 (show p3.toInt = (5 : Int32).toInt from c44.trans rfl) (mh_r_full p3) rc_5 (5) (5) (by decide)
      refine mw_aload_n 104 rfl 1 dX10_cell_103 rfl rfl ?_
      refine mw_iload 106 rfl 0 dX10_cell_104  rfl ?_
      refine mw_callVi [.int x41] [] 109 rfl dX10_cell_106 ml_X10_349 mc_X10_mistAt mk_X10_mistAt rfl rfl (by decide) (w_X10_mistAt l G (d + 1) ⟨by omega, by omega⟩ hI0 x41 r_x41) rfl rfl (Nat.le_of_ble_eq_true rfl) (mh_rok (by omega) (by decide)) (fun x56 s57 q58 => ?_)
      obtain ⟨r_x56, e0_s57, hI_s57, hG_s57⟩ := q58
      have hF_s57 : mh_F S_X10_cell s0 s57 := mh_F_tl hF0 hG_s57 (by decide +kernel)
      refine mw_if_le 112 rfl 129 dX10_cell_109 (by decide) (fun c59 => ?_) (fun c59 => ?_)
      · skip
        have r_x56 : mh_r x56 (0) (0) := mh_le1 (show x56.toInt ≤ (0 : Int32).toInt from c59) r_x56 rc_0 (0) (by decide)
        refine mw_bipush (v := -2) 131 rfl dX10_cell_129 (by decide) ?_
        exact mw_iret dX10_cell_131 rfl ⟨(-2), rfl, ⟨(mh_r_wk rc_m2 (by decide)), hI_s57, hF_s57⟩⟩
      · skip
        have r_x56 : mh_r x56 (1) (99) := mh_lt2 (show (0 : Int32).toInt < x56.toInt from c59) rc_0 r_x56 (1) (by decide)
        refine mw_aload_n 113 rfl 1 dX10_cell_112 rfl rfl ?_
        refine mw_geta 116 rfl dX10_cell_113 gf_X10_17 rfl 59 (mh_rf hI_s57 56 rfl) ?_
        refine mw_iload 118 rfl 0 dX10_cell_116  rfl ?_
        refine mw_iald 119 rfl dX10_cell_118 rfl r_x41 (by decide) (fun x60 t61 => ?_)
        refine mw_aload_n 120 rfl 1 dX10_cell_119 rfl rfl ?_
        refine mw_iload 122 rfl 0 dX10_cell_120  rfl ?_
        refine mw_callVi [.int x41] [.int x60] 125 rfl dX10_cell_122 ml_X10_349 mc_X10_mistAt mk_X10_mistAt rfl rfl (by decide) (w_X10_mistAt l G (d + 1) ⟨by omega, by omega⟩ hI_s57 x41 r_x41) rfl rfl (Nat.le_of_ble_eq_true rfl) (mh_rok (by omega) (by decide)) (fun x62 s63 q64 => ?_)
        obtain ⟨r_x62, e0_s63, hI_s63, hG_s63⟩ := q64
        have hF_s63 : mh_F S_X10_cell s0 s63 := mh_F_tl hF_s57 hG_s63 (by decide +kernel)
        refine mw_iadd_u 126 rfl dX10_cell_125 (fun x65 t66 => ?_)
        refine mw_goto 129 rfl 131 dX10_cell_126 (by decide) ?_
        exact mw_iret dX10_cell_131 rfl ⟨x65, rfl, ⟨(mh_r_full x65), hI_s63, hF_s63⟩⟩
    · refine mw_tabIn 132 dX10_cell_18 (by rw [c44]; decide) (by rw [c44]; decide) (by rw [c44]; rfl) (by decide) ?_
      have r_p3 : mh_r p3 (6) (6) := mh_eq1 (show p3.toInt = (6 : Int32).toInt from c44.trans rfl) (mh_r_full p3) rc_6 (6) (6) (by decide)
      refine mw_aload_n 133 rfl 1 dX10_cell_132 rfl rfl ?_
      refine mw_iload 135 rfl 0 dX10_cell_133  rfl ?_
      refine mw_callVi [.int x41] [] 138 rfl dX10_cell_135 ml_X10_379 mc_X10_yardsAt mk_X10_yardsAt rfl rfl (by decide) (w_X10_yardsAt l G (d + 0) ⟨by omega, by omega⟩ hI0 x41 r_x41) rfl rfl (Nat.le_of_ble_eq_true rfl) (mh_rok (by omega) (by decide)) (fun x67 s68 q69 => ?_)
      obtain ⟨r_x67, hI_s68, hG_s68⟩ := q69
      have hF_s68 : mh_F S_X10_cell s0 s68 := mh_F_tl hF0 hG_s68 (by decide +kernel)
      exact mw_iret dX10_cell_138 rfl ⟨x67, rfl, ⟨(mh_r_wk r_x67 (by decide)), hI_s68, hF_s68⟩⟩
    · refine mw_tabIn 139 dX10_cell_18 (by rw [c44]; decide) (by rw [c44]; decide) (by rw [c44]; rfl) (by decide) ?_
      have r_p3 : mh_r p3 (7) (7) := mh_eq1 (show p3.toInt = (7 : Int32).toInt from c44.trans rfl) (mh_r_full p3) rc_7 (7) (7) (by decide)
      refine mw_aload_n 140 rfl 1 dX10_cell_139 rfl rfl ?_
      refine mw_iload 142 rfl 0 dX10_cell_140  rfl ?_
      refine mw_callVi [.int x41] [] 145 rfl dX10_cell_142 ml_X10_355 mc_X10_levelAt mk_X10_levelAt rfl rfl (by decide) (w_X10_levelAt l G (d + 8) ⟨by omega, by omega⟩ hI0 x41 r_x41) rfl rfl (Nat.le_of_ble_eq_true rfl) (mh_rok (by omega) (by decide)) (fun x70 s71 q72 => ?_)
      obtain ⟨r_x70, rfl⟩ := q72
      exact mw_iret dX10_cell_145 rfl ⟨x70, rfl, ⟨r_x70, hI0, hF0⟩⟩
    · refine mw_tabOut 146 dX10_cell_18 c44 (by decide) ?_
      refine mw_iconst (v := -1) 147 rfl dX10_cell_146 (by decide) ?_
      exact mw_iret dX10_cell_147 rfl ⟨(-1), rfl, ⟨(mh_r_wk rc_m1 (by decide)), hI0, hF0⟩⟩
  · skip
    have r_x37 : mh_r x37 (0) (0) := mh_eq1 (show x37.toInt = (0 : Int32).toInt from c40) r_x37 rc_0 (0) (0) (by decide)
    refine mw_iconst (v := -1) 9 rfl dX10_cell_8 (by decide) ?_
    exact mw_iret dX10_cell_9 rfl ⟨(-1), rfl, ⟨(mh_r_wk rc_m1 (by decide)), hI0, hF0⟩⟩

def S_X10_sums : List (Nat × Nat) := [(57, 33), (57, 34), (57, 35), (57, 36), (57, 37), (78, 9999), (77, 9999)]
def P_X10_sums (B D : Int) (s0 : mh_H) (p1 : Int32) : Int32 → mh_H → Prop := fun z s => mh_r z (-2147483648) (2147483647) ∧ mh_I B D s ∧ mh_F S_X10_sums s0 s
set_option maxRecDepth 100000 in
set_option maxHeartbeats 4000000 in
theorem w_X10_sums (l : Launch) (G : mh_G) (d : Nat) {B D : Int} (hB : B ≤ 1820000000 ∧ D ≤ 1820000000) {s0 : mh_H} (hI0 : mh_I B D s0) (p1 : Int32) : mh_Mi l G (d + 9) mM_X10_sums [.ref (G.2.2.2 57), .int p1] s0 (P_X10_sums B D s0 p1) := by
  refine mh_enter (lv := [(0, .ref (G.2.2.2 57)), (1, .int p1)]) (by decide) rfl (Nat.le_of_ble_eq_true rfl) ?_
  have hF0 : mh_F S_X10_sums s0 s0 := mh_F_rf
  refine mw_iconst (v := 0) 1 rfl dX10_sums_0 (by decide) ?_
  refine mw_istore_n 2 rfl [(2, .int (0)), (0, .ref (G.2.2.2 57)), (1, .int p1)] dX10_sums_1 rfl (by decide) rfl ?_
  refine mw_iload_n 3 rfl 2 dX10_sums_2 rfl rfl ?_
  rcases (show p1.toInt = 0 ∨ p1.toInt = 1 ∨ p1.toInt = 2 ∨ p1.toInt = 3 ∨ p1.toInt = 4 ∨ (p1.toInt < 0 ∨ 4 < p1.toInt) by have := (mh_r_full p1).1; have := (mh_r_full p1).2; omega) with c223 | c223 | c223 | c223 | c223 | c223
  · refine mw_tabIn 36 dX10_sums_3 (by rw [c223]; decide) (by rw [c223]; decide) (by rw [c223]; rfl) (by decide) ?_
    have r_p1 : mh_r p1 (0) (0) := mh_eq1 (show p1.toInt = (0 : Int32).toInt from c223.trans rfl) (mh_r_full p1) rc_0 (0) (0) (by decide)
    refine mw_iconst (v := 0) 37 rfl dX10_sums_36 (by decide) ?_
    refine mw_istore_n 38 rfl [(3, .int (0)), (2, .int (0)), (0, .ref (G.2.2.2 57)), (1, .int p1)] dX10_sums_37 rfl (by decide) rfl ?_
    have L38 : ∀ n1 : Nat, ∀ (x312 : Int32) (x313 : Int32), mh_r x312 (0) (144) → (144) - x312.toInt < (n1 : Int) → mh_W G (mh_XM l G (d + 9) (mh_Qi (P_X10_sums B D s0 p1))) mM_X10_sums 38 [(0, .ref (G.2.2.2 57)), (1, .int p1), (2, .int x313), (3, .int x312)] [] s0 := by
      intro n1
      induction n1 with
      | zero =>
        intro x312 x313 r_x312 hmn1
        exact absurd hmn1 (by have := r_x312.1; have := r_x312.2; omega)
      | succ n1 ihn1 =>
        intro x312 x313 r_x312 hmn1
        refine mw_iload_n 39 rfl 3 dX10_sums_38 rfl rfl ?_
        refine mw_sipush (v := 144) 42 rfl dX10_sums_39 (by decide) ?_
        refine mw_icmp_ge 45 rfl 60 dX10_sums_42 (by decide) (fun c323 => ?_) (fun c323 => ?_)
        · skip
          have r_x312 : mh_r x312 (144) (144) := mh_le2 c323 rc_144 r_x312 (144) (by decide)
          refine mw_iload_n 61 rfl 2 dX10_sums_60 rfl rfl ?_
          exact mw_iret dX10_sums_61 rfl ⟨x313, rfl, ⟨(mh_r_full x313), hI0, hF0⟩⟩
        · skip
          have r_x312 : mh_r x312 (0) (143) := mh_lt1 c323 r_x312 rc_144 (143) (by decide)
          refine mw_iload_n 46 rfl 2 dX10_sums_45 rfl rfl ?_
          refine mw_aload_n 47 rfl 0 dX10_sums_46 rfl rfl ?_
          refine mw_geta 50 rfl dX10_sums_47 gf_X10_24 rfl 61 (mh_rf hI0 58 rfl) ?_
          refine mw_iload_n 51 rfl 3 dX10_sums_50 rfl rfl ?_
          refine mw_iald 52 rfl dX10_sums_51 rfl r_x312 (by decide) (fun x324 t325 => ?_)
          refine mw_iadd_u 53 rfl dX10_sums_52 (fun x326 t327 => ?_)
          refine mw_istore_n 54 rfl [(2, .int x326), (0, .ref (G.2.2.2 57)), (1, .int p1), (3, .int x312)] dX10_sums_53 rfl (by decide) rfl ?_
          refine mw_iincR (k := 3) (1) (144) 57 rfl (fun z => [(3, .int z), (2, .int x326), (0, .ref (G.2.2.2 57)), (1, .int p1)]) dX10_sums_54 rfl (by decide) (fun _ => rfl) r_x312 (by decide) (by decide) (fun x328 t329 r_x328 => ?_)
          refine mw_goto 60 rfl 38 dX10_sums_57 (by decide) ?_
          exact mw_lv [2, 3, 1, 0] rfl (ihn1 x328 x326 (mh_r_wk r_x328 (by decide)) (by have : x328.toInt = x312.toInt + (1) := t329; omega))
    exact mw_lv [2, 3, 1, 0] rfl (L38 145 (0) (0) (mh_r_wk rc_0 (by decide)) (by have := (rc_0).1; have := (rc_0).2; omega))
  · refine mw_tabIn 62 dX10_sums_3 (by rw [c223]; decide) (by rw [c223]; decide) (by rw [c223]; rfl) (by decide) ?_
    have r_p1 : mh_r p1 (1) (1) := mh_eq1 (show p1.toInt = (1 : Int32).toInt from c223.trans rfl) (mh_r_full p1) rc_1 (1) (1) (by decide)
    refine mw_iconst (v := 0) 63 rfl dX10_sums_62 (by decide) ?_
    refine mw_istore_n 64 rfl [(3, .int (0)), (2, .int (0)), (0, .ref (G.2.2.2 57)), (1, .int p1)] dX10_sums_63 rfl (by decide) rfl ?_
    have L64 : ∀ n2 : Nat, ∀ (x418 : Int32) (x419 : Int32), mh_r x418 (0) (144) → (144) - x418.toInt < (n2 : Int) → mh_W G (mh_XM l G (d + 9) (mh_Qi (P_X10_sums B D s0 p1))) mM_X10_sums 64 [(0, .ref (G.2.2.2 57)), (1, .int p1), (2, .int x419), (3, .int x418)] [] s0 := by
      intro n2
      induction n2 with
      | zero =>
        intro x418 x419 r_x418 hmn2
        exact absurd hmn2 (by have := r_x418.1; have := r_x418.2; omega)
      | succ n2 ihn2 =>
        intro x418 x419 r_x418 hmn2
        refine mw_iload_n 65 rfl 3 dX10_sums_64 rfl rfl ?_
        refine mw_sipush (v := 144) 68 rfl dX10_sums_65 (by decide) ?_
        refine mw_icmp_ge 71 rfl 86 dX10_sums_68 (by decide) (fun c429 => ?_) (fun c429 => ?_)
        · skip
          have r_x418 : mh_r x418 (144) (144) := mh_le2 c429 rc_144 r_x418 (144) (by decide)
          refine mw_iload_n 87 rfl 2 dX10_sums_86 rfl rfl ?_
          exact mw_iret dX10_sums_87 rfl ⟨x419, rfl, ⟨(mh_r_full x419), hI0, hF0⟩⟩
        · skip
          have r_x418 : mh_r x418 (0) (143) := mh_lt1 c429 r_x418 rc_144 (143) (by decide)
          refine mw_iload_n 72 rfl 2 dX10_sums_71 rfl rfl ?_
          refine mw_aload_n 73 rfl 0 dX10_sums_72 rfl rfl ?_
          refine mw_geta 76 rfl dX10_sums_73 gf_X10_27 rfl 62 (mh_rf hI0 59 rfl) ?_
          refine mw_iload_n 77 rfl 3 dX10_sums_76 rfl rfl ?_
          refine mw_iald 78 rfl dX10_sums_77 rfl r_x418 (by decide) (fun x430 t431 => ?_)
          refine mw_iadd_u 79 rfl dX10_sums_78 (fun x432 t433 => ?_)
          refine mw_istore_n 80 rfl [(2, .int x432), (0, .ref (G.2.2.2 57)), (1, .int p1), (3, .int x418)] dX10_sums_79 rfl (by decide) rfl ?_
          refine mw_iincR (k := 3) (1) (144) 83 rfl (fun z => [(3, .int z), (2, .int x432), (0, .ref (G.2.2.2 57)), (1, .int p1)]) dX10_sums_80 rfl (by decide) (fun _ => rfl) r_x418 (by decide) (by decide) (fun x434 t435 r_x434 => ?_)
          refine mw_goto 86 rfl 64 dX10_sums_83 (by decide) ?_
          exact mw_lv [2, 3, 1, 0] rfl (ihn2 x434 x432 (mh_r_wk r_x434 (by decide)) (by have : x434.toInt = x418.toInt + (1) := t435; omega))
    exact mw_lv [2, 3, 1, 0] rfl (L64 145 (0) (0) (mh_r_wk rc_0 (by decide)) (by have := (rc_0).1; have := (rc_0).2; omega))
  · refine mw_tabIn 88 dX10_sums_3 (by rw [c223]; decide) (by rw [c223]; decide) (by rw [c223]; rfl) (by decide) ?_
    have r_p1 : mh_r p1 (2) (2) := mh_eq1 (show p1.toInt = (2 : Int32).toInt from c223.trans rfl) (mh_r_full p1) rc_2 (2) (2) (by decide)
    refine mw_aload_n 89 rfl 1 dX10_sums_88 rfl rfl ?_
    refine mw_getl 92 rfl dX10_sums_89 gf_X10_361 rfl (fun y436 _ => ?_)
    refine mw_l2i 93 rfl dX10_sums_92 (fun x437 t438 => ?_)
    exact mw_iret dX10_sums_93 rfl ⟨x437, rfl, ⟨(mh_r_full x437), hI0, hF0⟩⟩
  · refine mw_tabIn 94 dX10_sums_3 (by rw [c223]; decide) (by rw [c223]; decide) (by rw [c223]; rfl) (by decide) ?_
    have r_p1 : mh_r p1 (3) (3) := mh_eq1 (show p1.toInt = (3 : Int32).toInt from c223.trans rfl) (mh_r_full p1) rc_3 (3) (3) (by decide)
    refine mw_aload_n 95 rfl 1 dX10_sums_94 rfl rfl ?_
    refine mw_callVi [] [] 98 rfl dX10_sums_95 ml_X10_382 mc_X10_misty mk_X10_misty rfl rfl (by decide) (w_X10_misty l G (d + 0) ⟨by omega, by omega⟩ hI0) rfl rfl (Nat.le_of_ble_eq_true rfl) (mh_rok (by omega) (by decide)) (fun x439 s440 q441 => ?_)
    obtain ⟨r_x439, e0_s440, hI_s440, hG_s440⟩ := q441
    have hF_s440 : mh_F S_X10_sums s0 s440 := mh_F_tl hF0 hG_s440 (by decide +kernel)
    exact mw_iret dX10_sums_98 rfl ⟨x439, rfl, ⟨(mh_r_wk r_x439 (by decide)), hI_s440, hF_s440⟩⟩
  · refine mw_tabIn 99 dX10_sums_3 (by rw [c223]; decide) (by rw [c223]; decide) (by rw [c223]; rfl) (by decide) ?_
    have r_p1 : mh_r p1 (4) (4) := mh_eq1 (show p1.toInt = (4 : Int32).toInt from c223.trans rfl) (mh_r_full p1) rc_4 (4) (4) (by decide)
    refine mw_aload_n 100 rfl 1 dX10_sums_99 rfl rfl ?_
    refine mw_callVi [] [] 103 rfl dX10_sums_100 ml_X10_385 mc_X10_highestTop mk_X10_highestTop rfl rfl (by decide) (w_X10_highestTop l G (d + 0) ⟨by omega, by omega⟩ hI0) rfl rfl (Nat.le_of_ble_eq_true rfl) (mh_rok (by omega) (by decide)) (fun x442 s443 q444 => ?_)
    obtain ⟨r_x442, hI_s443, hG_s443⟩ := q444
    have hF_s443 : mh_F S_X10_sums s0 s443 := mh_F_tl hF0 hG_s443 (by decide +kernel)
    exact mw_iret dX10_sums_103 rfl ⟨x442, rfl, ⟨(mh_r_wk r_x442 (by decide)), hI_s443, hF_s443⟩⟩
  · refine mw_tabOut 104 dX10_sums_3 c223 (by decide) ?_
    refine mw_iconst (v := -1) 105 rfl dX10_sums_104 (by decide) ?_
    exact mw_iret dX10_sums_105 rfl ⟨(-1), rfl, ⟨(mh_r_wk rc_m1 (by decide)), hI0, hF0⟩⟩

def S_X10_sun : List (Nat × Nat) := [(83, 9999), (84, 9999), (85, 9999), (86, 9999), (87, 9999), (88, 9999), (57, 33), (57, 34), (57, 35), (57, 36), (57, 37), (78, 9999), (77, 9999), (79, 9999), (80, 9999), (61, 9999), (62, 9999), (82, 9999), (81, 9999), (57, 4), (57, 2), (59, 9999), (60, 9999)]
def P_X10_sun (B D : Int) (s0 : mh_H) (p1 : Int32) (p2 : Int32) (p3 : Int32) (p4 : Int32) : Int32 → mh_H → Prop := fun z s => mh_r z (-2147483648) (2147483647) ∧ mh_I B B s ∧ mh_F S_X10_sun s0 s
set_option maxRecDepth 100000 in
set_option maxHeartbeats 4000000 in
theorem w_X10_sun (l : Launch) (G : mh_G) (d : Nat) {B D : Int} (hB : B ≤ 1820000000 ∧ D ≤ 1820000000) {s0 : mh_H} (hI0 : mh_I B B s0) (p1 : Int32) (p2 : Int32) (p3 : Int32) (p4 : Int32) : mh_Mi l G (d + 9) mM_X10_sun [.ref (G.2.2.2 57), .int p1, .int p2, .int p3, .int p4] s0 (P_X10_sun B D s0 p1 p2 p3 p4) := by
  refine mh_enter (lv := [(0, .ref (G.2.2.2 57)), (1, .int p1), (2, .int p2), (3, .int p3), (4, .int p4)]) (by decide) rfl (Nat.le_of_ble_eq_true rfl) ?_
  have hF0 : mh_F S_X10_sun s0 s0 := mh_F_rf
  refine mw_iload_n 1 rfl 1 dX10_sun_0 rfl rfl ?_
  refine mw_iload_n 2 rfl 2 dX10_sun_1 rfl rfl ?_
  refine mw_callSi [.int p1, .int p2] [] 5 rfl dX10_sun_2 ml_X10_166 mc_X10_isCell mk_X10_isCell (w_X10_isCell l G (d + 6) ⟨by have := kc_m1; have := kc_0; have := kc_1; skip; omega, by have := kc_m1; have := kc_0; have := kc_1; skip; omega⟩ hI0 p1 p2) rfl rfl (Nat.le_of_ble_eq_true rfl) (mh_rok (by omega) (by decide)) (fun x448 s449 q450 => ?_)
  obtain ⟨r_x448, e0_s449, rfl⟩ := q450
  refine mw_if_eq 8 rfl 38 dX10_sun_5 (by decide) (fun c451 => ?_) (fun c451 => ?_)
  · skip
    have r_x448 : mh_r x448 (0) (0) := mh_eq1 (show x448.toInt = (0 : Int32).toInt from c451) r_x448 rc_0 (0) (0) (by decide)
    refine mw_iconst (v := -1) 39 rfl dX10_sun_38 (by decide) ?_
    exact mw_iret dX10_sun_39 rfl ⟨(-1), rfl, ⟨(mh_r_wk rc_m1 (by decide)), hI0, hF0⟩⟩
  · skip
    have r_p1 : mh_r p1 (0) (11) := ⟨by have := e0_s449.1 (mh_z1 r_x448 c451); have := ((mh_r_full p1)).1; omega, by have := e0_s449.1 (mh_z1 r_x448 c451); have := ((mh_r_full p1)).2; omega⟩
    have r_p2 : mh_r p2 (0) (11) := ⟨by have := e0_s449.1 (mh_z1 r_x448 c451); have := ((mh_r_full p2)).1; omega, by have := e0_s449.1 (mh_z1 r_x448 c451); have := ((mh_r_full p2)).2; omega⟩
    have r_x448 : mh_r x448 (1) (1) := mh_ne1 (show x448.toInt ≠ (0 : Int32).toInt from c451) r_x448 rc_0 (1) (1) (by decide)
    refine mw_iload 10 rfl 4 dX10_sun_8  rfl ?_
    refine mw_callSi [.int p4] [] 13 rfl dX10_sun_10 ml_X10_373 mc_X10_isNight mk_X10_isNight (w_X10_isNight l G (d + 7) ⟨by have := (r_p1).1; have := (r_p1).2; have := (r_p2).1; have := (r_p2).2; have := kc_m1; have := kc_0; have := kc_1; skip; omega, by have := (r_p1).1; have := (r_p1).2; have := (r_p2).1; have := (r_p2).2; have := kc_m1; have := kc_0; have := kc_1; skip; omega⟩ hI0 p4) rfl rfl (Nat.le_of_ble_eq_true rfl) (mh_rok (by omega) (by decide)) (fun x452 s453 q454 => ?_)
    obtain ⟨r_x452, e0_s453, rfl⟩ := q454
    refine mw_if_eq 16 rfl 38 dX10_sun_13 (by decide) (fun c455 => ?_) (fun c455 => ?_)
    · skip
      have r_x452 : mh_r x452 (0) (0) := mh_eq1 (show x452.toInt = (0 : Int32).toInt from c455) r_x452 rc_0 (0) (0) (by decide)
      refine mw_iconst (v := -1) 39 rfl dX10_sun_38 (by decide) ?_
      exact mw_iret dX10_sun_39 rfl ⟨(-1), rfl, ⟨(mh_r_wk rc_m1 (by decide)), hI0, hF0⟩⟩
    · skip
      have r_p4 : mh_r p4 (1) (60) := ⟨by have := e0_s453.1 (mh_z1 r_x452 c455); have := ((mh_r_full p4)).1; omega, by have := e0_s453.1 (mh_z1 r_x452 c455); have := ((mh_r_full p4)).2; omega⟩
      have r_x452 : mh_r x452 (1) (1) := mh_ne1 (show x452.toInt ≠ (0 : Int32).toInt from c455) r_x452 rc_0 (1) (1) (by decide)
      refine mw_iload_n 17 rfl 3 dX10_sun_16 rfl rfl ?_
      refine mw_i2l 18 rfl dX10_sun_17 (fun y456 t457 => ?_)
      refine mw_aload_n 19 rfl 0 dX10_sun_18 rfl rfl ?_
      refine mw_geta 22 rfl dX10_sun_19 gf_X10_17 rfl 59 (mh_rf hI0 56 rfl) ?_
      refine mw_iload_n 23 rfl 1 dX10_sun_22 rfl rfl ?_
      refine mw_iload_n 24 rfl 2 dX10_sun_23 rfl rfl ?_
      refine mw_callSi [.int p1, .int p2] [.ref (G.2.2.2 59), .long y456] 27 rfl dX10_sun_24 ml_X10_174 mc_X10_cellAt mk_X10_cellAt (w_X10_cellAt l G (d + 8) ⟨by have := (r_p1).1; have := (r_p1).2; have := (r_p2).1; have := (r_p2).2; have := (r_p4).1; have := (r_p4).2; have := kc_m1; have := kc_0; have := kc_1; skip; omega, by have := (r_p1).1; have := (r_p1).2; have := (r_p2).1; have := (r_p2).2; have := (r_p4).1; have := (r_p4).2; have := kc_m1; have := kc_0; have := kc_1; skip; omega⟩ hI0 p1 r_p1 p2 r_p2) rfl rfl (Nat.le_of_ble_eq_true rfl) (mh_rok (by omega) (by decide)) (fun x458 s459 q460 => ?_)
      obtain ⟨r_x458, rfl⟩ := q460
      refine mw_iald 28 rfl dX10_sun_27 rfl r_x458 (by decide) (fun x461 t462 => ?_)
      refine mw_i2l 29 rfl dX10_sun_28 (fun y463 t464 => ?_)
      refine mw_ldc2 32 rfl dX10_sun_29 ck_X10_397 ?_
      refine mw_callSi [.long y456, .long y463, .long (198)] [] 35 rfl dX10_sun_32 ml_X10_154 mc_X10_lies mk_X10_lies (w_X10_lies l G (d + 8) ⟨by have := (r_p1).1; have := (r_p1).2; have := (r_p2).1; have := (r_p2).2; have := (r_p4).1; have := (r_p4).2; have := kc_m1; have := kc_0; have := kc_1; skip; omega, by have := (r_p1).1; have := (r_p1).2; have := (r_p2).1; have := (r_p2).2; have := (r_p4).1; have := (r_p4).2; have := kc_m1; have := kc_0; have := kc_1; skip; omega⟩ hI0 y456 y463 (198)) rfl rfl (Nat.le_of_ble_eq_true rfl) (mh_rok (by omega) (by decide)) (fun x465 s466 q467 => ?_)
      obtain ⟨r_x465, e0_s466, rfl⟩ := q467
      have f_x465 : x465.toInt = 1 ↔ (x461.toInt ≤ p3.toInt ∧ p3.toInt ≤ 198) := by rw [e0_s466]; exact by simp only [t457, t464, Int32.toInt_toInt64]; first | done | exact Iff.rfl
      refine mw_if_ne 38 rfl 40 dX10_sun_35 (by decide) (fun c468 => ?_) (fun c468 => ?_)
      · skip
        have r_x465 : mh_r x465 (1) (1) := mh_ne1 (show x465.toInt ≠ (0 : Int32).toInt from c468) r_x465 rc_0 (1) (1) (by decide)
        refine mw_iload_n 41 rfl 1 dX10_sun_40 rfl rfl ?_
        refine mw_iload_n 42 rfl 2 dX10_sun_41 rfl rfl ?_
        refine mw_callSi [.int p1, .int p2] [] 45 rfl dX10_sun_42 ml_X10_174 mc_X10_cellAt mk_X10_cellAt (w_X10_cellAt l G (d + 8) ⟨by have := (r_p1).1; have := (r_p1).2; have := (r_p2).1; have := (r_p2).2; have := (r_p4).1; have := (r_p4).2; have := kc_m1; have := kc_0; have := kc_1; skip; omega, by have := (r_p1).1; have := (r_p1).2; have := (r_p2).1; have := (r_p2).2; have := (r_p4).1; have := (r_p4).2; have := kc_m1; have := kc_0; have := kc_1; skip; omega⟩ hI0 p1 r_p1 p2 r_p2) rfl rfl (Nat.le_of_ble_eq_true rfl) (mh_rok (by omega) (by decide)) (fun x469 s470 q471 => ?_)
        obtain ⟨r_x469, rfl⟩ := q471
        refine mw_istore 47 rfl [(5, .int x469), (0, .ref (G.2.2.2 57)), (1, .int p1), (2, .int p2), (3, .int p3), (4, .int p4)] dX10_sun_45  (by decide) rfl ?_
        refine mw_aload_n 48 rfl 1 dX10_sun_47 rfl rfl ?_
        refine mw_iconst (v := 0) 49 rfl dX10_sun_48 (by decide) ?_
        refine mw_callVv [.int (0)] [] 52 rfl dX10_sun_49 ml_X10_388 mc_X10_setsAside mk_X10_setsAside rfl rfl (by decide) (w_X10_setsAside l G (d + 8) ⟨by have := (r_x469).1; have := (r_x469).2; have := (r_p1).1; have := (r_p1).2; have := (r_p2).1; have := (r_p2).2; have := (r_p4).1; have := (r_p4).2; have := kc_m1; have := kc_0; have := kc_1; skip; omega, by have := (r_x469).1; have := (r_x469).2; have := (r_p1).1; have := (r_p1).2; have := (r_p2).1; have := (r_p2).2; have := (r_p4).1; have := (r_p4).2; have := kc_m1; have := kc_0; have := kc_1; skip; omega⟩ hI0 (0) (mh_r_wk rc_0 (by decide)) (by omega)) rfl rfl (Nat.le_of_ble_eq_true rfl) (mh_rok (by omega) (by decide)) (fun s473 q474 => ?_)
        obtain ⟨hI_s473, hG_s473⟩ := q474
        have hF_s473 : mh_F S_X10_sun s0 s473 := mh_F_tl hF0 hG_s473 (by decide +kernel)
        refine mw_iconst (v := 0) 53 rfl dX10_sun_52 (by decide) ?_
        refine mw_istore 55 rfl [(6, .int (0)), (5, .int x469), (0, .ref (G.2.2.2 57)), (1, .int p1), (2, .int p2), (3, .int p3), (4, .int p4)] dX10_sun_53  (by decide) rfl ?_
        refine mw_iconst (v := 0) 56 rfl dX10_sun_55 (by decide) ?_
        refine mw_istore 58 rfl [(7, .int (0)), (6, .int (0)), (5, .int x469), (0, .ref (G.2.2.2 57)), (1, .int p1), (2, .int p2), (3, .int p3), (4, .int p4)] dX10_sun_56  (by decide) rfl ?_
        have L58 : ∀ n1 : Nat, ∀ (x850 : Int32) (x851 : Int32) (s852 : mh_H), mh_r x850 (0) (60) → mh_I (B + x850.toInt) B s852 → mh_F S_X10_sun s0 s852 → (60) - x850.toInt < (n1 : Int) → mh_W G (mh_XM l G (d + 9) (mh_Qi (P_X10_sun B D s0 p1 p2 p3 p4))) mM_X10_sun 58 [(0, .ref (G.2.2.2 57)), (1, .int p1), (2, .int p2), (3, .int p3), (4, .int p4), (5, .int x469), (6, .int x851), (7, .int x850)] [] s852 := by
          intro n1
          induction n1 with
          | zero =>
            intro x850 x851 s852 r_x850 hI_s852 hF_s852 hmn1
            exact absurd hmn1 (by have := r_x850.1; have := r_x850.2; omega)
          | succ n1 ihn1 =>
            intro x850 x851 s852 r_x850 hI_s852 hF_s852 hmn1
            refine mw_iload 60 rfl 7 dX10_sun_58  rfl ?_
            refine mw_iload 62 rfl 4 dX10_sun_60  rfl ?_
            refine mw_icmp_ge 65 rfl 112 dX10_sun_62 (by decide) (fun c874 => ?_) (fun c874 => ?_)
            · skip
              have r_x850 : mh_r x850 (1) (60) := mh_le2 c874 r_p4 r_x850 (1) (by decide)
              refine mw_aload_n 113 rfl 0 dX10_sun_112 rfl rfl ?_
              refine mw_iconst (v := 0) 114 rfl dX10_sun_113 (by decide) ?_
              refine mw_callVv [.int (0)] [] 117 rfl dX10_sun_114 ml_X10_394 mc_X10_putsBack mk_X10_putsBack rfl rfl (by decide) (w_X10_putsBack l G (d + 8) ⟨by have := (r_p1).1; have := (r_p1).2; have := (r_p2).1; have := (r_p2).2; have := (r_p4).1; have := (r_p4).2; have := (r_x469).1; have := (r_x469).2; have := (r_x850).1; have := (r_x850).2; have := kc_m1; have := kc_0; have := kc_1; skip; omega, by have := (r_p1).1; have := (r_p1).2; have := (r_p2).1; have := (r_p2).2; have := (r_p4).1; have := (r_p4).2; have := (r_x469).1; have := (r_x469).2; have := (r_x850).1; have := (r_x850).2; have := kc_m1; have := kc_0; have := kc_1; skip; omega⟩ hI_s852 (0) (mh_r_wk rc_0 (by decide))) rfl rfl (Nat.le_of_ble_eq_true rfl) (mh_rok (by omega) (by decide)) (fun s876 q877 => ?_)
              obtain ⟨hI_s876, hG_s876⟩ := q877
              have hF_s876 : mh_F S_X10_sun s0 s876 := mh_F_tl hF_s852 hG_s876 (by decide +kernel)
              refine mw_iload 119 rfl 6 dX10_sun_117  rfl ?_
              exact mw_iret dX10_sun_119 rfl ⟨x851, rfl, ⟨(mh_r_full x851), hI_s876, hF_s876⟩⟩
            · skip
              have r_x850 : mh_r x850 (0) (59) := mh_lt1 c874 r_x850 r_p4 (59) (by decide)
              refine mw_aload_n 66 rfl 0 dX10_sun_65 rfl rfl ?_
              refine mw_callVv [] [] 69 rfl dX10_sun_66 ml_X10_376 mc_X10_stepOne mk_X10_stepOne rfl rfl (by decide) (w_X10_stepOne l G (d + 0) ⟨by have := (r_p1).1; have := (r_p1).2; have := (r_p2).1; have := (r_p2).2; have := (r_p4).1; have := (r_p4).2; have := (r_x469).1; have := (r_x469).2; have := (r_x850).1; have := (r_x850).2; have := kc_m1; have := kc_0; have := kc_1; skip; omega, by have := (r_p1).1; have := (r_p1).2; have := (r_p2).1; have := (r_p2).2; have := (r_p4).1; have := (r_p4).2; have := (r_x469).1; have := (r_x469).2; have := (r_x850).1; have := (r_x850).2; have := kc_m1; have := kc_0; have := kc_1; skip; omega⟩ hI_s852) rfl rfl (Nat.le_of_ble_eq_true rfl) (mh_rok (by omega) (by decide)) (fun s879 q880 => ?_)
              obtain ⟨hI_s879, hG_s879⟩ := q880
              have hF_s879 : mh_F S_X10_sun s0 s879 := mh_F_tl hF_s852 hG_s879 (by decide +kernel)
              refine mw_aload_n 70 rfl 0 dX10_sun_69 rfl rfl ?_
              refine mw_iload 72 rfl 5 dX10_sun_70  rfl ?_
              refine mw_callVi [.int x469] [] 75 rfl dX10_sun_72 ml_X10_349 mc_X10_mistAt mk_X10_mistAt rfl rfl (by decide) (w_X10_mistAt l G (d + 1) ⟨by have := (r_p1).1; have := (r_p1).2; have := (r_p2).1; have := (r_p2).2; have := (r_p4).1; have := (r_p4).2; have := (r_x469).1; have := (r_x469).2; have := (r_x850).1; have := (r_x850).2; have := kc_m1; have := kc_0; have := kc_1; skip; omega, by have := (r_p1).1; have := (r_p1).2; have := (r_p2).1; have := (r_p2).2; have := (r_p4).1; have := (r_p4).2; have := (r_x469).1; have := (r_x469).2; have := (r_x850).1; have := (r_x850).2; have := kc_m1; have := kc_0; have := kc_1; skip; omega⟩ hI_s879 x469 r_x469) rfl rfl (Nat.le_of_ble_eq_true rfl) (mh_rok (by omega) (by decide)) (fun x881 s882 q883 => ?_)
              obtain ⟨r_x881, e0_s882, hI_s882, hG_s882⟩ := q883
              have hF_s882 : mh_F S_X10_sun s0 s882 := mh_F_tl hF_s879 hG_s882 (by decide +kernel)
              refine mw_istore 77 rfl [(8, .int x881), (0, .ref (G.2.2.2 57)), (1, .int p1), (2, .int p2), (3, .int p3), (4, .int p4), (5, .int x469), (6, .int x851), (7, .int x850)] dX10_sun_75  (by decide) rfl ?_
              refine mw_iload 79 rfl 7 dX10_sun_77  rfl ?_
              refine mw_iload 81 rfl 0 dX10_sun_79  rfl ?_
              have J103 : ∀ (x890 : Int32), mh_r x890 (0) (1) → mh_W G (mh_XM l G (d + 9) (mh_Qi (P_X10_sun B D s0 p1 p2 p3 p4))) mM_X10_sun 103 [(0, .ref (G.2.2.2 57)), (1, .int p1), (2, .int p2), (3, .int p3), (4, .int p4), (5, .int x469), (6, .int x851), (7, .int x850), (8, .int x881)] [.int x890, .int x851] s882 := by
                intro x890 r_x890
                refine mw_iadd_u 104 rfl dX10_sun_103 (fun x895 t896 => ?_)
                refine mw_istore 106 rfl [(6, .int x895), (0, .ref (G.2.2.2 57)), (1, .int p1), (2, .int p2), (3, .int p3), (4, .int p4), (5, .int x469), (7, .int x850), (8, .int x881)] dX10_sun_104  (by decide) rfl ?_
                refine mw_iincR (k := 7) (1) (60) 109 rfl (fun z => [(7, .int z), (6, .int x895), (0, .ref (G.2.2.2 57)), (1, .int p1), (2, .int p2), (3, .int p3), (4, .int p4), (5, .int x469), (8, .int x881)]) dX10_sun_106 rfl (by decide) (fun _ => rfl) r_x850 (by decide) (by decide) (fun x897 t898 r_x897 => ?_)
                refine mw_goto 112 rfl 58 dX10_sun_109 (by decide) ?_
                exact mw_lv [2, 3, 4, 5, 6, 7, 1, 0] rfl (ihn1 x897 x895 s882 (mh_r_wk r_x897 (by decide)) (mh_I_mono hI_s882 (by have := (r_x897).1; have := (r_x897).2; have := (r_p1).1; have := (r_p1).2; have := (r_p2).1; have := (r_p2).2; have := (r_p4).1; have := (r_p4).2; have := (r_x469).1; have := (r_x469).2; have := (r_x881).1; have := (r_x881).2; have := (r_x890).1; have := (r_x890).2; have := kc_m1; have := kc_0; have := kc_1; skip; omega) (by have := (r_x897).1; have := (r_x897).2; have := (r_p1).1; have := (r_p1).2; have := (r_p2).1; have := (r_p2).2; have := (r_p4).1; have := (r_p4).2; have := (r_x469).1; have := (r_x469).2; have := (r_x881).1; have := (r_x881).2; have := (r_x890).1; have := (r_x890).2; have := kc_m1; have := kc_0; have := kc_1; skip; omega)) hF_s882 (by have : x897.toInt = x850.toInt + (1) := t898; omega))
              have J98 : mh_W G (mh_XM l G (d + 9) (mh_Qi (P_X10_sun B D s0 p1 p2 p3 p4))) mM_X10_sun 98 [(0, .ref (G.2.2.2 57)), (1, .int p1), (2, .int p2), (3, .int p3), (4, .int p4), (5, .int x469), (6, .int x851), (7, .int x850), (8, .int x881)] [.int x851] s882 := by
                skip
                refine mw_iconst (v := 1) 99 rfl dX10_sun_98 (by decide) ?_
                refine mw_goto 102 rfl 103 dX10_sun_99 (by decide) ?_
                exact mw_lv [0, 1, 2, 3, 4, 5, 6, 7, 8] rfl (J103 (1) (mh_r_wk rc_1 (by decide)))
              refine mw_if_eq 84 rfl 98 dX10_sun_81 (by decide) (fun c899 => ?_) (fun c899 => ?_)
              · skip
                have r_x881 : mh_r x881 (0) (0) := mh_eq1 (show x881.toInt = (0 : Int32).toInt from c899) r_x881 rc_0 (0) (0) (by decide)
                exact mw_lv [1, 2, 3, 4, 5, 6, 7, 8, 0] rfl (J98)
              · skip
                have r_x881 : mh_r x881 (1) (99) := mh_ne1 (show x881.toInt ≠ (0 : Int32).toInt from c899) r_x881 rc_0 (1) (99) (by decide)
                refine mw_iload_n 85 rfl 4 dX10_sun_84 rfl rfl ?_
                refine mw_aload_n 86 rfl 1 dX10_sun_85 rfl rfl ?_
                refine mw_geta 89 rfl dX10_sun_86 gf_X10_17 rfl 59 (mh_rf hI_s882 56 rfl) ?_
                refine mw_iload 91 rfl 6 dX10_sun_89  rfl ?_
                refine mw_iald 92 rfl dX10_sun_91 rfl r_x469 (by decide) (fun x900 t901 => ?_)
                refine mw_iload 94 rfl 0 dX10_sun_92  rfl ?_
                refine mw_iadd_u 95 rfl dX10_sun_94 (fun x902 t903 => ?_)
                refine mw_icmp_lt 98 rfl 102 dX10_sun_95 (by decide) (fun c904 => ?_) (fun c904 => ?_)
                · skip
                  have r_p3 : mh_r p3 (-2147483648) (2147483646) := mh_lt1 c904 (mh_r_full p3) (mh_r_full x902) (2147483646) (by decide)
                  have r_x902 : mh_r x902 (-2147483647) (2147483647) := mh_lt2 c904 r_p3 (mh_r_full x902) (-2147483647) (by decide)
                  refine mw_iconst (v := 0) 103 rfl dX10_sun_102 (by decide) ?_
                  exact mw_lv [1, 2, 3, 4, 5, 6, 7, 8, 0] rfl (J103 (0) (mh_r_wk rc_0 (by decide)))
                · skip
                  exact mw_lv [1, 2, 3, 4, 5, 6, 7, 8, 0] rfl (J98)
        exact mw_lv [3, 4, 5, 6, 7, 2, 1, 0] rfl (L58 61 (0) (0) s473 (mh_r_wk rc_0 (by decide)) (mh_I_mono hI_s473 (by have := (rc_0).1; have := (rc_0).2; have := (r_x469).1; have := (r_x469).2; have := (r_p1).1; have := (r_p1).2; have := (r_p2).1; have := (r_p2).2; have := (r_p4).1; have := (r_p4).2; have := kc_m1; have := kc_0; have := kc_1; skip; omega) (by have := (rc_0).1; have := (rc_0).2; have := (r_x469).1; have := (r_x469).2; have := (r_p1).1; have := (r_p1).2; have := (r_p2).1; have := (r_p2).2; have := (r_p4).1; have := (r_p4).2; have := kc_m1; have := kc_0; have := kc_1; skip; omega)) hF_s473 (by have := (rc_0).1; have := (rc_0).2; omega))
      · skip
        have r_x465 : mh_r x465 (0) (0) := mh_eq1 (show x465.toInt = (0 : Int32).toInt from c468) r_x465 rc_0 (0) (0) (by decide)
        refine mw_iconst (v := -1) 39 rfl dX10_sun_38 (by decide) ?_
        exact mw_iret dX10_sun_39 rfl ⟨(-1), rfl, ⟨(mh_r_wk rc_m1 (by decide)), hI0, hF0⟩⟩

def S_X10_night : List (Nat × Nat) := [(83, 9999), (84, 9999), (85, 9999), (86, 9999), (87, 9999), (88, 9999), (57, 33), (57, 34), (57, 35), (57, 36), (57, 37), (78, 9999), (77, 9999), (79, 9999), (80, 9999), (61, 9999), (62, 9999), (82, 9999), (81, 9999), (57, 4), (57, 2), (59, 9999), (60, 9999)]
def P_X10_night (B D : Int) (s0 : mh_H) (p1 : Int32) (p2 : Int32) : Int32 → mh_H → Prop := fun z s => mh_r z (-2147483648) (2147483647) ∧ mh_I B B s ∧ mh_F S_X10_night s0 s
set_option maxRecDepth 100000 in
set_option maxHeartbeats 4000000 in
theorem w_X10_night (l : Launch) (G : mh_G) (d : Nat) {B D : Int} (hB : B ≤ 1820000000 ∧ D ≤ 1820000000) {s0 : mh_H} (hI0 : mh_I B B s0) (p1 : Int32) (p2 : Int32) : mh_Mi l G (d + 9) mM_X10_night [.ref (G.2.2.2 57), .int p1, .int p2] s0 (P_X10_night B D s0 p1 p2) := by
  refine mh_enter (lv := [(0, .ref (G.2.2.2 57)), (1, .int p1), (2, .int p2)]) (by decide) rfl (Nat.le_of_ble_eq_true rfl) ?_
  have hF0 : mh_F S_X10_night s0 s0 := mh_F_rf
  refine mw_iload_n 1 rfl 1 dX10_night_0 rfl rfl ?_
  refine mw_callSi [.int p1] [] 4 rfl dX10_night_1 ml_X10_373 mc_X10_isNight mk_X10_isNight (w_X10_isNight l G (d + 7) ⟨by have := kc_m2; have := kc_m1; have := kc_0; have := kc_1; have := kc_2; have := kc_3; skip; omega, by have := kc_m2; have := kc_m1; have := kc_0; have := kc_1; have := kc_2; have := kc_3; skip; omega⟩ hI0 p1) rfl rfl (Nat.le_of_ble_eq_true rfl) (mh_rok (by omega) (by decide)) (fun x891 s892 q893 => ?_)
  obtain ⟨r_x891, e0_s892, rfl⟩ := q893
  refine mw_if_eq 7 rfl 19 dX10_night_4 (by decide) (fun c894 => ?_) (fun c894 => ?_)
  · skip
    have r_x891 : mh_r x891 (0) (0) := mh_eq1 (show x891.toInt = (0 : Int32).toInt from c894) r_x891 rc_0 (0) (0) (by decide)
    refine mw_iconst (v := -1) 20 rfl dX10_night_19 (by decide) ?_
    exact mw_iret dX10_night_20 rfl ⟨(-1), rfl, ⟨(mh_r_wk rc_m1 (by decide)), hI0, hF0⟩⟩
  · skip
    have r_p1 : mh_r p1 (1) (60) := ⟨by have := e0_s892.1 (mh_z1 r_x891 c894); have := ((mh_r_full p1)).1; omega, by have := e0_s892.1 (mh_z1 r_x891 c894); have := ((mh_r_full p1)).2; omega⟩
    have r_x891 : mh_r x891 (1) (1) := mh_ne1 (show x891.toInt ≠ (0 : Int32).toInt from c894) r_x891 rc_0 (1) (1) (by decide)
    refine mw_iload_n 8 rfl 2 dX10_night_7 rfl rfl ?_
    refine mw_i2l 9 rfl dX10_night_8 (fun y895 t896 => ?_)
    refine mw_lconst (v := 0) 10 rfl dX10_night_9 (by decide) ?_
    refine mw_ldc2 13 rfl dX10_night_10 ck_X10_172 ?_
    refine mw_callSi [.long y895, .long (0), .long (4)] [] 16 rfl dX10_night_13 ml_X10_154 mc_X10_lies mk_X10_lies (w_X10_lies l G (d + 8) ⟨by have := (r_p1).1; have := (r_p1).2; have := kc_m2; have := kc_m1; have := kc_0; have := kc_1; have := kc_2; have := kc_3; skip; omega, by have := (r_p1).1; have := (r_p1).2; have := kc_m2; have := kc_m1; have := kc_0; have := kc_1; have := kc_2; have := kc_3; skip; omega⟩ hI0 y895 (0) (4)) rfl rfl (Nat.le_of_ble_eq_true rfl) (mh_rok (by omega) (by decide)) (fun x897 s898 q899 => ?_)
    obtain ⟨r_x897, e0_s898, rfl⟩ := q899
    have f_x897 : x897.toInt = 1 ↔ (0 ≤ p2.toInt ∧ p2.toInt ≤ 4) := by rw [e0_s898]; exact by simp only [t896, Int32.toInt_toInt64]; first | done | exact Iff.rfl
    refine mw_if_ne 19 rfl 21 dX10_night_16 (by decide) (fun c900 => ?_) (fun c900 => ?_)
    · skip
      have r_p2 : mh_r p2 (0) (4) := ⟨by have := f_x897.1 (mh_z1 r_x897 c900); have := ((mh_r_full p2)).1; omega, by have := f_x897.1 (mh_z1 r_x897 c900); have := ((mh_r_full p2)).2; omega⟩
      have r_x897 : mh_r x897 (1) (1) := mh_ne1 (show x897.toInt ≠ (0 : Int32).toInt from c900) r_x897 rc_0 (1) (1) (by decide)
      refine mw_aload_n 22 rfl 0 dX10_night_21 rfl rfl ?_
      refine mw_iconst (v := 0) 23 rfl dX10_night_22 (by decide) ?_
      refine mw_callVv [.int (0)] [] 26 rfl dX10_night_23 ml_X10_388 mc_X10_setsAside mk_X10_setsAside rfl rfl (by decide) (w_X10_setsAside l G (d + 8) ⟨by have := (r_p1).1; have := (r_p1).2; have := (r_p2).1; have := (r_p2).2; have := kc_m2; have := kc_m1; have := kc_0; have := kc_1; have := kc_2; have := kc_3; skip; omega, by have := (r_p1).1; have := (r_p1).2; have := (r_p2).1; have := (r_p2).2; have := kc_m2; have := kc_m1; have := kc_0; have := kc_1; have := kc_2; have := kc_3; skip; omega⟩ hI0 (0) (mh_r_wk rc_0 (by decide)) (by omega)) rfl rfl (Nat.le_of_ble_eq_true rfl) (mh_rok (by omega) (by decide)) (fun s902 q903 => ?_)
      obtain ⟨hI_s902, hG_s902⟩ := q903
      have hF_s902 : mh_F S_X10_night s0 s902 := mh_F_tl hF0 hG_s902 (by decide +kernel)
      refine mw_bipush (v := -2) 28 rfl dX10_night_26 (by decide) ?_
      refine mw_istore_n 29 rfl [(3, .int (-2)), (0, .ref (G.2.2.2 57)), (1, .int p1), (2, .int p2)] dX10_night_28 rfl (by decide) rfl ?_
      refine mw_bipush (v := -2) 31 rfl dX10_night_29 (by decide) ?_
      refine mw_istore 33 rfl [(4, .int (-2)), (3, .int (-2)), (0, .ref (G.2.2.2 57)), (1, .int p1), (2, .int p2)] dX10_night_31  (by decide) rfl ?_
      refine mw_bipush (v := -2) 35 rfl dX10_night_33 (by decide) ?_
      refine mw_istore 37 rfl [(5, .int (-2)), (4, .int (-2)), (3, .int (-2)), (0, .ref (G.2.2.2 57)), (1, .int p1), (2, .int p2)] dX10_night_35  (by decide) rfl ?_
      refine mw_bipush (v := -2) 39 rfl dX10_night_37 (by decide) ?_
      refine mw_istore 41 rfl [(6, .int (-2)), (5, .int (-2)), (4, .int (-2)), (3, .int (-2)), (0, .ref (G.2.2.2 57)), (1, .int p1), (2, .int p2)] dX10_night_39  (by decide) rfl ?_
      refine mw_iconst (v := 0) 42 rfl dX10_night_41 (by decide) ?_
      refine mw_istore 44 rfl [(7, .int (0)), (6, .int (-2)), (5, .int (-2)), (4, .int (-2)), (3, .int (-2)), (0, .ref (G.2.2.2 57)), (1, .int p1), (2, .int p2)] dX10_night_42  (by decide) rfl ?_
      refine mw_iconst (v := 0) 45 rfl dX10_night_44 (by decide) ?_
      refine mw_istore 47 rfl [(8, .int (0)), (7, .int (0)), (6, .int (-2)), (5, .int (-2)), (4, .int (-2)), (3, .int (-2)), (0, .ref (G.2.2.2 57)), (1, .int p1), (2, .int p2)] dX10_night_45  (by decide) rfl ?_
      have L47 : ∀ n1 : Nat, ∀ (x1696 : Int32) (x1697 : Int32) (x1698 : Int32) (x1699 : Int32) (x1700 : Int32) (x1701 : Int32) (s1702 : mh_H), mh_r x1696 (0) (60) → mh_r x1698 (-2) (1820001000) → mh_r x1699 (-2) (143) → mh_r x1700 (-2) (1820001000) → mh_r x1701 (-2) (2147483647) → mh_I (B + x1696.toInt) B s1702 → mh_F S_X10_night s0 s1702 → (60) - x1696.toInt < (n1 : Int) → mh_W G (mh_XM l G (d + 9) (mh_Qi (P_X10_night B D s0 p1 p2))) mM_X10_night 47 [(0, .ref (G.2.2.2 57)), (1, .int p1), (2, .int p2), (3, .int x1701), (4, .int x1700), (5, .int x1699), (6, .int x1698), (7, .int x1697), (8, .int x1696)] [] s1702 := by
        intro n1
        induction n1 with
        | zero =>
          intro x1696 x1697 x1698 x1699 x1700 x1701 s1702 r_x1696 r_x1698 r_x1699 r_x1700 r_x1701 hI_s1702 hF_s1702 hmn1
          exact absurd hmn1 (by have := r_x1696.1; have := r_x1696.2; omega)
        | succ n1 ihn1 =>
          intro x1696 x1697 x1698 x1699 x1700 x1701 s1702 r_x1696 r_x1698 r_x1699 r_x1700 r_x1701 hI_s1702 hF_s1702 hmn1
          refine mw_iload 49 rfl 8 dX10_night_47  rfl ?_
          refine mw_iload_n 50 rfl 1 dX10_night_49 rfl rfl ?_
          refine mw_icmp_ge 53 rfl 116 dX10_night_50 (by decide) (fun c1742 => ?_) (fun c1742 => ?_)
          · skip
            have r_x1696 : mh_r x1696 (1) (60) := mh_le2 c1742 r_p1 r_x1696 (1) (by decide)
            refine mw_aload_n 117 rfl 0 dX10_night_116 rfl rfl ?_
            refine mw_iconst (v := 0) 118 rfl dX10_night_117 (by decide) ?_
            refine mw_callVv [.int (0)] [] 121 rfl dX10_night_118 ml_X10_394 mc_X10_putsBack mk_X10_putsBack rfl rfl (by decide) (w_X10_putsBack l G (d + 8) ⟨by have := (r_p1).1; have := (r_p1).2; have := (r_p2).1; have := (r_p2).2; have := (r_x1701).1; have := (r_x1701).2; have := (r_x1700).1; have := (r_x1700).2; have := (r_x1699).1; have := (r_x1699).2; have := (r_x1698).1; have := (r_x1698).2; have := (r_x1696).1; have := (r_x1696).2; have := kc_m2; have := kc_m1; have := kc_0; have := kc_1; have := kc_2; have := kc_3; skip; omega, by have := (r_p1).1; have := (r_p1).2; have := (r_p2).1; have := (r_p2).2; have := (r_x1701).1; have := (r_x1701).2; have := (r_x1700).1; have := (r_x1700).2; have := (r_x1699).1; have := (r_x1699).2; have := (r_x1698).1; have := (r_x1698).2; have := (r_x1696).1; have := (r_x1696).2; have := kc_m2; have := kc_m1; have := kc_0; have := kc_1; have := kc_2; have := kc_3; skip; omega⟩ hI_s1702 (0) (mh_r_wk rc_0 (by decide))) rfl rfl (Nat.le_of_ble_eq_true rfl) (mh_rok (by omega) (by decide)) (fun s1744 q1745 => ?_)
            obtain ⟨hI_s1744, hG_s1744⟩ := q1745
            have hF_s1744 : mh_F S_X10_night s0 s1744 := mh_F_tl hF_s1702 hG_s1744 (by decide +kernel)
            refine mw_iload_n 122 rfl 2 dX10_night_121 rfl rfl ?_
            refine mw_if_ne 125 rfl 129 dX10_night_122 (by decide) (fun c1746 => ?_) (fun c1746 => ?_)
            · skip
              have r_p2 : mh_r p2 (1) (4) := mh_ne1 (show p2.toInt ≠ (0 : Int32).toInt from c1746) r_p2 rc_0 (1) (4) (by decide)
              refine mw_iload_n 130 rfl 2 dX10_night_129 rfl rfl ?_
              refine mw_iconst (v := 1) 131 rfl dX10_night_130 (by decide) ?_
              refine mw_icmp_ne 134 rfl 139 dX10_night_131 (by decide) (fun c1747 => ?_) (fun c1747 => ?_)
              · skip
                have r_p2 : mh_r p2 (2) (4) := mh_ne1 c1747 r_p2 rc_1 (2) (4) (by decide)
                refine mw_iload_n 140 rfl 2 dX10_night_139 rfl rfl ?_
                refine mw_iconst (v := 2) 141 rfl dX10_night_140 (by decide) ?_
                refine mw_icmp_ne 144 rfl 149 dX10_night_141 (by decide) (fun c1748 => ?_) (fun c1748 => ?_)
                · skip
                  have r_p2 : mh_r p2 (3) (4) := mh_ne1 c1748 r_p2 rc_2 (3) (4) (by decide)
                  refine mw_iload_n 150 rfl 2 dX10_night_149 rfl rfl ?_
                  refine mw_iconst (v := 3) 151 rfl dX10_night_150 (by decide) ?_
                  refine mw_icmp_ne 154 rfl 159 dX10_night_151 (by decide) (fun c1749 => ?_) (fun c1749 => ?_)
                  · skip
                    have r_p2 : mh_r p2 (4) (4) := mh_ne1 c1749 r_p2 rc_3 (4) (4) (by decide)
                    refine mw_iload 161 rfl 7 dX10_night_159  rfl ?_
                    exact mw_iret dX10_night_161 rfl ⟨x1697, rfl, ⟨(mh_r_full x1697), hI_s1744, hF_s1744⟩⟩
                  · skip
                    have r_p2 : mh_r p2 (3) (3) := mh_eq1 c1749 r_p2 rc_3 (3) (3) (by decide)
                    refine mw_iload 156 rfl 6 dX10_night_154  rfl ?_
                    refine mw_goto 159 rfl 161 dX10_night_156 (by decide) ?_
                    exact mw_iret dX10_night_161 rfl ⟨x1698, rfl, ⟨(mh_r_wk r_x1698 (by decide)), hI_s1744, hF_s1744⟩⟩
                · skip
                  have r_p2 : mh_r p2 (2) (2) := mh_eq1 c1748 r_p2 rc_2 (2) (2) (by decide)
                  refine mw_iload 146 rfl 5 dX10_night_144  rfl ?_
                  refine mw_goto 149 rfl 161 dX10_night_146 (by decide) ?_
                  exact mw_iret dX10_night_161 rfl ⟨x1699, rfl, ⟨(mh_r_wk r_x1699 (by decide)), hI_s1744, hF_s1744⟩⟩
              · skip
                have r_p2 : mh_r p2 (1) (1) := mh_eq1 c1747 r_p2 rc_1 (1) (1) (by decide)
                refine mw_iload 136 rfl 4 dX10_night_134  rfl ?_
                refine mw_goto 139 rfl 161 dX10_night_136 (by decide) ?_
                exact mw_iret dX10_night_161 rfl ⟨x1700, rfl, ⟨(mh_r_wk r_x1700 (by decide)), hI_s1744, hF_s1744⟩⟩
            · skip
              have r_p2 : mh_r p2 (0) (0) := mh_eq1 (show p2.toInt = (0 : Int32).toInt from c1746) r_p2 rc_0 (0) (0) (by decide)
              refine mw_iload_n 126 rfl 3 dX10_night_125 rfl rfl ?_
              refine mw_goto 129 rfl 161 dX10_night_126 (by decide) ?_
              exact mw_iret dX10_night_161 rfl ⟨x1701, rfl, ⟨(mh_r_wk r_x1701 (by decide)), hI_s1744, hF_s1744⟩⟩
          · skip
            have r_x1696 : mh_r x1696 (0) (59) := mh_lt1 c1742 r_x1696 r_p1 (59) (by decide)
            refine mw_aload_n 54 rfl 0 dX10_night_53 rfl rfl ?_
            refine mw_callVv [] [] 57 rfl dX10_night_54 ml_X10_376 mc_X10_stepOne mk_X10_stepOne rfl rfl (by decide) (w_X10_stepOne l G (d + 0) ⟨by have := (r_p1).1; have := (r_p1).2; have := (r_p2).1; have := (r_p2).2; have := (r_x1701).1; have := (r_x1701).2; have := (r_x1700).1; have := (r_x1700).2; have := (r_x1699).1; have := (r_x1699).2; have := (r_x1698).1; have := (r_x1698).2; have := (r_x1696).1; have := (r_x1696).2; have := kc_m2; have := kc_m1; have := kc_0; have := kc_1; have := kc_2; have := kc_3; skip; omega, by have := (r_p1).1; have := (r_p1).2; have := (r_p2).1; have := (r_p2).2; have := (r_x1701).1; have := (r_x1701).2; have := (r_x1700).1; have := (r_x1700).2; have := (r_x1699).1; have := (r_x1699).2; have := (r_x1698).1; have := (r_x1698).2; have := (r_x1696).1; have := (r_x1696).2; have := kc_m2; have := kc_m1; have := kc_0; have := kc_1; have := kc_2; have := kc_3; skip; omega⟩ hI_s1702) rfl rfl (Nat.le_of_ble_eq_true rfl) (mh_rok (by omega) (by decide)) (fun s1751 q1752 => ?_)
            obtain ⟨hI_s1751, hG_s1751⟩ := q1752
            have hF_s1751 : mh_F S_X10_night s0 s1751 := mh_F_tl hF_s1702 hG_s1751 (by decide +kernel)
            refine mw_aload_n 58 rfl 0 dX10_night_57 rfl rfl ?_
            refine mw_callVi [] [] 61 rfl dX10_night_58 ml_X10_385 mc_X10_highestTop mk_X10_highestTop rfl rfl (by decide) (w_X10_highestTop l G (d + 0) ⟨by have := (r_p1).1; have := (r_p1).2; have := (r_p2).1; have := (r_p2).2; have := (r_x1701).1; have := (r_x1701).2; have := (r_x1700).1; have := (r_x1700).2; have := (r_x1699).1; have := (r_x1699).2; have := (r_x1698).1; have := (r_x1698).2; have := (r_x1696).1; have := (r_x1696).2; have := kc_m2; have := kc_m1; have := kc_0; have := kc_1; have := kc_2; have := kc_3; skip; omega, by have := (r_p1).1; have := (r_p1).2; have := (r_p2).1; have := (r_p2).2; have := (r_x1701).1; have := (r_x1701).2; have := (r_x1700).1; have := (r_x1700).2; have := (r_x1699).1; have := (r_x1699).2; have := (r_x1698).1; have := (r_x1698).2; have := (r_x1696).1; have := (r_x1696).2; have := kc_m2; have := kc_m1; have := kc_0; have := kc_1; have := kc_2; have := kc_3; skip; omega⟩ hI_s1751) rfl rfl (Nat.le_of_ble_eq_true rfl) (mh_rok (by omega) (by decide)) (fun x1753 s1754 q1755 => ?_)
            obtain ⟨r_x1753, hI_s1754, hG_s1754⟩ := q1755
            have hF_s1754 : mh_F S_X10_night s0 s1754 := mh_F_tl hF_s1751 hG_s1754 (by decide +kernel)
            refine mw_istore 63 rfl [(9, .int x1753), (0, .ref (G.2.2.2 57)), (1, .int p1), (2, .int p2), (3, .int x1701), (4, .int x1700), (5, .int x1699), (6, .int x1698), (7, .int x1697), (8, .int x1696)] dX10_night_61  (by decide) rfl ?_
            refine mw_aload_n 64 rfl 1 dX10_night_63 rfl rfl ?_
            refine mw_callVi [] [] 67 rfl dX10_night_64 ml_X10_382 mc_X10_misty mk_X10_misty rfl rfl (by decide) (w_X10_misty l G (d + 0) ⟨by have := (r_x1753).1; have := (r_x1753).2; have := (r_p1).1; have := (r_p1).2; have := (r_p2).1; have := (r_p2).2; have := (r_x1701).1; have := (r_x1701).2; have := (r_x1700).1; have := (r_x1700).2; have := (r_x1699).1; have := (r_x1699).2; have := (r_x1698).1; have := (r_x1698).2; have := (r_x1696).1; have := (r_x1696).2; have := kc_m2; have := kc_m1; have := kc_0; have := kc_1; have := kc_2; have := kc_3; skip; omega, by have := (r_x1753).1; have := (r_x1753).2; have := (r_p1).1; have := (r_p1).2; have := (r_p2).1; have := (r_p2).2; have := (r_x1701).1; have := (r_x1701).2; have := (r_x1700).1; have := (r_x1700).2; have := (r_x1699).1; have := (r_x1699).2; have := (r_x1698).1; have := (r_x1698).2; have := (r_x1696).1; have := (r_x1696).2; have := kc_m2; have := kc_m1; have := kc_0; have := kc_1; have := kc_2; have := kc_3; skip; omega⟩ hI_s1754) rfl rfl (Nat.le_of_ble_eq_true rfl) (mh_rok (by omega) (by decide)) (fun x1756 s1757 q1758 => ?_)
            obtain ⟨r_x1756, e0_s1757, hI_s1757, hG_s1757⟩ := q1758
            have hF_s1757 : mh_F S_X10_night s0 s1757 := mh_F_tl hF_s1754 hG_s1757 (by decide +kernel)
            have J110 : ∀ (x1773 : Int32) (x1774 : Int32) (x1775 : Int32) (x1776 : Int32) (x1777 : Int32) (s1778 : mh_H), mh_r x1773 (-2) (2147483647) → mh_r x1774 (-2) (1820001000) → mh_r x1775 (-2) (143) → mh_r x1776 (-2) (1820001000) → mh_I ((B + x1696.toInt) + 1) B s1778 → mh_F S_X10_night s0 s1778 → mh_W G (mh_XM l G (d + 9) (mh_Qi (P_X10_night B D s0 p1 p2))) mM_X10_night 110 [(0, .ref (G.2.2.2 57)), (1, .int p1), (2, .int p2), (3, .int x1773), (4, .int x1774), (5, .int x1775), (6, .int x1776), (7, .int x1777), (8, .int x1696), (9, .int x1753)] [] s1778 := by
              intro x1773 x1774 x1775 x1776 x1777 s1778 r_x1773 r_x1774 r_x1775 r_x1776 hI_s1778 hF_s1778
              refine mw_iincR (k := 8) (1) (60) 113 rfl (fun z => [(8, .int z), (0, .ref (G.2.2.2 57)), (1, .int p1), (2, .int p2), (3, .int x1773), (4, .int x1774), (5, .int x1775), (6, .int x1776), (7, .int x1777), (9, .int x1753)]) dX10_night_110 rfl (by decide) (fun _ => rfl) r_x1696 (by decide) (by decide) (fun x1781 t1782 r_x1781 => ?_)
              refine mw_goto 116 rfl 47 dX10_night_113 (by decide) ?_
              exact mw_lv [1, 2, 3, 4, 5, 6, 7, 8, 0] rfl (ihn1 x1781 x1777 x1776 x1775 x1774 x1773 s1778 (mh_r_wk r_x1781 (by decide)) r_x1776 r_x1775 r_x1774 r_x1773 (mh_I_mono hI_s1778 (by have := (r_x1781).1; have := (r_x1781).2; have := (r_p1).1; have := (r_p1).2; have := (r_p2).1; have := (r_p2).2; have := (r_x1773).1; have := (r_x1773).2; have := (r_x1774).1; have := (r_x1774).2; have := (r_x1775).1; have := (r_x1775).2; have := (r_x1776).1; have := (r_x1776).2; have := (r_x1753).1; have := (r_x1753).2; have := kc_m2; have := kc_m1; have := kc_0; have := kc_1; have := kc_2; have := kc_3; skip; omega) (by have := (r_x1781).1; have := (r_x1781).2; have := (r_p1).1; have := (r_p1).2; have := (r_p2).1; have := (r_p2).2; have := (r_x1773).1; have := (r_x1773).2; have := (r_x1774).1; have := (r_x1774).2; have := (r_x1775).1; have := (r_x1775).2; have := (r_x1776).1; have := (r_x1776).2; have := (r_x1753).1; have := (r_x1753).2; have := kc_m2; have := kc_m1; have := kc_0; have := kc_1; have := kc_2; have := kc_3; skip; omega)) hF_s1778 (by have : x1781.toInt = x1696.toInt + (1) := t1782; omega))
            refine mw_if_ne 70 rfl 73 dX10_night_67 (by decide) (fun c1783 => ?_) (fun c1783 => ?_)
            · skip
              have r_x1756 : mh_r x1756 (1) (144) := mh_ne1 (show x1756.toInt ≠ (0 : Int32).toInt from c1783) r_x1756 rc_0 (1) (144) (by decide)
              refine mw_iincU (k := 8) 76 rfl (fun z => [(7, .int z), (9, .int x1753), (0, .ref (G.2.2.2 57)), (1, .int p1), (2, .int p2), (3, .int x1701), (4, .int x1700), (5, .int x1699), (6, .int x1698), (8, .int x1696)]) dX10_night_73 rfl (by decide) (fun _ => rfl) (fun x1784 _ => ?_)
              refine mw_iload 78 rfl 8 dX10_night_76  rfl ?_
              refine mw_bipush (v := -2) 80 rfl dX10_night_78 (by decide) ?_
              have J95 : ∀ (x1791 : Int32) (x1792 : Int32) (s1793 : mh_H), mh_r x1791 (-2) (143) → mh_r x1792 (-1) (1820001000) → mh_I ((B + x1696.toInt) + 1) B s1793 → mh_F S_X10_night s0 s1793 → mh_W G (mh_XM l G (d + 9) (mh_Qi (P_X10_night B D s0 p1 p2))) mM_X10_night 95 [(0, .ref (G.2.2.2 57)), (1, .int p1), (2, .int p2), (3, .int x1701), (4, .int x1700), (5, .int x1791), (6, .int x1792), (7, .int x1784), (8, .int x1696), (9, .int x1753)] [] s1793 := by
                intro x1791 x1792 s1793 r_x1791 r_x1792 hI_s1793 hF_s1793
                refine mw_iload 97 rfl 9 dX10_night_95  rfl ?_
                refine mw_iload_n 98 rfl 3 dX10_night_97 rfl rfl ?_
                refine mw_icmp_le 101 rfl 110 dX10_night_98 (by decide) (fun c1797 => ?_) (fun c1797 => ?_)
                · skip
                  have r_x1701 : mh_r x1701 (0) (2147483647) := mh_le2 c1797 r_x1753 r_x1701 (0) (by decide)
                  exact mw_lv [0, 1, 2, 3, 4, 5, 6, 7, 8, 9] rfl (J110 x1701 x1700 x1791 x1792 x1784 s1793 (mh_r_wk r_x1701 (by decide)) r_x1700 r_x1791 (mh_r_wk r_x1792 (by decide)) hI_s1793 hF_s1793)
                · skip
                  have r_x1701 : mh_r x1701 (-2) (2147483646) := mh_lt1 c1797 r_x1701 r_x1753 (2147483646) (by decide)
                  refine mw_iload 103 rfl 9 dX10_night_101  rfl ?_
                  refine mw_istore_n 104 rfl [(3, .int x1753), (0, .ref (G.2.2.2 57)), (1, .int p1), (2, .int p2), (4, .int x1700), (5, .int x1791), (6, .int x1792), (7, .int x1784), (8, .int x1696), (9, .int x1753)] dX10_night_103 rfl (by decide) rfl ?_
                  refine mw_aload_n 105 rfl 1 dX10_night_104 rfl rfl ?_
                  refine mw_geti 108 rfl dX10_night_105 gf_X10_301 rfl (fun x1798 t1799 => ?_)
                  have r_x1798 : mh_r x1798 (0) (1820001000) := by rw [t1799]; exact mh_r_wk (rd_57_2 hI_s1793) ⟨by decide, by have := (r_x1753).1; have := (r_x1753).2; have := (r_p1).1; have := (r_p1).2; have := (r_p2).1; have := (r_p2).2; have := (r_x1700).1; have := (r_x1700).2; have := (r_x1791).1; have := (r_x1791).2; have := (r_x1792).1; have := (r_x1792).2; have := (r_x1696).1; have := (r_x1696).2; have := kc_m2; have := kc_m1; have := kc_0; have := kc_1; have := kc_2; have := kc_3; omega⟩
                  refine mw_istore 110 rfl [(4, .int x1798), (3, .int x1753), (0, .ref (G.2.2.2 57)), (1, .int p1), (2, .int p2), (5, .int x1791), (6, .int x1792), (7, .int x1784), (8, .int x1696), (9, .int x1753)] dX10_night_108  (by decide) rfl ?_
                  exact mw_lv [2, 3, 4, 1, 0, 5, 6, 7, 8, 9] rfl (J110 x1753 x1798 x1791 x1792 x1784 s1793 (mh_r_wk r_x1753 (by decide)) (mh_r_wk r_x1798 (by decide)) r_x1791 (mh_r_wk r_x1792 (by decide)) hI_s1793 hF_s1793)
              refine mw_icmp_ne 83 rfl 95 dX10_night_80 (by decide) (fun c1800 => ?_) (fun c1800 => ?_)
              · skip
                have r_x1698 : mh_r x1698 (-1) (1820001000) := mh_ne1 c1800 r_x1698 rc_m2 (-1) (1820001000) (by decide)
                exact mw_lv [2, 3, 4, 5, 6, 7, 8, 0, 9, 1] rfl (J95 x1699 x1698 s1757 r_x1699 r_x1698 hI_s1757 hF_s1757)
              · skip
                have r_x1698 : mh_r x1698 (-2) (-2) := mh_eq1 c1800 r_x1698 rc_m2 (-2) (-2) (by decide)
                refine mw_aload_n 84 rfl 2 dX10_night_83 rfl rfl ?_
                refine mw_geti 87 rfl dX10_night_84 gf_X10_301 rfl (fun x1801 t1802 => ?_)
                have r_x1801 : mh_r x1801 (0) (1820001000) := by rw [t1802]; exact mh_r_wk (rd_57_2 hI_s1757) ⟨by decide, by have := (r_x1753).1; have := (r_x1753).2; have := (r_p1).1; have := (r_p1).2; have := (r_p2).1; have := (r_p2).2; have := (r_x1701).1; have := (r_x1701).2; have := (r_x1700).1; have := (r_x1700).2; have := (r_x1699).1; have := (r_x1699).2; have := (r_x1698).1; have := (r_x1698).2; have := (r_x1696).1; have := (r_x1696).2; have := kc_m2; have := kc_m1; have := kc_0; have := kc_1; have := kc_2; have := kc_3; omega⟩
                refine mw_istore 89 rfl [(6, .int x1801), (7, .int x1784), (9, .int x1753), (0, .ref (G.2.2.2 57)), (1, .int p1), (2, .int p2), (3, .int x1701), (4, .int x1700), (5, .int x1699), (8, .int x1696)] dX10_night_87  (by decide) rfl ?_
                refine mw_aload_n 90 rfl 3 dX10_night_89 rfl rfl ?_
                refine mw_callVi [] [] 93 rfl dX10_night_90 ml_X10_391 mc_X10_lowestMisty mk_X10_lowestMisty rfl rfl (by decide) (w_X10_lowestMisty l G (d + 0) ⟨by have := (r_x1801).1; have := (r_x1801).2; have := (r_x1753).1; have := (r_x1753).2; have := (r_p1).1; have := (r_p1).2; have := (r_p2).1; have := (r_p2).2; have := (r_x1701).1; have := (r_x1701).2; have := (r_x1700).1; have := (r_x1700).2; have := (r_x1699).1; have := (r_x1699).2; have := (r_x1696).1; have := (r_x1696).2; have := kc_m2; have := kc_m1; have := kc_0; have := kc_1; have := kc_2; have := kc_3; skip; omega, by have := (r_x1801).1; have := (r_x1801).2; have := (r_x1753).1; have := (r_x1753).2; have := (r_p1).1; have := (r_p1).2; have := (r_p2).1; have := (r_p2).2; have := (r_x1701).1; have := (r_x1701).2; have := (r_x1700).1; have := (r_x1700).2; have := (r_x1699).1; have := (r_x1699).2; have := (r_x1696).1; have := (r_x1696).2; have := kc_m2; have := kc_m1; have := kc_0; have := kc_1; have := kc_2; have := kc_3; skip; omega⟩ hI_s1757 (e0_s1757 (by have := (r_x1756).1; omega))) rfl rfl (Nat.le_of_ble_eq_true rfl) (mh_rok (by omega) (by decide)) (fun x1803 s1804 q1805 => ?_)
                obtain ⟨r_x1803, hI_s1804, hG_s1804⟩ := q1805
                have hF_s1804 : mh_F S_X10_night s0 s1804 := mh_F_tl hF_s1757 hG_s1804 (by decide +kernel)
                refine mw_istore 95 rfl [(5, .int x1803), (6, .int x1801), (7, .int x1784), (9, .int x1753), (0, .ref (G.2.2.2 57)), (1, .int p1), (2, .int p2), (3, .int x1701), (4, .int x1700), (8, .int x1696)] dX10_night_93  (by decide) rfl ?_
                exact mw_lv [4, 5, 6, 7, 8, 0, 1, 2, 9, 3] rfl (J95 x1803 x1801 s1804 (mh_r_wk r_x1803 (by decide)) (mh_r_wk r_x1801 (by decide)) hI_s1804 hF_s1804)
            · skip
              have r_x1756 : mh_r x1756 (0) (0) := mh_eq1 (show x1756.toInt = (0 : Int32).toInt from c1783) r_x1756 rc_0 (0) (0) (by decide)
              refine mw_goto 73 rfl 110 dX10_night_70 (by decide) ?_
              exact mw_lv [1, 2, 3, 4, 5, 6, 7, 8, 9, 0] rfl (J110 x1701 x1700 x1699 x1698 x1697 s1757 r_x1701 r_x1700 r_x1699 r_x1698 hI_s1757 hF_s1757)
      exact mw_lv [6, 7, 8, 5, 4, 3, 2, 1, 0] rfl (L47 61 (0) (0) (-2) (-2) (-2) (-2) s902 (mh_r_wk rc_0 (by decide)) (mh_r_wk rc_m2 (by decide)) (mh_r_wk rc_m2 (by decide)) (mh_r_wk rc_m2 (by decide)) (mh_r_wk rc_m2 (by decide)) (mh_I_mono hI_s902 (by have := (rc_0).1; have := (rc_0).2; have := (rc_m2).1; have := (rc_m2).2; have := (r_p1).1; have := (r_p1).2; have := (r_p2).1; have := (r_p2).2; have := kc_m2; have := kc_m1; have := kc_0; have := kc_1; have := kc_2; have := kc_3; skip; omega) (by have := (rc_0).1; have := (rc_0).2; have := (rc_m2).1; have := (rc_m2).2; have := (r_p1).1; have := (r_p1).2; have := (r_p2).1; have := (r_p2).2; have := kc_m2; have := kc_m1; have := kc_0; have := kc_1; have := kc_2; have := kc_3; skip; omega)) hF_s902 (by have := (rc_0).1; have := (rc_0).2; omega))
    · skip
      have r_x897 : mh_r x897 (0) (0) := mh_eq1 (show x897.toInt = (0 : Int32).toInt from c900) r_x897 rc_0 (0) (0) (by decide)
      refine mw_iconst (v := -1) 20 rfl dX10_night_19 (by decide) ?_
      exact mw_iret dX10_night_20 rfl ⟨(-1), rfl, ⟨(mh_r_wk rc_m1 (by decide)), hI0, hF0⟩⟩

def S_X10_steps : List (Nat × Nat) := [(57, 33), (57, 34), (57, 35), (57, 36), (57, 37), (78, 9999), (77, 9999), (79, 9999), (80, 9999), (61, 9999), (62, 9999), (82, 9999), (81, 9999), (57, 4), (57, 2)]
def P_X10_steps (B D : Int) (s0 : mh_H) (p1 : Int32) : Int32 → mh_H → Prop := fun z s => mh_r z (-2147483648) (2147483647) ∧ mh_I (B + 60) D s ∧ mh_F S_X10_steps s0 s
set_option maxRecDepth 100000 in
set_option maxHeartbeats 4000000 in
theorem w_X10_steps (l : Launch) (G : mh_G) (d : Nat) {B D : Int} (hB : B ≤ 1820000000 ∧ D ≤ 1820000000) {s0 : mh_H} (hI0 : mh_I B D s0) (p1 : Int32) : mh_Mi l G (d + 9) mM_X10_steps [.ref (G.2.2.2 57), .int p1] s0 (P_X10_steps B D s0 p1) := by
  refine mh_enter (lv := [(0, .ref (G.2.2.2 57)), (1, .int p1)]) (by decide) rfl (Nat.le_of_ble_eq_true rfl) ?_
  have hF0 : mh_F S_X10_steps s0 s0 := mh_F_rf
  refine mw_iload_n 1 rfl 1 dX10_steps_0 rfl rfl ?_
  refine mw_callSi [.int p1] [] 4 rfl dX10_steps_1 ml_X10_373 mc_X10_isNight mk_X10_isNight (w_X10_isNight l G (d + 7) ⟨by omega, by omega⟩ hI0 p1) rfl rfl (Nat.le_of_ble_eq_true rfl) (mh_rok (by omega) (by decide)) (fun x73 s74 q75 => ?_)
  obtain ⟨r_x73, e0_s74, rfl⟩ := q75
  refine mw_if_ne 7 rfl 9 dX10_steps_4 (by decide) (fun c76 => ?_) (fun c76 => ?_)
  · skip
    have r_p1 : mh_r p1 (1) (60) := ⟨by have := e0_s74.1 (mh_z1 r_x73 c76); have := ((mh_r_full p1)).1; omega, by have := e0_s74.1 (mh_z1 r_x73 c76); have := ((mh_r_full p1)).2; omega⟩
    have r_x73 : mh_r x73 (1) (1) := mh_ne1 (show x73.toInt ≠ (0 : Int32).toInt from c76) r_x73 rc_0 (1) (1) (by decide)
    refine mw_aload_n 10 rfl 0 dX10_steps_9 rfl rfl ?_
    refine mw_getl 13 rfl dX10_steps_10 gf_X10_361 rfl (fun y77 _ => ?_)
    refine mw_lstore_n 14 rfl [(2, .long y77), (0, .ref (G.2.2.2 57)), (1, .int p1)] dX10_steps_13 rfl (by decide) rfl ?_
    refine mw_iconst (v := 0) 15 rfl dX10_steps_14 (by decide) ?_
    refine mw_istore 17 rfl [(4, .int (0)), (2, .long y77), (0, .ref (G.2.2.2 57)), (1, .int p1)] dX10_steps_15  (by decide) rfl ?_
    have L17 : ∀ n1 : Nat, ∀ (x124 : Int32) (s125 : mh_H), mh_r x124 (0) (60) → mh_I (B + x124.toInt) D s125 → mh_F S_X10_steps s0 s125 → (60) - x124.toInt < (n1 : Int) → mh_W G (mh_XM l G (d + 9) (mh_Qi (P_X10_steps B D s0 p1))) mM_X10_steps 17 [(0, .ref (G.2.2.2 57)), (1, .int p1), (2, .long y77), (4, .int x124)] [] s125 := by
      intro n1
      induction n1 with
      | zero =>
        intro x124 s125 r_x124 hI_s125 hF_s125 hmn1
        exact absurd hmn1 (by have := r_x124.1; have := r_x124.2; omega)
      | succ n1 ihn1 =>
        intro x124 s125 r_x124 hI_s125 hF_s125 hmn1
        refine mw_iload 19 rfl 3 dX10_steps_17  rfl ?_
        refine mw_iload_n 20 rfl 1 dX10_steps_19 rfl rfl ?_
        refine mw_icmp_ge 23 rfl 33 dX10_steps_20 (by decide) (fun c134 => ?_) (fun c134 => ?_)
        · skip
          have r_x124 : mh_r x124 (1) (60) := mh_le2 c134 r_p1 r_x124 (1) (by decide)
          refine mw_aload_n 34 rfl 0 dX10_steps_33 rfl rfl ?_
          refine mw_getl 37 rfl dX10_steps_34 gf_X10_361 rfl (fun y135 _ => ?_)
          refine mw_lload_n 38 rfl 2 dX10_steps_37 rfl rfl ?_
          refine mw_lsub 39 rfl dX10_steps_38 (fun y136 t137 => ?_)
          refine mw_l2i 40 rfl dX10_steps_39 (fun x138 t139 => ?_)
          exact mw_iret dX10_steps_40 rfl ⟨x138, rfl, ⟨(mh_r_full x138), (mh_I_mono hI_s125 (by have := (r_p1).1; have := (r_p1).2; have := (r_x124).1; have := (r_x124).2; have := kc_m1; have := kc_0; have := kc_1; skip; omega) (by have := (r_p1).1; have := (r_p1).2; have := (r_x124).1; have := (r_x124).2; have := kc_m1; have := kc_0; have := kc_1; skip; omega)), hF_s125⟩⟩
        · skip
          have r_x124 : mh_r x124 (0) (59) := mh_lt1 c134 r_x124 r_p1 (59) (by decide)
          refine mw_aload_n 24 rfl 0 dX10_steps_23 rfl rfl ?_
          refine mw_callVv [] [] 27 rfl dX10_steps_24 ml_X10_376 mc_X10_stepOne mk_X10_stepOne rfl rfl (by decide) (w_X10_stepOne l G (d + 0) ⟨by have := (r_p1).1; have := (r_p1).2; have := (r_x124).1; have := (r_x124).2; have := kc_m1; have := kc_0; have := kc_1; skip; omega, by have := (r_p1).1; have := (r_p1).2; have := (r_x124).1; have := (r_x124).2; have := kc_m1; have := kc_0; have := kc_1; skip; omega⟩ hI_s125) rfl rfl (Nat.le_of_ble_eq_true rfl) (mh_rok (by omega) (by decide)) (fun s141 q142 => ?_)
          obtain ⟨hI_s141, hG_s141⟩ := q142
          have hF_s141 : mh_F S_X10_steps s0 s141 := mh_F_tl hF_s125 hG_s141 (by decide +kernel)
          refine mw_iincR (k := 3) (1) (60) 30 rfl (fun z => [(4, .int z), (0, .ref (G.2.2.2 57)), (1, .int p1), (2, .long y77)]) dX10_steps_27 rfl (by decide) (fun _ => rfl) r_x124 (by decide) (by decide) (fun x143 t144 r_x143 => ?_)
          refine mw_goto 33 rfl 17 dX10_steps_30 (by decide) ?_
          exact mw_lv [1, 2, 3, 0] rfl (ihn1 x143 s141 (mh_r_wk r_x143 (by decide)) (mh_I_mono hI_s141 (by have := (r_x143).1; have := (r_x143).2; have := (r_p1).1; have := (r_p1).2; have := kc_m1; have := kc_0; have := kc_1; skip; omega) (by have := (r_x143).1; have := (r_x143).2; have := (r_p1).1; have := (r_p1).2; have := kc_m1; have := kc_0; have := kc_1; skip; omega)) hF_s141 (by have : x143.toInt = x124.toInt + (1) := t144; omega))
    exact mw_lv [2, 3, 1, 0] rfl (L17 61 (0) s0 (mh_r_wk rc_0 (by decide)) (mh_I_mono hI0 (by have := (rc_0).1; have := (rc_0).2; have := (r_p1).1; have := (r_p1).2; have := kc_m1; have := kc_0; have := kc_1; skip; omega) (by have := (rc_0).1; have := (rc_0).2; have := (r_p1).1; have := (r_p1).2; have := kc_m1; have := kc_0; have := kc_1; skip; omega)) hF0 (by have := (rc_0).1; have := (rc_0).2; omega))
  · skip
    have r_x73 : mh_r x73 (0) (0) := mh_eq1 (show x73.toInt = (0 : Int32).toInt from c76) r_x73 rc_0 (0) (0) (by decide)
    refine mw_iconst (v := -1) 8 rfl dX10_steps_7 (by decide) ?_
    exact mw_iret dX10_steps_8 rfl ⟨(-1), rfl, ⟨(mh_r_wk rc_m1 (by decide)), (mh_I_mono hI0 (by have := (rc_m1).1; have := (rc_m1).2; have := kc_m1; have := kc_0; have := kc_1; skip; omega) (by have := (rc_m1).1; have := (rc_m1).2; have := kc_m1; have := kc_0; have := kc_1; skip; omega)), hF0⟩⟩

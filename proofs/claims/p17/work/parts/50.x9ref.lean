def S_eX10_seed : List (Nat × Nat) := [(57, 3)]
def f_eX10_seed (s0 : mh_H) (p1 : Int32) : Int32 × mh_H := mh_lb (Int32.toInt64 p1) (fun y9 => mh_lb (f_eX10_lies s0 y9 (0 : Int64) (65535 : Int64)) (fun x11 => if x11.toInt = 0 then ((0 : Int32), s0) else mh_lb (mh_pI s0 57 3 p1) (fun s15 => ((1 : Int32), s15))))
def P_eX10_seed (B D : Int) (s0 : mh_H) (p1 : Int32) : Int32 → mh_H → Prop := fun z s => mh_r z (0) (1) ∧ f_eX10_seed s0 p1 = (z, s) ∧ mh_I B D s ∧ mh_F S_eX10_seed s0 s
set_option maxRecDepth 100000 in
set_option maxHeartbeats 4000000 in
theorem w_eX10_seed (l : Launch) (G : mh_G) (d : Nat) {B D : Int} (hB : B ≤ 1980000000 ∧ D ≤ 1980000000) {s0 : mh_H} (hI0 : mh_I B D s0) (p1 : Int32) : mh_Mi l G (d + 1) mM_X10_seed [.ref (G.2.2.2 57), .int p1] s0 (P_eX10_seed B D s0 p1) := by
  refine mh_enter (lv := [(0, .ref (G.2.2.2 57)), (1, .int p1)]) (by decide) rfl (Nat.le_of_ble_eq_true rfl) ?_
  have hF0 : mh_F S_eX10_seed s0 s0 := mh_F_rf
  refine mw_iload_n 1 rfl 1 dX10_seed_0 rfl rfl ?_
  refine mw_i2l 2 rfl dX10_seed_1 (fun y9 t10 => ?_)
  refine mw_lconst (v := 0) 3 rfl dX10_seed_2 (by decide) ?_
  refine mw_ldc2 6 rfl dX10_seed_3 ck_X10_459 ?_
  refine mw_callSi [.long y9, .long (0), .long (65535)] [] 9 rfl dX10_seed_6 ml_X10_154 mc_X10_lies mk_X10_lies (w_eX10_lies l G (d + 0) ⟨by omega, by omega⟩ hI0 y9 (0) (65535)) rfl rfl (Nat.le_of_ble_eq_true rfl) (mh_rok (by omega) (by decide)) (fun x11 s12 q13 => ?_)
  obtain ⟨r_x11, E_s12, e0_s12, rfl⟩ := q13
  have f_x11 : x11.toInt = 1 ↔ (0 ≤ p1.toInt ∧ p1.toInt ≤ 65535) := by rw [e0_s12]; exact by simp only [t10, Int32.toInt_toInt64]; first | done | exact Iff.rfl
  refine mw_if_ne 12 rfl 14 dX10_seed_9 (by decide) (fun c14 => ?_) (fun c14 => ?_)
  · skip
    have r_p1 : mh_r p1 (0) (65535) := ⟨by have := f_x11.1 (mh_z1 r_x11 c14); have := ((mh_r_full p1)).1; omega, by have := f_x11.1 (mh_z1 r_x11 c14); have := ((mh_r_full p1)).2; omega⟩
    have r_x11 : mh_r x11 (1) (1) := mh_ne1 (show x11.toInt ≠ (0 : Int32).toInt from c14) r_x11 rc_0 (1) (1) (by decide)
    refine mw_aload_n 15 rfl 0 dX10_seed_14 rfl rfl ?_
    refine mw_iload_n 16 rfl 1 dX10_seed_15 rfl rfl ?_
    refine mw_puti 19 rfl dX10_seed_16 pf_X10_13 rfl (fun s15 t16 => ?_)
    have hI_s15 : mh_I B D s15 := by rw [t16]; exact wr_57_3 hI0 r_p1
    have hF_s15 : mh_F S_eX10_seed s0 s15 := by rw [t16]; exact mh_F_pI hF0 (mh_sj 0 rfl)
    refine mw_iconst (v := 1) 20 rfl dX10_seed_19 (by decide) ?_
    exact mw_zret dX10_seed_20 rfl (mh_r_wk rc_1 (by decide)) ⟨(1), rfl, ⟨(mh_r_wk rc_1 (by decide)), (mh_lbT t10 (mh_lbS E_s12 (mh_ifF c14 (mh_lbT t16 rfl)))), hI_s15, hF_s15⟩⟩
  · skip
    have r_x11 : mh_r x11 (0) (0) := mh_eq1 (show x11.toInt = (0 : Int32).toInt from c14) r_x11 rc_0 (0) (0) (by decide)
    refine mw_iconst (v := 0) 13 rfl dX10_seed_12 (by decide) ?_
    exact mw_zret dX10_seed_13 rfl (mh_r_wk rc_0 (by decide)) ⟨(0), rfl, ⟨(mh_r_wk rc_0 (by decide)), (mh_lbT t10 (mh_lbS E_s12 (mh_ifT c14 rfl))), hI0, hF0⟩⟩

def S_eX10_draw : List (Nat × Nat) := [(57, 3), (63, 9999), (57, 33), (57, 34), (57, 35), (57, 36), (57, 37), (78, 9999), (77, 9999), (79, 9999), (80, 9999), (61, 9999), (62, 9999), (82, 9999), (81, 9999), (57, 4), (57, 2)]
def j_eX10_draw_68_2 (lo_17_1 : mh_H → Int32 → Int32 × mh_H) (s655 : mh_H) (x591 : Int32) : Int32 × mh_H := mh_lb (f_eX10_stepOne s655) (fun s662 => mh_lb (x591 + (1 : Int32)) (fun x664 => (lo_17_1 s662 x664)))
def ls_eX10_draw_17_1 (p1 : Int32) (y335 : Int64) (lo_17_1 : mh_H → Int32 → Int32 × mh_H) (s592 : mh_H) (x591 : Int32) : Int32 × mh_H := if x591.toInt < p1.toInt then mh_lb (s592.1 57 3) (fun x632 => mh_lb ((25173 : Int32) * x632) (fun x634 => mh_lb (x634 + (13849 : Int32)) (fun x636 => mh_lb (x636 % (65536 : Int32)) (fun x638 => mh_lb (mh_pI s592 57 3 x638) (fun s641 => mh_lb (s641.1 57 2) (fun x643 => if x643.toInt < (100 : Int32).toInt then mh_lb (x638 % (10 : Int32)) (fun x672 => mh_lb (mh_pI s641 63 x643.toNatClampNeg x672) (fun s675 => (j_eX10_draw_68_2 lo_17_1 s675 x591))) else (j_eX10_draw_68_2 lo_17_1 s641 x591))))))) else mh_lb (s592.2.1 57 4) (fun y626 => mh_lb (y626 - y335) (fun y628 => mh_lb (Int64.toInt32 y628) (fun x630 => (x630, s592))))
def l_eX10_draw_17_1 (p1 : Int32) (y335 : Int64) : Nat → mh_H → Int32 → Int32 × mh_H
  | 0 => fun s592 _ => (0, s592)
  | n + 1 => ls_eX10_draw_17_1 p1 y335 (l_eX10_draw_17_1 p1 y335 n)
theorem l_eX10_draw_17_1_s (p1 : Int32) (y335 : Int64) (n : Nat) : l_eX10_draw_17_1 p1 y335 (n + 1) = ls_eX10_draw_17_1 p1 y335 (l_eX10_draw_17_1 p1 y335 n) := rfl
def f_eX10_draw (s0 : mh_H) (p1 : Int32) : Int32 × mh_H := mh_lb (f_eX10_isNight s0 p1) (fun x331 => if x331.toInt = 0 then ((-1 : Int32), s0) else mh_lb (s0.2.1 57 4) (fun y335 => (l_eX10_draw_17_1 p1 y335 61 s0 (0 : Int32))))
def P_eX10_draw (B D : Int) (s0 : mh_H) (p1 : Int32) : Int32 → mh_H → Prop := fun z s => mh_r z (-2147483648) (2147483647) ∧ f_eX10_draw s0 p1 = (z, s) ∧ mh_I (B + 60) D s ∧ mh_F S_eX10_draw s0 s
set_option maxRecDepth 100000 in
set_option maxHeartbeats 4000000 in
theorem w_eX10_draw (l : Launch) (G : mh_G) (d : Nat) {B D : Int} (hB : B ≤ 1820000000 ∧ D ≤ 1820000000) {s0 : mh_H} (hI0 : mh_I B D s0) (p1 : Int32) : mh_Mi l G (d + 9) mM_X10_draw [.ref (G.2.2.2 57), .int p1] s0 (P_eX10_draw B D s0 p1) := by
  refine mh_enter (lv := [(0, .ref (G.2.2.2 57)), (1, .int p1)]) (by decide) rfl (Nat.le_of_ble_eq_true rfl) ?_
  have hF0 : mh_F S_eX10_draw s0 s0 := mh_F_rf
  refine mw_iload_n 1 rfl 1 dX10_draw_0 rfl rfl ?_
  refine mw_callSi [.int p1] [] 4 rfl dX10_draw_1 ml_X10_373 mc_X10_isNight mk_X10_isNight (w_eX10_isNight l G (d + 7) ⟨by omega, by omega⟩ hI0 p1) rfl rfl (Nat.le_of_ble_eq_true rfl) (mh_rok (by omega) (by decide)) (fun x331 s332 q333 => ?_)
  obtain ⟨r_x331, E_s332, e0_s332, rfl⟩ := q333
  refine mw_if_ne 7 rfl 9 dX10_draw_4 (by decide) (fun c334 => ?_) (fun c334 => ?_)
  · skip
    have r_p1 : mh_r p1 (1) (60) := ⟨by have := e0_s332.1 (mh_z1 r_x331 c334); have := ((mh_r_full p1)).1; omega, by have := e0_s332.1 (mh_z1 r_x331 c334); have := ((mh_r_full p1)).2; omega⟩
    have r_x331 : mh_r x331 (1) (1) := mh_ne1 (show x331.toInt ≠ (0 : Int32).toInt from c334) r_x331 rc_0 (1) (1) (by decide)
    refine mw_aload_n 10 rfl 0 dX10_draw_9 rfl rfl ?_
    refine mw_getl 13 rfl dX10_draw_10 gf_X10_361 rfl (fun y335 t336 => ?_)
    refine mw_lstore_n 14 rfl [(2, .long y335), (0, .ref (G.2.2.2 57)), (1, .int p1)] dX10_draw_13 rfl (by decide) rfl ?_
    refine mw_iconst (v := 0) 15 rfl dX10_draw_14 (by decide) ?_
    refine mw_istore 17 rfl [(4, .int (0)), (2, .long y335), (0, .ref (G.2.2.2 57)), (1, .int p1)] dX10_draw_15  (by decide) rfl ?_
    have L17 : ∀ n1 : Nat, ∀ (x591 : Int32) (s592 : mh_H), mh_r x591 (0) (60) → mh_I (B + x591.toInt) D s592 → mh_F S_eX10_draw s0 s592 → (f_eX10_draw s0 p1 = l_eX10_draw_17_1 p1 y335 n1 s592 x591) → (60) - x591.toInt < (n1 : Int) → mh_W G (mh_XM l G (d + 9) (mh_Qi (P_eX10_draw B D s0 p1))) mM_X10_draw 17 [(0, .ref (G.2.2.2 57)), (1, .int p1), (2, .long y335), (4, .int x591)] [] s592 := by
      intro n1
      induction n1 with
      | zero =>
        intro x591 s592 r_x591 hI_s592 hF_s592 hE1 hmn1
        exact absurd hmn1 (by have := r_x591.1; have := r_x591.2; omega)
      | succ n1 ihn1 =>
        intro x591 s592 r_x591 hI_s592 hF_s592 hE1 hmn1
        rw [l_eX10_draw_17_1_s] at hE1
        refine mw_iload 19 rfl 3 dX10_draw_17  rfl ?_
        refine mw_iload_n 20 rfl 1 dX10_draw_19 rfl rfl ?_
        refine mw_icmp_ge 23 rfl 78 dX10_draw_20 (by decide) (fun c625 => ?_) (fun c625 => ?_)
        · skip
          have r_x591 : mh_r x591 (1) (60) := mh_le2 c625 r_p1 r_x591 (1) (by decide)
          refine mw_aload_n 79 rfl 0 dX10_draw_78 rfl rfl ?_
          refine mw_getl 82 rfl dX10_draw_79 gf_X10_361 rfl (fun y626 t627 => ?_)
          refine mw_lload_n 83 rfl 2 dX10_draw_82 rfl rfl ?_
          refine mw_lsub 84 rfl dX10_draw_83 (fun y628 t629 => ?_)
          refine mw_l2i 85 rfl dX10_draw_84 (fun x630 t631 => ?_)
          exact mw_iret dX10_draw_85 rfl ⟨x630, rfl, ⟨(mh_r_full x630), (Eq.trans hE1 (mh_ifF (Int.not_lt.mpr c625) (mh_lbT t627 (mh_lbT t629 (mh_lbT t631 rfl))))), (mh_I_mono hI_s592 (by have := (r_p1).1; have := (r_p1).2; have := (r_x591).1; have := (r_x591).2; have := kc_m1; have := kc_0; have := kc_1; have := kc_10; have := kc_100; have := kc_13849; have := kc_25173; have := kc_65536; skip; omega) (by have := (r_p1).1; have := (r_p1).2; have := (r_x591).1; have := (r_x591).2; have := kc_m1; have := kc_0; have := kc_1; have := kc_10; have := kc_100; have := kc_13849; have := kc_25173; have := kc_65536; skip; omega)), hF_s592⟩⟩
        · skip
          have r_x591 : mh_r x591 (0) (59) := mh_lt1 c625 r_x591 r_p1 (59) (by decide)
          refine mw_aload_n 24 rfl 0 dX10_draw_23 rfl rfl ?_
          refine mw_sipush (v := 25173) 27 rfl dX10_draw_24 (by decide) ?_
          refine mw_aload_n 28 rfl 0 dX10_draw_27 rfl rfl ?_
          refine mw_geti 31 rfl dX10_draw_28 gf_X10_13 rfl (fun x632 t633 => ?_)
          have r_x632 : mh_r x632 (0) (65535) := by rw [t633]; exact rd_57_3 hI_s592
          refine mw_imul 32 rfl (0) (1649712555) dX10_draw_31 rc_25173 r_x632 (by decide) (fun x634 t635 r_x634 => ?_)
          refine mw_sipush (v := 13849) 35 rfl dX10_draw_32 (by decide) ?_
          refine mw_iadd 36 rfl (13849) (1649726404) dX10_draw_35 r_x634 rc_13849 (by decide) (fun x636 t637 r_x636 => ?_)
          refine mw_ldcw 39 rfl dX10_draw_36 ck_X10_461 ?_
          refine mw_irem 40 rfl (0) (65535) dX10_draw_39 r_x636 rc_65536 (by decide) (fun x638 t639 r_x638 => ?_)
          have g640 : x638.toInt = x636.toInt % 65536 := mh_rme t639 (by have := (r_x636).1; omega) (by decide)
          refine mw_puti 43 rfl dX10_draw_40 pf_X10_13 rfl (fun s641 t642 => ?_)
          have hI_s641 : mh_I (B + x591.toInt) D s641 := by rw [t642]; exact wr_57_3 hI_s592 r_x638
          have hF_s641 : mh_F S_eX10_draw s0 s641 := by rw [t642]; exact mh_F_pI hF_s592 (mh_sj 0 rfl)
          refine mw_aload_n 44 rfl 0 dX10_draw_43 rfl rfl ?_
          refine mw_geti 47 rfl dX10_draw_44 gf_X10_301 rfl (fun x643 t644 => ?_)
          have r_x643 : mh_r x643 (0) (1820001000) := by rw [t644]; exact mh_r_wk (rd_57_2 hI_s641) ⟨by decide, by have := (r_p1).1; have := (r_p1).2; have := (r_x591).1; have := (r_x591).2; have := (r_x632).1; have := (r_x632).2; have := kc_m1; have := kc_0; have := kc_1; have := kc_10; have := kc_100; have := kc_13849; have := kc_25173; have := kc_65536; omega⟩
          refine mw_bipush (v := 100) 49 rfl dX10_draw_47 (by decide) ?_
          have J68 : ∀  (s655 : mh_H), mh_I (B + x591.toInt) D s655 → mh_F S_eX10_draw s0 s655 → (f_eX10_draw s0 p1 = j_eX10_draw_68_2 (l_eX10_draw_17_1 p1 y335 n1) s655 x591) → mh_W G (mh_XM l G (d + 9) (mh_Qi (P_eX10_draw B D s0 p1))) mM_X10_draw 68 [(0, .ref (G.2.2.2 57)), (1, .int p1), (2, .long y335), (4, .int x591)] [] s655 := by
            intro s655 hI_s655 hF_s655 hE2
            refine mw_aload_n 69 rfl 0 dX10_draw_68 rfl rfl ?_
            refine mw_callVv [] [] 72 rfl dX10_draw_69 ml_X10_376 mc_X10_stepOne mk_X10_stepOne rfl rfl (by decide) (w_eX10_stepOne l G (d + 0) ⟨by have := (r_p1).1; have := (r_p1).2; have := (r_x591).1; have := (r_x591).2; have := kc_m1; have := kc_0; have := kc_1; have := kc_10; have := kc_100; have := kc_13849; have := kc_25173; have := kc_65536; skip; omega, by have := (r_p1).1; have := (r_p1).2; have := (r_x591).1; have := (r_x591).2; have := kc_m1; have := kc_0; have := kc_1; have := kc_10; have := kc_100; have := kc_13849; have := kc_25173; have := kc_65536; skip; omega⟩ hI_s655) rfl rfl (Nat.le_of_ble_eq_true rfl) (mh_rok (by omega) (by decide)) (fun s662 q663 => ?_)
            obtain ⟨E_s662, hI_s662, hG_s662⟩ := q663
            have hF_s662 : mh_F S_eX10_draw s0 s662 := mh_F_tl hF_s655 hG_s662 (by decide +kernel)
            refine mw_iincR (k := 3) (1) (60) 75 rfl (fun z => [(4, .int z), (0, .ref (G.2.2.2 57)), (1, .int p1), (2, .long y335)]) dX10_draw_72 rfl (by decide) (fun _ => rfl) r_x591 (by decide) (by decide) (fun x664 t665 r_x664 => ?_)
            refine mw_goto 78 rfl 17 dX10_draw_75 (by decide) ?_
            exact mw_lv [1, 2, 3, 0] rfl (ihn1 x664 s662 (mh_r_wk r_x664 (by decide)) (mh_I_mono hI_s662 (by have := (r_x664).1; have := (r_x664).2; have := (r_p1).1; have := (r_p1).2; have := kc_m1; have := kc_0; have := kc_1; have := kc_10; have := kc_100; have := kc_13849; have := kc_25173; have := kc_65536; skip; omega) (by have := (r_x664).1; have := (r_x664).2; have := (r_p1).1; have := (r_p1).2; have := kc_m1; have := kc_0; have := kc_1; have := kc_10; have := kc_100; have := kc_13849; have := kc_25173; have := kc_65536; skip; omega)) hF_s662 (Eq.trans hE2 (mh_lbS E_s662 (mh_lbT (mh_einc t665 rfl) rfl))) (by have : x664.toInt = x591.toInt + (1) := t665; omega))
          refine mw_icmp_ge 52 rfl 68 dX10_draw_49 (by decide) (fun c666 => ?_) (fun c666 => ?_)
          · skip
            have r_x643 : mh_r x643 (100) (1820001000) := mh_le2 c666 rc_100 r_x643 (100) (by decide)
            exact mw_lv [0, 1, 2, 3] rfl (J68 s641 hI_s641 hF_s641 (Eq.trans hE1 (mh_ifT c625 (mh_lbT t633 (mh_lbT (mh_emul t635) (mh_lbT (mh_eadd t637) (mh_lbT (mh_erem t639) (mh_lbT t642 (mh_lbT t644 (mh_ifF (Int.not_lt.mpr c666) rfl))))))))))
          · skip
            have r_x643 : mh_r x643 (0) (99) := mh_lt1 c666 r_x643 rc_100 (99) (by decide)
            refine mw_aload_n 53 rfl 0 dX10_draw_52 rfl rfl ?_
            refine mw_geta 56 rfl dX10_draw_53 gf_X10_30 rfl 63 (mh_rf hI_s641 60 rfl) ?_
            refine mw_aload_n 57 rfl 0 dX10_draw_56 rfl rfl ?_
            refine mw_geti 60 rfl dX10_draw_57 gf_X10_301 rfl (fun x667 t668 => ?_)
            obtain rfl : x643 = x667 := t644.trans t668.symm
            refine mw_aload_n 61 rfl 0 dX10_draw_60 rfl rfl ?_
            refine mw_geti 64 rfl dX10_draw_61 gf_X10_13 rfl (fun x669 t670 => ?_)
            have t671 : x638 = s641.1 57 3 := by rw [t642]; exact mh_pI_s.symm
            obtain rfl : x638 = x669 := t671.trans t670.symm
            refine mw_bipush (v := 10) 66 rfl dX10_draw_64 (by decide) ?_
            refine mw_irem 67 rfl (0) (9) dX10_draw_66 r_x638 rc_10 (by decide) (fun x672 t673 r_x672 => ?_)
            have g674 : x672.toInt = x638.toInt % 10 := mh_rme t673 (by have := (r_x638).1; omega) (by decide)
            refine mw_iast 68 rfl dX10_draw_67 rfl r_x643 (by decide) (fun s675 t676 => ?_)
            have hI_s675 : mh_I (B + x591.toInt) D s675 := by rw [t676]; exact wr_63 hI_s641
            have hF_s675 : mh_F S_eX10_draw s0 s675 := by rw [t676]; exact mh_F_pI hF_s641 (mh_si 1 rfl)
            exact mw_lv [0, 1, 2, 3] rfl (J68 s675 hI_s675 hF_s675 (Eq.trans hE1 (mh_ifT c625 (mh_lbT t633 (mh_lbT (mh_emul t635) (mh_lbT (mh_eadd t637) (mh_lbT (mh_erem t639) (mh_lbT t642 (mh_lbT t644 (mh_ifT c666 (mh_lbT (mh_erem t673) (mh_lbT t676 rfl))))))))))))
    exact mw_lv [2, 3, 1, 0] rfl (L17 61 (0) s0 (mh_r_wk rc_0 (by decide)) (mh_I_mono hI0 (by have := (rc_0).1; have := (rc_0).2; have := (r_p1).1; have := (r_p1).2; have := kc_m1; have := kc_0; have := kc_1; have := kc_10; have := kc_100; have := kc_13849; have := kc_25173; have := kc_65536; skip; omega) (by have := (rc_0).1; have := (rc_0).2; have := (r_p1).1; have := (r_p1).2; have := kc_m1; have := kc_0; have := kc_1; have := kc_10; have := kc_100; have := kc_13849; have := kc_25173; have := kc_65536; skip; omega)) hF0 (mh_lbS E_s332 (mh_ifF c334 (mh_lbT t336 rfl))) (by have := (rc_0).1; have := (rc_0).2; omega))
  · skip
    have r_x331 : mh_r x331 (0) (0) := mh_eq1 (show x331.toInt = (0 : Int32).toInt from c334) r_x331 rc_0 (0) (0) (by decide)
    refine mw_iconst (v := -1) 8 rfl dX10_draw_7 (by decide) ?_
    exact mw_iret dX10_draw_8 rfl ⟨(-1), rfl, ⟨(mh_r_wk rc_m1 (by decide)), (mh_lbS E_s332 (mh_ifT c334 rfl)), (mh_I_mono hI0 (by have := (rc_m1).1; have := (rc_m1).2; have := kc_m1; have := kc_0; have := kc_1; have := kc_10; have := kc_100; have := kc_13849; have := kc_25173; have := kc_65536; skip; omega) (by have := (rc_m1).1; have := (rc_m1).2; have := kc_m1; have := kc_0; have := kc_1; have := kc_10; have := kc_100; have := kc_13849; have := kc_25173; have := kc_65536; skip; omega)), hF0⟩⟩

def S_eX10_keep : List (Nat × Nat) := [(57, 64), (83, 9999), (84, 9999), (85, 9999), (86, 9999), (87, 9999), (88, 9999), (57, 65), (102, 9999)]
def ls_eX10_keep_20_1 (lo_20_1 : mh_H → Int32 → Int32 × mh_H) (s180 : mh_H) (x179 : Int32) : Int32 × mh_H := if x179.toInt < (100 : Int32).toInt then mh_lb (s180.1 63 x179.toNatClampNeg) (fun x193 => mh_lb (mh_pI s180 102 x179.toNatClampNeg x193) (fun s195 => mh_lb (x179 + (1 : Int32)) (fun x197 => (lo_20_1 s195 x197)))) else mh_lb (s180.1 57 2) (fun x191 => (x191, s180))
def l_eX10_keep_20_1 : Nat → mh_H → Int32 → Int32 × mh_H
  | 0 => fun s180 _ => (0, s180)
  | n + 1 => ls_eX10_keep_20_1 (l_eX10_keep_20_1 n)
theorem l_eX10_keep_20_1_s (n : Nat) : l_eX10_keep_20_1 (n + 1) = ls_eX10_keep_20_1 (l_eX10_keep_20_1 n) := rfl
def f_eX10_keep (s0 : mh_H) : Int32 × mh_H := mh_lb (mh_pI s0 57 64 (1 : Int32)) (fun s100 => mh_lb (f_eX10_setsAside s100 (1 : Int32)) (fun s103 => mh_lb (s103.1 57 3) (fun x105 => mh_lb (mh_pI s103 57 65 x105) (fun s107 => (l_eX10_keep_20_1 101 s107 (0 : Int32))))))
def P_eX10_keep (B D : Int) (s0 : mh_H) : Int32 → mh_H → Prop := fun z s => mh_r z (0) (1980000000) ∧ f_eX10_keep s0 = (z, s) ∧ mh_I B B s ∧ mh_F S_eX10_keep s0 s
set_option maxRecDepth 100000 in
set_option maxHeartbeats 4000000 in
theorem w_eX10_keep (l : Launch) (G : mh_G) (d : Nat) {B D : Int} (hB : B ≤ 1980000000 ∧ D ≤ 1980000000) {s0 : mh_H} (hI0 : mh_I B B s0) : mh_Mi l G (d + 1) mM_X10_keep [.ref (G.2.2.2 57)] s0 (P_eX10_keep B D s0) := by
  refine mh_enter (lv := [(0, .ref (G.2.2.2 57))]) (by decide) rfl (Nat.le_of_ble_eq_true rfl) ?_
  have hF0 : mh_F S_eX10_keep s0 s0 := mh_F_rf
  refine mw_aload_n 1 rfl 0 dX10_keep_0 rfl rfl ?_
  refine mw_iconst (v := 1) 2 rfl dX10_keep_1 (by decide) ?_
  refine mw_putz 5 rfl dX10_keep_2 pf_X10_462 rfl (mh_r_wk rc_1 (by decide)) (fun s100 t101 => ?_)
  have hI_s100 : mh_I B B s100 := by rw [t101]; exact wr_57_64 hI0 (mh_r_wk rc_1 (by decide))
  have hF_s100 : mh_F S_eX10_keep s0 s100 := by rw [t101]; exact mh_F_pI hF0 (mh_sj 0 rfl)
  refine mw_aload_n 6 rfl 0 dX10_keep_5 rfl rfl ?_
  refine mw_iconst (v := 1) 7 rfl dX10_keep_6 (by decide) ?_
  refine mw_callVv [.int (1)] [] 10 rfl dX10_keep_7 ml_X10_388 mc_X10_setsAside mk_X10_setsAside rfl rfl (by decide) (w_eX10_setsAside l G (d + 0) ⟨by have := kc_0; have := kc_1; have := kc_100; skip; omega, by have := kc_0; have := kc_1; have := kc_100; skip; omega⟩ hI_s100 (1) (mh_r_wk rc_1 (by decide)) (by omega)) rfl rfl (Nat.le_of_ble_eq_true rfl) (mh_rok (by omega) (by decide)) (fun s103 q104 => ?_)
  obtain ⟨E_s103, hI_s103, hG_s103⟩ := q104
  have hF_s103 : mh_F S_eX10_keep s0 s103 := mh_F_tl hF_s100 hG_s103 (by decide +kernel)
  refine mw_aload_n 11 rfl 0 dX10_keep_10 rfl rfl ?_
  refine mw_aload_n 12 rfl 0 dX10_keep_11 rfl rfl ?_
  refine mw_geti 15 rfl dX10_keep_12 gf_X10_13 rfl (fun x105 t106 => ?_)
  have r_x105 : mh_r x105 (0) (65535) := by rw [t106]; exact rd_57_3 hI_s103
  refine mw_puti 18 rfl dX10_keep_15 pf_X10_465 rfl (fun s107 t108 => ?_)
  have hI_s107 : mh_I B B s107 := by rw [t108]; exact wr_57_65 hI_s103 r_x105
  have hF_s107 : mh_F S_eX10_keep s0 s107 := by rw [t108]; exact mh_F_pI hF_s103 (mh_sj 7 rfl)
  refine mw_iconst (v := 0) 19 rfl dX10_keep_18 (by decide) ?_
  refine mw_istore_n 20 rfl [(1, .int (0)), (0, .ref (G.2.2.2 57))] dX10_keep_19 rfl (by decide) rfl ?_
  have L20 : ∀ n1 : Nat, ∀ (x179 : Int32) (s180 : mh_H), mh_r x179 (0) (100) → mh_I B B s180 → mh_F S_eX10_keep s0 s180 → (f_eX10_keep s0 = l_eX10_keep_20_1 n1 s180 x179) → (100) - x179.toInt < (n1 : Int) → mh_W G (mh_XM l G (d + 1) (mh_Qi (P_eX10_keep B D s0))) mM_X10_keep 20 [(0, .ref (G.2.2.2 57)), (1, .int x179)] [] s180 := by
    intro n1
    induction n1 with
    | zero =>
      intro x179 s180 r_x179 hI_s180 hF_s180 hE1 hmn1
      exact absurd hmn1 (by have := r_x179.1; have := r_x179.2; omega)
    | succ n1 ihn1 =>
      intro x179 s180 r_x179 hI_s180 hF_s180 hE1 hmn1
      rw [l_eX10_keep_20_1_s] at hE1
      refine mw_iload_n 21 rfl 1 dX10_keep_20 rfl rfl ?_
      refine mw_bipush (v := 100) 23 rfl dX10_keep_21 (by decide) ?_
      refine mw_icmp_ge 26 rfl 44 dX10_keep_23 (by decide) (fun c190 => ?_) (fun c190 => ?_)
      · skip
        have r_x179 : mh_r x179 (100) (100) := mh_le2 c190 rc_100 r_x179 (100) (by decide)
        refine mw_aload_n 45 rfl 0 dX10_keep_44 rfl rfl ?_
        refine mw_geti 48 rfl dX10_keep_45 gf_X10_301 rfl (fun x191 t192 => ?_)
        have r_x191 : mh_r x191 (0) (1980000000) := by rw [t192]; exact mh_r_wk (rd_57_2 hI_s180) ⟨by decide, by skip; omega⟩
        exact mw_iret dX10_keep_48 rfl ⟨x191, rfl, ⟨r_x191, (Eq.trans hE1 (mh_ifF (Int.not_lt.mpr c190) (mh_lbT t192 rfl))), hI_s180, hF_s180⟩⟩
      · skip
        have r_x179 : mh_r x179 (0) (99) := mh_lt1 c190 r_x179 rc_100 (99) (by decide)
        refine mw_aload_n 27 rfl 0 dX10_keep_26 rfl rfl ?_
        refine mw_geta 30 rfl dX10_keep_27 gf_X10_149 rfl 102 (mh_rf hI_s180 99 rfl) ?_
        refine mw_iload_n 31 rfl 1 dX10_keep_30 rfl rfl ?_
        refine mw_aload_n 32 rfl 0 dX10_keep_31 rfl rfl ?_
        refine mw_geta 35 rfl dX10_keep_32 gf_X10_30 rfl 63 (mh_rf hI_s180 60 rfl) ?_
        refine mw_iload_n 36 rfl 1 dX10_keep_35 rfl rfl ?_
        refine mw_iald 37 rfl dX10_keep_36 rfl r_x179 (by decide) (fun x193 t194 => ?_)
        refine mw_iast 38 rfl dX10_keep_37 rfl r_x179 (by decide) (fun s195 t196 => ?_)
        have hI_s195 : mh_I B B s195 := by rw [t196]; exact wr_102 hI_s180
        have hF_s195 : mh_F S_eX10_keep s0 s195 := by rw [t196]; exact mh_F_pI hF_s180 (mh_si 8 rfl)
        refine mw_iincR (k := 1) (1) (100) 41 rfl (fun z => [(1, .int z), (0, .ref (G.2.2.2 57))]) dX10_keep_38 rfl (by decide) (fun _ => rfl) r_x179 (by decide) (by decide) (fun x197 t198 r_x197 => ?_)
        refine mw_goto 44 rfl 20 dX10_keep_41 (by decide) ?_
        exact mw_lv [1, 0] rfl (ihn1 x197 s195 (mh_r_wk r_x197 (by decide)) hI_s195 hF_s195 (Eq.trans hE1 (mh_ifT c190 (mh_lbT t194 (mh_lbT t196 (mh_lbT (mh_einc t198 rfl) rfl))))) (by have : x197.toInt = x179.toInt + (1) := t198; omega))
  exact mw_lv [1, 0] rfl (L20 101 (0) s107 (mh_r_wk rc_0 (by decide)) hI_s107 hF_s107 (mh_lbT t101 (mh_lbS E_s103 (mh_lbT t106 (mh_lbT t108 rfl)))) (by have := (rc_0).1; have := (rc_0).2; omega))

def S_eX10_undo : List (Nat × Nat) := [(61, 9999), (62, 9999), (59, 9999), (60, 9999), (57, 2), (57, 4), (57, 3), (63, 9999)]
def ls_eX10_undo_24_1 (lo_24_1 : mh_H → Int32 → Int32 × mh_H) (s180 : mh_H) (x179 : Int32) : Int32 × mh_H := if x179.toInt < (100 : Int32).toInt then mh_lb (s180.1 102 x179.toNatClampNeg) (fun x191 => mh_lb (mh_pI s180 63 x179.toNatClampNeg x191) (fun s193 => mh_lb (x179 + (1 : Int32)) (fun x195 => (lo_24_1 s193 x195)))) else ((1 : Int32), s180)
def l_eX10_undo_24_1 : Nat → mh_H → Int32 → Int32 × mh_H
  | 0 => fun s180 _ => (0, s180)
  | n + 1 => ls_eX10_undo_24_1 (l_eX10_undo_24_1 n)
theorem l_eX10_undo_24_1_s (n : Nat) : l_eX10_undo_24_1 (n + 1) = ls_eX10_undo_24_1 (l_eX10_undo_24_1 n) := rfl
def f_eX10_undo (s0 : mh_H) : Int32 × mh_H := mh_lb (s0.1 57 64) (fun x99 => if x99.toInt = 0 then ((0 : Int32), s0) else mh_lb (f_eX10_putsBack s0 (1 : Int32)) (fun s103 => mh_lb (s103.1 57 65) (fun x105 => mh_lb (mh_pI s103 57 3 x105) (fun s107 => (l_eX10_undo_24_1 101 s107 (0 : Int32))))))
def P_eX10_undo (B D : Int) (s0 : mh_H) : Int32 → mh_H → Prop := fun z s => mh_r z (0) (1) ∧ f_eX10_undo s0 = (z, s) ∧ mh_I B B s ∧ mh_F S_eX10_undo s0 s
set_option maxRecDepth 100000 in
set_option maxHeartbeats 4000000 in
theorem w_eX10_undo (l : Launch) (G : mh_G) (d : Nat) {B D : Int} (hB : B ≤ 1980000000 ∧ D ≤ 1980000000) {s0 : mh_H} (hI0 : mh_I B B s0) : mh_Mi l G (d + 1) mM_X10_undo [.ref (G.2.2.2 57)] s0 (P_eX10_undo B D s0) := by
  refine mh_enter (lv := [(0, .ref (G.2.2.2 57))]) (by decide) rfl (Nat.le_of_ble_eq_true rfl) ?_
  have hF0 : mh_F S_eX10_undo s0 s0 := mh_F_rf
  refine mw_aload_n 1 rfl 0 dX10_undo_0 rfl rfl ?_
  refine mw_geti 4 rfl dX10_undo_1 gf_X10_462 rfl (fun x99 t100 => ?_)
  have r_x99 : mh_r x99 (0) (1) := by rw [t100]; exact rd_57_64 hI0
  refine mw_if_ne 7 rfl 9 dX10_undo_4 (by decide) (fun c101 => ?_) (fun c101 => ?_)
  · skip
    have r_x99 : mh_r x99 (1) (1) := mh_ne1 (show x99.toInt ≠ (0 : Int32).toInt from c101) r_x99 rc_0 (1) (1) (by decide)
    refine mw_aload_n 10 rfl 0 dX10_undo_9 rfl rfl ?_
    refine mw_iconst (v := 1) 11 rfl dX10_undo_10 (by decide) ?_
    refine mw_callVv [.int (1)] [] 14 rfl dX10_undo_11 ml_X10_394 mc_X10_putsBack mk_X10_putsBack rfl rfl (by decide) (w_eX10_putsBack l G (d + 0) ⟨by have := (r_x99).1; have := (r_x99).2; have := kc_0; have := kc_1; have := kc_100; skip; omega, by have := (r_x99).1; have := (r_x99).2; have := kc_0; have := kc_1; have := kc_100; skip; omega⟩ hI0 (1) (mh_r_wk rc_1 (by decide))) rfl rfl (Nat.le_of_ble_eq_true rfl) (mh_rok (by omega) (by decide)) (fun s103 q104 => ?_)
    obtain ⟨E_s103, hI_s103, hG_s103⟩ := q104
    have hF_s103 : mh_F S_eX10_undo s0 s103 := mh_F_tl hF0 hG_s103 (by decide +kernel)
    refine mw_aload_n 15 rfl 0 dX10_undo_14 rfl rfl ?_
    refine mw_aload_n 16 rfl 0 dX10_undo_15 rfl rfl ?_
    refine mw_geti 19 rfl dX10_undo_16 gf_X10_465 rfl (fun x105 t106 => ?_)
    have r_x105 : mh_r x105 (0) (65535) := by rw [t106]; exact rd_57_65 hI_s103
    refine mw_puti 22 rfl dX10_undo_19 pf_X10_13 rfl (fun s107 t108 => ?_)
    have hI_s107 : mh_I B B s107 := by rw [t108]; exact wr_57_3 hI_s103 r_x105
    have hF_s107 : mh_F S_eX10_undo s0 s107 := by rw [t108]; exact mh_F_pI hF_s103 (mh_sj 6 rfl)
    refine mw_iconst (v := 0) 23 rfl dX10_undo_22 (by decide) ?_
    refine mw_istore_n 24 rfl [(1, .int (0)), (0, .ref (G.2.2.2 57))] dX10_undo_23 rfl (by decide) rfl ?_
    have L24 : ∀ n1 : Nat, ∀ (x179 : Int32) (s180 : mh_H), mh_r x179 (0) (100) → mh_I B B s180 → mh_F S_eX10_undo s0 s180 → (f_eX10_undo s0 = l_eX10_undo_24_1 n1 s180 x179) → (100) - x179.toInt < (n1 : Int) → mh_W G (mh_XM l G (d + 1) (mh_Qi (P_eX10_undo B D s0))) mM_X10_undo 24 [(0, .ref (G.2.2.2 57)), (1, .int x179)] [] s180 := by
      intro n1
      induction n1 with
      | zero =>
        intro x179 s180 r_x179 hI_s180 hF_s180 hE1 hmn1
        exact absurd hmn1 (by have := r_x179.1; have := r_x179.2; omega)
      | succ n1 ihn1 =>
        intro x179 s180 r_x179 hI_s180 hF_s180 hE1 hmn1
        rw [l_eX10_undo_24_1_s] at hE1
        refine mw_iload_n 25 rfl 1 dX10_undo_24 rfl rfl ?_
        refine mw_bipush (v := 100) 27 rfl dX10_undo_25 (by decide) ?_
        refine mw_icmp_ge 30 rfl 48 dX10_undo_27 (by decide) (fun c190 => ?_) (fun c190 => ?_)
        · skip
          have r_x179 : mh_r x179 (100) (100) := mh_le2 c190 rc_100 r_x179 (100) (by decide)
          refine mw_iconst (v := 1) 49 rfl dX10_undo_48 (by decide) ?_
          exact mw_zret dX10_undo_49 rfl (mh_r_wk rc_1 (by decide)) ⟨(1), rfl, ⟨(mh_r_wk rc_1 (by decide)), (Eq.trans hE1 (mh_ifF (Int.not_lt.mpr c190) rfl)), hI_s180, hF_s180⟩⟩
        · skip
          have r_x179 : mh_r x179 (0) (99) := mh_lt1 c190 r_x179 rc_100 (99) (by decide)
          refine mw_aload_n 31 rfl 0 dX10_undo_30 rfl rfl ?_
          refine mw_geta 34 rfl dX10_undo_31 gf_X10_30 rfl 63 (mh_rf hI_s180 60 rfl) ?_
          refine mw_iload_n 35 rfl 1 dX10_undo_34 rfl rfl ?_
          refine mw_aload_n 36 rfl 0 dX10_undo_35 rfl rfl ?_
          refine mw_geta 39 rfl dX10_undo_36 gf_X10_149 rfl 102 (mh_rf hI_s180 99 rfl) ?_
          refine mw_iload_n 40 rfl 1 dX10_undo_39 rfl rfl ?_
          refine mw_iald 41 rfl dX10_undo_40 rfl r_x179 (by decide) (fun x191 t192 => ?_)
          refine mw_iast 42 rfl dX10_undo_41 rfl r_x179 (by decide) (fun s193 t194 => ?_)
          have hI_s193 : mh_I B B s193 := by rw [t194]; exact wr_63 hI_s180
          have hF_s193 : mh_F S_eX10_undo s0 s193 := by rw [t194]; exact mh_F_pI hF_s180 (mh_si 7 rfl)
          refine mw_iincR (k := 1) (1) (100) 45 rfl (fun z => [(1, .int z), (0, .ref (G.2.2.2 57))]) dX10_undo_42 rfl (by decide) (fun _ => rfl) r_x179 (by decide) (by decide) (fun x195 t196 r_x195 => ?_)
          refine mw_goto 48 rfl 24 dX10_undo_45 (by decide) ?_
          exact mw_lv [1, 0] rfl (ihn1 x195 s193 (mh_r_wk r_x195 (by decide)) hI_s193 hF_s193 (Eq.trans hE1 (mh_ifT c190 (mh_lbT t192 (mh_lbT t194 (mh_lbT (mh_einc t196 rfl) rfl))))) (by have : x195.toInt = x179.toInt + (1) := t196; omega))
    exact mw_lv [1, 0] rfl (L24 101 (0) s107 (mh_r_wk rc_0 (by decide)) hI_s107 hF_s107 (mh_lbT t100 (mh_ifF c101 (mh_lbS E_s103 (mh_lbT t106 (mh_lbT t108 rfl))))) (by have := (rc_0).1; have := (rc_0).2; omega))
  · skip
    have r_x99 : mh_r x99 (0) (0) := mh_eq1 (show x99.toInt = (0 : Int32).toInt from c101) r_x99 rc_0 (0) (0) (by decide)
    refine mw_iconst (v := 0) 8 rfl dX10_undo_7 (by decide) ?_
    exact mw_zret dX10_undo_8 rfl (mh_r_wk rc_0 (by decide)) ⟨(0), rfl, ⟨(mh_r_wk rc_0 (by decide)), (mh_lbT t100 (mh_ifT c101 rfl)), hI0, hF0⟩⟩

def ls_eX10_numberAt_4_1 (s0 : mh_H) (p1 : Int32) (lo_4_1 : Int32 → Int32 → Int32) (x167 : Int32) (x168 : Int32) : Int32 := if x167.toInt < (4 : Int32).toInt then mh_lb (x168 <<< ((8 : Int32) &&& 31)) (fun x187 => mh_lb ((4 : Int32) * p1) (fun x189 => mh_lb (x189 + x167) (fun x191 => mh_lb (s0.1 58 x191.toNatClampNeg) (fun x193 => mh_lb (x193 &&& (255 : Int32)) (fun x195 => mh_lb (x187 ||| x195) (fun x197 => mh_lb (x167 + (1 : Int32)) (fun x199 => (lo_4_1 x199 x197)))))))) else x168
def l_eX10_numberAt_4_1 (s0 : mh_H) (p1 : Int32) : Nat → Int32 → Int32 → Int32
  | 0 => fun _ _ => 0
  | n + 1 => ls_eX10_numberAt_4_1 s0 p1 (l_eX10_numberAt_4_1 s0 p1 n)
theorem l_eX10_numberAt_4_1_s (s0 : mh_H) (p1 : Int32) (n : Nat) : l_eX10_numberAt_4_1 s0 p1 (n + 1) = ls_eX10_numberAt_4_1 s0 p1 (l_eX10_numberAt_4_1 s0 p1 n) := rfl
def f_eX10_numberAt (s0 : mh_H) (p1 : Int32) : Int32 := (l_eX10_numberAt_4_1 s0 p1 5 (0 : Int32) (0 : Int32))
def P_eX10_numberAt (B D : Int) (s0 : mh_H) (p1 : Int32) : Int32 → mh_H → Prop := fun z s => mh_r z (-2147483648) (2147483647) ∧ f_eX10_numberAt s0 p1 = z ∧ s0 = s
set_option maxRecDepth 100000 in
set_option maxHeartbeats 4000000 in
theorem w_eX10_numberAt (l : Launch) (G : mh_G) (d : Nat) {B D : Int} (hB : B ≤ 2000000000 ∧ D ≤ 2000000000) {s0 : mh_H} (hI0 : mh_I B D s0) (p1 : Int32) (r_p1 : mh_r p1 (0) (54)) : mh_Mi l G (d + 0) mM_X10_numberAt [.ref (G.2.2.2 57), .int p1] s0 (P_eX10_numberAt B D s0 p1) := by
  refine mh_enter (lv := [(0, .ref (G.2.2.2 57)), (1, .int p1)]) (by decide) rfl (Nat.le_of_ble_eq_true rfl) ?_
  refine mw_iconst (v := 0) 1 rfl dX10_numberAt_0 (by decide) ?_
  refine mw_istore_n 2 rfl [(2, .int (0)), (0, .ref (G.2.2.2 57)), (1, .int p1)] dX10_numberAt_1 rfl (by decide) rfl ?_
  refine mw_iconst (v := 0) 3 rfl dX10_numberAt_2 (by decide) ?_
  refine mw_istore_n 4 rfl [(3, .int (0)), (2, .int (0)), (0, .ref (G.2.2.2 57)), (1, .int p1)] dX10_numberAt_3 rfl (by decide) rfl ?_
  have L4 : ∀ n1 : Nat, ∀ (x167 : Int32) (x168 : Int32), mh_r x167 (0) (4) → (f_eX10_numberAt s0 p1 = l_eX10_numberAt_4_1 s0 p1 n1 x167 x168) → (4) - x167.toInt < (n1 : Int) → mh_W G (mh_XM l G (d + 0) (mh_Qi (P_eX10_numberAt B D s0 p1))) mM_X10_numberAt 4 [(0, .ref (G.2.2.2 57)), (1, .int p1), (2, .int x168), (3, .int x167)] [] s0 := by
    intro n1
    induction n1 with
    | zero =>
      intro x167 x168 r_x167 hE1 hmn1
      exact absurd hmn1 (by have := r_x167.1; have := r_x167.2; omega)
    | succ n1 ihn1 =>
      intro x167 x168 r_x167 hE1 hmn1
      rw [l_eX10_numberAt_4_1_s] at hE1
      refine mw_iload_n 5 rfl 3 dX10_numberAt_4 rfl rfl ?_
      refine mw_iconst (v := 4) 6 rfl dX10_numberAt_5 (by decide) ?_
      refine mw_icmp_ge 9 rfl 35 dX10_numberAt_6 (by decide) (fun c186 => ?_) (fun c186 => ?_)
      · skip
        have r_x167 : mh_r x167 (4) (4) := mh_le2 c186 rc_4 r_x167 (4) (by decide)
        refine mw_iload_n 36 rfl 2 dX10_numberAt_35 rfl rfl ?_
        exact mw_iret dX10_numberAt_36 rfl ⟨x168, rfl, ⟨(mh_r_full x168), (Eq.trans hE1 (mh_ifF (Int.not_lt.mpr c186) rfl)), rfl⟩⟩
      · skip
        have r_x167 : mh_r x167 (0) (3) := mh_lt1 c186 r_x167 rc_4 (3) (by decide)
        refine mw_iload_n 10 rfl 2 dX10_numberAt_9 rfl rfl ?_
        refine mw_bipush (v := 8) 12 rfl dX10_numberAt_10 (by decide) ?_
        refine mw_ishl_u 13 rfl dX10_numberAt_12 (fun x187 t188 => ?_)
        refine mw_aload_n 14 rfl 0 dX10_numberAt_13 rfl rfl ?_
        refine mw_geta 17 rfl dX10_numberAt_14 gf_X10_7 rfl 58 (mh_rf hI0 55 rfl) ?_
        refine mw_iconst (v := 4) 18 rfl dX10_numberAt_17 (by decide) ?_
        refine mw_iload_n 19 rfl 1 dX10_numberAt_18 rfl rfl ?_
        refine mw_imul 20 rfl (0) (216) dX10_numberAt_19 rc_4 r_p1 (by decide) (fun x189 t190 r_x189 => ?_)
        refine mw_iload_n 21 rfl 3 dX10_numberAt_20 rfl rfl ?_
        refine mw_iadd 22 rfl (0) (219) dX10_numberAt_21 r_x189 r_x167 (by decide) (fun x191 t192 r_x191 => ?_)
        refine mw_bald 23 rfl dX10_numberAt_22 rfl r_x191 (by decide) (fun x193 t194 => ?_)
        have r_x193 : mh_r x193 (-128) (127) := by rw [t194]; exact rd_58 hI0 _
        refine mw_sipush (v := 255) 26 rfl dX10_numberAt_23 (by decide) ?_
        refine mw_iand_u 27 rfl dX10_numberAt_26 (fun x195 t196 => ?_)
        have r_x195 : mh_r x195 0 255 := by rw [t196]; exact mh_and255
        refine mw_ior_u 28 rfl dX10_numberAt_27 (fun x197 t198 => ?_)
        refine mw_istore_n 29 rfl [(2, .int x197), (0, .ref (G.2.2.2 57)), (1, .int p1), (3, .int x167)] dX10_numberAt_28 rfl (by decide) rfl ?_
        refine mw_iincR (k := 3) (1) (4) 32 rfl (fun z => [(3, .int z), (2, .int x197), (0, .ref (G.2.2.2 57)), (1, .int p1)]) dX10_numberAt_29 rfl (by decide) (fun _ => rfl) r_x167 (by decide) (by decide) (fun x199 t200 r_x199 => ?_)
        refine mw_goto 35 rfl 4 dX10_numberAt_32 (by decide) ?_
        exact mw_lv [2, 3, 1, 0] rfl (ihn1 x199 x197 (mh_r_wk r_x199 (by decide)) (Eq.trans hE1 (mh_ifT c186 (mh_lbT t188 (mh_lbT (mh_emul t190) (mh_lbT (mh_eadd t192) (mh_lbT t194 (mh_lbT t196 (mh_lbT t198 (mh_lbT (mh_einc t200 rfl) rfl))))))))) (by have : x199.toInt = x167.toInt + (1) := t200; omega))
  exact mw_lv [2, 3, 1, 0] rfl (L4 5 (0) (0) (mh_r_wk rc_0 (by decide)) (rfl) (by have := (rc_0).1; have := (rc_0).2; omega))

def S_eX10_check : List (Nat × Nat) := [(57, 1)]
def ls_eX10_check_39_1 (s151 : mh_H) (p1 : Int32) (p2 : Int32) (lo_39_1 : Int32 → Int32 × mh_H) (x243 : Int32) : Int32 × mh_H := if x243.toInt < p2.toInt then mh_lb (f_eX10_numberAt s151 x243) (fun x258 => mh_lb (f_eX10_cellAt s151 x243 p1) (fun x261 => mh_lb (s151.1 61 x261.toNatClampNeg) (fun x264 => if x258.toInt = x264.toInt then mh_lb (x243 + (1 : Int32)) (fun x267 => (lo_39_1 x267)) else (x243, s151)))) else ((-1 : Int32), s151)
def l_eX10_check_39_1 (s151 : mh_H) (p1 : Int32) (p2 : Int32) : Nat → Int32 → Int32 × mh_H
  | 0 => fun _ => (0, s151)
  | n + 1 => ls_eX10_check_39_1 s151 p1 p2 (l_eX10_check_39_1 s151 p1 p2 n)
theorem l_eX10_check_39_1_s (s151 : mh_H) (p1 : Int32) (p2 : Int32) (n : Nat) : l_eX10_check_39_1 s151 p1 p2 (n + 1) = ls_eX10_check_39_1 s151 p1 p2 (l_eX10_check_39_1 s151 p1 p2 n) := rfl
def f_eX10_check (s0 : mh_H) (p1 : Int32) (p2 : Int32) : Int32 × mh_H := mh_lb (f_eX10_isSide s0 p1) (fun x135 => if x135.toInt = 0 then ((-2 : Int32), s0) else mh_lb (Int32.toInt64 p2) (fun y139 => mh_lb (f_eX10_lies s0 y139 (0 : Int64) (12 : Int64)) (fun x141 => if x141.toInt = 0 then ((-2 : Int32), s0) else mh_lb (s0.1 57 1) (fun x145 => mh_lb (x145 / (4 : Int32)) (fun x147 => if x147.toInt < p2.toInt then ((-2 : Int32), s0) else mh_lb (mh_pI s0 57 1 (0 : Int32)) (fun s151 => (l_eX10_check_39_1 s151 p1 p2 15 (0 : Int32))))))))
def P_eX10_check (B D : Int) (s0 : mh_H) (p1 : Int32) (p2 : Int32) : Int32 → mh_H → Prop := fun z s => mh_r z (-2) (11) ∧ f_eX10_check s0 p1 p2 = (z, s) ∧ mh_I B D s ∧ mh_F S_eX10_check s0 s
set_option maxRecDepth 100000 in
set_option maxHeartbeats 4000000 in
theorem w_eX10_check (l : Launch) (G : mh_G) (d : Nat) {B D : Int} (hB : B ≤ 1960000000 ∧ D ≤ 1960000000) {s0 : mh_H} (hI0 : mh_I B D s0) (p1 : Int32) (p2 : Int32) : mh_Mi l G (d + 2) mM_X10_check [.ref (G.2.2.2 57), .int p1, .int p2] s0 (P_eX10_check B D s0 p1 p2) := by
  refine mh_enter (lv := [(0, .ref (G.2.2.2 57)), (1, .int p1), (2, .int p2)]) (by decide) rfl (Nat.le_of_ble_eq_true rfl) ?_
  have hF0 : mh_F S_eX10_check s0 s0 := mh_F_rf
  refine mw_iload_n 1 rfl 1 dX10_check_0 rfl rfl ?_
  refine mw_callSi [.int p1] [] 4 rfl dX10_check_1 ml_X10_158 mc_X10_isSide mk_X10_isSide (w_eX10_isSide l G (d + 0) ⟨by omega, by omega⟩ hI0 p1) rfl rfl (Nat.le_of_ble_eq_true rfl) (mh_rok (by omega) (by decide)) (fun x135 s136 q137 => ?_)
  obtain ⟨r_x135, E_s136, e0_s136, rfl⟩ := q137
  refine mw_if_eq 7 rfl 29 dX10_check_4 (by decide) (fun c138 => ?_) (fun c138 => ?_)
  · skip
    have r_x135 : mh_r x135 (0) (0) := mh_eq1 (show x135.toInt = (0 : Int32).toInt from c138) r_x135 rc_0 (0) (0) (by decide)
    refine mw_bipush (v := -2) 31 rfl dX10_check_29 (by decide) ?_
    exact mw_iret dX10_check_31 rfl ⟨(-2), rfl, ⟨(mh_r_wk rc_m2 (by decide)), (mh_lbS E_s136 (mh_ifT c138 rfl)), hI0, hF0⟩⟩
  · skip
    have r_p1 : mh_r p1 (0) (11) := ⟨by have := e0_s136.1 (mh_z1 r_x135 c138); have := ((mh_r_full p1)).1; omega, by have := e0_s136.1 (mh_z1 r_x135 c138); have := ((mh_r_full p1)).2; omega⟩
    have r_x135 : mh_r x135 (1) (1) := mh_ne1 (show x135.toInt ≠ (0 : Int32).toInt from c138) r_x135 rc_0 (1) (1) (by decide)
    refine mw_iload_n 8 rfl 2 dX10_check_7 rfl rfl ?_
    refine mw_i2l 9 rfl dX10_check_8 (fun y139 t140 => ?_)
    refine mw_lconst (v := 0) 10 rfl dX10_check_9 (by decide) ?_
    refine mw_ldc2 13 rfl dX10_check_10 ck_X10_455 ?_
    refine mw_callSi [.long y139, .long (0), .long (12)] [] 16 rfl dX10_check_13 ml_X10_154 mc_X10_lies mk_X10_lies (w_eX10_lies l G (d + 1) ⟨by omega, by omega⟩ hI0 y139 (0) (12)) rfl rfl (Nat.le_of_ble_eq_true rfl) (mh_rok (by omega) (by decide)) (fun x141 s142 q143 => ?_)
    obtain ⟨r_x141, E_s142, e0_s142, rfl⟩ := q143
    have f_x141 : x141.toInt = 1 ↔ (0 ≤ p2.toInt ∧ p2.toInt ≤ 12) := by rw [e0_s142]; exact by simp only [t140, Int32.toInt_toInt64]; first | done | exact Iff.rfl
    refine mw_if_eq 19 rfl 29 dX10_check_16 (by decide) (fun c144 => ?_) (fun c144 => ?_)
    · skip
      have r_x141 : mh_r x141 (0) (0) := mh_eq1 (show x141.toInt = (0 : Int32).toInt from c144) r_x141 rc_0 (0) (0) (by decide)
      refine mw_bipush (v := -2) 31 rfl dX10_check_29 (by decide) ?_
      exact mw_iret dX10_check_31 rfl ⟨(-2), rfl, ⟨(mh_r_wk rc_m2 (by decide)), (mh_lbS E_s136 (mh_ifF c138 (mh_lbT t140 (mh_lbS E_s142 (mh_ifT c144 rfl))))), hI0, hF0⟩⟩
    · skip
      have r_p2 : mh_r p2 (0) (12) := ⟨by have := f_x141.1 (mh_z1 r_x141 c144); have := ((mh_r_full p2)).1; omega, by have := f_x141.1 (mh_z1 r_x141 c144); have := ((mh_r_full p2)).2; omega⟩
      have r_x141 : mh_r x141 (1) (1) := mh_ne1 (show x141.toInt ≠ (0 : Int32).toInt from c144) r_x141 rc_0 (1) (1) (by decide)
      refine mw_iload_n 20 rfl 2 dX10_check_19 rfl rfl ?_
      refine mw_aload_n 21 rfl 0 dX10_check_20 rfl rfl ?_
      refine mw_geti 24 rfl dX10_check_21 gf_X10_181 rfl (fun x145 t146 => ?_)
      have r_x145 : mh_r x145 (0) (220) := by rw [t146]; exact rd_57_1 hI0
      refine mw_iconst (v := 4) 25 rfl dX10_check_24 (by decide) ?_
      refine mw_idiv 26 rfl (0) (220) dX10_check_25 r_x145 rc_4 (by decide) (fun x147 t148 r_x147 => ?_)
      have r_x147 : mh_r x147 (0) (55) := mh_dvc t148 r_x145 (by decide) (by decide)
      have g149 : x147.toInt = x145.toInt / 4 := mh_dve t148 (by have := (r_x145).1; omega) (by decide)
      refine mw_icmp_le 29 rfl 32 dX10_check_26 (by decide) (fun c150 => ?_) (fun c150 => ?_)
      · skip
        refine mw_aload_n 33 rfl 0 dX10_check_32 rfl rfl ?_
        refine mw_iconst (v := 0) 34 rfl dX10_check_33 (by decide) ?_
        refine mw_puti 37 rfl dX10_check_34 pf_X10_181 rfl (fun s151 t152 => ?_)
        have hI_s151 : mh_I B D s151 := by rw [t152]; exact wr_57_1 hI0 (mh_r_wk rc_0 (by decide))
        have hF_s151 : mh_F S_eX10_check s0 s151 := by rw [t152]; exact mh_F_pI hF0 (mh_sj 0 rfl)
        refine mw_iconst (v := 0) 38 rfl dX10_check_37 (by decide) ?_
        refine mw_istore_n 39 rfl [(3, .int (0)), (0, .ref (G.2.2.2 57)), (1, .int p1), (2, .int p2)] dX10_check_38 rfl (by decide) rfl ?_
        have L39 : ∀ n1 : Nat, ∀ (x243 : Int32), mh_r x243 (0) (14) → (f_eX10_check s0 p1 p2 = l_eX10_check_39_1 s151 p1 p2 n1 x243) → (14) - x243.toInt < (n1 : Int) → mh_W G (mh_XM l G (d + 2) (mh_Qi (P_eX10_check B D s0 p1 p2))) mM_X10_check 39 [(0, .ref (G.2.2.2 57)), (1, .int p1), (2, .int p2), (3, .int x243)] [] s151 := by
          intro n1
          induction n1 with
          | zero =>
            intro x243 r_x243 hE1 hmn1
            exact absurd hmn1 (by have := r_x243.1; have := r_x243.2; omega)
          | succ n1 ihn1 =>
            intro x243 r_x243 hE1 hmn1
            rw [l_eX10_check_39_1_s] at hE1
            refine mw_iload_n 40 rfl 3 dX10_check_39 rfl rfl ?_
            refine mw_iload_n 41 rfl 2 dX10_check_40 rfl rfl ?_
            refine mw_icmp_ge 44 rfl 70 dX10_check_41 (by decide) (fun c257 => ?_) (fun c257 => ?_)
            · skip
              refine mw_iconst (v := -1) 71 rfl dX10_check_70 (by decide) ?_
              exact mw_iret dX10_check_71 rfl ⟨(-1), rfl, ⟨(mh_r_wk rc_m1 (by decide)), (Eq.trans hE1 (mh_ifF (Int.not_lt.mpr c257) rfl)), hI_s151, hF_s151⟩⟩
            · skip
              have r_x243 : mh_r x243 (0) (11) := mh_lt1 c257 r_x243 r_p2 (11) (by decide)
              have r_p2 : mh_r p2 (1) (12) := mh_lt2 c257 r_x243 r_p2 (1) (by decide)
              refine mw_aload_n 45 rfl 0 dX10_check_44 rfl rfl ?_
              refine mw_iload_n 46 rfl 3 dX10_check_45 rfl rfl ?_
              refine mw_callVi [.int x243] [] 49 rfl dX10_check_46 ml_X10_468 mc_X10_numberAt mk_X10_numberAt rfl rfl (by decide) (w_eX10_numberAt l G (d + 1) ⟨by omega, by omega⟩ hI_s151 x243 (mh_r_wk r_x243 (by decide))) rfl rfl (Nat.le_of_ble_eq_true rfl) (mh_rok (by omega) (by decide)) (fun x258 s259 q260 => ?_)
              obtain ⟨r_x258, E_s259, rfl⟩ := q260
              refine mw_aload_n 50 rfl 0 dX10_check_49 rfl rfl ?_
              refine mw_geta 53 rfl dX10_check_50 gf_X10_24 rfl 61 (mh_rf hI_s151 58 rfl) ?_
              refine mw_iload_n 54 rfl 3 dX10_check_53 rfl rfl ?_
              refine mw_iload_n 55 rfl 1 dX10_check_54 rfl rfl ?_
              refine mw_callSi [.int x243, .int p1] [.ref (G.2.2.2 61), .int x258] 58 rfl dX10_check_55 ml_X10_174 mc_X10_cellAt mk_X10_cellAt (w_eX10_cellAt l G (d + 1) ⟨by omega, by omega⟩ hI_s151 x243 r_x243 p1 r_p1) rfl rfl (Nat.le_of_ble_eq_true rfl) (mh_rok (by omega) (by decide)) (fun x261 s262 q263 => ?_)
              obtain ⟨r_x261, E_s262, rfl⟩ := q263
              refine mw_iald 59 rfl dX10_check_58 rfl r_x261 (by decide) (fun x264 t265 => ?_)
              refine mw_icmp_eq 62 rfl 64 dX10_check_59 (by decide) (fun c266 => ?_) (fun c266 => ?_)
              · skip
                refine mw_iincR (k := 3) (1) (12) 67 rfl (fun z => [(3, .int z), (0, .ref (G.2.2.2 57)), (1, .int p1), (2, .int p2)]) dX10_check_64 rfl (by decide) (fun _ => rfl) r_x243 (by decide) (by decide) (fun x267 t268 r_x267 => ?_)
                refine mw_goto 70 rfl 39 dX10_check_67 (by decide) ?_
                exact mw_lv [1, 2, 3, 0] rfl (ihn1 x267 (mh_r_wk r_x267 (by decide)) (Eq.trans hE1 (mh_ifT c257 (mh_lbS E_s259 (mh_lbS E_s262 (mh_lbT t265 (mh_ifT c266 (mh_lbT (mh_einc t268 rfl) rfl))))))) (by have : x267.toInt = x243.toInt + (1) := t268; omega))
              · skip
                refine mw_iload_n 63 rfl 3 dX10_check_62 rfl rfl ?_
                exact mw_iret dX10_check_63 rfl ⟨x243, rfl, ⟨(mh_r_wk r_x243 (by decide)), (Eq.trans hE1 (mh_ifT c257 (mh_lbS E_s259 (mh_lbS E_s262 (mh_lbT t265 (mh_ifF c266 rfl)))))), hI_s151, hF_s151⟩⟩
        exact mw_lv [1, 2, 3, 0] rfl (L39 15 (0) (mh_r_wk rc_0 (by decide)) (mh_lbS E_s136 (mh_ifF c138 (mh_lbT t140 (mh_lbS E_s142 (mh_ifF c144 (mh_lbT t146 (mh_lbT (mh_ediv t148) (mh_ifF (Int.not_lt.mpr c150) (mh_lbT t152 rfl))))))))) (by have := (rc_0).1; have := (rc_0).2; omega))
      · skip
        have r_x147 : mh_r x147 (0) (11) := mh_lt1 c150 r_x147 r_p2 (11) (by decide)
        have r_x145 : mh_r x145 (0) (47) := by have := g149; have := (r_x145).1; have := (r_x145).2; have := (r_x147).1; have := (r_x147).2; exact ⟨by omega, by omega⟩
        have r_p2 : mh_r p2 (1) (12) := mh_lt2 c150 r_x147 r_p2 (1) (by decide)
        refine mw_bipush (v := -2) 31 rfl dX10_check_29 (by decide) ?_
        exact mw_iret dX10_check_31 rfl ⟨(-2), rfl, ⟨(mh_r_wk rc_m2 (by decide)), (mh_lbS E_s136 (mh_ifF c138 (mh_lbT t140 (mh_lbS E_s142 (mh_ifF c144 (mh_lbT t146 (mh_lbT (mh_ediv t148) (mh_ifT c150 rfl)))))))), hI0, hF0⟩⟩

def j_eX10_roadsTold_27_2 (lo_4_1 : Int32 → Int32 → Int32) (x179 : Int32) (x180 : Int32) (x200 : Int32) : Int32 := mh_lb (x180 ||| x200) (fun x205 => mh_lb (x179 + (1 : Int32)) (fun x207 => (lo_4_1 x207 x205)))
def ls_eX10_roadsTold_4_1 (s0 : mh_H) (lo_4_1 : Int32 → Int32 → Int32) (x179 : Int32) (x180 : Int32) : Int32 := if x179.toInt < (20 : Int32).toInt then mh_lb (s0.1 90 x179.toNatClampNeg) (fun x195 => if x195.toInt = 0 then (j_eX10_roadsTold_27_2 lo_4_1 x179 x180 (0 : Int32)) else mh_lb ((1 : Int32) <<< (x179 &&& 31)) (fun x210 => (j_eX10_roadsTold_27_2 lo_4_1 x179 x180 x210))) else x180
def l_eX10_roadsTold_4_1 (s0 : mh_H) : Nat → Int32 → Int32 → Int32
  | 0 => fun _ _ => 0
  | n + 1 => ls_eX10_roadsTold_4_1 s0 (l_eX10_roadsTold_4_1 s0 n)
theorem l_eX10_roadsTold_4_1_s (s0 : mh_H) (n : Nat) : l_eX10_roadsTold_4_1 s0 (n + 1) = ls_eX10_roadsTold_4_1 s0 (l_eX10_roadsTold_4_1 s0 n) := rfl
def f_eX10_roadsTold (s0 : mh_H) : Int32 := (l_eX10_roadsTold_4_1 s0 21 (0 : Int32) (0 : Int32))
def P_eX10_roadsTold (B D : Int) (s0 : mh_H) : Int32 → mh_H → Prop := fun z s => mh_r z (-2147483648) (2147483647) ∧ f_eX10_roadsTold s0 = z ∧ s0 = s
set_option maxRecDepth 100000 in
set_option maxHeartbeats 4000000 in
theorem w_eX10_roadsTold (l : Launch) (G : mh_G) (d : Nat) {B D : Int} (hB : B ≤ 2000000000 ∧ D ≤ 2000000000) {s0 : mh_H} (hI0 : mh_I B D s0) : mh_Mi l G (d + 0) mM_X10_roadsTold [.ref (G.2.2.2 57)] s0 (P_eX10_roadsTold B D s0) := by
  refine mh_enter (lv := [(0, .ref (G.2.2.2 57))]) (by decide) rfl (Nat.le_of_ble_eq_true rfl) ?_
  refine mw_iconst (v := 0) 1 rfl dX10_roadsTold_0 (by decide) ?_
  refine mw_istore_n 2 rfl [(1, .int (0)), (0, .ref (G.2.2.2 57))] dX10_roadsTold_1 rfl (by decide) rfl ?_
  refine mw_iconst (v := 0) 3 rfl dX10_roadsTold_2 (by decide) ?_
  refine mw_istore_n 4 rfl [(2, .int (0)), (1, .int (0)), (0, .ref (G.2.2.2 57))] dX10_roadsTold_3 rfl (by decide) rfl ?_
  have L4 : ∀ n1 : Nat, ∀ (x179 : Int32) (x180 : Int32), mh_r x179 (0) (20) → (f_eX10_roadsTold s0 = l_eX10_roadsTold_4_1 s0 n1 x179 x180) → (20) - x179.toInt < (n1 : Int) → mh_W G (mh_XM l G (d + 0) (mh_Qi (P_eX10_roadsTold B D s0))) mM_X10_roadsTold 4 [(0, .ref (G.2.2.2 57)), (1, .int x180), (2, .int x179)] [] s0 := by
    intro n1
    induction n1 with
    | zero =>
      intro x179 x180 r_x179 hE1 hmn1
      exact absurd hmn1 (by have := r_x179.1; have := r_x179.2; omega)
    | succ n1 ihn1 =>
      intro x179 x180 r_x179 hE1 hmn1
      rw [l_eX10_roadsTold_4_1_s] at hE1
      refine mw_iload_n 5 rfl 2 dX10_roadsTold_4 rfl rfl ?_
      refine mw_bipush (v := 20) 7 rfl dX10_roadsTold_5 (by decide) ?_
      refine mw_icmp_ge 10 rfl 35 dX10_roadsTold_7 (by decide) (fun c194 => ?_) (fun c194 => ?_)
      · skip
        have r_x179 : mh_r x179 (20) (20) := mh_le2 c194 rc_20 r_x179 (20) (by decide)
        refine mw_iload_n 36 rfl 1 dX10_roadsTold_35 rfl rfl ?_
        exact mw_iret dX10_roadsTold_36 rfl ⟨x180, rfl, ⟨(mh_r_full x180), (Eq.trans hE1 (mh_ifF (Int.not_lt.mpr c194) rfl)), rfl⟩⟩
      · skip
        have r_x179 : mh_r x179 (0) (19) := mh_lt1 c194 r_x179 rc_20 (19) (by decide)
        refine mw_iload_n 11 rfl 1 dX10_roadsTold_10 rfl rfl ?_
        refine mw_aload_n 12 rfl 0 dX10_roadsTold_11 rfl rfl ?_
        refine mw_geta 15 rfl dX10_roadsTold_12 gf_X10_113 rfl 90 (mh_rf hI0 87 rfl) ?_
        refine mw_iload_n 16 rfl 2 dX10_roadsTold_15 rfl rfl ?_
        refine mw_zald 17 rfl dX10_roadsTold_16 rfl r_x179 (by decide) (fun x195 t196 => ?_)
        have r_x195 : mh_r x195 (0) (1) := by rw [t196]; exact rd_90 hI0 _
        have J27 : ∀ (x200 : Int32), (f_eX10_roadsTold s0 = j_eX10_roadsTold_27_2 (l_eX10_roadsTold_4_1 s0 n1) x179 x180 x200) → mh_W G (mh_XM l G (d + 0) (mh_Qi (P_eX10_roadsTold B D s0))) mM_X10_roadsTold 27 [(0, .ref (G.2.2.2 57)), (1, .int x180), (2, .int x179)] [.int x200, .int x180] s0 := by
          intro x200 hE2
          refine mw_ior_u 28 rfl dX10_roadsTold_27 (fun x205 t206 => ?_)
          refine mw_istore_n 29 rfl [(1, .int x205), (0, .ref (G.2.2.2 57)), (2, .int x179)] dX10_roadsTold_28 rfl (by decide) rfl ?_
          refine mw_iincR (k := 2) (1) (20) 32 rfl (fun z => [(2, .int z), (1, .int x205), (0, .ref (G.2.2.2 57))]) dX10_roadsTold_29 rfl (by decide) (fun _ => rfl) r_x179 (by decide) (by decide) (fun x207 t208 r_x207 => ?_)
          refine mw_goto 35 rfl 4 dX10_roadsTold_32 (by decide) ?_
          exact mw_lv [2, 1, 0] rfl (ihn1 x207 x205 (mh_r_wk r_x207 (by decide)) (Eq.trans hE2 (mh_lbT t206 (mh_lbT (mh_einc t208 rfl) rfl))) (by have : x207.toInt = x179.toInt + (1) := t208; omega))
        refine mw_if_eq 20 rfl 26 dX10_roadsTold_17 (by decide) (fun c209 => ?_) (fun c209 => ?_)
        · skip
          have r_x195 : mh_r x195 (0) (0) := mh_eq1 (show x195.toInt = (0 : Int32).toInt from c209) r_x195 rc_0 (0) (0) (by decide)
          refine mw_iconst (v := 0) 27 rfl dX10_roadsTold_26 (by decide) ?_
          exact mw_lv [0, 1, 2] rfl (J27 (0) (Eq.trans hE1 (mh_ifT c194 (mh_lbT t196 (mh_ifT c209 rfl)))))
        · skip
          have r_x195 : mh_r x195 (1) (1) := mh_ne1 (show x195.toInt ≠ (0 : Int32).toInt from c209) r_x195 rc_0 (1) (1) (by decide)
          refine mw_iconst (v := 1) 21 rfl dX10_roadsTold_20 (by decide) ?_
          refine mw_iload_n 22 rfl 2 dX10_roadsTold_21 rfl rfl ?_
          refine mw_ishl_u 23 rfl dX10_roadsTold_22 (fun x210 t211 => ?_)
          refine mw_goto 26 rfl 27 dX10_roadsTold_23 (by decide) ?_
          exact mw_lv [0, 1, 2] rfl (J27 x210 (Eq.trans hE1 (mh_ifT c194 (mh_lbT t196 (mh_ifF c209 (mh_lbT t211 rfl))))))
  exact mw_lv [2, 1, 0] rfl (L4 21 (0) (0) (mh_r_wk rc_0 (by decide)) (rfl) (by have := (rc_0).1; have := (rc_0).2; omega))

def f_eX10_count (s0 : mh_H) (p1 : Int32) : Int32 := mh_lb (Int32.toInt64 p1) (fun y25 => mh_lb (f_eX10_lies s0 y25 (100 : Int64) (199 : Int64)) (fun x27 => if x27.toInt = 0 then if p1.toInt = 0 then mh_lb (s0.1 57 2) (fun x32 => x32) else if p1.toInt = 1 then mh_lb (s0.1 57 10) (fun x34 => x34) else if p1.toInt = 2 then mh_lb (s0.1 57 1) (fun x36 => x36) else if p1.toInt = 3 then mh_lb (s0.1 57 58) (fun x38 => x38) else if p1.toInt = 4 then mh_lb (f_eX10_roadsTold s0) (fun x40 => x40) else if p1.toInt = 5 then mh_lb (s0.1 57 3) (fun x43 => x43) else (-1 : Int32) else mh_lb (p1 - (100 : Int32)) (fun x45 => mh_lb (s0.1 63 x45.toNatClampNeg) (fun x47 => x47))))
def P_eX10_count (B D : Int) (s0 : mh_H) (p1 : Int32) : Int32 → mh_H → Prop := fun z s => mh_r z (-2147483648) (2147483647) ∧ f_eX10_count s0 p1 = z ∧ s0 = s
set_option maxRecDepth 100000 in
set_option maxHeartbeats 4000000 in
theorem w_eX10_count (l : Launch) (G : mh_G) (d : Nat) {B D : Int} (hB : B ≤ 1980000000 ∧ D ≤ 1980000000) {s0 : mh_H} (hI0 : mh_I B D s0) (p1 : Int32) : mh_Mi l G (d + 1) mM_X10_count [.ref (G.2.2.2 57), .int p1] s0 (P_eX10_count B D s0 p1) := by
  refine mh_enter (lv := [(0, .ref (G.2.2.2 57)), (1, .int p1)]) (by decide) rfl (Nat.le_of_ble_eq_true rfl) ?_
  refine mw_iload_n 1 rfl 1 dX10_count_0 rfl rfl ?_
  refine mw_i2l 2 rfl dX10_count_1 (fun y25 t26 => ?_)
  refine mw_ldc2 5 rfl dX10_count_2 ck_X10_471 ?_
  refine mw_ldc2 8 rfl dX10_count_5 ck_X10_473 ?_
  refine mw_callSi [.long y25, .long (100), .long (199)] [] 11 rfl dX10_count_8 ml_X10_154 mc_X10_lies mk_X10_lies (w_eX10_lies l G (d + 0) ⟨by omega, by omega⟩ hI0 y25 (100) (199)) rfl rfl (Nat.le_of_ble_eq_true rfl) (mh_rok (by omega) (by decide)) (fun x27 s28 q29 => ?_)
  obtain ⟨r_x27, E_s28, e0_s28, rfl⟩ := q29
  have f_x27 : x27.toInt = 1 ↔ (100 ≤ p1.toInt ∧ p1.toInt ≤ 199) := by rw [e0_s28]; exact by simp only [t26, Int32.toInt_toInt64]; first | done | exact Iff.rfl
  refine mw_if_eq 14 rfl 24 dX10_count_11 (by decide) (fun c30 => ?_) (fun c30 => ?_)
  · skip
    have r_x27 : mh_r x27 (0) (0) := mh_eq1 (show x27.toInt = (0 : Int32).toInt from c30) r_x27 rc_0 (0) (0) (by decide)
    refine mw_iload_n 25 rfl 1 dX10_count_24 rfl rfl ?_
    rcases (show p1.toInt = 0 ∨ p1.toInt = 1 ∨ p1.toInt = 2 ∨ p1.toInt = 3 ∨ p1.toInt = 4 ∨ p1.toInt = 5 ∨ (p1.toInt < 0 ∨ 5 < p1.toInt) by have := (mh_r_full p1).1; have := (mh_r_full p1).2; omega) with c31 | c31 | c31 | c31 | c31 | c31 | c31
    · refine mw_tabIn 64 dX10_count_25 (by rw [c31]; decide) (by rw [c31]; decide) (by rw [c31]; rfl) (by decide) ?_
      have r_p1 : mh_r p1 (0) (0) := mh_eq1 (show p1.toInt = (0 : Int32).toInt from c31.trans rfl) (mh_r_full p1) rc_0 (0) (0) (by decide)
      refine mw_aload_n 65 rfl 0 dX10_count_64 rfl rfl ?_
      refine mw_geti 68 rfl dX10_count_65 gf_X10_301 rfl (fun x32 t33 => ?_)
      have r_x32 : mh_r x32 (0) (1980000000) := by rw [t33]; exact mh_r_wk (rd_57_2 hI0) ⟨by decide, by skip; omega⟩
      exact mw_iret dX10_count_68 rfl ⟨x32, rfl, ⟨(mh_r_wk r_x32 (by decide)), (mh_lbT t26 (mh_lbS E_s28 (mh_ifT c30 (mh_ifT c31 (mh_lbT t33 rfl))))), rfl⟩⟩
    · refine mw_tabIn 69 dX10_count_25 (by rw [c31]; decide) (by rw [c31]; decide) (by rw [c31]; rfl) (by decide) ?_
      have r_p1 : mh_r p1 (1) (1) := mh_eq1 (show p1.toInt = (1 : Int32).toInt from c31.trans rfl) (mh_r_full p1) rc_1 (1) (1) (by decide)
      refine mw_aload_n 70 rfl 0 dX10_count_69 rfl rfl ?_
      refine mw_geti 73 rfl dX10_count_70 gf_X10_298 rfl (fun x34 t35 => ?_)
      have r_x34 : mh_r x34 (0) (14) := by rw [t35]; exact rd_57_10 hI0
      exact mw_iret dX10_count_73 rfl ⟨x34, rfl, ⟨(mh_r_wk r_x34 (by decide)), (mh_lbT t26 (mh_lbS E_s28 (mh_ifT c30 (mh_ifF (by rw [c31]; decide) (mh_ifT c31 (mh_lbT t35 rfl)))))), rfl⟩⟩
    · refine mw_tabIn 74 dX10_count_25 (by rw [c31]; decide) (by rw [c31]; decide) (by rw [c31]; rfl) (by decide) ?_
      have r_p1 : mh_r p1 (2) (2) := mh_eq1 (show p1.toInt = (2 : Int32).toInt from c31.trans rfl) (mh_r_full p1) rc_2 (2) (2) (by decide)
      refine mw_aload_n 75 rfl 0 dX10_count_74 rfl rfl ?_
      refine mw_geti 78 rfl dX10_count_75 gf_X10_181 rfl (fun x36 t37 => ?_)
      have r_x36 : mh_r x36 (0) (220) := by rw [t37]; exact rd_57_1 hI0
      exact mw_iret dX10_count_78 rfl ⟨x36, rfl, ⟨(mh_r_wk r_x36 (by decide)), (mh_lbT t26 (mh_lbS E_s28 (mh_ifT c30 (mh_ifF (by rw [c31]; decide) (mh_ifF (by rw [c31]; decide) (mh_ifT c31 (mh_lbT t37 rfl))))))), rfl⟩⟩
    · refine mw_tabIn 79 dX10_count_25 (by rw [c31]; decide) (by rw [c31]; decide) (by rw [c31]; rfl) (by decide) ?_
      have r_p1 : mh_r p1 (3) (3) := mh_eq1 (show p1.toInt = (3 : Int32).toInt from c31.trans rfl) (mh_r_full p1) rc_3 (3) (3) (by decide)
      refine mw_aload_n 80 rfl 0 dX10_count_79 rfl rfl ?_
      refine mw_geti 83 rfl dX10_count_80 gf_X10_432 rfl (fun x38 t39 => ?_)
      have r_x38 : mh_r x38 (0) (60) := by rw [t39]; exact rd_57_58 hI0
      exact mw_iret dX10_count_83 rfl ⟨x38, rfl, ⟨(mh_r_wk r_x38 (by decide)), (mh_lbT t26 (mh_lbS E_s28 (mh_ifT c30 (mh_ifF (by rw [c31]; decide) (mh_ifF (by rw [c31]; decide) (mh_ifF (by rw [c31]; decide) (mh_ifT c31 (mh_lbT t39 rfl)))))))), rfl⟩⟩
    · refine mw_tabIn 84 dX10_count_25 (by rw [c31]; decide) (by rw [c31]; decide) (by rw [c31]; rfl) (by decide) ?_
      have r_p1 : mh_r p1 (4) (4) := mh_eq1 (show p1.toInt = (4 : Int32).toInt from c31.trans rfl) (mh_r_full p1) rc_4 (4) (4) (by decide)
      refine mw_aload_n 85 rfl 0 dX10_count_84 rfl rfl ?_
      refine mw_callVi [] [] 88 rfl dX10_count_85 ml_X10_475 mc_X10_roadsTold mk_X10_roadsTold rfl rfl (by decide) (w_eX10_roadsTold l G (d + 0) ⟨by omega, by omega⟩ hI0) rfl rfl (Nat.le_of_ble_eq_true rfl) (mh_rok (by omega) (by decide)) (fun x40 s41 q42 => ?_)
      obtain ⟨r_x40, E_s41, rfl⟩ := q42
      exact mw_iret dX10_count_88 rfl ⟨x40, rfl, ⟨r_x40, (mh_lbT t26 (mh_lbS E_s28 (mh_ifT c30 (mh_ifF (by rw [c31]; decide) (mh_ifF (by rw [c31]; decide) (mh_ifF (by rw [c31]; decide) (mh_ifF (by rw [c31]; decide) (mh_ifT c31 (mh_lbS E_s41 rfl))))))))), rfl⟩⟩
    · refine mw_tabIn 89 dX10_count_25 (by rw [c31]; decide) (by rw [c31]; decide) (by rw [c31]; rfl) (by decide) ?_
      have r_p1 : mh_r p1 (5) (5) := mh_eq1 (show p1.toInt = (5 : Int32).toInt from c31.trans rfl) (mh_r_full p1) rc_5 (5) (5) (by decide)
      refine mw_aload_n 90 rfl 0 dX10_count_89 rfl rfl ?_
      refine mw_geti 93 rfl dX10_count_90 gf_X10_13 rfl (fun x43 t44 => ?_)
      have r_x43 : mh_r x43 (0) (65535) := by rw [t44]; exact rd_57_3 hI0
      exact mw_iret dX10_count_93 rfl ⟨x43, rfl, ⟨(mh_r_wk r_x43 (by decide)), (mh_lbT t26 (mh_lbS E_s28 (mh_ifT c30 (mh_ifF (by rw [c31]; decide) (mh_ifF (by rw [c31]; decide) (mh_ifF (by rw [c31]; decide) (mh_ifF (by rw [c31]; decide) (mh_ifF (by rw [c31]; decide) (mh_ifT c31 (mh_lbT t44 rfl)))))))))), rfl⟩⟩
    · refine mw_tabOut 94 dX10_count_25 c31 (by decide) ?_
      refine mw_iconst (v := -1) 95 rfl dX10_count_94 (by decide) ?_
      exact mw_iret dX10_count_95 rfl ⟨(-1), rfl, ⟨(mh_r_wk rc_m1 (by decide)), (mh_lbT t26 (mh_lbS E_s28 (mh_ifT c30 (mh_ifF (by omega) (mh_ifF (by omega) (mh_ifF (by omega) (mh_ifF (by omega) (mh_ifF (by omega) (mh_ifF (by omega) rfl))))))))), rfl⟩⟩
  · skip
    have r_p1 : mh_r p1 (100) (199) := ⟨by have := f_x27.1 (mh_z1 r_x27 c30); have := ((mh_r_full p1)).1; omega, by have := f_x27.1 (mh_z1 r_x27 c30); have := ((mh_r_full p1)).2; omega⟩
    have r_x27 : mh_r x27 (1) (1) := mh_ne1 (show x27.toInt ≠ (0 : Int32).toInt from c30) r_x27 rc_0 (1) (1) (by decide)
    refine mw_aload_n 15 rfl 0 dX10_count_14 rfl rfl ?_
    refine mw_geta 18 rfl dX10_count_15 gf_X10_30 rfl 63 (mh_rf hI0 60 rfl) ?_
    refine mw_iload_n 19 rfl 1 dX10_count_18 rfl rfl ?_
    refine mw_bipush (v := 100) 21 rfl dX10_count_19 (by decide) ?_
    refine mw_isub 22 rfl (0) (99) dX10_count_21 r_p1 rc_100 (by decide) (fun x45 t46 r_x45 => ?_)
    refine mw_iald 23 rfl dX10_count_22 rfl r_x45 (by decide) (fun x47 t48 => ?_)
    exact mw_iret dX10_count_23 rfl ⟨x47, rfl, ⟨(mh_r_full x47), (mh_lbT t26 (mh_lbS E_s28 (mh_ifF c30 (mh_lbT (mh_esub t46) (mh_lbT t48 rfl))))), rfl⟩⟩

def S_eX10_cell : List (Nat × Nat) := [(57, 33), (57, 34), (57, 35), (57, 36), (57, 37), (78, 9999), (77, 9999)]
def f_eX10_cell (s0 : mh_H) (p1 : Int32) (p2 : Int32) (p3 : Int32) : Int32 × mh_H := mh_lb (f_eX10_isCell s0 p1 p2) (fun x37 => if x37.toInt = 0 then ((-1 : Int32), s0) else mh_lb (f_eX10_cellAt s0 p1 p2) (fun x41 => if p3.toInt = 0 then mh_lb (s0.1 59 x41.toNatClampNeg) (fun x45 => (x45, s0)) else if p3.toInt = 1 then mh_lb (s0.1 60 x41.toNatClampNeg) (fun x47 => (x47, s0)) else if p3.toInt = 2 then mh_lb (s0.1 61 x41.toNatClampNeg) (fun x49 => (x49, s0)) else if p3.toInt = 3 then mh_lb (s0.1 62 x41.toNatClampNeg) (fun x51 => (x51, s0)) else if p3.toInt = 4 then mh_lb2 (f_eX10_mistAt s0 x41) (fun x53 s54 => (x53, s54)) else if p3.toInt = 5 then mh_lb2 (f_eX10_mistAt s0 x41) (fun x56 s57 => if 0 < x56.toInt then mh_lb (s57.1 59 x41.toNatClampNeg) (fun x60 => mh_lb2 (f_eX10_mistAt s57 x41) (fun x62 s63 => mh_lb (x60 + x62) (fun x65 => (x65, s63)))) else ((-2 : Int32), s57)) else if p3.toInt = 6 then mh_lb2 (f_eX10_yardsAt s0 x41) (fun x67 s68 => (x67, s68)) else if p3.toInt = 7 then mh_lb (f_eX10_levelAt s0 x41) (fun x70 => (x70, s0)) else ((-1 : Int32), s0)))
def P_eX10_cell (B D : Int) (s0 : mh_H) (p1 : Int32) (p2 : Int32) (p3 : Int32) : Int32 → mh_H → Prop := fun z s => mh_r z (-2147483648) (2147483647) ∧ f_eX10_cell s0 p1 p2 p3 = (z, s) ∧ mh_I B D s ∧ mh_F S_eX10_cell s0 s
set_option maxRecDepth 100000 in
set_option maxHeartbeats 4000000 in
theorem w_eX10_cell (l : Launch) (G : mh_G) (d : Nat) {B D : Int} (hB : B ≤ 1820000000 ∧ D ≤ 1820000000) {s0 : mh_H} (hI0 : mh_I B D s0) (p1 : Int32) (p2 : Int32) (p3 : Int32) : mh_Mi l G (d + 9) mM_X10_cell [.ref (G.2.2.2 57), .int p1, .int p2, .int p3] s0 (P_eX10_cell B D s0 p1 p2 p3) := by
  refine mh_enter (lv := [(0, .ref (G.2.2.2 57)), (1, .int p1), (2, .int p2), (3, .int p3)]) (by decide) rfl (Nat.le_of_ble_eq_true rfl) ?_
  have hF0 : mh_F S_eX10_cell s0 s0 := mh_F_rf
  refine mw_iload_n 1 rfl 1 dX10_cell_0 rfl rfl ?_
  refine mw_iload_n 2 rfl 2 dX10_cell_1 rfl rfl ?_
  refine mw_callSi [.int p1, .int p2] [] 5 rfl dX10_cell_2 ml_X10_166 mc_X10_isCell mk_X10_isCell (w_eX10_isCell l G (d + 6) ⟨by omega, by omega⟩ hI0 p1 p2) rfl rfl (Nat.le_of_ble_eq_true rfl) (mh_rok (by omega) (by decide)) (fun x37 s38 q39 => ?_)
  obtain ⟨r_x37, E_s38, e0_s38, rfl⟩ := q39
  refine mw_if_ne 8 rfl 10 dX10_cell_5 (by decide) (fun c40 => ?_) (fun c40 => ?_)
  · skip
    have r_p1 : mh_r p1 (0) (11) := ⟨by have := e0_s38.1 (mh_z1 r_x37 c40); have := ((mh_r_full p1)).1; omega, by have := e0_s38.1 (mh_z1 r_x37 c40); have := ((mh_r_full p1)).2; omega⟩
    have r_p2 : mh_r p2 (0) (11) := ⟨by have := e0_s38.1 (mh_z1 r_x37 c40); have := ((mh_r_full p2)).1; omega, by have := e0_s38.1 (mh_z1 r_x37 c40); have := ((mh_r_full p2)).2; omega⟩
    have r_x37 : mh_r x37 (1) (1) := mh_ne1 (show x37.toInt ≠ (0 : Int32).toInt from c40) r_x37 rc_0 (1) (1) (by decide)
    refine mw_iload_n 11 rfl 1 dX10_cell_10 rfl rfl ?_
    refine mw_iload_n 12 rfl 2 dX10_cell_11 rfl rfl ?_
    refine mw_callSi [.int p1, .int p2] [] 15 rfl dX10_cell_12 ml_X10_174 mc_X10_cellAt mk_X10_cellAt (w_eX10_cellAt l G (d + 8) ⟨by omega, by omega⟩ hI0 p1 r_p1 p2 r_p2) rfl rfl (Nat.le_of_ble_eq_true rfl) (mh_rok (by omega) (by decide)) (fun x41 s42 q43 => ?_)
    obtain ⟨r_x41, E_s42, rfl⟩ := q43
    refine mw_istore 17 rfl [(4, .int x41), (0, .ref (G.2.2.2 57)), (1, .int p1), (2, .int p2), (3, .int p3)] dX10_cell_15  (by decide) rfl ?_
    refine mw_iload_n 18 rfl 4 dX10_cell_17 rfl rfl ?_
    rcases (show p3.toInt = 0 ∨ p3.toInt = 1 ∨ p3.toInt = 2 ∨ p3.toInt = 3 ∨ p3.toInt = 4 ∨ p3.toInt = 5 ∨ p3.toInt = 6 ∨ p3.toInt = 7 ∨ (p3.toInt < 0 ∨ 7 < p3.toInt) by have := (mh_r_full p3).1; have := (mh_r_full p3).2; omega) with c44 | c44 | c44 | c44 | c44 | c44 | c44 | c44 | c44
    · refine mw_tabIn 64 dX10_cell_18 (by rw [c44]; decide) (by rw [c44]; decide) (by rw [c44]; rfl) (by decide) ?_
      have r_p3 : mh_r p3 (0) (0) := mh_eq1 (show p3.toInt = (0 : Int32).toInt from c44.trans rfl) (mh_r_full p3) rc_0 (0) (0) (by decide)
      refine mw_aload_n 65 rfl 1 dX10_cell_64 rfl rfl ?_
      refine mw_geta 68 rfl dX10_cell_65 gf_X10_17 rfl 59 (mh_rf hI0 56 rfl) ?_
      refine mw_iload 70 rfl 0 dX10_cell_68  rfl ?_
      refine mw_iald 71 rfl dX10_cell_70 rfl r_x41 (by decide) (fun x45 t46 => ?_)
      exact mw_iret dX10_cell_71 rfl ⟨x45, rfl, ⟨(mh_r_full x45), (mh_lbS E_s38 (mh_ifF c40 (mh_lbS E_s42 (mh_ifT c44 (mh_lbT t46 rfl))))), hI0, hF0⟩⟩
    · refine mw_tabIn 72 dX10_cell_18 (by rw [c44]; decide) (by rw [c44]; decide) (by rw [c44]; rfl) (by decide) ?_
      have r_p3 : mh_r p3 (1) (1) := mh_eq1 (show p3.toInt = (1 : Int32).toInt from c44.trans rfl) (mh_r_full p3) rc_1 (1) (1) (by decide)
      refine mw_aload_n 73 rfl 1 dX10_cell_72 rfl rfl ?_
      refine mw_geta 76 rfl dX10_cell_73 gf_X10_21 rfl 60 (mh_rf hI0 57 rfl) ?_
      refine mw_iload 78 rfl 0 dX10_cell_76  rfl ?_
      refine mw_iald 79 rfl dX10_cell_78 rfl r_x41 (by decide) (fun x47 t48 => ?_)
      exact mw_iret dX10_cell_79 rfl ⟨x47, rfl, ⟨(mh_r_full x47), (mh_lbS E_s38 (mh_ifF c40 (mh_lbS E_s42 (mh_ifF (by rw [c44]; decide) (mh_ifT c44 (mh_lbT t48 rfl)))))), hI0, hF0⟩⟩
    · refine mw_tabIn 80 dX10_cell_18 (by rw [c44]; decide) (by rw [c44]; decide) (by rw [c44]; rfl) (by decide) ?_
      have r_p3 : mh_r p3 (2) (2) := mh_eq1 (show p3.toInt = (2 : Int32).toInt from c44.trans rfl) (mh_r_full p3) rc_2 (2) (2) (by decide)
      refine mw_aload_n 81 rfl 1 dX10_cell_80 rfl rfl ?_
      refine mw_geta 84 rfl dX10_cell_81 gf_X10_24 rfl 61 (mh_rf hI0 58 rfl) ?_
      refine mw_iload 86 rfl 0 dX10_cell_84  rfl ?_
      refine mw_iald 87 rfl dX10_cell_86 rfl r_x41 (by decide) (fun x49 t50 => ?_)
      exact mw_iret dX10_cell_87 rfl ⟨x49, rfl, ⟨(mh_r_full x49), (mh_lbS E_s38 (mh_ifF c40 (mh_lbS E_s42 (mh_ifF (by rw [c44]; decide) (mh_ifF (by rw [c44]; decide) (mh_ifT c44 (mh_lbT t50 rfl))))))), hI0, hF0⟩⟩
    · refine mw_tabIn 88 dX10_cell_18 (by rw [c44]; decide) (by rw [c44]; decide) (by rw [c44]; rfl) (by decide) ?_
      have r_p3 : mh_r p3 (3) (3) := mh_eq1 (show p3.toInt = (3 : Int32).toInt from c44.trans rfl) (mh_r_full p3) rc_3 (3) (3) (by decide)
      refine mw_aload_n 89 rfl 1 dX10_cell_88 rfl rfl ?_
      refine mw_geta 92 rfl dX10_cell_89 gf_X10_27 rfl 62 (mh_rf hI0 59 rfl) ?_
      refine mw_iload 94 rfl 0 dX10_cell_92  rfl ?_
      refine mw_iald 95 rfl dX10_cell_94 rfl r_x41 (by decide) (fun x51 t52 => ?_)
      exact mw_iret dX10_cell_95 rfl ⟨x51, rfl, ⟨(mh_r_full x51), (mh_lbS E_s38 (mh_ifF c40 (mh_lbS E_s42 (mh_ifF (by rw [c44]; decide) (mh_ifF (by rw [c44]; decide) (mh_ifF (by rw [c44]; decide) (mh_ifT c44 (mh_lbT t52 rfl)))))))), hI0, hF0⟩⟩
    · refine mw_tabIn 96 dX10_cell_18 (by rw [c44]; decide) (by rw [c44]; decide) (by rw [c44]; rfl) (by decide) ?_
      have r_p3 : mh_r p3 (4) (4) := mh_eq1 (show p3.toInt = (4 : Int32).toInt from c44.trans rfl) (mh_r_full p3) rc_4 (4) (4) (by decide)
      refine mw_aload_n 97 rfl 1 dX10_cell_96 rfl rfl ?_
      refine mw_iload 99 rfl 0 dX10_cell_97  rfl ?_
      refine mw_callVi [.int x41] [] 102 rfl dX10_cell_99 ml_X10_349 mc_X10_mistAt mk_X10_mistAt rfl rfl (by decide) (w_eX10_mistAt l G (d + 1) ⟨by omega, by omega⟩ hI0 x41 r_x41) rfl rfl (Nat.le_of_ble_eq_true rfl) (mh_rok (by omega) (by decide)) (fun x53 s54 q55 => ?_)
      obtain ⟨r_x53, E_s54, e0_s54, hI_s54, hG_s54⟩ := q55
      have hF_s54 : mh_F S_eX10_cell s0 s54 := mh_F_tl hF0 hG_s54 (by decide +kernel)
      exact mw_iret dX10_cell_102 rfl ⟨x53, rfl, ⟨(mh_r_wk r_x53 (by decide)), (mh_lbS E_s38 (mh_ifF c40 (mh_lbS E_s42 (mh_ifF (by rw [c44]; decide) (mh_ifF (by rw [c44]; decide) (mh_ifF (by rw [c44]; decide) (mh_ifF (by rw [c44]; decide) (mh_ifT c44 (mh_lb2T E_s54 rfl))))))))), hI_s54, hF_s54⟩⟩
    · refine mw_tabIn 103 dX10_cell_18 (by rw [c44]; decide) (by rw [c44]; decide) (by rw [c44]; rfl) (by decide) ?_
      have r_p3 : mh_r p3 (5) (5) := mh_eq1 (show p3.toInt = (5 : Int32).toInt from c44.trans rfl) (mh_r_full p3) rc_5 (5) (5) (by decide)
      refine mw_aload_n 104 rfl 1 dX10_cell_103 rfl rfl ?_
      refine mw_iload 106 rfl 0 dX10_cell_104  rfl ?_
      refine mw_callVi [.int x41] [] 109 rfl dX10_cell_106 ml_X10_349 mc_X10_mistAt mk_X10_mistAt rfl rfl (by decide) (w_eX10_mistAt l G (d + 1) ⟨by omega, by omega⟩ hI0 x41 r_x41) rfl rfl (Nat.le_of_ble_eq_true rfl) (mh_rok (by omega) (by decide)) (fun x56 s57 q58 => ?_)
      obtain ⟨r_x56, E_s57, e0_s57, hI_s57, hG_s57⟩ := q58
      have hF_s57 : mh_F S_eX10_cell s0 s57 := mh_F_tl hF0 hG_s57 (by decide +kernel)
      refine mw_if_le 112 rfl 129 dX10_cell_109 (by decide) (fun c59 => ?_) (fun c59 => ?_)
      · skip
        have r_x56 : mh_r x56 (0) (0) := mh_le1 (show x56.toInt ≤ (0 : Int32).toInt from c59) r_x56 rc_0 (0) (by decide)
        refine mw_bipush (v := -2) 131 rfl dX10_cell_129 (by decide) ?_
        exact mw_iret dX10_cell_131 rfl ⟨(-2), rfl, ⟨(mh_r_wk rc_m2 (by decide)), (mh_lbS E_s38 (mh_ifF c40 (mh_lbS E_s42 (mh_ifF (by rw [c44]; decide) (mh_ifF (by rw [c44]; decide) (mh_ifF (by rw [c44]; decide) (mh_ifF (by rw [c44]; decide) (mh_ifF (by rw [c44]; decide) (mh_ifT c44 (mh_lb2T E_s57 (mh_ifF (Int.not_lt.mpr c59) rfl))))))))))), hI_s57, hF_s57⟩⟩
      · skip
        have r_x56 : mh_r x56 (1) (99) := mh_lt2 (show (0 : Int32).toInt < x56.toInt from c59) rc_0 r_x56 (1) (by decide)
        refine mw_aload_n 113 rfl 1 dX10_cell_112 rfl rfl ?_
        refine mw_geta 116 rfl dX10_cell_113 gf_X10_17 rfl 59 (mh_rf hI_s57 56 rfl) ?_
        refine mw_iload 118 rfl 0 dX10_cell_116  rfl ?_
        refine mw_iald 119 rfl dX10_cell_118 rfl r_x41 (by decide) (fun x60 t61 => ?_)
        refine mw_aload_n 120 rfl 1 dX10_cell_119 rfl rfl ?_
        refine mw_iload 122 rfl 0 dX10_cell_120  rfl ?_
        refine mw_callVi [.int x41] [.int x60] 125 rfl dX10_cell_122 ml_X10_349 mc_X10_mistAt mk_X10_mistAt rfl rfl (by decide) (w_eX10_mistAt l G (d + 1) ⟨by omega, by omega⟩ hI_s57 x41 r_x41) rfl rfl (Nat.le_of_ble_eq_true rfl) (mh_rok (by omega) (by decide)) (fun x62 s63 q64 => ?_)
        obtain ⟨r_x62, E_s63, e0_s63, hI_s63, hG_s63⟩ := q64
        have hF_s63 : mh_F S_eX10_cell s0 s63 := mh_F_tl hF_s57 hG_s63 (by decide +kernel)
        refine mw_iadd_u 126 rfl dX10_cell_125 (fun x65 t66 => ?_)
        refine mw_goto 129 rfl 131 dX10_cell_126 (by decide) ?_
        exact mw_iret dX10_cell_131 rfl ⟨x65, rfl, ⟨(mh_r_full x65), (mh_lbS E_s38 (mh_ifF c40 (mh_lbS E_s42 (mh_ifF (by rw [c44]; decide) (mh_ifF (by rw [c44]; decide) (mh_ifF (by rw [c44]; decide) (mh_ifF (by rw [c44]; decide) (mh_ifF (by rw [c44]; decide) (mh_ifT c44 (mh_lb2T E_s57 (mh_ifT c59 (mh_lbT t61 (mh_lb2T E_s63 (mh_lbT t66 rfl)))))))))))))), hI_s63, hF_s63⟩⟩
    · refine mw_tabIn 132 dX10_cell_18 (by rw [c44]; decide) (by rw [c44]; decide) (by rw [c44]; rfl) (by decide) ?_
      have r_p3 : mh_r p3 (6) (6) := mh_eq1 (show p3.toInt = (6 : Int32).toInt from c44.trans rfl) (mh_r_full p3) rc_6 (6) (6) (by decide)
      refine mw_aload_n 133 rfl 1 dX10_cell_132 rfl rfl ?_
      refine mw_iload 135 rfl 0 dX10_cell_133  rfl ?_
      refine mw_callVi [.int x41] [] 138 rfl dX10_cell_135 ml_X10_379 mc_X10_yardsAt mk_X10_yardsAt rfl rfl (by decide) (w_eX10_yardsAt l G (d + 0) ⟨by omega, by omega⟩ hI0 x41 r_x41) rfl rfl (Nat.le_of_ble_eq_true rfl) (mh_rok (by omega) (by decide)) (fun x67 s68 q69 => ?_)
      obtain ⟨r_x67, E_s68, hI_s68, hG_s68⟩ := q69
      have hF_s68 : mh_F S_eX10_cell s0 s68 := mh_F_tl hF0 hG_s68 (by decide +kernel)
      exact mw_iret dX10_cell_138 rfl ⟨x67, rfl, ⟨(mh_r_wk r_x67 (by decide)), (mh_lbS E_s38 (mh_ifF c40 (mh_lbS E_s42 (mh_ifF (by rw [c44]; decide) (mh_ifF (by rw [c44]; decide) (mh_ifF (by rw [c44]; decide) (mh_ifF (by rw [c44]; decide) (mh_ifF (by rw [c44]; decide) (mh_ifF (by rw [c44]; decide) (mh_ifT c44 (mh_lb2T E_s68 rfl))))))))))), hI_s68, hF_s68⟩⟩
    · refine mw_tabIn 139 dX10_cell_18 (by rw [c44]; decide) (by rw [c44]; decide) (by rw [c44]; rfl) (by decide) ?_
      have r_p3 : mh_r p3 (7) (7) := mh_eq1 (show p3.toInt = (7 : Int32).toInt from c44.trans rfl) (mh_r_full p3) rc_7 (7) (7) (by decide)
      refine mw_aload_n 140 rfl 1 dX10_cell_139 rfl rfl ?_
      refine mw_iload 142 rfl 0 dX10_cell_140  rfl ?_
      refine mw_callVi [.int x41] [] 145 rfl dX10_cell_142 ml_X10_355 mc_X10_levelAt mk_X10_levelAt rfl rfl (by decide) (w_eX10_levelAt l G (d + 8) ⟨by omega, by omega⟩ hI0 x41 r_x41) rfl rfl (Nat.le_of_ble_eq_true rfl) (mh_rok (by omega) (by decide)) (fun x70 s71 q72 => ?_)
      obtain ⟨r_x70, E_s71, rfl⟩ := q72
      exact mw_iret dX10_cell_145 rfl ⟨x70, rfl, ⟨r_x70, (mh_lbS E_s38 (mh_ifF c40 (mh_lbS E_s42 (mh_ifF (by rw [c44]; decide) (mh_ifF (by rw [c44]; decide) (mh_ifF (by rw [c44]; decide) (mh_ifF (by rw [c44]; decide) (mh_ifF (by rw [c44]; decide) (mh_ifF (by rw [c44]; decide) (mh_ifF (by rw [c44]; decide) (mh_ifT c44 (mh_lbS E_s71 rfl)))))))))))), hI0, hF0⟩⟩
    · refine mw_tabOut 146 dX10_cell_18 c44 (by decide) ?_
      refine mw_iconst (v := -1) 147 rfl dX10_cell_146 (by decide) ?_
      exact mw_iret dX10_cell_147 rfl ⟨(-1), rfl, ⟨(mh_r_wk rc_m1 (by decide)), (mh_lbS E_s38 (mh_ifF c40 (mh_lbS E_s42 (mh_ifF (by omega) (mh_ifF (by omega) (mh_ifF (by omega) (mh_ifF (by omega) (mh_ifF (by omega) (mh_ifF (by omega) (mh_ifF (by omega) (mh_ifF (by omega) rfl))))))))))), hI0, hF0⟩⟩
  · skip
    have r_x37 : mh_r x37 (0) (0) := mh_eq1 (show x37.toInt = (0 : Int32).toInt from c40) r_x37 rc_0 (0) (0) (by decide)
    refine mw_iconst (v := -1) 9 rfl dX10_cell_8 (by decide) ?_
    exact mw_iret dX10_cell_9 rfl ⟨(-1), rfl, ⟨(mh_r_wk rc_m1 (by decide)), (mh_lbS E_s38 (mh_ifT c40 rfl)), hI0, hF0⟩⟩

def S_eX10_sums : List (Nat × Nat) := [(57, 33), (57, 34), (57, 35), (57, 36), (57, 37), (78, 9999), (77, 9999)]
def ls_eX10_sums_38_1 (s0 : mh_H) (lo_38_1 : Int32 → Int32 → Int32 × mh_H) (x313 : Int32) (x314 : Int32) : Int32 × mh_H := if x313.toInt < (144 : Int32).toInt then mh_lb (s0.1 61 x313.toNatClampNeg) (fun x325 => mh_lb (x314 + x325) (fun x327 => mh_lb (x313 + (1 : Int32)) (fun x329 => (lo_38_1 x329 x327)))) else (x314, s0)
def l_eX10_sums_38_1 (s0 : mh_H) : Nat → Int32 → Int32 → Int32 × mh_H
  | 0 => fun _ _ => (0, s0)
  | n + 1 => ls_eX10_sums_38_1 s0 (l_eX10_sums_38_1 s0 n)
theorem l_eX10_sums_38_1_s (s0 : mh_H) (n : Nat) : l_eX10_sums_38_1 s0 (n + 1) = ls_eX10_sums_38_1 s0 (l_eX10_sums_38_1 s0 n) := rfl
def ls_eX10_sums_64_2 (s0 : mh_H) (lo_64_2 : Int32 → Int32 → Int32 × mh_H) (x419 : Int32) (x420 : Int32) : Int32 × mh_H := if x419.toInt < (144 : Int32).toInt then mh_lb (s0.1 62 x419.toNatClampNeg) (fun x431 => mh_lb (x420 + x431) (fun x433 => mh_lb (x419 + (1 : Int32)) (fun x435 => (lo_64_2 x435 x433)))) else (x420, s0)
def l_eX10_sums_64_2 (s0 : mh_H) : Nat → Int32 → Int32 → Int32 × mh_H
  | 0 => fun _ _ => (0, s0)
  | n + 1 => ls_eX10_sums_64_2 s0 (l_eX10_sums_64_2 s0 n)
theorem l_eX10_sums_64_2_s (s0 : mh_H) (n : Nat) : l_eX10_sums_64_2 s0 (n + 1) = ls_eX10_sums_64_2 s0 (l_eX10_sums_64_2 s0 n) := rfl
def f_eX10_sums (s0 : mh_H) (p1 : Int32) : Int32 × mh_H := if p1.toInt = 0 then (l_eX10_sums_38_1 s0 145 (0 : Int32) (0 : Int32)) else if p1.toInt = 1 then (l_eX10_sums_64_2 s0 145 (0 : Int32) (0 : Int32)) else if p1.toInt = 2 then mh_lb (s0.2.1 57 4) (fun y437 => mh_lb (Int64.toInt32 y437) (fun x439 => (x439, s0))) else if p1.toInt = 3 then mh_lb2 (f_eX10_misty s0) (fun x441 s442 => (x441, s442)) else if p1.toInt = 4 then mh_lb2 (f_eX10_highestTop s0) (fun x444 s445 => (x444, s445)) else ((-1 : Int32), s0)
def P_eX10_sums (B D : Int) (s0 : mh_H) (p1 : Int32) : Int32 → mh_H → Prop := fun z s => mh_r z (-2147483648) (2147483647) ∧ f_eX10_sums s0 p1 = (z, s) ∧ mh_I B D s ∧ mh_F S_eX10_sums s0 s
set_option maxRecDepth 100000 in
set_option maxHeartbeats 4000000 in
theorem w_eX10_sums (l : Launch) (G : mh_G) (d : Nat) {B D : Int} (hB : B ≤ 1820000000 ∧ D ≤ 1820000000) {s0 : mh_H} (hI0 : mh_I B D s0) (p1 : Int32) : mh_Mi l G (d + 9) mM_X10_sums [.ref (G.2.2.2 57), .int p1] s0 (P_eX10_sums B D s0 p1) := by
  refine mh_enter (lv := [(0, .ref (G.2.2.2 57)), (1, .int p1)]) (by decide) rfl (Nat.le_of_ble_eq_true rfl) ?_
  have hF0 : mh_F S_eX10_sums s0 s0 := mh_F_rf
  refine mw_iconst (v := 0) 1 rfl dX10_sums_0 (by decide) ?_
  refine mw_istore_n 2 rfl [(2, .int (0)), (0, .ref (G.2.2.2 57)), (1, .int p1)] dX10_sums_1 rfl (by decide) rfl ?_
  refine mw_iload_n 3 rfl 2 dX10_sums_2 rfl rfl ?_
  rcases (show p1.toInt = 0 ∨ p1.toInt = 1 ∨ p1.toInt = 2 ∨ p1.toInt = 3 ∨ p1.toInt = 4 ∨ (p1.toInt < 0 ∨ 4 < p1.toInt) by have := (mh_r_full p1).1; have := (mh_r_full p1).2; omega) with c224 | c224 | c224 | c224 | c224 | c224
  · refine mw_tabIn 36 dX10_sums_3 (by rw [c224]; decide) (by rw [c224]; decide) (by rw [c224]; rfl) (by decide) ?_
    have r_p1 : mh_r p1 (0) (0) := mh_eq1 (show p1.toInt = (0 : Int32).toInt from c224.trans rfl) (mh_r_full p1) rc_0 (0) (0) (by decide)
    refine mw_iconst (v := 0) 37 rfl dX10_sums_36 (by decide) ?_
    refine mw_istore_n 38 rfl [(3, .int (0)), (2, .int (0)), (0, .ref (G.2.2.2 57)), (1, .int p1)] dX10_sums_37 rfl (by decide) rfl ?_
    have L38 : ∀ n1 : Nat, ∀ (x313 : Int32) (x314 : Int32), mh_r x313 (0) (144) → (f_eX10_sums s0 p1 = l_eX10_sums_38_1 s0 n1 x313 x314) → (144) - x313.toInt < (n1 : Int) → mh_W G (mh_XM l G (d + 9) (mh_Qi (P_eX10_sums B D s0 p1))) mM_X10_sums 38 [(0, .ref (G.2.2.2 57)), (1, .int p1), (2, .int x314), (3, .int x313)] [] s0 := by
      intro n1
      induction n1 with
      | zero =>
        intro x313 x314 r_x313 hE1 hmn1
        exact absurd hmn1 (by have := r_x313.1; have := r_x313.2; omega)
      | succ n1 ihn1 =>
        intro x313 x314 r_x313 hE1 hmn1
        rw [l_eX10_sums_38_1_s] at hE1
        refine mw_iload_n 39 rfl 3 dX10_sums_38 rfl rfl ?_
        refine mw_sipush (v := 144) 42 rfl dX10_sums_39 (by decide) ?_
        refine mw_icmp_ge 45 rfl 60 dX10_sums_42 (by decide) (fun c324 => ?_) (fun c324 => ?_)
        · skip
          have r_x313 : mh_r x313 (144) (144) := mh_le2 c324 rc_144 r_x313 (144) (by decide)
          refine mw_iload_n 61 rfl 2 dX10_sums_60 rfl rfl ?_
          exact mw_iret dX10_sums_61 rfl ⟨x314, rfl, ⟨(mh_r_full x314), (Eq.trans hE1 (mh_ifF (Int.not_lt.mpr c324) rfl)), hI0, hF0⟩⟩
        · skip
          have r_x313 : mh_r x313 (0) (143) := mh_lt1 c324 r_x313 rc_144 (143) (by decide)
          refine mw_iload_n 46 rfl 2 dX10_sums_45 rfl rfl ?_
          refine mw_aload_n 47 rfl 0 dX10_sums_46 rfl rfl ?_
          refine mw_geta 50 rfl dX10_sums_47 gf_X10_24 rfl 61 (mh_rf hI0 58 rfl) ?_
          refine mw_iload_n 51 rfl 3 dX10_sums_50 rfl rfl ?_
          refine mw_iald 52 rfl dX10_sums_51 rfl r_x313 (by decide) (fun x325 t326 => ?_)
          refine mw_iadd_u 53 rfl dX10_sums_52 (fun x327 t328 => ?_)
          refine mw_istore_n 54 rfl [(2, .int x327), (0, .ref (G.2.2.2 57)), (1, .int p1), (3, .int x313)] dX10_sums_53 rfl (by decide) rfl ?_
          refine mw_iincR (k := 3) (1) (144) 57 rfl (fun z => [(3, .int z), (2, .int x327), (0, .ref (G.2.2.2 57)), (1, .int p1)]) dX10_sums_54 rfl (by decide) (fun _ => rfl) r_x313 (by decide) (by decide) (fun x329 t330 r_x329 => ?_)
          refine mw_goto 60 rfl 38 dX10_sums_57 (by decide) ?_
          exact mw_lv [2, 3, 1, 0] rfl (ihn1 x329 x327 (mh_r_wk r_x329 (by decide)) (Eq.trans hE1 (mh_ifT c324 (mh_lbT t326 (mh_lbT t328 (mh_lbT (mh_einc t330 rfl) rfl))))) (by have : x329.toInt = x313.toInt + (1) := t330; omega))
    exact mw_lv [2, 3, 1, 0] rfl (L38 145 (0) (0) (mh_r_wk rc_0 (by decide)) (mh_ifT c224 rfl) (by have := (rc_0).1; have := (rc_0).2; omega))
  · refine mw_tabIn 62 dX10_sums_3 (by rw [c224]; decide) (by rw [c224]; decide) (by rw [c224]; rfl) (by decide) ?_
    have r_p1 : mh_r p1 (1) (1) := mh_eq1 (show p1.toInt = (1 : Int32).toInt from c224.trans rfl) (mh_r_full p1) rc_1 (1) (1) (by decide)
    refine mw_iconst (v := 0) 63 rfl dX10_sums_62 (by decide) ?_
    refine mw_istore_n 64 rfl [(3, .int (0)), (2, .int (0)), (0, .ref (G.2.2.2 57)), (1, .int p1)] dX10_sums_63 rfl (by decide) rfl ?_
    have L64 : ∀ n2 : Nat, ∀ (x419 : Int32) (x420 : Int32), mh_r x419 (0) (144) → (f_eX10_sums s0 p1 = l_eX10_sums_64_2 s0 n2 x419 x420) → (144) - x419.toInt < (n2 : Int) → mh_W G (mh_XM l G (d + 9) (mh_Qi (P_eX10_sums B D s0 p1))) mM_X10_sums 64 [(0, .ref (G.2.2.2 57)), (1, .int p1), (2, .int x420), (3, .int x419)] [] s0 := by
      intro n2
      induction n2 with
      | zero =>
        intro x419 x420 r_x419 hE2 hmn2
        exact absurd hmn2 (by have := r_x419.1; have := r_x419.2; omega)
      | succ n2 ihn2 =>
        intro x419 x420 r_x419 hE2 hmn2
        rw [l_eX10_sums_64_2_s] at hE2
        refine mw_iload_n 65 rfl 3 dX10_sums_64 rfl rfl ?_
        refine mw_sipush (v := 144) 68 rfl dX10_sums_65 (by decide) ?_
        refine mw_icmp_ge 71 rfl 86 dX10_sums_68 (by decide) (fun c430 => ?_) (fun c430 => ?_)
        · skip
          have r_x419 : mh_r x419 (144) (144) := mh_le2 c430 rc_144 r_x419 (144) (by decide)
          refine mw_iload_n 87 rfl 2 dX10_sums_86 rfl rfl ?_
          exact mw_iret dX10_sums_87 rfl ⟨x420, rfl, ⟨(mh_r_full x420), (Eq.trans hE2 (mh_ifF (Int.not_lt.mpr c430) rfl)), hI0, hF0⟩⟩
        · skip
          have r_x419 : mh_r x419 (0) (143) := mh_lt1 c430 r_x419 rc_144 (143) (by decide)
          refine mw_iload_n 72 rfl 2 dX10_sums_71 rfl rfl ?_
          refine mw_aload_n 73 rfl 0 dX10_sums_72 rfl rfl ?_
          refine mw_geta 76 rfl dX10_sums_73 gf_X10_27 rfl 62 (mh_rf hI0 59 rfl) ?_
          refine mw_iload_n 77 rfl 3 dX10_sums_76 rfl rfl ?_
          refine mw_iald 78 rfl dX10_sums_77 rfl r_x419 (by decide) (fun x431 t432 => ?_)
          refine mw_iadd_u 79 rfl dX10_sums_78 (fun x433 t434 => ?_)
          refine mw_istore_n 80 rfl [(2, .int x433), (0, .ref (G.2.2.2 57)), (1, .int p1), (3, .int x419)] dX10_sums_79 rfl (by decide) rfl ?_
          refine mw_iincR (k := 3) (1) (144) 83 rfl (fun z => [(3, .int z), (2, .int x433), (0, .ref (G.2.2.2 57)), (1, .int p1)]) dX10_sums_80 rfl (by decide) (fun _ => rfl) r_x419 (by decide) (by decide) (fun x435 t436 r_x435 => ?_)
          refine mw_goto 86 rfl 64 dX10_sums_83 (by decide) ?_
          exact mw_lv [2, 3, 1, 0] rfl (ihn2 x435 x433 (mh_r_wk r_x435 (by decide)) (Eq.trans hE2 (mh_ifT c430 (mh_lbT t432 (mh_lbT t434 (mh_lbT (mh_einc t436 rfl) rfl))))) (by have : x435.toInt = x419.toInt + (1) := t436; omega))
    exact mw_lv [2, 3, 1, 0] rfl (L64 145 (0) (0) (mh_r_wk rc_0 (by decide)) (mh_ifF (by rw [c224]; decide) (mh_ifT c224 rfl)) (by have := (rc_0).1; have := (rc_0).2; omega))
  · refine mw_tabIn 88 dX10_sums_3 (by rw [c224]; decide) (by rw [c224]; decide) (by rw [c224]; rfl) (by decide) ?_
    have r_p1 : mh_r p1 (2) (2) := mh_eq1 (show p1.toInt = (2 : Int32).toInt from c224.trans rfl) (mh_r_full p1) rc_2 (2) (2) (by decide)
    refine mw_aload_n 89 rfl 1 dX10_sums_88 rfl rfl ?_
    refine mw_getl 92 rfl dX10_sums_89 gf_X10_361 rfl (fun y437 t438 => ?_)
    refine mw_l2i 93 rfl dX10_sums_92 (fun x439 t440 => ?_)
    exact mw_iret dX10_sums_93 rfl ⟨x439, rfl, ⟨(mh_r_full x439), (mh_ifF (by rw [c224]; decide) (mh_ifF (by rw [c224]; decide) (mh_ifT c224 (mh_lbT t438 (mh_lbT t440 rfl))))), hI0, hF0⟩⟩
  · refine mw_tabIn 94 dX10_sums_3 (by rw [c224]; decide) (by rw [c224]; decide) (by rw [c224]; rfl) (by decide) ?_
    have r_p1 : mh_r p1 (3) (3) := mh_eq1 (show p1.toInt = (3 : Int32).toInt from c224.trans rfl) (mh_r_full p1) rc_3 (3) (3) (by decide)
    refine mw_aload_n 95 rfl 1 dX10_sums_94 rfl rfl ?_
    refine mw_callVi [] [] 98 rfl dX10_sums_95 ml_X10_382 mc_X10_misty mk_X10_misty rfl rfl (by decide) (w_eX10_misty l G (d + 0) ⟨by omega, by omega⟩ hI0) rfl rfl (Nat.le_of_ble_eq_true rfl) (mh_rok (by omega) (by decide)) (fun x441 s442 q443 => ?_)
    obtain ⟨r_x441, E_s442, e0_s442, hI_s442, hG_s442⟩ := q443
    have hF_s442 : mh_F S_eX10_sums s0 s442 := mh_F_tl hF0 hG_s442 (by decide +kernel)
    exact mw_iret dX10_sums_98 rfl ⟨x441, rfl, ⟨(mh_r_wk r_x441 (by decide)), (mh_ifF (by rw [c224]; decide) (mh_ifF (by rw [c224]; decide) (mh_ifF (by rw [c224]; decide) (mh_ifT c224 (mh_lb2T E_s442 rfl))))), hI_s442, hF_s442⟩⟩
  · refine mw_tabIn 99 dX10_sums_3 (by rw [c224]; decide) (by rw [c224]; decide) (by rw [c224]; rfl) (by decide) ?_
    have r_p1 : mh_r p1 (4) (4) := mh_eq1 (show p1.toInt = (4 : Int32).toInt from c224.trans rfl) (mh_r_full p1) rc_4 (4) (4) (by decide)
    refine mw_aload_n 100 rfl 1 dX10_sums_99 rfl rfl ?_
    refine mw_callVi [] [] 103 rfl dX10_sums_100 ml_X10_385 mc_X10_highestTop mk_X10_highestTop rfl rfl (by decide) (w_eX10_highestTop l G (d + 0) ⟨by omega, by omega⟩ hI0) rfl rfl (Nat.le_of_ble_eq_true rfl) (mh_rok (by omega) (by decide)) (fun x444 s445 q446 => ?_)
    obtain ⟨r_x444, E_s445, hI_s445, hG_s445⟩ := q446
    have hF_s445 : mh_F S_eX10_sums s0 s445 := mh_F_tl hF0 hG_s445 (by decide +kernel)
    exact mw_iret dX10_sums_103 rfl ⟨x444, rfl, ⟨(mh_r_wk r_x444 (by decide)), (mh_ifF (by rw [c224]; decide) (mh_ifF (by rw [c224]; decide) (mh_ifF (by rw [c224]; decide) (mh_ifF (by rw [c224]; decide) (mh_ifT c224 (mh_lb2T E_s445 rfl)))))), hI_s445, hF_s445⟩⟩
  · refine mw_tabOut 104 dX10_sums_3 c224 (by decide) ?_
    refine mw_iconst (v := -1) 105 rfl dX10_sums_104 (by decide) ?_
    exact mw_iret dX10_sums_105 rfl ⟨(-1), rfl, ⟨(mh_r_wk rc_m1 (by decide)), (mh_ifF (by omega) (mh_ifF (by omega) (mh_ifF (by omega) (mh_ifF (by omega) (mh_ifF (by omega) rfl))))), hI0, hF0⟩⟩

def S_eX10_sun : List (Nat × Nat) := [(83, 9999), (84, 9999), (85, 9999), (86, 9999), (87, 9999), (88, 9999), (57, 33), (57, 34), (57, 35), (57, 36), (57, 37), (78, 9999), (77, 9999), (79, 9999), (80, 9999), (61, 9999), (62, 9999), (82, 9999), (81, 9999), (57, 4), (57, 2), (59, 9999), (60, 9999)]
def j_eX10_sun_103_2 (lo_58_1 : mh_H → Int32 → Int32 → Int32 × mh_H) (s882 : mh_H) (x850 : Int32) (x851 : Int32) (x890 : Int32) : Int32 × mh_H := mh_lb (x851 + x890) (fun x895 => mh_lb (x850 + (1 : Int32)) (fun x897 => (lo_58_1 s882 x897 x895)))
def j_eX10_sun_98_3 (lo_58_1 : mh_H → Int32 → Int32 → Int32 × mh_H) (s882 : mh_H) (x850 : Int32) (x851 : Int32) : Int32 × mh_H := (j_eX10_sun_103_2 lo_58_1 s882 x850 x851 (1 : Int32))
def ls_eX10_sun_58_1 (p3 : Int32) (p4 : Int32) (x469 : Int32) (lo_58_1 : mh_H → Int32 → Int32 → Int32 × mh_H) (s852 : mh_H) (x850 : Int32) (x851 : Int32) : Int32 × mh_H := if x850.toInt < p4.toInt then mh_lb (f_eX10_stepOne s852) (fun s879 => mh_lb2 (f_eX10_mistAt s879 x469) (fun x881 s882 => if x881.toInt = 0 then (j_eX10_sun_98_3 lo_58_1 s882 x850 x851) else mh_lb (s882.1 59 x469.toNatClampNeg) (fun x900 => mh_lb (x900 + x881) (fun x902 => if p3.toInt < x902.toInt then (j_eX10_sun_103_2 lo_58_1 s882 x850 x851 (0 : Int32)) else (j_eX10_sun_98_3 lo_58_1 s882 x850 x851))))) else mh_lb (f_eX10_putsBack s852 (0 : Int32)) (fun s876 => (x851, s876))
def l_eX10_sun_58_1 (p3 : Int32) (p4 : Int32) (x469 : Int32) : Nat → mh_H → Int32 → Int32 → Int32 × mh_H
  | 0 => fun s852 _ _ => (0, s852)
  | n + 1 => ls_eX10_sun_58_1 p3 p4 x469 (l_eX10_sun_58_1 p3 p4 x469 n)
theorem l_eX10_sun_58_1_s (p3 : Int32) (p4 : Int32) (x469 : Int32) (n : Nat) : l_eX10_sun_58_1 p3 p4 x469 (n + 1) = ls_eX10_sun_58_1 p3 p4 x469 (l_eX10_sun_58_1 p3 p4 x469 n) := rfl
def f_eX10_sun (s0 : mh_H) (p1 : Int32) (p2 : Int32) (p3 : Int32) (p4 : Int32) : Int32 × mh_H := mh_lb (f_eX10_isCell s0 p1 p2) (fun x448 => if x448.toInt = 0 then ((-1 : Int32), s0) else mh_lb (f_eX10_isNight s0 p4) (fun x452 => if x452.toInt = 0 then ((-1 : Int32), s0) else mh_lb (Int32.toInt64 p3) (fun y456 => mh_lb (f_eX10_cellAt s0 p1 p2) (fun x458 => mh_lb (s0.1 59 x458.toNatClampNeg) (fun x461 => mh_lb (Int32.toInt64 x461) (fun y463 => mh_lb (f_eX10_lies s0 y456 y463 (198 : Int64)) (fun x465 => if x465.toInt = 0 then ((-1 : Int32), s0) else mh_lb (f_eX10_cellAt s0 p1 p2) (fun x469 => mh_lb (f_eX10_setsAside s0 (0 : Int32)) (fun s473 => (l_eX10_sun_58_1 p3 p4 x469 61 s473 (0 : Int32) (0 : Int32)))))))))))
def P_eX10_sun (B D : Int) (s0 : mh_H) (p1 : Int32) (p2 : Int32) (p3 : Int32) (p4 : Int32) : Int32 → mh_H → Prop := fun z s => mh_r z (-2147483648) (2147483647) ∧ f_eX10_sun s0 p1 p2 p3 p4 = (z, s) ∧ mh_I B B s ∧ mh_F S_eX10_sun s0 s
set_option maxRecDepth 100000 in
set_option maxHeartbeats 4000000 in
theorem w_eX10_sun (l : Launch) (G : mh_G) (d : Nat) {B D : Int} (hB : B ≤ 1820000000 ∧ D ≤ 1820000000) {s0 : mh_H} (hI0 : mh_I B B s0) (p1 : Int32) (p2 : Int32) (p3 : Int32) (p4 : Int32) : mh_Mi l G (d + 9) mM_X10_sun [.ref (G.2.2.2 57), .int p1, .int p2, .int p3, .int p4] s0 (P_eX10_sun B D s0 p1 p2 p3 p4) := by
  refine mh_enter (lv := [(0, .ref (G.2.2.2 57)), (1, .int p1), (2, .int p2), (3, .int p3), (4, .int p4)]) (by decide) rfl (Nat.le_of_ble_eq_true rfl) ?_
  have hF0 : mh_F S_eX10_sun s0 s0 := mh_F_rf
  refine mw_iload_n 1 rfl 1 dX10_sun_0 rfl rfl ?_
  refine mw_iload_n 2 rfl 2 dX10_sun_1 rfl rfl ?_
  refine mw_callSi [.int p1, .int p2] [] 5 rfl dX10_sun_2 ml_X10_166 mc_X10_isCell mk_X10_isCell (w_eX10_isCell l G (d + 6) ⟨by have := kc_m1; have := kc_0; have := kc_1; skip; omega, by have := kc_m1; have := kc_0; have := kc_1; skip; omega⟩ hI0 p1 p2) rfl rfl (Nat.le_of_ble_eq_true rfl) (mh_rok (by omega) (by decide)) (fun x448 s449 q450 => ?_)
  obtain ⟨r_x448, E_s449, e0_s449, rfl⟩ := q450
  refine mw_if_eq 8 rfl 38 dX10_sun_5 (by decide) (fun c451 => ?_) (fun c451 => ?_)
  · skip
    have r_x448 : mh_r x448 (0) (0) := mh_eq1 (show x448.toInt = (0 : Int32).toInt from c451) r_x448 rc_0 (0) (0) (by decide)
    refine mw_iconst (v := -1) 39 rfl dX10_sun_38 (by decide) ?_
    exact mw_iret dX10_sun_39 rfl ⟨(-1), rfl, ⟨(mh_r_wk rc_m1 (by decide)), (mh_lbS E_s449 (mh_ifT c451 rfl)), hI0, hF0⟩⟩
  · skip
    have r_p1 : mh_r p1 (0) (11) := ⟨by have := e0_s449.1 (mh_z1 r_x448 c451); have := ((mh_r_full p1)).1; omega, by have := e0_s449.1 (mh_z1 r_x448 c451); have := ((mh_r_full p1)).2; omega⟩
    have r_p2 : mh_r p2 (0) (11) := ⟨by have := e0_s449.1 (mh_z1 r_x448 c451); have := ((mh_r_full p2)).1; omega, by have := e0_s449.1 (mh_z1 r_x448 c451); have := ((mh_r_full p2)).2; omega⟩
    have r_x448 : mh_r x448 (1) (1) := mh_ne1 (show x448.toInt ≠ (0 : Int32).toInt from c451) r_x448 rc_0 (1) (1) (by decide)
    refine mw_iload 10 rfl 4 dX10_sun_8  rfl ?_
    refine mw_callSi [.int p4] [] 13 rfl dX10_sun_10 ml_X10_373 mc_X10_isNight mk_X10_isNight (w_eX10_isNight l G (d + 7) ⟨by have := (r_p1).1; have := (r_p1).2; have := (r_p2).1; have := (r_p2).2; have := kc_m1; have := kc_0; have := kc_1; skip; omega, by have := (r_p1).1; have := (r_p1).2; have := (r_p2).1; have := (r_p2).2; have := kc_m1; have := kc_0; have := kc_1; skip; omega⟩ hI0 p4) rfl rfl (Nat.le_of_ble_eq_true rfl) (mh_rok (by omega) (by decide)) (fun x452 s453 q454 => ?_)
    obtain ⟨r_x452, E_s453, e0_s453, rfl⟩ := q454
    refine mw_if_eq 16 rfl 38 dX10_sun_13 (by decide) (fun c455 => ?_) (fun c455 => ?_)
    · skip
      have r_x452 : mh_r x452 (0) (0) := mh_eq1 (show x452.toInt = (0 : Int32).toInt from c455) r_x452 rc_0 (0) (0) (by decide)
      refine mw_iconst (v := -1) 39 rfl dX10_sun_38 (by decide) ?_
      exact mw_iret dX10_sun_39 rfl ⟨(-1), rfl, ⟨(mh_r_wk rc_m1 (by decide)), (mh_lbS E_s449 (mh_ifF c451 (mh_lbS E_s453 (mh_ifT c455 rfl)))), hI0, hF0⟩⟩
    · skip
      have r_p4 : mh_r p4 (1) (60) := ⟨by have := e0_s453.1 (mh_z1 r_x452 c455); have := ((mh_r_full p4)).1; omega, by have := e0_s453.1 (mh_z1 r_x452 c455); have := ((mh_r_full p4)).2; omega⟩
      have r_x452 : mh_r x452 (1) (1) := mh_ne1 (show x452.toInt ≠ (0 : Int32).toInt from c455) r_x452 rc_0 (1) (1) (by decide)
      refine mw_iload_n 17 rfl 3 dX10_sun_16 rfl rfl ?_
      refine mw_i2l 18 rfl dX10_sun_17 (fun y456 t457 => ?_)
      refine mw_aload_n 19 rfl 0 dX10_sun_18 rfl rfl ?_
      refine mw_geta 22 rfl dX10_sun_19 gf_X10_17 rfl 59 (mh_rf hI0 56 rfl) ?_
      refine mw_iload_n 23 rfl 1 dX10_sun_22 rfl rfl ?_
      refine mw_iload_n 24 rfl 2 dX10_sun_23 rfl rfl ?_
      refine mw_callSi [.int p1, .int p2] [.ref (G.2.2.2 59), .long y456] 27 rfl dX10_sun_24 ml_X10_174 mc_X10_cellAt mk_X10_cellAt (w_eX10_cellAt l G (d + 8) ⟨by have := (r_p1).1; have := (r_p1).2; have := (r_p2).1; have := (r_p2).2; have := (r_p4).1; have := (r_p4).2; have := kc_m1; have := kc_0; have := kc_1; skip; omega, by have := (r_p1).1; have := (r_p1).2; have := (r_p2).1; have := (r_p2).2; have := (r_p4).1; have := (r_p4).2; have := kc_m1; have := kc_0; have := kc_1; skip; omega⟩ hI0 p1 r_p1 p2 r_p2) rfl rfl (Nat.le_of_ble_eq_true rfl) (mh_rok (by omega) (by decide)) (fun x458 s459 q460 => ?_)
      obtain ⟨r_x458, E_s459, rfl⟩ := q460
      refine mw_iald 28 rfl dX10_sun_27 rfl r_x458 (by decide) (fun x461 t462 => ?_)
      refine mw_i2l 29 rfl dX10_sun_28 (fun y463 t464 => ?_)
      refine mw_ldc2 32 rfl dX10_sun_29 ck_X10_397 ?_
      refine mw_callSi [.long y456, .long y463, .long (198)] [] 35 rfl dX10_sun_32 ml_X10_154 mc_X10_lies mk_X10_lies (w_eX10_lies l G (d + 8) ⟨by have := (r_p1).1; have := (r_p1).2; have := (r_p2).1; have := (r_p2).2; have := (r_p4).1; have := (r_p4).2; have := kc_m1; have := kc_0; have := kc_1; skip; omega, by have := (r_p1).1; have := (r_p1).2; have := (r_p2).1; have := (r_p2).2; have := (r_p4).1; have := (r_p4).2; have := kc_m1; have := kc_0; have := kc_1; skip; omega⟩ hI0 y456 y463 (198)) rfl rfl (Nat.le_of_ble_eq_true rfl) (mh_rok (by omega) (by decide)) (fun x465 s466 q467 => ?_)
      obtain ⟨r_x465, E_s466, e0_s466, rfl⟩ := q467
      have f_x465 : x465.toInt = 1 ↔ (x461.toInt ≤ p3.toInt ∧ p3.toInt ≤ 198) := by rw [e0_s466]; exact by simp only [t457, t464, Int32.toInt_toInt64]; first | done | exact Iff.rfl
      refine mw_if_ne 38 rfl 40 dX10_sun_35 (by decide) (fun c468 => ?_) (fun c468 => ?_)
      · skip
        have r_x465 : mh_r x465 (1) (1) := mh_ne1 (show x465.toInt ≠ (0 : Int32).toInt from c468) r_x465 rc_0 (1) (1) (by decide)
        refine mw_iload_n 41 rfl 1 dX10_sun_40 rfl rfl ?_
        refine mw_iload_n 42 rfl 2 dX10_sun_41 rfl rfl ?_
        refine mw_callSi [.int p1, .int p2] [] 45 rfl dX10_sun_42 ml_X10_174 mc_X10_cellAt mk_X10_cellAt (w_eX10_cellAt l G (d + 8) ⟨by have := (r_p1).1; have := (r_p1).2; have := (r_p2).1; have := (r_p2).2; have := (r_p4).1; have := (r_p4).2; have := kc_m1; have := kc_0; have := kc_1; skip; omega, by have := (r_p1).1; have := (r_p1).2; have := (r_p2).1; have := (r_p2).2; have := (r_p4).1; have := (r_p4).2; have := kc_m1; have := kc_0; have := kc_1; skip; omega⟩ hI0 p1 r_p1 p2 r_p2) rfl rfl (Nat.le_of_ble_eq_true rfl) (mh_rok (by omega) (by decide)) (fun x469 s470 q471 => ?_)
        obtain ⟨r_x469, E_s470, rfl⟩ := q471
        refine mw_istore 47 rfl [(5, .int x469), (0, .ref (G.2.2.2 57)), (1, .int p1), (2, .int p2), (3, .int p3), (4, .int p4)] dX10_sun_45  (by decide) rfl ?_
        refine mw_aload_n 48 rfl 1 dX10_sun_47 rfl rfl ?_
        refine mw_iconst (v := 0) 49 rfl dX10_sun_48 (by decide) ?_
        refine mw_callVv [.int (0)] [] 52 rfl dX10_sun_49 ml_X10_388 mc_X10_setsAside mk_X10_setsAside rfl rfl (by decide) (w_eX10_setsAside l G (d + 8) ⟨by have := (r_x469).1; have := (r_x469).2; have := (r_p1).1; have := (r_p1).2; have := (r_p2).1; have := (r_p2).2; have := (r_p4).1; have := (r_p4).2; have := kc_m1; have := kc_0; have := kc_1; skip; omega, by have := (r_x469).1; have := (r_x469).2; have := (r_p1).1; have := (r_p1).2; have := (r_p2).1; have := (r_p2).2; have := (r_p4).1; have := (r_p4).2; have := kc_m1; have := kc_0; have := kc_1; skip; omega⟩ hI0 (0) (mh_r_wk rc_0 (by decide)) (by omega)) rfl rfl (Nat.le_of_ble_eq_true rfl) (mh_rok (by omega) (by decide)) (fun s473 q474 => ?_)
        obtain ⟨E_s473, hI_s473, hG_s473⟩ := q474
        have hF_s473 : mh_F S_eX10_sun s0 s473 := mh_F_tl hF0 hG_s473 (by decide +kernel)
        refine mw_iconst (v := 0) 53 rfl dX10_sun_52 (by decide) ?_
        refine mw_istore 55 rfl [(6, .int (0)), (5, .int x469), (0, .ref (G.2.2.2 57)), (1, .int p1), (2, .int p2), (3, .int p3), (4, .int p4)] dX10_sun_53  (by decide) rfl ?_
        refine mw_iconst (v := 0) 56 rfl dX10_sun_55 (by decide) ?_
        refine mw_istore 58 rfl [(7, .int (0)), (6, .int (0)), (5, .int x469), (0, .ref (G.2.2.2 57)), (1, .int p1), (2, .int p2), (3, .int p3), (4, .int p4)] dX10_sun_56  (by decide) rfl ?_
        have L58 : ∀ n1 : Nat, ∀ (x850 : Int32) (x851 : Int32) (s852 : mh_H), mh_r x850 (0) (60) → mh_I (B + x850.toInt) B s852 → mh_F S_eX10_sun s0 s852 → (f_eX10_sun s0 p1 p2 p3 p4 = l_eX10_sun_58_1 p3 p4 x469 n1 s852 x850 x851) → (60) - x850.toInt < (n1 : Int) → mh_W G (mh_XM l G (d + 9) (mh_Qi (P_eX10_sun B D s0 p1 p2 p3 p4))) mM_X10_sun 58 [(0, .ref (G.2.2.2 57)), (1, .int p1), (2, .int p2), (3, .int p3), (4, .int p4), (5, .int x469), (6, .int x851), (7, .int x850)] [] s852 := by
          intro n1
          induction n1 with
          | zero =>
            intro x850 x851 s852 r_x850 hI_s852 hF_s852 hE1 hmn1
            exact absurd hmn1 (by have := r_x850.1; have := r_x850.2; omega)
          | succ n1 ihn1 =>
            intro x850 x851 s852 r_x850 hI_s852 hF_s852 hE1 hmn1
            rw [l_eX10_sun_58_1_s] at hE1
            refine mw_iload 60 rfl 7 dX10_sun_58  rfl ?_
            refine mw_iload 62 rfl 4 dX10_sun_60  rfl ?_
            refine mw_icmp_ge 65 rfl 112 dX10_sun_62 (by decide) (fun c874 => ?_) (fun c874 => ?_)
            · skip
              have r_x850 : mh_r x850 (1) (60) := mh_le2 c874 r_p4 r_x850 (1) (by decide)
              refine mw_aload_n 113 rfl 0 dX10_sun_112 rfl rfl ?_
              refine mw_iconst (v := 0) 114 rfl dX10_sun_113 (by decide) ?_
              refine mw_callVv [.int (0)] [] 117 rfl dX10_sun_114 ml_X10_394 mc_X10_putsBack mk_X10_putsBack rfl rfl (by decide) (w_eX10_putsBack l G (d + 8) ⟨by have := (r_p1).1; have := (r_p1).2; have := (r_p2).1; have := (r_p2).2; have := (r_p4).1; have := (r_p4).2; have := (r_x469).1; have := (r_x469).2; have := (r_x850).1; have := (r_x850).2; have := kc_m1; have := kc_0; have := kc_1; skip; omega, by have := (r_p1).1; have := (r_p1).2; have := (r_p2).1; have := (r_p2).2; have := (r_p4).1; have := (r_p4).2; have := (r_x469).1; have := (r_x469).2; have := (r_x850).1; have := (r_x850).2; have := kc_m1; have := kc_0; have := kc_1; skip; omega⟩ hI_s852 (0) (mh_r_wk rc_0 (by decide))) rfl rfl (Nat.le_of_ble_eq_true rfl) (mh_rok (by omega) (by decide)) (fun s876 q877 => ?_)
              obtain ⟨E_s876, hI_s876, hG_s876⟩ := q877
              have hF_s876 : mh_F S_eX10_sun s0 s876 := mh_F_tl hF_s852 hG_s876 (by decide +kernel)
              refine mw_iload 119 rfl 6 dX10_sun_117  rfl ?_
              exact mw_iret dX10_sun_119 rfl ⟨x851, rfl, ⟨(mh_r_full x851), (Eq.trans hE1 (mh_ifF (Int.not_lt.mpr c874) (mh_lbS E_s876 rfl))), hI_s876, hF_s876⟩⟩
            · skip
              have r_x850 : mh_r x850 (0) (59) := mh_lt1 c874 r_x850 r_p4 (59) (by decide)
              refine mw_aload_n 66 rfl 0 dX10_sun_65 rfl rfl ?_
              refine mw_callVv [] [] 69 rfl dX10_sun_66 ml_X10_376 mc_X10_stepOne mk_X10_stepOne rfl rfl (by decide) (w_eX10_stepOne l G (d + 0) ⟨by have := (r_p1).1; have := (r_p1).2; have := (r_p2).1; have := (r_p2).2; have := (r_p4).1; have := (r_p4).2; have := (r_x469).1; have := (r_x469).2; have := (r_x850).1; have := (r_x850).2; have := kc_m1; have := kc_0; have := kc_1; skip; omega, by have := (r_p1).1; have := (r_p1).2; have := (r_p2).1; have := (r_p2).2; have := (r_p4).1; have := (r_p4).2; have := (r_x469).1; have := (r_x469).2; have := (r_x850).1; have := (r_x850).2; have := kc_m1; have := kc_0; have := kc_1; skip; omega⟩ hI_s852) rfl rfl (Nat.le_of_ble_eq_true rfl) (mh_rok (by omega) (by decide)) (fun s879 q880 => ?_)
              obtain ⟨E_s879, hI_s879, hG_s879⟩ := q880
              have hF_s879 : mh_F S_eX10_sun s0 s879 := mh_F_tl hF_s852 hG_s879 (by decide +kernel)
              refine mw_aload_n 70 rfl 0 dX10_sun_69 rfl rfl ?_
              refine mw_iload 72 rfl 5 dX10_sun_70  rfl ?_
              refine mw_callVi [.int x469] [] 75 rfl dX10_sun_72 ml_X10_349 mc_X10_mistAt mk_X10_mistAt rfl rfl (by decide) (w_eX10_mistAt l G (d + 1) ⟨by have := (r_p1).1; have := (r_p1).2; have := (r_p2).1; have := (r_p2).2; have := (r_p4).1; have := (r_p4).2; have := (r_x469).1; have := (r_x469).2; have := (r_x850).1; have := (r_x850).2; have := kc_m1; have := kc_0; have := kc_1; skip; omega, by have := (r_p1).1; have := (r_p1).2; have := (r_p2).1; have := (r_p2).2; have := (r_p4).1; have := (r_p4).2; have := (r_x469).1; have := (r_x469).2; have := (r_x850).1; have := (r_x850).2; have := kc_m1; have := kc_0; have := kc_1; skip; omega⟩ hI_s879 x469 r_x469) rfl rfl (Nat.le_of_ble_eq_true rfl) (mh_rok (by omega) (by decide)) (fun x881 s882 q883 => ?_)
              obtain ⟨r_x881, E_s882, e0_s882, hI_s882, hG_s882⟩ := q883
              have hF_s882 : mh_F S_eX10_sun s0 s882 := mh_F_tl hF_s879 hG_s882 (by decide +kernel)
              refine mw_istore 77 rfl [(8, .int x881), (0, .ref (G.2.2.2 57)), (1, .int p1), (2, .int p2), (3, .int p3), (4, .int p4), (5, .int x469), (6, .int x851), (7, .int x850)] dX10_sun_75  (by decide) rfl ?_
              refine mw_iload 79 rfl 7 dX10_sun_77  rfl ?_
              refine mw_iload 81 rfl 0 dX10_sun_79  rfl ?_
              have J103 : ∀ (x890 : Int32), mh_r x890 (0) (1) → (f_eX10_sun s0 p1 p2 p3 p4 = j_eX10_sun_103_2 (l_eX10_sun_58_1 p3 p4 x469 n1) s882 x850 x851 x890) → mh_W G (mh_XM l G (d + 9) (mh_Qi (P_eX10_sun B D s0 p1 p2 p3 p4))) mM_X10_sun 103 [(0, .ref (G.2.2.2 57)), (1, .int p1), (2, .int p2), (3, .int p3), (4, .int p4), (5, .int x469), (6, .int x851), (7, .int x850), (8, .int x881)] [.int x890, .int x851] s882 := by
                intro x890 r_x890 hE2
                refine mw_iadd_u 104 rfl dX10_sun_103 (fun x895 t896 => ?_)
                refine mw_istore 106 rfl [(6, .int x895), (0, .ref (G.2.2.2 57)), (1, .int p1), (2, .int p2), (3, .int p3), (4, .int p4), (5, .int x469), (7, .int x850), (8, .int x881)] dX10_sun_104  (by decide) rfl ?_
                refine mw_iincR (k := 7) (1) (60) 109 rfl (fun z => [(7, .int z), (6, .int x895), (0, .ref (G.2.2.2 57)), (1, .int p1), (2, .int p2), (3, .int p3), (4, .int p4), (5, .int x469), (8, .int x881)]) dX10_sun_106 rfl (by decide) (fun _ => rfl) r_x850 (by decide) (by decide) (fun x897 t898 r_x897 => ?_)
                refine mw_goto 112 rfl 58 dX10_sun_109 (by decide) ?_
                exact mw_lv [2, 3, 4, 5, 6, 7, 1, 0] rfl (ihn1 x897 x895 s882 (mh_r_wk r_x897 (by decide)) (mh_I_mono hI_s882 (by have := (r_x897).1; have := (r_x897).2; have := (r_p1).1; have := (r_p1).2; have := (r_p2).1; have := (r_p2).2; have := (r_p4).1; have := (r_p4).2; have := (r_x469).1; have := (r_x469).2; have := (r_x881).1; have := (r_x881).2; have := (r_x890).1; have := (r_x890).2; have := kc_m1; have := kc_0; have := kc_1; skip; omega) (by have := (r_x897).1; have := (r_x897).2; have := (r_p1).1; have := (r_p1).2; have := (r_p2).1; have := (r_p2).2; have := (r_p4).1; have := (r_p4).2; have := (r_x469).1; have := (r_x469).2; have := (r_x881).1; have := (r_x881).2; have := (r_x890).1; have := (r_x890).2; have := kc_m1; have := kc_0; have := kc_1; skip; omega)) hF_s882 (Eq.trans hE2 (mh_lbT t896 (mh_lbT (mh_einc t898 rfl) rfl))) (by have : x897.toInt = x850.toInt + (1) := t898; omega))
              have J98 : (f_eX10_sun s0 p1 p2 p3 p4 = j_eX10_sun_98_3 (l_eX10_sun_58_1 p3 p4 x469 n1) s882 x850 x851) → mh_W G (mh_XM l G (d + 9) (mh_Qi (P_eX10_sun B D s0 p1 p2 p3 p4))) mM_X10_sun 98 [(0, .ref (G.2.2.2 57)), (1, .int p1), (2, .int p2), (3, .int p3), (4, .int p4), (5, .int x469), (6, .int x851), (7, .int x850), (8, .int x881)] [.int x851] s882 := by
                intro hE3
                refine mw_iconst (v := 1) 99 rfl dX10_sun_98 (by decide) ?_
                refine mw_goto 102 rfl 103 dX10_sun_99 (by decide) ?_
                exact mw_lv [0, 1, 2, 3, 4, 5, 6, 7, 8] rfl (J103 (1) (mh_r_wk rc_1 (by decide)) (Eq.trans hE3 rfl))
              refine mw_if_eq 84 rfl 98 dX10_sun_81 (by decide) (fun c899 => ?_) (fun c899 => ?_)
              · skip
                have r_x881 : mh_r x881 (0) (0) := mh_eq1 (show x881.toInt = (0 : Int32).toInt from c899) r_x881 rc_0 (0) (0) (by decide)
                exact mw_lv [1, 2, 3, 4, 5, 6, 7, 8, 0] rfl (J98 (Eq.trans hE1 (mh_ifT c874 (mh_lbS E_s879 (mh_lb2T E_s882 (mh_ifT c899 rfl))))))
              · skip
                have r_x881 : mh_r x881 (1) (99) := mh_ne1 (show x881.toInt ≠ (0 : Int32).toInt from c899) r_x881 rc_0 (1) (99) (by decide)
                refine mw_iload_n 85 rfl 4 dX10_sun_84 rfl rfl ?_
                refine mw_aload_n 86 rfl 1 dX10_sun_85 rfl rfl ?_
                refine mw_geta 89 rfl dX10_sun_86 gf_X10_17 rfl 59 (mh_rf hI_s882 56 rfl) ?_
                refine mw_iload 91 rfl 6 dX10_sun_89  rfl ?_
                refine mw_iald 92 rfl dX10_sun_91 rfl r_x469 (by decide) (fun x900 t901 => ?_)
                refine mw_iload 94 rfl 0 dX10_sun_92  rfl ?_
                refine mw_iadd_u 95 rfl dX10_sun_94 (fun x902 t903 => ?_)
                refine mw_icmp_lt 98 rfl 102 dX10_sun_95 (by decide) (fun c904 => ?_) (fun c904 => ?_)
                · skip
                  have r_p3 : mh_r p3 (-2147483648) (2147483646) := mh_lt1 c904 (mh_r_full p3) (mh_r_full x902) (2147483646) (by decide)
                  have r_x902 : mh_r x902 (-2147483647) (2147483647) := mh_lt2 c904 r_p3 (mh_r_full x902) (-2147483647) (by decide)
                  refine mw_iconst (v := 0) 103 rfl dX10_sun_102 (by decide) ?_
                  exact mw_lv [1, 2, 3, 4, 5, 6, 7, 8, 0] rfl (J103 (0) (mh_r_wk rc_0 (by decide)) (Eq.trans hE1 (mh_ifT c874 (mh_lbS E_s879 (mh_lb2T E_s882 (mh_ifF c899 (mh_lbT t901 (mh_lbT t903 (mh_ifT c904 rfl)))))))))
                · skip
                  exact mw_lv [1, 2, 3, 4, 5, 6, 7, 8, 0] rfl (J98 (Eq.trans hE1 (mh_ifT c874 (mh_lbS E_s879 (mh_lb2T E_s882 (mh_ifF c899 (mh_lbT t901 (mh_lbT t903 (mh_ifF (Int.not_lt.mpr c904) rfl)))))))))
        exact mw_lv [3, 4, 5, 6, 7, 2, 1, 0] rfl (L58 61 (0) (0) s473 (mh_r_wk rc_0 (by decide)) (mh_I_mono hI_s473 (by have := (rc_0).1; have := (rc_0).2; have := (r_x469).1; have := (r_x469).2; have := (r_p1).1; have := (r_p1).2; have := (r_p2).1; have := (r_p2).2; have := (r_p4).1; have := (r_p4).2; have := kc_m1; have := kc_0; have := kc_1; skip; omega) (by have := (rc_0).1; have := (rc_0).2; have := (r_x469).1; have := (r_x469).2; have := (r_p1).1; have := (r_p1).2; have := (r_p2).1; have := (r_p2).2; have := (r_p4).1; have := (r_p4).2; have := kc_m1; have := kc_0; have := kc_1; skip; omega)) hF_s473 (mh_lbS E_s449 (mh_ifF c451 (mh_lbS E_s453 (mh_ifF c455 (mh_lbT t457 (mh_lbS E_s459 (mh_lbT t462 (mh_lbT t464 (mh_lbS E_s466 (mh_ifF c468 (mh_lbS E_s470 (mh_lbS E_s473 rfl)))))))))))) (by have := (rc_0).1; have := (rc_0).2; omega))
      · skip
        have r_x465 : mh_r x465 (0) (0) := mh_eq1 (show x465.toInt = (0 : Int32).toInt from c468) r_x465 rc_0 (0) (0) (by decide)
        refine mw_iconst (v := -1) 39 rfl dX10_sun_38 (by decide) ?_
        exact mw_iret dX10_sun_39 rfl ⟨(-1), rfl, ⟨(mh_r_wk rc_m1 (by decide)), (mh_lbS E_s449 (mh_ifF c451 (mh_lbS E_s453 (mh_ifF c455 (mh_lbT t457 (mh_lbS E_s459 (mh_lbT t462 (mh_lbT t464 (mh_lbS E_s466 (mh_ifT c468 rfl)))))))))), hI0, hF0⟩⟩

def S_eX10_night : List (Nat × Nat) := [(83, 9999), (84, 9999), (85, 9999), (86, 9999), (87, 9999), (88, 9999), (57, 33), (57, 34), (57, 35), (57, 36), (57, 37), (78, 9999), (77, 9999), (79, 9999), (80, 9999), (61, 9999), (62, 9999), (82, 9999), (81, 9999), (57, 4), (57, 2), (59, 9999), (60, 9999)]
def j_eX10_night_110_2 (lo_47_1 : mh_H → Int32 → Int32 → Int32 → Int32 → Int32 → Int32 → Int32 × mh_H) (s1784 : mh_H) (x1700 : Int32) (x1779 : Int32) (x1780 : Int32) (x1781 : Int32) (x1782 : Int32) (x1783 : Int32) : Int32 × mh_H := mh_lb (x1700 + (1 : Int32)) (fun x1787 => (lo_47_1 s1784 x1787 x1783 x1782 x1781 x1780 x1779))
def j_eX10_night_95_3 (lo_47_1 : mh_H → Int32 → Int32 → Int32 → Int32 → Int32 → Int32 → Int32 × mh_H) (s1800 : mh_H) (x1700 : Int32) (x1704 : Int32) (x1705 : Int32) (x1758 : Int32) (x1790 : Int32) (x1798 : Int32) (x1799 : Int32) : Int32 × mh_H := if x1705.toInt < x1758.toInt then mh_lb (s1800.1 57 2) (fun x1805 => (j_eX10_night_110_2 lo_47_1 s1800 x1700 x1758 x1805 x1798 x1799 x1790)) else (j_eX10_night_110_2 lo_47_1 s1800 x1700 x1705 x1704 x1798 x1799 x1790)
def ls_eX10_night_47_1 (p1 : Int32) (p2 : Int32) (lo_47_1 : mh_H → Int32 → Int32 → Int32 → Int32 → Int32 → Int32 → Int32 × mh_H) (s1706 : mh_H) (x1700 : Int32) (x1701 : Int32) (x1702 : Int32) (x1703 : Int32) (x1704 : Int32) (x1705 : Int32) : Int32 × mh_H := if x1700.toInt < p1.toInt then mh_lb (f_eX10_stepOne s1706) (fun s1756 => mh_lb2 (f_eX10_highestTop s1756) (fun x1758 s1759 => mh_lb2 (f_eX10_misty s1759) (fun x1761 s1762 => if x1761.toInt = 0 then (j_eX10_night_110_2 lo_47_1 s1762 x1700 x1705 x1704 x1703 x1702 x1701) else mh_lb (x1701 + (1 : Int32)) (fun x1790 => if x1702.toInt = (-2 : Int32).toInt then mh_lb (s1762.1 57 2) (fun x1808 => mh_lb2 (f_eX10_lowestMisty s1762) (fun x1810 s1811 => (j_eX10_night_95_3 lo_47_1 s1811 x1700 x1704 x1705 x1758 x1790 x1810 x1808))) else (j_eX10_night_95_3 lo_47_1 s1762 x1700 x1704 x1705 x1758 x1790 x1703 x1702))))) else mh_lb (f_eX10_putsBack s1706 (0 : Int32)) (fun s1749 => if p2.toInt = 0 then (x1705, s1749) else if p2.toInt = (1 : Int32).toInt then (x1704, s1749) else if p2.toInt = (2 : Int32).toInt then (x1703, s1749) else if p2.toInt = (3 : Int32).toInt then (x1702, s1749) else (x1701, s1749))
def l_eX10_night_47_1 (p1 : Int32) (p2 : Int32) : Nat → mh_H → Int32 → Int32 → Int32 → Int32 → Int32 → Int32 → Int32 × mh_H
  | 0 => fun s1706 _ _ _ _ _ _ => (0, s1706)
  | n + 1 => ls_eX10_night_47_1 p1 p2 (l_eX10_night_47_1 p1 p2 n)
theorem l_eX10_night_47_1_s (p1 : Int32) (p2 : Int32) (n : Nat) : l_eX10_night_47_1 p1 p2 (n + 1) = ls_eX10_night_47_1 p1 p2 (l_eX10_night_47_1 p1 p2 n) := rfl
def f_eX10_night (s0 : mh_H) (p1 : Int32) (p2 : Int32) : Int32 × mh_H := mh_lb (f_eX10_isNight s0 p1) (fun x894 => if x894.toInt = 0 then ((-1 : Int32), s0) else mh_lb (Int32.toInt64 p2) (fun y898 => mh_lb (f_eX10_lies s0 y898 (0 : Int64) (4 : Int64)) (fun x900 => if x900.toInt = 0 then ((-1 : Int32), s0) else mh_lb (f_eX10_setsAside s0 (0 : Int32)) (fun s905 => (l_eX10_night_47_1 p1 p2 61 s905 (0 : Int32) (0 : Int32) (-2 : Int32) (-2 : Int32) (-2 : Int32) (-2 : Int32))))))
def P_eX10_night (B D : Int) (s0 : mh_H) (p1 : Int32) (p2 : Int32) : Int32 → mh_H → Prop := fun z s => mh_r z (-2147483648) (2147483647) ∧ f_eX10_night s0 p1 p2 = (z, s) ∧ mh_I B B s ∧ mh_F S_eX10_night s0 s
set_option maxRecDepth 100000 in
set_option maxHeartbeats 4000000 in
theorem w_eX10_night (l : Launch) (G : mh_G) (d : Nat) {B D : Int} (hB : B ≤ 1820000000 ∧ D ≤ 1820000000) {s0 : mh_H} (hI0 : mh_I B B s0) (p1 : Int32) (p2 : Int32) : mh_Mi l G (d + 9) mM_X10_night [.ref (G.2.2.2 57), .int p1, .int p2] s0 (P_eX10_night B D s0 p1 p2) := by
  refine mh_enter (lv := [(0, .ref (G.2.2.2 57)), (1, .int p1), (2, .int p2)]) (by decide) rfl (Nat.le_of_ble_eq_true rfl) ?_
  have hF0 : mh_F S_eX10_night s0 s0 := mh_F_rf
  refine mw_iload_n 1 rfl 1 dX10_night_0 rfl rfl ?_
  refine mw_callSi [.int p1] [] 4 rfl dX10_night_1 ml_X10_373 mc_X10_isNight mk_X10_isNight (w_eX10_isNight l G (d + 7) ⟨by have := kc_m2; have := kc_m1; have := kc_0; have := kc_1; have := kc_2; have := kc_3; skip; omega, by have := kc_m2; have := kc_m1; have := kc_0; have := kc_1; have := kc_2; have := kc_3; skip; omega⟩ hI0 p1) rfl rfl (Nat.le_of_ble_eq_true rfl) (mh_rok (by omega) (by decide)) (fun x894 s895 q896 => ?_)
  obtain ⟨r_x894, E_s895, e0_s895, rfl⟩ := q896
  refine mw_if_eq 7 rfl 19 dX10_night_4 (by decide) (fun c897 => ?_) (fun c897 => ?_)
  · skip
    have r_x894 : mh_r x894 (0) (0) := mh_eq1 (show x894.toInt = (0 : Int32).toInt from c897) r_x894 rc_0 (0) (0) (by decide)
    refine mw_iconst (v := -1) 20 rfl dX10_night_19 (by decide) ?_
    exact mw_iret dX10_night_20 rfl ⟨(-1), rfl, ⟨(mh_r_wk rc_m1 (by decide)), (mh_lbS E_s895 (mh_ifT c897 rfl)), hI0, hF0⟩⟩
  · skip
    have r_p1 : mh_r p1 (1) (60) := ⟨by have := e0_s895.1 (mh_z1 r_x894 c897); have := ((mh_r_full p1)).1; omega, by have := e0_s895.1 (mh_z1 r_x894 c897); have := ((mh_r_full p1)).2; omega⟩
    have r_x894 : mh_r x894 (1) (1) := mh_ne1 (show x894.toInt ≠ (0 : Int32).toInt from c897) r_x894 rc_0 (1) (1) (by decide)
    refine mw_iload_n 8 rfl 2 dX10_night_7 rfl rfl ?_
    refine mw_i2l 9 rfl dX10_night_8 (fun y898 t899 => ?_)
    refine mw_lconst (v := 0) 10 rfl dX10_night_9 (by decide) ?_
    refine mw_ldc2 13 rfl dX10_night_10 ck_X10_172 ?_
    refine mw_callSi [.long y898, .long (0), .long (4)] [] 16 rfl dX10_night_13 ml_X10_154 mc_X10_lies mk_X10_lies (w_eX10_lies l G (d + 8) ⟨by have := (r_p1).1; have := (r_p1).2; have := kc_m2; have := kc_m1; have := kc_0; have := kc_1; have := kc_2; have := kc_3; skip; omega, by have := (r_p1).1; have := (r_p1).2; have := kc_m2; have := kc_m1; have := kc_0; have := kc_1; have := kc_2; have := kc_3; skip; omega⟩ hI0 y898 (0) (4)) rfl rfl (Nat.le_of_ble_eq_true rfl) (mh_rok (by omega) (by decide)) (fun x900 s901 q902 => ?_)
    obtain ⟨r_x900, E_s901, e0_s901, rfl⟩ := q902
    have f_x900 : x900.toInt = 1 ↔ (0 ≤ p2.toInt ∧ p2.toInt ≤ 4) := by rw [e0_s901]; exact by simp only [t899, Int32.toInt_toInt64]; first | done | exact Iff.rfl
    refine mw_if_ne 19 rfl 21 dX10_night_16 (by decide) (fun c903 => ?_) (fun c903 => ?_)
    · skip
      have r_p2 : mh_r p2 (0) (4) := ⟨by have := f_x900.1 (mh_z1 r_x900 c903); have := ((mh_r_full p2)).1; omega, by have := f_x900.1 (mh_z1 r_x900 c903); have := ((mh_r_full p2)).2; omega⟩
      have r_x900 : mh_r x900 (1) (1) := mh_ne1 (show x900.toInt ≠ (0 : Int32).toInt from c903) r_x900 rc_0 (1) (1) (by decide)
      refine mw_aload_n 22 rfl 0 dX10_night_21 rfl rfl ?_
      refine mw_iconst (v := 0) 23 rfl dX10_night_22 (by decide) ?_
      refine mw_callVv [.int (0)] [] 26 rfl dX10_night_23 ml_X10_388 mc_X10_setsAside mk_X10_setsAside rfl rfl (by decide) (w_eX10_setsAside l G (d + 8) ⟨by have := (r_p1).1; have := (r_p1).2; have := (r_p2).1; have := (r_p2).2; have := kc_m2; have := kc_m1; have := kc_0; have := kc_1; have := kc_2; have := kc_3; skip; omega, by have := (r_p1).1; have := (r_p1).2; have := (r_p2).1; have := (r_p2).2; have := kc_m2; have := kc_m1; have := kc_0; have := kc_1; have := kc_2; have := kc_3; skip; omega⟩ hI0 (0) (mh_r_wk rc_0 (by decide)) (by omega)) rfl rfl (Nat.le_of_ble_eq_true rfl) (mh_rok (by omega) (by decide)) (fun s905 q906 => ?_)
      obtain ⟨E_s905, hI_s905, hG_s905⟩ := q906
      have hF_s905 : mh_F S_eX10_night s0 s905 := mh_F_tl hF0 hG_s905 (by decide +kernel)
      refine mw_bipush (v := -2) 28 rfl dX10_night_26 (by decide) ?_
      refine mw_istore_n 29 rfl [(3, .int (-2)), (0, .ref (G.2.2.2 57)), (1, .int p1), (2, .int p2)] dX10_night_28 rfl (by decide) rfl ?_
      refine mw_bipush (v := -2) 31 rfl dX10_night_29 (by decide) ?_
      refine mw_istore 33 rfl [(4, .int (-2)), (3, .int (-2)), (0, .ref (G.2.2.2 57)), (1, .int p1), (2, .int p2)] dX10_night_31  (by decide) rfl ?_
      refine mw_bipush (v := -2) 35 rfl dX10_night_33 (by decide) ?_
      refine mw_istore 37 rfl [(5, .int (-2)), (4, .int (-2)), (3, .int (-2)), (0, .ref (G.2.2.2 57)), (1, .int p1), (2, .int p2)] dX10_night_35  (by decide) rfl ?_
      refine mw_bipush (v := -2) 39 rfl dX10_night_37 (by decide) ?_
      refine mw_istore 41 rfl [(6, .int (-2)), (5, .int (-2)), (4, .int (-2)), (3, .int (-2)), (0, .ref (G.2.2.2 57)), (1, .int p1), (2, .int p2)] dX10_night_39  (by decide) rfl ?_
      refine mw_iconst (v := 0) 42 rfl dX10_night_41 (by decide) ?_
      refine mw_istore 44 rfl [(7, .int (0)), (6, .int (-2)), (5, .int (-2)), (4, .int (-2)), (3, .int (-2)), (0, .ref (G.2.2.2 57)), (1, .int p1), (2, .int p2)] dX10_night_42  (by decide) rfl ?_
      refine mw_iconst (v := 0) 45 rfl dX10_night_44 (by decide) ?_
      refine mw_istore 47 rfl [(8, .int (0)), (7, .int (0)), (6, .int (-2)), (5, .int (-2)), (4, .int (-2)), (3, .int (-2)), (0, .ref (G.2.2.2 57)), (1, .int p1), (2, .int p2)] dX10_night_45  (by decide) rfl ?_
      have L47 : ∀ n1 : Nat, ∀ (x1700 : Int32) (x1701 : Int32) (x1702 : Int32) (x1703 : Int32) (x1704 : Int32) (x1705 : Int32) (s1706 : mh_H), mh_r x1700 (0) (60) → mh_r x1702 (-2) (1820001000) → mh_r x1703 (-2) (143) → mh_r x1704 (-2) (1820001000) → mh_r x1705 (-2) (2147483647) → mh_I (B + x1700.toInt) B s1706 → mh_F S_eX10_night s0 s1706 → (f_eX10_night s0 p1 p2 = l_eX10_night_47_1 p1 p2 n1 s1706 x1700 x1701 x1702 x1703 x1704 x1705) → (60) - x1700.toInt < (n1 : Int) → mh_W G (mh_XM l G (d + 9) (mh_Qi (P_eX10_night B D s0 p1 p2))) mM_X10_night 47 [(0, .ref (G.2.2.2 57)), (1, .int p1), (2, .int p2), (3, .int x1705), (4, .int x1704), (5, .int x1703), (6, .int x1702), (7, .int x1701), (8, .int x1700)] [] s1706 := by
        intro n1
        induction n1 with
        | zero =>
          intro x1700 x1701 x1702 x1703 x1704 x1705 s1706 r_x1700 r_x1702 r_x1703 r_x1704 r_x1705 hI_s1706 hF_s1706 hE1 hmn1
          exact absurd hmn1 (by have := r_x1700.1; have := r_x1700.2; omega)
        | succ n1 ihn1 =>
          intro x1700 x1701 x1702 x1703 x1704 x1705 s1706 r_x1700 r_x1702 r_x1703 r_x1704 r_x1705 hI_s1706 hF_s1706 hE1 hmn1
          rw [l_eX10_night_47_1_s] at hE1
          refine mw_iload 49 rfl 8 dX10_night_47  rfl ?_
          refine mw_iload_n 50 rfl 1 dX10_night_49 rfl rfl ?_
          refine mw_icmp_ge 53 rfl 116 dX10_night_50 (by decide) (fun c1747 => ?_) (fun c1747 => ?_)
          · skip
            have r_x1700 : mh_r x1700 (1) (60) := mh_le2 c1747 r_p1 r_x1700 (1) (by decide)
            refine mw_aload_n 117 rfl 0 dX10_night_116 rfl rfl ?_
            refine mw_iconst (v := 0) 118 rfl dX10_night_117 (by decide) ?_
            refine mw_callVv [.int (0)] [] 121 rfl dX10_night_118 ml_X10_394 mc_X10_putsBack mk_X10_putsBack rfl rfl (by decide) (w_eX10_putsBack l G (d + 8) ⟨by have := (r_p1).1; have := (r_p1).2; have := (r_p2).1; have := (r_p2).2; have := (r_x1705).1; have := (r_x1705).2; have := (r_x1704).1; have := (r_x1704).2; have := (r_x1703).1; have := (r_x1703).2; have := (r_x1702).1; have := (r_x1702).2; have := (r_x1700).1; have := (r_x1700).2; have := kc_m2; have := kc_m1; have := kc_0; have := kc_1; have := kc_2; have := kc_3; skip; omega, by have := (r_p1).1; have := (r_p1).2; have := (r_p2).1; have := (r_p2).2; have := (r_x1705).1; have := (r_x1705).2; have := (r_x1704).1; have := (r_x1704).2; have := (r_x1703).1; have := (r_x1703).2; have := (r_x1702).1; have := (r_x1702).2; have := (r_x1700).1; have := (r_x1700).2; have := kc_m2; have := kc_m1; have := kc_0; have := kc_1; have := kc_2; have := kc_3; skip; omega⟩ hI_s1706 (0) (mh_r_wk rc_0 (by decide))) rfl rfl (Nat.le_of_ble_eq_true rfl) (mh_rok (by omega) (by decide)) (fun s1749 q1750 => ?_)
            obtain ⟨E_s1749, hI_s1749, hG_s1749⟩ := q1750
            have hF_s1749 : mh_F S_eX10_night s0 s1749 := mh_F_tl hF_s1706 hG_s1749 (by decide +kernel)
            refine mw_iload_n 122 rfl 2 dX10_night_121 rfl rfl ?_
            refine mw_if_ne 125 rfl 129 dX10_night_122 (by decide) (fun c1751 => ?_) (fun c1751 => ?_)
            · skip
              have r_p2 : mh_r p2 (1) (4) := mh_ne1 (show p2.toInt ≠ (0 : Int32).toInt from c1751) r_p2 rc_0 (1) (4) (by decide)
              refine mw_iload_n 130 rfl 2 dX10_night_129 rfl rfl ?_
              refine mw_iconst (v := 1) 131 rfl dX10_night_130 (by decide) ?_
              refine mw_icmp_ne 134 rfl 139 dX10_night_131 (by decide) (fun c1752 => ?_) (fun c1752 => ?_)
              · skip
                have r_p2 : mh_r p2 (2) (4) := mh_ne1 c1752 r_p2 rc_1 (2) (4) (by decide)
                refine mw_iload_n 140 rfl 2 dX10_night_139 rfl rfl ?_
                refine mw_iconst (v := 2) 141 rfl dX10_night_140 (by decide) ?_
                refine mw_icmp_ne 144 rfl 149 dX10_night_141 (by decide) (fun c1753 => ?_) (fun c1753 => ?_)
                · skip
                  have r_p2 : mh_r p2 (3) (4) := mh_ne1 c1753 r_p2 rc_2 (3) (4) (by decide)
                  refine mw_iload_n 150 rfl 2 dX10_night_149 rfl rfl ?_
                  refine mw_iconst (v := 3) 151 rfl dX10_night_150 (by decide) ?_
                  refine mw_icmp_ne 154 rfl 159 dX10_night_151 (by decide) (fun c1754 => ?_) (fun c1754 => ?_)
                  · skip
                    have r_p2 : mh_r p2 (4) (4) := mh_ne1 c1754 r_p2 rc_3 (4) (4) (by decide)
                    refine mw_iload 161 rfl 7 dX10_night_159  rfl ?_
                    exact mw_iret dX10_night_161 rfl ⟨x1701, rfl, ⟨(mh_r_full x1701), (Eq.trans hE1 (mh_ifF (Int.not_lt.mpr c1747) (mh_lbS E_s1749 (mh_ifF c1751 (mh_ifF c1752 (mh_ifF c1753 (mh_ifF c1754 rfl))))))), hI_s1749, hF_s1749⟩⟩
                  · skip
                    have r_p2 : mh_r p2 (3) (3) := mh_eq1 c1754 r_p2 rc_3 (3) (3) (by decide)
                    refine mw_iload 156 rfl 6 dX10_night_154  rfl ?_
                    refine mw_goto 159 rfl 161 dX10_night_156 (by decide) ?_
                    exact mw_iret dX10_night_161 rfl ⟨x1702, rfl, ⟨(mh_r_wk r_x1702 (by decide)), (Eq.trans hE1 (mh_ifF (Int.not_lt.mpr c1747) (mh_lbS E_s1749 (mh_ifF c1751 (mh_ifF c1752 (mh_ifF c1753 (mh_ifT c1754 rfl))))))), hI_s1749, hF_s1749⟩⟩
                · skip
                  have r_p2 : mh_r p2 (2) (2) := mh_eq1 c1753 r_p2 rc_2 (2) (2) (by decide)
                  refine mw_iload 146 rfl 5 dX10_night_144  rfl ?_
                  refine mw_goto 149 rfl 161 dX10_night_146 (by decide) ?_
                  exact mw_iret dX10_night_161 rfl ⟨x1703, rfl, ⟨(mh_r_wk r_x1703 (by decide)), (Eq.trans hE1 (mh_ifF (Int.not_lt.mpr c1747) (mh_lbS E_s1749 (mh_ifF c1751 (mh_ifF c1752 (mh_ifT c1753 rfl)))))), hI_s1749, hF_s1749⟩⟩
              · skip
                have r_p2 : mh_r p2 (1) (1) := mh_eq1 c1752 r_p2 rc_1 (1) (1) (by decide)
                refine mw_iload 136 rfl 4 dX10_night_134  rfl ?_
                refine mw_goto 139 rfl 161 dX10_night_136 (by decide) ?_
                exact mw_iret dX10_night_161 rfl ⟨x1704, rfl, ⟨(mh_r_wk r_x1704 (by decide)), (Eq.trans hE1 (mh_ifF (Int.not_lt.mpr c1747) (mh_lbS E_s1749 (mh_ifF c1751 (mh_ifT c1752 rfl))))), hI_s1749, hF_s1749⟩⟩
            · skip
              have r_p2 : mh_r p2 (0) (0) := mh_eq1 (show p2.toInt = (0 : Int32).toInt from c1751) r_p2 rc_0 (0) (0) (by decide)
              refine mw_iload_n 126 rfl 3 dX10_night_125 rfl rfl ?_
              refine mw_goto 129 rfl 161 dX10_night_126 (by decide) ?_
              exact mw_iret dX10_night_161 rfl ⟨x1705, rfl, ⟨(mh_r_wk r_x1705 (by decide)), (Eq.trans hE1 (mh_ifF (Int.not_lt.mpr c1747) (mh_lbS E_s1749 (mh_ifT c1751 rfl)))), hI_s1749, hF_s1749⟩⟩
          · skip
            have r_x1700 : mh_r x1700 (0) (59) := mh_lt1 c1747 r_x1700 r_p1 (59) (by decide)
            refine mw_aload_n 54 rfl 0 dX10_night_53 rfl rfl ?_
            refine mw_callVv [] [] 57 rfl dX10_night_54 ml_X10_376 mc_X10_stepOne mk_X10_stepOne rfl rfl (by decide) (w_eX10_stepOne l G (d + 0) ⟨by have := (r_p1).1; have := (r_p1).2; have := (r_p2).1; have := (r_p2).2; have := (r_x1705).1; have := (r_x1705).2; have := (r_x1704).1; have := (r_x1704).2; have := (r_x1703).1; have := (r_x1703).2; have := (r_x1702).1; have := (r_x1702).2; have := (r_x1700).1; have := (r_x1700).2; have := kc_m2; have := kc_m1; have := kc_0; have := kc_1; have := kc_2; have := kc_3; skip; omega, by have := (r_p1).1; have := (r_p1).2; have := (r_p2).1; have := (r_p2).2; have := (r_x1705).1; have := (r_x1705).2; have := (r_x1704).1; have := (r_x1704).2; have := (r_x1703).1; have := (r_x1703).2; have := (r_x1702).1; have := (r_x1702).2; have := (r_x1700).1; have := (r_x1700).2; have := kc_m2; have := kc_m1; have := kc_0; have := kc_1; have := kc_2; have := kc_3; skip; omega⟩ hI_s1706) rfl rfl (Nat.le_of_ble_eq_true rfl) (mh_rok (by omega) (by decide)) (fun s1756 q1757 => ?_)
            obtain ⟨E_s1756, hI_s1756, hG_s1756⟩ := q1757
            have hF_s1756 : mh_F S_eX10_night s0 s1756 := mh_F_tl hF_s1706 hG_s1756 (by decide +kernel)
            refine mw_aload_n 58 rfl 0 dX10_night_57 rfl rfl ?_
            refine mw_callVi [] [] 61 rfl dX10_night_58 ml_X10_385 mc_X10_highestTop mk_X10_highestTop rfl rfl (by decide) (w_eX10_highestTop l G (d + 0) ⟨by have := (r_p1).1; have := (r_p1).2; have := (r_p2).1; have := (r_p2).2; have := (r_x1705).1; have := (r_x1705).2; have := (r_x1704).1; have := (r_x1704).2; have := (r_x1703).1; have := (r_x1703).2; have := (r_x1702).1; have := (r_x1702).2; have := (r_x1700).1; have := (r_x1700).2; have := kc_m2; have := kc_m1; have := kc_0; have := kc_1; have := kc_2; have := kc_3; skip; omega, by have := (r_p1).1; have := (r_p1).2; have := (r_p2).1; have := (r_p2).2; have := (r_x1705).1; have := (r_x1705).2; have := (r_x1704).1; have := (r_x1704).2; have := (r_x1703).1; have := (r_x1703).2; have := (r_x1702).1; have := (r_x1702).2; have := (r_x1700).1; have := (r_x1700).2; have := kc_m2; have := kc_m1; have := kc_0; have := kc_1; have := kc_2; have := kc_3; skip; omega⟩ hI_s1756) rfl rfl (Nat.le_of_ble_eq_true rfl) (mh_rok (by omega) (by decide)) (fun x1758 s1759 q1760 => ?_)
            obtain ⟨r_x1758, E_s1759, hI_s1759, hG_s1759⟩ := q1760
            have hF_s1759 : mh_F S_eX10_night s0 s1759 := mh_F_tl hF_s1756 hG_s1759 (by decide +kernel)
            refine mw_istore 63 rfl [(9, .int x1758), (0, .ref (G.2.2.2 57)), (1, .int p1), (2, .int p2), (3, .int x1705), (4, .int x1704), (5, .int x1703), (6, .int x1702), (7, .int x1701), (8, .int x1700)] dX10_night_61  (by decide) rfl ?_
            refine mw_aload_n 64 rfl 1 dX10_night_63 rfl rfl ?_
            refine mw_callVi [] [] 67 rfl dX10_night_64 ml_X10_382 mc_X10_misty mk_X10_misty rfl rfl (by decide) (w_eX10_misty l G (d + 0) ⟨by have := (r_x1758).1; have := (r_x1758).2; have := (r_p1).1; have := (r_p1).2; have := (r_p2).1; have := (r_p2).2; have := (r_x1705).1; have := (r_x1705).2; have := (r_x1704).1; have := (r_x1704).2; have := (r_x1703).1; have := (r_x1703).2; have := (r_x1702).1; have := (r_x1702).2; have := (r_x1700).1; have := (r_x1700).2; have := kc_m2; have := kc_m1; have := kc_0; have := kc_1; have := kc_2; have := kc_3; skip; omega, by have := (r_x1758).1; have := (r_x1758).2; have := (r_p1).1; have := (r_p1).2; have := (r_p2).1; have := (r_p2).2; have := (r_x1705).1; have := (r_x1705).2; have := (r_x1704).1; have := (r_x1704).2; have := (r_x1703).1; have := (r_x1703).2; have := (r_x1702).1; have := (r_x1702).2; have := (r_x1700).1; have := (r_x1700).2; have := kc_m2; have := kc_m1; have := kc_0; have := kc_1; have := kc_2; have := kc_3; skip; omega⟩ hI_s1759) rfl rfl (Nat.le_of_ble_eq_true rfl) (mh_rok (by omega) (by decide)) (fun x1761 s1762 q1763 => ?_)
            obtain ⟨r_x1761, E_s1762, e0_s1762, hI_s1762, hG_s1762⟩ := q1763
            have hF_s1762 : mh_F S_eX10_night s0 s1762 := mh_F_tl hF_s1759 hG_s1762 (by decide +kernel)
            have J110 : ∀ (x1779 : Int32) (x1780 : Int32) (x1781 : Int32) (x1782 : Int32) (x1783 : Int32) (s1784 : mh_H), mh_r x1779 (-2) (2147483647) → mh_r x1780 (-2) (1820001000) → mh_r x1781 (-2) (143) → mh_r x1782 (-2) (1820001000) → mh_I ((B + x1700.toInt) + 1) B s1784 → mh_F S_eX10_night s0 s1784 → (f_eX10_night s0 p1 p2 = j_eX10_night_110_2 (l_eX10_night_47_1 p1 p2 n1) s1784 x1700 x1779 x1780 x1781 x1782 x1783) → mh_W G (mh_XM l G (d + 9) (mh_Qi (P_eX10_night B D s0 p1 p2))) mM_X10_night 110 [(0, .ref (G.2.2.2 57)), (1, .int p1), (2, .int p2), (3, .int x1779), (4, .int x1780), (5, .int x1781), (6, .int x1782), (7, .int x1783), (8, .int x1700), (9, .int x1758)] [] s1784 := by
              intro x1779 x1780 x1781 x1782 x1783 s1784 r_x1779 r_x1780 r_x1781 r_x1782 hI_s1784 hF_s1784 hE2
              refine mw_iincR (k := 8) (1) (60) 113 rfl (fun z => [(8, .int z), (0, .ref (G.2.2.2 57)), (1, .int p1), (2, .int p2), (3, .int x1779), (4, .int x1780), (5, .int x1781), (6, .int x1782), (7, .int x1783), (9, .int x1758)]) dX10_night_110 rfl (by decide) (fun _ => rfl) r_x1700 (by decide) (by decide) (fun x1787 t1788 r_x1787 => ?_)
              refine mw_goto 116 rfl 47 dX10_night_113 (by decide) ?_
              exact mw_lv [1, 2, 3, 4, 5, 6, 7, 8, 0] rfl (ihn1 x1787 x1783 x1782 x1781 x1780 x1779 s1784 (mh_r_wk r_x1787 (by decide)) r_x1782 r_x1781 r_x1780 r_x1779 (mh_I_mono hI_s1784 (by have := (r_x1787).1; have := (r_x1787).2; have := (r_p1).1; have := (r_p1).2; have := (r_p2).1; have := (r_p2).2; have := (r_x1779).1; have := (r_x1779).2; have := (r_x1780).1; have := (r_x1780).2; have := (r_x1781).1; have := (r_x1781).2; have := (r_x1782).1; have := (r_x1782).2; have := (r_x1758).1; have := (r_x1758).2; have := kc_m2; have := kc_m1; have := kc_0; have := kc_1; have := kc_2; have := kc_3; skip; omega) (by have := (r_x1787).1; have := (r_x1787).2; have := (r_p1).1; have := (r_p1).2; have := (r_p2).1; have := (r_p2).2; have := (r_x1779).1; have := (r_x1779).2; have := (r_x1780).1; have := (r_x1780).2; have := (r_x1781).1; have := (r_x1781).2; have := (r_x1782).1; have := (r_x1782).2; have := (r_x1758).1; have := (r_x1758).2; have := kc_m2; have := kc_m1; have := kc_0; have := kc_1; have := kc_2; have := kc_3; skip; omega)) hF_s1784 (Eq.trans hE2 (mh_lbT (mh_einc t1788 rfl) rfl)) (by have : x1787.toInt = x1700.toInt + (1) := t1788; omega))
            refine mw_if_ne 70 rfl 73 dX10_night_67 (by decide) (fun c1789 => ?_) (fun c1789 => ?_)
            · skip
              have r_x1761 : mh_r x1761 (1) (144) := mh_ne1 (show x1761.toInt ≠ (0 : Int32).toInt from c1789) r_x1761 rc_0 (1) (144) (by decide)
              refine mw_iincU (k := 8) 76 rfl (fun z => [(7, .int z), (9, .int x1758), (0, .ref (G.2.2.2 57)), (1, .int p1), (2, .int p2), (3, .int x1705), (4, .int x1704), (5, .int x1703), (6, .int x1702), (8, .int x1700)]) dX10_night_73 rfl (by decide) (fun _ => rfl) (fun x1790 t1791 => ?_)
              refine mw_iload 78 rfl 8 dX10_night_76  rfl ?_
              refine mw_bipush (v := -2) 80 rfl dX10_night_78 (by decide) ?_
              have J95 : ∀ (x1798 : Int32) (x1799 : Int32) (s1800 : mh_H), mh_r x1798 (-2) (143) → mh_r x1799 (-1) (1820001000) → mh_I ((B + x1700.toInt) + 1) B s1800 → mh_F S_eX10_night s0 s1800 → (f_eX10_night s0 p1 p2 = j_eX10_night_95_3 (l_eX10_night_47_1 p1 p2 n1) s1800 x1700 x1704 x1705 x1758 x1790 x1798 x1799) → mh_W G (mh_XM l G (d + 9) (mh_Qi (P_eX10_night B D s0 p1 p2))) mM_X10_night 95 [(0, .ref (G.2.2.2 57)), (1, .int p1), (2, .int p2), (3, .int x1705), (4, .int x1704), (5, .int x1798), (6, .int x1799), (7, .int x1790), (8, .int x1700), (9, .int x1758)] [] s1800 := by
                intro x1798 x1799 s1800 r_x1798 r_x1799 hI_s1800 hF_s1800 hE3
                refine mw_iload 97 rfl 9 dX10_night_95  rfl ?_
                refine mw_iload_n 98 rfl 3 dX10_night_97 rfl rfl ?_
                refine mw_icmp_le 101 rfl 110 dX10_night_98 (by decide) (fun c1804 => ?_) (fun c1804 => ?_)
                · skip
                  have r_x1705 : mh_r x1705 (0) (2147483647) := mh_le2 c1804 r_x1758 r_x1705 (0) (by decide)
                  exact mw_lv [0, 1, 2, 3, 4, 5, 6, 7, 8, 9] rfl (J110 x1705 x1704 x1798 x1799 x1790 s1800 (mh_r_wk r_x1705 (by decide)) r_x1704 r_x1798 (mh_r_wk r_x1799 (by decide)) hI_s1800 hF_s1800 (Eq.trans hE3 (mh_ifF (Int.not_lt.mpr c1804) rfl)))
                · skip
                  have r_x1705 : mh_r x1705 (-2) (2147483646) := mh_lt1 c1804 r_x1705 r_x1758 (2147483646) (by decide)
                  refine mw_iload 103 rfl 9 dX10_night_101  rfl ?_
                  refine mw_istore_n 104 rfl [(3, .int x1758), (0, .ref (G.2.2.2 57)), (1, .int p1), (2, .int p2), (4, .int x1704), (5, .int x1798), (6, .int x1799), (7, .int x1790), (8, .int x1700), (9, .int x1758)] dX10_night_103 rfl (by decide) rfl ?_
                  refine mw_aload_n 105 rfl 1 dX10_night_104 rfl rfl ?_
                  refine mw_geti 108 rfl dX10_night_105 gf_X10_301 rfl (fun x1805 t1806 => ?_)
                  have r_x1805 : mh_r x1805 (0) (1820001000) := by rw [t1806]; exact mh_r_wk (rd_57_2 hI_s1800) ⟨by decide, by have := (r_x1758).1; have := (r_x1758).2; have := (r_p1).1; have := (r_p1).2; have := (r_p2).1; have := (r_p2).2; have := (r_x1704).1; have := (r_x1704).2; have := (r_x1798).1; have := (r_x1798).2; have := (r_x1799).1; have := (r_x1799).2; have := (r_x1700).1; have := (r_x1700).2; have := kc_m2; have := kc_m1; have := kc_0; have := kc_1; have := kc_2; have := kc_3; omega⟩
                  refine mw_istore 110 rfl [(4, .int x1805), (3, .int x1758), (0, .ref (G.2.2.2 57)), (1, .int p1), (2, .int p2), (5, .int x1798), (6, .int x1799), (7, .int x1790), (8, .int x1700), (9, .int x1758)] dX10_night_108  (by decide) rfl ?_
                  exact mw_lv [2, 3, 4, 1, 0, 5, 6, 7, 8, 9] rfl (J110 x1758 x1805 x1798 x1799 x1790 s1800 (mh_r_wk r_x1758 (by decide)) (mh_r_wk r_x1805 (by decide)) r_x1798 (mh_r_wk r_x1799 (by decide)) hI_s1800 hF_s1800 (Eq.trans hE3 (mh_ifT c1804 (mh_lbT t1806 rfl))))
              refine mw_icmp_ne 83 rfl 95 dX10_night_80 (by decide) (fun c1807 => ?_) (fun c1807 => ?_)
              · skip
                have r_x1702 : mh_r x1702 (-1) (1820001000) := mh_ne1 c1807 r_x1702 rc_m2 (-1) (1820001000) (by decide)
                exact mw_lv [2, 3, 4, 5, 6, 7, 8, 0, 9, 1] rfl (J95 x1703 x1702 s1762 r_x1703 r_x1702 hI_s1762 hF_s1762 (Eq.trans hE1 (mh_ifT c1747 (mh_lbS E_s1756 (mh_lb2T E_s1759 (mh_lb2T E_s1762 (mh_ifF c1789 (mh_lbT (mh_eincU t1791 rfl) (mh_ifF c1807 rfl)))))))))
              · skip
                have r_x1702 : mh_r x1702 (-2) (-2) := mh_eq1 c1807 r_x1702 rc_m2 (-2) (-2) (by decide)
                refine mw_aload_n 84 rfl 2 dX10_night_83 rfl rfl ?_
                refine mw_geti 87 rfl dX10_night_84 gf_X10_301 rfl (fun x1808 t1809 => ?_)
                have r_x1808 : mh_r x1808 (0) (1820001000) := by rw [t1809]; exact mh_r_wk (rd_57_2 hI_s1762) ⟨by decide, by have := (r_x1758).1; have := (r_x1758).2; have := (r_p1).1; have := (r_p1).2; have := (r_p2).1; have := (r_p2).2; have := (r_x1705).1; have := (r_x1705).2; have := (r_x1704).1; have := (r_x1704).2; have := (r_x1703).1; have := (r_x1703).2; have := (r_x1702).1; have := (r_x1702).2; have := (r_x1700).1; have := (r_x1700).2; have := kc_m2; have := kc_m1; have := kc_0; have := kc_1; have := kc_2; have := kc_3; omega⟩
                refine mw_istore 89 rfl [(6, .int x1808), (7, .int x1790), (9, .int x1758), (0, .ref (G.2.2.2 57)), (1, .int p1), (2, .int p2), (3, .int x1705), (4, .int x1704), (5, .int x1703), (8, .int x1700)] dX10_night_87  (by decide) rfl ?_
                refine mw_aload_n 90 rfl 3 dX10_night_89 rfl rfl ?_
                refine mw_callVi [] [] 93 rfl dX10_night_90 ml_X10_391 mc_X10_lowestMisty mk_X10_lowestMisty rfl rfl (by decide) (w_eX10_lowestMisty l G (d + 0) ⟨by have := (r_x1808).1; have := (r_x1808).2; have := (r_x1758).1; have := (r_x1758).2; have := (r_p1).1; have := (r_p1).2; have := (r_p2).1; have := (r_p2).2; have := (r_x1705).1; have := (r_x1705).2; have := (r_x1704).1; have := (r_x1704).2; have := (r_x1703).1; have := (r_x1703).2; have := (r_x1700).1; have := (r_x1700).2; have := kc_m2; have := kc_m1; have := kc_0; have := kc_1; have := kc_2; have := kc_3; skip; omega, by have := (r_x1808).1; have := (r_x1808).2; have := (r_x1758).1; have := (r_x1758).2; have := (r_p1).1; have := (r_p1).2; have := (r_p2).1; have := (r_p2).2; have := (r_x1705).1; have := (r_x1705).2; have := (r_x1704).1; have := (r_x1704).2; have := (r_x1703).1; have := (r_x1703).2; have := (r_x1700).1; have := (r_x1700).2; have := kc_m2; have := kc_m1; have := kc_0; have := kc_1; have := kc_2; have := kc_3; skip; omega⟩ hI_s1762 (e0_s1762 (by have := (r_x1761).1; omega))) rfl rfl (Nat.le_of_ble_eq_true rfl) (mh_rok (by omega) (by decide)) (fun x1810 s1811 q1812 => ?_)
                obtain ⟨r_x1810, E_s1811, hI_s1811, hG_s1811⟩ := q1812
                have hF_s1811 : mh_F S_eX10_night s0 s1811 := mh_F_tl hF_s1762 hG_s1811 (by decide +kernel)
                refine mw_istore 95 rfl [(5, .int x1810), (6, .int x1808), (7, .int x1790), (9, .int x1758), (0, .ref (G.2.2.2 57)), (1, .int p1), (2, .int p2), (3, .int x1705), (4, .int x1704), (8, .int x1700)] dX10_night_93  (by decide) rfl ?_
                exact mw_lv [4, 5, 6, 7, 8, 0, 1, 2, 9, 3] rfl (J95 x1810 x1808 s1811 (mh_r_wk r_x1810 (by decide)) (mh_r_wk r_x1808 (by decide)) hI_s1811 hF_s1811 (Eq.trans hE1 (mh_ifT c1747 (mh_lbS E_s1756 (mh_lb2T E_s1759 (mh_lb2T E_s1762 (mh_ifF c1789 (mh_lbT (mh_eincU t1791 rfl) (mh_ifT c1807 (mh_lbT t1809 (mh_lb2T E_s1811 rfl)))))))))))
            · skip
              have r_x1761 : mh_r x1761 (0) (0) := mh_eq1 (show x1761.toInt = (0 : Int32).toInt from c1789) r_x1761 rc_0 (0) (0) (by decide)
              refine mw_goto 73 rfl 110 dX10_night_70 (by decide) ?_
              exact mw_lv [1, 2, 3, 4, 5, 6, 7, 8, 9, 0] rfl (J110 x1705 x1704 x1703 x1702 x1701 s1762 r_x1705 r_x1704 r_x1703 r_x1702 hI_s1762 hF_s1762 (Eq.trans hE1 (mh_ifT c1747 (mh_lbS E_s1756 (mh_lb2T E_s1759 (mh_lb2T E_s1762 (mh_ifT c1789 rfl)))))))
      exact mw_lv [6, 7, 8, 5, 4, 3, 2, 1, 0] rfl (L47 61 (0) (0) (-2) (-2) (-2) (-2) s905 (mh_r_wk rc_0 (by decide)) (mh_r_wk rc_m2 (by decide)) (mh_r_wk rc_m2 (by decide)) (mh_r_wk rc_m2 (by decide)) (mh_r_wk rc_m2 (by decide)) (mh_I_mono hI_s905 (by have := (rc_0).1; have := (rc_0).2; have := (rc_m2).1; have := (rc_m2).2; have := (r_p1).1; have := (r_p1).2; have := (r_p2).1; have := (r_p2).2; have := kc_m2; have := kc_m1; have := kc_0; have := kc_1; have := kc_2; have := kc_3; skip; omega) (by have := (rc_0).1; have := (rc_0).2; have := (rc_m2).1; have := (rc_m2).2; have := (r_p1).1; have := (r_p1).2; have := (r_p2).1; have := (r_p2).2; have := kc_m2; have := kc_m1; have := kc_0; have := kc_1; have := kc_2; have := kc_3; skip; omega)) hF_s905 (mh_lbS E_s895 (mh_ifF c897 (mh_lbT t899 (mh_lbS E_s901 (mh_ifF c903 (mh_lbS E_s905 rfl)))))) (by have := (rc_0).1; have := (rc_0).2; omega))
    · skip
      have r_x900 : mh_r x900 (0) (0) := mh_eq1 (show x900.toInt = (0 : Int32).toInt from c903) r_x900 rc_0 (0) (0) (by decide)
      refine mw_iconst (v := -1) 20 rfl dX10_night_19 (by decide) ?_
      exact mw_iret dX10_night_20 rfl ⟨(-1), rfl, ⟨(mh_r_wk rc_m1 (by decide)), (mh_lbS E_s895 (mh_ifF c897 (mh_lbT t899 (mh_lbS E_s901 (mh_ifT c903 rfl))))), hI0, hF0⟩⟩

def S_eX10_steps : List (Nat × Nat) := [(57, 33), (57, 34), (57, 35), (57, 36), (57, 37), (78, 9999), (77, 9999), (79, 9999), (80, 9999), (61, 9999), (62, 9999), (82, 9999), (81, 9999), (57, 4), (57, 2)]
def ls_eX10_steps_17_1 (p1 : Int32) (y79 : Int64) (lo_17_1 : mh_H → Int32 → Int32 × mh_H) (s128 : mh_H) (x127 : Int32) : Int32 × mh_H := if x127.toInt < p1.toInt then mh_lb (f_eX10_stepOne s128) (fun s145 => mh_lb (x127 + (1 : Int32)) (fun x147 => (lo_17_1 s145 x147))) else mh_lb (s128.2.1 57 4) (fun y138 => mh_lb (y138 - y79) (fun y140 => mh_lb (Int64.toInt32 y140) (fun x142 => (x142, s128))))
def l_eX10_steps_17_1 (p1 : Int32) (y79 : Int64) : Nat → mh_H → Int32 → Int32 × mh_H
  | 0 => fun s128 _ => (0, s128)
  | n + 1 => ls_eX10_steps_17_1 p1 y79 (l_eX10_steps_17_1 p1 y79 n)
theorem l_eX10_steps_17_1_s (p1 : Int32) (y79 : Int64) (n : Nat) : l_eX10_steps_17_1 p1 y79 (n + 1) = ls_eX10_steps_17_1 p1 y79 (l_eX10_steps_17_1 p1 y79 n) := rfl
def f_eX10_steps (s0 : mh_H) (p1 : Int32) : Int32 × mh_H := mh_lb (f_eX10_isNight s0 p1) (fun x75 => if x75.toInt = 0 then ((-1 : Int32), s0) else mh_lb (s0.2.1 57 4) (fun y79 => (l_eX10_steps_17_1 p1 y79 61 s0 (0 : Int32))))
def P_eX10_steps (B D : Int) (s0 : mh_H) (p1 : Int32) : Int32 → mh_H → Prop := fun z s => mh_r z (-2147483648) (2147483647) ∧ f_eX10_steps s0 p1 = (z, s) ∧ mh_I (B + 60) D s ∧ mh_F S_eX10_steps s0 s
set_option maxRecDepth 100000 in
set_option maxHeartbeats 4000000 in
theorem w_eX10_steps (l : Launch) (G : mh_G) (d : Nat) {B D : Int} (hB : B ≤ 1820000000 ∧ D ≤ 1820000000) {s0 : mh_H} (hI0 : mh_I B D s0) (p1 : Int32) : mh_Mi l G (d + 9) mM_X10_steps [.ref (G.2.2.2 57), .int p1] s0 (P_eX10_steps B D s0 p1) := by
  refine mh_enter (lv := [(0, .ref (G.2.2.2 57)), (1, .int p1)]) (by decide) rfl (Nat.le_of_ble_eq_true rfl) ?_
  have hF0 : mh_F S_eX10_steps s0 s0 := mh_F_rf
  refine mw_iload_n 1 rfl 1 dX10_steps_0 rfl rfl ?_
  refine mw_callSi [.int p1] [] 4 rfl dX10_steps_1 ml_X10_373 mc_X10_isNight mk_X10_isNight (w_eX10_isNight l G (d + 7) ⟨by omega, by omega⟩ hI0 p1) rfl rfl (Nat.le_of_ble_eq_true rfl) (mh_rok (by omega) (by decide)) (fun x75 s76 q77 => ?_)
  obtain ⟨r_x75, E_s76, e0_s76, rfl⟩ := q77
  refine mw_if_ne 7 rfl 9 dX10_steps_4 (by decide) (fun c78 => ?_) (fun c78 => ?_)
  · skip
    have r_p1 : mh_r p1 (1) (60) := ⟨by have := e0_s76.1 (mh_z1 r_x75 c78); have := ((mh_r_full p1)).1; omega, by have := e0_s76.1 (mh_z1 r_x75 c78); have := ((mh_r_full p1)).2; omega⟩
    have r_x75 : mh_r x75 (1) (1) := mh_ne1 (show x75.toInt ≠ (0 : Int32).toInt from c78) r_x75 rc_0 (1) (1) (by decide)
    refine mw_aload_n 10 rfl 0 dX10_steps_9 rfl rfl ?_
    refine mw_getl 13 rfl dX10_steps_10 gf_X10_361 rfl (fun y79 t80 => ?_)
    refine mw_lstore_n 14 rfl [(2, .long y79), (0, .ref (G.2.2.2 57)), (1, .int p1)] dX10_steps_13 rfl (by decide) rfl ?_
    refine mw_iconst (v := 0) 15 rfl dX10_steps_14 (by decide) ?_
    refine mw_istore 17 rfl [(4, .int (0)), (2, .long y79), (0, .ref (G.2.2.2 57)), (1, .int p1)] dX10_steps_15  (by decide) rfl ?_
    have L17 : ∀ n1 : Nat, ∀ (x127 : Int32) (s128 : mh_H), mh_r x127 (0) (60) → mh_I (B + x127.toInt) D s128 → mh_F S_eX10_steps s0 s128 → (f_eX10_steps s0 p1 = l_eX10_steps_17_1 p1 y79 n1 s128 x127) → (60) - x127.toInt < (n1 : Int) → mh_W G (mh_XM l G (d + 9) (mh_Qi (P_eX10_steps B D s0 p1))) mM_X10_steps 17 [(0, .ref (G.2.2.2 57)), (1, .int p1), (2, .long y79), (4, .int x127)] [] s128 := by
      intro n1
      induction n1 with
      | zero =>
        intro x127 s128 r_x127 hI_s128 hF_s128 hE1 hmn1
        exact absurd hmn1 (by have := r_x127.1; have := r_x127.2; omega)
      | succ n1 ihn1 =>
        intro x127 s128 r_x127 hI_s128 hF_s128 hE1 hmn1
        rw [l_eX10_steps_17_1_s] at hE1
        refine mw_iload 19 rfl 3 dX10_steps_17  rfl ?_
        refine mw_iload_n 20 rfl 1 dX10_steps_19 rfl rfl ?_
        refine mw_icmp_ge 23 rfl 33 dX10_steps_20 (by decide) (fun c137 => ?_) (fun c137 => ?_)
        · skip
          have r_x127 : mh_r x127 (1) (60) := mh_le2 c137 r_p1 r_x127 (1) (by decide)
          refine mw_aload_n 34 rfl 0 dX10_steps_33 rfl rfl ?_
          refine mw_getl 37 rfl dX10_steps_34 gf_X10_361 rfl (fun y138 t139 => ?_)
          refine mw_lload_n 38 rfl 2 dX10_steps_37 rfl rfl ?_
          refine mw_lsub 39 rfl dX10_steps_38 (fun y140 t141 => ?_)
          refine mw_l2i 40 rfl dX10_steps_39 (fun x142 t143 => ?_)
          exact mw_iret dX10_steps_40 rfl ⟨x142, rfl, ⟨(mh_r_full x142), (Eq.trans hE1 (mh_ifF (Int.not_lt.mpr c137) (mh_lbT t139 (mh_lbT t141 (mh_lbT t143 rfl))))), (mh_I_mono hI_s128 (by have := (r_p1).1; have := (r_p1).2; have := (r_x127).1; have := (r_x127).2; have := kc_m1; have := kc_0; have := kc_1; skip; omega) (by have := (r_p1).1; have := (r_p1).2; have := (r_x127).1; have := (r_x127).2; have := kc_m1; have := kc_0; have := kc_1; skip; omega)), hF_s128⟩⟩
        · skip
          have r_x127 : mh_r x127 (0) (59) := mh_lt1 c137 r_x127 r_p1 (59) (by decide)
          refine mw_aload_n 24 rfl 0 dX10_steps_23 rfl rfl ?_
          refine mw_callVv [] [] 27 rfl dX10_steps_24 ml_X10_376 mc_X10_stepOne mk_X10_stepOne rfl rfl (by decide) (w_eX10_stepOne l G (d + 0) ⟨by have := (r_p1).1; have := (r_p1).2; have := (r_x127).1; have := (r_x127).2; have := kc_m1; have := kc_0; have := kc_1; skip; omega, by have := (r_p1).1; have := (r_p1).2; have := (r_x127).1; have := (r_x127).2; have := kc_m1; have := kc_0; have := kc_1; skip; omega⟩ hI_s128) rfl rfl (Nat.le_of_ble_eq_true rfl) (mh_rok (by omega) (by decide)) (fun s145 q146 => ?_)
          obtain ⟨E_s145, hI_s145, hG_s145⟩ := q146
          have hF_s145 : mh_F S_eX10_steps s0 s145 := mh_F_tl hF_s128 hG_s145 (by decide +kernel)
          refine mw_iincR (k := 3) (1) (60) 30 rfl (fun z => [(4, .int z), (0, .ref (G.2.2.2 57)), (1, .int p1), (2, .long y79)]) dX10_steps_27 rfl (by decide) (fun _ => rfl) r_x127 (by decide) (by decide) (fun x147 t148 r_x147 => ?_)
          refine mw_goto 33 rfl 17 dX10_steps_30 (by decide) ?_
          exact mw_lv [1, 2, 3, 0] rfl (ihn1 x147 s145 (mh_r_wk r_x147 (by decide)) (mh_I_mono hI_s145 (by have := (r_x147).1; have := (r_x147).2; have := (r_p1).1; have := (r_p1).2; have := kc_m1; have := kc_0; have := kc_1; skip; omega) (by have := (r_x147).1; have := (r_x147).2; have := (r_p1).1; have := (r_p1).2; have := kc_m1; have := kc_0; have := kc_1; skip; omega)) hF_s145 (Eq.trans hE1 (mh_ifT c137 (mh_lbS E_s145 (mh_lbT (mh_einc t148 rfl) rfl)))) (by have : x147.toInt = x127.toInt + (1) := t148; omega))
    exact mw_lv [2, 3, 1, 0] rfl (L17 61 (0) s0 (mh_r_wk rc_0 (by decide)) (mh_I_mono hI0 (by have := (rc_0).1; have := (rc_0).2; have := (r_p1).1; have := (r_p1).2; have := kc_m1; have := kc_0; have := kc_1; skip; omega) (by have := (rc_0).1; have := (rc_0).2; have := (r_p1).1; have := (r_p1).2; have := kc_m1; have := kc_0; have := kc_1; skip; omega)) hF0 (mh_lbS E_s76 (mh_ifF c78 (mh_lbT t80 rfl))) (by have := (rc_0).1; have := (rc_0).2; omega))
  · skip
    have r_x75 : mh_r x75 (0) (0) := mh_eq1 (show x75.toInt = (0 : Int32).toInt from c78) r_x75 rc_0 (0) (0) (by decide)
    refine mw_iconst (v := -1) 8 rfl dX10_steps_7 (by decide) ?_
    exact mw_iret dX10_steps_8 rfl ⟨(-1), rfl, ⟨(mh_r_wk rc_m1 (by decide)), (mh_lbS E_s76 (mh_ifT c78 rfl)), (mh_I_mono hI0 (by have := (rc_m1).1; have := (rc_m1).2; have := kc_m1; have := kc_0; have := kc_1; skip; omega) (by have := (rc_m1).1; have := (rc_m1).2; have := kc_m1; have := kc_0; have := kc_1; skip; omega)), hF0⟩⟩


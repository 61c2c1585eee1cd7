def f_eX9_isWithin (s0 : mh_H) (p0 : Int32) (p1 : Int32) : Int32 := if p0.toInt < 0 then (0 : Int32) else if p1.toInt < p0.toInt then (0 : Int32) else (1 : Int32)
def P_eX9_isWithin (B D : Int) (s0 : mh_H) (p0 : Int32) (p1 : Int32) : Int32 → mh_H → Prop := fun z s => mh_r z (0) (1) ∧ f_eX9_isWithin s0 p0 p1 = z ∧ (z.toInt = 1 ↔ (0 ≤ p0.toInt ∧ p0.toInt ≤ p1.toInt)) ∧ s0 = s
set_option maxRecDepth 100000 in
set_option maxHeartbeats 4000000 in
theorem w_eX9_isWithin (l : Launch) (G : mh_G) (d : Nat) {B D : Int} (hB : B ≤ 2000000000 ∧ D ≤ 2000000000) {s0 : mh_H} (hI0 : mh_I B D s0) (p0 : Int32) (p1 : Int32) : mh_Mi l G (d + 0) mM_X9_isWithin [.int p0, .int p1] s0 (P_eX9_isWithin B D s0 p0 p1) := by
  refine mh_enter (lv := [(0, .int p0), (1, .int p1)]) (by decide) rfl (Nat.le_of_ble_eq_true rfl) ?_
  refine mw_iload_n 1 rfl 0 dX9_isWithin_0 rfl rfl ?_
  refine mw_if_lt 4 rfl 13 dX9_isWithin_1 (by decide) (fun c3 => ?_) (fun c3 => ?_)
  · skip
    have r_p0 : mh_r p0 (-2147483648) (-1) := mh_lt1 (show p0.toInt < (0 : Int32).toInt from c3) (mh_r_full p0) rc_0 (-1) (by decide)
    refine mw_iconst (v := 0) 14 rfl dX9_isWithin_13 (by decide) ?_
    refine mw_zret dX9_isWithin_14 rfl (mh_r_wk rc_0 (by decide)) ⟨(0), rfl, ⟨(mh_r_wk rc_0 (by decide)), (mh_ifT c3 rfl), ?_, rfl⟩⟩
    · skip
      have := (r_p0).1; have := (r_p0).2
      have := (rc_0).1; have := (rc_0).2
      have := kc_0
      have := kc_1
      omega
  · skip
    have r_p0 : mh_r p0 (0) (2147483647) := mh_le2 (show (0 : Int32).toInt ≤ p0.toInt from c3) rc_0 (mh_r_full p0) (0) (by decide)
    refine mw_iload_n 5 rfl 0 dX9_isWithin_4 rfl rfl ?_
    refine mw_iload_n 6 rfl 1 dX9_isWithin_5 rfl rfl ?_
    refine mw_icmp_gt 9 rfl 13 dX9_isWithin_6 (by decide) (fun c4 => ?_) (fun c4 => ?_)
    · skip
      have r_p1 : mh_r p1 (-2147483648) (2147483646) := mh_lt1 c4 (mh_r_full p1) r_p0 (2147483646) (by decide)
      refine mw_iconst (v := 0) 14 rfl dX9_isWithin_13 (by decide) ?_
      refine mw_zret dX9_isWithin_14 rfl (mh_r_wk rc_0 (by decide)) ⟨(0), rfl, ⟨(mh_r_wk rc_0 (by decide)), (mh_ifF (Int.not_lt.mpr c3) (mh_ifT c4 rfl)), ?_, rfl⟩⟩
      · skip
        have := (r_p0).1; have := (r_p0).2
        have := (r_p1).1; have := (r_p1).2
        have := (rc_0).1; have := (rc_0).2
        have := kc_0
        have := kc_1
        omega
    · skip
      have r_p1 : mh_r p1 (0) (2147483647) := mh_le2 c4 r_p0 (mh_r_full p1) (0) (by decide)
      refine mw_iconst (v := 1) 10 rfl dX9_isWithin_9 (by decide) ?_
      refine mw_goto 13 rfl 14 dX9_isWithin_10 (by decide) ?_
      refine mw_zret dX9_isWithin_14 rfl (mh_r_wk rc_1 (by decide)) ⟨(1), rfl, ⟨(mh_r_wk rc_1 (by decide)), (mh_ifF (Int.not_lt.mpr c3) (mh_ifF (Int.not_lt.mpr c4) rfl)), ?_, rfl⟩⟩
      · skip
        have := (r_p0).1; have := (r_p0).2
        have := (r_p1).1; have := (r_p1).2
        have := (rc_1).1; have := (rc_1).2
        have := kc_0
        have := kc_1
        omega

def f_eX10_lies (s0 : mh_H) (p0 : Int64) (p2 : Int64) (p4 : Int64) : Int32 := mh_lb (lg_cmp p0 p2) (fun x9 => if x9.toInt < 0 then (0 : Int32) else mh_lb (lg_cmp p0 p4) (fun x13 => if 0 < x13.toInt then (0 : Int32) else (1 : Int32)))
def P_eX10_lies (B D : Int) (s0 : mh_H) (p0 : Int64) (p2 : Int64) (p4 : Int64) : Int32 → mh_H → Prop := fun z s => mh_r z (0) (1) ∧ f_eX10_lies s0 p0 p2 p4 = z ∧ (z.toInt = 1 ↔ (p2.toInt ≤ p0.toInt ∧ p0.toInt ≤ p4.toInt)) ∧ s0 = s
set_option maxRecDepth 100000 in
set_option maxHeartbeats 4000000 in
theorem w_eX10_lies (l : Launch) (G : mh_G) (d : Nat) {B D : Int} (hB : B ≤ 2000000000 ∧ D ≤ 2000000000) {s0 : mh_H} (hI0 : mh_I B D s0) (p0 : Int64) (p2 : Int64) (p4 : Int64) : mh_Mi l G (d + 0) mM_X10_lies [.long p0, .long p2, .long p4] s0 (P_eX10_lies B D s0 p0 p2 p4) := by
  refine mh_enter (lv := [(0, .long p0), (2, .long p2), (4, .long p4)]) (by decide) rfl (Nat.le_of_ble_eq_true rfl) ?_
  refine mw_lload_n 1 rfl 0 dX10_lies_0 rfl rfl ?_
  refine mw_lload_n 2 rfl 1 dX10_lies_1 rfl rfl ?_
  refine mw_lcmp 3 rfl dX10_lies_2 (fun x9 t10 => ?_)
  have g11 := mh_lc t10
  have r_x9 : mh_r x9 (-1) 1 := g11.2.2
  refine mw_if_lt 6 rfl 17 dX10_lies_3 (by decide) (fun c12 => ?_) (fun c12 => ?_)
  · skip
    have r_x9 : mh_r x9 (-1) (-1) := mh_lt1 (show x9.toInt < (0 : Int32).toInt from c12) r_x9 rc_0 (-1) (by decide)
    refine mw_iconst (v := 0) 18 rfl dX10_lies_17 (by decide) ?_
    refine mw_zret dX10_lies_18 rfl (mh_r_wk rc_0 (by decide)) ⟨(0), rfl, ⟨(mh_r_wk rc_0 (by decide)), (mh_lbT t10 (mh_ifT c12 rfl)), ?_, rfl⟩⟩
    · skip
      have := (rc_0).1; have := (rc_0).2
      have := kc_0
      have := kc_1
      omega
  · skip
    have r_x9 : mh_r x9 (0) (1) := mh_le2 (show (0 : Int32).toInt ≤ x9.toInt from c12) rc_0 r_x9 (0) (by decide)
    refine mw_lload_n 7 rfl 0 dX10_lies_6 rfl rfl ?_
    refine mw_lload 9 rfl 2 dX10_lies_7  rfl ?_
    refine mw_lcmp 10 rfl dX10_lies_9 (fun x13 t14 => ?_)
    have g15 := mh_lc t14
    have r_x13 : mh_r x13 (-1) 1 := g15.2.2
    refine mw_if_gt 13 rfl 17 dX10_lies_10 (by decide) (fun c16 => ?_) (fun c16 => ?_)
    · skip
      have r_x13 : mh_r x13 (1) (1) := mh_lt2 (show (0 : Int32).toInt < x13.toInt from c16) rc_0 r_x13 (1) (by decide)
      refine mw_iconst (v := 0) 18 rfl dX10_lies_17 (by decide) ?_
      refine mw_zret dX10_lies_18 rfl (mh_r_wk rc_0 (by decide)) ⟨(0), rfl, ⟨(mh_r_wk rc_0 (by decide)), (mh_lbT t10 (mh_ifF (Int.not_lt.mpr c12) (mh_lbT t14 (mh_ifT c16 rfl)))), ?_, rfl⟩⟩
      · skip
        have := (rc_0).1; have := (rc_0).2
        have := kc_0
        have := kc_1
        omega
    · skip
      have r_x13 : mh_r x13 (-1) (0) := mh_le1 (show x13.toInt ≤ (0 : Int32).toInt from c16) r_x13 rc_0 (0) (by decide)
      refine mw_iconst (v := 1) 14 rfl dX10_lies_13 (by decide) ?_
      refine mw_goto 17 rfl 18 dX10_lies_14 (by decide) ?_
      refine mw_zret dX10_lies_18 rfl (mh_r_wk rc_1 (by decide)) ⟨(1), rfl, ⟨(mh_r_wk rc_1 (by decide)), (mh_lbT t10 (mh_ifF (Int.not_lt.mpr c12) (mh_lbT t14 (mh_ifF (Int.not_lt.mpr c16) rfl)))), ?_, rfl⟩⟩
      · skip
        have := (rc_1).1; have := (rc_1).2
        have := kc_0
        have := kc_1
        omega

def S_eJ7_fill_wa : List (Nat × Nat) := [(36, 9999)]
def ls_eJ7_fill_wa_6_1 (p1 : Int64) (lo_6_1 : mh_H → Int32 → mh_H) (s124 : mh_H) (x123 : Int32) : mh_H := if x123.toInt < (109 : Int32).toInt then mh_lb (mh_pL s124 36 x123.toNatClampNeg p1) (fun s133 => mh_lb (x123 + (1 : Int32)) (fun x135 => (lo_6_1 s133 x135))) else s124
def l_eJ7_fill_wa_6_1 (p1 : Int64) : Nat → mh_H → Int32 → mh_H
  | 0 => fun s124 _ => s124
  | n + 1 => ls_eJ7_fill_wa_6_1 p1 (l_eJ7_fill_wa_6_1 p1 n)
theorem l_eJ7_fill_wa_6_1_s (p1 : Int64) (n : Nat) : l_eJ7_fill_wa_6_1 p1 (n + 1) = ls_eJ7_fill_wa_6_1 p1 (l_eJ7_fill_wa_6_1 p1 n) := rfl
def f_eJ7_fill_wa (s0 : mh_H) (p1 : Int64) : mh_H := (l_eJ7_fill_wa_6_1 p1 128 s0 (0 : Int32))
def P_eJ7_fill_wa (B D : Int) (s0 : mh_H) (p1 : Int64) : mh_H → Prop := fun s => f_eJ7_fill_wa s0 p1 = s ∧ mh_I B D s ∧ mh_F S_eJ7_fill_wa s0 s
set_option maxRecDepth 100000 in
set_option maxHeartbeats 4000000 in
theorem w_eJ7_fill_wa (l : Launch) (G : mh_G) (d : Nat) {B D : Int} (hB : B ≤ 2000000000 ∧ D ≤ 2000000000) {s0 : mh_H} (hI0 : mh_I B D s0) (p1 : Int64) : mh_Mv l G (d + 0) mM_J7_fill_d0a16 [.ref (G.2.2.2 36), .long p1] s0 (P_eJ7_fill_wa B D s0 p1) := by
  refine mh_enter (lv := [(0, .ref (G.2.2.2 36)), (1, .long p1)]) (by decide) rfl (Nat.le_of_ble_eq_true rfl) ?_
  have hF0 : mh_F S_eJ7_fill_wa s0 s0 := mh_F_rf
  refine mw_iconst (v := 0) 1 rfl dJ7_fill_d0a16_0 (by decide) ?_
  refine mw_istore_n 2 rfl [(3, .int (0)), (0, .ref (G.2.2.2 36)), (1, .long p1)] dJ7_fill_d0a16_1 rfl (by decide) rfl ?_
  refine mw_aload_n 3 rfl 1 dJ7_fill_d0a16_2 rfl rfl ?_
  refine mw_alen 4 rfl dJ7_fill_d0a16_3 rfl (by decide) (v := 109) (by decide) ?_
  refine mw_istore 6 rfl [(4, .int (109)), (3, .int (0)), (0, .ref (G.2.2.2 36)), (1, .long p1)] dJ7_fill_d0a16_4  (by decide) rfl ?_
  have L6 : ∀ n1 : Nat, ∀ (x123 : Int32) (s124 : mh_H), mh_r x123 (0) (127) → mh_I B D s124 → mh_F S_eJ7_fill_wa s0 s124 → (f_eJ7_fill_wa s0 p1 = l_eJ7_fill_wa_6_1 p1 n1 s124 x123) → (127) - x123.toInt < (n1 : Int) → mh_W G (mh_XM l G (d + 0) (mh_Qv (P_eJ7_fill_wa B D s0 p1))) mM_J7_fill_d0a16 6 [(0, .ref (G.2.2.2 36)), (1, .long p1), (3, .int x123), (4, .int (109))] [] s124 := by
    intro n1
    induction n1 with
    | zero =>
      intro x123 s124 r_x123 hI_s124 hF_s124 hE1 hmn1
      exact absurd hmn1 (by have := r_x123.1; have := r_x123.2; omega)
    | succ n1 ihn1 =>
      intro x123 s124 r_x123 hI_s124 hF_s124 hE1 hmn1
      rw [l_eJ7_fill_wa_6_1_s] at hE1
      refine mw_iload_n 7 rfl 2 dJ7_fill_d0a16_6 rfl rfl ?_
      refine mw_iload 9 rfl 3 dJ7_fill_d0a16_7  rfl ?_
      refine mw_icmp_ge 12 rfl 22 dJ7_fill_d0a16_9 (by decide) (fun c132 => ?_) (fun c132 => ?_)
      · skip
        have r_x123 : mh_r x123 (109) (127) := mh_le2 c132 rc_109 r_x123 (109) (by decide)
        exact mw_vret dJ7_fill_d0a16_22 rfl ⟨rfl, ⟨(Eq.trans hE1 (mh_ifF (Int.not_lt.mpr c132) rfl)), hI_s124, hF_s124⟩⟩
      · skip
        have r_x123 : mh_r x123 (0) (108) := mh_lt1 c132 r_x123 rc_109 (108) (by decide)
        refine mw_aload_n 13 rfl 0 dJ7_fill_d0a16_12 rfl rfl ?_
        refine mw_iload_n 14 rfl 2 dJ7_fill_d0a16_13 rfl rfl ?_
        refine mw_lload_n 15 rfl 1 dJ7_fill_d0a16_14 rfl rfl ?_
        refine mw_last 16 rfl dJ7_fill_d0a16_15 rfl r_x123 (by decide) (fun s133 t134 => ?_)
        have hI_s133 : mh_I B D s133 := by rw [t134]; exact mh_I_pL hI_s124
        have hF_s133 : mh_F S_eJ7_fill_wa s0 s133 := by rw [t134]; exact mh_F_pL hF_s124 (mh_si 0 rfl)
        refine mw_iincR (k := 2) (1) (109) 19 rfl (fun z => [(3, .int z), (0, .ref (G.2.2.2 36)), (1, .long p1), (4, .int (109))]) dJ7_fill_d0a16_16 rfl (by decide) (fun _ => rfl) r_x123 (by decide) (by decide) (fun x135 t136 r_x135 => ?_)
        refine mw_goto 22 rfl 6 dJ7_fill_d0a16_19 (by decide) ?_
        exact mw_lv [1, 2, 0, 3] rfl (ihn1 x135 s133 (mh_r_wk r_x135 (by decide)) hI_s133 hF_s133 (Eq.trans hE1 (mh_ifT c132 (mh_lbT t134 (mh_lbT (mh_einc t136 rfl) rfl)))) (by have : x135.toInt = x123.toInt + (1) := t136; omega))
  exact mw_lv [2, 3, 1, 0] rfl (L6 128 (0) s0 (mh_r_wk rc_0 (by decide)) hI0 hF0 (rfl) (by have := (rc_0).1; have := (rc_0).2; omega))

def ls_eX2_all_5_1 (p1 : Int32) (p2 : Int32) (lo_5_1 : Int32 → Int64 → Int64) (x107 : Int32) (y108 : Int64) : Int64 := if x107.toInt < p1.toInt then mh_lb (p2 + (1 : Int32)) (fun x121 => mh_lb (Int32.toInt64 x121) (fun y123 => mh_lb (y108 * y123) (fun y125 => mh_lb (x107 + (1 : Int32)) (fun x127 => (lo_5_1 x127 y125))))) else y108
def l_eX2_all_5_1 (p1 : Int32) (p2 : Int32) : Nat → Int32 → Int64 → Int64
  | 0 => fun _ _ => 0
  | n + 1 => ls_eX2_all_5_1 p1 p2 (l_eX2_all_5_1 p1 p2 n)
theorem l_eX2_all_5_1_s (p1 : Int32) (p2 : Int32) (n : Nat) : l_eX2_all_5_1 p1 p2 (n + 1) = ls_eX2_all_5_1 p1 p2 (l_eX2_all_5_1 p1 p2 n) := rfl
def f_eX2_all (s0 : mh_H) (p1 : Int32) (p2 : Int32) : Int64 := (l_eX2_all_5_1 p1 p2 15 (0 : Int32) (1 : Int64))
def P_eX2_all (B D : Int) (s0 : mh_H) (p1 : Int32) (p2 : Int32) : Int64 → mh_H → Prop := fun z s => f_eX2_all s0 p1 p2 = z ∧ s0 = s
set_option maxRecDepth 100000 in
set_option maxHeartbeats 4000000 in
theorem w_eX2_all (l : Launch) (G : mh_G) (d : Nat) {B D : Int} (hB : B ≤ 2000000000 ∧ D ≤ 2000000000) {s0 : mh_H} (hI0 : mh_I B D s0) (p1 : Int32) (r_p1 : mh_r p1 (1) (12)) (p2 : Int32) (r_p2 : mh_r p2 (1) (9)) : mh_Ml l G (d + 0) mM_X2_all [.ref (G.2.2.2 35), .int p1, .int p2] s0 (P_eX2_all B D s0 p1 p2) := by
  refine mh_enter (lv := [(0, .ref (G.2.2.2 35)), (1, .int p1), (2, .int p2)]) (by decide) rfl (Nat.le_of_ble_eq_true rfl) ?_
  refine mw_lconst (v := 1) 1 rfl dX2_all_0 (by decide) ?_
  refine mw_lstore_n 2 rfl [(3, .long (1)), (0, .ref (G.2.2.2 35)), (1, .int p1), (2, .int p2)] dX2_all_1 rfl (by decide) rfl ?_
  refine mw_iconst (v := 0) 3 rfl dX2_all_2 (by decide) ?_
  refine mw_istore 5 rfl [(5, .int (0)), (3, .long (1)), (0, .ref (G.2.2.2 35)), (1, .int p1), (2, .int p2)] dX2_all_3  (by decide) rfl ?_
  have L5 : ∀ n1 : Nat, ∀ (x107 : Int32) (y108 : Int64), mh_r x107 (0) (14) → (f_eX2_all s0 p1 p2 = l_eX2_all_5_1 p1 p2 n1 x107 y108) → (14) - x107.toInt < (n1 : Int) → mh_W G (mh_XM l G (d + 0) (mh_Ql (P_eX2_all B D s0 p1 p2))) mM_X2_all 5 [(0, .ref (G.2.2.2 35)), (1, .int p1), (2, .int p2), (3, .long y108), (5, .int x107)] [] s0 := by
    intro n1
    induction n1 with
    | zero =>
      intro x107 y108 r_x107 hE1 hmn1
      exact absurd hmn1 (by have := r_x107.1; have := r_x107.2; omega)
    | succ n1 ihn1 =>
      intro x107 y108 r_x107 hE1 hmn1
      rw [l_eX2_all_5_1_s] at hE1
      refine mw_iload 7 rfl 4 dX2_all_5  rfl ?_
      refine mw_iload_n 8 rfl 1 dX2_all_7 rfl rfl ?_
      refine mw_icmp_ge 11 rfl 24 dX2_all_8 (by decide) (fun c120 => ?_) (fun c120 => ?_)
      · skip
        have r_x107 : mh_r x107 (1) (14) := mh_le2 c120 r_p1 r_x107 (1) (by decide)
        refine mw_lload_n 25 rfl 3 dX2_all_24 rfl rfl ?_
        exact mw_lret dX2_all_25 rfl ⟨y108, rfl, ⟨(Eq.trans hE1 (mh_ifF (Int.not_lt.mpr c120) rfl)), rfl⟩⟩
      · skip
        have r_x107 : mh_r x107 (0) (11) := mh_lt1 c120 r_x107 r_p1 (11) (by decide)
        refine mw_lload_n 12 rfl 3 dX2_all_11 rfl rfl ?_
        refine mw_iload_n 13 rfl 2 dX2_all_12 rfl rfl ?_
        refine mw_iconst (v := 1) 14 rfl dX2_all_13 (by decide) ?_
        refine mw_iadd 15 rfl (2) (10) dX2_all_14 r_p2 rc_1 (by decide) (fun x121 t122 r_x121 => ?_)
        refine mw_i2l 16 rfl dX2_all_15 (fun y123 t124 => ?_)
        refine mw_lmul 17 rfl dX2_all_16 (fun y125 t126 => ?_)
        refine mw_lstore_n 18 rfl [(3, .long y125), (0, .ref (G.2.2.2 35)), (1, .int p1), (2, .int p2), (5, .int x107)] dX2_all_17 rfl (by decide) rfl ?_
        refine mw_iincR (k := 4) (1) (12) 21 rfl (fun z => [(5, .int z), (3, .long y125), (0, .ref (G.2.2.2 35)), (1, .int p1), (2, .int p2)]) dX2_all_18 rfl (by decide) (fun _ => rfl) r_x107 (by decide) (by decide) (fun x127 t128 r_x127 => ?_)
        refine mw_goto 24 rfl 5 dX2_all_21 (by decide) ?_
        exact mw_lv [2, 3, 4, 1, 0] rfl (ihn1 x127 y125 (mh_r_wk r_x127 (by decide)) (Eq.trans hE1 (mh_ifT c120 (mh_lbT (mh_eadd t122) (mh_lbT t124 (mh_lbT t126 (mh_lbT (mh_einc t128 rfl) rfl)))))) (by have : x127.toInt = x107.toInt + (1) := t128; omega))
  exact mw_lv [2, 3, 4, 1, 0] rfl (L5 15 (0) (1) (mh_r_wk rc_0 (by decide)) (rfl) (by have := (rc_0).1; have := (rc_0).2; omega))

def S_eX2_push : List (Nat × Nat) := [(36, 9999)]
def j_eX2_push_42_3 (lo_3_1 : mh_H → Int32 → mh_H) (s1790 : mh_H) (x1657 : Int32) : mh_H := mh_lb (x1657 + (-1 : Int32)) (fun x1823 => (lo_3_1 s1790 x1823))
def ls_eX2_push_9_2 (lo_3_1 : mh_H → Int32 → mh_H) (p1 : Int32) (x1657 : Int32) (lo_9_2 : mh_H → Int32 → mh_H) (s1790 : mh_H) (x1789 : Int32) : mh_H := if p1.toInt < x1789.toInt then (j_eX2_push_42_3 lo_3_1 s1790 x1657) else if x1657.toInt < x1789.toInt then (j_eX2_push_42_3 lo_3_1 s1790 x1657) else mh_lb (s1790.2.1 36 x1657.toNatClampNeg) (fun y1827 => mh_lb (x1657 - x1789) (fun x1829 => mh_lb (s1790.2.1 36 x1829.toNatClampNeg) (fun y1831 => mh_lb (y1827 + y1831) (fun y1833 => mh_lb (mh_pL s1790 36 x1657.toNatClampNeg y1833) (fun s1835 => mh_lb (x1789 + (1 : Int32)) (fun x1837 => (lo_9_2 s1835 x1837)))))))
def l_eX2_push_9_2 (lo_3_1 : mh_H → Int32 → mh_H) (p1 : Int32) (x1657 : Int32) : Nat → mh_H → Int32 → mh_H
  | 0 => fun s1790 _ => s1790
  | n + 1 => ls_eX2_push_9_2 lo_3_1 p1 x1657 (l_eX2_push_9_2 lo_3_1 p1 x1657 n)
theorem l_eX2_push_9_2_s (lo_3_1 : mh_H → Int32 → mh_H) (p1 : Int32) (x1657 : Int32) (n : Nat) : l_eX2_push_9_2 lo_3_1 p1 x1657 (n + 1) = ls_eX2_push_9_2 lo_3_1 p1 x1657 (l_eX2_push_9_2 lo_3_1 p1 x1657 n) := rfl
def ls_eX2_push_3_1 (p1 : Int32) (lo_3_1 : mh_H → Int32 → mh_H) (s1658 : mh_H) (x1657 : Int32) : mh_H := if 0 < x1657.toInt then (l_eX2_push_9_2 lo_3_1 p1 x1657 14 s1658 (1 : Int32)) else s1658
def l_eX2_push_3_1 (p1 : Int32) : Nat → mh_H → Int32 → mh_H
  | 0 => fun s1658 _ => s1658
  | n + 1 => ls_eX2_push_3_1 p1 (l_eX2_push_3_1 p1 n)
theorem l_eX2_push_3_1_s (p1 : Int32) (n : Nat) : l_eX2_push_3_1 p1 (n + 1) = ls_eX2_push_3_1 p1 (l_eX2_push_3_1 p1 n) := rfl
def f_eX2_push (s0 : mh_H) (p1 : Int32) : mh_H := (l_eX2_push_3_1 p1 109 s0 (108 : Int32))
def P_eX2_push (B D : Int) (s0 : mh_H) (p1 : Int32) : mh_H → Prop := fun s => f_eX2_push s0 p1 = s ∧ mh_I B D s ∧ mh_F S_eX2_push s0 s
set_option maxRecDepth 100000 in
set_option maxHeartbeats 4000000 in
theorem w_eX2_push (l : Launch) (G : mh_G) (d : Nat) {B D : Int} (hB : B ≤ 2000000000 ∧ D ≤ 2000000000) {s0 : mh_H} (hI0 : mh_I B D s0) (p1 : Int32) (r_p1 : mh_r p1 (1) (9)) : mh_Mv l G (d + 0) mM_X2_push [.ref (G.2.2.2 35), .int p1] s0 (P_eX2_push B D s0 p1) := by
  refine mh_enter (lv := [(0, .ref (G.2.2.2 35)), (1, .int p1)]) (by decide) rfl (Nat.le_of_ble_eq_true rfl) ?_
  have hF0 : mh_F S_eX2_push s0 s0 := mh_F_rf
  refine mw_bipush (v := 108) 2 rfl dX2_push_0 (by decide) ?_
  refine mw_istore_n 3 rfl [(2, .int (108)), (0, .ref (G.2.2.2 35)), (1, .int p1)] dX2_push_2 rfl (by decide) rfl ?_
  have L3 : ∀ n1 : Nat, ∀ (x1657 : Int32) (s1658 : mh_H), mh_r x1657 (0) (108) → mh_I B D s1658 → mh_F S_eX2_push s0 s1658 → (f_eX2_push s0 p1 = l_eX2_push_3_1 p1 n1 s1658 x1657) → x1657.toInt - (0) < (n1 : Int) → mh_W G (mh_XM l G (d + 0) (mh_Qv (P_eX2_push B D s0 p1))) mM_X2_push 3 [(0, .ref (G.2.2.2 35)), (1, .int p1), (2, .int x1657)] [] s1658 := by
    intro n1
    induction n1 with
    | zero =>
      intro x1657 s1658 r_x1657 hI_s1658 hF_s1658 hE1 hmn1
      exact absurd hmn1 (by have := r_x1657.1; have := r_x1657.2; omega)
    | succ n1 ihn1 =>
      intro x1657 s1658 r_x1657 hI_s1658 hF_s1658 hE1 hmn1
      rw [l_eX2_push_3_1_s] at hE1
      refine mw_iload_n 4 rfl 2 dX2_push_3 rfl rfl ?_
      refine mw_if_le 7 rfl 48 dX2_push_4 (by decide) (fun c1742 => ?_) (fun c1742 => ?_)
      · skip
        have r_x1657 : mh_r x1657 (0) (0) := mh_le1 (show x1657.toInt ≤ (0 : Int32).toInt from c1742) r_x1657 rc_0 (0) (by decide)
        exact mw_vret dX2_push_48 rfl ⟨rfl, ⟨(Eq.trans hE1 (mh_ifF (Int.not_lt.mpr c1742) rfl)), hI_s1658, hF_s1658⟩⟩
      · skip
        have r_x1657 : mh_r x1657 (1) (108) := mh_lt2 (show (0 : Int32).toInt < x1657.toInt from c1742) rc_0 r_x1657 (1) (by decide)
        refine mw_iconst (v := 1) 8 rfl dX2_push_7 (by decide) ?_
        refine mw_istore_n 9 rfl [(3, .int (1)), (0, .ref (G.2.2.2 35)), (1, .int p1), (2, .int x1657)] dX2_push_8 rfl (by decide) rfl ?_
        have L9 : ∀ n2 : Nat, ∀ (x1789 : Int32) (s1790 : mh_H), mh_r x1789 (1) (14) → mh_I B D s1790 → mh_F S_eX2_push s0 s1790 → (f_eX2_push s0 p1 = l_eX2_push_9_2 (l_eX2_push_3_1 p1 n1) p1 x1657 n2 s1790 x1789) → (14) - x1789.toInt < (n2 : Int) → mh_W G (mh_XM l G (d + 0) (mh_Qv (P_eX2_push B D s0 p1))) mM_X2_push 9 [(0, .ref (G.2.2.2 35)), (1, .int p1), (2, .int x1657), (3, .int x1789)] [] s1790 := by
          intro n2
          induction n2 with
          | zero =>
            intro x1789 s1790 r_x1789 hI_s1790 hF_s1790 hE2 hmn2
            exact absurd hmn2 (by have := r_x1789.1; have := r_x1789.2; omega)
          | succ n2 ihn2 =>
            intro x1789 s1790 r_x1789 hI_s1790 hF_s1790 hE2 hmn2
            rw [l_eX2_push_9_2_s] at hE2
            refine mw_iload_n 10 rfl 3 dX2_push_9 rfl rfl ?_
            refine mw_iload_n 11 rfl 1 dX2_push_10 rfl rfl ?_
            have J42 : (f_eX2_push s0 p1 = j_eX2_push_42_3 (l_eX2_push_3_1 p1 n1) s1790 x1657) → mh_W G (mh_XM l G (d + 0) (mh_Qv (P_eX2_push B D s0 p1))) mM_X2_push 42 [(0, .ref (G.2.2.2 35)), (1, .int p1), (2, .int x1657), (3, .int x1789)] [] s1790 := by
              intro hE3
              refine mw_iincR (k := 2) (0) (107) 45 rfl (fun z => [(2, .int z), (0, .ref (G.2.2.2 35)), (1, .int p1), (3, .int x1789)]) dX2_push_42 rfl (by decide) (fun _ => rfl) r_x1657 (by decide) (by decide) (fun x1823 t1824 r_x1823 => ?_)
              refine mw_goto 48 rfl 3 dX2_push_45 (by decide) ?_
              exact mw_lv [1, 2, 0] rfl (ihn1 x1823 s1790 (mh_r_wk r_x1823 (by decide)) hI_s1790 hF_s1790 (Eq.trans hE3 (mh_lbT (mh_einc t1824 rfl) rfl)) (by have : x1823.toInt = x1657.toInt + (-1) := t1824; omega))
            refine mw_icmp_gt 14 rfl 42 dX2_push_11 (by decide) (fun c1825 => ?_) (fun c1825 => ?_)
            · skip
              have r_x1789 : mh_r x1789 (2) (14) := mh_lt2 c1825 r_p1 r_x1789 (2) (by decide)
              exact mw_lv [0, 1, 2, 3] rfl (J42 (Eq.trans hE2 (mh_ifT c1825 rfl)))
            · skip
              have r_x1789 : mh_r x1789 (1) (9) := mh_le1 c1825 r_x1789 r_p1 (9) (by decide)
              refine mw_iload_n 15 rfl 3 dX2_push_14 rfl rfl ?_
              refine mw_iload_n 16 rfl 2 dX2_push_15 rfl rfl ?_
              refine mw_icmp_gt 19 rfl 42 dX2_push_16 (by decide) (fun c1826 => ?_) (fun c1826 => ?_)
              · skip
                have r_x1657 : mh_r x1657 (1) (8) := mh_lt1 c1826 r_x1657 r_x1789 (8) (by decide)
                have r_x1789 : mh_r x1789 (2) (9) := mh_lt2 c1826 r_x1657 r_x1789 (2) (by decide)
                exact mw_lv [0, 1, 2, 3] rfl (J42 (Eq.trans hE2 (mh_ifF (Int.not_lt.mpr c1825) (mh_ifT c1826 rfl))))
              · skip
                refine mw_aload_n 20 rfl 0 dX2_push_19 rfl rfl ?_
                refine mw_geta 23 rfl dX2_push_20 gf_X2_9 rfl 36 (mh_rf hI_s1790 38 rfl) ?_
                refine mw_iload_n 24 rfl 2 dX2_push_23 rfl rfl ?_
                refine mw_dup2 25 rfl dX2_push_24 rfl rfl ?_
                refine mw_lald 26 rfl dX2_push_25 rfl r_x1657 (by decide) (fun y1827 t1828 => ?_)
                refine mw_aload_n 27 rfl 0 dX2_push_26 rfl rfl ?_
                refine mw_geta 30 rfl dX2_push_27 gf_X2_9 rfl 36 (mh_rf hI_s1790 38 rfl) ?_
                refine mw_iload_n 31 rfl 2 dX2_push_30 rfl rfl ?_
                refine mw_iload_n 32 rfl 3 dX2_push_31 rfl rfl ?_
                refine mw_isub 33 rfl (-8) (107) dX2_push_32 r_x1657 r_x1789 (by decide) (fun x1829 t1830 r_x1829 => ?_)
                have r_x1829 : mh_r x1829 (0) (107) := ⟨by have := t1830; have := c1826; omega, r_x1829.2⟩
                refine mw_lald 34 rfl dX2_push_33 rfl r_x1829 (by decide) (fun y1831 t1832 => ?_)
                refine mw_ladd 35 rfl dX2_push_34 (fun y1833 t1834 => ?_)
                refine mw_last 36 rfl dX2_push_35 rfl r_x1657 (by decide) (fun s1835 t1836 => ?_)
                have hI_s1835 : mh_I B D s1835 := by rw [t1836]; exact mh_I_pL hI_s1790
                have hF_s1835 : mh_F S_eX2_push s0 s1835 := by rw [t1836]; exact mh_F_pL hF_s1790 (mh_si 0 rfl)
                refine mw_iincR (k := 3) (2) (10) 39 rfl (fun z => [(3, .int z), (0, .ref (G.2.2.2 35)), (1, .int p1), (2, .int x1657)]) dX2_push_36 rfl (by decide) (fun _ => rfl) r_x1789 (by decide) (by decide) (fun x1837 t1838 r_x1837 => ?_)
                refine mw_goto 42 rfl 9 dX2_push_39 (by decide) ?_
                exact mw_lv [1, 2, 3, 0] rfl (ihn2 x1837 s1835 (mh_r_wk r_x1837 (by decide)) hI_s1835 hF_s1835 (Eq.trans hE2 (mh_ifF (Int.not_lt.mpr c1825) (mh_ifF (Int.not_lt.mpr c1826) (mh_lbT t1828 (mh_lbT (mh_esub t1830) (mh_lbT t1832 (mh_lbT t1834 (mh_lbT t1836 (mh_lbT (mh_einc t1838 rfl) rfl))))))))) (by have : x1837.toInt = x1789.toInt + (1) := t1838; omega))
        exact mw_lv [1, 2, 3, 0] rfl (L9 14 (1) s1658 (mh_r_wk rc_1 (by decide)) hI_s1658 hF_s1658 (Eq.trans hE1 (mh_ifT c1742 rfl)) (by have := (rc_1).1; have := (rc_1).2; omega))
  exact mw_lv [1, 2, 0] rfl (L3 109 (108) s0 (mh_r_wk rc_108 (by decide)) hI0 hF0 (rfl) (by have := (rc_108).1; have := (rc_108).2; omega))

def S_eX2_breaking : List (Nat × Nat) := [(36, 9999)]
def ls_eX2_breaking_41_2 (s113 : mh_H) (lo_41_2 : Int32 → Int64 → Int64 × mh_H) (x130 : Int32) (y131 : Int64) : Int64 × mh_H := if x130.toInt < (109 : Int32).toInt then mh_lb (s113.2.1 36 x130.toNatClampNeg) (fun y142 => mh_lb (y131 + y142) (fun y144 => mh_lb (x130 + (1 : Int32)) (fun x146 => (lo_41_2 x146 y144)))) else (y131, s113)
def l_eX2_breaking_41_2 (s113 : mh_H) : Nat → Int32 → Int64 → Int64 × mh_H
  | 0 => fun _ _ => (0, s113)
  | n + 1 => ls_eX2_breaking_41_2 s113 (l_eX2_breaking_41_2 s113 n)
theorem l_eX2_breaking_41_2_s (s113 : mh_H) (n : Nat) : l_eX2_breaking_41_2 s113 (n + 1) = ls_eX2_breaking_41_2 s113 (l_eX2_breaking_41_2 s113 n) := rfl
def ls_eX2_breaking_18_1 (p1 : Int32) (p2 : Int32) (p3 : Int32) (lo_18_1 : mh_H → Int32 → Int64 × mh_H) (s113 : mh_H) (x112 : Int32) : Int64 × mh_H := if x112.toInt < p2.toInt then mh_lb (f_eX2_push s113 p3) (fun s149 => mh_lb (x112 + (1 : Int32)) (fun x151 => (lo_18_1 s149 x151))) else (l_eX2_breaking_41_2 s113 200 p1 (0 : Int64))
def l_eX2_breaking_18_1 (p1 : Int32) (p2 : Int32) (p3 : Int32) : Nat → mh_H → Int32 → Int64 × mh_H
  | 0 => fun s113 _ => (0, s113)
  | n + 1 => ls_eX2_breaking_18_1 p1 p2 p3 (l_eX2_breaking_18_1 p1 p2 p3 n)
theorem l_eX2_breaking_18_1_s (p1 : Int32) (p2 : Int32) (p3 : Int32) (n : Nat) : l_eX2_breaking_18_1 p1 p2 p3 (n + 1) = ls_eX2_breaking_18_1 p1 p2 p3 (l_eX2_breaking_18_1 p1 p2 p3 n) := rfl
def f_eX2_breaking (s0 : mh_H) (p1 : Int32) (p2 : Int32) (p3 : Int32) : Int64 × mh_H := mh_lb (f_eJ7_fill_wa s0 (0 : Int64)) (fun s78 => mh_lb (mh_pL s78 36 (0 : Int32).toNatClampNeg (1 : Int64)) (fun s80 => (l_eX2_breaking_18_1 p1 p2 p3 15 s80 (0 : Int32))))
def P_eX2_breaking (B D : Int) (s0 : mh_H) (p1 : Int32) (p2 : Int32) (p3 : Int32) : Int64 → mh_H → Prop := fun z s => f_eX2_breaking s0 p1 p2 p3 = (z, s) ∧ mh_I B D s ∧ mh_F S_eX2_breaking s0 s
set_option maxRecDepth 100000 in
set_option maxHeartbeats 4000000 in
theorem w_eX2_breaking (l : Launch) (G : mh_G) (d : Nat) {B D : Int} (hB : B ≤ 1980000000 ∧ D ≤ 1980000000) {s0 : mh_H} (hI0 : mh_I B D s0) (p1 : Int32) (r_p1 : mh_r p1 (1) (200)) (p2 : Int32) (r_p2 : mh_r p2 (1) (12)) (p3 : Int32) (r_p3 : mh_r p3 (1) (9)) : mh_Ml l G (d + 1) mM_X2_breaking [.ref (G.2.2.2 35), .int p1, .int p2, .int p3] s0 (P_eX2_breaking B D s0 p1 p2 p3) := by
  refine mh_enter (lv := [(0, .ref (G.2.2.2 35)), (1, .int p1), (2, .int p2), (3, .int p3)]) (by decide) rfl (Nat.le_of_ble_eq_true rfl) ?_
  have hF0 : mh_F S_eX2_breaking s0 s0 := mh_F_rf
  refine mw_aload_n 1 rfl 0 dX2_breaking_0 rfl rfl ?_
  refine mw_geta 4 rfl dX2_breaking_1 gf_X2_9 rfl 36 (mh_rf hI0 38 rfl) ?_
  refine mw_lconst (v := 0) 5 rfl dX2_breaking_4 (by decide) ?_
  refine mw_callSv [.ref (G.2.2.2 36), .long (0)] [] 8 rfl dX2_breaking_5 ml_X2_13 mc_J7_fill_d0a16 mk_J7_fill_d0a16 (w_eJ7_fill_wa l G (d + 0) ⟨by omega, by omega⟩ hI0 (0)) rfl rfl (Nat.le_of_ble_eq_true rfl) (mh_rok (by omega) (by decide)) (fun s78 q79 => ?_)
  obtain ⟨E_s78, hI_s78, hG_s78⟩ := q79
  have hF_s78 : mh_F S_eX2_breaking s0 s78 := mh_F_tl hF0 hG_s78 (by decide +kernel)
  refine mw_aload_n 9 rfl 0 dX2_breaking_8 rfl rfl ?_
  refine mw_geta 12 rfl dX2_breaking_9 gf_X2_9 rfl 36 (mh_rf hI_s78 38 rfl) ?_
  refine mw_iconst (v := 0) 13 rfl dX2_breaking_12 (by decide) ?_
  refine mw_lconst (v := 1) 14 rfl dX2_breaking_13 (by decide) ?_
  refine mw_last 15 rfl dX2_breaking_14 rfl rc_0 (by decide) (fun s80 t81 => ?_)
  have hI_s80 : mh_I B D s80 := by rw [t81]; exact mh_I_pL hI_s78
  have hF_s80 : mh_F S_eX2_breaking s0 s80 := by rw [t81]; exact mh_F_pL hF_s78 (mh_si 0 rfl)
  refine mw_iconst (v := 0) 16 rfl dX2_breaking_15 (by decide) ?_
  refine mw_istore 18 rfl [(4, .int (0)), (0, .ref (G.2.2.2 35)), (1, .int p1), (2, .int p2), (3, .int p3)] dX2_breaking_16  (by decide) rfl ?_
  have L18 : ∀ n1 : Nat, ∀ (x112 : Int32) (s113 : mh_H), mh_r x112 (0) (14) → mh_I B D s113 → mh_F S_eX2_breaking s0 s113 → (f_eX2_breaking s0 p1 p2 p3 = l_eX2_breaking_18_1 p1 p2 p3 n1 s113 x112) → (14) - x112.toInt < (n1 : Int) → mh_W G (mh_XM l G (d + 1) (mh_Ql (P_eX2_breaking B D s0 p1 p2 p3))) mM_X2_breaking 18 [(0, .ref (G.2.2.2 35)), (1, .int p1), (2, .int p2), (3, .int p3), (4, .int x112)] [] s113 := by
    intro n1
    induction n1 with
    | zero =>
      intro x112 s113 r_x112 hI_s113 hF_s113 hE1 hmn1
      exact absurd hmn1 (by have := r_x112.1; have := r_x112.2; omega)
    | succ n1 ihn1 =>
      intro x112 s113 r_x112 hI_s113 hF_s113 hE1 hmn1
      rw [l_eX2_breaking_18_1_s] at hE1
      refine mw_iload 20 rfl 4 dX2_breaking_18  rfl ?_
      refine mw_iload_n 21 rfl 2 dX2_breaking_20 rfl rfl ?_
      refine mw_icmp_ge 24 rfl 35 dX2_breaking_21 (by decide) (fun c122 => ?_) (fun c122 => ?_)
      · skip
        have r_x112 : mh_r x112 (1) (14) := mh_le2 c122 r_p2 r_x112 (1) (by decide)
        refine mw_lconst (v := 0) 36 rfl dX2_breaking_35 (by decide) ?_
        refine mw_lstore 38 rfl [(4, .long (0)), (0, .ref (G.2.2.2 35)), (1, .int p1), (2, .int p2), (3, .int p3)] dX2_breaking_36  (by decide) rfl ?_
        refine mw_iload_n 39 rfl 2 dX2_breaking_38 rfl rfl ?_
        refine mw_istore 41 rfl [(6, .int p1), (4, .long (0)), (0, .ref (G.2.2.2 35)), (1, .int p1), (2, .int p2), (3, .int p3)] dX2_breaking_39  (by decide) rfl ?_
        have L41 : ∀ n2 : Nat, ∀ (x130 : Int32) (y131 : Int64), mh_r x130 (1) (200) → (f_eX2_breaking s0 p1 p2 p3 = l_eX2_breaking_41_2 s113 n2 x130 y131) → (200) - x130.toInt < (n2 : Int) → mh_W G (mh_XM l G (d + 1) (mh_Ql (P_eX2_breaking B D s0 p1 p2 p3))) mM_X2_breaking 41 [(0, .ref (G.2.2.2 35)), (1, .int p1), (2, .int p2), (3, .int p3), (4, .long y131), (6, .int x130)] [] s113 := by
          intro n2
          induction n2 with
          | zero =>
            intro x130 y131 r_x130 hE2 hmn2
            exact absurd hmn2 (by have := r_x130.1; have := r_x130.2; omega)
          | succ n2 ihn2 =>
            intro x130 y131 r_x130 hE2 hmn2
            rw [l_eX2_breaking_41_2_s] at hE2
            refine mw_iload 43 rfl 5 dX2_breaking_41  rfl ?_
            refine mw_bipush (v := 109) 45 rfl dX2_breaking_43 (by decide) ?_
            refine mw_icmp_ge 48 rfl 66 dX2_breaking_45 (by decide) (fun c141 => ?_) (fun c141 => ?_)
            · skip
              have r_x130 : mh_r x130 (109) (200) := mh_le2 c141 rc_109 r_x130 (109) (by decide)
              refine mw_lload 68 rfl 4 dX2_breaking_66  rfl ?_
              exact mw_lret dX2_breaking_68 rfl ⟨y131, rfl, ⟨(Eq.trans hE2 (mh_ifF (Int.not_lt.mpr c141) rfl)), hI_s113, hF_s113⟩⟩
            · skip
              have r_x130 : mh_r x130 (1) (108) := mh_lt1 c141 r_x130 rc_109 (108) (by decide)
              refine mw_lload 50 rfl 4 dX2_breaking_48  rfl ?_
              refine mw_aload_n 51 rfl 0 dX2_breaking_50 rfl rfl ?_
              refine mw_geta 54 rfl dX2_breaking_51 gf_X2_9 rfl 36 (mh_rf hI_s113 38 rfl) ?_
              refine mw_iload 56 rfl 5 dX2_breaking_54  rfl ?_
              refine mw_lald 57 rfl dX2_breaking_56 rfl r_x130 (by decide) (fun y142 t143 => ?_)
              refine mw_ladd 58 rfl dX2_breaking_57 (fun y144 t145 => ?_)
              refine mw_lstore 60 rfl [(4, .long y144), (0, .ref (G.2.2.2 35)), (1, .int p1), (2, .int p2), (3, .int p3), (6, .int x130)] dX2_breaking_58  (by decide) rfl ?_
              refine mw_iincR (k := 5) (2) (109) 63 rfl (fun z => [(6, .int z), (4, .long y144), (0, .ref (G.2.2.2 35)), (1, .int p1), (2, .int p2), (3, .int p3)]) dX2_breaking_60 rfl (by decide) (fun _ => rfl) r_x130 (by decide) (by decide) (fun x146 t147 r_x146 => ?_)
              refine mw_goto 66 rfl 41 dX2_breaking_63 (by decide) ?_
              exact mw_lv [2, 3, 4, 5, 1, 0] rfl (ihn2 x146 y144 (mh_r_wk r_x146 (by decide)) (Eq.trans hE2 (mh_ifT c141 (mh_lbT t143 (mh_lbT t145 (mh_lbT (mh_einc t147 rfl) rfl))))) (by have : x146.toInt = x130.toInt + (1) := t147; omega))
        exact mw_lv [2, 3, 4, 5, 1, 0] rfl (L41 200 p1 (0) r_p1 (Eq.trans hE1 (mh_ifF (Int.not_lt.mpr c122) rfl)) (by have := (r_p1).1; have := (r_p1).2; omega))
      · skip
        have r_x112 : mh_r x112 (0) (11) := mh_lt1 c122 r_x112 r_p2 (11) (by decide)
        refine mw_aload_n 25 rfl 0 dX2_breaking_24 rfl rfl ?_
        refine mw_iload_n 26 rfl 3 dX2_breaking_25 rfl rfl ?_
        refine mw_callVv [.int p3] [] 29 rfl dX2_breaking_26 ml_X2_19 mc_X2_push mk_X2_push rfl rfl (by decide) (w_eX2_push l G (d + 0) ⟨by omega, by omega⟩ hI_s113 p3 r_p3) rfl rfl (Nat.le_of_ble_eq_true rfl) (mh_rok (by omega) (by decide)) (fun s149 q150 => ?_)
        obtain ⟨E_s149, hI_s149, hG_s149⟩ := q150
        have hF_s149 : mh_F S_eX2_breaking s0 s149 := mh_F_tl hF_s113 hG_s149 (by decide +kernel)
        refine mw_iincR (k := 4) (1) (12) 32 rfl (fun z => [(4, .int z), (0, .ref (G.2.2.2 35)), (1, .int p1), (2, .int p2), (3, .int p3)]) dX2_breaking_29 rfl (by decide) (fun _ => rfl) r_x112 (by decide) (by decide) (fun x151 t152 r_x151 => ?_)
        refine mw_goto 35 rfl 18 dX2_breaking_32 (by decide) ?_
        exact mw_lv [1, 2, 3, 4, 0] rfl (ihn1 x151 s149 (mh_r_wk r_x151 (by decide)) hI_s149 hF_s149 (Eq.trans hE1 (mh_ifT c122 (mh_lbS E_s149 (mh_lbT (mh_einc t152 rfl) rfl)))) (by have : x151.toInt = x112.toInt + (1) := t152; omega))
  exact mw_lv [1, 2, 3, 4, 0] rfl (L18 15 (0) s80 (mh_r_wk rc_0 (by decide)) hI_s80 hF_s80 (mh_lbS E_s78 (mh_lbT t81 rfl)) (by have := (rc_0).1; have := (rc_0).2; omega))

def j_eX9_lowestTerm_45_2 (p0 : Int64) (p2 : Int64) (p4 : Int32) (y317 : Int64) : Int64 := mh_lb (lg_cmp y317 (0 : Int64)) (fun x349 => if x349.toInt = 0 then (0 : Int64) else if p4.toInt = 0 then mh_lb (p0 / y317) (fun y356 => y356) else mh_lb (p2 / y317) (fun y354 => y354))
def ls_eX9_lowestTerm_9_1 (p0 : Int64) (p2 : Int64) (p4 : Int32) (lo_9_1 : Int32 → Int64 → Int64 → Int64) (x316 : Int32) (y317 : Int64) (y318 : Int64) : Int64 := if x316.toInt < (200 : Int32).toInt then mh_lb (lg_cmp y318 (0 : Int64)) (fun x359 => if x359.toInt = 0 then (j_eX9_lowestTerm_45_2 p0 p2 p4 y317) else mh_lb (y317 - y317 / y318 * y318) (fun y363 => mh_lb (x316 + (1 : Int32)) (fun x365 => (lo_9_1 x365 y318 y363)))) else (j_eX9_lowestTerm_45_2 p0 p2 p4 y317)
def l_eX9_lowestTerm_9_1 (p0 : Int64) (p2 : Int64) (p4 : Int32) : Nat → Int32 → Int64 → Int64 → Int64
  | 0 => fun _ _ _ => 0
  | n + 1 => ls_eX9_lowestTerm_9_1 p0 p2 p4 (l_eX9_lowestTerm_9_1 p0 p2 p4 n)
theorem l_eX9_lowestTerm_9_1_s (p0 : Int64) (p2 : Int64) (p4 : Int32) (n : Nat) : l_eX9_lowestTerm_9_1 p0 p2 p4 (n + 1) = ls_eX9_lowestTerm_9_1 p0 p2 p4 (l_eX9_lowestTerm_9_1 p0 p2 p4 n) := rfl
def f_eX9_lowestTerm (s0 : mh_H) (p0 : Int64) (p2 : Int64) (p4 : Int32) : Int64 := (l_eX9_lowestTerm_9_1 p0 p2 p4 201 (0 : Int32) p2 p0)
def P_eX9_lowestTerm (B D : Int) (s0 : mh_H) (p0 : Int64) (p2 : Int64) (p4 : Int32) : Int64 → mh_H → Prop := fun z s => f_eX9_lowestTerm s0 p0 p2 p4 = z ∧ s0 = s
set_option maxRecDepth 100000 in
set_option maxHeartbeats 4000000 in
theorem w_eX9_lowestTerm (l : Launch) (G : mh_G) (d : Nat) {B D : Int} (hB : B ≤ 2000000000 ∧ D ≤ 2000000000) {s0 : mh_H} (hI0 : mh_I B D s0) (p0 : Int64) (p2 : Int64) (p4 : Int32) : mh_Ml l G (d + 0) mM_X9_lowestTerm [.long p0, .long p2, .int p4] s0 (P_eX9_lowestTerm B D s0 p0 p2 p4) := by
  refine mh_enter (lv := [(0, .long p0), (2, .long p2), (4, .int p4)]) (by decide) rfl (Nat.le_of_ble_eq_true rfl) ?_
  refine mw_lload_n 1 rfl 0 dX9_lowestTerm_0 rfl rfl ?_
  refine mw_lstore 3 rfl [(5, .long p0), (0, .long p0), (2, .long p2), (4, .int p4)] dX9_lowestTerm_1  (by decide) rfl ?_
  refine mw_lload_n 4 rfl 2 dX9_lowestTerm_3 rfl rfl ?_
  refine mw_lstore 6 rfl [(7, .long p2), (5, .long p0), (0, .long p0), (2, .long p2), (4, .int p4)] dX9_lowestTerm_4  (by decide) rfl ?_
  refine mw_iconst (v := 0) 7 rfl dX9_lowestTerm_6 (by decide) ?_
  refine mw_istore 9 rfl [(9, .int (0)), (7, .long p2), (5, .long p0), (0, .long p0), (2, .long p2), (4, .int p4)] dX9_lowestTerm_7  (by decide) rfl ?_
  have L9 : ∀ n1 : Nat, ∀ (x316 : Int32) (y317 : Int64) (y318 : Int64), mh_r x316 (0) (200) → (f_eX9_lowestTerm s0 p0 p2 p4 = l_eX9_lowestTerm_9_1 p0 p2 p4 n1 x316 y317 y318) → (200) - x316.toInt < (n1 : Int) → mh_W G (mh_XM l G (d + 0) (mh_Ql (P_eX9_lowestTerm B D s0 p0 p2 p4))) mM_X9_lowestTerm 9 [(0, .long p0), (2, .long p2), (4, .int p4), (5, .long y318), (7, .long y317), (9, .int x316)] [] s0 := by
    intro n1
    induction n1 with
    | zero =>
      intro x316 y317 y318 r_x316 hE1 hmn1
      exact absurd hmn1 (by have := r_x316.1; have := r_x316.2; omega)
    | succ n1 ihn1 =>
      intro x316 y317 y318 r_x316 hE1 hmn1
      rw [l_eX9_lowestTerm_9_1_s] at hE1
      refine mw_iload 11 rfl 5 dX9_lowestTerm_9  rfl ?_
      refine mw_sipush (v := 200) 14 rfl dX9_lowestTerm_11 (by decide) ?_
      have J45 : (f_eX9_lowestTerm s0 p0 p2 p4 = j_eX9_lowestTerm_45_2 p0 p2 p4 y317) → mh_W G (mh_XM l G (d + 0) (mh_Ql (P_eX9_lowestTerm B D s0 p0 p2 p4))) mM_X9_lowestTerm 45 [(0, .long p0), (2, .long p2), (4, .int p4), (5, .long y318), (7, .long y317), (9, .int x316)] [] s0 := by
        intro hE2
        refine mw_lload 47 rfl 4 dX9_lowestTerm_45  rfl ?_
        refine mw_lconst (v := 0) 48 rfl dX9_lowestTerm_47 (by decide) ?_
        refine mw_lcmp 49 rfl dX9_lowestTerm_48 (fun x349 t350 => ?_)
        have g351 := mh_lc t350
        have r_x349 : mh_r x349 (-1) 1 := g351.2.2
        refine mw_if_ne 52 rfl 54 dX9_lowestTerm_49 (by decide) (fun c352 => ?_) (fun c352 => ?_)
        · skip
          refine mw_iload 56 rfl 2 dX9_lowestTerm_54  rfl ?_
          refine mw_if_ne 59 rfl 66 dX9_lowestTerm_56 (by decide) (fun c353 => ?_) (fun c353 => ?_)
          · skip
            refine mw_lload_n 67 rfl 1 dX9_lowestTerm_66 rfl rfl ?_
            refine mw_lload 69 rfl 4 dX9_lowestTerm_67  rfl ?_
            refine mw_ldiv 70 rfl dX9_lowestTerm_69 (mh_lnz (by have := mh_l0; omega)) (fun y354 t355 => ?_)
            exact mw_lret dX9_lowestTerm_70 rfl ⟨y354, rfl, ⟨(Eq.trans hE2 (mh_lbT t350 (mh_ifF c352 (mh_ifF c353 (mh_lbT t355 rfl))))), rfl⟩⟩
          · skip
            have r_p4 : mh_r p4 (0) (0) := mh_eq1 (show p4.toInt = (0 : Int32).toInt from c353) (mh_r_full p4) rc_0 (0) (0) (by decide)
            refine mw_lload_n 60 rfl 0 dX9_lowestTerm_59 rfl rfl ?_
            refine mw_lload 62 rfl 4 dX9_lowestTerm_60  rfl ?_
            refine mw_ldiv 63 rfl dX9_lowestTerm_62 (mh_lnz (by have := mh_l0; omega)) (fun y356 t357 => ?_)
            refine mw_goto 66 rfl 70 dX9_lowestTerm_63 (by decide) ?_
            exact mw_lret dX9_lowestTerm_70 rfl ⟨y356, rfl, ⟨(Eq.trans hE2 (mh_lbT t350 (mh_ifF c352 (mh_ifT c353 (mh_lbT t357 rfl))))), rfl⟩⟩
        · skip
          have r_x349 : mh_r x349 (0) (0) := mh_eq1 (show x349.toInt = (0 : Int32).toInt from c352) r_x349 rc_0 (0) (0) (by decide)
          refine mw_lconst (v := 0) 53 rfl dX9_lowestTerm_52 (by decide) ?_
          exact mw_lret dX9_lowestTerm_53 rfl ⟨(0), rfl, ⟨(Eq.trans hE2 (mh_lbT t350 (mh_ifT c352 rfl))), rfl⟩⟩
      refine mw_icmp_ge 17 rfl 45 dX9_lowestTerm_14 (by decide) (fun c358 => ?_) (fun c358 => ?_)
      · skip
        have r_x316 : mh_r x316 (200) (200) := mh_le2 c358 rc_200 r_x316 (200) (by decide)
        exact mw_lv [0, 1, 2, 3, 4, 5] rfl (J45 (Eq.trans hE1 (mh_ifF (Int.not_lt.mpr c358) rfl)))
      · skip
        have r_x316 : mh_r x316 (0) (199) := mh_lt1 c358 r_x316 rc_200 (199) (by decide)
        refine mw_lload 19 rfl 3 dX9_lowestTerm_17  rfl ?_
        refine mw_lconst (v := 0) 20 rfl dX9_lowestTerm_19 (by decide) ?_
        refine mw_lcmp 21 rfl dX9_lowestTerm_20 (fun x359 t360 => ?_)
        have g361 := mh_lc t360
        have r_x359 : mh_r x359 (-1) 1 := g361.2.2
        refine mw_if_eq 24 rfl 45 dX9_lowestTerm_21 (by decide) (fun c362 => ?_) (fun c362 => ?_)
        · skip
          have r_x359 : mh_r x359 (0) (0) := mh_eq1 (show x359.toInt = (0 : Int32).toInt from c362) r_x359 rc_0 (0) (0) (by decide)
          exact mw_lv [0, 1, 2, 3, 4, 5] rfl (J45 (Eq.trans hE1 (mh_ifT c358 (mh_lbT t360 (mh_ifT c362 rfl)))))
        · skip
          refine mw_lload 26 rfl 4 dX9_lowestTerm_24  rfl ?_
          refine mw_lload 28 rfl 3 dX9_lowestTerm_26  rfl ?_
          refine mw_lrem 29 rfl dX9_lowestTerm_28 (mh_lnz (by have := mh_l0; omega)) (fun y363 t364 => ?_)
          refine mw_lstore 31 rfl [(10, .long y363), (0, .long p0), (2, .long p2), (4, .int p4), (5, .long y318), (7, .long y317), (9, .int x316)] dX9_lowestTerm_29  (by decide) rfl ?_
          refine mw_lload 33 rfl 4 dX9_lowestTerm_31  rfl ?_
          refine mw_lstore 35 rfl [(7, .long y318), (10, .long y363), (0, .long p0), (2, .long p2), (4, .int p4), (5, .long y318), (9, .int x316)] dX9_lowestTerm_33  (by decide) rfl ?_
          refine mw_lload 37 rfl 1 dX9_lowestTerm_35  rfl ?_
          refine mw_lstore 39 rfl [(5, .long y363), (7, .long y318), (10, .long y363), (0, .long p0), (2, .long p2), (4, .int p4), (9, .int x316)] dX9_lowestTerm_37  (by decide) rfl ?_
          refine mw_iincR (k := 6) (1) (200) 42 rfl (fun z => [(9, .int z), (5, .long y363), (7, .long y318), (10, .long y363), (0, .long p0), (2, .long p2), (4, .int p4)]) dX9_lowestTerm_39 rfl (by decide) (fun _ => rfl) r_x316 (by decide) (by decide) (fun x365 t366 r_x365 => ?_)
          refine mw_goto 45 rfl 9 dX9_lowestTerm_42 (by decide) ?_
          exact mw_lv [4, 5, 6, 1, 2, 0] rfl (ihn1 x365 y318 y363 (mh_r_wk r_x365 (by decide)) (Eq.trans hE1 (mh_ifT c358 (mh_lbT t360 (mh_ifF c362 (mh_lbT t364 (mh_lbT (mh_einc t366 rfl) rfl)))))) (by have : x365.toInt = x316.toInt + (1) := t366; omega))
  exact mw_lv [3, 4, 5, 2, 1, 0] rfl (L9 201 (0) p2 p0 (mh_r_wk rc_0 (by decide)) (rfl) (by have := (rc_0).1; have := (rc_0).2; omega))

def S_eX9_lid : List (Nat × Nat) := [(36, 9999)]
def f_eX9_lid (s0 : mh_H) (p1 : Int32) (p2 : Int32) (p3 : Int32) (p4 : Int32) : Int64 × mh_H := if p1.toInt < (1 : Int32).toInt then ((-1 : Int64), s0) else if (200 : Int32).toInt < p1.toInt then ((-1 : Int64), s0) else if p2.toInt < (1 : Int32).toInt then ((-1 : Int64), s0) else if (12 : Int32).toInt < p2.toInt then ((-1 : Int64), s0) else if p3.toInt < (1 : Int32).toInt then ((-1 : Int64), s0) else if (9 : Int32).toInt < p3.toInt then ((-1 : Int64), s0) else mh_lb (f_eX9_isWithin s0 p4 (1 : Int32)) (fun x26 => if x26.toInt = 0 then ((-1 : Int64), s0) else mh_lb2 (f_eX2_breaking s0 p1 p2 p3) (fun y30 s31 => mh_lb (f_eX2_all s31 p2 p3) (fun y33 => mh_lb (f_eX9_lowestTerm s31 y30 y33 p4) (fun y36 => (y36, s31)))))
def P_eX9_lid (B D : Int) (s0 : mh_H) (p1 : Int32) (p2 : Int32) (p3 : Int32) (p4 : Int32) : Int64 → mh_H → Prop := fun z s => f_eX9_lid s0 p1 p2 p3 p4 = (z, s) ∧ mh_I B D s ∧ mh_F S_eX9_lid s0 s
set_option maxRecDepth 100000 in
set_option maxHeartbeats 4000000 in
theorem w_eX9_lid (l : Launch) (G : mh_G) (d : Nat) {B D : Int} (hB : B ≤ 1960000000 ∧ D ≤ 1960000000) {s0 : mh_H} (hI0 : mh_I B D s0) (p1 : Int32) (p2 : Int32) (p3 : Int32) (p4 : Int32) : mh_Ml l G (d + 2) mM_X9_lid [.ref (G.2.2.2 0), .int p1, .int p2, .int p3, .int p4] s0 (P_eX9_lid B D s0 p1 p2 p3 p4) := by
  refine mh_enter (lv := [(0, .ref (G.2.2.2 0)), (1, .int p1), (2, .int p2), (3, .int p3), (4, .int p4)]) (by decide) rfl (Nat.le_of_ble_eq_true rfl) ?_
  have hF0 : mh_F S_eX9_lid s0 s0 := mh_F_rf
  refine mw_iload_n 1 rfl 1 dX9_lid_0 rfl rfl ?_
  refine mw_iconst (v := 1) 2 rfl dX9_lid_1 (by decide) ?_
  refine mw_icmp_lt 5 rfl 43 dX9_lid_2 (by decide) (fun c20 => ?_) (fun c20 => ?_)
  · skip
    have r_p1 : mh_r p1 (-2147483648) (0) := mh_lt1 c20 (mh_r_full p1) rc_1 (0) (by decide)
    refine mw_ldc2 46 rfl dX9_lid_43 ck_X9_284 ?_
    exact mw_lret dX9_lid_46 rfl ⟨(-1), rfl, ⟨(mh_ifT c20 rfl), hI0, hF0⟩⟩
  · skip
    have r_p1 : mh_r p1 (1) (2147483647) := mh_le2 c20 rc_1 (mh_r_full p1) (1) (by decide)
    refine mw_iload_n 6 rfl 1 dX9_lid_5 rfl rfl ?_
    refine mw_sipush (v := 200) 9 rfl dX9_lid_6 (by decide) ?_
    refine mw_icmp_gt 12 rfl 43 dX9_lid_9 (by decide) (fun c21 => ?_) (fun c21 => ?_)
    · skip
      have r_p1 : mh_r p1 (201) (2147483647) := mh_lt2 c21 rc_200 r_p1 (201) (by decide)
      refine mw_ldc2 46 rfl dX9_lid_43 ck_X9_284 ?_
      exact mw_lret dX9_lid_46 rfl ⟨(-1), rfl, ⟨(mh_ifF (Int.not_lt.mpr c20) (mh_ifT c21 rfl)), hI0, hF0⟩⟩
    · skip
      have r_p1 : mh_r p1 (1) (200) := mh_le1 c21 r_p1 rc_200 (200) (by decide)
      refine mw_iload_n 13 rfl 2 dX9_lid_12 rfl rfl ?_
      refine mw_iconst (v := 1) 14 rfl dX9_lid_13 (by decide) ?_
      refine mw_icmp_lt 17 rfl 43 dX9_lid_14 (by decide) (fun c22 => ?_) (fun c22 => ?_)
      · skip
        have r_p2 : mh_r p2 (-2147483648) (0) := mh_lt1 c22 (mh_r_full p2) rc_1 (0) (by decide)
        refine mw_ldc2 46 rfl dX9_lid_43 ck_X9_284 ?_
        exact mw_lret dX9_lid_46 rfl ⟨(-1), rfl, ⟨(mh_ifF (Int.not_lt.mpr c20) (mh_ifF (Int.not_lt.mpr c21) (mh_ifT c22 rfl))), hI0, hF0⟩⟩
      · skip
        have r_p2 : mh_r p2 (1) (2147483647) := mh_le2 c22 rc_1 (mh_r_full p2) (1) (by decide)
        refine mw_iload_n 18 rfl 2 dX9_lid_17 rfl rfl ?_
        refine mw_bipush (v := 12) 20 rfl dX9_lid_18 (by decide) ?_
        refine mw_icmp_gt 23 rfl 43 dX9_lid_20 (by decide) (fun c23 => ?_) (fun c23 => ?_)
        · skip
          have r_p2 : mh_r p2 (13) (2147483647) := mh_lt2 c23 rc_12 r_p2 (13) (by decide)
          refine mw_ldc2 46 rfl dX9_lid_43 ck_X9_284 ?_
          exact mw_lret dX9_lid_46 rfl ⟨(-1), rfl, ⟨(mh_ifF (Int.not_lt.mpr c20) (mh_ifF (Int.not_lt.mpr c21) (mh_ifF (Int.not_lt.mpr c22) (mh_ifT c23 rfl)))), hI0, hF0⟩⟩
        · skip
          have r_p2 : mh_r p2 (1) (12) := mh_le1 c23 r_p2 rc_12 (12) (by decide)
          refine mw_iload_n 24 rfl 3 dX9_lid_23 rfl rfl ?_
          refine mw_iconst (v := 1) 25 rfl dX9_lid_24 (by decide) ?_
          refine mw_icmp_lt 28 rfl 43 dX9_lid_25 (by decide) (fun c24 => ?_) (fun c24 => ?_)
          · skip
            have r_p3 : mh_r p3 (-2147483648) (0) := mh_lt1 c24 (mh_r_full p3) rc_1 (0) (by decide)
            refine mw_ldc2 46 rfl dX9_lid_43 ck_X9_284 ?_
            exact mw_lret dX9_lid_46 rfl ⟨(-1), rfl, ⟨(mh_ifF (Int.not_lt.mpr c20) (mh_ifF (Int.not_lt.mpr c21) (mh_ifF (Int.not_lt.mpr c22) (mh_ifF (Int.not_lt.mpr c23) (mh_ifT c24 rfl))))), hI0, hF0⟩⟩
          · skip
            have r_p3 : mh_r p3 (1) (2147483647) := mh_le2 c24 rc_1 (mh_r_full p3) (1) (by decide)
            refine mw_iload_n 29 rfl 3 dX9_lid_28 rfl rfl ?_
            refine mw_bipush (v := 9) 31 rfl dX9_lid_29 (by decide) ?_
            refine mw_icmp_gt 34 rfl 43 dX9_lid_31 (by decide) (fun c25 => ?_) (fun c25 => ?_)
            · skip
              have r_p3 : mh_r p3 (10) (2147483647) := mh_lt2 c25 rc_9 r_p3 (10) (by decide)
              refine mw_ldc2 46 rfl dX9_lid_43 ck_X9_284 ?_
              exact mw_lret dX9_lid_46 rfl ⟨(-1), rfl, ⟨(mh_ifF (Int.not_lt.mpr c20) (mh_ifF (Int.not_lt.mpr c21) (mh_ifF (Int.not_lt.mpr c22) (mh_ifF (Int.not_lt.mpr c23) (mh_ifF (Int.not_lt.mpr c24) (mh_ifT c25 rfl)))))), hI0, hF0⟩⟩
            · skip
              have r_p3 : mh_r p3 (1) (9) := mh_le1 c25 r_p3 rc_9 (9) (by decide)
              refine mw_iload 36 rfl 4 dX9_lid_34  rfl ?_
              refine mw_iconst (v := 1) 37 rfl dX9_lid_36 (by decide) ?_
              refine mw_callSi [.int p4, .int (1)] [] 40 rfl dX9_lid_37 ml_X9_98 mc_X9_isWithin mk_X9_isWithin (w_eX9_isWithin l G (d + 1) ⟨by omega, by omega⟩ hI0 p4 (1)) rfl rfl (Nat.le_of_ble_eq_true rfl) (mh_rok (by omega) (by decide)) (fun x26 s27 q28 => ?_)
              obtain ⟨r_x26, E_s27, e0_s27, rfl⟩ := q28
              refine mw_if_ne 43 rfl 47 dX9_lid_40 (by decide) (fun c29 => ?_) (fun c29 => ?_)
              · skip
                have r_p4 : mh_r p4 (0) (1) := ⟨by have := e0_s27.1 (mh_z1 r_x26 c29); have := ((mh_r_full p4)).1; omega, by have := e0_s27.1 (mh_z1 r_x26 c29); have := ((mh_r_full p4)).2; have := (rc_1).2; omega⟩
                have r_x26 : mh_r x26 (1) (1) := mh_ne1 (show x26.toInt ≠ (0 : Int32).toInt from c29) r_x26 rc_0 (1) (1) (by decide)
                refine mw_aload_n 48 rfl 0 dX9_lid_47 rfl rfl ?_
                refine mw_geta 51 rfl dX9_lid_48 gf_X9_53 rfl 35 (mh_rf hI0 7 rfl) ?_
                refine mw_iload_n 52 rfl 1 dX9_lid_51 rfl rfl ?_
                refine mw_iload_n 53 rfl 2 dX9_lid_52 rfl rfl ?_
                refine mw_iload_n 54 rfl 3 dX9_lid_53 rfl rfl ?_
                refine mw_callVl [.int p1, .int p2, .int p3] [] 57 rfl dX9_lid_54 ml_X9_286 mc_X2_breaking mk_X2_breaking rfl rfl (by decide) (w_eX2_breaking l G (d + 0) ⟨by omega, by omega⟩ hI0 p1 r_p1 p2 r_p2 p3 r_p3) rfl rfl (Nat.le_of_ble_eq_true rfl) (mh_rok (by omega) (by decide)) (fun y30 s31 q32 => ?_)
                obtain ⟨E_s31, hI_s31, hG_s31⟩ := q32
                have hF_s31 : mh_F S_eX9_lid s0 s31 := mh_F_tl hF0 hG_s31 (by decide +kernel)
                refine mw_aload_n 58 rfl 0 dX9_lid_57 rfl rfl ?_
                refine mw_geta 61 rfl dX9_lid_58 gf_X9_53 rfl 35 (mh_rf hI_s31 7 rfl) ?_
                refine mw_iload_n 62 rfl 2 dX9_lid_61 rfl rfl ?_
                refine mw_iload_n 63 rfl 3 dX9_lid_62 rfl rfl ?_
                refine mw_callVl [.int p2, .int p3] [.long y30] 66 rfl dX9_lid_63 ml_X9_290 mc_X2_all mk_X2_all rfl rfl (by decide) (w_eX2_all l G (d + 1) ⟨by omega, by omega⟩ hI_s31 p2 r_p2 p3 r_p3) rfl rfl (Nat.le_of_ble_eq_true rfl) (mh_rok (by omega) (by decide)) (fun y33 s34 q35 => ?_)
                obtain ⟨E_s34, rfl⟩ := q35
                refine mw_iload 68 rfl 4 dX9_lid_66  rfl ?_
                refine mw_callSl [.long y30, .long y33, .int p4] [] 71 rfl dX9_lid_68 ml_X9_277 mc_X9_lowestTerm mk_X9_lowestTerm (w_eX9_lowestTerm l G (d + 1) ⟨by omega, by omega⟩ hI_s31 y30 y33 p4) rfl rfl (Nat.le_of_ble_eq_true rfl) (mh_rok (by omega) (by decide)) (fun y36 s37 q38 => ?_)
                obtain ⟨E_s37, rfl⟩ := q38
                exact mw_lret dX9_lid_71 rfl ⟨y36, rfl, ⟨(mh_ifF (Int.not_lt.mpr c20) (mh_ifF (Int.not_lt.mpr c21) (mh_ifF (Int.not_lt.mpr c22) (mh_ifF (Int.not_lt.mpr c23) (mh_ifF (Int.not_lt.mpr c24) (mh_ifF (Int.not_lt.mpr c25) (mh_lbS E_s27 (mh_ifF c29 (mh_lb2T E_s31 (mh_lbS E_s34 (mh_lbS E_s37 rfl))))))))))), hI_s31, hF_s31⟩⟩
              · skip
                have r_x26 : mh_r x26 (0) (0) := mh_eq1 (show x26.toInt = (0 : Int32).toInt from c29) r_x26 rc_0 (0) (0) (by decide)
                refine mw_ldc2 46 rfl dX9_lid_43 ck_X9_284 ?_
                exact mw_lret dX9_lid_46 rfl ⟨(-1), rfl, ⟨(mh_ifF (Int.not_lt.mpr c20) (mh_ifF (Int.not_lt.mpr c21) (mh_ifF (Int.not_lt.mpr c22) (mh_ifF (Int.not_lt.mpr c23) (mh_ifF (Int.not_lt.mpr c24) (mh_ifF (Int.not_lt.mpr c25) (mh_lbS E_s27 (mh_ifT c29 rfl)))))))), hI0, hF0⟩⟩

def ls_eX10_divisor_6_1 (lo_6_1 : Int64 → Int64 → Int64) (y29 : Int64) (y30 : Int64) : Int64 := mh_lb (lg_cmp y29 (0 : Int64)) (fun x39 => if x39.toInt = 0 then y30 else mh_lb (y30 - y30 / y29 * y29) (fun y43 => (lo_6_1 y43 y29)))
def l_eX10_divisor_6_1 : Nat → Int64 → Int64 → Int64
  | 0 => fun _ _ => 0
  | n + 1 => ls_eX10_divisor_6_1 (l_eX10_divisor_6_1 n)
theorem l_eX10_divisor_6_1_s (n : Nat) : l_eX10_divisor_6_1 (n + 1) = ls_eX10_divisor_6_1 (l_eX10_divisor_6_1 n) := rfl
def f_eX10_divisor (s0 : mh_H) (p0 : Int64) (p2 : Int64) : Int64 := (l_eX10_divisor_6_1 9223372036854775809 p2 p0)
def P_eX10_divisor (B D : Int) (s0 : mh_H) (p0 : Int64) (p2 : Int64) : Int64 → mh_H → Prop := fun z s => f_eX10_divisor s0 p0 p2 = z ∧ (z.toInt.natAbs = Nat.gcd p0.toInt.natAbs p2.toInt.natAbs) ∧ (0 ≤ p0.toInt ∧ 0 ≤ p2.toInt → 0 ≤ z.toInt) ∧ s0 = s
set_option maxRecDepth 100000 in
set_option maxHeartbeats 4000000 in
theorem w_eX10_divisor (l : Launch) (G : mh_G) (d : Nat) {B D : Int} (hB : B ≤ 2000000000 ∧ D ≤ 2000000000) {s0 : mh_H} (hI0 : mh_I B D s0) (p0 : Int64) (p2 : Int64) : mh_Ml l G (d + 0) mM_X10_divisor [.long p0, .long p2] s0 (P_eX10_divisor B D s0 p0 p2) := by
  refine mh_enter (lv := [(0, .long p0), (2, .long p2)]) (by decide) rfl (Nat.le_of_ble_eq_true rfl) ?_
  refine mw_lload_n 1 rfl 0 dX10_divisor_0 rfl rfl ?_
  refine mw_lstore 3 rfl [(4, .long p0), (0, .long p0), (2, .long p2)] dX10_divisor_1  (by decide) rfl ?_
  refine mw_lload_n 4 rfl 2 dX10_divisor_3 rfl rfl ?_
  refine mw_lstore 6 rfl [(6, .long p2), (4, .long p0), (0, .long p0), (2, .long p2)] dX10_divisor_4  (by decide) rfl ?_
  have L6 : ∀ n1 : Nat, ∀ (y29 : Int64) (y30 : Int64), (Nat.gcd y30.toInt.natAbs y29.toInt.natAbs = Nat.gcd p0.toInt.natAbs p2.toInt.natAbs ∧ (0 ≤ p0.toInt ∧ 0 ≤ p2.toInt → 0 ≤ y30.toInt ∧ 0 ≤ y29.toInt)) → (f_eX10_divisor s0 p0 p2 = l_eX10_divisor_6_1 n1 y29 y30) → (y29.toInt.natAbs : Int) < (n1 : Int) → mh_W G (mh_XM l G (d + 0) (mh_Ql (P_eX10_divisor B D s0 p0 p2))) mM_X10_divisor 6 [(0, .long p0), (2, .long p2), (4, .long y30), (6, .long y29)] [] s0 := by
    intro n1
    induction n1 with
    | zero =>
      intro y29 y30 iv hE1 hmn1
      exact absurd hmn1 (by omega)
    | succ n1 ihn1 =>
      intro y29 y30 iv hE1 hmn1
      rw [l_eX10_divisor_6_1_s] at hE1
      refine mw_lload 8 rfl 3 dX10_divisor_6  rfl ?_
      refine mw_lconst (v := 0) 9 rfl dX10_divisor_8 (by decide) ?_
      refine mw_lcmp 10 rfl dX10_divisor_9 (fun x39 t40 => ?_)
      have g41 := mh_lc t40
      have r_x39 : mh_r x39 (-1) 1 := g41.2.2
      refine mw_if_eq 13 rfl 31 dX10_divisor_10 (by decide) (fun c42 => ?_) (fun c42 => ?_)
      · skip
        have r_x39 : mh_r x39 (0) (0) := mh_eq1 (show x39.toInt = (0 : Int32).toInt from c42) r_x39 rc_0 (0) (0) (by decide)
        refine mw_lload 33 rfl 2 dX10_divisor_31  rfl ?_
        refine mw_lret dX10_divisor_33 rfl ⟨y30, rfl, ⟨(Eq.trans hE1 (mh_lbT t40 (mh_ifT c42 rfl))), ?_, ?_, rfl⟩⟩
        · skip
          have h9 := iv.1
          have h8 : y29.toInt.natAbs = 0 := by have := mh_l0; omega
          rw [h8, Nat.gcd_zero_right] at h9
          exact h9
        · skip
          intro hh
          exact (iv.2 hh).1
      · skip
        refine mw_lload 15 rfl 2 dX10_divisor_13  rfl ?_
        refine mw_lload 17 rfl 3 dX10_divisor_15  rfl ?_
        refine mw_lrem 18 rfl dX10_divisor_17 (mh_lnz (by have := mh_l0; omega)) (fun y43 t44 => ?_)
        refine mw_lstore 20 rfl [(8, .long y43), (0, .long p0), (2, .long p2), (4, .long y30), (6, .long y29)] dX10_divisor_18  (by decide) rfl ?_
        refine mw_lload 22 rfl 4 dX10_divisor_20  rfl ?_
        refine mw_lstore 24 rfl [(4, .long y29), (8, .long y43), (0, .long p0), (2, .long p2), (6, .long y29)] dX10_divisor_22  (by decide) rfl ?_
        refine mw_lload 26 rfl 1 dX10_divisor_24  rfl ?_
        refine mw_lstore 28 rfl [(6, .long y43), (4, .long y29), (8, .long y43), (0, .long p0), (2, .long p2)] dX10_divisor_26  (by decide) rfl ?_
        refine mw_goto 31 rfl 6 dX10_divisor_28 (by decide) ?_
        exact mw_lv [3, 4, 1, 0] rfl (ihn1 y43 y29 (by
            refine ⟨?_, ?_⟩
            · first | rfl | exact mh_gcs (by assumption) (by have := mh_l0; omega) iv.1
            · intro hh; first | exact hh | (have := iv.2 hh; have := (mh_lrm2 (by assumption) (by have := mh_l0; omega)).2.1 this.1; omega)) (Eq.trans hE1 (mh_lbT t40 (mh_ifF c42 (mh_lbT t44 rfl)))) (by have := (mh_lrm2 (by assumption) (by have := mh_l0; omega)).2.2; omega))
  exact mw_lv [2, 3, 1, 0] rfl (L6 9223372036854775809 p2 p0 (by
      refine ⟨?_, ?_⟩
      · first | rfl | exact mh_gcs (by assumption) (by have := mh_l0; omega) iv.1
      · intro hh; first | exact hh | (have := iv.2 hh; have := (mh_lrm2 (by assumption) (by have := mh_l0; omega)).2.1 this.1; omega)) (rfl) (by have := Int64.le_toInt p2; have := Int64.toInt_lt p2; omega))

def S_eX10_lid : List (Nat × Nat) := [(100, 9999), (101, 9999)]
def ls_eX10_lid_213_3 (s11484 : mh_H) (p4 : Int32) (y11483 : Int64) (lo_213_3 : Int32 → Int64 → Int64 × mh_H) (x12615 : Int32) (y12616 : Int64) : Int64 × mh_H := if x12615.toInt < (121 : Int32).toInt then mh_lb (s11484.2.1 100 x12615.toNatClampNeg) (fun y12635 => mh_lb (y12616 + y12635) (fun y12637 => mh_lb (x12615 + (1 : Int32)) (fun x12639 => (lo_213_3 x12639 y12637)))) else mh_lb (f_eX10_divisor s11484 y12616 y11483) (fun y12627 => if p4.toInt = 0 then mh_lb (y12616 / y12627) (fun y12633 => (y12633, s11484)) else mh_lb (y11483 / y12627) (fun y12631 => (y12631, s11484)))
def l_eX10_lid_213_3 (s11484 : mh_H) (p4 : Int32) (y11483 : Int64) : Nat → Int32 → Int64 → Int64 × mh_H
  | 0 => fun _ _ => (0, s11484)
  | n + 1 => ls_eX10_lid_213_3 s11484 p4 y11483 (l_eX10_lid_213_3 s11484 p4 y11483 n)
theorem l_eX10_lid_213_3_s (s11484 : mh_H) (p4 : Int32) (y11483 : Int64) (n : Nat) : l_eX10_lid_213_3 s11484 p4 y11483 (n + 1) = ls_eX10_lid_213_3 s11484 p4 y11483 (l_eX10_lid_213_3 s11484 p4 y11483 n) := rfl
def ls_eX10_lid_165_5 (lo_90_2 : mh_H → Int32 → Int64 → Int64 × mh_H) (p3 : Int32) (x11482 : Int32) (y11483 : Int64) (lo_165_5 : mh_H → Int32 → Int64 × mh_H) (s13636 : mh_H) (x13635 : Int32) : Int64 × mh_H := if x13635.toInt < (121 : Int32).toInt then mh_lb (s13636.2.1 101 x13635.toNatClampNeg) (fun y13655 => mh_lb (mh_pL s13636 100 x13635.toNatClampNeg y13655) (fun s13657 => mh_lb (x13635 + (1 : Int32)) (fun x13659 => (lo_165_5 s13657 x13659)))) else mh_lb (p3 + (1 : Int32)) (fun x13647 => mh_lb (Int32.toInt64 x13647) (fun y13649 => mh_lb (y11483 * y13649) (fun y13651 => mh_lb (x11482 + (1 : Int32)) (fun x13653 => (lo_90_2 s13636 x13653 y13651)))))
def l_eX10_lid_165_5 (lo_90_2 : mh_H → Int32 → Int64 → Int64 × mh_H) (p3 : Int32) (x11482 : Int32) (y11483 : Int64) : Nat → mh_H → Int32 → Int64 × mh_H
  | 0 => fun s13636 _ => (0, s13636)
  | n + 1 => ls_eX10_lid_165_5 lo_90_2 p3 x11482 y11483 (l_eX10_lid_165_5 lo_90_2 p3 x11482 y11483 n)
theorem l_eX10_lid_165_5_s (lo_90_2 : mh_H → Int32 → Int64 → Int64 × mh_H) (p3 : Int32) (x11482 : Int32) (y11483 : Int64) (n : Nat) : l_eX10_lid_165_5 lo_90_2 p3 x11482 y11483 (n + 1) = ls_eX10_lid_165_5 lo_90_2 p3 x11482 y11483 (l_eX10_lid_165_5 lo_90_2 p3 x11482 y11483 n) := rfl
def j_eX10_lid_156_7 (lo_99_4 : mh_H → Int32 → Int64 × mh_H) (s13726 : mh_H) (x13452 : Int32) : Int64 × mh_H := mh_lb (x13452 + (1 : Int32)) (fun x13759 => (lo_99_4 s13726 x13759))
def ls_eX10_lid_117_6 (lo_99_4 : mh_H → Int32 → Int64 × mh_H) (p3 : Int32) (x13452 : Int32) (lo_117_6 : mh_H → Int32 → Int64 × mh_H) (s13726 : mh_H) (x13725 : Int32) : Int64 × mh_H := if p3.toInt < x13725.toInt then (j_eX10_lid_156_7 lo_99_4 s13726 x13452) else if x13452.toInt < x13725.toInt then (j_eX10_lid_156_7 lo_99_4 s13726 x13452) else mh_lb (s13726.2.1 101 x13452.toNatClampNeg) (fun y13763 => mh_lb (x13452 - x13725) (fun x13765 => mh_lb (s13726.2.1 100 x13765.toNatClampNeg) (fun y13767 => mh_lb (y13763 + y13767) (fun y13769 => mh_lb (mh_pL s13726 101 x13452.toNatClampNeg y13769) (fun s13771 => mh_lb (x13725 + (1 : Int32)) (fun x13773 => (lo_117_6 s13771 x13773)))))))
def l_eX10_lid_117_6 (lo_99_4 : mh_H → Int32 → Int64 × mh_H) (p3 : Int32) (x13452 : Int32) : Nat → mh_H → Int32 → Int64 × mh_H
  | 0 => fun s13726 _ => (0, s13726)
  | n + 1 => ls_eX10_lid_117_6 lo_99_4 p3 x13452 (l_eX10_lid_117_6 lo_99_4 p3 x13452 n)
theorem l_eX10_lid_117_6_s (lo_99_4 : mh_H → Int32 → Int64 × mh_H) (p3 : Int32) (x13452 : Int32) (n : Nat) : l_eX10_lid_117_6 lo_99_4 p3 x13452 (n + 1) = ls_eX10_lid_117_6 lo_99_4 p3 x13452 (l_eX10_lid_117_6 lo_99_4 p3 x13452 n) := rfl
def ls_eX10_lid_99_4 (lo_90_2 : mh_H → Int32 → Int64 → Int64 × mh_H) (p3 : Int32) (x11482 : Int32) (y11483 : Int64) (lo_99_4 : mh_H → Int32 → Int64 × mh_H) (s13453 : mh_H) (x13452 : Int32) : Int64 × mh_H := if x13452.toInt < (121 : Int32).toInt then mh_lb (mh_pL s13453 101 x13452.toNatClampNeg (0 : Int64)) (fun s13661 => (l_eX10_lid_117_6 lo_99_4 p3 x13452 15 s13661 (0 : Int32))) else (l_eX10_lid_165_5 lo_90_2 p3 x11482 y11483 122 s13453 (0 : Int32))
def l_eX10_lid_99_4 (lo_90_2 : mh_H → Int32 → Int64 → Int64 × mh_H) (p3 : Int32) (x11482 : Int32) (y11483 : Int64) : Nat → mh_H → Int32 → Int64 × mh_H
  | 0 => fun s13453 _ => (0, s13453)
  | n + 1 => ls_eX10_lid_99_4 lo_90_2 p3 x11482 y11483 (l_eX10_lid_99_4 lo_90_2 p3 x11482 y11483 n)
theorem l_eX10_lid_99_4_s (lo_90_2 : mh_H → Int32 → Int64 → Int64 × mh_H) (p3 : Int32) (x11482 : Int32) (y11483 : Int64) (n : Nat) : l_eX10_lid_99_4 lo_90_2 p3 x11482 y11483 (n + 1) = ls_eX10_lid_99_4 lo_90_2 p3 x11482 y11483 (l_eX10_lid_99_4 lo_90_2 p3 x11482 y11483 n) := rfl
def ls_eX10_lid_90_2 (p1 : Int32) (p2 : Int32) (p3 : Int32) (p4 : Int32) (lo_90_2 : mh_H → Int32 → Int64 → Int64 × mh_H) (s11484 : mh_H) (x11482 : Int32) (y11483 : Int64) : Int64 × mh_H := if x11482.toInt < p2.toInt then (l_eX10_lid_99_4 lo_90_2 p3 x11482 y11483 122 s11484 (0 : Int32)) else (l_eX10_lid_213_3 s11484 p4 y11483 200 p1 (0 : Int64))
def l_eX10_lid_90_2 (p1 : Int32) (p2 : Int32) (p3 : Int32) (p4 : Int32) : Nat → mh_H → Int32 → Int64 → Int64 × mh_H
  | 0 => fun s11484 _ _ => (0, s11484)
  | n + 1 => ls_eX10_lid_90_2 p1 p2 p3 p4 (l_eX10_lid_90_2 p1 p2 p3 p4 n)
theorem l_eX10_lid_90_2_s (p1 : Int32) (p2 : Int32) (p3 : Int32) (p4 : Int32) (n : Nat) : l_eX10_lid_90_2 p1 p2 p3 p4 (n + 1) = ls_eX10_lid_90_2 p1 p2 p3 p4 (l_eX10_lid_90_2 p1 p2 p3 p4 n) := rfl
def j_eX10_lid_77_8 (lo_54_1 : mh_H → Int32 → Int64 × mh_H) (s6986 : mh_H) (x6985 : Int32) (y13776 : Int64) : Int64 × mh_H := mh_lb (mh_pL s6986 100 x6985.toNatClampNeg y13776) (fun s13781 => mh_lb (x6985 + (1 : Int32)) (fun x13783 => (lo_54_1 s13781 x13783)))
def ls_eX10_lid_54_1 (p1 : Int32) (p2 : Int32) (p3 : Int32) (p4 : Int32) (lo_54_1 : mh_H → Int32 → Int64 × mh_H) (s6986 : mh_H) (x6985 : Int32) : Int64 × mh_H := if x6985.toInt < (121 : Int32).toInt then if x6985.toInt = 0 then (j_eX10_lid_77_8 lo_54_1 s6986 x6985 (1 : Int64)) else (j_eX10_lid_77_8 lo_54_1 s6986 x6985 (0 : Int64)) else (l_eX10_lid_90_2 p1 p2 p3 p4 15 s6986 (0 : Int32) (1 : Int64))
def l_eX10_lid_54_1 (p1 : Int32) (p2 : Int32) (p3 : Int32) (p4 : Int32) : Nat → mh_H → Int32 → Int64 × mh_H
  | 0 => fun s6986 _ => (0, s6986)
  | n + 1 => ls_eX10_lid_54_1 p1 p2 p3 p4 (l_eX10_lid_54_1 p1 p2 p3 p4 n)
theorem l_eX10_lid_54_1_s (p1 : Int32) (p2 : Int32) (p3 : Int32) (p4 : Int32) (n : Nat) : l_eX10_lid_54_1 p1 p2 p3 p4 (n + 1) = ls_eX10_lid_54_1 p1 p2 p3 p4 (l_eX10_lid_54_1 p1 p2 p3 p4 n) := rfl
def f_eX10_lid (s0 : mh_H) (p1 : Int32) (p2 : Int32) (p3 : Int32) (p4 : Int32) : Int64 × mh_H := mh_lb (Int32.toInt64 p1) (fun y6883 => mh_lb (f_eX10_lies s0 y6883 (1 : Int64) (200 : Int64)) (fun x6885 => if x6885.toInt = 0 then ((-1 : Int64), s0) else mh_lb (Int32.toInt64 p2) (fun y6889 => mh_lb (f_eX10_lies s0 y6889 (1 : Int64) (12 : Int64)) (fun x6891 => if x6891.toInt = 0 then ((-1 : Int64), s0) else mh_lb (Int32.toInt64 p3) (fun y6895 => mh_lb (f_eX10_lies s0 y6895 (1 : Int64) (9 : Int64)) (fun x6897 => if x6897.toInt = 0 then ((-1 : Int64), s0) else mh_lb (Int32.toInt64 p4) (fun y6901 => mh_lb (f_eX10_lies s0 y6901 (0 : Int64) (1 : Int64)) (fun x6903 => if x6903.toInt = 0 then ((-1 : Int64), s0) else (l_eX10_lid_54_1 p1 p2 p3 p4 122 s0 (0 : Int32))))))))))
def P_eX10_lid (B D : Int) (s0 : mh_H) (p1 : Int32) (p2 : Int32) (p3 : Int32) (p4 : Int32) : Int64 → mh_H → Prop := fun z s => f_eX10_lid s0 p1 p2 p3 p4 = (z, s) ∧ mh_I B D s ∧ mh_F S_eX10_lid s0 s
set_option maxRecDepth 100000 in
set_option maxHeartbeats 4000000 in
theorem w_eX10_lid (l : Launch) (G : mh_G) (d : Nat) {B D : Int} (hB : B ≤ 1980000000 ∧ D ≤ 1980000000) {s0 : mh_H} (hI0 : mh_I B D s0) (p1 : Int32) (p2 : Int32) (p3 : Int32) (p4 : Int32) : mh_Ml l G (d + 1) mM_X10_lid [.ref (G.2.2.2 57), .int p1, .int p2, .int p3, .int p4] s0 (P_eX10_lid B D s0 p1 p2 p3 p4) := by
  refine mh_enter (lv := [(0, .ref (G.2.2.2 57)), (1, .int p1), (2, .int p2), (3, .int p3), (4, .int p4)]) (by decide) rfl (Nat.le_of_ble_eq_true rfl) ?_
  have hF0 : mh_F S_eX10_lid s0 s0 := mh_F_rf
  refine mw_iload_n 1 rfl 1 dX10_lid_0 rfl rfl ?_
  refine mw_i2l 2 rfl dX10_lid_1 (fun y6883 t6884 => ?_)
  refine mw_lconst (v := 1) 3 rfl dX10_lid_2 (by decide) ?_
  refine mw_ldc2 6 rfl dX10_lid_3 ck_X10_293 ?_
  refine mw_callSi [.long y6883, .long (1), .long (200)] [] 9 rfl dX10_lid_6 ml_X10_154 mc_X10_lies mk_X10_lies (w_eX10_lies l G (d + 0) ⟨by omega, by omega⟩ hI0 y6883 (1) (200)) rfl rfl (Nat.le_of_ble_eq_true rfl) (mh_rok (by omega) (by decide)) (fun x6885 s6886 q6887 => ?_)
  obtain ⟨r_x6885, E_s6886, e0_s6886, rfl⟩ := q6887
  have f_x6885 : x6885.toInt = 1 ↔ (1 ≤ p1.toInt ∧ p1.toInt ≤ 200) := by rw [e0_s6886]; exact by simp only [t6884, Int32.toInt_toInt64]; first | done | exact Iff.rfl
  refine mw_if_eq 12 rfl 47 dX10_lid_9 (by decide) (fun c6888 => ?_) (fun c6888 => ?_)
  · skip
    have r_x6885 : mh_r x6885 (0) (0) := mh_eq1 (show x6885.toInt = (0 : Int32).toInt from c6888) r_x6885 rc_0 (0) (0) (by decide)
    refine mw_ldc2 50 rfl dX10_lid_47 ck_X10_457 ?_
    exact mw_lret dX10_lid_50 rfl ⟨(-1), rfl, ⟨(mh_lbT t6884 (mh_lbS E_s6886 (mh_ifT c6888 rfl))), hI0, hF0⟩⟩
  · skip
    have r_p1 : mh_r p1 (1) (200) := ⟨by have := f_x6885.1 (mh_z1 r_x6885 c6888); have := ((mh_r_full p1)).1; omega, by have := f_x6885.1 (mh_z1 r_x6885 c6888); have := ((mh_r_full p1)).2; omega⟩
    have r_x6885 : mh_r x6885 (1) (1) := mh_ne1 (show x6885.toInt ≠ (0 : Int32).toInt from c6888) r_x6885 rc_0 (1) (1) (by decide)
    refine mw_iload_n 13 rfl 2 dX10_lid_12 rfl rfl ?_
    refine mw_i2l 14 rfl dX10_lid_13 (fun y6889 t6890 => ?_)
    refine mw_lconst (v := 1) 15 rfl dX10_lid_14 (by decide) ?_
    refine mw_ldc2 18 rfl dX10_lid_15 ck_X10_455 ?_
    refine mw_callSi [.long y6889, .long (1), .long (12)] [] 21 rfl dX10_lid_18 ml_X10_154 mc_X10_lies mk_X10_lies (w_eX10_lies l G (d + 0) ⟨by omega, by omega⟩ hI0 y6889 (1) (12)) rfl rfl (Nat.le_of_ble_eq_true rfl) (mh_rok (by omega) (by decide)) (fun x6891 s6892 q6893 => ?_)
    obtain ⟨r_x6891, E_s6892, e0_s6892, rfl⟩ := q6893
    have f_x6891 : x6891.toInt = 1 ↔ (1 ≤ p2.toInt ∧ p2.toInt ≤ 12) := by rw [e0_s6892]; exact by simp only [t6890, Int32.toInt_toInt64]; first | done | exact Iff.rfl
    refine mw_if_eq 24 rfl 47 dX10_lid_21 (by decide) (fun c6894 => ?_) (fun c6894 => ?_)
    · skip
      have r_x6891 : mh_r x6891 (0) (0) := mh_eq1 (show x6891.toInt = (0 : Int32).toInt from c6894) r_x6891 rc_0 (0) (0) (by decide)
      refine mw_ldc2 50 rfl dX10_lid_47 ck_X10_457 ?_
      exact mw_lret dX10_lid_50 rfl ⟨(-1), rfl, ⟨(mh_lbT t6884 (mh_lbS E_s6886 (mh_ifF c6888 (mh_lbT t6890 (mh_lbS E_s6892 (mh_ifT c6894 rfl)))))), hI0, hF0⟩⟩
    · skip
      have r_p2 : mh_r p2 (1) (12) := ⟨by have := f_x6891.1 (mh_z1 r_x6891 c6894); have := ((mh_r_full p2)).1; omega, by have := f_x6891.1 (mh_z1 r_x6891 c6894); have := ((mh_r_full p2)).2; omega⟩
      have r_x6891 : mh_r x6891 (1) (1) := mh_ne1 (show x6891.toInt ≠ (0 : Int32).toInt from c6894) r_x6891 rc_0 (1) (1) (by decide)
      refine mw_iload_n 25 rfl 3 dX10_lid_24 rfl rfl ?_
      refine mw_i2l 26 rfl dX10_lid_25 (fun y6895 t6896 => ?_)
      refine mw_lconst (v := 1) 27 rfl dX10_lid_26 (by decide) ?_
      refine mw_ldc2 30 rfl dX10_lid_27 ck_X10_179 ?_
      refine mw_callSi [.long y6895, .long (1), .long (9)] [] 33 rfl dX10_lid_30 ml_X10_154 mc_X10_lies mk_X10_lies (w_eX10_lies l G (d + 0) ⟨by omega, by omega⟩ hI0 y6895 (1) (9)) rfl rfl (Nat.le_of_ble_eq_true rfl) (mh_rok (by omega) (by decide)) (fun x6897 s6898 q6899 => ?_)
      obtain ⟨r_x6897, E_s6898, e0_s6898, rfl⟩ := q6899
      have f_x6897 : x6897.toInt = 1 ↔ (1 ≤ p3.toInt ∧ p3.toInt ≤ 9) := by rw [e0_s6898]; exact by simp only [t6896, Int32.toInt_toInt64]; first | done | exact Iff.rfl
      refine mw_if_eq 36 rfl 47 dX10_lid_33 (by decide) (fun c6900 => ?_) (fun c6900 => ?_)
      · skip
        have r_x6897 : mh_r x6897 (0) (0) := mh_eq1 (show x6897.toInt = (0 : Int32).toInt from c6900) r_x6897 rc_0 (0) (0) (by decide)
        refine mw_ldc2 50 rfl dX10_lid_47 ck_X10_457 ?_
        exact mw_lret dX10_lid_50 rfl ⟨(-1), rfl, ⟨(mh_lbT t6884 (mh_lbS E_s6886 (mh_ifF c6888 (mh_lbT t6890 (mh_lbS E_s6892 (mh_ifF c6894 (mh_lbT t6896 (mh_lbS E_s6898 (mh_ifT c6900 rfl))))))))), hI0, hF0⟩⟩
      · skip
        have r_p3 : mh_r p3 (1) (9) := ⟨by have := f_x6897.1 (mh_z1 r_x6897 c6900); have := ((mh_r_full p3)).1; omega, by have := f_x6897.1 (mh_z1 r_x6897 c6900); have := ((mh_r_full p3)).2; omega⟩
        have r_x6897 : mh_r x6897 (1) (1) := mh_ne1 (show x6897.toInt ≠ (0 : Int32).toInt from c6900) r_x6897 rc_0 (1) (1) (by decide)
        refine mw_iload 38 rfl 4 dX10_lid_36  rfl ?_
        refine mw_i2l 39 rfl dX10_lid_38 (fun y6901 t6902 => ?_)
        refine mw_lconst (v := 0) 40 rfl dX10_lid_39 (by decide) ?_
        refine mw_lconst (v := 1) 41 rfl dX10_lid_40 (by decide) ?_
        refine mw_callSi [.long y6901, .long (0), .long (1)] [] 44 rfl dX10_lid_41 ml_X10_154 mc_X10_lies mk_X10_lies (w_eX10_lies l G (d + 0) ⟨by omega, by omega⟩ hI0 y6901 (0) (1)) rfl rfl (Nat.le_of_ble_eq_true rfl) (mh_rok (by omega) (by decide)) (fun x6903 s6904 q6905 => ?_)
        obtain ⟨r_x6903, E_s6904, e0_s6904, rfl⟩ := q6905
        have f_x6903 : x6903.toInt = 1 ↔ (0 ≤ p4.toInt ∧ p4.toInt ≤ 1) := by rw [e0_s6904]; exact by simp only [t6902, Int32.toInt_toInt64]; first | done | exact Iff.rfl
        refine mw_if_ne 47 rfl 51 dX10_lid_44 (by decide) (fun c6906 => ?_) (fun c6906 => ?_)
        · skip
          have r_p4 : mh_r p4 (0) (1) := ⟨by have := f_x6903.1 (mh_z1 r_x6903 c6906); have := ((mh_r_full p4)).1; omega, by have := f_x6903.1 (mh_z1 r_x6903 c6906); have := ((mh_r_full p4)).2; omega⟩
          have r_x6903 : mh_r x6903 (1) (1) := mh_ne1 (show x6903.toInt ≠ (0 : Int32).toInt from c6906) r_x6903 rc_0 (1) (1) (by decide)
          refine mw_iconst (v := 0) 52 rfl dX10_lid_51 (by decide) ?_
          refine mw_istore 54 rfl [(5, .int (0)), (0, .ref (G.2.2.2 57)), (1, .int p1), (2, .int p2), (3, .int p3), (4, .int p4)] dX10_lid_52  (by decide) rfl ?_
          have L54 : ∀ n1 : Nat, ∀ (x6985 : Int32) (s6986 : mh_H), mh_r x6985 (0) (121) → mh_I B D s6986 → mh_F S_eX10_lid s0 s6986 → (f_eX10_lid s0 p1 p2 p3 p4 = l_eX10_lid_54_1 p1 p2 p3 p4 n1 s6986 x6985) → (121) - x6985.toInt < (n1 : Int) → mh_W G (mh_XM l G (d + 1) (mh_Ql (P_eX10_lid B D s0 p1 p2 p3 p4))) mM_X10_lid 54 [(0, .ref (G.2.2.2 57)), (1, .int p1), (2, .int p2), (3, .int p3), (4, .int p4), (5, .int x6985)] [] s6986 := by
            intro n1
            induction n1 with
            | zero =>
              intro x6985 s6986 r_x6985 hI_s6986 hF_s6986 hE1 hmn1
              exact absurd hmn1 (by have := r_x6985.1; have := r_x6985.2; omega)
            | succ n1 ihn1 =>
              intro x6985 s6986 r_x6985 hI_s6986 hF_s6986 hE1 hmn1
              rw [l_eX10_lid_54_1_s] at hE1
              refine mw_iload 56 rfl 5 dX10_lid_54  rfl ?_
              refine mw_bipush (v := 121) 58 rfl dX10_lid_56 (by decide) ?_
              refine mw_icmp_ge 61 rfl 84 dX10_lid_58 (by decide) (fun c6996 => ?_) (fun c6996 => ?_)
              · skip
                have r_x6985 : mh_r x6985 (121) (121) := mh_le2 c6996 rc_121 r_x6985 (121) (by decide)
                refine mw_lconst (v := 1) 85 rfl dX10_lid_84 (by decide) ?_
                refine mw_lstore 87 rfl [(5, .long (1)), (0, .ref (G.2.2.2 57)), (1, .int p1), (2, .int p2), (3, .int p3), (4, .int p4)] dX10_lid_85  (by decide) rfl ?_
                refine mw_iconst (v := 0) 88 rfl dX10_lid_87 (by decide) ?_
                refine mw_istore 90 rfl [(7, .int (0)), (5, .long (1)), (0, .ref (G.2.2.2 57)), (1, .int p1), (2, .int p2), (3, .int p3), (4, .int p4)] dX10_lid_88  (by decide) rfl ?_
                have L90 : ∀ n2 : Nat, ∀ (x11482 : Int32) (y11483 : Int64) (s11484 : mh_H), mh_r x11482 (0) (14) → mh_I B D s11484 → mh_F S_eX10_lid s0 s11484 → (1 ≤ y11483.toInt ∧ y11483.toInt ≤ 10 ^ x11482.toInt.toNat) → (f_eX10_lid s0 p1 p2 p3 p4 = l_eX10_lid_90_2 p1 p2 p3 p4 n2 s11484 x11482 y11483) → (14) - x11482.toInt < (n2 : Int) → mh_W G (mh_XM l G (d + 1) (mh_Ql (P_eX10_lid B D s0 p1 p2 p3 p4))) mM_X10_lid 90 [(0, .ref (G.2.2.2 57)), (1, .int p1), (2, .int p2), (3, .int p3), (4, .int p4), (5, .long y11483), (7, .int x11482)] [] s11484 := by
                  intro n2
                  induction n2 with
                  | zero =>
                    intro x11482 y11483 s11484 r_x11482 hI_s11484 hF_s11484 iv hE2 hmn2
                    exact absurd hmn2 (by have := r_x11482.1; have := r_x11482.2; omega)
                  | succ n2 ihn2 =>
                    intro x11482 y11483 s11484 r_x11482 hI_s11484 hF_s11484 iv hE2 hmn2
                    rw [l_eX10_lid_90_2_s] at hE2
                    refine mw_iload 92 rfl 6 dX10_lid_90  rfl ?_
                    refine mw_iload_n 93 rfl 2 dX10_lid_92 rfl rfl ?_
                    refine mw_icmp_ge 96 rfl 207 dX10_lid_93 (by decide) (fun c12607 => ?_) (fun c12607 => ?_)
                    · skip
                      have r_x11482 : mh_r x11482 (1) (14) := mh_le2 c12607 r_p2 r_x11482 (1) (by decide)
                      refine mw_lconst (v := 0) 208 rfl dX10_lid_207 (by decide) ?_
                      refine mw_lstore 210 rfl [(7, .long (0)), (0, .ref (G.2.2.2 57)), (1, .int p1), (2, .int p2), (3, .int p3), (4, .int p4), (5, .long y11483)] dX10_lid_208  (by decide) rfl ?_
                      refine mw_iload_n 211 rfl 2 dX10_lid_210 rfl rfl ?_
                      refine mw_istore 213 rfl [(9, .int p1), (7, .long (0)), (0, .ref (G.2.2.2 57)), (1, .int p1), (2, .int p2), (3, .int p3), (4, .int p4), (5, .long y11483)] dX10_lid_211  (by decide) rfl ?_
                      have L213 : ∀ n3 : Nat, ∀ (x12615 : Int32) (y12616 : Int64), mh_r x12615 (1) (200) → (f_eX10_lid s0 p1 p2 p3 p4 = l_eX10_lid_213_3 s11484 p4 y11483 n3 x12615 y12616) → (200) - x12615.toInt < (n3 : Int) → mh_W G (mh_XM l G (d + 1) (mh_Ql (P_eX10_lid B D s0 p1 p2 p3 p4))) mM_X10_lid 213 [(0, .ref (G.2.2.2 57)), (1, .int p1), (2, .int p2), (3, .int p3), (4, .int p4), (5, .long y11483), (7, .long y12616), (9, .int x12615)] [] s11484 := by
                        intro n3
                        induction n3 with
                        | zero =>
                          intro x12615 y12616 r_x12615 hE3 hmn3
                          exact absurd hmn3 (by have := r_x12615.1; have := r_x12615.2; omega)
                        | succ n3 ihn3 =>
                          intro x12615 y12616 r_x12615 hE3 hmn3
                          rw [l_eX10_lid_213_3_s] at hE3
                          refine mw_iload 215 rfl 7 dX10_lid_213  rfl ?_
                          refine mw_bipush (v := 121) 217 rfl dX10_lid_215 (by decide) ?_
                          refine mw_icmp_ge 220 rfl 238 dX10_lid_217 (by decide) (fun c12626 => ?_) (fun c12626 => ?_)
                          · skip
                            have r_x12615 : mh_r x12615 (121) (200) := mh_le2 c12626 rc_121 r_x12615 (121) (by decide)
                            refine mw_lload 240 rfl 6 dX10_lid_238  rfl ?_
                            refine mw_lload 242 rfl 5 dX10_lid_240  rfl ?_
                            refine mw_callSl [.long y12616, .long y11483] [] 245 rfl dX10_lid_242 ml_X10_448 mc_X10_divisor mk_X10_divisor (w_eX10_divisor l G (d + 0) ⟨by omega, by omega⟩ hI_s11484 y12616 y11483) rfl rfl (Nat.le_of_ble_eq_true rfl) (mh_rok (by omega) (by decide)) (fun y12627 s12628 q12629 => ?_)
                            obtain ⟨E_s12628, e0_s12628, e1_s12628, rfl⟩ := q12629
                            refine mw_lstore 247 rfl [(9, .long y12627), (0, .ref (G.2.2.2 57)), (1, .int p1), (2, .int p2), (3, .int p3), (4, .int p4), (5, .long y11483), (7, .long y12616)] dX10_lid_245  (by decide) rfl ?_
                            refine mw_iload 249 rfl 5 dX10_lid_247  rfl ?_
                            refine mw_if_ne 252 rfl 260 dX10_lid_249 (by decide) (fun c12630 => ?_) (fun c12630 => ?_)
                            · skip
                              have r_p4 : mh_r p4 (1) (1) := mh_ne1 (show p4.toInt ≠ (0 : Int32).toInt from c12630) r_p4 rc_0 (1) (1) (by decide)
                              refine mw_lload 262 rfl 6 dX10_lid_260  rfl ?_
                              refine mw_lload 264 rfl 0 dX10_lid_262  rfl ?_
                              refine mw_ldiv 265 rfl dX10_lid_264 (mh_lnz (mh_gnz e0_s12628 iv.1)) (fun y12631 t12632 => ?_)
                              exact mw_lret dX10_lid_265 rfl ⟨y12631, rfl, ⟨(Eq.trans hE3 (mh_ifF (Int.not_lt.mpr c12626) (mh_lbS E_s12628 (mh_ifF c12630 (mh_lbT t12632 rfl))))), hI_s11484, hF_s11484⟩⟩
                            · skip
                              have r_p4 : mh_r p4 (0) (0) := mh_eq1 (show p4.toInt = (0 : Int32).toInt from c12630) r_p4 rc_0 (0) (0) (by decide)
                              refine mw_lload 254 rfl 7 dX10_lid_252  rfl ?_
                              refine mw_lload 256 rfl 0 dX10_lid_254  rfl ?_
                              refine mw_ldiv 257 rfl dX10_lid_256 (mh_lnz (mh_gnz e0_s12628 iv.1)) (fun y12633 t12634 => ?_)
                              refine mw_goto 260 rfl 265 dX10_lid_257 (by decide) ?_
                              exact mw_lret dX10_lid_265 rfl ⟨y12633, rfl, ⟨(Eq.trans hE3 (mh_ifF (Int.not_lt.mpr c12626) (mh_lbS E_s12628 (mh_ifT c12630 (mh_lbT t12634 rfl))))), hI_s11484, hF_s11484⟩⟩
                          · skip
                            have r_x12615 : mh_r x12615 (1) (120) := mh_lt1 c12626 r_x12615 rc_121 (120) (by decide)
                            refine mw_lload 222 rfl 6 dX10_lid_220  rfl ?_
                            refine mw_aload_n 223 rfl 0 dX10_lid_222 rfl rfl ?_
                            refine mw_geta 226 rfl dX10_lid_223 gf_X10_143 rfl 100 (mh_rf hI_s11484 97 rfl) ?_
                            refine mw_iload 228 rfl 7 dX10_lid_226  rfl ?_
                            refine mw_lald 229 rfl dX10_lid_228 rfl r_x12615 (by decide) (fun y12635 t12636 => ?_)
                            refine mw_ladd 230 rfl dX10_lid_229 (fun y12637 t12638 => ?_)
                            refine mw_lstore 232 rfl [(7, .long y12637), (0, .ref (G.2.2.2 57)), (1, .int p1), (2, .int p2), (3, .int p3), (4, .int p4), (5, .long y11483), (9, .int x12615)] dX10_lid_230  (by decide) rfl ?_
                            refine mw_iincR (k := 7) (2) (121) 235 rfl (fun z => [(9, .int z), (7, .long y12637), (0, .ref (G.2.2.2 57)), (1, .int p1), (2, .int p2), (3, .int p3), (4, .int p4), (5, .long y11483)]) dX10_lid_232 rfl (by decide) (fun _ => rfl) r_x12615 (by decide) (by decide) (fun x12639 t12640 r_x12639 => ?_)
                            refine mw_goto 238 rfl 213 dX10_lid_235 (by decide) ?_
                            exact mw_lv [2, 3, 4, 5, 6, 7, 1, 0] rfl (ihn3 x12639 y12637 (mh_r_wk r_x12639 (by decide)) (Eq.trans hE3 (mh_ifT c12626 (mh_lbT t12636 (mh_lbT t12638 (mh_lbT (mh_einc t12640 rfl) rfl))))) (by have : x12639.toInt = x12615.toInt + (1) := t12640; omega))
                      exact mw_lv [2, 3, 4, 5, 6, 7, 1, 0] rfl (L213 200 p1 (0) r_p1 (Eq.trans hE2 (mh_ifF (Int.not_lt.mpr c12607) rfl)) (by have := (r_p1).1; have := (r_p1).2; omega))
                    · skip
                      have r_x11482 : mh_r x11482 (0) (11) := mh_lt1 c12607 r_x11482 r_p2 (11) (by decide)
                      refine mw_iconst (v := 0) 97 rfl dX10_lid_96 (by decide) ?_
                      refine mw_istore 99 rfl [(8, .int (0)), (0, .ref (G.2.2.2 57)), (1, .int p1), (2, .int p2), (3, .int p3), (4, .int p4), (5, .long y11483), (7, .int x11482)] dX10_lid_97  (by decide) rfl ?_
                      have L99 : ∀ n4 : Nat, ∀ (x13452 : Int32) (s13453 : mh_H), mh_r x13452 (0) (121) → mh_I B D s13453 → mh_F S_eX10_lid s0 s13453 → (f_eX10_lid s0 p1 p2 p3 p4 = l_eX10_lid_99_4 (l_eX10_lid_90_2 p1 p2 p3 p4 n2) p3 x11482 y11483 n4 s13453 x13452) → (121) - x13452.toInt < (n4 : Int) → mh_W G (mh_XM l G (d + 1) (mh_Ql (P_eX10_lid B D s0 p1 p2 p3 p4))) mM_X10_lid 99 [(0, .ref (G.2.2.2 57)), (1, .int p1), (2, .int p2), (3, .int p3), (4, .int p4), (5, .long y11483), (7, .int x11482), (8, .int x13452)] [] s13453 := by
                        intro n4
                        induction n4 with
                        | zero =>
                          intro x13452 s13453 r_x13452 hI_s13453 hF_s13453 hE4 hmn4
                          exact absurd hmn4 (by have := r_x13452.1; have := r_x13452.2; omega)
                        | succ n4 ihn4 =>
                          intro x13452 s13453 r_x13452 hI_s13453 hF_s13453 hE4 hmn4
                          rw [l_eX10_lid_99_4_s] at hE4
                          refine mw_iload 101 rfl 7 dX10_lid_99  rfl ?_
                          refine mw_bipush (v := 121) 103 rfl dX10_lid_101 (by decide) ?_
                          refine mw_icmp_ge 106 rfl 162 dX10_lid_103 (by decide) (fun c13555 => ?_) (fun c13555 => ?_)
                          · skip
                            have r_x13452 : mh_r x13452 (121) (121) := mh_le2 c13555 rc_121 r_x13452 (121) (by decide)
                            refine mw_iconst (v := 0) 163 rfl dX10_lid_162 (by decide) ?_
                            refine mw_istore 165 rfl [(8, .int (0)), (0, .ref (G.2.2.2 57)), (1, .int p1), (2, .int p2), (3, .int p3), (4, .int p4), (5, .long y11483), (7, .int x11482)] dX10_lid_163  (by decide) rfl ?_
                            have L165 : ∀ n5 : Nat, ∀ (x13635 : Int32) (s13636 : mh_H), mh_r x13635 (0) (121) → mh_I B D s13636 → mh_F S_eX10_lid s0 s13636 → (f_eX10_lid s0 p1 p2 p3 p4 = l_eX10_lid_165_5 (l_eX10_lid_90_2 p1 p2 p3 p4 n2) p3 x11482 y11483 n5 s13636 x13635) → (121) - x13635.toInt < (n5 : Int) → mh_W G (mh_XM l G (d + 1) (mh_Ql (P_eX10_lid B D s0 p1 p2 p3 p4))) mM_X10_lid 165 [(0, .ref (G.2.2.2 57)), (1, .int p1), (2, .int p2), (3, .int p3), (4, .int p4), (5, .long y11483), (7, .int x11482), (8, .int x13635)] [] s13636 := by
                              intro n5
                              induction n5 with
                              | zero =>
                                intro x13635 s13636 r_x13635 hI_s13636 hF_s13636 hE5 hmn5
                                exact absurd hmn5 (by have := r_x13635.1; have := r_x13635.2; omega)
                              | succ n5 ihn5 =>
                                intro x13635 s13636 r_x13635 hI_s13636 hF_s13636 hE5 hmn5
                                rw [l_eX10_lid_165_5_s] at hE5
                                refine mw_iload 167 rfl 7 dX10_lid_165  rfl ?_
                                refine mw_bipush (v := 121) 169 rfl dX10_lid_167 (by decide) ?_
                                refine mw_icmp_ge 172 rfl 192 dX10_lid_169 (by decide) (fun c13646 => ?_) (fun c13646 => ?_)
                                · skip
                                  have r_x13635 : mh_r x13635 (121) (121) := mh_le2 c13646 rc_121 r_x13635 (121) (by decide)
                                  refine mw_lload 194 rfl 5 dX10_lid_192  rfl ?_
                                  refine mw_iload_n 195 rfl 3 dX10_lid_194 rfl rfl ?_
                                  refine mw_iconst (v := 1) 196 rfl dX10_lid_195 (by decide) ?_
                                  refine mw_iadd 197 rfl (2) (10) dX10_lid_196 r_p3 rc_1 (by decide) (fun x13647 t13648 r_x13647 => ?_)
                                  refine mw_i2l 198 rfl dX10_lid_197 (fun y13649 t13650 => ?_)
                                  refine mw_lmul 199 rfl dX10_lid_198 (fun y13651 t13652 => ?_)
                                  refine mw_lstore 201 rfl [(5, .long y13651), (0, .ref (G.2.2.2 57)), (1, .int p1), (2, .int p2), (3, .int p3), (4, .int p4), (7, .int x11482), (8, .int x13635)] dX10_lid_199  (by decide) rfl ?_
                                  refine mw_iincR (k := 6) (1) (12) 204 rfl (fun z => [(7, .int z), (5, .long y13651), (0, .ref (G.2.2.2 57)), (1, .int p1), (2, .int p2), (3, .int p3), (4, .int p4), (8, .int x13635)]) dX10_lid_201 rfl (by decide) (fun _ => rfl) r_x11482 (by decide) (by decide) (fun x13653 t13654 r_x13653 => ?_)
                                  refine mw_goto 207 rfl 90 dX10_lid_204 (by decide) ?_
                                  exact mw_lv [2, 3, 4, 5, 6, 1, 0] rfl (ihn2 x13653 y13651 s13636 (mh_r_wk r_x13653 (by decide)) hI_s13636 hF_s13636 (by
                                      exact mh_allst t13652 t13650 iv (mh_r_wk r_x13647 (by decide)) (mh_r_wk r_x11482 (by decide)) t13654) (Eq.trans hE5 (mh_ifF (Int.not_lt.mpr c13646) (mh_lbT (mh_eadd t13648) (mh_lbT t13650 (mh_lbT t13652 (mh_lbT (mh_einc t13654 rfl) rfl)))))) (by have : x13653.toInt = x11482.toInt + (1) := t13654; omega))
                                · skip
                                  have r_x13635 : mh_r x13635 (0) (120) := mh_lt1 c13646 r_x13635 rc_121 (120) (by decide)
                                  refine mw_aload_n 173 rfl 0 dX10_lid_172 rfl rfl ?_
                                  refine mw_geta 176 rfl dX10_lid_173 gf_X10_143 rfl 100 (mh_rf hI_s13636 97 rfl) ?_
                                  refine mw_iload 178 rfl 7 dX10_lid_176  rfl ?_
                                  refine mw_aload_n 179 rfl 0 dX10_lid_178 rfl rfl ?_
                                  refine mw_geta 182 rfl dX10_lid_179 gf_X10_146 rfl 101 (mh_rf hI_s13636 98 rfl) ?_
                                  refine mw_iload 184 rfl 7 dX10_lid_182  rfl ?_
                                  refine mw_lald 185 rfl dX10_lid_184 rfl r_x13635 (by decide) (fun y13655 t13656 => ?_)
                                  refine mw_last 186 rfl dX10_lid_185 rfl r_x13635 (by decide) (fun s13657 t13658 => ?_)
                                  have hI_s13657 : mh_I B D s13657 := by rw [t13658]; exact mh_I_pL hI_s13636
                                  have hF_s13657 : mh_F S_eX10_lid s0 s13657 := by rw [t13658]; exact mh_F_pL hF_s13636 (mh_si 0 rfl)
                                  refine mw_iincR (k := 7) (1) (121) 189 rfl (fun z => [(8, .int z), (0, .ref (G.2.2.2 57)), (1, .int p1), (2, .int p2), (3, .int p3), (4, .int p4), (5, .long y11483), (7, .int x11482)]) dX10_lid_186 rfl (by decide) (fun _ => rfl) r_x13635 (by decide) (by decide) (fun x13659 t13660 r_x13659 => ?_)
                                  refine mw_goto 192 rfl 165 dX10_lid_189 (by decide) ?_
                                  exact mw_lv [1, 2, 3, 4, 5, 6, 7, 0] rfl (ihn5 x13659 s13657 (mh_r_wk r_x13659 (by decide)) hI_s13657 hF_s13657 (Eq.trans hE5 (mh_ifT c13646 (mh_lbT t13656 (mh_lbT t13658 (mh_lbT (mh_einc t13660 rfl) rfl))))) (by have : x13659.toInt = x13635.toInt + (1) := t13660; omega))
                            exact mw_lv [1, 2, 3, 4, 5, 6, 7, 0] rfl (L165 122 (0) s13453 (mh_r_wk rc_0 (by decide)) hI_s13453 hF_s13453 (Eq.trans hE4 (mh_ifF (Int.not_lt.mpr c13555) rfl)) (by have := (rc_0).1; have := (rc_0).2; omega))
                          · skip
                            have r_x13452 : mh_r x13452 (0) (120) := mh_lt1 c13555 r_x13452 rc_121 (120) (by decide)
                            refine mw_aload_n 107 rfl 0 dX10_lid_106 rfl rfl ?_
                            refine mw_geta 110 rfl dX10_lid_107 gf_X10_146 rfl 101 (mh_rf hI_s13453 98 rfl) ?_
                            refine mw_iload 112 rfl 7 dX10_lid_110  rfl ?_
                            refine mw_lconst (v := 0) 113 rfl dX10_lid_112 (by decide) ?_
                            refine mw_last 114 rfl dX10_lid_113 rfl r_x13452 (by decide) (fun s13661 t13662 => ?_)
                            have hI_s13661 : mh_I B D s13661 := by rw [t13662]; exact mh_I_pL hI_s13453
                            have hF_s13661 : mh_F S_eX10_lid s0 s13661 := by rw [t13662]; exact mh_F_pL hF_s13453 (mh_si 1 rfl)
                            refine mw_iconst (v := 0) 115 rfl dX10_lid_114 (by decide) ?_
                            refine mw_istore 117 rfl [(9, .int (0)), (0, .ref (G.2.2.2 57)), (1, .int p1), (2, .int p2), (3, .int p3), (4, .int p4), (5, .long y11483), (7, .int x11482), (8, .int x13452)] dX10_lid_115  (by decide) rfl ?_
                            have L117 : ∀ n6 : Nat, ∀ (x13725 : Int32) (s13726 : mh_H), mh_r x13725 (0) (14) → mh_I B D s13726 → mh_F S_eX10_lid s0 s13726 → (f_eX10_lid s0 p1 p2 p3 p4 = l_eX10_lid_117_6 (l_eX10_lid_99_4 (l_eX10_lid_90_2 p1 p2 p3 p4 n2) p3 x11482 y11483 n4) p3 x13452 n6 s13726 x13725) → (14) - x13725.toInt < (n6 : Int) → mh_W G (mh_XM l G (d + 1) (mh_Ql (P_eX10_lid B D s0 p1 p2 p3 p4))) mM_X10_lid 117 [(0, .ref (G.2.2.2 57)), (1, .int p1), (2, .int p2), (3, .int p3), (4, .int p4), (5, .long y11483), (7, .int x11482), (8, .int x13452), (9, .int x13725)] [] s13726 := by
                              intro n6
                              induction n6 with
                              | zero =>
                                intro x13725 s13726 r_x13725 hI_s13726 hF_s13726 hE6 hmn6
                                exact absurd hmn6 (by have := r_x13725.1; have := r_x13725.2; omega)
                              | succ n6 ihn6 =>
                                intro x13725 s13726 r_x13725 hI_s13726 hF_s13726 hE6 hmn6
                                rw [l_eX10_lid_117_6_s] at hE6
                                refine mw_iload 119 rfl 8 dX10_lid_117  rfl ?_
                                refine mw_iload_n 120 rfl 3 dX10_lid_119 rfl rfl ?_
                                have J156 : (f_eX10_lid s0 p1 p2 p3 p4 = j_eX10_lid_156_7 (l_eX10_lid_99_4 (l_eX10_lid_90_2 p1 p2 p3 p4 n2) p3 x11482 y11483 n4) s13726 x13452) → mh_W G (mh_XM l G (d + 1) (mh_Ql (P_eX10_lid B D s0 p1 p2 p3 p4))) mM_X10_lid 156 [(0, .ref (G.2.2.2 57)), (1, .int p1), (2, .int p2), (3, .int p3), (4, .int p4), (5, .long y11483), (7, .int x11482), (8, .int x13452), (9, .int x13725)] [] s13726 := by
                                  intro hE7
                                  refine mw_iincR (k := 7) (1) (121) 159 rfl (fun z => [(8, .int z), (0, .ref (G.2.2.2 57)), (1, .int p1), (2, .int p2), (3, .int p3), (4, .int p4), (5, .long y11483), (7, .int x11482), (9, .int x13725)]) dX10_lid_156 rfl (by decide) (fun _ => rfl) r_x13452 (by decide) (by decide) (fun x13759 t13760 r_x13759 => ?_)
                                  refine mw_goto 162 rfl 99 dX10_lid_159 (by decide) ?_
                                  exact mw_lv [1, 2, 3, 4, 5, 6, 7, 0] rfl (ihn4 x13759 s13726 (mh_r_wk r_x13759 (by decide)) hI_s13726 hF_s13726 (Eq.trans hE7 (mh_lbT (mh_einc t13760 rfl) rfl)) (by have : x13759.toInt = x13452.toInt + (1) := t13760; omega))
                                refine mw_icmp_gt 123 rfl 156 dX10_lid_120 (by decide) (fun c13761 => ?_) (fun c13761 => ?_)
                                · skip
                                  have r_x13725 : mh_r x13725 (2) (14) := mh_lt2 c13761 r_p3 r_x13725 (2) (by decide)
                                  exact mw_lv [0, 1, 2, 3, 4, 5, 6, 7, 8] rfl (J156 (Eq.trans hE6 (mh_ifT c13761 rfl)))
                                · skip
                                  have r_x13725 : mh_r x13725 (0) (9) := mh_le1 c13761 r_x13725 r_p3 (9) (by decide)
                                  refine mw_iload 125 rfl 8 dX10_lid_123  rfl ?_
                                  refine mw_iload 127 rfl 7 dX10_lid_125  rfl ?_
                                  refine mw_icmp_gt 130 rfl 156 dX10_lid_127 (by decide) (fun c13762 => ?_) (fun c13762 => ?_)
                                  · skip
                                    have r_x13452 : mh_r x13452 (0) (8) := mh_lt1 c13762 r_x13452 r_x13725 (8) (by decide)
                                    have r_x13725 : mh_r x13725 (1) (9) := mh_lt2 c13762 r_x13452 r_x13725 (1) (by decide)
                                    exact mw_lv [0, 1, 2, 3, 4, 5, 6, 7, 8] rfl (J156 (Eq.trans hE6 (mh_ifF (Int.not_lt.mpr c13761) (mh_ifT c13762 rfl))))
                                  · skip
                                    refine mw_aload_n 131 rfl 0 dX10_lid_130 rfl rfl ?_
                                    refine mw_geta 134 rfl dX10_lid_131 gf_X10_146 rfl 101 (mh_rf hI_s13726 98 rfl) ?_
                                    refine mw_iload 136 rfl 7 dX10_lid_134  rfl ?_
                                    refine mw_dup2 137 rfl dX10_lid_136 rfl rfl ?_
                                    refine mw_lald 138 rfl dX10_lid_137 rfl r_x13452 (by decide) (fun y13763 t13764 => ?_)
                                    refine mw_aload_n 139 rfl 0 dX10_lid_138 rfl rfl ?_
                                    refine mw_geta 142 rfl dX10_lid_139 gf_X10_143 rfl 100 (mh_rf hI_s13726 97 rfl) ?_
                                    refine mw_iload 144 rfl 7 dX10_lid_142  rfl ?_
                                    refine mw_iload 146 rfl 8 dX10_lid_144  rfl ?_
                                    refine mw_isub 147 rfl (-9) (120) dX10_lid_146 r_x13452 r_x13725 (by decide) (fun x13765 t13766 r_x13765 => ?_)
                                    have r_x13765 : mh_r x13765 (0) (120) := ⟨by have := t13766; have := c13762; omega, r_x13765.2⟩
                                    refine mw_lald 148 rfl dX10_lid_147 rfl r_x13765 (by decide) (fun y13767 t13768 => ?_)
                                    refine mw_ladd 149 rfl dX10_lid_148 (fun y13769 t13770 => ?_)
                                    refine mw_last 150 rfl dX10_lid_149 rfl r_x13452 (by decide) (fun s13771 t13772 => ?_)
                                    have hI_s13771 : mh_I B D s13771 := by rw [t13772]; exact mh_I_pL hI_s13726
                                    have hF_s13771 : mh_F S_eX10_lid s0 s13771 := by rw [t13772]; exact mh_F_pL hF_s13726 (mh_si 1 rfl)
                                    refine mw_iincR (k := 8) (1) (10) 153 rfl (fun z => [(9, .int z), (0, .ref (G.2.2.2 57)), (1, .int p1), (2, .int p2), (3, .int p3), (4, .int p4), (5, .long y11483), (7, .int x11482), (8, .int x13452)]) dX10_lid_150 rfl (by decide) (fun _ => rfl) r_x13725 (by decide) (by decide) (fun x13773 t13774 r_x13773 => ?_)
                                    refine mw_goto 156 rfl 117 dX10_lid_153 (by decide) ?_
                                    exact mw_lv [1, 2, 3, 4, 5, 6, 7, 8, 0] rfl (ihn6 x13773 s13771 (mh_r_wk r_x13773 (by decide)) hI_s13771 hF_s13771 (Eq.trans hE6 (mh_ifF (Int.not_lt.mpr c13761) (mh_ifF (Int.not_lt.mpr c13762) (mh_lbT t13764 (mh_lbT (mh_esub t13766) (mh_lbT t13768 (mh_lbT t13770 (mh_lbT t13772 (mh_lbT (mh_einc t13774 rfl) rfl))))))))) (by have : x13773.toInt = x13725.toInt + (1) := t13774; omega))
                            exact mw_lv [1, 2, 3, 4, 5, 6, 7, 8, 0] rfl (L117 15 (0) s13661 (mh_r_wk rc_0 (by decide)) hI_s13661 hF_s13661 (Eq.trans hE4 (mh_ifT c13555 (mh_lbT t13662 rfl))) (by have := (rc_0).1; have := (rc_0).2; omega))
                      exact mw_lv [1, 2, 3, 4, 5, 6, 7, 0] rfl (L99 122 (0) s11484 (mh_r_wk rc_0 (by decide)) hI_s11484 hF_s11484 (Eq.trans hE2 (mh_ifT c12607 rfl)) (by have := (rc_0).1; have := (rc_0).2; omega))
                exact mw_lv [2, 3, 4, 5, 6, 1, 0] rfl (L90 15 (0) (1) s6986 (mh_r_wk rc_0 (by decide)) hI_s6986 hF_s6986 (by
                    decide) (Eq.trans hE1 (mh_ifF (Int.not_lt.mpr c6996) rfl)) (by have := (rc_0).1; have := (rc_0).2; omega))
              · skip
                have r_x6985 : mh_r x6985 (0) (120) := mh_lt1 c6996 r_x6985 rc_121 (120) (by decide)
                refine mw_aload_n 62 rfl 0 dX10_lid_61 rfl rfl ?_
                refine mw_geta 65 rfl dX10_lid_62 gf_X10_143 rfl 100 (mh_rf hI_s6986 97 rfl) ?_
                refine mw_iload 67 rfl 5 dX10_lid_65  rfl ?_
                refine mw_iload 69 rfl 5 dX10_lid_67  rfl ?_
                have J77 : ∀ (y13776 : Int64), (f_eX10_lid s0 p1 p2 p3 p4 = j_eX10_lid_77_8 (l_eX10_lid_54_1 p1 p2 p3 p4 n1) s6986 x6985 y13776) → mh_W G (mh_XM l G (d + 1) (mh_Ql (P_eX10_lid B D s0 p1 p2 p3 p4))) mM_X10_lid 77 [(0, .ref (G.2.2.2 57)), (1, .int p1), (2, .int p2), (3, .int p3), (4, .int p4), (5, .int x6985)] [.long y13776, .int x6985, .ref (G.2.2.2 100)] s6986 := by
                  intro y13776 hE8
                  refine mw_last 78 rfl dX10_lid_77 rfl r_x6985 (by decide) (fun s13781 t13782 => ?_)
                  have hI_s13781 : mh_I B D s13781 := by rw [t13782]; exact mh_I_pL hI_s6986
                  have hF_s13781 : mh_F S_eX10_lid s0 s13781 := by rw [t13782]; exact mh_F_pL hF_s6986 (mh_si 0 rfl)
                  refine mw_iincR (k := 5) (1) (121) 81 rfl (fun z => [(5, .int z), (0, .ref (G.2.2.2 57)), (1, .int p1), (2, .int p2), (3, .int p3), (4, .int p4)]) dX10_lid_78 rfl (by decide) (fun _ => rfl) r_x6985 (by decide) (by decide) (fun x13783 t13784 r_x13783 => ?_)
                  refine mw_goto 84 rfl 54 dX10_lid_81 (by decide) ?_
                  exact mw_lv [1, 2, 3, 4, 5, 0] rfl (ihn1 x13783 s13781 (mh_r_wk r_x13783 (by decide)) hI_s13781 hF_s13781 (Eq.trans hE8 (mh_lbT t13782 (mh_lbT (mh_einc t13784 rfl) rfl))) (by have : x13783.toInt = x6985.toInt + (1) := t13784; omega))
                refine mw_if_ne 72 rfl 76 dX10_lid_69 (by decide) (fun c13785 => ?_) (fun c13785 => ?_)
                · skip
                  have r_x6985 : mh_r x6985 (1) (120) := mh_ne1 (show x6985.toInt ≠ (0 : Int32).toInt from c13785) r_x6985 rc_0 (1) (120) (by decide)
                  refine mw_lconst (v := 0) 77 rfl dX10_lid_76 (by decide) ?_
                  exact mw_lv [0, 1, 2, 3, 4, 5] rfl (J77 (0) (Eq.trans hE1 (mh_ifT c6996 (mh_ifF c13785 rfl))))
                · skip
                  have r_x6985 : mh_r x6985 (0) (0) := mh_eq1 (show x6985.toInt = (0 : Int32).toInt from c13785) r_x6985 rc_0 (0) (0) (by decide)
                  refine mw_lconst (v := 1) 73 rfl dX10_lid_72 (by decide) ?_
                  refine mw_goto 76 rfl 77 dX10_lid_73 (by decide) ?_
                  exact mw_lv [0, 1, 2, 3, 4, 5] rfl (J77 (1) (Eq.trans hE1 (mh_ifT c6996 (mh_ifT c13785 rfl))))
          exact mw_lv [1, 2, 3, 4, 5, 0] rfl (L54 122 (0) s0 (mh_r_wk rc_0 (by decide)) hI0 hF0 (mh_lbT t6884 (mh_lbS E_s6886 (mh_ifF c6888 (mh_lbT t6890 (mh_lbS E_s6892 (mh_ifF c6894 (mh_lbT t6896 (mh_lbS E_s6898 (mh_ifF c6900 (mh_lbT t6902 (mh_lbS E_s6904 (mh_ifF c6906 rfl)))))))))))) (by have := (rc_0).1; have := (rc_0).2; omega))
        · skip
          have r_x6903 : mh_r x6903 (0) (0) := mh_eq1 (show x6903.toInt = (0 : Int32).toInt from c6906) r_x6903 rc_0 (0) (0) (by decide)
          refine mw_ldc2 50 rfl dX10_lid_47 ck_X10_457 ?_
          exact mw_lret dX10_lid_50 rfl ⟨(-1), rfl, ⟨(mh_lbT t6884 (mh_lbS E_s6886 (mh_ifF c6888 (mh_lbT t6890 (mh_lbS E_s6892 (mh_ifF c6894 (mh_lbT t6896 (mh_lbS E_s6898 (mh_ifF c6900 (mh_lbT t6902 (mh_lbS E_s6904 (mh_ifT c6906 rfl)))))))))))), hI0, hF0⟩⟩

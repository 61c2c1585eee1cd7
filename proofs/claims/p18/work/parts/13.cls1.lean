def S_J7_fill_re : List (Nat × Nat) := [(28, 9999)]
def P_J7_fill_re (B D : Int) (s0 : mh_H) (p1 : Int32) : mh_H → Prop := fun s => mh_I B D s ∧ mh_F S_J7_fill_re s0 s
set_option maxRecDepth 100000 in
set_option maxHeartbeats 4000000 in
theorem w_J7_fill_re (l : Launch) (G : mh_G) (d : Nat) {B D : Int} (hB : B ≤ 2000000000 ∧ D ≤ 2000000000) {s0 : mh_H} (hI0 : mh_I B D s0) (p1 : Int32) : mh_Mv l G (d + 0) mM_J7_fill_53178 [.ref (G.2.2.2 28), .int p1] s0 (P_J7_fill_re B D s0 p1) := by
  refine mh_enter (lv := [(0, .ref (G.2.2.2 28)), (1, .int p1)]) (by decide) rfl (Nat.le_of_ble_eq_true rfl) ?_
  have hF0 : mh_F S_J7_fill_re s0 s0 := mh_F_rf
  refine mw_iconst (v := 0) 1 rfl dJ7_fill_53178_0 (by decide) ?_
  refine mw_istore_n 2 rfl [(2, .int (0)), (0, .ref (G.2.2.2 28)), (1, .int p1)] dJ7_fill_53178_1 rfl (by decide) rfl ?_
  refine mw_aload_n 3 rfl 1 dJ7_fill_53178_2 rfl rfl ?_
  refine mw_alen 4 rfl dJ7_fill_53178_3 rfl (by decide) (v := 301) (by decide) ?_
  refine mw_istore_n 5 rfl [(3, .int (301)), (2, .int (0)), (0, .ref (G.2.2.2 28)), (1, .int p1)] dJ7_fill_53178_4 rfl (by decide) rfl ?_
  have L5 : ∀ n1 : Nat, ∀ (x207 : Int32) (s208 : mh_H), mh_r x207 (0) (400) → mh_I B D s208 → mh_F S_J7_fill_re s0 s208 → (400) - x207.toInt < (n1 : Int) → mh_W G (mh_XM l G (d + 0) (mh_Qv (P_J7_fill_re B D s0 p1))) mM_J7_fill_53178 5 [(0, .ref (G.2.2.2 28)), (1, .int p1), (2, .int x207), (3, .int (301))] [] s208 := by
    intro n1
    induction n1 with
    | zero =>
      intro x207 s208 r_x207 hI_s208 hF_s208 hmn1
      exact absurd hmn1 (by have := r_x207.1; have := r_x207.2; omega)
    | succ n1 ihn1 =>
      intro x207 s208 r_x207 hI_s208 hF_s208 hmn1
      refine mw_iload_n 6 rfl 2 dJ7_fill_53178_5 rfl rfl ?_
      refine mw_iload_n 7 rfl 3 dJ7_fill_53178_6 rfl rfl ?_
      refine mw_icmp_ge 10 rfl 20 dJ7_fill_53178_7 (by decide) (fun c216 => ?_) (fun c216 => ?_)
      · skip
        have r_x207 : mh_r x207 (301) (400) := mh_le2 c216 rc_301 r_x207 (301) (by decide)
        exact mw_vret dJ7_fill_53178_20 rfl ⟨rfl, ⟨hI_s208, hF_s208⟩⟩
      · skip
        have r_x207 : mh_r x207 (0) (300) := mh_lt1 c216 r_x207 rc_301 (300) (by decide)
        refine mw_aload_n 11 rfl 0 dJ7_fill_53178_10 rfl rfl ?_
        refine mw_iload_n 12 rfl 2 dJ7_fill_53178_11 rfl rfl ?_
        refine mw_iload_n 13 rfl 1 dJ7_fill_53178_12 rfl rfl ?_
        refine mw_iast 14 rfl dJ7_fill_53178_13 rfl r_x207 (by decide) (fun s217 t218 => ?_)
        have hI_s217 : mh_I B D s217 := by rw [t218]; exact wr_28 hI_s208
        have hF_s217 : mh_F S_J7_fill_re s0 s217 := by rw [t218]; exact mh_F_pI hF_s208 (mh_si 0 rfl)
        refine mw_iincR (k := 2) (1) (301) 17 rfl (fun z => [(2, .int z), (0, .ref (G.2.2.2 28)), (1, .int p1), (3, .int (301))]) dJ7_fill_53178_14 rfl (by decide) (fun _ => rfl) r_x207 (by decide) (by decide) (fun x219 t220 r_x219 => ?_)
        refine mw_goto 20 rfl 5 dJ7_fill_53178_17 (by decide) ?_
        exact mw_lv [1, 2, 0, 3] rfl (ihn1 x219 s217 (mh_r_wk r_x219 (by decide)) hI_s217 hF_s217 (by have : x219.toInt = x207.toInt + (1) := t220; omega))
  exact mw_lv [2, 3, 1, 0] rfl (L5 401 (0) s0 (mh_r_wk rc_0 (by decide)) hI0 hF0 (by have := (rc_0).1; have := (rc_0).2; omega))

def S_J7_fill_va (kl : Nat) : List (Nat × Nat) := [(kl + 6, 9999)]
def P_J7_fill_va (B D : Int) (s0 : mh_H) (kl : Nat) (p1 : Int32) : mh_H → Prop := fun s => mh_I B D s ∧ mh_F (S_J7_fill_va kl) s0 s
set_option maxRecDepth 100000 in
set_option maxHeartbeats 4000000 in
theorem w_J7_fill_va (l : Launch) (G : mh_G) (d : Nat) {B D : Int} (hB : B ≤ 2000000000 ∧ D ≤ 2000000000) {s0 : mh_H} (hI0 : mh_I B D s0) (kl : Nat) (hkl : mh_isL kl) (p1 : Int32) : mh_Mv l G (d + 0) mM_J7_fill_53178 [.ref (G.2.2.2 (kl + 6)), .int p1] s0 (P_J7_fill_va B D s0 kl p1) := by
  refine mh_enter (lv := [(0, .ref (G.2.2.2 (kl + 6))), (1, .int p1)]) (by decide) rfl (Nat.le_of_ble_eq_true rfl) ?_
  have hF0 : mh_F (S_J7_fill_va kl) s0 s0 := mh_F_rf
  refine mw_iconst (v := 0) 1 rfl dJ7_fill_53178_0 (by decide) ?_
  refine mw_istore_n 2 rfl [(2, .int (0)), (0, .ref (G.2.2.2 (kl + 6))), (1, .int p1)] dJ7_fill_53178_1 rfl (by decide) rfl ?_
  refine mw_aload_n 3 rfl 1 dJ7_fill_53178_2 rfl rfl ?_
  refine mw_alen 4 rfl dJ7_fill_53178_3 (ly_L6 hkl) (by decide) (v := 13) (by decide) ?_
  refine mw_istore_n 5 rfl [(3, .int (13)), (2, .int (0)), (0, .ref (G.2.2.2 (kl + 6))), (1, .int p1)] dJ7_fill_53178_4 rfl (by decide) rfl ?_
  have L5 : ∀ n1 : Nat, ∀ (x67 : Int32) (s68 : mh_H), mh_r x67 (0) (14) → mh_I B D s68 → mh_F (S_J7_fill_va kl) s0 s68 → (14) - x67.toInt < (n1 : Int) → mh_W G (mh_XM l G (d + 0) (mh_Qv (P_J7_fill_va B D s0 kl p1))) mM_J7_fill_53178 5 [(0, .ref (G.2.2.2 (kl + 6))), (1, .int p1), (2, .int x67), (3, .int (13))] [] s68 := by
    intro n1
    induction n1 with
    | zero =>
      intro x67 s68 r_x67 hI_s68 hF_s68 hmn1
      exact absurd hmn1 (by have := r_x67.1; have := r_x67.2; omega)
    | succ n1 ihn1 =>
      intro x67 s68 r_x67 hI_s68 hF_s68 hmn1
      refine mw_iload_n 6 rfl 2 dJ7_fill_53178_5 rfl rfl ?_
      refine mw_iload_n 7 rfl 3 dJ7_fill_53178_6 rfl rfl ?_
      refine mw_icmp_ge 10 rfl 20 dJ7_fill_53178_7 (by decide) (fun c76 => ?_) (fun c76 => ?_)
      · skip
        have r_x67 : mh_r x67 (13) (14) := mh_le2 c76 rc_13 r_x67 (13) (by decide)
        exact mw_vret dJ7_fill_53178_20 rfl ⟨rfl, ⟨hI_s68, hF_s68⟩⟩
      · skip
        have r_x67 : mh_r x67 (0) (12) := mh_lt1 c76 r_x67 rc_13 (12) (by decide)
        refine mw_aload_n 11 rfl 0 dJ7_fill_53178_10 rfl rfl ?_
        refine mw_iload_n 12 rfl 2 dJ7_fill_53178_11 rfl rfl ?_
        refine mw_iload_n 13 rfl 1 dJ7_fill_53178_12 rfl rfl ?_
        refine mw_iast 14 rfl dJ7_fill_53178_13 (ly_L6 hkl) r_x67 (by decide) (fun s77 t78 => ?_)
        have hI_s77 : mh_I B D s77 := by rw [t78]; exact wr_L6 hI_s68 hkl
        have hF_s77 : mh_F (S_J7_fill_va kl) s0 s77 := by rw [t78]; exact mh_F_pI hF_s68 (mh_si 0 rfl)
        refine mw_iincR (k := 2) (1) (13) 17 rfl (fun z => [(2, .int z), (0, .ref (G.2.2.2 (kl + 6))), (1, .int p1), (3, .int (13))]) dJ7_fill_53178_14 rfl (by decide) (fun _ => rfl) r_x67 (by decide) (by decide) (fun x79 t80 r_x79 => ?_)
        refine mw_goto 20 rfl 5 dJ7_fill_53178_17 (by decide) ?_
        exact mw_lv [1, 2, 0, 3] rfl (ihn1 x79 s77 (mh_r_wk r_x79 (by decide)) hI_s77 hF_s77 (by have : x79.toInt = x67.toInt + (1) := t80; omega))
  exact mw_lv [2, 3, 1, 0] rfl (L5 15 (0) s0 (mh_r_wk rc_0 (by decide)) hI0 hF0 (by have := (rc_0).1; have := (rc_0).2; omega))

def S_J7_fill_wa : List (Nat × Nat) := [(36, 9999)]
def P_J7_fill_wa (B D : Int) (s0 : mh_H) (p1 : Int64) : mh_H → Prop := fun s => mh_I B D s ∧ mh_F S_J7_fill_wa s0 s
set_option maxRecDepth 100000 in
set_option maxHeartbeats 4000000 in
theorem w_J7_fill_wa (l : Launch) (G : mh_G) (d : Nat) {B D : Int} (hB : B ≤ 2000000000 ∧ D ≤ 2000000000) {s0 : mh_H} (hI0 : mh_I B D s0) (p1 : Int64) : mh_Mv l G (d + 0) mM_J7_fill_d0a16 [.ref (G.2.2.2 36), .long p1] s0 (P_J7_fill_wa B D s0 p1) := by
  refine mh_enter (lv := [(0, .ref (G.2.2.2 36)), (1, .long p1)]) (by decide) rfl (Nat.le_of_ble_eq_true rfl) ?_
  have hF0 : mh_F S_J7_fill_wa s0 s0 := mh_F_rf
  refine mw_iconst (v := 0) 1 rfl dJ7_fill_d0a16_0 (by decide) ?_
  refine mw_istore_n 2 rfl [(3, .int (0)), (0, .ref (G.2.2.2 36)), (1, .long p1)] dJ7_fill_d0a16_1 rfl (by decide) rfl ?_
  refine mw_aload_n 3 rfl 1 dJ7_fill_d0a16_2 rfl rfl ?_
  refine mw_alen 4 rfl dJ7_fill_d0a16_3 rfl (by decide) (v := 109) (by decide) ?_
  refine mw_istore 6 rfl [(4, .int (109)), (3, .int (0)), (0, .ref (G.2.2.2 36)), (1, .long p1)] dJ7_fill_d0a16_4  (by decide) rfl ?_
  have L6 : ∀ n1 : Nat, ∀ (x123 : Int32) (s124 : mh_H), mh_r x123 (0) (127) → mh_I B D s124 → mh_F S_J7_fill_wa s0 s124 → (127) - x123.toInt < (n1 : Int) → mh_W G (mh_XM l G (d + 0) (mh_Qv (P_J7_fill_wa B D s0 p1))) mM_J7_fill_d0a16 6 [(0, .ref (G.2.2.2 36)), (1, .long p1), (3, .int x123), (4, .int (109))] [] s124 := by
    intro n1
    induction n1 with
    | zero =>
      intro x123 s124 r_x123 hI_s124 hF_s124 hmn1
      exact absurd hmn1 (by have := r_x123.1; have := r_x123.2; omega)
    | succ n1 ihn1 =>
      intro x123 s124 r_x123 hI_s124 hF_s124 hmn1
      refine mw_iload_n 7 rfl 2 dJ7_fill_d0a16_6 rfl rfl ?_
      refine mw_iload 9 rfl 3 dJ7_fill_d0a16_7  rfl ?_
      refine mw_icmp_ge 12 rfl 22 dJ7_fill_d0a16_9 (by decide) (fun c132 => ?_) (fun c132 => ?_)
      · skip
        have r_x123 : mh_r x123 (109) (127) := mh_le2 c132 rc_109 r_x123 (109) (by decide)
        exact mw_vret dJ7_fill_d0a16_22 rfl ⟨rfl, ⟨hI_s124, hF_s124⟩⟩
      · skip
        have r_x123 : mh_r x123 (0) (108) := mh_lt1 c132 r_x123 rc_109 (108) (by decide)
        refine mw_aload_n 13 rfl 0 dJ7_fill_d0a16_12 rfl rfl ?_
        refine mw_iload_n 14 rfl 2 dJ7_fill_d0a16_13 rfl rfl ?_
        refine mw_lload_n 15 rfl 1 dJ7_fill_d0a16_14 rfl rfl ?_
        refine mw_last 16 rfl dJ7_fill_d0a16_15 rfl r_x123 (by decide) (fun s133 t134 => ?_)
        have hI_s133 : mh_I B D s133 := by rw [t134]; exact mh_I_pL hI_s124
        have hF_s133 : mh_F S_J7_fill_wa s0 s133 := by rw [t134]; exact mh_F_pL hF_s124 (mh_si 0 rfl)
        refine mw_iincR (k := 2) (1) (109) 19 rfl (fun z => [(3, .int z), (0, .ref (G.2.2.2 36)), (1, .long p1), (4, .int (109))]) dJ7_fill_d0a16_16 rfl (by decide) (fun _ => rfl) r_x123 (by decide) (by decide) (fun x135 t136 r_x135 => ?_)
        refine mw_goto 22 rfl 6 dJ7_fill_d0a16_19 (by decide) ?_
        exact mw_lv [1, 2, 0, 3] rfl (ihn1 x135 s133 (mh_r_wk r_x135 (by decide)) hI_s133 hF_s133 (by have : x135.toInt = x123.toInt + (1) := t136; omega))
  exact mw_lv [2, 3, 1, 0] rfl (L6 128 (0) s0 (mh_r_wk rc_0 (by decide)) hI0 hF0 (by have := (rc_0).1; have := (rc_0).2; omega))

def P_X8_treesBeside (B D : Int) (s0 : mh_H) (kv : Nat) (p1 : Int32) : Int32 → mh_H → Prop := fun z s => mh_r z (0) (4) ∧ s0 = s
set_option maxRecDepth 100000 in
set_option maxHeartbeats 4000000 in
theorem w_X8_treesBeside (l : Launch) (G : mh_G) (d : Nat) {B D : Int} (hB : B ≤ 2000000000 ∧ D ≤ 2000000000) {s0 : mh_H} (hI0 : mh_I B D s0) (kv : Nat) (hkv : mh_isV kv) (p1 : Int32) (r_p1 : mh_r p1 (0) (143)) : mh_Mi l G (d + 0) mM_X8_treesBeside [.ref (G.2.2.2 kv), .int p1] s0 (P_X8_treesBeside B D s0 kv p1) := by
  refine mh_enter (lv := [(0, .ref (G.2.2.2 kv)), (1, .int p1)]) (by decide) rfl (Nat.le_of_ble_eq_true rfl) ?_
  refine mw_iload_n 1 rfl 1 dX8_treesBeside_0 rfl rfl ?_
  refine mw_bipush (v := 12) 3 rfl dX8_treesBeside_1 (by decide) ?_
  refine mw_irem 4 rfl (0) (11) dX8_treesBeside_3 r_p1 rc_12 (by decide) (fun x39 t40 r_x39 => ?_)
  have g41 : x39.toInt = p1.toInt % 12 := mh_rme t40 (by have := (r_p1).1; omega) (by decide)
  refine mw_istore_n 5 rfl [(2, .int x39), (0, .ref (G.2.2.2 kv)), (1, .int p1)] dX8_treesBeside_4 rfl (by decide) rfl ?_
  refine mw_iconst (v := 0) 6 rfl dX8_treesBeside_5 (by decide) ?_
  refine mw_istore_n 7 rfl [(3, .int (0)), (2, .int x39), (0, .ref (G.2.2.2 kv)), (1, .int p1)] dX8_treesBeside_6 rfl (by decide) rfl ?_
  refine mw_iload_n 8 rfl 3 dX8_treesBeside_7 rfl rfl ?_
  refine mw_bipush (v := 12) 10 rfl dX8_treesBeside_8 (by decide) ?_
  have J29 : ∀ (x50 : Int32), mh_r x50 (0) (1) → mh_W G (mh_XM l G (d + 0) (mh_Qi (P_X8_treesBeside B D s0 kv p1))) mM_X8_treesBeside 29 [(0, .ref (G.2.2.2 kv)), (1, .int p1), (2, .int x39), (3, .int x50)] [] s0 := by
    intro x50 r_x50
    refine mw_iload_n 30 rfl 2 dX8_treesBeside_29 rfl rfl ?_
    have J48 : ∀ (x85 : Int32), mh_r x85 (0) (2) → mh_W G (mh_XM l G (d + 0) (mh_Qi (P_X8_treesBeside B D s0 kv p1))) mM_X8_treesBeside 48 [(0, .ref (G.2.2.2 kv)), (1, .int p1), (2, .int x39), (3, .int x85)] [] s0 := by
      intro x85 r_x85
      refine mw_iload_n 49 rfl 2 dX8_treesBeside_48 rfl rfl ?_
      refine mw_bipush (v := 11) 51 rfl dX8_treesBeside_49 (by decide) ?_
      have J69 : ∀ (x111 : Int32), mh_r x111 (0) (3) → mh_W G (mh_XM l G (d + 0) (mh_Qi (P_X8_treesBeside B D s0 kv p1))) mM_X8_treesBeside 69 [(0, .ref (G.2.2.2 kv)), (1, .int p1), (2, .int x39), (3, .int x111)] [] s0 := by
        intro x111 r_x111
        refine mw_iload_n 70 rfl 1 dX8_treesBeside_69 rfl rfl ?_
        refine mw_sipush (v := 132) 73 rfl dX8_treesBeside_70 (by decide) ?_
        refine mw_icmp_ge 76 rfl 92 dX8_treesBeside_73 (by decide) (fun c120 => ?_) (fun c120 => ?_)
        · skip
          have r_p1 : mh_r p1 (132) (143) := mh_le2 c120 (mh_rc (x := 132) (n := 132) (by decide)) r_p1 (132) (by decide)
          refine mw_iload_n 93 rfl 3 dX8_treesBeside_92 rfl rfl ?_
          exact mw_iret dX8_treesBeside_93 rfl ⟨x111, rfl, ⟨(mh_r_wk r_x111 (by decide)), rfl⟩⟩
        · skip
          have r_p1 : mh_r p1 (0) (131) := mh_lt1 c120 r_p1 (mh_rc (x := 132) (n := 132) (by decide)) (131) (by decide)
          refine mw_aload_n 77 rfl 0 dX8_treesBeside_76 rfl rfl ?_
          refine mw_geta 80 rfl dX8_treesBeside_77 gf_X8_15 (ly_V hkv) (kv + 2) (rf_V_1 hI0 hkv) ?_
          refine mw_iload_n 81 rfl 1 dX8_treesBeside_80 rfl rfl ?_
          refine mw_bipush (v := 12) 83 rfl dX8_treesBeside_81 (by decide) ?_
          refine mw_iadd 84 rfl (12) (143) dX8_treesBeside_83 r_p1 rc_12 (by decide) (fun x121 t122 r_x121 => ?_)
          refine mw_iald 85 rfl dX8_treesBeside_84 (ly_V2 hkv) r_x121 (by decide) (fun x123 t124 => ?_)
          refine mw_iconst (v := 2) 86 rfl dX8_treesBeside_85 (by decide) ?_
          refine mw_icmp_ne 89 rfl 92 dX8_treesBeside_86 (by decide) (fun c125 => ?_) (fun c125 => ?_)
          · skip
            refine mw_iload_n 93 rfl 3 dX8_treesBeside_92 rfl rfl ?_
            exact mw_iret dX8_treesBeside_93 rfl ⟨x111, rfl, ⟨(mh_r_wk r_x111 (by decide)), rfl⟩⟩
          · skip
            have r_x123 : mh_r x123 (2) (2) := mh_eq1 c125 (mh_r_full x123) rc_2 (2) (2) (by decide)
            refine mw_iincR (k := 3) (1) (4) 92 rfl (fun z => [(3, .int z), (0, .ref (G.2.2.2 kv)), (1, .int p1), (2, .int x39)]) dX8_treesBeside_89 rfl (by decide) (fun _ => rfl) r_x111 (by decide) (by decide) (fun x126 t127 r_x126 => ?_)
            refine mw_iload_n 93 rfl 0 dX8_treesBeside_92 rfl rfl ?_
            exact mw_iret dX8_treesBeside_93 rfl ⟨x126, rfl, ⟨(mh_r_wk r_x126 (by decide)), rfl⟩⟩
      refine mw_icmp_ge 54 rfl 69 dX8_treesBeside_51 (by decide) (fun c128 => ?_) (fun c128 => ?_)
      · skip
        have r_x39 : mh_r x39 (11) (11) := mh_le2 c128 rc_11 r_x39 (11) (by decide)
        have r_p1 : mh_r p1 (11) (143) := by have := g41; have := (r_p1).1; have := (r_p1).2; have := (r_x39).1; have := (r_x39).2; exact ⟨by omega, by omega⟩
        exact mw_lv [0, 1, 2, 3] rfl (J69 x85 (mh_r_wk r_x85 (by decide)))
      · skip
        have r_x39 : mh_r x39 (0) (10) := mh_lt1 c128 r_x39 rc_11 (10) (by decide)
        have r_p1 : mh_r p1 (0) (142) := by have := g41; have := (r_p1).1; have := (r_p1).2; have := (r_x39).1; have := (r_x39).2; exact ⟨by omega, by omega⟩
        refine mw_aload_n 55 rfl 0 dX8_treesBeside_54 rfl rfl ?_
        refine mw_geta 58 rfl dX8_treesBeside_55 gf_X8_15 (ly_V hkv) (kv + 2) (rf_V_1 hI0 hkv) ?_
        refine mw_iload_n 59 rfl 1 dX8_treesBeside_58 rfl rfl ?_
        refine mw_iconst (v := 1) 60 rfl dX8_treesBeside_59 (by decide) ?_
        refine mw_iadd 61 rfl (1) (143) dX8_treesBeside_60 r_p1 rc_1 (by decide) (fun x129 t130 r_x129 => ?_)
        refine mw_iald 62 rfl dX8_treesBeside_61 (ly_V2 hkv) r_x129 (by decide) (fun x131 t132 => ?_)
        refine mw_iconst (v := 2) 63 rfl dX8_treesBeside_62 (by decide) ?_
        refine mw_icmp_ne 66 rfl 69 dX8_treesBeside_63 (by decide) (fun c133 => ?_) (fun c133 => ?_)
        · skip
          exact mw_lv [0, 1, 2, 3] rfl (J69 x85 (mh_r_wk r_x85 (by decide)))
        · skip
          have r_x131 : mh_r x131 (2) (2) := mh_eq1 c133 (mh_r_full x131) rc_2 (2) (2) (by decide)
          refine mw_iincR (k := 3) (1) (3) 69 rfl (fun z => [(3, .int z), (0, .ref (G.2.2.2 kv)), (1, .int p1), (2, .int x39)]) dX8_treesBeside_66 rfl (by decide) (fun _ => rfl) r_x85 (by decide) (by decide) (fun x134 t135 r_x134 => ?_)
          exact mw_lv [1, 2, 3, 0] rfl (J69 x134 (mh_r_wk r_x134 (by decide)))
    refine mw_if_le 33 rfl 48 dX8_treesBeside_30 (by decide) (fun c136 => ?_) (fun c136 => ?_)
    · skip
      have r_x39 : mh_r x39 (0) (0) := mh_le1 (show x39.toInt ≤ (0 : Int32).toInt from c136) r_x39 rc_0 (0) (by decide)
      have r_p1 : mh_r p1 (0) (132) := by have := g41; have := (r_p1).1; have := (r_p1).2; have := (r_x39).1; have := (r_x39).2; exact ⟨by omega, by omega⟩
      exact mw_lv [0, 1, 2, 3] rfl (J48 x50 (mh_r_wk r_x50 (by decide)))
    · skip
      have r_x39 : mh_r x39 (1) (11) := mh_lt2 (show (0 : Int32).toInt < x39.toInt from c136) rc_0 r_x39 (1) (by decide)
      have r_p1 : mh_r p1 (1) (143) := by have := g41; have := (r_p1).1; have := (r_p1).2; have := (r_x39).1; have := (r_x39).2; exact ⟨by omega, by omega⟩
      refine mw_aload_n 34 rfl 0 dX8_treesBeside_33 rfl rfl ?_
      refine mw_geta 37 rfl dX8_treesBeside_34 gf_X8_15 (ly_V hkv) (kv + 2) (rf_V_1 hI0 hkv) ?_
      refine mw_iload_n 38 rfl 1 dX8_treesBeside_37 rfl rfl ?_
      refine mw_iconst (v := 1) 39 rfl dX8_treesBeside_38 (by decide) ?_
      refine mw_isub 40 rfl (0) (142) dX8_treesBeside_39 r_p1 rc_1 (by decide) (fun x137 t138 r_x137 => ?_)
      refine mw_iald 41 rfl dX8_treesBeside_40 (ly_V2 hkv) r_x137 (by decide) (fun x139 t140 => ?_)
      refine mw_iconst (v := 2) 42 rfl dX8_treesBeside_41 (by decide) ?_
      refine mw_icmp_ne 45 rfl 48 dX8_treesBeside_42 (by decide) (fun c141 => ?_) (fun c141 => ?_)
      · skip
        exact mw_lv [0, 1, 2, 3] rfl (J48 x50 (mh_r_wk r_x50 (by decide)))
      · skip
        have r_x139 : mh_r x139 (2) (2) := mh_eq1 c141 (mh_r_full x139) rc_2 (2) (2) (by decide)
        refine mw_iincR (k := 3) (1) (2) 48 rfl (fun z => [(3, .int z), (0, .ref (G.2.2.2 kv)), (1, .int p1), (2, .int x39)]) dX8_treesBeside_45 rfl (by decide) (fun _ => rfl) r_x50 (by decide) (by decide) (fun x142 t143 r_x142 => ?_)
        exact mw_lv [1, 2, 3, 0] rfl (J48 x142 (mh_r_wk r_x142 (by decide)))
  refine mw_icmp_lt 13 rfl 29 dX8_treesBeside_10 (by decide) (fun c144 => ?_) (fun c144 => ?_)
  · skip
    have r_p1 : mh_r p1 (0) (11) := mh_lt1 c144 r_p1 rc_12 (11) (by decide)
    exact mw_lv [2, 3, 1, 0] rfl (J29 (0) (mh_r_wk rc_0 (by decide)))
  · skip
    have r_p1 : mh_r p1 (12) (143) := mh_le2 c144 rc_12 r_p1 (12) (by decide)
    refine mw_aload_n 14 rfl 2 dX8_treesBeside_13 rfl rfl ?_
    refine mw_geta 17 rfl dX8_treesBeside_14 gf_X8_15 (ly_V hkv) (kv + 2) (rf_V_1 hI0 hkv) ?_
    refine mw_iload_n 18 rfl 3 dX8_treesBeside_17 rfl rfl ?_
    refine mw_bipush (v := 12) 20 rfl dX8_treesBeside_18 (by decide) ?_
    refine mw_isub 21 rfl (0) (131) dX8_treesBeside_20 r_p1 rc_12 (by decide) (fun x145 t146 r_x145 => ?_)
    refine mw_iald 22 rfl dX8_treesBeside_21 (ly_V2 hkv) r_x145 (by decide) (fun x147 t148 => ?_)
    refine mw_iconst (v := 2) 23 rfl dX8_treesBeside_22 (by decide) ?_
    refine mw_icmp_ne 26 rfl 29 dX8_treesBeside_23 (by decide) (fun c149 => ?_) (fun c149 => ?_)
    · skip
      exact mw_lv [2, 3, 1, 0] rfl (J29 (0) (mh_r_wk rc_0 (by decide)))
    · skip
      have r_x147 : mh_r x147 (2) (2) := mh_eq1 c149 (mh_r_full x147) rc_2 (2) (2) (by decide)
      refine mw_iincR (k := 0) (1) (1) 29 rfl (fun z => [(3, .int z), (2, .int x39), (0, .ref (G.2.2.2 kv)), (1, .int p1)]) dX8_treesBeside_26 rfl (by decide) (fun _ => rfl) rc_0 (by decide) (by decide) (fun x150 t151 r_x150 => ?_)
      exact mw_lv [2, 3, 1, 0] rfl (J29 x150 (mh_r_wk r_x150 (by decide)))

def P_X8_windOf (B D : Int) (s0 : mh_H) (kv : Nat) (p1 : Int32) : Int32 → mh_H → Prop := fun z s => mh_r z (-2147483648) (2147483647) ∧ s0 = s
set_option maxRecDepth 100000 in
set_option maxHeartbeats 4000000 in
theorem w_X8_windOf (l : Launch) (G : mh_G) (d : Nat) {B D : Int} (hB : B ≤ 1980000000 ∧ D ≤ 1980000000) {s0 : mh_H} (hI0 : mh_I B D s0) (kv : Nat) (hkv : mh_isV kv) (p1 : Int32) : mh_Mi l G (d + 1) mM_X8_windOf [.ref (G.2.2.2 kv), .int p1] s0 (P_X8_windOf B D s0 kv p1) := by
  refine mh_enter (lv := [(0, .ref (G.2.2.2 kv)), (1, .int p1)]) (by decide) rfl (Nat.le_of_ble_eq_true rfl) ?_
  refine mw_iload_n 1 rfl 1 dX8_windOf_0 rfl rfl ?_
  refine mw_bipush (v := 99) 3 rfl dX8_windOf_1 (by decide) ?_
  refine mw_callSi [.int p1, .int (99)] [] 6 rfl dX8_windOf_3 ml_X8_43 mc_X9_isWithin mk_X9_isWithin (w_X9_isWithin l G (d + 0) ⟨by omega, by omega⟩ hI0 p1 (99)) rfl rfl (Nat.le_of_ble_eq_true rfl) (mh_rok (by omega) (by decide)) (fun x7 s8 q9 => ?_)
  obtain ⟨r_x7, e0_s8, rfl⟩ := q9
  refine mw_if_eq 9 rfl 18 dX8_windOf_6 (by decide) (fun c10 => ?_) (fun c10 => ?_)
  · skip
    have r_x7 : mh_r x7 (0) (0) := mh_eq1 (show x7.toInt = (0 : Int32).toInt from c10) r_x7 rc_0 (0) (0) (by decide)
    refine mw_iconst (v := 0) 19 rfl dX8_windOf_18 (by decide) ?_
    exact mw_iret dX8_windOf_19 rfl ⟨(0), rfl, ⟨(mh_r_wk rc_0 (by decide)), rfl⟩⟩
  · skip
    have r_p1 : mh_r p1 (0) (99) := ⟨by have := e0_s8.1 (mh_z1 r_x7 c10); have := ((mh_r_full p1)).1; omega, by have := e0_s8.1 (mh_z1 r_x7 c10); have := ((mh_r_full p1)).2; have := (rc_99).2; omega⟩
    have r_x7 : mh_r x7 (1) (1) := mh_ne1 (show x7.toInt ≠ (0 : Int32).toInt from c10) r_x7 rc_0 (1) (1) (by decide)
    refine mw_aload_n 10 rfl 0 dX8_windOf_9 rfl rfl ?_
    refine mw_geta 13 rfl dX8_windOf_10 gf_X8_24 (ly_V hkv) (kv + 5) (rf_V_4 hI0 hkv) ?_
    refine mw_iload_n 14 rfl 1 dX8_windOf_13 rfl rfl ?_
    refine mw_iald 15 rfl dX8_windOf_14 (ly_V5 hkv) r_p1 (by decide) (fun x11 t12 => ?_)
    refine mw_goto 18 rfl 19 dX8_windOf_15 (by decide) ?_
    exact mw_iret dX8_windOf_19 rfl ⟨x11, rfl, ⟨(mh_r_full x11), rfl⟩⟩

def P_X8_level (B D : Int) (s0 : mh_H) (kv : Nat) (p1 : Int32) : Int32 → mh_H → Prop := fun z s => mh_r z (-2147483648) (2147483647) ∧ s0 = s
set_option maxRecDepth 100000 in
set_option maxHeartbeats 4000000 in
theorem w_X8_level (l : Launch) (G : mh_G) (d : Nat) {B D : Int} (hB : B ≤ 2000000000 ∧ D ≤ 2000000000) {s0 : mh_H} (hI0 : mh_I B D s0) (kv : Nat) (hkv : mh_isV kv) (p1 : Int32) (r_p1 : mh_r p1 (0) (143)) : mh_Mi l G (d + 0) mM_X8_level [.ref (G.2.2.2 kv), .int p1] s0 (P_X8_level B D s0 kv p1) := by
  refine mh_enter (lv := [(0, .ref (G.2.2.2 kv)), (1, .int p1)]) (by decide) rfl (Nat.le_of_ble_eq_true rfl) ?_
  refine mw_aload_n 1 rfl 0 dX8_level_0 rfl rfl ?_
  refine mw_geta 4 rfl dX8_level_1 gf_X8_15 (ly_V hkv) (kv + 2) (rf_V_1 hI0 hkv) ?_
  refine mw_iload_n 5 rfl 1 dX8_level_4 rfl rfl ?_
  refine mw_iald 6 rfl dX8_level_5 (ly_V2 hkv) r_p1 (by decide) (fun x15 t16 => ?_)
  refine mw_iconst (v := 2) 7 rfl dX8_level_6 (by decide) ?_
  have J16 : ∀ (x18 : Int32), mh_r x18 (0) (30) → mh_W G (mh_XM l G (d + 0) (mh_Qi (P_X8_level B D s0 kv p1))) mM_X8_level 16 [(0, .ref (G.2.2.2 kv)), (1, .int p1)] [.int x18] s0 := by
    intro x18 r_x18
    refine mw_istore_n 17 rfl [(2, .int x18), (0, .ref (G.2.2.2 kv)), (1, .int p1)] dX8_level_16 rfl (by decide) rfl ?_
    refine mw_bipush (v := 10) 19 rfl dX8_level_17 (by decide) ?_
    refine mw_aload_n 20 rfl 1 dX8_level_19 rfl rfl ?_
    refine mw_geta 23 rfl dX8_level_20 gf_X8_9 (ly_V hkv) (kv + 1) (rf_V_0 hI0 hkv) ?_
    refine mw_iload_n 24 rfl 2 dX8_level_23 rfl rfl ?_
    refine mw_iald 25 rfl dX8_level_24 (ly_V1 hkv) r_p1 (by decide) (fun x29 t30 => ?_)
    refine mw_imul_u 26 rfl dX8_level_25 (fun x31 t32 => ?_)
    refine mw_aload_n 27 rfl 1 dX8_level_26 rfl rfl ?_
    refine mw_geta 30 rfl dX8_level_27 gf_X8_18 (ly_V hkv) (kv + 3) (rf_V_2 hI0 hkv) ?_
    refine mw_iload_n 31 rfl 2 dX8_level_30 rfl rfl ?_
    refine mw_iald 32 rfl dX8_level_31 (ly_V3 hkv) r_p1 (by decide) (fun x33 t34 => ?_)
    refine mw_iadd_u 33 rfl dX8_level_32 (fun x35 t36 => ?_)
    refine mw_iload_n 34 rfl 0 dX8_level_33 rfl rfl ?_
    refine mw_iadd_u 35 rfl dX8_level_34 (fun x37 t38 => ?_)
    exact mw_iret dX8_level_35 rfl ⟨x37, rfl, ⟨(mh_r_full x37), rfl⟩⟩
  refine mw_icmp_ne 10 rfl 15 dX8_level_7 (by decide) (fun c39 => ?_) (fun c39 => ?_)
  · skip
    refine mw_iconst (v := 0) 16 rfl dX8_level_15 (by decide) ?_
    exact mw_lv [0, 1] rfl (J16 (0) (mh_r_wk rc_0 (by decide)))
  · skip
    have r_x15 : mh_r x15 (2) (2) := mh_eq1 c39 (mh_r_full x15) rc_2 (2) (2) (by decide)
    refine mw_bipush (v := 30) 12 rfl dX8_level_10 (by decide) ?_
    refine mw_goto 15 rfl 16 dX8_level_12 (by decide) ?_
    exact mw_lv [0, 1] rfl (J16 (30) (mh_r_wk rc_30 (by decide)))

def S_X8_copyFrom (kv : Nat) (ku : Nat) : List (Nat × Nat) := [(kv + 1, 9999), (kv + 2, 9999), (kv + 3, 9999), (kv + 4, 9999), (kv + 5, 9999), (kv, 5), (kv, 6), (kv, 7)]
def P_X8_copyFrom (B D : Int) (s0 : mh_H) (kv : Nat) (ku : Nat) : mh_H → Prop := fun s => mh_I B D s ∧ mh_F (S_X8_copyFrom kv ku) s0 s
set_option maxRecDepth 100000 in
set_option maxHeartbeats 4000000 in
theorem w_X8_copyFrom (l : Launch) (G : mh_G) (d : Nat) {B D : Int} (hB : B ≤ 1980000000 ∧ D ≤ 1980000000) {s0 : mh_H} (hI0 : mh_I B D s0) (kv : Nat) (hkv : mh_isV kv) (ku : Nat) (hku : mh_isV ku) : mh_Mv l G (d + 1) mM_X8_copyFrom [.ref (G.2.2.2 kv), .ref (G.2.2.2 ku)] s0 (P_X8_copyFrom B D s0 kv ku) := by
  refine mh_enter (lv := [(0, .ref (G.2.2.2 kv)), (1, .ref (G.2.2.2 ku))]) (by decide) rfl (Nat.le_of_ble_eq_true rfl) ?_
  have hF0 : mh_F (S_X8_copyFrom kv ku) s0 s0 := mh_F_rf
  refine mw_aload_n 1 rfl 1 dX8_copyFrom_0 rfl rfl ?_
  refine mw_geta 4 rfl dX8_copyFrom_1 gf_X8_9 (ly_V hku) (ku + 1) (rf_V_0 hI0 hku) ?_
  refine mw_iconst (v := 0) 5 rfl dX8_copyFrom_4 (by decide) ?_
  refine mw_aload_n 6 rfl 0 dX8_copyFrom_5 rfl rfl ?_
  refine mw_geta 9 rfl dX8_copyFrom_6 gf_X8_9 (ly_V hkv) (kv + 1) (rf_V_0 hI0 hkv) ?_
  refine mw_iconst (v := 0) 10 rfl dX8_copyFrom_9 (by decide) ?_
  refine mw_sipush (v := 144) 13 rfl dX8_copyFrom_10 (by decide) ?_
  refine mw_copy 16 rfl dX8_copyFrom_13 ml_X8_37 (ly_V1 hku) (ly_V1 hkv) (by decide) (mh_cr (D := d + 1) (by omega) (Nat.le_of_ble_eq_true rfl)) (fun s23 t24 => ?_)
  have hI_s23 : mh_I B D s23 := by rw [t24]; exact wa_V1 hI0 hkv
  have hF_s23 : mh_F (S_X8_copyFrom kv ku) s0 s23 := by rw [t24]; exact mh_F_pA hF0 (List.mem_of_getElem? (i := 0) rfl)
  refine mw_aload_n 17 rfl 1 dX8_copyFrom_16 rfl rfl ?_
  refine mw_geta 20 rfl dX8_copyFrom_17 gf_X8_15 (ly_V hku) (ku + 2) (rf_V_1 hI_s23 hku) ?_
  refine mw_iconst (v := 0) 21 rfl dX8_copyFrom_20 (by decide) ?_
  refine mw_aload_n 22 rfl 0 dX8_copyFrom_21 rfl rfl ?_
  refine mw_geta 25 rfl dX8_copyFrom_22 gf_X8_15 (ly_V hkv) (kv + 2) (rf_V_1 hI_s23 hkv) ?_
  refine mw_iconst (v := 0) 26 rfl dX8_copyFrom_25 (by decide) ?_
  refine mw_sipush (v := 144) 29 rfl dX8_copyFrom_26 (by decide) ?_
  refine mw_copy 32 rfl dX8_copyFrom_29 ml_X8_37 (ly_V2 hku) (ly_V2 hkv) (by decide) (mh_cr (D := d + 1) (by omega) (Nat.le_of_ble_eq_true rfl)) (fun s25 t26 => ?_)
  have hI_s25 : mh_I B D s25 := by rw [t26]; exact wa_V2 hI_s23 hkv
  have hF_s25 : mh_F (S_X8_copyFrom kv ku) s0 s25 := by rw [t26]; exact mh_F_pA hF_s23 (List.mem_of_getElem? (i := 1) rfl)
  refine mw_aload_n 33 rfl 1 dX8_copyFrom_32 rfl rfl ?_
  refine mw_geta 36 rfl dX8_copyFrom_33 gf_X8_18 (ly_V hku) (ku + 3) (rf_V_2 hI_s25 hku) ?_
  refine mw_iconst (v := 0) 37 rfl dX8_copyFrom_36 (by decide) ?_
  refine mw_aload_n 38 rfl 0 dX8_copyFrom_37 rfl rfl ?_
  refine mw_geta 41 rfl dX8_copyFrom_38 gf_X8_18 (ly_V hkv) (kv + 3) (rf_V_2 hI_s25 hkv) ?_
  refine mw_iconst (v := 0) 42 rfl dX8_copyFrom_41 (by decide) ?_
  refine mw_sipush (v := 144) 45 rfl dX8_copyFrom_42 (by decide) ?_
  refine mw_copy 48 rfl dX8_copyFrom_45 ml_X8_37 (ly_V3 hku) (ly_V3 hkv) (by decide) (mh_cr (D := d + 1) (by omega) (Nat.le_of_ble_eq_true rfl)) (fun s27 t28 => ?_)
  have hI_s27 : mh_I B D s27 := by rw [t28]; exact wa_V3 hI_s25 hkv
  have hF_s27 : mh_F (S_X8_copyFrom kv ku) s0 s27 := by rw [t28]; exact mh_F_pA hF_s25 (List.mem_of_getElem? (i := 2) rfl)
  refine mw_aload_n 49 rfl 1 dX8_copyFrom_48 rfl rfl ?_
  refine mw_geta 52 rfl dX8_copyFrom_49 gf_X8_21 (ly_V hku) (ku + 4) (rf_V_3 hI_s27 hku) ?_
  refine mw_iconst (v := 0) 53 rfl dX8_copyFrom_52 (by decide) ?_
  refine mw_aload_n 54 rfl 0 dX8_copyFrom_53 rfl rfl ?_
  refine mw_geta 57 rfl dX8_copyFrom_54 gf_X8_21 (ly_V hkv) (kv + 4) (rf_V_3 hI_s27 hkv) ?_
  refine mw_iconst (v := 0) 58 rfl dX8_copyFrom_57 (by decide) ?_
  refine mw_sipush (v := 144) 61 rfl dX8_copyFrom_58 (by decide) ?_
  refine mw_copy 64 rfl dX8_copyFrom_61 ml_X8_37 (ly_V4 hku) (ly_V4 hkv) (by decide) (mh_cr (D := d + 1) (by omega) (Nat.le_of_ble_eq_true rfl)) (fun s29 t30 => ?_)
  have hI_s29 : mh_I B D s29 := by rw [t30]; exact wa_V4 hI_s27 hkv
  have hF_s29 : mh_F (S_X8_copyFrom kv ku) s0 s29 := by rw [t30]; exact mh_F_pA hF_s27 (List.mem_of_getElem? (i := 3) rfl)
  refine mw_aload_n 65 rfl 1 dX8_copyFrom_64 rfl rfl ?_
  refine mw_geta 68 rfl dX8_copyFrom_65 gf_X8_24 (ly_V hku) (ku + 5) (rf_V_4 hI_s29 hku) ?_
  refine mw_iconst (v := 0) 69 rfl dX8_copyFrom_68 (by decide) ?_
  refine mw_aload_n 70 rfl 0 dX8_copyFrom_69 rfl rfl ?_
  refine mw_geta 73 rfl dX8_copyFrom_70 gf_X8_24 (ly_V hkv) (kv + 5) (rf_V_4 hI_s29 hkv) ?_
  refine mw_iconst (v := 0) 74 rfl dX8_copyFrom_73 (by decide) ?_
  refine mw_bipush (v := 100) 76 rfl dX8_copyFrom_74 (by decide) ?_
  refine mw_copy 79 rfl dX8_copyFrom_76 ml_X8_37 (ly_V5 hku) (ly_V5 hkv) (by decide) (mh_cr (D := d + 1) (by omega) (Nat.le_of_ble_eq_true rfl)) (fun s31 t32 => ?_)
  have hI_s31 : mh_I B D s31 := by rw [t32]; exact wa_V5 hI_s29 hkv
  have hF_s31 : mh_F (S_X8_copyFrom kv ku) s0 s31 := by rw [t32]; exact mh_F_pA hF_s29 (List.mem_of_getElem? (i := 4) rfl)
  refine mw_aload_n 80 rfl 0 dX8_copyFrom_79 rfl rfl ?_
  refine mw_aload_n 81 rfl 1 dX8_copyFrom_80 rfl rfl ?_
  refine mw_geti 84 rfl dX8_copyFrom_81 gf_X8_27 (ly_V hku) (fun x33 t34 => ?_)
  refine mw_puti 87 rfl dX8_copyFrom_84 pf_X8_27 (ly_V hkv) (fun s35 t36 => ?_)
  have hI_s35 : mh_I B D s35 := by rw [t36]; exact wr_V_5 hI_s31 hkv
  have hF_s35 : mh_F (S_X8_copyFrom kv ku) s0 s35 := by rw [t36]; exact mh_F_pI hF_s31 (mh_sj 5 rfl)
  refine mw_aload_n 88 rfl 0 dX8_copyFrom_87 rfl rfl ?_
  refine mw_aload_n 89 rfl 1 dX8_copyFrom_88 rfl rfl ?_
  refine mw_geti 92 rfl dX8_copyFrom_89 gf_X8_31 (ly_V hku) (fun x37 t38 => ?_)
  refine mw_puti 95 rfl dX8_copyFrom_92 pf_X8_31 (ly_V hkv) (fun s39 t40 => ?_)
  have hI_s39 : mh_I B D s39 := by rw [t40]; exact wr_V_6 hI_s35 hkv
  have hF_s39 : mh_F (S_X8_copyFrom kv ku) s0 s39 := by rw [t40]; exact mh_F_pI hF_s35 (mh_sj 6 rfl)
  refine mw_aload_n 96 rfl 0 dX8_copyFrom_95 rfl rfl ?_
  refine mw_aload_n 97 rfl 1 dX8_copyFrom_96 rfl rfl ?_
  refine mw_geti 100 rfl dX8_copyFrom_97 gf_X8_34 (ly_V hku) (fun x41 t42 => ?_)
  refine mw_puti 103 rfl dX8_copyFrom_100 pf_X8_34 (ly_V hkv) (fun s43 t44 => ?_)
  have hI_s43 : mh_I B D s43 := by rw [t44]; exact wr_V_7 hI_s39 hkv
  have hF_s43 : mh_F (S_X8_copyFrom kv ku) s0 s43 := by rw [t44]; exact mh_F_pI hF_s39 (mh_sj 7 rfl)
  exact mw_vret dX8_copyFrom_103 rfl ⟨rfl, ⟨hI_s43, hF_s43⟩⟩

def S_X8_drawWind (kv : Nat) : List (Nat × Nat) := [(kv, 7), (kv + 5, 9999)]
def P_X8_drawWind (B D : Int) (s0 : mh_H) (kv : Nat) : mh_H → Prop := fun s => mh_I B D s ∧ mh_F (S_X8_drawWind kv) s0 s
set_option maxRecDepth 100000 in
set_option maxHeartbeats 4000000 in
theorem w_X8_drawWind (l : Launch) (G : mh_G) (d : Nat) {B D : Int} (hB : B ≤ 1980000000 ∧ D ≤ 1980000000) {s0 : mh_H} (hI0 : mh_I B D s0) (kv : Nat) (hkv : mh_isV kv) : mh_Mv l G (d + 1) mM_X8_drawWind [.ref (G.2.2.2 kv)] s0 (P_X8_drawWind B D s0 kv) := by
  refine mh_enter (lv := [(0, .ref (G.2.2.2 kv))]) (by decide) rfl (Nat.le_of_ble_eq_true rfl) ?_
  have hF0 : mh_F (S_X8_drawWind kv) s0 s0 := mh_F_rf
  refine mw_aload_n 1 rfl 0 dX8_drawWind_0 rfl rfl ?_
  refine mw_sipush (v := 25173) 4 rfl dX8_drawWind_1 (by decide) ?_
  refine mw_aload_n 5 rfl 0 dX8_drawWind_4 rfl rfl ?_
  refine mw_geti 8 rfl dX8_drawWind_5 gf_X8_34 (ly_V hkv) (fun x25 t26 => ?_)
  refine mw_imul_u 9 rfl dX8_drawWind_8 (fun x27 t28 => ?_)
  refine mw_sipush (v := 13849) 12 rfl dX8_drawWind_9 (by decide) ?_
  refine mw_iadd_u 13 rfl dX8_drawWind_12 (fun x29 t30 => ?_)
  refine mw_ldc 15 rfl dX8_drawWind_13 ck_X8_47 ?_
  refine mw_irem 16 rfl (-65535) (65535) dX8_drawWind_15 (mh_r_full x29) rc_65536 (by decide) (fun x31 t32 r_x31 => ?_)
  refine mw_puti 19 rfl dX8_drawWind_16 pf_X8_34 (ly_V hkv) (fun s33 t34 => ?_)
  have hI_s33 : mh_I B D s33 := by rw [t34]; exact wr_V_7 hI0 hkv
  have hF_s33 : mh_F (S_X8_drawWind kv) s0 s33 := by rw [t34]; exact mh_F_pI hF0 (mh_sj 0 rfl)
  refine mw_aload_n 20 rfl 0 dX8_drawWind_19 rfl rfl ?_
  refine mw_geti 23 rfl dX8_drawWind_20 gf_X8_27 (ly_V hkv) (fun x35 t36 => ?_)
  refine mw_bipush (v := 99) 25 rfl dX8_drawWind_23 (by decide) ?_
  refine mw_callSi [.int x35, .int (99)] [] 28 rfl dX8_drawWind_25 ml_X8_43 mc_X9_isWithin mk_X9_isWithin (w_X9_isWithin l G (d + 0) ⟨by omega, by omega⟩ hI_s33 x35 (99)) rfl rfl (Nat.le_of_ble_eq_true rfl) (mh_rok (by omega) (by decide)) (fun x37 s38 q39 => ?_)
  obtain ⟨r_x37, e0_s38, rfl⟩ := q39
  refine mw_if_eq 31 rfl 47 dX8_drawWind_28 (by decide) (fun c40 => ?_) (fun c40 => ?_)
  · skip
    have r_x37 : mh_r x37 (0) (0) := mh_eq1 (show x37.toInt = (0 : Int32).toInt from c40) r_x37 rc_0 (0) (0) (by decide)
    exact mw_vret dX8_drawWind_47 rfl ⟨rfl, ⟨hI_s33, hF_s33⟩⟩
  · skip
    have r_x35 : mh_r x35 (0) (99) := ⟨by have := e0_s38.1 (mh_z1 r_x37 c40); have := ((mh_r_full x35)).1; omega, by have := e0_s38.1 (mh_z1 r_x37 c40); have := ((mh_r_full x35)).2; have := (rc_99).2; omega⟩
    have r_x37 : mh_r x37 (1) (1) := mh_ne1 (show x37.toInt ≠ (0 : Int32).toInt from c40) r_x37 rc_0 (1) (1) (by decide)
    refine mw_aload_n 32 rfl 0 dX8_drawWind_31 rfl rfl ?_
    refine mw_geta 35 rfl dX8_drawWind_32 gf_X8_24 (ly_V hkv) (kv + 5) (rf_V_4 hI_s33 hkv) ?_
    refine mw_aload_n 36 rfl 0 dX8_drawWind_35 rfl rfl ?_
    refine mw_geti 39 rfl dX8_drawWind_36 gf_X8_27 (ly_V hkv) (fun x41 t42 => ?_)
    obtain rfl : x35 = x41 := t36.trans t42.symm
    refine mw_aload_n 40 rfl 0 dX8_drawWind_39 rfl rfl ?_
    refine mw_geti 43 rfl dX8_drawWind_40 gf_X8_34 (ly_V hkv) (fun x43 t44 => ?_)
    have t45 : x31 = s33.1 kv 7 := by rw [t34]; exact mh_pI_s.symm
    obtain rfl : x31 = x43 := t45.trans t44.symm
    refine mw_bipush (v := 10) 45 rfl dX8_drawWind_43 (by decide) ?_
    refine mw_irem 46 rfl (-9) (9) dX8_drawWind_45 r_x31 rc_10 (by decide) (fun x46 t47 r_x46 => ?_)
    refine mw_iast 47 rfl dX8_drawWind_46 (ly_V5 hkv) r_x35 (by decide) (fun s48 t49 => ?_)
    have hI_s48 : mh_I B D s48 := by rw [t49]; exact wr_V5 hI_s33 hkv
    have hF_s48 : mh_F (S_X8_drawWind kv) s0 s48 := by rw [t49]; exact mh_F_pI hF_s33 (mh_si 1 rfl)
    exact mw_vret dX8_drawWind_47 rfl ⟨rfl, ⟨hI_s48, hF_s48⟩⟩

def S_X1_see (kv : Nat) (kl : Nat) : List (Nat × Nat) := [(kl + 6, 9999)]
def P_X1_see (B D : Int) (s0 : mh_H) (kv : Nat) (kl : Nat) (p2 : Int32) : mh_H → Prop := fun s => mh_I B D s ∧ mh_F (S_X1_see kv kl) s0 s
set_option maxRecDepth 100000 in
set_option maxHeartbeats 4000000 in
theorem w_X1_see (l : Launch) (G : mh_G) (d : Nat) {B D : Int} (hB : B ≤ 1960000000 ∧ D ≤ 1960000000) {s0 : mh_H} (hI0 : mh_I B D s0) (kv : Nat) (hkv : mh_isV kv) (kl : Nat) (hkl : mh_isL kl) (p2 : Int32) (r_p2 : mh_r p2 (0) (143)) : mh_Mv l G (d + 2) mM_X1_see [.ref (G.2.2.2 kl), .ref (G.2.2.2 kv), .int p2] s0 (P_X1_see B D s0 kv kl p2) := by
  refine mh_enter (lv := [(0, .ref (G.2.2.2 kl)), (1, .ref (G.2.2.2 kv)), (2, .int p2)]) (by decide) rfl (Nat.le_of_ble_eq_true rfl) ?_
  have hF0 : mh_F (S_X1_see kv kl) s0 s0 := mh_F_rf
  refine mw_aload_n 1 rfl 0 dX1_see_0 rfl rfl ?_
  refine mw_geta 4 rfl dX1_see_1 gf_X1_35 (ly_L hkl) (kl + 6) (rf_L_5 hI0 hkl) ?_
  refine mw_iconst (v := 0) 5 rfl dX1_see_4 (by decide) ?_
  refine mw_aload_n 6 rfl 1 dX1_see_5 rfl rfl ?_
  refine mw_geta 9 rfl dX1_see_6 gf_X1_63 (ly_V hkv) (kv + 1) (rf_V_0 hI0 hkv) ?_
  refine mw_iload_n 10 rfl 2 dX1_see_9 rfl rfl ?_
  refine mw_iald 11 rfl dX1_see_10 (ly_V1 hkv) r_p2 (by decide) (fun x55 t56 => ?_)
  refine mw_iast 12 rfl dX1_see_11 (ly_L6 hkl) rc_0 (by decide) (fun s57 t58 => ?_)
  have hI_s57 : mh_I B D s57 := by rw [t58]; exact wr_L6 hI0 hkl
  have hF_s57 : mh_F (S_X1_see kv kl) s0 s57 := by rw [t58]; exact mh_F_pI hF0 (mh_si 0 rfl)
  refine mw_aload_n 13 rfl 0 dX1_see_12 rfl rfl ?_
  refine mw_geta 16 rfl dX1_see_13 gf_X1_35 (ly_L hkl) (kl + 6) (rf_L_5 hI_s57 hkl) ?_
  refine mw_iconst (v := 1) 17 rfl dX1_see_16 (by decide) ?_
  refine mw_aload_n 18 rfl 1 dX1_see_17 rfl rfl ?_
  refine mw_geta 21 rfl dX1_see_18 gf_X1_68 (ly_V hkv) (kv + 2) (rf_V_1 hI_s57 hkv) ?_
  refine mw_iload_n 22 rfl 2 dX1_see_21 rfl rfl ?_
  refine mw_iald 23 rfl dX1_see_22 (ly_V2 hkv) r_p2 (by decide) (fun x59 t60 => ?_)
  refine mw_iast 24 rfl dX1_see_23 (ly_L6 hkl) rc_1 (by decide) (fun s61 t62 => ?_)
  have hI_s61 : mh_I B D s61 := by rw [t62]; exact wr_L6 hI_s57 hkl
  have hF_s61 : mh_F (S_X1_see kv kl) s0 s61 := by rw [t62]; exact mh_F_pI hF_s57 (mh_si 0 rfl)
  refine mw_aload_n 25 rfl 0 dX1_see_24 rfl rfl ?_
  refine mw_geta 28 rfl dX1_see_25 gf_X1_35 (ly_L hkl) (kl + 6) (rf_L_5 hI_s61 hkl) ?_
  refine mw_iconst (v := 2) 29 rfl dX1_see_28 (by decide) ?_
  refine mw_aload_n 30 rfl 1 dX1_see_29 rfl rfl ?_
  refine mw_geti 33 rfl dX1_see_30 gf_X1_71 (ly_V hkv) (fun x63 t64 => ?_)
  refine mw_iast 34 rfl dX1_see_33 (ly_L6 hkl) rc_2 (by decide) (fun s65 t66 => ?_)
  have hI_s65 : mh_I B D s65 := by rw [t66]; exact wr_L6 hI_s61 hkl
  have hF_s65 : mh_F (S_X1_see kv kl) s0 s65 := by rw [t66]; exact mh_F_pI hF_s61 (mh_si 0 rfl)
  refine mw_aload_n 35 rfl 0 dX1_see_34 rfl rfl ?_
  refine mw_geta 38 rfl dX1_see_35 gf_X1_35 (ly_L hkl) (kl + 6) (rf_L_5 hI_s65 hkl) ?_
  refine mw_iconst (v := 3) 39 rfl dX1_see_38 (by decide) ?_
  refine mw_aload_n 40 rfl 1 dX1_see_39 rfl rfl ?_
  refine mw_aload_n 41 rfl 1 dX1_see_40 rfl rfl ?_
  refine mw_geti 44 rfl dX1_see_41 gf_X1_71 (ly_V hkv) (fun x67 t68 => ?_)
  have t69 : x63 = s65.1 kv 5 := by rw [t66]; exact (t64).trans (mh_pI_n (by rcases hkl with rfl | rfl <;> rcases hkv with rfl | rfl | rfl <;> omega)).symm
  obtain rfl : x63 = x67 := t69.trans t68.symm
  refine mw_callVi [.int x63] [.int (3), .ref (G.2.2.2 (kl + 6))] 47 rfl dX1_see_44 ml_X1_74 mc_X8_windOf mk_X8_windOf (ly_V hkv) rfl (by decide) (w_X8_windOf l G (d + 0) ⟨by omega, by omega⟩ hI_s65 kv hkv x63) rfl rfl (Nat.le_of_ble_eq_true rfl) (mh_rok (by omega) (by decide)) (fun x70 s71 q72 => ?_)
  obtain ⟨r_x70, rfl⟩ := q72
  refine mw_iast 48 rfl dX1_see_47 (ly_L6 hkl) rc_3 (by decide) (fun s73 t74 => ?_)
  have hI_s73 : mh_I B D s73 := by rw [t74]; exact wr_L6 hI_s65 hkl
  have hF_s73 : mh_F (S_X1_see kv kl) s0 s73 := by rw [t74]; exact mh_F_pI hF_s65 (mh_si 0 rfl)
  refine mw_aload_n 49 rfl 0 dX1_see_48 rfl rfl ?_
  refine mw_geta 52 rfl dX1_see_49 gf_X1_35 (ly_L hkl) (kl + 6) (rf_L_5 hI_s73 hkl) ?_
  refine mw_iconst (v := 4) 53 rfl dX1_see_52 (by decide) ?_
  refine mw_aload_n 54 rfl 1 dX1_see_53 rfl rfl ?_
  refine mw_geta 57 rfl dX1_see_54 gf_X1_78 (ly_V hkv) (kv + 3) (rf_V_2 hI_s73 hkv) ?_
  refine mw_iload_n 58 rfl 2 dX1_see_57 rfl rfl ?_
  refine mw_iald 59 rfl dX1_see_58 (ly_V3 hkv) r_p2 (by decide) (fun x75 t76 => ?_)
  refine mw_iast 60 rfl dX1_see_59 (ly_L6 hkl) rc_4 (by decide) (fun s77 t78 => ?_)
  have hI_s77 : mh_I B D s77 := by rw [t78]; exact wr_L6 hI_s73 hkl
  have hF_s77 : mh_F (S_X1_see kv kl) s0 s77 := by rw [t78]; exact mh_F_pI hF_s73 (mh_si 0 rfl)
  refine mw_aload_n 61 rfl 0 dX1_see_60 rfl rfl ?_
  refine mw_geta 64 rfl dX1_see_61 gf_X1_35 (ly_L hkl) (kl + 6) (rf_L_5 hI_s77 hkl) ?_
  refine mw_iconst (v := 5) 65 rfl dX1_see_64 (by decide) ?_
  refine mw_aload_n 66 rfl 1 dX1_see_65 rfl rfl ?_
  refine mw_geta 69 rfl dX1_see_66 gf_X1_81 (ly_V hkv) (kv + 4) (rf_V_3 hI_s77 hkv) ?_
  refine mw_iload_n 70 rfl 2 dX1_see_69 rfl rfl ?_
  refine mw_iald 71 rfl dX1_see_70 (ly_V4 hkv) r_p2 (by decide) (fun x79 t80 => ?_)
  refine mw_iast 72 rfl dX1_see_71 (ly_L6 hkl) rc_5 (by decide) (fun s81 t82 => ?_)
  have hI_s81 : mh_I B D s81 := by rw [t82]; exact wr_L6 hI_s77 hkl
  have hF_s81 : mh_F (S_X1_see kv kl) s0 s81 := by rw [t82]; exact mh_F_pI hF_s77 (mh_si 0 rfl)
  refine mw_aload_n 73 rfl 0 dX1_see_72 rfl rfl ?_
  refine mw_geta 76 rfl dX1_see_73 gf_X1_35 (ly_L hkl) (kl + 6) (rf_L_5 hI_s81 hkl) ?_
  refine mw_bipush (v := 6) 78 rfl dX1_see_76 (by decide) ?_
  refine mw_iload_n 79 rfl 2 dX1_see_78 rfl rfl ?_
  refine mw_bipush (v := 12) 81 rfl dX1_see_79 (by decide) ?_
  refine mw_irem 82 rfl (0) (11) dX1_see_81 r_p2 rc_12 (by decide) (fun x83 t84 r_x83 => ?_)
  have g85 : x83.toInt = p2.toInt % 12 := mh_rme t84 (by have := (r_p2).1; omega) (by decide)
  refine mw_iast 83 rfl dX1_see_82 (ly_L6 hkl) rc_6 (by decide) (fun s86 t87 => ?_)
  have hI_s86 : mh_I B D s86 := by rw [t87]; exact wr_L6 hI_s81 hkl
  have hF_s86 : mh_F (S_X1_see kv kl) s0 s86 := by rw [t87]; exact mh_F_pI hF_s81 (mh_si 0 rfl)
  refine mw_aload_n 84 rfl 0 dX1_see_83 rfl rfl ?_
  refine mw_geta 87 rfl dX1_see_84 gf_X1_35 (ly_L hkl) (kl + 6) (rf_L_5 hI_s86 hkl) ?_
  refine mw_bipush (v := 7) 89 rfl dX1_see_87 (by decide) ?_
  refine mw_iload_n 90 rfl 2 dX1_see_89 rfl rfl ?_
  refine mw_bipush (v := 12) 92 rfl dX1_see_90 (by decide) ?_
  refine mw_idiv 93 rfl (0) (143) dX1_see_92 r_p2 rc_12 (by decide) (fun x88 t89 r_x88 => ?_)
  have r_x88 : mh_r x88 (0) (11) := mh_dvc t89 r_p2 (by decide) (by decide)
  have g90 : x88.toInt = p2.toInt / 12 := mh_dve t89 (by have := (r_p2).1; omega) (by decide)
  refine mw_iast 94 rfl dX1_see_93 (ly_L6 hkl) rc_7 (by decide) (fun s91 t92 => ?_)
  have hI_s91 : mh_I B D s91 := by rw [t92]; exact wr_L6 hI_s86 hkl
  have hF_s91 : mh_F (S_X1_see kv kl) s0 s91 := by rw [t92]; exact mh_F_pI hF_s86 (mh_si 0 rfl)
  refine mw_aload_n 95 rfl 0 dX1_see_94 rfl rfl ?_
  refine mw_geta 98 rfl dX1_see_95 gf_X1_35 (ly_L hkl) (kl + 6) (rf_L_5 hI_s91 hkl) ?_
  refine mw_bipush (v := 8) 100 rfl dX1_see_98 (by decide) ?_
  refine mw_aload_n 101 rfl 0 dX1_see_100 rfl rfl ?_
  refine mw_geti 104 rfl dX1_see_101 gf_X1_52 (ly_L hkl) (fun x93 t94 => ?_)
  have r_x93 : mh_r x93 (0) (1) := by rw [t94]; exact rd_L_10 hI_s91 hkl
  have J116 : ∀ (x99 : Int32), mh_r x99 (0) (4) → mh_W G (mh_XM l G (d + 2) (mh_Qv (P_X1_see B D s0 kv kl p2))) mM_X1_see 116 [(0, .ref (G.2.2.2 kl)), (1, .ref (G.2.2.2 kv)), (2, .int p2)] [.int x99, .int (8), .ref (G.2.2.2 (kl + 6))] s91 := by
    intro x99 r_x99
    refine mw_iast 117 rfl dX1_see_116 (ly_L6 hkl) rc_8 (by decide) (fun s110 t111 => ?_)
    have hI_s110 : mh_I B D s110 := by rw [t111]; exact wr_L6 hI_s91 hkl
    have hF_s110 : mh_F (S_X1_see kv kl) s0 s110 := by rw [t111]; exact mh_F_pI hF_s91 (mh_si 0 rfl)
    refine mw_aload_n 118 rfl 0 dX1_see_117 rfl rfl ?_
    refine mw_geta 121 rfl dX1_see_118 gf_X1_35 (ly_L hkl) (kl + 6) (rf_L_5 hI_s110 hkl) ?_
    refine mw_bipush (v := 9) 123 rfl dX1_see_121 (by decide) ?_
    refine mw_iconst (v := 0) 124 rfl dX1_see_123 (by decide) ?_
    refine mw_iast 125 rfl dX1_see_124 (ly_L6 hkl) rc_9 (by decide) (fun s112 t113 => ?_)
    have hI_s112 : mh_I B D s112 := by rw [t113]; exact wr_L6 hI_s110 hkl
    have hF_s112 : mh_F (S_X1_see kv kl) s0 s112 := by rw [t113]; exact mh_F_pI hF_s110 (mh_si 0 rfl)
    refine mw_aload_n 126 rfl 0 dX1_see_125 rfl rfl ?_
    refine mw_geta 129 rfl dX1_see_126 gf_X1_35 (ly_L hkl) (kl + 6) (rf_L_5 hI_s112 hkl) ?_
    refine mw_bipush (v := 10) 131 rfl dX1_see_129 (by decide) ?_
    refine mw_iconst (v := 0) 132 rfl dX1_see_131 (by decide) ?_
    refine mw_iast 133 rfl dX1_see_132 (ly_L6 hkl) rc_10 (by decide) (fun s114 t115 => ?_)
    have hI_s114 : mh_I B D s114 := by rw [t115]; exact wr_L6 hI_s112 hkl
    have hF_s114 : mh_F (S_X1_see kv kl) s0 s114 := by rw [t115]; exact mh_F_pI hF_s112 (mh_si 0 rfl)
    refine mw_aload_n 134 rfl 0 dX1_see_133 rfl rfl ?_
    refine mw_geta 137 rfl dX1_see_134 gf_X1_35 (ly_L hkl) (kl + 6) (rf_L_5 hI_s114 hkl) ?_
    refine mw_bipush (v := 11) 139 rfl dX1_see_137 (by decide) ?_
    refine mw_iconst (v := 0) 140 rfl dX1_see_139 (by decide) ?_
    refine mw_iast 141 rfl dX1_see_140 (ly_L6 hkl) rc_11 (by decide) (fun s116 t117 => ?_)
    have hI_s116 : mh_I B D s116 := by rw [t117]; exact wr_L6 hI_s114 hkl
    have hF_s116 : mh_F (S_X1_see kv kl) s0 s116 := by rw [t117]; exact mh_F_pI hF_s114 (mh_si 0 rfl)
    refine mw_aload_n 142 rfl 0 dX1_see_141 rfl rfl ?_
    refine mw_geta 145 rfl dX1_see_142 gf_X1_35 (ly_L hkl) (kl + 6) (rf_L_5 hI_s116 hkl) ?_
    refine mw_bipush (v := 12) 147 rfl dX1_see_145 (by decide) ?_
    refine mw_iconst (v := 0) 148 rfl dX1_see_147 (by decide) ?_
    refine mw_iast 149 rfl dX1_see_148 (ly_L6 hkl) rc_12 (by decide) (fun s118 t119 => ?_)
    have hI_s118 : mh_I B D s118 := by rw [t119]; exact wr_L6 hI_s116 hkl
    have hF_s118 : mh_F (S_X1_see kv kl) s0 s118 := by rw [t119]; exact mh_F_pI hF_s116 (mh_si 0 rfl)
    exact mw_vret dX1_see_149 rfl ⟨rfl, ⟨hI_s118, hF_s118⟩⟩
  refine mw_if_eq 107 rfl 115 dX1_see_104 (by decide) (fun c120 => ?_) (fun c120 => ?_)
  · skip
    have r_x93 : mh_r x93 (0) (0) := mh_eq1 (show x93.toInt = (0 : Int32).toInt from c120) r_x93 rc_0 (0) (0) (by decide)
    refine mw_iconst (v := 0) 116 rfl dX1_see_115 (by decide) ?_
    exact mw_lv [0, 1, 2] rfl (J116 (0) (mh_r_wk rc_0 (by decide)))
  · skip
    have r_x93 : mh_r x93 (1) (1) := mh_ne1 (show x93.toInt ≠ (0 : Int32).toInt from c120) r_x93 rc_0 (1) (1) (by decide)
    refine mw_aload_n 108 rfl 1 dX1_see_107 rfl rfl ?_
    refine mw_iload_n 109 rfl 2 dX1_see_108 rfl rfl ?_
    refine mw_callVi [.int p2] [.int (8), .ref (G.2.2.2 (kl + 6))] 112 rfl dX1_see_109 ml_X1_84 mc_X8_treesBeside mk_X8_treesBeside (ly_V hkv) rfl (by decide) (w_X8_treesBeside l G (d + 1) ⟨by omega, by omega⟩ hI_s91 kv hkv p2 r_p2) rfl rfl (Nat.le_of_ble_eq_true rfl) (mh_rok (by omega) (by decide)) (fun x121 s122 q123 => ?_)
    obtain ⟨r_x121, rfl⟩ := q123
    refine mw_goto 115 rfl 116 dX1_see_112 (by decide) ?_
    exact mw_lv [0, 1, 2] rfl (J116 x121 r_x121)

def P_X1_most (B D : Int) (s0 : mh_H) (p0 : Int32) : Int32 → mh_H → Prop := fun z s => mh_r z (1) (999) ∧ s0 = s
set_option maxRecDepth 100000 in
set_option maxHeartbeats 4000000 in
theorem w_X1_most (l : Launch) (G : mh_G) (d : Nat) {B D : Int} (hB : B ≤ 2000000000 ∧ D ≤ 2000000000) {s0 : mh_H} (hI0 : mh_I B D s0) (p0 : Int32) : mh_Mi l G (d + 0) mM_X1_most [.int p0] s0 (P_X1_most B D s0 p0) := by
  refine mh_enter (lv := [(0, .int p0)]) (by decide) rfl (Nat.le_of_ble_eq_true rfl) ?_
  refine mw_iload_n 1 rfl 0 dX1_most_0 rfl rfl ?_
  refine mw_bipush (v := 121) 3 rfl dX1_most_1 (by decide) ?_
  refine mw_icmp_ne 6 rfl 10 dX1_most_3 (by decide) (fun c3 => ?_) (fun c3 => ?_)
  · skip
    refine mw_iload_n 11 rfl 0 dX1_most_10 rfl rfl ?_
    refine mw_bipush (v := 102) 13 rfl dX1_most_11 (by decide) ?_
    refine mw_icmp_ne 16 rfl 20 dX1_most_13 (by decide) (fun c4 => ?_) (fun c4 => ?_)
    · skip
      refine mw_bipush (v := 99) 22 rfl dX1_most_20 (by decide) ?_
      exact mw_iret dX1_most_22 rfl ⟨(99), rfl, ⟨(mh_r_wk rc_99 (by decide)), rfl⟩⟩
    · skip
      have r_p0 : mh_r p0 (102) (102) := mh_eq1 c4 (mh_r_full p0) rc_102 (102) (102) (by decide)
      refine mw_iconst (v := 1) 17 rfl dX1_most_16 (by decide) ?_
      refine mw_goto 20 rfl 22 dX1_most_17 (by decide) ?_
      exact mw_iret dX1_most_22 rfl ⟨(1), rfl, ⟨(mh_r_wk rc_1 (by decide)), rfl⟩⟩
  · skip
    have r_p0 : mh_r p0 (121) (121) := mh_eq1 c3 (mh_r_full p0) rc_121 (121) (121) (by decide)
    refine mw_sipush (v := 999) 9 rfl dX1_most_6 (by decide) ?_
    exact mw_iret dX1_most_9 rfl ⟨(999), rfl, ⟨(mh_r_wk rc_999 (by decide)), rfl⟩⟩

def P_X1_combine (B D : Int) (s0 : mh_H) (p0 : Int32) (p1 : Int32) (p2 : Int32) : Int32 → mh_H → Prop := fun z s => mh_r z (-2147483648) (2147483647) ∧ s0 = s
set_option maxRecDepth 100000 in
set_option maxHeartbeats 4000000 in
theorem w_X1_combine (l : Launch) (G : mh_G) (d : Nat) {B D : Int} (hB : B ≤ 2000000000 ∧ D ≤ 2000000000) {s0 : mh_H} (hI0 : mh_I B D s0) (p0 : Int32) (p1 : Int32) (p2 : Int32) : mh_Mi l G (d + 0) mM_X1_combine [.int p0, .int p1, .int p2] s0 (P_X1_combine B D s0 p0 p1 p2) := by
  refine mh_enter (lv := [(0, .int p0), (1, .int p1), (2, .int p2)]) (by decide) rfl (Nat.le_of_ble_eq_true rfl) ?_
  refine mw_iload_n 1 rfl 0 dX1_combine_0 rfl rfl ?_
  rcases (show p0.toInt = 37 ∨ p0.toInt = 42 ∨ p0.toInt = 43 ∨ p0.toInt = 45 ∨ p0.toInt = 47 ∨ p0.toInt = 60 ∨ p0.toInt = 62 ∨ (p0.toInt ≠ 37 ∧ p0.toInt ≠ 42 ∧ p0.toInt ≠ 43 ∧ p0.toInt ≠ 45 ∧ p0.toInt ≠ 47 ∧ p0.toInt ≠ 60 ∧ p0.toInt ≠ 62) by omega) with c17 | c17 | c17 | c17 | c17 | c17 | c17 | c17
  · refine mw_lookup 92 dX1_combine_1 (by decide) (by rw [c17]; first | done | rfl) (by decide) ?_
    have r_p0 : mh_r p0 (37) (37) := mh_eq1 (show p0.toInt = (37 : Int32).toInt from c17.trans rfl) (mh_r_full p0) rc_37 (37) (37) (by decide)
    refine mw_iload_n 93 rfl 2 dX1_combine_92 rfl rfl ?_
    refine mw_if_ne 96 rfl 100 dX1_combine_93 (by decide) (fun c18 => ?_) (fun c18 => ?_)
    · skip
      refine mw_iload_n 101 rfl 1 dX1_combine_100 rfl rfl ?_
      refine mw_iload_n 102 rfl 2 dX1_combine_101 rfl rfl ?_
      refine mw_irem_u 103 rfl dX1_combine_102 (mh_nzc (show p2.toInt ≠ (0 : Int32).toInt from c18)) (fun x19 t20 => ?_)
      exact mw_iret dX1_combine_103 rfl ⟨x19, rfl, ⟨(mh_r_full x19), rfl⟩⟩
    · skip
      have r_p2 : mh_r p2 (0) (0) := mh_eq1 (show p2.toInt = (0 : Int32).toInt from c18) (mh_r_full p2) rc_0 (0) (0) (by decide)
      refine mw_iconst (v := 0) 97 rfl dX1_combine_96 (by decide) ?_
      refine mw_goto 100 rfl 103 dX1_combine_97 (by decide) ?_
      exact mw_iret dX1_combine_103 rfl ⟨(0), rfl, ⟨(mh_r_wk rc_0 (by decide)), rfl⟩⟩
  · refine mw_lookup 76 dX1_combine_1 (by decide) (by rw [c17]; first | done | rfl) (by decide) ?_
    have r_p0 : mh_r p0 (42) (42) := mh_eq1 (show p0.toInt = (42 : Int32).toInt from c17.trans rfl) (mh_r_full p0) rc_42 (42) (42) (by decide)
    refine mw_iload_n 77 rfl 1 dX1_combine_76 rfl rfl ?_
    refine mw_iload_n 78 rfl 2 dX1_combine_77 rfl rfl ?_
    refine mw_imul_u 79 rfl dX1_combine_78 (fun x21 t22 => ?_)
    exact mw_iret dX1_combine_79 rfl ⟨x21, rfl, ⟨(mh_r_full x21), rfl⟩⟩
  · refine mw_lookup 68 dX1_combine_1 (by decide) (by rw [c17]; first | done | rfl) (by decide) ?_
    have r_p0 : mh_r p0 (43) (43) := mh_eq1 (show p0.toInt = (43 : Int32).toInt from c17.trans rfl) (mh_r_full p0) rc_43 (43) (43) (by decide)
    refine mw_iload_n 69 rfl 1 dX1_combine_68 rfl rfl ?_
    refine mw_iload_n 70 rfl 2 dX1_combine_69 rfl rfl ?_
    refine mw_iadd_u 71 rfl dX1_combine_70 (fun x23 t24 => ?_)
    exact mw_iret dX1_combine_71 rfl ⟨x23, rfl, ⟨(mh_r_full x23), rfl⟩⟩
  · refine mw_lookup 72 dX1_combine_1 (by decide) (by rw [c17]; first | done | rfl) (by decide) ?_
    have r_p0 : mh_r p0 (45) (45) := mh_eq1 (show p0.toInt = (45 : Int32).toInt from c17.trans rfl) (mh_r_full p0) rc_45 (45) (45) (by decide)
    refine mw_iload_n 73 rfl 1 dX1_combine_72 rfl rfl ?_
    refine mw_iload_n 74 rfl 2 dX1_combine_73 rfl rfl ?_
    refine mw_isub_u 75 rfl dX1_combine_74 (fun x25 t26 => ?_)
    exact mw_iret dX1_combine_75 rfl ⟨x25, rfl, ⟨(mh_r_full x25), rfl⟩⟩
  · refine mw_lookup 80 dX1_combine_1 (by decide) (by rw [c17]; first | done | rfl) (by decide) ?_
    have r_p0 : mh_r p0 (47) (47) := mh_eq1 (show p0.toInt = (47 : Int32).toInt from c17.trans rfl) (mh_r_full p0) rc_47 (47) (47) (by decide)
    refine mw_iload_n 81 rfl 2 dX1_combine_80 rfl rfl ?_
    refine mw_if_ne 84 rfl 88 dX1_combine_81 (by decide) (fun c27 => ?_) (fun c27 => ?_)
    · skip
      refine mw_iload_n 89 rfl 1 dX1_combine_88 rfl rfl ?_
      refine mw_iload_n 90 rfl 2 dX1_combine_89 rfl rfl ?_
      refine mw_idiv_u 91 rfl dX1_combine_90 (mh_nzc (show p2.toInt ≠ (0 : Int32).toInt from c27)) (fun x28 t29 => ?_)
      exact mw_iret dX1_combine_91 rfl ⟨x28, rfl, ⟨(mh_r_full x28), rfl⟩⟩
    · skip
      have r_p2 : mh_r p2 (0) (0) := mh_eq1 (show p2.toInt = (0 : Int32).toInt from c27) (mh_r_full p2) rc_0 (0) (0) (by decide)
      refine mw_iconst (v := 0) 85 rfl dX1_combine_84 (by decide) ?_
      refine mw_goto 88 rfl 91 dX1_combine_85 (by decide) ?_
      exact mw_iret dX1_combine_91 rfl ⟨(0), rfl, ⟨(mh_r_wk rc_0 (by decide)), rfl⟩⟩
  · refine mw_lookup 104 dX1_combine_1 (by decide) (by rw [c17]; first | done | rfl) (by decide) ?_
    have r_p0 : mh_r p0 (60) (60) := mh_eq1 (show p0.toInt = (60 : Int32).toInt from c17.trans rfl) (mh_r_full p0) rc_60 (60) (60) (by decide)
    refine mw_iload_n 105 rfl 1 dX1_combine_104 rfl rfl ?_
    refine mw_iload_n 106 rfl 2 dX1_combine_105 rfl rfl ?_
    refine mw_icmp_ge 109 rfl 113 dX1_combine_106 (by decide) (fun c30 => ?_) (fun c30 => ?_)
    · skip
      refine mw_iconst (v := 0) 114 rfl dX1_combine_113 (by decide) ?_
      exact mw_iret dX1_combine_114 rfl ⟨(0), rfl, ⟨(mh_r_wk rc_0 (by decide)), rfl⟩⟩
    · skip
      have r_p1 : mh_r p1 (-2147483648) (2147483646) := mh_lt1 c30 (mh_r_full p1) (mh_r_full p2) (2147483646) (by decide)
      have r_p2 : mh_r p2 (-2147483647) (2147483647) := mh_lt2 c30 r_p1 (mh_r_full p2) (-2147483647) (by decide)
      refine mw_iconst (v := 1) 110 rfl dX1_combine_109 (by decide) ?_
      refine mw_goto 113 rfl 114 dX1_combine_110 (by decide) ?_
      exact mw_iret dX1_combine_114 rfl ⟨(1), rfl, ⟨(mh_r_wk rc_1 (by decide)), rfl⟩⟩
  · refine mw_lookup 115 dX1_combine_1 (by decide) (by rw [c17]; first | done | rfl) (by decide) ?_
    have r_p0 : mh_r p0 (62) (62) := mh_eq1 (show p0.toInt = (62 : Int32).toInt from c17.trans rfl) (mh_r_full p0) rc_62 (62) (62) (by decide)
    refine mw_iload_n 116 rfl 1 dX1_combine_115 rfl rfl ?_
    refine mw_iload_n 117 rfl 2 dX1_combine_116 rfl rfl ?_
    refine mw_icmp_le 120 rfl 124 dX1_combine_117 (by decide) (fun c31 => ?_) (fun c31 => ?_)
    · skip
      refine mw_iconst (v := 0) 125 rfl dX1_combine_124 (by decide) ?_
      exact mw_iret dX1_combine_125 rfl ⟨(0), rfl, ⟨(mh_r_wk rc_0 (by decide)), rfl⟩⟩
    · skip
      have r_p2 : mh_r p2 (-2147483648) (2147483646) := mh_lt1 c31 (mh_r_full p2) (mh_r_full p1) (2147483646) (by decide)
      have r_p1 : mh_r p1 (-2147483647) (2147483647) := mh_lt2 c31 r_p2 (mh_r_full p1) (-2147483647) (by decide)
      refine mw_iconst (v := 1) 121 rfl dX1_combine_120 (by decide) ?_
      refine mw_goto 124 rfl 125 dX1_combine_121 (by decide) ?_
      exact mw_iret dX1_combine_125 rfl ⟨(1), rfl, ⟨(mh_r_wk rc_1 (by decide)), rfl⟩⟩
  · refine mw_lookup (off := 125) 126 dX1_combine_1 (by decide) (by simp [Op.lookupswitch.offset, Ne.symm c17.1, Ne.symm c17.2.1, Ne.symm c17.2.2.1, Ne.symm c17.2.2.2.1, Ne.symm c17.2.2.2.2.1, Ne.symm c17.2.2.2.2.2.1, Ne.symm c17.2.2.2.2.2.2]) (by decide) ?_
    refine mw_iload_n 127 rfl 1 dX1_combine_126 rfl rfl ?_
    refine mw_iload_n 128 rfl 2 dX1_combine_127 rfl rfl ?_
    refine mw_icmp_ne 131 rfl 135 dX1_combine_128 (by decide) (fun c32 => ?_) (fun c32 => ?_)
    · skip
      refine mw_iconst (v := 0) 136 rfl dX1_combine_135 (by decide) ?_
      exact mw_iret dX1_combine_136 rfl ⟨(0), rfl, ⟨(mh_r_wk rc_0 (by decide)), rfl⟩⟩
    · skip
      refine mw_iconst (v := 1) 132 rfl dX1_combine_131 (by decide) ?_
      refine mw_goto 135 rfl 136 dX1_combine_132 (by decide) ?_
      exact mw_iret dX1_combine_136 rfl ⟨(1), rfl, ⟨(mh_r_wk rc_1 (by decide)), rfl⟩⟩

def S_X1_run (kl : Nat) : List (Nat × Nat) := [(kl + 7, 9999)]
def P_X1_run (B D : Int) (s0 : mh_H) (kl : Nat) (p1 : Int32) (p2 : Int32) : Int32 → mh_H → Prop := fun z s => mh_r z (-2147483648) (2147483647) ∧ mh_I B D s ∧ mh_F (S_X1_run kl) s0 s
set_option maxRecDepth 100000 in
set_option maxHeartbeats 4000000 in
theorem w_X1_run (l : Launch) (G : mh_G) (d : Nat) {B D : Int} (hB : B ≤ 1980000000 ∧ D ≤ 1980000000) {s0 : mh_H} (hI0 : mh_I B D s0) (kl : Nat) (hkl : mh_isL kl) (p1 : Int32) (p2 : Int32) : mh_Mi l G (d + 1) mM_X1_run [.ref (G.2.2.2 kl), .int p1, .int p2] s0 (P_X1_run B D s0 kl p1 p2) := by
  refine mh_enter (lv := [(0, .ref (G.2.2.2 kl)), (1, .int p1), (2, .int p2)]) (by decide) rfl (Nat.le_of_ble_eq_true rfl) ?_
  have hF0 : mh_F (S_X1_run kl) s0 s0 := mh_F_rf
  refine mw_iconst (v := 0) 1 rfl dX1_run_0 (by decide) ?_
  refine mw_istore_n 2 rfl [(3, .int (0)), (0, .ref (G.2.2.2 kl)), (1, .int p1), (2, .int p2)] dX1_run_1 rfl (by decide) rfl ?_
  refine mw_iconst (v := 0) 3 rfl dX1_run_2 (by decide) ?_
  refine mw_iload_n 4 rfl 2 dX1_run_3 rfl rfl ?_
  refine mw_mmax (0) (2147483647) 7 rfl dX1_run_4 ml_X1_114 rc_0 (mh_r_full p1) (by decide) (mh_mr (D := d + 1) (by omega) (Nat.le_of_ble_eq_true rfl)) (fun x3418 t3419 r_x3418 => ?_)
  refine mw_istore 9 rfl [(4, .int x3418), (3, .int (0)), (0, .ref (G.2.2.2 kl)), (1, .int p1), (2, .int p2)] dX1_run_7  (by decide) rfl ?_
  refine mw_iload_n 10 rfl 4 dX1_run_9 rfl rfl ?_
  refine mw_sipush (v := 400) 13 rfl dX1_run_10 (by decide) ?_
  refine mw_mmin (-2147483648) (400) 16 rfl dX1_run_13 ml_X1_119 (mh_r_full p2) (mh_rc (x := 400) (n := 400) (by decide)) (by decide) (mh_mr (D := d + 1) (by omega) (Nat.le_of_ble_eq_true rfl)) (fun x3420 t3421 r_x3420 => ?_)
  refine mw_istore 18 rfl [(5, .int x3420), (4, .int x3418), (3, .int (0)), (0, .ref (G.2.2.2 kl)), (1, .int p1), (2, .int p2)] dX1_run_16  (by decide) rfl ?_
  refine mw_iconst (v := 0) 19 rfl dX1_run_18 (by decide) ?_
  refine mw_istore 21 rfl [(6, .int (0)), (5, .int x3420), (4, .int x3418), (3, .int (0)), (0, .ref (G.2.2.2 kl)), (1, .int p1), (2, .int p2)] dX1_run_19  (by decide) rfl ?_
  have L21 : ∀ n1 : Nat, ∀ (x6624 : Int32) (x6625 : Int32) (x6626 : Int32) (s6627 : mh_H), mh_r x6624 (0) (400) → mh_r x6625 (0) (2147483647) → mh_r x6626 (0) (32) → mh_I B D s6627 → mh_F (S_X1_run kl) s0 s6627 → (400) - x6624.toInt < (n1 : Int) → mh_W G (mh_XM l G (d + 1) (mh_Qi (P_X1_run B D s0 kl p1 p2))) mM_X1_run 21 [(0, .ref (G.2.2.2 kl)), (1, .int p1), (2, .int p2), (3, .int x6626), (4, .int x6625), (5, .int x3420), (6, .int x6624)] [] s6627 := by
    intro n1
    induction n1 with
    | zero =>
      intro x6624 x6625 x6626 s6627 r_x6624 r_x6625 r_x6626 hI_s6627 hF_s6627 hmn1
      exact absurd hmn1 (by have := r_x6624.1; have := r_x6624.2; omega)
    | succ n1 ihn1 =>
      intro x6624 x6625 x6626 s6627 r_x6624 r_x6625 r_x6626 hI_s6627 hF_s6627 hmn1
      refine mw_iload 23 rfl 6 dX1_run_21  rfl ?_
      refine mw_sipush (v := 400) 26 rfl dX1_run_23 (by decide) ?_
      have J343 : mh_W G (mh_XM l G (d + 1) (mh_Qi (P_X1_run B D s0 kl p1 p2))) mM_X1_run 343 [(0, .ref (G.2.2.2 kl)), (1, .int p1), (2, .int p2), (3, .int x6626), (4, .int x6625), (5, .int x3420), (6, .int x6624)] [] s6627 := by
        skip
        refine mw_iload_n 344 rfl 3 dX1_run_343 rfl rfl ?_
        refine mw_iconst (v := 1) 345 rfl dX1_run_344 (by decide) ?_
        refine mw_icmp_ge 348 rfl 352 dX1_run_345 (by decide) (fun c6835 => ?_) (fun c6835 => ?_)
        · skip
          have r_x6626 : mh_r x6626 (1) (32) := mh_le2 c6835 rc_1 r_x6626 (1) (by decide)
          refine mw_aload_n 353 rfl 0 dX1_run_352 rfl rfl ?_
          refine mw_geta 356 rfl dX1_run_353 gf_X1_38 (ly_L hkl) (kl + 7) (rf_L_6 hI_s6627 hkl) ?_
          refine mw_iload_n 357 rfl 3 dX1_run_356 rfl rfl ?_
          refine mw_iconst (v := 1) 358 rfl dX1_run_357 (by decide) ?_
          refine mw_isub 359 rfl (0) (31) dX1_run_358 r_x6626 rc_1 (by decide) (fun x6836 t6837 r_x6836 => ?_)
          refine mw_iald 360 rfl dX1_run_359 (ly_L7 hkl) r_x6836 (by decide) (fun x6838 t6839 => ?_)
          exact mw_iret dX1_run_360 rfl ⟨x6838, rfl, ⟨(mh_r_full x6838), hI_s6627, hF_s6627⟩⟩
        · skip
          have r_x6626 : mh_r x6626 (0) (0) := mh_lt1 c6835 r_x6626 rc_1 (0) (by decide)
          refine mw_iconst (v := 0) 349 rfl dX1_run_348 (by decide) ?_
          refine mw_goto 352 rfl 360 dX1_run_349 (by decide) ?_
          exact mw_iret dX1_run_360 rfl ⟨(0), rfl, ⟨(mh_r_wk rc_0 (by decide)), hI_s6627, hF_s6627⟩⟩
      refine mw_icmp_ge 29 rfl 343 dX1_run_26 (by decide) (fun c6840 => ?_) (fun c6840 => ?_)
      · skip
        have r_x6624 : mh_r x6624 (400) (400) := mh_le2 c6840 (mh_rc (x := 400) (n := 400) (by decide)) r_x6624 (400) (by decide)
        exact mw_lv [0, 1, 2, 3, 4, 5, 6] rfl (J343)
      · skip
        have r_x6624 : mh_r x6624 (0) (399) := mh_lt1 c6840 r_x6624 (mh_rc (x := 400) (n := 400) (by decide)) (399) (by decide)
        refine mw_iload 31 rfl 4 dX1_run_29  rfl ?_
        refine mw_iload 33 rfl 5 dX1_run_31  rfl ?_
        refine mw_icmp_ge 36 rfl 343 dX1_run_33 (by decide) (fun c6841 => ?_) (fun c6841 => ?_)
        · skip
          exact mw_lv [0, 1, 2, 3, 4, 5, 6] rfl (J343)
        · skip
          have r_x6625 : mh_r x6625 (0) (399) := mh_lt1 c6841 r_x6625 r_x3420 (399) (by decide)
          have r_x3420 : mh_r x3420 (1) (400) := mh_lt2 c6841 r_x6625 r_x3420 (1) (by decide)
          refine mw_aload_n 37 rfl 0 dX1_run_36 rfl rfl ?_
          refine mw_geta 40 rfl dX1_run_37 gf_X1_11 (ly_L hkl) (kl + 1) (rf_L_0 hI_s6627 hkl) ?_
          refine mw_iload 42 rfl 4 dX1_run_40  rfl ?_
          refine mw_iald 43 rfl dX1_run_42 (ly_L1 hkl) r_x6625 (by decide) (fun x6842 t6843 => ?_)
          refine mw_istore 45 rfl [(7, .int x6842), (0, .ref (G.2.2.2 kl)), (1, .int p1), (2, .int p2), (3, .int x6626), (4, .int x6625), (5, .int x3420), (6, .int x6624)] dX1_run_43  (by decide) rfl ?_
          refine mw_iload 47 rfl 5 dX1_run_45  rfl ?_
          refine mw_iconst (v := 1) 48 rfl dX1_run_47 (by decide) ?_
          refine mw_iadd 49 rfl (1) (400) dX1_run_48 r_x6625 rc_1 (by decide) (fun x6844 t6845 r_x6844 => ?_)
          refine mw_iload 51 rfl 6 dX1_run_49  rfl ?_
          have J67 : ∀ (x6851 : Int32), mh_W G (mh_XM l G (d + 1) (mh_Qi (P_X1_run B D s0 kl p1 p2))) mM_X1_run 67 [(0, .ref (G.2.2.2 kl)), (1, .int p1), (2, .int p2), (3, .int x6626), (4, .int x6625), (5, .int x3420), (6, .int x6624), (7, .int x6842)] [.int x6851] s6627 := by
            intro x6851
            refine mw_istore 69 rfl [(8, .int x6851), (0, .ref (G.2.2.2 kl)), (1, .int p1), (2, .int p2), (3, .int x6626), (4, .int x6625), (5, .int x3420), (6, .int x6624), (7, .int x6842)] dX1_run_67  (by decide) rfl ?_
            refine mw_iload 71 rfl 8 dX1_run_69  rfl ?_
            refine mw_bipush (v := 13) 73 rfl dX1_run_71 (by decide) ?_
            refine mw_callSi [.int x6842, .int (13)] [] 76 rfl dX1_run_73 ml_X1_59 mc_X9_isWithin mk_X9_isWithin (w_X9_isWithin l G (d + 0) ⟨by omega, by omega⟩ hI_s6627 x6842 (13)) rfl rfl (Nat.le_of_ble_eq_true rfl) (mh_rok (by omega) (by decide)) (fun x6939 s6940 q6941 => ?_)
            obtain ⟨r_x6939, e0_s6940, rfl⟩ := q6941
            have J337 : ∀ (x7021 : Int32) (x7022 : Int32) (s7023 : mh_H), mh_r x7021 (1) (2147483647) → mh_r x7022 (0) (32) → mh_I B D s7023 → mh_F (S_X1_run kl) s0 s7023 → mh_W G (mh_XM l G (d + 1) (mh_Qi (P_X1_run B D s0 kl p1 p2))) mM_X1_run 337 [(0, .ref (G.2.2.2 kl)), (1, .int p1), (2, .int p2), (3, .int x7022), (4, .int x7021), (5, .int x3420), (6, .int x6624), (7, .int x6842), (8, .int x6851)] [] s7023 := by
              intro x7021 x7022 s7023 r_x7021 r_x7022 hI_s7023 hF_s7023
              refine mw_iincR (k := 6) (1) (400) 340 rfl (fun z => [(6, .int z), (0, .ref (G.2.2.2 kl)), (1, .int p1), (2, .int p2), (3, .int x7022), (4, .int x7021), (5, .int x3420), (7, .int x6842), (8, .int x6851)]) dX1_run_337 rfl (by decide) (fun _ => rfl) r_x6624 (by decide) (by decide) (fun x7026 t7027 r_x7026 => ?_)
              refine mw_goto 343 rfl 21 dX1_run_340 (by decide) ?_
              exact mw_lv [1, 2, 3, 4, 5, 6, 0] rfl (ihn1 x7026 x7021 x7022 s7023 (mh_r_wk r_x7026 (by decide)) (mh_r_wk r_x7021 (by decide)) r_x7022 hI_s7023 hF_s7023 (by have : x7026.toInt = x6624.toInt + (1) := t7027; omega))
            refine mw_if_eq 79 rfl 135 dX1_run_76 (by decide) (fun c7028 => ?_) (fun c7028 => ?_)
            · skip
              have r_x6939 : mh_r x6939 (0) (0) := mh_eq1 (show x6939.toInt = (0 : Int32).toInt from c7028) r_x6939 rc_0 (0) (0) (by decide)
              refine mw_iload_n 136 rfl 4 dX1_run_135 rfl rfl ?_
              refine mw_iconst (v := 1) 137 rfl dX1_run_136 (by decide) ?_
              refine mw_icmp_ge 140 rfl 142 dX1_run_137 (by decide) (fun c7029 => ?_) (fun c7029 => ?_)
              · skip
                have r_x6626 : mh_r x6626 (1) (32) := mh_le2 c7029 rc_1 r_x6626 (1) (by decide)
                refine mw_iload 144 rfl 8 dX1_run_142  rfl ?_
                refine mw_bipush (v := 38) 146 rfl dX1_run_144 (by decide) ?_
                have J156 : mh_W G (mh_XM l G (d + 1) (mh_Qi (P_X1_run B D s0 kl p1 p2))) mM_X1_run 156 [(0, .ref (G.2.2.2 kl)), (1, .int p1), (2, .int p2), (3, .int x6626), (4, .int x6625), (5, .int x3420), (6, .int x6624), (7, .int x6842), (8, .int x6851)] [] s6627 := by
                  skip
                  refine mw_aload_n 157 rfl 0 dX1_run_156 rfl rfl ?_
                  refine mw_geta 160 rfl dX1_run_157 gf_X1_38 (ly_L hkl) (kl + 7) (rf_L_6 hI_s6627 hkl) ?_
                  refine mw_iload_n 161 rfl 3 dX1_run_160 rfl rfl ?_
                  refine mw_iconst (v := 1) 162 rfl dX1_run_161 (by decide) ?_
                  refine mw_isub 163 rfl (0) (31) dX1_run_162 r_x6626 rc_1 (by decide) (fun x7094 t7095 r_x7094 => ?_)
                  refine mw_iald 164 rfl dX1_run_163 (ly_L7 hkl) r_x7094 (by decide) (fun x7096 t7097 => ?_)
                  have J172 : ∀ (x7099 : Int32), mh_r x7099 (0) (1) → mh_W G (mh_XM l G (d + 1) (mh_Qi (P_X1_run B D s0 kl p1 p2))) mM_X1_run 172 [(0, .ref (G.2.2.2 kl)), (1, .int p1), (2, .int p2), (3, .int x6626), (4, .int x6625), (5, .int x3420), (6, .int x6624), (7, .int x6842), (8, .int x6851)] [.int x7099] s6627 := by
                    intro x7099 r_x7099
                    refine mw_iload 174 rfl 7 dX1_run_172  rfl ?_
                    refine mw_bipush (v := 124) 176 rfl dX1_run_174 (by decide) ?_
                    have J184 : ∀ (x7117 : Int32), mh_r x7117 (0) (1) → mh_W G (mh_XM l G (d + 1) (mh_Qi (P_X1_run B D s0 kl p1 p2))) mM_X1_run 184 [(0, .ref (G.2.2.2 kl)), (1, .int p1), (2, .int p2), (3, .int x6626), (4, .int x6625), (5, .int x3420), (6, .int x6624), (7, .int x6842), (8, .int x6851)] [.int x7117, .int x7099] s6627 := by
                      intro x7117 r_x7117
                      have J192 : ∀ (x7133 : Int32), mh_r x7133 (0) (1) → mh_W G (mh_XM l G (d + 1) (mh_Qi (P_X1_run B D s0 kl p1 p2))) mM_X1_run 192 [(0, .ref (G.2.2.2 kl)), (1, .int p1), (2, .int p2), (3, .int x6626), (4, .int x6625), (5, .int x3420), (6, .int x6624), (7, .int x6842), (8, .int x6851)] [.int x7133] s6627 := by
                        intro x7133 r_x7133
                        refine mw_istore 194 rfl [(9, .int x7133), (0, .ref (G.2.2.2 kl)), (1, .int p1), (2, .int p2), (3, .int x6626), (4, .int x6625), (5, .int x3420), (6, .int x6624), (7, .int x6842), (8, .int x6851)] dX1_run_192  (by decide) rfl ?_
                        refine mw_iload 196 rfl 0 dX1_run_194  rfl ?_
                        have J215 : ∀ (x7153 : Int32), mh_r x7153 (2) (2147483647) → mh_W G (mh_XM l G (d + 1) (mh_Qi (P_X1_run B D s0 kl p1 p2))) mM_X1_run 215 [(0, .ref (G.2.2.2 kl)), (1, .int p1), (2, .int p2), (3, .int x6626), (4, .int x6625), (5, .int x3420), (6, .int x6624), (7, .int x6842), (8, .int x6851), (9, .int x7133)] [.int x7153] s6627 := by
                          intro x7153 r_x7153
                          refine mw_istore 217 rfl [(4, .int x7153), (0, .ref (G.2.2.2 kl)), (1, .int p1), (2, .int p2), (3, .int x6626), (5, .int x3420), (6, .int x6624), (7, .int x6842), (8, .int x6851), (9, .int x7133)] dX1_run_215  (by decide) rfl ?_
                          refine mw_iload_n 218 rfl 4 dX1_run_217 rfl rfl ?_
                          refine mw_iload 220 rfl 9 dX1_run_218  rfl ?_
                          have J228 : ∀ (x7159 : Int32), mh_r x7159 (0) (1) → mh_W G (mh_XM l G (d + 1) (mh_Qi (P_X1_run B D s0 kl p1 p2))) mM_X1_run 228 [(0, .ref (G.2.2.2 kl)), (1, .int p1), (2, .int p2), (3, .int x6626), (4, .int x7153), (5, .int x3420), (6, .int x6624), (7, .int x6842), (8, .int x6851), (9, .int x7133)] [.int x7159, .int x6626] s6627 := by
                            intro x7159 r_x7159
                            refine mw_isub 229 rfl (0) (32) dX1_run_228 r_x6626 r_x7159 (by decide) (fun x7162 t7163 r_x7162 => ?_)
                            refine mw_istore_n 230 rfl [(3, .int x7162), (0, .ref (G.2.2.2 kl)), (1, .int p1), (2, .int p2), (4, .int x7153), (5, .int x3420), (6, .int x6624), (7, .int x6842), (8, .int x6851), (9, .int x7133)] dX1_run_229 rfl (by decide) rfl ?_
                            refine mw_goto 233 rfl 337 dX1_run_230 (by decide) ?_
                            exact mw_lv [1, 2, 3, 0, 4, 5, 6, 7, 8] rfl (J337 x7153 x7162 s6627 (mh_r_wk r_x7153 (by decide)) r_x7162 hI_s6627 hF_s6627)
                          refine mw_if_eq 223 rfl 227 dX1_run_220 (by decide) (fun c7164 => ?_) (fun c7164 => ?_)
                          · skip
                            have r_x7133 : mh_r x7133 (0) (0) := mh_eq1 (show x7133.toInt = (0 : Int32).toInt from c7164) r_x7133 rc_0 (0) (0) (by decide)
                            refine mw_iconst (v := 1) 228 rfl dX1_run_227 (by decide) ?_
                            exact mw_lv [1, 2, 3, 4, 0, 5, 6, 7, 8, 9] rfl (J228 (1) (mh_r_wk rc_1 (by decide)))
                          · skip
                            have r_x7133 : mh_r x7133 (1) (1) := mh_ne1 (show x7133.toInt ≠ (0 : Int32).toInt from c7164) r_x7133 rc_0 (1) (1) (by decide)
                            refine mw_iconst (v := 0) 224 rfl dX1_run_223 (by decide) ?_
                            refine mw_goto 227 rfl 228 dX1_run_224 (by decide) ?_
                            exact mw_lv [1, 2, 3, 4, 0, 5, 6, 7, 8, 9] rfl (J228 (0) (mh_r_wk rc_0 (by decide)))
                        refine mw_if_eq 199 rfl 211 dX1_run_196 (by decide) (fun c7165 => ?_) (fun c7165 => ?_)
                        · skip
                          have r_x7133 : mh_r x7133 (0) (0) := mh_eq1 (show x7133.toInt = (0 : Int32).toInt from c7165) r_x7133 rc_0 (0) (0) (by decide)
                          refine mw_iload 213 rfl 5 dX1_run_211  rfl ?_
                          refine mw_iconst (v := 2) 214 rfl dX1_run_213 (by decide) ?_
                          refine mw_iadd 215 rfl (2) (401) dX1_run_214 r_x6625 rc_2 (by decide) (fun x7166 t7167 r_x7166 => ?_)
                          exact mw_lv [1, 2, 3, 4, 5, 6, 7, 8, 9, 0] rfl (J215 x7166 (mh_r_wk r_x7166 (by decide)))
                        · skip
                          have r_x7133 : mh_r x7133 (1) (1) := mh_ne1 (show x7133.toInt ≠ (0 : Int32).toInt from c7165) r_x7133 rc_0 (1) (1) (by decide)
                          refine mw_iload 201 rfl 5 dX1_run_199  rfl ?_
                          refine mw_iconst (v := 2) 202 rfl dX1_run_201 (by decide) ?_
                          refine mw_iadd 203 rfl (2) (401) dX1_run_202 r_x6625 rc_2 (by decide) (fun x7168 t7169 r_x7168 => ?_)
                          refine mw_iload 205 rfl 9 dX1_run_203  rfl ?_
                          refine mw_mmax (2) (2147483647) 208 rfl dX1_run_205 ml_X1_114 r_x7168 (mh_r_full x6851) (by decide) (mh_mr (D := d + 1) (by omega) (Nat.le_of_ble_eq_true rfl)) (fun x7170 t7171 r_x7170 => ?_)
                          refine mw_goto 211 rfl 215 dX1_run_208 (by decide) ?_
                          exact mw_lv [1, 2, 3, 4, 5, 6, 7, 8, 9, 0] rfl (J215 x7170 r_x7170)
                      refine mw_icmp_ne 187 rfl 191 dX1_run_184 (by decide) (fun c7172 => ?_) (fun c7172 => ?_)
                      · skip
                        refine mw_iconst (v := 0) 192 rfl dX1_run_191 (by decide) ?_
                        exact mw_lv [0, 1, 2, 3, 4, 5, 6, 7, 8] rfl (J192 (0) (mh_r_wk rc_0 (by decide)))
                      · skip
                        refine mw_iconst (v := 1) 188 rfl dX1_run_187 (by decide) ?_
                        refine mw_goto 191 rfl 192 dX1_run_188 (by decide) ?_
                        exact mw_lv [0, 1, 2, 3, 4, 5, 6, 7, 8] rfl (J192 (1) (mh_r_wk rc_1 (by decide)))
                    refine mw_icmp_ne 179 rfl 183 dX1_run_176 (by decide) (fun c7173 => ?_) (fun c7173 => ?_)
                    · skip
                      refine mw_iconst (v := 0) 184 rfl dX1_run_183 (by decide) ?_
                      exact mw_lv [0, 1, 2, 3, 4, 5, 6, 7, 8] rfl (J184 (0) (mh_r_wk rc_0 (by decide)))
                    · skip
                      have r_x6842 : mh_r x6842 (124) (124) := mh_eq1 c7173 (mh_r_full x6842) rc_124 (124) (124) (by decide)
                      refine mw_iconst (v := 1) 180 rfl dX1_run_179 (by decide) ?_
                      refine mw_goto 183 rfl 184 dX1_run_180 (by decide) ?_
                      exact mw_lv [0, 1, 2, 3, 4, 5, 6, 7, 8] rfl (J184 (1) (mh_r_wk rc_1 (by decide)))
                  refine mw_if_eq 167 rfl 171 dX1_run_164 (by decide) (fun c7174 => ?_) (fun c7174 => ?_)
                  · skip
                    have r_x7096 : mh_r x7096 (0) (0) := mh_eq1 (show x7096.toInt = (0 : Int32).toInt from c7174) (mh_r_full x7096) rc_0 (0) (0) (by decide)
                    refine mw_iconst (v := 0) 172 rfl dX1_run_171 (by decide) ?_
                    exact mw_lv [0, 1, 2, 3, 4, 5, 6, 7, 8] rfl (J172 (0) (mh_r_wk rc_0 (by decide)))
                  · skip
                    refine mw_iconst (v := 1) 168 rfl dX1_run_167 (by decide) ?_
                    refine mw_goto 171 rfl 172 dX1_run_168 (by decide) ?_
                    exact mw_lv [0, 1, 2, 3, 4, 5, 6, 7, 8] rfl (J172 (1) (mh_r_wk rc_1 (by decide)))
                refine mw_icmp_eq 149 rfl 156 dX1_run_146 (by decide) (fun c7175 => ?_) (fun c7175 => ?_)
                · skip
                  have r_x6842 : mh_r x6842 (38) (38) := mh_eq1 c7175 (mh_r_full x6842) rc_38 (38) (38) (by decide)
                  exact mw_lv [1, 2, 3, 4, 5, 6, 7, 8, 0] rfl (J156)
                · skip
                  refine mw_iload 151 rfl 8 dX1_run_149  rfl ?_
                  refine mw_bipush (v := 124) 153 rfl dX1_run_151 (by decide) ?_
                  refine mw_icmp_ne 156 rfl 233 dX1_run_153 (by decide) (fun c7176 => ?_) (fun c7176 => ?_)
                  · skip
                    refine mw_iload 235 rfl 8 dX1_run_233  rfl ?_
                    refine mw_bipush (v := 33) 237 rfl dX1_run_235 (by decide) ?_
                    refine mw_icmp_ne 240 rfl 270 dX1_run_237 (by decide) (fun c7177 => ?_) (fun c7177 => ?_)
                    · skip
                      refine mw_iload_n 271 rfl 4 dX1_run_270 rfl rfl ?_
                      refine mw_iconst (v := 2) 272 rfl dX1_run_271 (by decide) ?_
                      refine mw_icmp_lt 275 rfl 300 dX1_run_272 (by decide) (fun c7178 => ?_) (fun c7178 => ?_)
                      · skip
                        have r_x6626 : mh_r x6626 (1) (1) := mh_lt1 c7178 r_x6626 rc_2 (1) (by decide)
                        refine mw_iconst (v := 0) 301 rfl dX1_run_300 (by decide) ?_
                        exact mw_iret dX1_run_301 rfl ⟨(0), rfl, ⟨(mh_r_wk rc_0 (by decide)), hI_s6627, hF_s6627⟩⟩
                      · skip
                        have r_x6626 : mh_r x6626 (2) (32) := mh_le2 c7178 rc_2 r_x6626 (2) (by decide)
                        refine mw_aload_n 276 rfl 1 dX1_run_275 rfl rfl ?_
                        refine mw_geta 279 rfl dX1_run_276 gf_X1_38 (ly_L hkl) (kl + 7) (rf_L_6 hI_s6627 hkl) ?_
                        refine mw_iload_n 280 rfl 4 dX1_run_279 rfl rfl ?_
                        refine mw_iconst (v := 1) 281 rfl dX1_run_280 (by decide) ?_
                        refine mw_isub 282 rfl (1) (31) dX1_run_281 r_x6626 rc_1 (by decide) (fun x7179 t7180 r_x7179 => ?_)
                        refine mw_iald 283 rfl dX1_run_282 (ly_L7 hkl) r_x7179 (by decide) (fun x7181 t7182 => ?_)
                        have J302 : mh_W G (mh_XM l G (d + 1) (mh_Qi (P_X1_run B D s0 kl p1 p2))) mM_X1_run 302 [(0, .ref (G.2.2.2 kl)), (1, .int p1), (2, .int p2), (3, .int x6626), (4, .int x6625), (5, .int x3420), (6, .int x6624), (7, .int x6842), (8, .int x6851)] [] s6627 := by
                          skip
                          refine mw_aload_n 303 rfl 0 dX1_run_302 rfl rfl ?_
                          refine mw_geta 306 rfl dX1_run_303 gf_X1_38 (ly_L hkl) (kl + 7) (rf_L_6 hI_s6627 hkl) ?_
                          refine mw_iload_n 307 rfl 3 dX1_run_306 rfl rfl ?_
                          refine mw_iconst (v := 2) 308 rfl dX1_run_307 (by decide) ?_
                          refine mw_isub 309 rfl (0) (30) dX1_run_308 r_x6626 rc_2 (by decide) (fun x7205 t7206 r_x7205 => ?_)
                          refine mw_iload 311 rfl 7 dX1_run_309  rfl ?_
                          refine mw_aload_n 312 rfl 0 dX1_run_311 rfl rfl ?_
                          refine mw_geta 315 rfl dX1_run_312 gf_X1_38 (ly_L hkl) (kl + 7) (rf_L_6 hI_s6627 hkl) ?_
                          refine mw_iload_n 316 rfl 3 dX1_run_315 rfl rfl ?_
                          refine mw_iconst (v := 2) 317 rfl dX1_run_316 (by decide) ?_
                          refine mw_isub 318 rfl (0) (30) dX1_run_317 r_x6626 rc_2 (by decide) (fun x7207 t7208 r_x7207 => ?_)
                          obtain rfl : x7205 = x7207 := Int32.toInt_inj.mp (t7206.trans t7208.symm)
                          refine mw_iald 319 rfl dX1_run_318 (ly_L7 hkl) r_x7205 (by decide) (fun x7209 t7210 => ?_)
                          refine mw_aload_n 320 rfl 0 dX1_run_319 rfl rfl ?_
                          refine mw_geta 323 rfl dX1_run_320 gf_X1_38 (ly_L hkl) (kl + 7) (rf_L_6 hI_s6627 hkl) ?_
                          refine mw_iload_n 324 rfl 3 dX1_run_323 rfl rfl ?_
                          refine mw_iconst (v := 1) 325 rfl dX1_run_324 (by decide) ?_
                          refine mw_isub 326 rfl (1) (31) dX1_run_325 r_x6626 rc_1 (by decide) (fun x7211 t7212 r_x7211 => ?_)
                          obtain rfl : x7179 = x7211 := Int32.toInt_inj.mp (t7180.trans t7212.symm)
                          refine mw_iald 327 rfl dX1_run_326 (ly_L7 hkl) r_x7179 (by decide) (fun x7213 t7214 => ?_)
                          obtain rfl : x7181 = x7213 := t7182.trans t7214.symm
                          refine mw_callSi [.int x6842, .int x7209, .int x7181] [.int x7205, .ref (G.2.2.2 (kl + 7))] 330 rfl dX1_run_327 ml_X1_122 mc_X1_combine mk_X1_combine (w_X1_combine l G (d + 0) ⟨by omega, by omega⟩ hI_s6627 x6842 x7209 x7181) rfl rfl (Nat.le_of_ble_eq_true rfl) (mh_rok (by omega) (by decide)) (fun x7215 s7216 q7217 => ?_)
                          obtain ⟨r_x7215, rfl⟩ := q7217
                          refine mw_iast 331 rfl dX1_run_330 (ly_L7 hkl) r_x7205 (by decide) (fun s7218 t7219 => ?_)
                          have hI_s7218 : mh_I B D s7218 := by rw [t7219]; exact wr_L7 hI_s6627 hkl
                          have hF_s7218 : mh_F (S_X1_run kl) s0 s7218 := by rw [t7219]; exact mh_F_pI hF_s6627 (mh_si 0 rfl)
                          refine mw_iincR (k := 3) (1) (31) 334 rfl (fun z => [(3, .int z), (0, .ref (G.2.2.2 kl)), (1, .int p1), (2, .int p2), (4, .int x6625), (5, .int x3420), (6, .int x6624), (7, .int x6842), (8, .int x6851)]) dX1_run_331 rfl (by decide) (fun _ => rfl) r_x6626 (by decide) (by decide) (fun x7220 t7221 r_x7220 => ?_)
                          refine mw_iincR (k := 4) (1) (400) 337 rfl (fun z => [(4, .int z), (3, .int x7220), (0, .ref (G.2.2.2 kl)), (1, .int p1), (2, .int p2), (5, .int x3420), (6, .int x6624), (7, .int x6842), (8, .int x6851)]) dX1_run_334 rfl (by decide) (fun _ => rfl) r_x6625 (by decide) (by decide) (fun x7222 t7223 r_x7222 => ?_)
                          exact mw_lv [2, 3, 4, 1, 0, 5, 6, 7, 8] rfl (J337 x7222 x7220 s7218 (mh_r_wk r_x7222 (by decide)) (mh_r_wk r_x7220 (by decide)) hI_s7218 hF_s7218)
                        refine mw_if_ne 286 rfl 302 dX1_run_283 (by decide) (fun c7224 => ?_) (fun c7224 => ?_)
                        · skip
                          exact mw_lv [1, 2, 3, 4, 5, 6, 7, 8, 0] rfl (J302)
                        · skip
                          have r_x7181 : mh_r x7181 (0) (0) := mh_eq1 (show x7181.toInt = (0 : Int32).toInt from c7224) (mh_r_full x7181) rc_0 (0) (0) (by decide)
                          refine mw_iload 288 rfl 8 dX1_run_286  rfl ?_
                          refine mw_bipush (v := 47) 290 rfl dX1_run_288 (by decide) ?_
                          refine mw_icmp_eq 293 rfl 300 dX1_run_290 (by decide) (fun c7225 => ?_) (fun c7225 => ?_)
                          · skip
                            have r_x6842 : mh_r x6842 (47) (47) := mh_eq1 c7225 (mh_r_full x6842) rc_47 (47) (47) (by decide)
                            refine mw_iconst (v := 0) 301 rfl dX1_run_300 (by decide) ?_
                            exact mw_iret dX1_run_301 rfl ⟨(0), rfl, ⟨(mh_r_wk rc_0 (by decide)), hI_s6627, hF_s6627⟩⟩
                          · skip
                            refine mw_iload 295 rfl 8 dX1_run_293  rfl ?_
                            refine mw_bipush (v := 37) 297 rfl dX1_run_295 (by decide) ?_
                            refine mw_icmp_ne 300 rfl 302 dX1_run_297 (by decide) (fun c7226 => ?_) (fun c7226 => ?_)
                            · skip
                              exact mw_lv [1, 2, 3, 4, 5, 6, 7, 8, 0] rfl (J302)
                            · skip
                              have r_x6842 : mh_r x6842 (37) (37) := mh_eq1 c7226 (mh_r_full x6842) rc_37 (37) (37) (by decide)
                              refine mw_iconst (v := 0) 301 rfl dX1_run_300 (by decide) ?_
                              exact mw_iret dX1_run_301 rfl ⟨(0), rfl, ⟨(mh_r_wk rc_0 (by decide)), hI_s6627, hF_s6627⟩⟩
                    · skip
                      have r_x6842 : mh_r x6842 (33) (33) := mh_eq1 c7177 (mh_r_full x6842) rc_33 (33) (33) (by decide)
                      refine mw_aload_n 241 rfl 1 dX1_run_240 rfl rfl ?_
                      refine mw_geta 244 rfl dX1_run_241 gf_X1_38 (ly_L hkl) (kl + 7) (rf_L_6 hI_s6627 hkl) ?_
                      refine mw_iload_n 245 rfl 4 dX1_run_244 rfl rfl ?_
                      refine mw_iconst (v := 1) 246 rfl dX1_run_245 (by decide) ?_
                      refine mw_isub 247 rfl (0) (31) dX1_run_246 r_x6626 rc_1 (by decide) (fun x7227 t7228 r_x7227 => ?_)
                      refine mw_aload_n 248 rfl 1 dX1_run_247 rfl rfl ?_
                      refine mw_geta 251 rfl dX1_run_248 gf_X1_38 (ly_L hkl) (kl + 7) (rf_L_6 hI_s6627 hkl) ?_
                      refine mw_iload_n 252 rfl 4 dX1_run_251 rfl rfl ?_
                      refine mw_iconst (v := 1) 253 rfl dX1_run_252 (by decide) ?_
                      refine mw_isub 254 rfl (0) (31) dX1_run_253 r_x6626 rc_1 (by decide) (fun x7229 t7230 r_x7229 => ?_)
                      obtain rfl : x7227 = x7229 := Int32.toInt_inj.mp (t7228.trans t7230.symm)
                      refine mw_iald 255 rfl dX1_run_254 (ly_L7 hkl) r_x7227 (by decide) (fun x7231 t7232 => ?_)
                      have J263 : ∀ (x7234 : Int32), mh_r x7234 (0) (1) → mh_W G (mh_XM l G (d + 1) (mh_Qi (P_X1_run B D s0 kl p1 p2))) mM_X1_run 263 [(0, .ref (G.2.2.2 kl)), (1, .int p1), (2, .int p2), (3, .int x6626), (4, .int x6625), (5, .int x3420), (6, .int x6624), (7, .int x6842), (8, .int x6851)] [.int x7234, .int x7227, .ref (G.2.2.2 (kl + 7))] s6627 := by
                        intro x7234 r_x7234
                        refine mw_iast 264 rfl dX1_run_263 (ly_L7 hkl) r_x7227 (by decide) (fun s7239 t7240 => ?_)
                        have hI_s7239 : mh_I B D s7239 := by rw [t7240]; exact wr_L7 hI_s6627 hkl
                        have hF_s7239 : mh_F (S_X1_run kl) s0 s7239 := by rw [t7240]; exact mh_F_pI hF_s6627 (mh_si 0 rfl)
                        refine mw_iincR (k := 4) (1) (400) 267 rfl (fun z => [(4, .int z), (0, .ref (G.2.2.2 kl)), (1, .int p1), (2, .int p2), (3, .int x6626), (5, .int x3420), (6, .int x6624), (7, .int x6842), (8, .int x6851)]) dX1_run_264 rfl (by decide) (fun _ => rfl) r_x6625 (by decide) (by decide) (fun x7241 t7242 r_x7241 => ?_)
                        refine mw_goto 270 rfl 337 dX1_run_267 (by decide) ?_
                        exact mw_lv [1, 2, 3, 4, 0, 5, 6, 7, 8] rfl (J337 x7241 x6626 s7239 (mh_r_wk r_x7241 (by decide)) (mh_r_wk r_x6626 (by decide)) hI_s7239 hF_s7239)
                      refine mw_if_ne 258 rfl 262 dX1_run_255 (by decide) (fun c7243 => ?_) (fun c7243 => ?_)
                      · skip
                        refine mw_iconst (v := 0) 263 rfl dX1_run_262 (by decide) ?_
                        exact mw_lv [1, 2, 3, 4, 5, 6, 7, 8, 0] rfl (J263 (0) (mh_r_wk rc_0 (by decide)))
                      · skip
                        have r_x7231 : mh_r x7231 (0) (0) := mh_eq1 (show x7231.toInt = (0 : Int32).toInt from c7243) (mh_r_full x7231) rc_0 (0) (0) (by decide)
                        refine mw_iconst (v := 1) 259 rfl dX1_run_258 (by decide) ?_
                        refine mw_goto 262 rfl 263 dX1_run_259 (by decide) ?_
                        exact mw_lv [1, 2, 3, 4, 5, 6, 7, 8, 0] rfl (J263 (1) (mh_r_wk rc_1 (by decide)))
                  · skip
                    have r_x6842 : mh_r x6842 (124) (124) := mh_eq1 c7176 (mh_r_full x6842) rc_124 (124) (124) (by decide)
                    exact mw_lv [1, 2, 3, 4, 5, 6, 7, 8, 0] rfl (J156)
              · skip
                have r_x6626 : mh_r x6626 (0) (0) := mh_lt1 c7029 r_x6626 rc_1 (0) (by decide)
                refine mw_iconst (v := 0) 141 rfl dX1_run_140 (by decide) ?_
                exact mw_iret dX1_run_141 rfl ⟨(0), rfl, ⟨(mh_r_wk rc_0 (by decide)), hI_s6627, hF_s6627⟩⟩
            · skip
              have r_x6842 : mh_r x6842 (0) (13) := ⟨by have := e0_s6940.1 (mh_z1 r_x6939 c7028); have := ((mh_r_full x6842)).1; omega, by have := e0_s6940.1 (mh_z1 r_x6939 c7028); have := ((mh_r_full x6842)).2; have := (rc_13).2; omega⟩
              have r_x6939 : mh_r x6939 (1) (1) := mh_ne1 (show x6939.toInt ≠ (0 : Int32).toInt from c7028) r_x6939 rc_0 (1) (1) (by decide)
              refine mw_iload_n 80 rfl 4 dX1_run_79 rfl rfl ?_
              refine mw_bipush (v := 32) 82 rfl dX1_run_80 (by decide) ?_
              refine mw_icmp_lt 85 rfl 87 dX1_run_82 (by decide) (fun c7244 => ?_) (fun c7244 => ?_)
              · skip
                have r_x6626 : mh_r x6626 (0) (31) := mh_lt1 c7244 r_x6626 rc_32 (31) (by decide)
                refine mw_aload_n 88 rfl 1 dX1_run_87 rfl rfl ?_
                refine mw_geta 91 rfl dX1_run_88 gf_X1_38 (ly_L hkl) (kl + 7) (rf_L_6 hI_s6627 hkl) ?_
                refine mw_iload_n 92 rfl 4 dX1_run_91 rfl rfl ?_
                refine mw_iload 94 rfl 8 dX1_run_92  rfl ?_
                refine mw_bipush (v := 13) 96 rfl dX1_run_94 (by decide) ?_
                have J111 : ∀ (x7248 : Int32), mh_W G (mh_XM l G (d + 1) (mh_Qi (P_X1_run B D s0 kl p1 p2))) mM_X1_run 111 [(0, .ref (G.2.2.2 kl)), (1, .int p1), (2, .int p2), (3, .int x6626), (4, .int x6625), (5, .int x3420), (6, .int x6624), (7, .int x6842), (8, .int x6851)] [.int x7248, .int x6626, .ref (G.2.2.2 (kl + 7))] s6627 := by
                  intro x7248
                  refine mw_iast 112 rfl dX1_run_111 (ly_L7 hkl) r_x6626 (by decide) (fun s7257 t7258 => ?_)
                  have hI_s7257 : mh_I B D s7257 := by rw [t7258]; exact wr_L7 hI_s6627 hkl
                  have hF_s7257 : mh_F (S_X1_run kl) s0 s7257 := by rw [t7258]; exact mh_F_pI hF_s6627 (mh_si 0 rfl)
                  refine mw_iincR (k := 3) (1) (32) 115 rfl (fun z => [(3, .int z), (0, .ref (G.2.2.2 kl)), (1, .int p1), (2, .int p2), (4, .int x6625), (5, .int x3420), (6, .int x6624), (7, .int x6842), (8, .int x6851)]) dX1_run_112 rfl (by decide) (fun _ => rfl) r_x6626 (by decide) (by decide) (fun x7259 t7260 r_x7259 => ?_)
                  refine mw_iload 117 rfl 4 dX1_run_115  rfl ?_
                  refine mw_iload 119 rfl 7 dX1_run_117  rfl ?_
                  refine mw_bipush (v := 13) 121 rfl dX1_run_119 (by decide) ?_
                  have J129 : ∀ (x7262 : Int32), mh_r x7262 (1) (2) → mh_W G (mh_XM l G (d + 1) (mh_Qi (P_X1_run B D s0 kl p1 p2))) mM_X1_run 129 [(0, .ref (G.2.2.2 kl)), (1, .int p1), (2, .int p2), (3, .int x7259), (4, .int x6625), (5, .int x3420), (6, .int x6624), (7, .int x6842), (8, .int x6851)] [.int x7262, .int x6625] s7257 := by
                    intro x7262 r_x7262
                    refine mw_iadd 130 rfl (1) (401) dX1_run_129 r_x6625 r_x7262 (by decide) (fun x7265 t7266 r_x7265 => ?_)
                    refine mw_istore 132 rfl [(4, .int x7265), (0, .ref (G.2.2.2 kl)), (1, .int p1), (2, .int p2), (3, .int x7259), (5, .int x3420), (6, .int x6624), (7, .int x6842), (8, .int x6851)] dX1_run_130  (by decide) rfl ?_
                    refine mw_goto 135 rfl 337 dX1_run_132 (by decide) ?_
                    exact mw_lv [1, 2, 3, 4, 0, 5, 6, 7, 8] rfl (J337 x7265 x7259 s7257 (mh_r_wk r_x7265 (by decide)) (mh_r_wk r_x7259 (by decide)) hI_s7257 hF_s7257)
                  refine mw_icmp_ne 124 rfl 128 dX1_run_121 (by decide) (fun c7267 => ?_) (fun c7267 => ?_)
                  · skip
                    have r_x6842 : mh_r x6842 (0) (12) := mh_ne1 c7267 r_x6842 rc_13 (0) (12) (by decide)
                    refine mw_iconst (v := 1) 129 rfl dX1_run_128 (by decide) ?_
                    exact mw_lv [1, 2, 3, 0, 4, 5, 6, 7, 8] rfl (J129 (1) (mh_r_wk rc_1 (by decide)))
                  · skip
                    have r_x6842 : mh_r x6842 (13) (13) := mh_eq1 c7267 r_x6842 rc_13 (13) (13) (by decide)
                    refine mw_iconst (v := 2) 125 rfl dX1_run_124 (by decide) ?_
                    refine mw_goto 128 rfl 129 dX1_run_125 (by decide) ?_
                    exact mw_lv [1, 2, 3, 0, 4, 5, 6, 7, 8] rfl (J129 (2) (mh_r_wk rc_2 (by decide)))
                refine mw_icmp_ne 99 rfl 104 dX1_run_96 (by decide) (fun c7268 => ?_) (fun c7268 => ?_)
                · skip
                  have r_x6842 : mh_r x6842 (0) (12) := mh_ne1 c7268 r_x6842 rc_13 (0) (12) (by decide)
                  refine mw_aload_n 105 rfl 1 dX1_run_104 rfl rfl ?_
                  refine mw_geta 108 rfl dX1_run_105 gf_X1_35 (ly_L hkl) (kl + 6) (rf_L_5 hI_s6627 hkl) ?_
                  refine mw_iload 110 rfl 8 dX1_run_108  rfl ?_
                  refine mw_iald 111 rfl dX1_run_110 (ly_L6 hkl) r_x6842 (by decide) (fun x7269 t7270 => ?_)
                  exact mw_lv [1, 2, 3, 4, 5, 6, 7, 8, 0] rfl (J111 x7269)
                · skip
                  have r_x6842 : mh_r x6842 (13) (13) := mh_eq1 c7268 r_x6842 rc_13 (13) (13) (by decide)
                  refine mw_iload 101 rfl 0 dX1_run_99  rfl ?_
                  refine mw_goto 104 rfl 111 dX1_run_101 (by decide) ?_
                  exact mw_lv [1, 2, 3, 4, 5, 6, 7, 8, 0] rfl (J111 x6851)
              · skip
                have r_x6626 : mh_r x6626 (32) (32) := mh_le2 c7244 rc_32 r_x6626 (32) (by decide)
                refine mw_iconst (v := 0) 86 rfl dX1_run_85 (by decide) ?_
                exact mw_iret dX1_run_86 rfl ⟨(0), rfl, ⟨(mh_r_wk rc_0 (by decide)), hI_s6627, hF_s6627⟩⟩
          refine mw_icmp_ge 54 rfl 66 dX1_run_51 (by decide) (fun c7271 => ?_) (fun c7271 => ?_)
          · skip
            refine mw_iconst (v := 0) 67 rfl dX1_run_66 (by decide) ?_
            exact mw_lv [1, 2, 3, 4, 5, 6, 7, 0] rfl (J67 (0))
          · skip
            have r_x6844 : mh_r x6844 (1) (399) := mh_lt1 c7271 r_x6844 r_x3420 (399) (by decide)
            have r_x6625 : mh_r x6625 (0) (398) := by have := (show x6844.toInt = x6625.toInt + (1) from t6845); have := (r_x6625).1; have := (r_x6625).2; have := (r_x6844).1; have := (r_x6844).2; exact ⟨by omega, by omega⟩
            have r_x3420 : mh_r x3420 (2) (400) := mh_lt2 c7271 r_x6844 r_x3420 (2) (by decide)
            refine mw_aload_n 55 rfl 1 dX1_run_54 rfl rfl ?_
            refine mw_geta 58 rfl dX1_run_55 gf_X1_11 (ly_L hkl) (kl + 1) (rf_L_0 hI_s6627 hkl) ?_
            refine mw_iload 60 rfl 5 dX1_run_58  rfl ?_
            refine mw_iconst (v := 1) 61 rfl dX1_run_60 (by decide) ?_
            refine mw_iadd 62 rfl (1) (399) dX1_run_61 r_x6625 rc_1 (by decide) (fun x7272 t7273 r_x7272 => ?_)
            obtain rfl : x6844 = x7272 := Int32.toInt_inj.mp (t6845.trans t7273.symm)
            refine mw_iald 63 rfl dX1_run_62 (ly_L1 hkl) r_x6844 (by decide) (fun x7274 t7275 => ?_)
            refine mw_goto 66 rfl 67 dX1_run_63 (by decide) ?_
            exact mw_lv [1, 2, 3, 4, 5, 6, 7, 0] rfl (J67 x7274)
  exact mw_lv [4, 5, 6, 3, 2, 1, 0] rfl (L21 401 (0) x3418 (0) s0 (mh_r_wk rc_0 (by decide)) r_x3418 (mh_r_wk rc_0 (by decide)) hI0 hF0 (by have := (rc_0).1; have := (rc_0).2; omega))

def P_X9_bounded (B D : Int) (s0 : mh_H) (p0 : Int32) (p1 : Int32) : Int32 → mh_H → Prop := fun z s => mh_r z (0) (2147483647) ∧ (0 ≤ p1.toInt → z.toInt ≤ p1.toInt) ∧ s0 = s
set_option maxRecDepth 100000 in
set_option maxHeartbeats 4000000 in
theorem w_X9_bounded (l : Launch) (G : mh_G) (d : Nat) {B D : Int} (hB : B ≤ 1980000000 ∧ D ≤ 1980000000) {s0 : mh_H} (hI0 : mh_I B D s0) (p0 : Int32) (p1 : Int32) : mh_Mi l G (d + 1) mM_X9_bounded [.int p0, .int p1] s0 (P_X9_bounded B D s0 p0 p1) := by
  refine mh_enter (lv := [(0, .int p0), (1, .int p1)]) (by decide) rfl (Nat.le_of_ble_eq_true rfl) ?_
  refine mw_iconst (v := 0) 1 rfl dX9_bounded_0 (by decide) ?_
  refine mw_iload_n 2 rfl 0 dX9_bounded_1 rfl rfl ?_
  refine mw_iload_n 3 rfl 1 dX9_bounded_2 rfl rfl ?_
  refine mw_mmin (-2147483648) (2147483647) 6 rfl dX9_bounded_3 ml_X9_310 (mh_r_full p0) (mh_r_full p1) (by decide) (mh_mr (D := d + 1) (by omega) (Nat.le_of_ble_eq_true rfl)) (fun x5 t6 r_x5 => ?_)
  refine mw_mmax (0) (2147483647) 9 rfl dX9_bounded_6 ml_X9_182 rc_0 r_x5 (by decide) (mh_mr (D := d + 1) (by omega) (Nat.le_of_ble_eq_true rfl)) (fun x7 t8 r_x7 => ?_)
  refine mw_iret dX9_bounded_9 rfl ⟨x7, rfl, ⟨r_x7, ?_, rfl⟩⟩
  · skip
    have := (r_x7).1; have := (r_x7).2
    have := kc_0
    have := kc_1
    omega

def S_X1_worth (kl : Nat) : List (Nat × Nat) := [(kl + 7, 9999)]
def P_X1_worth (B D : Int) (s0 : mh_H) (kl : Nat) (p1 : Int32) : Int32 → mh_H → Prop := fun z s => mh_r z (0) (999) ∧ mh_I B D s ∧ mh_F (S_X1_worth kl) s0 s
set_option maxRecDepth 100000 in
set_option maxHeartbeats 4000000 in
theorem w_X1_worth (l : Launch) (G : mh_G) (d : Nat) {B D : Int} (hB : B ≤ 1960000000 ∧ D ≤ 1960000000) {s0 : mh_H} (hI0 : mh_I B D s0) (kl : Nat) (hkl : mh_isL kl) (p1 : Int32) : mh_Mi l G (d + 2) mM_X1_worth [.ref (G.2.2.2 kl), .int p1] s0 (P_X1_worth B D s0 kl p1) := by
  refine mh_enter (lv := [(0, .ref (G.2.2.2 kl)), (1, .int p1)]) (by decide) rfl (Nat.le_of_ble_eq_true rfl) ?_
  have hF0 : mh_F (S_X1_worth kl) s0 s0 := mh_F_rf
  refine mw_iconst (v := 0) 1 rfl dX1_worth_0 (by decide) ?_
  refine mw_istore_n 2 rfl [(2, .int (0)), (0, .ref (G.2.2.2 kl)), (1, .int p1)] dX1_worth_1 rfl (by decide) rfl ?_
  have L2 : ∀ n1 : Nat, ∀ (x200 : Int32) (s201 : mh_H), mh_r x200 (0) (14) → mh_I B D s201 → mh_F (S_X1_worth kl) s0 s201 → (14) - x200.toInt < (n1 : Int) → mh_W G (mh_XM l G (d + 2) (mh_Qi (P_X1_worth B D s0 kl p1))) mM_X1_worth 2 [(0, .ref (G.2.2.2 kl)), (1, .int p1), (2, .int x200)] [] s201 := by
    intro n1
    induction n1 with
    | zero =>
      intro x200 s201 r_x200 hI_s201 hF_s201 hmn1
      exact absurd hmn1 (by have := r_x200.1; have := r_x200.2; omega)
    | succ n1 ihn1 =>
      intro x200 s201 r_x200 hI_s201 hF_s201 hmn1
      refine mw_iload_n 3 rfl 2 dX1_worth_2 rfl rfl ?_
      refine mw_aload_n 4 rfl 0 dX1_worth_3 rfl rfl ?_
      refine mw_geti 7 rfl dX1_worth_4 gf_X1_41 (ly_L hkl) (fun x221 t222 => ?_)
      have r_x221 : mh_r x221 (0) (14) := by rw [t222]; exact rd_L_7 hI_s201 hkl
      refine mw_icmp_ge 10 rfl 69 dX1_worth_7 (by decide) (fun c223 => ?_) (fun c223 => ?_)
      · skip
        refine mw_iconst (v := 0) 70 rfl dX1_worth_69 (by decide) ?_
        exact mw_iret dX1_worth_70 rfl ⟨(0), rfl, ⟨(mh_r_wk rc_0 (by decide)), hI_s201, hF_s201⟩⟩
      · skip
        have r_x200 : mh_r x200 (0) (13) := mh_lt1 c223 r_x200 r_x221 (13) (by decide)
        have r_x221 : mh_r x221 (1) (14) := mh_lt2 c223 r_x200 r_x221 (1) (by decide)
        refine mw_aload_n 11 rfl 0 dX1_worth_10 rfl rfl ?_
        refine mw_geta 14 rfl dX1_worth_11 gf_X1_15 (ly_L hkl) (kl + 2) (rf_L_1 hI_s201 hkl) ?_
        refine mw_iload_n 15 rfl 2 dX1_worth_14 rfl rfl ?_
        refine mw_iald 16 rfl dX1_worth_15 (ly_L2 hkl) r_x200 (by decide) (fun x224 t225 => ?_)
        refine mw_iload_n 17 rfl 1 dX1_worth_16 rfl rfl ?_
        have J63 : ∀  (s248 : mh_H), mh_I B D s248 → mh_F (S_X1_worth kl) s0 s248 → mh_W G (mh_XM l G (d + 2) (mh_Qi (P_X1_worth B D s0 kl p1))) mM_X1_worth 63 [(0, .ref (G.2.2.2 kl)), (1, .int p1), (2, .int x200)] [] s248 := by
          intro s248 hI_s248 hF_s248
          refine mw_iincR (k := 2) (1) (14) 66 rfl (fun z => [(2, .int z), (0, .ref (G.2.2.2 kl)), (1, .int p1)]) dX1_worth_63 rfl (by decide) (fun _ => rfl) r_x200 (by decide) (by decide) (fun x251 t252 r_x251 => ?_)
          refine mw_goto 69 rfl 2 dX1_worth_66 (by decide) ?_
          exact mw_lv [1, 2, 0] rfl (ihn1 x251 s248 (mh_r_wk r_x251 (by decide)) hI_s248 hF_s248 (by have : x251.toInt = x200.toInt + (1) := t252; omega))
        refine mw_icmp_ne 20 rfl 63 dX1_worth_17 (by decide) (fun c253 => ?_) (fun c253 => ?_)
        · skip
          exact mw_lv [0, 1, 2] rfl (J63 s201 hI_s201 hF_s201)
        · skip
          refine mw_aload_n 21 rfl 0 dX1_worth_20 rfl rfl ?_
          refine mw_aload_n 22 rfl 0 dX1_worth_21 rfl rfl ?_
          refine mw_geta 25 rfl dX1_worth_22 gf_X1_21 (ly_L hkl) (kl + 4) (rf_L_3 hI_s201 hkl) ?_
          refine mw_iload_n 26 rfl 2 dX1_worth_25 rfl rfl ?_
          refine mw_iald 27 rfl dX1_worth_26 (ly_L4 hkl) r_x200 (by decide) (fun x254 t255 => ?_)
          refine mw_aload_n 28 rfl 0 dX1_worth_27 rfl rfl ?_
          refine mw_geta 31 rfl dX1_worth_28 gf_X1_24 (ly_L hkl) (kl + 5) (rf_L_4 hI_s201 hkl) ?_
          refine mw_iload_n 32 rfl 2 dX1_worth_31 rfl rfl ?_
          refine mw_iald 33 rfl dX1_worth_32 (ly_L5 hkl) r_x200 (by decide) (fun x256 t257 => ?_)
          refine mw_callVi [.int x254, .int x256] [] 36 rfl dX1_worth_33 ml_X1_104 mc_X1_run mk_X1_run (ly_L hkl) rfl (by decide) (w_X1_run l G (d + 0) ⟨by omega, by omega⟩ hI_s201 kl hkl x254 x256) rfl rfl (Nat.le_of_ble_eq_true rfl) (mh_rok (by omega) (by decide)) (fun x258 s259 q260 => ?_)
          obtain ⟨r_x258, hI_s259, hG_s259⟩ := q260
          have hF_s259 : mh_F (S_X1_worth kl) s0 s259 := mh_F_tl hF_s201 hG_s259 (by rcases hkl with rfl | rfl <;> decide +kernel)
          refine mw_if_eq 39 rfl 63 dX1_worth_36 (by decide) (fun c261 => ?_) (fun c261 => ?_)
          · skip
            have r_x258 : mh_r x258 (0) (0) := mh_eq1 (show x258.toInt = (0 : Int32).toInt from c261) r_x258 rc_0 (0) (0) (by decide)
            exact mw_lv [0, 1, 2] rfl (J63 s259 hI_s259 hF_s259)
          · skip
            refine mw_aload_n 40 rfl 0 dX1_worth_39 rfl rfl ?_
            refine mw_aload_n 41 rfl 0 dX1_worth_40 rfl rfl ?_
            refine mw_geta 44 rfl dX1_worth_41 gf_X1_18 (ly_L hkl) (kl + 3) (rf_L_2 hI_s259 hkl) ?_
            refine mw_iload_n 45 rfl 2 dX1_worth_44 rfl rfl ?_
            refine mw_iald 46 rfl dX1_worth_45 (ly_L3 hkl) r_x200 (by decide) (fun x262 t263 => ?_)
            refine mw_aload_n 47 rfl 0 dX1_worth_46 rfl rfl ?_
            refine mw_geta 50 rfl dX1_worth_47 gf_X1_21 (ly_L hkl) (kl + 4) (rf_L_3 hI_s259 hkl) ?_
            refine mw_iload_n 51 rfl 2 dX1_worth_50 rfl rfl ?_
            refine mw_iald 52 rfl dX1_worth_51 (ly_L4 hkl) r_x200 (by decide) (fun x264 t265 => ?_)
            have t266 : x254 = s259.1 (kl + 4) x200.toNatClampNeg := (t255).trans (hG_s259 (kl + 4) x200.toNatClampNeg (mh_nsI (by rcases hkl with rfl | rfl <;> rfl))).1.symm
            obtain rfl : x254 = x264 := t266.trans t265.symm
            refine mw_callVi [.int x262, .int x254] [] 55 rfl dX1_worth_52 ml_X1_104 mc_X1_run mk_X1_run (ly_L hkl) rfl (by decide) (w_X1_run l G (d + 0) ⟨by omega, by omega⟩ hI_s259 kl hkl x262 x254) rfl rfl (Nat.le_of_ble_eq_true rfl) (mh_rok (by omega) (by decide)) (fun x267 s268 q269 => ?_)
            obtain ⟨r_x267, hI_s268, hG_s268⟩ := q269
            have hF_s268 : mh_F (S_X1_worth kl) s0 s268 := mh_F_tl hF_s259 hG_s268 (by rcases hkl with rfl | rfl <;> decide +kernel)
            refine mw_iload_n 56 rfl 1 dX1_worth_55 rfl rfl ?_
            refine mw_callSi [.int p1] [.int x267] 59 rfl dX1_worth_56 ml_X1_108 mc_X1_most mk_X1_most (w_X1_most l G (d + 1) ⟨by omega, by omega⟩ hI_s268 p1) rfl rfl (Nat.le_of_ble_eq_true rfl) (mh_rok (by omega) (by decide)) (fun x270 s271 q272 => ?_)
            obtain ⟨r_x270, rfl⟩ := q272
            refine mw_callSi [.int x267, .int x270] [] 62 rfl dX1_worth_59 ml_X1_111 mc_X9_bounded mk_X9_bounded (w_X9_bounded l G (d + 0) ⟨by omega, by omega⟩ hI_s268 x267 x270) rfl rfl (Nat.le_of_ble_eq_true rfl) (mh_rok (by omega) (by decide)) (fun x273 s274 q275 => ?_)
            obtain ⟨r_x273, e0_s274, rfl⟩ := q275
            have r_x273 : mh_r x273 (0) (999) := ⟨(r_x273).1, by have := e0_s274 (by have := (r_x270).1; omega); have := (r_x270).2; omega⟩
            exact mw_iret dX1_worth_62 rfl ⟨x273, rfl, ⟨r_x273, hI_s268, hF_s268⟩⟩
  exact mw_lv [1, 2, 0] rfl (L2 15 (0) s0 (mh_r_wk rc_0 (by decide)) hI0 hF0 (by have := (rc_0).1; have := (rc_0).2; omega))

def S_X0_comeAndDry (kv : Nat) (kl : Nat) : List (Nat × Nat) := [(kl + 6, 9999), (kl + 7, 9999), (kv + 3, 9999), (kv + 4, 9999)]
def P_X0_comeAndDry (B D : Int) (s0 : mh_H) (kv : Nat) (kl : Nat) : mh_H → Prop := fun s => mh_I B D s ∧ mh_F (S_X0_comeAndDry kv kl) s0 s
set_option maxRecDepth 100000 in
set_option maxHeartbeats 4000000 in
theorem w_X0_comeAndDry (l : Launch) (G : mh_G) (d : Nat) {B D : Int} (hB : B ≤ 1940000000 ∧ D ≤ 1940000000) {s0 : mh_H} (hI0 : mh_I B D s0) (kv : Nat) (hkv : mh_isV kv) (kl : Nat) (hkl : mh_isL kl) : mh_Mv l G (d + 3) mM_X0_comeAndDry [.ref (G.2.2.2 19), .ref (G.2.2.2 kv), .ref (G.2.2.2 kl)] s0 (P_X0_comeAndDry B D s0 kv kl) := by
  refine mh_enter (lv := [(0, .ref (G.2.2.2 19)), (1, .ref (G.2.2.2 kv)), (2, .ref (G.2.2.2 kl))]) (by decide) rfl (Nat.le_of_ble_eq_true rfl) ?_
  have hF0 : mh_F (S_X0_comeAndDry kv kl) s0 s0 := mh_F_rf
  refine mw_iconst (v := 0) 1 rfl dX0_comeAndDry_0 (by decide) ?_
  refine mw_istore_n 2 rfl [(3, .int (0)), (0, .ref (G.2.2.2 19)), (1, .ref (G.2.2.2 kv)), (2, .ref (G.2.2.2 kl))] dX0_comeAndDry_1 rfl (by decide) rfl ?_
  have L2 : ∀ n1 : Nat, ∀ (x1403 : Int32) (s1404 : mh_H), mh_r x1403 (0) (144) → mh_I B D s1404 → mh_F (S_X0_comeAndDry kv kl) s0 s1404 → (144) - x1403.toInt < (n1 : Int) → mh_W G (mh_XM l G (d + 3) (mh_Qv (P_X0_comeAndDry B D s0 kv kl))) mM_X0_comeAndDry 2 [(0, .ref (G.2.2.2 19)), (1, .ref (G.2.2.2 kv)), (2, .ref (G.2.2.2 kl)), (3, .int x1403)] [] s1404 := by
    intro n1
    induction n1 with
    | zero =>
      intro x1403 s1404 r_x1403 hI_s1404 hF_s1404 hmn1
      exact absurd hmn1 (by have := r_x1403.1; have := r_x1403.2; omega)
    | succ n1 ihn1 =>
      intro x1403 s1404 r_x1403 hI_s1404 hF_s1404 hmn1
      refine mw_iload_n 3 rfl 3 dX0_comeAndDry_2 rfl rfl ?_
      refine mw_sipush (v := 144) 6 rfl dX0_comeAndDry_3 (by decide) ?_
      refine mw_icmp_ge 9 rfl 86 dX0_comeAndDry_6 (by decide) (fun c1442 => ?_) (fun c1442 => ?_)
      · skip
        have r_x1403 : mh_r x1403 (144) (144) := mh_le2 c1442 rc_144 r_x1403 (144) (by decide)
        exact mw_vret dX0_comeAndDry_86 rfl ⟨rfl, ⟨hI_s1404, hF_s1404⟩⟩
      · skip
        have r_x1403 : mh_r x1403 (0) (143) := mh_lt1 c1442 r_x1403 rc_144 (143) (by decide)
        refine mw_aload_n 10 rfl 2 dX0_comeAndDry_9 rfl rfl ?_
        refine mw_aload_n 11 rfl 1 dX0_comeAndDry_10 rfl rfl ?_
        refine mw_iload_n 12 rfl 3 dX0_comeAndDry_11 rfl rfl ?_
        refine mw_callVv [.ref (G.2.2.2 kv), .int x1403] [] 15 rfl dX0_comeAndDry_12 ml_X0_38 mc_X1_see mk_X1_see (ly_L hkl) rfl (by decide) (w_X1_see l G (d + 0) ⟨by omega, by omega⟩ hI_s1404 kv hkv kl hkl x1403 r_x1403) rfl rfl (Nat.le_of_ble_eq_true rfl) (mh_rok (by omega) (by decide)) (fun s1444 q1445 => ?_)
        obtain ⟨hI_s1444, hG_s1444⟩ := q1445
        have hF_s1444 : mh_F (S_X0_comeAndDry kv kl) s0 s1444 := mh_F_tl hF_s1404 hG_s1444 (by rcases hkl with rfl | rfl <;> rcases hkv with rfl | rfl | rfl <;> decide +kernel)
        refine mw_aload_n 16 rfl 2 dX0_comeAndDry_15 rfl rfl ?_
        refine mw_bipush (v := 99) 18 rfl dX0_comeAndDry_16 (by decide) ?_
        refine mw_callVi [.int (99)] [] 21 rfl dX0_comeAndDry_18 ml_X0_42 mc_X1_worth mk_X1_worth (ly_L hkl) rfl (by decide) (w_X1_worth l G (d + 0) ⟨by omega, by omega⟩ hI_s1444 kl hkl (99)) rfl rfl (Nat.le_of_ble_eq_true rfl) (mh_rok (by omega) (by decide)) (fun x1446 s1447 q1448 => ?_)
        obtain ⟨r_x1446, hI_s1447, hG_s1447⟩ := q1448
        have hF_s1447 : mh_F (S_X0_comeAndDry kv kl) s0 s1447 := mh_F_tl hF_s1444 hG_s1447 (by rcases hkl with rfl | rfl <;> rcases hkv with rfl | rfl | rfl <;> decide +kernel)
        refine mw_istore 23 rfl [(4, .int x1446), (0, .ref (G.2.2.2 19)), (1, .ref (G.2.2.2 kv)), (2, .ref (G.2.2.2 kl)), (3, .int x1403)] dX0_comeAndDry_21  (by decide) rfl ?_
        refine mw_aload_n 24 rfl 3 dX0_comeAndDry_23 rfl rfl ?_
        refine mw_bipush (v := 119) 26 rfl dX0_comeAndDry_24 (by decide) ?_
        refine mw_callVi [.int (119)] [] 29 rfl dX0_comeAndDry_26 ml_X0_42 mc_X1_worth mk_X1_worth (ly_L hkl) rfl (by decide) (w_X1_worth l G (d + 0) ⟨by omega, by omega⟩ hI_s1447 kl hkl (119)) rfl rfl (Nat.le_of_ble_eq_true rfl) (mh_rok (by omega) (by decide)) (fun x1449 s1450 q1451 => ?_)
        obtain ⟨r_x1449, hI_s1450, hG_s1450⟩ := q1451
        have hF_s1450 : mh_F (S_X0_comeAndDry kv kl) s0 s1450 := mh_F_tl hF_s1447 hG_s1450 (by rcases hkl with rfl | rfl <;> rcases hkv with rfl | rfl | rfl <;> decide +kernel)
        refine mw_aload_n 30 rfl 3 dX0_comeAndDry_29 rfl rfl ?_
        refine mw_bipush (v := 115) 32 rfl dX0_comeAndDry_30 (by decide) ?_
        refine mw_callVi [.int (115)] [.int x1449] 35 rfl dX0_comeAndDry_32 ml_X0_42 mc_X1_worth mk_X1_worth (ly_L hkl) rfl (by decide) (w_X1_worth l G (d + 0) ⟨by omega, by omega⟩ hI_s1450 kl hkl (115)) rfl rfl (Nat.le_of_ble_eq_true rfl) (mh_rok (by omega) (by decide)) (fun x1452 s1453 q1454 => ?_)
        obtain ⟨r_x1452, hI_s1453, hG_s1453⟩ := q1454
        have hF_s1453 : mh_F (S_X0_comeAndDry kv kl) s0 s1453 := mh_F_tl hF_s1450 hG_s1453 (by rcases hkl with rfl | rfl <;> rcases hkv with rfl | rfl | rfl <;> decide +kernel)
        refine mw_isub 36 rfl (-999) (999) dX0_comeAndDry_35 r_x1449 r_x1452 (by decide) (fun x1455 t1456 r_x1455 => ?_)
        refine mw_istore 38 rfl [(5, .int x1455), (4, .int x1446), (0, .ref (G.2.2.2 19)), (1, .ref (G.2.2.2 kv)), (2, .ref (G.2.2.2 kl)), (3, .int x1403)] dX0_comeAndDry_36  (by decide) rfl ?_
        refine mw_aload_n 39 rfl 3 dX0_comeAndDry_38 rfl rfl ?_
        refine mw_geta 42 rfl dX0_comeAndDry_39 gf_X0_46 (ly_V hkv) (kv + 3) (rf_V_2 hI_s1453 hkv) ?_
        refine mw_iload_n 43 rfl 5 dX0_comeAndDry_42 rfl rfl ?_
        refine mw_aload_n 44 rfl 3 dX0_comeAndDry_43 rfl rfl ?_
        refine mw_geta 47 rfl dX0_comeAndDry_44 gf_X0_46 (ly_V hkv) (kv + 3) (rf_V_2 hI_s1453 hkv) ?_
        refine mw_iload_n 48 rfl 5 dX0_comeAndDry_47 rfl rfl ?_
        refine mw_iald 49 rfl dX0_comeAndDry_48 (ly_V3 hkv) r_x1403 (by decide) (fun x1457 t1458 => ?_)
        refine mw_iload 51 rfl 1 dX0_comeAndDry_49  rfl ?_
        refine mw_iadd_u 52 rfl dX0_comeAndDry_51 (fun x1459 t1460 => ?_)
        refine mw_sipush (v := 9999) 55 rfl dX0_comeAndDry_52 (by decide) ?_
        refine mw_callSi [.int x1459, .int (9999)] [.int x1403, .ref (G.2.2.2 (kv + 3))] 58 rfl dX0_comeAndDry_55 ml_X0_49 mc_X9_bounded mk_X9_bounded (w_X9_bounded l G (d + 1) ⟨by omega, by omega⟩ hI_s1453 x1459 (9999)) rfl rfl (Nat.le_of_ble_eq_true rfl) (mh_rok (by omega) (by decide)) (fun x1461 s1462 q1463 => ?_)
        obtain ⟨r_x1461, e0_s1462, rfl⟩ := q1463
        have r_x1461 : mh_r x1461 (0) (9999) := ⟨(r_x1461).1, by have := e0_s1462 (by have := (rc_9999).1; omega); have := (rc_9999).2; omega⟩
        refine mw_iast 59 rfl dX0_comeAndDry_58 (ly_V3 hkv) r_x1403 (by decide) (fun s1464 t1465 => ?_)
        have hI_s1464 : mh_I B D s1464 := by rw [t1465]; exact wr_V3 hI_s1453 hkv
        have hF_s1464 : mh_F (S_X0_comeAndDry kv kl) s0 s1464 := by rw [t1465]; exact mh_F_pI hF_s1453 (mh_si 2 rfl)
        refine mw_aload_n 60 rfl 3 dX0_comeAndDry_59 rfl rfl ?_
        refine mw_geta 63 rfl dX0_comeAndDry_60 gf_X0_53 (ly_V hkv) (kv + 4) (rf_V_3 hI_s1464 hkv) ?_
        refine mw_iload_n 64 rfl 5 dX0_comeAndDry_63 rfl rfl ?_
        refine mw_aload_n 65 rfl 3 dX0_comeAndDry_64 rfl rfl ?_
        refine mw_geta 68 rfl dX0_comeAndDry_65 gf_X0_53 (ly_V hkv) (kv + 4) (rf_V_3 hI_s1464 hkv) ?_
        refine mw_iload_n 69 rfl 5 dX0_comeAndDry_68 rfl rfl ?_
        refine mw_iald 70 rfl dX0_comeAndDry_69 (ly_V4 hkv) r_x1403 (by decide) (fun x1466 t1467 => ?_)
        refine mw_iload 72 rfl 0 dX0_comeAndDry_70  rfl ?_
        refine mw_iadd_u 73 rfl dX0_comeAndDry_72 (fun x1468 t1469 => ?_)
        refine mw_sipush (v := 9999) 76 rfl dX0_comeAndDry_73 (by decide) ?_
        refine mw_callSi [.int x1468, .int (9999)] [.int x1403, .ref (G.2.2.2 (kv + 4))] 79 rfl dX0_comeAndDry_76 ml_X0_49 mc_X9_bounded mk_X9_bounded (w_X9_bounded l G (d + 1) ⟨by omega, by omega⟩ hI_s1464 x1468 (9999)) rfl rfl (Nat.le_of_ble_eq_true rfl) (mh_rok (by omega) (by decide)) (fun x1470 s1471 q1472 => ?_)
        obtain ⟨r_x1470, e0_s1471, rfl⟩ := q1472
        have r_x1470 : mh_r x1470 (0) (9999) := ⟨(r_x1470).1, by have := e0_s1471 (by have := (rc_9999).1; omega); have := (rc_9999).2; omega⟩
        refine mw_iast 80 rfl dX0_comeAndDry_79 (ly_V4 hkv) r_x1403 (by decide) (fun s1473 t1474 => ?_)
        have hI_s1473 : mh_I B D s1473 := by rw [t1474]; exact wr_V4 hI_s1464 hkv
        have hF_s1473 : mh_F (S_X0_comeAndDry kv kl) s0 s1473 := by rw [t1474]; exact mh_F_pI hF_s1464 (mh_si 3 rfl)
        refine mw_iincR (k := 5) (1) (144) 83 rfl (fun z => [(3, .int z), (5, .int x1455), (4, .int x1446), (0, .ref (G.2.2.2 19)), (1, .ref (G.2.2.2 kv)), (2, .ref (G.2.2.2 kl))]) dX0_comeAndDry_80 rfl (by decide) (fun _ => rfl) r_x1403 (by decide) (by decide) (fun x1475 t1476 r_x1475 => ?_)
        refine mw_goto 86 rfl 2 dX0_comeAndDry_83 (by decide) ?_
        exact mw_lv [3, 4, 5, 0] rfl (ihn1 x1475 s1473 (mh_r_wk r_x1475 (by decide)) hI_s1473 hF_s1473 (by have : x1475.toInt = x1403.toInt + (1) := t1476; omega))
  exact mw_lv [1, 2, 3, 0] rfl (L2 145 (0) s0 (mh_r_wk rc_0 (by decide)) hI0 hF0 (by have := (rc_0).1; have := (rc_0).2; omega))

def P_X0_lowestBeside (B D : Int) (s0 : mh_H) (p1 : Int32) : Int32 → mh_H → Prop := fun z s => mh_r z (0) (143) ∧ s0 = s
set_option maxRecDepth 100000 in
set_option maxHeartbeats 4000000 in
theorem w_X0_lowestBeside (l : Launch) (G : mh_G) (d : Nat) {B D : Int} (hB : B ≤ 2000000000 ∧ D ≤ 2000000000) {s0 : mh_H} (hI0 : mh_I B D s0) (p1 : Int32) (r_p1 : mh_r p1 (0) (143)) : mh_Mi l G (d + 0) mM_X0_lowestBeside [.ref (G.2.2.2 19), .int p1] s0 (P_X0_lowestBeside B D s0 p1) := by
  refine mh_enter (lv := [(0, .ref (G.2.2.2 19)), (1, .int p1)]) (by decide) rfl (Nat.le_of_ble_eq_true rfl) ?_
  refine mw_iload_n 1 rfl 1 dX0_lowestBeside_0 rfl rfl ?_
  refine mw_bipush (v := 12) 3 rfl dX0_lowestBeside_1 (by decide) ?_
  refine mw_irem 4 rfl (0) (11) dX0_lowestBeside_3 r_p1 rc_12 (by decide) (fun x47 t48 r_x47 => ?_)
  have g49 : x47.toInt = p1.toInt % 12 := mh_rme t48 (by have := (r_p1).1; omega) (by decide)
  refine mw_istore_n 5 rfl [(2, .int x47), (0, .ref (G.2.2.2 19)), (1, .int p1)] dX0_lowestBeside_4 rfl (by decide) rfl ?_
  refine mw_iload_n 6 rfl 2 dX0_lowestBeside_5 rfl rfl ?_
  refine mw_istore_n 7 rfl [(3, .int p1), (2, .int x47), (0, .ref (G.2.2.2 19)), (1, .int p1)] dX0_lowestBeside_6 rfl (by decide) rfl ?_
  refine mw_iload_n 8 rfl 3 dX0_lowestBeside_7 rfl rfl ?_
  refine mw_bipush (v := 12) 10 rfl dX0_lowestBeside_8 (by decide) ?_
  have J36 : ∀ (x60 : Int32), mh_r x60 (0) (143) → mh_W G (mh_XM l G (d + 0) (mh_Qi (P_X0_lowestBeside B D s0 p1))) mM_X0_lowestBeside 36 [(0, .ref (G.2.2.2 19)), (1, .int p1), (2, .int x47), (3, .int x60)] [] s0 := by
    intro x60 r_x60
    refine mw_iload_n 37 rfl 2 dX0_lowestBeside_36 rfl rfl ?_
    have J61 : ∀ (x103 : Int32), mh_r x103 (0) (143) → mh_W G (mh_XM l G (d + 0) (mh_Qi (P_X0_lowestBeside B D s0 p1))) mM_X0_lowestBeside 61 [(0, .ref (G.2.2.2 19)), (1, .int p1), (2, .int x47), (3, .int x103)] [] s0 := by
      intro x103 r_x103
      refine mw_iload_n 62 rfl 2 dX0_lowestBeside_61 rfl rfl ?_
      refine mw_bipush (v := 11) 64 rfl dX0_lowestBeside_62 (by decide) ?_
      have J88 : ∀ (x135 : Int32), mh_r x135 (0) (143) → mh_W G (mh_XM l G (d + 0) (mh_Qi (P_X0_lowestBeside B D s0 p1))) mM_X0_lowestBeside 88 [(0, .ref (G.2.2.2 19)), (1, .int p1), (2, .int x47), (3, .int x135)] [] s0 := by
        intro x135 r_x135
        refine mw_iload_n 89 rfl 1 dX0_lowestBeside_88 rfl rfl ?_
        refine mw_sipush (v := 132) 92 rfl dX0_lowestBeside_89 (by decide) ?_
        refine mw_icmp_ge 95 rfl 118 dX0_lowestBeside_92 (by decide) (fun c146 => ?_) (fun c146 => ?_)
        · skip
          have r_p1 : mh_r p1 (132) (143) := mh_le2 c146 (mh_rc (x := 132) (n := 132) (by decide)) r_p1 (132) (by decide)
          refine mw_iload_n 119 rfl 3 dX0_lowestBeside_118 rfl rfl ?_
          exact mw_iret dX0_lowestBeside_119 rfl ⟨x135, rfl, ⟨r_x135, rfl⟩⟩
        · skip
          have r_p1 : mh_r p1 (0) (131) := mh_lt1 c146 r_p1 (mh_rc (x := 132) (n := 132) (by decide)) (131) (by decide)
          refine mw_aload_n 96 rfl 0 dX0_lowestBeside_95 rfl rfl ?_
          refine mw_geta 99 rfl dX0_lowestBeside_96 gf_X0_9 rfl 20 (mh_rf hI0 26 rfl) ?_
          refine mw_iload_n 100 rfl 1 dX0_lowestBeside_99 rfl rfl ?_
          refine mw_bipush (v := 12) 102 rfl dX0_lowestBeside_100 (by decide) ?_
          refine mw_iadd 103 rfl (12) (143) dX0_lowestBeside_102 r_p1 rc_12 (by decide) (fun x147 t148 r_x147 => ?_)
          refine mw_iald 104 rfl dX0_lowestBeside_103 rfl r_x147 (by decide) (fun x149 t150 => ?_)
          refine mw_aload_n 105 rfl 0 dX0_lowestBeside_104 rfl rfl ?_
          refine mw_geta 108 rfl dX0_lowestBeside_105 gf_X0_9 rfl 20 (mh_rf hI0 26 rfl) ?_
          refine mw_iload_n 109 rfl 3 dX0_lowestBeside_108 rfl rfl ?_
          refine mw_iald 110 rfl dX0_lowestBeside_109 rfl r_x135 (by decide) (fun x151 t152 => ?_)
          refine mw_icmp_ge 113 rfl 118 dX0_lowestBeside_110 (by decide) (fun c153 => ?_) (fun c153 => ?_)
          · skip
            refine mw_iload_n 119 rfl 3 dX0_lowestBeside_118 rfl rfl ?_
            exact mw_iret dX0_lowestBeside_119 rfl ⟨x135, rfl, ⟨r_x135, rfl⟩⟩
          · skip
            have r_x149 : mh_r x149 (-2147483648) (2147483646) := mh_lt1 c153 (mh_r_full x149) (mh_r_full x151) (2147483646) (by decide)
            have r_x151 : mh_r x151 (-2147483647) (2147483647) := mh_lt2 c153 r_x149 (mh_r_full x151) (-2147483647) (by decide)
            refine mw_iload_n 114 rfl 1 dX0_lowestBeside_113 rfl rfl ?_
            refine mw_bipush (v := 12) 116 rfl dX0_lowestBeside_114 (by decide) ?_
            refine mw_iadd 117 rfl (12) (143) dX0_lowestBeside_116 r_p1 rc_12 (by decide) (fun x154 t155 r_x154 => ?_)
            obtain rfl : x147 = x154 := Int32.toInt_inj.mp (t148.trans t155.symm)
            refine mw_istore_n 118 rfl [(3, .int x147), (0, .ref (G.2.2.2 19)), (1, .int p1), (2, .int x47)] dX0_lowestBeside_117 rfl (by decide) rfl ?_
            refine mw_iload_n 119 rfl 0 dX0_lowestBeside_118 rfl rfl ?_
            exact mw_iret dX0_lowestBeside_119 rfl ⟨x147, rfl, ⟨(mh_r_wk r_x147 (by decide)), rfl⟩⟩
      refine mw_icmp_ge 67 rfl 88 dX0_lowestBeside_64 (by decide) (fun c156 => ?_) (fun c156 => ?_)
      · skip
        have r_x47 : mh_r x47 (11) (11) := mh_le2 c156 rc_11 r_x47 (11) (by decide)
        have r_p1 : mh_r p1 (11) (143) := by have := g49; have := (r_p1).1; have := (r_p1).2; have := (r_x47).1; have := (r_x47).2; exact ⟨by omega, by omega⟩
        exact mw_lv [0, 1, 2, 3] rfl (J88 x103 r_x103)
      · skip
        have r_x47 : mh_r x47 (0) (10) := mh_lt1 c156 r_x47 rc_11 (10) (by decide)
        have r_p1 : mh_r p1 (0) (142) := by have := g49; have := (r_p1).1; have := (r_p1).2; have := (r_x47).1; have := (r_x47).2; exact ⟨by omega, by omega⟩
        refine mw_aload_n 68 rfl 0 dX0_lowestBeside_67 rfl rfl ?_
        refine mw_geta 71 rfl dX0_lowestBeside_68 gf_X0_9 rfl 20 (mh_rf hI0 26 rfl) ?_
        refine mw_iload_n 72 rfl 1 dX0_lowestBeside_71 rfl rfl ?_
        refine mw_iconst (v := 1) 73 rfl dX0_lowestBeside_72 (by decide) ?_
        refine mw_iadd 74 rfl (1) (143) dX0_lowestBeside_73 r_p1 rc_1 (by decide) (fun x157 t158 r_x157 => ?_)
        refine mw_iald 75 rfl dX0_lowestBeside_74 rfl r_x157 (by decide) (fun x159 t160 => ?_)
        refine mw_aload_n 76 rfl 0 dX0_lowestBeside_75 rfl rfl ?_
        refine mw_geta 79 rfl dX0_lowestBeside_76 gf_X0_9 rfl 20 (mh_rf hI0 26 rfl) ?_
        refine mw_iload_n 80 rfl 3 dX0_lowestBeside_79 rfl rfl ?_
        refine mw_iald 81 rfl dX0_lowestBeside_80 rfl r_x103 (by decide) (fun x161 t162 => ?_)
        refine mw_icmp_ge 84 rfl 88 dX0_lowestBeside_81 (by decide) (fun c163 => ?_) (fun c163 => ?_)
        · skip
          exact mw_lv [0, 1, 2, 3] rfl (J88 x103 r_x103)
        · skip
          have r_x159 : mh_r x159 (-2147483648) (2147483646) := mh_lt1 c163 (mh_r_full x159) (mh_r_full x161) (2147483646) (by decide)
          have r_x161 : mh_r x161 (-2147483647) (2147483647) := mh_lt2 c163 r_x159 (mh_r_full x161) (-2147483647) (by decide)
          refine mw_iload_n 85 rfl 1 dX0_lowestBeside_84 rfl rfl ?_
          refine mw_iconst (v := 1) 86 rfl dX0_lowestBeside_85 (by decide) ?_
          refine mw_iadd 87 rfl (1) (143) dX0_lowestBeside_86 r_p1 rc_1 (by decide) (fun x164 t165 r_x164 => ?_)
          obtain rfl : x157 = x164 := Int32.toInt_inj.mp (t158.trans t165.symm)
          refine mw_istore_n 88 rfl [(3, .int x157), (0, .ref (G.2.2.2 19)), (1, .int p1), (2, .int x47)] dX0_lowestBeside_87 rfl (by decide) rfl ?_
          exact mw_lv [1, 2, 3, 0] rfl (J88 x157 (mh_r_wk r_x157 (by decide)))
    refine mw_if_le 40 rfl 61 dX0_lowestBeside_37 (by decide) (fun c166 => ?_) (fun c166 => ?_)
    · skip
      have r_x47 : mh_r x47 (0) (0) := mh_le1 (show x47.toInt ≤ (0 : Int32).toInt from c166) r_x47 rc_0 (0) (by decide)
      have r_p1 : mh_r p1 (0) (132) := by have := g49; have := (r_p1).1; have := (r_p1).2; have := (r_x47).1; have := (r_x47).2; exact ⟨by omega, by omega⟩
      exact mw_lv [0, 1, 2, 3] rfl (J61 x60 r_x60)
    · skip
      have r_x47 : mh_r x47 (1) (11) := mh_lt2 (show (0 : Int32).toInt < x47.toInt from c166) rc_0 r_x47 (1) (by decide)
      have r_p1 : mh_r p1 (1) (143) := by have := g49; have := (r_p1).1; have := (r_p1).2; have := (r_x47).1; have := (r_x47).2; exact ⟨by omega, by omega⟩
      refine mw_aload_n 41 rfl 0 dX0_lowestBeside_40 rfl rfl ?_
      refine mw_geta 44 rfl dX0_lowestBeside_41 gf_X0_9 rfl 20 (mh_rf hI0 26 rfl) ?_
      refine mw_iload_n 45 rfl 1 dX0_lowestBeside_44 rfl rfl ?_
      refine mw_iconst (v := 1) 46 rfl dX0_lowestBeside_45 (by decide) ?_
      refine mw_isub 47 rfl (0) (142) dX0_lowestBeside_46 r_p1 rc_1 (by decide) (fun x167 t168 r_x167 => ?_)
      refine mw_iald 48 rfl dX0_lowestBeside_47 rfl r_x167 (by decide) (fun x169 t170 => ?_)
      refine mw_aload_n 49 rfl 0 dX0_lowestBeside_48 rfl rfl ?_
      refine mw_geta 52 rfl dX0_lowestBeside_49 gf_X0_9 rfl 20 (mh_rf hI0 26 rfl) ?_
      refine mw_iload_n 53 rfl 3 dX0_lowestBeside_52 rfl rfl ?_
      refine mw_iald 54 rfl dX0_lowestBeside_53 rfl r_x60 (by decide) (fun x171 t172 => ?_)
      refine mw_icmp_ge 57 rfl 61 dX0_lowestBeside_54 (by decide) (fun c173 => ?_) (fun c173 => ?_)
      · skip
        exact mw_lv [0, 1, 2, 3] rfl (J61 x60 r_x60)
      · skip
        have r_x169 : mh_r x169 (-2147483648) (2147483646) := mh_lt1 c173 (mh_r_full x169) (mh_r_full x171) (2147483646) (by decide)
        have r_x171 : mh_r x171 (-2147483647) (2147483647) := mh_lt2 c173 r_x169 (mh_r_full x171) (-2147483647) (by decide)
        refine mw_iload_n 58 rfl 1 dX0_lowestBeside_57 rfl rfl ?_
        refine mw_iconst (v := 1) 59 rfl dX0_lowestBeside_58 (by decide) ?_
        refine mw_isub 60 rfl (0) (142) dX0_lowestBeside_59 r_p1 rc_1 (by decide) (fun x174 t175 r_x174 => ?_)
        obtain rfl : x167 = x174 := Int32.toInt_inj.mp (t168.trans t175.symm)
        refine mw_istore_n 61 rfl [(3, .int x167), (0, .ref (G.2.2.2 19)), (1, .int p1), (2, .int x47)] dX0_lowestBeside_60 rfl (by decide) rfl ?_
        exact mw_lv [1, 2, 3, 0] rfl (J61 x167 (mh_r_wk r_x167 (by decide)))
  refine mw_icmp_lt 13 rfl 36 dX0_lowestBeside_10 (by decide) (fun c176 => ?_) (fun c176 => ?_)
  · skip
    have r_p1 : mh_r p1 (0) (11) := mh_lt1 c176 r_p1 rc_12 (11) (by decide)
    exact mw_lv [2, 3, 1, 0] rfl (J36 p1 (mh_r_wk r_p1 (by decide)))
  · skip
    have r_p1 : mh_r p1 (12) (143) := mh_le2 c176 rc_12 r_p1 (12) (by decide)
    refine mw_aload_n 14 rfl 2 dX0_lowestBeside_13 rfl rfl ?_
    refine mw_geta 17 rfl dX0_lowestBeside_14 gf_X0_9 rfl 20 (mh_rf hI0 26 rfl) ?_
    refine mw_iload_n 18 rfl 3 dX0_lowestBeside_17 rfl rfl ?_
    refine mw_bipush (v := 12) 20 rfl dX0_lowestBeside_18 (by decide) ?_
    refine mw_isub 21 rfl (0) (131) dX0_lowestBeside_20 r_p1 rc_12 (by decide) (fun x177 t178 r_x177 => ?_)
    refine mw_iald 22 rfl dX0_lowestBeside_21 rfl r_x177 (by decide) (fun x179 t180 => ?_)
    refine mw_aload_n 23 rfl 2 dX0_lowestBeside_22 rfl rfl ?_
    refine mw_geta 26 rfl dX0_lowestBeside_23 gf_X0_9 rfl 20 (mh_rf hI0 26 rfl) ?_
    refine mw_iload_n 27 rfl 0 dX0_lowestBeside_26 rfl rfl ?_
    refine mw_iald 28 rfl dX0_lowestBeside_27 rfl r_p1 (by decide) (fun x181 t182 => ?_)
    refine mw_icmp_ge 31 rfl 36 dX0_lowestBeside_28 (by decide) (fun c183 => ?_) (fun c183 => ?_)
    · skip
      exact mw_lv [2, 3, 1, 0] rfl (J36 p1 (mh_r_wk r_p1 (by decide)))
    · skip
      have r_x179 : mh_r x179 (-2147483648) (2147483646) := mh_lt1 c183 (mh_r_full x179) (mh_r_full x181) (2147483646) (by decide)
      have r_x181 : mh_r x181 (-2147483647) (2147483647) := mh_lt2 c183 r_x179 (mh_r_full x181) (-2147483647) (by decide)
      refine mw_iload_n 32 rfl 3 dX0_lowestBeside_31 rfl rfl ?_
      refine mw_bipush (v := 12) 34 rfl dX0_lowestBeside_32 (by decide) ?_
      refine mw_isub 35 rfl (0) (131) dX0_lowestBeside_34 r_p1 rc_12 (by decide) (fun x184 t185 r_x184 => ?_)
      obtain rfl : x177 = x184 := Int32.toInt_inj.mp (t178.trans t185.symm)
      refine mw_istore_n 36 rfl [(3, .int x177), (2, .int x47), (0, .ref (G.2.2.2 19)), (1, .int p1)] dX0_lowestBeside_35 rfl (by decide) rfl ?_
      exact mw_lv [2, 3, 1, 0] rfl (J36 x177 (mh_r_wk r_x177 (by decide)))

def S_X0_runDown (kv : Nat) : List (Nat × Nat) := [(20, 9999), (21, 9999), (kv, 6), (kv + 3, 9999)]
def P_X0_runDown (B D : Int) (s0 : mh_H) (kv : Nat) : mh_H → Prop := fun s => mh_I B D s ∧ mh_F (S_X0_runDown kv) s0 s
set_option maxRecDepth 100000 in
set_option maxHeartbeats 4000000 in
theorem w_X0_runDown (l : Launch) (G : mh_G) (d : Nat) {B D : Int} (hB : B ≤ 1980000000 ∧ D ≤ 1980000000) {s0 : mh_H} (hI0 : mh_I B D s0) (kv : Nat) (hkv : mh_isV kv) : mh_Mv l G (d + 1) mM_X0_runDown [.ref (G.2.2.2 19), .ref (G.2.2.2 kv)] s0 (P_X0_runDown B D s0 kv) := by
  refine mh_enter (lv := [(0, .ref (G.2.2.2 19)), (1, .ref (G.2.2.2 kv))]) (by decide) rfl (Nat.le_of_ble_eq_true rfl) ?_
  have hF0 : mh_F (S_X0_runDown kv) s0 s0 := mh_F_rf
  refine mw_iconst (v := 0) 1 rfl dX0_runDown_0 (by decide) ?_
  refine mw_istore_n 2 rfl [(2, .int (0)), (0, .ref (G.2.2.2 19)), (1, .ref (G.2.2.2 kv))] dX0_runDown_1 rfl (by decide) rfl ?_
  have L2 : ∀ n1 : Nat, ∀ (x1225 : Int32) (s1226 : mh_H), mh_r x1225 (0) (144) → mh_I B D s1226 → mh_F (S_X0_runDown kv) s0 s1226 → (144) - x1225.toInt < (n1 : Int) → mh_W G (mh_XM l G (d + 1) (mh_Qv (P_X0_runDown B D s0 kv))) mM_X0_runDown 2 [(0, .ref (G.2.2.2 19)), (1, .ref (G.2.2.2 kv)), (2, .int x1225)] [] s1226 := by
    intro n1
    induction n1 with
    | zero =>
      intro x1225 s1226 r_x1225 hI_s1226 hF_s1226 hmn1
      exact absurd hmn1 (by have := r_x1225.1; have := r_x1225.2; omega)
    | succ n1 ihn1 =>
      intro x1225 s1226 r_x1225 hI_s1226 hF_s1226 hmn1
      refine mw_iload_n 3 rfl 2 dX0_runDown_2 rfl rfl ?_
      refine mw_sipush (v := 144) 6 rfl dX0_runDown_3 (by decide) ?_
      refine mw_icmp_ge 9 rfl 38 dX0_runDown_6 (by decide) (fun c1241 => ?_) (fun c1241 => ?_)
      · skip
        have r_x1225 : mh_r x1225 (144) (144) := mh_le2 c1241 rc_144 r_x1225 (144) (by decide)
        refine mw_iconst (v := 0) 39 rfl dX0_runDown_38 (by decide) ?_
        refine mw_istore_n 40 rfl [(2, .int (0)), (0, .ref (G.2.2.2 19)), (1, .ref (G.2.2.2 kv))] dX0_runDown_39 rfl (by decide) rfl ?_
        have L40 : ∀ n2 : Nat, ∀ (x1825 : Int32) (s1826 : mh_H), mh_r x1825 (0) (144) → mh_I B D s1826 → mh_F (S_X0_runDown kv) s0 s1826 → (144) - x1825.toInt < (n2 : Int) → mh_W G (mh_XM l G (d + 1) (mh_Qv (P_X0_runDown B D s0 kv))) mM_X0_runDown 40 [(0, .ref (G.2.2.2 19)), (1, .ref (G.2.2.2 kv)), (2, .int x1825)] [] s1826 := by
          intro n2
          induction n2 with
          | zero =>
            intro x1825 s1826 r_x1825 hI_s1826 hF_s1826 hmn2
            exact absurd hmn2 (by have := r_x1825.1; have := r_x1825.2; omega)
          | succ n2 ihn2 =>
            intro x1825 s1826 r_x1825 hI_s1826 hF_s1826 hmn2
            refine mw_iload_n 41 rfl 2 dX0_runDown_40 rfl rfl ?_
            refine mw_sipush (v := 144) 44 rfl dX0_runDown_41 (by decide) ?_
            refine mw_icmp_ge 47 rfl 131 dX0_runDown_44 (by decide) (fun c1872 => ?_) (fun c1872 => ?_)
            · skip
              have r_x1825 : mh_r x1825 (144) (144) := mh_le2 c1872 rc_144 r_x1825 (144) (by decide)
              refine mw_iconst (v := 0) 132 rfl dX0_runDown_131 (by decide) ?_
              refine mw_istore_n 133 rfl [(2, .int (0)), (0, .ref (G.2.2.2 19)), (1, .ref (G.2.2.2 kv))] dX0_runDown_132 rfl (by decide) rfl ?_
              have L133 : ∀ n3 : Nat, ∀ (x2014 : Int32) (s2015 : mh_H), mh_r x2014 (0) (144) → mh_I B D s2015 → mh_F (S_X0_runDown kv) s0 s2015 → (144) - x2014.toInt < (n3 : Int) → mh_W G (mh_XM l G (d + 1) (mh_Qv (P_X0_runDown B D s0 kv))) mM_X0_runDown 133 [(0, .ref (G.2.2.2 19)), (1, .ref (G.2.2.2 kv)), (2, .int x2014)] [] s2015 := by
                intro n3
                induction n3 with
                | zero =>
                  intro x2014 s2015 r_x2014 hI_s2015 hF_s2015 hmn3
                  exact absurd hmn3 (by have := r_x2014.1; have := r_x2014.2; omega)
                | succ n3 ihn3 =>
                  intro x2014 s2015 r_x2014 hI_s2015 hF_s2015 hmn3
                  refine mw_iload_n 134 rfl 2 dX0_runDown_133 rfl rfl ?_
                  refine mw_sipush (v := 144) 137 rfl dX0_runDown_134 (by decide) ?_
                  refine mw_icmp_ge 140 rfl 164 dX0_runDown_137 (by decide) (fun c2027 => ?_) (fun c2027 => ?_)
                  · skip
                    have r_x2014 : mh_r x2014 (144) (144) := mh_le2 c2027 rc_144 r_x2014 (144) (by decide)
                    exact mw_vret dX0_runDown_164 rfl ⟨rfl, ⟨hI_s2015, hF_s2015⟩⟩
                  · skip
                    have r_x2014 : mh_r x2014 (0) (143) := mh_lt1 c2027 r_x2014 rc_144 (143) (by decide)
                    refine mw_aload_n 141 rfl 1 dX0_runDown_140 rfl rfl ?_
                    refine mw_geta 144 rfl dX0_runDown_141 gf_X0_46 (ly_V hkv) (kv + 3) (rf_V_2 hI_s2015 hkv) ?_
                    refine mw_iload_n 145 rfl 2 dX0_runDown_144 rfl rfl ?_
                    refine mw_aload_n 146 rfl 0 dX0_runDown_145 rfl rfl ?_
                    refine mw_geta 149 rfl dX0_runDown_146 gf_X0_15 rfl 21 (mh_rf hI_s2015 27 rfl) ?_
                    refine mw_iload_n 150 rfl 2 dX0_runDown_149 rfl rfl ?_
                    refine mw_iald 151 rfl dX0_runDown_150 rfl r_x2014 (by decide) (fun x2028 t2029 => ?_)
                    refine mw_sipush (v := 9999) 154 rfl dX0_runDown_151 (by decide) ?_
                    refine mw_mmin (-2147483648) (9999) 157 rfl dX0_runDown_154 ml_X0_62 (mh_r_full x2028) rc_9999 (by decide) (mh_mr (D := d + 1) (by omega) (Nat.le_of_ble_eq_true rfl)) (fun x2030 t2031 r_x2030 => ?_)
                    refine mw_iast 158 rfl dX0_runDown_157 (ly_V3 hkv) r_x2014 (by decide) (fun s2032 t2033 => ?_)
                    have hI_s2032 : mh_I B D s2032 := by rw [t2033]; exact wr_V3 hI_s2015 hkv
                    have hF_s2032 : mh_F (S_X0_runDown kv) s0 s2032 := by rw [t2033]; exact mh_F_pI hF_s2015 (mh_si 3 rfl)
                    refine mw_iincR (k := 2) (1) (144) 161 rfl (fun z => [(2, .int z), (0, .ref (G.2.2.2 19)), (1, .ref (G.2.2.2 kv))]) dX0_runDown_158 rfl (by decide) (fun _ => rfl) r_x2014 (by decide) (by decide) (fun x2034 t2035 r_x2034 => ?_)
                    refine mw_goto 164 rfl 133 dX0_runDown_161 (by decide) ?_
                    exact mw_lv [1, 2, 0] rfl (ihn3 x2034 s2032 (mh_r_wk r_x2034 (by decide)) hI_s2032 hF_s2032 (by have : x2034.toInt = x2014.toInt + (1) := t2035; omega))
              exact mw_lv [1, 2, 0] rfl (L133 145 (0) s1826 (mh_r_wk rc_0 (by decide)) hI_s1826 hF_s1826 (by have := (rc_0).1; have := (rc_0).2; omega))
            · skip
              have r_x1825 : mh_r x1825 (0) (143) := mh_lt1 c1872 r_x1825 rc_144 (143) (by decide)
              refine mw_aload_n 48 rfl 0 dX0_runDown_47 rfl rfl ?_
              refine mw_iload_n 49 rfl 2 dX0_runDown_48 rfl rfl ?_
              refine mw_callVi [.int x1825] [] 52 rfl dX0_runDown_49 ml_X0_59 mc_X0_lowestBeside mk_X0_lowestBeside rfl rfl (by decide) (w_X0_lowestBeside l G (d + 0) ⟨by omega, by omega⟩ hI_s1826 x1825 r_x1825) rfl rfl (Nat.le_of_ble_eq_true rfl) (mh_rok (by omega) (by decide)) (fun x2036 s2037 q2038 => ?_)
              obtain ⟨r_x2036, rfl⟩ := q2038
              refine mw_istore_n 53 rfl [(3, .int x2036), (0, .ref (G.2.2.2 19)), (1, .ref (G.2.2.2 kv)), (2, .int x1825)] dX0_runDown_52 rfl (by decide) rfl ?_
              refine mw_aload_n 54 rfl 1 dX0_runDown_53 rfl rfl ?_
              refine mw_geta 57 rfl dX0_runDown_54 gf_X0_9 rfl 20 (mh_rf hI_s1826 26 rfl) ?_
              refine mw_iload_n 58 rfl 3 dX0_runDown_57 rfl rfl ?_
              refine mw_iald 59 rfl dX0_runDown_58 rfl r_x1825 (by decide) (fun x2039 t2040 => ?_)
              refine mw_aload_n 60 rfl 1 dX0_runDown_59 rfl rfl ?_
              refine mw_geta 63 rfl dX0_runDown_60 gf_X0_9 rfl 20 (mh_rf hI_s1826 26 rfl) ?_
              refine mw_iload_n 64 rfl 0 dX0_runDown_63 rfl rfl ?_
              refine mw_iald 65 rfl dX0_runDown_64 rfl r_x2036 (by decide) (fun x2041 t2042 => ?_)
              refine mw_isub_u 66 rfl dX0_runDown_65 (fun x2043 t2044 => ?_)
              refine mw_istore 68 rfl [(4, .int x2043), (3, .int x2036), (0, .ref (G.2.2.2 19)), (1, .ref (G.2.2.2 kv)), (2, .int x1825)] dX0_runDown_66  (by decide) rfl ?_
              refine mw_iload 70 rfl 0 dX0_runDown_68  rfl ?_
              have J125 : ∀  (s2075 : mh_H), mh_I B D s2075 → mh_F (S_X0_runDown kv) s0 s2075 → mh_W G (mh_XM l G (d + 1) (mh_Qv (P_X0_runDown B D s0 kv))) mM_X0_runDown 125 [(0, .ref (G.2.2.2 19)), (1, .ref (G.2.2.2 kv)), (2, .int x1825), (3, .int x2036), (4, .int x2043)] [] s2075 := by
                intro s2075 hI_s2075 hF_s2075
                refine mw_iincR (k := 2) (1) (144) 128 rfl (fun z => [(2, .int z), (0, .ref (G.2.2.2 19)), (1, .ref (G.2.2.2 kv)), (3, .int x2036), (4, .int x2043)]) dX0_runDown_125 rfl (by decide) (fun _ => rfl) r_x1825 (by decide) (by decide) (fun x2078 t2079 r_x2078 => ?_)
                refine mw_goto 131 rfl 40 dX0_runDown_128 (by decide) ?_
                exact mw_lv [1, 2, 0] rfl (ihn2 x2078 s2075 (mh_r_wk r_x2078 (by decide)) hI_s2075 hF_s2075 (by have : x2078.toInt = x1825.toInt + (1) := t2079; omega))
              refine mw_if_le 73 rfl 125 dX0_runDown_70 (by decide) (fun c2080 => ?_) (fun c2080 => ?_)
              · skip
                have r_x2043 : mh_r x2043 (-2147483648) (0) := mh_le1 (show x2043.toInt ≤ (0 : Int32).toInt from c2080) (mh_r_full x2043) rc_0 (0) (by decide)
                exact mw_lv [2, 3, 4, 1, 0] rfl (J125 s1826 hI_s1826 hF_s1826)
              · skip
                have r_x2043 : mh_r x2043 (1) (2147483647) := mh_lt2 (show (0 : Int32).toInt < x2043.toInt from c2080) rc_0 (mh_r_full x2043) (1) (by decide)
                refine mw_aload_n 74 rfl 3 dX0_runDown_73 rfl rfl ?_
                refine mw_geta 77 rfl dX0_runDown_74 gf_X0_46 (ly_V hkv) (kv + 3) (rf_V_2 hI_s1826 hkv) ?_
                refine mw_iload_n 78 rfl 4 dX0_runDown_77 rfl rfl ?_
                refine mw_iald 79 rfl dX0_runDown_78 (ly_V3 hkv) r_x1825 (by decide) (fun x2081 t2082 => ?_)
                refine mw_iconst (v := 3) 80 rfl dX0_runDown_79 (by decide) ?_
                refine mw_iadd_u 81 rfl dX0_runDown_80 (fun x2083 t2084 => ?_)
                refine mw_iconst (v := 4) 82 rfl dX0_runDown_81 (by decide) ?_
                refine mw_idiv 83 rfl (-2147483648) (2147483647) dX0_runDown_82 (mh_r_full x2083) rc_4 (by decide) (fun x2085 t2086 r_x2085 => ?_)
                have r_x2085 : mh_r x2085 (-536870912) (536870911) := mh_dvc t2086 (mh_r_full x2083) (by decide) (by decide)
                refine mw_iload 85 rfl 0 dX0_runDown_83  rfl ?_
                refine mw_iconst (v := 2) 86 rfl dX0_runDown_85 (by decide) ?_
                refine mw_idiv 87 rfl (0) (2147483647) dX0_runDown_86 r_x2043 rc_2 (by decide) (fun x2087 t2088 r_x2087 => ?_)
                have r_x2087 : mh_r x2087 (0) (1073741823) := mh_dvc t2088 r_x2043 (by decide) (by decide)
                have g2089 : x2087.toInt = x2043.toInt / 2 := mh_dve t2088 (by have := (r_x2043).1; omega) (by decide)
                refine mw_mmin (-536870912) (536870911) 90 rfl dX0_runDown_87 ml_X0_62 r_x2085 r_x2087 (by decide) (mh_mr (D := d + 1) (by omega) (Nat.le_of_ble_eq_true rfl)) (fun x2090 t2091 r_x2090 => ?_)
                refine mw_istore 92 rfl [(5, .int x2090), (4, .int x2043), (3, .int x2036), (0, .ref (G.2.2.2 19)), (1, .ref (G.2.2.2 kv)), (2, .int x1825)] dX0_runDown_90  (by decide) rfl ?_
                refine mw_aload_n 93 rfl 3 dX0_runDown_92 rfl rfl ?_
                refine mw_geta 96 rfl dX0_runDown_93 gf_X0_15 rfl 21 (mh_rf hI_s1826 27 rfl) ?_
                refine mw_iload_n 97 rfl 5 dX0_runDown_96 rfl rfl ?_
                refine mw_dup2 98 rfl dX0_runDown_97 rfl rfl ?_
                refine mw_iald 99 rfl dX0_runDown_98 rfl r_x1825 (by decide) (fun x2092 t2093 => ?_)
                refine mw_iload 101 rfl 0 dX0_runDown_99  rfl ?_
                refine mw_isub_u 102 rfl dX0_runDown_101 (fun x2094 t2095 => ?_)
                refine mw_iast 103 rfl dX0_runDown_102 rfl r_x1825 (by decide) (fun s2096 t2097 => ?_)
                have hI_s2096 : mh_I B D s2096 := by rw [t2097]; exact wr_21 hI_s1826
                have hF_s2096 : mh_F (S_X0_runDown kv) s0 s2096 := by rw [t2097]; exact mh_F_pI hF_s1826 (mh_si 1 rfl)
                refine mw_aload_n 104 rfl 3 dX0_runDown_103 rfl rfl ?_
                refine mw_geta 107 rfl dX0_runDown_104 gf_X0_15 rfl 21 (mh_rf hI_s2096 27 rfl) ?_
                refine mw_iload_n 108 rfl 2 dX0_runDown_107 rfl rfl ?_
                refine mw_dup2 109 rfl dX0_runDown_108 rfl rfl ?_
                refine mw_iald 110 rfl dX0_runDown_109 rfl r_x2036 (by decide) (fun x2098 t2099 => ?_)
                refine mw_iload 112 rfl 0 dX0_runDown_110  rfl ?_
                refine mw_iadd_u 113 rfl dX0_runDown_112 (fun x2100 t2101 => ?_)
                refine mw_iast 114 rfl dX0_runDown_113 rfl r_x2036 (by decide) (fun s2102 t2103 => ?_)
                have hI_s2102 : mh_I B D s2102 := by rw [t2103]; exact wr_21 hI_s2096
                have hF_s2102 : mh_F (S_X0_runDown kv) s0 s2102 := by rw [t2103]; exact mh_F_pI hF_s2096 (mh_si 1 rfl)
                refine mw_aload_n 115 rfl 4 dX0_runDown_114 rfl rfl ?_
                refine mw_dup 116 rfl dX0_runDown_115 rfl ?_
                refine mw_geti 119 rfl dX0_runDown_116 gf_X0_67 (ly_V hkv) (fun x2104 t2105 => ?_)
                refine mw_iload 121 rfl 0 dX0_runDown_119  rfl ?_
                refine mw_iadd_u 122 rfl dX0_runDown_121 (fun x2106 t2107 => ?_)
                refine mw_puti 125 rfl dX0_runDown_122 pf_X0_67 (ly_V hkv) (fun s2108 t2109 => ?_)
                have hI_s2108 : mh_I B D s2108 := by rw [t2109]; exact wr_V_6 hI_s2102 hkv
                have hF_s2108 : mh_F (S_X0_runDown kv) s0 s2108 := by rw [t2109]; exact mh_F_pI hF_s2102 (mh_sj 2 rfl)
                exact mw_lv [3, 4, 5, 2, 1] rfl (J125 s2108 hI_s2108 hF_s2108)
        exact mw_lv [1, 2, 0] rfl (L40 145 (0) s1226 (mh_r_wk rc_0 (by decide)) hI_s1226 hF_s1226 (by have := (rc_0).1; have := (rc_0).2; omega))
      · skip
        have r_x1225 : mh_r x1225 (0) (143) := mh_lt1 c1241 r_x1225 rc_144 (143) (by decide)
        refine mw_aload_n 10 rfl 0 dX0_runDown_9 rfl rfl ?_
        refine mw_geta 13 rfl dX0_runDown_10 gf_X0_9 rfl 20 (mh_rf hI_s1226 26 rfl) ?_
        refine mw_iload_n 14 rfl 2 dX0_runDown_13 rfl rfl ?_
        refine mw_aload_n 15 rfl 1 dX0_runDown_14 rfl rfl ?_
        refine mw_iload_n 16 rfl 2 dX0_runDown_15 rfl rfl ?_
        refine mw_callVi [.int x1225] [.int x1225, .ref (G.2.2.2 20)] 19 rfl dX0_runDown_16 ml_X0_56 mc_X8_level mk_X8_level (ly_V hkv) rfl (by decide) (w_X8_level l G (d + 0) ⟨by omega, by omega⟩ hI_s1226 kv hkv x1225 r_x1225) rfl rfl (Nat.le_of_ble_eq_true rfl) (mh_rok (by omega) (by decide)) (fun x2110 s2111 q2112 => ?_)
        obtain ⟨r_x2110, rfl⟩ := q2112
        refine mw_iast 20 rfl dX0_runDown_19 rfl r_x1225 (by decide) (fun s2113 t2114 => ?_)
        have hI_s2113 : mh_I B D s2113 := by rw [t2114]; exact wr_20 hI_s1226
        have hF_s2113 : mh_F (S_X0_runDown kv) s0 s2113 := by rw [t2114]; exact mh_F_pI hF_s1226 (mh_si 0 rfl)
        refine mw_aload_n 21 rfl 0 dX0_runDown_20 rfl rfl ?_
        refine mw_geta 24 rfl dX0_runDown_21 gf_X0_15 rfl 21 (mh_rf hI_s2113 27 rfl) ?_
        refine mw_iload_n 25 rfl 2 dX0_runDown_24 rfl rfl ?_
        refine mw_aload_n 26 rfl 1 dX0_runDown_25 rfl rfl ?_
        refine mw_geta 29 rfl dX0_runDown_26 gf_X0_46 (ly_V hkv) (kv + 3) (rf_V_2 hI_s2113 hkv) ?_
        refine mw_iload_n 30 rfl 2 dX0_runDown_29 rfl rfl ?_
        refine mw_iald 31 rfl dX0_runDown_30 (ly_V3 hkv) r_x1225 (by decide) (fun x2115 t2116 => ?_)
        refine mw_iast 32 rfl dX0_runDown_31 rfl r_x1225 (by decide) (fun s2117 t2118 => ?_)
        have hI_s2117 : mh_I B D s2117 := by rw [t2118]; exact wr_21 hI_s2113
        have hF_s2117 : mh_F (S_X0_runDown kv) s0 s2117 := by rw [t2118]; exact mh_F_pI hF_s2113 (mh_si 1 rfl)
        refine mw_iincR (k := 2) (1) (144) 35 rfl (fun z => [(2, .int z), (0, .ref (G.2.2.2 19)), (1, .ref (G.2.2.2 kv))]) dX0_runDown_32 rfl (by decide) (fun _ => rfl) r_x1225 (by decide) (by decide) (fun x2119 t2120 r_x2119 => ?_)
        refine mw_goto 38 rfl 2 dX0_runDown_35 (by decide) ?_
        exact mw_lv [1, 2, 0] rfl (ihn1 x2119 s2117 (mh_r_wk r_x2119 (by decide)) hI_s2117 hF_s2117 (by have : x2119.toInt = x1225.toInt + (1) := t2120; omega))
  exact mw_lv [1, 2, 0] rfl (L2 145 (0) s0 (mh_r_wk rc_0 (by decide)) hI0 hF0 (by have := (rc_0).1; have := (rc_0).2; omega))

def S_X0_pass (kv : Nat) (kl : Nat) : List (Nat × Nat) := [(kl + 6, 9999), (kl + 7, 9999), (kv + 3, 9999), (kv + 4, 9999), (20, 9999), (21, 9999), (kv, 6), (kv, 5)]
def P_X0_pass (B D : Int) (s0 : mh_H) (kv : Nat) (kl : Nat) : mh_H → Prop := fun s => mh_I B D s ∧ mh_F (S_X0_pass kv kl) s0 s
set_option maxRecDepth 100000 in
set_option maxHeartbeats 4000000 in
theorem w_X0_pass (l : Launch) (G : mh_G) (d : Nat) {B D : Int} (hB : B ≤ 1920000000 ∧ D ≤ 1920000000) {s0 : mh_H} (hI0 : mh_I B D s0) (kv : Nat) (hkv : mh_isV kv) (kl : Nat) (hkl : mh_isL kl) : mh_Mv l G (d + 4) mM_X0_pass [.ref (G.2.2.2 19), .ref (G.2.2.2 kv), .ref (G.2.2.2 kl)] s0 (P_X0_pass B D s0 kv kl) := by
  refine mh_enter (lv := [(0, .ref (G.2.2.2 19)), (1, .ref (G.2.2.2 kv)), (2, .ref (G.2.2.2 kl))]) (by decide) rfl (Nat.le_of_ble_eq_true rfl) ?_
  have hF0 : mh_F (S_X0_pass kv kl) s0 s0 := mh_F_rf
  refine mw_aload_n 1 rfl 2 dX0_pass_0 rfl rfl ?_
  refine mw_geti 4 rfl dX0_pass_1 gf_X0_18 (ly_L hkl) (fun x17 t18 => ?_)
  have r_x17 : mh_r x17 (0) (1) := by rw [t18]; exact rd_L_9 hI0 hkl
  have J13 : ∀  (s23 : mh_H), mh_I B D s23 → mh_F (S_X0_pass kv kl) s0 s23 → mh_W G (mh_XM l G (d + 4) (mh_Qv (P_X0_pass B D s0 kv kl))) mM_X0_pass 13 [(0, .ref (G.2.2.2 19)), (1, .ref (G.2.2.2 kv)), (2, .ref (G.2.2.2 kl))] [] s23 := by
    intro s23 hI_s23 hF_s23
    refine mw_aload_n 14 rfl 0 dX0_pass_13 rfl rfl ?_
    refine mw_aload_n 15 rfl 1 dX0_pass_14 rfl rfl ?_
    refine mw_callVv [.ref (G.2.2.2 kv)] [] 18 rfl dX0_pass_15 ml_X0_28 mc_X0_runDown mk_X0_runDown rfl rfl (by decide) (w_X0_runDown l G (d + 2) ⟨by omega, by omega⟩ hI_s23 kv hkv) rfl rfl (Nat.le_of_ble_eq_true rfl) (mh_rok (by omega) (by decide)) (fun s34 q35 => ?_)
    obtain ⟨hI_s34, hG_s34⟩ := q35
    have hF_s34 : mh_F (S_X0_pass kv kl) s0 s34 := mh_F_tl hF_s23 hG_s34 (by rcases hkl with rfl | rfl <;> rcases hkv with rfl | rfl | rfl <;> decide +kernel)
    refine mw_aload_n 19 rfl 1 dX0_pass_18 rfl rfl ?_
    refine mw_dup 20 rfl dX0_pass_19 rfl ?_
    refine mw_geti 23 rfl dX0_pass_20 gf_X0_32 (ly_V hkv) (fun x36 t37 => ?_)
    refine mw_iconst (v := 1) 24 rfl dX0_pass_23 (by decide) ?_
    refine mw_iadd_u 25 rfl dX0_pass_24 (fun x38 t39 => ?_)
    refine mw_puti 28 rfl dX0_pass_25 pf_X0_32 (ly_V hkv) (fun s40 t41 => ?_)
    have hI_s40 : mh_I B D s40 := by rw [t41]; exact wr_V_5 hI_s34 hkv
    have hF_s40 : mh_F (S_X0_pass kv kl) s0 s40 := by rw [t41]; exact mh_F_pI hF_s34 (mh_sj 7 rfl)
    exact mw_vret dX0_pass_28 rfl ⟨rfl, ⟨hI_s40, hF_s40⟩⟩
  refine mw_if_eq 7 rfl 13 dX0_pass_4 (by decide) (fun c42 => ?_) (fun c42 => ?_)
  · skip
    have r_x17 : mh_r x17 (0) (0) := mh_eq1 (show x17.toInt = (0 : Int32).toInt from c42) r_x17 rc_0 (0) (0) (by decide)
    exact mw_lv [0, 1, 2] rfl (J13 s0 hI0 hF0)
  · skip
    have r_x17 : mh_r x17 (1) (1) := mh_ne1 (show x17.toInt ≠ (0 : Int32).toInt from c42) r_x17 rc_0 (1) (1) (by decide)
    refine mw_aload_n 8 rfl 0 dX0_pass_7 rfl rfl ?_
    refine mw_aload_n 9 rfl 1 dX0_pass_8 rfl rfl ?_
    refine mw_aload_n 10 rfl 2 dX0_pass_9 rfl rfl ?_
    refine mw_callVv [.ref (G.2.2.2 kv), .ref (G.2.2.2 kl)] [] 13 rfl dX0_pass_10 ml_X0_24 mc_X0_comeAndDry mk_X0_comeAndDry rfl rfl (by decide) (w_X0_comeAndDry l G (d + 0) ⟨by omega, by omega⟩ hI0 kv hkv kl hkl) rfl rfl (Nat.le_of_ble_eq_true rfl) (mh_rok (by omega) (by decide)) (fun s44 q45 => ?_)
    obtain ⟨hI_s44, hG_s44⟩ := q45
    have hF_s44 : mh_F (S_X0_pass kv kl) s0 s44 := mh_F_tl hF0 hG_s44 (by rcases hkl with rfl | rfl <;> rcases hkv with rfl | rfl | rfl <;> decide +kernel)
    exact mw_lv [0, 1, 2] rfl (J13 s44 hI_s44 hF_s44)

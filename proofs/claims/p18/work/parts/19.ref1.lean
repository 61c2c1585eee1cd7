def P_X10_cellAt (B D : Int) (s0 : mh_H) (p0 : Int32) (p1 : Int32) : Int32 → mh_H → Prop := fun z s => mh_r z (0) (143) ∧ s0 = s
set_option maxRecDepth 100000 in
set_option maxHeartbeats 4000000 in
theorem w_X10_cellAt (l : Launch) (G : mh_G) (d : Nat) {B D : Int} (hB : B ≤ 2000000000 ∧ D ≤ 2000000000) {s0 : mh_H} (hI0 : mh_I B D s0) (p0 : Int32) (r_p0 : mh_r p0 (0) (11)) (p1 : Int32) (r_p1 : mh_r p1 (0) (11)) : mh_Mi l G (d + 0) mM_X10_cellAt [.int p0, .int p1] s0 (P_X10_cellAt B D s0 p0 p1) := by
  refine mh_enter (lv := [(0, .int p0), (1, .int p1)]) (by decide) rfl (Nat.le_of_ble_eq_true rfl) ?_
  refine mw_bipush (v := 12) 2 rfl dX10_cellAt_0 (by decide) ?_
  refine mw_iload_n 3 rfl 1 dX10_cellAt_2 rfl rfl ?_
  refine mw_imul 4 rfl (0) (132) dX10_cellAt_3 rc_12 r_p1 (by decide) (fun x5 t6 r_x5 => ?_)
  refine mw_iload_n 5 rfl 0 dX10_cellAt_4 rfl rfl ?_
  refine mw_iadd 6 rfl (0) (143) dX10_cellAt_5 r_x5 r_p0 (by decide) (fun x7 t8 r_x7 => ?_)
  exact mw_iret dX10_cellAt_6 rfl ⟨x7, rfl, ⟨r_x7, rfl⟩⟩

def P_X10_levelAt (B D : Int) (s0 : mh_H) (p1 : Int32) : Int32 → mh_H → Prop := fun z s => mh_r z (-2147483648) (2147483647) ∧ s0 = s
set_option maxRecDepth 100000 in
set_option maxHeartbeats 4000000 in
theorem w_X10_levelAt (l : Launch) (G : mh_G) (d : Nat) {B D : Int} (hB : B ≤ 2000000000 ∧ D ≤ 2000000000) {s0 : mh_H} (hI0 : mh_I B D s0) (p1 : Int32) (r_p1 : mh_r p1 (0) (143)) : mh_Mi l G (d + 0) mM_X10_levelAt [.ref (G.2.2.2 57), .int p1] s0 (P_X10_levelAt B D s0 p1) := by
  refine mh_enter (lv := [(0, .ref (G.2.2.2 57)), (1, .int p1)]) (by decide) rfl (Nat.le_of_ble_eq_true rfl) ?_
  refine mw_bipush (v := 10) 2 rfl dX10_levelAt_0 (by decide) ?_
  refine mw_aload_n 3 rfl 0 dX10_levelAt_2 rfl rfl ?_
  refine mw_geta 6 rfl dX10_levelAt_3 gf_X10_17 rfl 59 (mh_rf hI0 56 rfl) ?_
  refine mw_iload_n 7 rfl 1 dX10_levelAt_6 rfl rfl ?_
  refine mw_iald 8 rfl dX10_levelAt_7 rfl r_p1 (by decide) (fun x16 t17 => ?_)
  refine mw_imul_u 9 rfl dX10_levelAt_8 (fun x18 t19 => ?_)
  refine mw_aload_n 10 rfl 0 dX10_levelAt_9 rfl rfl ?_
  refine mw_geta 13 rfl dX10_levelAt_10 gf_X10_24 rfl 61 (mh_rf hI0 58 rfl) ?_
  refine mw_iload_n 14 rfl 1 dX10_levelAt_13 rfl rfl ?_
  refine mw_iald 15 rfl dX10_levelAt_14 rfl r_p1 (by decide) (fun x20 t21 => ?_)
  refine mw_iadd_u 16 rfl dX10_levelAt_15 (fun x22 t23 => ?_)
  refine mw_aload_n 17 rfl 0 dX10_levelAt_16 rfl rfl ?_
  refine mw_geta 20 rfl dX10_levelAt_17 gf_X10_21 rfl 60 (mh_rf hI0 57 rfl) ?_
  refine mw_iload_n 21 rfl 1 dX10_levelAt_20 rfl rfl ?_
  refine mw_iald 22 rfl dX10_levelAt_21 rfl r_p1 (by decide) (fun x24 t25 => ?_)
  refine mw_iconst (v := 2) 23 rfl dX10_levelAt_22 (by decide) ?_
  refine mw_icmp_ne 26 rfl 31 dX10_levelAt_23 (by decide) (fun c26 => ?_) (fun c26 => ?_)
  · skip
    refine mw_iconst (v := 0) 32 rfl dX10_levelAt_31 (by decide) ?_
    refine mw_iadd 33 rfl (-2147483648) (2147483647) dX10_levelAt_32 (mh_r_full x22) rc_0 (by decide) (fun x27 t28 r_x27 => ?_)
    exact mw_iret dX10_levelAt_33 rfl ⟨x27, rfl, ⟨r_x27, rfl⟩⟩
  · skip
    have r_x24 : mh_r x24 (2) (2) := mh_eq1 c26 (mh_r_full x24) rc_2 (2) (2) (by decide)
    refine mw_bipush (v := 30) 28 rfl dX10_levelAt_26 (by decide) ?_
    refine mw_goto 31 rfl 32 dX10_levelAt_28 (by decide) ?_
    refine mw_iadd_u 33 rfl dX10_levelAt_32 (fun x29 t30 => ?_)
    exact mw_iret dX10_levelAt_33 rfl ⟨x29, rfl, ⟨(mh_r_full x29), rfl⟩⟩

def P_X10_bounded (B D : Int) (s0 : mh_H) (p0 : Int32) : Int32 → mh_H → Prop := fun z s => mh_r z (0) (9999) ∧ s0 = s
set_option maxRecDepth 100000 in
set_option maxHeartbeats 4000000 in
theorem w_X10_bounded (l : Launch) (G : mh_G) (d : Nat) {B D : Int} (hB : B ≤ 2000000000 ∧ D ≤ 2000000000) {s0 : mh_H} (hI0 : mh_I B D s0) (p0 : Int32) : mh_Mi l G (d + 0) mM_X10_bounded [.int p0] s0 (P_X10_bounded B D s0 p0) := by
  refine mh_enter (lv := [(0, .int p0)]) (by decide) rfl (Nat.le_of_ble_eq_true rfl) ?_
  refine mw_iload_n 1 rfl 0 dX10_bounded_0 rfl rfl ?_
  refine mw_if_ge 4 rfl 8 dX10_bounded_1 (by decide) (fun c3 => ?_) (fun c3 => ?_)
  · skip
    have r_p0 : mh_r p0 (0) (2147483647) := mh_le2 (show (0 : Int32).toInt ≤ p0.toInt from c3) rc_0 (mh_r_full p0) (0) (by decide)
    refine mw_iload_n 9 rfl 0 dX10_bounded_8 rfl rfl ?_
    refine mw_sipush (v := 9999) 12 rfl dX10_bounded_9 (by decide) ?_
    refine mw_icmp_le 15 rfl 21 dX10_bounded_12 (by decide) (fun c4 => ?_) (fun c4 => ?_)
    · skip
      have r_p0 : mh_r p0 (0) (9999) := mh_le1 c4 r_p0 rc_9999 (9999) (by decide)
      refine mw_iload_n 22 rfl 0 dX10_bounded_21 rfl rfl ?_
      exact mw_iret dX10_bounded_22 rfl ⟨p0, rfl, ⟨r_p0, rfl⟩⟩
    · skip
      have r_p0 : mh_r p0 (10000) (2147483647) := mh_lt2 c4 rc_9999 r_p0 (10000) (by decide)
      refine mw_sipush (v := 9999) 18 rfl dX10_bounded_15 (by decide) ?_
      refine mw_goto 21 rfl 22 dX10_bounded_18 (by decide) ?_
      exact mw_iret dX10_bounded_22 rfl ⟨(9999), rfl, ⟨(mh_r_wk rc_9999 (by decide)), rfl⟩⟩
  · skip
    have r_p0 : mh_r p0 (-2147483648) (-1) := mh_lt1 (show p0.toInt < (0 : Int32).toInt from c3) (mh_r_full p0) rc_0 (-1) (by decide)
    refine mw_iconst (v := 0) 5 rfl dX10_bounded_4 (by decide) ?_
    refine mw_goto 8 rfl 22 dX10_bounded_5 (by decide) ?_
    exact mw_iret dX10_bounded_22 rfl ⟨(0), rfl, ⟨(mh_r_wk rc_0 (by decide)), rfl⟩⟩

def P_X10_lowestBeside (B D : Int) (s0 : mh_H) (p1 : Int32) : Int32 → mh_H → Prop := fun z s => mh_r z (0) (143) ∧ s0 = s
set_option maxRecDepth 100000 in
set_option maxHeartbeats 4000000 in
theorem w_X10_lowestBeside (l : Launch) (G : mh_G) (d : Nat) {B D : Int} (hB : B ≤ 1980000000 ∧ D ≤ 1980000000) {s0 : mh_H} (hI0 : mh_I B D s0) (p1 : Int32) (r_p1 : mh_r p1 (0) (143)) : mh_Mi l G (d + 1) mM_X10_lowestBeside [.ref (G.2.2.2 57), .int p1] s0 (P_X10_lowestBeside B D s0 p1) := by
  refine mh_enter (lv := [(0, .ref (G.2.2.2 57)), (1, .int p1)]) (by decide) rfl (Nat.le_of_ble_eq_true rfl) ?_
  refine mw_iconst (v := -1) 1 rfl dX10_lowestBeside_0 (by decide) ?_
  refine mw_istore_n 2 rfl [(2, .int (-1)), (0, .ref (G.2.2.2 57)), (1, .int p1)] dX10_lowestBeside_1 rfl (by decide) rfl ?_
  refine mw_iconst (v := 0) 3 rfl dX10_lowestBeside_2 (by decide) ?_
  refine mw_istore_n 4 rfl [(3, .int (0)), (2, .int (-1)), (0, .ref (G.2.2.2 57)), (1, .int p1)] dX10_lowestBeside_3 rfl (by decide) rfl ?_
  have L4 : ∀ n1 : Nat, ∀ (x189 : Int32) (x190 : Int32), mh_r x189 (0) (4) → mh_r x190 (-1) (143) → ((2 ≤ x189.toInt → 1 ≤ p1.toInt % 12 → 0 ≤ x190.toInt) ∧ (3 ≤ x189.toInt → 0 ≤ x190.toInt)) → (4) - x189.toInt < (n1 : Int) → mh_W G (mh_XM l G (d + 1) (mh_Qi (P_X10_lowestBeside B D s0 p1))) mM_X10_lowestBeside 4 [(0, .ref (G.2.2.2 57)), (1, .int p1), (2, .int x190), (3, .int x189)] [] s0 := by
    intro n1
    induction n1 with
    | zero =>
      intro x189 x190 r_x189 r_x190 iv hmn1
      exact absurd hmn1 (by have := r_x189.1; have := r_x189.2; omega)
    | succ n1 ihn1 =>
      intro x189 x190 r_x189 r_x190 iv hmn1
      refine mw_iload_n 5 rfl 3 dX10_lowestBeside_4 rfl rfl ?_
      refine mw_iconst (v := 4) 6 rfl dX10_lowestBeside_5 (by decide) ?_
      refine mw_icmp_ge 9 rfl 50 dX10_lowestBeside_6 (by decide) (fun c212 => ?_) (fun c212 => ?_)
      · skip
        have r_x189 : mh_r x189 (4) (4) := mh_le2 c212 rc_4 r_x189 (4) (by decide)
        refine mw_iload_n 51 rfl 2 dX10_lowestBeside_50 rfl rfl ?_
        have r_x190 : mh_r x190 (0) (143) := ⟨by have := (r_p1).1; have := (r_p1).2; have := (r_x190).1; have := (r_x190).2; have := (r_x189).1; have := (r_x189).2; have := kc_m1; have := kc_0; have := kc_1; have := kc_4; omega, (r_x190).2⟩
        exact mw_iret dX10_lowestBeside_51 rfl ⟨x190, rfl, ⟨r_x190, rfl⟩⟩
      · skip
        have r_x189 : mh_r x189 (0) (3) := mh_lt1 c212 r_x189 rc_4 (3) (by decide)
        refine mw_iload_n 10 rfl 1 dX10_lowestBeside_9 rfl rfl ?_
        refine mw_iload_n 11 rfl 3 dX10_lowestBeside_10 rfl rfl ?_
        refine mw_callSi [.int p1, .int x189] [] 14 rfl dX10_lowestBeside_11 ml_X10_162 mc_X10_beside mk_X10_beside (w_X10_beside l G (d + 0) ⟨by omega, by omega⟩ hI0 p1 r_p1 x189 r_x189) rfl rfl (Nat.le_of_ble_eq_true rfl) (mh_rok (by omega) (by decide)) (fun x213 s214 q215 => ?_)
        obtain ⟨r_x213, e0_s214, rfl⟩ := q215
        refine mw_istore 16 rfl [(4, .int x213), (0, .ref (G.2.2.2 57)), (1, .int p1), (2, .int x190), (3, .int x189)] dX10_lowestBeside_14  (by decide) rfl ?_
        refine mw_iload 18 rfl 0 dX10_lowestBeside_16  rfl ?_
        refine mw_iconst (v := -1) 19 rfl dX10_lowestBeside_18 (by decide) ?_
        refine mw_icmp_eq 22 rfl 44 dX10_lowestBeside_19 (by decide) (fun c216 => ?_) (fun c216 => ?_)
        · skip
          have r_x213 : mh_r x213 (-1) (-1) := mh_eq1 c216 r_x213 rc_m1 (-1) (-1) (by decide)
          refine mw_iincR (k := 4) (1) (4) 47 rfl (fun z => [(3, .int z), (4, .int x213), (0, .ref (G.2.2.2 57)), (1, .int p1), (2, .int x190)]) dX10_lowestBeside_44 rfl (by decide) (fun _ => rfl) r_x189 (by decide) (by decide) (fun x217 t218 r_x217 => ?_)
          refine mw_goto 50 rfl 4 dX10_lowestBeside_47 (by decide) ?_
          exact mw_lv [2, 3, 4, 0] rfl (ihn1 x217 x190 (mh_r_wk r_x217 (by decide)) r_x190 (by
              have h9 := mh_bes_lb (c := p1.toInt) (d := x189.toInt) ⟨r_p1.1, r_p1.2⟩
              rw [← e0_s214] at h9
              have := (r_x217).1; have := (r_x217).2
              have := (r_x213).1; have := (r_x213).2
              have := (r_p1).1; have := (r_p1).2
              have := (r_x190).1; have := (r_x190).2
              have := kc_m1
              have := kc_0
              have := kc_1
              have := kc_4
              omega) (by have : x217.toInt = x189.toInt + (1) := t218; omega))
        · skip
          have r_x213 : mh_r x213 (0) (143) := mh_ne1 c216 r_x213 rc_m1 (0) (143) (by decide)
          refine mw_iload_n 23 rfl 3 dX10_lowestBeside_22 rfl rfl ?_
          refine mw_iconst (v := -1) 24 rfl dX10_lowestBeside_23 (by decide) ?_
          have J41 : mh_W G (mh_XM l G (d + 1) (mh_Qi (P_X10_lowestBeside B D s0 p1))) mM_X10_lowestBeside 41 [(0, .ref (G.2.2.2 57)), (1, .int p1), (2, .int x190), (3, .int x189), (4, .int x213)] [] s0 := by
            skip
            refine mw_iload 43 rfl 4 dX10_lowestBeside_41  rfl ?_
            refine mw_istore_n 44 rfl [(2, .int x213), (0, .ref (G.2.2.2 57)), (1, .int p1), (3, .int x189), (4, .int x213)] dX10_lowestBeside_43 rfl (by decide) rfl ?_
            refine mw_iincR (k := 3) (1) (4) 47 rfl (fun z => [(3, .int z), (2, .int x213), (0, .ref (G.2.2.2 57)), (1, .int p1), (4, .int x213)]) dX10_lowestBeside_44 rfl (by decide) (fun _ => rfl) r_x189 (by decide) (by decide) (fun x231 t232 r_x231 => ?_)
            refine mw_goto 50 rfl 4 dX10_lowestBeside_47 (by decide) ?_
            exact mw_lv [2, 3, 1, 0] rfl (ihn1 x231 x213 (mh_r_wk r_x231 (by decide)) (mh_r_wk r_x213 (by decide)) (by
                have h9 := mh_bes_lb (c := p1.toInt) (d := x189.toInt) ⟨r_p1.1, r_p1.2⟩
                rw [← e0_s214] at h9
                have := (r_x231).1; have := (r_x231).2
                have := (r_x213).1; have := (r_x213).2
                have := (r_p1).1; have := (r_p1).2
                have := kc_m1
                have := kc_0
                have := kc_1
                have := kc_4
                omega) (by have : x231.toInt = x189.toInt + (1) := t232; omega))
          refine mw_icmp_eq 27 rfl 41 dX10_lowestBeside_24 (by decide) (fun c233 => ?_) (fun c233 => ?_)
          · skip
            have r_x190 : mh_r x190 (-1) (-1) := mh_eq1 c233 r_x190 rc_m1 (-1) (-1) (by decide)
            exact mw_lv [1, 2, 3, 4, 0] rfl (J41)
          · skip
            have r_x190 : mh_r x190 (0) (143) := mh_ne1 c233 r_x190 rc_m1 (0) (143) (by decide)
            refine mw_aload_n 28 rfl 1 dX10_lowestBeside_27 rfl rfl ?_
            refine mw_iload 30 rfl 0 dX10_lowestBeside_28  rfl ?_
            refine mw_callVi [.int x213] [] 33 rfl dX10_lowestBeside_30 ml_X10_355 mc_X10_levelAt mk_X10_levelAt rfl rfl (by decide) (w_X10_levelAt l G (d + 0) ⟨by omega, by omega⟩ hI0 x213 r_x213) rfl rfl (Nat.le_of_ble_eq_true rfl) (mh_rok (by omega) (by decide)) (fun x234 s235 q236 => ?_)
            obtain ⟨r_x234, rfl⟩ := q236
            refine mw_aload_n 34 rfl 1 dX10_lowestBeside_33 rfl rfl ?_
            refine mw_iload_n 35 rfl 3 dX10_lowestBeside_34 rfl rfl ?_
            refine mw_callVi [.int x190] [.int x234] 38 rfl dX10_lowestBeside_35 ml_X10_355 mc_X10_levelAt mk_X10_levelAt rfl rfl (by decide) (w_X10_levelAt l G (d + 0) ⟨by omega, by omega⟩ hI0 x190 r_x190) rfl rfl (Nat.le_of_ble_eq_true rfl) (mh_rok (by omega) (by decide)) (fun x237 s238 q239 => ?_)
            obtain ⟨r_x237, rfl⟩ := q239
            refine mw_icmp_ge 41 rfl 44 dX10_lowestBeside_38 (by decide) (fun c240 => ?_) (fun c240 => ?_)
            · skip
              refine mw_iincR (k := 4) (1) (4) 47 rfl (fun z => [(3, .int z), (4, .int x213), (0, .ref (G.2.2.2 57)), (1, .int p1), (2, .int x190)]) dX10_lowestBeside_44 rfl (by decide) (fun _ => rfl) r_x189 (by decide) (by decide) (fun x241 t242 r_x241 => ?_)
              refine mw_goto 50 rfl 4 dX10_lowestBeside_47 (by decide) ?_
              exact mw_lv [2, 3, 4, 0] rfl (ihn1 x241 x190 (mh_r_wk r_x241 (by decide)) (mh_r_wk r_x190 (by decide)) (by
                  have h9 := mh_bes_lb (c := p1.toInt) (d := x189.toInt) ⟨r_p1.1, r_p1.2⟩
                  rw [← e0_s214] at h9
                  have := (r_x241).1; have := (r_x241).2
                  have := (r_x213).1; have := (r_x213).2
                  have := (r_p1).1; have := (r_p1).2
                  have := (r_x190).1; have := (r_x190).2
                  have := kc_m1
                  have := kc_0
                  have := kc_1
                  have := kc_4
                  omega) (by have : x241.toInt = x189.toInt + (1) := t242; omega))
            · skip
              have r_x234 : mh_r x234 (-2147483648) (2147483646) := mh_lt1 c240 r_x234 r_x237 (2147483646) (by decide)
              have r_x237 : mh_r x237 (-2147483647) (2147483647) := mh_lt2 c240 r_x234 r_x237 (-2147483647) (by decide)
              exact mw_lv [1, 2, 3, 4, 0] rfl (J41)
  exact mw_lv [2, 3, 1, 0] rfl (L4 5 (0) (-1) (mh_r_wk rc_0 (by decide)) (mh_r_wk rc_m1 (by decide)) (by
      have := (rc_0).1; have := (rc_0).2
      have := (rc_m1).1; have := (rc_m1).2
      have := (r_p1).1; have := (r_p1).2
      have := kc_m1
      have := kc_0
      have := kc_1
      have := kc_4
      omega) (by have := (rc_0).1; have := (rc_0).2; omega))

def S_X10_cools : List (Nat × Nat) := [(57, 33), (57, 34), (57, 35), (57, 36), (57, 37), (78, 9999), (77, 9999), (79, 9999), (80, 9999), (61, 9999), (62, 9999)]
def P_X10_cools (B D : Int) (s0 : mh_H) : mh_H → Prop := fun s => mh_I B D s ∧ mh_F S_X10_cools s0 s
set_option maxRecDepth 100000 in
set_option maxHeartbeats 4000000 in
theorem w_X10_cools (l : Launch) (G : mh_G) (d : Nat) {B D : Int} (hB : B ≤ 1860000000 ∧ D ≤ 1860000000) {s0 : mh_H} (hI0 : mh_I B D s0) : mh_Mv l G (d + 7) mM_X10_cools [.ref (G.2.2.2 57)] s0 (P_X10_cools B D s0) := by
  refine mh_enter (lv := [(0, .ref (G.2.2.2 57))]) (by decide) rfl (Nat.le_of_ble_eq_true rfl) ?_
  have hF0 : mh_F S_X10_cools s0 s0 := mh_F_rf
  refine mw_iconst (v := 0) 1 rfl dX10_cools_0 (by decide) ?_
  refine mw_istore_n 2 rfl [(1, .int (0)), (0, .ref (G.2.2.2 57))] dX10_cools_1 rfl (by decide) rfl ?_
  have L2 : ∀ n1 : Nat, ∀ (x1547 : Int32) (s1548 : mh_H), mh_r x1547 (0) (144) → mh_I B D s1548 → mh_F S_X10_cools s0 s1548 → (144) - x1547.toInt < (n1 : Int) → mh_W G (mh_XM l G (d + 7) (mh_Qv (P_X10_cools B D s0))) mM_X10_cools 2 [(0, .ref (G.2.2.2 57)), (1, .int x1547)] [] s1548 := by
    intro n1
    induction n1 with
    | zero =>
      intro x1547 s1548 r_x1547 hI_s1548 hF_s1548 hmn1
      exact absurd hmn1 (by have := r_x1547.1; have := r_x1547.2; omega)
    | succ n1 ihn1 =>
      intro x1547 s1548 r_x1547 hI_s1548 hF_s1548 hmn1
      refine mw_iload_n 3 rfl 1 dX10_cools_2 rfl rfl ?_
      refine mw_sipush (v := 144) 6 rfl dX10_cools_3 (by decide) ?_
      refine mw_icmp_ge 9 rfl 78 dX10_cools_6 (by decide) (fun c1583 => ?_) (fun c1583 => ?_)
      · skip
        have r_x1547 : mh_r x1547 (144) (144) := mh_le2 c1583 rc_144 r_x1547 (144) (by decide)
        refine mw_iconst (v := 0) 79 rfl dX10_cools_78 (by decide) ?_
        refine mw_istore_n 80 rfl [(1, .int (0)), (0, .ref (G.2.2.2 57))] dX10_cools_79 rfl (by decide) rfl ?_
        have L80 : ∀ n2 : Nat, ∀ (x1816 : Int32) (s1817 : mh_H), mh_r x1816 (0) (144) → mh_I B D s1817 → mh_F S_X10_cools s0 s1817 → (144) - x1816.toInt < (n2 : Int) → mh_W G (mh_XM l G (d + 7) (mh_Qv (P_X10_cools B D s0))) mM_X10_cools 80 [(0, .ref (G.2.2.2 57)), (1, .int x1816)] [] s1817 := by
          intro n2
          induction n2 with
          | zero =>
            intro x1816 s1817 r_x1816 hI_s1817 hF_s1817 hmn2
            exact absurd hmn2 (by have := r_x1816.1; have := r_x1816.2; omega)
          | succ n2 ihn2 =>
            intro x1816 s1817 r_x1816 hI_s1817 hF_s1817 hmn2
            refine mw_iload_n 81 rfl 1 dX10_cools_80 rfl rfl ?_
            refine mw_sipush (v := 144) 84 rfl dX10_cools_81 (by decide) ?_
            refine mw_icmp_ge 87 rfl 117 dX10_cools_84 (by decide) (fun c1831 => ?_) (fun c1831 => ?_)
            · skip
              have r_x1816 : mh_r x1816 (144) (144) := mh_le2 c1831 rc_144 r_x1816 (144) (by decide)
              exact mw_vret dX10_cools_117 rfl ⟨rfl, ⟨hI_s1817, hF_s1817⟩⟩
            · skip
              have r_x1816 : mh_r x1816 (0) (143) := mh_lt1 c1831 r_x1816 rc_144 (143) (by decide)
              refine mw_aload_n 88 rfl 0 dX10_cools_87 rfl rfl ?_
              refine mw_geta 91 rfl dX10_cools_88 gf_X10_24 rfl 61 (mh_rf hI_s1817 58 rfl) ?_
              refine mw_iload_n 92 rfl 1 dX10_cools_91 rfl rfl ?_
              refine mw_aload_n 93 rfl 0 dX10_cools_92 rfl rfl ?_
              refine mw_geta 96 rfl dX10_cools_93 gf_X10_79 rfl 79 (mh_rf hI_s1817 76 rfl) ?_
              refine mw_iload_n 97 rfl 1 dX10_cools_96 rfl rfl ?_
              refine mw_iald 98 rfl dX10_cools_97 rfl r_x1816 (by decide) (fun x1832 t1833 => ?_)
              refine mw_iast 99 rfl dX10_cools_98 rfl r_x1816 (by decide) (fun s1834 t1835 => ?_)
              have hI_s1834 : mh_I B D s1834 := by rw [t1835]; exact wr_61 hI_s1817
              have hF_s1834 : mh_F S_X10_cools s0 s1834 := by rw [t1835]; exact mh_F_pI hF_s1817 (mh_si 9 rfl)
              refine mw_aload_n 100 rfl 0 dX10_cools_99 rfl rfl ?_
              refine mw_geta 103 rfl dX10_cools_100 gf_X10_27 rfl 62 (mh_rf hI_s1834 59 rfl) ?_
              refine mw_iload_n 104 rfl 1 dX10_cools_103 rfl rfl ?_
              refine mw_aload_n 105 rfl 0 dX10_cools_104 rfl rfl ?_
              refine mw_geta 108 rfl dX10_cools_105 gf_X10_82 rfl 80 (mh_rf hI_s1834 77 rfl) ?_
              refine mw_iload_n 109 rfl 1 dX10_cools_108 rfl rfl ?_
              refine mw_iald 110 rfl dX10_cools_109 rfl r_x1816 (by decide) (fun x1836 t1837 => ?_)
              refine mw_iast 111 rfl dX10_cools_110 rfl r_x1816 (by decide) (fun s1838 t1839 => ?_)
              have hI_s1838 : mh_I B D s1838 := by rw [t1839]; exact wr_62 hI_s1834
              have hF_s1838 : mh_F S_X10_cools s0 s1838 := by rw [t1839]; exact mh_F_pI hF_s1834 (mh_si 10 rfl)
              refine mw_iincR (k := 1) (1) (144) 114 rfl (fun z => [(1, .int z), (0, .ref (G.2.2.2 57))]) dX10_cools_111 rfl (by decide) (fun _ => rfl) r_x1816 (by decide) (by decide) (fun x1840 t1841 r_x1840 => ?_)
              refine mw_goto 117 rfl 80 dX10_cools_114 (by decide) ?_
              exact mw_lv [1, 0] rfl (ihn2 x1840 s1838 (mh_r_wk r_x1840 (by decide)) hI_s1838 hF_s1838 (by have : x1840.toInt = x1816.toInt + (1) := t1841; omega))
        exact mw_lv [1, 0] rfl (L80 145 (0) s1548 (mh_r_wk rc_0 (by decide)) hI_s1548 hF_s1548 (by have := (rc_0).1; have := (rc_0).2; omega))
      · skip
        have r_x1547 : mh_r x1547 (0) (143) := mh_lt1 c1583 r_x1547 rc_144 (143) (by decide)
        refine mw_aload_n 10 rfl 0 dX10_cools_9 rfl rfl ?_
        refine mw_geta 13 rfl dX10_cools_10 gf_X10_79 rfl 79 (mh_rf hI_s1548 76 rfl) ?_
        refine mw_iload_n 14 rfl 1 dX10_cools_13 rfl rfl ?_
        refine mw_aload_n 15 rfl 0 dX10_cools_14 rfl rfl ?_
        refine mw_geta 18 rfl dX10_cools_15 gf_X10_24 rfl 61 (mh_rf hI_s1548 58 rfl) ?_
        refine mw_iload_n 19 rfl 1 dX10_cools_18 rfl rfl ?_
        refine mw_iald 20 rfl dX10_cools_19 rfl r_x1547 (by decide) (fun x1842 t1843 => ?_)
        refine mw_aload_n 21 rfl 0 dX10_cools_20 rfl rfl ?_
        refine mw_bipush (v := 99) 23 rfl dX10_cools_21 (by decide) ?_
        refine mw_iload_n 24 rfl 1 dX10_cools_23 rfl rfl ?_
        refine mw_iconst (v := 0) 25 rfl dX10_cools_24 (by decide) ?_
        refine mw_bipush (v := 99) 27 rfl dX10_cools_25 (by decide) ?_
        refine mw_callVi [.int (99), .int x1547, .int (0), .int (99)] [.int x1842, .int x1547, .ref (G.2.2.2 79)] 30 rfl dX10_cools_27 ml_X10_345 mc_X10_byCell mk_X10_byCell rfl rfl (by decide) (w_X10_byCell l G (d + 0) ⟨by omega, by omega⟩ hI_s1548 (99) (mh_r_wk rc_99 (by decide)) x1547 r_x1547 (0) (mh_r_wk rc_0 (by decide)) (99) (mh_r_wk rc_99 (by decide))) rfl rfl (Nat.le_of_ble_eq_true rfl) (mh_rok (by omega) (by decide)) (fun x1844 s1845 q1846 => ?_)
        obtain ⟨r_x1844, e0_s1845, e1_s1845, hI_s1845, hG_s1845⟩ := q1846
        have hF_s1845 : mh_F S_X10_cools s0 s1845 := mh_F_tl hF_s1548 hG_s1845 (by decide +kernel)
        have r_x1844 : mh_r x1844 (0) (99) := ⟨(r_x1844).1, by have := e1_s1845; have := (rc_99).2; omega⟩
        refine mw_iadd_u 31 rfl dX10_cools_30 (fun x1847 t1848 => ?_)
        refine mw_callSi [.int x1847] [.int x1547, .ref (G.2.2.2 79)] 34 rfl dX10_cools_31 ml_X10_352 mc_X10_bounded mk_X10_bounded (w_X10_bounded l G (d + 6) ⟨by omega, by omega⟩ hI_s1845 x1847) rfl rfl (Nat.le_of_ble_eq_true rfl) (mh_rok (by omega) (by decide)) (fun x1849 s1850 q1851 => ?_)
        obtain ⟨r_x1849, rfl⟩ := q1851
        refine mw_iast 35 rfl dX10_cools_34 rfl r_x1547 (by decide) (fun s1852 t1853 => ?_)
        have hI_s1852 : mh_I B D s1852 := by rw [t1853]; exact wr_79 hI_s1845
        have hF_s1852 : mh_F S_X10_cools s0 s1852 := by rw [t1853]; exact mh_F_pI hF_s1845 (mh_si 7 rfl)
        refine mw_aload_n 36 rfl 0 dX10_cools_35 rfl rfl ?_
        refine mw_geta 39 rfl dX10_cools_36 gf_X10_82 rfl 80 (mh_rf hI_s1852 77 rfl) ?_
        refine mw_iload_n 40 rfl 1 dX10_cools_39 rfl rfl ?_
        refine mw_aload_n 41 rfl 0 dX10_cools_40 rfl rfl ?_
        refine mw_geta 44 rfl dX10_cools_41 gf_X10_27 rfl 62 (mh_rf hI_s1852 59 rfl) ?_
        refine mw_iload_n 45 rfl 1 dX10_cools_44 rfl rfl ?_
        refine mw_iald 46 rfl dX10_cools_45 rfl r_x1547 (by decide) (fun x1854 t1855 => ?_)
        refine mw_aload_n 47 rfl 0 dX10_cools_46 rfl rfl ?_
        refine mw_bipush (v := 119) 49 rfl dX10_cools_47 (by decide) ?_
        refine mw_iload_n 50 rfl 1 dX10_cools_49 rfl rfl ?_
        refine mw_iconst (v := 0) 51 rfl dX10_cools_50 (by decide) ?_
        refine mw_bipush (v := 99) 53 rfl dX10_cools_51 (by decide) ?_
        refine mw_callVi [.int (119), .int x1547, .int (0), .int (99)] [.int x1854, .int x1547, .ref (G.2.2.2 80)] 56 rfl dX10_cools_53 ml_X10_345 mc_X10_byCell mk_X10_byCell rfl rfl (by decide) (w_X10_byCell l G (d + 0) ⟨by omega, by omega⟩ hI_s1852 (119) (mh_r_wk rc_119 (by decide)) x1547 r_x1547 (0) (mh_r_wk rc_0 (by decide)) (99) (mh_r_wk rc_99 (by decide))) rfl rfl (Nat.le_of_ble_eq_true rfl) (mh_rok (by omega) (by decide)) (fun x1856 s1857 q1858 => ?_)
        obtain ⟨r_x1856, e0_s1857, e1_s1857, hI_s1857, hG_s1857⟩ := q1858
        have hF_s1857 : mh_F S_X10_cools s0 s1857 := mh_F_tl hF_s1852 hG_s1857 (by decide +kernel)
        have r_x1856 : mh_r x1856 (0) (99) := ⟨(r_x1856).1, by have := e1_s1857; have := (rc_99).2; omega⟩
        refine mw_iadd_u 57 rfl dX10_cools_56 (fun x1859 t1860 => ?_)
        refine mw_aload_n 58 rfl 0 dX10_cools_57 rfl rfl ?_
        refine mw_bipush (v := 115) 60 rfl dX10_cools_58 (by decide) ?_
        refine mw_iload_n 61 rfl 1 dX10_cools_60 rfl rfl ?_
        refine mw_iconst (v := 0) 62 rfl dX10_cools_61 (by decide) ?_
        refine mw_bipush (v := 99) 64 rfl dX10_cools_62 (by decide) ?_
        refine mw_callVi [.int (115), .int x1547, .int (0), .int (99)] [.int x1859, .int x1547, .ref (G.2.2.2 80)] 67 rfl dX10_cools_64 ml_X10_345 mc_X10_byCell mk_X10_byCell rfl rfl (by decide) (w_X10_byCell l G (d + 0) ⟨by omega, by omega⟩ hI_s1857 (115) (mh_r_wk rc_115 (by decide)) x1547 r_x1547 (0) (mh_r_wk rc_0 (by decide)) (99) (mh_r_wk rc_99 (by decide))) rfl rfl (Nat.le_of_ble_eq_true rfl) (mh_rok (by omega) (by decide)) (fun x1861 s1862 q1863 => ?_)
        obtain ⟨r_x1861, e0_s1862, e1_s1862, hI_s1862, hG_s1862⟩ := q1863
        have hF_s1862 : mh_F S_X10_cools s0 s1862 := mh_F_tl hF_s1857 hG_s1862 (by decide +kernel)
        have r_x1861 : mh_r x1861 (0) (99) := ⟨(r_x1861).1, by have := e1_s1862; have := (rc_99).2; omega⟩
        refine mw_isub_u 68 rfl dX10_cools_67 (fun x1864 t1865 => ?_)
        refine mw_callSi [.int x1864] [.int x1547, .ref (G.2.2.2 80)] 71 rfl dX10_cools_68 ml_X10_352 mc_X10_bounded mk_X10_bounded (w_X10_bounded l G (d + 6) ⟨by omega, by omega⟩ hI_s1862 x1864) rfl rfl (Nat.le_of_ble_eq_true rfl) (mh_rok (by omega) (by decide)) (fun x1866 s1867 q1868 => ?_)
        obtain ⟨r_x1866, rfl⟩ := q1868
        refine mw_iast 72 rfl dX10_cools_71 rfl r_x1547 (by decide) (fun s1869 t1870 => ?_)
        have hI_s1869 : mh_I B D s1869 := by rw [t1870]; exact wr_80 hI_s1862
        have hF_s1869 : mh_F S_X10_cools s0 s1869 := by rw [t1870]; exact mh_F_pI hF_s1862 (mh_si 8 rfl)
        refine mw_iincR (k := 1) (1) (144) 75 rfl (fun z => [(1, .int z), (0, .ref (G.2.2.2 57))]) dX10_cools_72 rfl (by decide) (fun _ => rfl) r_x1547 (by decide) (by decide) (fun x1871 t1872 r_x1871 => ?_)
        refine mw_goto 78 rfl 2 dX10_cools_75 (by decide) ?_
        exact mw_lv [1, 0] rfl (ihn1 x1871 s1869 (mh_r_wk r_x1871 (by decide)) hI_s1869 hF_s1869 (by have : x1871.toInt = x1547.toInt + (1) := t1872; omega))
  exact mw_lv [1, 0] rfl (L2 145 (0) s0 (mh_r_wk rc_0 (by decide)) hI0 hF0 (by have := (rc_0).1; have := (rc_0).2; omega))

def S_X10_runsDown : List (Nat × Nat) := [(82, 9999), (81, 9999), (61, 9999), (57, 4)]
def P_X10_runsDown (B D : Int) (s0 : mh_H) : mh_H → Prop := fun s => mh_I B D s ∧ mh_F S_X10_runsDown s0 s
set_option maxRecDepth 100000 in
set_option maxHeartbeats 4000000 in
theorem w_X10_runsDown (l : Launch) (G : mh_G) (d : Nat) {B D : Int} (hB : B ≤ 1960000000 ∧ D ≤ 1960000000) {s0 : mh_H} (hI0 : mh_I B D s0) : mh_Mv l G (d + 2) mM_X10_runsDown [.ref (G.2.2.2 57)] s0 (P_X10_runsDown B D s0) := by
  refine mh_enter (lv := [(0, .ref (G.2.2.2 57))]) (by decide) rfl (Nat.le_of_ble_eq_true rfl) ?_
  have hF0 : mh_F S_X10_runsDown s0 s0 := mh_F_rf
  refine mw_iconst (v := 0) 1 rfl dX10_runsDown_0 (by decide) ?_
  refine mw_istore_n 2 rfl [(1, .int (0)), (0, .ref (G.2.2.2 57))] dX10_runsDown_1 rfl (by decide) rfl ?_
  have L2 : ∀ n1 : Nat, ∀ (x1693 : Int32) (s1694 : mh_H), mh_r x1693 (0) (144) → mh_I B D s1694 → mh_F S_X10_runsDown s0 s1694 → (144) - x1693.toInt < (n1 : Int) → mh_W G (mh_XM l G (d + 2) (mh_Qv (P_X10_runsDown B D s0))) mM_X10_runsDown 2 [(0, .ref (G.2.2.2 57)), (1, .int x1693)] [] s1694 := by
    intro n1
    induction n1 with
    | zero =>
      intro x1693 s1694 r_x1693 hI_s1694 hF_s1694 hmn1
      exact absurd hmn1 (by have := r_x1693.1; have := r_x1693.2; omega)
    | succ n1 ihn1 =>
      intro x1693 s1694 r_x1693 hI_s1694 hF_s1694 hmn1
      refine mw_iload_n 3 rfl 1 dX10_runsDown_2 rfl rfl ?_
      refine mw_sipush (v := 144) 6 rfl dX10_runsDown_3 (by decide) ?_
      refine mw_icmp_ge 9 rfl 82 dX10_runsDown_6 (by decide) (fun c1729 => ?_) (fun c1729 => ?_)
      · skip
        have r_x1693 : mh_r x1693 (144) (144) := mh_le2 c1729 rc_144 r_x1693 (144) (by decide)
        refine mw_iconst (v := 0) 83 rfl dX10_runsDown_82 (by decide) ?_
        refine mw_istore_n 84 rfl [(1, .int (0)), (0, .ref (G.2.2.2 57))] dX10_runsDown_83 rfl (by decide) rfl ?_
        have L84 : ∀ n2 : Nat, ∀ (x2014 : Int32) (s2015 : mh_H), mh_r x2014 (0) (144) → mh_I B D s2015 → mh_F S_X10_runsDown s0 s2015 → (144) - x2014.toInt < (n2 : Int) → mh_W G (mh_XM l G (d + 2) (mh_Qv (P_X10_runsDown B D s0))) mM_X10_runsDown 84 [(0, .ref (G.2.2.2 57)), (1, .int x2014)] [] s2015 := by
          intro n2
          induction n2 with
          | zero =>
            intro x2014 s2015 r_x2014 hI_s2015 hF_s2015 hmn2
            exact absurd hmn2 (by have := r_x2014.1; have := r_x2014.2; omega)
          | succ n2 ihn2 =>
            intro x2014 s2015 r_x2014 hI_s2015 hF_s2015 hmn2
            refine mw_iload_n 85 rfl 1 dX10_runsDown_84 rfl rfl ?_
            refine mw_sipush (v := 144) 88 rfl dX10_runsDown_85 (by decide) ?_
            refine mw_icmp_ge 91 rfl 128 dX10_runsDown_88 (by decide) (fun c2038 => ?_) (fun c2038 => ?_)
            · skip
              have r_x2014 : mh_r x2014 (144) (144) := mh_le2 c2038 rc_144 r_x2014 (144) (by decide)
              refine mw_iconst (v := 0) 129 rfl dX10_runsDown_128 (by decide) ?_
              refine mw_istore_n 130 rfl [(1, .int (0)), (0, .ref (G.2.2.2 57))] dX10_runsDown_129 rfl (by decide) rfl ?_
              have L130 : ∀ n3 : Nat, ∀ (x2232 : Int32) (s2233 : mh_H), mh_r x2232 (0) (144) → mh_I B D s2233 → mh_F S_X10_runsDown s0 s2233 → (144) - x2232.toInt < (n3 : Int) → mh_W G (mh_XM l G (d + 2) (mh_Qv (P_X10_runsDown B D s0))) mM_X10_runsDown 130 [(0, .ref (G.2.2.2 57)), (1, .int x2232)] [] s2233 := by
                intro n3
                induction n3 with
                | zero =>
                  intro x2232 s2233 r_x2232 hI_s2233 hF_s2233 hmn3
                  exact absurd hmn3 (by have := r_x2232.1; have := r_x2232.2; omega)
                | succ n3 ihn3 =>
                  intro x2232 s2233 r_x2232 hI_s2233 hF_s2233 hmn3
                  refine mw_iload_n 131 rfl 1 dX10_runsDown_130 rfl rfl ?_
                  refine mw_sipush (v := 144) 134 rfl dX10_runsDown_131 (by decide) ?_
                  refine mw_icmp_ge 137 rfl 163 dX10_runsDown_134 (by decide) (fun c2249 => ?_) (fun c2249 => ?_)
                  · skip
                    have r_x2232 : mh_r x2232 (144) (144) := mh_le2 c2249 rc_144 r_x2232 (144) (by decide)
                    refine mw_iconst (v := 0) 164 rfl dX10_runsDown_163 (by decide) ?_
                    refine mw_istore_n 165 rfl [(1, .int (0)), (0, .ref (G.2.2.2 57))] dX10_runsDown_164 rfl (by decide) rfl ?_
                    have L165 : ∀ n4 : Nat, ∀ (x2417 : Int32) (s2418 : mh_H), mh_r x2417 (0) (144) → mh_I B D s2418 → mh_F S_X10_runsDown s0 s2418 → (144) - x2417.toInt < (n4 : Int) → mh_W G (mh_XM l G (d + 2) (mh_Qv (P_X10_runsDown B D s0))) mM_X10_runsDown 165 [(0, .ref (G.2.2.2 57)), (1, .int x2417)] [] s2418 := by
                      intro n4
                      induction n4 with
                      | zero =>
                        intro x2417 s2418 r_x2417 hI_s2418 hF_s2418 hmn4
                        exact absurd hmn4 (by have := r_x2417.1; have := r_x2417.2; omega)
                      | succ n4 ihn4 =>
                        intro x2417 s2418 r_x2417 hI_s2418 hF_s2418 hmn4
                        refine mw_iload_n 166 rfl 1 dX10_runsDown_165 rfl rfl ?_
                        refine mw_sipush (v := 144) 169 rfl dX10_runsDown_166 (by decide) ?_
                        refine mw_icmp_ge 172 rfl 208 dX10_runsDown_169 (by decide) (fun c2432 => ?_) (fun c2432 => ?_)
                        · skip
                          have r_x2417 : mh_r x2417 (144) (144) := mh_le2 c2432 rc_144 r_x2417 (144) (by decide)
                          exact mw_vret dX10_runsDown_208 rfl ⟨rfl, ⟨hI_s2418, hF_s2418⟩⟩
                        · skip
                          have r_x2417 : mh_r x2417 (0) (143) := mh_lt1 c2432 r_x2417 rc_144 (143) (by decide)
                          refine mw_aload_n 173 rfl 0 dX10_runsDown_172 rfl rfl ?_
                          refine mw_geta 176 rfl dX10_runsDown_173 gf_X10_24 rfl 61 (mh_rf hI_s2418 58 rfl) ?_
                          refine mw_iload_n 177 rfl 1 dX10_runsDown_176 rfl rfl ?_
                          refine mw_aload_n 178 rfl 0 dX10_runsDown_177 rfl rfl ?_
                          refine mw_geta 181 rfl dX10_runsDown_178 gf_X10_24 rfl 61 (mh_rf hI_s2418 58 rfl) ?_
                          refine mw_iload_n 182 rfl 1 dX10_runsDown_181 rfl rfl ?_
                          refine mw_iald 183 rfl dX10_runsDown_182 rfl r_x2417 (by decide) (fun x2433 t2434 => ?_)
                          refine mw_sipush (v := 9999) 186 rfl dX10_runsDown_183 (by decide) ?_
                          have J201 : ∀ (x2438 : Int32), mh_r x2438 (-2147483648) (9999) → mh_W G (mh_XM l G (d + 2) (mh_Qv (P_X10_runsDown B D s0))) mM_X10_runsDown 201 [(0, .ref (G.2.2.2 57)), (1, .int x2417)] [.int x2438, .int x2417, .ref (G.2.2.2 61)] s2418 := by
                            intro x2438 r_x2438
                            refine mw_iast 202 rfl dX10_runsDown_201 rfl r_x2417 (by decide) (fun s2443 t2444 => ?_)
                            have hI_s2443 : mh_I B D s2443 := by rw [t2444]; exact wr_61 hI_s2418
                            have hF_s2443 : mh_F S_X10_runsDown s0 s2443 := by rw [t2444]; exact mh_F_pI hF_s2418 (mh_si 2 rfl)
                            refine mw_iincR (k := 1) (1) (144) 205 rfl (fun z => [(1, .int z), (0, .ref (G.2.2.2 57))]) dX10_runsDown_202 rfl (by decide) (fun _ => rfl) r_x2417 (by decide) (by decide) (fun x2445 t2446 r_x2445 => ?_)
                            refine mw_goto 208 rfl 165 dX10_runsDown_205 (by decide) ?_
                            exact mw_lv [1, 0] rfl (ihn4 x2445 s2443 (mh_r_wk r_x2445 (by decide)) hI_s2443 hF_s2443 (by have : x2445.toInt = x2417.toInt + (1) := t2446; omega))
                          refine mw_icmp_le 189 rfl 195 dX10_runsDown_186 (by decide) (fun c2447 => ?_) (fun c2447 => ?_)
                          · skip
                            have r_x2433 : mh_r x2433 (-2147483648) (9999) := mh_le1 c2447 (mh_r_full x2433) rc_9999 (9999) (by decide)
                            refine mw_aload_n 196 rfl 0 dX10_runsDown_195 rfl rfl ?_
                            refine mw_geta 199 rfl dX10_runsDown_196 gf_X10_24 rfl 61 (mh_rf hI_s2418 58 rfl) ?_
                            refine mw_iload_n 200 rfl 1 dX10_runsDown_199 rfl rfl ?_
                            refine mw_iald 201 rfl dX10_runsDown_200 rfl r_x2417 (by decide) (fun x2448 t2449 => ?_)
                            obtain rfl : x2433 = x2448 := t2434.trans t2449.symm
                            exact mw_lv [0, 1] rfl (J201 x2433 r_x2433)
                          · skip
                            have r_x2433 : mh_r x2433 (10000) (2147483647) := mh_lt2 c2447 rc_9999 (mh_r_full x2433) (10000) (by decide)
                            refine mw_sipush (v := 9999) 192 rfl dX10_runsDown_189 (by decide) ?_
                            refine mw_goto 195 rfl 201 dX10_runsDown_192 (by decide) ?_
                            exact mw_lv [0, 1] rfl (J201 (9999) (mh_r_wk rc_9999 (by decide)))
                    exact mw_lv [1, 0] rfl (L165 145 (0) s2233 (mh_r_wk rc_0 (by decide)) hI_s2233 hF_s2233 (by have := (rc_0).1; have := (rc_0).2; omega))
                  · skip
                    have r_x2232 : mh_r x2232 (0) (143) := mh_lt1 c2249 r_x2232 rc_144 (143) (by decide)
                    refine mw_aload_n 138 rfl 0 dX10_runsDown_137 rfl rfl ?_
                    refine mw_geta 141 rfl dX10_runsDown_138 gf_X10_24 rfl 61 (mh_rf hI_s2233 58 rfl) ?_
                    refine mw_aload_n 142 rfl 0 dX10_runsDown_141 rfl rfl ?_
                    refine mw_geta 145 rfl dX10_runsDown_142 gf_X10_88 rfl 82 (mh_rf hI_s2233 79 rfl) ?_
                    refine mw_iload_n 146 rfl 1 dX10_runsDown_145 rfl rfl ?_
                    refine mw_iald 147 rfl dX10_runsDown_146 rfl r_x2232 (by decide) (fun x2450 t2451 => ?_)
                    have r_x2450 : mh_r x2450 (0) (143) := by rw [t2451]; exact rd_82 hI_s2233 _
                    refine mw_dup2 148 rfl dX10_runsDown_147 rfl rfl ?_
                    refine mw_iald 149 rfl dX10_runsDown_148 rfl r_x2450 (by decide) (fun x2452 t2453 => ?_)
                    refine mw_aload_n 150 rfl 0 dX10_runsDown_149 rfl rfl ?_
                    refine mw_geta 153 rfl dX10_runsDown_150 gf_X10_85 rfl 81 (mh_rf hI_s2233 78 rfl) ?_
                    refine mw_iload_n 154 rfl 1 dX10_runsDown_153 rfl rfl ?_
                    refine mw_iald 155 rfl dX10_runsDown_154 rfl r_x2232 (by decide) (fun x2454 t2455 => ?_)
                    refine mw_iadd_u 156 rfl dX10_runsDown_155 (fun x2456 t2457 => ?_)
                    refine mw_iast 157 rfl dX10_runsDown_156 rfl r_x2450 (by decide) (fun s2458 t2459 => ?_)
                    have hI_s2458 : mh_I B D s2458 := by rw [t2459]; exact wr_61 hI_s2233
                    have hF_s2458 : mh_F S_X10_runsDown s0 s2458 := by rw [t2459]; exact mh_F_pI hF_s2233 (mh_si 2 rfl)
                    refine mw_iincR (k := 1) (1) (144) 160 rfl (fun z => [(1, .int z), (0, .ref (G.2.2.2 57))]) dX10_runsDown_157 rfl (by decide) (fun _ => rfl) r_x2232 (by decide) (by decide) (fun x2460 t2461 r_x2460 => ?_)
                    refine mw_goto 163 rfl 130 dX10_runsDown_160 (by decide) ?_
                    exact mw_lv [1, 0] rfl (ihn3 x2460 s2458 (mh_r_wk r_x2460 (by decide)) hI_s2458 hF_s2458 (by have : x2460.toInt = x2232.toInt + (1) := t2461; omega))
              exact mw_lv [1, 0] rfl (L130 145 (0) s2015 (mh_r_wk rc_0 (by decide)) hI_s2015 hF_s2015 (by have := (rc_0).1; have := (rc_0).2; omega))
            · skip
              have r_x2014 : mh_r x2014 (0) (143) := mh_lt1 c2038 r_x2014 rc_144 (143) (by decide)
              refine mw_aload_n 92 rfl 0 dX10_runsDown_91 rfl rfl ?_
              refine mw_geta 95 rfl dX10_runsDown_92 gf_X10_24 rfl 61 (mh_rf hI_s2015 58 rfl) ?_
              refine mw_iload_n 96 rfl 1 dX10_runsDown_95 rfl rfl ?_
              refine mw_dup2 97 rfl dX10_runsDown_96 rfl rfl ?_
              refine mw_iald 98 rfl dX10_runsDown_97 rfl r_x2014 (by decide) (fun x2462 t2463 => ?_)
              refine mw_aload_n 99 rfl 0 dX10_runsDown_98 rfl rfl ?_
              refine mw_geta 102 rfl dX10_runsDown_99 gf_X10_85 rfl 81 (mh_rf hI_s2015 78 rfl) ?_
              refine mw_iload_n 103 rfl 1 dX10_runsDown_102 rfl rfl ?_
              refine mw_iald 104 rfl dX10_runsDown_103 rfl r_x2014 (by decide) (fun x2464 t2465 => ?_)
              refine mw_isub_u 105 rfl dX10_runsDown_104 (fun x2466 t2467 => ?_)
              refine mw_iast 106 rfl dX10_runsDown_105 rfl r_x2014 (by decide) (fun s2468 t2469 => ?_)
              have hI_s2468 : mh_I B D s2468 := by rw [t2469]; exact wr_61 hI_s2015
              have hF_s2468 : mh_F S_X10_runsDown s0 s2468 := by rw [t2469]; exact mh_F_pI hF_s2015 (mh_si 2 rfl)
              refine mw_aload_n 107 rfl 0 dX10_runsDown_106 rfl rfl ?_
              refine mw_dup 108 rfl dX10_runsDown_107 rfl ?_
              refine mw_getl 111 rfl dX10_runsDown_108 gf_X10_361 rfl (fun y2470 _ => ?_)
              refine mw_aload_n 112 rfl 0 dX10_runsDown_111 rfl rfl ?_
              refine mw_geta 115 rfl dX10_runsDown_112 gf_X10_85 rfl 81 (mh_rf hI_s2468 78 rfl) ?_
              refine mw_iload_n 116 rfl 1 dX10_runsDown_115 rfl rfl ?_
              refine mw_iald 117 rfl dX10_runsDown_116 rfl r_x2014 (by decide) (fun x2471 t2472 => ?_)
              have t2473 : x2464 = s2468.1 81 x2014.toNatClampNeg := by rw [t2469]; exact (t2465).trans (mh_pI_n (by omega)).symm
              obtain rfl : x2464 = x2471 := t2473.trans t2472.symm
              refine mw_i2l 118 rfl dX10_runsDown_117 (fun y2474 t2475 => ?_)
              refine mw_ladd 119 rfl dX10_runsDown_118 (fun y2476 t2477 => ?_)
              refine mw_putl 122 rfl dX10_runsDown_119 pf_X10_361 rfl (fun s2478 t2479 => ?_)
              have hI_s2478 : mh_I B D s2478 := by rw [t2479]; exact mh_I_pL hI_s2468
              have hF_s2478 : mh_F S_X10_runsDown s0 s2478 := by rw [t2479]; exact mh_F_pL hF_s2468 (mh_sj 3 rfl)
              refine mw_iincR (k := 1) (1) (144) 125 rfl (fun z => [(1, .int z), (0, .ref (G.2.2.2 57))]) dX10_runsDown_122 rfl (by decide) (fun _ => rfl) r_x2014 (by decide) (by decide) (fun x2480 t2481 r_x2480 => ?_)
              refine mw_goto 128 rfl 84 dX10_runsDown_125 (by decide) ?_
              exact mw_lv [1, 0] rfl (ihn2 x2480 s2478 (mh_r_wk r_x2480 (by decide)) hI_s2478 hF_s2478 (by have : x2480.toInt = x2014.toInt + (1) := t2481; omega))
        exact mw_lv [1, 0] rfl (L84 145 (0) s1694 (mh_r_wk rc_0 (by decide)) hI_s1694 hF_s1694 (by have := (rc_0).1; have := (rc_0).2; omega))
      · skip
        have r_x1693 : mh_r x1693 (0) (143) := mh_lt1 c1729 r_x1693 rc_144 (143) (by decide)
        refine mw_aload_n 10 rfl 0 dX10_runsDown_9 rfl rfl ?_
        refine mw_iload_n 11 rfl 1 dX10_runsDown_10 rfl rfl ?_
        refine mw_callVi [.int x1693] [] 14 rfl dX10_runsDown_11 ml_X10_358 mc_X10_lowestBeside mk_X10_lowestBeside rfl rfl (by decide) (w_X10_lowestBeside l G (d + 0) ⟨by omega, by omega⟩ hI_s1694 x1693 r_x1693) rfl rfl (Nat.le_of_ble_eq_true rfl) (mh_rok (by omega) (by decide)) (fun x2482 s2483 q2484 => ?_)
        obtain ⟨r_x2482, rfl⟩ := q2484
        refine mw_istore_n 15 rfl [(2, .int x2482), (0, .ref (G.2.2.2 57)), (1, .int x1693)] dX10_runsDown_14 rfl (by decide) rfl ?_
        refine mw_aload_n 16 rfl 1 dX10_runsDown_15 rfl rfl ?_
        refine mw_iload_n 17 rfl 2 dX10_runsDown_16 rfl rfl ?_
        refine mw_callVi [.int x1693] [] 20 rfl dX10_runsDown_17 ml_X10_355 mc_X10_levelAt mk_X10_levelAt rfl rfl (by decide) (w_X10_levelAt l G (d + 1) ⟨by omega, by omega⟩ hI_s1694 x1693 r_x1693) rfl rfl (Nat.le_of_ble_eq_true rfl) (mh_rok (by omega) (by decide)) (fun x2485 s2486 q2487 => ?_)
        obtain ⟨r_x2485, rfl⟩ := q2487
        refine mw_aload_n 21 rfl 1 dX10_runsDown_20 rfl rfl ?_
        refine mw_iload_n 22 rfl 0 dX10_runsDown_21 rfl rfl ?_
        refine mw_callVi [.int x2482] [.int x2485] 25 rfl dX10_runsDown_22 ml_X10_355 mc_X10_levelAt mk_X10_levelAt rfl rfl (by decide) (w_X10_levelAt l G (d + 1) ⟨by omega, by omega⟩ hI_s1694 x2482 r_x2482) rfl rfl (Nat.le_of_ble_eq_true rfl) (mh_rok (by omega) (by decide)) (fun x2488 s2489 q2490 => ?_)
        obtain ⟨r_x2488, rfl⟩ := q2490
        refine mw_isub_u 26 rfl dX10_runsDown_25 (fun x2491 t2492 => ?_)
        refine mw_istore_n 27 rfl [(3, .int x2491), (2, .int x2482), (0, .ref (G.2.2.2 57)), (1, .int x1693)] dX10_runsDown_26 rfl (by decide) rfl ?_
        refine mw_aload_n 28 rfl 2 dX10_runsDown_27 rfl rfl ?_
        refine mw_geta 31 rfl dX10_runsDown_28 gf_X10_24 rfl 61 (mh_rf hI_s1694 58 rfl) ?_
        refine mw_iload_n 32 rfl 3 dX10_runsDown_31 rfl rfl ?_
        refine mw_iald 33 rfl dX10_runsDown_32 rfl r_x1693 (by decide) (fun x2493 t2494 => ?_)
        refine mw_iconst (v := 3) 34 rfl dX10_runsDown_33 (by decide) ?_
        refine mw_iadd_u 35 rfl dX10_runsDown_34 (fun x2495 t2496 => ?_)
        refine mw_iconst (v := 4) 36 rfl dX10_runsDown_35 (by decide) ?_
        refine mw_idiv 37 rfl (-2147483648) (2147483647) dX10_runsDown_36 (mh_r_full x2495) rc_4 (by decide) (fun x2497 t2498 r_x2497 => ?_)
        have r_x2497 : mh_r x2497 (-536870912) (536870911) := mh_dvc t2498 (mh_r_full x2495) (by decide) (by decide)
        refine mw_istore 39 rfl [(4, .int x2497), (3, .int x2491), (2, .int x2482), (0, .ref (G.2.2.2 57)), (1, .int x1693)] dX10_runsDown_37  (by decide) rfl ?_
        refine mw_aload_n 40 rfl 3 dX10_runsDown_39 rfl rfl ?_
        refine mw_geta 43 rfl dX10_runsDown_40 gf_X10_88 rfl 82 (mh_rf hI_s1694 79 rfl) ?_
        refine mw_iload_n 44 rfl 4 dX10_runsDown_43 rfl rfl ?_
        refine mw_iload_n 45 rfl 2 dX10_runsDown_44 rfl rfl ?_
        refine mw_iast 46 rfl dX10_runsDown_45 rfl r_x1693 (by decide) (fun s2499 t2500 => ?_)
        have hI_s2499 : mh_I B D s2499 := by rw [t2500]; exact wr_82 hI_s1694 r_x2482
        have hF_s2499 : mh_F S_X10_runsDown s0 s2499 := by rw [t2500]; exact mh_F_pI hF_s1694 (mh_si 0 rfl)
        refine mw_aload_n 47 rfl 3 dX10_runsDown_46 rfl rfl ?_
        refine mw_geta 50 rfl dX10_runsDown_47 gf_X10_85 rfl 81 (mh_rf hI_s2499 78 rfl) ?_
        refine mw_iload_n 51 rfl 4 dX10_runsDown_50 rfl rfl ?_
        refine mw_iload_n 52 rfl 1 dX10_runsDown_51 rfl rfl ?_
        have J75 : ∀ (x2508 : Int32), mh_r x2508 (-536870912) (536870911) → mh_W G (mh_XM l G (d + 2) (mh_Qv (P_X10_runsDown B D s0))) mM_X10_runsDown 75 [(0, .ref (G.2.2.2 57)), (1, .int x1693), (2, .int x2482), (3, .int x2491), (4, .int x2497)] [.int x2508, .int x1693, .ref (G.2.2.2 81)] s2499 := by
          intro x2508 r_x2508
          refine mw_iast 76 rfl dX10_runsDown_75 rfl r_x1693 (by decide) (fun s2513 t2514 => ?_)
          have hI_s2513 : mh_I B D s2513 := by rw [t2514]; exact wr_81 hI_s2499
          have hF_s2513 : mh_F S_X10_runsDown s0 s2513 := by rw [t2514]; exact mh_F_pI hF_s2499 (mh_si 1 rfl)
          refine mw_iincR (k := 1) (1) (144) 79 rfl (fun z => [(1, .int z), (0, .ref (G.2.2.2 57)), (2, .int x2482), (3, .int x2491), (4, .int x2497)]) dX10_runsDown_76 rfl (by decide) (fun _ => rfl) r_x1693 (by decide) (by decide) (fun x2515 t2516 r_x2515 => ?_)
          refine mw_goto 82 rfl 2 dX10_runsDown_79 (by decide) ?_
          exact mw_lv [1, 0] rfl (ihn1 x2515 s2513 (mh_r_wk r_x2515 (by decide)) hI_s2513 hF_s2513 (by have : x2515.toInt = x1693.toInt + (1) := t2516; omega))
        refine mw_if_gt 55 rfl 59 dX10_runsDown_52 (by decide) (fun c2517 => ?_) (fun c2517 => ?_)
        · skip
          have r_x2491 : mh_r x2491 (1) (2147483647) := mh_lt2 (show (0 : Int32).toInt < x2491.toInt from c2517) rc_0 (mh_r_full x2491) (1) (by decide)
          refine mw_iload 61 rfl 0 dX10_runsDown_59  rfl ?_
          refine mw_iload_n 62 rfl 1 dX10_runsDown_61 rfl rfl ?_
          refine mw_iconst (v := 2) 63 rfl dX10_runsDown_62 (by decide) ?_
          refine mw_idiv 64 rfl (0) (2147483647) dX10_runsDown_63 r_x2491 rc_2 (by decide) (fun x2518 t2519 r_x2518 => ?_)
          have r_x2518 : mh_r x2518 (0) (1073741823) := mh_dvc t2519 r_x2491 (by decide) (by decide)
          have g2520 : x2518.toInt = x2491.toInt / 2 := mh_dve t2519 (by have := (r_x2491).1; omega) (by decide)
          refine mw_icmp_ge 67 rfl 72 dX10_runsDown_64 (by decide) (fun c2521 => ?_) (fun c2521 => ?_)
          · skip
            have r_x2518 : mh_r x2518 (0) (536870911) := mh_le1 c2521 r_x2518 r_x2497 (536870911) (by decide)
            have r_x2491 : mh_r x2491 (1) (1073741823) := by have := g2520; have := (r_x2491).1; have := (r_x2491).2; have := (r_x2518).1; have := (r_x2518).2; exact ⟨by omega, by omega⟩
            have r_x2497 : mh_r x2497 (0) (536870911) := mh_le2 c2521 r_x2518 r_x2497 (0) (by decide)
            refine mw_iload_n 73 rfl 1 dX10_runsDown_72 rfl rfl ?_
            refine mw_iconst (v := 2) 74 rfl dX10_runsDown_73 (by decide) ?_
            refine mw_idiv 75 rfl (0) (1073741823) dX10_runsDown_74 r_x2491 rc_2 (by decide) (fun x2522 t2523 r_x2522 => ?_)
            obtain rfl : x2518 = x2522 := Int32.toInt_inj.mp (t2519.trans t2523.symm)
            exact mw_lv [3, 4, 2, 1, 0] rfl (J75 x2518 (mh_r_wk r_x2518 (by decide)))
          · skip
            refine mw_iload 69 rfl 0 dX10_runsDown_67  rfl ?_
            refine mw_goto 72 rfl 75 dX10_runsDown_69 (by decide) ?_
            exact mw_lv [3, 4, 2, 1, 0] rfl (J75 x2497 r_x2497)
        · skip
          have r_x2491 : mh_r x2491 (-2147483648) (0) := mh_le1 (show x2491.toInt ≤ (0 : Int32).toInt from c2517) (mh_r_full x2491) rc_0 (0) (by decide)
          refine mw_iconst (v := 0) 56 rfl dX10_runsDown_55 (by decide) ?_
          refine mw_goto 59 rfl 75 dX10_runsDown_56 (by decide) ?_
          exact mw_lv [3, 4, 2, 1, 0] rfl (J75 (0) (mh_r_wk rc_0 (by decide)))
  exact mw_lv [1, 0] rfl (L2 145 (0) s0 (mh_r_wk rc_0 (by decide)) hI0 hF0 (by have := (rc_0).1; have := (rc_0).2; omega))

def S_X10_stepOne : List (Nat × Nat) := [(57, 33), (57, 34), (57, 35), (57, 36), (57, 37), (78, 9999), (77, 9999), (79, 9999), (80, 9999), (61, 9999), (62, 9999), (82, 9999), (81, 9999), (57, 4), (57, 2)]
def P_X10_stepOne (B D : Int) (s0 : mh_H) : mh_H → Prop := fun s => mh_I (B + 1) D s ∧ mh_F S_X10_stepOne s0 s
set_option maxRecDepth 100000 in
set_option maxHeartbeats 4000000 in
theorem w_X10_stepOne (l : Launch) (G : mh_G) (d : Nat) {B D : Int} (hB : B ≤ 1840000000 ∧ D ≤ 1840000000) {s0 : mh_H} (hI0 : mh_I B D s0) : mh_Mv l G (d + 8) mM_X10_stepOne [.ref (G.2.2.2 57)] s0 (P_X10_stepOne B D s0) := by
  refine mh_enter (lv := [(0, .ref (G.2.2.2 57))]) (by decide) rfl (Nat.le_of_ble_eq_true rfl) ?_
  have hF0 : mh_F S_X10_stepOne s0 s0 := mh_F_rf
  refine mw_aload_n 1 rfl 0 dX10_stepOne_0 rfl rfl ?_
  refine mw_callVv [] [] 4 rfl dX10_stepOne_1 ml_X10_365 mc_X10_cools mk_X10_cools rfl rfl (by decide) (w_X10_cools l G (d + 0) ⟨by omega, by omega⟩ hI0) rfl rfl (Nat.le_of_ble_eq_true rfl) (mh_rok (by omega) (by decide)) (fun s14 q15 => ?_)
  obtain ⟨hI_s14, hG_s14⟩ := q15
  have hF_s14 : mh_F S_X10_stepOne s0 s14 := mh_F_tl hF0 hG_s14 (by decide +kernel)
  refine mw_aload_n 5 rfl 0 dX10_stepOne_4 rfl rfl ?_
  refine mw_callVv [] [] 8 rfl dX10_stepOne_5 ml_X10_368 mc_X10_runsDown mk_X10_runsDown rfl rfl (by decide) (w_X10_runsDown l G (d + 5) ⟨by omega, by omega⟩ hI_s14) rfl rfl (Nat.le_of_ble_eq_true rfl) (mh_rok (by omega) (by decide)) (fun s17 q18 => ?_)
  obtain ⟨hI_s17, hG_s17⟩ := q18
  have hF_s17 : mh_F S_X10_stepOne s0 s17 := mh_F_tl hF_s14 hG_s17 (by decide +kernel)
  refine mw_aload_n 9 rfl 0 dX10_stepOne_8 rfl rfl ?_
  refine mw_dup 10 rfl dX10_stepOne_9 rfl ?_
  refine mw_geti 13 rfl dX10_stepOne_10 gf_X10_301 rfl (fun x19 t20 => ?_)
  have r_x19 : mh_r x19 (0) (1840000000) := by rw [t20]; exact mh_r_wk (rd_57_2 hI_s17) ⟨by decide, by skip; omega⟩
  refine mw_iconst (v := 1) 14 rfl dX10_stepOne_13 (by decide) ?_
  refine mw_iadd 15 rfl (1) (1840000001) dX10_stepOne_14 r_x19 rc_1 (by decide) (fun x21 t22 r_x21 => ?_)
  refine mw_puti 18 rfl dX10_stepOne_15 pf_X10_301 rfl (fun s23 t24 => ?_)
  have h9 : x21.toInt ≤ (B + 1) := by have h8 : x19.toInt ≤ B := (by rw [t20]; exact (rd_57_2 hI_s17).2); have := kc_1; omega
  have hI_s23 : mh_I (B + 1) D s23 := by rw [t24]; exact mh_I_step hI_s17 ⟨by have := (r_x21).1; omega, h9⟩
  have hF_s23 : mh_F S_X10_stepOne s0 s23 := by rw [t24]; exact mh_F_pI hF_s17 (mh_sj 14 rfl)
  exact mw_vret dX10_stepOne_18 rfl ⟨rfl, ⟨hI_s23, hF_s23⟩⟩

def S_X10_ground : List (Nat × Nat) := [(59, 9999), (60, 9999)]
def P_X10_ground (B D : Int) (s0 : mh_H) (p1 : Int32) (p2 : Int32) (p3 : Int32) (p4 : Int32) : Int32 → mh_H → Prop := fun z s => mh_r z (0) (1) ∧ mh_I B D s ∧ mh_F S_X10_ground s0 s
set_option maxRecDepth 100000 in
set_option maxHeartbeats 4000000 in
theorem w_X10_ground (l : Launch) (G : mh_G) (d : Nat) {B D : Int} (hB : B ≤ 1940000000 ∧ D ≤ 1940000000) {s0 : mh_H} (hI0 : mh_I B D s0) (p1 : Int32) (p2 : Int32) (p3 : Int32) (p4 : Int32) : mh_Mi l G (d + 3) mM_X10_ground [.ref (G.2.2.2 57), .int p1, .int p2, .int p3, .int p4] s0 (P_X10_ground B D s0 p1 p2 p3 p4) := by
  refine mh_enter (lv := [(0, .ref (G.2.2.2 57)), (1, .int p1), (2, .int p2), (3, .int p3), (4, .int p4)]) (by decide) rfl (Nat.le_of_ble_eq_true rfl) ?_
  have hF0 : mh_F S_X10_ground s0 s0 := mh_F_rf
  refine mw_iload_n 1 rfl 1 dX10_ground_0 rfl rfl ?_
  refine mw_iload_n 2 rfl 2 dX10_ground_1 rfl rfl ?_
  refine mw_callSi [.int p1, .int p2] [] 5 rfl dX10_ground_2 ml_X10_166 mc_X10_isCell mk_X10_isCell (w_X10_isCell l G (d + 0) ⟨by omega, by omega⟩ hI0 p1 p2) rfl rfl (Nat.le_of_ble_eq_true rfl) (mh_rok (by omega) (by decide)) (fun x27 s28 q29 => ?_)
  obtain ⟨r_x27, e0_s28, rfl⟩ := q29
  refine mw_if_eq 8 rfl 33 dX10_ground_5 (by decide) (fun c30 => ?_) (fun c30 => ?_)
  · skip
    have r_x27 : mh_r x27 (0) (0) := mh_eq1 (show x27.toInt = (0 : Int32).toInt from c30) r_x27 rc_0 (0) (0) (by decide)
    refine mw_iconst (v := 0) 34 rfl dX10_ground_33 (by decide) ?_
    exact mw_zret dX10_ground_34 rfl (mh_r_wk rc_0 (by decide)) ⟨(0), rfl, ⟨(mh_r_wk rc_0 (by decide)), hI0, hF0⟩⟩
  · skip
    have r_p1 : mh_r p1 (0) (11) := ⟨by have := e0_s28.1 (mh_z1 r_x27 c30); have := ((mh_r_full p1)).1; omega, by have := e0_s28.1 (mh_z1 r_x27 c30); have := ((mh_r_full p1)).2; omega⟩
    have r_p2 : mh_r p2 (0) (11) := ⟨by have := e0_s28.1 (mh_z1 r_x27 c30); have := ((mh_r_full p2)).1; omega, by have := e0_s28.1 (mh_z1 r_x27 c30); have := ((mh_r_full p2)).2; omega⟩
    have r_x27 : mh_r x27 (1) (1) := mh_ne1 (show x27.toInt ≠ (0 : Int32).toInt from c30) r_x27 rc_0 (1) (1) (by decide)
    refine mw_iload_n 9 rfl 3 dX10_ground_8 rfl rfl ?_
    refine mw_i2l 10 rfl dX10_ground_9 (fun y31 t32 => ?_)
    refine mw_lconst (v := 0) 11 rfl dX10_ground_10 (by decide) ?_
    refine mw_ldc2 14 rfl dX10_ground_11 ck_X10_170 ?_
    refine mw_callSi [.long y31, .long (0), .long (99)] [] 17 rfl dX10_ground_14 ml_X10_154 mc_X10_lies mk_X10_lies (w_X10_lies l G (d + 2) ⟨by omega, by omega⟩ hI0 y31 (0) (99)) rfl rfl (Nat.le_of_ble_eq_true rfl) (mh_rok (by omega) (by decide)) (fun x33 s34 q35 => ?_)
    obtain ⟨r_x33, e0_s34, rfl⟩ := q35
    have f_x33 : x33.toInt = 1 ↔ (0 ≤ p3.toInt ∧ p3.toInt ≤ 99) := by rw [e0_s34]; exact by simp only [t32, Int32.toInt_toInt64]; first | done | exact Iff.rfl
    refine mw_if_eq 20 rfl 33 dX10_ground_17 (by decide) (fun c36 => ?_) (fun c36 => ?_)
    · skip
      have r_x33 : mh_r x33 (0) (0) := mh_eq1 (show x33.toInt = (0 : Int32).toInt from c36) r_x33 rc_0 (0) (0) (by decide)
      refine mw_iconst (v := 0) 34 rfl dX10_ground_33 (by decide) ?_
      exact mw_zret dX10_ground_34 rfl (mh_r_wk rc_0 (by decide)) ⟨(0), rfl, ⟨(mh_r_wk rc_0 (by decide)), hI0, hF0⟩⟩
    · skip
      have r_p3 : mh_r p3 (0) (99) := ⟨by have := f_x33.1 (mh_z1 r_x33 c36); have := ((mh_r_full p3)).1; omega, by have := f_x33.1 (mh_z1 r_x33 c36); have := ((mh_r_full p3)).2; omega⟩
      have r_x33 : mh_r x33 (1) (1) := mh_ne1 (show x33.toInt ≠ (0 : Int32).toInt from c36) r_x33 rc_0 (1) (1) (by decide)
      refine mw_iload 22 rfl 4 dX10_ground_20  rfl ?_
      refine mw_i2l 23 rfl dX10_ground_22 (fun y37 t38 => ?_)
      refine mw_lconst (v := 0) 24 rfl dX10_ground_23 (by decide) ?_
      refine mw_ldc2 27 rfl dX10_ground_24 ck_X10_172 ?_
      refine mw_callSi [.long y37, .long (0), .long (4)] [] 30 rfl dX10_ground_27 ml_X10_154 mc_X10_lies mk_X10_lies (w_X10_lies l G (d + 2) ⟨by omega, by omega⟩ hI0 y37 (0) (4)) rfl rfl (Nat.le_of_ble_eq_true rfl) (mh_rok (by omega) (by decide)) (fun x39 s40 q41 => ?_)
      obtain ⟨r_x39, e0_s40, rfl⟩ := q41
      have f_x39 : x39.toInt = 1 ↔ (0 ≤ p4.toInt ∧ p4.toInt ≤ 4) := by rw [e0_s40]; exact by simp only [t38, Int32.toInt_toInt64]; first | done | exact Iff.rfl
      refine mw_if_ne 33 rfl 35 dX10_ground_30 (by decide) (fun c42 => ?_) (fun c42 => ?_)
      · skip
        have r_p4 : mh_r p4 (0) (4) := ⟨by have := f_x39.1 (mh_z1 r_x39 c42); have := ((mh_r_full p4)).1; omega, by have := f_x39.1 (mh_z1 r_x39 c42); have := ((mh_r_full p4)).2; omega⟩
        have r_x39 : mh_r x39 (1) (1) := mh_ne1 (show x39.toInt ≠ (0 : Int32).toInt from c42) r_x39 rc_0 (1) (1) (by decide)
        refine mw_aload_n 36 rfl 0 dX10_ground_35 rfl rfl ?_
        refine mw_geta 39 rfl dX10_ground_36 gf_X10_17 rfl 59 (mh_rf hI0 56 rfl) ?_
        refine mw_iload_n 40 rfl 1 dX10_ground_39 rfl rfl ?_
        refine mw_iload_n 41 rfl 2 dX10_ground_40 rfl rfl ?_
        refine mw_callSi [.int p1, .int p2] [.ref (G.2.2.2 59)] 44 rfl dX10_ground_41 ml_X10_174 mc_X10_cellAt mk_X10_cellAt (w_X10_cellAt l G (d + 2) ⟨by omega, by omega⟩ hI0 p1 r_p1 p2 r_p2) rfl rfl (Nat.le_of_ble_eq_true rfl) (mh_rok (by omega) (by decide)) (fun x43 s44 q45 => ?_)
        obtain ⟨r_x43, rfl⟩ := q45
        refine mw_iload_n 45 rfl 3 dX10_ground_44 rfl rfl ?_
        refine mw_iast 46 rfl dX10_ground_45 rfl r_x43 (by decide) (fun s46 t47 => ?_)
        have hI_s46 : mh_I B D s46 := by rw [t47]; exact wr_59 hI0
        have hF_s46 : mh_F S_X10_ground s0 s46 := by rw [t47]; exact mh_F_pI hF0 (mh_si 0 rfl)
        refine mw_aload_n 47 rfl 0 dX10_ground_46 rfl rfl ?_
        refine mw_geta 50 rfl dX10_ground_47 gf_X10_21 rfl 60 (mh_rf hI_s46 57 rfl) ?_
        refine mw_iload_n 51 rfl 1 dX10_ground_50 rfl rfl ?_
        refine mw_iload_n 52 rfl 2 dX10_ground_51 rfl rfl ?_
        refine mw_callSi [.int p1, .int p2] [.ref (G.2.2.2 60)] 55 rfl dX10_ground_52 ml_X10_174 mc_X10_cellAt mk_X10_cellAt (w_X10_cellAt l G (d + 2) ⟨by omega, by omega⟩ hI_s46 p1 r_p1 p2 r_p2) rfl rfl (Nat.le_of_ble_eq_true rfl) (mh_rok (by omega) (by decide)) (fun x48 s49 q50 => ?_)
        obtain ⟨r_x48, rfl⟩ := q50
        refine mw_iload 57 rfl 4 dX10_ground_55  rfl ?_
        refine mw_iast 58 rfl dX10_ground_57 rfl r_x48 (by decide) (fun s51 t52 => ?_)
        have hI_s51 : mh_I B D s51 := by rw [t52]; exact wr_60 hI_s46
        have hF_s51 : mh_F S_X10_ground s0 s51 := by rw [t52]; exact mh_F_pI hF_s46 (mh_si 1 rfl)
        refine mw_iconst (v := 1) 59 rfl dX10_ground_58 (by decide) ?_
        exact mw_zret dX10_ground_59 rfl (mh_r_wk rc_1 (by decide)) ⟨(1), rfl, ⟨(mh_r_wk rc_1 (by decide)), hI_s51, hF_s51⟩⟩
      · skip
        have r_x39 : mh_r x39 (0) (0) := mh_eq1 (show x39.toInt = (0 : Int32).toInt from c42) r_x39 rc_0 (0) (0) (by decide)
        refine mw_iconst (v := 0) 34 rfl dX10_ground_33 (by decide) ?_
        exact mw_zret dX10_ground_34 rfl (mh_r_wk rc_0 (by decide)) ⟨(0), rfl, ⟨(mh_r_wk rc_0 (by decide)), hI0, hF0⟩⟩

def S_X10_air : List (Nat × Nat) := [(61, 9999), (62, 9999)]
def P_X10_air (B D : Int) (s0 : mh_H) (p1 : Int32) (p2 : Int32) (p3 : Int32) (p4 : Int32) : Int32 → mh_H → Prop := fun z s => mh_r z (0) (1) ∧ mh_I B D s ∧ mh_F S_X10_air s0 s
set_option maxRecDepth 100000 in
set_option maxHeartbeats 4000000 in
theorem w_X10_air (l : Launch) (G : mh_G) (d : Nat) {B D : Int} (hB : B ≤ 1940000000 ∧ D ≤ 1940000000) {s0 : mh_H} (hI0 : mh_I B D s0) (p1 : Int32) (p2 : Int32) (p3 : Int32) (p4 : Int32) : mh_Mi l G (d + 3) mM_X10_air [.ref (G.2.2.2 57), .int p1, .int p2, .int p3, .int p4] s0 (P_X10_air B D s0 p1 p2 p3 p4) := by
  refine mh_enter (lv := [(0, .ref (G.2.2.2 57)), (1, .int p1), (2, .int p2), (3, .int p3), (4, .int p4)]) (by decide) rfl (Nat.le_of_ble_eq_true rfl) ?_
  have hF0 : mh_F S_X10_air s0 s0 := mh_F_rf
  refine mw_iload_n 1 rfl 1 dX10_air_0 rfl rfl ?_
  refine mw_iload_n 2 rfl 2 dX10_air_1 rfl rfl ?_
  refine mw_callSi [.int p1, .int p2] [] 5 rfl dX10_air_2 ml_X10_166 mc_X10_isCell mk_X10_isCell (w_X10_isCell l G (d + 0) ⟨by omega, by omega⟩ hI0 p1 p2) rfl rfl (Nat.le_of_ble_eq_true rfl) (mh_rok (by omega) (by decide)) (fun x27 s28 q29 => ?_)
  obtain ⟨r_x27, e0_s28, rfl⟩ := q29
  refine mw_if_eq 8 rfl 33 dX10_air_5 (by decide) (fun c30 => ?_) (fun c30 => ?_)
  · skip
    have r_x27 : mh_r x27 (0) (0) := mh_eq1 (show x27.toInt = (0 : Int32).toInt from c30) r_x27 rc_0 (0) (0) (by decide)
    refine mw_iconst (v := 0) 34 rfl dX10_air_33 (by decide) ?_
    exact mw_zret dX10_air_34 rfl (mh_r_wk rc_0 (by decide)) ⟨(0), rfl, ⟨(mh_r_wk rc_0 (by decide)), hI0, hF0⟩⟩
  · skip
    have r_p1 : mh_r p1 (0) (11) := ⟨by have := e0_s28.1 (mh_z1 r_x27 c30); have := ((mh_r_full p1)).1; omega, by have := e0_s28.1 (mh_z1 r_x27 c30); have := ((mh_r_full p1)).2; omega⟩
    have r_p2 : mh_r p2 (0) (11) := ⟨by have := e0_s28.1 (mh_z1 r_x27 c30); have := ((mh_r_full p2)).1; omega, by have := e0_s28.1 (mh_z1 r_x27 c30); have := ((mh_r_full p2)).2; omega⟩
    have r_x27 : mh_r x27 (1) (1) := mh_ne1 (show x27.toInt ≠ (0 : Int32).toInt from c30) r_x27 rc_0 (1) (1) (by decide)
    refine mw_iload_n 9 rfl 3 dX10_air_8 rfl rfl ?_
    refine mw_i2l 10 rfl dX10_air_9 (fun y31 t32 => ?_)
    refine mw_lconst (v := 0) 11 rfl dX10_air_10 (by decide) ?_
    refine mw_ldc2 14 rfl dX10_air_11 ck_X10_177 ?_
    refine mw_callSi [.long y31, .long (0), .long (9999)] [] 17 rfl dX10_air_14 ml_X10_154 mc_X10_lies mk_X10_lies (w_X10_lies l G (d + 2) ⟨by omega, by omega⟩ hI0 y31 (0) (9999)) rfl rfl (Nat.le_of_ble_eq_true rfl) (mh_rok (by omega) (by decide)) (fun x33 s34 q35 => ?_)
    obtain ⟨r_x33, e0_s34, rfl⟩ := q35
    have f_x33 : x33.toInt = 1 ↔ (0 ≤ p3.toInt ∧ p3.toInt ≤ 9999) := by rw [e0_s34]; exact by simp only [t32, Int32.toInt_toInt64]; first | done | exact Iff.rfl
    refine mw_if_eq 20 rfl 33 dX10_air_17 (by decide) (fun c36 => ?_) (fun c36 => ?_)
    · skip
      have r_x33 : mh_r x33 (0) (0) := mh_eq1 (show x33.toInt = (0 : Int32).toInt from c36) r_x33 rc_0 (0) (0) (by decide)
      refine mw_iconst (v := 0) 34 rfl dX10_air_33 (by decide) ?_
      exact mw_zret dX10_air_34 rfl (mh_r_wk rc_0 (by decide)) ⟨(0), rfl, ⟨(mh_r_wk rc_0 (by decide)), hI0, hF0⟩⟩
    · skip
      have r_p3 : mh_r p3 (0) (9999) := ⟨by have := f_x33.1 (mh_z1 r_x33 c36); have := ((mh_r_full p3)).1; omega, by have := f_x33.1 (mh_z1 r_x33 c36); have := ((mh_r_full p3)).2; omega⟩
      have r_x33 : mh_r x33 (1) (1) := mh_ne1 (show x33.toInt ≠ (0 : Int32).toInt from c36) r_x33 rc_0 (1) (1) (by decide)
      refine mw_iload 22 rfl 4 dX10_air_20  rfl ?_
      refine mw_i2l 23 rfl dX10_air_22 (fun y37 t38 => ?_)
      refine mw_lconst (v := 0) 24 rfl dX10_air_23 (by decide) ?_
      refine mw_ldc2 27 rfl dX10_air_24 ck_X10_177 ?_
      refine mw_callSi [.long y37, .long (0), .long (9999)] [] 30 rfl dX10_air_27 ml_X10_154 mc_X10_lies mk_X10_lies (w_X10_lies l G (d + 2) ⟨by omega, by omega⟩ hI0 y37 (0) (9999)) rfl rfl (Nat.le_of_ble_eq_true rfl) (mh_rok (by omega) (by decide)) (fun x39 s40 q41 => ?_)
      obtain ⟨r_x39, e0_s40, rfl⟩ := q41
      have f_x39 : x39.toInt = 1 ↔ (0 ≤ p4.toInt ∧ p4.toInt ≤ 9999) := by rw [e0_s40]; exact by simp only [t38, Int32.toInt_toInt64]; first | done | exact Iff.rfl
      refine mw_if_ne 33 rfl 35 dX10_air_30 (by decide) (fun c42 => ?_) (fun c42 => ?_)
      · skip
        have r_p4 : mh_r p4 (0) (9999) := ⟨by have := f_x39.1 (mh_z1 r_x39 c42); have := ((mh_r_full p4)).1; omega, by have := f_x39.1 (mh_z1 r_x39 c42); have := ((mh_r_full p4)).2; omega⟩
        have r_x39 : mh_r x39 (1) (1) := mh_ne1 (show x39.toInt ≠ (0 : Int32).toInt from c42) r_x39 rc_0 (1) (1) (by decide)
        refine mw_aload_n 36 rfl 0 dX10_air_35 rfl rfl ?_
        refine mw_geta 39 rfl dX10_air_36 gf_X10_24 rfl 61 (mh_rf hI0 58 rfl) ?_
        refine mw_iload_n 40 rfl 1 dX10_air_39 rfl rfl ?_
        refine mw_iload_n 41 rfl 2 dX10_air_40 rfl rfl ?_
        refine mw_callSi [.int p1, .int p2] [.ref (G.2.2.2 61)] 44 rfl dX10_air_41 ml_X10_174 mc_X10_cellAt mk_X10_cellAt (w_X10_cellAt l G (d + 2) ⟨by omega, by omega⟩ hI0 p1 r_p1 p2 r_p2) rfl rfl (Nat.le_of_ble_eq_true rfl) (mh_rok (by omega) (by decide)) (fun x43 s44 q45 => ?_)
        obtain ⟨r_x43, rfl⟩ := q45
        refine mw_iload_n 45 rfl 3 dX10_air_44 rfl rfl ?_
        refine mw_iast 46 rfl dX10_air_45 rfl r_x43 (by decide) (fun s46 t47 => ?_)
        have hI_s46 : mh_I B D s46 := by rw [t47]; exact wr_61 hI0
        have hF_s46 : mh_F S_X10_air s0 s46 := by rw [t47]; exact mh_F_pI hF0 (mh_si 0 rfl)
        refine mw_aload_n 47 rfl 0 dX10_air_46 rfl rfl ?_
        refine mw_geta 50 rfl dX10_air_47 gf_X10_27 rfl 62 (mh_rf hI_s46 59 rfl) ?_
        refine mw_iload_n 51 rfl 1 dX10_air_50 rfl rfl ?_
        refine mw_iload_n 52 rfl 2 dX10_air_51 rfl rfl ?_
        refine mw_callSi [.int p1, .int p2] [.ref (G.2.2.2 62)] 55 rfl dX10_air_52 ml_X10_174 mc_X10_cellAt mk_X10_cellAt (w_X10_cellAt l G (d + 2) ⟨by omega, by omega⟩ hI_s46 p1 r_p1 p2 r_p2) rfl rfl (Nat.le_of_ble_eq_true rfl) (mh_rok (by omega) (by decide)) (fun x48 s49 q50 => ?_)
        obtain ⟨r_x48, rfl⟩ := q50
        refine mw_iload 57 rfl 4 dX10_air_55  rfl ?_
        refine mw_iast 58 rfl dX10_air_57 rfl r_x48 (by decide) (fun s51 t52 => ?_)
        have hI_s51 : mh_I B D s51 := by rw [t52]; exact wr_62 hI_s46
        have hF_s51 : mh_F S_X10_air s0 s51 := by rw [t52]; exact mh_F_pI hF_s46 (mh_si 1 rfl)
        refine mw_iconst (v := 1) 59 rfl dX10_air_58 (by decide) ?_
        exact mw_zret dX10_air_59 rfl (mh_r_wk rc_1 (by decide)) ⟨(1), rfl, ⟨(mh_r_wk rc_1 (by decide)), hI_s51, hF_s51⟩⟩
      · skip
        have r_x39 : mh_r x39 (0) (0) := mh_eq1 (show x39.toInt = (0 : Int32).toInt from c42) r_x39 rc_0 (0) (0) (by decide)
        refine mw_iconst (v := 0) 34 rfl dX10_air_33 (by decide) ?_
        exact mw_zret dX10_air_34 rfl (mh_r_wk rc_0 (by decide)) ⟨(0), rfl, ⟨(mh_r_wk rc_0 (by decide)), hI0, hF0⟩⟩

def S_X10_wind : List (Nat × Nat) := [(63, 9999)]
def P_X10_wind (B D : Int) (s0 : mh_H) (p1 : Int32) (p2 : Int32) : Int32 → mh_H → Prop := fun z s => mh_r z (0) (1) ∧ mh_I B D s ∧ mh_F S_X10_wind s0 s
set_option maxRecDepth 100000 in
set_option maxHeartbeats 4000000 in
theorem w_X10_wind (l : Launch) (G : mh_G) (d : Nat) {B D : Int} (hB : B ≤ 1980000000 ∧ D ≤ 1980000000) {s0 : mh_H} (hI0 : mh_I B D s0) (p1 : Int32) (p2 : Int32) : mh_Mi l G (d + 1) mM_X10_wind [.ref (G.2.2.2 57), .int p1, .int p2] s0 (P_X10_wind B D s0 p1 p2) := by
  refine mh_enter (lv := [(0, .ref (G.2.2.2 57)), (1, .int p1), (2, .int p2)]) (by decide) rfl (Nat.le_of_ble_eq_true rfl) ?_
  have hF0 : mh_F S_X10_wind s0 s0 := mh_F_rf
  refine mw_iload_n 1 rfl 1 dX10_wind_0 rfl rfl ?_
  refine mw_i2l 2 rfl dX10_wind_1 (fun y15 t16 => ?_)
  refine mw_lconst (v := 0) 3 rfl dX10_wind_2 (by decide) ?_
  refine mw_ldc2 6 rfl dX10_wind_3 ck_X10_170 ?_
  refine mw_callSi [.long y15, .long (0), .long (99)] [] 9 rfl dX10_wind_6 ml_X10_154 mc_X10_lies mk_X10_lies (w_X10_lies l G (d + 0) ⟨by omega, by omega⟩ hI0 y15 (0) (99)) rfl rfl (Nat.le_of_ble_eq_true rfl) (mh_rok (by omega) (by decide)) (fun x17 s18 q19 => ?_)
  obtain ⟨r_x17, e0_s18, rfl⟩ := q19
  have f_x17 : x17.toInt = 1 ↔ (0 ≤ p1.toInt ∧ p1.toInt ≤ 99) := by rw [e0_s18]; exact by simp only [t16, Int32.toInt_toInt64]; first | done | exact Iff.rfl
  refine mw_if_eq 12 rfl 24 dX10_wind_9 (by decide) (fun c20 => ?_) (fun c20 => ?_)
  · skip
    have r_x17 : mh_r x17 (0) (0) := mh_eq1 (show x17.toInt = (0 : Int32).toInt from c20) r_x17 rc_0 (0) (0) (by decide)
    refine mw_iconst (v := 0) 25 rfl dX10_wind_24 (by decide) ?_
    exact mw_zret dX10_wind_25 rfl (mh_r_wk rc_0 (by decide)) ⟨(0), rfl, ⟨(mh_r_wk rc_0 (by decide)), hI0, hF0⟩⟩
  · skip
    have r_p1 : mh_r p1 (0) (99) := ⟨by have := f_x17.1 (mh_z1 r_x17 c20); have := ((mh_r_full p1)).1; omega, by have := f_x17.1 (mh_z1 r_x17 c20); have := ((mh_r_full p1)).2; omega⟩
    have r_x17 : mh_r x17 (1) (1) := mh_ne1 (show x17.toInt ≠ (0 : Int32).toInt from c20) r_x17 rc_0 (1) (1) (by decide)
    refine mw_iload_n 13 rfl 2 dX10_wind_12 rfl rfl ?_
    refine mw_i2l 14 rfl dX10_wind_13 (fun y21 t22 => ?_)
    refine mw_lconst (v := 0) 15 rfl dX10_wind_14 (by decide) ?_
    refine mw_ldc2 18 rfl dX10_wind_15 ck_X10_179 ?_
    refine mw_callSi [.long y21, .long (0), .long (9)] [] 21 rfl dX10_wind_18 ml_X10_154 mc_X10_lies mk_X10_lies (w_X10_lies l G (d + 0) ⟨by omega, by omega⟩ hI0 y21 (0) (9)) rfl rfl (Nat.le_of_ble_eq_true rfl) (mh_rok (by omega) (by decide)) (fun x23 s24 q25 => ?_)
    obtain ⟨r_x23, e0_s24, rfl⟩ := q25
    have f_x23 : x23.toInt = 1 ↔ (0 ≤ p2.toInt ∧ p2.toInt ≤ 9) := by rw [e0_s24]; exact by simp only [t22, Int32.toInt_toInt64]; first | done | exact Iff.rfl
    refine mw_if_ne 24 rfl 26 dX10_wind_21 (by decide) (fun c26 => ?_) (fun c26 => ?_)
    · skip
      have r_p2 : mh_r p2 (0) (9) := ⟨by have := f_x23.1 (mh_z1 r_x23 c26); have := ((mh_r_full p2)).1; omega, by have := f_x23.1 (mh_z1 r_x23 c26); have := ((mh_r_full p2)).2; omega⟩
      have r_x23 : mh_r x23 (1) (1) := mh_ne1 (show x23.toInt ≠ (0 : Int32).toInt from c26) r_x23 rc_0 (1) (1) (by decide)
      refine mw_aload_n 27 rfl 0 dX10_wind_26 rfl rfl ?_
      refine mw_geta 30 rfl dX10_wind_27 gf_X10_30 rfl 63 (mh_rf hI0 60 rfl) ?_
      refine mw_iload_n 31 rfl 1 dX10_wind_30 rfl rfl ?_
      refine mw_iload_n 32 rfl 2 dX10_wind_31 rfl rfl ?_
      refine mw_iast 33 rfl dX10_wind_32 rfl r_p1 (by decide) (fun s27 t28 => ?_)
      have hI_s27 : mh_I B D s27 := by rw [t28]; exact wr_63 hI0
      have hF_s27 : mh_F S_X10_wind s0 s27 := by rw [t28]; exact mh_F_pI hF0 (mh_si 0 rfl)
      refine mw_iconst (v := 1) 34 rfl dX10_wind_33 (by decide) ?_
      exact mw_zret dX10_wind_34 rfl (mh_r_wk rc_1 (by decide)) ⟨(1), rfl, ⟨(mh_r_wk rc_1 (by decide)), hI_s27, hF_s27⟩⟩
    · skip
      have r_x23 : mh_r x23 (0) (0) := mh_eq1 (show x23.toInt = (0 : Int32).toInt from c26) r_x23 rc_0 (0) (0) (by decide)
      refine mw_iconst (v := 0) 25 rfl dX10_wind_24 (by decide) ?_
      exact mw_zret dX10_wind_25 rfl (mh_r_wk rc_0 (by decide)) ⟨(0), rfl, ⟨(mh_r_wk rc_0 (by decide)), hI0, hF0⟩⟩

def S_X10_push : List (Nat × Nat) := [(58, 9999), (57, 1)]
def P_X10_push (B D : Int) (s0 : mh_H) (p1 : Int32) : mh_H → Prop := fun s => ((s.1 57 1).toInt = (s0.1 57 1).toInt + 4) ∧ mh_I B D s ∧ mh_F S_X10_push s0 s
set_option maxRecDepth 100000 in
set_option maxHeartbeats 4000000 in
theorem w_X10_push (l : Launch) (G : mh_G) (d : Nat) {B D : Int} (hB : B ≤ 2000000000 ∧ D ≤ 2000000000) {s0 : mh_H} (hI0 : mh_I B D s0) (p1 : Int32) (hp : (s0.1 57 1).toInt ≤ 216) : mh_Mv l G (d + 0) mM_X10_push [.ref (G.2.2.2 57), .int p1] s0 (P_X10_push B D s0 p1) := by
  refine mh_enter (lv := [(0, .ref (G.2.2.2 57)), (1, .int p1)]) (by decide) rfl (Nat.le_of_ble_eq_true rfl) ?_
  have hF0 : mh_F S_X10_push s0 s0 := mh_F_rf
  refine mw_bipush (v := 24) 2 rfl dX10_push_0 (by decide) ?_
  refine mw_istore_n 3 rfl [(2, .int (24)), (0, .ref (G.2.2.2 57)), (1, .int p1)] dX10_push_2 rfl (by decide) rfl ?_
  have L3 : ∀ n1 : Nat, ∀ (x177 : Int32) (s178 : mh_H), mh_r x177 (-8) (24) → mh_I B D s178 → mh_F S_X10_push s0 s178 → (8 * (s178.1 57 1).toInt + x177.toInt = 8 * (s0.1 57 1).toInt + 24) → x177.toInt - (-8) < (n1 : Int) → mh_W G (mh_XM l G (d + 0) (mh_Qv (P_X10_push B D s0 p1))) mM_X10_push 3 [(0, .ref (G.2.2.2 57)), (1, .int p1), (2, .int x177)] [] s178 := by
    intro n1
    induction n1 with
    | zero =>
      intro x177 s178 r_x177 hI_s178 hF_s178 iv hmn1
      exact absurd hmn1 (by have := r_x177.1; have := r_x177.2; omega)
    | succ n1 ihn1 =>
      intro x177 s178 r_x177 hI_s178 hF_s178 iv hmn1
      refine mw_iload_n 4 rfl 2 dX10_push_3 rfl rfl ?_
      refine mw_if_lt 7 rfl 36 dX10_push_4 (by decide) (fun c197 => ?_) (fun c197 => ?_)
      · skip
        have r_x177 : mh_r x177 (-8) (-1) := mh_lt1 (show x177.toInt < (0 : Int32).toInt from c197) r_x177 rc_0 (-1) (by decide)
        refine mw_vret dX10_push_36 rfl ⟨rfl, ⟨?_, hI_s178, hF_s178⟩⟩
        · skip
          have := (r_x177).1; have := (r_x177).2
          have := kc_0
          have := kc_1
          have := kc_24
          omega
      · skip
        have r_x177 : mh_r x177 (0) (24) := mh_le2 (show (0 : Int32).toInt ≤ x177.toInt from c197) rc_0 r_x177 (0) (by decide)
        refine mw_aload_n 8 rfl 0 dX10_push_7 rfl rfl ?_
        refine mw_geta 11 rfl dX10_push_8 gf_X10_7 rfl 58 (mh_rf hI_s178 55 rfl) ?_
        refine mw_aload_n 12 rfl 0 dX10_push_11 rfl rfl ?_
        refine mw_geti 15 rfl dX10_push_12 gf_X10_181 rfl (fun x198 t199 => ?_)
        have r_x198 : mh_r x198 (0) (220) := by rw [t199]; exact rd_57_1 hI_s178
        have r_x198 : mh_r x198 (0) (219) := ⟨(r_x198).1, by have := congrArg Int32.toInt t199; have := (r_x177).1; have := (r_x177).2; have := (r_x198).1; have := (r_x198).2; have := kc_0; have := kc_1; have := kc_24; omega⟩
        refine mw_iload_n 16 rfl 1 dX10_push_15 rfl rfl ?_
        refine mw_iload_n 17 rfl 2 dX10_push_16 rfl rfl ?_
        refine mw_ishr_u 18 rfl dX10_push_17 (fun x200 _ => ?_)
        refine mw_i2b 19 rfl dX10_push_18 (fun x201 t202 => ?_)
        have r_x201 : mh_r x201 (-128) (127) := by rw [t202]; exact mh_i2b
        refine mw_bast 20 rfl dX10_push_19 rfl r_x198 (by decide) (fun s203 t204 => ?_)
        have hI_s203 : mh_I B D s203 := by rw [t204]; exact wr_58 hI_s178 mh_nbr
        have hF_s203 : mh_F S_X10_push s0 s203 := by rw [t204]; exact mh_F_pI hF_s178 (mh_si 0 rfl)
        refine mw_aload_n 21 rfl 0 dX10_push_20 rfl rfl ?_
        refine mw_dup 22 rfl dX10_push_21 rfl ?_
        refine mw_geti 25 rfl dX10_push_22 gf_X10_181 rfl (fun x205 t206 => ?_)
        have t207 : x198 = s203.1 57 1 := by rw [t204]; exact (t199).trans (mh_pI_n (by omega)).symm
        obtain rfl : x198 = x205 := t207.trans t206.symm
        refine mw_iconst (v := 1) 26 rfl dX10_push_25 (by decide) ?_
        refine mw_iadd 27 rfl (1) (220) dX10_push_26 r_x198 rc_1 (by decide) (fun x208 t209 r_x208 => ?_)
        refine mw_puti 30 rfl dX10_push_27 pf_X10_181 rfl (fun s210 t211 => ?_)
        have hI_s210 : mh_I B D s210 := by rw [t211]; exact wr_57_1 hI_s203 (mh_r_wk r_x208 (by decide))
        have hF_s210 : mh_F S_X10_push s0 s210 := by rw [t211]; exact mh_F_pI hF_s203 (mh_sj 1 rfl)
        refine mw_iincR (k := 2) (-8) (16) 33 rfl (fun z => [(2, .int z), (0, .ref (G.2.2.2 57)), (1, .int p1)]) dX10_push_30 rfl (by decide) (fun _ => rfl) r_x177 (by decide) (by decide) (fun x212 t213 r_x212 => ?_)
        refine mw_goto 36 rfl 3 dX10_push_33 (by decide) ?_
        have t214 : x208 = s210.1 57 1 := by rw [t211]; exact mh_pI_s.symm
        exact mw_lv [1, 2, 0] rfl (ihn1 x212 s210 (mh_r_wk r_x212 (by decide)) hI_s210 hF_s210 (by
            have := congrArg Int32.toInt t199
            have := congrArg Int32.toInt t207
            have := congrArg Int32.toInt t214
            have := (r_x212).1; have := (r_x212).2
            have := (r_x198).1; have := (r_x198).2
            have := (r_x208).1; have := (r_x208).2
            have := kc_0
            have := kc_1
            have := kc_24
            omega) (by have : x212.toInt = x177.toInt + (-8) := t213; omega))
  exact mw_lv [1, 2, 0] rfl (L3 33 (24) s0 (mh_r_wk rc_24 (by decide)) hI0 hF0 (by
      have := (rc_24).1; have := (rc_24).2
      have := kc_0
      have := kc_1
      have := kc_24
      omega) (by have := (rc_24).1; have := (rc_24).2; omega))

def S_X10_feed : List (Nat × Nat) := [(58, 9999), (57, 1)]
def P_X10_feed (B D : Int) (s0 : mh_H) (p1 : Int32) (p2 : Int32) (p3 : Int32) (p4 : Int32) (p5 : Int32) : Int32 → mh_H → Prop := fun z s => mh_r z (-1) (220) ∧ mh_I B D s ∧ mh_F S_X10_feed s0 s
set_option maxRecDepth 100000 in
set_option maxHeartbeats 4000000 in
theorem w_X10_feed (l : Launch) (G : mh_G) (d : Nat) {B D : Int} (hB : B ≤ 1980000000 ∧ D ≤ 1980000000) {s0 : mh_H} (hI0 : mh_I B D s0) (p1 : Int32) (p2 : Int32) (p3 : Int32) (p4 : Int32) (p5 : Int32) : mh_Mi l G (d + 1) mM_X10_feed [.ref (G.2.2.2 57), .int p1, .int p2, .int p3, .int p4, .int p5] s0 (P_X10_feed B D s0 p1 p2 p3 p4 p5) := by
  refine mh_enter (lv := [(0, .ref (G.2.2.2 57)), (1, .int p1), (2, .int p2), (3, .int p3), (4, .int p4), (5, .int p5)]) (by decide) rfl (Nat.le_of_ble_eq_true rfl) ?_
  have hF0 : mh_F S_X10_feed s0 s0 := mh_F_rf
  refine mw_aload_n 1 rfl 0 dX10_feed_0 rfl rfl ?_
  refine mw_geti 4 rfl dX10_feed_1 gf_X10_181 rfl (fun x23 t24 => ?_)
  have r_x23 : mh_r x23 (0) (220) := by rw [t24]; exact rd_57_1 hI0
  refine mw_bipush (v := 20) 6 rfl dX10_feed_4 (by decide) ?_
  refine mw_iadd 7 rfl (20) (240) dX10_feed_6 r_x23 rc_20 (by decide) (fun x25 t26 r_x25 => ?_)
  refine mw_sipush (v := 220) 10 rfl dX10_feed_7 (by decide) ?_
  refine mw_icmp_le 13 rfl 15 dX10_feed_10 (by decide) (fun c27 => ?_) (fun c27 => ?_)
  · skip
    have r_x25 : mh_r x25 (20) (220) := mh_le1 c27 r_x25 rc_220 (220) (by decide)
    have r_x23 : mh_r x23 (0) (200) := by have := (show x25.toInt = x23.toInt + (20) from t26); have := (r_x23).1; have := (r_x23).2; have := (r_x25).1; have := (r_x25).2; exact ⟨by omega, by omega⟩
    refine mw_aload_n 16 rfl 0 dX10_feed_15 rfl rfl ?_
    refine mw_iload_n 17 rfl 1 dX10_feed_16 rfl rfl ?_
    refine mw_callVv [.int p1] [] 20 rfl dX10_feed_17 ml_X10_184 mc_X10_push mk_X10_push rfl rfl (by decide) (w_X10_push l G (d + 0) ⟨by omega, by omega⟩ hI0 p1 (by have := congrArg Int32.toInt t24; have := (r_x23).1; have := (r_x23).2; have := kc_m1; have := kc_0; have := kc_1; have := kc_20; have := kc_220; omega)) rfl rfl (Nat.le_of_ble_eq_true rfl) (mh_rok (by omega) (by decide)) (fun s29 q30 => ?_)
    obtain ⟨e0_s29, hI_s29, hG_s29⟩ := q30
    have hF_s29 : mh_F S_X10_feed s0 s29 := mh_F_tl hF0 hG_s29 (by decide +kernel)
    refine mw_aload_n 21 rfl 0 dX10_feed_20 rfl rfl ?_
    refine mw_iload_n 22 rfl 2 dX10_feed_21 rfl rfl ?_
    refine mw_callVv [.int p2] [] 25 rfl dX10_feed_22 ml_X10_184 mc_X10_push mk_X10_push rfl rfl (by decide) (w_X10_push l G (d + 0) ⟨by omega, by omega⟩ hI_s29 p2 (by have := congrArg Int32.toInt t24; have := (r_x23).1; have := (r_x23).2; have := kc_m1; have := kc_0; have := kc_1; have := kc_20; have := kc_220; omega)) rfl rfl (Nat.le_of_ble_eq_true rfl) (mh_rok (by omega) (by decide)) (fun s32 q33 => ?_)
    obtain ⟨e0_s32, hI_s32, hG_s32⟩ := q33
    have hF_s32 : mh_F S_X10_feed s0 s32 := mh_F_tl hF_s29 hG_s32 (by decide +kernel)
    refine mw_aload_n 26 rfl 0 dX10_feed_25 rfl rfl ?_
    refine mw_iload_n 27 rfl 3 dX10_feed_26 rfl rfl ?_
    refine mw_callVv [.int p3] [] 30 rfl dX10_feed_27 ml_X10_184 mc_X10_push mk_X10_push rfl rfl (by decide) (w_X10_push l G (d + 0) ⟨by omega, by omega⟩ hI_s32 p3 (by have := congrArg Int32.toInt t24; have := (r_x23).1; have := (r_x23).2; have := kc_m1; have := kc_0; have := kc_1; have := kc_20; have := kc_220; omega)) rfl rfl (Nat.le_of_ble_eq_true rfl) (mh_rok (by omega) (by decide)) (fun s35 q36 => ?_)
    obtain ⟨e0_s35, hI_s35, hG_s35⟩ := q36
    have hF_s35 : mh_F S_X10_feed s0 s35 := mh_F_tl hF_s32 hG_s35 (by decide +kernel)
    refine mw_aload_n 31 rfl 0 dX10_feed_30 rfl rfl ?_
    refine mw_iload 33 rfl 4 dX10_feed_31  rfl ?_
    refine mw_callVv [.int p4] [] 36 rfl dX10_feed_33 ml_X10_184 mc_X10_push mk_X10_push rfl rfl (by decide) (w_X10_push l G (d + 0) ⟨by omega, by omega⟩ hI_s35 p4 (by have := congrArg Int32.toInt t24; have := (r_x23).1; have := (r_x23).2; have := kc_m1; have := kc_0; have := kc_1; have := kc_20; have := kc_220; omega)) rfl rfl (Nat.le_of_ble_eq_true rfl) (mh_rok (by omega) (by decide)) (fun s38 q39 => ?_)
    obtain ⟨e0_s38, hI_s38, hG_s38⟩ := q39
    have hF_s38 : mh_F S_X10_feed s0 s38 := mh_F_tl hF_s35 hG_s38 (by decide +kernel)
    refine mw_aload_n 37 rfl 0 dX10_feed_36 rfl rfl ?_
    refine mw_iload 39 rfl 5 dX10_feed_37  rfl ?_
    refine mw_callVv [.int p5] [] 42 rfl dX10_feed_39 ml_X10_184 mc_X10_push mk_X10_push rfl rfl (by decide) (w_X10_push l G (d + 0) ⟨by omega, by omega⟩ hI_s38 p5 (by have := congrArg Int32.toInt t24; have := (r_x23).1; have := (r_x23).2; have := kc_m1; have := kc_0; have := kc_1; have := kc_20; have := kc_220; omega)) rfl rfl (Nat.le_of_ble_eq_true rfl) (mh_rok (by omega) (by decide)) (fun s41 q42 => ?_)
    obtain ⟨e0_s41, hI_s41, hG_s41⟩ := q42
    have hF_s41 : mh_F S_X10_feed s0 s41 := mh_F_tl hF_s38 hG_s41 (by decide +kernel)
    refine mw_aload_n 43 rfl 0 dX10_feed_42 rfl rfl ?_
    refine mw_geti 46 rfl dX10_feed_43 gf_X10_181 rfl (fun x43 t44 => ?_)
    have r_x43 : mh_r x43 (0) (220) := by rw [t44]; exact rd_57_1 hI_s41
    exact mw_iret dX10_feed_46 rfl ⟨x43, rfl, ⟨(mh_r_wk r_x43 (by decide)), hI_s41, hF_s41⟩⟩
  · skip
    have r_x25 : mh_r x25 (221) (240) := mh_lt2 c27 rc_220 r_x25 (221) (by decide)
    have r_x23 : mh_r x23 (201) (220) := by have := (show x25.toInt = x23.toInt + (20) from t26); have := (r_x23).1; have := (r_x23).2; have := (r_x25).1; have := (r_x25).2; exact ⟨by omega, by omega⟩
    refine mw_iconst (v := -1) 14 rfl dX10_feed_13 (by decide) ?_
    exact mw_iret dX10_feed_14 rfl ⟨(-1), rfl, ⟨(mh_r_wk rc_m1 (by decide)), hI0, hF0⟩⟩

def S_X10_setsAside : List (Nat × Nat) := [(83, 9999), (84, 9999), (85, 9999), (86, 9999), (87, 9999), (88, 9999)]
def P_X10_setsAside (B D : Int) (s0 : mh_H) (p1 : Int32) : mh_H → Prop := fun s => mh_I B B s ∧ mh_F S_X10_setsAside s0 s
set_option maxRecDepth 100000 in
set_option maxHeartbeats 4000000 in
theorem w_X10_setsAside (l : Launch) (G : mh_G) (d : Nat) {B D : Int} (hB : B ≤ 2000000000 ∧ D ≤ 2000000000) {s0 : mh_H} (hI0 : mh_I B D s0) (p1 : Int32) (r_p1 : mh_r p1 (0) (1)) (hDB : D ≤ B) : mh_Mv l G (d + 0) mM_X10_setsAside [.ref (G.2.2.2 57), .int p1] s0 (P_X10_setsAside B D s0 p1) := by
  refine mh_enter (lv := [(0, .ref (G.2.2.2 57)), (1, .int p1)]) (by decide) rfl (Nat.le_of_ble_eq_true rfl) ?_
  have hF0 : mh_F S_X10_setsAside s0 s0 := mh_F_rf
  refine mw_iconst (v := 0) 1 rfl dX10_setsAside_0 (by decide) ?_
  refine mw_istore_n 2 rfl [(2, .int (0)), (0, .ref (G.2.2.2 57)), (1, .int p1)] dX10_setsAside_1 rfl (by decide) rfl ?_
  have L2 : ∀ n1 : Nat, ∀ (x818 : Int32) (s819 : mh_H), mh_r x818 (0) (144) → mh_I B D s819 → mh_F S_X10_setsAside s0 s819 → (144) - x818.toInt < (n1 : Int) → mh_W G (mh_XM l G (d + 0) (mh_Qv (P_X10_setsAside B D s0 p1))) mM_X10_setsAside 2 [(0, .ref (G.2.2.2 57)), (1, .int p1), (2, .int x818)] [] s819 := by
    intro n1
    induction n1 with
    | zero =>
      intro x818 s819 r_x818 hI_s819 hF_s819 hmn1
      exact absurd hmn1 (by have := r_x818.1; have := r_x818.2; omega)
    | succ n1 ihn1 =>
      intro x818 s819 r_x818 hI_s819 hF_s819 hmn1
      refine mw_iload_n 3 rfl 2 dX10_setsAside_2 rfl rfl ?_
      refine mw_sipush (v := 144) 6 rfl dX10_setsAside_3 (by decide) ?_
      refine mw_icmp_ge 9 rfl 87 dX10_setsAside_6 (by decide) (fun c857 => ?_) (fun c857 => ?_)
      · skip
        have r_x818 : mh_r x818 (144) (144) := mh_le2 c857 rc_144 r_x818 (144) (by decide)
        refine mw_aload_n 88 rfl 0 dX10_setsAside_87 rfl rfl ?_
        refine mw_geta 91 rfl dX10_setsAside_88 gf_X10_103 rfl 87 (mh_rf hI_s819 84 rfl) ?_
        refine mw_iload_n 92 rfl 1 dX10_setsAside_91 rfl rfl ?_
        refine mw_aload_n 93 rfl 0 dX10_setsAside_92 rfl rfl ?_
        refine mw_geti 96 rfl dX10_setsAside_93 gf_X10_301 rfl (fun x858 t859 => ?_)
        have r_x858 : mh_r x858 (0) (2000000000) := by rw [t859]; exact mh_r_wk (rd_57_2 hI_s819) ⟨by decide, by skip; omega⟩
        refine mw_iast 97 rfl dX10_setsAside_96 rfl r_p1 (by decide) (fun s860 t861 => ?_)
        have h9 : x858.toInt ≤ B := by rw [t859]; exact (rd_57_2 hI_s819).2
        have hI_s860 : mh_I B B s860 := by rw [t861]; exact mh_I_side hI_s819 ⟨by have := (r_x858).1; omega, h9⟩ hDB
        have hF_s860 : mh_F S_X10_setsAside s0 s860 := by rw [t861]; exact mh_F_pI hF_s819 (mh_si 4 rfl)
        refine mw_aload_n 98 rfl 0 dX10_setsAside_97 rfl rfl ?_
        refine mw_geta 101 rfl dX10_setsAside_98 gf_X10_106 rfl 88 (mh_rf hI_s860 85 rfl) ?_
        refine mw_iload_n 102 rfl 1 dX10_setsAside_101 rfl rfl ?_
        refine mw_aload_n 103 rfl 0 dX10_setsAside_102 rfl rfl ?_
        refine mw_getl 106 rfl dX10_setsAside_103 gf_X10_361 rfl (fun y862 _ => ?_)
        refine mw_last 107 rfl dX10_setsAside_106 rfl r_p1 (by decide) (fun s863 t864 => ?_)
        have hI_s863 : mh_I B B s863 := by rw [t864]; exact mh_I_pL hI_s860
        have hF_s863 : mh_F S_X10_setsAside s0 s863 := by rw [t864]; exact mh_F_pL hF_s860 (mh_si 5 rfl)
        exact mw_vret dX10_setsAside_107 rfl ⟨rfl, ⟨hI_s863, hF_s863⟩⟩
      · skip
        have r_x818 : mh_r x818 (0) (143) := mh_lt1 c857 r_x818 rc_144 (143) (by decide)
        refine mw_aload_n 10 rfl 0 dX10_setsAside_9 rfl rfl ?_
        refine mw_geta 13 rfl dX10_setsAside_10 gf_X10_91 rfl 83 (mh_rf hI_s819 80 rfl) ?_
        refine mw_sipush (v := 144) 16 rfl dX10_setsAside_13 (by decide) ?_
        refine mw_iload_n 17 rfl 1 dX10_setsAside_16 rfl rfl ?_
        refine mw_imul 18 rfl (0) (144) dX10_setsAside_17 rc_144 r_p1 (by decide) (fun x865 t866 r_x865 => ?_)
        refine mw_iload_n 19 rfl 2 dX10_setsAside_18 rfl rfl ?_
        refine mw_iadd 20 rfl (0) (287) dX10_setsAside_19 r_x865 r_x818 (by decide) (fun x867 t868 r_x867 => ?_)
        refine mw_aload_n 21 rfl 0 dX10_setsAside_20 rfl rfl ?_
        refine mw_geta 24 rfl dX10_setsAside_21 gf_X10_24 rfl 61 (mh_rf hI_s819 58 rfl) ?_
        refine mw_iload_n 25 rfl 2 dX10_setsAside_24 rfl rfl ?_
        refine mw_iald 26 rfl dX10_setsAside_25 rfl r_x818 (by decide) (fun x869 t870 => ?_)
        refine mw_iast 27 rfl dX10_setsAside_26 rfl r_x867 (by decide) (fun s871 t872 => ?_)
        have hI_s871 : mh_I B D s871 := by rw [t872]; exact wr_83 hI_s819
        have hF_s871 : mh_F S_X10_setsAside s0 s871 := by rw [t872]; exact mh_F_pI hF_s819 (mh_si 0 rfl)
        refine mw_aload_n 28 rfl 0 dX10_setsAside_27 rfl rfl ?_
        refine mw_geta 31 rfl dX10_setsAside_28 gf_X10_94 rfl 84 (mh_rf hI_s871 81 rfl) ?_
        refine mw_sipush (v := 144) 34 rfl dX10_setsAside_31 (by decide) ?_
        refine mw_iload_n 35 rfl 1 dX10_setsAside_34 rfl rfl ?_
        refine mw_imul 36 rfl (0) (144) dX10_setsAside_35 rc_144 r_p1 (by decide) (fun x873 t874 r_x873 => ?_)
        obtain rfl : x865 = x873 := Int32.toInt_inj.mp (t866.trans t874.symm)
        refine mw_iload_n 37 rfl 2 dX10_setsAside_36 rfl rfl ?_
        refine mw_iadd 38 rfl (0) (287) dX10_setsAside_37 r_x865 r_x818 (by decide) (fun x875 t876 r_x875 => ?_)
        obtain rfl : x867 = x875 := Int32.toInt_inj.mp (t868.trans t876.symm)
        refine mw_aload_n 39 rfl 0 dX10_setsAside_38 rfl rfl ?_
        refine mw_geta 42 rfl dX10_setsAside_39 gf_X10_27 rfl 62 (mh_rf hI_s871 59 rfl) ?_
        refine mw_iload_n 43 rfl 2 dX10_setsAside_42 rfl rfl ?_
        refine mw_iald 44 rfl dX10_setsAside_43 rfl r_x818 (by decide) (fun x877 t878 => ?_)
        refine mw_iast 45 rfl dX10_setsAside_44 rfl r_x867 (by decide) (fun s879 t880 => ?_)
        have hI_s879 : mh_I B D s879 := by rw [t880]; exact wr_84 hI_s871
        have hF_s879 : mh_F S_X10_setsAside s0 s879 := by rw [t880]; exact mh_F_pI hF_s871 (mh_si 1 rfl)
        refine mw_aload_n 46 rfl 0 dX10_setsAside_45 rfl rfl ?_
        refine mw_geta 49 rfl dX10_setsAside_46 gf_X10_97 rfl 85 (mh_rf hI_s879 82 rfl) ?_
        refine mw_sipush (v := 144) 52 rfl dX10_setsAside_49 (by decide) ?_
        refine mw_iload_n 53 rfl 1 dX10_setsAside_52 rfl rfl ?_
        refine mw_imul 54 rfl (0) (144) dX10_setsAside_53 rc_144 r_p1 (by decide) (fun x881 t882 r_x881 => ?_)
        obtain rfl : x865 = x881 := Int32.toInt_inj.mp (t866.trans t882.symm)
        refine mw_iload_n 55 rfl 2 dX10_setsAside_54 rfl rfl ?_
        refine mw_iadd 56 rfl (0) (287) dX10_setsAside_55 r_x865 r_x818 (by decide) (fun x883 t884 r_x883 => ?_)
        obtain rfl : x867 = x883 := Int32.toInt_inj.mp (t868.trans t884.symm)
        refine mw_aload_n 57 rfl 0 dX10_setsAside_56 rfl rfl ?_
        refine mw_geta 60 rfl dX10_setsAside_57 gf_X10_17 rfl 59 (mh_rf hI_s879 56 rfl) ?_
        refine mw_iload_n 61 rfl 2 dX10_setsAside_60 rfl rfl ?_
        refine mw_iald 62 rfl dX10_setsAside_61 rfl r_x818 (by decide) (fun x885 t886 => ?_)
        refine mw_iast 63 rfl dX10_setsAside_62 rfl r_x867 (by decide) (fun s887 t888 => ?_)
        have hI_s887 : mh_I B D s887 := by rw [t888]; exact wr_85 hI_s879
        have hF_s887 : mh_F S_X10_setsAside s0 s887 := by rw [t888]; exact mh_F_pI hF_s879 (mh_si 2 rfl)
        refine mw_aload_n 64 rfl 0 dX10_setsAside_63 rfl rfl ?_
        refine mw_geta 67 rfl dX10_setsAside_64 gf_X10_100 rfl 86 (mh_rf hI_s887 83 rfl) ?_
        refine mw_sipush (v := 144) 70 rfl dX10_setsAside_67 (by decide) ?_
        refine mw_iload_n 71 rfl 1 dX10_setsAside_70 rfl rfl ?_
        refine mw_imul 72 rfl (0) (144) dX10_setsAside_71 rc_144 r_p1 (by decide) (fun x889 t890 r_x889 => ?_)
        obtain rfl : x865 = x889 := Int32.toInt_inj.mp (t866.trans t890.symm)
        refine mw_iload_n 73 rfl 2 dX10_setsAside_72 rfl rfl ?_
        refine mw_iadd 74 rfl (0) (287) dX10_setsAside_73 r_x865 r_x818 (by decide) (fun x891 t892 r_x891 => ?_)
        obtain rfl : x867 = x891 := Int32.toInt_inj.mp (t868.trans t892.symm)
        refine mw_aload_n 75 rfl 0 dX10_setsAside_74 rfl rfl ?_
        refine mw_geta 78 rfl dX10_setsAside_75 gf_X10_21 rfl 60 (mh_rf hI_s887 57 rfl) ?_
        refine mw_iload_n 79 rfl 2 dX10_setsAside_78 rfl rfl ?_
        refine mw_iald 80 rfl dX10_setsAside_79 rfl r_x818 (by decide) (fun x893 t894 => ?_)
        refine mw_iast 81 rfl dX10_setsAside_80 rfl r_x867 (by decide) (fun s895 t896 => ?_)
        have hI_s895 : mh_I B D s895 := by rw [t896]; exact wr_86 hI_s887
        have hF_s895 : mh_F S_X10_setsAside s0 s895 := by rw [t896]; exact mh_F_pI hF_s887 (mh_si 3 rfl)
        refine mw_iincR (k := 2) (1) (144) 84 rfl (fun z => [(2, .int z), (0, .ref (G.2.2.2 57)), (1, .int p1)]) dX10_setsAside_81 rfl (by decide) (fun _ => rfl) r_x818 (by decide) (by decide) (fun x897 t898 r_x897 => ?_)
        refine mw_goto 87 rfl 2 dX10_setsAside_84 (by decide) ?_
        exact mw_lv [1, 2, 0] rfl (ihn1 x897 s895 (mh_r_wk r_x897 (by decide)) hI_s895 hF_s895 (by have : x897.toInt = x818.toInt + (1) := t898; omega))
  exact mw_lv [1, 2, 0] rfl (L2 145 (0) s0 (mh_r_wk rc_0 (by decide)) hI0 hF0 (by have := (rc_0).1; have := (rc_0).2; omega))

def S_X10_putsBack : List (Nat × Nat) := [(61, 9999), (62, 9999), (59, 9999), (60, 9999), (57, 2), (57, 4)]
def P_X10_putsBack (B D : Int) (s0 : mh_H) (p1 : Int32) : mh_H → Prop := fun s => mh_I D D s ∧ mh_F S_X10_putsBack s0 s
set_option maxRecDepth 100000 in
set_option maxHeartbeats 4000000 in
theorem w_X10_putsBack (l : Launch) (G : mh_G) (d : Nat) {B D : Int} (hB : B ≤ 2000000000 ∧ D ≤ 2000000000) {s0 : mh_H} (hI0 : mh_I B D s0) (p1 : Int32) (r_p1 : mh_r p1 (0) (1)) : mh_Mv l G (d + 0) mM_X10_putsBack [.ref (G.2.2.2 57), .int p1] s0 (P_X10_putsBack B D s0 p1) := by
  refine mh_enter (lv := [(0, .ref (G.2.2.2 57)), (1, .int p1)]) (by decide) rfl (Nat.le_of_ble_eq_true rfl) ?_
  have hF0 : mh_F S_X10_putsBack s0 s0 := mh_F_rf
  refine mw_iconst (v := 0) 1 rfl dX10_putsBack_0 (by decide) ?_
  refine mw_istore_n 2 rfl [(2, .int (0)), (0, .ref (G.2.2.2 57)), (1, .int p1)] dX10_putsBack_1 rfl (by decide) rfl ?_
  have L2 : ∀ n1 : Nat, ∀ (x818 : Int32) (s819 : mh_H), mh_r x818 (0) (144) → mh_I B D s819 → mh_F S_X10_putsBack s0 s819 → (144) - x818.toInt < (n1 : Int) → mh_W G (mh_XM l G (d + 0) (mh_Qv (P_X10_putsBack B D s0 p1))) mM_X10_putsBack 2 [(0, .ref (G.2.2.2 57)), (1, .int p1), (2, .int x818)] [] s819 := by
    intro n1
    induction n1 with
    | zero =>
      intro x818 s819 r_x818 hI_s819 hF_s819 hmn1
      exact absurd hmn1 (by have := r_x818.1; have := r_x818.2; omega)
    | succ n1 ihn1 =>
      intro x818 s819 r_x818 hI_s819 hF_s819 hmn1
      refine mw_iload_n 3 rfl 2 dX10_putsBack_2 rfl rfl ?_
      refine mw_sipush (v := 144) 6 rfl dX10_putsBack_3 (by decide) ?_
      refine mw_icmp_ge 9 rfl 87 dX10_putsBack_6 (by decide) (fun c857 => ?_) (fun c857 => ?_)
      · skip
        have r_x818 : mh_r x818 (144) (144) := mh_le2 c857 rc_144 r_x818 (144) (by decide)
        refine mw_aload_n 88 rfl 0 dX10_putsBack_87 rfl rfl ?_
        refine mw_aload_n 89 rfl 0 dX10_putsBack_88 rfl rfl ?_
        refine mw_geta 92 rfl dX10_putsBack_89 gf_X10_103 rfl 87 (mh_rf hI_s819 84 rfl) ?_
        refine mw_iload_n 93 rfl 1 dX10_putsBack_92 rfl rfl ?_
        refine mw_iald 94 rfl dX10_putsBack_93 rfl r_p1 (by decide) (fun x858 t859 => ?_)
        have r_x858 : mh_r x858 (0) (2000000000) := by rw [t859]; exact mh_r_wk (rd_87 hI_s819 _) ⟨by decide, by omega⟩
        refine mw_puti 97 rfl dX10_putsBack_94 pf_X10_301 rfl (fun s860 t861 => ?_)
        have h9 : x858.toInt ≤ D := by rw [t859]; exact (rd_87 hI_s819 _).2
        have hI_s860 : mh_I D D s860 := by rw [t861]; exact mh_I_step hI_s819 ⟨by have := (r_x858).1; omega, h9⟩
        have hF_s860 : mh_F S_X10_putsBack s0 s860 := by rw [t861]; exact mh_F_pI hF_s819 (mh_sj 4 rfl)
        refine mw_aload_n 98 rfl 0 dX10_putsBack_97 rfl rfl ?_
        refine mw_aload_n 99 rfl 0 dX10_putsBack_98 rfl rfl ?_
        refine mw_geta 102 rfl dX10_putsBack_99 gf_X10_106 rfl 88 (mh_rf hI_s860 85 rfl) ?_
        refine mw_iload_n 103 rfl 1 dX10_putsBack_102 rfl rfl ?_
        refine mw_lald 104 rfl dX10_putsBack_103 rfl r_p1 (by decide) (fun y862 _ => ?_)
        refine mw_putl 107 rfl dX10_putsBack_104 pf_X10_361 rfl (fun s863 t864 => ?_)
        have hI_s863 : mh_I D D s863 := by rw [t864]; exact mh_I_pL hI_s860
        have hF_s863 : mh_F S_X10_putsBack s0 s863 := by rw [t864]; exact mh_F_pL hF_s860 (mh_sj 5 rfl)
        exact mw_vret dX10_putsBack_107 rfl ⟨rfl, ⟨hI_s863, hF_s863⟩⟩
      · skip
        have r_x818 : mh_r x818 (0) (143) := mh_lt1 c857 r_x818 rc_144 (143) (by decide)
        refine mw_aload_n 10 rfl 0 dX10_putsBack_9 rfl rfl ?_
        refine mw_geta 13 rfl dX10_putsBack_10 gf_X10_24 rfl 61 (mh_rf hI_s819 58 rfl) ?_
        refine mw_iload_n 14 rfl 2 dX10_putsBack_13 rfl rfl ?_
        refine mw_aload_n 15 rfl 0 dX10_putsBack_14 rfl rfl ?_
        refine mw_geta 18 rfl dX10_putsBack_15 gf_X10_91 rfl 83 (mh_rf hI_s819 80 rfl) ?_
        refine mw_sipush (v := 144) 21 rfl dX10_putsBack_18 (by decide) ?_
        refine mw_iload_n 22 rfl 1 dX10_putsBack_21 rfl rfl ?_
        refine mw_imul 23 rfl (0) (144) dX10_putsBack_22 rc_144 r_p1 (by decide) (fun x865 t866 r_x865 => ?_)
        refine mw_iload_n 24 rfl 2 dX10_putsBack_23 rfl rfl ?_
        refine mw_iadd 25 rfl (0) (287) dX10_putsBack_24 r_x865 r_x818 (by decide) (fun x867 t868 r_x867 => ?_)
        refine mw_iald 26 rfl dX10_putsBack_25 rfl r_x867 (by decide) (fun x869 t870 => ?_)
        refine mw_iast 27 rfl dX10_putsBack_26 rfl r_x818 (by decide) (fun s871 t872 => ?_)
        have hI_s871 : mh_I B D s871 := by rw [t872]; exact wr_61 hI_s819
        have hF_s871 : mh_F S_X10_putsBack s0 s871 := by rw [t872]; exact mh_F_pI hF_s819 (mh_si 0 rfl)
        refine mw_aload_n 28 rfl 0 dX10_putsBack_27 rfl rfl ?_
        refine mw_geta 31 rfl dX10_putsBack_28 gf_X10_27 rfl 62 (mh_rf hI_s871 59 rfl) ?_
        refine mw_iload_n 32 rfl 2 dX10_putsBack_31 rfl rfl ?_
        refine mw_aload_n 33 rfl 0 dX10_putsBack_32 rfl rfl ?_
        refine mw_geta 36 rfl dX10_putsBack_33 gf_X10_94 rfl 84 (mh_rf hI_s871 81 rfl) ?_
        refine mw_sipush (v := 144) 39 rfl dX10_putsBack_36 (by decide) ?_
        refine mw_iload_n 40 rfl 1 dX10_putsBack_39 rfl rfl ?_
        refine mw_imul 41 rfl (0) (144) dX10_putsBack_40 rc_144 r_p1 (by decide) (fun x873 t874 r_x873 => ?_)
        obtain rfl : x865 = x873 := Int32.toInt_inj.mp (t866.trans t874.symm)
        refine mw_iload_n 42 rfl 2 dX10_putsBack_41 rfl rfl ?_
        refine mw_iadd 43 rfl (0) (287) dX10_putsBack_42 r_x865 r_x818 (by decide) (fun x875 t876 r_x875 => ?_)
        obtain rfl : x867 = x875 := Int32.toInt_inj.mp (t868.trans t876.symm)
        refine mw_iald 44 rfl dX10_putsBack_43 rfl r_x867 (by decide) (fun x877 t878 => ?_)
        refine mw_iast 45 rfl dX10_putsBack_44 rfl r_x818 (by decide) (fun s879 t880 => ?_)
        have hI_s879 : mh_I B D s879 := by rw [t880]; exact wr_62 hI_s871
        have hF_s879 : mh_F S_X10_putsBack s0 s879 := by rw [t880]; exact mh_F_pI hF_s871 (mh_si 1 rfl)
        refine mw_aload_n 46 rfl 0 dX10_putsBack_45 rfl rfl ?_
        refine mw_geta 49 rfl dX10_putsBack_46 gf_X10_17 rfl 59 (mh_rf hI_s879 56 rfl) ?_
        refine mw_iload_n 50 rfl 2 dX10_putsBack_49 rfl rfl ?_
        refine mw_aload_n 51 rfl 0 dX10_putsBack_50 rfl rfl ?_
        refine mw_geta 54 rfl dX10_putsBack_51 gf_X10_97 rfl 85 (mh_rf hI_s879 82 rfl) ?_
        refine mw_sipush (v := 144) 57 rfl dX10_putsBack_54 (by decide) ?_
        refine mw_iload_n 58 rfl 1 dX10_putsBack_57 rfl rfl ?_
        refine mw_imul 59 rfl (0) (144) dX10_putsBack_58 rc_144 r_p1 (by decide) (fun x881 t882 r_x881 => ?_)
        obtain rfl : x865 = x881 := Int32.toInt_inj.mp (t866.trans t882.symm)
        refine mw_iload_n 60 rfl 2 dX10_putsBack_59 rfl rfl ?_
        refine mw_iadd 61 rfl (0) (287) dX10_putsBack_60 r_x865 r_x818 (by decide) (fun x883 t884 r_x883 => ?_)
        obtain rfl : x867 = x883 := Int32.toInt_inj.mp (t868.trans t884.symm)
        refine mw_iald 62 rfl dX10_putsBack_61 rfl r_x867 (by decide) (fun x885 t886 => ?_)
        refine mw_iast 63 rfl dX10_putsBack_62 rfl r_x818 (by decide) (fun s887 t888 => ?_)
        have hI_s887 : mh_I B D s887 := by rw [t888]; exact wr_59 hI_s879
        have hF_s887 : mh_F S_X10_putsBack s0 s887 := by rw [t888]; exact mh_F_pI hF_s879 (mh_si 2 rfl)
        refine mw_aload_n 64 rfl 0 dX10_putsBack_63 rfl rfl ?_
        refine mw_geta 67 rfl dX10_putsBack_64 gf_X10_21 rfl 60 (mh_rf hI_s887 57 rfl) ?_
        refine mw_iload_n 68 rfl 2 dX10_putsBack_67 rfl rfl ?_
        refine mw_aload_n 69 rfl 0 dX10_putsBack_68 rfl rfl ?_
        refine mw_geta 72 rfl dX10_putsBack_69 gf_X10_100 rfl 86 (mh_rf hI_s887 83 rfl) ?_
        refine mw_sipush (v := 144) 75 rfl dX10_putsBack_72 (by decide) ?_
        refine mw_iload_n 76 rfl 1 dX10_putsBack_75 rfl rfl ?_
        refine mw_imul 77 rfl (0) (144) dX10_putsBack_76 rc_144 r_p1 (by decide) (fun x889 t890 r_x889 => ?_)
        obtain rfl : x865 = x889 := Int32.toInt_inj.mp (t866.trans t890.symm)
        refine mw_iload_n 78 rfl 2 dX10_putsBack_77 rfl rfl ?_
        refine mw_iadd 79 rfl (0) (287) dX10_putsBack_78 r_x865 r_x818 (by decide) (fun x891 t892 r_x891 => ?_)
        obtain rfl : x867 = x891 := Int32.toInt_inj.mp (t868.trans t892.symm)
        refine mw_iald 80 rfl dX10_putsBack_79 rfl r_x867 (by decide) (fun x893 t894 => ?_)
        refine mw_iast 81 rfl dX10_putsBack_80 rfl r_x818 (by decide) (fun s895 t896 => ?_)
        have hI_s895 : mh_I B D s895 := by rw [t896]; exact wr_60 hI_s887
        have hF_s895 : mh_F S_X10_putsBack s0 s895 := by rw [t896]; exact mh_F_pI hF_s887 (mh_si 3 rfl)
        refine mw_iincR (k := 2) (1) (144) 84 rfl (fun z => [(2, .int z), (0, .ref (G.2.2.2 57)), (1, .int p1)]) dX10_putsBack_81 rfl (by decide) (fun _ => rfl) r_x818 (by decide) (by decide) (fun x897 t898 r_x897 => ?_)
        refine mw_goto 87 rfl 2 dX10_putsBack_84 (by decide) ?_
        exact mw_lv [1, 2, 0] rfl (ihn1 x897 s895 (mh_r_wk r_x897 (by decide)) hI_s895 hF_s895 (by have : x897.toInt = x818.toInt + (1) := t898; omega))
  exact mw_lv [1, 2, 0] rfl (L2 145 (0) s0 (mh_r_wk rc_0 (by decide)) hI0 hF0 (by have := (rc_0).1; have := (rc_0).2; omega))

def S_X10_highestTop : List (Nat × Nat) := [(57, 33), (57, 34), (57, 35), (57, 36), (57, 37), (78, 9999), (77, 9999)]
def P_X10_highestTop (B D : Int) (s0 : mh_H) : Int32 → mh_H → Prop := fun z s => mh_r z (0) (2147483647) ∧ mh_I B D s ∧ mh_F S_X10_highestTop s0 s
set_option maxRecDepth 100000 in
set_option maxHeartbeats 4000000 in
theorem w_X10_highestTop (l : Launch) (G : mh_G) (d : Nat) {B D : Int} (hB : B ≤ 1840000000 ∧ D ≤ 1840000000) {s0 : mh_H} (hI0 : mh_I B D s0) : mh_Mi l G (d + 8) mM_X10_highestTop [.ref (G.2.2.2 57)] s0 (P_X10_highestTop B D s0) := by
  refine mh_enter (lv := [(0, .ref (G.2.2.2 57))]) (by decide) rfl (Nat.le_of_ble_eq_true rfl) ?_
  have hF0 : mh_F S_X10_highestTop s0 s0 := mh_F_rf
  refine mw_iconst (v := 0) 1 rfl dX10_highestTop_0 (by decide) ?_
  refine mw_istore_n 2 rfl [(1, .int (0)), (0, .ref (G.2.2.2 57))] dX10_highestTop_1 rfl (by decide) rfl ?_
  refine mw_iconst (v := 0) 3 rfl dX10_highestTop_2 (by decide) ?_
  refine mw_istore_n 4 rfl [(2, .int (0)), (1, .int (0)), (0, .ref (G.2.2.2 57))] dX10_highestTop_3 rfl (by decide) rfl ?_
  have L4 : ∀ n1 : Nat, ∀ (x435 : Int32) (x436 : Int32) (s437 : mh_H), mh_r x435 (0) (144) → mh_r x436 (0) (2147483647) → mh_I B D s437 → mh_F S_X10_highestTop s0 s437 → (144) - x435.toInt < (n1 : Int) → mh_W G (mh_XM l G (d + 8) (mh_Qi (P_X10_highestTop B D s0))) mM_X10_highestTop 4 [(0, .ref (G.2.2.2 57)), (1, .int x436), (2, .int x435)] [] s437 := by
    intro n1
    induction n1 with
    | zero =>
      intro x435 x436 s437 r_x435 r_x436 hI_s437 hF_s437 hmn1
      exact absurd hmn1 (by have := r_x435.1; have := r_x435.2; omega)
    | succ n1 ihn1 =>
      intro x435 x436 s437 r_x435 r_x436 hI_s437 hF_s437 hmn1
      refine mw_iload_n 5 rfl 2 dX10_highestTop_4 rfl rfl ?_
      refine mw_sipush (v := 144) 8 rfl dX10_highestTop_5 (by decide) ?_
      refine mw_icmp_ge 11 rfl 48 dX10_highestTop_8 (by decide) (fun c458 => ?_) (fun c458 => ?_)
      · skip
        have r_x435 : mh_r x435 (144) (144) := mh_le2 c458 rc_144 r_x435 (144) (by decide)
        refine mw_iload_n 49 rfl 1 dX10_highestTop_48 rfl rfl ?_
        exact mw_iret dX10_highestTop_49 rfl ⟨x436, rfl, ⟨r_x436, hI_s437, hF_s437⟩⟩
      · skip
        have r_x435 : mh_r x435 (0) (143) := mh_lt1 c458 r_x435 rc_144 (143) (by decide)
        refine mw_aload_n 12 rfl 0 dX10_highestTop_11 rfl rfl ?_
        refine mw_iload_n 13 rfl 2 dX10_highestTop_12 rfl rfl ?_
        refine mw_callVi [.int x435] [] 16 rfl dX10_highestTop_13 ml_X10_349 mc_X10_mistAt mk_X10_mistAt rfl rfl (by decide) (w_X10_mistAt l G (d + 0) ⟨by omega, by omega⟩ hI_s437 x435 r_x435) rfl rfl (Nat.le_of_ble_eq_true rfl) (mh_rok (by omega) (by decide)) (fun x459 s460 q461 => ?_)
        obtain ⟨r_x459, e0_s460, hI_s460, hG_s460⟩ := q461
        have hF_s460 : mh_F S_X10_highestTop s0 s460 := mh_F_tl hF_s437 hG_s460 (by decide +kernel)
        refine mw_istore_n 17 rfl [(3, .int x459), (0, .ref (G.2.2.2 57)), (1, .int x436), (2, .int x435)] dX10_highestTop_16 rfl (by decide) rfl ?_
        refine mw_iload_n 18 rfl 0 dX10_highestTop_17 rfl rfl ?_
        have J42 : ∀ (x472 : Int32), mh_r x472 (0) (2147483647) → mh_W G (mh_XM l G (d + 8) (mh_Qi (P_X10_highestTop B D s0))) mM_X10_highestTop 42 [(0, .ref (G.2.2.2 57)), (1, .int x472), (2, .int x435), (3, .int x459)] [] s460 := by
          intro x472 r_x472
          refine mw_iincR (k := 2) (1) (144) 45 rfl (fun z => [(2, .int z), (0, .ref (G.2.2.2 57)), (1, .int x472), (3, .int x459)]) dX10_highestTop_42 rfl (by decide) (fun _ => rfl) r_x435 (by decide) (by decide) (fun x475 t476 r_x475 => ?_)
          refine mw_goto 48 rfl 4 dX10_highestTop_45 (by decide) ?_
          exact mw_lv [1, 2, 0] rfl (ihn1 x475 x472 s460 (mh_r_wk r_x475 (by decide)) r_x472 hI_s460 hF_s460 (by have : x475.toInt = x435.toInt + (1) := t476; omega))
        refine mw_if_le 21 rfl 42 dX10_highestTop_18 (by decide) (fun c477 => ?_) (fun c477 => ?_)
        · skip
          have r_x459 : mh_r x459 (0) (0) := mh_le1 (show x459.toInt ≤ (0 : Int32).toInt from c477) r_x459 rc_0 (0) (by decide)
          exact mw_lv [1, 2, 3, 0] rfl (J42 x436 r_x436)
        · skip
          have r_x459 : mh_r x459 (1) (99) := mh_lt2 (show (0 : Int32).toInt < x459.toInt from c477) rc_0 r_x459 (1) (by decide)
          refine mw_aload_n 22 rfl 1 dX10_highestTop_21 rfl rfl ?_
          refine mw_geta 25 rfl dX10_highestTop_22 gf_X10_17 rfl 59 (mh_rf hI_s460 56 rfl) ?_
          refine mw_iload_n 26 rfl 3 dX10_highestTop_25 rfl rfl ?_
          refine mw_iald 27 rfl dX10_highestTop_26 rfl r_x435 (by decide) (fun x478 t479 => ?_)
          refine mw_iload_n 28 rfl 0 dX10_highestTop_27 rfl rfl ?_
          refine mw_iadd_u 29 rfl dX10_highestTop_28 (fun x480 t481 => ?_)
          refine mw_iload_n 30 rfl 2 dX10_highestTop_29 rfl rfl ?_
          refine mw_icmp_le 33 rfl 42 dX10_highestTop_30 (by decide) (fun c482 => ?_) (fun c482 => ?_)
          · skip
            exact mw_lv [1, 2, 3, 0] rfl (J42 x436 r_x436)
          · skip
            have r_x436 : mh_r x436 (0) (2147483646) := mh_lt1 c482 r_x436 (mh_r_full x480) (2147483646) (by decide)
            have r_x480 : mh_r x480 (1) (2147483647) := mh_lt2 c482 r_x436 (mh_r_full x480) (1) (by decide)
            refine mw_aload_n 34 rfl 1 dX10_highestTop_33 rfl rfl ?_
            refine mw_geta 37 rfl dX10_highestTop_34 gf_X10_17 rfl 59 (mh_rf hI_s460 56 rfl) ?_
            refine mw_iload_n 38 rfl 3 dX10_highestTop_37 rfl rfl ?_
            refine mw_iald 39 rfl dX10_highestTop_38 rfl r_x435 (by decide) (fun x483 t484 => ?_)
            obtain rfl : x478 = x483 := t479.trans t484.symm
            refine mw_iload_n 40 rfl 0 dX10_highestTop_39 rfl rfl ?_
            refine mw_iadd_u 41 rfl dX10_highestTop_40 (fun x485 t486 => ?_)
            obtain rfl : x480 = x485 := t481.trans t486.symm
            refine mw_istore_n 42 rfl [(1, .int x480), (3, .int x459), (0, .ref (G.2.2.2 57)), (2, .int x435)] dX10_highestTop_41 rfl (by decide) rfl ?_
            exact mw_lv [2, 0, 3, 1] rfl (J42 x480 (mh_r_wk r_x480 (by decide)))
  exact mw_lv [2, 1, 0] rfl (L4 145 (0) (0) s0 (mh_r_wk rc_0 (by decide)) (mh_r_wk rc_0 (by decide)) hI0 hF0 (by have := (rc_0).1; have := (rc_0).2; omega))

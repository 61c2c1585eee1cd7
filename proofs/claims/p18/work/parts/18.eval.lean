def P_X10_beside (B D : Int) (s0 : mh_H) (p0 : Int32) (p1 : Int32) : Int32 → mh_H → Prop := fun z s => mh_r z (-1) (143) ∧ (z.toInt = mh_bes p0.toInt p1.toInt) ∧ s0 = s
set_option maxRecDepth 100000 in
set_option maxHeartbeats 4000000 in
theorem w_X10_beside (l : Launch) (G : mh_G) (d : Nat) {B D : Int} (hB : B ≤ 2000000000 ∧ D ≤ 2000000000) {s0 : mh_H} (hI0 : mh_I B D s0) (p0 : Int32) (r_p0 : mh_r p0 (0) (143)) (p1 : Int32) (r_p1 : mh_r p1 (0) (3)) : mh_Mi l G (d + 0) mM_X10_beside [.int p0, .int p1] s0 (P_X10_beside B D s0 p0 p1) := by
  refine mh_enter (lv := [(0, .int p0), (1, .int p1)]) (by decide) rfl (Nat.le_of_ble_eq_true rfl) ?_
  refine mw_iload_n 1 rfl 1 dX10_beside_0 rfl rfl ?_
  refine mw_if_ne 4 rfl 20 dX10_beside_1 (by decide) (fun c28 => ?_) (fun c28 => ?_)
  · skip
    have r_p1 : mh_r p1 (1) (3) := mh_ne1 (show p1.toInt ≠ (0 : Int32).toInt from c28) r_p1 rc_0 (1) (3) (by decide)
    refine mw_iload_n 21 rfl 1 dX10_beside_20 rfl rfl ?_
    refine mw_iconst (v := 1) 22 rfl dX10_beside_21 (by decide) ?_
    refine mw_icmp_ne 25 rfl 40 dX10_beside_22 (by decide) (fun c29 => ?_) (fun c29 => ?_)
    · skip
      have r_p1 : mh_r p1 (2) (3) := mh_ne1 c29 r_p1 rc_1 (2) (3) (by decide)
      refine mw_iload_n 41 rfl 1 dX10_beside_40 rfl rfl ?_
      refine mw_iconst (v := 2) 42 rfl dX10_beside_41 (by decide) ?_
      refine mw_icmp_ne 45 rfl 62 dX10_beside_42 (by decide) (fun c30 => ?_) (fun c30 => ?_)
      · skip
        have r_p1 : mh_r p1 (3) (3) := mh_ne1 c30 r_p1 rc_2 (3) (3) (by decide)
        refine mw_iload_n 63 rfl 0 dX10_beside_62 rfl rfl ?_
        refine mw_bipush (v := 12) 65 rfl dX10_beside_63 (by decide) ?_
        refine mw_idiv 66 rfl (0) (143) dX10_beside_65 r_p0 rc_12 (by decide) (fun x31 t32 r_x31 => ?_)
        have r_x31 : mh_r x31 (0) (11) := mh_dvc t32 r_p0 (by decide) (by decide)
        have g33 : x31.toInt = p0.toInt / 12 := mh_dve t32 (by have := (r_p0).1; omega) (by decide)
        refine mw_bipush (v := 11) 68 rfl dX10_beside_66 (by decide) ?_
        refine mw_icmp_ge 71 rfl 78 dX10_beside_68 (by decide) (fun c34 => ?_) (fun c34 => ?_)
        · skip
          have r_x31 : mh_r x31 (11) (11) := mh_le2 c34 rc_11 r_x31 (11) (by decide)
          have r_p0 : mh_r p0 (132) (143) := by have := g33; have := (r_p0).1; have := (r_p0).2; have := (r_x31).1; have := (r_x31).2; exact ⟨by omega, by omega⟩
          refine mw_iconst (v := -1) 79 rfl dX10_beside_78 (by decide) ?_
          refine mw_iret dX10_beside_79 rfl ⟨(-1), rfl, ⟨(mh_r_wk rc_m1 (by decide)), ?_, rfl⟩⟩
          · skip
            have := (r_p0).1; have := (r_p0).2
            have := (r_p1).1; have := (r_p1).2
            have := (rc_m1).1; have := (rc_m1).2
            have := kc_m1
            have := kc_0
            have := kc_1
            have := kc_2
            have := kc_11
            have := kc_12
            unfold mh_bes
            repeat' split
            all_goals omega
        · skip
          have r_x31 : mh_r x31 (0) (10) := mh_lt1 c34 r_x31 rc_11 (10) (by decide)
          have r_p0 : mh_r p0 (0) (131) := by have := g33; have := (r_p0).1; have := (r_p0).2; have := (r_x31).1; have := (r_x31).2; exact ⟨by omega, by omega⟩
          refine mw_iload_n 72 rfl 0 dX10_beside_71 rfl rfl ?_
          refine mw_bipush (v := 12) 74 rfl dX10_beside_72 (by decide) ?_
          refine mw_iadd 75 rfl (12) (143) dX10_beside_74 r_p0 rc_12 (by decide) (fun x35 t36 r_x35 => ?_)
          refine mw_goto 78 rfl 79 dX10_beside_75 (by decide) ?_
          refine mw_iret dX10_beside_79 rfl ⟨x35, rfl, ⟨(mh_r_wk r_x35 (by decide)), ?_, rfl⟩⟩
          · skip
            have := (r_p0).1; have := (r_p0).2
            have := (r_p1).1; have := (r_p1).2
            have := (r_x35).1; have := (r_x35).2
            have := (rc_12).1; have := (rc_12).2
            have := kc_m1
            have := kc_0
            have := kc_1
            have := kc_2
            have := kc_11
            have := kc_12
            unfold mh_bes
            repeat' split
            all_goals omega
      · skip
        have r_p1 : mh_r p1 (2) (2) := mh_eq1 c30 r_p1 rc_2 (2) (2) (by decide)
        refine mw_iload_n 46 rfl 0 dX10_beside_45 rfl rfl ?_
        refine mw_bipush (v := 12) 48 rfl dX10_beside_46 (by decide) ?_
        refine mw_irem 49 rfl (0) (11) dX10_beside_48 r_p0 rc_12 (by decide) (fun x37 t38 r_x37 => ?_)
        have g39 : x37.toInt = p0.toInt % 12 := mh_rme t38 (by have := (r_p0).1; omega) (by decide)
        refine mw_bipush (v := 11) 51 rfl dX10_beside_49 (by decide) ?_
        refine mw_icmp_ge 54 rfl 60 dX10_beside_51 (by decide) (fun c40 => ?_) (fun c40 => ?_)
        · skip
          have r_x37 : mh_r x37 (11) (11) := mh_le2 c40 rc_11 r_x37 (11) (by decide)
          have r_p0 : mh_r p0 (11) (143) := by have := g39; have := (r_p0).1; have := (r_p0).2; have := (r_x37).1; have := (r_x37).2; exact ⟨by omega, by omega⟩
          refine mw_iconst (v := -1) 61 rfl dX10_beside_60 (by decide) ?_
          refine mw_iret dX10_beside_61 rfl ⟨(-1), rfl, ⟨(mh_r_wk rc_m1 (by decide)), ?_, rfl⟩⟩
          · skip
            have := (r_p0).1; have := (r_p0).2
            have := (r_p1).1; have := (r_p1).2
            have := (rc_m1).1; have := (rc_m1).2
            have := kc_m1
            have := kc_0
            have := kc_1
            have := kc_2
            have := kc_11
            have := kc_12
            unfold mh_bes
            repeat' split
            all_goals omega
        · skip
          have r_x37 : mh_r x37 (0) (10) := mh_lt1 c40 r_x37 rc_11 (10) (by decide)
          have r_p0 : mh_r p0 (0) (142) := by have := g39; have := (r_p0).1; have := (r_p0).2; have := (r_x37).1; have := (r_x37).2; exact ⟨by omega, by omega⟩
          refine mw_iload_n 55 rfl 0 dX10_beside_54 rfl rfl ?_
          refine mw_iconst (v := 1) 56 rfl dX10_beside_55 (by decide) ?_
          refine mw_iadd 57 rfl (1) (143) dX10_beside_56 r_p0 rc_1 (by decide) (fun x41 t42 r_x41 => ?_)
          refine mw_goto 60 rfl 61 dX10_beside_57 (by decide) ?_
          refine mw_iret dX10_beside_61 rfl ⟨x41, rfl, ⟨(mh_r_wk r_x41 (by decide)), ?_, rfl⟩⟩
          · skip
            have := (r_p0).1; have := (r_p0).2
            have := (r_p1).1; have := (r_p1).2
            have := (r_x41).1; have := (r_x41).2
            have := (rc_1).1; have := (rc_1).2
            have := kc_m1
            have := kc_0
            have := kc_1
            have := kc_2
            have := kc_11
            have := kc_12
            unfold mh_bes
            repeat' split
            all_goals omega
    · skip
      have r_p1 : mh_r p1 (1) (1) := mh_eq1 c29 r_p1 rc_1 (1) (1) (by decide)
      refine mw_iload_n 26 rfl 0 dX10_beside_25 rfl rfl ?_
      refine mw_bipush (v := 12) 28 rfl dX10_beside_26 (by decide) ?_
      refine mw_irem 29 rfl (0) (11) dX10_beside_28 r_p0 rc_12 (by decide) (fun x43 t44 r_x43 => ?_)
      have g45 : x43.toInt = p0.toInt % 12 := mh_rme t44 (by have := (r_p0).1; omega) (by decide)
      refine mw_if_le 32 rfl 38 dX10_beside_29 (by decide) (fun c46 => ?_) (fun c46 => ?_)
      · skip
        have r_x43 : mh_r x43 (0) (0) := mh_le1 (show x43.toInt ≤ (0 : Int32).toInt from c46) r_x43 rc_0 (0) (by decide)
        have r_p0 : mh_r p0 (0) (132) := by have := g45; have := (r_p0).1; have := (r_p0).2; have := (r_x43).1; have := (r_x43).2; exact ⟨by omega, by omega⟩
        refine mw_iconst (v := -1) 39 rfl dX10_beside_38 (by decide) ?_
        refine mw_iret dX10_beside_39 rfl ⟨(-1), rfl, ⟨(mh_r_wk rc_m1 (by decide)), ?_, rfl⟩⟩
        · skip
          have := (r_p0).1; have := (r_p0).2
          have := (r_p1).1; have := (r_p1).2
          have := (rc_m1).1; have := (rc_m1).2
          have := kc_m1
          have := kc_0
          have := kc_1
          have := kc_2
          have := kc_11
          have := kc_12
          unfold mh_bes
          repeat' split
          all_goals omega
      · skip
        have r_x43 : mh_r x43 (1) (11) := mh_lt2 (show (0 : Int32).toInt < x43.toInt from c46) rc_0 r_x43 (1) (by decide)
        have r_p0 : mh_r p0 (1) (143) := by have := g45; have := (r_p0).1; have := (r_p0).2; have := (r_x43).1; have := (r_x43).2; exact ⟨by omega, by omega⟩
        refine mw_iload_n 33 rfl 0 dX10_beside_32 rfl rfl ?_
        refine mw_iconst (v := 1) 34 rfl dX10_beside_33 (by decide) ?_
        refine mw_isub 35 rfl (0) (142) dX10_beside_34 r_p0 rc_1 (by decide) (fun x47 t48 r_x47 => ?_)
        refine mw_goto 38 rfl 39 dX10_beside_35 (by decide) ?_
        refine mw_iret dX10_beside_39 rfl ⟨x47, rfl, ⟨(mh_r_wk r_x47 (by decide)), ?_, rfl⟩⟩
        · skip
          have := (r_p0).1; have := (r_p0).2
          have := (r_p1).1; have := (r_p1).2
          have := (r_x47).1; have := (r_x47).2
          have := (rc_1).1; have := (rc_1).2
          have := kc_m1
          have := kc_0
          have := kc_1
          have := kc_2
          have := kc_11
          have := kc_12
          unfold mh_bes
          repeat' split
          all_goals omega
  · skip
    have r_p1 : mh_r p1 (0) (0) := mh_eq1 (show p1.toInt = (0 : Int32).toInt from c28) r_p1 rc_0 (0) (0) (by decide)
    refine mw_iload_n 5 rfl 0 dX10_beside_4 rfl rfl ?_
    refine mw_bipush (v := 12) 7 rfl dX10_beside_5 (by decide) ?_
    refine mw_idiv 8 rfl (0) (143) dX10_beside_7 r_p0 rc_12 (by decide) (fun x49 t50 r_x49 => ?_)
    have r_x49 : mh_r x49 (0) (11) := mh_dvc t50 r_p0 (by decide) (by decide)
    have g51 : x49.toInt = p0.toInt / 12 := mh_dve t50 (by have := (r_p0).1; omega) (by decide)
    refine mw_if_le 11 rfl 18 dX10_beside_8 (by decide) (fun c52 => ?_) (fun c52 => ?_)
    · skip
      have r_x49 : mh_r x49 (0) (0) := mh_le1 (show x49.toInt ≤ (0 : Int32).toInt from c52) r_x49 rc_0 (0) (by decide)
      have r_p0 : mh_r p0 (0) (11) := by have := g51; have := (r_p0).1; have := (r_p0).2; have := (r_x49).1; have := (r_x49).2; exact ⟨by omega, by omega⟩
      refine mw_iconst (v := -1) 19 rfl dX10_beside_18 (by decide) ?_
      refine mw_iret dX10_beside_19 rfl ⟨(-1), rfl, ⟨(mh_r_wk rc_m1 (by decide)), ?_, rfl⟩⟩
      · skip
        have := (r_p0).1; have := (r_p0).2
        have := (r_p1).1; have := (r_p1).2
        have := (rc_m1).1; have := (rc_m1).2
        have := kc_m1
        have := kc_0
        have := kc_1
        have := kc_2
        have := kc_11
        have := kc_12
        unfold mh_bes
        repeat' split
        all_goals omega
    · skip
      have r_x49 : mh_r x49 (1) (11) := mh_lt2 (show (0 : Int32).toInt < x49.toInt from c52) rc_0 r_x49 (1) (by decide)
      have r_p0 : mh_r p0 (12) (143) := by have := g51; have := (r_p0).1; have := (r_p0).2; have := (r_x49).1; have := (r_x49).2; exact ⟨by omega, by omega⟩
      refine mw_iload_n 12 rfl 0 dX10_beside_11 rfl rfl ?_
      refine mw_bipush (v := 12) 14 rfl dX10_beside_12 (by decide) ?_
      refine mw_isub 15 rfl (0) (131) dX10_beside_14 r_p0 rc_12 (by decide) (fun x53 t54 r_x53 => ?_)
      refine mw_goto 18 rfl 19 dX10_beside_15 (by decide) ?_
      refine mw_iret dX10_beside_19 rfl ⟨x53, rfl, ⟨(mh_r_wk r_x53 (by decide)), ?_, rfl⟩⟩
      · skip
        have := (r_p0).1; have := (r_p0).2
        have := (r_p1).1; have := (r_p1).2
        have := (r_x53).1; have := (r_x53).2
        have := (rc_12).1; have := (rc_12).2
        have := kc_m1
        have := kc_0
        have := kc_1
        have := kc_2
        have := kc_11
        have := kc_12
        unfold mh_bes
        repeat' split
        all_goals omega

def P_X10_treesBeside (B D : Int) (s0 : mh_H) (p1 : Int32) : Int32 → mh_H → Prop := fun z s => mh_r z (0) (4) ∧ (z.toInt = mh_tr s0 p1.toInt 4) ∧ s0 = s
set_option maxRecDepth 100000 in
set_option maxHeartbeats 4000000 in
theorem w_X10_treesBeside (l : Launch) (G : mh_G) (d : Nat) {B D : Int} (hB : B ≤ 1980000000 ∧ D ≤ 1980000000) {s0 : mh_H} (hI0 : mh_I B D s0) (p1 : Int32) (r_p1 : mh_r p1 (0) (143)) : mh_Mi l G (d + 1) mM_X10_treesBeside [.ref (G.2.2.2 57), .int p1] s0 (P_X10_treesBeside B D s0 p1) := by
  refine mh_enter (lv := [(0, .ref (G.2.2.2 57)), (1, .int p1)]) (by decide) rfl (Nat.le_of_ble_eq_true rfl) ?_
  refine mw_iconst (v := 0) 1 rfl dX10_treesBeside_0 (by decide) ?_
  refine mw_istore_n 2 rfl [(2, .int (0)), (0, .ref (G.2.2.2 57)), (1, .int p1)] dX10_treesBeside_1 rfl (by decide) rfl ?_
  refine mw_iconst (v := 0) 3 rfl dX10_treesBeside_2 (by decide) ?_
  refine mw_istore_n 4 rfl [(3, .int (0)), (2, .int (0)), (0, .ref (G.2.2.2 57)), (1, .int p1)] dX10_treesBeside_3 rfl (by decide) rfl ?_
  have L4 : ∀ n1 : Nat, ∀ (x249 : Int32) (x250 : Int32), mh_r x249 (0) (4) → mh_r x250 (0) (4) → (x250.toInt = mh_tr s0 p1.toInt x249.toNatClampNeg ∧ 0 ≤ x250.toInt ∧ x250.toInt ≤ x249.toInt) → (4) - x249.toInt < (n1 : Int) → mh_W G (mh_XM l G (d + 1) (mh_Qi (P_X10_treesBeside B D s0 p1))) mM_X10_treesBeside 4 [(0, .ref (G.2.2.2 57)), (1, .int p1), (2, .int x250), (3, .int x249)] [] s0 := by
    intro n1
    induction n1 with
    | zero =>
      intro x249 x250 r_x249 r_x250 iv hmn1
      exact absurd hmn1 (by have := r_x249.1; have := r_x249.2; omega)
    | succ n1 ihn1 =>
      intro x249 x250 r_x249 r_x250 iv hmn1
      refine mw_iload_n 5 rfl 3 dX10_treesBeside_4 rfl rfl ?_
      refine mw_iconst (v := 4) 6 rfl dX10_treesBeside_5 (by decide) ?_
      refine mw_icmp_ge 9 rfl 46 dX10_treesBeside_6 (by decide) (fun c276 => ?_) (fun c276 => ?_)
      · skip
        have r_x249 : mh_r x249 (4) (4) := mh_le2 c276 rc_4 r_x249 (4) (by decide)
        refine mw_iload_n 47 rfl 2 dX10_treesBeside_46 rfl rfl ?_
        refine mw_iret dX10_treesBeside_47 rfl ⟨x250, rfl, ⟨r_x250, ?_, rfl⟩⟩
        · skip
          have := (r_p1).1; have := (r_p1).2
          have := (r_x250).1; have := (r_x250).2
          have := (r_x249).1; have := (r_x249).2
          have := kc_m1
          have := kc_0
          have := kc_1
          have := kc_2
          have := kc_4
          have h9 := iv.1
          rw [h9]
          have h8 : x249.toNatClampNeg = 4 := by show x249.toInt.toNat = 4; omega
          rw [h8]
      · skip
        have r_x249 : mh_r x249 (0) (3) := mh_lt1 c276 r_x249 rc_4 (3) (by decide)
        have r_x250 : mh_r x250 (0) (3) := ⟨by have := (r_p1).1; have := (r_p1).2; have := (r_x250).1; have := (r_x250).2; have := (r_x249).1; have := (r_x249).2; have := kc_m1; have := kc_0; have := kc_1; have := kc_2; have := kc_4; omega, by have := (r_p1).1; have := (r_p1).2; have := (r_x250).1; have := (r_x250).2; have := (r_x249).1; have := (r_x249).2; have := kc_m1; have := kc_0; have := kc_1; have := kc_2; have := kc_4; omega⟩
        refine mw_iload_n 10 rfl 2 dX10_treesBeside_9 rfl rfl ?_
        refine mw_iload_n 11 rfl 1 dX10_treesBeside_10 rfl rfl ?_
        refine mw_iload_n 12 rfl 3 dX10_treesBeside_11 rfl rfl ?_
        refine mw_callSi [.int p1, .int x249] [.int x250] 15 rfl dX10_treesBeside_12 ml_X10_162 mc_X10_beside mk_X10_beside (w_X10_beside l G (d + 0) ⟨by omega, by omega⟩ hI0 p1 r_p1 x249 r_x249) rfl rfl (Nat.le_of_ble_eq_true rfl) (mh_rok (by omega) (by decide)) (fun x277 s278 q279 => ?_)
        obtain ⟨r_x277, e0_s278, rfl⟩ := q279
        refine mw_iconst (v := -1) 16 rfl dX10_treesBeside_15 (by decide) ?_
        refine mw_icmp_eq 19 rfl 37 dX10_treesBeside_16 (by decide) (fun c280 => ?_) (fun c280 => ?_)
        · skip
          have r_x277 : mh_r x277 (-1) (-1) := mh_eq1 c280 r_x277 rc_m1 (-1) (-1) (by decide)
          refine mw_iconst (v := 0) 38 rfl dX10_treesBeside_37 (by decide) ?_
          refine mw_iadd 39 rfl (0) (3) dX10_treesBeside_38 r_x250 rc_0 (by decide) (fun x281 t282 r_x281 => ?_)
          refine mw_istore_n 40 rfl [(2, .int x281), (0, .ref (G.2.2.2 57)), (1, .int p1), (3, .int x249)] dX10_treesBeside_39 rfl (by decide) rfl ?_
          refine mw_iincR (k := 3) (1) (4) 43 rfl (fun z => [(3, .int z), (2, .int x281), (0, .ref (G.2.2.2 57)), (1, .int p1)]) dX10_treesBeside_40 rfl (by decide) (fun _ => rfl) r_x249 (by decide) (by decide) (fun x283 t284 r_x283 => ?_)
          refine mw_goto 46 rfl 4 dX10_treesBeside_43 (by decide) ?_
          exact mw_lv [2, 3, 1, 0] rfl (ihn1 x283 x281 (mh_r_wk r_x283 (by decide)) (mh_r_wk r_x281 (by decide)) (by
              have := r_x249.1; have := r_x249.2
              have := (r_x283).1; have := (r_x283).2
              have := (r_x281).1; have := (r_x281).2
              have := (r_p1).1; have := (r_p1).2
              have := (r_x277).1; have := (r_x277).2
              have := (r_x250).1; have := (r_x250).2
              have := (rc_0).1; have := (rc_0).2
              have := kc_m1
              have := kc_0
              have := kc_1
              have := kc_2
              have := kc_4
              have hd : x283.toNatClampNeg = x249.toNatClampNeg + 1 := by show x283.toInt.toNat = x249.toInt.toNat + 1; omega
              have hdd : ((x249.toNatClampNeg : Nat) : Int) = x249.toInt := by show ((x249.toInt.toNat : Nat) : Int) = _; omega
              refine ⟨?_, by omega, by omega⟩
              rw [hd]
              simp only [mh_tr]
              rw [hdd, ← e0_s278]
              have h9 := iv.1
              repeat (first | rw [if_pos (by omega)] | rw [if_neg (by omega)])
              omega) (by have : x283.toInt = x249.toInt + (1) := t284; omega))
        · skip
          have r_x277 : mh_r x277 (0) (143) := mh_ne1 c280 r_x277 rc_m1 (0) (143) (by decide)
          refine mw_aload_n 20 rfl 0 dX10_treesBeside_19 rfl rfl ?_
          refine mw_geta 23 rfl dX10_treesBeside_20 gf_X10_21 rfl 60 (mh_rf hI0 57 rfl) ?_
          refine mw_iload_n 24 rfl 1 dX10_treesBeside_23 rfl rfl ?_
          refine mw_iload_n 25 rfl 3 dX10_treesBeside_24 rfl rfl ?_
          refine mw_callSi [.int p1, .int x249] [.ref (G.2.2.2 60), .int x250] 28 rfl dX10_treesBeside_25 ml_X10_162 mc_X10_beside mk_X10_beside (w_X10_beside l G (d + 0) ⟨by omega, by omega⟩ hI0 p1 r_p1 x249 r_x249) rfl rfl (Nat.le_of_ble_eq_true rfl) (mh_rok (by omega) (by decide)) (fun x285 s286 q287 => ?_)
          obtain ⟨r_x285, e0_s286, rfl⟩ := q287
          obtain rfl : x277 = x285 := Int32.toInt_inj.mp (e0_s278.trans e0_s286.symm)
          refine mw_iald 29 rfl dX10_treesBeside_28 rfl r_x277 (by decide) (fun x288 t289 => ?_)
          refine mw_iconst (v := 2) 30 rfl dX10_treesBeside_29 (by decide) ?_
          refine mw_icmp_ne 33 rfl 37 dX10_treesBeside_30 (by decide) (fun c290 => ?_) (fun c290 => ?_)
          · skip
            refine mw_iconst (v := 0) 38 rfl dX10_treesBeside_37 (by decide) ?_
            refine mw_iadd 39 rfl (0) (3) dX10_treesBeside_38 r_x250 rc_0 (by decide) (fun x291 t292 r_x291 => ?_)
            refine mw_istore_n 40 rfl [(2, .int x291), (0, .ref (G.2.2.2 57)), (1, .int p1), (3, .int x249)] dX10_treesBeside_39 rfl (by decide) rfl ?_
            refine mw_iincR (k := 3) (1) (4) 43 rfl (fun z => [(3, .int z), (2, .int x291), (0, .ref (G.2.2.2 57)), (1, .int p1)]) dX10_treesBeside_40 rfl (by decide) (fun _ => rfl) r_x249 (by decide) (by decide) (fun x293 t294 r_x293 => ?_)
            refine mw_goto 46 rfl 4 dX10_treesBeside_43 (by decide) ?_
            exact mw_lv [2, 3, 1, 0] rfl (ihn1 x293 x291 (mh_r_wk r_x293 (by decide)) (mh_r_wk r_x291 (by decide)) (by
                have := r_x249.1; have := r_x249.2
                have := (r_x293).1; have := (r_x293).2
                have := (r_x291).1; have := (r_x291).2
                have := (r_p1).1; have := (r_p1).2
                have := (r_x277).1; have := (r_x277).2
                have := (r_x250).1; have := (r_x250).2
                have := (rc_0).1; have := (rc_0).2
                have := kc_m1
                have := kc_0
                have := kc_1
                have := kc_2
                have := kc_4
                have hd : x293.toNatClampNeg = x249.toNatClampNeg + 1 := by show x293.toInt.toNat = x249.toInt.toNat + 1; omega
                have hdd : ((x249.toNatClampNeg : Nat) : Int) = x249.toInt := by show ((x249.toInt.toNat : Nat) : Int) = _; omega
                refine ⟨?_, by omega, by omega⟩
                rw [hd]
                simp only [mh_tr]
                rw [hdd, ← e0_s278]
                rw [show s0.1 60 x277.toInt.toNat = x288 from t289.symm]
                have h9 := iv.1
                repeat (first | rw [if_pos (by omega)] | rw [if_neg (by omega)])
                omega) (by have : x293.toInt = x249.toInt + (1) := t294; omega))
          · skip
            have r_x288 : mh_r x288 (2) (2) := mh_eq1 c290 (mh_r_full x288) rc_2 (2) (2) (by decide)
            refine mw_iconst (v := 1) 34 rfl dX10_treesBeside_33 (by decide) ?_
            refine mw_goto 37 rfl 38 dX10_treesBeside_34 (by decide) ?_
            refine mw_iadd 39 rfl (1) (4) dX10_treesBeside_38 r_x250 rc_1 (by decide) (fun x295 t296 r_x295 => ?_)
            refine mw_istore_n 40 rfl [(2, .int x295), (0, .ref (G.2.2.2 57)), (1, .int p1), (3, .int x249)] dX10_treesBeside_39 rfl (by decide) rfl ?_
            refine mw_iincR (k := 3) (1) (4) 43 rfl (fun z => [(3, .int z), (2, .int x295), (0, .ref (G.2.2.2 57)), (1, .int p1)]) dX10_treesBeside_40 rfl (by decide) (fun _ => rfl) r_x249 (by decide) (by decide) (fun x297 t298 r_x297 => ?_)
            refine mw_goto 46 rfl 4 dX10_treesBeside_43 (by decide) ?_
            exact mw_lv [2, 3, 1, 0] rfl (ihn1 x297 x295 (mh_r_wk r_x297 (by decide)) (mh_r_wk r_x295 (by decide)) (by
                have := r_x249.1; have := r_x249.2
                have := (r_x297).1; have := (r_x297).2
                have := (r_x295).1; have := (r_x295).2
                have := (r_p1).1; have := (r_p1).2
                have := (r_x288).1; have := (r_x288).2
                have := (r_x277).1; have := (r_x277).2
                have := (r_x250).1; have := (r_x250).2
                have := (rc_1).1; have := (rc_1).2
                have := kc_m1
                have := kc_0
                have := kc_1
                have := kc_2
                have := kc_4
                have hd : x297.toNatClampNeg = x249.toNatClampNeg + 1 := by show x297.toInt.toNat = x249.toInt.toNat + 1; omega
                have hdd : ((x249.toNatClampNeg : Nat) : Int) = x249.toInt := by show ((x249.toInt.toNat : Nat) : Int) = _; omega
                refine ⟨?_, by omega, by omega⟩
                rw [hd]
                simp only [mh_tr]
                rw [hdd, ← e0_s278]
                rw [show s0.1 60 x277.toInt.toNat = x288 from t289.symm]
                have h9 := iv.1
                repeat (first | rw [if_pos (by omega)] | rw [if_neg (by omega)])
                omega) (by have : x297.toInt = x249.toInt + (1) := t298; omega))
  exact mw_lv [2, 3, 1, 0] rfl (L4 5 (0) (0) (mh_r_wk rc_0 (by decide)) (mh_r_wk rc_0 (by decide)) (by
      have := (rc_0).1; have := (rc_0).2
      have := (r_p1).1; have := (r_p1).2
      have := kc_m1
      have := kc_0
      have := kc_1
      have := kc_2
      have := kc_4
      exact ⟨rfl, by omega, by omega⟩) (by have := (rc_0).1; have := (rc_0).2; omega))

def P_X10_windNow (B D : Int) (s0 : mh_H) : Int32 → mh_H → Prop := fun z s => mh_r z (-2147483648) (2147483647) ∧ (z = mh_wn s0) ∧ s0 = s
set_option maxRecDepth 100000 in
set_option maxHeartbeats 4000000 in
theorem w_X10_windNow (l : Launch) (G : mh_G) (d : Nat) {B D : Int} (hB : B ≤ 2000000000 ∧ D ≤ 2000000000) {s0 : mh_H} (hI0 : mh_I B D s0) : mh_Mi l G (d + 0) mM_X10_windNow [.ref (G.2.2.2 57)] s0 (P_X10_windNow B D s0) := by
  refine mh_enter (lv := [(0, .ref (G.2.2.2 57))]) (by decide) rfl (Nat.le_of_ble_eq_true rfl) ?_
  refine mw_aload_n 1 rfl 0 dX10_windNow_0 rfl rfl ?_
  refine mw_geti 4 rfl dX10_windNow_1 gf_X10_301 rfl (fun x8 t9 => ?_)
  have r_x8 : mh_r x8 (0) (2000000000) := by rw [t9]; exact mh_r_wk (rd_57_2 hI0) ⟨by decide, by skip; omega⟩
  refine mw_bipush (v := 100) 6 rfl dX10_windNow_4 (by decide) ?_
  refine mw_icmp_ge 9 rfl 21 dX10_windNow_6 (by decide) (fun c10 => ?_) (fun c10 => ?_)
  · skip
    have r_x8 : mh_r x8 (100) (2000000000) := mh_le2 c10 rc_100 r_x8 (100) (by decide)
    refine mw_iconst (v := 0) 22 rfl dX10_windNow_21 (by decide) ?_
    refine mw_iret dX10_windNow_22 rfl ⟨(0), rfl, ⟨(mh_r_wk rc_0 (by decide)), ?_, rfl⟩⟩
    · skip
      have := (rc_0).1; have := (rc_0).2
      have := (r_x8).1; have := (r_x8).2
      have := kc_0
      have := kc_1
      have := kc_100
      unfold mh_wn
      rw [← t9]
      repeat (first | rw [if_pos (by omega)] | rw [if_neg (by omega)])
      first | done | rfl | assumption
  · skip
    have r_x8 : mh_r x8 (0) (99) := mh_lt1 c10 r_x8 rc_100 (99) (by decide)
    refine mw_aload_n 10 rfl 0 dX10_windNow_9 rfl rfl ?_
    refine mw_geta 13 rfl dX10_windNow_10 gf_X10_30 rfl 63 (mh_rf hI0 60 rfl) ?_
    refine mw_aload_n 14 rfl 0 dX10_windNow_13 rfl rfl ?_
    refine mw_geti 17 rfl dX10_windNow_14 gf_X10_301 rfl (fun x11 t12 => ?_)
    obtain rfl : x8 = x11 := t9.trans t12.symm
    refine mw_iald 18 rfl dX10_windNow_17 rfl r_x8 (by decide) (fun x13 t14 => ?_)
    refine mw_goto 21 rfl 22 dX10_windNow_18 (by decide) ?_
    refine mw_iret dX10_windNow_22 rfl ⟨x13, rfl, ⟨(mh_r_full x13), ?_, rfl⟩⟩
    · skip
      have := (r_x8).1; have := (r_x8).2
      have := kc_0
      have := kc_1
      have := kc_100
      unfold mh_wn
      rw [← t9]
      repeat (first | rw [if_pos (by omega)] | rw [if_neg (by omega)])
      first | done | rfl | assumption

def P_X10_worked (B D : Int) (s0 : mh_H) (p0 : Int32) (p1 : Int32) (p2 : Int32) : Int32 → mh_H → Prop := fun z s => mh_r z (-2147483648) (2147483647) ∧ (z = mh_wk p0 p1 p2) ∧ s0 = s
set_option maxRecDepth 100000 in
set_option maxHeartbeats 4000000 in
theorem w_X10_worked (l : Launch) (G : mh_G) (d : Nat) {B D : Int} (hB : B ≤ 2000000000 ∧ D ≤ 2000000000) {s0 : mh_H} (hI0 : mh_I B D s0) (p0 : Int32) (p1 : Int32) (p2 : Int32) : mh_Mi l G (d + 0) mM_X10_worked [.int p0, .int p1, .int p2] s0 (P_X10_worked B D s0 p0 p1 p2) := by
  refine mh_enter (lv := [(0, .int p0), (1, .int p1), (2, .int p2)]) (by decide) rfl (Nat.le_of_ble_eq_true rfl) ?_
  refine mw_iload_n 1 rfl 0 dX10_worked_0 rfl rfl ?_
  rcases (show p0.toInt = 37 ∨ p0.toInt = 42 ∨ p0.toInt = 43 ∨ p0.toInt = 45 ∨ p0.toInt = 47 ∨ p0.toInt = 60 ∨ p0.toInt = 62 ∨ (p0.toInt ≠ 37 ∧ p0.toInt ≠ 42 ∧ p0.toInt ≠ 43 ∧ p0.toInt ≠ 45 ∧ p0.toInt ≠ 47 ∧ p0.toInt ≠ 60 ∧ p0.toInt ≠ 62) by omega) with c17 | c17 | c17 | c17 | c17 | c17 | c17 | c17
  · refine mw_lookup 92 dX10_worked_1 (by decide) (by rw [c17]; first | done | rfl) (by decide) ?_
    have r_p0 : mh_r p0 (37) (37) := mh_eq1 (show p0.toInt = (37 : Int32).toInt from c17.trans rfl) (mh_r_full p0) rc_37 (37) (37) (by decide)
    refine mw_iload_n 93 rfl 2 dX10_worked_92 rfl rfl ?_
    refine mw_if_ne 96 rfl 100 dX10_worked_93 (by decide) (fun c18 => ?_) (fun c18 => ?_)
    · skip
      refine mw_iload_n 101 rfl 1 dX10_worked_100 rfl rfl ?_
      refine mw_iload_n 102 rfl 2 dX10_worked_101 rfl rfl ?_
      refine mw_irem_u 103 rfl dX10_worked_102 (mh_nzc (show p2.toInt ≠ (0 : Int32).toInt from c18)) (fun x19 t20 => ?_)
      refine mw_iret dX10_worked_103 rfl ⟨x19, rfl, ⟨(mh_r_full x19), ?_, rfl⟩⟩
      · skip
        have := (r_p0).1; have := (r_p0).2
        have := kc_0
        have := kc_1
        unfold mh_wk
        repeat (first | rw [if_pos (by omega)] | rw [if_neg (by omega)])
        first | done | rfl | assumption
    · skip
      have r_p2 : mh_r p2 (0) (0) := mh_eq1 (show p2.toInt = (0 : Int32).toInt from c18) (mh_r_full p2) rc_0 (0) (0) (by decide)
      refine mw_iconst (v := 0) 97 rfl dX10_worked_96 (by decide) ?_
      refine mw_goto 100 rfl 103 dX10_worked_97 (by decide) ?_
      refine mw_iret dX10_worked_103 rfl ⟨(0), rfl, ⟨(mh_r_wk rc_0 (by decide)), ?_, rfl⟩⟩
      · skip
        have := (r_p0).1; have := (r_p0).2
        have := (r_p2).1; have := (r_p2).2
        have := (rc_0).1; have := (rc_0).2
        have := kc_0
        have := kc_1
        unfold mh_wk
        repeat (first | rw [if_pos (by omega)] | rw [if_neg (by omega)])
        first | done | rfl | assumption
  · refine mw_lookup 76 dX10_worked_1 (by decide) (by rw [c17]; first | done | rfl) (by decide) ?_
    have r_p0 : mh_r p0 (42) (42) := mh_eq1 (show p0.toInt = (42 : Int32).toInt from c17.trans rfl) (mh_r_full p0) rc_42 (42) (42) (by decide)
    refine mw_iload_n 77 rfl 1 dX10_worked_76 rfl rfl ?_
    refine mw_iload_n 78 rfl 2 dX10_worked_77 rfl rfl ?_
    refine mw_imul_u 79 rfl dX10_worked_78 (fun x21 t22 => ?_)
    refine mw_iret dX10_worked_79 rfl ⟨x21, rfl, ⟨(mh_r_full x21), ?_, rfl⟩⟩
    · skip
      have := (r_p0).1; have := (r_p0).2
      have := kc_0
      have := kc_1
      unfold mh_wk
      repeat (first | rw [if_pos (by omega)] | rw [if_neg (by omega)])
      first | done | rfl | assumption
  · refine mw_lookup 68 dX10_worked_1 (by decide) (by rw [c17]; first | done | rfl) (by decide) ?_
    have r_p0 : mh_r p0 (43) (43) := mh_eq1 (show p0.toInt = (43 : Int32).toInt from c17.trans rfl) (mh_r_full p0) rc_43 (43) (43) (by decide)
    refine mw_iload_n 69 rfl 1 dX10_worked_68 rfl rfl ?_
    refine mw_iload_n 70 rfl 2 dX10_worked_69 rfl rfl ?_
    refine mw_iadd_u 71 rfl dX10_worked_70 (fun x23 t24 => ?_)
    refine mw_iret dX10_worked_71 rfl ⟨x23, rfl, ⟨(mh_r_full x23), ?_, rfl⟩⟩
    · skip
      have := (r_p0).1; have := (r_p0).2
      have := kc_0
      have := kc_1
      unfold mh_wk
      repeat (first | rw [if_pos (by omega)] | rw [if_neg (by omega)])
      first | done | rfl | assumption
  · refine mw_lookup 72 dX10_worked_1 (by decide) (by rw [c17]; first | done | rfl) (by decide) ?_
    have r_p0 : mh_r p0 (45) (45) := mh_eq1 (show p0.toInt = (45 : Int32).toInt from c17.trans rfl) (mh_r_full p0) rc_45 (45) (45) (by decide)
    refine mw_iload_n 73 rfl 1 dX10_worked_72 rfl rfl ?_
    refine mw_iload_n 74 rfl 2 dX10_worked_73 rfl rfl ?_
    refine mw_isub_u 75 rfl dX10_worked_74 (fun x25 t26 => ?_)
    refine mw_iret dX10_worked_75 rfl ⟨x25, rfl, ⟨(mh_r_full x25), ?_, rfl⟩⟩
    · skip
      have := (r_p0).1; have := (r_p0).2
      have := kc_0
      have := kc_1
      unfold mh_wk
      repeat (first | rw [if_pos (by omega)] | rw [if_neg (by omega)])
      first | done | rfl | assumption
  · refine mw_lookup 80 dX10_worked_1 (by decide) (by rw [c17]; first | done | rfl) (by decide) ?_
    have r_p0 : mh_r p0 (47) (47) := mh_eq1 (show p0.toInt = (47 : Int32).toInt from c17.trans rfl) (mh_r_full p0) rc_47 (47) (47) (by decide)
    refine mw_iload_n 81 rfl 2 dX10_worked_80 rfl rfl ?_
    refine mw_if_ne 84 rfl 88 dX10_worked_81 (by decide) (fun c27 => ?_) (fun c27 => ?_)
    · skip
      refine mw_iload_n 89 rfl 1 dX10_worked_88 rfl rfl ?_
      refine mw_iload_n 90 rfl 2 dX10_worked_89 rfl rfl ?_
      refine mw_idiv_u 91 rfl dX10_worked_90 (mh_nzc (show p2.toInt ≠ (0 : Int32).toInt from c27)) (fun x28 t29 => ?_)
      refine mw_iret dX10_worked_91 rfl ⟨x28, rfl, ⟨(mh_r_full x28), ?_, rfl⟩⟩
      · skip
        have := (r_p0).1; have := (r_p0).2
        have := kc_0
        have := kc_1
        unfold mh_wk
        repeat (first | rw [if_pos (by omega)] | rw [if_neg (by omega)])
        first | done | rfl | assumption
    · skip
      have r_p2 : mh_r p2 (0) (0) := mh_eq1 (show p2.toInt = (0 : Int32).toInt from c27) (mh_r_full p2) rc_0 (0) (0) (by decide)
      refine mw_iconst (v := 0) 85 rfl dX10_worked_84 (by decide) ?_
      refine mw_goto 88 rfl 91 dX10_worked_85 (by decide) ?_
      refine mw_iret dX10_worked_91 rfl ⟨(0), rfl, ⟨(mh_r_wk rc_0 (by decide)), ?_, rfl⟩⟩
      · skip
        have := (r_p0).1; have := (r_p0).2
        have := (r_p2).1; have := (r_p2).2
        have := (rc_0).1; have := (rc_0).2
        have := kc_0
        have := kc_1
        unfold mh_wk
        repeat (first | rw [if_pos (by omega)] | rw [if_neg (by omega)])
        first | done | rfl | assumption
  · refine mw_lookup 104 dX10_worked_1 (by decide) (by rw [c17]; first | done | rfl) (by decide) ?_
    have r_p0 : mh_r p0 (60) (60) := mh_eq1 (show p0.toInt = (60 : Int32).toInt from c17.trans rfl) (mh_r_full p0) rc_60 (60) (60) (by decide)
    refine mw_iload_n 105 rfl 1 dX10_worked_104 rfl rfl ?_
    refine mw_iload_n 106 rfl 2 dX10_worked_105 rfl rfl ?_
    refine mw_icmp_ge 109 rfl 113 dX10_worked_106 (by decide) (fun c30 => ?_) (fun c30 => ?_)
    · skip
      refine mw_iconst (v := 0) 114 rfl dX10_worked_113 (by decide) ?_
      refine mw_iret dX10_worked_114 rfl ⟨(0), rfl, ⟨(mh_r_wk rc_0 (by decide)), ?_, rfl⟩⟩
      · skip
        have := (r_p0).1; have := (r_p0).2
        have := (rc_0).1; have := (rc_0).2
        have := kc_0
        have := kc_1
        unfold mh_wk
        repeat (first | rw [if_pos (by omega)] | rw [if_neg (by omega)])
        first | done | rfl | assumption
    · skip
      have r_p1 : mh_r p1 (-2147483648) (2147483646) := mh_lt1 c30 (mh_r_full p1) (mh_r_full p2) (2147483646) (by decide)
      have r_p2 : mh_r p2 (-2147483647) (2147483647) := mh_lt2 c30 r_p1 (mh_r_full p2) (-2147483647) (by decide)
      refine mw_iconst (v := 1) 110 rfl dX10_worked_109 (by decide) ?_
      refine mw_goto 113 rfl 114 dX10_worked_110 (by decide) ?_
      refine mw_iret dX10_worked_114 rfl ⟨(1), rfl, ⟨(mh_r_wk rc_1 (by decide)), ?_, rfl⟩⟩
      · skip
        have := (r_p0).1; have := (r_p0).2
        have := (r_p1).1; have := (r_p1).2
        have := (r_p2).1; have := (r_p2).2
        have := (rc_1).1; have := (rc_1).2
        have := kc_0
        have := kc_1
        unfold mh_wk
        repeat (first | rw [if_pos (by omega)] | rw [if_neg (by omega)])
        first | done | rfl | assumption
  · refine mw_lookup 115 dX10_worked_1 (by decide) (by rw [c17]; first | done | rfl) (by decide) ?_
    have r_p0 : mh_r p0 (62) (62) := mh_eq1 (show p0.toInt = (62 : Int32).toInt from c17.trans rfl) (mh_r_full p0) rc_62 (62) (62) (by decide)
    refine mw_iload_n 116 rfl 1 dX10_worked_115 rfl rfl ?_
    refine mw_iload_n 117 rfl 2 dX10_worked_116 rfl rfl ?_
    refine mw_icmp_le 120 rfl 124 dX10_worked_117 (by decide) (fun c31 => ?_) (fun c31 => ?_)
    · skip
      refine mw_iconst (v := 0) 125 rfl dX10_worked_124 (by decide) ?_
      refine mw_iret dX10_worked_125 rfl ⟨(0), rfl, ⟨(mh_r_wk rc_0 (by decide)), ?_, rfl⟩⟩
      · skip
        have := (r_p0).1; have := (r_p0).2
        have := (rc_0).1; have := (rc_0).2
        have := kc_0
        have := kc_1
        unfold mh_wk
        repeat (first | rw [if_pos (by omega)] | rw [if_neg (by omega)])
        first | done | rfl | assumption
    · skip
      have r_p2 : mh_r p2 (-2147483648) (2147483646) := mh_lt1 c31 (mh_r_full p2) (mh_r_full p1) (2147483646) (by decide)
      have r_p1 : mh_r p1 (-2147483647) (2147483647) := mh_lt2 c31 r_p2 (mh_r_full p1) (-2147483647) (by decide)
      refine mw_iconst (v := 1) 121 rfl dX10_worked_120 (by decide) ?_
      refine mw_goto 124 rfl 125 dX10_worked_121 (by decide) ?_
      refine mw_iret dX10_worked_125 rfl ⟨(1), rfl, ⟨(mh_r_wk rc_1 (by decide)), ?_, rfl⟩⟩
      · skip
        have := (r_p0).1; have := (r_p0).2
        have := (r_p1).1; have := (r_p1).2
        have := (r_p2).1; have := (r_p2).2
        have := (rc_1).1; have := (rc_1).2
        have := kc_0
        have := kc_1
        unfold mh_wk
        repeat (first | rw [if_pos (by omega)] | rw [if_neg (by omega)])
        first | done | rfl | assumption
  · refine mw_lookup (off := 125) 126 dX10_worked_1 (by decide) (by simp [Op.lookupswitch.offset, Ne.symm c17.1, Ne.symm c17.2.1, Ne.symm c17.2.2.1, Ne.symm c17.2.2.2.1, Ne.symm c17.2.2.2.2.1, Ne.symm c17.2.2.2.2.2.1, Ne.symm c17.2.2.2.2.2.2]) (by decide) ?_
    refine mw_iload_n 127 rfl 1 dX10_worked_126 rfl rfl ?_
    refine mw_iload_n 128 rfl 2 dX10_worked_127 rfl rfl ?_
    refine mw_icmp_ne 131 rfl 135 dX10_worked_128 (by decide) (fun c32 => ?_) (fun c32 => ?_)
    · skip
      refine mw_iconst (v := 0) 136 rfl dX10_worked_135 (by decide) ?_
      refine mw_iret dX10_worked_136 rfl ⟨(0), rfl, ⟨(mh_r_wk rc_0 (by decide)), ?_, rfl⟩⟩
      · skip
        have := (rc_0).1; have := (rc_0).2
        have := kc_0
        have := kc_1
        unfold mh_wk
        repeat (first | rw [if_pos (by omega)] | rw [if_neg (by omega)])
        first | done | rfl | assumption
    · skip
      refine mw_iconst (v := 1) 132 rfl dX10_worked_131 (by decide) ?_
      refine mw_goto 135 rfl 136 dX10_worked_132 (by decide) ?_
      refine mw_iret dX10_worked_136 rfl ⟨(1), rfl, ⟨(mh_r_wk rc_1 (by decide)), ?_, rfl⟩⟩
      · skip
        have := (rc_1).1; have := (rc_1).2
        have := kc_0
        have := kc_1
        unfold mh_wk
        repeat (first | rw [if_pos (by omega)] | rw [if_neg (by omega)])
        first | done | rfl | assumption

def P_X10_ofCell (B D : Int) (s0 : mh_H) (p1 : Int32) : Int32 → mh_H → Prop := fun z s => mh_r z (-2147483648) (2147483647) ∧ (z = mh_oc s0 (s0.1 57 33) (s0.1 57 34) p1) ∧ s0 = s
set_option maxRecDepth 100000 in
set_option maxHeartbeats 4000000 in
theorem w_X10_ofCell (l : Launch) (G : mh_G) (d : Nat) {B D : Int} (hB : B ≤ 1960000000 ∧ D ≤ 1960000000) {s0 : mh_H} (hI0 : mh_I B D s0) (p1 : Int32) (hc : 0 ≤ (s0.1 57 33).toInt) : mh_Mi l G (d + 2) mM_X10_ofCell [.ref (G.2.2.2 57), .int p1] s0 (P_X10_ofCell B D s0 p1) := by
  refine mh_enter (lv := [(0, .ref (G.2.2.2 57)), (1, .int p1)]) (by decide) rfl (Nat.le_of_ble_eq_true rfl) ?_
  refine mw_iload_n 1 rfl 1 dX10_ofCell_0 rfl rfl ?_
  rcases (show p1.toInt = 99 ∨ p1.toInt = 100 ∨ p1.toInt = 101 ∨ p1.toInt = 102 ∨ p1.toInt = 103 ∨ p1.toInt = 104 ∨ p1.toInt = 105 ∨ p1.toInt = 106 ∨ p1.toInt = 107 ∨ p1.toInt = 108 ∨ p1.toInt = 109 ∨ p1.toInt = 110 ∨ p1.toInt = 111 ∨ p1.toInt = 112 ∨ p1.toInt = 113 ∨ p1.toInt = 114 ∨ p1.toInt = 115 ∨ p1.toInt = 116 ∨ p1.toInt = 117 ∨ p1.toInt = 118 ∨ p1.toInt = 119 ∨ p1.toInt = 120 ∨ p1.toInt = 121 ∨ (p1.toInt < 99 ∨ 121 < p1.toInt) by have := (mh_r_full p1).1; have := (mh_r_full p1).2; omega) with c68 | c68 | c68 | c68 | c68 | c68 | c68 | c68 | c68 | c68 | c68 | c68 | c68 | c68 | c68 | c68 | c68 | c68 | c68 | c68 | c68 | c68 | c68 | c68
  · refine mw_tabIn 138 dX10_ofCell_1 (by rw [c68]; decide) (by rw [c68]; decide) (by rw [c68]; rfl) (by decide) ?_
    have r_p1 : mh_r p1 (99) (99) := mh_eq1 (show p1.toInt = (99 : Int32).toInt from c68.trans rfl) (mh_r_full p1) rc_99 (99) (99) (by decide)
    refine mw_aload_n 139 rfl 0 dX10_ofCell_138 rfl rfl ?_
    refine mw_geta 142 rfl dX10_ofCell_139 gf_X10_24 rfl 61 (mh_rf hI0 58 rfl) ?_
    refine mw_aload_n 143 rfl 0 dX10_ofCell_142 rfl rfl ?_
    refine mw_geti 146 rfl dX10_ofCell_143 gf_X10_304 rfl (fun x69 t70 => ?_)
    have r_x69 : mh_r x69 (-1) (143) := by rw [t70]; exact rd_57_33 hI0
    have r_x69 : mh_r x69 (0) (143) := ⟨by rw [t70]; exact hc, (r_x69).2⟩
    refine mw_iald 147 rfl dX10_ofCell_146 rfl r_x69 (by decide) (fun x71 t72 => ?_)
    refine mw_iret dX10_ofCell_147 rfl ⟨x71, rfl, ⟨(mh_r_full x71), ?_, rfl⟩⟩
    · skip
      have := (r_p1).1; have := (r_p1).2
      have := (r_x69).1; have := (r_x69).2
      have := kc_0
      have := kc_1
      have := kc_12
      unfold mh_oc
      repeat (first | rw [if_pos (by omega)] | rw [if_neg (by omega)])
      rw [← t70]
      first | done | rfl | assumption | (apply mh_ofI; assumption)
  · refine mw_tabIn 183 dX10_ofCell_1 (by rw [c68]; decide) (by rw [c68]; decide) (by rw [c68]; rfl) (by decide) ?_
    have r_p1 : mh_r p1 (100) (100) := mh_eq1 (show p1.toInt = (100 : Int32).toInt from c68.trans rfl) (mh_r_full p1) rc_100 (100) (100) (by decide)
    refine mw_aload_n 184 rfl 0 dX10_ofCell_183 rfl rfl ?_
    refine mw_geti 187 rfl dX10_ofCell_184 gf_X10_314 rfl (fun x73 t74 => ?_)
    refine mw_iret dX10_ofCell_187 rfl ⟨x73, rfl, ⟨(mh_r_full x73), ?_, rfl⟩⟩
    · skip
      have := (r_p1).1; have := (r_p1).2
      have := kc_0
      have := kc_1
      have := kc_12
      unfold mh_oc
      repeat (first | rw [if_pos (by omega)] | rw [if_neg (by omega)])
      first | done | rfl | assumption | (apply mh_ofI; assumption)
  · refine mw_tabIn 183 dX10_ofCell_1 (by rw [c68]; decide) (by rw [c68]; decide) (by rw [c68]; rfl) (by decide) ?_
    have r_p1 : mh_r p1 (101) (101) := mh_eq1 (show p1.toInt = (101 : Int32).toInt from c68.trans rfl) (mh_r_full p1) (mh_rc (x := 101) (n := 101) (by decide)) (101) (101) (by decide)
    refine mw_aload_n 184 rfl 0 dX10_ofCell_183 rfl rfl ?_
    refine mw_geti 187 rfl dX10_ofCell_184 gf_X10_314 rfl (fun x75 t76 => ?_)
    refine mw_iret dX10_ofCell_187 rfl ⟨x75, rfl, ⟨(mh_r_full x75), ?_, rfl⟩⟩
    · skip
      have := (r_p1).1; have := (r_p1).2
      have := kc_0
      have := kc_1
      have := kc_12
      unfold mh_oc
      repeat (first | rw [if_pos (by omega)] | rw [if_neg (by omega)])
      first | done | rfl | assumption | (apply mh_ofI; assumption)
  · refine mw_tabIn 183 dX10_ofCell_1 (by rw [c68]; decide) (by rw [c68]; decide) (by rw [c68]; rfl) (by decide) ?_
    have r_p1 : mh_r p1 (102) (102) := mh_eq1 (show p1.toInt = (102 : Int32).toInt from c68.trans rfl) (mh_r_full p1) rc_102 (102) (102) (by decide)
    refine mw_aload_n 184 rfl 0 dX10_ofCell_183 rfl rfl ?_
    refine mw_geti 187 rfl dX10_ofCell_184 gf_X10_314 rfl (fun x77 t78 => ?_)
    refine mw_iret dX10_ofCell_187 rfl ⟨x77, rfl, ⟨(mh_r_full x77), ?_, rfl⟩⟩
    · skip
      have := (r_p1).1; have := (r_p1).2
      have := kc_0
      have := kc_1
      have := kc_12
      unfold mh_oc
      repeat (first | rw [if_pos (by omega)] | rw [if_neg (by omega)])
      first | done | rfl | assumption | (apply mh_ofI; assumption)
  · refine mw_tabIn 183 dX10_ofCell_1 (by rw [c68]; decide) (by rw [c68]; decide) (by rw [c68]; rfl) (by decide) ?_
    have r_p1 : mh_r p1 (103) (103) := mh_eq1 (show p1.toInt = (103 : Int32).toInt from c68.trans rfl) (mh_r_full p1) (mh_rc (x := 103) (n := 103) (by decide)) (103) (103) (by decide)
    refine mw_aload_n 184 rfl 0 dX10_ofCell_183 rfl rfl ?_
    refine mw_geti 187 rfl dX10_ofCell_184 gf_X10_314 rfl (fun x79 t80 => ?_)
    refine mw_iret dX10_ofCell_187 rfl ⟨x79, rfl, ⟨(mh_r_full x79), ?_, rfl⟩⟩
    · skip
      have := (r_p1).1; have := (r_p1).2
      have := kc_0
      have := kc_1
      have := kc_12
      unfold mh_oc
      repeat (first | rw [if_pos (by omega)] | rw [if_neg (by omega)])
      first | done | rfl | assumption | (apply mh_ofI; assumption)
  · refine mw_tabIn 108 dX10_ofCell_1 (by rw [c68]; decide) (by rw [c68]; decide) (by rw [c68]; rfl) (by decide) ?_
    have r_p1 : mh_r p1 (104) (104) := mh_eq1 (show p1.toInt = (104 : Int32).toInt from c68.trans rfl) (mh_r_full p1) rc_104 (104) (104) (by decide)
    refine mw_aload_n 109 rfl 0 dX10_ofCell_108 rfl rfl ?_
    refine mw_geta 112 rfl dX10_ofCell_109 gf_X10_17 rfl 59 (mh_rf hI0 56 rfl) ?_
    refine mw_aload_n 113 rfl 0 dX10_ofCell_112 rfl rfl ?_
    refine mw_geti 116 rfl dX10_ofCell_113 gf_X10_304 rfl (fun x81 t82 => ?_)
    have r_x81 : mh_r x81 (-1) (143) := by rw [t82]; exact rd_57_33 hI0
    have r_x81 : mh_r x81 (0) (143) := ⟨by rw [t82]; exact hc, (r_x81).2⟩
    refine mw_iald 117 rfl dX10_ofCell_116 rfl r_x81 (by decide) (fun x83 t84 => ?_)
    refine mw_iret dX10_ofCell_117 rfl ⟨x83, rfl, ⟨(mh_r_full x83), ?_, rfl⟩⟩
    · skip
      have := (r_p1).1; have := (r_p1).2
      have := (r_x81).1; have := (r_x81).2
      have := kc_0
      have := kc_1
      have := kc_12
      unfold mh_oc
      repeat (first | rw [if_pos (by omega)] | rw [if_neg (by omega)])
      rw [← t82]
      first | done | rfl | assumption | (apply mh_ofI; assumption)
  · refine mw_tabIn 183 dX10_ofCell_1 (by rw [c68]; decide) (by rw [c68]; decide) (by rw [c68]; rfl) (by decide) ?_
    have r_p1 : mh_r p1 (105) (105) := mh_eq1 (show p1.toInt = (105 : Int32).toInt from c68.trans rfl) (mh_r_full p1) rc_105 (105) (105) (by decide)
    refine mw_aload_n 184 rfl 0 dX10_ofCell_183 rfl rfl ?_
    refine mw_geti 187 rfl dX10_ofCell_184 gf_X10_314 rfl (fun x85 t86 => ?_)
    refine mw_iret dX10_ofCell_187 rfl ⟨x85, rfl, ⟨(mh_r_full x85), ?_, rfl⟩⟩
    · skip
      have := (r_p1).1; have := (r_p1).2
      have := kc_0
      have := kc_1
      have := kc_12
      unfold mh_oc
      repeat (first | rw [if_pos (by omega)] | rw [if_neg (by omega)])
      first | done | rfl | assumption | (apply mh_ofI; assumption)
  · refine mw_tabIn 183 dX10_ofCell_1 (by rw [c68]; decide) (by rw [c68]; decide) (by rw [c68]; rfl) (by decide) ?_
    have r_p1 : mh_r p1 (106) (106) := mh_eq1 (show p1.toInt = (106 : Int32).toInt from c68.trans rfl) (mh_r_full p1) rc_106 (106) (106) (by decide)
    refine mw_aload_n 184 rfl 0 dX10_ofCell_183 rfl rfl ?_
    refine mw_geti 187 rfl dX10_ofCell_184 gf_X10_314 rfl (fun x87 t88 => ?_)
    refine mw_iret dX10_ofCell_187 rfl ⟨x87, rfl, ⟨(mh_r_full x87), ?_, rfl⟩⟩
    · skip
      have := (r_p1).1; have := (r_p1).2
      have := kc_0
      have := kc_1
      have := kc_12
      unfold mh_oc
      repeat (first | rw [if_pos (by omega)] | rw [if_neg (by omega)])
      first | done | rfl | assumption | (apply mh_ofI; assumption)
  · refine mw_tabIn 118 dX10_ofCell_1 (by rw [c68]; decide) (by rw [c68]; decide) (by rw [c68]; rfl) (by decide) ?_
    have r_p1 : mh_r p1 (107) (107) := mh_eq1 (show p1.toInt = (107 : Int32).toInt from c68.trans rfl) (mh_r_full p1) rc_107 (107) (107) (by decide)
    refine mw_aload_n 119 rfl 0 dX10_ofCell_118 rfl rfl ?_
    refine mw_geta 122 rfl dX10_ofCell_119 gf_X10_21 rfl 60 (mh_rf hI0 57 rfl) ?_
    refine mw_aload_n 123 rfl 0 dX10_ofCell_122 rfl rfl ?_
    refine mw_geti 126 rfl dX10_ofCell_123 gf_X10_304 rfl (fun x89 t90 => ?_)
    have r_x89 : mh_r x89 (-1) (143) := by rw [t90]; exact rd_57_33 hI0
    have r_x89 : mh_r x89 (0) (143) := ⟨by rw [t90]; exact hc, (r_x89).2⟩
    refine mw_iald 127 rfl dX10_ofCell_126 rfl r_x89 (by decide) (fun x91 t92 => ?_)
    refine mw_iret dX10_ofCell_127 rfl ⟨x91, rfl, ⟨(mh_r_full x91), ?_, rfl⟩⟩
    · skip
      have := (r_p1).1; have := (r_p1).2
      have := (r_x89).1; have := (r_x89).2
      have := kc_0
      have := kc_1
      have := kc_12
      unfold mh_oc
      repeat (first | rw [if_pos (by omega)] | rw [if_neg (by omega)])
      rw [← t90]
      first | done | rfl | assumption | (apply mh_ofI; assumption)
  · refine mw_tabIn 183 dX10_ofCell_1 (by rw [c68]; decide) (by rw [c68]; decide) (by rw [c68]; rfl) (by decide) ?_
    have r_p1 : mh_r p1 (108) (108) := mh_eq1 (show p1.toInt = (108 : Int32).toInt from c68.trans rfl) (mh_r_full p1) rc_108 (108) (108) (by decide)
    refine mw_aload_n 184 rfl 0 dX10_ofCell_183 rfl rfl ?_
    refine mw_geti 187 rfl dX10_ofCell_184 gf_X10_314 rfl (fun x93 t94 => ?_)
    refine mw_iret dX10_ofCell_187 rfl ⟨x93, rfl, ⟨(mh_r_full x93), ?_, rfl⟩⟩
    · skip
      have := (r_p1).1; have := (r_p1).2
      have := kc_0
      have := kc_1
      have := kc_12
      unfold mh_oc
      repeat (first | rw [if_pos (by omega)] | rw [if_neg (by omega)])
      first | done | rfl | assumption | (apply mh_ofI; assumption)
  · refine mw_tabIn 183 dX10_ofCell_1 (by rw [c68]; decide) (by rw [c68]; decide) (by rw [c68]; rfl) (by decide) ?_
    have r_p1 : mh_r p1 (109) (109) := mh_eq1 (show p1.toInt = (109 : Int32).toInt from c68.trans rfl) (mh_r_full p1) rc_109 (109) (109) (by decide)
    refine mw_aload_n 184 rfl 0 dX10_ofCell_183 rfl rfl ?_
    refine mw_geti 187 rfl dX10_ofCell_184 gf_X10_314 rfl (fun x95 t96 => ?_)
    refine mw_iret dX10_ofCell_187 rfl ⟨x95, rfl, ⟨(mh_r_full x95), ?_, rfl⟩⟩
    · skip
      have := (r_p1).1; have := (r_p1).2
      have := kc_0
      have := kc_1
      have := kc_12
      unfold mh_oc
      repeat (first | rw [if_pos (by omega)] | rw [if_neg (by omega)])
      first | done | rfl | assumption | (apply mh_ofI; assumption)
  · refine mw_tabIn 174 dX10_ofCell_1 (by rw [c68]; decide) (by rw [c68]; decide) (by rw [c68]; rfl) (by decide) ?_
    have r_p1 : mh_r p1 (110) (110) := mh_eq1 (show p1.toInt = (110 : Int32).toInt from c68.trans rfl) (mh_r_full p1) rc_110 (110) (110) (by decide)
    refine mw_aload_n 175 rfl 0 dX10_ofCell_174 rfl rfl ?_
    refine mw_aload_n 176 rfl 0 dX10_ofCell_175 rfl rfl ?_
    refine mw_geti 179 rfl dX10_ofCell_176 gf_X10_304 rfl (fun x97 t98 => ?_)
    have r_x97 : mh_r x97 (-1) (143) := by rw [t98]; exact rd_57_33 hI0
    have r_x97 : mh_r x97 (0) (143) := ⟨by rw [t98]; exact hc, (r_x97).2⟩
    refine mw_callVi [.int x97] [] 182 rfl dX10_ofCell_179 ml_X10_310 mc_X10_treesBeside mk_X10_treesBeside rfl rfl (by decide) (w_X10_treesBeside l G (d + 0) ⟨by omega, by omega⟩ hI0 x97 r_x97) rfl rfl (Nat.le_of_ble_eq_true rfl) (mh_rok (by omega) (by decide)) (fun x99 s100 q101 => ?_)
    obtain ⟨r_x99, e0_s100, rfl⟩ := q101
    refine mw_iret dX10_ofCell_182 rfl ⟨x99, rfl, ⟨(mh_r_wk r_x99 (by decide)), ?_, rfl⟩⟩
    · skip
      have := (r_p1).1; have := (r_p1).2
      have := (r_x99).1; have := (r_x99).2
      have := (r_x97).1; have := (r_x97).2
      have := kc_0
      have := kc_1
      have := kc_12
      unfold mh_oc
      repeat (first | rw [if_pos (by omega)] | rw [if_neg (by omega)])
      rw [← t98]
      first | done | rfl | assumption | (apply mh_ofI; assumption)
  · refine mw_tabIn 183 dX10_ofCell_1 (by rw [c68]; decide) (by rw [c68]; decide) (by rw [c68]; rfl) (by decide) ?_
    have r_p1 : mh_r p1 (111) (111) := mh_eq1 (show p1.toInt = (111 : Int32).toInt from c68.trans rfl) (mh_r_full p1) (mh_rc (x := 111) (n := 111) (by decide)) (111) (111) (by decide)
    refine mw_aload_n 184 rfl 0 dX10_ofCell_183 rfl rfl ?_
    refine mw_geti 187 rfl dX10_ofCell_184 gf_X10_314 rfl (fun x102 t103 => ?_)
    refine mw_iret dX10_ofCell_187 rfl ⟨x102, rfl, ⟨(mh_r_full x102), ?_, rfl⟩⟩
    · skip
      have := (r_p1).1; have := (r_p1).2
      have := kc_0
      have := kc_1
      have := kc_12
      unfold mh_oc
      repeat (first | rw [if_pos (by omega)] | rw [if_neg (by omega)])
      first | done | rfl | assumption | (apply mh_ofI; assumption)
  · refine mw_tabIn 183 dX10_ofCell_1 (by rw [c68]; decide) (by rw [c68]; decide) (by rw [c68]; rfl) (by decide) ?_
    have r_p1 : mh_r p1 (112) (112) := mh_eq1 (show p1.toInt = (112 : Int32).toInt from c68.trans rfl) (mh_r_full p1) (mh_rc (x := 112) (n := 112) (by decide)) (112) (112) (by decide)
    refine mw_aload_n 184 rfl 0 dX10_ofCell_183 rfl rfl ?_
    refine mw_geti 187 rfl dX10_ofCell_184 gf_X10_314 rfl (fun x104 t105 => ?_)
    refine mw_iret dX10_ofCell_187 rfl ⟨x104, rfl, ⟨(mh_r_full x104), ?_, rfl⟩⟩
    · skip
      have := (r_p1).1; have := (r_p1).2
      have := kc_0
      have := kc_1
      have := kc_12
      unfold mh_oc
      repeat (first | rw [if_pos (by omega)] | rw [if_neg (by omega)])
      first | done | rfl | assumption | (apply mh_ofI; assumption)
  · refine mw_tabIn 183 dX10_ofCell_1 (by rw [c68]; decide) (by rw [c68]; decide) (by rw [c68]; rfl) (by decide) ?_
    have r_p1 : mh_r p1 (113) (113) := mh_eq1 (show p1.toInt = (113 : Int32).toInt from c68.trans rfl) (mh_r_full p1) (mh_rc (x := 113) (n := 113) (by decide)) (113) (113) (by decide)
    refine mw_aload_n 184 rfl 0 dX10_ofCell_183 rfl rfl ?_
    refine mw_geti 187 rfl dX10_ofCell_184 gf_X10_314 rfl (fun x106 t107 => ?_)
    refine mw_iret dX10_ofCell_187 rfl ⟨x106, rfl, ⟨(mh_r_full x106), ?_, rfl⟩⟩
    · skip
      have := (r_p1).1; have := (r_p1).2
      have := kc_0
      have := kc_1
      have := kc_12
      unfold mh_oc
      repeat (first | rw [if_pos (by omega)] | rw [if_neg (by omega)])
      first | done | rfl | assumption | (apply mh_ofI; assumption)
  · refine mw_tabIn 183 dX10_ofCell_1 (by rw [c68]; decide) (by rw [c68]; decide) (by rw [c68]; rfl) (by decide) ?_
    have r_p1 : mh_r p1 (114) (114) := mh_eq1 (show p1.toInt = (114 : Int32).toInt from c68.trans rfl) (mh_r_full p1) (mh_rc (x := 114) (n := 114) (by decide)) (114) (114) (by decide)
    refine mw_aload_n 184 rfl 0 dX10_ofCell_183 rfl rfl ?_
    refine mw_geti 187 rfl dX10_ofCell_184 gf_X10_314 rfl (fun x108 t109 => ?_)
    refine mw_iret dX10_ofCell_187 rfl ⟨x108, rfl, ⟨(mh_r_full x108), ?_, rfl⟩⟩
    · skip
      have := (r_p1).1; have := (r_p1).2
      have := kc_0
      have := kc_1
      have := kc_12
      unfold mh_oc
      repeat (first | rw [if_pos (by omega)] | rw [if_neg (by omega)])
      first | done | rfl | assumption | (apply mh_ofI; assumption)
  · refine mw_tabIn 183 dX10_ofCell_1 (by rw [c68]; decide) (by rw [c68]; decide) (by rw [c68]; rfl) (by decide) ?_
    have r_p1 : mh_r p1 (115) (115) := mh_eq1 (show p1.toInt = (115 : Int32).toInt from c68.trans rfl) (mh_r_full p1) rc_115 (115) (115) (by decide)
    refine mw_aload_n 184 rfl 0 dX10_ofCell_183 rfl rfl ?_
    refine mw_geti 187 rfl dX10_ofCell_184 gf_X10_314 rfl (fun x110 t111 => ?_)
    refine mw_iret dX10_ofCell_187 rfl ⟨x110, rfl, ⟨(mh_r_full x110), ?_, rfl⟩⟩
    · skip
      have := (r_p1).1; have := (r_p1).2
      have := kc_0
      have := kc_1
      have := kc_12
      unfold mh_oc
      repeat (first | rw [if_pos (by omega)] | rw [if_neg (by omega)])
      first | done | rfl | assumption | (apply mh_ofI; assumption)
  · refine mw_tabIn 128 dX10_ofCell_1 (by rw [c68]; decide) (by rw [c68]; decide) (by rw [c68]; rfl) (by decide) ?_
    have r_p1 : mh_r p1 (116) (116) := mh_eq1 (show p1.toInt = (116 : Int32).toInt from c68.trans rfl) (mh_r_full p1) rc_116 (116) (116) (by decide)
    refine mw_aload_n 129 rfl 0 dX10_ofCell_128 rfl rfl ?_
    refine mw_geti 132 rfl dX10_ofCell_129 gf_X10_301 rfl (fun x112 t113 => ?_)
    have r_x112 : mh_r x112 (0) (1960000000) := by rw [t113]; exact mh_r_wk (rd_57_2 hI0) ⟨by decide, by skip; omega⟩
    refine mw_iret dX10_ofCell_132 rfl ⟨x112, rfl, ⟨(mh_r_wk r_x112 (by decide)), ?_, rfl⟩⟩
    · skip
      have := (r_p1).1; have := (r_p1).2
      have := (r_x112).1; have := (r_x112).2
      have := kc_0
      have := kc_1
      have := kc_12
      unfold mh_oc
      repeat (first | rw [if_pos (by omega)] | rw [if_neg (by omega)])
      first | done | rfl | assumption | (apply mh_ofI; assumption)
  · refine mw_tabIn 183 dX10_ofCell_1 (by rw [c68]; decide) (by rw [c68]; decide) (by rw [c68]; rfl) (by decide) ?_
    have r_p1 : mh_r p1 (117) (117) := mh_eq1 (show p1.toInt = (117 : Int32).toInt from c68.trans rfl) (mh_r_full p1) (mh_rc (x := 117) (n := 117) (by decide)) (117) (117) (by decide)
    refine mw_aload_n 184 rfl 0 dX10_ofCell_183 rfl rfl ?_
    refine mw_geti 187 rfl dX10_ofCell_184 gf_X10_314 rfl (fun x114 t115 => ?_)
    refine mw_iret dX10_ofCell_187 rfl ⟨x114, rfl, ⟨(mh_r_full x114), ?_, rfl⟩⟩
    · skip
      have := (r_p1).1; have := (r_p1).2
      have := kc_0
      have := kc_1
      have := kc_12
      unfold mh_oc
      repeat (first | rw [if_pos (by omega)] | rw [if_neg (by omega)])
      first | done | rfl | assumption | (apply mh_ofI; assumption)
  · refine mw_tabIn 133 dX10_ofCell_1 (by rw [c68]; decide) (by rw [c68]; decide) (by rw [c68]; rfl) (by decide) ?_
    have r_p1 : mh_r p1 (118) (118) := mh_eq1 (show p1.toInt = (118 : Int32).toInt from c68.trans rfl) (mh_r_full p1) rc_118 (118) (118) (by decide)
    refine mw_aload_n 134 rfl 0 dX10_ofCell_133 rfl rfl ?_
    refine mw_callVi [] [] 137 rfl dX10_ofCell_134 ml_X10_307 mc_X10_windNow mk_X10_windNow rfl rfl (by decide) (w_X10_windNow l G (d + 1) ⟨by omega, by omega⟩ hI0) rfl rfl (Nat.le_of_ble_eq_true rfl) (mh_rok (by omega) (by decide)) (fun x116 s117 q118 => ?_)
    obtain ⟨r_x116, e0_s117, rfl⟩ := q118
    refine mw_iret dX10_ofCell_137 rfl ⟨x116, rfl, ⟨r_x116, ?_, rfl⟩⟩
    · skip
      have := (r_p1).1; have := (r_p1).2
      have := kc_0
      have := kc_1
      have := kc_12
      unfold mh_oc
      repeat (first | rw [if_pos (by omega)] | rw [if_neg (by omega)])
      first | done | rfl | assumption | (apply mh_ofI; assumption)
  · refine mw_tabIn 148 dX10_ofCell_1 (by rw [c68]; decide) (by rw [c68]; decide) (by rw [c68]; rfl) (by decide) ?_
    have r_p1 : mh_r p1 (119) (119) := mh_eq1 (show p1.toInt = (119 : Int32).toInt from c68.trans rfl) (mh_r_full p1) rc_119 (119) (119) (by decide)
    refine mw_aload_n 149 rfl 0 dX10_ofCell_148 rfl rfl ?_
    refine mw_geta 152 rfl dX10_ofCell_149 gf_X10_27 rfl 62 (mh_rf hI0 59 rfl) ?_
    refine mw_aload_n 153 rfl 0 dX10_ofCell_152 rfl rfl ?_
    refine mw_geti 156 rfl dX10_ofCell_153 gf_X10_304 rfl (fun x119 t120 => ?_)
    have r_x119 : mh_r x119 (-1) (143) := by rw [t120]; exact rd_57_33 hI0
    have r_x119 : mh_r x119 (0) (143) := ⟨by rw [t120]; exact hc, (r_x119).2⟩
    refine mw_iald 157 rfl dX10_ofCell_156 rfl r_x119 (by decide) (fun x121 t122 => ?_)
    refine mw_iret dX10_ofCell_157 rfl ⟨x121, rfl, ⟨(mh_r_full x121), ?_, rfl⟩⟩
    · skip
      have := (r_p1).1; have := (r_p1).2
      have := (r_x119).1; have := (r_x119).2
      have := kc_0
      have := kc_1
      have := kc_12
      unfold mh_oc
      repeat (first | rw [if_pos (by omega)] | rw [if_neg (by omega)])
      rw [← t120]
      first | done | rfl | assumption | (apply mh_ofI; assumption)
  · refine mw_tabIn 158 dX10_ofCell_1 (by rw [c68]; decide) (by rw [c68]; decide) (by rw [c68]; rfl) (by decide) ?_
    have r_p1 : mh_r p1 (120) (120) := mh_eq1 (show p1.toInt = (120 : Int32).toInt from c68.trans rfl) (mh_r_full p1) rc_120 (120) (120) (by decide)
    refine mw_aload_n 159 rfl 0 dX10_ofCell_158 rfl rfl ?_
    refine mw_geti 162 rfl dX10_ofCell_159 gf_X10_304 rfl (fun x123 t124 => ?_)
    have r_x123 : mh_r x123 (-1) (143) := by rw [t124]; exact rd_57_33 hI0
    have r_x123 : mh_r x123 (0) (143) := ⟨by rw [t124]; exact hc, (r_x123).2⟩
    refine mw_bipush (v := 12) 164 rfl dX10_ofCell_162 (by decide) ?_
    refine mw_irem 165 rfl (0) (11) dX10_ofCell_164 r_x123 rc_12 (by decide) (fun x125 t126 r_x125 => ?_)
    have g127 : x125.toInt = x123.toInt % 12 := mh_rme t126 (by have := (r_x123).1; omega) (by decide)
    refine mw_iret dX10_ofCell_165 rfl ⟨x125, rfl, ⟨(mh_r_wk r_x125 (by decide)), ?_, rfl⟩⟩
    · skip
      have := (r_p1).1; have := (r_p1).2
      have := (r_x125).1; have := (r_x125).2
      have := (r_x123).1; have := (r_x123).2
      have := (rc_12).1; have := (rc_12).2
      have := kc_0
      have := kc_1
      have := kc_12
      unfold mh_oc
      repeat (first | rw [if_pos (by omega)] | rw [if_neg (by omega)])
      rw [← t124]
      first | done | rfl | assumption | (apply mh_ofI; assumption)
  · refine mw_tabIn 166 dX10_ofCell_1 (by rw [c68]; decide) (by rw [c68]; decide) (by rw [c68]; rfl) (by decide) ?_
    have r_p1 : mh_r p1 (121) (121) := mh_eq1 (show p1.toInt = (121 : Int32).toInt from c68.trans rfl) (mh_r_full p1) rc_121 (121) (121) (by decide)
    refine mw_aload_n 167 rfl 0 dX10_ofCell_166 rfl rfl ?_
    refine mw_geti 170 rfl dX10_ofCell_167 gf_X10_304 rfl (fun x128 t129 => ?_)
    have r_x128 : mh_r x128 (-1) (143) := by rw [t129]; exact rd_57_33 hI0
    have r_x128 : mh_r x128 (0) (143) := ⟨by rw [t129]; exact hc, (r_x128).2⟩
    refine mw_bipush (v := 12) 172 rfl dX10_ofCell_170 (by decide) ?_
    refine mw_idiv 173 rfl (0) (143) dX10_ofCell_172 r_x128 rc_12 (by decide) (fun x130 t131 r_x130 => ?_)
    have r_x130 : mh_r x130 (0) (11) := mh_dvc t131 r_x128 (by decide) (by decide)
    have g132 : x130.toInt = x128.toInt / 12 := mh_dve t131 (by have := (r_x128).1; omega) (by decide)
    refine mw_iret dX10_ofCell_173 rfl ⟨x130, rfl, ⟨(mh_r_wk r_x130 (by decide)), ?_, rfl⟩⟩
    · skip
      have := (r_p1).1; have := (r_p1).2
      have := (r_x130).1; have := (r_x130).2
      have := (r_x128).1; have := (r_x128).2
      have := (rc_12).1; have := (rc_12).2
      have := kc_0
      have := kc_1
      have := kc_12
      unfold mh_oc
      repeat (first | rw [if_pos (by omega)] | rw [if_neg (by omega)])
      rw [← t129]
      first | done | rfl | assumption | (apply mh_ofI; assumption)
  · refine mw_tabOut 183 dX10_ofCell_1 c68 (by decide) ?_
    refine mw_aload_n 184 rfl 0 dX10_ofCell_183 rfl rfl ?_
    refine mw_geti 187 rfl dX10_ofCell_184 gf_X10_314 rfl (fun x133 t134 => ?_)
    refine mw_iret dX10_ofCell_187 rfl ⟨x133, rfl, ⟨(mh_r_full x133), ?_, rfl⟩⟩
    · skip
      have := kc_0
      have := kc_1
      have := kc_12
      unfold mh_oc
      repeat (first | rw [if_pos (by omega)] | rw [if_neg (by omega)])
      first | done | rfl | assumption | (apply mh_ofI; assumption)

def P_X10_valueOf (B D : Int) (s0 : mh_H) (p1 : Int32) : Int32 → mh_H → Prop := fun z s => mh_r z (-2147483648) (2147483647) ∧ (z = mh_vo s0 (s0.1 57 33) (s0.1 57 34) (s0.1 57 35) (s0.1 57 36) (s0.1 57 37) p1) ∧ s0 = s
set_option maxRecDepth 100000 in
set_option maxHeartbeats 4000000 in
theorem w_X10_valueOf (l : Launch) (G : mh_G) (d : Nat) {B D : Int} (hB : B ≤ 1940000000 ∧ D ≤ 1940000000) {s0 : mh_H} (hI0 : mh_I B D s0) (p1 : Int32) : mh_Mi l G (d + 3) mM_X10_valueOf [.ref (G.2.2.2 57), .int p1] s0 (P_X10_valueOf B D s0 p1) := by
  refine mh_enter (lv := [(0, .ref (G.2.2.2 57)), (1, .int p1)]) (by decide) rfl (Nat.le_of_ble_eq_true rfl) ?_
  refine mw_iload_n 1 rfl 1 dX10_valueOf_0 rfl rfl ?_
  refine mw_bipush (v := 105) 3 rfl dX10_valueOf_1 (by decide) ?_
  refine mw_icmp_ne 6 rfl 11 dX10_valueOf_3 (by decide) (fun c16 => ?_) (fun c16 => ?_)
  · skip
    refine mw_iload_n 12 rfl 1 dX10_valueOf_11 rfl rfl ?_
    refine mw_bipush (v := 106) 14 rfl dX10_valueOf_12 (by decide) ?_
    refine mw_icmp_ne 17 rfl 22 dX10_valueOf_14 (by decide) (fun c17 => ?_) (fun c17 => ?_)
    · skip
      refine mw_iload_n 23 rfl 1 dX10_valueOf_22 rfl rfl ?_
      refine mw_bipush (v := 108) 25 rfl dX10_valueOf_23 (by decide) ?_
      refine mw_icmp_ne 28 rfl 33 dX10_valueOf_25 (by decide) (fun c18 => ?_) (fun c18 => ?_)
      · skip
        refine mw_aload_n 34 rfl 0 dX10_valueOf_33 rfl rfl ?_
        refine mw_geti 37 rfl dX10_valueOf_34 gf_X10_304 rfl (fun x19 t20 => ?_)
        have r_x19 : mh_r x19 (-1) (143) := by rw [t20]; exact rd_57_33 hI0
        refine mw_iconst (v := -1) 38 rfl dX10_valueOf_37 (by decide) ?_
        refine mw_icmp_ne 41 rfl 45 dX10_valueOf_38 (by decide) (fun c21 => ?_) (fun c21 => ?_)
        · skip
          have r_x19 : mh_r x19 (0) (143) := mh_ne1 c21 r_x19 rc_m1 (0) (143) (by decide)
          refine mw_aload_n 46 rfl 0 dX10_valueOf_45 rfl rfl ?_
          refine mw_iload_n 47 rfl 1 dX10_valueOf_46 rfl rfl ?_
          refine mw_callVi [.int p1] [] 50 rfl dX10_valueOf_47 ml_X10_326 mc_X10_ofCell mk_X10_ofCell rfl rfl (by decide) (w_X10_ofCell l G (d + 0) ⟨by omega, by omega⟩ hI0 p1 (by have := congrArg Int32.toInt t20; have := (r_x19).1; omega)) rfl rfl (Nat.le_of_ble_eq_true rfl) (mh_rok (by omega) (by decide)) (fun x22 s23 q24 => ?_)
          obtain ⟨r_x22, e0_s23, rfl⟩ := q24
          refine mw_iret dX10_valueOf_50 rfl ⟨x22, rfl, ⟨r_x22, ?_, rfl⟩⟩
          · skip
            have := (r_x19).1; have := (r_x19).2
            have := kc_m1
            have := kc_0
            have := kc_1
            have := kc_105
            have := kc_106
            have := kc_108
            have := congrArg Int32.toInt t20
            unfold mh_vo
            repeat (first | rw [if_pos (by omega)] | rw [if_neg (by omega)])
            first | done | rfl | assumption
        · skip
          have r_x19 : mh_r x19 (-1) (-1) := mh_eq1 c21 r_x19 rc_m1 (-1) (-1) (by decide)
          refine mw_iconst (v := 0) 42 rfl dX10_valueOf_41 (by decide) ?_
          refine mw_goto 45 rfl 50 dX10_valueOf_42 (by decide) ?_
          refine mw_iret dX10_valueOf_50 rfl ⟨(0), rfl, ⟨(mh_r_wk rc_0 (by decide)), ?_, rfl⟩⟩
          · skip
            have := (rc_0).1; have := (rc_0).2
            have := (r_x19).1; have := (r_x19).2
            have := kc_m1
            have := kc_0
            have := kc_1
            have := kc_105
            have := kc_106
            have := kc_108
            have := congrArg Int32.toInt t20
            unfold mh_vo
            repeat (first | rw [if_pos (by omega)] | rw [if_neg (by omega)])
            first | done | rfl | assumption
      · skip
        have r_p1 : mh_r p1 (108) (108) := mh_eq1 c18 (mh_r_full p1) rc_108 (108) (108) (by decide)
        refine mw_aload_n 29 rfl 0 dX10_valueOf_28 rfl rfl ?_
        refine mw_geti 32 rfl dX10_valueOf_29 gf_X10_323 rfl (fun x25 t26 => ?_)
        refine mw_iret dX10_valueOf_32 rfl ⟨x25, rfl, ⟨(mh_r_full x25), ?_, rfl⟩⟩
        · skip
          have := (r_p1).1; have := (r_p1).2
          have := kc_m1
          have := kc_0
          have := kc_1
          have := kc_105
          have := kc_106
          have := kc_108
          unfold mh_vo
          repeat (first | rw [if_pos (by omega)] | rw [if_neg (by omega)])
          first | done | rfl | assumption
    · skip
      have r_p1 : mh_r p1 (106) (106) := mh_eq1 c17 (mh_r_full p1) rc_106 (106) (106) (by decide)
      refine mw_aload_n 18 rfl 0 dX10_valueOf_17 rfl rfl ?_
      refine mw_geti 21 rfl dX10_valueOf_18 gf_X10_320 rfl (fun x27 t28 => ?_)
      refine mw_iret dX10_valueOf_21 rfl ⟨x27, rfl, ⟨(mh_r_full x27), ?_, rfl⟩⟩
      · skip
        have := (r_p1).1; have := (r_p1).2
        have := kc_m1
        have := kc_0
        have := kc_1
        have := kc_105
        have := kc_106
        have := kc_108
        unfold mh_vo
        repeat (first | rw [if_pos (by omega)] | rw [if_neg (by omega)])
        first | done | rfl | assumption
  · skip
    have r_p1 : mh_r p1 (105) (105) := mh_eq1 c16 (mh_r_full p1) rc_105 (105) (105) (by decide)
    refine mw_aload_n 7 rfl 0 dX10_valueOf_6 rfl rfl ?_
    refine mw_geti 10 rfl dX10_valueOf_7 gf_X10_317 rfl (fun x29 t30 => ?_)
    refine mw_iret dX10_valueOf_10 rfl ⟨x29, rfl, ⟨(mh_r_full x29), ?_, rfl⟩⟩
    · skip
      have := (r_p1).1; have := (r_p1).2
      have := kc_m1
      have := kc_0
      have := kc_1
      have := kc_105
      have := kc_106
      have := kc_108
      unfold mh_vo
      repeat (first | rw [if_pos (by omega)] | rw [if_neg (by omega)])
      first | done | rfl | assumption

def S_X10_does : List (Nat × Nat) := [(77, 9999), (78, 9999)]
def P_X10_does (B D : Int) (s0 : mh_H) (p1 : Int32) (p2 : Int32) : mh_H → Prop := fun s => (s.1 77 = mh_dw p1 p2.toNatClampNeg (s0.1 77) (s0.1 78)) ∧ (s.1 78 = mh_dr p1 p2.toNatClampNeg (s0.1 77) (s0.1 78)) ∧ mh_I B D s ∧ mh_F S_X10_does s0 s
set_option maxRecDepth 100000 in
set_option maxHeartbeats 4000000 in
theorem w_X10_does (l : Launch) (G : mh_G) (d : Nat) {B D : Int} (hB : B ≤ 1980000000 ∧ D ≤ 1980000000) {s0 : mh_H} (hI0 : mh_I B D s0) (p1 : Int32) (p2 : Int32) (r_p2 : mh_r p2 (0) (238)) : mh_Mv l G (d + 1) mM_X10_does [.ref (G.2.2.2 57), .int p1, .int p2] s0 (P_X10_does B D s0 p1 p2) := by
  refine mh_enter (lv := [(0, .ref (G.2.2.2 57)), (1, .int p1), (2, .int p2)]) (by decide) rfl (Nat.le_of_ble_eq_true rfl) ?_
  have hF0 : mh_F S_X10_does s0 s0 := mh_F_rf
  refine mw_iload_n 1 rfl 2 dX10_does_0 rfl rfl ?_
  refine mw_iconst (v := 1) 2 rfl dX10_does_1 (by decide) ?_
  refine mw_iadd 3 rfl (1) (239) dX10_does_2 r_p2 rc_1 (by decide) (fun x126 t127 r_x126 => ?_)
  refine mw_istore_n 4 rfl [(3, .int x126), (0, .ref (G.2.2.2 57)), (1, .int p1), (2, .int p2)] dX10_does_3 rfl (by decide) rfl ?_
  refine mw_iload_n 5 rfl 2 dX10_does_4 rfl rfl ?_
  refine mw_bipush (v := 38) 7 rfl dX10_does_5 (by decide) ?_
  refine mw_icmp_eq 10 rfl 16 dX10_does_7 (by decide) (fun c128 => ?_) (fun c128 => ?_)
  · skip
    have r_p1 : mh_r p1 (38) (38) := mh_eq1 c128 (mh_r_full p1) rc_38 (38) (38) (by decide)
    refine mw_aload_n 17 rfl 1 dX10_does_16 rfl rfl ?_
    refine mw_geta 20 rfl dX10_does_17 gf_X10_75 rfl 78 (mh_rf hI0 75 rfl) ?_
    refine mw_iload_n 21 rfl 3 dX10_does_20 rfl rfl ?_
    refine mw_zald 22 rfl dX10_does_21 rfl r_p2 (by decide) (fun x129 t130 => ?_)
    have r_x129 : mh_r x129 (0) (1) := by rw [t130]; exact rd_78 hI0 _
    refine mw_if_ne 25 rfl 45 dX10_does_22 (by decide) (fun c131 => ?_) (fun c131 => ?_)
    · skip
      have r_x129 : mh_r x129 (1) (1) := mh_ne1 (show x129.toInt ≠ (0 : Int32).toInt from c131) r_x129 rc_0 (1) (1) (by decide)
      refine mw_vret dX10_does_45 rfl ⟨rfl, ⟨?_, ?_, hI0, hF0⟩⟩
      · skip
        have := (r_x126).1; have := (r_x126).2
        have := (r_p1).1; have := (r_p1).2
        have := (r_p2).1; have := (r_p2).2
        have := (r_x129).1; have := (r_x129).2
        have := (rc_1).1; have := (rc_1).2
        have := kc_0
        have := kc_1
        have := kc_37
        have := kc_38
        have := kc_47
        have := kc_124
        have hb : x126.toNatClampNeg = p2.toNatClampNeg + 1 := by show x126.toInt.toNat = p2.toInt.toNat + 1; omega
        have e9 : s0.1 77 = s0.1 77 := rfl
        have q0 : x129 = s0.1 78 p2.toNatClampNeg := t130
        have := congrArg Int32.toInt q0
        rw [e9]
        unfold mh_dw
        repeat (first | rw [if_pos (by omega)] | rw [if_neg (by omega)])
        first | done | rfl | simp only [q0]
      · skip
        have := (r_x126).1; have := (r_x126).2
        have := (r_p1).1; have := (r_p1).2
        have := (r_p2).1; have := (r_p2).2
        have := (r_x129).1; have := (r_x129).2
        have := (rc_1).1; have := (rc_1).2
        have := kc_0
        have := kc_1
        have := kc_37
        have := kc_38
        have := kc_47
        have := kc_124
        have hb : x126.toNatClampNeg = p2.toNatClampNeg + 1 := by show x126.toInt.toNat = p2.toInt.toNat + 1; omega
        have e9 : s0.1 78 = s0.1 78 := rfl
        have q0 : x129 = s0.1 78 p2.toNatClampNeg := t130
        have := congrArg Int32.toInt q0
        rw [e9]
        unfold mh_dr
        repeat (first | rw [if_pos (by omega)] | rw [if_neg (by omega)])
        first | done | rfl | simp only [q0]
    · skip
      have r_x129 : mh_r x129 (0) (0) := mh_eq1 (show x129.toInt = (0 : Int32).toInt from c131) r_x129 rc_0 (0) (0) (by decide)
      refine mw_aload_n 26 rfl 1 dX10_does_25 rfl rfl ?_
      refine mw_geta 29 rfl dX10_does_26 gf_X10_72 rfl 77 (mh_rf hI0 74 rfl) ?_
      refine mw_iload_n 30 rfl 3 dX10_does_29 rfl rfl ?_
      refine mw_iald 31 rfl dX10_does_30 rfl r_p2 (by decide) (fun x132 t133 => ?_)
      refine mw_iload_n 32 rfl 2 dX10_does_31 rfl rfl ?_
      refine mw_bipush (v := 38) 34 rfl dX10_does_32 (by decide) ?_
      refine mw_icmp_ne 37 rfl 41 dX10_does_34 (by decide) (fun c134 => ?_) (fun c134 => ?_)
      · skip
        exact (mh_nne c134 r_p1 rc_38).elim
      · skip
        refine mw_iconst (v := 1) 38 rfl dX10_does_37 (by decide) ?_
        refine mw_goto 41 rfl 42 dX10_does_38 (by decide) ?_
        refine mw_icmp_eq 45 rfl 46 dX10_does_42 (by decide) (fun c135 => ?_) (fun c135 => ?_)
        · skip
          have r_x132 : mh_r x132 (1) (1) := mh_eq1 c135 (mh_r_full x132) rc_1 (1) (1) (by decide)
          refine mw_aload_n 47 rfl 1 dX10_does_46 rfl rfl ?_
          refine mw_geta 50 rfl dX10_does_47 gf_X10_72 rfl 77 (mh_rf hI0 74 rfl) ?_
          refine mw_iload_n 51 rfl 3 dX10_does_50 rfl rfl ?_
          refine mw_aload_n 52 rfl 1 dX10_does_51 rfl rfl ?_
          refine mw_geta 55 rfl dX10_does_52 gf_X10_72 rfl 77 (mh_rf hI0 74 rfl) ?_
          refine mw_iload_n 56 rfl 0 dX10_does_55 rfl rfl ?_
          refine mw_iald 57 rfl dX10_does_56 rfl r_x126 (by decide) (fun x136 t137 => ?_)
          refine mw_iast 58 rfl dX10_does_57 rfl r_p2 (by decide) (fun s138 t139 => ?_)
          have hI_s138 : mh_I B D s138 := by rw [t139]; exact wr_77 hI0
          have hF_s138 : mh_F S_X10_does s0 s138 := by rw [t139]; exact mh_F_pI hF0 (mh_si 0 rfl)
          refine mw_aload_n 59 rfl 1 dX10_does_58 rfl rfl ?_
          refine mw_geta 62 rfl dX10_does_59 gf_X10_75 rfl 78 (mh_rf hI_s138 75 rfl) ?_
          refine mw_iload_n 63 rfl 3 dX10_does_62 rfl rfl ?_
          refine mw_aload_n 64 rfl 1 dX10_does_63 rfl rfl ?_
          refine mw_geta 67 rfl dX10_does_64 gf_X10_75 rfl 78 (mh_rf hI_s138 75 rfl) ?_
          refine mw_iload_n 68 rfl 0 dX10_does_67 rfl rfl ?_
          refine mw_zald 69 rfl dX10_does_68 rfl r_x126 (by decide) (fun x140 t141 => ?_)
          have r_x140 : mh_r x140 (0) (1) := by rw [t141]; exact rd_78 hI_s138 _
          refine mw_zast 70 rfl dX10_does_69 rfl r_p2 (by decide) (fun s142 t143 => ?_)
          rw [mh_nz r_x140] at t143
          have hI_s142 : mh_I B D s142 := by rw [t143]; exact wr_78 hI_s138 r_x140
          have hF_s142 : mh_F S_X10_does s0 s142 := by rw [t143]; exact mh_F_pI hF_s138 (mh_si 1 rfl)
          refine mw_vret dX10_does_70 rfl ⟨rfl, ⟨?_, ?_, hI_s142, hF_s142⟩⟩
          · skip
            have := (r_x126).1; have := (r_x126).2
            have := (r_p1).1; have := (r_p1).2
            have := (r_p2).1; have := (r_p2).2
            have := (r_x129).1; have := (r_x129).2
            have := (r_x132).1; have := (r_x132).2
            have := (r_x140).1; have := (r_x140).2
            have := (rc_1).1; have := (rc_1).2
            have := kc_0
            have := kc_1
            have := kc_37
            have := kc_38
            have := kc_47
            have := kc_124
            have hb : x126.toNatClampNeg = p2.toNatClampNeg + 1 := by show x126.toInt.toNat = p2.toInt.toNat + 1; omega
            have e9 : s142.1 77 = (mh_u1 (s0.1 77) p2.toNatClampNeg x136) := by rw [t143, mh_row_n (by decide), t139, mh_row_s]
            have q0 : x129 = s0.1 78 p2.toNatClampNeg := t130
            have q1 : x132 = s0.1 77 p2.toNatClampNeg := t133
            have q2 : x136 = s0.1 77 x126.toNatClampNeg := t137
            have q3 : x140 = s0.1 78 x126.toNatClampNeg := by rw [t141, t139, mh_row_n (by decide)]
            have := congrArg Int32.toInt q0
            have := congrArg Int32.toInt q1
            rw [hb] at q2
            have := congrArg Int32.toInt q2
            rw [hb] at q3
            have := congrArg Int32.toInt q3
            rw [e9]
            unfold mh_dw
            repeat (first | rw [if_pos (by omega)] | rw [if_neg (by omega)])
            first | done | rfl | simp only [q0, q1, q2, q3]
          · skip
            have := (r_x126).1; have := (r_x126).2
            have := (r_p1).1; have := (r_p1).2
            have := (r_p2).1; have := (r_p2).2
            have := (r_x129).1; have := (r_x129).2
            have := (r_x132).1; have := (r_x132).2
            have := (r_x140).1; have := (r_x140).2
            have := (rc_1).1; have := (rc_1).2
            have := kc_0
            have := kc_1
            have := kc_37
            have := kc_38
            have := kc_47
            have := kc_124
            have hb : x126.toNatClampNeg = p2.toNatClampNeg + 1 := by show x126.toInt.toNat = p2.toInt.toNat + 1; omega
            have e9 : s142.1 78 = (mh_u1 (s0.1 78) p2.toNatClampNeg x140) := by rw [t143, mh_row_s, t139, mh_row_n (by decide)]
            have q0 : x129 = s0.1 78 p2.toNatClampNeg := t130
            have q1 : x132 = s0.1 77 p2.toNatClampNeg := t133
            have q2 : x136 = s0.1 77 x126.toNatClampNeg := t137
            have q3 : x140 = s0.1 78 x126.toNatClampNeg := by rw [t141, t139, mh_row_n (by decide)]
            have := congrArg Int32.toInt q0
            have := congrArg Int32.toInt q1
            rw [hb] at q2
            have := congrArg Int32.toInt q2
            rw [hb] at q3
            have := congrArg Int32.toInt q3
            rw [e9]
            unfold mh_dr
            repeat (first | rw [if_pos (by omega)] | rw [if_neg (by omega)])
            first | done | rfl | simp only [q0, q1, q2, q3]
        · skip
          refine mw_vret dX10_does_45 rfl ⟨rfl, ⟨?_, ?_, hI0, hF0⟩⟩
          · skip
            have := (r_x126).1; have := (r_x126).2
            have := (r_p1).1; have := (r_p1).2
            have := (r_p2).1; have := (r_p2).2
            have := (r_x129).1; have := (r_x129).2
            have := (rc_1).1; have := (rc_1).2
            have := kc_0
            have := kc_1
            have := kc_37
            have := kc_38
            have := kc_47
            have := kc_124
            have hb : x126.toNatClampNeg = p2.toNatClampNeg + 1 := by show x126.toInt.toNat = p2.toInt.toNat + 1; omega
            have e9 : s0.1 77 = s0.1 77 := rfl
            have q0 : x129 = s0.1 78 p2.toNatClampNeg := t130
            have q1 : x132 = s0.1 77 p2.toNatClampNeg := t133
            have := congrArg Int32.toInt q0
            have := congrArg Int32.toInt q1
            rw [e9]
            unfold mh_dw
            repeat (first | rw [if_pos (by omega)] | rw [if_neg (by omega)])
            first | done | rfl | simp only [q0, q1]
          · skip
            have := (r_x126).1; have := (r_x126).2
            have := (r_p1).1; have := (r_p1).2
            have := (r_p2).1; have := (r_p2).2
            have := (r_x129).1; have := (r_x129).2
            have := (rc_1).1; have := (rc_1).2
            have := kc_0
            have := kc_1
            have := kc_37
            have := kc_38
            have := kc_47
            have := kc_124
            have hb : x126.toNatClampNeg = p2.toNatClampNeg + 1 := by show x126.toInt.toNat = p2.toInt.toNat + 1; omega
            have e9 : s0.1 78 = s0.1 78 := rfl
            have q0 : x129 = s0.1 78 p2.toNatClampNeg := t130
            have q1 : x132 = s0.1 77 p2.toNatClampNeg := t133
            have := congrArg Int32.toInt q0
            have := congrArg Int32.toInt q1
            rw [e9]
            unfold mh_dr
            repeat (first | rw [if_pos (by omega)] | rw [if_neg (by omega)])
            first | done | rfl | simp only [q0, q1]
  · skip
    refine mw_iload_n 11 rfl 2 dX10_does_10 rfl rfl ?_
    refine mw_bipush (v := 124) 13 rfl dX10_does_11 (by decide) ?_
    refine mw_icmp_ne 16 rfl 71 dX10_does_13 (by decide) (fun c144 => ?_) (fun c144 => ?_)
    · skip
      refine mw_aload_n 72 rfl 1 dX10_does_71 rfl rfl ?_
      refine mw_geta 75 rfl dX10_does_72 gf_X10_75 rfl 78 (mh_rf hI0 75 rfl) ?_
      refine mw_iload_n 76 rfl 3 dX10_does_75 rfl rfl ?_
      refine mw_aload_n 77 rfl 1 dX10_does_76 rfl rfl ?_
      refine mw_geta 80 rfl dX10_does_77 gf_X10_75 rfl 78 (mh_rf hI0 75 rfl) ?_
      refine mw_iload_n 81 rfl 3 dX10_does_80 rfl rfl ?_
      refine mw_zald 82 rfl dX10_does_81 rfl r_p2 (by decide) (fun x145 t146 => ?_)
      have r_x145 : mh_r x145 (0) (1) := by rw [t146]; exact rd_78 hI0 _
      refine mw_if_ne 85 rfl 115 dX10_does_82 (by decide) (fun c147 => ?_) (fun c147 => ?_)
      · skip
        have r_x145 : mh_r x145 (1) (1) := mh_ne1 (show x145.toInt ≠ (0 : Int32).toInt from c147) r_x145 rc_0 (1) (1) (by decide)
        refine mw_iconst (v := 1) 116 rfl dX10_does_115 (by decide) ?_
        refine mw_goto 119 rfl 120 dX10_does_116 (by decide) ?_
        refine mw_zast 121 rfl dX10_does_120 rfl r_p2 (by decide) (fun s148 t149 => ?_)
        rw [mh_nz (mh_r_wk rc_1 (by decide))] at t149
        have hI_s148 : mh_I B D s148 := by rw [t149]; exact wr_78 hI0 (mh_r_wk rc_1 (by decide))
        have hF_s148 : mh_F S_X10_does s0 s148 := by rw [t149]; exact mh_F_pI hF0 (mh_si 1 rfl)
        refine mw_aload_n 122 rfl 1 dX10_does_121 rfl rfl ?_
        refine mw_geta 125 rfl dX10_does_122 gf_X10_72 rfl 77 (mh_rf hI_s148 74 rfl) ?_
        refine mw_iload_n 126 rfl 3 dX10_does_125 rfl rfl ?_
        refine mw_iload_n 127 rfl 2 dX10_does_126 rfl rfl ?_
        refine mw_aload_n 128 rfl 1 dX10_does_127 rfl rfl ?_
        refine mw_geta 131 rfl dX10_does_128 gf_X10_72 rfl 77 (mh_rf hI_s148 74 rfl) ?_
        refine mw_iload_n 132 rfl 3 dX10_does_131 rfl rfl ?_
        refine mw_iald 133 rfl dX10_does_132 rfl r_p2 (by decide) (fun x150 t151 => ?_)
        refine mw_aload_n 134 rfl 1 dX10_does_133 rfl rfl ?_
        refine mw_geta 137 rfl dX10_does_134 gf_X10_72 rfl 77 (mh_rf hI_s148 74 rfl) ?_
        refine mw_iload_n 138 rfl 0 dX10_does_137 rfl rfl ?_
        refine mw_iald 139 rfl dX10_does_138 rfl r_x126 (by decide) (fun x152 t153 => ?_)
        refine mw_callSi [.int p1, .int x150, .int x152] [.int p2, .ref (G.2.2.2 77)] 142 rfl dX10_does_139 ml_X10_329 mc_X10_worked mk_X10_worked (w_X10_worked l G (d + 0) ⟨by omega, by omega⟩ hI_s148 p1 x150 x152) rfl rfl (Nat.le_of_ble_eq_true rfl) (mh_rok (by omega) (by decide)) (fun x154 s155 q156 => ?_)
        obtain ⟨r_x154, e0_s155, rfl⟩ := q156
        refine mw_iast 143 rfl dX10_does_142 rfl r_p2 (by decide) (fun s157 t158 => ?_)
        have hI_s157 : mh_I B D s157 := by rw [t158]; exact wr_77 hI_s148
        have hF_s157 : mh_F S_X10_does s0 s157 := by rw [t158]; exact mh_F_pI hF_s148 (mh_si 0 rfl)
        refine mw_vret dX10_does_143 rfl ⟨rfl, ⟨?_, ?_, hI_s157, hF_s157⟩⟩
        · skip
          have := (r_x126).1; have := (r_x126).2
          have := (r_p2).1; have := (r_p2).2
          have := (r_x145).1; have := (r_x145).2
          have := (rc_1).1; have := (rc_1).2
          have := kc_0
          have := kc_1
          have := kc_37
          have := kc_38
          have := kc_47
          have := kc_124
          have hb : x126.toNatClampNeg = p2.toNatClampNeg + 1 := by show x126.toInt.toNat = p2.toInt.toNat + 1; omega
          have e9 : s157.1 77 = (mh_u1 (s0.1 77) p2.toNatClampNeg x154) := by rw [t158, mh_row_s, t149, mh_row_n (by decide)]
          have q0 : x145 = s0.1 78 p2.toNatClampNeg := t146
          have q1 : x150 = s0.1 77 p2.toNatClampNeg := by rw [t151, t149, mh_row_n (by decide)]
          have q2 : x152 = s0.1 77 x126.toNatClampNeg := by rw [t153, t149, mh_row_n (by decide)]
          have := congrArg Int32.toInt q0
          have := congrArg Int32.toInt q1
          rw [hb] at q2
          have := congrArg Int32.toInt q2
          rw [e9]
          unfold mh_dw
          repeat (first | rw [if_pos (by omega)] | rw [if_neg (by omega)])
          first | done | rfl | simp only [e0_s155, q0, q1, q2]
        · skip
          have := (r_x126).1; have := (r_x126).2
          have := (r_p2).1; have := (r_p2).2
          have := (r_x145).1; have := (r_x145).2
          have := (rc_1).1; have := (rc_1).2
          have := kc_0
          have := kc_1
          have := kc_37
          have := kc_38
          have := kc_47
          have := kc_124
          have hb : x126.toNatClampNeg = p2.toNatClampNeg + 1 := by show x126.toInt.toNat = p2.toInt.toNat + 1; omega
          have e9 : s157.1 78 = (mh_u1 (s0.1 78) p2.toNatClampNeg (1)) := by rw [t158, mh_row_n (by decide), t149, mh_row_s]
          have q0 : x145 = s0.1 78 p2.toNatClampNeg := t146
          have q1 : x150 = s0.1 77 p2.toNatClampNeg := by rw [t151, t149, mh_row_n (by decide)]
          have q2 : x152 = s0.1 77 x126.toNatClampNeg := by rw [t153, t149, mh_row_n (by decide)]
          have := congrArg Int32.toInt q0
          have := congrArg Int32.toInt q1
          rw [hb] at q2
          have := congrArg Int32.toInt q2
          rw [e9]
          unfold mh_dr
          repeat (first | rw [if_pos (by omega)] | rw [if_neg (by omega)])
          first | done | rfl | simp only [e0_s155, q0, q1, q2]
      · skip
        have r_x145 : mh_r x145 (0) (0) := mh_eq1 (show x145.toInt = (0 : Int32).toInt from c147) r_x145 rc_0 (0) (0) (by decide)
        refine mw_aload_n 86 rfl 1 dX10_does_85 rfl rfl ?_
        refine mw_geta 89 rfl dX10_does_86 gf_X10_75 rfl 78 (mh_rf hI0 75 rfl) ?_
        refine mw_iload_n 90 rfl 0 dX10_does_89 rfl rfl ?_
        refine mw_zald 91 rfl dX10_does_90 rfl r_x126 (by decide) (fun x159 t160 => ?_)
        have r_x159 : mh_r x159 (0) (1) := by rw [t160]; exact rd_78 hI0 _
        refine mw_if_ne 94 rfl 115 dX10_does_91 (by decide) (fun c161 => ?_) (fun c161 => ?_)
        · skip
          have r_x159 : mh_r x159 (1) (1) := mh_ne1 (show x159.toInt ≠ (0 : Int32).toInt from c161) r_x159 rc_0 (1) (1) (by decide)
          refine mw_iconst (v := 1) 116 rfl dX10_does_115 (by decide) ?_
          refine mw_goto 119 rfl 120 dX10_does_116 (by decide) ?_
          refine mw_zast 121 rfl dX10_does_120 rfl r_p2 (by decide) (fun s162 t163 => ?_)
          rw [mh_nz (mh_r_wk rc_1 (by decide))] at t163
          have hI_s162 : mh_I B D s162 := by rw [t163]; exact wr_78 hI0 (mh_r_wk rc_1 (by decide))
          have hF_s162 : mh_F S_X10_does s0 s162 := by rw [t163]; exact mh_F_pI hF0 (mh_si 1 rfl)
          refine mw_aload_n 122 rfl 1 dX10_does_121 rfl rfl ?_
          refine mw_geta 125 rfl dX10_does_122 gf_X10_72 rfl 77 (mh_rf hI_s162 74 rfl) ?_
          refine mw_iload_n 126 rfl 3 dX10_does_125 rfl rfl ?_
          refine mw_iload_n 127 rfl 2 dX10_does_126 rfl rfl ?_
          refine mw_aload_n 128 rfl 1 dX10_does_127 rfl rfl ?_
          refine mw_geta 131 rfl dX10_does_128 gf_X10_72 rfl 77 (mh_rf hI_s162 74 rfl) ?_
          refine mw_iload_n 132 rfl 3 dX10_does_131 rfl rfl ?_
          refine mw_iald 133 rfl dX10_does_132 rfl r_p2 (by decide) (fun x164 t165 => ?_)
          refine mw_aload_n 134 rfl 1 dX10_does_133 rfl rfl ?_
          refine mw_geta 137 rfl dX10_does_134 gf_X10_72 rfl 77 (mh_rf hI_s162 74 rfl) ?_
          refine mw_iload_n 138 rfl 0 dX10_does_137 rfl rfl ?_
          refine mw_iald 139 rfl dX10_does_138 rfl r_x126 (by decide) (fun x166 t167 => ?_)
          refine mw_callSi [.int p1, .int x164, .int x166] [.int p2, .ref (G.2.2.2 77)] 142 rfl dX10_does_139 ml_X10_329 mc_X10_worked mk_X10_worked (w_X10_worked l G (d + 0) ⟨by omega, by omega⟩ hI_s162 p1 x164 x166) rfl rfl (Nat.le_of_ble_eq_true rfl) (mh_rok (by omega) (by decide)) (fun x168 s169 q170 => ?_)
          obtain ⟨r_x168, e0_s169, rfl⟩ := q170
          refine mw_iast 143 rfl dX10_does_142 rfl r_p2 (by decide) (fun s171 t172 => ?_)
          have hI_s171 : mh_I B D s171 := by rw [t172]; exact wr_77 hI_s162
          have hF_s171 : mh_F S_X10_does s0 s171 := by rw [t172]; exact mh_F_pI hF_s162 (mh_si 0 rfl)
          refine mw_vret dX10_does_143 rfl ⟨rfl, ⟨?_, ?_, hI_s171, hF_s171⟩⟩
          · skip
            have := (r_x126).1; have := (r_x126).2
            have := (r_p2).1; have := (r_p2).2
            have := (r_x145).1; have := (r_x145).2
            have := (r_x159).1; have := (r_x159).2
            have := (rc_1).1; have := (rc_1).2
            have := kc_0
            have := kc_1
            have := kc_37
            have := kc_38
            have := kc_47
            have := kc_124
            have hb : x126.toNatClampNeg = p2.toNatClampNeg + 1 := by show x126.toInt.toNat = p2.toInt.toNat + 1; omega
            have e9 : s171.1 77 = (mh_u1 (s0.1 77) p2.toNatClampNeg x168) := by rw [t172, mh_row_s, t163, mh_row_n (by decide)]
            have q0 : x145 = s0.1 78 p2.toNatClampNeg := t146
            have q1 : x159 = s0.1 78 x126.toNatClampNeg := t160
            have q2 : x164 = s0.1 77 p2.toNatClampNeg := by rw [t165, t163, mh_row_n (by decide)]
            have q3 : x166 = s0.1 77 x126.toNatClampNeg := by rw [t167, t163, mh_row_n (by decide)]
            have := congrArg Int32.toInt q0
            rw [hb] at q1
            have := congrArg Int32.toInt q1
            have := congrArg Int32.toInt q2
            rw [hb] at q3
            have := congrArg Int32.toInt q3
            rw [e9]
            unfold mh_dw
            repeat (first | rw [if_pos (by omega)] | rw [if_neg (by omega)])
            first | done | rfl | simp only [e0_s169, q0, q1, q2, q3]
          · skip
            have := (r_x126).1; have := (r_x126).2
            have := (r_p2).1; have := (r_p2).2
            have := (r_x145).1; have := (r_x145).2
            have := (r_x159).1; have := (r_x159).2
            have := (rc_1).1; have := (rc_1).2
            have := kc_0
            have := kc_1
            have := kc_37
            have := kc_38
            have := kc_47
            have := kc_124
            have hb : x126.toNatClampNeg = p2.toNatClampNeg + 1 := by show x126.toInt.toNat = p2.toInt.toNat + 1; omega
            have e9 : s171.1 78 = (mh_u1 (s0.1 78) p2.toNatClampNeg (1)) := by rw [t172, mh_row_n (by decide), t163, mh_row_s]
            have q0 : x145 = s0.1 78 p2.toNatClampNeg := t146
            have q1 : x159 = s0.1 78 x126.toNatClampNeg := t160
            have q2 : x164 = s0.1 77 p2.toNatClampNeg := by rw [t165, t163, mh_row_n (by decide)]
            have q3 : x166 = s0.1 77 x126.toNatClampNeg := by rw [t167, t163, mh_row_n (by decide)]
            have := congrArg Int32.toInt q0
            rw [hb] at q1
            have := congrArg Int32.toInt q1
            have := congrArg Int32.toInt q2
            rw [hb] at q3
            have := congrArg Int32.toInt q3
            rw [e9]
            unfold mh_dr
            repeat (first | rw [if_pos (by omega)] | rw [if_neg (by omega)])
            first | done | rfl | simp only [e0_s169, q0, q1, q2, q3]
        · skip
          have r_x159 : mh_r x159 (0) (0) := mh_eq1 (show x159.toInt = (0 : Int32).toInt from c161) r_x159 rc_0 (0) (0) (by decide)
          refine mw_iload_n 95 rfl 2 dX10_does_94 rfl rfl ?_
          refine mw_bipush (v := 47) 97 rfl dX10_does_95 (by decide) ?_
          refine mw_icmp_eq 100 rfl 106 dX10_does_97 (by decide) (fun c173 => ?_) (fun c173 => ?_)
          · skip
            have r_p1 : mh_r p1 (47) (47) := mh_eq1 c173 (mh_r_full p1) rc_47 (47) (47) (by decide)
            refine mw_aload_n 107 rfl 1 dX10_does_106 rfl rfl ?_
            refine mw_geta 110 rfl dX10_does_107 gf_X10_72 rfl 77 (mh_rf hI0 74 rfl) ?_
            refine mw_iload_n 111 rfl 0 dX10_does_110 rfl rfl ?_
            refine mw_iald 112 rfl dX10_does_111 rfl r_x126 (by decide) (fun x174 t175 => ?_)
            refine mw_if_ne 115 rfl 119 dX10_does_112 (by decide) (fun c176 => ?_) (fun c176 => ?_)
            · skip
              refine mw_iconst (v := 0) 120 rfl dX10_does_119 (by decide) ?_
              refine mw_zast 121 rfl dX10_does_120 rfl r_p2 (by decide) (fun s177 t178 => ?_)
              rw [mh_nz (mh_r_wk rc_0 (by decide))] at t178
              have hI_s177 : mh_I B D s177 := by rw [t178]; exact wr_78 hI0 (mh_r_wk rc_0 (by decide))
              have hF_s177 : mh_F S_X10_does s0 s177 := by rw [t178]; exact mh_F_pI hF0 (mh_si 1 rfl)
              refine mw_aload_n 122 rfl 1 dX10_does_121 rfl rfl ?_
              refine mw_geta 125 rfl dX10_does_122 gf_X10_72 rfl 77 (mh_rf hI_s177 74 rfl) ?_
              refine mw_iload_n 126 rfl 3 dX10_does_125 rfl rfl ?_
              refine mw_iload_n 127 rfl 2 dX10_does_126 rfl rfl ?_
              refine mw_aload_n 128 rfl 1 dX10_does_127 rfl rfl ?_
              refine mw_geta 131 rfl dX10_does_128 gf_X10_72 rfl 77 (mh_rf hI_s177 74 rfl) ?_
              refine mw_iload_n 132 rfl 3 dX10_does_131 rfl rfl ?_
              refine mw_iald 133 rfl dX10_does_132 rfl r_p2 (by decide) (fun x179 t180 => ?_)
              refine mw_aload_n 134 rfl 1 dX10_does_133 rfl rfl ?_
              refine mw_geta 137 rfl dX10_does_134 gf_X10_72 rfl 77 (mh_rf hI_s177 74 rfl) ?_
              refine mw_iload_n 138 rfl 0 dX10_does_137 rfl rfl ?_
              refine mw_iald 139 rfl dX10_does_138 rfl r_x126 (by decide) (fun x181 t182 => ?_)
              have t183 : x174 = s177.1 77 x126.toNatClampNeg := by rw [t178]; exact (t175).trans (mh_pI_n (by omega)).symm
              obtain rfl : x174 = x181 := t183.trans t182.symm
              refine mw_callSi [.int p1, .int x179, .int x174] [.int p2, .ref (G.2.2.2 77)] 142 rfl dX10_does_139 ml_X10_329 mc_X10_worked mk_X10_worked (w_X10_worked l G (d + 0) ⟨by omega, by omega⟩ hI_s177 p1 x179 x174) rfl rfl (Nat.le_of_ble_eq_true rfl) (mh_rok (by omega) (by decide)) (fun x184 s185 q186 => ?_)
              obtain ⟨r_x184, e0_s185, rfl⟩ := q186
              refine mw_iast 143 rfl dX10_does_142 rfl r_p2 (by decide) (fun s187 t188 => ?_)
              have hI_s187 : mh_I B D s187 := by rw [t188]; exact wr_77 hI_s177
              have hF_s187 : mh_F S_X10_does s0 s187 := by rw [t188]; exact mh_F_pI hF_s177 (mh_si 0 rfl)
              refine mw_vret dX10_does_143 rfl ⟨rfl, ⟨?_, ?_, hI_s187, hF_s187⟩⟩
              · skip
                have := (r_x126).1; have := (r_x126).2
                have := (r_p1).1; have := (r_p1).2
                have := (r_p2).1; have := (r_p2).2
                have := (r_x145).1; have := (r_x145).2
                have := (r_x159).1; have := (r_x159).2
                have := (rc_1).1; have := (rc_1).2
                have := kc_0
                have := kc_1
                have := kc_37
                have := kc_38
                have := kc_47
                have := kc_124
                have hb : x126.toNatClampNeg = p2.toNatClampNeg + 1 := by show x126.toInt.toNat = p2.toInt.toNat + 1; omega
                have e9 : s187.1 77 = (mh_u1 (s0.1 77) p2.toNatClampNeg x184) := by rw [t188, mh_row_s, t178, mh_row_n (by decide)]
                have q0 : x145 = s0.1 78 p2.toNatClampNeg := t146
                have q1 : x159 = s0.1 78 x126.toNatClampNeg := t160
                have q2 : x174 = s0.1 77 x126.toNatClampNeg := t175
                have q3 : x179 = s0.1 77 p2.toNatClampNeg := by rw [t180, t178, mh_row_n (by decide)]
                have q4 : x174 = s0.1 77 x126.toNatClampNeg := by rw [t183, t178, mh_row_n (by decide)]
                have := congrArg Int32.toInt q0
                rw [hb] at q1
                have := congrArg Int32.toInt q1
                rw [hb] at q2
                have := congrArg Int32.toInt q2
                have := congrArg Int32.toInt q3
                rw [hb] at q4
                have := congrArg Int32.toInt q4
                rw [e9]
                unfold mh_dw
                repeat (first | rw [if_pos (by omega)] | rw [if_neg (by omega)])
                first | done | rfl | simp only [e0_s185, q0, q1, q2, q3, q4]
              · skip
                have := (r_x126).1; have := (r_x126).2
                have := (r_p1).1; have := (r_p1).2
                have := (r_p2).1; have := (r_p2).2
                have := (r_x145).1; have := (r_x145).2
                have := (r_x159).1; have := (r_x159).2
                have := (rc_1).1; have := (rc_1).2
                have := kc_0
                have := kc_1
                have := kc_37
                have := kc_38
                have := kc_47
                have := kc_124
                have hb : x126.toNatClampNeg = p2.toNatClampNeg + 1 := by show x126.toInt.toNat = p2.toInt.toNat + 1; omega
                have e9 : s187.1 78 = (mh_u1 (s0.1 78) p2.toNatClampNeg (0)) := by rw [t188, mh_row_n (by decide), t178, mh_row_s]
                have q0 : x145 = s0.1 78 p2.toNatClampNeg := t146
                have q1 : x159 = s0.1 78 x126.toNatClampNeg := t160
                have q2 : x174 = s0.1 77 x126.toNatClampNeg := t175
                have q3 : x179 = s0.1 77 p2.toNatClampNeg := by rw [t180, t178, mh_row_n (by decide)]
                have q4 : x174 = s0.1 77 x126.toNatClampNeg := by rw [t183, t178, mh_row_n (by decide)]
                have := congrArg Int32.toInt q0
                rw [hb] at q1
                have := congrArg Int32.toInt q1
                rw [hb] at q2
                have := congrArg Int32.toInt q2
                have := congrArg Int32.toInt q3
                rw [hb] at q4
                have := congrArg Int32.toInt q4
                rw [e9]
                unfold mh_dr
                repeat (first | rw [if_pos (by omega)] | rw [if_neg (by omega)])
                first | done | rfl | simp only [e0_s185, q0, q1, q2, q3, q4]
            · skip
              have r_x174 : mh_r x174 (0) (0) := mh_eq1 (show x174.toInt = (0 : Int32).toInt from c176) (mh_r_full x174) rc_0 (0) (0) (by decide)
              refine mw_iconst (v := 1) 116 rfl dX10_does_115 (by decide) ?_
              refine mw_goto 119 rfl 120 dX10_does_116 (by decide) ?_
              refine mw_zast 121 rfl dX10_does_120 rfl r_p2 (by decide) (fun s189 t190 => ?_)
              rw [mh_nz (mh_r_wk rc_1 (by decide))] at t190
              have hI_s189 : mh_I B D s189 := by rw [t190]; exact wr_78 hI0 (mh_r_wk rc_1 (by decide))
              have hF_s189 : mh_F S_X10_does s0 s189 := by rw [t190]; exact mh_F_pI hF0 (mh_si 1 rfl)
              refine mw_aload_n 122 rfl 1 dX10_does_121 rfl rfl ?_
              refine mw_geta 125 rfl dX10_does_122 gf_X10_72 rfl 77 (mh_rf hI_s189 74 rfl) ?_
              refine mw_iload_n 126 rfl 3 dX10_does_125 rfl rfl ?_
              refine mw_iload_n 127 rfl 2 dX10_does_126 rfl rfl ?_
              refine mw_aload_n 128 rfl 1 dX10_does_127 rfl rfl ?_
              refine mw_geta 131 rfl dX10_does_128 gf_X10_72 rfl 77 (mh_rf hI_s189 74 rfl) ?_
              refine mw_iload_n 132 rfl 3 dX10_does_131 rfl rfl ?_
              refine mw_iald 133 rfl dX10_does_132 rfl r_p2 (by decide) (fun x191 t192 => ?_)
              refine mw_aload_n 134 rfl 1 dX10_does_133 rfl rfl ?_
              refine mw_geta 137 rfl dX10_does_134 gf_X10_72 rfl 77 (mh_rf hI_s189 74 rfl) ?_
              refine mw_iload_n 138 rfl 0 dX10_does_137 rfl rfl ?_
              refine mw_iald 139 rfl dX10_does_138 rfl r_x126 (by decide) (fun x193 t194 => ?_)
              have t195 : x174 = s189.1 77 x126.toNatClampNeg := by rw [t190]; exact (t175).trans (mh_pI_n (by omega)).symm
              obtain rfl : x174 = x193 := t195.trans t194.symm
              refine mw_callSi [.int p1, .int x191, .int x174] [.int p2, .ref (G.2.2.2 77)] 142 rfl dX10_does_139 ml_X10_329 mc_X10_worked mk_X10_worked (w_X10_worked l G (d + 0) ⟨by omega, by omega⟩ hI_s189 p1 x191 x174) rfl rfl (Nat.le_of_ble_eq_true rfl) (mh_rok (by omega) (by decide)) (fun x196 s197 q198 => ?_)
              obtain ⟨r_x196, e0_s197, rfl⟩ := q198
              refine mw_iast 143 rfl dX10_does_142 rfl r_p2 (by decide) (fun s199 t200 => ?_)
              have hI_s199 : mh_I B D s199 := by rw [t200]; exact wr_77 hI_s189
              have hF_s199 : mh_F S_X10_does s0 s199 := by rw [t200]; exact mh_F_pI hF_s189 (mh_si 0 rfl)
              refine mw_vret dX10_does_143 rfl ⟨rfl, ⟨?_, ?_, hI_s199, hF_s199⟩⟩
              · skip
                have := (r_x126).1; have := (r_x126).2
                have := (r_p1).1; have := (r_p1).2
                have := (r_p2).1; have := (r_p2).2
                have := (r_x145).1; have := (r_x145).2
                have := (r_x159).1; have := (r_x159).2
                have := (r_x174).1; have := (r_x174).2
                have := (rc_1).1; have := (rc_1).2
                have := kc_0
                have := kc_1
                have := kc_37
                have := kc_38
                have := kc_47
                have := kc_124
                have hb : x126.toNatClampNeg = p2.toNatClampNeg + 1 := by show x126.toInt.toNat = p2.toInt.toNat + 1; omega
                have e9 : s199.1 77 = (mh_u1 (s0.1 77) p2.toNatClampNeg x196) := by rw [t200, mh_row_s, t190, mh_row_n (by decide)]
                have q0 : x145 = s0.1 78 p2.toNatClampNeg := t146
                have q1 : x159 = s0.1 78 x126.toNatClampNeg := t160
                have q2 : x174 = s0.1 77 x126.toNatClampNeg := t175
                have q3 : x191 = s0.1 77 p2.toNatClampNeg := by rw [t192, t190, mh_row_n (by decide)]
                have q4 : x174 = s0.1 77 x126.toNatClampNeg := by rw [t195, t190, mh_row_n (by decide)]
                have := congrArg Int32.toInt q0
                rw [hb] at q1
                have := congrArg Int32.toInt q1
                rw [hb] at q2
                have := congrArg Int32.toInt q2
                have := congrArg Int32.toInt q3
                rw [hb] at q4
                have := congrArg Int32.toInt q4
                rw [e9]
                unfold mh_dw
                repeat (first | rw [if_pos (by omega)] | rw [if_neg (by omega)])
                first | done | rfl | simp only [e0_s197, q0, q1, q2, q3, q4]
              · skip
                have := (r_x126).1; have := (r_x126).2
                have := (r_p1).1; have := (r_p1).2
                have := (r_p2).1; have := (r_p2).2
                have := (r_x145).1; have := (r_x145).2
                have := (r_x159).1; have := (r_x159).2
                have := (r_x174).1; have := (r_x174).2
                have := (rc_1).1; have := (rc_1).2
                have := kc_0
                have := kc_1
                have := kc_37
                have := kc_38
                have := kc_47
                have := kc_124
                have hb : x126.toNatClampNeg = p2.toNatClampNeg + 1 := by show x126.toInt.toNat = p2.toInt.toNat + 1; omega
                have e9 : s199.1 78 = (mh_u1 (s0.1 78) p2.toNatClampNeg (1)) := by rw [t200, mh_row_n (by decide), t190, mh_row_s]
                have q0 : x145 = s0.1 78 p2.toNatClampNeg := t146
                have q1 : x159 = s0.1 78 x126.toNatClampNeg := t160
                have q2 : x174 = s0.1 77 x126.toNatClampNeg := t175
                have q3 : x191 = s0.1 77 p2.toNatClampNeg := by rw [t192, t190, mh_row_n (by decide)]
                have q4 : x174 = s0.1 77 x126.toNatClampNeg := by rw [t195, t190, mh_row_n (by decide)]
                have := congrArg Int32.toInt q0
                rw [hb] at q1
                have := congrArg Int32.toInt q1
                rw [hb] at q2
                have := congrArg Int32.toInt q2
                have := congrArg Int32.toInt q3
                rw [hb] at q4
                have := congrArg Int32.toInt q4
                rw [e9]
                unfold mh_dr
                repeat (first | rw [if_pos (by omega)] | rw [if_neg (by omega)])
                first | done | rfl | simp only [e0_s197, q0, q1, q2, q3, q4]
          · skip
            refine mw_iload_n 101 rfl 2 dX10_does_100 rfl rfl ?_
            refine mw_bipush (v := 37) 103 rfl dX10_does_101 (by decide) ?_
            refine mw_icmp_ne 106 rfl 119 dX10_does_103 (by decide) (fun c201 => ?_) (fun c201 => ?_)
            · skip
              refine mw_iconst (v := 0) 120 rfl dX10_does_119 (by decide) ?_
              refine mw_zast 121 rfl dX10_does_120 rfl r_p2 (by decide) (fun s202 t203 => ?_)
              rw [mh_nz (mh_r_wk rc_0 (by decide))] at t203
              have hI_s202 : mh_I B D s202 := by rw [t203]; exact wr_78 hI0 (mh_r_wk rc_0 (by decide))
              have hF_s202 : mh_F S_X10_does s0 s202 := by rw [t203]; exact mh_F_pI hF0 (mh_si 1 rfl)
              refine mw_aload_n 122 rfl 1 dX10_does_121 rfl rfl ?_
              refine mw_geta 125 rfl dX10_does_122 gf_X10_72 rfl 77 (mh_rf hI_s202 74 rfl) ?_
              refine mw_iload_n 126 rfl 3 dX10_does_125 rfl rfl ?_
              refine mw_iload_n 127 rfl 2 dX10_does_126 rfl rfl ?_
              refine mw_aload_n 128 rfl 1 dX10_does_127 rfl rfl ?_
              refine mw_geta 131 rfl dX10_does_128 gf_X10_72 rfl 77 (mh_rf hI_s202 74 rfl) ?_
              refine mw_iload_n 132 rfl 3 dX10_does_131 rfl rfl ?_
              refine mw_iald 133 rfl dX10_does_132 rfl r_p2 (by decide) (fun x204 t205 => ?_)
              refine mw_aload_n 134 rfl 1 dX10_does_133 rfl rfl ?_
              refine mw_geta 137 rfl dX10_does_134 gf_X10_72 rfl 77 (mh_rf hI_s202 74 rfl) ?_
              refine mw_iload_n 138 rfl 0 dX10_does_137 rfl rfl ?_
              refine mw_iald 139 rfl dX10_does_138 rfl r_x126 (by decide) (fun x206 t207 => ?_)
              refine mw_callSi [.int p1, .int x204, .int x206] [.int p2, .ref (G.2.2.2 77)] 142 rfl dX10_does_139 ml_X10_329 mc_X10_worked mk_X10_worked (w_X10_worked l G (d + 0) ⟨by omega, by omega⟩ hI_s202 p1 x204 x206) rfl rfl (Nat.le_of_ble_eq_true rfl) (mh_rok (by omega) (by decide)) (fun x208 s209 q210 => ?_)
              obtain ⟨r_x208, e0_s209, rfl⟩ := q210
              refine mw_iast 143 rfl dX10_does_142 rfl r_p2 (by decide) (fun s211 t212 => ?_)
              have hI_s211 : mh_I B D s211 := by rw [t212]; exact wr_77 hI_s202
              have hF_s211 : mh_F S_X10_does s0 s211 := by rw [t212]; exact mh_F_pI hF_s202 (mh_si 0 rfl)
              refine mw_vret dX10_does_143 rfl ⟨rfl, ⟨?_, ?_, hI_s211, hF_s211⟩⟩
              · skip
                have := (r_x126).1; have := (r_x126).2
                have := (r_p2).1; have := (r_p2).2
                have := (r_x145).1; have := (r_x145).2
                have := (r_x159).1; have := (r_x159).2
                have := (rc_1).1; have := (rc_1).2
                have := kc_0
                have := kc_1
                have := kc_37
                have := kc_38
                have := kc_47
                have := kc_124
                have hb : x126.toNatClampNeg = p2.toNatClampNeg + 1 := by show x126.toInt.toNat = p2.toInt.toNat + 1; omega
                have e9 : s211.1 77 = (mh_u1 (s0.1 77) p2.toNatClampNeg x208) := by rw [t212, mh_row_s, t203, mh_row_n (by decide)]
                have q0 : x145 = s0.1 78 p2.toNatClampNeg := t146
                have q1 : x159 = s0.1 78 x126.toNatClampNeg := t160
                have q2 : x204 = s0.1 77 p2.toNatClampNeg := by rw [t205, t203, mh_row_n (by decide)]
                have q3 : x206 = s0.1 77 x126.toNatClampNeg := by rw [t207, t203, mh_row_n (by decide)]
                have := congrArg Int32.toInt q0
                rw [hb] at q1
                have := congrArg Int32.toInt q1
                have := congrArg Int32.toInt q2
                rw [hb] at q3
                have := congrArg Int32.toInt q3
                rw [e9]
                unfold mh_dw
                repeat (first | rw [if_pos (by omega)] | rw [if_neg (by omega)])
                first | done | rfl | simp only [e0_s209, q0, q1, q2, q3]
              · skip
                have := (r_x126).1; have := (r_x126).2
                have := (r_p2).1; have := (r_p2).2
                have := (r_x145).1; have := (r_x145).2
                have := (r_x159).1; have := (r_x159).2
                have := (rc_1).1; have := (rc_1).2
                have := kc_0
                have := kc_1
                have := kc_37
                have := kc_38
                have := kc_47
                have := kc_124
                have hb : x126.toNatClampNeg = p2.toNatClampNeg + 1 := by show x126.toInt.toNat = p2.toInt.toNat + 1; omega
                have e9 : s211.1 78 = (mh_u1 (s0.1 78) p2.toNatClampNeg (0)) := by rw [t212, mh_row_n (by decide), t203, mh_row_s]
                have q0 : x145 = s0.1 78 p2.toNatClampNeg := t146
                have q1 : x159 = s0.1 78 x126.toNatClampNeg := t160
                have q2 : x204 = s0.1 77 p2.toNatClampNeg := by rw [t205, t203, mh_row_n (by decide)]
                have q3 : x206 = s0.1 77 x126.toNatClampNeg := by rw [t207, t203, mh_row_n (by decide)]
                have := congrArg Int32.toInt q0
                rw [hb] at q1
                have := congrArg Int32.toInt q1
                have := congrArg Int32.toInt q2
                rw [hb] at q3
                have := congrArg Int32.toInt q3
                rw [e9]
                unfold mh_dr
                repeat (first | rw [if_pos (by omega)] | rw [if_neg (by omega)])
                first | done | rfl | simp only [e0_s209, q0, q1, q2, q3]
            · skip
              have r_p1 : mh_r p1 (37) (37) := mh_eq1 c201 (mh_r_full p1) rc_37 (37) (37) (by decide)
              refine mw_aload_n 107 rfl 1 dX10_does_106 rfl rfl ?_
              refine mw_geta 110 rfl dX10_does_107 gf_X10_72 rfl 77 (mh_rf hI0 74 rfl) ?_
              refine mw_iload_n 111 rfl 0 dX10_does_110 rfl rfl ?_
              refine mw_iald 112 rfl dX10_does_111 rfl r_x126 (by decide) (fun x213 t214 => ?_)
              refine mw_if_ne 115 rfl 119 dX10_does_112 (by decide) (fun c215 => ?_) (fun c215 => ?_)
              · skip
                refine mw_iconst (v := 0) 120 rfl dX10_does_119 (by decide) ?_
                refine mw_zast 121 rfl dX10_does_120 rfl r_p2 (by decide) (fun s216 t217 => ?_)
                rw [mh_nz (mh_r_wk rc_0 (by decide))] at t217
                have hI_s216 : mh_I B D s216 := by rw [t217]; exact wr_78 hI0 (mh_r_wk rc_0 (by decide))
                have hF_s216 : mh_F S_X10_does s0 s216 := by rw [t217]; exact mh_F_pI hF0 (mh_si 1 rfl)
                refine mw_aload_n 122 rfl 1 dX10_does_121 rfl rfl ?_
                refine mw_geta 125 rfl dX10_does_122 gf_X10_72 rfl 77 (mh_rf hI_s216 74 rfl) ?_
                refine mw_iload_n 126 rfl 3 dX10_does_125 rfl rfl ?_
                refine mw_iload_n 127 rfl 2 dX10_does_126 rfl rfl ?_
                refine mw_aload_n 128 rfl 1 dX10_does_127 rfl rfl ?_
                refine mw_geta 131 rfl dX10_does_128 gf_X10_72 rfl 77 (mh_rf hI_s216 74 rfl) ?_
                refine mw_iload_n 132 rfl 3 dX10_does_131 rfl rfl ?_
                refine mw_iald 133 rfl dX10_does_132 rfl r_p2 (by decide) (fun x218 t219 => ?_)
                refine mw_aload_n 134 rfl 1 dX10_does_133 rfl rfl ?_
                refine mw_geta 137 rfl dX10_does_134 gf_X10_72 rfl 77 (mh_rf hI_s216 74 rfl) ?_
                refine mw_iload_n 138 rfl 0 dX10_does_137 rfl rfl ?_
                refine mw_iald 139 rfl dX10_does_138 rfl r_x126 (by decide) (fun x220 t221 => ?_)
                have t222 : x213 = s216.1 77 x126.toNatClampNeg := by rw [t217]; exact (t214).trans (mh_pI_n (by omega)).symm
                obtain rfl : x213 = x220 := t222.trans t221.symm
                refine mw_callSi [.int p1, .int x218, .int x213] [.int p2, .ref (G.2.2.2 77)] 142 rfl dX10_does_139 ml_X10_329 mc_X10_worked mk_X10_worked (w_X10_worked l G (d + 0) ⟨by omega, by omega⟩ hI_s216 p1 x218 x213) rfl rfl (Nat.le_of_ble_eq_true rfl) (mh_rok (by omega) (by decide)) (fun x223 s224 q225 => ?_)
                obtain ⟨r_x223, e0_s224, rfl⟩ := q225
                refine mw_iast 143 rfl dX10_does_142 rfl r_p2 (by decide) (fun s226 t227 => ?_)
                have hI_s226 : mh_I B D s226 := by rw [t227]; exact wr_77 hI_s216
                have hF_s226 : mh_F S_X10_does s0 s226 := by rw [t227]; exact mh_F_pI hF_s216 (mh_si 0 rfl)
                refine mw_vret dX10_does_143 rfl ⟨rfl, ⟨?_, ?_, hI_s226, hF_s226⟩⟩
                · skip
                  have := (r_x126).1; have := (r_x126).2
                  have := (r_p1).1; have := (r_p1).2
                  have := (r_p2).1; have := (r_p2).2
                  have := (r_x145).1; have := (r_x145).2
                  have := (r_x159).1; have := (r_x159).2
                  have := (rc_1).1; have := (rc_1).2
                  have := kc_0
                  have := kc_1
                  have := kc_37
                  have := kc_38
                  have := kc_47
                  have := kc_124
                  have hb : x126.toNatClampNeg = p2.toNatClampNeg + 1 := by show x126.toInt.toNat = p2.toInt.toNat + 1; omega
                  have e9 : s226.1 77 = (mh_u1 (s0.1 77) p2.toNatClampNeg x223) := by rw [t227, mh_row_s, t217, mh_row_n (by decide)]
                  have q0 : x145 = s0.1 78 p2.toNatClampNeg := t146
                  have q1 : x159 = s0.1 78 x126.toNatClampNeg := t160
                  have q2 : x213 = s0.1 77 x126.toNatClampNeg := t214
                  have q3 : x218 = s0.1 77 p2.toNatClampNeg := by rw [t219, t217, mh_row_n (by decide)]
                  have q4 : x213 = s0.1 77 x126.toNatClampNeg := by rw [t222, t217, mh_row_n (by decide)]
                  have := congrArg Int32.toInt q0
                  rw [hb] at q1
                  have := congrArg Int32.toInt q1
                  rw [hb] at q2
                  have := congrArg Int32.toInt q2
                  have := congrArg Int32.toInt q3
                  rw [hb] at q4
                  have := congrArg Int32.toInt q4
                  rw [e9]
                  unfold mh_dw
                  repeat (first | rw [if_pos (by omega)] | rw [if_neg (by omega)])
                  first | done | rfl | simp only [e0_s224, q0, q1, q2, q3, q4]
                · skip
                  have := (r_x126).1; have := (r_x126).2
                  have := (r_p1).1; have := (r_p1).2
                  have := (r_p2).1; have := (r_p2).2
                  have := (r_x145).1; have := (r_x145).2
                  have := (r_x159).1; have := (r_x159).2
                  have := (rc_1).1; have := (rc_1).2
                  have := kc_0
                  have := kc_1
                  have := kc_37
                  have := kc_38
                  have := kc_47
                  have := kc_124
                  have hb : x126.toNatClampNeg = p2.toNatClampNeg + 1 := by show x126.toInt.toNat = p2.toInt.toNat + 1; omega
                  have e9 : s226.1 78 = (mh_u1 (s0.1 78) p2.toNatClampNeg (0)) := by rw [t227, mh_row_n (by decide), t217, mh_row_s]
                  have q0 : x145 = s0.1 78 p2.toNatClampNeg := t146
                  have q1 : x159 = s0.1 78 x126.toNatClampNeg := t160
                  have q2 : x213 = s0.1 77 x126.toNatClampNeg := t214
                  have q3 : x218 = s0.1 77 p2.toNatClampNeg := by rw [t219, t217, mh_row_n (by decide)]
                  have q4 : x213 = s0.1 77 x126.toNatClampNeg := by rw [t222, t217, mh_row_n (by decide)]
                  have := congrArg Int32.toInt q0
                  rw [hb] at q1
                  have := congrArg Int32.toInt q1
                  rw [hb] at q2
                  have := congrArg Int32.toInt q2
                  have := congrArg Int32.toInt q3
                  rw [hb] at q4
                  have := congrArg Int32.toInt q4
                  rw [e9]
                  unfold mh_dr
                  repeat (first | rw [if_pos (by omega)] | rw [if_neg (by omega)])
                  first | done | rfl | simp only [e0_s224, q0, q1, q2, q3, q4]
              · skip
                have r_x213 : mh_r x213 (0) (0) := mh_eq1 (show x213.toInt = (0 : Int32).toInt from c215) (mh_r_full x213) rc_0 (0) (0) (by decide)
                refine mw_iconst (v := 1) 116 rfl dX10_does_115 (by decide) ?_
                refine mw_goto 119 rfl 120 dX10_does_116 (by decide) ?_
                refine mw_zast 121 rfl dX10_does_120 rfl r_p2 (by decide) (fun s228 t229 => ?_)
                rw [mh_nz (mh_r_wk rc_1 (by decide))] at t229
                have hI_s228 : mh_I B D s228 := by rw [t229]; exact wr_78 hI0 (mh_r_wk rc_1 (by decide))
                have hF_s228 : mh_F S_X10_does s0 s228 := by rw [t229]; exact mh_F_pI hF0 (mh_si 1 rfl)
                refine mw_aload_n 122 rfl 1 dX10_does_121 rfl rfl ?_
                refine mw_geta 125 rfl dX10_does_122 gf_X10_72 rfl 77 (mh_rf hI_s228 74 rfl) ?_
                refine mw_iload_n 126 rfl 3 dX10_does_125 rfl rfl ?_
                refine mw_iload_n 127 rfl 2 dX10_does_126 rfl rfl ?_
                refine mw_aload_n 128 rfl 1 dX10_does_127 rfl rfl ?_
                refine mw_geta 131 rfl dX10_does_128 gf_X10_72 rfl 77 (mh_rf hI_s228 74 rfl) ?_
                refine mw_iload_n 132 rfl 3 dX10_does_131 rfl rfl ?_
                refine mw_iald 133 rfl dX10_does_132 rfl r_p2 (by decide) (fun x230 t231 => ?_)
                refine mw_aload_n 134 rfl 1 dX10_does_133 rfl rfl ?_
                refine mw_geta 137 rfl dX10_does_134 gf_X10_72 rfl 77 (mh_rf hI_s228 74 rfl) ?_
                refine mw_iload_n 138 rfl 0 dX10_does_137 rfl rfl ?_
                refine mw_iald 139 rfl dX10_does_138 rfl r_x126 (by decide) (fun x232 t233 => ?_)
                have t234 : x213 = s228.1 77 x126.toNatClampNeg := by rw [t229]; exact (t214).trans (mh_pI_n (by omega)).symm
                obtain rfl : x213 = x232 := t234.trans t233.symm
                refine mw_callSi [.int p1, .int x230, .int x213] [.int p2, .ref (G.2.2.2 77)] 142 rfl dX10_does_139 ml_X10_329 mc_X10_worked mk_X10_worked (w_X10_worked l G (d + 0) ⟨by omega, by omega⟩ hI_s228 p1 x230 x213) rfl rfl (Nat.le_of_ble_eq_true rfl) (mh_rok (by omega) (by decide)) (fun x235 s236 q237 => ?_)
                obtain ⟨r_x235, e0_s236, rfl⟩ := q237
                refine mw_iast 143 rfl dX10_does_142 rfl r_p2 (by decide) (fun s238 t239 => ?_)
                have hI_s238 : mh_I B D s238 := by rw [t239]; exact wr_77 hI_s228
                have hF_s238 : mh_F S_X10_does s0 s238 := by rw [t239]; exact mh_F_pI hF_s228 (mh_si 0 rfl)
                refine mw_vret dX10_does_143 rfl ⟨rfl, ⟨?_, ?_, hI_s238, hF_s238⟩⟩
                · skip
                  have := (r_x126).1; have := (r_x126).2
                  have := (r_p1).1; have := (r_p1).2
                  have := (r_p2).1; have := (r_p2).2
                  have := (r_x145).1; have := (r_x145).2
                  have := (r_x159).1; have := (r_x159).2
                  have := (r_x213).1; have := (r_x213).2
                  have := (rc_1).1; have := (rc_1).2
                  have := kc_0
                  have := kc_1
                  have := kc_37
                  have := kc_38
                  have := kc_47
                  have := kc_124
                  have hb : x126.toNatClampNeg = p2.toNatClampNeg + 1 := by show x126.toInt.toNat = p2.toInt.toNat + 1; omega
                  have e9 : s238.1 77 = (mh_u1 (s0.1 77) p2.toNatClampNeg x235) := by rw [t239, mh_row_s, t229, mh_row_n (by decide)]
                  have q0 : x145 = s0.1 78 p2.toNatClampNeg := t146
                  have q1 : x159 = s0.1 78 x126.toNatClampNeg := t160
                  have q2 : x213 = s0.1 77 x126.toNatClampNeg := t214
                  have q3 : x230 = s0.1 77 p2.toNatClampNeg := by rw [t231, t229, mh_row_n (by decide)]
                  have q4 : x213 = s0.1 77 x126.toNatClampNeg := by rw [t234, t229, mh_row_n (by decide)]
                  have := congrArg Int32.toInt q0
                  rw [hb] at q1
                  have := congrArg Int32.toInt q1
                  rw [hb] at q2
                  have := congrArg Int32.toInt q2
                  have := congrArg Int32.toInt q3
                  rw [hb] at q4
                  have := congrArg Int32.toInt q4
                  rw [e9]
                  unfold mh_dw
                  repeat (first | rw [if_pos (by omega)] | rw [if_neg (by omega)])
                  first | done | rfl | simp only [e0_s236, q0, q1, q2, q3, q4]
                · skip
                  have := (r_x126).1; have := (r_x126).2
                  have := (r_p1).1; have := (r_p1).2
                  have := (r_p2).1; have := (r_p2).2
                  have := (r_x145).1; have := (r_x145).2
                  have := (r_x159).1; have := (r_x159).2
                  have := (r_x213).1; have := (r_x213).2
                  have := (rc_1).1; have := (rc_1).2
                  have := kc_0
                  have := kc_1
                  have := kc_37
                  have := kc_38
                  have := kc_47
                  have := kc_124
                  have hb : x126.toNatClampNeg = p2.toNatClampNeg + 1 := by show x126.toInt.toNat = p2.toInt.toNat + 1; omega
                  have e9 : s238.1 78 = (mh_u1 (s0.1 78) p2.toNatClampNeg (1)) := by rw [t239, mh_row_n (by decide), t229, mh_row_s]
                  have q0 : x145 = s0.1 78 p2.toNatClampNeg := t146
                  have q1 : x159 = s0.1 78 x126.toNatClampNeg := t160
                  have q2 : x213 = s0.1 77 x126.toNatClampNeg := t214
                  have q3 : x230 = s0.1 77 p2.toNatClampNeg := by rw [t231, t229, mh_row_n (by decide)]
                  have q4 : x213 = s0.1 77 x126.toNatClampNeg := by rw [t234, t229, mh_row_n (by decide)]
                  have := congrArg Int32.toInt q0
                  rw [hb] at q1
                  have := congrArg Int32.toInt q1
                  rw [hb] at q2
                  have := congrArg Int32.toInt q2
                  have := congrArg Int32.toInt q3
                  rw [hb] at q4
                  have := congrArg Int32.toInt q4
                  rw [e9]
                  unfold mh_dr
                  repeat (first | rw [if_pos (by omega)] | rw [if_neg (by omega)])
                  first | done | rfl | simp only [e0_s236, q0, q1, q2, q3, q4]
    · skip
      have r_p1 : mh_r p1 (124) (124) := mh_eq1 c144 (mh_r_full p1) rc_124 (124) (124) (by decide)
      refine mw_aload_n 17 rfl 1 dX10_does_16 rfl rfl ?_
      refine mw_geta 20 rfl dX10_does_17 gf_X10_75 rfl 78 (mh_rf hI0 75 rfl) ?_
      refine mw_iload_n 21 rfl 3 dX10_does_20 rfl rfl ?_
      refine mw_zald 22 rfl dX10_does_21 rfl r_p2 (by decide) (fun x240 t241 => ?_)
      have r_x240 : mh_r x240 (0) (1) := by rw [t241]; exact rd_78 hI0 _
      refine mw_if_ne 25 rfl 45 dX10_does_22 (by decide) (fun c242 => ?_) (fun c242 => ?_)
      · skip
        have r_x240 : mh_r x240 (1) (1) := mh_ne1 (show x240.toInt ≠ (0 : Int32).toInt from c242) r_x240 rc_0 (1) (1) (by decide)
        refine mw_vret dX10_does_45 rfl ⟨rfl, ⟨?_, ?_, hI0, hF0⟩⟩
        · skip
          have := (r_x126).1; have := (r_x126).2
          have := (r_p1).1; have := (r_p1).2
          have := (r_p2).1; have := (r_p2).2
          have := (r_x240).1; have := (r_x240).2
          have := (rc_1).1; have := (rc_1).2
          have := kc_0
          have := kc_1
          have := kc_37
          have := kc_38
          have := kc_47
          have := kc_124
          have hb : x126.toNatClampNeg = p2.toNatClampNeg + 1 := by show x126.toInt.toNat = p2.toInt.toNat + 1; omega
          have e9 : s0.1 77 = s0.1 77 := rfl
          have q0 : x240 = s0.1 78 p2.toNatClampNeg := t241
          have := congrArg Int32.toInt q0
          rw [e9]
          unfold mh_dw
          repeat (first | rw [if_pos (by omega)] | rw [if_neg (by omega)])
          first | done | rfl | simp only [q0]
        · skip
          have := (r_x126).1; have := (r_x126).2
          have := (r_p1).1; have := (r_p1).2
          have := (r_p2).1; have := (r_p2).2
          have := (r_x240).1; have := (r_x240).2
          have := (rc_1).1; have := (rc_1).2
          have := kc_0
          have := kc_1
          have := kc_37
          have := kc_38
          have := kc_47
          have := kc_124
          have hb : x126.toNatClampNeg = p2.toNatClampNeg + 1 := by show x126.toInt.toNat = p2.toInt.toNat + 1; omega
          have e9 : s0.1 78 = s0.1 78 := rfl
          have q0 : x240 = s0.1 78 p2.toNatClampNeg := t241
          have := congrArg Int32.toInt q0
          rw [e9]
          unfold mh_dr
          repeat (first | rw [if_pos (by omega)] | rw [if_neg (by omega)])
          first | done | rfl | simp only [q0]
      · skip
        have r_x240 : mh_r x240 (0) (0) := mh_eq1 (show x240.toInt = (0 : Int32).toInt from c242) r_x240 rc_0 (0) (0) (by decide)
        refine mw_aload_n 26 rfl 1 dX10_does_25 rfl rfl ?_
        refine mw_geta 29 rfl dX10_does_26 gf_X10_72 rfl 77 (mh_rf hI0 74 rfl) ?_
        refine mw_iload_n 30 rfl 3 dX10_does_29 rfl rfl ?_
        refine mw_iald 31 rfl dX10_does_30 rfl r_p2 (by decide) (fun x243 t244 => ?_)
        refine mw_iload_n 32 rfl 2 dX10_does_31 rfl rfl ?_
        refine mw_bipush (v := 38) 34 rfl dX10_does_32 (by decide) ?_
        refine mw_icmp_ne 37 rfl 41 dX10_does_34 (by decide) (fun c245 => ?_) (fun c245 => ?_)
        · skip
          refine mw_iconst (v := 0) 42 rfl dX10_does_41 (by decide) ?_
          refine mw_icmp_eq 45 rfl 46 dX10_does_42 (by decide) (fun c246 => ?_) (fun c246 => ?_)
          · skip
            have r_x243 : mh_r x243 (0) (0) := mh_eq1 c246 (mh_r_full x243) rc_0 (0) (0) (by decide)
            refine mw_aload_n 47 rfl 1 dX10_does_46 rfl rfl ?_
            refine mw_geta 50 rfl dX10_does_47 gf_X10_72 rfl 77 (mh_rf hI0 74 rfl) ?_
            refine mw_iload_n 51 rfl 3 dX10_does_50 rfl rfl ?_
            refine mw_aload_n 52 rfl 1 dX10_does_51 rfl rfl ?_
            refine mw_geta 55 rfl dX10_does_52 gf_X10_72 rfl 77 (mh_rf hI0 74 rfl) ?_
            refine mw_iload_n 56 rfl 0 dX10_does_55 rfl rfl ?_
            refine mw_iald 57 rfl dX10_does_56 rfl r_x126 (by decide) (fun x247 t248 => ?_)
            refine mw_iast 58 rfl dX10_does_57 rfl r_p2 (by decide) (fun s249 t250 => ?_)
            have hI_s249 : mh_I B D s249 := by rw [t250]; exact wr_77 hI0
            have hF_s249 : mh_F S_X10_does s0 s249 := by rw [t250]; exact mh_F_pI hF0 (mh_si 0 rfl)
            refine mw_aload_n 59 rfl 1 dX10_does_58 rfl rfl ?_
            refine mw_geta 62 rfl dX10_does_59 gf_X10_75 rfl 78 (mh_rf hI_s249 75 rfl) ?_
            refine mw_iload_n 63 rfl 3 dX10_does_62 rfl rfl ?_
            refine mw_aload_n 64 rfl 1 dX10_does_63 rfl rfl ?_
            refine mw_geta 67 rfl dX10_does_64 gf_X10_75 rfl 78 (mh_rf hI_s249 75 rfl) ?_
            refine mw_iload_n 68 rfl 0 dX10_does_67 rfl rfl ?_
            refine mw_zald 69 rfl dX10_does_68 rfl r_x126 (by decide) (fun x251 t252 => ?_)
            have r_x251 : mh_r x251 (0) (1) := by rw [t252]; exact rd_78 hI_s249 _
            refine mw_zast 70 rfl dX10_does_69 rfl r_p2 (by decide) (fun s253 t254 => ?_)
            rw [mh_nz r_x251] at t254
            have hI_s253 : mh_I B D s253 := by rw [t254]; exact wr_78 hI_s249 r_x251
            have hF_s253 : mh_F S_X10_does s0 s253 := by rw [t254]; exact mh_F_pI hF_s249 (mh_si 1 rfl)
            refine mw_vret dX10_does_70 rfl ⟨rfl, ⟨?_, ?_, hI_s253, hF_s253⟩⟩
            · skip
              have := (r_x126).1; have := (r_x126).2
              have := (r_p1).1; have := (r_p1).2
              have := (r_p2).1; have := (r_p2).2
              have := (r_x240).1; have := (r_x240).2
              have := (r_x243).1; have := (r_x243).2
              have := (r_x251).1; have := (r_x251).2
              have := (rc_1).1; have := (rc_1).2
              have := kc_0
              have := kc_1
              have := kc_37
              have := kc_38
              have := kc_47
              have := kc_124
              have hb : x126.toNatClampNeg = p2.toNatClampNeg + 1 := by show x126.toInt.toNat = p2.toInt.toNat + 1; omega
              have e9 : s253.1 77 = (mh_u1 (s0.1 77) p2.toNatClampNeg x247) := by rw [t254, mh_row_n (by decide), t250, mh_row_s]
              have q0 : x240 = s0.1 78 p2.toNatClampNeg := t241
              have q1 : x243 = s0.1 77 p2.toNatClampNeg := t244
              have q2 : x247 = s0.1 77 x126.toNatClampNeg := t248
              have q3 : x251 = s0.1 78 x126.toNatClampNeg := by rw [t252, t250, mh_row_n (by decide)]
              have := congrArg Int32.toInt q0
              have := congrArg Int32.toInt q1
              rw [hb] at q2
              have := congrArg Int32.toInt q2
              rw [hb] at q3
              have := congrArg Int32.toInt q3
              rw [e9]
              unfold mh_dw
              repeat (first | rw [if_pos (by omega)] | rw [if_neg (by omega)])
              first | done | rfl | simp only [q0, q1, q2, q3]
            · skip
              have := (r_x126).1; have := (r_x126).2
              have := (r_p1).1; have := (r_p1).2
              have := (r_p2).1; have := (r_p2).2
              have := (r_x240).1; have := (r_x240).2
              have := (r_x243).1; have := (r_x243).2
              have := (r_x251).1; have := (r_x251).2
              have := (rc_1).1; have := (rc_1).2
              have := kc_0
              have := kc_1
              have := kc_37
              have := kc_38
              have := kc_47
              have := kc_124
              have hb : x126.toNatClampNeg = p2.toNatClampNeg + 1 := by show x126.toInt.toNat = p2.toInt.toNat + 1; omega
              have e9 : s253.1 78 = (mh_u1 (s0.1 78) p2.toNatClampNeg x251) := by rw [t254, mh_row_s, t250, mh_row_n (by decide)]
              have q0 : x240 = s0.1 78 p2.toNatClampNeg := t241
              have q1 : x243 = s0.1 77 p2.toNatClampNeg := t244
              have q2 : x247 = s0.1 77 x126.toNatClampNeg := t248
              have q3 : x251 = s0.1 78 x126.toNatClampNeg := by rw [t252, t250, mh_row_n (by decide)]
              have := congrArg Int32.toInt q0
              have := congrArg Int32.toInt q1
              rw [hb] at q2
              have := congrArg Int32.toInt q2
              rw [hb] at q3
              have := congrArg Int32.toInt q3
              rw [e9]
              unfold mh_dr
              repeat (first | rw [if_pos (by omega)] | rw [if_neg (by omega)])
              first | done | rfl | simp only [q0, q1, q2, q3]
          · skip
            refine mw_vret dX10_does_45 rfl ⟨rfl, ⟨?_, ?_, hI0, hF0⟩⟩
            · skip
              have := (r_x126).1; have := (r_x126).2
              have := (r_p1).1; have := (r_p1).2
              have := (r_p2).1; have := (r_p2).2
              have := (r_x240).1; have := (r_x240).2
              have := (rc_1).1; have := (rc_1).2
              have := kc_0
              have := kc_1
              have := kc_37
              have := kc_38
              have := kc_47
              have := kc_124
              have hb : x126.toNatClampNeg = p2.toNatClampNeg + 1 := by show x126.toInt.toNat = p2.toInt.toNat + 1; omega
              have e9 : s0.1 77 = s0.1 77 := rfl
              have q0 : x240 = s0.1 78 p2.toNatClampNeg := t241
              have q1 : x243 = s0.1 77 p2.toNatClampNeg := t244
              have := congrArg Int32.toInt q0
              have := congrArg Int32.toInt q1
              rw [e9]
              unfold mh_dw
              repeat (first | rw [if_pos (by omega)] | rw [if_neg (by omega)])
              first | done | rfl | simp only [q0, q1]
            · skip
              have := (r_x126).1; have := (r_x126).2
              have := (r_p1).1; have := (r_p1).2
              have := (r_p2).1; have := (r_p2).2
              have := (r_x240).1; have := (r_x240).2
              have := (rc_1).1; have := (rc_1).2
              have := kc_0
              have := kc_1
              have := kc_37
              have := kc_38
              have := kc_47
              have := kc_124
              have hb : x126.toNatClampNeg = p2.toNatClampNeg + 1 := by show x126.toInt.toNat = p2.toInt.toNat + 1; omega
              have e9 : s0.1 78 = s0.1 78 := rfl
              have q0 : x240 = s0.1 78 p2.toNatClampNeg := t241
              have q1 : x243 = s0.1 77 p2.toNatClampNeg := t244
              have := congrArg Int32.toInt q0
              have := congrArg Int32.toInt q1
              rw [e9]
              unfold mh_dr
              repeat (first | rw [if_pos (by omega)] | rw [if_neg (by omega)])
              first | done | rfl | simp only [q0, q1]
        · skip
          exact (mh_neq c245 r_p1 rc_38 (by decide)).elim

def S_X10_goesThrough : List (Nat × Nat) := [(78, 9999), (77, 9999)]
def P_X10_goesThrough (B D : Int) (s0 : mh_H) (p1 : Int32) (p2 : Int32) : mh_H → Prop := fun s => (s.1 77 0 = (mh_gr (s0.1 68) (s0.1 69) (mh_vo s0 (s0.1 57 33) (s0.1 57 34) (s0.1 57 35) (s0.1 57 36) (s0.1 57 37)) p1.toNatClampNeg (p2.toNatClampNeg - p1.toNatClampNeg)).2.1 0 ∧ s.1 78 0 = (mh_gr (s0.1 68) (s0.1 69) (mh_vo s0 (s0.1 57 33) (s0.1 57 34) (s0.1 57 35) (s0.1 57 36) (s0.1 57 37)) p1.toNatClampNeg (p2.toNatClampNeg - p1.toNatClampNeg)).2.2 0) ∧ mh_I B D s ∧ mh_F S_X10_goesThrough s0 s
set_option maxRecDepth 100000 in
set_option maxHeartbeats 4000000 in
theorem w_X10_goesThrough (l : Launch) (G : mh_G) (d : Nat) {B D : Int} (hB : B ≤ 1920000000 ∧ D ≤ 1920000000) {s0 : mh_H} (hI0 : mh_I B D s0) (p1 : Int32) (r_p1 : mh_r p1 (0) (200)) (p2 : Int32) (r_p2 : mh_r p2 (0) (200)) (hs : mh_seg (s0.1 68) p1.toInt p2.toInt) : mh_Mv l G (d + 4) mM_X10_goesThrough [.ref (G.2.2.2 57), .int p1, .int p2] s0 (P_X10_goesThrough B D s0 p1 p2) := by
  refine mh_enter (lv := [(0, .ref (G.2.2.2 57)), (1, .int p1), (2, .int p2)]) (by decide) rfl (Nat.le_of_ble_eq_true rfl) ?_
  have hF0 : mh_F S_X10_goesThrough s0 s0 := mh_F_rf
  have hs4 : mh_dps (s0.1 68) (p2.toNatClampNeg - p1.toNatClampNeg) p1.toNatClampNeg 0 = some 1 := by
    have h1 : (p2.toInt - p1.toInt).toNat = p2.toNatClampNeg - p1.toNatClampNeg := by
      show _ = p2.toInt.toNat - p1.toInt.toNat
      have := hs.1; have := hs.2.1; omega
    have h2 := hs.2.2.2
    rw [h1] at h2
    exact h2
  refine mw_iconst (v := 0) 1 rfl dX10_goesThrough_0 (by decide) ?_
  refine mw_istore_n 2 rfl [(3, .int (0)), (0, .ref (G.2.2.2 57)), (1, .int p1), (2, .int p2)] dX10_goesThrough_1 rfl (by decide) rfl ?_
  refine mw_iload_n 3 rfl 2 dX10_goesThrough_2 rfl rfl ?_
  refine mw_istore 5 rfl [(4, .int p1), (3, .int (0)), (0, .ref (G.2.2.2 57)), (1, .int p1), (2, .int p2)] dX10_goesThrough_3  (by decide) rfl ?_
  have L5 : ∀ n1 : Nat, ∀ (x225 : Int32) (x226 : Int32) (s227 : mh_H), mh_r x225 (0) (200) → mh_r x226 (0) (200) → mh_I B D s227 → mh_F S_X10_goesThrough s0 s227 → (p1.toInt ≤ x225.toInt ∧ x225.toInt ≤ p2.toInt ∧ mh_gI (s0.1 68) (s0.1 69) (mh_vo s0 (s0.1 57 33) (s0.1 57 34) (s0.1 57 35) (s0.1 57 36) (s0.1 57 37)) p1.toNatClampNeg (x225.toNatClampNeg - p1.toNatClampNeg) x226.toNatClampNeg (s227.1 77) (s227.1 78)) → (200) - x225.toInt < (n1 : Int) → mh_W G (mh_XM l G (d + 4) (mh_Qv (P_X10_goesThrough B D s0 p1 p2))) mM_X10_goesThrough 5 [(0, .ref (G.2.2.2 57)), (1, .int p1), (2, .int p2), (3, .int x226), (4, .int x225)] [] s227 := by
    intro n1
    induction n1 with
    | zero =>
      intro x225 x226 s227 r_x225 r_x226 hI_s227 hF_s227 iv hmn1
      exact absurd hmn1 (by have := r_x225.1; have := r_x225.2; omega)
    | succ n1 ihn1 =>
      intro x225 x226 s227 r_x225 r_x226 hI_s227 hF_s227 iv hmn1
      refine mw_iload 7 rfl 4 dX10_goesThrough_5  rfl ?_
      refine mw_iload_n 8 rfl 2 dX10_goesThrough_7 rfl rfl ?_
      refine mw_icmp_ge 11 rfl 127 dX10_goesThrough_8 (by decide) (fun c285 => ?_) (fun c285 => ?_)
      · skip
        refine mw_vret dX10_goesThrough_127 rfl ⟨rfl, ⟨?_, hI_s227, hF_s227⟩⟩
        · skip
          have := (r_p1).1; have := (r_p1).2
          have := (r_p2).1; have := (r_p2).2
          have := (r_x226).1; have := (r_x226).2
          have := (r_x225).1; have := (r_x225).2
          have := kc_0
          have := kc_1
          have := kc_2
          have hi : x225.toNatClampNeg = p2.toNatClampNeg := by show x225.toInt.toNat = p2.toInt.toNat; have := iv.2.1; omega
          have h7 := iv.2.2
          rw [hi] at h7
          exact mh_gI_end h7 hs4
      · skip
        have r_x225 : mh_r x225 (0) (199) := mh_lt1 c285 r_x225 r_p2 (199) (by decide)
        have r_p2 : mh_r p2 (1) (200) := mh_lt2 c285 r_x225 r_p2 (1) (by decide)
        have hrow : s227.1 68 = s0.1 68 := mh_F_row hF_s227 68 rfl
        have him : p1.toNatClampNeg + (x225.toNatClampNeg - p1.toNatClampNeg) = x225.toNatClampNeg := by show p1.toInt.toNat + (x225.toInt.toNat - p1.toInt.toNat) = x225.toInt.toNat; have := iv.1; omega
        have hst := mh_seg_st hs4 (m := x225.toNatClampNeg - p1.toNatClampNeg) (by show x225.toInt.toNat - p1.toInt.toNat < p2.toInt.toNat - p1.toInt.toNat; have := iv.1; have := (r_p1).1; have := (r_p1).2; have := (r_p2).1; have := (r_p2).2; have := (r_x226).1; have := (r_x226).2; have := (r_x225).1; have := (r_x225).2; have := kc_0; have := kc_1; have := kc_2; omega) iv.2.2.1
        rw [him] at hst
        have hn9 : x226.toNatClampNeg = x226.toInt.toNat := rfl
        have hi9 : x225.toNatClampNeg - p1.toNatClampNeg = x225.toInt.toNat - p1.toInt.toNat := rfl
        refine mw_aload_n 12 rfl 0 dX10_goesThrough_11 rfl rfl ?_
        refine mw_geta 15 rfl dX10_goesThrough_12 gf_X10_45 rfl 68 (mh_rf hI_s227 65 rfl) ?_
        refine mw_iload 17 rfl 4 dX10_goesThrough_15  rfl ?_
        refine mw_iald 18 rfl dX10_goesThrough_17 rfl r_x225 (by decide) (fun x286 t287 => ?_)
        have hx9 : s0.1 68 x225.toNatClampNeg = x286 := by rw [t287, hrow]
        rw [hx9] at hst
        refine mw_iconst (v := 2) 19 rfl dX10_goesThrough_18 (by decide) ?_
        refine mw_icmp_le 22 rfl 42 dX10_goesThrough_19 (by decide) (fun c288 => ?_) (fun c288 => ?_)
        · skip
          have r_x286 : mh_r x286 (-2147483648) (2) := mh_le1 c288 (mh_r_full x286) rc_2 (2) (by decide)
          refine mw_aload_n 43 rfl 0 dX10_goesThrough_42 rfl rfl ?_
          refine mw_geta 46 rfl dX10_goesThrough_43 gf_X10_45 rfl 68 (mh_rf hI_s227 65 rfl) ?_
          refine mw_iload 48 rfl 4 dX10_goesThrough_46  rfl ?_
          refine mw_iald 49 rfl dX10_goesThrough_48 rfl r_x225 (by decide) (fun x289 t290 => ?_)
          obtain rfl : x286 = x289 := t287.trans t290.symm
          refine mw_iconst (v := 2) 50 rfl dX10_goesThrough_49 (by decide) ?_
          refine mw_icmp_ne 53 rfl 74 dX10_goesThrough_50 (by decide) (fun c291 => ?_) (fun c291 => ?_)
          · skip
            have r_x286 : mh_r x286 (-2147483648) (1) := mh_ne1 c291 r_x286 rc_2 (-2147483648) (1) (by decide)
            have r_x226 : mh_r x226 (0) (199) := ⟨by have := kc_2; have := hst.2.2; have := (r_p1).1; have := (r_p1).2; have := (r_p2).1; have := (r_p2).2; have := (r_x226).1; have := (r_x226).2; have := (r_x225).1; have := (r_x225).2; have := (r_x286).1; have := (r_x286).2; have := kc_0; have := kc_1; have := kc_2; omega, by have := kc_2; have := hst.2.2; have := (r_p1).1; have := (r_p1).2; have := (r_p2).1; have := (r_p2).2; have := (r_x226).1; have := (r_x226).2; have := (r_x225).1; have := (r_x225).2; have := (r_x286).1; have := (r_x286).2; have := kc_0; have := kc_1; have := kc_2; omega⟩
            refine mw_aload_n 75 rfl 0 dX10_goesThrough_74 rfl rfl ?_
            refine mw_geta 78 rfl dX10_goesThrough_75 gf_X10_75 rfl 78 (mh_rf hI_s227 75 rfl) ?_
            refine mw_iload_n 79 rfl 3 dX10_goesThrough_78 rfl rfl ?_
            refine mw_iconst (v := 0) 80 rfl dX10_goesThrough_79 (by decide) ?_
            refine mw_zast 81 rfl dX10_goesThrough_80 rfl r_x226 (by decide) (fun s292 t293 => ?_)
            rw [mh_nz (mh_r_wk rc_0 (by decide))] at t293
            have hI_s292 : mh_I B D s292 := by rw [t293]; exact wr_78 hI_s227 (mh_r_wk rc_0 (by decide))
            have hF_s292 : mh_F S_X10_goesThrough s0 s292 := by rw [t293]; exact mh_F_pI hF_s227 (mh_si 0 rfl)
            refine mw_aload_n 82 rfl 0 dX10_goesThrough_81 rfl rfl ?_
            refine mw_geta 85 rfl dX10_goesThrough_82 gf_X10_72 rfl 77 (mh_rf hI_s292 74 rfl) ?_
            refine mw_iload_n 86 rfl 3 dX10_goesThrough_85 rfl rfl ?_
            refine mw_aload_n 87 rfl 0 dX10_goesThrough_86 rfl rfl ?_
            refine mw_geta 90 rfl dX10_goesThrough_87 gf_X10_45 rfl 68 (mh_rf hI_s292 65 rfl) ?_
            refine mw_iload 92 rfl 4 dX10_goesThrough_90  rfl ?_
            refine mw_iald 93 rfl dX10_goesThrough_92 rfl r_x225 (by decide) (fun x294 t295 => ?_)
            have t296 : x286 = s292.1 68 x225.toNatClampNeg := by rw [t293]; exact (t287).trans (mh_pI_n (by omega)).symm
            obtain rfl : x286 = x294 := t296.trans t295.symm
            refine mw_if_ne 96 rfl 106 dX10_goesThrough_93 (by decide) (fun c297 => ?_) (fun c297 => ?_)
            · skip
              refine mw_aload_n 107 rfl 0 dX10_goesThrough_106 rfl rfl ?_
              refine mw_aload_n 108 rfl 0 dX10_goesThrough_107 rfl rfl ?_
              refine mw_geta 111 rfl dX10_goesThrough_108 gf_X10_48 rfl 69 (mh_rf hI_s292 66 rfl) ?_
              refine mw_iload 113 rfl 4 dX10_goesThrough_111  rfl ?_
              refine mw_iald 114 rfl dX10_goesThrough_113 rfl r_x225 (by decide) (fun x298 t299 => ?_)
              refine mw_callVi [.int x298] [.int x226, .ref (G.2.2.2 77)] 117 rfl dX10_goesThrough_114 ml_X10_336 mc_X10_valueOf mk_X10_valueOf rfl rfl (by decide) (w_X10_valueOf l G (d + 0) ⟨by omega, by omega⟩ hI_s292 x298) rfl rfl (Nat.le_of_ble_eq_true rfl) (mh_rok (by omega) (by decide)) (fun x300 s301 q302 => ?_)
              obtain ⟨r_x300, e0_s301, rfl⟩ := q302
              refine mw_iast 118 rfl dX10_goesThrough_117 rfl r_x226 (by decide) (fun s303 t304 => ?_)
              have hI_s303 : mh_I B D s303 := by rw [t304]; exact wr_77 hI_s292
              have hF_s303 : mh_F S_X10_goesThrough s0 s303 := by rw [t304]; exact mh_F_pI hF_s292 (mh_si 1 rfl)
              refine mw_iincR (k := 3) (1) (200) 121 rfl (fun z => [(3, .int z), (0, .ref (G.2.2.2 57)), (1, .int p1), (2, .int p2), (4, .int x225)]) dX10_goesThrough_118 rfl (by decide) (fun _ => rfl) r_x226 (by decide) (by decide) (fun x305 t306 r_x305 => ?_)
              refine mw_iincR (k := 4) (1) (200) 124 rfl (fun z => [(4, .int z), (3, .int x305), (0, .ref (G.2.2.2 57)), (1, .int p1), (2, .int p2)]) dX10_goesThrough_121 rfl (by decide) (fun _ => rfl) r_x225 (by decide) (by decide) (fun x307 t308 r_x307 => ?_)
              refine mw_goto 127 rfl 5 dX10_goesThrough_124 (by decide) ?_
              exact mw_lv [2, 3, 4, 1, 0] rfl (ihn1 x307 x305 s303 (mh_r_wk r_x307 (by decide)) (mh_r_wk r_x305 (by decide)) hI_s303 hF_s303 (by
                  have := r_x226.1; have := r_x226.2; have := r_x225.1; have := r_x225.2; have := kc_2; have := kc_0
                  have := (r_x307).1; have := (r_x307).2
                  have := (r_x305).1; have := (r_x305).2
                  have := (r_p1).1; have := (r_p1).2
                  have := (r_p2).1; have := (r_p2).2
                  have := (r_x286).1; have := (r_x286).2
                  have := kc_0
                  have := kc_1
                  have := kc_2
                  have hm : x307.toNatClampNeg - p1.toNatClampNeg = (x225.toNatClampNeg - p1.toNatClampNeg) + 1 := by show x307.toInt.toNat - p1.toInt.toNat = (x225.toInt.toNat - p1.toInt.toNat) + 1; have := iv.1; omega
                  refine ⟨by have := iv.1; omega, by have := iv.1; omega, ?_⟩
                  have e77 : s303.1 77 = (mh_u1 (s227.1 77) x226.toNatClampNeg x300) := by rw [t304, mh_row_s, t293, mh_row_n (by decide)]
                  have e78 : s303.1 78 = (mh_u1 (s227.1 78) x226.toNatClampNeg (0)) := by rw [t304, mh_row_n (by decide), t293, mh_row_s]
                  have hn : x305.toNatClampNeg = x226.toNatClampNeg + 1 := by show x305.toInt.toNat = x226.toInt.toNat + 1; omega
                  have hr69 : s292.1 69 = s0.1 69 := mh_F_row hF_s292 69 rfl
                  have hg : s0.1 69 x225.toNatClampNeg = x298 := by rw [t299, hr69]
                  have hev := mh_F_ev hF_s292 rfl
                  have h33 : s292.1 57 33 = s0.1 57 33 := (hF_s292 57 33 (mh_nsI rfl)).1
                  have h34 : s292.1 57 34 = s0.1 57 34 := (hF_s292 57 34 (mh_nsI rfl)).1
                  have h35 : s292.1 57 35 = s0.1 57 35 := (hF_s292 57 35 (mh_nsI rfl)).1
                  have h36 : s292.1 57 36 = s0.1 57 36 := (hF_s292 57 36 (mh_nsI rfl)).1
                  have h37 : s292.1 57 37 = s0.1 57 37 := (hF_s292 57 37 (mh_nsI rfl)).1
                  rw [mh_ev_vo hev, h33, h34, h35, h36, h37] at e0_s301
                  rw [hm, hn, e77, e78]
                  exact mh_gI_psh (c := x286) (av := x298) iv.2.2 (by rw [him]; exact hx9) (by rw [him]; exact hg) (by omega) (by omega) (by rw [if_neg (by omega)]; exact e0_s301)) (by have : x307.toInt = x225.toInt + (1) := t308; omega))
            · skip
              have r_x286 : mh_r x286 (0) (0) := mh_eq1 (show x286.toInt = (0 : Int32).toInt from c297) r_x286 rc_0 (0) (0) (by decide)
              refine mw_aload_n 97 rfl 0 dX10_goesThrough_96 rfl rfl ?_
              refine mw_geta 100 rfl dX10_goesThrough_97 gf_X10_48 rfl 69 (mh_rf hI_s292 66 rfl) ?_
              refine mw_iload 102 rfl 4 dX10_goesThrough_100  rfl ?_
              refine mw_iald 103 rfl dX10_goesThrough_102 rfl r_x225 (by decide) (fun x309 t310 => ?_)
              refine mw_goto 106 rfl 117 dX10_goesThrough_103 (by decide) ?_
              refine mw_iast 118 rfl dX10_goesThrough_117 rfl r_x226 (by decide) (fun s311 t312 => ?_)
              have hI_s311 : mh_I B D s311 := by rw [t312]; exact wr_77 hI_s292
              have hF_s311 : mh_F S_X10_goesThrough s0 s311 := by rw [t312]; exact mh_F_pI hF_s292 (mh_si 1 rfl)
              refine mw_iincR (k := 3) (1) (200) 121 rfl (fun z => [(3, .int z), (0, .ref (G.2.2.2 57)), (1, .int p1), (2, .int p2), (4, .int x225)]) dX10_goesThrough_118 rfl (by decide) (fun _ => rfl) r_x226 (by decide) (by decide) (fun x313 t314 r_x313 => ?_)
              refine mw_iincR (k := 4) (1) (200) 124 rfl (fun z => [(4, .int z), (3, .int x313), (0, .ref (G.2.2.2 57)), (1, .int p1), (2, .int p2)]) dX10_goesThrough_121 rfl (by decide) (fun _ => rfl) r_x225 (by decide) (by decide) (fun x315 t316 r_x315 => ?_)
              refine mw_goto 127 rfl 5 dX10_goesThrough_124 (by decide) ?_
              exact mw_lv [2, 3, 4, 1, 0] rfl (ihn1 x315 x313 s311 (mh_r_wk r_x315 (by decide)) (mh_r_wk r_x313 (by decide)) hI_s311 hF_s311 (by
                  have := r_x226.1; have := r_x226.2; have := r_x225.1; have := r_x225.2; have := kc_2; have := kc_0
                  have := (r_x315).1; have := (r_x315).2
                  have := (r_x313).1; have := (r_x313).2
                  have := (r_p1).1; have := (r_p1).2
                  have := (r_p2).1; have := (r_p2).2
                  have := (r_x286).1; have := (r_x286).2
                  have := kc_0
                  have := kc_1
                  have := kc_2
                  have hm : x315.toNatClampNeg - p1.toNatClampNeg = (x225.toNatClampNeg - p1.toNatClampNeg) + 1 := by show x315.toInt.toNat - p1.toInt.toNat = (x225.toInt.toNat - p1.toInt.toNat) + 1; have := iv.1; omega
                  refine ⟨by have := iv.1; omega, by have := iv.1; omega, ?_⟩
                  have e77 : s311.1 77 = (mh_u1 (s227.1 77) x226.toNatClampNeg x309) := by rw [t312, mh_row_s, t293, mh_row_n (by decide)]
                  have e78 : s311.1 78 = (mh_u1 (s227.1 78) x226.toNatClampNeg (0)) := by rw [t312, mh_row_n (by decide), t293, mh_row_s]
                  have hn : x313.toNatClampNeg = x226.toNatClampNeg + 1 := by show x313.toInt.toNat = x226.toInt.toNat + 1; omega
                  have hr69 : s292.1 69 = s0.1 69 := mh_F_row hF_s292 69 rfl
                  have hg : s0.1 69 x225.toNatClampNeg = x309 := by rw [t310, hr69]
                  rw [hm, hn, e77, e78]
                  exact mh_gI_psh (c := x286) (av := x309) iv.2.2 (by rw [him]; exact hx9) (by rw [him]; exact hg) (by omega) (by omega) (by rw [if_pos (by omega)])) (by have : x315.toInt = x225.toInt + (1) := t316; omega))
          · skip
            have r_x286 : mh_r x286 (2) (2) := mh_eq1 c291 r_x286 rc_2 (2) (2) (by decide)
            have r_x226 : mh_r x226 (1) (200) := ⟨by have := kc_2; have := hst.2.1 (by omega); have := (r_p1).1; have := (r_p1).2; have := (r_p2).1; have := (r_p2).2; have := (r_x226).1; have := (r_x226).2; have := (r_x225).1; have := (r_x225).2; have := (r_x286).1; have := (r_x286).2; have := kc_0; have := kc_1; have := kc_2; omega, by have := kc_2; have := hst.2.1 (by omega); have := (r_p1).1; have := (r_p1).2; have := (r_p2).1; have := (r_p2).2; have := (r_x226).1; have := (r_x226).2; have := (r_x225).1; have := (r_x225).2; have := (r_x286).1; have := (r_x286).2; have := kc_0; have := kc_1; have := kc_2; omega⟩
            refine mw_aload_n 54 rfl 0 dX10_goesThrough_53 rfl rfl ?_
            refine mw_geta 57 rfl dX10_goesThrough_54 gf_X10_72 rfl 77 (mh_rf hI_s227 74 rfl) ?_
            refine mw_iload_n 58 rfl 3 dX10_goesThrough_57 rfl rfl ?_
            refine mw_iconst (v := 1) 59 rfl dX10_goesThrough_58 (by decide) ?_
            refine mw_isub 60 rfl (0) (199) dX10_goesThrough_59 r_x226 rc_1 (by decide) (fun x317 t318 r_x317 => ?_)
            refine mw_iconst (v := 1) 61 rfl dX10_goesThrough_60 (by decide) ?_
            refine mw_aload_n 62 rfl 0 dX10_goesThrough_61 rfl rfl ?_
            refine mw_geta 65 rfl dX10_goesThrough_62 gf_X10_72 rfl 77 (mh_rf hI_s227 74 rfl) ?_
            refine mw_iload_n 66 rfl 3 dX10_goesThrough_65 rfl rfl ?_
            refine mw_iconst (v := 1) 67 rfl dX10_goesThrough_66 (by decide) ?_
            refine mw_isub 68 rfl (0) (199) dX10_goesThrough_67 r_x226 rc_1 (by decide) (fun x319 t320 r_x319 => ?_)
            obtain rfl : x317 = x319 := Int32.toInt_inj.mp (t318.trans t320.symm)
            refine mw_iald 69 rfl dX10_goesThrough_68 rfl r_x317 (by decide) (fun x321 t322 => ?_)
            refine mw_isub_u 70 rfl dX10_goesThrough_69 (fun x323 t324 => ?_)
            refine mw_iast 71 rfl dX10_goesThrough_70 rfl r_x317 (by decide) (fun s325 t326 => ?_)
            have hI_s325 : mh_I B D s325 := by rw [t326]; exact wr_77 hI_s227
            have hF_s325 : mh_F S_X10_goesThrough s0 s325 := by rw [t326]; exact mh_F_pI hF_s227 (mh_si 1 rfl)
            refine mw_goto 74 rfl 121 dX10_goesThrough_71 (by decide) ?_
            refine mw_iincR (k := 4) (1) (200) 124 rfl (fun z => [(4, .int z), (0, .ref (G.2.2.2 57)), (1, .int p1), (2, .int p2), (3, .int x226)]) dX10_goesThrough_121 rfl (by decide) (fun _ => rfl) r_x225 (by decide) (by decide) (fun x327 t328 r_x327 => ?_)
            refine mw_goto 127 rfl 5 dX10_goesThrough_124 (by decide) ?_
            exact mw_lv [1, 2, 3, 4, 0] rfl (ihn1 x327 x226 s325 (mh_r_wk r_x327 (by decide)) (mh_r_wk r_x226 (by decide)) hI_s325 hF_s325 (by
                have := r_x226.1; have := r_x226.2; have := r_x225.1; have := r_x225.2; have := kc_2; have := kc_0
                have := (r_x327).1; have := (r_x327).2
                have := (r_p1).1; have := (r_p1).2
                have := (r_p2).1; have := (r_p2).2
                have := (r_x226).1; have := (r_x226).2
                have := (r_x286).1; have := (r_x286).2
                have := kc_0
                have := kc_1
                have := kc_2
                have hm : x327.toNatClampNeg - p1.toNatClampNeg = (x225.toNatClampNeg - p1.toNatClampNeg) + 1 := by show x327.toInt.toNat - p1.toInt.toNat = (x225.toInt.toNat - p1.toInt.toNat) + 1; have := iv.1; omega
                refine ⟨by have := iv.1; omega, by have := iv.1; omega, ?_⟩
                have e77 : s325.1 77 = (mh_u1 (s227.1 77) x317.toNatClampNeg x323) := by rw [t326, mh_row_s]
                have e78 : s325.1 78 = (s227.1 78) := by rw [t326, mh_row_n (by decide)]
                have ha : x317.toNatClampNeg = x226.toNatClampNeg - 1 := by show x317.toInt.toNat = x226.toInt.toNat - 1; omega
                rw [hm, e77, e78, t324, t322, ha]
                exact mh_gI_not (c := x286) iv.2.2 (by rw [him]; exact hx9) (by omega) (by omega)) (by have : x327.toInt = x225.toInt + (1) := t328; omega))
        · skip
          have r_x286 : mh_r x286 (3) (2147483647) := mh_lt2 c288 rc_2 (mh_r_full x286) (3) (by decide)
          have r_x226 : mh_r x226 (2) (200) := ⟨by have := kc_2; have := hst.1 (by omega); have := (r_p1).1; have := (r_p1).2; have := (r_p2).1; have := (r_p2).2; have := (r_x226).1; have := (r_x226).2; have := (r_x225).1; have := (r_x225).2; have := (r_x286).1; have := (r_x286).2; have := kc_0; have := kc_1; have := kc_2; omega, by have := kc_2; have := hst.1 (by omega); have := (r_p1).1; have := (r_p1).2; have := (r_p2).1; have := (r_p2).2; have := (r_x226).1; have := (r_x226).2; have := (r_x225).1; have := (r_x225).2; have := (r_x286).1; have := (r_x286).2; have := kc_0; have := kc_1; have := kc_2; omega⟩
          refine mw_iincR (k := 3) (1) (199) 25 rfl (fun z => [(3, .int z), (0, .ref (G.2.2.2 57)), (1, .int p1), (2, .int p2), (4, .int x225)]) dX10_goesThrough_22 rfl (by decide) (fun _ => rfl) r_x226 (by decide) (by decide) (fun x329 t330 r_x329 => ?_)
          refine mw_aload_n 26 rfl 1 dX10_goesThrough_25 rfl rfl ?_
          refine mw_aload_n 27 rfl 1 dX10_goesThrough_26 rfl rfl ?_
          refine mw_geta 30 rfl dX10_goesThrough_27 gf_X10_45 rfl 68 (mh_rf hI_s227 65 rfl) ?_
          refine mw_iload 32 rfl 4 dX10_goesThrough_30  rfl ?_
          refine mw_iald 33 rfl dX10_goesThrough_32 rfl r_x225 (by decide) (fun x331 t332 => ?_)
          obtain rfl : x286 = x331 := t287.trans t332.symm
          refine mw_iload_n 34 rfl 0 dX10_goesThrough_33 rfl rfl ?_
          refine mw_iconst (v := 1) 35 rfl dX10_goesThrough_34 (by decide) ?_
          refine mw_isub 36 rfl (0) (198) dX10_goesThrough_35 r_x329 rc_1 (by decide) (fun x333 t334 r_x333 => ?_)
          refine mw_callVv [.int x286, .int x333] [] 39 rfl dX10_goesThrough_36 ml_X10_333 mc_X10_does mk_X10_does rfl rfl (by decide) (w_X10_does l G (d + 2) ⟨by omega, by omega⟩ hI_s227 x286 x333 (mh_r_wk r_x333 (by decide))) rfl rfl (Nat.le_of_ble_eq_true rfl) (mh_rok (by omega) (by decide)) (fun s336 q337 => ?_)
          obtain ⟨e0_s336, e1_s336, hI_s336, hG_s336⟩ := q337
          have hF_s336 : mh_F S_X10_goesThrough s0 s336 := mh_F_tl hF_s227 hG_s336 (by decide +kernel)
          refine mw_goto 42 rfl 121 dX10_goesThrough_39 (by decide) ?_
          refine mw_iincR (k := 4) (1) (200) 124 rfl (fun z => [(4, .int z), (3, .int x329), (0, .ref (G.2.2.2 57)), (1, .int p1), (2, .int p2)]) dX10_goesThrough_121 rfl (by decide) (fun _ => rfl) r_x225 (by decide) (by decide) (fun x338 t339 r_x338 => ?_)
          refine mw_goto 127 rfl 5 dX10_goesThrough_124 (by decide) ?_
          exact mw_lv [2, 3, 4, 1, 0] rfl (ihn1 x338 x329 s336 (mh_r_wk r_x338 (by decide)) (mh_r_wk r_x329 (by decide)) hI_s336 hF_s336 (by
              have := r_x226.1; have := r_x226.2; have := r_x225.1; have := r_x225.2; have := kc_2; have := kc_0
              have := (r_x338).1; have := (r_x338).2
              have := (r_x329).1; have := (r_x329).2
              have := (r_p1).1; have := (r_p1).2
              have := (r_p2).1; have := (r_p2).2
              have := (r_x286).1; have := (r_x286).2
              have := kc_0
              have := kc_1
              have := kc_2
              have hm : x338.toNatClampNeg - p1.toNatClampNeg = (x225.toNatClampNeg - p1.toNatClampNeg) + 1 := by show x338.toInt.toNat - p1.toInt.toNat = (x225.toInt.toNat - p1.toInt.toNat) + 1; have := iv.1; omega
              refine ⟨by have := iv.1; omega, by have := iv.1; omega, ?_⟩
              have hn : x329.toNatClampNeg = x226.toNatClampNeg - 1 := by show x329.toInt.toNat = x226.toInt.toNat - 1; omega
              have ha : x333.toNatClampNeg = x226.toNatClampNeg - 2 := by show x333.toInt.toNat = x226.toInt.toNat - 2; omega
              rw [hm, hn, e0_s336, e1_s336, ha]
              exact mh_gI_bin (c := x286) iv.2.2 (by rw [him]; exact hx9) (by omega) (by omega)) (by have : x338.toInt = x225.toInt + (1) := t339; omega))
  exact mw_lv [2, 3, 4, 1, 0] rfl (L5 201 p1 (0) s0 r_p1 (mh_r_wk rc_0 (by decide)) hI0 hF0 (by
      have := (r_p1).1; have := (r_p1).2
      have := (rc_0).1; have := (rc_0).2
      have := (r_p2).1; have := (r_p2).2
      have := kc_0
      have := kc_1
      have := kc_2
      refine ⟨by omega, by have := hs.2.1; omega, ?_⟩
      have h8 : p1.toNatClampNeg - p1.toNatClampNeg = 0 := Nat.sub_self _
      rw [h8]
      exact mh_gI_0) (by have := (r_p1).1; have := (r_p1).2; omega))

def S_X10_tellsBy : List (Nat × Nat) := [(78, 9999), (77, 9999)]
def P_X10_tellsBy (B D : Int) (s0 : mh_H) (p1 : Int32) (p2 : Int32) : Int32 → mh_H → Prop := fun z s => mh_r z (0) (999) ∧ (z = mh_tc s0 (mh_vo s0 (s0.1 57 33) (s0.1 57 34) (s0.1 57 35) (s0.1 57 36) (s0.1 57 37)) p1 p2 ((s0.1 57 10).toNatClampNeg) (0)) ∧ (z.toInt ≤ p2.toInt) ∧ mh_I B D s ∧ mh_F S_X10_tellsBy s0 s
set_option maxRecDepth 100000 in
set_option maxHeartbeats 4000000 in
theorem w_X10_tellsBy (l : Launch) (G : mh_G) (d : Nat) {B D : Int} (hB : B ≤ 1900000000 ∧ D ≤ 1900000000) {s0 : mh_H} (hI0 : mh_I B D s0) (p1 : Int32) (r_p1 : mh_r p1 (0) (200)) (p2 : Int32) (r_p2 : mh_r p2 (0) (999)) : mh_Mi l G (d + 5) mM_X10_tellsBy [.ref (G.2.2.2 57), .int p1, .int p2] s0 (P_X10_tellsBy B D s0 p1 p2) := by
  refine mh_enter (lv := [(0, .ref (G.2.2.2 57)), (1, .int p1), (2, .int p2)]) (by decide) rfl (Nat.le_of_ble_eq_true rfl) ?_
  have hF0 : mh_F S_X10_tellsBy s0 s0 := mh_F_rf
  refine mw_iconst (v := 0) 1 rfl dX10_tellsBy_0 (by decide) ?_
  refine mw_istore_n 2 rfl [(3, .int (0)), (0, .ref (G.2.2.2 57)), (1, .int p1), (2, .int p2)] dX10_tellsBy_1 rfl (by decide) rfl ?_
  have L2 : ∀ n1 : Nat, ∀ (x283 : Int32) (s284 : mh_H), mh_r x283 (0) (14) → mh_I B D s284 → mh_F S_X10_tellsBy s0 s284 → (mh_tc s0 (mh_vo s0 (s0.1 57 33) (s0.1 57 34) (s0.1 57 35) (s0.1 57 36) (s0.1 57 37)) p1 p2 ((s0.1 57 10).toNatClampNeg) (0) = mh_tc s0 (mh_vo s0 (s0.1 57 33) (s0.1 57 34) (s0.1 57 35) (s0.1 57 36) (s0.1 57 37)) p1 p2 ((s0.1 57 10).toNatClampNeg - x283.toNatClampNeg) (x283.toNatClampNeg)) → (14) - x283.toInt < (n1 : Int) → mh_W G (mh_XM l G (d + 5) (mh_Qi (P_X10_tellsBy B D s0 p1 p2))) mM_X10_tellsBy 2 [(0, .ref (G.2.2.2 57)), (1, .int p1), (2, .int p2), (3, .int x283)] [] s284 := by
    intro n1
    induction n1 with
    | zero =>
      intro x283 s284 r_x283 hI_s284 hF_s284 iv hmn1
      exact absurd hmn1 (by have := r_x283.1; have := r_x283.2; omega)
    | succ n1 ihn1 =>
      intro x283 s284 r_x283 hI_s284 hF_s284 iv hmn1
      refine mw_iload_n 3 rfl 3 dX10_tellsBy_2 rfl rfl ?_
      refine mw_aload_n 4 rfl 0 dX10_tellsBy_3 rfl rfl ?_
      refine mw_geti 7 rfl dX10_tellsBy_4 gf_X10_298 rfl (fun x312 t313 => ?_)
      have r_x312 : mh_r x312 (0) (14) := by rw [t313]; exact rd_57_10 hI_s284
      refine mw_icmp_ge 10 rfl 126 dX10_tellsBy_7 (by decide) (fun c314 => ?_) (fun c314 => ?_)
      · skip
        refine mw_iconst (v := 0) 127 rfl dX10_tellsBy_126 (by decide) ?_
        refine mw_iret dX10_tellsBy_127 rfl ⟨(0), rfl, ⟨(mh_r_wk rc_0 (by decide)), ?_, ?_, hI_s284, hF_s284⟩⟩
        · skip
          have := (r_p1).1; have := (r_p1).2
          have := (r_p2).1; have := (r_p2).2
          have := (r_x283).1; have := (r_x283).2
          have := (rc_0).1; have := (rc_0).2
          have := (r_x312).1; have := (r_x312).2
          have := kc_0
          have := kc_1
          have hc : x312.toInt = (s0.1 57 10).toInt := by rw [t313]; exact congrArg Int32.toInt (hF_s284 57 10 (mh_nsI rfl)).1
          have hN : (s0.1 57 10).toNatClampNeg = (s0.1 57 10).toInt.toNat := rfl
          have hK : x283.toNatClampNeg = x283.toInt.toNat := rfl
          rw [iv, show (s0.1 57 10).toNatClampNeg - x283.toNatClampNeg = 0 by omega]
          rfl
        · skip
          have := (r_p1).1; have := (r_p1).2
          have := (r_p2).1; have := (r_p2).2
          have := (r_x283).1; have := (r_x283).2
          have := (rc_0).1; have := (rc_0).2
          have := (r_x312).1; have := (r_x312).2
          have := kc_0
          have := kc_1
          omega
      · skip
        have r_x283 : mh_r x283 (0) (13) := mh_lt1 c314 r_x283 r_x312 (13) (by decide)
        have r_x312 : mh_r x312 (1) (14) := mh_lt2 c314 r_x283 r_x312 (1) (by decide)
        refine mw_aload_n 11 rfl 0 dX10_tellsBy_10 rfl rfl ?_
        refine mw_geta 14 rfl dX10_tellsBy_11 gf_X10_33 rfl 64 (mh_rf hI_s284 61 rfl) ?_
        refine mw_iload_n 15 rfl 3 dX10_tellsBy_14 rfl rfl ?_
        refine mw_iald 16 rfl dX10_tellsBy_15 rfl r_x283 (by decide) (fun x315 t316 => ?_)
        refine mw_iload_n 17 rfl 1 dX10_tellsBy_16 rfl rfl ?_
        refine mw_icmp_eq 20 rfl 23 dX10_tellsBy_17 (by decide) (fun c317 => ?_) (fun c317 => ?_)
        · skip
          have r_x315 : mh_r x315 (0) (200) := mh_eq1 c317 (mh_r_full x315) r_p1 (0) (200) (by decide)
          refine mw_aload_n 24 rfl 0 dX10_tellsBy_23 rfl rfl ?_
          refine mw_aload_n 25 rfl 0 dX10_tellsBy_24 rfl rfl ?_
          refine mw_geta 28 rfl dX10_tellsBy_25 gf_X10_39 rfl 66 (mh_rf hI_s284 63 rfl) ?_
          refine mw_iload_n 29 rfl 3 dX10_tellsBy_28 rfl rfl ?_
          refine mw_iald 30 rfl dX10_tellsBy_29 rfl r_x283 (by decide) (fun x318 t319 => ?_)
          have r_x318 : mh_r x318 (0) (200) := by rw [t319]; exact rd_66 hI_s284 _
          refine mw_aload_n 31 rfl 0 dX10_tellsBy_30 rfl rfl ?_
          refine mw_geta 34 rfl dX10_tellsBy_31 gf_X10_42 rfl 67 (mh_rf hI_s284 64 rfl) ?_
          refine mw_iload_n 35 rfl 3 dX10_tellsBy_34 rfl rfl ?_
          refine mw_iald 36 rfl dX10_tellsBy_35 rfl r_x283 (by decide) (fun x320 t321 => ?_)
          have r_x320 : mh_r x320 (0) (200) := by rw [t321]; exact rd_67 hI_s284 _
          refine mw_callVv [.int x318, .int x320] [] 39 rfl dX10_tellsBy_36 ml_X10_339 mc_X10_goesThrough mk_X10_goesThrough rfl rfl (by decide) (w_X10_goesThrough l G (d + 0) ⟨by omega, by omega⟩ hI_s284 x318 r_x318 x320 r_x320 (by have h9 := (hI_s284.2.2 x283.toNatClampNeg (by show ((x283.toInt.toNat : Nat) : Int) < _; rw [← t313]; have := (r_p1).1; have := (r_p1).2; have := (r_p2).1; have := (r_p2).2; have := (r_x283).1; have := (r_x283).2; have := (r_x312).1; have := (r_x312).2; have := (r_x315).1; have := (r_x315).2; have := (r_x318).1; have := (r_x318).2; have := (r_x320).1; have := (r_x320).2; have := kc_0; have := kc_1; omega)).2; rw [← t319, ← t321] at h9; exact h9)) rfl rfl (Nat.le_of_ble_eq_true rfl) (mh_rok (by omega) (by decide)) (fun s323 q324 => ?_)
          obtain ⟨e0_s323, hI_s323, hG_s323⟩ := q324
          have hF_s323 : mh_F S_X10_tellsBy s0 s323 := mh_F_tl hF_s284 hG_s323 (by decide +kernel)
          have hev_s323 := mh_F_ev hF_s284 rfl
          have h33_s323 : s284.1 57 33 = s0.1 57 33 := (hF_s284 57 33 (mh_nsI rfl)).1
          have h34_s323 : s284.1 57 34 = s0.1 57 34 := (hF_s284 57 34 (mh_nsI rfl)).1
          have h35_s323 : s284.1 57 35 = s0.1 57 35 := (hF_s284 57 35 (mh_nsI rfl)).1
          have h36_s323 : s284.1 57 36 = s0.1 57 36 := (hF_s284 57 36 (mh_nsI rfl)).1
          have h37_s323 : s284.1 57 37 = s0.1 57 37 := (hF_s284 57 37 (mh_nsI rfl)).1
          rw [mh_ev_vo hev_s323, h33_s323, h34_s323, h35_s323, h36_s323, h37_s323, hev_s323.1 68 (by decide) (by decide), hev_s323.1 69 (by decide) (by decide)] at e0_s323
          have ha_s323 : x318 = s0.1 66 x283.toNatClampNeg := by rw [t319, hev_s323.1 66 (by decide) (by decide)]
          have hb_s323 : x320 = s0.1 67 x283.toNatClampNeg := by rw [t321, hev_s323.1 67 (by decide) (by decide)]
          rw [ha_s323, hb_s323] at e0_s323
          have hh : mh_hs s0 (mh_vo s0 (s0.1 57 33) (s0.1 57 34) (s0.1 57 35) (s0.1 57 36) (s0.1 57 37)) x283.toNatClampNeg ↔ (s323.1 78 0).toInt = 0 ∧ (s323.1 77 0).toInt = 1 := by rw [e0_s323.1, e0_s323.2]; exact Iff.rfl
          refine mw_aload_n 40 rfl 0 dX10_tellsBy_39 rfl rfl ?_
          refine mw_geta 43 rfl dX10_tellsBy_40 gf_X10_75 rfl 78 (mh_rf hI_s323 75 rfl) ?_
          refine mw_iconst (v := 0) 44 rfl dX10_tellsBy_43 (by decide) ?_
          refine mw_zald 45 rfl dX10_tellsBy_44 rfl rc_0 (by decide) (fun x325 t326 => ?_)
          have r_x325 : mh_r x325 (0) (1) := by rw [t326]; exact rd_78 hI_s323 _
          refine mw_if_ne 48 rfl 120 dX10_tellsBy_45 (by decide) (fun c327 => ?_) (fun c327 => ?_)
          · skip
            have r_x325 : mh_r x325 (1) (1) := mh_ne1 (show x325.toInt ≠ (0 : Int32).toInt from c327) r_x325 rc_0 (1) (1) (by decide)
            refine mw_iincR (k := 3) (1) (14) 123 rfl (fun z => [(3, .int z), (0, .ref (G.2.2.2 57)), (1, .int p1), (2, .int p2)]) dX10_tellsBy_120 rfl (by decide) (fun _ => rfl) r_x283 (by decide) (by decide) (fun x328 t329 r_x328 => ?_)
            refine mw_goto 126 rfl 2 dX10_tellsBy_123 (by decide) ?_
            exact mw_lv [1, 2, 3, 0] rfl (ihn1 x328 s323 (mh_r_wk r_x328 (by decide)) hI_s323 hF_s323 (by
                have := r_x283.1; have := r_x283.2
                have := (r_x328).1; have := (r_x328).2
                have := (r_p1).1; have := (r_p1).2
                have := (r_p2).1; have := (r_p2).2
                have := (r_x312).1; have := (r_x312).2
                have := (r_x315).1; have := (r_x315).2
                have := (r_x318).1; have := (r_x318).2
                have := (r_x320).1; have := (r_x320).2
                have := (r_x325).1; have := (r_x325).2
                have := kc_0
                have := kc_1
                have hc : x312.toInt = (s0.1 57 10).toInt := by rw [t313]; exact congrArg Int32.toInt (hF_s284 57 10 (mh_nsI rfl)).1
                have hN : (s0.1 57 10).toNatClampNeg = (s0.1 57 10).toInt.toNat := rfl
                have hK : x283.toNatClampNeg = x283.toInt.toNat := rfl
                have hk : x328.toNatClampNeg = x283.toNatClampNeg + 1 := by show x328.toInt.toNat = x283.toInt.toNat + 1; omega
                have hM : (s0.1 57 10).toNatClampNeg - x283.toNatClampNeg = ((s0.1 57 10).toNatClampNeg - x328.toNatClampNeg) + 1 := by omega
                have hl : x315.toInt = (s0.1 64 x283.toNatClampNeg).toInt := by rw [t316, mh_F_row hF_s284 64 rfl]
                have hz78 : x325 = s323.1 78 0 := t326
                have := congrArg Int32.toInt hz78
                rw [iv, hM, mh_tc_n (fun q => by have := hh.mp q.2; omega), hk]) (by have : x328.toInt = x283.toInt + (1) := t329; omega))
          · skip
            have r_x325 : mh_r x325 (0) (0) := mh_eq1 (show x325.toInt = (0 : Int32).toInt from c327) r_x325 rc_0 (0) (0) (by decide)
            refine mw_aload_n 49 rfl 0 dX10_tellsBy_48 rfl rfl ?_
            refine mw_geta 52 rfl dX10_tellsBy_49 gf_X10_72 rfl 77 (mh_rf hI_s323 74 rfl) ?_
            refine mw_iconst (v := 0) 53 rfl dX10_tellsBy_52 (by decide) ?_
            refine mw_iald 54 rfl dX10_tellsBy_53 rfl rc_0 (by decide) (fun x330 t331 => ?_)
            refine mw_iconst (v := 1) 55 rfl dX10_tellsBy_54 (by decide) ?_
            refine mw_icmp_eq 58 rfl 61 dX10_tellsBy_55 (by decide) (fun c332 => ?_) (fun c332 => ?_)
            · skip
              have r_x330 : mh_r x330 (1) (1) := mh_eq1 c332 (mh_r_full x330) rc_1 (1) (1) (by decide)
              refine mw_aload_n 62 rfl 0 dX10_tellsBy_61 rfl rfl ?_
              refine mw_aload_n 63 rfl 0 dX10_tellsBy_62 rfl rfl ?_
              refine mw_geta 66 rfl dX10_tellsBy_63 gf_X10_36 rfl 65 (mh_rf hI_s323 62 rfl) ?_
              refine mw_iload_n 67 rfl 3 dX10_tellsBy_66 rfl rfl ?_
              refine mw_iald 68 rfl dX10_tellsBy_67 rfl r_x283 (by decide) (fun x333 t334 => ?_)
              have r_x333 : mh_r x333 (0) (200) := by rw [t334]; exact rd_65 hI_s323 _
              refine mw_aload_n 69 rfl 0 dX10_tellsBy_68 rfl rfl ?_
              refine mw_geta 72 rfl dX10_tellsBy_69 gf_X10_39 rfl 66 (mh_rf hI_s323 63 rfl) ?_
              refine mw_iload_n 73 rfl 3 dX10_tellsBy_72 rfl rfl ?_
              refine mw_iald 74 rfl dX10_tellsBy_73 rfl r_x283 (by decide) (fun x335 t336 => ?_)
              have t337 : x318 = s323.1 66 x283.toNatClampNeg := (t319).trans (hG_s323 66 x283.toNatClampNeg (mh_nsI (by rfl))).1.symm
              obtain rfl : x318 = x335 := t337.trans t336.symm
              have t338 : x312 = s323.1 57 10 := (t313).trans (hG_s323 57 10 (mh_nsI (by rfl))).1.symm
              refine mw_callVv [.int x333, .int x318] [] 77 rfl dX10_tellsBy_74 ml_X10_339 mc_X10_goesThrough mk_X10_goesThrough rfl rfl (by decide) (w_X10_goesThrough l G (d + 0) ⟨by omega, by omega⟩ hI_s323 x333 r_x333 x318 r_x318 (by have h9 := (hI_s323.2.2 x283.toNatClampNeg (by show ((x283.toInt.toNat : Nat) : Int) < _; rw [← t338]; have := (r_p1).1; have := (r_p1).2; have := (r_p2).1; have := (r_p2).2; have := (r_x283).1; have := (r_x283).2; have := (r_x312).1; have := (r_x312).2; have := (r_x315).1; have := (r_x315).2; have := (r_x318).1; have := (r_x318).2; have := (r_x320).1; have := (r_x320).2; have := (r_x325).1; have := (r_x325).2; have := (r_x330).1; have := (r_x330).2; have := (r_x333).1; have := (r_x333).2; have := kc_0; have := kc_1; omega)).1; rw [← t334, ← t337] at h9; exact h9)) rfl rfl (Nat.le_of_ble_eq_true rfl) (mh_rok (by omega) (by decide)) (fun s340 q341 => ?_)
              obtain ⟨e0_s340, hI_s340, hG_s340⟩ := q341
              have hF_s340 : mh_F S_X10_tellsBy s0 s340 := mh_F_tl hF_s323 hG_s340 (by decide +kernel)
              have hev_s340 := mh_F_ev hF_s323 rfl
              have h33_s340 : s323.1 57 33 = s0.1 57 33 := (hF_s323 57 33 (mh_nsI rfl)).1
              have h34_s340 : s323.1 57 34 = s0.1 57 34 := (hF_s323 57 34 (mh_nsI rfl)).1
              have h35_s340 : s323.1 57 35 = s0.1 57 35 := (hF_s323 57 35 (mh_nsI rfl)).1
              have h36_s340 : s323.1 57 36 = s0.1 57 36 := (hF_s323 57 36 (mh_nsI rfl)).1
              have h37_s340 : s323.1 57 37 = s0.1 57 37 := (hF_s323 57 37 (mh_nsI rfl)).1
              rw [mh_ev_vo hev_s340, h33_s340, h34_s340, h35_s340, h36_s340, h37_s340, hev_s340.1 68 (by decide) (by decide), hev_s340.1 69 (by decide) (by decide)] at e0_s340
              have ha_s340 : x333 = s0.1 65 x283.toNatClampNeg := by rw [t334, hev_s340.1 65 (by decide) (by decide)]
              have hb_s340 : x318 = s0.1 66 x283.toNatClampNeg := by rw [t337, hev_s340.1 66 (by decide) (by decide)]
              rw [ha_s340, hb_s340] at e0_s340
              have hv : mh_wv s0 (mh_vo s0 (s0.1 57 33) (s0.1 57 34) (s0.1 57 35) (s0.1 57 36) (s0.1 57 37)) x283.toNatClampNeg = if (s340.1 78 0).toInt = 0 then s340.1 77 0 else 0 := by rw [e0_s340.1, e0_s340.2]; rfl
              refine mw_aload_n 78 rfl 0 dX10_tellsBy_77 rfl rfl ?_
              refine mw_geta 81 rfl dX10_tellsBy_78 gf_X10_75 rfl 78 (mh_rf hI_s340 75 rfl) ?_
              refine mw_iconst (v := 0) 82 rfl dX10_tellsBy_81 (by decide) ?_
              refine mw_zald 83 rfl dX10_tellsBy_82 rfl rc_0 (by decide) (fun x342 t343 => ?_)
              have r_x342 : mh_r x342 (0) (1) := by rw [t343]; exact rd_78 hI_s340 _
              refine mw_if_eq 86 rfl 90 dX10_tellsBy_83 (by decide) (fun c344 => ?_) (fun c344 => ?_)
              · skip
                have r_x342 : mh_r x342 (0) (0) := mh_eq1 (show x342.toInt = (0 : Int32).toInt from c344) r_x342 rc_0 (0) (0) (by decide)
                refine mw_aload_n 91 rfl 0 dX10_tellsBy_90 rfl rfl ?_
                refine mw_geta 94 rfl dX10_tellsBy_91 gf_X10_72 rfl 77 (mh_rf hI_s340 74 rfl) ?_
                refine mw_iconst (v := 0) 95 rfl dX10_tellsBy_94 (by decide) ?_
                refine mw_iald 96 rfl dX10_tellsBy_95 rfl rc_0 (by decide) (fun x345 t346 => ?_)
                refine mw_istore 98 rfl [(4, .int x345), (0, .ref (G.2.2.2 57)), (1, .int p1), (2, .int p2), (3, .int x283)] dX10_tellsBy_96  (by decide) rfl ?_
                refine mw_iload 100 rfl 0 dX10_tellsBy_98  rfl ?_
                refine mw_if_ge 103 rfl 107 dX10_tellsBy_100 (by decide) (fun c347 => ?_) (fun c347 => ?_)
                · skip
                  have r_x345 : mh_r x345 (0) (2147483647) := mh_le2 (show (0 : Int32).toInt ≤ x345.toInt from c347) rc_0 (mh_r_full x345) (0) (by decide)
                  refine mw_iload 109 rfl 0 dX10_tellsBy_107  rfl ?_
                  refine mw_iload_n 110 rfl 3 dX10_tellsBy_109 rfl rfl ?_
                  refine mw_icmp_le 113 rfl 117 dX10_tellsBy_110 (by decide) (fun c348 => ?_) (fun c348 => ?_)
                  · skip
                    have r_x345 : mh_r x345 (0) (999) := mh_le1 c348 r_x345 r_p2 (999) (by decide)
                    refine mw_iload 119 rfl 0 dX10_tellsBy_117  rfl ?_
                    refine mw_iret dX10_tellsBy_119 rfl ⟨x345, rfl, ⟨r_x345, ?_, ?_, hI_s340, hF_s340⟩⟩
                    · skip
                      have := (r_x345).1; have := (r_x345).2
                      have := (r_p1).1; have := (r_p1).2
                      have := (r_p2).1; have := (r_p2).2
                      have := (r_x283).1; have := (r_x283).2
                      have := (r_x312).1; have := (r_x312).2
                      have := (r_x315).1; have := (r_x315).2
                      have := (r_x318).1; have := (r_x318).2
                      have := (r_x320).1; have := (r_x320).2
                      have := (r_x325).1; have := (r_x325).2
                      have := (r_x330).1; have := (r_x330).2
                      have := (r_x333).1; have := (r_x333).2
                      have := (r_x342).1; have := (r_x342).2
                      have := kc_0
                      have := kc_1
                      have hc : x312.toInt = (s0.1 57 10).toInt := by rw [t313]; exact congrArg Int32.toInt (hF_s284 57 10 (mh_nsI rfl)).1
                      have hN : (s0.1 57 10).toNatClampNeg = (s0.1 57 10).toInt.toNat := rfl
                      have hK : x283.toNatClampNeg = x283.toInt.toNat := rfl
                      have hl : (s0.1 64 x283.toNatClampNeg).toInt = p1.toInt := by rw [← mh_F_row hF_s284 64 rfl, ← t316]; omega
                      have hy : mh_hs s0 (mh_vo s0 (s0.1 57 33) (s0.1 57 34) (s0.1 57 35) (s0.1 57 36) (s0.1 57 37)) x283.toNatClampNeg := hh.mpr (by
                        have hz78 : x325 = s323.1 78 0 := t326
                        have := congrArg Int32.toInt hz78
                        have hz77 : x330 = s323.1 77 0 := t331
                        have := congrArg Int32.toInt hz77
                        omega)
                      have hM : (s0.1 57 10).toNatClampNeg - x283.toNatClampNeg = ((s0.1 57 10).toNatClampNeg - x283.toNatClampNeg - 1) + 1 := by omega
                      have hz78 : x342 = s340.1 78 0 := t343
                      have := congrArg Int32.toInt hz78
                      have hz77 : x345 = s340.1 77 0 := t346
                      have := congrArg Int32.toInt hz77
                      first | rw [if_pos (by omega)] at hv | rw [if_neg (by omega)] at hv
                      rw [iv, hM, mh_tc_y hl hy, hv]
                      try rw [← hz77]
                      unfold mh_cl
                      repeat (first | rw [if_pos (by omega)] | rw [if_neg (by omega)])
                      first | done | rfl
                    · skip
                      have := (r_x345).1; have := (r_x345).2
                      have := (r_p1).1; have := (r_p1).2
                      have := (r_p2).1; have := (r_p2).2
                      have := (r_x283).1; have := (r_x283).2
                      have := (r_x312).1; have := (r_x312).2
                      have := (r_x315).1; have := (r_x315).2
                      have := (r_x318).1; have := (r_x318).2
                      have := (r_x320).1; have := (r_x320).2
                      have := (r_x325).1; have := (r_x325).2
                      have := (r_x330).1; have := (r_x330).2
                      have := (r_x333).1; have := (r_x333).2
                      have := (r_x342).1; have := (r_x342).2
                      have := kc_0
                      have := kc_1
                      omega
                  · skip
                    have r_x345 : mh_r x345 (1) (2147483647) := mh_lt2 c348 r_p2 r_x345 (1) (by decide)
                    refine mw_iload_n 114 rfl 3 dX10_tellsBy_113 rfl rfl ?_
                    refine mw_goto 117 rfl 119 dX10_tellsBy_114 (by decide) ?_
                    refine mw_iret dX10_tellsBy_119 rfl ⟨p2, rfl, ⟨r_p2, ?_, ?_, hI_s340, hF_s340⟩⟩
                    · skip
                      have := (r_x345).1; have := (r_x345).2
                      have := (r_p1).1; have := (r_p1).2
                      have := (r_p2).1; have := (r_p2).2
                      have := (r_x283).1; have := (r_x283).2
                      have := (r_x312).1; have := (r_x312).2
                      have := (r_x315).1; have := (r_x315).2
                      have := (r_x318).1; have := (r_x318).2
                      have := (r_x320).1; have := (r_x320).2
                      have := (r_x325).1; have := (r_x325).2
                      have := (r_x330).1; have := (r_x330).2
                      have := (r_x333).1; have := (r_x333).2
                      have := (r_x342).1; have := (r_x342).2
                      have := kc_0
                      have := kc_1
                      have hc : x312.toInt = (s0.1 57 10).toInt := by rw [t313]; exact congrArg Int32.toInt (hF_s284 57 10 (mh_nsI rfl)).1
                      have hN : (s0.1 57 10).toNatClampNeg = (s0.1 57 10).toInt.toNat := rfl
                      have hK : x283.toNatClampNeg = x283.toInt.toNat := rfl
                      have hl : (s0.1 64 x283.toNatClampNeg).toInt = p1.toInt := by rw [← mh_F_row hF_s284 64 rfl, ← t316]; omega
                      have hy : mh_hs s0 (mh_vo s0 (s0.1 57 33) (s0.1 57 34) (s0.1 57 35) (s0.1 57 36) (s0.1 57 37)) x283.toNatClampNeg := hh.mpr (by
                        have hz78 : x325 = s323.1 78 0 := t326
                        have := congrArg Int32.toInt hz78
                        have hz77 : x330 = s323.1 77 0 := t331
                        have := congrArg Int32.toInt hz77
                        omega)
                      have hM : (s0.1 57 10).toNatClampNeg - x283.toNatClampNeg = ((s0.1 57 10).toNatClampNeg - x283.toNatClampNeg - 1) + 1 := by omega
                      have hz78 : x342 = s340.1 78 0 := t343
                      have := congrArg Int32.toInt hz78
                      have hz77 : x345 = s340.1 77 0 := t346
                      have := congrArg Int32.toInt hz77
                      first | rw [if_pos (by omega)] at hv | rw [if_neg (by omega)] at hv
                      rw [iv, hM, mh_tc_y hl hy, hv]
                      try rw [← hz77]
                      unfold mh_cl
                      repeat (first | rw [if_pos (by omega)] | rw [if_neg (by omega)])
                      first | done | rfl
                    · skip
                      have := (r_x345).1; have := (r_x345).2
                      have := (r_p1).1; have := (r_p1).2
                      have := (r_p2).1; have := (r_p2).2
                      have := (r_x283).1; have := (r_x283).2
                      have := (r_x312).1; have := (r_x312).2
                      have := (r_x315).1; have := (r_x315).2
                      have := (r_x318).1; have := (r_x318).2
                      have := (r_x320).1; have := (r_x320).2
                      have := (r_x325).1; have := (r_x325).2
                      have := (r_x330).1; have := (r_x330).2
                      have := (r_x333).1; have := (r_x333).2
                      have := (r_x342).1; have := (r_x342).2
                      have := kc_0
                      have := kc_1
                      omega
                · skip
                  have r_x345 : mh_r x345 (-2147483648) (-1) := mh_lt1 (show x345.toInt < (0 : Int32).toInt from c347) (mh_r_full x345) rc_0 (-1) (by decide)
                  refine mw_iconst (v := 0) 104 rfl dX10_tellsBy_103 (by decide) ?_
                  refine mw_goto 107 rfl 119 dX10_tellsBy_104 (by decide) ?_
                  refine mw_iret dX10_tellsBy_119 rfl ⟨(0), rfl, ⟨(mh_r_wk rc_0 (by decide)), ?_, ?_, hI_s340, hF_s340⟩⟩
                  · skip
                    have := (r_x345).1; have := (r_x345).2
                    have := (r_p1).1; have := (r_p1).2
                    have := (r_p2).1; have := (r_p2).2
                    have := (r_x283).1; have := (r_x283).2
                    have := (rc_0).1; have := (rc_0).2
                    have := (r_x312).1; have := (r_x312).2
                    have := (r_x315).1; have := (r_x315).2
                    have := (r_x318).1; have := (r_x318).2
                    have := (r_x320).1; have := (r_x320).2
                    have := (r_x325).1; have := (r_x325).2
                    have := (r_x330).1; have := (r_x330).2
                    have := (r_x333).1; have := (r_x333).2
                    have := (r_x342).1; have := (r_x342).2
                    have := kc_0
                    have := kc_1
                    have hc : x312.toInt = (s0.1 57 10).toInt := by rw [t313]; exact congrArg Int32.toInt (hF_s284 57 10 (mh_nsI rfl)).1
                    have hN : (s0.1 57 10).toNatClampNeg = (s0.1 57 10).toInt.toNat := rfl
                    have hK : x283.toNatClampNeg = x283.toInt.toNat := rfl
                    have hl : (s0.1 64 x283.toNatClampNeg).toInt = p1.toInt := by rw [← mh_F_row hF_s284 64 rfl, ← t316]; omega
                    have hy : mh_hs s0 (mh_vo s0 (s0.1 57 33) (s0.1 57 34) (s0.1 57 35) (s0.1 57 36) (s0.1 57 37)) x283.toNatClampNeg := hh.mpr (by
                      have hz78 : x325 = s323.1 78 0 := t326
                      have := congrArg Int32.toInt hz78
                      have hz77 : x330 = s323.1 77 0 := t331
                      have := congrArg Int32.toInt hz77
                      omega)
                    have hM : (s0.1 57 10).toNatClampNeg - x283.toNatClampNeg = ((s0.1 57 10).toNatClampNeg - x283.toNatClampNeg - 1) + 1 := by omega
                    have hz78 : x342 = s340.1 78 0 := t343
                    have := congrArg Int32.toInt hz78
                    have hz77 : x345 = s340.1 77 0 := t346
                    have := congrArg Int32.toInt hz77
                    first | rw [if_pos (by omega)] at hv | rw [if_neg (by omega)] at hv
                    rw [iv, hM, mh_tc_y hl hy, hv]
                    try rw [← hz77]
                    unfold mh_cl
                    repeat (first | rw [if_pos (by omega)] | rw [if_neg (by omega)])
                    first | done | rfl
                  · skip
                    have := (r_x345).1; have := (r_x345).2
                    have := (r_p1).1; have := (r_p1).2
                    have := (r_p2).1; have := (r_p2).2
                    have := (r_x283).1; have := (r_x283).2
                    have := (rc_0).1; have := (rc_0).2
                    have := (r_x312).1; have := (r_x312).2
                    have := (r_x315).1; have := (r_x315).2
                    have := (r_x318).1; have := (r_x318).2
                    have := (r_x320).1; have := (r_x320).2
                    have := (r_x325).1; have := (r_x325).2
                    have := (r_x330).1; have := (r_x330).2
                    have := (r_x333).1; have := (r_x333).2
                    have := (r_x342).1; have := (r_x342).2
                    have := kc_0
                    have := kc_1
                    omega
              · skip
                have r_x342 : mh_r x342 (1) (1) := mh_ne1 (show x342.toInt ≠ (0 : Int32).toInt from c344) r_x342 rc_0 (1) (1) (by decide)
                refine mw_iconst (v := 0) 87 rfl dX10_tellsBy_86 (by decide) ?_
                refine mw_goto 90 rfl 96 dX10_tellsBy_87 (by decide) ?_
                refine mw_istore 98 rfl [(4, .int (0)), (0, .ref (G.2.2.2 57)), (1, .int p1), (2, .int p2), (3, .int x283)] dX10_tellsBy_96  (by decide) rfl ?_
                refine mw_iload 100 rfl 0 dX10_tellsBy_98  rfl ?_
                refine mw_if_ge 103 rfl 107 dX10_tellsBy_100 (by decide) (fun c349 => ?_) (fun c349 => ?_)
                · skip
                  refine mw_iload 109 rfl 0 dX10_tellsBy_107  rfl ?_
                  refine mw_iload_n 110 rfl 3 dX10_tellsBy_109 rfl rfl ?_
                  refine mw_icmp_le 113 rfl 117 dX10_tellsBy_110 (by decide) (fun c350 => ?_) (fun c350 => ?_)
                  · skip
                    refine mw_iload 119 rfl 0 dX10_tellsBy_117  rfl ?_
                    refine mw_iret dX10_tellsBy_119 rfl ⟨(0), rfl, ⟨(mh_r_wk rc_0 (by decide)), ?_, ?_, hI_s340, hF_s340⟩⟩
                    · skip
                      have := (rc_0).1; have := (rc_0).2
                      have := (r_p1).1; have := (r_p1).2
                      have := (r_p2).1; have := (r_p2).2
                      have := (r_x283).1; have := (r_x283).2
                      have := (r_x312).1; have := (r_x312).2
                      have := (r_x315).1; have := (r_x315).2
                      have := (r_x318).1; have := (r_x318).2
                      have := (r_x320).1; have := (r_x320).2
                      have := (r_x325).1; have := (r_x325).2
                      have := (r_x330).1; have := (r_x330).2
                      have := (r_x333).1; have := (r_x333).2
                      have := (r_x342).1; have := (r_x342).2
                      have := kc_0
                      have := kc_1
                      have hc : x312.toInt = (s0.1 57 10).toInt := by rw [t313]; exact congrArg Int32.toInt (hF_s284 57 10 (mh_nsI rfl)).1
                      have hN : (s0.1 57 10).toNatClampNeg = (s0.1 57 10).toInt.toNat := rfl
                      have hK : x283.toNatClampNeg = x283.toInt.toNat := rfl
                      have hl : (s0.1 64 x283.toNatClampNeg).toInt = p1.toInt := by rw [← mh_F_row hF_s284 64 rfl, ← t316]; omega
                      have hy : mh_hs s0 (mh_vo s0 (s0.1 57 33) (s0.1 57 34) (s0.1 57 35) (s0.1 57 36) (s0.1 57 37)) x283.toNatClampNeg := hh.mpr (by
                        have hz78 : x325 = s323.1 78 0 := t326
                        have := congrArg Int32.toInt hz78
                        have hz77 : x330 = s323.1 77 0 := t331
                        have := congrArg Int32.toInt hz77
                        omega)
                      have hM : (s0.1 57 10).toNatClampNeg - x283.toNatClampNeg = ((s0.1 57 10).toNatClampNeg - x283.toNatClampNeg - 1) + 1 := by omega
                      have hz78 : x342 = s340.1 78 0 := t343
                      have := congrArg Int32.toInt hz78
                      first | rw [if_pos (by omega)] at hv | rw [if_neg (by omega)] at hv
                      rw [iv, hM, mh_tc_y hl hy, hv]
                      try rw [← hz77]
                      unfold mh_cl
                      repeat (first | rw [if_pos (by omega)] | rw [if_neg (by omega)])
                      first | done | rfl
                    · skip
                      have := (rc_0).1; have := (rc_0).2
                      have := (r_p1).1; have := (r_p1).2
                      have := (r_p2).1; have := (r_p2).2
                      have := (r_x283).1; have := (r_x283).2
                      have := (r_x312).1; have := (r_x312).2
                      have := (r_x315).1; have := (r_x315).2
                      have := (r_x318).1; have := (r_x318).2
                      have := (r_x320).1; have := (r_x320).2
                      have := (r_x325).1; have := (r_x325).2
                      have := (r_x330).1; have := (r_x330).2
                      have := (r_x333).1; have := (r_x333).2
                      have := (r_x342).1; have := (r_x342).2
                      have := kc_0
                      have := kc_1
                      omega
                  · skip
                    exact (mh_nlt c350 r_p2 rc_0 (by decide)).elim
                · skip
                  exact (mh_nlt (show (0 : Int32).toInt < (0 : Int32).toInt from c349) rc_0 rc_0 (by decide)).elim
            · skip
              refine mw_goto 61 rfl 120 dX10_tellsBy_58 (by decide) ?_
              refine mw_iincR (k := 3) (1) (14) 123 rfl (fun z => [(3, .int z), (0, .ref (G.2.2.2 57)), (1, .int p1), (2, .int p2)]) dX10_tellsBy_120 rfl (by decide) (fun _ => rfl) r_x283 (by decide) (by decide) (fun x351 t352 r_x351 => ?_)
              refine mw_goto 126 rfl 2 dX10_tellsBy_123 (by decide) ?_
              exact mw_lv [1, 2, 3, 0] rfl (ihn1 x351 s323 (mh_r_wk r_x351 (by decide)) hI_s323 hF_s323 (by
                  have := r_x283.1; have := r_x283.2
                  have := (r_x351).1; have := (r_x351).2
                  have := (r_p1).1; have := (r_p1).2
                  have := (r_p2).1; have := (r_p2).2
                  have := (r_x312).1; have := (r_x312).2
                  have := (r_x315).1; have := (r_x315).2
                  have := (r_x318).1; have := (r_x318).2
                  have := (r_x320).1; have := (r_x320).2
                  have := (r_x325).1; have := (r_x325).2
                  have := kc_0
                  have := kc_1
                  have hc : x312.toInt = (s0.1 57 10).toInt := by rw [t313]; exact congrArg Int32.toInt (hF_s284 57 10 (mh_nsI rfl)).1
                  have hN : (s0.1 57 10).toNatClampNeg = (s0.1 57 10).toInt.toNat := rfl
                  have hK : x283.toNatClampNeg = x283.toInt.toNat := rfl
                  have hk : x351.toNatClampNeg = x283.toNatClampNeg + 1 := by show x351.toInt.toNat = x283.toInt.toNat + 1; omega
                  have hM : (s0.1 57 10).toNatClampNeg - x283.toNatClampNeg = ((s0.1 57 10).toNatClampNeg - x351.toNatClampNeg) + 1 := by omega
                  have hl : x315.toInt = (s0.1 64 x283.toNatClampNeg).toInt := by rw [t316, mh_F_row hF_s284 64 rfl]
                  have hz78 : x325 = s323.1 78 0 := t326
                  have := congrArg Int32.toInt hz78
                  have hz77 : x330 = s323.1 77 0 := t331
                  have := congrArg Int32.toInt hz77
                  rw [iv, hM, mh_tc_n (fun q => by have := hh.mp q.2; omega), hk]) (by have : x351.toInt = x283.toInt + (1) := t352; omega))
        · skip
          refine mw_goto 23 rfl 120 dX10_tellsBy_20 (by decide) ?_
          refine mw_iincR (k := 3) (1) (14) 123 rfl (fun z => [(3, .int z), (0, .ref (G.2.2.2 57)), (1, .int p1), (2, .int p2)]) dX10_tellsBy_120 rfl (by decide) (fun _ => rfl) r_x283 (by decide) (by decide) (fun x353 t354 r_x353 => ?_)
          refine mw_goto 126 rfl 2 dX10_tellsBy_123 (by decide) ?_
          exact mw_lv [1, 2, 3, 0] rfl (ihn1 x353 s284 (mh_r_wk r_x353 (by decide)) hI_s284 hF_s284 (by
              have := r_x283.1; have := r_x283.2
              have := (r_x353).1; have := (r_x353).2
              have := (r_p1).1; have := (r_p1).2
              have := (r_p2).1; have := (r_p2).2
              have := (r_x312).1; have := (r_x312).2
              have := kc_0
              have := kc_1
              have hc : x312.toInt = (s0.1 57 10).toInt := by rw [t313]; exact congrArg Int32.toInt (hF_s284 57 10 (mh_nsI rfl)).1
              have hN : (s0.1 57 10).toNatClampNeg = (s0.1 57 10).toInt.toNat := rfl
              have hK : x283.toNatClampNeg = x283.toInt.toNat := rfl
              have hk : x353.toNatClampNeg = x283.toNatClampNeg + 1 := by show x353.toInt.toNat = x283.toInt.toNat + 1; omega
              have hM : (s0.1 57 10).toNatClampNeg - x283.toNatClampNeg = ((s0.1 57 10).toNatClampNeg - x353.toNatClampNeg) + 1 := by omega
              have hl : x315.toInt = (s0.1 64 x283.toNatClampNeg).toInt := by rw [t316, mh_F_row hF_s284 64 rfl]
              rw [iv, hM, mh_tc_n (fun q => by have := q.1; omega), hk]) (by have : x353.toInt = x283.toInt + (1) := t354; omega))
  exact mw_lv [1, 2, 3, 0] rfl (L2 15 (0) s0 (mh_r_wk rc_0 (by decide)) hI0 hF0 (by
      show _ = mh_tc s0 (mh_vo s0 (s0.1 57 33) (s0.1 57 34) (s0.1 57 35) (s0.1 57 36) (s0.1 57 37)) p1 p2 ((s0.1 57 10).toNatClampNeg - 0) (0)
      rw [Nat.sub_zero]) (by have := (rc_0).1; have := (rc_0).2; omega))

def S_X10_byCell : List (Nat × Nat) := [(57, 33), (57, 34), (57, 35), (57, 36), (57, 37), (78, 9999), (77, 9999)]
def P_X10_byCell (B D : Int) (s0 : mh_H) (p1 : Int32) (p2 : Int32) (p3 : Int32) (p4 : Int32) : Int32 → mh_H → Prop := fun z s => mh_r z (0) (999) ∧ (z = mh_by s0 p1 p2 p3 p4) ∧ (z.toInt ≤ p4.toInt) ∧ mh_I B D s ∧ mh_F S_X10_byCell s0 s
set_option maxRecDepth 100000 in
set_option maxHeartbeats 4000000 in
theorem w_X10_byCell (l : Launch) (G : mh_G) (d : Nat) {B D : Int} (hB : B ≤ 1880000000 ∧ D ≤ 1880000000) {s0 : mh_H} (hI0 : mh_I B D s0) (p1 : Int32) (r_p1 : mh_r p1 (0) (200)) (p2 : Int32) (r_p2 : mh_r p2 (0) (143)) (p3 : Int32) (r_p3 : mh_r p3 (0) (99)) (p4 : Int32) (r_p4 : mh_r p4 (0) (999)) : mh_Mi l G (d + 6) mM_X10_byCell [.ref (G.2.2.2 57), .int p1, .int p2, .int p3, .int p4] s0 (P_X10_byCell B D s0 p1 p2 p3 p4) := by
  refine mh_enter (lv := [(0, .ref (G.2.2.2 57)), (1, .int p1), (2, .int p2), (3, .int p3), (4, .int p4)]) (by decide) rfl (Nat.le_of_ble_eq_true rfl) ?_
  have hF0 : mh_F S_X10_byCell s0 s0 := mh_F_rf
  refine mw_aload_n 1 rfl 0 dX10_byCell_0 rfl rfl ?_
  refine mw_iload_n 2 rfl 2 dX10_byCell_1 rfl rfl ?_
  refine mw_puti 5 rfl dX10_byCell_2 pf_X10_304 rfl (fun s14 t15 => ?_)
  have hI_s14 : mh_I B D s14 := by rw [t15]; exact wr_57_33 hI0 (mh_r_wk r_p2 (by decide))
  have hF_s14 : mh_F S_X10_byCell s0 s14 := by rw [t15]; exact mh_F_pI hF0 (mh_sj 0 rfl)
  refine mw_aload_n 6 rfl 0 dX10_byCell_5 rfl rfl ?_
  refine mw_iload_n 7 rfl 3 dX10_byCell_6 rfl rfl ?_
  refine mw_puti 10 rfl dX10_byCell_7 pf_X10_314 rfl (fun s16 t17 => ?_)
  have hI_s16 : mh_I B D s16 := by rw [t17]; exact wr_57_34 hI_s14
  have hF_s16 : mh_F S_X10_byCell s0 s16 := by rw [t17]; exact mh_F_pI hF_s14 (mh_sj 1 rfl)
  refine mw_aload_n 11 rfl 0 dX10_byCell_10 rfl rfl ?_
  refine mw_iconst (v := 0) 12 rfl dX10_byCell_11 (by decide) ?_
  refine mw_puti 15 rfl dX10_byCell_12 pf_X10_317 rfl (fun s18 t19 => ?_)
  have hI_s18 : mh_I B D s18 := by rw [t19]; exact wr_57_35 hI_s16
  have hF_s18 : mh_F S_X10_byCell s0 s18 := by rw [t19]; exact mh_F_pI hF_s16 (mh_sj 2 rfl)
  refine mw_aload_n 16 rfl 0 dX10_byCell_15 rfl rfl ?_
  refine mw_iconst (v := 0) 17 rfl dX10_byCell_16 (by decide) ?_
  refine mw_puti 20 rfl dX10_byCell_17 pf_X10_320 rfl (fun s20 t21 => ?_)
  have hI_s20 : mh_I B D s20 := by rw [t21]; exact wr_57_36 hI_s18
  have hF_s20 : mh_F S_X10_byCell s0 s20 := by rw [t21]; exact mh_F_pI hF_s18 (mh_sj 3 rfl)
  refine mw_aload_n 21 rfl 0 dX10_byCell_20 rfl rfl ?_
  refine mw_iconst (v := 0) 22 rfl dX10_byCell_21 (by decide) ?_
  refine mw_puti 25 rfl dX10_byCell_22 pf_X10_323 rfl (fun s22 t23 => ?_)
  have hI_s22 : mh_I B D s22 := by rw [t23]; exact wr_57_37 hI_s20
  have hF_s22 : mh_F S_X10_byCell s0 s22 := by rw [t23]; exact mh_F_pI hF_s20 (mh_sj 4 rfl)
  refine mw_aload_n 26 rfl 0 dX10_byCell_25 rfl rfl ?_
  refine mw_iload_n 27 rfl 1 dX10_byCell_26 rfl rfl ?_
  refine mw_iload 29 rfl 4 dX10_byCell_27  rfl ?_
  refine mw_callVi [.int p1, .int p4] [] 32 rfl dX10_byCell_29 ml_X10_342 mc_X10_tellsBy mk_X10_tellsBy rfl rfl (by decide) (w_X10_tellsBy l G (d + 0) ⟨by omega, by omega⟩ hI_s22 p1 r_p1 p4 r_p4) rfl rfl (Nat.le_of_ble_eq_true rfl) (mh_rok (by omega) (by decide)) (fun x24 s25 q26 => ?_)
  obtain ⟨r_x24, e0_s25, e1_s25, hI_s25, hG_s25⟩ := q26
  have hF_s25 : mh_F S_X10_byCell s0 s25 := mh_F_tl hF_s22 hG_s25 (by decide +kernel)
  refine mw_iret dX10_byCell_32 rfl ⟨x24, rfl, ⟨r_x24, ?_, ?_, hI_s25, hF_s25⟩⟩
  · skip
    have t27 : p2 = s14.1 57 33 := by rw [t15]; exact mh_pI_s.symm
    have t28 : p2 = s16.1 57 33 := by rw [t17]; exact (t27).trans (mh_pI_n (by omega)).symm
    have t29 : p2 = s18.1 57 33 := by rw [t19]; exact (t28).trans (mh_pI_n (by omega)).symm
    have t30 : p2 = s20.1 57 33 := by rw [t21]; exact (t29).trans (mh_pI_n (by omega)).symm
    have t31 : p2 = s22.1 57 33 := by rw [t23]; exact (t30).trans (mh_pI_n (by omega)).symm
    have t32 : p3 = s16.1 57 34 := by rw [t17]; exact mh_pI_s.symm
    have t33 : p3 = s18.1 57 34 := by rw [t19]; exact (t32).trans (mh_pI_n (by omega)).symm
    have t34 : p3 = s20.1 57 34 := by rw [t21]; exact (t33).trans (mh_pI_n (by omega)).symm
    have t35 : p3 = s22.1 57 34 := by rw [t23]; exact (t34).trans (mh_pI_n (by omega)).symm
    have t36 : (0) = s18.1 57 35 := by rw [t19]; exact mh_pI_s.symm
    have t37 : (0) = s20.1 57 35 := by rw [t21]; exact (t36).trans (mh_pI_n (by omega)).symm
    have t38 : (0) = s22.1 57 35 := by rw [t23]; exact (t37).trans (mh_pI_n (by omega)).symm
    have t39 : (0) = s20.1 57 36 := by rw [t21]; exact mh_pI_s.symm
    have t40 : (0) = s22.1 57 36 := by rw [t23]; exact (t39).trans (mh_pI_n (by omega)).symm
    have t41 : (0) = s22.1 57 37 := by rw [t23]; exact mh_pI_s.symm
    have hev := mh_F_ev hF_s22 rfl
    rw [e0_s25]
    unfold mh_by
    rw [mh_ev_tc hev, mh_ev_vo hev, hev.2.2]
    rw [← t31]
    rw [← t35]
    rw [← t38]
    rw [← t40]
    rw [← t41]
  · skip
    exact e1_s25

def S_X10_mistAt : List (Nat × Nat) := [(57, 33), (57, 34), (57, 35), (57, 36), (57, 37), (78, 9999), (77, 9999)]
def P_X10_mistAt (B D : Int) (s0 : mh_H) (p1 : Int32) : Int32 → mh_H → Prop := fun z s => mh_r z (0) (99) ∧ (z = mh_by s0 109 p1 0 99) ∧ mh_I B D s ∧ mh_F S_X10_mistAt s0 s
set_option maxRecDepth 100000 in
set_option maxHeartbeats 4000000 in
theorem w_X10_mistAt (l : Launch) (G : mh_G) (d : Nat) {B D : Int} (hB : B ≤ 1860000000 ∧ D ≤ 1860000000) {s0 : mh_H} (hI0 : mh_I B D s0) (p1 : Int32) (r_p1 : mh_r p1 (0) (143)) : mh_Mi l G (d + 7) mM_X10_mistAt [.ref (G.2.2.2 57), .int p1] s0 (P_X10_mistAt B D s0 p1) := by
  refine mh_enter (lv := [(0, .ref (G.2.2.2 57)), (1, .int p1)]) (by decide) rfl (Nat.le_of_ble_eq_true rfl) ?_
  have hF0 : mh_F S_X10_mistAt s0 s0 := mh_F_rf
  refine mw_aload_n 1 rfl 0 dX10_mistAt_0 rfl rfl ?_
  refine mw_bipush (v := 109) 3 rfl dX10_mistAt_1 (by decide) ?_
  refine mw_iload_n 4 rfl 1 dX10_mistAt_3 rfl rfl ?_
  refine mw_iconst (v := 0) 5 rfl dX10_mistAt_4 (by decide) ?_
  refine mw_bipush (v := 99) 7 rfl dX10_mistAt_5 (by decide) ?_
  refine mw_callVi [.int (109), .int p1, .int (0), .int (99)] [] 10 rfl dX10_mistAt_7 ml_X10_345 mc_X10_byCell mk_X10_byCell rfl rfl (by decide) (w_X10_byCell l G (d + 0) ⟨by omega, by omega⟩ hI0 (109) (mh_r_wk rc_109 (by decide)) p1 r_p1 (0) (mh_r_wk rc_0 (by decide)) (99) (mh_r_wk rc_99 (by decide))) rfl rfl (Nat.le_of_ble_eq_true rfl) (mh_rok (by omega) (by decide)) (fun x4 s5 q6 => ?_)
  obtain ⟨r_x4, e0_s5, e1_s5, hI_s5, hG_s5⟩ := q6
  have hF_s5 : mh_F S_X10_mistAt s0 s5 := mh_F_tl hF0 hG_s5 (by decide +kernel)
  have r_x4 : mh_r x4 (0) (99) := ⟨(r_x4).1, by have := e1_s5; have := (rc_99).2; omega⟩
  refine mw_iret dX10_mistAt_10 rfl ⟨x4, rfl, ⟨r_x4, ?_, hI_s5, hF_s5⟩⟩
  · skip
    exact e0_s5

def S_X10_yardsAt : List (Nat × Nat) := [(57, 33), (57, 34), (57, 35), (57, 36), (57, 37), (78, 9999), (77, 9999)]
def P_X10_yardsAt (B D : Int) (s0 : mh_H) (p1 : Int32) : Int32 → mh_H → Prop := fun z s => mh_r z (0) (999) ∧ mh_I B D s ∧ mh_F S_X10_yardsAt s0 s
set_option maxRecDepth 100000 in
set_option maxHeartbeats 4000000 in
theorem w_X10_yardsAt (l : Launch) (G : mh_G) (d : Nat) {B D : Int} (hB : B ≤ 1840000000 ∧ D ≤ 1840000000) {s0 : mh_H} (hI0 : mh_I B D s0) (p1 : Int32) (r_p1 : mh_r p1 (0) (143)) : mh_Mi l G (d + 8) mM_X10_yardsAt [.ref (G.2.2.2 57), .int p1] s0 (P_X10_yardsAt B D s0 p1) := by
  refine mh_enter (lv := [(0, .ref (G.2.2.2 57)), (1, .int p1)]) (by decide) rfl (Nat.le_of_ble_eq_true rfl) ?_
  have hF0 : mh_F S_X10_yardsAt s0 s0 := mh_F_rf
  refine mw_aload_n 1 rfl 0 dX10_yardsAt_0 rfl rfl ?_
  refine mw_bipush (v := 121) 3 rfl dX10_yardsAt_1 (by decide) ?_
  refine mw_iload_n 4 rfl 1 dX10_yardsAt_3 rfl rfl ?_
  refine mw_aload_n 5 rfl 0 dX10_yardsAt_4 rfl rfl ?_
  refine mw_iload_n 6 rfl 1 dX10_yardsAt_5 rfl rfl ?_
  refine mw_callVi [.int p1] [.int p1, .int (121), .ref (G.2.2.2 57)] 9 rfl dX10_yardsAt_6 ml_X10_349 mc_X10_mistAt mk_X10_mistAt rfl rfl (by decide) (w_X10_mistAt l G (d + 0) ⟨by omega, by omega⟩ hI0 p1 r_p1) rfl rfl (Nat.le_of_ble_eq_true rfl) (mh_rok (by omega) (by decide)) (fun x7 s8 q9 => ?_)
  obtain ⟨r_x7, e0_s8, hI_s8, hG_s8⟩ := q9
  have hF_s8 : mh_F S_X10_yardsAt s0 s8 := mh_F_tl hF0 hG_s8 (by decide +kernel)
  refine mw_sipush (v := 999) 12 rfl dX10_yardsAt_9 (by decide) ?_
  refine mw_callVi [.int (121), .int p1, .int x7, .int (999)] [] 15 rfl dX10_yardsAt_12 ml_X10_345 mc_X10_byCell mk_X10_byCell rfl rfl (by decide) (w_X10_byCell l G (d + 1) ⟨by omega, by omega⟩ hI_s8 (121) (mh_r_wk rc_121 (by decide)) p1 r_p1 x7 r_x7 (999) (mh_r_wk rc_999 (by decide))) rfl rfl (Nat.le_of_ble_eq_true rfl) (mh_rok (by omega) (by decide)) (fun x10 s11 q12 => ?_)
  obtain ⟨r_x10, e0_s11, e1_s11, hI_s11, hG_s11⟩ := q12
  have hF_s11 : mh_F S_X10_yardsAt s0 s11 := mh_F_tl hF_s8 hG_s11 (by decide +kernel)
  exact mw_iret dX10_yardsAt_15 rfl ⟨x10, rfl, ⟨r_x10, hI_s11, hF_s11⟩⟩

def S_X10_misty : List (Nat × Nat) := [(57, 33), (57, 34), (57, 35), (57, 36), (57, 37), (78, 9999), (77, 9999)]
def P_X10_misty (B D : Int) (s0 : mh_H) : Int32 → mh_H → Prop := fun z s => mh_r z (0) (144) ∧ (z.toInt ≠ 0 → ∃ cs : Int32, mh_r cs 0 143 ∧ (mh_by s 109 cs 0 99).toInt ≠ 0) ∧ mh_I B D s ∧ mh_F S_X10_misty s0 s
set_option maxRecDepth 100000 in
set_option maxHeartbeats 4000000 in
theorem w_X10_misty (l : Launch) (G : mh_G) (d : Nat) {B D : Int} (hB : B ≤ 1840000000 ∧ D ≤ 1840000000) {s0 : mh_H} (hI0 : mh_I B D s0) : mh_Mi l G (d + 8) mM_X10_misty [.ref (G.2.2.2 57)] s0 (P_X10_misty B D s0) := by
  refine mh_enter (lv := [(0, .ref (G.2.2.2 57))]) (by decide) rfl (Nat.le_of_ble_eq_true rfl) ?_
  have hF0 : mh_F S_X10_misty s0 s0 := mh_F_rf
  refine mw_iconst (v := 0) 1 rfl dX10_misty_0 (by decide) ?_
  refine mw_istore_n 2 rfl [(1, .int (0)), (0, .ref (G.2.2.2 57))] dX10_misty_1 rfl (by decide) rfl ?_
  refine mw_iconst (v := 0) 3 rfl dX10_misty_2 (by decide) ?_
  refine mw_istore_n 4 rfl [(2, .int (0)), (1, .int (0)), (0, .ref (G.2.2.2 57))] dX10_misty_3 rfl (by decide) rfl ?_
  have L4 : ∀ n1 : Nat, ∀ (x349 : Int32) (x350 : Int32) (s351 : mh_H), mh_r x349 (0) (144) → mh_r x350 (0) (144) → mh_I B D s351 → mh_F S_X10_misty s0 s351 → (0 ≤ x350.toInt ∧ x350.toInt ≤ x349.toInt ∧ (x350.toInt ≠ 0 → ∃ cs : Int32, mh_r cs 0 143 ∧ (mh_by s351 109 cs 0 99).toInt ≠ 0)) → (144) - x349.toInt < (n1 : Int) → mh_W G (mh_XM l G (d + 8) (mh_Qi (P_X10_misty B D s0))) mM_X10_misty 4 [(0, .ref (G.2.2.2 57)), (1, .int x350), (2, .int x349)] [] s351 := by
    intro n1
    induction n1 with
    | zero =>
      intro x349 x350 s351 r_x349 r_x350 hI_s351 hF_s351 iv hmn1
      exact absurd hmn1 (by have := r_x349.1; have := r_x349.2; omega)
    | succ n1 ihn1 =>
      intro x349 x350 s351 r_x349 r_x350 hI_s351 hF_s351 iv hmn1
      refine mw_iload_n 5 rfl 2 dX10_misty_4 rfl rfl ?_
      refine mw_sipush (v := 144) 8 rfl dX10_misty_5 (by decide) ?_
      refine mw_icmp_ge 11 rfl 33 dX10_misty_8 (by decide) (fun c368 => ?_) (fun c368 => ?_)
      · skip
        have r_x349 : mh_r x349 (144) (144) := mh_le2 c368 rc_144 r_x349 (144) (by decide)
        refine mw_iload_n 34 rfl 1 dX10_misty_33 rfl rfl ?_
        refine mw_iret dX10_misty_34 rfl ⟨x350, rfl, ⟨r_x350, ?_, hI_s351, hF_s351⟩⟩
        · skip
          exact iv.2.2
      · skip
        have r_x349 : mh_r x349 (0) (143) := mh_lt1 c368 r_x349 rc_144 (143) (by decide)
        have r_x350 : mh_r x350 (0) (143) := ⟨by have := iv.1; have := iv.2.1; have := (r_x350).1; have := (r_x350).2; have := (r_x349).1; have := (r_x349).2; have := kc_0; have := kc_1; have := kc_144; omega, by have := iv.1; have := iv.2.1; have := (r_x350).1; have := (r_x350).2; have := (r_x349).1; have := (r_x349).2; have := kc_0; have := kc_1; have := kc_144; omega⟩
        refine mw_iload_n 12 rfl 1 dX10_misty_11 rfl rfl ?_
        refine mw_aload_n 13 rfl 0 dX10_misty_12 rfl rfl ?_
        refine mw_iload_n 14 rfl 2 dX10_misty_13 rfl rfl ?_
        refine mw_callVi [.int x349] [.int x350] 17 rfl dX10_misty_14 ml_X10_349 mc_X10_mistAt mk_X10_mistAt rfl rfl (by decide) (w_X10_mistAt l G (d + 0) ⟨by omega, by omega⟩ hI_s351 x349 r_x349) rfl rfl (Nat.le_of_ble_eq_true rfl) (mh_rok (by omega) (by decide)) (fun x369 s370 q371 => ?_)
        obtain ⟨r_x369, e0_s370, hI_s370, hG_s370⟩ := q371
        have hF_s370 : mh_F S_X10_misty s0 s370 := mh_F_tl hF_s351 hG_s370 (by decide +kernel)
        refine mw_if_le 20 rfl 24 dX10_misty_17 (by decide) (fun c372 => ?_) (fun c372 => ?_)
        · skip
          have r_x369 : mh_r x369 (0) (0) := mh_le1 (show x369.toInt ≤ (0 : Int32).toInt from c372) r_x369 rc_0 (0) (by decide)
          refine mw_iconst (v := 0) 25 rfl dX10_misty_24 (by decide) ?_
          refine mw_iadd 26 rfl (0) (143) dX10_misty_25 r_x350 rc_0 (by decide) (fun x373 t374 r_x373 => ?_)
          refine mw_istore_n 27 rfl [(1, .int x373), (0, .ref (G.2.2.2 57)), (2, .int x349)] dX10_misty_26 rfl (by decide) rfl ?_
          refine mw_iincR (k := 2) (1) (144) 30 rfl (fun z => [(2, .int z), (1, .int x373), (0, .ref (G.2.2.2 57))]) dX10_misty_27 rfl (by decide) (fun _ => rfl) r_x349 (by decide) (by decide) (fun x375 t376 r_x375 => ?_)
          refine mw_goto 33 rfl 4 dX10_misty_30 (by decide) ?_
          exact mw_lv [2, 1, 0] rfl (ihn1 x375 x373 s370 (mh_r_wk r_x375 (by decide)) (mh_r_wk r_x373 (by decide)) hI_s370 hF_s370 (by
              have := (r_x375).1; have := (r_x375).2
              have := (r_x373).1; have := (r_x373).2
              have := (r_x350).1; have := (r_x350).2
              have := (rc_0).1; have := (rc_0).2
              have := kc_0
              have := kc_1
              have := kc_144
              have := r_x349.1; have := r_x349.2
              refine ⟨by omega, by omega, fun h => ?_⟩
              have hev := mh_F_ev hG_s370 rfl
              by_cases hz : x369.toInt = 0
              · obtain ⟨cs, h1, h2⟩ := iv.2.2 (by omega)
                exact ⟨cs, h1, by rw [mh_ev_by hev]; exact h2⟩
              · exact ⟨x349, mh_r_wk r_x349 (by decide), by rw [mh_ev_by hev, ← e0_s370]; exact hz⟩) (by have : x375.toInt = x349.toInt + (1) := t376; omega))
        · skip
          have r_x369 : mh_r x369 (1) (99) := mh_lt2 (show (0 : Int32).toInt < x369.toInt from c372) rc_0 r_x369 (1) (by decide)
          refine mw_iconst (v := 1) 21 rfl dX10_misty_20 (by decide) ?_
          refine mw_goto 24 rfl 25 dX10_misty_21 (by decide) ?_
          refine mw_iadd 26 rfl (1) (144) dX10_misty_25 r_x350 rc_1 (by decide) (fun x377 t378 r_x377 => ?_)
          refine mw_istore_n 27 rfl [(1, .int x377), (0, .ref (G.2.2.2 57)), (2, .int x349)] dX10_misty_26 rfl (by decide) rfl ?_
          refine mw_iincR (k := 2) (1) (144) 30 rfl (fun z => [(2, .int z), (1, .int x377), (0, .ref (G.2.2.2 57))]) dX10_misty_27 rfl (by decide) (fun _ => rfl) r_x349 (by decide) (by decide) (fun x379 t380 r_x379 => ?_)
          refine mw_goto 33 rfl 4 dX10_misty_30 (by decide) ?_
          exact mw_lv [2, 1, 0] rfl (ihn1 x379 x377 s370 (mh_r_wk r_x379 (by decide)) (mh_r_wk r_x377 (by decide)) hI_s370 hF_s370 (by
              have := (r_x379).1; have := (r_x379).2
              have := (r_x377).1; have := (r_x377).2
              have := (r_x350).1; have := (r_x350).2
              have := (rc_1).1; have := (rc_1).2
              have := kc_0
              have := kc_1
              have := kc_144
              have := r_x349.1; have := r_x349.2
              refine ⟨by omega, by omega, fun h => ?_⟩
              have hev := mh_F_ev hG_s370 rfl
              by_cases hz : x369.toInt = 0
              · obtain ⟨cs, h1, h2⟩ := iv.2.2 (by omega)
                exact ⟨cs, h1, by rw [mh_ev_by hev]; exact h2⟩
              · exact ⟨x349, mh_r_wk r_x349 (by decide), by rw [mh_ev_by hev, ← e0_s370]; exact hz⟩) (by have : x379.toInt = x349.toInt + (1) := t380; omega))
  exact mw_lv [2, 1, 0] rfl (L4 145 (0) (0) s0 (mh_r_wk rc_0 (by decide)) (mh_r_wk rc_0 (by decide)) hI0 hF0 (by
      have := (rc_0).1; have := (rc_0).2
      have := kc_0
      have := kc_1
      have := kc_144
      exact ⟨by omega, by omega, fun h => absurd kc_0 h⟩) (by have := (rc_0).1; have := (rc_0).2; omega))

def S_X10_lowestMisty : List (Nat × Nat) := [(57, 33), (57, 34), (57, 35), (57, 36), (57, 37), (78, 9999), (77, 9999)]
def P_X10_lowestMisty (B D : Int) (s0 : mh_H) : Int32 → mh_H → Prop := fun z s => mh_r z (0) (143) ∧ mh_I B D s ∧ mh_F S_X10_lowestMisty s0 s
set_option maxRecDepth 100000 in
set_option maxHeartbeats 4000000 in
theorem w_X10_lowestMisty (l : Launch) (G : mh_G) (d : Nat) {B D : Int} (hB : B ≤ 1840000000 ∧ D ≤ 1840000000) {s0 : mh_H} (hI0 : mh_I B D s0) (hp : ∃ cs : Int32, mh_r cs 0 143 ∧ (mh_by s0 109 cs 0 99).toInt ≠ 0) : mh_Mi l G (d + 8) mM_X10_lowestMisty [.ref (G.2.2.2 57)] s0 (P_X10_lowestMisty B D s0) := by
  refine mh_enter (lv := [(0, .ref (G.2.2.2 57))]) (by decide) rfl (Nat.le_of_ble_eq_true rfl) ?_
  have hF0 : mh_F S_X10_lowestMisty s0 s0 := mh_F_rf
  obtain ⟨cs, hcs, hcm⟩ := hp
  refine mw_iconst (v := 0) 1 rfl dX10_lowestMisty_0 (by decide) ?_
  refine mw_istore_n 2 rfl [(1, .int (0)), (0, .ref (G.2.2.2 57))] dX10_lowestMisty_1 rfl (by decide) rfl ?_
  have L2 : ∀ n1 : Nat, ∀ (x31 : Int32) (s32 : mh_H), mh_r x31 (0) (143) → mh_I B D s32 → mh_F S_X10_lowestMisty s0 s32 → (x31.toInt ≤ cs.toInt) → (143) - x31.toInt < (n1 : Int) → mh_W G (mh_XM l G (d + 8) (mh_Qi (P_X10_lowestMisty B D s0))) mM_X10_lowestMisty 2 [(0, .ref (G.2.2.2 57)), (1, .int x31)] [] s32 := by
    intro n1
    induction n1 with
    | zero =>
      intro x31 s32 r_x31 hI_s32 hF_s32 iv hmn1
      exact absurd hmn1 (by have := r_x31.1; have := r_x31.2; omega)
    | succ n1 ihn1 =>
      intro x31 s32 r_x31 hI_s32 hF_s32 iv hmn1
      refine mw_aload_n 3 rfl 0 dX10_lowestMisty_2 rfl rfl ?_
      refine mw_iload_n 4 rfl 1 dX10_lowestMisty_3 rfl rfl ?_
      refine mw_callVi [.int x31] [] 7 rfl dX10_lowestMisty_4 ml_X10_349 mc_X10_mistAt mk_X10_mistAt rfl rfl (by decide) (w_X10_mistAt l G (d + 0) ⟨by omega, by omega⟩ hI_s32 x31 r_x31) rfl rfl (Nat.le_of_ble_eq_true rfl) (mh_rok (by omega) (by decide)) (fun x41 s42 q43 => ?_)
      obtain ⟨r_x41, e0_s42, hI_s42, hG_s42⟩ := q43
      have hF_s42 : mh_F S_X10_lowestMisty s0 s42 := mh_F_tl hF_s32 hG_s42 (by decide +kernel)
      refine mw_if_ne 10 rfl 16 dX10_lowestMisty_7 (by decide) (fun c44 => ?_) (fun c44 => ?_)
      · skip
        have r_x41 : mh_r x41 (1) (99) := mh_ne1 (show x41.toInt ≠ (0 : Int32).toInt from c44) r_x41 rc_0 (1) (99) (by decide)
        refine mw_iload_n 17 rfl 1 dX10_lowestMisty_16 rfl rfl ?_
        exact mw_iret dX10_lowestMisty_17 rfl ⟨x31, rfl, ⟨r_x31, hI_s42, hF_s42⟩⟩
      · skip
        have r_x41 : mh_r x41 (0) (0) := mh_eq1 (show x41.toInt = (0 : Int32).toInt from c44) r_x41 rc_0 (0) (0) (by decide)
        have hne : x31 ≠ cs := by
          intro q
          rw [q] at e0_s42
          rw [mh_ev_by (mh_F_ev hF_s32 rfl)] at e0_s42
          rw [← e0_s42] at hcm
          exact hcm (by omega)
        have hlt : x31.toInt ≠ cs.toInt := fun q => hne (Int32.toInt_inj.mp q)
        have r_x31 : mh_r x31 (0) (142) := ⟨by have := (r_x31).1; have := (r_x31).2; have := kc_0; have := kc_1; omega, by have := hcs.2; have := iv; omega⟩
        refine mw_iincR (k := 1) (1) (143) 13 rfl (fun z => [(1, .int z), (0, .ref (G.2.2.2 57))]) dX10_lowestMisty_10 rfl (by decide) (fun _ => rfl) r_x31 (by decide) (by decide) (fun x45 t46 r_x45 => ?_)
        refine mw_goto 16 rfl 2 dX10_lowestMisty_13 (by decide) ?_
        exact mw_lv [1, 0] rfl (ihn1 x45 s42 (mh_r_wk r_x45 (by decide)) hI_s42 hF_s42 (by
            have := (r_x45).1; have := (r_x45).2
            have := kc_0
            have := kc_1
            omega) (by have : x45.toInt = x31.toInt + (1) := t46; omega))
  exact mw_lv [1, 0] rfl (L2 144 (0) s0 (mh_r_wk rc_0 (by decide)) hI0 hF0 (by
      have := (rc_0).1; have := (rc_0).2
      have := kc_0
      have := kc_1
      have := hcs.1
      omega) (by have := (rc_0).1; have := (rc_0).2; omega))

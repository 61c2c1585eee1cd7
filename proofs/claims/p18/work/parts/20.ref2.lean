def S_X10_band : List (Nat × Nat) := [(83, 9999), (84, 9999), (85, 9999), (86, 9999), (87, 9999), (88, 9999), (57, 33), (57, 34), (57, 35), (57, 36), (57, 37), (78, 9999), (77, 9999), (79, 9999), (80, 9999), (61, 9999), (62, 9999), (82, 9999), (81, 9999), (57, 4), (57, 2), (59, 9999), (60, 9999)]
def P_X10_band (B D : Int) (s0 : mh_H) (p1 : Int32) (p2 : Int32) : Int32 → mh_H → Prop := fun z s => mh_r z (-2) (99) ∧ mh_I B B s ∧ mh_F S_X10_band s0 s
set_option maxRecDepth 100000 in
set_option maxHeartbeats 4000000 in
theorem w_X10_band (l : Launch) (G : mh_G) (d : Nat) {B D : Int} (hB : B ≤ 1820000000 ∧ D ≤ 1820000000) {s0 : mh_H} (hI0 : mh_I B B s0) (p1 : Int32) (p2 : Int32) : mh_Mi l G (d + 9) mM_X10_band [.ref (G.2.2.2 57), .int p1, .int p2] s0 (P_X10_band B D s0 p1 p2) := by
  refine mh_enter (lv := [(0, .ref (G.2.2.2 57)), (1, .int p1), (2, .int p2)]) (by decide) rfl (Nat.le_of_ble_eq_true rfl) ?_
  have hF0 : mh_F S_X10_band s0 s0 := mh_F_rf
  refine mw_iload_n 1 rfl 1 dX10_band_0 rfl rfl ?_
  refine mw_callSi [.int p1] [] 4 rfl dX10_band_1 ml_X10_373 mc_X10_isNight mk_X10_isNight (w_X10_isNight l G (d + 7) ⟨by have := kc_m2; have := kc_m1; have := kc_0; have := kc_1; have := kc_99; have := kc_144; skip; omega, by have := kc_m2; have := kc_m1; have := kc_0; have := kc_1; have := kc_99; have := kc_144; skip; omega⟩ hI0 p1) rfl rfl (Nat.le_of_ble_eq_true rfl) (mh_rok (by omega) (by decide)) (fun x2087 s2088 q2089 => ?_)
  obtain ⟨r_x2087, e0_s2088, rfl⟩ := q2089
  refine mw_if_eq 7 rfl 19 dX10_band_4 (by decide) (fun c2090 => ?_) (fun c2090 => ?_)
  · skip
    have r_x2087 : mh_r x2087 (0) (0) := mh_eq1 (show x2087.toInt = (0 : Int32).toInt from c2090) r_x2087 rc_0 (0) (0) (by decide)
    refine mw_iconst (v := -1) 20 rfl dX10_band_19 (by decide) ?_
    exact mw_iret dX10_band_20 rfl ⟨(-1), rfl, ⟨(mh_r_wk rc_m1 (by decide)), hI0, hF0⟩⟩
  · skip
    have r_p1 : mh_r p1 (1) (60) := ⟨by have := e0_s2088.1 (mh_z1 r_x2087 c2090); have := ((mh_r_full p1)).1; omega, by have := e0_s2088.1 (mh_z1 r_x2087 c2090); have := ((mh_r_full p1)).2; omega⟩
    have r_x2087 : mh_r x2087 (1) (1) := mh_ne1 (show x2087.toInt ≠ (0 : Int32).toInt from c2090) r_x2087 rc_0 (1) (1) (by decide)
    refine mw_iload_n 8 rfl 2 dX10_band_7 rfl rfl ?_
    refine mw_i2l 9 rfl dX10_band_8 (fun y2091 t2092 => ?_)
    refine mw_lconst (v := 1) 10 rfl dX10_band_9 (by decide) ?_
    refine mw_ldc2 13 rfl dX10_band_10 ck_X10_177 ?_
    refine mw_callSi [.long y2091, .long (1), .long (9999)] [] 16 rfl dX10_band_13 ml_X10_154 mc_X10_lies mk_X10_lies (w_X10_lies l G (d + 8) ⟨by have := (r_p1).1; have := (r_p1).2; have := kc_m2; have := kc_m1; have := kc_0; have := kc_1; have := kc_99; have := kc_144; skip; omega, by have := (r_p1).1; have := (r_p1).2; have := kc_m2; have := kc_m1; have := kc_0; have := kc_1; have := kc_99; have := kc_144; skip; omega⟩ hI0 y2091 (1) (9999)) rfl rfl (Nat.le_of_ble_eq_true rfl) (mh_rok (by omega) (by decide)) (fun x2093 s2094 q2095 => ?_)
    obtain ⟨r_x2093, e0_s2094, rfl⟩ := q2095
    have f_x2093 : x2093.toInt = 1 ↔ (1 ≤ p2.toInt ∧ p2.toInt ≤ 9999) := by rw [e0_s2094]; exact by simp only [t2092, Int32.toInt_toInt64]; first | done | exact Iff.rfl
    refine mw_if_ne 19 rfl 21 dX10_band_16 (by decide) (fun c2096 => ?_) (fun c2096 => ?_)
    · skip
      have r_p2 : mh_r p2 (1) (9999) := ⟨by have := f_x2093.1 (mh_z1 r_x2093 c2096); have := ((mh_r_full p2)).1; omega, by have := f_x2093.1 (mh_z1 r_x2093 c2096); have := ((mh_r_full p2)).2; omega⟩
      have r_x2093 : mh_r x2093 (1) (1) := mh_ne1 (show x2093.toInt ≠ (0 : Int32).toInt from c2096) r_x2093 rc_0 (1) (1) (by decide)
      refine mw_aload_n 22 rfl 0 dX10_band_21 rfl rfl ?_
      refine mw_iconst (v := 0) 23 rfl dX10_band_22 (by decide) ?_
      refine mw_callVv [.int (0)] [] 26 rfl dX10_band_23 ml_X10_388 mc_X10_setsAside mk_X10_setsAside rfl rfl (by decide) (w_X10_setsAside l G (d + 8) ⟨by have := (r_p1).1; have := (r_p1).2; have := (r_p2).1; have := (r_p2).2; have := kc_m2; have := kc_m1; have := kc_0; have := kc_1; have := kc_99; have := kc_144; skip; omega, by have := (r_p1).1; have := (r_p1).2; have := (r_p2).1; have := (r_p2).2; have := kc_m2; have := kc_m1; have := kc_0; have := kc_1; have := kc_99; have := kc_144; skip; omega⟩ hI0 (0) (mh_r_wk rc_0 (by decide)) (by omega)) rfl rfl (Nat.le_of_ble_eq_true rfl) (mh_rok (by omega) (by decide)) (fun s2098 q2099 => ?_)
      obtain ⟨hI_s2098, hG_s2098⟩ := q2099
      have hF_s2098 : mh_F S_X10_band s0 s2098 := mh_F_tl hF0 hG_s2098 (by decide +kernel)
      refine mw_iconst (v := 0) 27 rfl dX10_band_26 (by decide) ?_
      refine mw_istore_n 28 rfl [(3, .int (0)), (0, .ref (G.2.2.2 57)), (1, .int p1), (2, .int p2)] dX10_band_27 rfl (by decide) rfl ?_
      refine mw_iconst (v := 0) 29 rfl dX10_band_28 (by decide) ?_
      refine mw_istore 31 rfl [(4, .int (0)), (3, .int (0)), (0, .ref (G.2.2.2 57)), (1, .int p1), (2, .int p2)] dX10_band_29  (by decide) rfl ?_
      have L31 : ∀ n1 : Nat, ∀ (x3651 : Int32) (x3652 : Int32) (s3653 : mh_H), mh_r x3651 (0) (60) → mh_r x3652 (0) (2147483647) → mh_I (B + x3651.toInt) B s3653 → mh_F S_X10_band s0 s3653 → (60) - x3651.toInt < (n1 : Int) → mh_W G (mh_XM l G (d + 9) (mh_Qi (P_X10_band B D s0 p1 p2))) mM_X10_band 31 [(0, .ref (G.2.2.2 57)), (1, .int p1), (2, .int p2), (3, .int x3652), (4, .int x3651)] [] s3653 := by
        intro n1
        induction n1 with
        | zero =>
          intro x3651 x3652 s3653 r_x3651 r_x3652 hI_s3653 hF_s3653 hmn1
          exact absurd hmn1 (by have := r_x3651.1; have := r_x3651.2; omega)
        | succ n1 ihn1 =>
          intro x3651 x3652 s3653 r_x3651 r_x3652 hI_s3653 hF_s3653 hmn1
          refine mw_iload 33 rfl 4 dX10_band_31  rfl ?_
          refine mw_iload_n 34 rfl 1 dX10_band_33 rfl rfl ?_
          refine mw_icmp_ge 37 rfl 98 dX10_band_34 (by decide) (fun c3913 => ?_) (fun c3913 => ?_)
          · skip
            have r_x3651 : mh_r x3651 (1) (60) := mh_le2 c3913 r_p1 r_x3651 (1) (by decide)
            refine mw_aload_n 99 rfl 0 dX10_band_98 rfl rfl ?_
            refine mw_iconst (v := 0) 100 rfl dX10_band_99 (by decide) ?_
            refine mw_callVv [.int (0)] [] 103 rfl dX10_band_100 ml_X10_394 mc_X10_putsBack mk_X10_putsBack rfl rfl (by decide) (w_X10_putsBack l G (d + 8) ⟨by have := (r_p1).1; have := (r_p1).2; have := (r_p2).1; have := (r_p2).2; have := (r_x3652).1; have := (r_x3652).2; have := (r_x3651).1; have := (r_x3651).2; have := kc_m2; have := kc_m1; have := kc_0; have := kc_1; have := kc_99; have := kc_144; skip; omega, by have := (r_p1).1; have := (r_p1).2; have := (r_p2).1; have := (r_p2).2; have := (r_x3652).1; have := (r_x3652).2; have := (r_x3651).1; have := (r_x3651).2; have := kc_m2; have := kc_m1; have := kc_0; have := kc_1; have := kc_99; have := kc_144; skip; omega⟩ hI_s3653 (0) (mh_r_wk rc_0 (by decide))) rfl rfl (Nat.le_of_ble_eq_true rfl) (mh_rok (by omega) (by decide)) (fun s3915 q3916 => ?_)
            obtain ⟨hI_s3915, hG_s3915⟩ := q3916
            have hF_s3915 : mh_F S_X10_band s0 s3915 := mh_F_tl hF_s3653 hG_s3915 (by decide +kernel)
            refine mw_iload_n 104 rfl 3 dX10_band_103 rfl rfl ?_
            refine mw_bipush (v := 99) 106 rfl dX10_band_104 (by decide) ?_
            refine mw_icmp_le 109 rfl 114 dX10_band_106 (by decide) (fun c3917 => ?_) (fun c3917 => ?_)
            · skip
              have r_x3652 : mh_r x3652 (0) (99) := mh_le1 c3917 r_x3652 rc_99 (99) (by decide)
              refine mw_iload_n 115 rfl 3 dX10_band_114 rfl rfl ?_
              exact mw_iret dX10_band_115 rfl ⟨x3652, rfl, ⟨(mh_r_wk r_x3652 (by decide)), hI_s3915, hF_s3915⟩⟩
            · skip
              have r_x3652 : mh_r x3652 (100) (2147483647) := mh_lt2 c3917 rc_99 r_x3652 (100) (by decide)
              refine mw_bipush (v := -2) 111 rfl dX10_band_109 (by decide) ?_
              refine mw_goto 114 rfl 115 dX10_band_111 (by decide) ?_
              exact mw_iret dX10_band_115 rfl ⟨(-2), rfl, ⟨(mh_r_wk rc_m2 (by decide)), hI_s3915, hF_s3915⟩⟩
          · skip
            have r_x3651 : mh_r x3651 (0) (59) := mh_lt1 c3913 r_x3651 r_p1 (59) (by decide)
            refine mw_aload_n 38 rfl 0 dX10_band_37 rfl rfl ?_
            refine mw_callVv [] [] 41 rfl dX10_band_38 ml_X10_376 mc_X10_stepOne mk_X10_stepOne rfl rfl (by decide) (w_X10_stepOne l G (d + 0) ⟨by have := (r_p1).1; have := (r_p1).2; have := (r_p2).1; have := (r_p2).2; have := (r_x3652).1; have := (r_x3652).2; have := (r_x3651).1; have := (r_x3651).2; have := kc_m2; have := kc_m1; have := kc_0; have := kc_1; have := kc_99; have := kc_144; skip; omega, by have := (r_p1).1; have := (r_p1).2; have := (r_p2).1; have := (r_p2).2; have := (r_x3652).1; have := (r_x3652).2; have := (r_x3651).1; have := (r_x3651).2; have := kc_m2; have := kc_m1; have := kc_0; have := kc_1; have := kc_99; have := kc_144; skip; omega⟩ hI_s3653) rfl rfl (Nat.le_of_ble_eq_true rfl) (mh_rok (by omega) (by decide)) (fun s3919 q3920 => ?_)
            obtain ⟨hI_s3919, hG_s3919⟩ := q3920
            have hF_s3919 : mh_F S_X10_band s0 s3919 := mh_F_tl hF_s3653 hG_s3919 (by decide +kernel)
            refine mw_iconst (v := 0) 42 rfl dX10_band_41 (by decide) ?_
            refine mw_istore 44 rfl [(5, .int (0)), (0, .ref (G.2.2.2 57)), (1, .int p1), (2, .int p2), (3, .int x3652), (4, .int x3651)] dX10_band_42  (by decide) rfl ?_
            have L44 : ∀ n2 : Nat, ∀ (x4135 : Int32) (x4136 : Int32), mh_r x4135 (0) (144) → mh_r x4136 (0) (2147483647) → (144) - x4135.toInt < (n2 : Int) → mh_W G (mh_XM l G (d + 9) (mh_Qi (P_X10_band B D s0 p1 p2))) mM_X10_band 44 [(0, .ref (G.2.2.2 57)), (1, .int p1), (2, .int p2), (3, .int x4136), (4, .int x3651), (5, .int x4135)] [] s3919 := by
              intro n2
              induction n2 with
              | zero =>
                intro x4135 x4136 r_x4135 r_x4136 hmn2
                exact absurd hmn2 (by have := r_x4135.1; have := r_x4135.2; omega)
              | succ n2 ihn2 =>
                intro x4135 x4136 r_x4135 r_x4136 hmn2
                refine mw_iload 46 rfl 5 dX10_band_44  rfl ?_
                refine mw_sipush (v := 144) 49 rfl dX10_band_46 (by decide) ?_
                refine mw_icmp_ge 52 rfl 92 dX10_band_49 (by decide) (fun c4155 => ?_) (fun c4155 => ?_)
                · skip
                  have r_x4135 : mh_r x4135 (144) (144) := mh_le2 c4155 rc_144 r_x4135 (144) (by decide)
                  refine mw_iincR (k := 4) (1) (60) 95 rfl (fun z => [(4, .int z), (0, .ref (G.2.2.2 57)), (1, .int p1), (2, .int p2), (3, .int x4136), (5, .int x4135)]) dX10_band_92 rfl (by decide) (fun _ => rfl) r_x3651 (by decide) (by decide) (fun x4156 t4157 r_x4156 => ?_)
                  refine mw_goto 98 rfl 31 dX10_band_95 (by decide) ?_
                  exact mw_lv [1, 2, 3, 4, 0] rfl (ihn1 x4156 x4136 s3919 (mh_r_wk r_x4156 (by decide)) r_x4136 (mh_I_mono hI_s3919 (by have := (r_x4156).1; have := (r_x4156).2; have := (r_p1).1; have := (r_p1).2; have := (r_p2).1; have := (r_p2).2; have := (r_x4136).1; have := (r_x4136).2; have := (r_x4135).1; have := (r_x4135).2; have := kc_m2; have := kc_m1; have := kc_0; have := kc_1; have := kc_99; have := kc_144; skip; omega) (by have := (r_x4156).1; have := (r_x4156).2; have := (r_p1).1; have := (r_p1).2; have := (r_p2).1; have := (r_p2).2; have := (r_x4136).1; have := (r_x4136).2; have := (r_x4135).1; have := (r_x4135).2; have := kc_m2; have := kc_m1; have := kc_0; have := kc_1; have := kc_99; have := kc_144; skip; omega)) hF_s3919 (by have : x4156.toInt = x3651.toInt + (1) := t4157; omega))
                · skip
                  have r_x4135 : mh_r x4135 (0) (143) := mh_lt1 c4155 r_x4135 rc_144 (143) (by decide)
                  refine mw_aload_n 53 rfl 0 dX10_band_52 rfl rfl ?_
                  refine mw_geta 56 rfl dX10_band_53 gf_X10_24 rfl 61 (mh_rf hI_s3919 58 rfl) ?_
                  refine mw_iload 58 rfl 5 dX10_band_56  rfl ?_
                  refine mw_iald 59 rfl dX10_band_58 rfl r_x4135 (by decide) (fun x4158 t4159 => ?_)
                  refine mw_iload_n 60 rfl 2 dX10_band_59 rfl rfl ?_
                  have J86 : ∀ (x4170 : Int32), mh_r x4170 (0) (2147483647) → mh_W G (mh_XM l G (d + 9) (mh_Qi (P_X10_band B D s0 p1 p2))) mM_X10_band 86 [(0, .ref (G.2.2.2 57)), (1, .int p1), (2, .int p2), (3, .int x4170), (4, .int x3651), (5, .int x4135)] [] s3919 := by
                    intro x4170 r_x4170
                    refine mw_iincR (k := 5) (1) (144) 89 rfl (fun z => [(5, .int z), (0, .ref (G.2.2.2 57)), (1, .int p1), (2, .int p2), (3, .int x4170), (4, .int x3651)]) dX10_band_86 rfl (by decide) (fun _ => rfl) r_x4135 (by decide) (by decide) (fun x4173 t4174 r_x4173 => ?_)
                    refine mw_goto 92 rfl 44 dX10_band_89 (by decide) ?_
                    exact mw_lv [1, 2, 3, 4, 5, 0] rfl (ihn2 x4173 x4170 (mh_r_wk r_x4173 (by decide)) r_x4170 (by have : x4173.toInt = x4135.toInt + (1) := t4174; omega))
                  refine mw_icmp_lt 63 rfl 86 dX10_band_60 (by decide) (fun c4175 => ?_) (fun c4175 => ?_)
                  · skip
                    have r_x4158 : mh_r x4158 (-2147483648) (9998) := mh_lt1 c4175 (mh_r_full x4158) r_p2 (9998) (by decide)
                    exact mw_lv [0, 1, 2, 3, 4, 5] rfl (J86 x4136 r_x4136)
                  · skip
                    have r_x4158 : mh_r x4158 (1) (2147483647) := mh_le2 c4175 r_p2 (mh_r_full x4158) (1) (by decide)
                    refine mw_aload_n 64 rfl 0 dX10_band_63 rfl rfl ?_
                    refine mw_geta 67 rfl dX10_band_64 gf_X10_17 rfl 59 (mh_rf hI_s3919 56 rfl) ?_
                    refine mw_iload 69 rfl 5 dX10_band_67  rfl ?_
                    refine mw_iald 70 rfl dX10_band_69 rfl r_x4135 (by decide) (fun x4176 t4177 => ?_)
                    refine mw_iconst (v := 1) 71 rfl dX10_band_70 (by decide) ?_
                    refine mw_iadd_u 72 rfl dX10_band_71 (fun x4178 t4179 => ?_)
                    refine mw_iload_n 73 rfl 3 dX10_band_72 rfl rfl ?_
                    refine mw_icmp_le 76 rfl 86 dX10_band_73 (by decide) (fun c4180 => ?_) (fun c4180 => ?_)
                    · skip
                      exact mw_lv [0, 1, 2, 3, 4, 5] rfl (J86 x4136 r_x4136)
                    · skip
                      have r_x4136 : mh_r x4136 (0) (2147483646) := mh_lt1 c4180 r_x4136 (mh_r_full x4178) (2147483646) (by decide)
                      have r_x4178 : mh_r x4178 (1) (2147483647) := mh_lt2 c4180 r_x4136 (mh_r_full x4178) (1) (by decide)
                      refine mw_aload_n 77 rfl 0 dX10_band_76 rfl rfl ?_
                      refine mw_geta 80 rfl dX10_band_77 gf_X10_17 rfl 59 (mh_rf hI_s3919 56 rfl) ?_
                      refine mw_iload 82 rfl 5 dX10_band_80  rfl ?_
                      refine mw_iald 83 rfl dX10_band_82 rfl r_x4135 (by decide) (fun x4181 t4182 => ?_)
                      obtain rfl : x4176 = x4181 := t4177.trans t4182.symm
                      refine mw_iconst (v := 1) 84 rfl dX10_band_83 (by decide) ?_
                      refine mw_iadd_u 85 rfl dX10_band_84 (fun x4183 t4184 => ?_)
                      obtain rfl : x4178 = x4183 := t4179.trans t4184.symm
                      refine mw_istore_n 86 rfl [(3, .int x4178), (0, .ref (G.2.2.2 57)), (1, .int p1), (2, .int p2), (4, .int x3651), (5, .int x4135)] dX10_band_85 rfl (by decide) rfl ?_
                      exact mw_lv [1, 2, 3, 0, 4, 5] rfl (J86 x4178 (mh_r_wk r_x4178 (by decide)))
            exact mw_lv [1, 2, 3, 4, 5, 0] rfl (L44 145 (0) x3652 (mh_r_wk rc_0 (by decide)) r_x3652 (by have := (rc_0).1; have := (rc_0).2; omega))
      exact mw_lv [2, 3, 4, 1, 0] rfl (L31 61 (0) (0) s2098 (mh_r_wk rc_0 (by decide)) (mh_r_wk rc_0 (by decide)) (mh_I_mono hI_s2098 (by have := (rc_0).1; have := (rc_0).2; have := (r_p1).1; have := (r_p1).2; have := (r_p2).1; have := (r_p2).2; have := kc_m2; have := kc_m1; have := kc_0; have := kc_1; have := kc_99; have := kc_144; skip; omega) (by have := (rc_0).1; have := (rc_0).2; have := (r_p1).1; have := (r_p1).2; have := (r_p2).1; have := (r_p2).2; have := kc_m2; have := kc_m1; have := kc_0; have := kc_1; have := kc_99; have := kc_144; skip; omega)) hF_s2098 (by have := (rc_0).1; have := (rc_0).2; omega))
    · skip
      have r_x2093 : mh_r x2093 (0) (0) := mh_eq1 (show x2093.toInt = (0 : Int32).toInt from c2096) r_x2093 rc_0 (0) (0) (by decide)
      refine mw_iconst (v := -1) 20 rfl dX10_band_19 (by decide) ?_
      exact mw_iret dX10_band_20 rfl ⟨(-1), rfl, ⟨(mh_r_wk rc_m1 (by decide)), hI0, hF0⟩⟩

def S_X10_laysNight : List (Nat × Nat) := [(83, 9999), (84, 9999), (85, 9999), (86, 9999), (87, 9999), (88, 9999), (60, 9999), (57, 33), (57, 34), (57, 35), (57, 36), (57, 37), (78, 9999), (77, 9999), (79, 9999), (80, 9999), (61, 9999), (62, 9999), (82, 9999), (81, 9999), (57, 4), (57, 2)]
def P_X10_laysNight (B D : Int) (s0 : mh_H) (p1 : Int32) (p2 : Int32) : mh_H → Prop := fun s => mh_I (B + 60) B s ∧ mh_F S_X10_laysNight s0 s
set_option maxRecDepth 100000 in
set_option maxHeartbeats 4000000 in
theorem w_X10_laysNight (l : Launch) (G : mh_G) (d : Nat) {B D : Int} (hB : B ≤ 1820000000 ∧ D ≤ 1820000000) {s0 : mh_H} (hI0 : mh_I B B s0) (p1 : Int32) (r_p1 : mh_r p1 (-1) (143)) (p2 : Int32) (r_p2 : mh_r p2 (1) (60)) : mh_Mv l G (d + 9) mM_X10_laysNight [.ref (G.2.2.2 57), .int p1, .int p2] s0 (P_X10_laysNight B D s0 p1 p2) := by
  refine mh_enter (lv := [(0, .ref (G.2.2.2 57)), (1, .int p1), (2, .int p2)]) (by decide) rfl (Nat.le_of_ble_eq_true rfl) ?_
  have hF0 : mh_F S_X10_laysNight s0 s0 := mh_F_rf
  refine mw_aload_n 1 rfl 0 dX10_laysNight_0 rfl rfl ?_
  refine mw_iconst (v := 0) 2 rfl dX10_laysNight_1 (by decide) ?_
  refine mw_callVv [.int (0)] [] 5 rfl dX10_laysNight_2 ml_X10_388 mc_X10_setsAside mk_X10_setsAside rfl rfl (by decide) (w_X10_setsAside l G (d + 8) ⟨by have := (r_p1).1; have := (r_p1).2; have := (r_p2).1; have := (r_p2).2; have := kc_m1; have := kc_0; have := kc_1; have := kc_2; skip; omega, by have := (r_p1).1; have := (r_p1).2; have := (r_p2).1; have := (r_p2).2; have := kc_m1; have := kc_0; have := kc_1; have := kc_2; skip; omega⟩ hI0 (0) (mh_r_wk rc_0 (by decide)) (by omega)) rfl rfl (Nat.le_of_ble_eq_true rfl) (mh_rok (by omega) (by decide)) (fun s79 q80 => ?_)
  obtain ⟨hI_s79, hG_s79⟩ := q80
  have hF_s79 : mh_F S_X10_laysNight s0 s79 := mh_F_tl hF0 hG_s79 (by decide +kernel)
  refine mw_iload_n 6 rfl 1 dX10_laysNight_5 rfl rfl ?_
  refine mw_iconst (v := -1) 7 rfl dX10_laysNight_6 (by decide) ?_
  have J17 : ∀  (s84 : mh_H), mh_I B B s84 → mh_F S_X10_laysNight s0 s84 → mh_W G (mh_XM l G (d + 9) (mh_Qv (P_X10_laysNight B D s0 p1 p2))) mM_X10_laysNight 17 [(0, .ref (G.2.2.2 57)), (1, .int p1), (2, .int p2)] [] s84 := by
    intro s84 hI_s84 hF_s84
    refine mw_iconst (v := 0) 18 rfl dX10_laysNight_17 (by decide) ?_
    refine mw_istore_n 19 rfl [(3, .int (0)), (0, .ref (G.2.2.2 57)), (1, .int p1), (2, .int p2)] dX10_laysNight_18 rfl (by decide) rfl ?_
    have L19 : ∀ n1 : Nat, ∀ (x209 : Int32) (s210 : mh_H), mh_r x209 (0) (60) → mh_I (B + x209.toInt) B s210 → mh_F S_X10_laysNight s0 s210 → (60) - x209.toInt < (n1 : Int) → mh_W G (mh_XM l G (d + 9) (mh_Qv (P_X10_laysNight B D s0 p1 p2))) mM_X10_laysNight 19 [(0, .ref (G.2.2.2 57)), (1, .int p1), (2, .int p2), (3, .int x209)] [] s210 := by
      intro n1
      induction n1 with
      | zero =>
        intro x209 s210 r_x209 hI_s210 hF_s210 hmn1
        exact absurd hmn1 (by have := r_x209.1; have := r_x209.2; omega)
      | succ n1 ihn1 =>
        intro x209 s210 r_x209 hI_s210 hF_s210 hmn1
        refine mw_iload_n 20 rfl 3 dX10_laysNight_19 rfl rfl ?_
        refine mw_iload_n 21 rfl 2 dX10_laysNight_20 rfl rfl ?_
        refine mw_icmp_ge 24 rfl 34 dX10_laysNight_21 (by decide) (fun c219 => ?_) (fun c219 => ?_)
        · skip
          have r_x209 : mh_r x209 (1) (60) := mh_le2 c219 r_p2 r_x209 (1) (by decide)
          exact mw_vret dX10_laysNight_34 rfl ⟨rfl, ⟨(mh_I_mono hI_s210 (by have := (r_p1).1; have := (r_p1).2; have := (r_p2).1; have := (r_p2).2; have := (r_x209).1; have := (r_x209).2; have := kc_m1; have := kc_0; have := kc_1; have := kc_2; skip; omega) (by have := (r_p1).1; have := (r_p1).2; have := (r_p2).1; have := (r_p2).2; have := (r_x209).1; have := (r_x209).2; have := kc_m1; have := kc_0; have := kc_1; have := kc_2; skip; omega)), hF_s210⟩⟩
        · skip
          have r_x209 : mh_r x209 (0) (59) := mh_lt1 c219 r_x209 r_p2 (59) (by decide)
          refine mw_aload_n 25 rfl 0 dX10_laysNight_24 rfl rfl ?_
          refine mw_callVv [] [] 28 rfl dX10_laysNight_25 ml_X10_376 mc_X10_stepOne mk_X10_stepOne rfl rfl (by decide) (w_X10_stepOne l G (d + 0) ⟨by have := (r_p1).1; have := (r_p1).2; have := (r_p2).1; have := (r_p2).2; have := (r_x209).1; have := (r_x209).2; have := kc_m1; have := kc_0; have := kc_1; have := kc_2; skip; omega, by have := (r_p1).1; have := (r_p1).2; have := (r_p2).1; have := (r_p2).2; have := (r_x209).1; have := (r_x209).2; have := kc_m1; have := kc_0; have := kc_1; have := kc_2; skip; omega⟩ hI_s210) rfl rfl (Nat.le_of_ble_eq_true rfl) (mh_rok (by omega) (by decide)) (fun s221 q222 => ?_)
          obtain ⟨hI_s221, hG_s221⟩ := q222
          have hF_s221 : mh_F S_X10_laysNight s0 s221 := mh_F_tl hF_s210 hG_s221 (by decide +kernel)
          refine mw_iincR (k := 3) (1) (60) 31 rfl (fun z => [(3, .int z), (0, .ref (G.2.2.2 57)), (1, .int p1), (2, .int p2)]) dX10_laysNight_28 rfl (by decide) (fun _ => rfl) r_x209 (by decide) (by decide) (fun x223 t224 r_x223 => ?_)
          refine mw_goto 34 rfl 19 dX10_laysNight_31 (by decide) ?_
          exact mw_lv [1, 2, 3, 0] rfl (ihn1 x223 s221 (mh_r_wk r_x223 (by decide)) (mh_I_mono hI_s221 (by have := (r_x223).1; have := (r_x223).2; have := (r_p1).1; have := (r_p1).2; have := (r_p2).1; have := (r_p2).2; have := kc_m1; have := kc_0; have := kc_1; have := kc_2; skip; omega) (by have := (r_x223).1; have := (r_x223).2; have := (r_p1).1; have := (r_p1).2; have := (r_p2).1; have := (r_p2).2; have := kc_m1; have := kc_0; have := kc_1; have := kc_2; skip; omega)) hF_s221 (by have : x223.toInt = x209.toInt + (1) := t224; omega))
    exact mw_lv [1, 2, 3, 0] rfl (L19 61 (0) s84 (mh_r_wk rc_0 (by decide)) (mh_I_mono hI_s84 (by have := (rc_0).1; have := (rc_0).2; have := (r_p1).1; have := (r_p1).2; have := (r_p2).1; have := (r_p2).2; have := kc_m1; have := kc_0; have := kc_1; have := kc_2; skip; omega) (by have := (rc_0).1; have := (rc_0).2; have := (r_p1).1; have := (r_p1).2; have := (r_p2).1; have := (r_p2).2; have := kc_m1; have := kc_0; have := kc_1; have := kc_2; skip; omega)) hF_s84 (by have := (rc_0).1; have := (rc_0).2; omega))
  refine mw_icmp_eq 10 rfl 17 dX10_laysNight_7 (by decide) (fun c225 => ?_) (fun c225 => ?_)
  · skip
    have r_p1 : mh_r p1 (-1) (-1) := mh_eq1 c225 r_p1 rc_m1 (-1) (-1) (by decide)
    exact mw_lv [0, 1, 2] rfl (J17 s79 hI_s79 hF_s79)
  · skip
    have r_p1 : mh_r p1 (0) (143) := mh_ne1 c225 r_p1 rc_m1 (0) (143) (by decide)
    refine mw_aload_n 11 rfl 0 dX10_laysNight_10 rfl rfl ?_
    refine mw_geta 14 rfl dX10_laysNight_11 gf_X10_21 rfl 60 (mh_rf hI_s79 57 rfl) ?_
    refine mw_iload_n 15 rfl 1 dX10_laysNight_14 rfl rfl ?_
    refine mw_iconst (v := 2) 16 rfl dX10_laysNight_15 (by decide) ?_
    refine mw_iast 17 rfl dX10_laysNight_16 rfl r_p1 (by decide) (fun s226 t227 => ?_)
    have hI_s226 : mh_I B B s226 := by rw [t227]; exact wr_60 hI_s79
    have hF_s226 : mh_F S_X10_laysNight s0 s226 := by rw [t227]; exact mh_F_pI hF_s79 (mh_si 6 rfl)
    exact mw_lv [0, 1, 2] rfl (J17 s226 hI_s226 hF_s226)

def S_X10_works : List (Nat × Nat) := [(83, 9999), (84, 9999), (85, 9999), (86, 9999), (87, 9999), (88, 9999), (60, 9999), (57, 33), (57, 34), (57, 35), (57, 36), (57, 37), (78, 9999), (77, 9999), (79, 9999), (80, 9999), (61, 9999), (62, 9999), (82, 9999), (81, 9999), (57, 4), (57, 2), (89, 9999), (59, 9999)]
def P_X10_works (B D : Int) (s0 : mh_H) (p1 : Int32) (p2 : Int32) (p3 : Int32) (p4 : Int32) : Int32 → mh_H → Prop := fun z s => mh_r z (-2147483648) (2147483647) ∧ mh_I B B s ∧ mh_F S_X10_works s0 s
set_option maxRecDepth 100000 in
set_option maxHeartbeats 4000000 in
theorem w_X10_works (l : Launch) (G : mh_G) (d : Nat) {B D : Int} (hB : B ≤ 1800000000 ∧ D ≤ 1800000000) {s0 : mh_H} (hI0 : mh_I B B s0) (p1 : Int32) (p2 : Int32) (p3 : Int32) (p4 : Int32) : mh_Mi l G (d + 10) mM_X10_works [.ref (G.2.2.2 57), .int p1, .int p2, .int p3, .int p4] s0 (P_X10_works B D s0 p1 p2 p3 p4) := by
  refine mh_enter (lv := [(0, .ref (G.2.2.2 57)), (1, .int p1), (2, .int p2), (3, .int p3), (4, .int p4)]) (by decide) rfl (Nat.le_of_ble_eq_true rfl) ?_
  have hF0 : mh_F S_X10_works s0 s0 := mh_F_rf
  refine mw_iload_n 1 rfl 1 dX10_works_0 rfl rfl ?_
  refine mw_iload_n 2 rfl 2 dX10_works_1 rfl rfl ?_
  refine mw_callSi [.int p1, .int p2] [] 5 rfl dX10_works_2 ml_X10_166 mc_X10_isCell mk_X10_isCell (w_X10_isCell l G (d + 7) ⟨by have := kc_m2; have := kc_m1; have := kc_0; have := kc_1; have := kc_2; have := kc_144; skip; omega, by have := kc_m2; have := kc_m1; have := kc_0; have := kc_1; have := kc_2; have := kc_144; skip; omega⟩ hI0 p1 p2) rfl rfl (Nat.le_of_ble_eq_true rfl) (mh_rok (by omega) (by decide)) (fun x699 s700 q701 => ?_)
  obtain ⟨r_x699, e0_s700, rfl⟩ := q701
  refine mw_if_eq 8 rfl 42 dX10_works_5 (by decide) (fun c702 => ?_) (fun c702 => ?_)
  · skip
    have r_x699 : mh_r x699 (0) (0) := mh_eq1 (show x699.toInt = (0 : Int32).toInt from c702) r_x699 rc_0 (0) (0) (by decide)
    refine mw_iconst (v := -1) 43 rfl dX10_works_42 (by decide) ?_
    exact mw_iret dX10_works_43 rfl ⟨(-1), rfl, ⟨(mh_r_wk rc_m1 (by decide)), hI0, hF0⟩⟩
  · skip
    have r_p1 : mh_r p1 (0) (11) := ⟨by have := e0_s700.1 (mh_z1 r_x699 c702); have := ((mh_r_full p1)).1; omega, by have := e0_s700.1 (mh_z1 r_x699 c702); have := ((mh_r_full p1)).2; omega⟩
    have r_p2 : mh_r p2 (0) (11) := ⟨by have := e0_s700.1 (mh_z1 r_x699 c702); have := ((mh_r_full p2)).1; omega, by have := e0_s700.1 (mh_z1 r_x699 c702); have := ((mh_r_full p2)).2; omega⟩
    have r_x699 : mh_r x699 (1) (1) := mh_ne1 (show x699.toInt ≠ (0 : Int32).toInt from c702) r_x699 rc_0 (1) (1) (by decide)
    refine mw_iload_n 9 rfl 3 dX10_works_8 rfl rfl ?_
    refine mw_callSi [.int p3] [] 12 rfl dX10_works_9 ml_X10_373 mc_X10_isNight mk_X10_isNight (w_X10_isNight l G (d + 8) ⟨by have := (r_p1).1; have := (r_p1).2; have := (r_p2).1; have := (r_p2).2; have := kc_m2; have := kc_m1; have := kc_0; have := kc_1; have := kc_2; have := kc_144; skip; omega, by have := (r_p1).1; have := (r_p1).2; have := (r_p2).1; have := (r_p2).2; have := kc_m2; have := kc_m1; have := kc_0; have := kc_1; have := kc_2; have := kc_144; skip; omega⟩ hI0 p3) rfl rfl (Nat.le_of_ble_eq_true rfl) (mh_rok (by omega) (by decide)) (fun x703 s704 q705 => ?_)
    obtain ⟨r_x703, e0_s704, rfl⟩ := q705
    refine mw_if_eq 15 rfl 42 dX10_works_12 (by decide) (fun c706 => ?_) (fun c706 => ?_)
    · skip
      have r_x703 : mh_r x703 (0) (0) := mh_eq1 (show x703.toInt = (0 : Int32).toInt from c706) r_x703 rc_0 (0) (0) (by decide)
      refine mw_iconst (v := -1) 43 rfl dX10_works_42 (by decide) ?_
      exact mw_iret dX10_works_43 rfl ⟨(-1), rfl, ⟨(mh_r_wk rc_m1 (by decide)), hI0, hF0⟩⟩
    · skip
      have r_p3 : mh_r p3 (1) (60) := ⟨by have := e0_s704.1 (mh_z1 r_x703 c706); have := ((mh_r_full p3)).1; omega, by have := e0_s704.1 (mh_z1 r_x703 c706); have := ((mh_r_full p3)).2; omega⟩
      have r_x703 : mh_r x703 (1) (1) := mh_ne1 (show x703.toInt ≠ (0 : Int32).toInt from c706) r_x703 rc_0 (1) (1) (by decide)
      refine mw_iload 17 rfl 4 dX10_works_15  rfl ?_
      refine mw_i2l 18 rfl dX10_works_17 (fun y707 t708 => ?_)
      refine mw_lconst (v := 0) 19 rfl dX10_works_18 (by decide) ?_
      refine mw_ldc2 22 rfl dX10_works_19 ck_X10_399 ?_
      refine mw_callSi [.long y707, .long (0), .long (3)] [] 25 rfl dX10_works_22 ml_X10_154 mc_X10_lies mk_X10_lies (w_X10_lies l G (d + 9) ⟨by have := (r_p1).1; have := (r_p1).2; have := (r_p2).1; have := (r_p2).2; have := (r_p3).1; have := (r_p3).2; have := kc_m2; have := kc_m1; have := kc_0; have := kc_1; have := kc_2; have := kc_144; skip; omega, by have := (r_p1).1; have := (r_p1).2; have := (r_p2).1; have := (r_p2).2; have := (r_p3).1; have := (r_p3).2; have := kc_m2; have := kc_m1; have := kc_0; have := kc_1; have := kc_2; have := kc_144; skip; omega⟩ hI0 y707 (0) (3)) rfl rfl (Nat.le_of_ble_eq_true rfl) (mh_rok (by omega) (by decide)) (fun x709 s710 q711 => ?_)
      obtain ⟨r_x709, e0_s710, rfl⟩ := q711
      have f_x709 : x709.toInt = 1 ↔ (0 ≤ p4.toInt ∧ p4.toInt ≤ 3) := by rw [e0_s710]; exact by simp only [t708, Int32.toInt_toInt64]; first | done | exact Iff.rfl
      refine mw_if_eq 28 rfl 42 dX10_works_25 (by decide) (fun c712 => ?_) (fun c712 => ?_)
      · skip
        have r_x709 : mh_r x709 (0) (0) := mh_eq1 (show x709.toInt = (0 : Int32).toInt from c712) r_x709 rc_0 (0) (0) (by decide)
        refine mw_iconst (v := -1) 43 rfl dX10_works_42 (by decide) ?_
        exact mw_iret dX10_works_43 rfl ⟨(-1), rfl, ⟨(mh_r_wk rc_m1 (by decide)), hI0, hF0⟩⟩
      · skip
        have r_p4 : mh_r p4 (0) (3) := ⟨by have := f_x709.1 (mh_z1 r_x709 c712); have := ((mh_r_full p4)).1; omega, by have := f_x709.1 (mh_z1 r_x709 c712); have := ((mh_r_full p4)).2; omega⟩
        have r_x709 : mh_r x709 (1) (1) := mh_ne1 (show x709.toInt ≠ (0 : Int32).toInt from c712) r_x709 rc_0 (1) (1) (by decide)
        refine mw_aload_n 29 rfl 0 dX10_works_28 rfl rfl ?_
        refine mw_geta 32 rfl dX10_works_29 gf_X10_21 rfl 60 (mh_rf hI0 57 rfl) ?_
        refine mw_iload_n 33 rfl 1 dX10_works_32 rfl rfl ?_
        refine mw_iload_n 34 rfl 2 dX10_works_33 rfl rfl ?_
        refine mw_callSi [.int p1, .int p2] [.ref (G.2.2.2 60)] 37 rfl dX10_works_34 ml_X10_174 mc_X10_cellAt mk_X10_cellAt (w_X10_cellAt l G (d + 9) ⟨by have := (r_p1).1; have := (r_p1).2; have := (r_p2).1; have := (r_p2).2; have := (r_p3).1; have := (r_p3).2; have := (r_p4).1; have := (r_p4).2; have := kc_m2; have := kc_m1; have := kc_0; have := kc_1; have := kc_2; have := kc_144; skip; omega, by have := (r_p1).1; have := (r_p1).2; have := (r_p2).1; have := (r_p2).2; have := (r_p3).1; have := (r_p3).2; have := (r_p4).1; have := (r_p4).2; have := kc_m2; have := kc_m1; have := kc_0; have := kc_1; have := kc_2; have := kc_144; skip; omega⟩ hI0 p1 r_p1 p2 r_p2) rfl rfl (Nat.le_of_ble_eq_true rfl) (mh_rok (by omega) (by decide)) (fun x713 s714 q715 => ?_)
        obtain ⟨r_x713, rfl⟩ := q715
        refine mw_iald 38 rfl dX10_works_37 rfl r_x713 (by decide) (fun x716 t717 => ?_)
        refine mw_iconst (v := 2) 39 rfl dX10_works_38 (by decide) ?_
        refine mw_icmp_ne 42 rfl 44 dX10_works_39 (by decide) (fun c718 => ?_) (fun c718 => ?_)
        · skip
          refine mw_aload_n 45 rfl 0 dX10_works_44 rfl rfl ?_
          refine mw_iconst (v := -1) 46 rfl dX10_works_45 (by decide) ?_
          refine mw_iload_n 47 rfl 3 dX10_works_46 rfl rfl ?_
          refine mw_callVv [.int (-1), .int p3] [] 50 rfl dX10_works_47 ml_X10_401 mc_X10_laysNight mk_X10_laysNight rfl rfl (by decide) (w_X10_laysNight l G (d + 0) (D := B) ⟨by have := (r_p1).1; have := (r_p1).2; have := (r_p2).1; have := (r_p2).2; have := (r_p3).1; have := (r_p3).2; have := (r_p4).1; have := (r_p4).2; have := kc_m2; have := kc_m1; have := kc_0; have := kc_1; have := kc_2; have := kc_144; skip; omega, by have := (r_p1).1; have := (r_p1).2; have := (r_p2).1; have := (r_p2).2; have := (r_p3).1; have := (r_p3).2; have := (r_p4).1; have := (r_p4).2; have := kc_m2; have := kc_m1; have := kc_0; have := kc_1; have := kc_2; have := kc_144; skip; omega⟩ hI0 (-1) (mh_r_wk rc_m1 (by decide)) p3 r_p3) rfl rfl (Nat.le_of_ble_eq_true rfl) (mh_rok (by omega) (by decide)) (fun s720 q721 => ?_)
          obtain ⟨hI_s720, hG_s720⟩ := q721
          have hF_s720 : mh_F S_X10_works s0 s720 := mh_F_tl hF0 hG_s720 (by decide +kernel)
          refine mw_iconst (v := 0) 51 rfl dX10_works_50 (by decide) ?_
          refine mw_istore 53 rfl [(5, .int (0)), (0, .ref (G.2.2.2 57)), (1, .int p1), (2, .int p2), (3, .int p3), (4, .int p4)] dX10_works_51  (by decide) rfl ?_
          have L53 : ∀ n1 : Nat, ∀ (x819 : Int32) (s820 : mh_H), mh_r x819 (0) (144) → mh_I (B + 60) B s820 → mh_F S_X10_works s0 s820 → (144) - x819.toInt < (n1 : Int) → mh_W G (mh_XM l G (d + 10) (mh_Qi (P_X10_works B D s0 p1 p2 p3 p4))) mM_X10_works 53 [(0, .ref (G.2.2.2 57)), (1, .int p1), (2, .int p2), (3, .int p3), (4, .int p4), (5, .int x819)] [] s820 := by
            intro n1
            induction n1 with
            | zero =>
              intro x819 s820 r_x819 hI_s820 hF_s820 hmn1
              exact absurd hmn1 (by have := r_x819.1; have := r_x819.2; omega)
            | succ n1 ihn1 =>
              intro x819 s820 r_x819 hI_s820 hF_s820 hmn1
              refine mw_iload 55 rfl 5 dX10_works_53  rfl ?_
              refine mw_sipush (v := 144) 58 rfl dX10_works_55 (by decide) ?_
              refine mw_icmp_ge 61 rfl 81 dX10_works_58 (by decide) (fun c830 => ?_) (fun c830 => ?_)
              · skip
                have r_x819 : mh_r x819 (144) (144) := mh_le2 c830 rc_144 r_x819 (144) (by decide)
                refine mw_aload_n 82 rfl 0 dX10_works_81 rfl rfl ?_
                refine mw_iconst (v := 0) 83 rfl dX10_works_82 (by decide) ?_
                refine mw_callVv [.int (0)] [] 86 rfl dX10_works_83 ml_X10_394 mc_X10_putsBack mk_X10_putsBack rfl rfl (by decide) (w_X10_putsBack l G (d + 9) ⟨by have := (r_p1).1; have := (r_p1).2; have := (r_p2).1; have := (r_p2).2; have := (r_p3).1; have := (r_p3).2; have := (r_p4).1; have := (r_p4).2; have := (r_x819).1; have := (r_x819).2; have := kc_m2; have := kc_m1; have := kc_0; have := kc_1; have := kc_2; have := kc_144; skip; omega, by have := (r_p1).1; have := (r_p1).2; have := (r_p2).1; have := (r_p2).2; have := (r_p3).1; have := (r_p3).2; have := (r_p4).1; have := (r_p4).2; have := (r_x819).1; have := (r_x819).2; have := kc_m2; have := kc_m1; have := kc_0; have := kc_1; have := kc_2; have := kc_144; skip; omega⟩ hI_s820 (0) (mh_r_wk rc_0 (by decide))) rfl rfl (Nat.le_of_ble_eq_true rfl) (mh_rok (by omega) (by decide)) (fun s832 q833 => ?_)
                obtain ⟨hI_s832, hG_s832⟩ := q833
                have hF_s832 : mh_F S_X10_works s0 s832 := mh_F_tl hF_s820 hG_s832 (by decide +kernel)
                refine mw_aload_n 87 rfl 0 dX10_works_86 rfl rfl ?_
                refine mw_iload_n 88 rfl 1 dX10_works_87 rfl rfl ?_
                refine mw_iload_n 89 rfl 2 dX10_works_88 rfl rfl ?_
                refine mw_callSi [.int p1, .int p2] [.ref (G.2.2.2 57)] 92 rfl dX10_works_89 ml_X10_174 mc_X10_cellAt mk_X10_cellAt (w_X10_cellAt l G (d + 9) ⟨by have := (r_p1).1; have := (r_p1).2; have := (r_p2).1; have := (r_p2).2; have := (r_p3).1; have := (r_p3).2; have := (r_p4).1; have := (r_p4).2; have := (r_x819).1; have := (r_x819).2; have := kc_m2; have := kc_m1; have := kc_0; have := kc_1; have := kc_2; have := kc_144; skip; omega, by have := (r_p1).1; have := (r_p1).2; have := (r_p2).1; have := (r_p2).2; have := (r_p3).1; have := (r_p3).2; have := (r_p4).1; have := (r_p4).2; have := (r_x819).1; have := (r_x819).2; have := kc_m2; have := kc_m1; have := kc_0; have := kc_1; have := kc_2; have := kc_144; skip; omega⟩ hI_s832 p1 r_p1 p2 r_p2) rfl rfl (Nat.le_of_ble_eq_true rfl) (mh_rok (by omega) (by decide)) (fun x834 s835 q836 => ?_)
                obtain ⟨r_x834, rfl⟩ := q836
                refine mw_iload_n 93 rfl 3 dX10_works_92 rfl rfl ?_
                refine mw_callVv [.int x834, .int p3] [] 96 rfl dX10_works_93 ml_X10_401 mc_X10_laysNight mk_X10_laysNight rfl rfl (by decide) (w_X10_laysNight l G (d + 0) (D := B) ⟨by have := (r_p1).1; have := (r_p1).2; have := (r_p2).1; have := (r_p2).2; have := (r_p3).1; have := (r_p3).2; have := (r_p4).1; have := (r_p4).2; have := (r_x819).1; have := (r_x819).2; have := kc_m2; have := kc_m1; have := kc_0; have := kc_1; have := kc_2; have := kc_144; skip; omega, by have := (r_p1).1; have := (r_p1).2; have := (r_p2).1; have := (r_p2).2; have := (r_p3).1; have := (r_p3).2; have := (r_p4).1; have := (r_p4).2; have := (r_x819).1; have := (r_x819).2; have := kc_m2; have := kc_m1; have := kc_0; have := kc_1; have := kc_2; have := kc_144; skip; omega⟩ hI_s832 x834 (mh_r_wk r_x834 (by decide)) p3 r_p3) rfl rfl (Nat.le_of_ble_eq_true rfl) (mh_rok (by omega) (by decide)) (fun s838 q839 => ?_)
                obtain ⟨hI_s838, hG_s838⟩ := q839
                have hF_s838 : mh_F S_X10_works s0 s838 := mh_F_tl hF_s832 hG_s838 (by decide +kernel)
                refine mw_iconst (v := 0) 97 rfl dX10_works_96 (by decide) ?_
                refine mw_istore 99 rfl [(5, .int (0)), (0, .ref (G.2.2.2 57)), (1, .int p1), (2, .int p2), (3, .int p3), (4, .int p4)] dX10_works_97  (by decide) rfl ?_
                refine mw_iconst (v := 0) 100 rfl dX10_works_99 (by decide) ?_
                refine mw_istore 102 rfl [(6, .int (0)), (5, .int (0)), (0, .ref (G.2.2.2 57)), (1, .int p1), (2, .int p2), (3, .int p3), (4, .int p4)] dX10_works_100  (by decide) rfl ?_
                refine mw_bipush (v := -2) 104 rfl dX10_works_102 (by decide) ?_
                refine mw_istore 106 rfl [(7, .int (-2)), (6, .int (0)), (5, .int (0)), (0, .ref (G.2.2.2 57)), (1, .int p1), (2, .int p2), (3, .int p3), (4, .int p4)] dX10_works_104  (by decide) rfl ?_
                refine mw_iconst (v := 0) 107 rfl dX10_works_106 (by decide) ?_
                refine mw_istore 109 rfl [(8, .int (0)), (7, .int (-2)), (6, .int (0)), (5, .int (0)), (0, .ref (G.2.2.2 57)), (1, .int p1), (2, .int p2), (3, .int p3), (4, .int p4)] dX10_works_107  (by decide) rfl ?_
                refine mw_iconst (v := 0) 110 rfl dX10_works_109 (by decide) ?_
                refine mw_istore 112 rfl [(9, .int (0)), (8, .int (0)), (7, .int (-2)), (6, .int (0)), (5, .int (0)), (0, .ref (G.2.2.2 57)), (1, .int p1), (2, .int p2), (3, .int p3), (4, .int p4)] dX10_works_110  (by decide) rfl ?_
                have L112 : ∀ n2 : Nat, ∀ (x1335 : Int32) (x1336 : Int32) (x1337 : Int32) (x1338 : Int32) (x1339 : Int32), mh_r x1335 (0) (144) → mh_r x1336 (0) (2147483647) → mh_r x1337 (-2) (143) → (144) - x1335.toInt < (n2 : Int) → mh_W G (mh_XM l G (d + 10) (mh_Qi (P_X10_works B D s0 p1 p2 p3 p4))) mM_X10_works 112 [(0, .ref (G.2.2.2 57)), (1, .int p1), (2, .int p2), (3, .int p3), (4, .int p4), (5, .int x1339), (6, .int x1338), (7, .int x1337), (8, .int x1336), (9, .int x1335)] [] s838 := by
                  intro n2
                  induction n2 with
                  | zero =>
                    intro x1335 x1336 x1337 x1338 x1339 r_x1335 r_x1336 r_x1337 hmn2
                    exact absurd hmn2 (by have := r_x1335.1; have := r_x1335.2; omega)
                  | succ n2 ihn2 =>
                    intro x1335 x1336 x1337 x1338 x1339 r_x1335 r_x1336 r_x1337 hmn2
                    refine mw_iload 114 rfl 9 dX10_works_112  rfl ?_
                    refine mw_sipush (v := 144) 117 rfl dX10_works_114 (by decide) ?_
                    refine mw_icmp_ge 120 rfl 191 dX10_works_117 (by decide) (fun c1365 => ?_) (fun c1365 => ?_)
                    · skip
                      have r_x1335 : mh_r x1335 (144) (144) := mh_le2 c1365 rc_144 r_x1335 (144) (by decide)
                      refine mw_aload_n 192 rfl 0 dX10_works_191 rfl rfl ?_
                      refine mw_iconst (v := 0) 193 rfl dX10_works_192 (by decide) ?_
                      refine mw_callVv [.int (0)] [] 196 rfl dX10_works_193 ml_X10_394 mc_X10_putsBack mk_X10_putsBack rfl rfl (by decide) (w_X10_putsBack l G (d + 9) ⟨by have := (r_p1).1; have := (r_p1).2; have := (r_p2).1; have := (r_p2).2; have := (r_p3).1; have := (r_p3).2; have := (r_p4).1; have := (r_p4).2; have := (r_x1337).1; have := (r_x1337).2; have := (r_x1336).1; have := (r_x1336).2; have := (r_x1335).1; have := (r_x1335).2; have := kc_m2; have := kc_m1; have := kc_0; have := kc_1; have := kc_2; have := kc_144; skip; omega, by have := (r_p1).1; have := (r_p1).2; have := (r_p2).1; have := (r_p2).2; have := (r_p3).1; have := (r_p3).2; have := (r_p4).1; have := (r_p4).2; have := (r_x1337).1; have := (r_x1337).2; have := (r_x1336).1; have := (r_x1336).2; have := (r_x1335).1; have := (r_x1335).2; have := kc_m2; have := kc_m1; have := kc_0; have := kc_1; have := kc_2; have := kc_144; skip; omega⟩ hI_s838 (0) (mh_r_wk rc_0 (by decide))) rfl rfl (Nat.le_of_ble_eq_true rfl) (mh_rok (by omega) (by decide)) (fun s1367 q1368 => ?_)
                      obtain ⟨hI_s1367, hG_s1367⟩ := q1368
                      have hF_s1367 : mh_F S_X10_works s0 s1367 := mh_F_tl hF_s838 hG_s1367 (by decide +kernel)
                      refine mw_iload 198 rfl 4 dX10_works_196  rfl ?_
                      refine mw_if_ne 201 rfl 206 dX10_works_198 (by decide) (fun c1369 => ?_) (fun c1369 => ?_)
                      · skip
                        have r_p4 : mh_r p4 (1) (3) := mh_ne1 (show p4.toInt ≠ (0 : Int32).toInt from c1369) r_p4 rc_0 (1) (3) (by decide)
                        refine mw_iload 208 rfl 4 dX10_works_206  rfl ?_
                        refine mw_iconst (v := 1) 209 rfl dX10_works_208 (by decide) ?_
                        refine mw_icmp_ne 212 rfl 217 dX10_works_209 (by decide) (fun c1370 => ?_) (fun c1370 => ?_)
                        · skip
                          have r_p4 : mh_r p4 (2) (3) := mh_ne1 c1370 r_p4 rc_1 (2) (3) (by decide)
                          refine mw_iload 219 rfl 4 dX10_works_217  rfl ?_
                          refine mw_iconst (v := 2) 220 rfl dX10_works_219 (by decide) ?_
                          refine mw_icmp_ne 223 rfl 228 dX10_works_220 (by decide) (fun c1371 => ?_) (fun c1371 => ?_)
                          · skip
                            have r_p4 : mh_r p4 (3) (3) := mh_ne1 c1371 r_p4 rc_2 (3) (3) (by decide)
                            refine mw_iload 230 rfl 8 dX10_works_228  rfl ?_
                            exact mw_iret dX10_works_230 rfl ⟨x1336, rfl, ⟨(mh_r_wk r_x1336 (by decide)), hI_s1367, hF_s1367⟩⟩
                          · skip
                            have r_p4 : mh_r p4 (2) (2) := mh_eq1 c1371 r_p4 rc_2 (2) (2) (by decide)
                            refine mw_iload 225 rfl 7 dX10_works_223  rfl ?_
                            refine mw_goto 228 rfl 230 dX10_works_225 (by decide) ?_
                            exact mw_iret dX10_works_230 rfl ⟨x1337, rfl, ⟨(mh_r_wk r_x1337 (by decide)), hI_s1367, hF_s1367⟩⟩
                        · skip
                          have r_p4 : mh_r p4 (1) (1) := mh_eq1 c1370 r_p4 rc_1 (1) (1) (by decide)
                          refine mw_iload 214 rfl 6 dX10_works_212  rfl ?_
                          refine mw_goto 217 rfl 230 dX10_works_214 (by decide) ?_
                          exact mw_iret dX10_works_230 rfl ⟨x1338, rfl, ⟨(mh_r_full x1338), hI_s1367, hF_s1367⟩⟩
                      · skip
                        have r_p4 : mh_r p4 (0) (0) := mh_eq1 (show p4.toInt = (0 : Int32).toInt from c1369) r_p4 rc_0 (0) (0) (by decide)
                        refine mw_iload 203 rfl 5 dX10_works_201  rfl ?_
                        refine mw_goto 206 rfl 230 dX10_works_203 (by decide) ?_
                        exact mw_iret dX10_works_230 rfl ⟨x1339, rfl, ⟨(mh_r_full x1339), hI_s1367, hF_s1367⟩⟩
                    · skip
                      have r_x1335 : mh_r x1335 (0) (143) := mh_lt1 c1365 r_x1335 rc_144 (143) (by decide)
                      refine mw_aload_n 121 rfl 0 dX10_works_120 rfl rfl ?_
                      refine mw_geta 124 rfl dX10_works_121 gf_X10_24 rfl 61 (mh_rf hI_s838 58 rfl) ?_
                      refine mw_iload 126 rfl 9 dX10_works_124  rfl ?_
                      refine mw_iald 127 rfl dX10_works_126 rfl r_x1335 (by decide) (fun x1372 t1373 => ?_)
                      refine mw_aload_n 128 rfl 0 dX10_works_127 rfl rfl ?_
                      refine mw_geta 131 rfl dX10_works_128 gf_X10_110 rfl 89 (mh_rf hI_s838 86 rfl) ?_
                      refine mw_iload 133 rfl 9 dX10_works_131  rfl ?_
                      refine mw_iald 134 rfl dX10_works_133 rfl r_x1335 (by decide) (fun x1374 t1375 => ?_)
                      refine mw_isub_u 135 rfl dX10_works_134 (fun x1376 t1377 => ?_)
                      refine mw_istore 137 rfl [(10, .int x1376), (0, .ref (G.2.2.2 57)), (1, .int p1), (2, .int p2), (3, .int p3), (4, .int p4), (5, .int x1339), (6, .int x1338), (7, .int x1337), (8, .int x1336), (9, .int x1335)] dX10_works_135  (by decide) rfl ?_
                      refine mw_iload 139 rfl 6 dX10_works_137  rfl ?_
                      refine mw_iload 141 rfl 0 dX10_works_139  rfl ?_
                      have J149 : ∀ (x1379 : Int32), mh_r x1379 (0) (1) → mh_W G (mh_XM l G (d + 10) (mh_Qi (P_X10_works B D s0 p1 p2 p3 p4))) mM_X10_works 149 [(0, .ref (G.2.2.2 57)), (1, .int p1), (2, .int p2), (3, .int p3), (4, .int p4), (5, .int x1339), (6, .int x1338), (7, .int x1337), (8, .int x1336), (9, .int x1335), (10, .int x1376)] [.int x1379, .int x1339] s838 := by
                        intro x1379 r_x1379
                        refine mw_iadd_u 150 rfl dX10_works_149 (fun x1391 t1392 => ?_)
                        refine mw_istore 152 rfl [(5, .int x1391), (0, .ref (G.2.2.2 57)), (1, .int p1), (2, .int p2), (3, .int p3), (4, .int p4), (6, .int x1338), (7, .int x1337), (8, .int x1336), (9, .int x1335), (10, .int x1376)] dX10_works_150  (by decide) rfl ?_
                        refine mw_iload 154 rfl 6 dX10_works_152  rfl ?_
                        refine mw_iload 156 rfl 10 dX10_works_154  rfl ?_
                        have J164 : ∀ (x1394 : Int32), mh_r x1394 (0) (1) → mh_W G (mh_XM l G (d + 10) (mh_Qi (P_X10_works B D s0 p1 p2 p3 p4))) mM_X10_works 164 [(0, .ref (G.2.2.2 57)), (1, .int p1), (2, .int p2), (3, .int p3), (4, .int p4), (5, .int x1391), (6, .int x1338), (7, .int x1337), (8, .int x1336), (9, .int x1335), (10, .int x1376)] [.int x1394, .int x1338] s838 := by
                          intro x1394 r_x1394
                          refine mw_iadd_u 165 rfl dX10_works_164 (fun x1402 t1403 => ?_)
                          refine mw_istore 167 rfl [(6, .int x1402), (0, .ref (G.2.2.2 57)), (1, .int p1), (2, .int p2), (3, .int p3), (4, .int p4), (5, .int x1391), (7, .int x1337), (8, .int x1336), (9, .int x1335), (10, .int x1376)] dX10_works_165  (by decide) rfl ?_
                          refine mw_iload 169 rfl 10 dX10_works_167  rfl ?_
                          refine mw_iload 171 rfl 8 dX10_works_169  rfl ?_
                          have J185 : ∀ (x1405 : Int32) (x1406 : Int32), mh_r x1405 (0) (2147483647) → mh_r x1406 (-2) (143) → mh_W G (mh_XM l G (d + 10) (mh_Qi (P_X10_works B D s0 p1 p2 p3 p4))) mM_X10_works 185 [(0, .ref (G.2.2.2 57)), (1, .int p1), (2, .int p2), (3, .int p3), (4, .int p4), (5, .int x1391), (6, .int x1402), (7, .int x1406), (8, .int x1405), (9, .int x1335), (10, .int x1376)] [] s838 := by
                            intro x1405 x1406 r_x1405 r_x1406
                            refine mw_iincR (k := 9) (1) (144) 188 rfl (fun z => [(9, .int z), (0, .ref (G.2.2.2 57)), (1, .int p1), (2, .int p2), (3, .int p3), (4, .int p4), (5, .int x1391), (6, .int x1402), (7, .int x1406), (8, .int x1405), (10, .int x1376)]) dX10_works_185 rfl (by decide) (fun _ => rfl) r_x1335 (by decide) (by decide) (fun x1409 t1410 r_x1409 => ?_)
                            refine mw_goto 191 rfl 112 dX10_works_188 (by decide) ?_
                            exact mw_lv [1, 2, 3, 4, 5, 6, 7, 8, 9, 0] rfl (ihn2 x1409 x1405 x1406 x1402 x1391 (mh_r_wk r_x1409 (by decide)) r_x1405 r_x1406 (by have : x1409.toInt = x1335.toInt + (1) := t1410; omega))
                          refine mw_icmp_gt 174 rfl 177 dX10_works_171 (by decide) (fun c1411 => ?_) (fun c1411 => ?_)
                          · skip
                            have r_x1336 : mh_r x1336 (0) (2147483646) := mh_lt1 c1411 r_x1336 (mh_r_full x1376) (2147483646) (by decide)
                            have r_x1376 : mh_r x1376 (1) (2147483647) := mh_lt2 c1411 r_x1336 (mh_r_full x1376) (1) (by decide)
                            refine mw_iload 179 rfl 9 dX10_works_177  rfl ?_
                            refine mw_istore 181 rfl [(7, .int x1335), (6, .int x1402), (0, .ref (G.2.2.2 57)), (1, .int p1), (2, .int p2), (3, .int p3), (4, .int p4), (5, .int x1391), (8, .int x1336), (9, .int x1335), (10, .int x1376)] dX10_works_179  (by decide) rfl ?_
                            refine mw_iload 183 rfl 10 dX10_works_181  rfl ?_
                            refine mw_istore 185 rfl [(8, .int x1376), (7, .int x1335), (6, .int x1402), (0, .ref (G.2.2.2 57)), (1, .int p1), (2, .int p2), (3, .int p3), (4, .int p4), (5, .int x1391), (9, .int x1335), (10, .int x1376)] dX10_works_183  (by decide) rfl ?_
                            exact mw_lv [3, 4, 5, 6, 7, 8, 2, 1, 0, 9, 10] rfl (J185 x1376 x1335 (mh_r_wk r_x1376 (by decide)) (mh_r_wk r_x1335 (by decide)))
                          · skip
                            refine mw_goto 177 rfl 185 dX10_works_174 (by decide) ?_
                            exact mw_lv [1, 2, 3, 4, 5, 6, 0, 7, 8, 9, 10] rfl (J185 x1336 x1337 r_x1336 r_x1337)
                        refine mw_if_ge 159 rfl 163 dX10_works_156 (by decide) (fun c1412 => ?_) (fun c1412 => ?_)
                        · skip
                          have r_x1376 : mh_r x1376 (0) (2147483647) := mh_le2 (show (0 : Int32).toInt ≤ x1376.toInt from c1412) rc_0 (mh_r_full x1376) (0) (by decide)
                          refine mw_iconst (v := 0) 164 rfl dX10_works_163 (by decide) ?_
                          exact mw_lv [1, 2, 3, 4, 5, 0, 6, 7, 8, 9, 10] rfl (J164 (0) (mh_r_wk rc_0 (by decide)))
                        · skip
                          have r_x1376 : mh_r x1376 (-2147483648) (-1) := mh_lt1 (show x1376.toInt < (0 : Int32).toInt from c1412) (mh_r_full x1376) rc_0 (-1) (by decide)
                          refine mw_iconst (v := 1) 160 rfl dX10_works_159 (by decide) ?_
                          refine mw_goto 163 rfl 164 dX10_works_160 (by decide) ?_
                          exact mw_lv [1, 2, 3, 4, 5, 0, 6, 7, 8, 9, 10] rfl (J164 (1) (mh_r_wk rc_1 (by decide)))
                      refine mw_if_le 144 rfl 148 dX10_works_141 (by decide) (fun c1413 => ?_) (fun c1413 => ?_)
                      · skip
                        have r_x1376 : mh_r x1376 (-2147483648) (0) := mh_le1 (show x1376.toInt ≤ (0 : Int32).toInt from c1413) (mh_r_full x1376) rc_0 (0) (by decide)
                        refine mw_iconst (v := 0) 149 rfl dX10_works_148 (by decide) ?_
                        exact mw_lv [1, 2, 3, 4, 5, 6, 7, 8, 9, 10, 0] rfl (J149 (0) (mh_r_wk rc_0 (by decide)))
                      · skip
                        have r_x1376 : mh_r x1376 (1) (2147483647) := mh_lt2 (show (0 : Int32).toInt < x1376.toInt from c1413) rc_0 (mh_r_full x1376) (1) (by decide)
                        refine mw_iconst (v := 1) 145 rfl dX10_works_144 (by decide) ?_
                        refine mw_goto 148 rfl 149 dX10_works_145 (by decide) ?_
                        exact mw_lv [1, 2, 3, 4, 5, 6, 7, 8, 9, 10, 0] rfl (J149 (1) (mh_r_wk rc_1 (by decide)))
                exact mw_lv [5, 6, 7, 8, 9, 4, 3, 2, 1, 0] rfl (L112 145 (0) (0) (-2) (0) (0) (mh_r_wk rc_0 (by decide)) (mh_r_wk rc_0 (by decide)) (mh_r_wk rc_m2 (by decide)) (by have := (rc_0).1; have := (rc_0).2; omega))
              · skip
                have r_x819 : mh_r x819 (0) (143) := mh_lt1 c830 r_x819 rc_144 (143) (by decide)
                refine mw_aload_n 62 rfl 0 dX10_works_61 rfl rfl ?_
                refine mw_geta 65 rfl dX10_works_62 gf_X10_110 rfl 89 (mh_rf hI_s820 86 rfl) ?_
                refine mw_iload 67 rfl 5 dX10_works_65  rfl ?_
                refine mw_aload_n 68 rfl 0 dX10_works_67 rfl rfl ?_
                refine mw_geta 71 rfl dX10_works_68 gf_X10_24 rfl 61 (mh_rf hI_s820 58 rfl) ?_
                refine mw_iload 73 rfl 5 dX10_works_71  rfl ?_
                refine mw_iald 74 rfl dX10_works_73 rfl r_x819 (by decide) (fun x1414 t1415 => ?_)
                refine mw_iast 75 rfl dX10_works_74 rfl r_x819 (by decide) (fun s1416 t1417 => ?_)
                have hI_s1416 : mh_I (B + 60) B s1416 := by rw [t1417]; exact wr_89 hI_s820
                have hF_s1416 : mh_F S_X10_works s0 s1416 := by rw [t1417]; exact mh_F_pI hF_s820 (mh_si 22 rfl)
                refine mw_iincR (k := 5) (1) (144) 78 rfl (fun z => [(5, .int z), (0, .ref (G.2.2.2 57)), (1, .int p1), (2, .int p2), (3, .int p3), (4, .int p4)]) dX10_works_75 rfl (by decide) (fun _ => rfl) r_x819 (by decide) (by decide) (fun x1418 t1419 r_x1418 => ?_)
                refine mw_goto 81 rfl 53 dX10_works_78 (by decide) ?_
                exact mw_lv [1, 2, 3, 4, 5, 0] rfl (ihn1 x1418 s1416 (mh_r_wk r_x1418 (by decide)) hI_s1416 hF_s1416 (by have : x1418.toInt = x819.toInt + (1) := t1419; omega))
          exact mw_lv [1, 2, 3, 4, 5, 0] rfl (L53 145 (0) s720 (mh_r_wk rc_0 (by decide)) hI_s720 hF_s720 (by have := (rc_0).1; have := (rc_0).2; omega))
        · skip
          have r_x716 : mh_r x716 (2) (2) := mh_eq1 c718 (mh_r_full x716) rc_2 (2) (2) (by decide)
          refine mw_iconst (v := -1) 43 rfl dX10_works_42 (by decide) ?_
          exact mw_iret dX10_works_43 rfl ⟨(-1), rfl, ⟨(mh_r_wk rc_m1 (by decide)), hI0, hF0⟩⟩

def S_X10_dam : List (Nat × Nat) := [(83, 9999), (84, 9999), (85, 9999), (86, 9999), (87, 9999), (88, 9999), (60, 9999), (57, 33), (57, 34), (57, 35), (57, 36), (57, 37), (78, 9999), (77, 9999), (79, 9999), (80, 9999), (61, 9999), (62, 9999), (82, 9999), (81, 9999), (57, 4), (57, 2), (59, 9999)]
def P_X10_dam (B D : Int) (s0 : mh_H) (p1 : Int32) (p2 : Int32) (p3 : Int32) : Int32 → mh_H → Prop := fun z s => mh_r z (-2147483648) (2147483647) ∧ mh_I B B s ∧ mh_F S_X10_dam s0 s
set_option maxRecDepth 100000 in
set_option maxHeartbeats 4000000 in
theorem w_X10_dam (l : Launch) (G : mh_G) (d : Nat) {B D : Int} (hB : B ≤ 1800000000 ∧ D ≤ 1800000000) {s0 : mh_H} (hI0 : mh_I B B s0) (p1 : Int32) (p2 : Int32) (p3 : Int32) : mh_Mi l G (d + 10) mM_X10_dam [.ref (G.2.2.2 57), .int p1, .int p2, .int p3] s0 (P_X10_dam B D s0 p1 p2 p3) := by
  refine mh_enter (lv := [(0, .ref (G.2.2.2 57)), (1, .int p1), (2, .int p2), (3, .int p3)]) (by decide) rfl (Nat.le_of_ble_eq_true rfl) ?_
  have hF0 : mh_F S_X10_dam s0 s0 := mh_F_rf
  refine mw_iload_n 1 rfl 1 dX10_dam_0 rfl rfl ?_
  refine mw_i2l 2 rfl dX10_dam_1 (fun y267 t268 => ?_)
  refine mw_lconst (v := 0) 3 rfl dX10_dam_2 (by decide) ?_
  refine mw_ldc2 6 rfl dX10_dam_3 ck_X10_404 ?_
  refine mw_callSi [.long y267, .long (0), .long (143)] [] 9 rfl dX10_dam_6 ml_X10_154 mc_X10_lies mk_X10_lies (w_X10_lies l G (d + 9) ⟨by have := kc_m1; have := kc_0; have := kc_1; have := kc_144; skip; omega, by have := kc_m1; have := kc_0; have := kc_1; have := kc_144; skip; omega⟩ hI0 y267 (0) (143)) rfl rfl (Nat.le_of_ble_eq_true rfl) (mh_rok (by omega) (by decide)) (fun x269 s270 q271 => ?_)
  obtain ⟨r_x269, e0_s270, rfl⟩ := q271
  have f_x269 : x269.toInt = 1 ↔ (0 ≤ p1.toInt ∧ p1.toInt ≤ 143) := by rw [e0_s270]; exact by simp only [t268, Int32.toInt_toInt64]; first | done | exact Iff.rfl
  refine mw_if_eq 12 rfl 34 dX10_dam_9 (by decide) (fun c272 => ?_) (fun c272 => ?_)
  · skip
    have r_x269 : mh_r x269 (0) (0) := mh_eq1 (show x269.toInt = (0 : Int32).toInt from c272) r_x269 rc_0 (0) (0) (by decide)
    refine mw_iconst (v := -1) 35 rfl dX10_dam_34 (by decide) ?_
    exact mw_iret dX10_dam_35 rfl ⟨(-1), rfl, ⟨(mh_r_wk rc_m1 (by decide)), hI0, hF0⟩⟩
  · skip
    have r_p1 : mh_r p1 (0) (143) := ⟨by have := f_x269.1 (mh_z1 r_x269 c272); have := ((mh_r_full p1)).1; omega, by have := f_x269.1 (mh_z1 r_x269 c272); have := ((mh_r_full p1)).2; omega⟩
    have r_x269 : mh_r x269 (1) (1) := mh_ne1 (show x269.toInt ≠ (0 : Int32).toInt from c272) r_x269 rc_0 (1) (1) (by decide)
    refine mw_iload_n 13 rfl 2 dX10_dam_12 rfl rfl ?_
    refine mw_i2l 14 rfl dX10_dam_13 (fun y273 t274 => ?_)
    refine mw_lconst (v := 1) 15 rfl dX10_dam_14 (by decide) ?_
    refine mw_ldc2 18 rfl dX10_dam_15 ck_X10_406 ?_
    refine mw_callSi [.long y273, .long (1), .long (20)] [] 21 rfl dX10_dam_18 ml_X10_154 mc_X10_lies mk_X10_lies (w_X10_lies l G (d + 9) ⟨by have := (r_p1).1; have := (r_p1).2; have := kc_m1; have := kc_0; have := kc_1; have := kc_144; skip; omega, by have := (r_p1).1; have := (r_p1).2; have := kc_m1; have := kc_0; have := kc_1; have := kc_144; skip; omega⟩ hI0 y273 (1) (20)) rfl rfl (Nat.le_of_ble_eq_true rfl) (mh_rok (by omega) (by decide)) (fun x275 s276 q277 => ?_)
    obtain ⟨r_x275, e0_s276, rfl⟩ := q277
    have f_x275 : x275.toInt = 1 ↔ (1 ≤ p2.toInt ∧ p2.toInt ≤ 20) := by rw [e0_s276]; exact by simp only [t274, Int32.toInt_toInt64]; first | done | exact Iff.rfl
    refine mw_if_eq 24 rfl 34 dX10_dam_21 (by decide) (fun c278 => ?_) (fun c278 => ?_)
    · skip
      have r_x275 : mh_r x275 (0) (0) := mh_eq1 (show x275.toInt = (0 : Int32).toInt from c278) r_x275 rc_0 (0) (0) (by decide)
      refine mw_iconst (v := -1) 35 rfl dX10_dam_34 (by decide) ?_
      exact mw_iret dX10_dam_35 rfl ⟨(-1), rfl, ⟨(mh_r_wk rc_m1 (by decide)), hI0, hF0⟩⟩
    · skip
      have r_p2 : mh_r p2 (1) (20) := ⟨by have := f_x275.1 (mh_z1 r_x275 c278); have := ((mh_r_full p2)).1; omega, by have := f_x275.1 (mh_z1 r_x275 c278); have := ((mh_r_full p2)).2; omega⟩
      have r_x275 : mh_r x275 (1) (1) := mh_ne1 (show x275.toInt ≠ (0 : Int32).toInt from c278) r_x275 rc_0 (1) (1) (by decide)
      refine mw_iload_n 25 rfl 3 dX10_dam_24 rfl rfl ?_
      refine mw_i2l 26 rfl dX10_dam_25 (fun y279 t280 => ?_)
      refine mw_lconst (v := 0) 27 rfl dX10_dam_26 (by decide) ?_
      refine mw_lconst (v := 1) 28 rfl dX10_dam_27 (by decide) ?_
      refine mw_callSi [.long y279, .long (0), .long (1)] [] 31 rfl dX10_dam_28 ml_X10_154 mc_X10_lies mk_X10_lies (w_X10_lies l G (d + 9) ⟨by have := (r_p1).1; have := (r_p1).2; have := (r_p2).1; have := (r_p2).2; have := kc_m1; have := kc_0; have := kc_1; have := kc_144; skip; omega, by have := (r_p1).1; have := (r_p1).2; have := (r_p2).1; have := (r_p2).2; have := kc_m1; have := kc_0; have := kc_1; have := kc_144; skip; omega⟩ hI0 y279 (0) (1)) rfl rfl (Nat.le_of_ble_eq_true rfl) (mh_rok (by omega) (by decide)) (fun x281 s282 q283 => ?_)
      obtain ⟨r_x281, e0_s282, rfl⟩ := q283
      have f_x281 : x281.toInt = 1 ↔ (0 ≤ p3.toInt ∧ p3.toInt ≤ 1) := by rw [e0_s282]; exact by simp only [t280, Int32.toInt_toInt64]; first | done | exact Iff.rfl
      refine mw_if_ne 34 rfl 36 dX10_dam_31 (by decide) (fun c284 => ?_) (fun c284 => ?_)
      · skip
        have r_p3 : mh_r p3 (0) (1) := ⟨by have := f_x281.1 (mh_z1 r_x281 c284); have := ((mh_r_full p3)).1; omega, by have := f_x281.1 (mh_z1 r_x281 c284); have := ((mh_r_full p3)).2; omega⟩
        have r_x281 : mh_r x281 (1) (1) := mh_ne1 (show x281.toInt ≠ (0 : Int32).toInt from c284) r_x281 rc_0 (1) (1) (by decide)
        refine mw_iconst (v := -1) 37 rfl dX10_dam_36 (by decide) ?_
        refine mw_istore 39 rfl [(4, .int (-1)), (0, .ref (G.2.2.2 57)), (1, .int p1), (2, .int p2), (3, .int p3)] dX10_dam_37  (by decide) rfl ?_
        refine mw_iconst (v := 0) 40 rfl dX10_dam_39 (by decide) ?_
        refine mw_istore 42 rfl [(5, .int (0)), (4, .int (-1)), (0, .ref (G.2.2.2 57)), (1, .int p1), (2, .int p2), (3, .int p3)] dX10_dam_40  (by decide) rfl ?_
        refine mw_iconst (v := 0) 43 rfl dX10_dam_42 (by decide) ?_
        refine mw_istore 45 rfl [(6, .int (0)), (5, .int (0)), (4, .int (-1)), (0, .ref (G.2.2.2 57)), (1, .int p1), (2, .int p2), (3, .int p3)] dX10_dam_43  (by decide) rfl ?_
        have L45 : ∀ n1 : Nat, ∀ (x490 : Int32) (x491 : Int32) (x492 : Int32) (s493 : mh_H), mh_r x490 (0) (144) → mh_r x492 (-1) (143) → mh_I B B s493 → mh_F S_X10_dam s0 s493 → (144) - x490.toInt < (n1 : Int) → mh_W G (mh_XM l G (d + 10) (mh_Qi (P_X10_dam B D s0 p1 p2 p3))) mM_X10_dam 45 [(0, .ref (G.2.2.2 57)), (1, .int p1), (2, .int p2), (3, .int p3), (4, .int x492), (5, .int x491), (6, .int x490)] [] s493 := by
          intro n1
          induction n1 with
          | zero =>
            intro x490 x491 x492 s493 r_x490 r_x492 hI_s493 hF_s493 hmn1
            exact absurd hmn1 (by have := r_x490.1; have := r_x490.2; omega)
          | succ n1 ihn1 =>
            intro x490 x491 x492 s493 r_x490 r_x492 hI_s493 hF_s493 hmn1
            refine mw_iload 47 rfl 6 dX10_dam_45  rfl ?_
            refine mw_sipush (v := 144) 50 rfl dX10_dam_47 (by decide) ?_
            refine mw_icmp_ge 53 rfl 112 dX10_dam_50 (by decide) (fun c515 => ?_) (fun c515 => ?_)
            · skip
              have r_x490 : mh_r x490 (144) (144) := mh_le2 c515 rc_144 r_x490 (144) (by decide)
              refine mw_iload_n 113 rfl 3 dX10_dam_112 rfl rfl ?_
              refine mw_if_ne 116 rfl 121 dX10_dam_113 (by decide) (fun c516 => ?_) (fun c516 => ?_)
              · skip
                have r_p3 : mh_r p3 (1) (1) := mh_ne1 (show p3.toInt ≠ (0 : Int32).toInt from c516) r_p3 rc_0 (1) (1) (by decide)
                refine mw_iload 123 rfl 5 dX10_dam_121  rfl ?_
                exact mw_iret dX10_dam_123 rfl ⟨x491, rfl, ⟨(mh_r_full x491), hI_s493, hF_s493⟩⟩
              · skip
                have r_p3 : mh_r p3 (0) (0) := mh_eq1 (show p3.toInt = (0 : Int32).toInt from c516) r_p3 rc_0 (0) (0) (by decide)
                refine mw_iload 118 rfl 4 dX10_dam_116  rfl ?_
                refine mw_goto 121 rfl 123 dX10_dam_118 (by decide) ?_
                exact mw_iret dX10_dam_123 rfl ⟨x492, rfl, ⟨(mh_r_wk r_x492 (by decide)), hI_s493, hF_s493⟩⟩
            · skip
              have r_x490 : mh_r x490 (0) (143) := mh_lt1 c515 r_x490 rc_144 (143) (by decide)
              refine mw_iload 55 rfl 6 dX10_dam_53  rfl ?_
              refine mw_iload_n 56 rfl 1 dX10_dam_55 rfl rfl ?_
              have J106 : ∀ (x528 : Int32) (x529 : Int32) (s530 : mh_H), mh_r x528 (-1) (143) → mh_I B B s530 → mh_F S_X10_dam s0 s530 → mh_W G (mh_XM l G (d + 10) (mh_Qi (P_X10_dam B D s0 p1 p2 p3))) mM_X10_dam 106 [(0, .ref (G.2.2.2 57)), (1, .int p1), (2, .int p2), (3, .int p3), (4, .int x528), (5, .int x529), (6, .int x490)] [] s530 := by
                intro x528 x529 s530 r_x528 hI_s530 hF_s530
                refine mw_iincR (k := 6) (1) (144) 109 rfl (fun z => [(6, .int z), (0, .ref (G.2.2.2 57)), (1, .int p1), (2, .int p2), (3, .int p3), (4, .int x528), (5, .int x529)]) dX10_dam_106 rfl (by decide) (fun _ => rfl) r_x490 (by decide) (by decide) (fun x533 t534 r_x533 => ?_)
                refine mw_goto 112 rfl 45 dX10_dam_109 (by decide) ?_
                exact mw_lv [1, 2, 3, 4, 5, 6, 0] rfl (ihn1 x533 x529 x528 s530 (mh_r_wk r_x533 (by decide)) r_x528 hI_s530 hF_s530 (by have : x533.toInt = x490.toInt + (1) := t534; omega))
              refine mw_icmp_ne 59 rfl 62 dX10_dam_56 (by decide) (fun c535 => ?_) (fun c535 => ?_)
              · skip
                refine mw_aload_n 63 rfl 0 dX10_dam_62 rfl rfl ?_
                refine mw_iload 65 rfl 6 dX10_dam_63  rfl ?_
                refine mw_iload_n 66 rfl 2 dX10_dam_65 rfl rfl ?_
                refine mw_callVv [.int x490, .int p2] [] 69 rfl dX10_dam_66 ml_X10_401 mc_X10_laysNight mk_X10_laysNight rfl rfl (by decide) (w_X10_laysNight l G (d + 0) (D := B) ⟨by have := (r_p1).1; have := (r_p1).2; have := (r_p2).1; have := (r_p2).2; have := (r_p3).1; have := (r_p3).2; have := (r_x492).1; have := (r_x492).2; have := (r_x490).1; have := (r_x490).2; have := kc_m1; have := kc_0; have := kc_1; have := kc_144; skip; omega, by have := (r_p1).1; have := (r_p1).2; have := (r_p2).1; have := (r_p2).2; have := (r_p3).1; have := (r_p3).2; have := (r_x492).1; have := (r_x492).2; have := (r_x490).1; have := (r_x490).2; have := kc_m1; have := kc_0; have := kc_1; have := kc_144; skip; omega⟩ hI_s493 x490 (mh_r_wk r_x490 (by decide)) p2 (mh_r_wk r_p2 (by decide))) rfl rfl (Nat.le_of_ble_eq_true rfl) (mh_rok (by omega) (by decide)) (fun s537 q538 => ?_)
                obtain ⟨hI_s537, hG_s537⟩ := q538
                have hF_s537 : mh_F S_X10_dam s0 s537 := mh_F_tl hF_s493 hG_s537 (by decide +kernel)
                refine mw_aload_n 70 rfl 0 dX10_dam_69 rfl rfl ?_
                refine mw_geta 73 rfl dX10_dam_70 gf_X10_24 rfl 61 (mh_rf hI_s537 58 rfl) ?_
                refine mw_iload_n 74 rfl 1 dX10_dam_73 rfl rfl ?_
                refine mw_iald 75 rfl dX10_dam_74 rfl r_p1 (by decide) (fun x539 t540 => ?_)
                refine mw_istore 77 rfl [(7, .int x539), (0, .ref (G.2.2.2 57)), (1, .int p1), (2, .int p2), (3, .int p3), (4, .int x492), (5, .int x491), (6, .int x490)] dX10_dam_75  (by decide) rfl ?_
                refine mw_aload_n 78 rfl 1 dX10_dam_77 rfl rfl ?_
                refine mw_iconst (v := 0) 79 rfl dX10_dam_78 (by decide) ?_
                refine mw_callVv [.int (0)] [] 82 rfl dX10_dam_79 ml_X10_394 mc_X10_putsBack mk_X10_putsBack rfl rfl (by decide) (w_X10_putsBack l G (d + 9) ⟨by have := (r_p1).1; have := (r_p1).2; have := (r_p2).1; have := (r_p2).2; have := (r_p3).1; have := (r_p3).2; have := (r_x492).1; have := (r_x492).2; have := (r_x490).1; have := (r_x490).2; have := kc_m1; have := kc_0; have := kc_1; have := kc_144; skip; omega, by have := (r_p1).1; have := (r_p1).2; have := (r_p2).1; have := (r_p2).2; have := (r_p3).1; have := (r_p3).2; have := (r_x492).1; have := (r_x492).2; have := (r_x490).1; have := (r_x490).2; have := kc_m1; have := kc_0; have := kc_1; have := kc_144; skip; omega⟩ hI_s537 (0) (mh_r_wk rc_0 (by decide))) rfl rfl (Nat.le_of_ble_eq_true rfl) (mh_rok (by omega) (by decide)) (fun s542 q543 => ?_)
                obtain ⟨hI_s542, hG_s542⟩ := q543
                have hF_s542 : mh_F S_X10_dam s0 s542 := mh_F_tl hF_s537 hG_s542 (by decide +kernel)
                refine mw_iload 84 rfl 5 dX10_dam_82  rfl ?_
                refine mw_iconst (v := -1) 85 rfl dX10_dam_84 (by decide) ?_
                have J98 : mh_W G (mh_XM l G (d + 10) (mh_Qi (P_X10_dam B D s0 p1 p2 p3))) mM_X10_dam 98 [(0, .ref (G.2.2.2 57)), (1, .int p1), (2, .int p2), (3, .int p3), (4, .int x492), (5, .int x491), (6, .int x490), (7, .int x539)] [] s542 := by
                  skip
                  refine mw_iload 100 rfl 6 dX10_dam_98  rfl ?_
                  refine mw_istore 102 rfl [(4, .int x490), (0, .ref (G.2.2.2 57)), (1, .int p1), (2, .int p2), (3, .int p3), (5, .int x491), (6, .int x490), (7, .int x539)] dX10_dam_100  (by decide) rfl ?_
                  refine mw_iload 104 rfl 7 dX10_dam_102  rfl ?_
                  refine mw_istore 106 rfl [(5, .int x539), (4, .int x490), (0, .ref (G.2.2.2 57)), (1, .int p1), (2, .int p2), (3, .int p3), (6, .int x490), (7, .int x539)] dX10_dam_104  (by decide) rfl ?_
                  exact mw_lv [2, 3, 4, 5, 1, 0, 6] rfl (J106 x490 x539 s542 (mh_r_wk r_x490 (by decide)) hI_s542 hF_s542)
                refine mw_icmp_eq 88 rfl 98 dX10_dam_85 (by decide) (fun c546 => ?_) (fun c546 => ?_)
                · skip
                  have r_x492 : mh_r x492 (-1) (-1) := mh_eq1 c546 r_x492 rc_m1 (-1) (-1) (by decide)
                  exact mw_lv [1, 2, 3, 4, 5, 6, 7, 0] rfl (J98)
                · skip
                  have r_x492 : mh_r x492 (0) (143) := mh_ne1 c546 r_x492 rc_m1 (0) (143) (by decide)
                  refine mw_iload 90 rfl 0 dX10_dam_88  rfl ?_
                  refine mw_iload 92 rfl 6 dX10_dam_90  rfl ?_
                  refine mw_icmp_lt 95 rfl 98 dX10_dam_92 (by decide) (fun c547 => ?_) (fun c547 => ?_)
                  · skip
                    have r_x539 : mh_r x539 (-2147483648) (2147483646) := mh_lt1 c547 (mh_r_full x539) (mh_r_full x491) (2147483646) (by decide)
                    have r_x491 : mh_r x491 (-2147483647) (2147483647) := mh_lt2 c547 r_x539 (mh_r_full x491) (-2147483647) (by decide)
                    exact mw_lv [1, 2, 3, 4, 5, 6, 7, 0] rfl (J98)
                  · skip
                    refine mw_goto 98 rfl 106 dX10_dam_95 (by decide) ?_
                    exact mw_lv [1, 2, 3, 4, 5, 6, 7] rfl (J106 x492 x491 s542 (mh_r_wk r_x492 (by decide)) hI_s542 hF_s542)
              · skip
                refine mw_goto 62 rfl 106 dX10_dam_59 (by decide) ?_
                exact mw_lv [0, 1, 2, 3, 4, 5, 6] rfl (J106 x492 x491 s493 r_x492 hI_s493 hF_s493)
        exact mw_lv [3, 4, 5, 6, 2, 1, 0] rfl (L45 145 (0) (0) (-1) s0 (mh_r_wk rc_0 (by decide)) (mh_r_wk rc_m1 (by decide)) hI0 hF0 (by have := (rc_0).1; have := (rc_0).2; omega))
      · skip
        have r_x281 : mh_r x281 (0) (0) := mh_eq1 (show x281.toInt = (0 : Int32).toInt from c284) r_x281 rc_0 (0) (0) (by decide)
        refine mw_iconst (v := -1) 35 rfl dX10_dam_34 (by decide) ?_
        exact mw_iret dX10_dam_35 rfl ⟨(-1), rfl, ⟨(mh_r_wk rc_m1 (by decide)), hI0, hF0⟩⟩

def S_X10_road : List (Nat × Nat) := [(90, 9999), (91, 9999), (92, 9999), (93, 9999), (94, 9999)]
def P_X10_road (B D : Int) (s0 : mh_H) (p1 : Int32) (p2 : Int32) (p3 : Int32) (p4 : Int32) (p5 : Int32) : Int32 → mh_H → Prop := fun z s => mh_r z (0) (1) ∧ mh_I B D s ∧ mh_F S_X10_road s0 s
set_option maxRecDepth 100000 in
set_option maxHeartbeats 4000000 in
theorem w_X10_road (l : Launch) (G : mh_G) (d : Nat) {B D : Int} (hB : B ≤ 1960000000 ∧ D ≤ 1960000000) {s0 : mh_H} (hI0 : mh_I B D s0) (p1 : Int32) (p2 : Int32) (p3 : Int32) (p4 : Int32) (p5 : Int32) : mh_Mi l G (d + 2) mM_X10_road [.ref (G.2.2.2 57), .int p1, .int p2, .int p3, .int p4, .int p5] s0 (P_X10_road B D s0 p1 p2 p3 p4 p5) := by
  refine mh_enter (lv := [(0, .ref (G.2.2.2 57)), (1, .int p1), (2, .int p2), (3, .int p3), (4, .int p4), (5, .int p5)]) (by decide) rfl (Nat.le_of_ble_eq_true rfl) ?_
  have hF0 : mh_F S_X10_road s0 s0 := mh_F_rf
  refine mw_iload_n 1 rfl 1 dX10_road_0 rfl rfl ?_
  refine mw_i2l 2 rfl dX10_road_1 (fun y38 t39 => ?_)
  refine mw_lconst (v := 0) 3 rfl dX10_road_2 (by decide) ?_
  refine mw_ldc2 6 rfl dX10_road_3 ck_X10_408 ?_
  refine mw_callSi [.long y38, .long (0), .long (19)] [] 9 rfl dX10_road_6 ml_X10_154 mc_X10_lies mk_X10_lies (w_X10_lies l G (d + 1) ⟨by omega, by omega⟩ hI0 y38 (0) (19)) rfl rfl (Nat.le_of_ble_eq_true rfl) (mh_rok (by omega) (by decide)) (fun x40 s41 q42 => ?_)
  obtain ⟨r_x40, e0_s41, rfl⟩ := q42
  have f_x40 : x40.toInt = 1 ↔ (0 ≤ p1.toInt ∧ p1.toInt ≤ 19) := by rw [e0_s41]; exact by simp only [t39, Int32.toInt_toInt64]; first | done | exact Iff.rfl
  refine mw_if_eq 12 rfl 57 dX10_road_9 (by decide) (fun c43 => ?_) (fun c43 => ?_)
  · skip
    have r_x40 : mh_r x40 (0) (0) := mh_eq1 (show x40.toInt = (0 : Int32).toInt from c43) r_x40 rc_0 (0) (0) (by decide)
    refine mw_iconst (v := 0) 58 rfl dX10_road_57 (by decide) ?_
    exact mw_zret dX10_road_58 rfl (mh_r_wk rc_0 (by decide)) ⟨(0), rfl, ⟨(mh_r_wk rc_0 (by decide)), hI0, hF0⟩⟩
  · skip
    have r_p1 : mh_r p1 (0) (19) := ⟨by have := f_x40.1 (mh_z1 r_x40 c43); have := ((mh_r_full p1)).1; omega, by have := f_x40.1 (mh_z1 r_x40 c43); have := ((mh_r_full p1)).2; omega⟩
    have r_x40 : mh_r x40 (1) (1) := mh_ne1 (show x40.toInt ≠ (0 : Int32).toInt from c43) r_x40 rc_0 (1) (1) (by decide)
    refine mw_iload_n 13 rfl 2 dX10_road_12 rfl rfl ?_
    refine mw_callSi [.int p2] [] 16 rfl dX10_road_13 ml_X10_410 mc_X10_isNode mk_X10_isNode (w_X10_isNode l G (d + 0) ⟨by omega, by omega⟩ hI0 p2) rfl rfl (Nat.le_of_ble_eq_true rfl) (mh_rok (by omega) (by decide)) (fun x44 s45 q46 => ?_)
    obtain ⟨r_x44, e0_s45, rfl⟩ := q46
    refine mw_if_eq 19 rfl 57 dX10_road_16 (by decide) (fun c47 => ?_) (fun c47 => ?_)
    · skip
      have r_x44 : mh_r x44 (0) (0) := mh_eq1 (show x44.toInt = (0 : Int32).toInt from c47) r_x44 rc_0 (0) (0) (by decide)
      refine mw_iconst (v := 0) 58 rfl dX10_road_57 (by decide) ?_
      exact mw_zret dX10_road_58 rfl (mh_r_wk rc_0 (by decide)) ⟨(0), rfl, ⟨(mh_r_wk rc_0 (by decide)), hI0, hF0⟩⟩
    · skip
      have r_p2 : mh_r p2 (0) (9) := ⟨by have := e0_s45.1 (mh_z1 r_x44 c47); have := ((mh_r_full p2)).1; omega, by have := e0_s45.1 (mh_z1 r_x44 c47); have := ((mh_r_full p2)).2; omega⟩
      have r_x44 : mh_r x44 (1) (1) := mh_ne1 (show x44.toInt ≠ (0 : Int32).toInt from c47) r_x44 rc_0 (1) (1) (by decide)
      refine mw_iload_n 20 rfl 3 dX10_road_19 rfl rfl ?_
      refine mw_callSi [.int p3] [] 23 rfl dX10_road_20 ml_X10_410 mc_X10_isNode mk_X10_isNode (w_X10_isNode l G (d + 0) ⟨by omega, by omega⟩ hI0 p3) rfl rfl (Nat.le_of_ble_eq_true rfl) (mh_rok (by omega) (by decide)) (fun x48 s49 q50 => ?_)
      obtain ⟨r_x48, e0_s49, rfl⟩ := q50
      refine mw_if_eq 26 rfl 57 dX10_road_23 (by decide) (fun c51 => ?_) (fun c51 => ?_)
      · skip
        have r_x48 : mh_r x48 (0) (0) := mh_eq1 (show x48.toInt = (0 : Int32).toInt from c51) r_x48 rc_0 (0) (0) (by decide)
        refine mw_iconst (v := 0) 58 rfl dX10_road_57 (by decide) ?_
        exact mw_zret dX10_road_58 rfl (mh_r_wk rc_0 (by decide)) ⟨(0), rfl, ⟨(mh_r_wk rc_0 (by decide)), hI0, hF0⟩⟩
      · skip
        have r_p3 : mh_r p3 (0) (9) := ⟨by have := e0_s49.1 (mh_z1 r_x48 c51); have := ((mh_r_full p3)).1; omega, by have := e0_s49.1 (mh_z1 r_x48 c51); have := ((mh_r_full p3)).2; omega⟩
        have r_x48 : mh_r x48 (1) (1) := mh_ne1 (show x48.toInt ≠ (0 : Int32).toInt from c51) r_x48 rc_0 (1) (1) (by decide)
        refine mw_iload_n 27 rfl 2 dX10_road_26 rfl rfl ?_
        refine mw_iload_n 28 rfl 3 dX10_road_27 rfl rfl ?_
        refine mw_icmp_eq 31 rfl 57 dX10_road_28 (by decide) (fun c52 => ?_) (fun c52 => ?_)
        · skip
          refine mw_iconst (v := 0) 58 rfl dX10_road_57 (by decide) ?_
          exact mw_zret dX10_road_58 rfl (mh_r_wk rc_0 (by decide)) ⟨(0), rfl, ⟨(mh_r_wk rc_0 (by decide)), hI0, hF0⟩⟩
        · skip
          refine mw_iload 33 rfl 4 dX10_road_31  rfl ?_
          refine mw_i2l 34 rfl dX10_road_33 (fun y53 t54 => ?_)
          refine mw_lconst (v := 1) 35 rfl dX10_road_34 (by decide) ?_
          refine mw_ldc2 38 rfl dX10_road_35 ck_X10_170 ?_
          refine mw_callSi [.long y53, .long (1), .long (99)] [] 41 rfl dX10_road_38 ml_X10_154 mc_X10_lies mk_X10_lies (w_X10_lies l G (d + 1) ⟨by omega, by omega⟩ hI0 y53 (1) (99)) rfl rfl (Nat.le_of_ble_eq_true rfl) (mh_rok (by omega) (by decide)) (fun x55 s56 q57 => ?_)
          obtain ⟨r_x55, e0_s56, rfl⟩ := q57
          have f_x55 : x55.toInt = 1 ↔ (1 ≤ p4.toInt ∧ p4.toInt ≤ 99) := by rw [e0_s56]; exact by simp only [t54, Int32.toInt_toInt64]; first | done | exact Iff.rfl
          refine mw_if_eq 44 rfl 57 dX10_road_41 (by decide) (fun c58 => ?_) (fun c58 => ?_)
          · skip
            have r_x55 : mh_r x55 (0) (0) := mh_eq1 (show x55.toInt = (0 : Int32).toInt from c58) r_x55 rc_0 (0) (0) (by decide)
            refine mw_iconst (v := 0) 58 rfl dX10_road_57 (by decide) ?_
            exact mw_zret dX10_road_58 rfl (mh_r_wk rc_0 (by decide)) ⟨(0), rfl, ⟨(mh_r_wk rc_0 (by decide)), hI0, hF0⟩⟩
          · skip
            have r_p4 : mh_r p4 (1) (99) := ⟨by have := f_x55.1 (mh_z1 r_x55 c58); have := ((mh_r_full p4)).1; omega, by have := f_x55.1 (mh_z1 r_x55 c58); have := ((mh_r_full p4)).2; omega⟩
            have r_x55 : mh_r x55 (1) (1) := mh_ne1 (show x55.toInt ≠ (0 : Int32).toInt from c58) r_x55 rc_0 (1) (1) (by decide)
            refine mw_iload 46 rfl 5 dX10_road_44  rfl ?_
            refine mw_i2l 47 rfl dX10_road_46 (fun y59 t60 => ?_)
            refine mw_lconst (v := 0) 48 rfl dX10_road_47 (by decide) ?_
            refine mw_ldc2 51 rfl dX10_road_48 ck_X10_404 ?_
            refine mw_callSi [.long y59, .long (0), .long (143)] [] 54 rfl dX10_road_51 ml_X10_154 mc_X10_lies mk_X10_lies (w_X10_lies l G (d + 1) ⟨by omega, by omega⟩ hI0 y59 (0) (143)) rfl rfl (Nat.le_of_ble_eq_true rfl) (mh_rok (by omega) (by decide)) (fun x61 s62 q63 => ?_)
            obtain ⟨r_x61, e0_s62, rfl⟩ := q63
            have f_x61 : x61.toInt = 1 ↔ (0 ≤ p5.toInt ∧ p5.toInt ≤ 143) := by rw [e0_s62]; exact by simp only [t60, Int32.toInt_toInt64]; first | done | exact Iff.rfl
            refine mw_if_ne 57 rfl 59 dX10_road_54 (by decide) (fun c64 => ?_) (fun c64 => ?_)
            · skip
              have r_p5 : mh_r p5 (0) (143) := ⟨by have := f_x61.1 (mh_z1 r_x61 c64); have := ((mh_r_full p5)).1; omega, by have := f_x61.1 (mh_z1 r_x61 c64); have := ((mh_r_full p5)).2; omega⟩
              have r_x61 : mh_r x61 (1) (1) := mh_ne1 (show x61.toInt ≠ (0 : Int32).toInt from c64) r_x61 rc_0 (1) (1) (by decide)
              refine mw_aload_n 60 rfl 0 dX10_road_59 rfl rfl ?_
              refine mw_geta 63 rfl dX10_road_60 gf_X10_113 rfl 90 (mh_rf hI0 87 rfl) ?_
              refine mw_iload_n 64 rfl 1 dX10_road_63 rfl rfl ?_
              refine mw_iconst (v := 1) 65 rfl dX10_road_64 (by decide) ?_
              refine mw_zast 66 rfl dX10_road_65 rfl r_p1 (by decide) (fun s65 t66 => ?_)
              rw [mh_nz (mh_r_wk rc_1 (by decide))] at t66
              have hI_s65 : mh_I B D s65 := by rw [t66]; exact wr_90 hI0 (mh_r_wk rc_1 (by decide))
              have hF_s65 : mh_F S_X10_road s0 s65 := by rw [t66]; exact mh_F_pI hF0 (mh_si 0 rfl)
              refine mw_aload_n 67 rfl 0 dX10_road_66 rfl rfl ?_
              refine mw_geta 70 rfl dX10_road_67 gf_X10_116 rfl 91 (mh_rf hI_s65 88 rfl) ?_
              refine mw_iload_n 71 rfl 1 dX10_road_70 rfl rfl ?_
              refine mw_iload_n 72 rfl 2 dX10_road_71 rfl rfl ?_
              refine mw_iast 73 rfl dX10_road_72 rfl r_p1 (by decide) (fun s67 t68 => ?_)
              have hI_s67 : mh_I B D s67 := by rw [t68]; exact wr_91 hI_s65 r_p2
              have hF_s67 : mh_F S_X10_road s0 s67 := by rw [t68]; exact mh_F_pI hF_s65 (mh_si 1 rfl)
              refine mw_aload_n 74 rfl 0 dX10_road_73 rfl rfl ?_
              refine mw_geta 77 rfl dX10_road_74 gf_X10_119 rfl 92 (mh_rf hI_s67 89 rfl) ?_
              refine mw_iload_n 78 rfl 1 dX10_road_77 rfl rfl ?_
              refine mw_iload_n 79 rfl 3 dX10_road_78 rfl rfl ?_
              refine mw_iast 80 rfl dX10_road_79 rfl r_p1 (by decide) (fun s69 t70 => ?_)
              have hI_s69 : mh_I B D s69 := by rw [t70]; exact wr_92 hI_s67 r_p3
              have hF_s69 : mh_F S_X10_road s0 s69 := by rw [t70]; exact mh_F_pI hF_s67 (mh_si 2 rfl)
              refine mw_aload_n 81 rfl 0 dX10_road_80 rfl rfl ?_
              refine mw_geta 84 rfl dX10_road_81 gf_X10_122 rfl 93 (mh_rf hI_s69 90 rfl) ?_
              refine mw_iload_n 85 rfl 1 dX10_road_84 rfl rfl ?_
              refine mw_iload 87 rfl 4 dX10_road_85  rfl ?_
              refine mw_iast 88 rfl dX10_road_87 rfl r_p1 (by decide) (fun s71 t72 => ?_)
              have hI_s71 : mh_I B D s71 := by rw [t72]; exact wr_93 hI_s69 (mh_r_wk r_p4 (by decide))
              have hF_s71 : mh_F S_X10_road s0 s71 := by rw [t72]; exact mh_F_pI hF_s69 (mh_si 3 rfl)
              refine mw_aload_n 89 rfl 0 dX10_road_88 rfl rfl ?_
              refine mw_geta 92 rfl dX10_road_89 gf_X10_125 rfl 94 (mh_rf hI_s71 91 rfl) ?_
              refine mw_iload_n 93 rfl 1 dX10_road_92 rfl rfl ?_
              refine mw_iload 95 rfl 5 dX10_road_93  rfl ?_
              refine mw_iast 96 rfl dX10_road_95 rfl r_p1 (by decide) (fun s73 t74 => ?_)
              have hI_s73 : mh_I B D s73 := by rw [t74]; exact wr_94 hI_s71 r_p5
              have hF_s73 : mh_F S_X10_road s0 s73 := by rw [t74]; exact mh_F_pI hF_s71 (mh_si 4 rfl)
              refine mw_iconst (v := 1) 97 rfl dX10_road_96 (by decide) ?_
              exact mw_zret dX10_road_97 rfl (mh_r_wk rc_1 (by decide)) ⟨(1), rfl, ⟨(mh_r_wk rc_1 (by decide)), hI_s73, hF_s73⟩⟩
            · skip
              have r_x61 : mh_r x61 (0) (0) := mh_eq1 (show x61.toInt = (0 : Int32).toInt from c64) r_x61 rc_0 (0) (0) (by decide)
              refine mw_iconst (v := 0) 58 rfl dX10_road_57 (by decide) ?_
              exact mw_zret dX10_road_58 rfl (mh_r_wk rc_0 (by decide)) ⟨(0), rfl, ⟨(mh_r_wk rc_0 (by decide)), hI0, hF0⟩⟩

def S_X10_laysYards : List (Nat × Nat) := [(83, 9999), (84, 9999), (85, 9999), (86, 9999), (87, 9999), (88, 9999), (57, 33), (57, 34), (57, 35), (57, 36), (57, 37), (78, 9999), (77, 9999), (95, 9999), (79, 9999), (80, 9999), (61, 9999), (62, 9999), (82, 9999), (81, 9999), (57, 4), (57, 2), (59, 9999), (60, 9999)]
def P_X10_laysYards (B D : Int) (s0 : mh_H) : mh_H → Prop := fun s => mh_I B B s ∧ mh_F S_X10_laysYards s0 s
set_option maxRecDepth 100000 in
set_option maxHeartbeats 4000000 in
theorem w_X10_laysYards (l : Launch) (G : mh_G) (d : Nat) {B D : Int} (hB : B ≤ 1820000000 ∧ D ≤ 1820000000) {s0 : mh_H} (hI0 : mh_I B B s0) : mh_Mv l G (d + 9) mM_X10_laysYards [.ref (G.2.2.2 57)] s0 (P_X10_laysYards B D s0) := by
  refine mh_enter (lv := [(0, .ref (G.2.2.2 57))]) (by decide) rfl (Nat.le_of_ble_eq_true rfl) ?_
  have hF0 : mh_F S_X10_laysYards s0 s0 := mh_F_rf
  refine mw_aload_n 1 rfl 0 dX10_laysYards_0 rfl rfl ?_
  refine mw_iconst (v := 0) 2 rfl dX10_laysYards_1 (by decide) ?_
  refine mw_callVv [.int (0)] [] 5 rfl dX10_laysYards_2 ml_X10_388 mc_X10_setsAside mk_X10_setsAside rfl rfl (by decide) (w_X10_setsAside l G (d + 8) ⟨by have := kc_0; have := kc_1; have := kc_20; have := kc_30; skip; omega, by have := kc_0; have := kc_1; have := kc_20; have := kc_30; skip; omega⟩ hI0 (0) (mh_r_wk rc_0 (by decide)) (by omega)) rfl rfl (Nat.le_of_ble_eq_true rfl) (mh_rok (by omega) (by decide)) (fun s1920 q1921 => ?_)
  obtain ⟨hI_s1920, hG_s1920⟩ := q1921
  have hF_s1920 : mh_F S_X10_laysYards s0 s1920 := mh_F_tl hF0 hG_s1920 (by decide +kernel)
  refine mw_iconst (v := 0) 6 rfl dX10_laysYards_5 (by decide) ?_
  refine mw_istore_n 7 rfl [(1, .int (0)), (0, .ref (G.2.2.2 57))] dX10_laysYards_6 rfl (by decide) rfl ?_
  have L7 : ∀ n1 : Nat, ∀ (x3486 : Int32) (s3487 : mh_H), mh_r x3486 (0) (30) → mh_I (B + x3486.toInt) B s3487 → mh_F S_X10_laysYards s0 s3487 → (30) - x3486.toInt < (n1 : Int) → mh_W G (mh_XM l G (d + 9) (mh_Qv (P_X10_laysYards B D s0))) mM_X10_laysYards 7 [(0, .ref (G.2.2.2 57)), (1, .int x3486)] [] s3487 := by
    intro n1
    induction n1 with
    | zero =>
      intro x3486 s3487 r_x3486 hI_s3487 hF_s3487 hmn1
      exact absurd hmn1 (by have := r_x3486.1; have := r_x3486.2; omega)
    | succ n1 ihn1 =>
      intro x3486 s3487 r_x3486 hI_s3487 hF_s3487 hmn1
      refine mw_iload_n 8 rfl 1 dX10_laysYards_7 rfl rfl ?_
      refine mw_bipush (v := 30) 10 rfl dX10_laysYards_8 (by decide) ?_
      refine mw_icmp_ge 13 rfl 71 dX10_laysYards_10 (by decide) (fun c3662 => ?_) (fun c3662 => ?_)
      · skip
        have r_x3486 : mh_r x3486 (30) (30) := mh_le2 c3662 rc_30 r_x3486 (30) (by decide)
        refine mw_aload_n 72 rfl 0 dX10_laysYards_71 rfl rfl ?_
        refine mw_iconst (v := 0) 73 rfl dX10_laysYards_72 (by decide) ?_
        refine mw_callVv [.int (0)] [] 76 rfl dX10_laysYards_73 ml_X10_394 mc_X10_putsBack mk_X10_putsBack rfl rfl (by decide) (w_X10_putsBack l G (d + 8) ⟨by have := (r_x3486).1; have := (r_x3486).2; have := kc_0; have := kc_1; have := kc_20; have := kc_30; skip; omega, by have := (r_x3486).1; have := (r_x3486).2; have := kc_0; have := kc_1; have := kc_20; have := kc_30; skip; omega⟩ hI_s3487 (0) (mh_r_wk rc_0 (by decide))) rfl rfl (Nat.le_of_ble_eq_true rfl) (mh_rok (by omega) (by decide)) (fun s3664 q3665 => ?_)
        obtain ⟨hI_s3664, hG_s3664⟩ := q3665
        have hF_s3664 : mh_F S_X10_laysYards s0 s3664 := mh_F_tl hF_s3487 hG_s3664 (by decide +kernel)
        exact mw_vret dX10_laysYards_76 rfl ⟨rfl, ⟨hI_s3664, hF_s3664⟩⟩
      · skip
        have r_x3486 : mh_r x3486 (0) (29) := mh_lt1 c3662 r_x3486 rc_30 (29) (by decide)
        refine mw_iconst (v := 0) 14 rfl dX10_laysYards_13 (by decide) ?_
        refine mw_istore_n 15 rfl [(2, .int (0)), (0, .ref (G.2.2.2 57)), (1, .int x3486)] dX10_laysYards_14 rfl (by decide) rfl ?_
        have L15 : ∀ n2 : Nat, ∀ (x3790 : Int32) (s3791 : mh_H), mh_r x3790 (0) (20) → mh_I (B + x3486.toInt) B s3791 → mh_F S_X10_laysYards s0 s3791 → (20) - x3790.toInt < (n2 : Int) → mh_W G (mh_XM l G (d + 9) (mh_Qv (P_X10_laysYards B D s0))) mM_X10_laysYards 15 [(0, .ref (G.2.2.2 57)), (1, .int x3486), (2, .int x3790)] [] s3791 := by
          intro n2
          induction n2 with
          | zero =>
            intro x3790 s3791 r_x3790 hI_s3791 hF_s3791 hmn2
            exact absurd hmn2 (by have := r_x3790.1; have := r_x3790.2; omega)
          | succ n2 ihn2 =>
            intro x3790 s3791 r_x3790 hI_s3791 hF_s3791 hmn2
            refine mw_iload_n 16 rfl 2 dX10_laysYards_15 rfl rfl ?_
            refine mw_bipush (v := 20) 18 rfl dX10_laysYards_16 (by decide) ?_
            refine mw_icmp_ge 21 rfl 61 dX10_laysYards_18 (by decide) (fun c3813 => ?_) (fun c3813 => ?_)
            · skip
              have r_x3790 : mh_r x3790 (20) (20) := mh_le2 c3813 rc_20 r_x3790 (20) (by decide)
              refine mw_aload_n 62 rfl 0 dX10_laysYards_61 rfl rfl ?_
              refine mw_callVv [] [] 65 rfl dX10_laysYards_62 ml_X10_376 mc_X10_stepOne mk_X10_stepOne rfl rfl (by decide) (w_X10_stepOne l G (d + 0) ⟨by have := (r_x3486).1; have := (r_x3486).2; have := (r_x3790).1; have := (r_x3790).2; have := kc_0; have := kc_1; have := kc_20; have := kc_30; skip; omega, by have := (r_x3486).1; have := (r_x3486).2; have := (r_x3790).1; have := (r_x3790).2; have := kc_0; have := kc_1; have := kc_20; have := kc_30; skip; omega⟩ hI_s3791) rfl rfl (Nat.le_of_ble_eq_true rfl) (mh_rok (by omega) (by decide)) (fun s3815 q3816 => ?_)
              obtain ⟨hI_s3815, hG_s3815⟩ := q3816
              have hF_s3815 : mh_F S_X10_laysYards s0 s3815 := mh_F_tl hF_s3791 hG_s3815 (by decide +kernel)
              refine mw_iincR (k := 1) (1) (30) 68 rfl (fun z => [(1, .int z), (0, .ref (G.2.2.2 57)), (2, .int x3790)]) dX10_laysYards_65 rfl (by decide) (fun _ => rfl) r_x3486 (by decide) (by decide) (fun x3817 t3818 r_x3817 => ?_)
              refine mw_goto 71 rfl 7 dX10_laysYards_68 (by decide) ?_
              exact mw_lv [1, 0] rfl (ihn1 x3817 s3815 (mh_r_wk r_x3817 (by decide)) (mh_I_mono hI_s3815 (by have := (r_x3817).1; have := (r_x3817).2; have := (r_x3790).1; have := (r_x3790).2; have := kc_0; have := kc_1; have := kc_20; have := kc_30; skip; omega) (by have := (r_x3817).1; have := (r_x3817).2; have := (r_x3790).1; have := (r_x3790).2; have := kc_0; have := kc_1; have := kc_20; have := kc_30; skip; omega)) hF_s3815 (by have : x3817.toInt = x3486.toInt + (1) := t3818; omega))
            · skip
              have r_x3790 : mh_r x3790 (0) (19) := mh_lt1 c3813 r_x3790 rc_20 (19) (by decide)
              refine mw_aload_n 22 rfl 0 dX10_laysYards_21 rfl rfl ?_
              refine mw_geta 25 rfl dX10_laysYards_22 gf_X10_128 rfl 95 (mh_rf hI_s3791 92 rfl) ?_
              refine mw_bipush (v := 30) 27 rfl dX10_laysYards_25 (by decide) ?_
              refine mw_iload_n 28 rfl 2 dX10_laysYards_27 rfl rfl ?_
              refine mw_imul 29 rfl (0) (570) dX10_laysYards_28 rc_30 r_x3790 (by decide) (fun x3819 t3820 r_x3819 => ?_)
              refine mw_iload_n 30 rfl 1 dX10_laysYards_29 rfl rfl ?_
              refine mw_iadd 31 rfl (0) (599) dX10_laysYards_30 r_x3819 r_x3486 (by decide) (fun x3821 t3822 r_x3821 => ?_)
              refine mw_aload_n 32 rfl 0 dX10_laysYards_31 rfl rfl ?_
              refine mw_geta 35 rfl dX10_laysYards_32 gf_X10_113 rfl 90 (mh_rf hI_s3791 87 rfl) ?_
              refine mw_iload_n 36 rfl 2 dX10_laysYards_35 rfl rfl ?_
              refine mw_zald 37 rfl dX10_laysYards_36 rfl r_x3790 (by decide) (fun x3823 t3824 => ?_)
              have r_x3823 : mh_r x3823 (0) (1) := by rw [t3824]; exact rd_90 hI_s3791 _
              have J54 : ∀ (x3831 : Int32) (s3832 : mh_H), mh_r x3831 (0) (999) → mh_I (B + x3486.toInt) B s3832 → mh_F S_X10_laysYards s0 s3832 → mh_W G (mh_XM l G (d + 9) (mh_Qv (P_X10_laysYards B D s0))) mM_X10_laysYards 54 [(0, .ref (G.2.2.2 57)), (1, .int x3486), (2, .int x3790)] [.int x3831, .int x3821, .ref (G.2.2.2 95)] s3832 := by
                intro x3831 s3832 r_x3831 hI_s3832 hF_s3832
                refine mw_iast 55 rfl dX10_laysYards_54 rfl r_x3821 (by decide) (fun s3837 t3838 => ?_)
                have hI_s3837 : mh_I (B + x3486.toInt) B s3837 := by rw [t3838]; exact wr_95 hI_s3832 r_x3831
                have hF_s3837 : mh_F S_X10_laysYards s0 s3837 := by rw [t3838]; exact mh_F_pI hF_s3832 (mh_si 13 rfl)
                refine mw_iincR (k := 2) (1) (20) 58 rfl (fun z => [(2, .int z), (0, .ref (G.2.2.2 57)), (1, .int x3486)]) dX10_laysYards_55 rfl (by decide) (fun _ => rfl) r_x3790 (by decide) (by decide) (fun x3839 t3840 r_x3839 => ?_)
                refine mw_goto 61 rfl 15 dX10_laysYards_58 (by decide) ?_
                exact mw_lv [1, 2, 0] rfl (ihn2 x3839 s3837 (mh_r_wk r_x3839 (by decide)) hI_s3837 hF_s3837 (by have : x3839.toInt = x3790.toInt + (1) := t3840; omega))
              refine mw_if_eq 40 rfl 53 dX10_laysYards_37 (by decide) (fun c3841 => ?_) (fun c3841 => ?_)
              · skip
                have r_x3823 : mh_r x3823 (0) (0) := mh_eq1 (show x3823.toInt = (0 : Int32).toInt from c3841) r_x3823 rc_0 (0) (0) (by decide)
                refine mw_iconst (v := 0) 54 rfl dX10_laysYards_53 (by decide) ?_
                exact mw_lv [0, 1, 2] rfl (J54 (0) s3791 (mh_r_wk rc_0 (by decide)) hI_s3791 hF_s3791)
              · skip
                have r_x3823 : mh_r x3823 (1) (1) := mh_ne1 (show x3823.toInt ≠ (0 : Int32).toInt from c3841) r_x3823 rc_0 (1) (1) (by decide)
                refine mw_aload_n 41 rfl 0 dX10_laysYards_40 rfl rfl ?_
                refine mw_aload_n 42 rfl 0 dX10_laysYards_41 rfl rfl ?_
                refine mw_geta 45 rfl dX10_laysYards_42 gf_X10_125 rfl 94 (mh_rf hI_s3791 91 rfl) ?_
                refine mw_iload_n 46 rfl 2 dX10_laysYards_45 rfl rfl ?_
                refine mw_iald 47 rfl dX10_laysYards_46 rfl r_x3790 (by decide) (fun x3842 t3843 => ?_)
                have r_x3842 : mh_r x3842 (0) (143) := by rw [t3843]; exact rd_94 hI_s3791 _
                refine mw_callVi [.int x3842] [.int x3821, .ref (G.2.2.2 95)] 50 rfl dX10_laysYards_47 ml_X10_379 mc_X10_yardsAt mk_X10_yardsAt rfl rfl (by decide) (w_X10_yardsAt l G (d + 0) ⟨by have := (r_x3486).1; have := (r_x3486).2; have := (r_x3790).1; have := (r_x3790).2; have := (r_x3821).1; have := (r_x3821).2; have := (r_x3823).1; have := (r_x3823).2; have := (r_x3842).1; have := (r_x3842).2; have := (r_x3819).1; have := (r_x3819).2; have := kc_0; have := kc_1; have := kc_20; have := kc_30; skip; omega, by have := (r_x3486).1; have := (r_x3486).2; have := (r_x3790).1; have := (r_x3790).2; have := (r_x3821).1; have := (r_x3821).2; have := (r_x3823).1; have := (r_x3823).2; have := (r_x3842).1; have := (r_x3842).2; have := (r_x3819).1; have := (r_x3819).2; have := kc_0; have := kc_1; have := kc_20; have := kc_30; skip; omega⟩ hI_s3791 x3842 r_x3842) rfl rfl (Nat.le_of_ble_eq_true rfl) (mh_rok (by omega) (by decide)) (fun x3844 s3845 q3846 => ?_)
                obtain ⟨r_x3844, hI_s3845, hG_s3845⟩ := q3846
                have hF_s3845 : mh_F S_X10_laysYards s0 s3845 := mh_F_tl hF_s3791 hG_s3845 (by decide +kernel)
                refine mw_goto 53 rfl 54 dX10_laysYards_50 (by decide) ?_
                exact mw_lv [0, 1, 2] rfl (J54 x3844 s3845 r_x3844 hI_s3845 hF_s3845)
        exact mw_lv [1, 2, 0] rfl (L15 21 (0) s3487 (mh_r_wk rc_0 (by decide)) hI_s3487 hF_s3487 (by have := (rc_0).1; have := (rc_0).2; omega))
  exact mw_lv [1, 0] rfl (L7 31 (0) s1920 (mh_r_wk rc_0 (by decide)) (mh_I_mono hI_s1920 (by have := (rc_0).1; have := (rc_0).2; have := kc_0; have := kc_1; have := kc_20; have := kc_30; skip; omega) (by have := (rc_0).1; have := (rc_0).2; have := kc_0; have := kc_1; have := kc_20; have := kc_30; skip; omega)) hF_s1920 (by have := (rc_0).1; have := (rc_0).2; omega))

def P_X10_outOf (B D : Int) (s0 : mh_H) (p1 : Int32) (p2 : Int32) : Int32 → mh_H → Prop := fun z s => mh_r z (0) (1000000000) ∧ s0 = s
set_option maxRecDepth 100000 in
set_option maxHeartbeats 4000000 in
theorem w_X10_outOf (l : Launch) (G : mh_G) (d : Nat) {B D : Int} (hB : B ≤ 2000000000 ∧ D ≤ 2000000000) {s0 : mh_H} (hI0 : mh_I B D s0) (p1 : Int32) (r_p1 : mh_r p1 (0) (19)) (p2 : Int32) (r_p2 : mh_r p2 (0) (300)) : mh_Mi l G (d + 0) mM_X10_outOf [.ref (G.2.2.2 57), .int p1, .int p2] s0 (P_X10_outOf B D s0 p1 p2) := by
  refine mh_enter (lv := [(0, .ref (G.2.2.2 57)), (1, .int p1), (2, .int p2)]) (by decide) rfl (Nat.le_of_ble_eq_true rfl) ?_
  refine mw_iload_n 1 rfl 2 dX10_outOf_0 rfl rfl ?_
  refine mw_sipush (v := 300) 4 rfl dX10_outOf_1 (by decide) ?_
  have J25 : ∀ (x35 : Int32), mh_r x35 (0) (999) → mh_W G (mh_XM l G (d + 0) (mh_Qi (P_X10_outOf B D s0 p1 p2))) mM_X10_outOf 25 [(0, .ref (G.2.2.2 57)), (1, .int p1), (2, .int p2)] [.int x35] s0 := by
    intro x35 r_x35
    refine mw_istore_n 26 rfl [(3, .int x35), (0, .ref (G.2.2.2 57)), (1, .int p1), (2, .int p2)] dX10_outOf_25 rfl (by decide) rfl ?_
    refine mw_iload_n 27 rfl 0 dX10_outOf_26 rfl rfl ?_
    refine mw_if_ne 30 rfl 36 dX10_outOf_27 (by decide) (fun c49 => ?_) (fun c49 => ?_)
    · skip
      have r_x35 : mh_r x35 (1) (999) := mh_ne1 (show x35.toInt ≠ (0 : Int32).toInt from c49) r_x35 rc_0 (1) (999) (by decide)
      refine mw_iload_n 37 rfl 3 dX10_outOf_36 rfl rfl ?_
      refine mw_bipush (v := 100) 39 rfl dX10_outOf_37 (by decide) ?_
      refine mw_aload_n 40 rfl 1 dX10_outOf_39 rfl rfl ?_
      refine mw_geta 43 rfl dX10_outOf_40 gf_X10_122 rfl 93 (mh_rf hI0 90 rfl) ?_
      refine mw_iload_n 44 rfl 2 dX10_outOf_43 rfl rfl ?_
      refine mw_iald 45 rfl dX10_outOf_44 rfl r_p1 (by decide) (fun x50 t51 => ?_)
      have r_x50 : mh_r x50 (0) (99) := by rw [t51]; exact rd_93 hI0 _
      refine mw_imul 46 rfl (0) (9900) dX10_outOf_45 rc_100 r_x50 (by decide) (fun x52 t53 r_x52 => ?_)
      refine mw_iload_n 47 rfl 0 dX10_outOf_46 rfl rfl ?_
      refine mw_iadd 48 rfl (1) (10899) dX10_outOf_47 r_x52 r_x35 (by decide) (fun x54 t55 r_x54 => ?_)
      refine mw_iconst (v := 1) 49 rfl dX10_outOf_48 (by decide) ?_
      refine mw_isub 50 rfl (0) (10898) dX10_outOf_49 r_x54 rc_1 (by decide) (fun x56 t57 r_x56 => ?_)
      refine mw_iload_n 51 rfl 0 dX10_outOf_50 rfl rfl ?_
      refine mw_idiv 52 rfl (0) (10898) dX10_outOf_51 r_x56 r_x35 (by decide) (fun x58 t59 r_x58 => ?_)
      refine mw_iadd 53 rfl (0) (11198) dX10_outOf_52 r_p2 r_x58 (by decide) (fun x60 t61 r_x60 => ?_)
      exact mw_iret dX10_outOf_53 rfl ⟨x60, rfl, ⟨(mh_r_wk r_x60 (by decide)), rfl⟩⟩
    · skip
      have r_x35 : mh_r x35 (0) (0) := mh_eq1 (show x35.toInt = (0 : Int32).toInt from c49) r_x35 rc_0 (0) (0) (by decide)
      refine mw_ldcw 33 rfl dX10_outOf_30 ck_X10_413 ?_
      refine mw_goto 36 rfl 53 dX10_outOf_33 (by decide) ?_
      exact mw_iret dX10_outOf_53 rfl ⟨(1000000000), rfl, ⟨(mh_r_wk rc_1000000000 (by decide)), rfl⟩⟩
  refine mw_icmp_ge 7 rfl 24 dX10_outOf_4 (by decide) (fun c62 => ?_) (fun c62 => ?_)
  · skip
    have r_p2 : mh_r p2 (300) (300) := mh_le2 c62 rc_300 r_p2 (300) (by decide)
    refine mw_iconst (v := 0) 25 rfl dX10_outOf_24 (by decide) ?_
    exact mw_lv [0, 1, 2] rfl (J25 (0) (mh_r_wk rc_0 (by decide)))
  · skip
    have r_p2 : mh_r p2 (0) (299) := mh_lt1 c62 r_p2 rc_300 (299) (by decide)
    refine mw_aload_n 8 rfl 0 dX10_outOf_7 rfl rfl ?_
    refine mw_geta 11 rfl dX10_outOf_8 gf_X10_128 rfl 95 (mh_rf hI0 92 rfl) ?_
    refine mw_bipush (v := 30) 13 rfl dX10_outOf_11 (by decide) ?_
    refine mw_iload_n 14 rfl 1 dX10_outOf_13 rfl rfl ?_
    refine mw_imul 15 rfl (0) (570) dX10_outOf_14 rc_30 r_p1 (by decide) (fun x63 t64 r_x63 => ?_)
    refine mw_iload_n 16 rfl 2 dX10_outOf_15 rfl rfl ?_
    refine mw_bipush (v := 10) 18 rfl dX10_outOf_16 (by decide) ?_
    refine mw_idiv 19 rfl (0) (299) dX10_outOf_18 r_p2 rc_10 (by decide) (fun x65 t66 r_x65 => ?_)
    have r_x65 : mh_r x65 (0) (29) := mh_dvc t66 r_p2 (by decide) (by decide)
    have g67 : x65.toInt = p2.toInt / 10 := mh_dve t66 (by have := (r_p2).1; omega) (by decide)
    refine mw_iadd 20 rfl (0) (599) dX10_outOf_19 r_x63 r_x65 (by decide) (fun x68 t69 r_x68 => ?_)
    refine mw_iald 21 rfl dX10_outOf_20 rfl r_x68 (by decide) (fun x70 t71 => ?_)
    have r_x70 : mh_r x70 (0) (999) := by rw [t71]; exact rd_95 hI0 _
    refine mw_goto 24 rfl 25 dX10_outOf_21 (by decide) ?_
    exact mw_lv [0, 1, 2] rfl (J25 x70 r_x70)

def S_X10_arrives : List (Nat × Nat) := [(96, 9999)]
def P_X10_arrives (B D : Int) (s0 : mh_H) (p1 : Int32) (p2 : Int32) : mh_H → Prop := fun s => mh_I B D s ∧ mh_F S_X10_arrives s0 s
set_option maxRecDepth 100000 in
set_option maxHeartbeats 4000000 in
theorem w_X10_arrives (l : Launch) (G : mh_G) (d : Nat) {B D : Int} (hB : B ≤ 2000000000 ∧ D ≤ 2000000000) {s0 : mh_H} (hI0 : mh_I B D s0) (p1 : Int32) (r_p1 : mh_r p1 (0) (9)) (p2 : Int32) (r_p2 : mh_r p2 (0) (2147483647)) : mh_Mv l G (d + 0) mM_X10_arrives [.ref (G.2.2.2 57), .int p1, .int p2] s0 (P_X10_arrives B D s0 p1 p2) := by
  refine mh_enter (lv := [(0, .ref (G.2.2.2 57)), (1, .int p1), (2, .int p2)]) (by decide) rfl (Nat.le_of_ble_eq_true rfl) ?_
  have hF0 : mh_F S_X10_arrives s0 s0 := mh_F_rf
  refine mw_iload_n 1 rfl 2 dX10_arrives_0 rfl rfl ?_
  refine mw_sipush (v := 300) 4 rfl dX10_arrives_1 (by decide) ?_
  refine mw_icmp_gt 7 rfl 19 dX10_arrives_4 (by decide) (fun c8 => ?_) (fun c8 => ?_)
  · skip
    have r_p2 : mh_r p2 (301) (2147483647) := mh_lt2 c8 rc_300 r_p2 (301) (by decide)
    exact mw_vret dX10_arrives_19 rfl ⟨rfl, ⟨hI0, hF0⟩⟩
  · skip
    have r_p2 : mh_r p2 (0) (300) := mh_le1 c8 r_p2 rc_300 (300) (by decide)
    refine mw_aload_n 8 rfl 0 dX10_arrives_7 rfl rfl ?_
    refine mw_geta 11 rfl dX10_arrives_8 gf_X10_131 rfl 96 (mh_rf hI0 93 rfl) ?_
    refine mw_bipush (v := 10) 13 rfl dX10_arrives_11 (by decide) ?_
    refine mw_iload_n 14 rfl 2 dX10_arrives_13 rfl rfl ?_
    refine mw_imul 15 rfl (0) (3000) dX10_arrives_14 rc_10 r_p2 (by decide) (fun x9 t10 r_x9 => ?_)
    refine mw_iload_n 16 rfl 1 dX10_arrives_15 rfl rfl ?_
    refine mw_iadd 17 rfl (0) (3009) dX10_arrives_16 r_x9 r_p1 (by decide) (fun x11 t12 r_x11 => ?_)
    refine mw_iconst (v := 1) 18 rfl dX10_arrives_17 (by decide) ?_
    refine mw_zast 19 rfl dX10_arrives_18 rfl r_x11 (by decide) (fun s13 t14 => ?_)
    rw [mh_nz (mh_r_wk rc_1 (by decide))] at t14
    have hI_s13 : mh_I B D s13 := by rw [t14]; exact wr_96 hI0 (mh_r_wk rc_1 (by decide))
    have hF_s13 : mh_F S_X10_arrives s0 s13 := by rw [t14]; exact mh_F_pI hF0 (mh_si 0 rfl)
    exact mw_vret dX10_arrives_19 rfl ⟨rfl, ⟨hI_s13, hF_s13⟩⟩

def P_X10_meet (B D : Int) (s0 : mh_H) (p1 : Int32) (p2 : Int32) : Int32 → mh_H → Prop := fun z s => mh_r z (0) (1) ∧ s0 = s
set_option maxRecDepth 100000 in
set_option maxHeartbeats 4000000 in
theorem w_X10_meet (l : Launch) (G : mh_G) (d : Nat) {B D : Int} (hB : B ≤ 2000000000 ∧ D ≤ 2000000000) {s0 : mh_H} (hI0 : mh_I B D s0) (p1 : Int32) (r_p1 : mh_r p1 (0) (19)) (p2 : Int32) (r_p2 : mh_r p2 (0) (19)) : mh_Mi l G (d + 0) mM_X10_meet [.ref (G.2.2.2 57), .int p1, .int p2] s0 (P_X10_meet B D s0 p1 p2) := by
  refine mh_enter (lv := [(0, .ref (G.2.2.2 57)), (1, .int p1), (2, .int p2)]) (by decide) rfl (Nat.le_of_ble_eq_true rfl) ?_
  refine mw_aload_n 1 rfl 0 dX10_meet_0 rfl rfl ?_
  refine mw_geta 4 rfl dX10_meet_1 gf_X10_116 rfl 91 (mh_rf hI0 88 rfl) ?_
  refine mw_iload_n 5 rfl 1 dX10_meet_4 rfl rfl ?_
  refine mw_iald 6 rfl dX10_meet_5 rfl r_p1 (by decide) (fun x21 t22 => ?_)
  have r_x21 : mh_r x21 (0) (9) := by rw [t22]; exact rd_91 hI0 _
  refine mw_aload_n 7 rfl 0 dX10_meet_6 rfl rfl ?_
  refine mw_geta 10 rfl dX10_meet_7 gf_X10_116 rfl 91 (mh_rf hI0 88 rfl) ?_
  refine mw_iload_n 11 rfl 2 dX10_meet_10 rfl rfl ?_
  refine mw_iald 12 rfl dX10_meet_11 rfl r_p2 (by decide) (fun x23 t24 => ?_)
  have r_x23 : mh_r x23 (0) (9) := by rw [t24]; exact rd_91 hI0 _
  refine mw_icmp_eq 15 rfl 60 dX10_meet_12 (by decide) (fun c25 => ?_) (fun c25 => ?_)
  · skip
    refine mw_iconst (v := 1) 61 rfl dX10_meet_60 (by decide) ?_
    refine mw_goto 64 rfl 65 dX10_meet_61 (by decide) ?_
    exact mw_zret dX10_meet_65 rfl (mh_r_wk rc_1 (by decide)) ⟨(1), rfl, ⟨(mh_r_wk rc_1 (by decide)), rfl⟩⟩
  · skip
    refine mw_aload_n 16 rfl 0 dX10_meet_15 rfl rfl ?_
    refine mw_geta 19 rfl dX10_meet_16 gf_X10_116 rfl 91 (mh_rf hI0 88 rfl) ?_
    refine mw_iload_n 20 rfl 1 dX10_meet_19 rfl rfl ?_
    refine mw_iald 21 rfl dX10_meet_20 rfl r_p1 (by decide) (fun x26 t27 => ?_)
    obtain rfl : x21 = x26 := t22.trans t27.symm
    refine mw_aload_n 22 rfl 0 dX10_meet_21 rfl rfl ?_
    refine mw_geta 25 rfl dX10_meet_22 gf_X10_119 rfl 92 (mh_rf hI0 89 rfl) ?_
    refine mw_iload_n 26 rfl 2 dX10_meet_25 rfl rfl ?_
    refine mw_iald 27 rfl dX10_meet_26 rfl r_p2 (by decide) (fun x28 t29 => ?_)
    have r_x28 : mh_r x28 (0) (9) := by rw [t29]; exact rd_92 hI0 _
    refine mw_icmp_eq 30 rfl 60 dX10_meet_27 (by decide) (fun c30 => ?_) (fun c30 => ?_)
    · skip
      refine mw_iconst (v := 1) 61 rfl dX10_meet_60 (by decide) ?_
      refine mw_goto 64 rfl 65 dX10_meet_61 (by decide) ?_
      exact mw_zret dX10_meet_65 rfl (mh_r_wk rc_1 (by decide)) ⟨(1), rfl, ⟨(mh_r_wk rc_1 (by decide)), rfl⟩⟩
    · skip
      refine mw_aload_n 31 rfl 0 dX10_meet_30 rfl rfl ?_
      refine mw_geta 34 rfl dX10_meet_31 gf_X10_119 rfl 92 (mh_rf hI0 89 rfl) ?_
      refine mw_iload_n 35 rfl 1 dX10_meet_34 rfl rfl ?_
      refine mw_iald 36 rfl dX10_meet_35 rfl r_p1 (by decide) (fun x31 t32 => ?_)
      have r_x31 : mh_r x31 (0) (9) := by rw [t32]; exact rd_92 hI0 _
      refine mw_aload_n 37 rfl 0 dX10_meet_36 rfl rfl ?_
      refine mw_geta 40 rfl dX10_meet_37 gf_X10_116 rfl 91 (mh_rf hI0 88 rfl) ?_
      refine mw_iload_n 41 rfl 2 dX10_meet_40 rfl rfl ?_
      refine mw_iald 42 rfl dX10_meet_41 rfl r_p2 (by decide) (fun x33 t34 => ?_)
      obtain rfl : x23 = x33 := t24.trans t34.symm
      refine mw_icmp_eq 45 rfl 60 dX10_meet_42 (by decide) (fun c35 => ?_) (fun c35 => ?_)
      · skip
        refine mw_iconst (v := 1) 61 rfl dX10_meet_60 (by decide) ?_
        refine mw_goto 64 rfl 65 dX10_meet_61 (by decide) ?_
        exact mw_zret dX10_meet_65 rfl (mh_r_wk rc_1 (by decide)) ⟨(1), rfl, ⟨(mh_r_wk rc_1 (by decide)), rfl⟩⟩
      · skip
        refine mw_aload_n 46 rfl 0 dX10_meet_45 rfl rfl ?_
        refine mw_geta 49 rfl dX10_meet_46 gf_X10_119 rfl 92 (mh_rf hI0 89 rfl) ?_
        refine mw_iload_n 50 rfl 1 dX10_meet_49 rfl rfl ?_
        refine mw_iald 51 rfl dX10_meet_50 rfl r_p1 (by decide) (fun x36 t37 => ?_)
        obtain rfl : x31 = x36 := t32.trans t37.symm
        refine mw_aload_n 52 rfl 0 dX10_meet_51 rfl rfl ?_
        refine mw_geta 55 rfl dX10_meet_52 gf_X10_119 rfl 92 (mh_rf hI0 89 rfl) ?_
        refine mw_iload_n 56 rfl 2 dX10_meet_55 rfl rfl ?_
        refine mw_iald 57 rfl dX10_meet_56 rfl r_p2 (by decide) (fun x38 t39 => ?_)
        obtain rfl : x28 = x38 := t29.trans t39.symm
        refine mw_icmp_ne 60 rfl 64 dX10_meet_57 (by decide) (fun c40 => ?_) (fun c40 => ?_)
        · skip
          refine mw_iconst (v := 0) 65 rfl dX10_meet_64 (by decide) ?_
          exact mw_zret dX10_meet_65 rfl (mh_r_wk rc_0 (by decide)) ⟨(0), rfl, ⟨(mh_r_wk rc_0 (by decide)), rfl⟩⟩
        · skip
          refine mw_iconst (v := 1) 61 rfl dX10_meet_60 (by decide) ?_
          refine mw_goto 64 rfl 65 dX10_meet_61 (by decide) ?_
          exact mw_zret dX10_meet_65 rfl (mh_r_wk rc_1 (by decide)) ⟨(1), rfl, ⟨(mh_r_wk rc_1 (by decide)), rfl⟩⟩

def S_X10_soonest : List (Nat × Nat) := [(83, 9999), (84, 9999), (85, 9999), (86, 9999), (87, 9999), (88, 9999), (57, 33), (57, 34), (57, 35), (57, 36), (57, 37), (78, 9999), (77, 9999), (95, 9999), (79, 9999), (80, 9999), (61, 9999), (62, 9999), (82, 9999), (81, 9999), (57, 4), (57, 2), (59, 9999), (60, 9999), (96, 9999)]
def P_X10_soonest (B D : Int) (s0 : mh_H) (p1 : Int32) (p2 : Int32) (p3 : Int32) (p4 : Int32) : Int32 → mh_H → Prop := fun z s => mh_r z (-2) (300) ∧ mh_I B B s ∧ mh_F S_X10_soonest s0 s
set_option maxRecDepth 100000 in
set_option maxHeartbeats 4000000 in
theorem w_X10_soonest (l : Launch) (G : mh_G) (d : Nat) {B D : Int} (hB : B ≤ 1800000000 ∧ D ≤ 1800000000) {s0 : mh_H} (hI0 : mh_I B B s0) (p1 : Int32) (p2 : Int32) (p3 : Int32) (p4 : Int32) : mh_Mi l G (d + 10) mM_X10_soonest [.ref (G.2.2.2 57), .int p1, .int p2, .int p3, .int p4] s0 (P_X10_soonest B D s0 p1 p2 p3 p4) := by
  refine mh_enter (lv := [(0, .ref (G.2.2.2 57)), (1, .int p1), (2, .int p2), (3, .int p3), (4, .int p4)]) (by decide) rfl (Nat.le_of_ble_eq_true rfl) ?_
  have hF0 : mh_F S_X10_soonest s0 s0 := mh_F_rf
  refine mw_iload_n 1 rfl 1 dX10_soonest_0 rfl rfl ?_
  refine mw_callSi [.int p1] [] 4 rfl dX10_soonest_1 ml_X10_410 mc_X10_isNode mk_X10_isNode (w_X10_isNode l G (d + 8) ⟨by have := kc_m2; have := kc_m1; have := kc_0; have := kc_1; have := kc_10; have := kc_20; have := kc_300; have := kc_3010; have := kc_1000000000; skip; omega, by have := kc_m2; have := kc_m1; have := kc_0; have := kc_1; have := kc_10; have := kc_20; have := kc_300; have := kc_3010; have := kc_1000000000; skip; omega⟩ hI0 p1) rfl rfl (Nat.le_of_ble_eq_true rfl) (mh_rok (by omega) (by decide)) (fun x9320 s9321 q9322 => ?_)
  obtain ⟨r_x9320, e0_s9321, rfl⟩ := q9322
  refine mw_if_eq 7 rfl 37 dX10_soonest_4 (by decide) (fun c9323 => ?_) (fun c9323 => ?_)
  · skip
    have r_x9320 : mh_r x9320 (0) (0) := mh_eq1 (show x9320.toInt = (0 : Int32).toInt from c9323) r_x9320 rc_0 (0) (0) (by decide)
    refine mw_iconst (v := -1) 38 rfl dX10_soonest_37 (by decide) ?_
    exact mw_iret dX10_soonest_38 rfl ⟨(-1), rfl, ⟨(mh_r_wk rc_m1 (by decide)), hI0, hF0⟩⟩
  · skip
    have r_p1 : mh_r p1 (0) (9) := ⟨by have := e0_s9321.1 (mh_z1 r_x9320 c9323); have := ((mh_r_full p1)).1; omega, by have := e0_s9321.1 (mh_z1 r_x9320 c9323); have := ((mh_r_full p1)).2; omega⟩
    have r_x9320 : mh_r x9320 (1) (1) := mh_ne1 (show x9320.toInt ≠ (0 : Int32).toInt from c9323) r_x9320 rc_0 (1) (1) (by decide)
    refine mw_iload_n 8 rfl 2 dX10_soonest_7 rfl rfl ?_
    refine mw_callSi [.int p2] [] 11 rfl dX10_soonest_8 ml_X10_410 mc_X10_isNode mk_X10_isNode (w_X10_isNode l G (d + 8) ⟨by have := (r_p1).1; have := (r_p1).2; have := kc_m2; have := kc_m1; have := kc_0; have := kc_1; have := kc_10; have := kc_20; have := kc_300; have := kc_3010; have := kc_1000000000; skip; omega, by have := (r_p1).1; have := (r_p1).2; have := kc_m2; have := kc_m1; have := kc_0; have := kc_1; have := kc_10; have := kc_20; have := kc_300; have := kc_3010; have := kc_1000000000; skip; omega⟩ hI0 p2) rfl rfl (Nat.le_of_ble_eq_true rfl) (mh_rok (by omega) (by decide)) (fun x9324 s9325 q9326 => ?_)
    obtain ⟨r_x9324, e0_s9325, rfl⟩ := q9326
    refine mw_if_eq 14 rfl 37 dX10_soonest_11 (by decide) (fun c9327 => ?_) (fun c9327 => ?_)
    · skip
      have r_x9324 : mh_r x9324 (0) (0) := mh_eq1 (show x9324.toInt = (0 : Int32).toInt from c9327) r_x9324 rc_0 (0) (0) (by decide)
      refine mw_iconst (v := -1) 38 rfl dX10_soonest_37 (by decide) ?_
      exact mw_iret dX10_soonest_38 rfl ⟨(-1), rfl, ⟨(mh_r_wk rc_m1 (by decide)), hI0, hF0⟩⟩
    · skip
      have r_p2 : mh_r p2 (0) (9) := ⟨by have := e0_s9325.1 (mh_z1 r_x9324 c9327); have := ((mh_r_full p2)).1; omega, by have := e0_s9325.1 (mh_z1 r_x9324 c9327); have := ((mh_r_full p2)).2; omega⟩
      have r_x9324 : mh_r x9324 (1) (1) := mh_ne1 (show x9324.toInt ≠ (0 : Int32).toInt from c9327) r_x9324 rc_0 (1) (1) (by decide)
      refine mw_iload_n 15 rfl 3 dX10_soonest_14 rfl rfl ?_
      refine mw_i2l 16 rfl dX10_soonest_15 (fun y9328 t9329 => ?_)
      refine mw_lconst (v := 0) 17 rfl dX10_soonest_16 (by decide) ?_
      refine mw_ldc2 20 rfl dX10_soonest_17 ck_X10_414 ?_
      refine mw_callSi [.long y9328, .long (0), .long (299)] [] 23 rfl dX10_soonest_20 ml_X10_154 mc_X10_lies mk_X10_lies (w_X10_lies l G (d + 9) ⟨by have := (r_p1).1; have := (r_p1).2; have := (r_p2).1; have := (r_p2).2; have := kc_m2; have := kc_m1; have := kc_0; have := kc_1; have := kc_10; have := kc_20; have := kc_300; have := kc_3010; have := kc_1000000000; skip; omega, by have := (r_p1).1; have := (r_p1).2; have := (r_p2).1; have := (r_p2).2; have := kc_m2; have := kc_m1; have := kc_0; have := kc_1; have := kc_10; have := kc_20; have := kc_300; have := kc_3010; have := kc_1000000000; skip; omega⟩ hI0 y9328 (0) (299)) rfl rfl (Nat.le_of_ble_eq_true rfl) (mh_rok (by omega) (by decide)) (fun x9330 s9331 q9332 => ?_)
      obtain ⟨r_x9330, e0_s9331, rfl⟩ := q9332
      have f_x9330 : x9330.toInt = 1 ↔ (0 ≤ p3.toInt ∧ p3.toInt ≤ 299) := by rw [e0_s9331]; exact by simp only [t9329, Int32.toInt_toInt64]; first | done | exact Iff.rfl
      refine mw_if_eq 26 rfl 37 dX10_soonest_23 (by decide) (fun c9333 => ?_) (fun c9333 => ?_)
      · skip
        have r_x9330 : mh_r x9330 (0) (0) := mh_eq1 (show x9330.toInt = (0 : Int32).toInt from c9333) r_x9330 rc_0 (0) (0) (by decide)
        refine mw_iconst (v := -1) 38 rfl dX10_soonest_37 (by decide) ?_
        exact mw_iret dX10_soonest_38 rfl ⟨(-1), rfl, ⟨(mh_r_wk rc_m1 (by decide)), hI0, hF0⟩⟩
      · skip
        have r_p3 : mh_r p3 (0) (299) := ⟨by have := f_x9330.1 (mh_z1 r_x9330 c9333); have := ((mh_r_full p3)).1; omega, by have := f_x9330.1 (mh_z1 r_x9330 c9333); have := ((mh_r_full p3)).2; omega⟩
        have r_x9330 : mh_r x9330 (1) (1) := mh_ne1 (show x9330.toInt ≠ (0 : Int32).toInt from c9333) r_x9330 rc_0 (1) (1) (by decide)
        refine mw_iload 28 rfl 4 dX10_soonest_26  rfl ?_
        refine mw_i2l 29 rfl dX10_soonest_28 (fun y9334 t9335 => ?_)
        refine mw_lconst (v := 0) 30 rfl dX10_soonest_29 (by decide) ?_
        refine mw_lconst (v := 1) 31 rfl dX10_soonest_30 (by decide) ?_
        refine mw_callSi [.long y9334, .long (0), .long (1)] [] 34 rfl dX10_soonest_31 ml_X10_154 mc_X10_lies mk_X10_lies (w_X10_lies l G (d + 9) ⟨by have := (r_p1).1; have := (r_p1).2; have := (r_p2).1; have := (r_p2).2; have := (r_p3).1; have := (r_p3).2; have := kc_m2; have := kc_m1; have := kc_0; have := kc_1; have := kc_10; have := kc_20; have := kc_300; have := kc_3010; have := kc_1000000000; skip; omega, by have := (r_p1).1; have := (r_p1).2; have := (r_p2).1; have := (r_p2).2; have := (r_p3).1; have := (r_p3).2; have := kc_m2; have := kc_m1; have := kc_0; have := kc_1; have := kc_10; have := kc_20; have := kc_300; have := kc_3010; have := kc_1000000000; skip; omega⟩ hI0 y9334 (0) (1)) rfl rfl (Nat.le_of_ble_eq_true rfl) (mh_rok (by omega) (by decide)) (fun x9336 s9337 q9338 => ?_)
        obtain ⟨r_x9336, e0_s9337, rfl⟩ := q9338
        have f_x9336 : x9336.toInt = 1 ↔ (0 ≤ p4.toInt ∧ p4.toInt ≤ 1) := by rw [e0_s9337]; exact by simp only [t9335, Int32.toInt_toInt64]; first | done | exact Iff.rfl
        refine mw_if_ne 37 rfl 39 dX10_soonest_34 (by decide) (fun c9339 => ?_) (fun c9339 => ?_)
        · skip
          have r_p4 : mh_r p4 (0) (1) := ⟨by have := f_x9336.1 (mh_z1 r_x9336 c9339); have := ((mh_r_full p4)).1; omega, by have := f_x9336.1 (mh_z1 r_x9336 c9339); have := ((mh_r_full p4)).2; omega⟩
          have r_x9336 : mh_r x9336 (1) (1) := mh_ne1 (show x9336.toInt ≠ (0 : Int32).toInt from c9339) r_x9336 rc_0 (1) (1) (by decide)
          refine mw_aload_n 40 rfl 0 dX10_soonest_39 rfl rfl ?_
          refine mw_callVv [] [] 43 rfl dX10_soonest_40 ml_X10_416 mc_X10_laysYards mk_X10_laysYards rfl rfl (by decide) (w_X10_laysYards l G (d + 0) (D := B) ⟨by have := (r_p1).1; have := (r_p1).2; have := (r_p2).1; have := (r_p2).2; have := (r_p3).1; have := (r_p3).2; have := (r_p4).1; have := (r_p4).2; have := kc_m2; have := kc_m1; have := kc_0; have := kc_1; have := kc_10; have := kc_20; have := kc_300; have := kc_3010; have := kc_1000000000; skip; omega, by have := (r_p1).1; have := (r_p1).2; have := (r_p2).1; have := (r_p2).2; have := (r_p3).1; have := (r_p3).2; have := (r_p4).1; have := (r_p4).2; have := kc_m2; have := kc_m1; have := kc_0; have := kc_1; have := kc_10; have := kc_20; have := kc_300; have := kc_3010; have := kc_1000000000; skip; omega⟩ hI0) rfl rfl (Nat.le_of_ble_eq_true rfl) (mh_rok (by omega) (by decide)) (fun s9341 q9342 => ?_)
          obtain ⟨hI_s9341, hG_s9341⟩ := q9342
          have hF_s9341 : mh_F S_X10_soonest s0 s9341 := mh_F_tl hF0 hG_s9341 (by decide +kernel)
          refine mw_iconst (v := 0) 44 rfl dX10_soonest_43 (by decide) ?_
          refine mw_istore 46 rfl [(5, .int (0)), (0, .ref (G.2.2.2 57)), (1, .int p1), (2, .int p2), (3, .int p3), (4, .int p4)] dX10_soonest_44  (by decide) rfl ?_
          have L46 : ∀ n1 : Nat, ∀ (x9509 : Int32) (s9510 : mh_H), mh_r x9509 (0) (3010) → mh_I B B s9510 → mh_F S_X10_soonest s0 s9510 → (3010) - x9509.toInt < (n1 : Int) → mh_W G (mh_XM l G (d + 10) (mh_Qi (P_X10_soonest B D s0 p1 p2 p3 p4))) mM_X10_soonest 46 [(0, .ref (G.2.2.2 57)), (1, .int p1), (2, .int p2), (3, .int p3), (4, .int p4), (5, .int x9509)] [] s9510 := by
            intro n1
            induction n1 with
            | zero =>
              intro x9509 s9510 r_x9509 hI_s9510 hF_s9510 hmn1
              exact absurd hmn1 (by have := r_x9509.1; have := r_x9509.2; omega)
            | succ n1 ihn1 =>
              intro x9509 s9510 r_x9509 hI_s9510 hF_s9510 hmn1
              refine mw_iload 48 rfl 5 dX10_soonest_46  rfl ?_
              refine mw_sipush (v := 3010) 51 rfl dX10_soonest_48 (by decide) ?_
              refine mw_icmp_ge 54 rfl 68 dX10_soonest_51 (by decide) (fun c9518 => ?_) (fun c9518 => ?_)
              · skip
                have r_x9509 : mh_r x9509 (3010) (3010) := mh_le2 c9518 rc_3010 r_x9509 (3010) (by decide)
                refine mw_aload_n 69 rfl 0 dX10_soonest_68 rfl rfl ?_
                refine mw_geta 72 rfl dX10_soonest_69 gf_X10_131 rfl 96 (mh_rf hI_s9510 93 rfl) ?_
                refine mw_bipush (v := 10) 74 rfl dX10_soonest_72 (by decide) ?_
                refine mw_iload_n 75 rfl 3 dX10_soonest_74 rfl rfl ?_
                refine mw_imul 76 rfl (0) (2990) dX10_soonest_75 rc_10 r_p3 (by decide) (fun x9519 t9520 r_x9519 => ?_)
                refine mw_iload_n 77 rfl 1 dX10_soonest_76 rfl rfl ?_
                refine mw_iadd 78 rfl (0) (2999) dX10_soonest_77 r_x9519 r_p1 (by decide) (fun x9521 t9522 r_x9521 => ?_)
                refine mw_iconst (v := 1) 79 rfl dX10_soonest_78 (by decide) ?_
                refine mw_zast 80 rfl dX10_soonest_79 rfl r_x9521 (by decide) (fun s9523 t9524 => ?_)
                rw [mh_nz (mh_r_wk rc_1 (by decide))] at t9524
                have hI_s9523 : mh_I B B s9523 := by rw [t9524]; exact wr_96 hI_s9510 (mh_r_wk rc_1 (by decide))
                have hF_s9523 : mh_F S_X10_soonest s0 s9523 := by rw [t9524]; exact mh_F_pI hF_s9510 (mh_si 24 rfl)
                refine mw_iload_n 81 rfl 3 dX10_soonest_80 rfl rfl ?_
                refine mw_istore 83 rfl [(5, .int p3), (0, .ref (G.2.2.2 57)), (1, .int p1), (2, .int p2), (3, .int p3), (4, .int p4)] dX10_soonest_81  (by decide) rfl ?_
                have L83 : ∀ n2 : Nat, ∀ (x14079 : Int32) (s14080 : mh_H), mh_r x14079 (0) (301) → mh_I B B s14080 → mh_F S_X10_soonest s0 s14080 → (301) - x14079.toInt < (n2 : Int) → mh_W G (mh_XM l G (d + 10) (mh_Qi (P_X10_soonest B D s0 p1 p2 p3 p4))) mM_X10_soonest 83 [(0, .ref (G.2.2.2 57)), (1, .int p1), (2, .int p2), (3, .int p3), (4, .int p4), (5, .int x14079)] [] s14080 := by
                  intro n2
                  induction n2 with
                  | zero =>
                    intro x14079 s14080 r_x14079 hI_s14080 hF_s14080 hmn2
                    exact absurd hmn2 (by have := r_x14079.1; have := r_x14079.2; omega)
                  | succ n2 ihn2 =>
                    intro x14079 s14080 r_x14079 hI_s14080 hF_s14080 hmn2
                    refine mw_iload 85 rfl 5 dX10_soonest_83  rfl ?_
                    refine mw_sipush (v := 300) 88 rfl dX10_soonest_85 (by decide) ?_
                    refine mw_icmp_gt 91 rfl 270 dX10_soonest_88 (by decide) (fun c16359 => ?_) (fun c16359 => ?_)
                    · skip
                      have r_x14079 : mh_r x14079 (301) (301) := mh_lt2 c16359 rc_300 r_x14079 (301) (by decide)
                      refine mw_bipush (v := -2) 272 rfl dX10_soonest_270 (by decide) ?_
                      exact mw_iret dX10_soonest_272 rfl ⟨(-2), rfl, ⟨(mh_r_wk rc_m2 (by decide)), hI_s14080, hF_s14080⟩⟩
                    · skip
                      have r_x14079 : mh_r x14079 (0) (300) := mh_le1 c16359 r_x14079 rc_300 (300) (by decide)
                      refine mw_aload_n 92 rfl 0 dX10_soonest_91 rfl rfl ?_
                      refine mw_geta 95 rfl dX10_soonest_92 gf_X10_131 rfl 96 (mh_rf hI_s14080 93 rfl) ?_
                      refine mw_bipush (v := 10) 97 rfl dX10_soonest_95 (by decide) ?_
                      refine mw_iload 99 rfl 5 dX10_soonest_97  rfl ?_
                      refine mw_imul 100 rfl (0) (3000) dX10_soonest_99 rc_10 r_x14079 (by decide) (fun x16360 t16361 r_x16360 => ?_)
                      refine mw_iload_n 101 rfl 2 dX10_soonest_100 rfl rfl ?_
                      refine mw_iadd 102 rfl (0) (3009) dX10_soonest_101 r_x16360 r_p2 (by decide) (fun x16362 t16363 r_x16362 => ?_)
                      refine mw_zald 103 rfl dX10_soonest_102 rfl r_x16362 (by decide) (fun x16364 t16365 => ?_)
                      have r_x16364 : mh_r x16364 (0) (1) := by rw [t16365]; exact rd_96 hI_s14080 _
                      refine mw_if_eq 106 rfl 109 dX10_soonest_103 (by decide) (fun c16366 => ?_) (fun c16366 => ?_)
                      · skip
                        have r_x16364 : mh_r x16364 (0) (0) := mh_eq1 (show x16364.toInt = (0 : Int32).toInt from c16366) r_x16364 rc_0 (0) (0) (by decide)
                        refine mw_iconst (v := 0) 110 rfl dX10_soonest_109 (by decide) ?_
                        refine mw_istore 112 rfl [(6, .int (0)), (0, .ref (G.2.2.2 57)), (1, .int p1), (2, .int p2), (3, .int p3), (4, .int p4), (5, .int x14079)] dX10_soonest_110  (by decide) rfl ?_
                        have L112 : ∀ n3 : Nat, ∀ (x17877 : Int32) (s17878 : mh_H), mh_r x17877 (0) (10) → mh_I B B s17878 → mh_F S_X10_soonest s0 s17878 → (10) - x17877.toInt < (n3 : Int) → mh_W G (mh_XM l G (d + 10) (mh_Qi (P_X10_soonest B D s0 p1 p2 p3 p4))) mM_X10_soonest 112 [(0, .ref (G.2.2.2 57)), (1, .int p1), (2, .int p2), (3, .int p3), (4, .int p4), (5, .int x14079), (6, .int x17877)] [] s17878 := by
                          intro n3
                          induction n3 with
                          | zero =>
                            intro x17877 s17878 r_x17877 hI_s17878 hF_s17878 hmn3
                            exact absurd hmn3 (by have := r_x17877.1; have := r_x17877.2; omega)
                          | succ n3 ihn3 =>
                            intro x17877 s17878 r_x17877 hI_s17878 hF_s17878 hmn3
                            refine mw_iload 114 rfl 6 dX10_soonest_112  rfl ?_
                            refine mw_bipush (v := 10) 116 rfl dX10_soonest_114 (by decide) ?_
                            refine mw_icmp_ge 119 rfl 264 dX10_soonest_116 (by decide) (fun c18257 => ?_) (fun c18257 => ?_)
                            · skip
                              have r_x17877 : mh_r x17877 (10) (10) := mh_le2 c18257 rc_10 r_x17877 (10) (by decide)
                              refine mw_iincR (k := 5) (1) (301) 267 rfl (fun z => [(5, .int z), (0, .ref (G.2.2.2 57)), (1, .int p1), (2, .int p2), (3, .int p3), (4, .int p4), (6, .int x17877)]) dX10_soonest_264 rfl (by decide) (fun _ => rfl) r_x14079 (by decide) (by decide) (fun x18258 t18259 r_x18258 => ?_)
                              refine mw_goto 270 rfl 83 dX10_soonest_267 (by decide) ?_
                              exact mw_lv [1, 2, 3, 4, 5, 0] rfl (ihn2 x18258 s17878 (mh_r_wk r_x18258 (by decide)) hI_s17878 hF_s17878 (by have : x18258.toInt = x14079.toInt + (1) := t18259; omega))
                            · skip
                              have r_x17877 : mh_r x17877 (0) (9) := mh_lt1 c18257 r_x17877 rc_10 (9) (by decide)
                              refine mw_aload_n 120 rfl 0 dX10_soonest_119 rfl rfl ?_
                              refine mw_geta 123 rfl dX10_soonest_120 gf_X10_131 rfl 96 (mh_rf hI_s17878 93 rfl) ?_
                              refine mw_bipush (v := 10) 125 rfl dX10_soonest_123 (by decide) ?_
                              refine mw_iload 127 rfl 5 dX10_soonest_125  rfl ?_
                              refine mw_imul 128 rfl (0) (3000) dX10_soonest_127 rc_10 r_x14079 (by decide) (fun x18260 t18261 r_x18260 => ?_)
                              obtain rfl : x16360 = x18260 := Int32.toInt_inj.mp (t16361.trans t18261.symm)
                              refine mw_iload 130 rfl 6 dX10_soonest_128  rfl ?_
                              refine mw_iadd 131 rfl (0) (3009) dX10_soonest_130 r_x16360 r_x17877 (by decide) (fun x18262 t18263 r_x18262 => ?_)
                              refine mw_zald 132 rfl dX10_soonest_131 rfl r_x18262 (by decide) (fun x18264 t18265 => ?_)
                              have r_x18264 : mh_r x18264 (0) (1) := by rw [t18265]; exact rd_96 hI_s17878 _
                              have J258 : ∀  (s18632 : mh_H), mh_I B B s18632 → mh_F S_X10_soonest s0 s18632 → mh_W G (mh_XM l G (d + 10) (mh_Qi (P_X10_soonest B D s0 p1 p2 p3 p4))) mM_X10_soonest 258 [(0, .ref (G.2.2.2 57)), (1, .int p1), (2, .int p2), (3, .int p3), (4, .int p4), (5, .int x14079), (6, .int x17877)] [] s18632 := by
                                intro s18632 hI_s18632 hF_s18632
                                refine mw_iincR (k := 6) (1) (10) 261 rfl (fun z => [(6, .int z), (0, .ref (G.2.2.2 57)), (1, .int p1), (2, .int p2), (3, .int p3), (4, .int p4), (5, .int x14079)]) dX10_soonest_258 rfl (by decide) (fun _ => rfl) r_x17877 (by decide) (by decide) (fun x18635 t18636 r_x18635 => ?_)
                                refine mw_goto 264 rfl 112 dX10_soonest_261 (by decide) ?_
                                exact mw_lv [1, 2, 3, 4, 5, 6, 0] rfl (ihn3 x18635 s18632 (mh_r_wk r_x18635 (by decide)) hI_s18632 hF_s18632 (by have : x18635.toInt = x17877.toInt + (1) := t18636; omega))
                              refine mw_if_ne 135 rfl 138 dX10_soonest_132 (by decide) (fun c18637 => ?_) (fun c18637 => ?_)
                              · skip
                                have r_x18264 : mh_r x18264 (1) (1) := mh_ne1 (show x18264.toInt ≠ (0 : Int32).toInt from c18637) r_x18264 rc_0 (1) (1) (by decide)
                                refine mw_iload 140 rfl 4 dX10_soonest_138  rfl ?_
                                have J153 : ∀  (s18644 : mh_H), mh_I B B s18644 → mh_F S_X10_soonest s0 s18644 → mh_W G (mh_XM l G (d + 10) (mh_Qi (P_X10_soonest B D s0 p1 p2 p3 p4))) mM_X10_soonest 153 [(0, .ref (G.2.2.2 57)), (1, .int p1), (2, .int p2), (3, .int p3), (4, .int p4), (5, .int x14079), (6, .int x17877)] [] s18644 := by
                                  intro s18644 hI_s18644 hF_s18644
                                  refine mw_iconst (v := 0) 154 rfl dX10_soonest_153 (by decide) ?_
                                  refine mw_istore 156 rfl [(7, .int (0)), (0, .ref (G.2.2.2 57)), (1, .int p1), (2, .int p2), (3, .int p3), (4, .int p4), (5, .int x14079), (6, .int x17877)] dX10_soonest_154  (by decide) rfl ?_
                                  have L156 : ∀ n4 : Nat, ∀ (x19289 : Int32) (s19290 : mh_H), mh_r x19289 (0) (20) → mh_I B B s19290 → mh_F S_X10_soonest s0 s19290 → (20) - x19289.toInt < (n4 : Int) → mh_W G (mh_XM l G (d + 10) (mh_Qi (P_X10_soonest B D s0 p1 p2 p3 p4))) mM_X10_soonest 156 [(0, .ref (G.2.2.2 57)), (1, .int p1), (2, .int p2), (3, .int p3), (4, .int p4), (5, .int x14079), (6, .int x17877), (7, .int x19289)] [] s19290 := by
                                    intro n4
                                    induction n4 with
                                    | zero =>
                                      intro x19289 s19290 r_x19289 hI_s19290 hF_s19290 hmn4
                                      exact absurd hmn4 (by have := r_x19289.1; have := r_x19289.2; omega)
                                    | succ n4 ihn4 =>
                                      intro x19289 s19290 r_x19289 hI_s19290 hF_s19290 hmn4
                                      refine mw_iload 158 rfl 7 dX10_soonest_156  rfl ?_
                                      refine mw_bipush (v := 20) 160 rfl dX10_soonest_158 (by decide) ?_
                                      refine mw_icmp_ge 163 rfl 258 dX10_soonest_160 (by decide) (fun c19327 => ?_) (fun c19327 => ?_)
                                      · skip
                                        have r_x19289 : mh_r x19289 (20) (20) := mh_le2 c19327 rc_20 r_x19289 (20) (by decide)
                                        exact mw_lv [0, 1, 2, 3, 4, 5, 6] rfl (J258 s19290 hI_s19290 hF_s19290)
                                      · skip
                                        have r_x19289 : mh_r x19289 (0) (19) := mh_lt1 c19327 r_x19289 rc_20 (19) (by decide)
                                        refine mw_aload_n 164 rfl 0 dX10_soonest_163 rfl rfl ?_
                                        refine mw_geta 167 rfl dX10_soonest_164 gf_X10_113 rfl 90 (mh_rf hI_s19290 87 rfl) ?_
                                        refine mw_iload 169 rfl 7 dX10_soonest_167  rfl ?_
                                        refine mw_zald 170 rfl dX10_soonest_169 rfl r_x19289 (by decide) (fun x19328 t19329 => ?_)
                                        have r_x19328 : mh_r x19328 (0) (1) := by rw [t19329]; exact rd_90 hI_s19290 _
                                        have J252 : ∀  (s19358 : mh_H), mh_I B B s19358 → mh_F S_X10_soonest s0 s19358 → mh_W G (mh_XM l G (d + 10) (mh_Qi (P_X10_soonest B D s0 p1 p2 p3 p4))) mM_X10_soonest 252 [(0, .ref (G.2.2.2 57)), (1, .int p1), (2, .int p2), (3, .int p3), (4, .int p4), (5, .int x14079), (6, .int x17877), (7, .int x19289)] [] s19358 := by
                                          intro s19358 hI_s19358 hF_s19358
                                          refine mw_iincR (k := 7) (1) (20) 255 rfl (fun z => [(7, .int z), (0, .ref (G.2.2.2 57)), (1, .int p1), (2, .int p2), (3, .int p3), (4, .int p4), (5, .int x14079), (6, .int x17877)]) dX10_soonest_252 rfl (by decide) (fun _ => rfl) r_x19289 (by decide) (by decide) (fun x19361 t19362 r_x19361 => ?_)
                                          refine mw_goto 258 rfl 156 dX10_soonest_255 (by decide) ?_
                                          exact mw_lv [1, 2, 3, 4, 5, 6, 7, 0] rfl (ihn4 x19361 s19358 (mh_r_wk r_x19361 (by decide)) hI_s19358 hF_s19358 (by have : x19361.toInt = x19289.toInt + (1) := t19362; omega))
                                        refine mw_if_eq 173 rfl 252 dX10_soonest_170 (by decide) (fun c19363 => ?_) (fun c19363 => ?_)
                                        · skip
                                          have r_x19328 : mh_r x19328 (0) (0) := mh_eq1 (show x19328.toInt = (0 : Int32).toInt from c19363) r_x19328 rc_0 (0) (0) (by decide)
                                          exact mw_lv [0, 1, 2, 3, 4, 5, 6, 7] rfl (J252 s19290 hI_s19290 hF_s19290)
                                        · skip
                                          have r_x19328 : mh_r x19328 (1) (1) := mh_ne1 (show x19328.toInt ≠ (0 : Int32).toInt from c19363) r_x19328 rc_0 (1) (1) (by decide)
                                          refine mw_aload_n 174 rfl 0 dX10_soonest_173 rfl rfl ?_
                                          refine mw_iload 176 rfl 7 dX10_soonest_174  rfl ?_
                                          refine mw_iload 178 rfl 5 dX10_soonest_176  rfl ?_
                                          refine mw_callVi [.int x19289, .int x14079] [] 181 rfl dX10_soonest_178 ml_X10_422 mc_X10_outOf mk_X10_outOf rfl rfl (by decide) (w_X10_outOf l G (d + 9) ⟨by have := (r_p1).1; have := (r_p1).2; have := (r_p2).1; have := (r_p2).2; have := (r_p3).1; have := (r_p3).2; have := (r_p4).1; have := (r_p4).2; have := (r_x14079).1; have := (r_x14079).2; have := (r_x17877).1; have := (r_x17877).2; have := (r_x19289).1; have := (r_x19289).2; have := (r_x19328).1; have := (r_x19328).2; have := kc_m2; have := kc_m1; have := kc_0; have := kc_1; have := kc_10; have := kc_20; have := kc_300; have := kc_3010; have := kc_1000000000; skip; omega, by have := (r_p1).1; have := (r_p1).2; have := (r_p2).1; have := (r_p2).2; have := (r_p3).1; have := (r_p3).2; have := (r_p4).1; have := (r_p4).2; have := (r_x14079).1; have := (r_x14079).2; have := (r_x17877).1; have := (r_x17877).2; have := (r_x19289).1; have := (r_x19289).2; have := (r_x19328).1; have := (r_x19328).2; have := kc_m2; have := kc_m1; have := kc_0; have := kc_1; have := kc_10; have := kc_20; have := kc_300; have := kc_3010; have := kc_1000000000; skip; omega⟩ hI_s19290 x19289 r_x19289 x14079 r_x14079) rfl rfl (Nat.le_of_ble_eq_true rfl) (mh_rok (by omega) (by decide)) (fun x19364 s19365 q19366 => ?_)
                                          obtain ⟨r_x19364, rfl⟩ := q19366
                                          refine mw_ldcw 184 rfl dX10_soonest_181 ck_X10_413 ?_
                                          refine mw_icmp_ne 187 rfl 190 dX10_soonest_184 (by decide) (fun c19367 => ?_) (fun c19367 => ?_)
                                          · skip
                                            have r_x19364 : mh_r x19364 (0) (999999999) := mh_ne1 c19367 r_x19364 rc_1000000000 (0) (999999999) (by decide)
                                            refine mw_aload_n 191 rfl 0 dX10_soonest_190 rfl rfl ?_
                                            refine mw_geta 194 rfl dX10_soonest_191 gf_X10_116 rfl 91 (mh_rf hI_s19290 88 rfl) ?_
                                            refine mw_iload 196 rfl 7 dX10_soonest_194  rfl ?_
                                            refine mw_iald 197 rfl dX10_soonest_196 rfl r_x19289 (by decide) (fun x19368 t19369 => ?_)
                                            have r_x19368 : mh_r x19368 (0) (9) := by rw [t19369]; exact rd_91 hI_s19290 _
                                            refine mw_iload 199 rfl 6 dX10_soonest_197  rfl ?_
                                            have J221 : ∀  (s19379 : mh_H), mh_I B B s19379 → mh_F S_X10_soonest s0 s19379 → mh_W G (mh_XM l G (d + 10) (mh_Qi (P_X10_soonest B D s0 p1 p2 p3 p4))) mM_X10_soonest 221 [(0, .ref (G.2.2.2 57)), (1, .int p1), (2, .int p2), (3, .int p3), (4, .int p4), (5, .int x14079), (6, .int x17877), (7, .int x19289)] [] s19379 := by
                                              intro s19379 hI_s19379 hF_s19379
                                              refine mw_aload_n 222 rfl 0 dX10_soonest_221 rfl rfl ?_
                                              refine mw_geta 225 rfl dX10_soonest_222 gf_X10_119 rfl 92 (mh_rf hI_s19379 89 rfl) ?_
                                              refine mw_iload 227 rfl 7 dX10_soonest_225  rfl ?_
                                              refine mw_iald 228 rfl dX10_soonest_227 rfl r_x19289 (by decide) (fun x19391 t19392 => ?_)
                                              have r_x19391 : mh_r x19391 (0) (9) := by rw [t19392]; exact rd_92 hI_s19379 _
                                              refine mw_iload 230 rfl 6 dX10_soonest_228  rfl ?_
                                              refine mw_icmp_ne 233 rfl 252 dX10_soonest_230 (by decide) (fun c19393 => ?_) (fun c19393 => ?_)
                                              · skip
                                                exact mw_lv [0, 1, 2, 3, 4, 5, 6, 7] rfl (J252 s19379 hI_s19379 hF_s19379)
                                              · skip
                                                refine mw_aload_n 234 rfl 0 dX10_soonest_233 rfl rfl ?_
                                                refine mw_aload_n 235 rfl 0 dX10_soonest_234 rfl rfl ?_
                                                refine mw_geta 238 rfl dX10_soonest_235 gf_X10_116 rfl 91 (mh_rf hI_s19379 88 rfl) ?_
                                                refine mw_iload 240 rfl 7 dX10_soonest_238  rfl ?_
                                                refine mw_iald 241 rfl dX10_soonest_240 rfl r_x19289 (by decide) (fun x19394 t19395 => ?_)
                                                have r_x19394 : mh_r x19394 (0) (9) := by rw [t19395]; exact rd_91 hI_s19379 _
                                                refine mw_aload_n 242 rfl 0 dX10_soonest_241 rfl rfl ?_
                                                refine mw_iload 244 rfl 7 dX10_soonest_242  rfl ?_
                                                refine mw_iload 246 rfl 5 dX10_soonest_244  rfl ?_
                                                refine mw_callVi [.int x19289, .int x14079] [.int x19394, .ref (G.2.2.2 57)] 249 rfl dX10_soonest_246 ml_X10_422 mc_X10_outOf mk_X10_outOf rfl rfl (by decide) (w_X10_outOf l G (d + 9) ⟨by have := (r_p1).1; have := (r_p1).2; have := (r_p2).1; have := (r_p2).2; have := (r_p3).1; have := (r_p3).2; have := (r_p4).1; have := (r_p4).2; have := (r_x14079).1; have := (r_x14079).2; have := (r_x17877).1; have := (r_x17877).2; have := (r_x19289).1; have := (r_x19289).2; have := (r_x19394).1; have := (r_x19394).2; have := (r_x19391).1; have := (r_x19391).2; have := kc_m2; have := kc_m1; have := kc_0; have := kc_1; have := kc_10; have := kc_20; have := kc_300; have := kc_3010; have := kc_1000000000; skip; omega, by have := (r_p1).1; have := (r_p1).2; have := (r_p2).1; have := (r_p2).2; have := (r_p3).1; have := (r_p3).2; have := (r_p4).1; have := (r_p4).2; have := (r_x14079).1; have := (r_x14079).2; have := (r_x17877).1; have := (r_x17877).2; have := (r_x19289).1; have := (r_x19289).2; have := (r_x19394).1; have := (r_x19394).2; have := (r_x19391).1; have := (r_x19391).2; have := kc_m2; have := kc_m1; have := kc_0; have := kc_1; have := kc_10; have := kc_20; have := kc_300; have := kc_3010; have := kc_1000000000; skip; omega⟩ hI_s19379 x19289 r_x19289 x14079 r_x14079) rfl rfl (Nat.le_of_ble_eq_true rfl) (mh_rok (by omega) (by decide)) (fun x19396 s19397 q19398 => ?_)
                                                obtain ⟨r_x19396, rfl⟩ := q19398
                                                refine mw_callVv [.int x19394, .int x19396] [] 252 rfl dX10_soonest_249 ml_X10_419 mc_X10_arrives mk_X10_arrives rfl rfl (by decide) (w_X10_arrives l G (d + 9) ⟨by have := (r_p1).1; have := (r_p1).2; have := (r_p2).1; have := (r_p2).2; have := (r_p3).1; have := (r_p3).2; have := (r_p4).1; have := (r_p4).2; have := (r_x14079).1; have := (r_x14079).2; have := (r_x17877).1; have := (r_x17877).2; have := (r_x19289).1; have := (r_x19289).2; have := (r_x19391).1; have := (r_x19391).2; have := (r_x19394).1; have := (r_x19394).2; have := kc_m2; have := kc_m1; have := kc_0; have := kc_1; have := kc_10; have := kc_20; have := kc_300; have := kc_3010; have := kc_1000000000; skip; omega, by have := (r_p1).1; have := (r_p1).2; have := (r_p2).1; have := (r_p2).2; have := (r_p3).1; have := (r_p3).2; have := (r_p4).1; have := (r_p4).2; have := (r_x14079).1; have := (r_x14079).2; have := (r_x17877).1; have := (r_x17877).2; have := (r_x19289).1; have := (r_x19289).2; have := (r_x19391).1; have := (r_x19391).2; have := (r_x19394).1; have := (r_x19394).2; have := kc_m2; have := kc_m1; have := kc_0; have := kc_1; have := kc_10; have := kc_20; have := kc_300; have := kc_3010; have := kc_1000000000; skip; omega⟩ hI_s19379 x19394 r_x19394 x19396 (mh_r_wk r_x19396 (by decide))) rfl rfl (Nat.le_of_ble_eq_true rfl) (mh_rok (by omega) (by decide)) (fun s19400 q19401 => ?_)
                                                obtain ⟨hI_s19400, hG_s19400⟩ := q19401
                                                have hF_s19400 : mh_F S_X10_soonest s0 s19400 := mh_F_tl hF_s19379 hG_s19400 (by decide +kernel)
                                                exact mw_lv [0, 1, 2, 3, 4, 5, 6, 7] rfl (J252 s19400 hI_s19400 hF_s19400)
                                            refine mw_icmp_ne 202 rfl 221 dX10_soonest_199 (by decide) (fun c19402 => ?_) (fun c19402 => ?_)
                                            · skip
                                              exact mw_lv [0, 1, 2, 3, 4, 5, 6, 7] rfl (J221 s19290 hI_s19290 hF_s19290)
                                            · skip
                                              refine mw_aload_n 203 rfl 0 dX10_soonest_202 rfl rfl ?_
                                              refine mw_aload_n 204 rfl 0 dX10_soonest_203 rfl rfl ?_
                                              refine mw_geta 207 rfl dX10_soonest_204 gf_X10_119 rfl 92 (mh_rf hI_s19290 89 rfl) ?_
                                              refine mw_iload 209 rfl 7 dX10_soonest_207  rfl ?_
                                              refine mw_iald 210 rfl dX10_soonest_209 rfl r_x19289 (by decide) (fun x19403 t19404 => ?_)
                                              have r_x19403 : mh_r x19403 (0) (9) := by rw [t19404]; exact rd_92 hI_s19290 _
                                              refine mw_aload_n 211 rfl 0 dX10_soonest_210 rfl rfl ?_
                                              refine mw_iload 213 rfl 7 dX10_soonest_211  rfl ?_
                                              refine mw_iload 215 rfl 5 dX10_soonest_213  rfl ?_
                                              refine mw_callVi [.int x19289, .int x14079] [.int x19403, .ref (G.2.2.2 57)] 218 rfl dX10_soonest_215 ml_X10_422 mc_X10_outOf mk_X10_outOf rfl rfl (by decide) (w_X10_outOf l G (d + 9) ⟨by have := (r_p1).1; have := (r_p1).2; have := (r_p2).1; have := (r_p2).2; have := (r_p3).1; have := (r_p3).2; have := (r_p4).1; have := (r_p4).2; have := (r_x14079).1; have := (r_x14079).2; have := (r_x17877).1; have := (r_x17877).2; have := (r_x19289).1; have := (r_x19289).2; have := (r_x19403).1; have := (r_x19403).2; have := (r_x19328).1; have := (r_x19328).2; have := (r_x19368).1; have := (r_x19368).2; have := kc_m2; have := kc_m1; have := kc_0; have := kc_1; have := kc_10; have := kc_20; have := kc_300; have := kc_3010; have := kc_1000000000; skip; omega, by have := (r_p1).1; have := (r_p1).2; have := (r_p2).1; have := (r_p2).2; have := (r_p3).1; have := (r_p3).2; have := (r_p4).1; have := (r_p4).2; have := (r_x14079).1; have := (r_x14079).2; have := (r_x17877).1; have := (r_x17877).2; have := (r_x19289).1; have := (r_x19289).2; have := (r_x19403).1; have := (r_x19403).2; have := (r_x19328).1; have := (r_x19328).2; have := (r_x19368).1; have := (r_x19368).2; have := kc_m2; have := kc_m1; have := kc_0; have := kc_1; have := kc_10; have := kc_20; have := kc_300; have := kc_3010; have := kc_1000000000; skip; omega⟩ hI_s19290 x19289 r_x19289 x14079 r_x14079) rfl rfl (Nat.le_of_ble_eq_true rfl) (mh_rok (by omega) (by decide)) (fun x19405 s19406 q19407 => ?_)
                                              obtain ⟨r_x19405, rfl⟩ := q19407
                                              refine mw_callVv [.int x19403, .int x19405] [] 221 rfl dX10_soonest_218 ml_X10_419 mc_X10_arrives mk_X10_arrives rfl rfl (by decide) (w_X10_arrives l G (d + 9) ⟨by have := (r_p1).1; have := (r_p1).2; have := (r_p2).1; have := (r_p2).2; have := (r_p3).1; have := (r_p3).2; have := (r_p4).1; have := (r_p4).2; have := (r_x14079).1; have := (r_x14079).2; have := (r_x17877).1; have := (r_x17877).2; have := (r_x19289).1; have := (r_x19289).2; have := (r_x19328).1; have := (r_x19328).2; have := (r_x19368).1; have := (r_x19368).2; have := (r_x19403).1; have := (r_x19403).2; have := kc_m2; have := kc_m1; have := kc_0; have := kc_1; have := kc_10; have := kc_20; have := kc_300; have := kc_3010; have := kc_1000000000; skip; omega, by have := (r_p1).1; have := (r_p1).2; have := (r_p2).1; have := (r_p2).2; have := (r_p3).1; have := (r_p3).2; have := (r_p4).1; have := (r_p4).2; have := (r_x14079).1; have := (r_x14079).2; have := (r_x17877).1; have := (r_x17877).2; have := (r_x19289).1; have := (r_x19289).2; have := (r_x19328).1; have := (r_x19328).2; have := (r_x19368).1; have := (r_x19368).2; have := (r_x19403).1; have := (r_x19403).2; have := kc_m2; have := kc_m1; have := kc_0; have := kc_1; have := kc_10; have := kc_20; have := kc_300; have := kc_3010; have := kc_1000000000; skip; omega⟩ hI_s19290 x19403 r_x19403 x19405 (mh_r_wk r_x19405 (by decide))) rfl rfl (Nat.le_of_ble_eq_true rfl) (mh_rok (by omega) (by decide)) (fun s19409 q19410 => ?_)
                                              obtain ⟨hI_s19409, hG_s19409⟩ := q19410
                                              have hF_s19409 : mh_F S_X10_soonest s0 s19409 := mh_F_tl hF_s19290 hG_s19409 (by decide +kernel)
                                              exact mw_lv [0, 1, 2, 3, 4, 5, 6, 7] rfl (J221 s19409 hI_s19409 hF_s19409)
                                          · skip
                                            have r_x19364 : mh_r x19364 (1000000000) (1000000000) := mh_eq1 c19367 r_x19364 rc_1000000000 (1000000000) (1000000000) (by decide)
                                            refine mw_goto 190 rfl 252 dX10_soonest_187 (by decide) ?_
                                            exact mw_lv [0, 1, 2, 3, 4, 5, 6, 7] rfl (J252 s19290 hI_s19290 hF_s19290)
                                  exact mw_lv [1, 2, 3, 4, 5, 6, 7, 0] rfl (L156 21 (0) s18644 (mh_r_wk rc_0 (by decide)) hI_s18644 hF_s18644 (by have := (rc_0).1; have := (rc_0).2; omega))
                                refine mw_if_ne 143 rfl 153 dX10_soonest_140 (by decide) (fun c19411 => ?_) (fun c19411 => ?_)
                                · skip
                                  have r_p4 : mh_r p4 (1) (1) := mh_ne1 (show p4.toInt ≠ (0 : Int32).toInt from c19411) r_p4 rc_0 (1) (1) (by decide)
                                  exact mw_lv [0, 1, 2, 3, 4, 5, 6] rfl (J153 s17878 hI_s17878 hF_s17878)
                                · skip
                                  have r_p4 : mh_r p4 (0) (0) := mh_eq1 (show p4.toInt = (0 : Int32).toInt from c19411) r_p4 rc_0 (0) (0) (by decide)
                                  refine mw_aload_n 144 rfl 0 dX10_soonest_143 rfl rfl ?_
                                  refine mw_iload 146 rfl 6 dX10_soonest_144  rfl ?_
                                  refine mw_iload 148 rfl 5 dX10_soonest_146  rfl ?_
                                  refine mw_iconst (v := 1) 149 rfl dX10_soonest_148 (by decide) ?_
                                  refine mw_iadd 150 rfl (1) (301) dX10_soonest_149 r_x14079 rc_1 (by decide) (fun x19412 t19413 r_x19412 => ?_)
                                  refine mw_callVv [.int x17877, .int x19412] [] 153 rfl dX10_soonest_150 ml_X10_419 mc_X10_arrives mk_X10_arrives rfl rfl (by decide) (w_X10_arrives l G (d + 9) ⟨by have := (r_p1).1; have := (r_p1).2; have := (r_p2).1; have := (r_p2).2; have := (r_p3).1; have := (r_p3).2; have := (r_p4).1; have := (r_p4).2; have := (r_x14079).1; have := (r_x14079).2; have := (r_x17877).1; have := (r_x17877).2; have := (r_x18264).1; have := (r_x18264).2; have := kc_m2; have := kc_m1; have := kc_0; have := kc_1; have := kc_10; have := kc_20; have := kc_300; have := kc_3010; have := kc_1000000000; skip; omega, by have := (r_p1).1; have := (r_p1).2; have := (r_p2).1; have := (r_p2).2; have := (r_p3).1; have := (r_p3).2; have := (r_p4).1; have := (r_p4).2; have := (r_x14079).1; have := (r_x14079).2; have := (r_x17877).1; have := (r_x17877).2; have := (r_x18264).1; have := (r_x18264).2; have := kc_m2; have := kc_m1; have := kc_0; have := kc_1; have := kc_10; have := kc_20; have := kc_300; have := kc_3010; have := kc_1000000000; skip; omega⟩ hI_s17878 x17877 r_x17877 x19412 (mh_r_wk r_x19412 (by decide))) rfl rfl (Nat.le_of_ble_eq_true rfl) (mh_rok (by omega) (by decide)) (fun s19415 q19416 => ?_)
                                  obtain ⟨hI_s19415, hG_s19415⟩ := q19416
                                  have hF_s19415 : mh_F S_X10_soonest s0 s19415 := mh_F_tl hF_s17878 hG_s19415 (by decide +kernel)
                                  exact mw_lv [0, 1, 2, 3, 4, 5, 6] rfl (J153 s19415 hI_s19415 hF_s19415)
                              · skip
                                have r_x18264 : mh_r x18264 (0) (0) := mh_eq1 (show x18264.toInt = (0 : Int32).toInt from c18637) r_x18264 rc_0 (0) (0) (by decide)
                                refine mw_goto 138 rfl 258 dX10_soonest_135 (by decide) ?_
                                exact mw_lv [0, 1, 2, 3, 4, 5, 6] rfl (J258 s17878 hI_s17878 hF_s17878)
                        exact mw_lv [1, 2, 3, 4, 5, 6, 0] rfl (L112 11 (0) s14080 (mh_r_wk rc_0 (by decide)) hI_s14080 hF_s14080 (by have := (rc_0).1; have := (rc_0).2; omega))
                      · skip
                        have r_x16364 : mh_r x16364 (1) (1) := mh_ne1 (show x16364.toInt ≠ (0 : Int32).toInt from c16366) r_x16364 rc_0 (1) (1) (by decide)
                        refine mw_iload 108 rfl 5 dX10_soonest_106  rfl ?_
                        exact mw_iret dX10_soonest_108 rfl ⟨x14079, rfl, ⟨(mh_r_wk r_x14079 (by decide)), hI_s14080, hF_s14080⟩⟩
                exact mw_lv [1, 2, 3, 4, 5, 0] rfl (L83 302 p3 s9523 (mh_r_wk r_p3 (by decide)) hI_s9523 hF_s9523 (by have := (r_p3).1; have := (r_p3).2; omega))
              · skip
                have r_x9509 : mh_r x9509 (0) (3009) := mh_lt1 c9518 r_x9509 rc_3010 (3009) (by decide)
                refine mw_aload_n 55 rfl 0 dX10_soonest_54 rfl rfl ?_
                refine mw_geta 58 rfl dX10_soonest_55 gf_X10_131 rfl 96 (mh_rf hI_s9510 93 rfl) ?_
                refine mw_iload 60 rfl 5 dX10_soonest_58  rfl ?_
                refine mw_iconst (v := 0) 61 rfl dX10_soonest_60 (by decide) ?_
                refine mw_zast 62 rfl dX10_soonest_61 rfl r_x9509 (by decide) (fun s19417 t19418 => ?_)
                rw [mh_nz (mh_r_wk rc_0 (by decide))] at t19418
                have hI_s19417 : mh_I B B s19417 := by rw [t19418]; exact wr_96 hI_s9510 (mh_r_wk rc_0 (by decide))
                have hF_s19417 : mh_F S_X10_soonest s0 s19417 := by rw [t19418]; exact mh_F_pI hF_s9510 (mh_si 24 rfl)
                refine mw_iincR (k := 5) (1) (3010) 65 rfl (fun z => [(5, .int z), (0, .ref (G.2.2.2 57)), (1, .int p1), (2, .int p2), (3, .int p3), (4, .int p4)]) dX10_soonest_62 rfl (by decide) (fun _ => rfl) r_x9509 (by decide) (by decide) (fun x19419 t19420 r_x19419 => ?_)
                refine mw_goto 68 rfl 46 dX10_soonest_65 (by decide) ?_
                exact mw_lv [1, 2, 3, 4, 5, 0] rfl (ihn1 x19419 s19417 (mh_r_wk r_x19419 (by decide)) hI_s19417 hF_s19417 (by have : x19419.toInt = x9509.toInt + (1) := t19420; omega))
          exact mw_lv [1, 2, 3, 4, 5, 0] rfl (L46 3011 (0) s9341 (mh_r_wk rc_0 (by decide)) hI_s9341 hF_s9341 (by have := (rc_0).1; have := (rc_0).2; omega))
        · skip
          have r_x9336 : mh_r x9336 (0) (0) := mh_eq1 (show x9336.toInt = (0 : Int32).toInt from c9339) r_x9336 rc_0 (0) (0) (by decide)
          refine mw_iconst (v := -1) 38 rfl dX10_soonest_37 (by decide) ?_
          exact mw_iret dX10_soonest_38 rfl ⟨(-1), rfl, ⟨(mh_r_wk rc_m1 (by decide)), hI0, hF0⟩⟩

def S_X10_edge : List (Nat × Nat) := [(57, 33), (57, 34), (57, 35), (57, 36), (57, 37), (78, 9999), (77, 9999)]
def P_X10_edge (B D : Int) (s0 : mh_H) (p1 : Int32) : Int32 → mh_H → Prop := fun z s => mh_r z (-2) (2147483647) ∧ mh_I B D s ∧ mh_F S_X10_edge s0 s
set_option maxRecDepth 100000 in
set_option maxHeartbeats 4000000 in
theorem w_X10_edge (l : Launch) (G : mh_G) (d : Nat) {B D : Int} (hB : B ≤ 1820000000 ∧ D ≤ 1820000000) {s0 : mh_H} (hI0 : mh_I B D s0) (p1 : Int32) : mh_Mi l G (d + 9) mM_X10_edge [.ref (G.2.2.2 57), .int p1] s0 (P_X10_edge B D s0 p1) := by
  refine mh_enter (lv := [(0, .ref (G.2.2.2 57)), (1, .int p1)]) (by decide) rfl (Nat.le_of_ble_eq_true rfl) ?_
  have hF0 : mh_F S_X10_edge s0 s0 := mh_F_rf
  refine mw_iload_n 1 rfl 1 dX10_edge_0 rfl rfl ?_
  refine mw_i2l 2 rfl dX10_edge_1 (fun y1640 t1641 => ?_)
  refine mw_lconst (v := 0) 3 rfl dX10_edge_2 (by decide) ?_
  refine mw_ldc2 6 rfl dX10_edge_3 ck_X10_425 ?_
  refine mw_callSi [.long y1640, .long (0), .long (2)] [] 9 rfl dX10_edge_6 ml_X10_154 mc_X10_lies mk_X10_lies (w_X10_lies l G (d + 8) ⟨by omega, by omega⟩ hI0 y1640 (0) (2)) rfl rfl (Nat.le_of_ble_eq_true rfl) (mh_rok (by omega) (by decide)) (fun x1642 s1643 q1644 => ?_)
  obtain ⟨r_x1642, e0_s1643, rfl⟩ := q1644
  have f_x1642 : x1642.toInt = 1 ↔ (0 ≤ p1.toInt ∧ p1.toInt ≤ 2) := by rw [e0_s1643]; exact by simp only [t1641, Int32.toInt_toInt64]; first | done | exact Iff.rfl
  refine mw_if_ne 12 rfl 14 dX10_edge_9 (by decide) (fun c1645 => ?_) (fun c1645 => ?_)
  · skip
    have r_p1 : mh_r p1 (0) (2) := ⟨by have := f_x1642.1 (mh_z1 r_x1642 c1645); have := ((mh_r_full p1)).1; omega, by have := f_x1642.1 (mh_z1 r_x1642 c1645); have := ((mh_r_full p1)).2; omega⟩
    have r_x1642 : mh_r x1642 (1) (1) := mh_ne1 (show x1642.toInt ≠ (0 : Int32).toInt from c1645) r_x1642 rc_0 (1) (1) (by decide)
    refine mw_bipush (v := -2) 16 rfl dX10_edge_14 (by decide) ?_
    refine mw_istore_n 17 rfl [(2, .int (-2)), (0, .ref (G.2.2.2 57)), (1, .int p1)] dX10_edge_16 rfl (by decide) rfl ?_
    refine mw_bipush (v := -2) 19 rfl dX10_edge_17 (by decide) ?_
    refine mw_istore_n 20 rfl [(3, .int (-2)), (2, .int (-2)), (0, .ref (G.2.2.2 57)), (1, .int p1)] dX10_edge_19 rfl (by decide) rfl ?_
    refine mw_bipush (v := -2) 22 rfl dX10_edge_20 (by decide) ?_
    refine mw_istore 24 rfl [(4, .int (-2)), (3, .int (-2)), (2, .int (-2)), (0, .ref (G.2.2.2 57)), (1, .int p1)] dX10_edge_22  (by decide) rfl ?_
    refine mw_iconst (v := 0) 25 rfl dX10_edge_24 (by decide) ?_
    refine mw_istore 27 rfl [(5, .int (0)), (4, .int (-2)), (3, .int (-2)), (2, .int (-2)), (0, .ref (G.2.2.2 57)), (1, .int p1)] dX10_edge_25  (by decide) rfl ?_
    have L27 : ∀ n1 : Nat, ∀ (x3039 : Int32) (x3040 : Int32) (x3041 : Int32) (x3042 : Int32) (s3043 : mh_H), mh_r x3039 (0) (20) → mh_r x3040 (-2) (2147483647) → mh_r x3041 (-2) (19) → mh_r x3042 (-2) (19) → mh_I B D s3043 → mh_F S_X10_edge s0 s3043 → (20) - x3039.toInt < (n1 : Int) → mh_W G (mh_XM l G (d + 9) (mh_Qi (P_X10_edge B D s0 p1))) mM_X10_edge 27 [(0, .ref (G.2.2.2 57)), (1, .int p1), (2, .int x3042), (3, .int x3041), (4, .int x3040), (5, .int x3039)] [] s3043 := by
      intro n1
      induction n1 with
      | zero =>
        intro x3039 x3040 x3041 x3042 s3043 r_x3039 r_x3040 r_x3041 r_x3042 hI_s3043 hF_s3043 hmn1
        exact absurd hmn1 (by have := r_x3039.1; have := r_x3039.2; omega)
      | succ n1 ihn1 =>
        intro x3039 x3040 x3041 x3042 s3043 r_x3039 r_x3040 r_x3041 r_x3042 hI_s3043 hF_s3043 hmn1
        refine mw_iload 29 rfl 5 dX10_edge_27  rfl ?_
        refine mw_bipush (v := 20) 31 rfl dX10_edge_29 (by decide) ?_
        refine mw_icmp_ge 34 rfl 153 dX10_edge_31 (by decide) (fun c3163 => ?_) (fun c3163 => ?_)
        · skip
          have r_x3039 : mh_r x3039 (20) (20) := mh_le2 c3163 rc_20 r_x3039 (20) (by decide)
          refine mw_iload_n 154 rfl 1 dX10_edge_153 rfl rfl ?_
          refine mw_if_ne 157 rfl 161 dX10_edge_154 (by decide) (fun c3164 => ?_) (fun c3164 => ?_)
          · skip
            have r_p1 : mh_r p1 (1) (2) := mh_ne1 (show p1.toInt ≠ (0 : Int32).toInt from c3164) r_p1 rc_0 (1) (2) (by decide)
            refine mw_iload_n 162 rfl 1 dX10_edge_161 rfl rfl ?_
            refine mw_iconst (v := 1) 163 rfl dX10_edge_162 (by decide) ?_
            refine mw_icmp_ne 166 rfl 170 dX10_edge_163 (by decide) (fun c3165 => ?_) (fun c3165 => ?_)
            · skip
              have r_p1 : mh_r p1 (2) (2) := mh_ne1 c3165 r_p1 rc_1 (2) (2) (by decide)
              refine mw_iload 172 rfl 4 dX10_edge_170  rfl ?_
              exact mw_iret dX10_edge_172 rfl ⟨x3040, rfl, ⟨r_x3040, hI_s3043, hF_s3043⟩⟩
            · skip
              have r_p1 : mh_r p1 (1) (1) := mh_eq1 c3165 r_p1 rc_1 (1) (1) (by decide)
              refine mw_iload_n 167 rfl 3 dX10_edge_166 rfl rfl ?_
              refine mw_goto 170 rfl 172 dX10_edge_167 (by decide) ?_
              exact mw_iret dX10_edge_172 rfl ⟨x3041, rfl, ⟨(mh_r_wk r_x3041 (by decide)), hI_s3043, hF_s3043⟩⟩
          · skip
            have r_p1 : mh_r p1 (0) (0) := mh_eq1 (show p1.toInt = (0 : Int32).toInt from c3164) r_p1 rc_0 (0) (0) (by decide)
            refine mw_iload_n 158 rfl 2 dX10_edge_157 rfl rfl ?_
            refine mw_goto 161 rfl 172 dX10_edge_158 (by decide) ?_
            exact mw_iret dX10_edge_172 rfl ⟨x3042, rfl, ⟨(mh_r_wk r_x3042 (by decide)), hI_s3043, hF_s3043⟩⟩
        · skip
          have r_x3039 : mh_r x3039 (0) (19) := mh_lt1 c3163 r_x3039 rc_20 (19) (by decide)
          refine mw_iload 36 rfl 5 dX10_edge_34  rfl ?_
          refine mw_iconst (v := 1) 37 rfl dX10_edge_36 (by decide) ?_
          refine mw_iadd 38 rfl (1) (20) dX10_edge_37 r_x3039 rc_1 (by decide) (fun x3166 t3167 r_x3166 => ?_)
          refine mw_istore 40 rfl [(6, .int x3166), (0, .ref (G.2.2.2 57)), (1, .int p1), (2, .int x3042), (3, .int x3041), (4, .int x3040), (5, .int x3039)] dX10_edge_38  (by decide) rfl ?_
          have L40 : ∀ n2 : Nat, ∀ (x3201 : Int32) (x3202 : Int32) (x3203 : Int32) (x3204 : Int32) (s3205 : mh_H), mh_r x3201 (1) (20) → mh_r x3202 (-2) (19) → mh_r x3203 (-2) (19) → mh_r x3204 (-2) (2147483647) → mh_I B D s3205 → mh_F S_X10_edge s0 s3205 → (20) - x3201.toInt < (n2 : Int) → mh_W G (mh_XM l G (d + 9) (mh_Qi (P_X10_edge B D s0 p1))) mM_X10_edge 40 [(0, .ref (G.2.2.2 57)), (1, .int p1), (2, .int x3202), (3, .int x3203), (4, .int x3204), (5, .int x3039), (6, .int x3201)] [] s3205 := by
            intro n2
            induction n2 with
            | zero =>
              intro x3201 x3202 x3203 x3204 s3205 r_x3201 r_x3202 r_x3203 r_x3204 hI_s3205 hF_s3205 hmn2
              exact absurd hmn2 (by have := r_x3201.1; have := r_x3201.2; omega)
            | succ n2 ihn2 =>
              intro x3201 x3202 x3203 x3204 s3205 r_x3201 r_x3202 r_x3203 r_x3204 hI_s3205 hF_s3205 hmn2
              refine mw_iload 42 rfl 6 dX10_edge_40  rfl ?_
              refine mw_bipush (v := 20) 44 rfl dX10_edge_42 (by decide) ?_
              refine mw_icmp_ge 47 rfl 147 dX10_edge_44 (by decide) (fun c3244 => ?_) (fun c3244 => ?_)
              · skip
                have r_x3201 : mh_r x3201 (20) (20) := mh_le2 c3244 rc_20 r_x3201 (20) (by decide)
                refine mw_iincR (k := 5) (1) (20) 150 rfl (fun z => [(5, .int z), (0, .ref (G.2.2.2 57)), (1, .int p1), (2, .int x3202), (3, .int x3203), (4, .int x3204), (6, .int x3201)]) dX10_edge_147 rfl (by decide) (fun _ => rfl) r_x3039 (by decide) (by decide) (fun x3245 t3246 r_x3245 => ?_)
                refine mw_goto 153 rfl 27 dX10_edge_150 (by decide) ?_
                exact mw_lv [1, 2, 3, 4, 5, 0] rfl (ihn1 x3245 x3204 x3203 x3202 s3205 (mh_r_wk r_x3245 (by decide)) r_x3204 r_x3203 r_x3202 hI_s3205 hF_s3205 (by have : x3245.toInt = x3039.toInt + (1) := t3246; omega))
              · skip
                have r_x3201 : mh_r x3201 (1) (19) := mh_lt1 c3244 r_x3201 rc_20 (19) (by decide)
                refine mw_aload_n 48 rfl 0 dX10_edge_47 rfl rfl ?_
                refine mw_geta 51 rfl dX10_edge_48 gf_X10_113 rfl 90 (mh_rf hI_s3205 87 rfl) ?_
                refine mw_iload 53 rfl 5 dX10_edge_51  rfl ?_
                refine mw_zald 54 rfl dX10_edge_53 rfl r_x3039 (by decide) (fun x3247 t3248 => ?_)
                have r_x3247 : mh_r x3247 (0) (1) := by rw [t3248]; exact rd_90 hI_s3205 _
                have J141 : ∀ (x3273 : Int32) (x3274 : Int32) (x3275 : Int32) (s3276 : mh_H), mh_r x3273 (-2) (19) → mh_r x3274 (-2) (19) → mh_r x3275 (-2) (2147483647) → mh_I B D s3276 → mh_F S_X10_edge s0 s3276 → mh_W G (mh_XM l G (d + 9) (mh_Qi (P_X10_edge B D s0 p1))) mM_X10_edge 141 [(0, .ref (G.2.2.2 57)), (1, .int p1), (2, .int x3273), (3, .int x3274), (4, .int x3275), (5, .int x3039), (6, .int x3201)] [] s3276 := by
                  intro x3273 x3274 x3275 s3276 r_x3273 r_x3274 r_x3275 hI_s3276 hF_s3276
                  refine mw_iincR (k := 6) (2) (20) 144 rfl (fun z => [(6, .int z), (0, .ref (G.2.2.2 57)), (1, .int p1), (2, .int x3273), (3, .int x3274), (4, .int x3275), (5, .int x3039)]) dX10_edge_141 rfl (by decide) (fun _ => rfl) r_x3201 (by decide) (by decide) (fun x3279 t3280 r_x3279 => ?_)
                  refine mw_goto 147 rfl 40 dX10_edge_144 (by decide) ?_
                  exact mw_lv [1, 2, 3, 4, 5, 6, 0] rfl (ihn2 x3279 x3273 x3274 x3275 s3276 (mh_r_wk r_x3279 (by decide)) r_x3273 r_x3274 r_x3275 hI_s3276 hF_s3276 (by have : x3279.toInt = x3201.toInt + (1) := t3280; omega))
                refine mw_if_eq 57 rfl 141 dX10_edge_54 (by decide) (fun c3281 => ?_) (fun c3281 => ?_)
                · skip
                  have r_x3247 : mh_r x3247 (0) (0) := mh_eq1 (show x3247.toInt = (0 : Int32).toInt from c3281) r_x3247 rc_0 (0) (0) (by decide)
                  exact mw_lv [0, 1, 2, 3, 4, 5, 6] rfl (J141 x3202 x3203 x3204 s3205 r_x3202 r_x3203 r_x3204 hI_s3205 hF_s3205)
                · skip
                  have r_x3247 : mh_r x3247 (1) (1) := mh_ne1 (show x3247.toInt ≠ (0 : Int32).toInt from c3281) r_x3247 rc_0 (1) (1) (by decide)
                  refine mw_aload_n 58 rfl 0 dX10_edge_57 rfl rfl ?_
                  refine mw_geta 61 rfl dX10_edge_58 gf_X10_113 rfl 90 (mh_rf hI_s3205 87 rfl) ?_
                  refine mw_iload 63 rfl 6 dX10_edge_61  rfl ?_
                  refine mw_zald 64 rfl dX10_edge_63 rfl r_x3201 (by decide) (fun x3282 t3283 => ?_)
                  have r_x3282 : mh_r x3282 (0) (1) := by rw [t3283]; exact rd_90 hI_s3205 _
                  refine mw_if_eq 67 rfl 141 dX10_edge_64 (by decide) (fun c3284 => ?_) (fun c3284 => ?_)
                  · skip
                    have r_x3282 : mh_r x3282 (0) (0) := mh_eq1 (show x3282.toInt = (0 : Int32).toInt from c3284) r_x3282 rc_0 (0) (0) (by decide)
                    exact mw_lv [0, 1, 2, 3, 4, 5, 6] rfl (J141 x3202 x3203 x3204 s3205 r_x3202 r_x3203 r_x3204 hI_s3205 hF_s3205)
                  · skip
                    have r_x3282 : mh_r x3282 (1) (1) := mh_ne1 (show x3282.toInt ≠ (0 : Int32).toInt from c3284) r_x3282 rc_0 (1) (1) (by decide)
                    refine mw_aload_n 68 rfl 0 dX10_edge_67 rfl rfl ?_
                    refine mw_iload 70 rfl 5 dX10_edge_68  rfl ?_
                    refine mw_iload 72 rfl 6 dX10_edge_70  rfl ?_
                    refine mw_callVi [.int x3039, .int x3201] [] 75 rfl dX10_edge_72 ml_X10_427 mc_X10_meet mk_X10_meet rfl rfl (by decide) (w_X10_meet l G (d + 8) ⟨by omega, by omega⟩ hI_s3205 x3039 r_x3039 x3201 (mh_r_wk r_x3201 (by decide))) rfl rfl (Nat.le_of_ble_eq_true rfl) (mh_rok (by omega) (by decide)) (fun x3285 s3286 q3287 => ?_)
                    obtain ⟨r_x3285, rfl⟩ := q3287
                    refine mw_if_ne 78 rfl 81 dX10_edge_75 (by decide) (fun c3288 => ?_) (fun c3288 => ?_)
                    · skip
                      have r_x3285 : mh_r x3285 (1) (1) := mh_ne1 (show x3285.toInt ≠ (0 : Int32).toInt from c3288) r_x3285 rc_0 (1) (1) (by decide)
                      refine mw_aload_n 82 rfl 0 dX10_edge_81 rfl rfl ?_
                      refine mw_aload_n 83 rfl 0 dX10_edge_82 rfl rfl ?_
                      refine mw_geta 86 rfl dX10_edge_83 gf_X10_125 rfl 94 (mh_rf hI_s3205 91 rfl) ?_
                      refine mw_iload 88 rfl 5 dX10_edge_86  rfl ?_
                      refine mw_iald 89 rfl dX10_edge_88 rfl r_x3039 (by decide) (fun x3289 t3290 => ?_)
                      have r_x3289 : mh_r x3289 (0) (143) := by rw [t3290]; exact rd_94 hI_s3205 _
                      refine mw_callVi [.int x3289] [] 92 rfl dX10_edge_89 ml_X10_379 mc_X10_yardsAt mk_X10_yardsAt rfl rfl (by decide) (w_X10_yardsAt l G (d + 0) ⟨by omega, by omega⟩ hI_s3205 x3289 r_x3289) rfl rfl (Nat.le_of_ble_eq_true rfl) (mh_rok (by omega) (by decide)) (fun x3291 s3292 q3293 => ?_)
                      obtain ⟨r_x3291, hI_s3292, hG_s3292⟩ := q3293
                      have hF_s3292 : mh_F S_X10_edge s0 s3292 := mh_F_tl hF_s3205 hG_s3292 (by decide +kernel)
                      refine mw_aload_n 93 rfl 0 dX10_edge_92 rfl rfl ?_
                      refine mw_aload_n 94 rfl 0 dX10_edge_93 rfl rfl ?_
                      refine mw_geta 97 rfl dX10_edge_94 gf_X10_125 rfl 94 (mh_rf hI_s3292 91 rfl) ?_
                      refine mw_iload 99 rfl 6 dX10_edge_97  rfl ?_
                      refine mw_iald 100 rfl dX10_edge_99 rfl r_x3201 (by decide) (fun x3294 t3295 => ?_)
                      have r_x3294 : mh_r x3294 (0) (143) := by rw [t3295]; exact rd_94 hI_s3292 _
                      refine mw_callVi [.int x3294] [.int x3291] 103 rfl dX10_edge_100 ml_X10_379 mc_X10_yardsAt mk_X10_yardsAt rfl rfl (by decide) (w_X10_yardsAt l G (d + 0) ⟨by omega, by omega⟩ hI_s3292 x3294 r_x3294) rfl rfl (Nat.le_of_ble_eq_true rfl) (mh_rok (by omega) (by decide)) (fun x3296 s3297 q3298 => ?_)
                      obtain ⟨r_x3296, hI_s3297, hG_s3297⟩ := q3298
                      have hF_s3297 : mh_F S_X10_edge s0 s3297 := mh_F_tl hF_s3292 hG_s3297 (by decide +kernel)
                      refine mw_isub 104 rfl (-999) (999) dX10_edge_103 r_x3291 r_x3296 (by decide) (fun x3299 t3300 r_x3299 => ?_)
                      refine mw_istore 106 rfl [(7, .int x3299), (0, .ref (G.2.2.2 57)), (1, .int p1), (2, .int x3202), (3, .int x3203), (4, .int x3204), (5, .int x3039), (6, .int x3201)] dX10_edge_104  (by decide) rfl ?_
                      refine mw_iload 108 rfl 0 dX10_edge_106  rfl ?_
                      have J119 : ∀ (x3303 : Int32), mh_W G (mh_XM l G (d + 9) (mh_Qi (P_X10_edge B D s0 p1))) mM_X10_edge 119 [(0, .ref (G.2.2.2 57)), (1, .int p1), (2, .int x3202), (3, .int x3203), (4, .int x3204), (5, .int x3039), (6, .int x3201), (7, .int x3299)] [.int x3303] s3297 := by
                        intro x3303
                        refine mw_istore 121 rfl [(7, .int x3303), (0, .ref (G.2.2.2 57)), (1, .int p1), (2, .int x3202), (3, .int x3203), (4, .int x3204), (5, .int x3039), (6, .int x3201)] dX10_edge_119  (by decide) rfl ?_
                        refine mw_iload 123 rfl 0 dX10_edge_121  rfl ?_
                        refine mw_iload 125 rfl 5 dX10_edge_123  rfl ?_
                        refine mw_icmp_gt 128 rfl 131 dX10_edge_125 (by decide) (fun c3305 => ?_) (fun c3305 => ?_)
                        · skip
                          have r_x3204 : mh_r x3204 (-2) (2147483646) := mh_lt1 c3305 r_x3204 (mh_r_full x3303) (2147483646) (by decide)
                          have r_x3303 : mh_r x3303 (-1) (2147483647) := mh_lt2 c3305 r_x3204 (mh_r_full x3303) (-1) (by decide)
                          refine mw_iload 133 rfl 6 dX10_edge_131  rfl ?_
                          refine mw_istore_n 134 rfl [(2, .int x3039), (7, .int x3303), (0, .ref (G.2.2.2 57)), (1, .int p1), (3, .int x3203), (4, .int x3204), (5, .int x3039), (6, .int x3201)] dX10_edge_133 rfl (by decide) rfl ?_
                          refine mw_iload 136 rfl 7 dX10_edge_134  rfl ?_
                          refine mw_istore_n 137 rfl [(3, .int x3201), (2, .int x3039), (7, .int x3303), (0, .ref (G.2.2.2 57)), (1, .int p1), (4, .int x3204), (5, .int x3039), (6, .int x3201)] dX10_edge_136 rfl (by decide) rfl ?_
                          refine mw_iload 139 rfl 2 dX10_edge_137  rfl ?_
                          refine mw_istore 141 rfl [(4, .int x3303), (3, .int x3201), (2, .int x3039), (7, .int x3303), (0, .ref (G.2.2.2 57)), (1, .int p1), (5, .int x3039), (6, .int x3201)] dX10_edge_139  (by decide) rfl ?_
                          exact mw_lv [4, 5, 2, 1, 0, 6, 7] rfl (J141 x3039 x3201 x3303 s3297 (mh_r_wk r_x3039 (by decide)) (mh_r_wk r_x3201 (by decide)) (mh_r_wk r_x3303 (by decide)) hI_s3297 hF_s3297)
                        · skip
                          refine mw_goto 131 rfl 141 dX10_edge_128 (by decide) ?_
                          exact mw_lv [1, 2, 3, 4, 5, 6, 7] rfl (J141 x3202 x3203 x3204 s3297 r_x3202 r_x3203 r_x3204 hI_s3297 hF_s3297)
                      refine mw_if_ge 111 rfl 117 dX10_edge_108 (by decide) (fun c3306 => ?_) (fun c3306 => ?_)
                      · skip
                        have r_x3299 : mh_r x3299 (0) (999) := mh_le2 (show (0 : Int32).toInt ≤ x3299.toInt from c3306) rc_0 r_x3299 (0) (by decide)
                        refine mw_iload 119 rfl 0 dX10_edge_117  rfl ?_
                        exact mw_lv [1, 2, 3, 4, 5, 6, 7, 0] rfl (J119 x3299)
                      · skip
                        have r_x3299 : mh_r x3299 (-999) (-1) := mh_lt1 (show x3299.toInt < (0 : Int32).toInt from c3306) r_x3299 rc_0 (-1) (by decide)
                        refine mw_iload 113 rfl 0 dX10_edge_111  rfl ?_
                        refine mw_ineg 114 rfl dX10_edge_113 (fun x3307 _ => ?_)
                        refine mw_goto 117 rfl 119 dX10_edge_114 (by decide) ?_
                        exact mw_lv [1, 2, 3, 4, 5, 6, 7, 0] rfl (J119 x3307)
                    · skip
                      have r_x3285 : mh_r x3285 (0) (0) := mh_eq1 (show x3285.toInt = (0 : Int32).toInt from c3288) r_x3285 rc_0 (0) (0) (by decide)
                      refine mw_goto 81 rfl 141 dX10_edge_78 (by decide) ?_
                      exact mw_lv [0, 1, 2, 3, 4, 5, 6] rfl (J141 x3202 x3203 x3204 s3205 r_x3202 r_x3203 r_x3204 hI_s3205 hF_s3205)
          exact mw_lv [1, 2, 3, 4, 5, 6, 0] rfl (L40 20 x3166 x3042 x3041 x3040 s3043 r_x3166 r_x3042 r_x3041 r_x3040 hI_s3043 hF_s3043 (by have := (r_x3166).1; have := (r_x3166).2; omega))
    exact mw_lv [4, 5, 3, 2, 1, 0] rfl (L27 21 (0) (-2) (-2) (-2) s0 (mh_r_wk rc_0 (by decide)) (mh_r_wk rc_m2 (by decide)) (mh_r_wk rc_m2 (by decide)) (mh_r_wk rc_m2 (by decide)) hI0 hF0 (by have := (rc_0).1; have := (rc_0).2; omega))
  · skip
    have r_x1642 : mh_r x1642 (0) (0) := mh_eq1 (show x1642.toInt = (0 : Int32).toInt from c1645) r_x1642 rc_0 (0) (0) (by decide)
    refine mw_iconst (v := -1) 13 rfl dX10_edge_12 (by decide) ?_
    exact mw_iret dX10_edge_13 rfl ⟨(-1), rfl, ⟨(mh_r_wk rc_m1 (by decide)), hI0, hF0⟩⟩

def S_X10_was : List (Nat × Nat) := [(97, 9999), (98, 9999), (99, 9999), (57, 58)]
def P_X10_was (B D : Int) (s0 : mh_H) (p1 : Int32) (p2 : Int32) (p3 : Int32) (p4 : Int32) (p5 : Int32) : Int32 → mh_H → Prop := fun z s => mh_r z (-1) (60) ∧ mh_I B D s ∧ mh_F S_X10_was s0 s
set_option maxRecDepth 100000 in
set_option maxHeartbeats 4000000 in
theorem w_X10_was (l : Launch) (G : mh_G) (d : Nat) {B D : Int} (hB : B ≤ 1980000000 ∧ D ≤ 1980000000) {s0 : mh_H} (hI0 : mh_I B D s0) (p1 : Int32) (p2 : Int32) (p3 : Int32) (p4 : Int32) (p5 : Int32) : mh_Mi l G (d + 1) mM_X10_was [.ref (G.2.2.2 57), .int p1, .int p2, .int p3, .int p4, .int p5] s0 (P_X10_was B D s0 p1 p2 p3 p4 p5) := by
  refine mh_enter (lv := [(0, .ref (G.2.2.2 57)), (1, .int p1), (2, .int p2), (3, .int p3), (4, .int p4), (5, .int p5)]) (by decide) rfl (Nat.le_of_ble_eq_true rfl) ?_
  have hF0 : mh_F S_X10_was s0 s0 := mh_F_rf
  refine mw_iload_n 1 rfl 1 dX10_was_0 rfl rfl ?_
  refine mw_i2l 2 rfl dX10_was_1 (fun y72 t73 => ?_)
  refine mw_lconst (v := 0) 3 rfl dX10_was_2 (by decide) ?_
  refine mw_ldc2 6 rfl dX10_was_3 ck_X10_170 ?_
  refine mw_callSi [.long y72, .long (0), .long (99)] [] 9 rfl dX10_was_6 ml_X10_154 mc_X10_lies mk_X10_lies (w_X10_lies l G (d + 0) ⟨by omega, by omega⟩ hI0 y72 (0) (99)) rfl rfl (Nat.le_of_ble_eq_true rfl) (mh_rok (by omega) (by decide)) (fun x74 s75 q76 => ?_)
  obtain ⟨r_x74, e0_s75, rfl⟩ := q76
  have f_x74 : x74.toInt = 1 ↔ (0 ≤ p1.toInt ∧ p1.toInt ≤ 99) := by rw [e0_s75]; exact by simp only [t73, Int32.toInt_toInt64]; first | done | exact Iff.rfl
  refine mw_if_eq 12 rfl 71 dX10_was_9 (by decide) (fun c77 => ?_) (fun c77 => ?_)
  · skip
    have r_x74 : mh_r x74 (0) (0) := mh_eq1 (show x74.toInt = (0 : Int32).toInt from c77) r_x74 rc_0 (0) (0) (by decide)
    refine mw_iconst (v := -1) 72 rfl dX10_was_71 (by decide) ?_
    exact mw_iret dX10_was_72 rfl ⟨(-1), rfl, ⟨(mh_r_wk rc_m1 (by decide)), hI0, hF0⟩⟩
  · skip
    have r_p1 : mh_r p1 (0) (99) := ⟨by have := f_x74.1 (mh_z1 r_x74 c77); have := ((mh_r_full p1)).1; omega, by have := f_x74.1 (mh_z1 r_x74 c77); have := ((mh_r_full p1)).2; omega⟩
    have r_x74 : mh_r x74 (1) (1) := mh_ne1 (show x74.toInt ≠ (0 : Int32).toInt from c77) r_x74 rc_0 (1) (1) (by decide)
    refine mw_iload_n 13 rfl 2 dX10_was_12 rfl rfl ?_
    refine mw_i2l 14 rfl dX10_was_13 (fun y78 t79 => ?_)
    refine mw_lconst (v := 0) 15 rfl dX10_was_14 (by decide) ?_
    refine mw_ldc2 18 rfl dX10_was_15 ck_X10_170 ?_
    refine mw_callSi [.long y78, .long (0), .long (99)] [] 21 rfl dX10_was_18 ml_X10_154 mc_X10_lies mk_X10_lies (w_X10_lies l G (d + 0) ⟨by omega, by omega⟩ hI0 y78 (0) (99)) rfl rfl (Nat.le_of_ble_eq_true rfl) (mh_rok (by omega) (by decide)) (fun x80 s81 q82 => ?_)
    obtain ⟨r_x80, e0_s81, rfl⟩ := q82
    have f_x80 : x80.toInt = 1 ↔ (0 ≤ p2.toInt ∧ p2.toInt ≤ 99) := by rw [e0_s81]; exact by simp only [t79, Int32.toInt_toInt64]; first | done | exact Iff.rfl
    refine mw_if_eq 24 rfl 71 dX10_was_21 (by decide) (fun c83 => ?_) (fun c83 => ?_)
    · skip
      have r_x80 : mh_r x80 (0) (0) := mh_eq1 (show x80.toInt = (0 : Int32).toInt from c83) r_x80 rc_0 (0) (0) (by decide)
      refine mw_iconst (v := -1) 72 rfl dX10_was_71 (by decide) ?_
      exact mw_iret dX10_was_72 rfl ⟨(-1), rfl, ⟨(mh_r_wk rc_m1 (by decide)), hI0, hF0⟩⟩
    · skip
      have r_p2 : mh_r p2 (0) (99) := ⟨by have := f_x80.1 (mh_z1 r_x80 c83); have := ((mh_r_full p2)).1; omega, by have := f_x80.1 (mh_z1 r_x80 c83); have := ((mh_r_full p2)).2; omega⟩
      have r_x80 : mh_r x80 (1) (1) := mh_ne1 (show x80.toInt ≠ (0 : Int32).toInt from c83) r_x80 rc_0 (1) (1) (by decide)
      refine mw_iload_n 25 rfl 3 dX10_was_24 rfl rfl ?_
      refine mw_i2l 26 rfl dX10_was_25 (fun y84 t85 => ?_)
      refine mw_lconst (v := 0) 27 rfl dX10_was_26 (by decide) ?_
      refine mw_ldc2 30 rfl dX10_was_27 ck_X10_170 ?_
      refine mw_callSi [.long y84, .long (0), .long (99)] [] 33 rfl dX10_was_30 ml_X10_154 mc_X10_lies mk_X10_lies (w_X10_lies l G (d + 0) ⟨by omega, by omega⟩ hI0 y84 (0) (99)) rfl rfl (Nat.le_of_ble_eq_true rfl) (mh_rok (by omega) (by decide)) (fun x86 s87 q88 => ?_)
      obtain ⟨r_x86, e0_s87, rfl⟩ := q88
      have f_x86 : x86.toInt = 1 ↔ (0 ≤ p3.toInt ∧ p3.toInt ≤ 99) := by rw [e0_s87]; exact by simp only [t85, Int32.toInt_toInt64]; first | done | exact Iff.rfl
      refine mw_if_eq 36 rfl 71 dX10_was_33 (by decide) (fun c89 => ?_) (fun c89 => ?_)
      · skip
        have r_x86 : mh_r x86 (0) (0) := mh_eq1 (show x86.toInt = (0 : Int32).toInt from c89) r_x86 rc_0 (0) (0) (by decide)
        refine mw_iconst (v := -1) 72 rfl dX10_was_71 (by decide) ?_
        exact mw_iret dX10_was_72 rfl ⟨(-1), rfl, ⟨(mh_r_wk rc_m1 (by decide)), hI0, hF0⟩⟩
      · skip
        have r_p3 : mh_r p3 (0) (99) := ⟨by have := f_x86.1 (mh_z1 r_x86 c89); have := ((mh_r_full p3)).1; omega, by have := f_x86.1 (mh_z1 r_x86 c89); have := ((mh_r_full p3)).2; omega⟩
        have r_x86 : mh_r x86 (1) (1) := mh_ne1 (show x86.toInt ≠ (0 : Int32).toInt from c89) r_x86 rc_0 (1) (1) (by decide)
        refine mw_iload 38 rfl 4 dX10_was_36  rfl ?_
        refine mw_i2l 39 rfl dX10_was_38 (fun y90 t91 => ?_)
        refine mw_lconst (v := 0) 40 rfl dX10_was_39 (by decide) ?_
        refine mw_ldc2 43 rfl dX10_was_40 ck_X10_170 ?_
        refine mw_callSi [.long y90, .long (0), .long (99)] [] 46 rfl dX10_was_43 ml_X10_154 mc_X10_lies mk_X10_lies (w_X10_lies l G (d + 0) ⟨by omega, by omega⟩ hI0 y90 (0) (99)) rfl rfl (Nat.le_of_ble_eq_true rfl) (mh_rok (by omega) (by decide)) (fun x92 s93 q94 => ?_)
        obtain ⟨r_x92, e0_s93, rfl⟩ := q94
        have f_x92 : x92.toInt = 1 ↔ (0 ≤ p4.toInt ∧ p4.toInt ≤ 99) := by rw [e0_s93]; exact by simp only [t91, Int32.toInt_toInt64]; first | done | exact Iff.rfl
        refine mw_if_eq 49 rfl 71 dX10_was_46 (by decide) (fun c95 => ?_) (fun c95 => ?_)
        · skip
          have r_x92 : mh_r x92 (0) (0) := mh_eq1 (show x92.toInt = (0 : Int32).toInt from c95) r_x92 rc_0 (0) (0) (by decide)
          refine mw_iconst (v := -1) 72 rfl dX10_was_71 (by decide) ?_
          exact mw_iret dX10_was_72 rfl ⟨(-1), rfl, ⟨(mh_r_wk rc_m1 (by decide)), hI0, hF0⟩⟩
        · skip
          have r_p4 : mh_r p4 (0) (99) := ⟨by have := f_x92.1 (mh_z1 r_x92 c95); have := ((mh_r_full p4)).1; omega, by have := f_x92.1 (mh_z1 r_x92 c95); have := ((mh_r_full p4)).2; omega⟩
          have r_x92 : mh_r x92 (1) (1) := mh_ne1 (show x92.toInt ≠ (0 : Int32).toInt from c95) r_x92 rc_0 (1) (1) (by decide)
          refine mw_iload 51 rfl 5 dX10_was_49  rfl ?_
          refine mw_i2l 52 rfl dX10_was_51 (fun y96 t97 => ?_)
          refine mw_lconst (v := 0) 53 rfl dX10_was_52 (by decide) ?_
          refine mw_ldc2 56 rfl dX10_was_53 ck_X10_430 ?_
          refine mw_callSi [.long y96, .long (0), .long (999)] [] 59 rfl dX10_was_56 ml_X10_154 mc_X10_lies mk_X10_lies (w_X10_lies l G (d + 0) ⟨by omega, by omega⟩ hI0 y96 (0) (999)) rfl rfl (Nat.le_of_ble_eq_true rfl) (mh_rok (by omega) (by decide)) (fun x98 s99 q100 => ?_)
          obtain ⟨r_x98, e0_s99, rfl⟩ := q100
          have f_x98 : x98.toInt = 1 ↔ (0 ≤ p5.toInt ∧ p5.toInt ≤ 999) := by rw [e0_s99]; exact by simp only [t97, Int32.toInt_toInt64]; first | done | exact Iff.rfl
          refine mw_if_eq 62 rfl 71 dX10_was_59 (by decide) (fun c101 => ?_) (fun c101 => ?_)
          · skip
            have r_x98 : mh_r x98 (0) (0) := mh_eq1 (show x98.toInt = (0 : Int32).toInt from c101) r_x98 rc_0 (0) (0) (by decide)
            refine mw_iconst (v := -1) 72 rfl dX10_was_71 (by decide) ?_
            exact mw_iret dX10_was_72 rfl ⟨(-1), rfl, ⟨(mh_r_wk rc_m1 (by decide)), hI0, hF0⟩⟩
          · skip
            have r_p5 : mh_r p5 (0) (999) := ⟨by have := f_x98.1 (mh_z1 r_x98 c101); have := ((mh_r_full p5)).1; omega, by have := f_x98.1 (mh_z1 r_x98 c101); have := ((mh_r_full p5)).2; omega⟩
            have r_x98 : mh_r x98 (1) (1) := mh_ne1 (show x98.toInt ≠ (0 : Int32).toInt from c101) r_x98 rc_0 (1) (1) (by decide)
            refine mw_aload_n 63 rfl 0 dX10_was_62 rfl rfl ?_
            refine mw_geti 66 rfl dX10_was_63 gf_X10_432 rfl (fun x102 t103 => ?_)
            have r_x102 : mh_r x102 (0) (60) := by rw [t103]; exact rd_57_58 hI0
            refine mw_bipush (v := 60) 68 rfl dX10_was_66 (by decide) ?_
            refine mw_icmp_ne 71 rfl 73 dX10_was_68 (by decide) (fun c104 => ?_) (fun c104 => ?_)
            · skip
              have r_x102 : mh_r x102 (0) (59) := mh_ne1 c104 r_x102 rc_60 (0) (59) (by decide)
              refine mw_aload_n 74 rfl 0 dX10_was_73 rfl rfl ?_
              refine mw_geta 77 rfl dX10_was_74 gf_X10_134 rfl 97 (mh_rf hI0 94 rfl) ?_
              refine mw_iconst (v := 3) 78 rfl dX10_was_77 (by decide) ?_
              refine mw_aload_n 79 rfl 0 dX10_was_78 rfl rfl ?_
              refine mw_geti 82 rfl dX10_was_79 gf_X10_432 rfl (fun x105 t106 => ?_)
              obtain rfl : x102 = x105 := t103.trans t106.symm
              refine mw_imul 83 rfl (0) (177) dX10_was_82 rc_3 r_x102 (by decide) (fun x107 t108 r_x107 => ?_)
              refine mw_iload_n 84 rfl 1 dX10_was_83 rfl rfl ?_
              refine mw_iast 85 rfl dX10_was_84 rfl r_x107 (by decide) (fun s109 t110 => ?_)
              have hI_s109 : mh_I B D s109 := by rw [t110]; exact wr_97 hI0
              have hF_s109 : mh_F S_X10_was s0 s109 := by rw [t110]; exact mh_F_pI hF0 (mh_si 0 rfl)
              refine mw_aload_n 86 rfl 0 dX10_was_85 rfl rfl ?_
              refine mw_geta 89 rfl dX10_was_86 gf_X10_134 rfl 97 (mh_rf hI_s109 94 rfl) ?_
              refine mw_iconst (v := 3) 90 rfl dX10_was_89 (by decide) ?_
              refine mw_aload_n 91 rfl 0 dX10_was_90 rfl rfl ?_
              refine mw_geti 94 rfl dX10_was_91 gf_X10_432 rfl (fun x111 t112 => ?_)
              have t113 : x102 = s109.1 57 58 := by rw [t110]; exact (t103).trans (mh_pI_n (by omega)).symm
              obtain rfl : x102 = x111 := t113.trans t112.symm
              refine mw_imul 95 rfl (0) (177) dX10_was_94 rc_3 r_x102 (by decide) (fun x114 t115 r_x114 => ?_)
              obtain rfl : x107 = x114 := Int32.toInt_inj.mp (t108.trans t115.symm)
              refine mw_iconst (v := 1) 96 rfl dX10_was_95 (by decide) ?_
              refine mw_iadd 97 rfl (1) (178) dX10_was_96 r_x107 rc_1 (by decide) (fun x116 t117 r_x116 => ?_)
              refine mw_iload_n 98 rfl 2 dX10_was_97 rfl rfl ?_
              refine mw_iast 99 rfl dX10_was_98 rfl r_x116 (by decide) (fun s118 t119 => ?_)
              have hI_s118 : mh_I B D s118 := by rw [t119]; exact wr_97 hI_s109
              have hF_s118 : mh_F S_X10_was s0 s118 := by rw [t119]; exact mh_F_pI hF_s109 (mh_si 0 rfl)
              refine mw_aload_n 100 rfl 0 dX10_was_99 rfl rfl ?_
              refine mw_geta 103 rfl dX10_was_100 gf_X10_134 rfl 97 (mh_rf hI_s118 94 rfl) ?_
              refine mw_iconst (v := 3) 104 rfl dX10_was_103 (by decide) ?_
              refine mw_aload_n 105 rfl 0 dX10_was_104 rfl rfl ?_
              refine mw_geti 108 rfl dX10_was_105 gf_X10_432 rfl (fun x120 t121 => ?_)
              have t122 : x102 = s118.1 57 58 := by rw [t119]; exact (t113).trans (mh_pI_n (by omega)).symm
              obtain rfl : x102 = x120 := t122.trans t121.symm
              refine mw_imul 109 rfl (0) (177) dX10_was_108 rc_3 r_x102 (by decide) (fun x123 t124 r_x123 => ?_)
              obtain rfl : x107 = x123 := Int32.toInt_inj.mp (t108.trans t124.symm)
              refine mw_iconst (v := 2) 110 rfl dX10_was_109 (by decide) ?_
              refine mw_iadd 111 rfl (2) (179) dX10_was_110 r_x107 rc_2 (by decide) (fun x125 t126 r_x125 => ?_)
              refine mw_iload_n 112 rfl 3 dX10_was_111 rfl rfl ?_
              refine mw_iast 113 rfl dX10_was_112 rfl r_x125 (by decide) (fun s127 t128 => ?_)
              have hI_s127 : mh_I B D s127 := by rw [t128]; exact wr_97 hI_s118
              have hF_s127 : mh_F S_X10_was s0 s127 := by rw [t128]; exact mh_F_pI hF_s118 (mh_si 0 rfl)
              refine mw_aload_n 114 rfl 0 dX10_was_113 rfl rfl ?_
              refine mw_geta 117 rfl dX10_was_114 gf_X10_137 rfl 98 (mh_rf hI_s127 95 rfl) ?_
              refine mw_aload_n 118 rfl 0 dX10_was_117 rfl rfl ?_
              refine mw_geti 121 rfl dX10_was_118 gf_X10_432 rfl (fun x129 t130 => ?_)
              have t131 : x102 = s127.1 57 58 := by rw [t128]; exact (t122).trans (mh_pI_n (by omega)).symm
              obtain rfl : x102 = x129 := t131.trans t130.symm
              refine mw_iload 123 rfl 4 dX10_was_121  rfl ?_
              refine mw_iast 124 rfl dX10_was_123 rfl r_x102 (by decide) (fun s132 t133 => ?_)
              have hI_s132 : mh_I B D s132 := by rw [t133]; exact wr_98 hI_s127
              have hF_s132 : mh_F S_X10_was s0 s132 := by rw [t133]; exact mh_F_pI hF_s127 (mh_si 1 rfl)
              refine mw_aload_n 125 rfl 0 dX10_was_124 rfl rfl ?_
              refine mw_geta 128 rfl dX10_was_125 gf_X10_140 rfl 99 (mh_rf hI_s132 96 rfl) ?_
              refine mw_aload_n 129 rfl 0 dX10_was_128 rfl rfl ?_
              refine mw_geti 132 rfl dX10_was_129 gf_X10_432 rfl (fun x134 t135 => ?_)
              have t136 : x102 = s132.1 57 58 := by rw [t133]; exact (t131).trans (mh_pI_n (by omega)).symm
              obtain rfl : x102 = x134 := t136.trans t135.symm
              refine mw_iload 134 rfl 5 dX10_was_132  rfl ?_
              refine mw_iast 135 rfl dX10_was_134 rfl r_x102 (by decide) (fun s137 t138 => ?_)
              have hI_s137 : mh_I B D s137 := by rw [t138]; exact wr_99 hI_s132
              have hF_s137 : mh_F S_X10_was s0 s137 := by rw [t138]; exact mh_F_pI hF_s132 (mh_si 2 rfl)
              refine mw_aload_n 136 rfl 0 dX10_was_135 rfl rfl ?_
              refine mw_dup 137 rfl dX10_was_136 rfl ?_
              refine mw_geti 140 rfl dX10_was_137 gf_X10_432 rfl (fun x139 t140 => ?_)
              have t141 : x102 = s137.1 57 58 := by rw [t138]; exact (t136).trans (mh_pI_n (by omega)).symm
              obtain rfl : x102 = x139 := t141.trans t140.symm
              refine mw_iconst (v := 1) 141 rfl dX10_was_140 (by decide) ?_
              refine mw_iadd 142 rfl (1) (60) dX10_was_141 r_x102 rc_1 (by decide) (fun x142 t143 r_x142 => ?_)
              refine mw_puti 145 rfl dX10_was_142 pf_X10_432 rfl (fun s144 t145 => ?_)
              have hI_s144 : mh_I B D s144 := by rw [t145]; exact wr_57_58 hI_s137 (mh_r_wk r_x142 (by decide))
              have hF_s144 : mh_F S_X10_was s0 s144 := by rw [t145]; exact mh_F_pI hF_s137 (mh_sj 3 rfl)
              refine mw_aload_n 146 rfl 0 dX10_was_145 rfl rfl ?_
              refine mw_geti 149 rfl dX10_was_146 gf_X10_432 rfl (fun x146 t147 => ?_)
              have t148 : x142 = s144.1 57 58 := by rw [t145]; exact mh_pI_s.symm
              obtain rfl : x142 = x146 := t148.trans t147.symm
              exact mw_iret dX10_was_149 rfl ⟨x142, rfl, ⟨(mh_r_wk r_x142 (by decide)), hI_s144, hF_s144⟩⟩
            · skip
              have r_x102 : mh_r x102 (60) (60) := mh_eq1 c104 r_x102 rc_60 (60) (60) (by decide)
              refine mw_iconst (v := -1) 72 rfl dX10_was_71 (by decide) ?_
              exact mw_iret dX10_was_72 rfl ⟨(-1), rfl, ⟨(mh_r_wk rc_m1 (by decide)), hI0, hF0⟩⟩

def P_X10_costOf (B D : Int) (s0 : mh_H) (p1 : Int32) (p2 : Int32) (p3 : Int32) (p4 : Int32) : Int32 → mh_H → Prop := fun z s => mh_r z (-2147483648) (2147483647) ∧ s0 = s
set_option maxRecDepth 100000 in
set_option maxHeartbeats 4000000 in
theorem w_X10_costOf (l : Launch) (G : mh_G) (d : Nat) {B D : Int} (hB : B ≤ 2000000000 ∧ D ≤ 2000000000) {s0 : mh_H} (hI0 : mh_I B D s0) (p1 : Int32) (r_p1 : mh_r p1 (0) (2)) (p2 : Int32) (p3 : Int32) (p4 : Int32) : mh_Mi l G (d + 0) mM_X10_costOf [.ref (G.2.2.2 57), .int p1, .int p2, .int p3, .int p4] s0 (P_X10_costOf B D s0 p1 p2 p3 p4) := by
  refine mh_enter (lv := [(0, .ref (G.2.2.2 57)), (1, .int p1), (2, .int p2), (3, .int p3), (4, .int p4)]) (by decide) rfl (Nat.le_of_ble_eq_true rfl) ?_
  refine mw_iconst (v := 0) 1 rfl dX10_costOf_0 (by decide) ?_
  refine mw_istore 3 rfl [(5, .int (0)), (0, .ref (G.2.2.2 57)), (1, .int p1), (2, .int p2), (3, .int p3), (4, .int p4)] dX10_costOf_1  (by decide) rfl ?_
  refine mw_iconst (v := 0) 4 rfl dX10_costOf_3 (by decide) ?_
  refine mw_istore 6 rfl [(6, .int (0)), (5, .int (0)), (0, .ref (G.2.2.2 57)), (1, .int p1), (2, .int p2), (3, .int p3), (4, .int p4)] dX10_costOf_4  (by decide) rfl ?_
  have L6 : ∀ n1 : Nat, ∀ (x447 : Int32) (x448 : Int32), mh_r x447 (0) (60) → (60) - x447.toInt < (n1 : Int) → mh_W G (mh_XM l G (d + 0) (mh_Qi (P_X10_costOf B D s0 p1 p2 p3 p4))) mM_X10_costOf 6 [(0, .ref (G.2.2.2 57)), (1, .int p1), (2, .int p2), (3, .int p3), (4, .int p4), (5, .int x448), (6, .int x447)] [] s0 := by
    intro n1
    induction n1 with
    | zero =>
      intro x447 x448 r_x447 hmn1
      exact absurd hmn1 (by have := r_x447.1; have := r_x447.2; omega)
    | succ n1 ihn1 =>
      intro x447 x448 r_x447 hmn1
      refine mw_iload 8 rfl 6 dX10_costOf_6  rfl ?_
      refine mw_aload_n 9 rfl 0 dX10_costOf_8 rfl rfl ?_
      refine mw_geti 12 rfl dX10_costOf_9 gf_X10_432 rfl (fun x474 t475 => ?_)
      have r_x474 : mh_r x474 (0) (60) := by rw [t475]; exact rd_57_58 hI0
      refine mw_icmp_ge 15 rfl 79 dX10_costOf_12 (by decide) (fun c476 => ?_) (fun c476 => ?_)
      · skip
        refine mw_iload 81 rfl 5 dX10_costOf_79  rfl ?_
        exact mw_iret dX10_costOf_81 rfl ⟨x448, rfl, ⟨(mh_r_full x448), rfl⟩⟩
      · skip
        have r_x447 : mh_r x447 (0) (59) := mh_lt1 c476 r_x447 r_x474 (59) (by decide)
        have r_x474 : mh_r x474 (1) (60) := mh_lt2 c476 r_x447 r_x474 (1) (by decide)
        refine mw_aload_n 16 rfl 0 dX10_costOf_15 rfl rfl ?_
        refine mw_geta 19 rfl dX10_costOf_16 gf_X10_134 rfl 97 (mh_rf hI0 94 rfl) ?_
        refine mw_iconst (v := 3) 20 rfl dX10_costOf_19 (by decide) ?_
        refine mw_iload 22 rfl 6 dX10_costOf_20  rfl ?_
        refine mw_imul 23 rfl (0) (177) dX10_costOf_22 rc_3 r_x447 (by decide) (fun x477 t478 r_x477 => ?_)
        refine mw_iload_n 24 rfl 1 dX10_costOf_23 rfl rfl ?_
        refine mw_iadd 25 rfl (0) (179) dX10_costOf_24 r_x477 r_p1 (by decide) (fun x479 t480 r_x479 => ?_)
        refine mw_iald 26 rfl dX10_costOf_25 rfl r_x479 (by decide) (fun x481 t482 => ?_)
        refine mw_iload_n 27 rfl 2 dX10_costOf_26 rfl rfl ?_
        have J35 : ∀ (x484 : Int32), mh_r x484 (0) (1) → mh_W G (mh_XM l G (d + 0) (mh_Qi (P_X10_costOf B D s0 p1 p2 p3 p4))) mM_X10_costOf 35 [(0, .ref (G.2.2.2 57)), (1, .int p1), (2, .int p2), (3, .int p3), (4, .int p4), (5, .int x448), (6, .int x447)] [.int x484] s0 := by
          intro x484 r_x484
          refine mw_istore 37 rfl [(7, .int x484), (0, .ref (G.2.2.2 57)), (1, .int p1), (2, .int p2), (3, .int p3), (4, .int p4), (5, .int x448), (6, .int x447)] dX10_costOf_35  (by decide) rfl ?_
          refine mw_iload 39 rfl 0 dX10_costOf_37  rfl ?_
          refine mw_aload_n 40 rfl 1 dX10_costOf_39 rfl rfl ?_
          refine mw_geta 43 rfl dX10_costOf_40 gf_X10_137 rfl 98 (mh_rf hI0 95 rfl) ?_
          refine mw_iload 45 rfl 7 dX10_costOf_43  rfl ?_
          refine mw_iald 46 rfl dX10_costOf_45 rfl r_x447 (by decide) (fun x497 t498 => ?_)
          have J54 : ∀ (x500 : Int32), mh_r x500 (0) (1) → mh_W G (mh_XM l G (d + 0) (mh_Qi (P_X10_costOf B D s0 p1 p2 p3 p4))) mM_X10_costOf 54 [(0, .ref (G.2.2.2 57)), (1, .int p1), (2, .int p2), (3, .int p3), (4, .int p4), (5, .int x448), (6, .int x447), (7, .int x484)] [.int x500, .int x484] s0 := by
            intro x500 r_x500
            have J73 : ∀ (x514 : Int32), mh_W G (mh_XM l G (d + 0) (mh_Qi (P_X10_costOf B D s0 p1 p2 p3 p4))) mM_X10_costOf 73 [(0, .ref (G.2.2.2 57)), (1, .int p1), (2, .int p2), (3, .int p3), (4, .int p4), (5, .int x514), (6, .int x447), (7, .int x484)] [] s0 := by
              intro x514
              refine mw_iincR (k := 6) (1) (60) 76 rfl (fun z => [(6, .int z), (0, .ref (G.2.2.2 57)), (1, .int p1), (2, .int p2), (3, .int p3), (4, .int p4), (5, .int x514), (7, .int x484)]) dX10_costOf_73 rfl (by decide) (fun _ => rfl) r_x447 (by decide) (by decide) (fun x517 t518 r_x517 => ?_)
              refine mw_goto 79 rfl 6 dX10_costOf_76 (by decide) ?_
              exact mw_lv [1, 2, 3, 4, 5, 6, 0] rfl (ihn1 x517 x514 (mh_r_wk r_x517 (by decide)) (by have : x517.toInt = x447.toInt + (1) := t518; omega))
            refine mw_icmp_eq 57 rfl 73 dX10_costOf_54 (by decide) (fun c519 => ?_) (fun c519 => ?_)
            · skip
              exact mw_lv [0, 1, 2, 3, 4, 5, 6, 7] rfl (J73 x448)
            · skip
              refine mw_iload 59 rfl 5 dX10_costOf_57  rfl ?_
              refine mw_iload 61 rfl 7 dX10_costOf_59  rfl ?_
              have J70 : ∀ (x521 : Int32), mh_W G (mh_XM l G (d + 0) (mh_Qi (P_X10_costOf B D s0 p1 p2 p3 p4))) mM_X10_costOf 70 [(0, .ref (G.2.2.2 57)), (1, .int p1), (2, .int p2), (3, .int p3), (4, .int p4), (5, .int x448), (6, .int x447), (7, .int x484)] [.int x521, .int x448] s0 := by
                intro x521
                refine mw_iadd_u 71 rfl dX10_costOf_70 (fun x524 t525 => ?_)
                refine mw_istore 73 rfl [(5, .int x524), (0, .ref (G.2.2.2 57)), (1, .int p1), (2, .int p2), (3, .int p3), (4, .int p4), (6, .int x447), (7, .int x484)] dX10_costOf_71  (by decide) rfl ?_
                exact mw_lv [1, 2, 3, 4, 5, 0, 6, 7] rfl (J73 x524)
              refine mw_if_eq 64 rfl 69 dX10_costOf_61 (by decide) (fun c526 => ?_) (fun c526 => ?_)
              · skip
                have r_x484 : mh_r x484 (0) (0) := mh_eq1 (show x484.toInt = (0 : Int32).toInt from c526) r_x484 rc_0 (0) (0) (by decide)
                refine mw_iload_n 70 rfl 3 dX10_costOf_69 rfl rfl ?_
                exact mw_lv [0, 1, 2, 3, 4, 5, 6, 7] rfl (J70 p3)
              · skip
                have r_x484 : mh_r x484 (1) (1) := mh_ne1 (show x484.toInt ≠ (0 : Int32).toInt from c526) r_x484 rc_0 (1) (1) (by decide)
                refine mw_iload 66 rfl 4 dX10_costOf_64  rfl ?_
                refine mw_goto 69 rfl 70 dX10_costOf_66 (by decide) ?_
                exact mw_lv [0, 1, 2, 3, 4, 5, 6, 7] rfl (J70 p4)
          refine mw_if_le 49 rfl 53 dX10_costOf_46 (by decide) (fun c527 => ?_) (fun c527 => ?_)
          · skip
            have r_x497 : mh_r x497 (-2147483648) (0) := mh_le1 (show x497.toInt ≤ (0 : Int32).toInt from c527) (mh_r_full x497) rc_0 (0) (by decide)
            refine mw_iconst (v := 0) 54 rfl dX10_costOf_53 (by decide) ?_
            exact mw_lv [1, 2, 3, 4, 5, 6, 7, 0] rfl (J54 (0) (mh_r_wk rc_0 (by decide)))
          · skip
            have r_x497 : mh_r x497 (1) (2147483647) := mh_lt2 (show (0 : Int32).toInt < x497.toInt from c527) rc_0 (mh_r_full x497) (1) (by decide)
            refine mw_iconst (v := 1) 50 rfl dX10_costOf_49 (by decide) ?_
            refine mw_goto 53 rfl 54 dX10_costOf_50 (by decide) ?_
            exact mw_lv [1, 2, 3, 4, 5, 6, 7, 0] rfl (J54 (1) (mh_r_wk rc_1 (by decide)))
        refine mw_icmp_lt 30 rfl 34 dX10_costOf_27 (by decide) (fun c528 => ?_) (fun c528 => ?_)
        · skip
          have r_x481 : mh_r x481 (-2147483648) (2147483646) := mh_lt1 c528 (mh_r_full x481) (mh_r_full p2) (2147483646) (by decide)
          have r_p2 : mh_r p2 (-2147483647) (2147483647) := mh_lt2 c528 r_x481 (mh_r_full p2) (-2147483647) (by decide)
          refine mw_iconst (v := 0) 35 rfl dX10_costOf_34 (by decide) ?_
          exact mw_lv [0, 1, 2, 3, 4, 5, 6] rfl (J35 (0) (mh_r_wk rc_0 (by decide)))
        · skip
          refine mw_iconst (v := 1) 31 rfl dX10_costOf_30 (by decide) ?_
          refine mw_goto 34 rfl 35 dX10_costOf_31 (by decide) ?_
          exact mw_lv [0, 1, 2, 3, 4, 5, 6] rfl (J35 (1) (mh_r_wk rc_1 (by decide)))
  exact mw_lv [2, 3, 4, 5, 6, 1, 0] rfl (L6 61 (0) (0) (mh_r_wk rc_0 (by decide)) (by have := (rc_0).1; have := (rc_0).2; omega))

def P_X10_bestLine (B D : Int) (s0 : mh_H) (p1 : Int32) (p2 : Int32) (p3 : Int32) : Int32 → mh_H → Prop := fun z s => mh_r z (0) (100) ∧ s0 = s
set_option maxRecDepth 100000 in
set_option maxHeartbeats 4000000 in
theorem w_X10_bestLine (l : Launch) (G : mh_G) (d : Nat) {B D : Int} (hB : B ≤ 1980000000 ∧ D ≤ 1980000000) {s0 : mh_H} (hI0 : mh_I B D s0) (p1 : Int32) (r_p1 : mh_r p1 (0) (2)) (p2 : Int32) (p3 : Int32) : mh_Mi l G (d + 1) mM_X10_bestLine [.ref (G.2.2.2 57), .int p1, .int p2, .int p3] s0 (P_X10_bestLine B D s0 p1 p2 p3) := by
  refine mh_enter (lv := [(0, .ref (G.2.2.2 57)), (1, .int p1), (2, .int p2), (3, .int p3)]) (by decide) rfl (Nat.le_of_ble_eq_true rfl) ?_
  refine mw_iconst (v := 0) 1 rfl dX10_bestLine_0 (by decide) ?_
  refine mw_istore 3 rfl [(4, .int (0)), (0, .ref (G.2.2.2 57)), (1, .int p1), (2, .int p2), (3, .int p3)] dX10_bestLine_1  (by decide) rfl ?_
  refine mw_iconst (v := 1) 4 rfl dX10_bestLine_3 (by decide) ?_
  refine mw_istore 6 rfl [(5, .int (1)), (4, .int (0)), (0, .ref (G.2.2.2 57)), (1, .int p1), (2, .int p2), (3, .int p3)] dX10_bestLine_4  (by decide) rfl ?_
  have L6 : ∀ n1 : Nat, ∀ (x231 : Int32) (x232 : Int32), mh_r x231 (1) (101) → mh_r x232 (0) (100) → (101) - x231.toInt < (n1 : Int) → mh_W G (mh_XM l G (d + 1) (mh_Qi (P_X10_bestLine B D s0 p1 p2 p3))) mM_X10_bestLine 6 [(0, .ref (G.2.2.2 57)), (1, .int p1), (2, .int p2), (3, .int p3), (4, .int x232), (5, .int x231)] [] s0 := by
    intro n1
    induction n1 with
    | zero =>
      intro x231 x232 r_x231 r_x232 hmn1
      exact absurd hmn1 (by have := r_x231.1; have := r_x231.2; omega)
    | succ n1 ihn1 =>
      intro x231 x232 r_x231 r_x232 hmn1
      refine mw_iload 8 rfl 5 dX10_bestLine_6  rfl ?_
      refine mw_bipush (v := 100) 10 rfl dX10_bestLine_8 (by decide) ?_
      refine mw_icmp_gt 13 rfl 44 dX10_bestLine_10 (by decide) (fun c246 => ?_) (fun c246 => ?_)
      · skip
        have r_x231 : mh_r x231 (101) (101) := mh_lt2 c246 rc_100 r_x231 (101) (by decide)
        refine mw_iload 46 rfl 4 dX10_bestLine_44  rfl ?_
        exact mw_iret dX10_bestLine_46 rfl ⟨x232, rfl, ⟨r_x232, rfl⟩⟩
      · skip
        have r_x231 : mh_r x231 (1) (100) := mh_le1 c246 r_x231 rc_100 (100) (by decide)
        refine mw_aload_n 14 rfl 0 dX10_bestLine_13 rfl rfl ?_
        refine mw_iload_n 15 rfl 1 dX10_bestLine_14 rfl rfl ?_
        refine mw_iload 17 rfl 5 dX10_bestLine_15  rfl ?_
        refine mw_iload_n 18 rfl 2 dX10_bestLine_17 rfl rfl ?_
        refine mw_iload_n 19 rfl 3 dX10_bestLine_18 rfl rfl ?_
        refine mw_callVi [.int p1, .int x231, .int p2, .int p3] [] 22 rfl dX10_bestLine_19 ml_X10_435 mc_X10_costOf mk_X10_costOf rfl rfl (by decide) (w_X10_costOf l G (d + 0) ⟨by omega, by omega⟩ hI0 p1 r_p1 x231 p2 p3) rfl rfl (Nat.le_of_ble_eq_true rfl) (mh_rok (by omega) (by decide)) (fun x247 s248 q249 => ?_)
        obtain ⟨r_x247, rfl⟩ := q249
        refine mw_aload_n 23 rfl 0 dX10_bestLine_22 rfl rfl ?_
        refine mw_iload_n 24 rfl 1 dX10_bestLine_23 rfl rfl ?_
        refine mw_iload 26 rfl 4 dX10_bestLine_24  rfl ?_
        refine mw_iload_n 27 rfl 2 dX10_bestLine_26 rfl rfl ?_
        refine mw_iload_n 28 rfl 3 dX10_bestLine_27 rfl rfl ?_
        refine mw_callVi [.int p1, .int x232, .int p2, .int p3] [.int x247] 31 rfl dX10_bestLine_28 ml_X10_435 mc_X10_costOf mk_X10_costOf rfl rfl (by decide) (w_X10_costOf l G (d + 0) ⟨by omega, by omega⟩ hI0 p1 r_p1 x232 p2 p3) rfl rfl (Nat.le_of_ble_eq_true rfl) (mh_rok (by omega) (by decide)) (fun x250 s251 q252 => ?_)
        obtain ⟨r_x250, rfl⟩ := q252
        have J38 : ∀ (x254 : Int32), mh_r x254 (0) (100) → mh_W G (mh_XM l G (d + 1) (mh_Qi (P_X10_bestLine B D s0 p1 p2 p3))) mM_X10_bestLine 38 [(0, .ref (G.2.2.2 57)), (1, .int p1), (2, .int p2), (3, .int p3), (4, .int x254), (5, .int x231)] [] s0 := by
          intro x254 r_x254
          refine mw_iincR (k := 5) (2) (101) 41 rfl (fun z => [(5, .int z), (0, .ref (G.2.2.2 57)), (1, .int p1), (2, .int p2), (3, .int p3), (4, .int x254)]) dX10_bestLine_38 rfl (by decide) (fun _ => rfl) r_x231 (by decide) (by decide) (fun x257 t258 r_x257 => ?_)
          refine mw_goto 44 rfl 6 dX10_bestLine_41 (by decide) ?_
          exact mw_lv [1, 2, 3, 4, 5, 0] rfl (ihn1 x257 x254 (mh_r_wk r_x257 (by decide)) r_x254 (by have : x257.toInt = x231.toInt + (1) := t258; omega))
        refine mw_icmp_ge 34 rfl 38 dX10_bestLine_31 (by decide) (fun c259 => ?_) (fun c259 => ?_)
        · skip
          exact mw_lv [0, 1, 2, 3, 4, 5] rfl (J38 x232 r_x232)
        · skip
          have r_x247 : mh_r x247 (-2147483648) (2147483646) := mh_lt1 c259 r_x247 r_x250 (2147483646) (by decide)
          have r_x250 : mh_r x250 (-2147483647) (2147483647) := mh_lt2 c259 r_x247 r_x250 (-2147483647) (by decide)
          refine mw_iload 36 rfl 5 dX10_bestLine_34  rfl ?_
          refine mw_istore 38 rfl [(4, .int x231), (0, .ref (G.2.2.2 57)), (1, .int p1), (2, .int p2), (3, .int p3), (5, .int x231)] dX10_bestLine_36  (by decide) rfl ?_
          exact mw_lv [1, 2, 3, 4, 0, 5] rfl (J38 x231 (mh_r_wk r_x231 (by decide)))
  exact mw_lv [2, 3, 4, 5, 1, 0] rfl (L6 101 (1) (0) (mh_r_wk rc_1 (by decide)) (mh_r_wk rc_0 (by decide)) (by have := (rc_1).1; have := (rc_1).2; omega))

def P_X10_line (B D : Int) (s0 : mh_H) (p1 : Int32) (p2 : Int32) (p3 : Int32) (p4 : Int32) : Int32 → mh_H → Prop := fun z s => mh_r z (-2147483648) (2147483647) ∧ s0 = s
set_option maxRecDepth 100000 in
set_option maxHeartbeats 4000000 in
theorem w_X10_line (l : Launch) (G : mh_G) (d : Nat) {B D : Int} (hB : B ≤ 1960000000 ∧ D ≤ 1960000000) {s0 : mh_H} (hI0 : mh_I B D s0) (p1 : Int32) (p2 : Int32) (p3 : Int32) (p4 : Int32) : mh_Mi l G (d + 2) mM_X10_line [.ref (G.2.2.2 57), .int p1, .int p2, .int p3, .int p4] s0 (P_X10_line B D s0 p1 p2 p3 p4) := by
  refine mh_enter (lv := [(0, .ref (G.2.2.2 57)), (1, .int p1), (2, .int p2), (3, .int p3), (4, .int p4)]) (by decide) rfl (Nat.le_of_ble_eq_true rfl) ?_
  refine mw_iload_n 1 rfl 1 dX10_line_0 rfl rfl ?_
  refine mw_i2l 2 rfl dX10_line_1 (fun y28 t29 => ?_)
  refine mw_lconst (v := 0) 3 rfl dX10_line_2 (by decide) ?_
  refine mw_ldc2 6 rfl dX10_line_3 ck_X10_425 ?_
  refine mw_callSi [.long y28, .long (0), .long (2)] [] 9 rfl dX10_line_6 ml_X10_154 mc_X10_lies mk_X10_lies (w_X10_lies l G (d + 1) ⟨by omega, by omega⟩ hI0 y28 (0) (2)) rfl rfl (Nat.le_of_ble_eq_true rfl) (mh_rok (by omega) (by decide)) (fun x30 s31 q32 => ?_)
  obtain ⟨r_x30, e0_s31, rfl⟩ := q32
  have f_x30 : x30.toInt = 1 ↔ (0 ≤ p1.toInt ∧ p1.toInt ≤ 2) := by rw [e0_s31]; exact by simp only [t29, Int32.toInt_toInt64]; first | done | exact Iff.rfl
  refine mw_if_eq 12 rfl 37 dX10_line_9 (by decide) (fun c33 => ?_) (fun c33 => ?_)
  · skip
    have r_x30 : mh_r x30 (0) (0) := mh_eq1 (show x30.toInt = (0 : Int32).toInt from c33) r_x30 rc_0 (0) (0) (by decide)
    refine mw_iconst (v := -1) 38 rfl dX10_line_37 (by decide) ?_
    exact mw_iret dX10_line_38 rfl ⟨(-1), rfl, ⟨(mh_r_wk rc_m1 (by decide)), rfl⟩⟩
  · skip
    have r_p1 : mh_r p1 (0) (2) := ⟨by have := f_x30.1 (mh_z1 r_x30 c33); have := ((mh_r_full p1)).1; omega, by have := f_x30.1 (mh_z1 r_x30 c33); have := ((mh_r_full p1)).2; omega⟩
    have r_x30 : mh_r x30 (1) (1) := mh_ne1 (show x30.toInt ≠ (0 : Int32).toInt from c33) r_x30 rc_0 (1) (1) (by decide)
    refine mw_iload_n 13 rfl 2 dX10_line_12 rfl rfl ?_
    refine mw_callSi [.int p2] [] 16 rfl dX10_line_13 ml_X10_438 mc_X10_isPrice mk_X10_isPrice (w_X10_isPrice l G (d + 0) ⟨by omega, by omega⟩ hI0 p2) rfl rfl (Nat.le_of_ble_eq_true rfl) (mh_rok (by omega) (by decide)) (fun x34 s35 q36 => ?_)
    obtain ⟨r_x34, e0_s35, rfl⟩ := q36
    refine mw_if_eq 19 rfl 37 dX10_line_16 (by decide) (fun c37 => ?_) (fun c37 => ?_)
    · skip
      have r_x34 : mh_r x34 (0) (0) := mh_eq1 (show x34.toInt = (0 : Int32).toInt from c37) r_x34 rc_0 (0) (0) (by decide)
      refine mw_iconst (v := -1) 38 rfl dX10_line_37 (by decide) ?_
      exact mw_iret dX10_line_38 rfl ⟨(-1), rfl, ⟨(mh_r_wk rc_m1 (by decide)), rfl⟩⟩
    · skip
      have r_p2 : mh_r p2 (0) (999) := ⟨by have := e0_s35.1 (mh_z1 r_x34 c37); have := ((mh_r_full p2)).1; omega, by have := e0_s35.1 (mh_z1 r_x34 c37); have := ((mh_r_full p2)).2; omega⟩
      have r_x34 : mh_r x34 (1) (1) := mh_ne1 (show x34.toInt ≠ (0 : Int32).toInt from c37) r_x34 rc_0 (1) (1) (by decide)
      refine mw_iload_n 20 rfl 3 dX10_line_19 rfl rfl ?_
      refine mw_callSi [.int p3] [] 23 rfl dX10_line_20 ml_X10_438 mc_X10_isPrice mk_X10_isPrice (w_X10_isPrice l G (d + 0) ⟨by omega, by omega⟩ hI0 p3) rfl rfl (Nat.le_of_ble_eq_true rfl) (mh_rok (by omega) (by decide)) (fun x38 s39 q40 => ?_)
      obtain ⟨r_x38, e0_s39, rfl⟩ := q40
      refine mw_if_eq 26 rfl 37 dX10_line_23 (by decide) (fun c41 => ?_) (fun c41 => ?_)
      · skip
        have r_x38 : mh_r x38 (0) (0) := mh_eq1 (show x38.toInt = (0 : Int32).toInt from c41) r_x38 rc_0 (0) (0) (by decide)
        refine mw_iconst (v := -1) 38 rfl dX10_line_37 (by decide) ?_
        exact mw_iret dX10_line_38 rfl ⟨(-1), rfl, ⟨(mh_r_wk rc_m1 (by decide)), rfl⟩⟩
      · skip
        have r_p3 : mh_r p3 (0) (999) := ⟨by have := e0_s39.1 (mh_z1 r_x38 c41); have := ((mh_r_full p3)).1; omega, by have := e0_s39.1 (mh_z1 r_x38 c41); have := ((mh_r_full p3)).2; omega⟩
        have r_x38 : mh_r x38 (1) (1) := mh_ne1 (show x38.toInt ≠ (0 : Int32).toInt from c41) r_x38 rc_0 (1) (1) (by decide)
        refine mw_iload 28 rfl 4 dX10_line_26  rfl ?_
        refine mw_i2l 29 rfl dX10_line_28 (fun y42 t43 => ?_)
        refine mw_lconst (v := 0) 30 rfl dX10_line_29 (by decide) ?_
        refine mw_lconst (v := 1) 31 rfl dX10_line_30 (by decide) ?_
        refine mw_callSi [.long y42, .long (0), .long (1)] [] 34 rfl dX10_line_31 ml_X10_154 mc_X10_lies mk_X10_lies (w_X10_lies l G (d + 1) ⟨by omega, by omega⟩ hI0 y42 (0) (1)) rfl rfl (Nat.le_of_ble_eq_true rfl) (mh_rok (by omega) (by decide)) (fun x44 s45 q46 => ?_)
        obtain ⟨r_x44, e0_s45, rfl⟩ := q46
        have f_x44 : x44.toInt = 1 ↔ (0 ≤ p4.toInt ∧ p4.toInt ≤ 1) := by rw [e0_s45]; exact by simp only [t43, Int32.toInt_toInt64]; first | done | exact Iff.rfl
        refine mw_if_ne 37 rfl 39 dX10_line_34 (by decide) (fun c47 => ?_) (fun c47 => ?_)
        · skip
          have r_p4 : mh_r p4 (0) (1) := ⟨by have := f_x44.1 (mh_z1 r_x44 c47); have := ((mh_r_full p4)).1; omega, by have := f_x44.1 (mh_z1 r_x44 c47); have := ((mh_r_full p4)).2; omega⟩
          have r_x44 : mh_r x44 (1) (1) := mh_ne1 (show x44.toInt ≠ (0 : Int32).toInt from c47) r_x44 rc_0 (1) (1) (by decide)
          refine mw_aload_n 40 rfl 0 dX10_line_39 rfl rfl ?_
          refine mw_iload_n 41 rfl 1 dX10_line_40 rfl rfl ?_
          refine mw_iload_n 42 rfl 2 dX10_line_41 rfl rfl ?_
          refine mw_iload_n 43 rfl 3 dX10_line_42 rfl rfl ?_
          refine mw_callVi [.int p1, .int p2, .int p3] [] 46 rfl dX10_line_43 ml_X10_441 mc_X10_bestLine mk_X10_bestLine rfl rfl (by decide) (w_X10_bestLine l G (d + 0) ⟨by omega, by omega⟩ hI0 p1 r_p1 p2 p3) rfl rfl (Nat.le_of_ble_eq_true rfl) (mh_rok (by omega) (by decide)) (fun x48 s49 q50 => ?_)
          obtain ⟨r_x48, rfl⟩ := q50
          refine mw_istore 48 rfl [(5, .int x48), (0, .ref (G.2.2.2 57)), (1, .int p1), (2, .int p2), (3, .int p3), (4, .int p4)] dX10_line_46  (by decide) rfl ?_
          refine mw_iload 50 rfl 5 dX10_line_48  rfl ?_
          refine mw_iconst (v := 1) 51 rfl dX10_line_50 (by decide) ?_
          refine mw_icmp_ne 54 rfl 59 dX10_line_51 (by decide) (fun c51 => ?_) (fun c51 => ?_)
          · skip
            have r_p4 : mh_r p4 (0) (0) := mh_ne1 c51 r_p4 rc_1 (0) (0) (by decide)
            refine mw_aload_n 60 rfl 1 dX10_line_59 rfl rfl ?_
            refine mw_iload_n 61 rfl 2 dX10_line_60 rfl rfl ?_
            refine mw_iload 63 rfl 0 dX10_line_61  rfl ?_
            refine mw_iload_n 64 rfl 3 dX10_line_63 rfl rfl ?_
            refine mw_iload_n 65 rfl 4 dX10_line_64 rfl rfl ?_
            refine mw_callVi [.int p1, .int x48, .int p2, .int p3] [] 68 rfl dX10_line_65 ml_X10_435 mc_X10_costOf mk_X10_costOf rfl rfl (by decide) (w_X10_costOf l G (d + 1) ⟨by omega, by omega⟩ hI0 p1 r_p1 x48 p2 p3) rfl rfl (Nat.le_of_ble_eq_true rfl) (mh_rok (by omega) (by decide)) (fun x52 s53 q54 => ?_)
            obtain ⟨r_x52, rfl⟩ := q54
            exact mw_iret dX10_line_68 rfl ⟨x52, rfl, ⟨r_x52, rfl⟩⟩
          · skip
            have r_p4 : mh_r p4 (1) (1) := mh_eq1 c51 r_p4 rc_1 (1) (1) (by decide)
            refine mw_iload 56 rfl 0 dX10_line_54  rfl ?_
            refine mw_goto 59 rfl 68 dX10_line_56 (by decide) ?_
            exact mw_iret dX10_line_68 rfl ⟨x48, rfl, ⟨(mh_r_wk r_x48 (by decide)), rfl⟩⟩
        · skip
          have r_x44 : mh_r x44 (0) (0) := mh_eq1 (show x44.toInt = (0 : Int32).toInt from c47) r_x44 rc_0 (0) (0) (by decide)
          refine mw_iconst (v := -1) 38 rfl dX10_line_37 (by decide) ?_
          exact mw_iret dX10_line_38 rfl ⟨(-1), rfl, ⟨(mh_r_wk rc_m1 (by decide)), rfl⟩⟩

def P_X10_tells (B D : Int) (s0 : mh_H) (p1 : Int32) (p2 : Int32) : Int32 → mh_H → Prop := fun z s => mh_r z (-1) (2) ∧ s0 = s
set_option maxRecDepth 100000 in
set_option maxHeartbeats 4000000 in
theorem w_X10_tells (l : Launch) (G : mh_G) (d : Nat) {B D : Int} (hB : B ≤ 1960000000 ∧ D ≤ 1960000000) {s0 : mh_H} (hI0 : mh_I B D s0) (p1 : Int32) (p2 : Int32) : mh_Mi l G (d + 2) mM_X10_tells [.ref (G.2.2.2 57), .int p1, .int p2] s0 (P_X10_tells B D s0 p1 p2) := by
  refine mh_enter (lv := [(0, .ref (G.2.2.2 57)), (1, .int p1), (2, .int p2)]) (by decide) rfl (Nat.le_of_ble_eq_true rfl) ?_
  refine mw_iload_n 1 rfl 1 dX10_tells_0 rfl rfl ?_
  refine mw_callSi [.int p1] [] 4 rfl dX10_tells_1 ml_X10_438 mc_X10_isPrice mk_X10_isPrice (w_X10_isPrice l G (d + 0) ⟨by omega, by omega⟩ hI0 p1) rfl rfl (Nat.le_of_ble_eq_true rfl) (mh_rok (by omega) (by decide)) (fun x83 s84 q85 => ?_)
  obtain ⟨r_x83, e0_s84, rfl⟩ := q85
  refine mw_if_eq 7 rfl 14 dX10_tells_4 (by decide) (fun c86 => ?_) (fun c86 => ?_)
  · skip
    have r_x83 : mh_r x83 (0) (0) := mh_eq1 (show x83.toInt = (0 : Int32).toInt from c86) r_x83 rc_0 (0) (0) (by decide)
    refine mw_iconst (v := -1) 15 rfl dX10_tells_14 (by decide) ?_
    exact mw_iret dX10_tells_15 rfl ⟨(-1), rfl, ⟨(mh_r_wk rc_m1 (by decide)), rfl⟩⟩
  · skip
    have r_p1 : mh_r p1 (0) (999) := ⟨by have := e0_s84.1 (mh_z1 r_x83 c86); have := ((mh_r_full p1)).1; omega, by have := e0_s84.1 (mh_z1 r_x83 c86); have := ((mh_r_full p1)).2; omega⟩
    have r_x83 : mh_r x83 (1) (1) := mh_ne1 (show x83.toInt ≠ (0 : Int32).toInt from c86) r_x83 rc_0 (1) (1) (by decide)
    refine mw_iload_n 8 rfl 2 dX10_tells_7 rfl rfl ?_
    refine mw_callSi [.int p2] [] 11 rfl dX10_tells_8 ml_X10_438 mc_X10_isPrice mk_X10_isPrice (w_X10_isPrice l G (d + 0) ⟨by omega, by omega⟩ hI0 p2) rfl rfl (Nat.le_of_ble_eq_true rfl) (mh_rok (by omega) (by decide)) (fun x87 s88 q89 => ?_)
    obtain ⟨r_x87, e0_s88, rfl⟩ := q89
    refine mw_if_ne 14 rfl 16 dX10_tells_11 (by decide) (fun c90 => ?_) (fun c90 => ?_)
    · skip
      have r_p2 : mh_r p2 (0) (999) := ⟨by have := e0_s88.1 (mh_z1 r_x87 c90); have := ((mh_r_full p2)).1; omega, by have := e0_s88.1 (mh_z1 r_x87 c90); have := ((mh_r_full p2)).2; omega⟩
      have r_x87 : mh_r x87 (1) (1) := mh_ne1 (show x87.toInt ≠ (0 : Int32).toInt from c90) r_x87 rc_0 (1) (1) (by decide)
      refine mw_iconst (v := 0) 17 rfl dX10_tells_16 (by decide) ?_
      refine mw_istore_n 18 rfl [(3, .int (0)), (0, .ref (G.2.2.2 57)), (1, .int p1), (2, .int p2)] dX10_tells_17 rfl (by decide) rfl ?_
      refine mw_iconst (v := 1) 19 rfl dX10_tells_18 (by decide) ?_
      refine mw_istore 21 rfl [(4, .int (1)), (3, .int (0)), (0, .ref (G.2.2.2 57)), (1, .int p1), (2, .int p2)] dX10_tells_19  (by decide) rfl ?_
      have L21 : ∀ n1 : Nat, ∀ (x127 : Int32) (x128 : Int32), mh_r x127 (1) (3) → mh_r x128 (0) (2) → (3) - x127.toInt < (n1 : Int) → mh_W G (mh_XM l G (d + 2) (mh_Qi (P_X10_tells B D s0 p1 p2))) mM_X10_tells 21 [(0, .ref (G.2.2.2 57)), (1, .int p1), (2, .int p2), (3, .int x128), (4, .int x127)] [] s0 := by
        intro n1
        induction n1 with
        | zero =>
          intro x127 x128 r_x127 r_x128 hmn1
          exact absurd hmn1 (by have := r_x127.1; have := r_x127.2; omega)
        | succ n1 ihn1 =>
          intro x127 x128 r_x127 r_x128 hmn1
          refine mw_iload 23 rfl 4 dX10_tells_21  rfl ?_
          refine mw_iconst (v := 3) 24 rfl dX10_tells_23 (by decide) ?_
          refine mw_icmp_ge 27 rfl 69 dX10_tells_24 (by decide) (fun c148 => ?_) (fun c148 => ?_)
          · skip
            have r_x127 : mh_r x127 (3) (3) := mh_le2 c148 rc_3 r_x127 (3) (by decide)
            refine mw_iload_n 70 rfl 3 dX10_tells_69 rfl rfl ?_
            exact mw_iret dX10_tells_70 rfl ⟨x128, rfl, ⟨(mh_r_wk r_x128 (by decide)), rfl⟩⟩
          · skip
            have r_x127 : mh_r x127 (1) (2) := mh_lt1 c148 r_x127 rc_3 (2) (by decide)
            refine mw_aload_n 28 rfl 0 dX10_tells_27 rfl rfl ?_
            refine mw_iload 30 rfl 4 dX10_tells_28  rfl ?_
            refine mw_aload_n 31 rfl 0 dX10_tells_30 rfl rfl ?_
            refine mw_iload 33 rfl 4 dX10_tells_31  rfl ?_
            refine mw_iload_n 34 rfl 1 dX10_tells_33 rfl rfl ?_
            refine mw_iload_n 35 rfl 2 dX10_tells_34 rfl rfl ?_
            refine mw_callVi [.int x127, .int p1, .int p2] [.int x127, .ref (G.2.2.2 57)] 38 rfl dX10_tells_35 ml_X10_441 mc_X10_bestLine mk_X10_bestLine rfl rfl (by decide) (w_X10_bestLine l G (d + 0) ⟨by omega, by omega⟩ hI0 x127 (mh_r_wk r_x127 (by decide)) p1 p2) rfl rfl (Nat.le_of_ble_eq_true rfl) (mh_rok (by omega) (by decide)) (fun x149 s150 q151 => ?_)
            obtain ⟨r_x149, rfl⟩ := q151
            refine mw_iload_n 39 rfl 1 dX10_tells_38 rfl rfl ?_
            refine mw_iload_n 40 rfl 2 dX10_tells_39 rfl rfl ?_
            refine mw_callVi [.int x127, .int x149, .int p1, .int p2] [] 43 rfl dX10_tells_40 ml_X10_435 mc_X10_costOf mk_X10_costOf rfl rfl (by decide) (w_X10_costOf l G (d + 1) ⟨by omega, by omega⟩ hI0 x127 (mh_r_wk r_x127 (by decide)) x149 p1 p2) rfl rfl (Nat.le_of_ble_eq_true rfl) (mh_rok (by omega) (by decide)) (fun x152 s153 q154 => ?_)
            obtain ⟨r_x152, rfl⟩ := q154
            refine mw_aload_n 44 rfl 0 dX10_tells_43 rfl rfl ?_
            refine mw_iload_n 45 rfl 3 dX10_tells_44 rfl rfl ?_
            refine mw_aload_n 46 rfl 0 dX10_tells_45 rfl rfl ?_
            refine mw_iload_n 47 rfl 3 dX10_tells_46 rfl rfl ?_
            refine mw_iload_n 48 rfl 1 dX10_tells_47 rfl rfl ?_
            refine mw_iload_n 49 rfl 2 dX10_tells_48 rfl rfl ?_
            refine mw_callVi [.int x128, .int p1, .int p2] [.int x128, .ref (G.2.2.2 57), .int x152] 52 rfl dX10_tells_49 ml_X10_441 mc_X10_bestLine mk_X10_bestLine rfl rfl (by decide) (w_X10_bestLine l G (d + 0) ⟨by omega, by omega⟩ hI0 x128 r_x128 p1 p2) rfl rfl (Nat.le_of_ble_eq_true rfl) (mh_rok (by omega) (by decide)) (fun x155 s156 q157 => ?_)
            obtain ⟨r_x155, rfl⟩ := q157
            refine mw_iload_n 53 rfl 1 dX10_tells_52 rfl rfl ?_
            refine mw_iload_n 54 rfl 2 dX10_tells_53 rfl rfl ?_
            refine mw_callVi [.int x128, .int x155, .int p1, .int p2] [.int x152] 57 rfl dX10_tells_54 ml_X10_435 mc_X10_costOf mk_X10_costOf rfl rfl (by decide) (w_X10_costOf l G (d + 1) ⟨by omega, by omega⟩ hI0 x128 r_x128 x155 p1 p2) rfl rfl (Nat.le_of_ble_eq_true rfl) (mh_rok (by omega) (by decide)) (fun x158 s159 q160 => ?_)
            obtain ⟨r_x158, rfl⟩ := q160
            have J63 : ∀ (x162 : Int32), mh_r x162 (0) (2) → mh_W G (mh_XM l G (d + 2) (mh_Qi (P_X10_tells B D s0 p1 p2))) mM_X10_tells 63 [(0, .ref (G.2.2.2 57)), (1, .int p1), (2, .int p2), (3, .int x162), (4, .int x127)] [] s0 := by
              intro x162 r_x162
              refine mw_iincR (k := 4) (2) (3) 66 rfl (fun z => [(4, .int z), (0, .ref (G.2.2.2 57)), (1, .int p1), (2, .int p2), (3, .int x162)]) dX10_tells_63 rfl (by decide) (fun _ => rfl) r_x127 (by decide) (by decide) (fun x165 t166 r_x165 => ?_)
              refine mw_goto 69 rfl 21 dX10_tells_66 (by decide) ?_
              exact mw_lv [1, 2, 3, 4, 0] rfl (ihn1 x165 x162 (mh_r_wk r_x165 (by decide)) r_x162 (by have : x165.toInt = x127.toInt + (1) := t166; omega))
            refine mw_icmp_ge 60 rfl 63 dX10_tells_57 (by decide) (fun c167 => ?_) (fun c167 => ?_)
            · skip
              exact mw_lv [0, 1, 2, 3, 4] rfl (J63 x128 r_x128)
            · skip
              have r_x152 : mh_r x152 (-2147483648) (2147483646) := mh_lt1 c167 r_x152 r_x158 (2147483646) (by decide)
              have r_x158 : mh_r x158 (-2147483647) (2147483647) := mh_lt2 c167 r_x152 r_x158 (-2147483647) (by decide)
              refine mw_iload 62 rfl 4 dX10_tells_60  rfl ?_
              refine mw_istore_n 63 rfl [(3, .int x127), (0, .ref (G.2.2.2 57)), (1, .int p1), (2, .int p2), (4, .int x127)] dX10_tells_62 rfl (by decide) rfl ?_
              exact mw_lv [1, 2, 3, 0, 4] rfl (J63 x127 (mh_r_wk r_x127 (by decide)))
      exact mw_lv [2, 3, 4, 1, 0] rfl (L21 3 (1) (0) (mh_r_wk rc_1 (by decide)) (mh_r_wk rc_0 (by decide)) (by have := (rc_1).1; have := (rc_1).2; omega))
    · skip
      have r_x87 : mh_r x87 (0) (0) := mh_eq1 (show x87.toInt = (0 : Int32).toInt from c90) r_x87 rc_0 (0) (0) (by decide)
      refine mw_iconst (v := -1) 15 rfl dX10_tells_14 (by decide) ?_
      exact mw_iret dX10_tells_15 rfl ⟨(-1), rfl, ⟨(mh_r_wk rc_m1 (by decide)), rfl⟩⟩

def S_X10_held : List (Nat × Nat) := [(57, 33), (57, 35), (57, 36), (57, 37), (78, 9999), (77, 9999)]
def P_X10_held (B D : Int) (s0 : mh_H) (p1 : Int32) (p2 : Int32) : Int32 → mh_H → Prop := fun z s => mh_r z (-2147483648) (2147483647) ∧ mh_I B D s ∧ mh_F S_X10_held s0 s
set_option maxRecDepth 100000 in
set_option maxHeartbeats 4000000 in
theorem w_X10_held (l : Launch) (G : mh_G) (d : Nat) {B D : Int} (hB : B ≤ 1880000000 ∧ D ≤ 1880000000) {s0 : mh_H} (hI0 : mh_I B D s0) (p1 : Int32) (p2 : Int32) : mh_Mi l G (d + 6) mM_X10_held [.ref (G.2.2.2 57), .int p1, .int p2] s0 (P_X10_held B D s0 p1 p2) := by
  refine mh_enter (lv := [(0, .ref (G.2.2.2 57)), (1, .int p1), (2, .int p2)]) (by decide) rfl (Nat.le_of_ble_eq_true rfl) ?_
  have hF0 : mh_F S_X10_held s0 s0 := mh_F_rf
  refine mw_iload_n 1 rfl 1 dX10_held_0 rfl rfl ?_
  refine mw_callSi [.int p1] [] 4 rfl dX10_held_1 ml_X10_438 mc_X10_isPrice mk_X10_isPrice (w_X10_isPrice l G (d + 4) ⟨by omega, by omega⟩ hI0 p1) rfl rfl (Nat.le_of_ble_eq_true rfl) (mh_rok (by omega) (by decide)) (fun x476 s477 q478 => ?_)
  obtain ⟨r_x476, e0_s477, rfl⟩ := q478
  refine mw_if_eq 7 rfl 14 dX10_held_4 (by decide) (fun c479 => ?_) (fun c479 => ?_)
  · skip
    have r_x476 : mh_r x476 (0) (0) := mh_eq1 (show x476.toInt = (0 : Int32).toInt from c479) r_x476 rc_0 (0) (0) (by decide)
    refine mw_iconst (v := -1) 15 rfl dX10_held_14 (by decide) ?_
    exact mw_iret dX10_held_15 rfl ⟨(-1), rfl, ⟨(mh_r_wk rc_m1 (by decide)), hI0, hF0⟩⟩
  · skip
    have r_p1 : mh_r p1 (0) (999) := ⟨by have := e0_s477.1 (mh_z1 r_x476 c479); have := ((mh_r_full p1)).1; omega, by have := e0_s477.1 (mh_z1 r_x476 c479); have := ((mh_r_full p1)).2; omega⟩
    have r_x476 : mh_r x476 (1) (1) := mh_ne1 (show x476.toInt ≠ (0 : Int32).toInt from c479) r_x476 rc_0 (1) (1) (by decide)
    refine mw_iload_n 8 rfl 2 dX10_held_7 rfl rfl ?_
    refine mw_callSi [.int p2] [] 11 rfl dX10_held_8 ml_X10_438 mc_X10_isPrice mk_X10_isPrice (w_X10_isPrice l G (d + 4) ⟨by omega, by omega⟩ hI0 p2) rfl rfl (Nat.le_of_ble_eq_true rfl) (mh_rok (by omega) (by decide)) (fun x480 s481 q482 => ?_)
    obtain ⟨r_x480, e0_s481, rfl⟩ := q482
    refine mw_if_ne 14 rfl 16 dX10_held_11 (by decide) (fun c483 => ?_) (fun c483 => ?_)
    · skip
      have r_p2 : mh_r p2 (0) (999) := ⟨by have := e0_s481.1 (mh_z1 r_x480 c483); have := ((mh_r_full p2)).1; omega, by have := e0_s481.1 (mh_z1 r_x480 c483); have := ((mh_r_full p2)).2; omega⟩
      have r_x480 : mh_r x480 (1) (1) := mh_ne1 (show x480.toInt ≠ (0 : Int32).toInt from c483) r_x480 rc_0 (1) (1) (by decide)
      refine mw_iconst (v := 0) 17 rfl dX10_held_16 (by decide) ?_
      refine mw_istore_n 18 rfl [(3, .int (0)), (0, .ref (G.2.2.2 57)), (1, .int p1), (2, .int p2)] dX10_held_17 rfl (by decide) rfl ?_
      refine mw_iconst (v := 0) 19 rfl dX10_held_18 (by decide) ?_
      refine mw_istore 21 rfl [(4, .int (0)), (3, .int (0)), (0, .ref (G.2.2.2 57)), (1, .int p1), (2, .int p2)] dX10_held_19  (by decide) rfl ?_
      have L21 : ∀ n1 : Nat, ∀ (x857 : Int32) (x858 : Int32) (s859 : mh_H), mh_r x857 (0) (60) → mh_I B D s859 → mh_F S_X10_held s0 s859 → (60) - x857.toInt < (n1 : Int) → mh_W G (mh_XM l G (d + 6) (mh_Qi (P_X10_held B D s0 p1 p2))) mM_X10_held 21 [(0, .ref (G.2.2.2 57)), (1, .int p1), (2, .int p2), (3, .int x858), (4, .int x857)] [] s859 := by
        intro n1
        induction n1 with
        | zero =>
          intro x857 x858 s859 r_x857 hI_s859 hF_s859 hmn1
          exact absurd hmn1 (by have := r_x857.1; have := r_x857.2; omega)
        | succ n1 ihn1 =>
          intro x857 x858 s859 r_x857 hI_s859 hF_s859 hmn1
          refine mw_iload 23 rfl 4 dX10_held_21  rfl ?_
          refine mw_aload_n 24 rfl 0 dX10_held_23 rfl rfl ?_
          refine mw_geti 27 rfl dX10_held_24 gf_X10_432 rfl (fun x907 t908 => ?_)
          have r_x907 : mh_r x907 (0) (60) := by rw [t908]; exact rd_57_58 hI_s859
          refine mw_icmp_ge 30 rfl 134 dX10_held_27 (by decide) (fun c909 => ?_) (fun c909 => ?_)
          · skip
            refine mw_iload_n 135 rfl 3 dX10_held_134 rfl rfl ?_
            exact mw_iret dX10_held_135 rfl ⟨x858, rfl, ⟨(mh_r_full x858), hI_s859, hF_s859⟩⟩
          · skip
            have r_x857 : mh_r x857 (0) (59) := mh_lt1 c909 r_x857 r_x907 (59) (by decide)
            have r_x907 : mh_r x907 (1) (60) := mh_lt2 c909 r_x857 r_x907 (1) (by decide)
            refine mw_aload_n 31 rfl 0 dX10_held_30 rfl rfl ?_
            refine mw_iconst (v := -1) 32 rfl dX10_held_31 (by decide) ?_
            refine mw_puti 35 rfl dX10_held_32 pf_X10_304 rfl (fun s910 t911 => ?_)
            have hI_s910 : mh_I B D s910 := by rw [t911]; exact wr_57_33 hI_s859 (mh_r_wk rc_m1 (by decide))
            have hF_s910 : mh_F S_X10_held s0 s910 := by rw [t911]; exact mh_F_pI hF_s859 (mh_sj 0 rfl)
            refine mw_aload_n 36 rfl 0 dX10_held_35 rfl rfl ?_
            refine mw_aload_n 37 rfl 0 dX10_held_36 rfl rfl ?_
            refine mw_geta 40 rfl dX10_held_37 gf_X10_134 rfl 97 (mh_rf hI_s910 94 rfl) ?_
            refine mw_iconst (v := 3) 41 rfl dX10_held_40 (by decide) ?_
            refine mw_iload 43 rfl 4 dX10_held_41  rfl ?_
            refine mw_imul 44 rfl (0) (177) dX10_held_43 rc_3 r_x857 (by decide) (fun x912 t913 r_x912 => ?_)
            refine mw_iald 45 rfl dX10_held_44 rfl r_x912 (by decide) (fun x914 t915 => ?_)
            refine mw_puti 48 rfl dX10_held_45 pf_X10_317 rfl (fun s916 t917 => ?_)
            have hI_s916 : mh_I B D s916 := by rw [t917]; exact wr_57_35 hI_s910
            have hF_s916 : mh_F S_X10_held s0 s916 := by rw [t917]; exact mh_F_pI hF_s910 (mh_sj 1 rfl)
            refine mw_aload_n 49 rfl 0 dX10_held_48 rfl rfl ?_
            refine mw_aload_n 50 rfl 0 dX10_held_49 rfl rfl ?_
            refine mw_geta 53 rfl dX10_held_50 gf_X10_134 rfl 97 (mh_rf hI_s916 94 rfl) ?_
            refine mw_iconst (v := 3) 54 rfl dX10_held_53 (by decide) ?_
            refine mw_iload 56 rfl 4 dX10_held_54  rfl ?_
            refine mw_imul 57 rfl (0) (177) dX10_held_56 rc_3 r_x857 (by decide) (fun x918 t919 r_x918 => ?_)
            obtain rfl : x912 = x918 := Int32.toInt_inj.mp (t913.trans t919.symm)
            refine mw_iconst (v := 1) 58 rfl dX10_held_57 (by decide) ?_
            refine mw_iadd 59 rfl (1) (178) dX10_held_58 r_x912 rc_1 (by decide) (fun x920 t921 r_x920 => ?_)
            refine mw_iald 60 rfl dX10_held_59 rfl r_x920 (by decide) (fun x922 t923 => ?_)
            refine mw_puti 63 rfl dX10_held_60 pf_X10_320 rfl (fun s924 t925 => ?_)
            have hI_s924 : mh_I B D s924 := by rw [t925]; exact wr_57_36 hI_s916
            have hF_s924 : mh_F S_X10_held s0 s924 := by rw [t925]; exact mh_F_pI hF_s916 (mh_sj 2 rfl)
            refine mw_aload_n 64 rfl 0 dX10_held_63 rfl rfl ?_
            refine mw_aload_n 65 rfl 0 dX10_held_64 rfl rfl ?_
            refine mw_geta 68 rfl dX10_held_65 gf_X10_134 rfl 97 (mh_rf hI_s924 94 rfl) ?_
            refine mw_iconst (v := 3) 69 rfl dX10_held_68 (by decide) ?_
            refine mw_iload 71 rfl 4 dX10_held_69  rfl ?_
            refine mw_imul 72 rfl (0) (177) dX10_held_71 rc_3 r_x857 (by decide) (fun x926 t927 r_x926 => ?_)
            obtain rfl : x912 = x926 := Int32.toInt_inj.mp (t913.trans t927.symm)
            refine mw_iconst (v := 2) 73 rfl dX10_held_72 (by decide) ?_
            refine mw_iadd 74 rfl (2) (179) dX10_held_73 r_x912 rc_2 (by decide) (fun x928 t929 r_x928 => ?_)
            refine mw_iald 75 rfl dX10_held_74 rfl r_x928 (by decide) (fun x930 t931 => ?_)
            refine mw_puti 78 rfl dX10_held_75 pf_X10_323 rfl (fun s932 t933 => ?_)
            have hI_s932 : mh_I B D s932 := by rw [t933]; exact wr_57_37 hI_s924
            have hF_s932 : mh_F S_X10_held s0 s932 := by rw [t933]; exact mh_F_pI hF_s924 (mh_sj 3 rfl)
            refine mw_aload_n 79 rfl 0 dX10_held_78 rfl rfl ?_
            refine mw_bipush (v := 102) 81 rfl dX10_held_79 (by decide) ?_
            refine mw_iconst (v := 1) 82 rfl dX10_held_81 (by decide) ?_
            refine mw_callVi [.int (102), .int (1)] [] 85 rfl dX10_held_82 ml_X10_342 mc_X10_tellsBy mk_X10_tellsBy rfl rfl (by decide) (w_X10_tellsBy l G (d + 0) ⟨by omega, by omega⟩ hI_s932 (102) (mh_r_wk rc_102 (by decide)) (1) (mh_r_wk rc_1 (by decide))) rfl rfl (Nat.le_of_ble_eq_true rfl) (mh_rok (by omega) (by decide)) (fun x934 s935 q936 => ?_)
            obtain ⟨r_x934, e0_s935, e1_s935, hI_s935, hG_s935⟩ := q936
            have hF_s935 : mh_F S_X10_held s0 s935 := mh_F_tl hF_s932 hG_s935 (by decide +kernel)
            have r_x934 : mh_r x934 (0) (1) := ⟨(r_x934).1, by have := e1_s935; have := (rc_1).2; omega⟩
            have J93 : ∀ (x938 : Int32), mh_r x938 (0) (1) → mh_W G (mh_XM l G (d + 6) (mh_Qi (P_X10_held B D s0 p1 p2))) mM_X10_held 93 [(0, .ref (G.2.2.2 57)), (1, .int p1), (2, .int p2), (3, .int x858), (4, .int x857)] [.int x938] s935 := by
              intro x938 r_x938
              refine mw_istore 95 rfl [(5, .int x938), (0, .ref (G.2.2.2 57)), (1, .int p1), (2, .int p2), (3, .int x858), (4, .int x857)] dX10_held_93  (by decide) rfl ?_
              refine mw_iload 97 rfl 0 dX10_held_95  rfl ?_
              refine mw_aload_n 98 rfl 1 dX10_held_97 rfl rfl ?_
              refine mw_geta 101 rfl dX10_held_98 gf_X10_137 rfl 98 (mh_rf hI_s935 95 rfl) ?_
              refine mw_iload 103 rfl 5 dX10_held_101  rfl ?_
              refine mw_iald 104 rfl dX10_held_103 rfl r_x857 (by decide) (fun x951 t952 => ?_)
              have J112 : ∀ (x954 : Int32), mh_r x954 (0) (1) → mh_W G (mh_XM l G (d + 6) (mh_Qi (P_X10_held B D s0 p1 p2))) mM_X10_held 112 [(0, .ref (G.2.2.2 57)), (1, .int p1), (2, .int p2), (3, .int x858), (4, .int x857), (5, .int x938)] [.int x954, .int x938] s935 := by
                intro x954 r_x954
                have J128 : ∀ (x968 : Int32), mh_W G (mh_XM l G (d + 6) (mh_Qi (P_X10_held B D s0 p1 p2))) mM_X10_held 128 [(0, .ref (G.2.2.2 57)), (1, .int p1), (2, .int p2), (3, .int x968), (4, .int x857), (5, .int x938)] [] s935 := by
                  intro x968
                  refine mw_iincR (k := 4) (1) (60) 131 rfl (fun z => [(4, .int z), (0, .ref (G.2.2.2 57)), (1, .int p1), (2, .int p2), (3, .int x968), (5, .int x938)]) dX10_held_128 rfl (by decide) (fun _ => rfl) r_x857 (by decide) (by decide) (fun x971 t972 r_x971 => ?_)
                  refine mw_goto 134 rfl 21 dX10_held_131 (by decide) ?_
                  exact mw_lv [1, 2, 3, 4, 0] rfl (ihn1 x971 x968 s935 (mh_r_wk r_x971 (by decide)) hI_s935 hF_s935 (by have : x971.toInt = x857.toInt + (1) := t972; omega))
                refine mw_icmp_eq 115 rfl 128 dX10_held_112 (by decide) (fun c973 => ?_) (fun c973 => ?_)
                · skip
                  exact mw_lv [0, 1, 2, 3, 4, 5] rfl (J128 x858)
                · skip
                  refine mw_iload_n 116 rfl 3 dX10_held_115 rfl rfl ?_
                  refine mw_iload 118 rfl 5 dX10_held_116  rfl ?_
                  have J126 : ∀ (x975 : Int32), mh_r x975 (0) (999) → mh_W G (mh_XM l G (d + 6) (mh_Qi (P_X10_held B D s0 p1 p2))) mM_X10_held 126 [(0, .ref (G.2.2.2 57)), (1, .int p1), (2, .int p2), (3, .int x858), (4, .int x857), (5, .int x938)] [.int x975, .int x858] s935 := by
                    intro x975 r_x975
                    refine mw_iadd_u 127 rfl dX10_held_126 (fun x978 t979 => ?_)
                    refine mw_istore_n 128 rfl [(3, .int x978), (0, .ref (G.2.2.2 57)), (1, .int p1), (2, .int p2), (4, .int x857), (5, .int x938)] dX10_held_127 rfl (by decide) rfl ?_
                    exact mw_lv [1, 2, 3, 0, 4, 5] rfl (J128 x978)
                  refine mw_if_eq 121 rfl 125 dX10_held_118 (by decide) (fun c980 => ?_) (fun c980 => ?_)
                  · skip
                    have r_x938 : mh_r x938 (0) (0) := mh_eq1 (show x938.toInt = (0 : Int32).toInt from c980) r_x938 rc_0 (0) (0) (by decide)
                    refine mw_iload_n 126 rfl 1 dX10_held_125 rfl rfl ?_
                    exact mw_lv [0, 1, 2, 3, 4, 5] rfl (J126 p1 r_p1)
                  · skip
                    have r_x938 : mh_r x938 (1) (1) := mh_ne1 (show x938.toInt ≠ (0 : Int32).toInt from c980) r_x938 rc_0 (1) (1) (by decide)
                    refine mw_iload_n 122 rfl 2 dX10_held_121 rfl rfl ?_
                    refine mw_goto 125 rfl 126 dX10_held_122 (by decide) ?_
                    exact mw_lv [0, 1, 2, 3, 4, 5] rfl (J126 p2 r_p2)
              refine mw_if_le 107 rfl 111 dX10_held_104 (by decide) (fun c981 => ?_) (fun c981 => ?_)
              · skip
                have r_x951 : mh_r x951 (-2147483648) (0) := mh_le1 (show x951.toInt ≤ (0 : Int32).toInt from c981) (mh_r_full x951) rc_0 (0) (by decide)
                refine mw_iconst (v := 0) 112 rfl dX10_held_111 (by decide) ?_
                exact mw_lv [1, 2, 3, 4, 5, 0] rfl (J112 (0) (mh_r_wk rc_0 (by decide)))
              · skip
                have r_x951 : mh_r x951 (1) (2147483647) := mh_lt2 (show (0 : Int32).toInt < x951.toInt from c981) rc_0 (mh_r_full x951) (1) (by decide)
                refine mw_iconst (v := 1) 108 rfl dX10_held_107 (by decide) ?_
                refine mw_goto 111 rfl 112 dX10_held_108 (by decide) ?_
                exact mw_lv [1, 2, 3, 4, 5, 0] rfl (J112 (1) (mh_r_wk rc_1 (by decide)))
            refine mw_if_le 88 rfl 92 dX10_held_85 (by decide) (fun c982 => ?_) (fun c982 => ?_)
            · skip
              have r_x934 : mh_r x934 (0) (0) := mh_le1 (show x934.toInt ≤ (0 : Int32).toInt from c982) r_x934 rc_0 (0) (by decide)
              refine mw_iconst (v := 0) 93 rfl dX10_held_92 (by decide) ?_
              exact mw_lv [0, 1, 2, 3, 4] rfl (J93 (0) (mh_r_wk rc_0 (by decide)))
            · skip
              have r_x934 : mh_r x934 (1) (1) := mh_lt2 (show (0 : Int32).toInt < x934.toInt from c982) rc_0 r_x934 (1) (by decide)
              refine mw_iconst (v := 1) 89 rfl dX10_held_88 (by decide) ?_
              refine mw_goto 92 rfl 93 dX10_held_89 (by decide) ?_
              exact mw_lv [0, 1, 2, 3, 4] rfl (J93 (1) (mh_r_wk rc_1 (by decide)))
      exact mw_lv [2, 3, 4, 1, 0] rfl (L21 61 (0) (0) s0 (mh_r_wk rc_0 (by decide)) hI0 hF0 (by have := (rc_0).1; have := (rc_0).2; omega))
    · skip
      have r_x480 : mh_r x480 (0) (0) := mh_eq1 (show x480.toInt = (0 : Int32).toInt from c483) r_x480 rc_0 (0) (0) (by decide)
      refine mw_iconst (v := -1) 15 rfl dX10_held_14 (by decide) ?_
      exact mw_iret dX10_held_15 rfl ⟨(-1), rfl, ⟨(mh_r_wk rc_m1 (by decide)), hI0, hF0⟩⟩

def P_X10_divisor (B D : Int) (s0 : mh_H) (p0 : Int64) (p2 : Int64) : Int64 → mh_H → Prop := fun z s => (z.toInt.natAbs = Nat.gcd p0.toInt.natAbs p2.toInt.natAbs) ∧ (0 ≤ p0.toInt ∧ 0 ≤ p2.toInt → 0 ≤ z.toInt) ∧ s0 = s
set_option maxRecDepth 100000 in
set_option maxHeartbeats 4000000 in
theorem w_X10_divisor (l : Launch) (G : mh_G) (d : Nat) {B D : Int} (hB : B ≤ 2000000000 ∧ D ≤ 2000000000) {s0 : mh_H} (hI0 : mh_I B D s0) (p0 : Int64) (p2 : Int64) : mh_Ml l G (d + 0) mM_X10_divisor [.long p0, .long p2] s0 (P_X10_divisor B D s0 p0 p2) := by
  refine mh_enter (lv := [(0, .long p0), (2, .long p2)]) (by decide) rfl (Nat.le_of_ble_eq_true rfl) ?_
  refine mw_lload_n 1 rfl 0 dX10_divisor_0 rfl rfl ?_
  refine mw_lstore 3 rfl [(4, .long p0), (0, .long p0), (2, .long p2)] dX10_divisor_1  (by decide) rfl ?_
  refine mw_lload_n 4 rfl 2 dX10_divisor_3 rfl rfl ?_
  refine mw_lstore 6 rfl [(6, .long p2), (4, .long p0), (0, .long p0), (2, .long p2)] dX10_divisor_4  (by decide) rfl ?_
  have L6 : ∀ n1 : Nat, ∀ (y29 : Int64) (y30 : Int64), (Nat.gcd y30.toInt.natAbs y29.toInt.natAbs = Nat.gcd p0.toInt.natAbs p2.toInt.natAbs ∧ (0 ≤ p0.toInt ∧ 0 ≤ p2.toInt → 0 ≤ y30.toInt ∧ 0 ≤ y29.toInt)) → (y29.toInt.natAbs : Int) < (n1 : Int) → mh_W G (mh_XM l G (d + 0) (mh_Ql (P_X10_divisor B D s0 p0 p2))) mM_X10_divisor 6 [(0, .long p0), (2, .long p2), (4, .long y30), (6, .long y29)] [] s0 := by
    intro n1
    induction n1 with
    | zero =>
      intro y29 y30 iv hmn1
      exact absurd hmn1 (by omega)
    | succ n1 ihn1 =>
      intro y29 y30 iv hmn1
      refine mw_lload 8 rfl 3 dX10_divisor_6  rfl ?_
      refine mw_lconst (v := 0) 9 rfl dX10_divisor_8 (by decide) ?_
      refine mw_lcmp 10 rfl dX10_divisor_9 (fun x39 t40 => ?_)
      have g41 := mh_lc t40
      have r_x39 : mh_r x39 (-1) 1 := g41.2.2
      refine mw_if_eq 13 rfl 31 dX10_divisor_10 (by decide) (fun c42 => ?_) (fun c42 => ?_)
      · skip
        have r_x39 : mh_r x39 (0) (0) := mh_eq1 (show x39.toInt = (0 : Int32).toInt from c42) r_x39 rc_0 (0) (0) (by decide)
        refine mw_lload 33 rfl 2 dX10_divisor_31  rfl ?_
        refine mw_lret dX10_divisor_33 rfl ⟨y30, rfl, ⟨?_, ?_, rfl⟩⟩
        · skip
          have h9 := iv.1
          have h8 : y29.toInt.natAbs = 0 := by have := mh_l0; omega
          rw [h8, Nat.gcd_zero_right] at h9
          exact h9
        · skip
          intro hh
          exact (iv.2 hh).1
      · skip
        refine mw_lload 15 rfl 2 dX10_divisor_13  rfl ?_
        refine mw_lload 17 rfl 3 dX10_divisor_15  rfl ?_
        refine mw_lrem 18 rfl dX10_divisor_17 (mh_lnz (by have := mh_l0; omega)) (fun y43 t44 => ?_)
        refine mw_lstore 20 rfl [(8, .long y43), (0, .long p0), (2, .long p2), (4, .long y30), (6, .long y29)] dX10_divisor_18  (by decide) rfl ?_
        refine mw_lload 22 rfl 4 dX10_divisor_20  rfl ?_
        refine mw_lstore 24 rfl [(4, .long y29), (8, .long y43), (0, .long p0), (2, .long p2), (6, .long y29)] dX10_divisor_22  (by decide) rfl ?_
        refine mw_lload 26 rfl 1 dX10_divisor_24  rfl ?_
        refine mw_lstore 28 rfl [(6, .long y43), (4, .long y29), (8, .long y43), (0, .long p0), (2, .long p2)] dX10_divisor_26  (by decide) rfl ?_
        refine mw_goto 31 rfl 6 dX10_divisor_28 (by decide) ?_
        exact mw_lv [3, 4, 1, 0] rfl (ihn1 y43 y29 (by
            refine ⟨?_, ?_⟩
            · first | rfl | exact mh_gcs (by assumption) (by have := mh_l0; omega) iv.1
            · intro hh; first | exact hh | (have := iv.2 hh; have := (mh_lrm2 (by assumption) (by have := mh_l0; omega)).2.1 this.1; omega)) (by have := (mh_lrm2 (by assumption) (by have := mh_l0; omega)).2.2; omega))
  exact mw_lv [2, 3, 1, 0] rfl (L6 9223372036854775809 p2 p0 (by
      refine ⟨?_, ?_⟩
      · first | rfl | exact mh_gcs (by assumption) (by have := mh_l0; omega) iv.1
      · intro hh; first | exact hh | (have := iv.2 hh; have := (mh_lrm2 (by assumption) (by have := mh_l0; omega)).2.1 this.1; omega)) (by have := Int64.le_toInt p2; have := Int64.toInt_lt p2; omega))

def P_X10_odds (B D : Int) (s0 : mh_H) (p1 : Int32) (p2 : Int32) (p3 : Int32) (p4 : Int32) (p5 : Int32) : Int32 → mh_H → Prop := fun z s => mh_r z (-2) (2147483647) ∧ s0 = s
set_option maxRecDepth 100000 in
set_option maxHeartbeats 4000000 in
theorem w_X10_odds (l : Launch) (G : mh_G) (d : Nat) {B D : Int} (hB : B ≤ 1960000000 ∧ D ≤ 1960000000) {s0 : mh_H} (hI0 : mh_I B D s0) (p1 : Int32) (p2 : Int32) (p3 : Int32) (p4 : Int32) (p5 : Int32) : mh_Mi l G (d + 2) mM_X10_odds [.ref (G.2.2.2 57), .int p1, .int p2, .int p3, .int p4, .int p5] s0 (P_X10_odds B D s0 p1 p2 p3 p4 p5) := by
  refine mh_enter (lv := [(0, .ref (G.2.2.2 57)), (1, .int p1), (2, .int p2), (3, .int p3), (4, .int p4), (5, .int p5)]) (by decide) rfl (Nat.le_of_ble_eq_true rfl) ?_
  refine mw_iload_n 1 rfl 1 dX10_odds_0 rfl rfl ?_
  refine mw_i2l 2 rfl dX10_odds_1 (fun y585 t586 => ?_)
  refine mw_lconst (v := 0) 3 rfl dX10_odds_2 (by decide) ?_
  refine mw_ldc2 6 rfl dX10_odds_3 ck_X10_170 ?_
  refine mw_callSi [.long y585, .long (0), .long (99)] [] 9 rfl dX10_odds_6 ml_X10_154 mc_X10_lies mk_X10_lies (w_X10_lies l G (d + 1) ⟨by omega, by omega⟩ hI0 y585 (0) (99)) rfl rfl (Nat.le_of_ble_eq_true rfl) (mh_rok (by omega) (by decide)) (fun x587 s588 q589 => ?_)
  obtain ⟨r_x587, e0_s588, rfl⟩ := q589
  have f_x587 : x587.toInt = 1 ↔ (0 ≤ p1.toInt ∧ p1.toInt ≤ 99) := by rw [e0_s588]; exact by simp only [t586, Int32.toInt_toInt64]; first | done | exact Iff.rfl
  refine mw_if_eq 12 rfl 62 dX10_odds_9 (by decide) (fun c590 => ?_) (fun c590 => ?_)
  · skip
    have r_x587 : mh_r x587 (0) (0) := mh_eq1 (show x587.toInt = (0 : Int32).toInt from c590) r_x587 rc_0 (0) (0) (by decide)
    refine mw_iconst (v := -1) 63 rfl dX10_odds_62 (by decide) ?_
    exact mw_iret dX10_odds_63 rfl ⟨(-1), rfl, ⟨(mh_r_wk rc_m1 (by decide)), rfl⟩⟩
  · skip
    have r_p1 : mh_r p1 (0) (99) := ⟨by have := f_x587.1 (mh_z1 r_x587 c590); have := ((mh_r_full p1)).1; omega, by have := f_x587.1 (mh_z1 r_x587 c590); have := ((mh_r_full p1)).2; omega⟩
    have r_x587 : mh_r x587 (1) (1) := mh_ne1 (show x587.toInt ≠ (0 : Int32).toInt from c590) r_x587 rc_0 (1) (1) (by decide)
    refine mw_iload_n 13 rfl 2 dX10_odds_12 rfl rfl ?_
    refine mw_i2l 14 rfl dX10_odds_13 (fun y591 t592 => ?_)
    refine mw_lconst (v := 0) 15 rfl dX10_odds_14 (by decide) ?_
    refine mw_ldc2 18 rfl dX10_odds_15 ck_X10_170 ?_
    refine mw_callSi [.long y591, .long (0), .long (99)] [] 21 rfl dX10_odds_18 ml_X10_154 mc_X10_lies mk_X10_lies (w_X10_lies l G (d + 1) ⟨by omega, by omega⟩ hI0 y591 (0) (99)) rfl rfl (Nat.le_of_ble_eq_true rfl) (mh_rok (by omega) (by decide)) (fun x593 s594 q595 => ?_)
    obtain ⟨r_x593, e0_s594, rfl⟩ := q595
    have f_x593 : x593.toInt = 1 ↔ (0 ≤ p2.toInt ∧ p2.toInt ≤ 99) := by rw [e0_s594]; exact by simp only [t592, Int32.toInt_toInt64]; first | done | exact Iff.rfl
    refine mw_if_eq 24 rfl 62 dX10_odds_21 (by decide) (fun c596 => ?_) (fun c596 => ?_)
    · skip
      have r_x593 : mh_r x593 (0) (0) := mh_eq1 (show x593.toInt = (0 : Int32).toInt from c596) r_x593 rc_0 (0) (0) (by decide)
      refine mw_iconst (v := -1) 63 rfl dX10_odds_62 (by decide) ?_
      exact mw_iret dX10_odds_63 rfl ⟨(-1), rfl, ⟨(mh_r_wk rc_m1 (by decide)), rfl⟩⟩
    · skip
      have r_p2 : mh_r p2 (0) (99) := ⟨by have := f_x593.1 (mh_z1 r_x593 c596); have := ((mh_r_full p2)).1; omega, by have := f_x593.1 (mh_z1 r_x593 c596); have := ((mh_r_full p2)).2; omega⟩
      have r_x593 : mh_r x593 (1) (1) := mh_ne1 (show x593.toInt ≠ (0 : Int32).toInt from c596) r_x593 rc_0 (1) (1) (by decide)
      refine mw_iload_n 25 rfl 3 dX10_odds_24 rfl rfl ?_
      refine mw_i2l 26 rfl dX10_odds_25 (fun y597 t598 => ?_)
      refine mw_lconst (v := 0) 27 rfl dX10_odds_26 (by decide) ?_
      refine mw_ldc2 30 rfl dX10_odds_27 ck_X10_170 ?_
      refine mw_callSi [.long y597, .long (0), .long (99)] [] 33 rfl dX10_odds_30 ml_X10_154 mc_X10_lies mk_X10_lies (w_X10_lies l G (d + 1) ⟨by omega, by omega⟩ hI0 y597 (0) (99)) rfl rfl (Nat.le_of_ble_eq_true rfl) (mh_rok (by omega) (by decide)) (fun x599 s600 q601 => ?_)
      obtain ⟨r_x599, e0_s600, rfl⟩ := q601
      have f_x599 : x599.toInt = 1 ↔ (0 ≤ p3.toInt ∧ p3.toInt ≤ 99) := by rw [e0_s600]; exact by simp only [t598, Int32.toInt_toInt64]; first | done | exact Iff.rfl
      refine mw_if_eq 36 rfl 62 dX10_odds_33 (by decide) (fun c602 => ?_) (fun c602 => ?_)
      · skip
        have r_x599 : mh_r x599 (0) (0) := mh_eq1 (show x599.toInt = (0 : Int32).toInt from c602) r_x599 rc_0 (0) (0) (by decide)
        refine mw_iconst (v := -1) 63 rfl dX10_odds_62 (by decide) ?_
        exact mw_iret dX10_odds_63 rfl ⟨(-1), rfl, ⟨(mh_r_wk rc_m1 (by decide)), rfl⟩⟩
      · skip
        have r_p3 : mh_r p3 (0) (99) := ⟨by have := f_x599.1 (mh_z1 r_x599 c602); have := ((mh_r_full p3)).1; omega, by have := f_x599.1 (mh_z1 r_x599 c602); have := ((mh_r_full p3)).2; omega⟩
        have r_x599 : mh_r x599 (1) (1) := mh_ne1 (show x599.toInt ≠ (0 : Int32).toInt from c602) r_x599 rc_0 (1) (1) (by decide)
        refine mw_iload 38 rfl 4 dX10_odds_36  rfl ?_
        refine mw_i2l 39 rfl dX10_odds_38 (fun y603 t604 => ?_)
        refine mw_lconst (v := 0) 40 rfl dX10_odds_39 (by decide) ?_
        refine mw_ldc2 43 rfl dX10_odds_40 ck_X10_170 ?_
        refine mw_callSi [.long y603, .long (0), .long (99)] [] 46 rfl dX10_odds_43 ml_X10_154 mc_X10_lies mk_X10_lies (w_X10_lies l G (d + 1) ⟨by omega, by omega⟩ hI0 y603 (0) (99)) rfl rfl (Nat.le_of_ble_eq_true rfl) (mh_rok (by omega) (by decide)) (fun x605 s606 q607 => ?_)
        obtain ⟨r_x605, e0_s606, rfl⟩ := q607
        have f_x605 : x605.toInt = 1 ↔ (0 ≤ p4.toInt ∧ p4.toInt ≤ 99) := by rw [e0_s606]; exact by simp only [t604, Int32.toInt_toInt64]; first | done | exact Iff.rfl
        refine mw_if_eq 49 rfl 62 dX10_odds_46 (by decide) (fun c608 => ?_) (fun c608 => ?_)
        · skip
          have r_x605 : mh_r x605 (0) (0) := mh_eq1 (show x605.toInt = (0 : Int32).toInt from c608) r_x605 rc_0 (0) (0) (by decide)
          refine mw_iconst (v := -1) 63 rfl dX10_odds_62 (by decide) ?_
          exact mw_iret dX10_odds_63 rfl ⟨(-1), rfl, ⟨(mh_r_wk rc_m1 (by decide)), rfl⟩⟩
        · skip
          have r_p4 : mh_r p4 (0) (99) := ⟨by have := f_x605.1 (mh_z1 r_x605 c608); have := ((mh_r_full p4)).1; omega, by have := f_x605.1 (mh_z1 r_x605 c608); have := ((mh_r_full p4)).2; omega⟩
          have r_x605 : mh_r x605 (1) (1) := mh_ne1 (show x605.toInt ≠ (0 : Int32).toInt from c608) r_x605 rc_0 (1) (1) (by decide)
          refine mw_iload 51 rfl 5 dX10_odds_49  rfl ?_
          refine mw_i2l 52 rfl dX10_odds_51 (fun y609 t610 => ?_)
          refine mw_lconst (v := 0) 53 rfl dX10_odds_52 (by decide) ?_
          refine mw_ldc2 56 rfl dX10_odds_53 ck_X10_425 ?_
          refine mw_callSi [.long y609, .long (0), .long (2)] [] 59 rfl dX10_odds_56 ml_X10_154 mc_X10_lies mk_X10_lies (w_X10_lies l G (d + 1) ⟨by omega, by omega⟩ hI0 y609 (0) (2)) rfl rfl (Nat.le_of_ble_eq_true rfl) (mh_rok (by omega) (by decide)) (fun x611 s612 q613 => ?_)
          obtain ⟨r_x611, e0_s612, rfl⟩ := q613
          have f_x611 : x611.toInt = 1 ↔ (0 ≤ p5.toInt ∧ p5.toInt ≤ 2) := by rw [e0_s612]; exact by simp only [t610, Int32.toInt_toInt64]; first | done | exact Iff.rfl
          refine mw_if_ne 62 rfl 64 dX10_odds_59 (by decide) (fun c614 => ?_) (fun c614 => ?_)
          · skip
            have r_p5 : mh_r p5 (0) (2) := ⟨by have := f_x611.1 (mh_z1 r_x611 c614); have := ((mh_r_full p5)).1; omega, by have := f_x611.1 (mh_z1 r_x611 c614); have := ((mh_r_full p5)).2; omega⟩
            have r_x611 : mh_r x611 (1) (1) := mh_ne1 (show x611.toInt ≠ (0 : Int32).toInt from c614) r_x611 rc_0 (1) (1) (by decide)
            refine mw_iconst (v := 0) 65 rfl dX10_odds_64 (by decide) ?_
            refine mw_istore 67 rfl [(6, .int (0)), (0, .ref (G.2.2.2 57)), (1, .int p1), (2, .int p2), (3, .int p3), (4, .int p4), (5, .int p5)] dX10_odds_65  (by decide) rfl ?_
            refine mw_iconst (v := 0) 68 rfl dX10_odds_67 (by decide) ?_
            refine mw_istore 70 rfl [(7, .int (0)), (6, .int (0)), (0, .ref (G.2.2.2 57)), (1, .int p1), (2, .int p2), (3, .int p3), (4, .int p4), (5, .int p5)] dX10_odds_68  (by decide) rfl ?_
            refine mw_iconst (v := 0) 71 rfl dX10_odds_70 (by decide) ?_
            refine mw_istore 73 rfl [(8, .int (0)), (7, .int (0)), (6, .int (0)), (0, .ref (G.2.2.2 57)), (1, .int p1), (2, .int p2), (3, .int p3), (4, .int p4), (5, .int p5)] dX10_odds_71  (by decide) rfl ?_
            refine mw_iconst (v := 0) 74 rfl dX10_odds_73 (by decide) ?_
            refine mw_istore 76 rfl [(9, .int (0)), (8, .int (0)), (7, .int (0)), (6, .int (0)), (0, .ref (G.2.2.2 57)), (1, .int p1), (2, .int p2), (3, .int p3), (4, .int p4), (5, .int p5)] dX10_odds_74  (by decide) rfl ?_
            have L76 : ∀ n1 : Nat, ∀ (x1045 : Int32) (x1046 : Int32) (x1047 : Int32) (x1048 : Int32), mh_r x1045 (0) (60) → mh_r x1046 (0) (2147483647) → mh_r x1047 (0) (60) → mh_r x1048 (0) (60) → (0 ≤ x1047.toInt ∧ x1047.toInt ≤ x1048.toInt ∧ x1048.toInt ≤ x1045.toInt) → (60) - x1045.toInt < (n1 : Int) → mh_W G (mh_XM l G (d + 2) (mh_Qi (P_X10_odds B D s0 p1 p2 p3 p4 p5))) mM_X10_odds 76 [(0, .ref (G.2.2.2 57)), (1, .int p1), (2, .int p2), (3, .int p3), (4, .int p4), (5, .int p5), (6, .int x1048), (7, .int x1047), (8, .int x1046), (9, .int x1045)] [] s0 := by
              intro n1
              induction n1 with
              | zero =>
                intro x1045 x1046 x1047 x1048 r_x1045 r_x1046 r_x1047 r_x1048 iv hmn1
                exact absurd hmn1 (by have := r_x1045.1; have := r_x1045.2; omega)
              | succ n1 ihn1 =>
                intro x1045 x1046 x1047 x1048 r_x1045 r_x1046 r_x1047 r_x1048 iv hmn1
                refine mw_iload 78 rfl 9 dX10_odds_76  rfl ?_
                refine mw_aload_n 79 rfl 0 dX10_odds_78 rfl rfl ?_
                refine mw_geti 82 rfl dX10_odds_79 gf_X10_432 rfl (fun x1103 t1104 => ?_)
                have r_x1103 : mh_r x1103 (0) (60) := by rw [t1104]; exact rd_57_58 hI0
                refine mw_icmp_ge 85 rfl 201 dX10_odds_82 (by decide) (fun c1105 => ?_) (fun c1105 => ?_)
                · skip
                  refine mw_iload 203 rfl 6 dX10_odds_201  rfl ?_
                  refine mw_if_ne 206 rfl 209 dX10_odds_203 (by decide) (fun c1106 => ?_) (fun c1106 => ?_)
                  · skip
                    have r_x1048 : mh_r x1048 (1) (60) := mh_ne1 (show x1048.toInt ≠ (0 : Int32).toInt from c1106) r_x1048 rc_0 (1) (60) (by decide)
                    refine mw_iload 211 rfl 5 dX10_odds_209  rfl ?_
                    refine mw_iconst (v := 2) 212 rfl dX10_odds_211 (by decide) ?_
                    refine mw_icmp_ne 215 rfl 218 dX10_odds_212 (by decide) (fun c1107 => ?_) (fun c1107 => ?_)
                    · skip
                      have r_p5 : mh_r p5 (0) (1) := mh_ne1 c1107 r_p5 rc_2 (0) (1) (by decide)
                      refine mw_iload 220 rfl 7 dX10_odds_218  rfl ?_
                      refine mw_i2l 221 rfl dX10_odds_220 (fun y1108 t1109 => ?_)
                      refine mw_iload 223 rfl 6 dX10_odds_221  rfl ?_
                      refine mw_i2l 224 rfl dX10_odds_223 (fun y1110 t1111 => ?_)
                      refine mw_callSl [.long y1108, .long y1110] [] 227 rfl dX10_odds_224 ml_X10_448 mc_X10_divisor mk_X10_divisor (w_X10_divisor l G (d + 1) ⟨by omega, by omega⟩ hI0 y1108 y1110) rfl rfl (Nat.le_of_ble_eq_true rfl) (mh_rok (by omega) (by decide)) (fun y1112 s1113 q1114 => ?_)
                      obtain ⟨e0_s1113, e1_s1113, rfl⟩ := q1114
                      refine mw_l2i 228 rfl dX10_odds_227 (fun x1115 t1116 => ?_)
                      have r_x1115 : mh_r x1115 (1) (60) := (mh_g32 (n := 60) t1116 e0_s1113 (e1_s1113 ⟨by rw [t1109, Int32.toInt_toInt64]; exact (r_x1047).1, by rw [t1111, Int32.toInt_toInt64]; have := (r_x1048).1; omega⟩) (by rw [t1111, Int32.toInt_toInt64]; have := (r_x1048).1; have := (r_x1048).2; omega) (by decide)).1
                      refine mw_istore 230 rfl [(9, .int x1115), (0, .ref (G.2.2.2 57)), (1, .int p1), (2, .int p2), (3, .int p3), (4, .int p4), (5, .int p5), (6, .int x1048), (7, .int x1047), (8, .int x1046)] dX10_odds_228  (by decide) rfl ?_
                      refine mw_iload 232 rfl 6 dX10_odds_230  rfl ?_
                      refine mw_if_ne 235 rfl 243 dX10_odds_232 (by decide) (fun c1117 => ?_) (fun c1117 => ?_)
                      · skip
                        have r_p5 : mh_r p5 (1) (1) := mh_ne1 (show p5.toInt ≠ (0 : Int32).toInt from c1117) r_p5 rc_0 (1) (1) (by decide)
                        refine mw_iload 245 rfl 7 dX10_odds_243  rfl ?_
                        refine mw_iload 247 rfl 0 dX10_odds_245  rfl ?_
                        refine mw_idiv 248 rfl (0) (60) dX10_odds_247 r_x1048 r_x1115 (by decide) (fun x1118 t1119 r_x1118 => ?_)
                        exact mw_iret dX10_odds_248 rfl ⟨x1118, rfl, ⟨(mh_r_wk r_x1118 (by decide)), rfl⟩⟩
                      · skip
                        have r_p5 : mh_r p5 (0) (0) := mh_eq1 (show p5.toInt = (0 : Int32).toInt from c1117) r_p5 rc_0 (0) (0) (by decide)
                        refine mw_iload 237 rfl 8 dX10_odds_235  rfl ?_
                        refine mw_iload 239 rfl 0 dX10_odds_237  rfl ?_
                        refine mw_idiv 240 rfl (0) (60) dX10_odds_239 r_x1047 r_x1115 (by decide) (fun x1120 t1121 r_x1120 => ?_)
                        refine mw_goto 243 rfl 248 dX10_odds_240 (by decide) ?_
                        exact mw_iret dX10_odds_248 rfl ⟨x1120, rfl, ⟨(mh_r_wk r_x1120 (by decide)), rfl⟩⟩
                    · skip
                      have r_p5 : mh_r p5 (2) (2) := mh_eq1 c1107 r_p5 rc_2 (2) (2) (by decide)
                      refine mw_iload 217 rfl 8 dX10_odds_215  rfl ?_
                      exact mw_iret dX10_odds_217 rfl ⟨x1046, rfl, ⟨(mh_r_wk r_x1046 (by decide)), rfl⟩⟩
                  · skip
                    have r_x1048 : mh_r x1048 (0) (0) := mh_eq1 (show x1048.toInt = (0 : Int32).toInt from c1106) r_x1048 rc_0 (0) (0) (by decide)
                    refine mw_bipush (v := -2) 208 rfl dX10_odds_206 (by decide) ?_
                    exact mw_iret dX10_odds_208 rfl ⟨(-2), rfl, ⟨(mh_r_wk rc_m2 (by decide)), rfl⟩⟩
                · skip
                  have r_x1045 : mh_r x1045 (0) (59) := mh_lt1 c1105 r_x1045 r_x1103 (59) (by decide)
                  have r_x1103 : mh_r x1103 (1) (60) := mh_lt2 c1105 r_x1045 r_x1103 (1) (by decide)
                  refine mw_aload_n 86 rfl 0 dX10_odds_85 rfl rfl ?_
                  refine mw_geta 89 rfl dX10_odds_86 gf_X10_134 rfl 97 (mh_rf hI0 94 rfl) ?_
                  refine mw_iconst (v := 3) 90 rfl dX10_odds_89 (by decide) ?_
                  refine mw_iload 92 rfl 9 dX10_odds_90  rfl ?_
                  refine mw_imul 93 rfl (0) (177) dX10_odds_92 rc_3 r_x1045 (by decide) (fun x1122 t1123 r_x1122 => ?_)
                  refine mw_iald 94 rfl dX10_odds_93 rfl r_x1122 (by decide) (fun x1124 t1125 => ?_)
                  refine mw_iload_n 95 rfl 1 dX10_odds_94 rfl rfl ?_
                  refine mw_iload 97 rfl 4 dX10_odds_95  rfl ?_
                  refine mw_callSi [.int x1124, .int p1, .int p4] [] 100 rfl dX10_odds_97 ml_X10_444 mc_X10_isWithin mk_X10_isWithin (w_X10_isWithin l G (d + 0) ⟨by omega, by omega⟩ hI0 x1124 p1 p4) rfl rfl (Nat.le_of_ble_eq_true rfl) (mh_rok (by omega) (by decide)) (fun x1126 s1127 q1128 => ?_)
                  obtain ⟨r_x1126, rfl⟩ := q1128
                  have J195 : ∀ (x1164 : Int32) (x1165 : Int32) (x1166 : Int32), mh_r x1164 (0) (60) → mh_r x1165 (0) (60) → mh_r x1166 (0) (2147483647) → (0 ≤ x1165.toInt ∧ x1165.toInt ≤ x1164.toInt ∧ x1164.toInt ≤ x1045.toInt + 1) → mh_W G (mh_XM l G (d + 2) (mh_Qi (P_X10_odds B D s0 p1 p2 p3 p4 p5))) mM_X10_odds 195 [(0, .ref (G.2.2.2 57)), (1, .int p1), (2, .int p2), (3, .int p3), (4, .int p4), (5, .int p5), (6, .int x1164), (7, .int x1165), (8, .int x1166), (9, .int x1045)] [] s0 := by
                    intro x1164 x1165 x1166 r_x1164 r_x1165 r_x1166 iw
                    refine mw_iincR (k := 9) (1) (60) 198 rfl (fun z => [(9, .int z), (0, .ref (G.2.2.2 57)), (1, .int p1), (2, .int p2), (3, .int p3), (4, .int p4), (5, .int p5), (6, .int x1164), (7, .int x1165), (8, .int x1166)]) dX10_odds_195 rfl (by decide) (fun _ => rfl) r_x1045 (by decide) (by decide) (fun x1169 t1170 r_x1169 => ?_)
                    refine mw_goto 201 rfl 76 dX10_odds_198 (by decide) ?_
                    exact mw_lv [1, 2, 3, 4, 5, 6, 7, 8, 9, 0] rfl (ihn1 x1169 x1166 x1165 x1164 (mh_r_wk r_x1169 (by decide)) r_x1166 r_x1165 r_x1164 (by
                        have := (r_x1169).1; have := (r_x1169).2
                        have := (r_p1).1; have := (r_p1).2
                        have := (r_p2).1; have := (r_p2).2
                        have := (r_p3).1; have := (r_p3).2
                        have := (r_p4).1; have := (r_p4).2
                        have := (r_p5).1; have := (r_p5).2
                        have := (r_x1164).1; have := (r_x1164).2
                        have := (r_x1165).1; have := (r_x1165).2
                        have := (r_x1166).1; have := (r_x1166).2
                        have := (r_x1103).1; have := (r_x1103).2
                        have := kc_m2
                        have := kc_m1
                        have := kc_0
                        have := kc_1
                        have := kc_2
                        have := kc_3
                        omega) (by have : x1169.toInt = x1045.toInt + (1) := t1170; omega))
                  refine mw_if_eq 103 rfl 195 dX10_odds_100 (by decide) (fun c1171 => ?_) (fun c1171 => ?_)
                  · skip
                    have r_x1126 : mh_r x1126 (0) (0) := mh_eq1 (show x1126.toInt = (0 : Int32).toInt from c1171) r_x1126 rc_0 (0) (0) (by decide)
                    exact mw_lv [0, 1, 2, 3, 4, 5, 6, 7, 8, 9] rfl (J195 x1048 x1047 x1046 r_x1048 r_x1047 r_x1046 (by
                        have := (r_p1).1; have := (r_p1).2
                        have := (r_p2).1; have := (r_p2).2
                        have := (r_p3).1; have := (r_p3).2
                        have := (r_p4).1; have := (r_p4).2
                        have := (r_p5).1; have := (r_p5).2
                        have := (r_x1048).1; have := (r_x1048).2
                        have := (r_x1047).1; have := (r_x1047).2
                        have := (r_x1046).1; have := (r_x1046).2
                        have := (r_x1045).1; have := (r_x1045).2
                        have := (r_x1103).1; have := (r_x1103).2
                        have := kc_m2
                        have := kc_m1
                        have := kc_0
                        have := kc_1
                        have := kc_2
                        have := kc_3
                        omega))
                  · skip
                    have r_x1126 : mh_r x1126 (1) (1) := mh_ne1 (show x1126.toInt ≠ (0 : Int32).toInt from c1171) r_x1126 rc_0 (1) (1) (by decide)
                    refine mw_aload_n 104 rfl 0 dX10_odds_103 rfl rfl ?_
                    refine mw_geta 107 rfl dX10_odds_104 gf_X10_134 rfl 97 (mh_rf hI0 94 rfl) ?_
                    refine mw_iconst (v := 3) 108 rfl dX10_odds_107 (by decide) ?_
                    refine mw_iload 110 rfl 9 dX10_odds_108  rfl ?_
                    refine mw_imul 111 rfl (0) (177) dX10_odds_110 rc_3 r_x1045 (by decide) (fun x1172 t1173 r_x1172 => ?_)
                    obtain rfl : x1122 = x1172 := Int32.toInt_inj.mp (t1123.trans t1173.symm)
                    refine mw_iconst (v := 1) 112 rfl dX10_odds_111 (by decide) ?_
                    refine mw_iadd 113 rfl (1) (178) dX10_odds_112 r_x1122 rc_1 (by decide) (fun x1174 t1175 r_x1174 => ?_)
                    refine mw_iald 114 rfl dX10_odds_113 rfl r_x1174 (by decide) (fun x1176 t1177 => ?_)
                    refine mw_iload_n 115 rfl 2 dX10_odds_114 rfl rfl ?_
                    refine mw_iload 117 rfl 4 dX10_odds_115  rfl ?_
                    refine mw_callSi [.int x1176, .int p2, .int p4] [] 120 rfl dX10_odds_117 ml_X10_444 mc_X10_isWithin mk_X10_isWithin (w_X10_isWithin l G (d + 0) ⟨by omega, by omega⟩ hI0 x1176 p2 p4) rfl rfl (Nat.le_of_ble_eq_true rfl) (mh_rok (by omega) (by decide)) (fun x1178 s1179 q1180 => ?_)
                    obtain ⟨r_x1178, rfl⟩ := q1180
                    refine mw_if_eq 123 rfl 195 dX10_odds_120 (by decide) (fun c1181 => ?_) (fun c1181 => ?_)
                    · skip
                      have r_x1178 : mh_r x1178 (0) (0) := mh_eq1 (show x1178.toInt = (0 : Int32).toInt from c1181) r_x1178 rc_0 (0) (0) (by decide)
                      exact mw_lv [0, 1, 2, 3, 4, 5, 6, 7, 8, 9] rfl (J195 x1048 x1047 x1046 r_x1048 r_x1047 r_x1046 (by
                          have := (r_p1).1; have := (r_p1).2
                          have := (r_p2).1; have := (r_p2).2
                          have := (r_p3).1; have := (r_p3).2
                          have := (r_p4).1; have := (r_p4).2
                          have := (r_p5).1; have := (r_p5).2
                          have := (r_x1048).1; have := (r_x1048).2
                          have := (r_x1047).1; have := (r_x1047).2
                          have := (r_x1046).1; have := (r_x1046).2
                          have := (r_x1045).1; have := (r_x1045).2
                          have := (r_x1103).1; have := (r_x1103).2
                          have := kc_m2
                          have := kc_m1
                          have := kc_0
                          have := kc_1
                          have := kc_2
                          have := kc_3
                          omega))
                    · skip
                      have r_x1178 : mh_r x1178 (1) (1) := mh_ne1 (show x1178.toInt ≠ (0 : Int32).toInt from c1181) r_x1178 rc_0 (1) (1) (by decide)
                      refine mw_aload_n 124 rfl 0 dX10_odds_123 rfl rfl ?_
                      refine mw_geta 127 rfl dX10_odds_124 gf_X10_134 rfl 97 (mh_rf hI0 94 rfl) ?_
                      refine mw_iconst (v := 3) 128 rfl dX10_odds_127 (by decide) ?_
                      refine mw_iload 130 rfl 9 dX10_odds_128  rfl ?_
                      refine mw_imul 131 rfl (0) (177) dX10_odds_130 rc_3 r_x1045 (by decide) (fun x1182 t1183 r_x1182 => ?_)
                      obtain rfl : x1122 = x1182 := Int32.toInt_inj.mp (t1123.trans t1183.symm)
                      refine mw_iconst (v := 2) 132 rfl dX10_odds_131 (by decide) ?_
                      refine mw_iadd 133 rfl (2) (179) dX10_odds_132 r_x1122 rc_2 (by decide) (fun x1184 t1185 r_x1184 => ?_)
                      refine mw_iald 134 rfl dX10_odds_133 rfl r_x1184 (by decide) (fun x1186 t1187 => ?_)
                      refine mw_iload_n 135 rfl 3 dX10_odds_134 rfl rfl ?_
                      refine mw_iload 137 rfl 4 dX10_odds_135  rfl ?_
                      refine mw_callSi [.int x1186, .int p3, .int p4] [] 140 rfl dX10_odds_137 ml_X10_444 mc_X10_isWithin mk_X10_isWithin (w_X10_isWithin l G (d + 0) ⟨by omega, by omega⟩ hI0 x1186 p3 p4) rfl rfl (Nat.le_of_ble_eq_true rfl) (mh_rok (by omega) (by decide)) (fun x1188 s1189 q1190 => ?_)
                      obtain ⟨r_x1188, rfl⟩ := q1190
                      refine mw_if_ne 143 rfl 146 dX10_odds_140 (by decide) (fun c1191 => ?_) (fun c1191 => ?_)
                      · skip
                        have r_x1188 : mh_r x1188 (1) (1) := mh_ne1 (show x1188.toInt ≠ (0 : Int32).toInt from c1191) r_x1188 rc_0 (1) (1) (by decide)
                        have r_x1048 : mh_r x1048 (0) (59) := ⟨by have := (r_p1).1; have := (r_p1).2; have := (r_p2).1; have := (r_p2).2; have := (r_p3).1; have := (r_p3).2; have := (r_p4).1; have := (r_p4).2; have := (r_p5).1; have := (r_p5).2; have := (r_x1048).1; have := (r_x1048).2; have := (r_x1047).1; have := (r_x1047).2; have := (r_x1046).1; have := (r_x1046).2; have := (r_x1045).1; have := (r_x1045).2; have := (r_x1103).1; have := (r_x1103).2; have := kc_m2; have := kc_m1; have := kc_0; have := kc_1; have := kc_2; have := kc_3; omega, by have := (r_p1).1; have := (r_p1).2; have := (r_p2).1; have := (r_p2).2; have := (r_p3).1; have := (r_p3).2; have := (r_p4).1; have := (r_p4).2; have := (r_p5).1; have := (r_p5).2; have := (r_x1048).1; have := (r_x1048).2; have := (r_x1047).1; have := (r_x1047).2; have := (r_x1046).1; have := (r_x1046).2; have := (r_x1045).1; have := (r_x1045).2; have := (r_x1103).1; have := (r_x1103).2; have := kc_m2; have := kc_m1; have := kc_0; have := kc_1; have := kc_2; have := kc_3; omega⟩
                        have r_x1047 : mh_r x1047 (0) (59) := ⟨by have := (r_p1).1; have := (r_p1).2; have := (r_p2).1; have := (r_p2).2; have := (r_p3).1; have := (r_p3).2; have := (r_p4).1; have := (r_p4).2; have := (r_p5).1; have := (r_p5).2; have := (r_x1048).1; have := (r_x1048).2; have := (r_x1047).1; have := (r_x1047).2; have := (r_x1046).1; have := (r_x1046).2; have := (r_x1045).1; have := (r_x1045).2; have := (r_x1103).1; have := (r_x1103).2; have := kc_m2; have := kc_m1; have := kc_0; have := kc_1; have := kc_2; have := kc_3; omega, by have := (r_p1).1; have := (r_p1).2; have := (r_p2).1; have := (r_p2).2; have := (r_p3).1; have := (r_p3).2; have := (r_p4).1; have := (r_p4).2; have := (r_p5).1; have := (r_p5).2; have := (r_x1048).1; have := (r_x1048).2; have := (r_x1047).1; have := (r_x1047).2; have := (r_x1046).1; have := (r_x1046).2; have := (r_x1045).1; have := (r_x1045).2; have := (r_x1103).1; have := (r_x1103).2; have := kc_m2; have := kc_m1; have := kc_0; have := kc_1; have := kc_2; have := kc_3; omega⟩
                        refine mw_iincR (k := 6) (1) (60) 149 rfl (fun z => [(6, .int z), (0, .ref (G.2.2.2 57)), (1, .int p1), (2, .int p2), (3, .int p3), (4, .int p4), (5, .int p5), (7, .int x1047), (8, .int x1046), (9, .int x1045)]) dX10_odds_146 rfl (by decide) (fun _ => rfl) r_x1048 (by decide) (by decide) (fun x1192 t1193 r_x1192 => ?_)
                        refine mw_iload 151 rfl 7 dX10_odds_149  rfl ?_
                        refine mw_aload_n 152 rfl 1 dX10_odds_151 rfl rfl ?_
                        refine mw_geta 155 rfl dX10_odds_152 gf_X10_137 rfl 98 (mh_rf hI0 95 rfl) ?_
                        refine mw_iload 157 rfl 9 dX10_odds_155  rfl ?_
                        refine mw_iald 158 rfl dX10_odds_157 rfl r_x1045 (by decide) (fun x1194 t1195 => ?_)
                        have J166 : ∀ (x1197 : Int32), mh_r x1197 (0) (1) → mh_W G (mh_XM l G (d + 2) (mh_Qi (P_X10_odds B D s0 p1 p2 p3 p4 p5))) mM_X10_odds 166 [(0, .ref (G.2.2.2 57)), (1, .int p1), (2, .int p2), (3, .int p3), (4, .int p4), (5, .int p5), (6, .int x1192), (7, .int x1047), (8, .int x1046), (9, .int x1045)] [.int x1197, .int x1047] s0 := by
                          intro x1197 r_x1197
                          refine mw_iadd 167 rfl (0) (60) dX10_odds_166 r_x1047 r_x1197 (by decide) (fun x1206 t1207 r_x1206 => ?_)
                          refine mw_istore 169 rfl [(7, .int x1206), (0, .ref (G.2.2.2 57)), (1, .int p1), (2, .int p2), (3, .int p3), (4, .int p4), (5, .int p5), (6, .int x1192), (8, .int x1046), (9, .int x1045)] dX10_odds_167  (by decide) rfl ?_
                          refine mw_aload_n 170 rfl 1 dX10_odds_169 rfl rfl ?_
                          refine mw_geta 173 rfl dX10_odds_170 gf_X10_137 rfl 98 (mh_rf hI0 95 rfl) ?_
                          refine mw_iload 175 rfl 9 dX10_odds_173  rfl ?_
                          refine mw_iald 176 rfl dX10_odds_175 rfl r_x1045 (by decide) (fun x1208 t1209 => ?_)
                          obtain rfl : x1194 = x1208 := t1195.trans t1209.symm
                          refine mw_iload 178 rfl 8 dX10_odds_176  rfl ?_
                          have J193 : ∀ (x1213 : Int32), mh_r x1213 (0) (2147483647) → mh_W G (mh_XM l G (d + 2) (mh_Qi (P_X10_odds B D s0 p1 p2 p3 p4 p5))) mM_X10_odds 193 [(0, .ref (G.2.2.2 57)), (1, .int p1), (2, .int p2), (3, .int p3), (4, .int p4), (5, .int p5), (6, .int x1192), (7, .int x1206), (8, .int x1046), (9, .int x1045)] [.int x1213] s0 := by
                            intro x1213 r_x1213
                            refine mw_istore 195 rfl [(8, .int x1213), (0, .ref (G.2.2.2 57)), (1, .int p1), (2, .int p2), (3, .int p3), (4, .int p4), (5, .int p5), (6, .int x1192), (7, .int x1206), (9, .int x1045)] dX10_odds_193  (by decide) rfl ?_
                            exact mw_lv [1, 2, 3, 4, 5, 6, 7, 8, 0, 9] rfl (J195 x1192 x1206 x1213 (mh_r_wk r_x1192 (by decide)) r_x1206 r_x1213 (by
                                have := (r_x1213).1; have := (r_x1213).2
                                have := (r_p1).1; have := (r_p1).2
                                have := (r_p2).1; have := (r_p2).2
                                have := (r_p3).1; have := (r_p3).2
                                have := (r_p4).1; have := (r_p4).2
                                have := (r_p5).1; have := (r_p5).2
                                have := (r_x1192).1; have := (r_x1192).2
                                have := (r_x1206).1; have := (r_x1206).2
                                have := (r_x1045).1; have := (r_x1045).2
                                have := (r_x1103).1; have := (r_x1103).2
                                have := (r_x1047).1; have := (r_x1047).2
                                have := (r_x1197).1; have := (r_x1197).2
                                have := kc_m2
                                have := kc_m1
                                have := kc_0
                                have := kc_1
                                have := kc_2
                                have := kc_3
                                omega))
                          refine mw_icmp_le 181 rfl 191 dX10_odds_178 (by decide) (fun c1214 => ?_) (fun c1214 => ?_)
                          · skip
                            refine mw_iload 193 rfl 8 dX10_odds_191  rfl ?_
                            exact mw_lv [1, 2, 3, 4, 5, 6, 7, 0, 8, 9] rfl (J193 x1046 r_x1046)
                          · skip
                            have r_x1046 : mh_r x1046 (0) (2147483646) := mh_lt1 c1214 r_x1046 (mh_r_full x1194) (2147483646) (by decide)
                            have r_x1194 : mh_r x1194 (1) (2147483647) := mh_lt2 c1214 r_x1046 (mh_r_full x1194) (1) (by decide)
                            refine mw_aload_n 182 rfl 1 dX10_odds_181 rfl rfl ?_
                            refine mw_geta 185 rfl dX10_odds_182 gf_X10_137 rfl 98 (mh_rf hI0 95 rfl) ?_
                            refine mw_iload 187 rfl 9 dX10_odds_185  rfl ?_
                            refine mw_iald 188 rfl dX10_odds_187 rfl r_x1045 (by decide) (fun x1215 t1216 => ?_)
                            obtain rfl : x1194 = x1215 := t1195.trans t1216.symm
                            refine mw_goto 191 rfl 193 dX10_odds_188 (by decide) ?_
                            exact mw_lv [1, 2, 3, 4, 5, 6, 7, 0, 8, 9] rfl (J193 x1194 (mh_r_wk r_x1194 (by decide)))
                        refine mw_if_le 161 rfl 165 dX10_odds_158 (by decide) (fun c1217 => ?_) (fun c1217 => ?_)
                        · skip
                          have r_x1194 : mh_r x1194 (-2147483648) (0) := mh_le1 (show x1194.toInt ≤ (0 : Int32).toInt from c1217) (mh_r_full x1194) rc_0 (0) (by decide)
                          refine mw_iconst (v := 0) 166 rfl dX10_odds_165 (by decide) ?_
                          exact mw_lv [1, 2, 3, 4, 5, 6, 0, 7, 8, 9] rfl (J166 (0) (mh_r_wk rc_0 (by decide)))
                        · skip
                          have r_x1194 : mh_r x1194 (1) (2147483647) := mh_lt2 (show (0 : Int32).toInt < x1194.toInt from c1217) rc_0 (mh_r_full x1194) (1) (by decide)
                          refine mw_iconst (v := 1) 162 rfl dX10_odds_161 (by decide) ?_
                          refine mw_goto 165 rfl 166 dX10_odds_162 (by decide) ?_
                          exact mw_lv [1, 2, 3, 4, 5, 6, 0, 7, 8, 9] rfl (J166 (1) (mh_r_wk rc_1 (by decide)))
                      · skip
                        have r_x1188 : mh_r x1188 (0) (0) := mh_eq1 (show x1188.toInt = (0 : Int32).toInt from c1191) r_x1188 rc_0 (0) (0) (by decide)
                        refine mw_goto 146 rfl 195 dX10_odds_143 (by decide) ?_
                        exact mw_lv [0, 1, 2, 3, 4, 5, 6, 7, 8, 9] rfl (J195 x1048 x1047 x1046 r_x1048 r_x1047 r_x1046 (by
                            have := (r_p1).1; have := (r_p1).2
                            have := (r_p2).1; have := (r_p2).2
                            have := (r_p3).1; have := (r_p3).2
                            have := (r_p4).1; have := (r_p4).2
                            have := (r_p5).1; have := (r_p5).2
                            have := (r_x1048).1; have := (r_x1048).2
                            have := (r_x1047).1; have := (r_x1047).2
                            have := (r_x1046).1; have := (r_x1046).2
                            have := (r_x1045).1; have := (r_x1045).2
                            have := (r_x1103).1; have := (r_x1103).2
                            have := kc_m2
                            have := kc_m1
                            have := kc_0
                            have := kc_1
                            have := kc_2
                            have := kc_3
                            omega))
            exact mw_lv [4, 5, 6, 7, 8, 9, 3, 2, 1, 0] rfl (L76 61 (0) (0) (0) (0) (mh_r_wk rc_0 (by decide)) (mh_r_wk rc_0 (by decide)) (mh_r_wk rc_0 (by decide)) (mh_r_wk rc_0 (by decide)) (by
                have := (rc_0).1; have := (rc_0).2
                have := (r_p1).1; have := (r_p1).2
                have := (r_p2).1; have := (r_p2).2
                have := (r_p3).1; have := (r_p3).2
                have := (r_p4).1; have := (r_p4).2
                have := (r_p5).1; have := (r_p5).2
                have := kc_m2
                have := kc_m1
                have := kc_0
                have := kc_1
                have := kc_2
                have := kc_3
                omega) (by have := (rc_0).1; have := (rc_0).2; omega))
          · skip
            have r_x611 : mh_r x611 (0) (0) := mh_eq1 (show x611.toInt = (0 : Int32).toInt from c614) r_x611 rc_0 (0) (0) (by decide)
            refine mw_iconst (v := -1) 63 rfl dX10_odds_62 (by decide) ?_
            exact mw_iret dX10_odds_63 rfl ⟨(-1), rfl, ⟨(mh_r_wk rc_m1 (by decide)), rfl⟩⟩

def P_X10_costWhen (B D : Int) (s0 : mh_H) (p1 : Int32) (p2 : Int32) (p3 : Int32) : Int32 → mh_H → Prop := fun z s => mh_r z (-2147483648) (2147483647) ∧ s0 = s
set_option maxRecDepth 100000 in
set_option maxHeartbeats 4000000 in
theorem w_X10_costWhen (l : Launch) (G : mh_G) (d : Nat) {B D : Int} (hB : B ≤ 2000000000 ∧ D ≤ 2000000000) {s0 : mh_H} (hI0 : mh_I B D s0) (p1 : Int32) (p2 : Int32) (p3 : Int32) : mh_Mi l G (d + 0) mM_X10_costWhen [.ref (G.2.2.2 57), .int p1, .int p2, .int p3] s0 (P_X10_costWhen B D s0 p1 p2 p3) := by
  refine mh_enter (lv := [(0, .ref (G.2.2.2 57)), (1, .int p1), (2, .int p2), (3, .int p3)]) (by decide) rfl (Nat.le_of_ble_eq_true rfl) ?_
  refine mw_iconst (v := 0) 1 rfl dX10_costWhen_0 (by decide) ?_
  refine mw_istore 3 rfl [(4, .int (0)), (0, .ref (G.2.2.2 57)), (1, .int p1), (2, .int p2), (3, .int p3)] dX10_costWhen_1  (by decide) rfl ?_
  refine mw_iconst (v := 0) 4 rfl dX10_costWhen_3 (by decide) ?_
  refine mw_istore 6 rfl [(5, .int (0)), (4, .int (0)), (0, .ref (G.2.2.2 57)), (1, .int p1), (2, .int p2), (3, .int p3)] dX10_costWhen_4  (by decide) rfl ?_
  have L6 : ∀ n1 : Nat, ∀ (x403 : Int32) (x404 : Int32), mh_r x403 (0) (60) → (60) - x403.toInt < (n1 : Int) → mh_W G (mh_XM l G (d + 0) (mh_Qi (P_X10_costWhen B D s0 p1 p2 p3))) mM_X10_costWhen 6 [(0, .ref (G.2.2.2 57)), (1, .int p1), (2, .int p2), (3, .int p3), (4, .int x404), (5, .int x403)] [] s0 := by
    intro n1
    induction n1 with
    | zero =>
      intro x403 x404 r_x403 hmn1
      exact absurd hmn1 (by have := r_x403.1; have := r_x403.2; omega)
    | succ n1 ihn1 =>
      intro x403 x404 r_x403 hmn1
      refine mw_iload 8 rfl 5 dX10_costWhen_6  rfl ?_
      refine mw_aload_n 9 rfl 0 dX10_costWhen_8 rfl rfl ?_
      refine mw_geti 12 rfl dX10_costWhen_9 gf_X10_432 rfl (fun x434 t435 => ?_)
      have r_x434 : mh_r x434 (0) (60) := by rw [t435]; exact rd_57_58 hI0
      refine mw_icmp_ge 15 rfl 75 dX10_costWhen_12 (by decide) (fun c436 => ?_) (fun c436 => ?_)
      · skip
        refine mw_iload 77 rfl 4 dX10_costWhen_75  rfl ?_
        exact mw_iret dX10_costWhen_77 rfl ⟨x404, rfl, ⟨(mh_r_full x404), rfl⟩⟩
      · skip
        have r_x403 : mh_r x403 (0) (59) := mh_lt1 c436 r_x403 r_x434 (59) (by decide)
        have r_x434 : mh_r x434 (1) (60) := mh_lt2 c436 r_x403 r_x434 (1) (by decide)
        refine mw_aload_n 16 rfl 0 dX10_costWhen_15 rfl rfl ?_
        refine mw_geta 19 rfl dX10_costWhen_16 gf_X10_137 rfl 98 (mh_rf hI0 95 rfl) ?_
        refine mw_iload 21 rfl 5 dX10_costWhen_19  rfl ?_
        refine mw_iald 22 rfl dX10_costWhen_21 rfl r_x403 (by decide) (fun x437 t438 => ?_)
        have J69 : ∀ (x458 : Int32), mh_W G (mh_XM l G (d + 0) (mh_Qi (P_X10_costWhen B D s0 p1 p2 p3))) mM_X10_costWhen 69 [(0, .ref (G.2.2.2 57)), (1, .int p1), (2, .int p2), (3, .int p3), (4, .int x458), (5, .int x403)] [] s0 := by
          intro x458
          refine mw_iincR (k := 5) (1) (60) 72 rfl (fun z => [(5, .int z), (0, .ref (G.2.2.2 57)), (1, .int p1), (2, .int p2), (3, .int p3), (4, .int x458)]) dX10_costWhen_69 rfl (by decide) (fun _ => rfl) r_x403 (by decide) (by decide) (fun x461 t462 r_x461 => ?_)
          refine mw_goto 75 rfl 6 dX10_costWhen_72 (by decide) ?_
          exact mw_lv [1, 2, 3, 4, 5, 0] rfl (ihn1 x461 x458 (mh_r_wk r_x461 (by decide)) (by have : x461.toInt = x403.toInt + (1) := t462; omega))
        refine mw_if_ne 25 rfl 28 dX10_costWhen_22 (by decide) (fun c463 => ?_) (fun c463 => ?_)
        · skip
          refine mw_iload 30 rfl 4 dX10_costWhen_28  rfl ?_
          refine mw_aload_n 31 rfl 0 dX10_costWhen_30 rfl rfl ?_
          refine mw_geta 34 rfl dX10_costWhen_31 gf_X10_140 rfl 99 (mh_rf hI0 96 rfl) ?_
          refine mw_iload 36 rfl 5 dX10_costWhen_34  rfl ?_
          refine mw_iald 37 rfl dX10_costWhen_36 rfl r_x403 (by decide) (fun x464 t465 => ?_)
          refine mw_iload_n 38 rfl 1 dX10_costWhen_37 rfl rfl ?_
          have J66 : ∀ (x479 : Int32), mh_W G (mh_XM l G (d + 0) (mh_Qi (P_X10_costWhen B D s0 p1 p2 p3))) mM_X10_costWhen 66 [(0, .ref (G.2.2.2 57)), (1, .int p1), (2, .int p2), (3, .int p3), (4, .int x404), (5, .int x403)] [.int x479, .int x404] s0 := by
            intro x479
            refine mw_iadd_u 67 rfl dX10_costWhen_66 (fun x482 t483 => ?_)
            refine mw_istore 69 rfl [(4, .int x482), (0, .ref (G.2.2.2 57)), (1, .int p1), (2, .int p2), (3, .int p3), (5, .int x403)] dX10_costWhen_67  (by decide) rfl ?_
            exact mw_lv [1, 2, 3, 4, 0, 5] rfl (J69 x482)
          refine mw_icmp_le 41 rfl 55 dX10_costWhen_38 (by decide) (fun c484 => ?_) (fun c484 => ?_)
          · skip
            refine mw_iload_n 56 rfl 3 dX10_costWhen_55 rfl rfl ?_
            refine mw_iload_n 57 rfl 1 dX10_costWhen_56 rfl rfl ?_
            refine mw_aload_n 58 rfl 0 dX10_costWhen_57 rfl rfl ?_
            refine mw_geta 61 rfl dX10_costWhen_58 gf_X10_140 rfl 99 (mh_rf hI0 96 rfl) ?_
            refine mw_iload 63 rfl 5 dX10_costWhen_61  rfl ?_
            refine mw_iald 64 rfl dX10_costWhen_63 rfl r_x403 (by decide) (fun x485 t486 => ?_)
            obtain rfl : x464 = x485 := t465.trans t486.symm
            refine mw_isub_u 65 rfl dX10_costWhen_64 (fun x487 t488 => ?_)
            refine mw_imul_u 66 rfl dX10_costWhen_65 (fun x489 t490 => ?_)
            exact mw_lv [0, 1, 2, 3, 4, 5] rfl (J66 x489)
          · skip
            have r_p1 : mh_r p1 (-2147483648) (2147483646) := mh_lt1 c484 (mh_r_full p1) (mh_r_full x464) (2147483646) (by decide)
            have r_x464 : mh_r x464 (-2147483647) (2147483647) := mh_lt2 c484 r_p1 (mh_r_full x464) (-2147483647) (by decide)
            refine mw_iload_n 42 rfl 2 dX10_costWhen_41 rfl rfl ?_
            refine mw_aload_n 43 rfl 0 dX10_costWhen_42 rfl rfl ?_
            refine mw_geta 46 rfl dX10_costWhen_43 gf_X10_140 rfl 99 (mh_rf hI0 96 rfl) ?_
            refine mw_iload 48 rfl 5 dX10_costWhen_46  rfl ?_
            refine mw_iald 49 rfl dX10_costWhen_48 rfl r_x403 (by decide) (fun x491 t492 => ?_)
            obtain rfl : x464 = x491 := t465.trans t492.symm
            refine mw_iload_n 50 rfl 1 dX10_costWhen_49 rfl rfl ?_
            refine mw_isub_u 51 rfl dX10_costWhen_50 (fun x493 t494 => ?_)
            refine mw_imul_u 52 rfl dX10_costWhen_51 (fun x495 t496 => ?_)
            refine mw_goto 55 rfl 66 dX10_costWhen_52 (by decide) ?_
            exact mw_lv [0, 1, 2, 3, 4, 5] rfl (J66 x495)
        · skip
          have r_x437 : mh_r x437 (0) (0) := mh_eq1 (show x437.toInt = (0 : Int32).toInt from c463) (mh_r_full x437) rc_0 (0) (0) (by decide)
          refine mw_goto 28 rfl 69 dX10_costWhen_25 (by decide) ?_
          exact mw_lv [0, 1, 2, 3, 4, 5] rfl (J69 x404)
  exact mw_lv [2, 3, 4, 5, 1, 0] rfl (L6 61 (0) (0) (mh_r_wk rc_0 (by decide)) (by have := (rc_0).1; have := (rc_0).2; omega))

def P_X10_when (B D : Int) (s0 : mh_H) (p1 : Int32) (p2 : Int32) (p3 : Int32) : Int32 → mh_H → Prop := fun z s => mh_r z (-2147483648) (2147483647) ∧ s0 = s
set_option maxRecDepth 100000 in
set_option maxHeartbeats 4000000 in
theorem w_X10_when (l : Launch) (G : mh_G) (d : Nat) {B D : Int} (hB : B ≤ 1980000000 ∧ D ≤ 1980000000) {s0 : mh_H} (hI0 : mh_I B D s0) (p1 : Int32) (p2 : Int32) (p3 : Int32) : mh_Mi l G (d + 1) mM_X10_when [.ref (G.2.2.2 57), .int p1, .int p2, .int p3] s0 (P_X10_when B D s0 p1 p2 p3) := by
  refine mh_enter (lv := [(0, .ref (G.2.2.2 57)), (1, .int p1), (2, .int p2), (3, .int p3)]) (by decide) rfl (Nat.le_of_ble_eq_true rfl) ?_
  refine mw_iload_n 1 rfl 1 dX10_when_0 rfl rfl ?_
  refine mw_i2l 2 rfl dX10_when_1 (fun y224 t225 => ?_)
  refine mw_lconst (v := 0) 3 rfl dX10_when_2 (by decide) ?_
  refine mw_ldc2 6 rfl dX10_when_3 ck_X10_170 ?_
  refine mw_callSi [.long y224, .long (0), .long (99)] [] 9 rfl dX10_when_6 ml_X10_154 mc_X10_lies mk_X10_lies (w_X10_lies l G (d + 0) ⟨by omega, by omega⟩ hI0 y224 (0) (99)) rfl rfl (Nat.le_of_ble_eq_true rfl) (mh_rok (by omega) (by decide)) (fun x226 s227 q228 => ?_)
  obtain ⟨r_x226, e0_s227, rfl⟩ := q228
  have f_x226 : x226.toInt = 1 ↔ (0 ≤ p1.toInt ∧ p1.toInt ≤ 99) := by rw [e0_s227]; exact by simp only [t225, Int32.toInt_toInt64]; first | done | exact Iff.rfl
  refine mw_if_eq 12 rfl 34 dX10_when_9 (by decide) (fun c229 => ?_) (fun c229 => ?_)
  · skip
    have r_x226 : mh_r x226 (0) (0) := mh_eq1 (show x226.toInt = (0 : Int32).toInt from c229) r_x226 rc_0 (0) (0) (by decide)
    refine mw_iconst (v := -1) 35 rfl dX10_when_34 (by decide) ?_
    exact mw_iret dX10_when_35 rfl ⟨(-1), rfl, ⟨(mh_r_wk rc_m1 (by decide)), rfl⟩⟩
  · skip
    have r_p1 : mh_r p1 (0) (99) := ⟨by have := f_x226.1 (mh_z1 r_x226 c229); have := ((mh_r_full p1)).1; omega, by have := f_x226.1 (mh_z1 r_x226 c229); have := ((mh_r_full p1)).2; omega⟩
    have r_x226 : mh_r x226 (1) (1) := mh_ne1 (show x226.toInt ≠ (0 : Int32).toInt from c229) r_x226 rc_0 (1) (1) (by decide)
    refine mw_iload_n 13 rfl 2 dX10_when_12 rfl rfl ?_
    refine mw_i2l 14 rfl dX10_when_13 (fun y230 t231 => ?_)
    refine mw_lconst (v := 0) 15 rfl dX10_when_14 (by decide) ?_
    refine mw_ldc2 18 rfl dX10_when_15 ck_X10_170 ?_
    refine mw_callSi [.long y230, .long (0), .long (99)] [] 21 rfl dX10_when_18 ml_X10_154 mc_X10_lies mk_X10_lies (w_X10_lies l G (d + 0) ⟨by omega, by omega⟩ hI0 y230 (0) (99)) rfl rfl (Nat.le_of_ble_eq_true rfl) (mh_rok (by omega) (by decide)) (fun x232 s233 q234 => ?_)
    obtain ⟨r_x232, e0_s233, rfl⟩ := q234
    have f_x232 : x232.toInt = 1 ↔ (0 ≤ p2.toInt ∧ p2.toInt ≤ 99) := by rw [e0_s233]; exact by simp only [t231, Int32.toInt_toInt64]; first | done | exact Iff.rfl
    refine mw_if_eq 24 rfl 34 dX10_when_21 (by decide) (fun c235 => ?_) (fun c235 => ?_)
    · skip
      have r_x232 : mh_r x232 (0) (0) := mh_eq1 (show x232.toInt = (0 : Int32).toInt from c235) r_x232 rc_0 (0) (0) (by decide)
      refine mw_iconst (v := -1) 35 rfl dX10_when_34 (by decide) ?_
      exact mw_iret dX10_when_35 rfl ⟨(-1), rfl, ⟨(mh_r_wk rc_m1 (by decide)), rfl⟩⟩
    · skip
      have r_p2 : mh_r p2 (0) (99) := ⟨by have := f_x232.1 (mh_z1 r_x232 c235); have := ((mh_r_full p2)).1; omega, by have := f_x232.1 (mh_z1 r_x232 c235); have := ((mh_r_full p2)).2; omega⟩
      have r_x232 : mh_r x232 (1) (1) := mh_ne1 (show x232.toInt ≠ (0 : Int32).toInt from c235) r_x232 rc_0 (1) (1) (by decide)
      refine mw_iload_n 25 rfl 3 dX10_when_24 rfl rfl ?_
      refine mw_i2l 26 rfl dX10_when_25 (fun y236 t237 => ?_)
      refine mw_lconst (v := 0) 27 rfl dX10_when_26 (by decide) ?_
      refine mw_lconst (v := 1) 28 rfl dX10_when_27 (by decide) ?_
      refine mw_callSi [.long y236, .long (0), .long (1)] [] 31 rfl dX10_when_28 ml_X10_154 mc_X10_lies mk_X10_lies (w_X10_lies l G (d + 0) ⟨by omega, by omega⟩ hI0 y236 (0) (1)) rfl rfl (Nat.le_of_ble_eq_true rfl) (mh_rok (by omega) (by decide)) (fun x238 s239 q240 => ?_)
      obtain ⟨r_x238, e0_s239, rfl⟩ := q240
      have f_x238 : x238.toInt = 1 ↔ (0 ≤ p3.toInt ∧ p3.toInt ≤ 1) := by rw [e0_s239]; exact by simp only [t237, Int32.toInt_toInt64]; first | done | exact Iff.rfl
      refine mw_if_ne 34 rfl 36 dX10_when_31 (by decide) (fun c241 => ?_) (fun c241 => ?_)
      · skip
        have r_p3 : mh_r p3 (0) (1) := ⟨by have := f_x238.1 (mh_z1 r_x238 c241); have := ((mh_r_full p3)).1; omega, by have := f_x238.1 (mh_z1 r_x238 c241); have := ((mh_r_full p3)).2; omega⟩
        have r_x238 : mh_r x238 (1) (1) := mh_ne1 (show x238.toInt ≠ (0 : Int32).toInt from c241) r_x238 rc_0 (1) (1) (by decide)
        refine mw_iconst (v := 0) 37 rfl dX10_when_36 (by decide) ?_
        refine mw_istore 39 rfl [(4, .int (0)), (0, .ref (G.2.2.2 57)), (1, .int p1), (2, .int p2), (3, .int p3)] dX10_when_37  (by decide) rfl ?_
        refine mw_aload_n 40 rfl 1 dX10_when_39 rfl rfl ?_
        refine mw_iconst (v := 0) 41 rfl dX10_when_40 (by decide) ?_
        refine mw_iload_n 42 rfl 2 dX10_when_41 rfl rfl ?_
        refine mw_iload_n 43 rfl 3 dX10_when_42 rfl rfl ?_
        refine mw_callVi [.int (0), .int p1, .int p2] [] 46 rfl dX10_when_43 ml_X10_452 mc_X10_costWhen mk_X10_costWhen rfl rfl (by decide) (w_X10_costWhen l G (d + 0) ⟨by omega, by omega⟩ hI0 (0) p1 p2) rfl rfl (Nat.le_of_ble_eq_true rfl) (mh_rok (by omega) (by decide)) (fun x242 s243 q244 => ?_)
        obtain ⟨r_x242, rfl⟩ := q244
        refine mw_istore 48 rfl [(5, .int x242), (4, .int (0)), (0, .ref (G.2.2.2 57)), (1, .int p1), (2, .int p2), (3, .int p3)] dX10_when_46  (by decide) rfl ?_
        refine mw_iconst (v := 1) 49 rfl dX10_when_48 (by decide) ?_
        refine mw_istore 51 rfl [(6, .int (1)), (5, .int x242), (4, .int (0)), (0, .ref (G.2.2.2 57)), (1, .int p1), (2, .int p2), (3, .int p3)] dX10_when_49  (by decide) rfl ?_
        have L51 : ∀ n1 : Nat, ∀ (x422 : Int32) (x423 : Int32) (x424 : Int32), mh_r x422 (1) (1000) → mh_r x424 (0) (999) → (1000) - x422.toInt < (n1 : Int) → mh_W G (mh_XM l G (d + 1) (mh_Qi (P_X10_when B D s0 p1 p2 p3))) mM_X10_when 51 [(0, .ref (G.2.2.2 57)), (1, .int p1), (2, .int p2), (3, .int p3), (4, .int x424), (5, .int x423), (6, .int x422)] [] s0 := by
          intro n1
          induction n1 with
          | zero =>
            intro x422 x423 x424 r_x422 r_x424 hmn1
            exact absurd hmn1 (by have := r_x422.1; have := r_x422.2; omega)
          | succ n1 ihn1 =>
            intro x422 x423 x424 r_x422 r_x424 hmn1
            refine mw_iload 53 rfl 6 dX10_when_51  rfl ?_
            refine mw_sipush (v := 1000) 56 rfl dX10_when_53 (by decide) ?_
            refine mw_icmp_ge 59 rfl 93 dX10_when_56 (by decide) (fun c437 => ?_) (fun c437 => ?_)
            · skip
              have r_x422 : mh_r x422 (1000) (1000) := mh_le2 c437 rc_1000 r_x422 (1000) (by decide)
              refine mw_iload_n 94 rfl 3 dX10_when_93 rfl rfl ?_
              refine mw_if_ne 97 rfl 102 dX10_when_94 (by decide) (fun c438 => ?_) (fun c438 => ?_)
              · skip
                have r_p3 : mh_r p3 (1) (1) := mh_ne1 (show p3.toInt ≠ (0 : Int32).toInt from c438) r_p3 rc_0 (1) (1) (by decide)
                refine mw_iload 104 rfl 5 dX10_when_102  rfl ?_
                exact mw_iret dX10_when_104 rfl ⟨x423, rfl, ⟨(mh_r_full x423), rfl⟩⟩
              · skip
                have r_p3 : mh_r p3 (0) (0) := mh_eq1 (show p3.toInt = (0 : Int32).toInt from c438) r_p3 rc_0 (0) (0) (by decide)
                refine mw_iload 99 rfl 4 dX10_when_97  rfl ?_
                refine mw_goto 102 rfl 104 dX10_when_99 (by decide) ?_
                exact mw_iret dX10_when_104 rfl ⟨x424, rfl, ⟨(mh_r_wk r_x424 (by decide)), rfl⟩⟩
            · skip
              have r_x422 : mh_r x422 (1) (999) := mh_lt1 c437 r_x422 rc_1000 (999) (by decide)
              refine mw_aload_n 60 rfl 0 dX10_when_59 rfl rfl ?_
              refine mw_iload 62 rfl 6 dX10_when_60  rfl ?_
              refine mw_iload_n 63 rfl 1 dX10_when_62 rfl rfl ?_
              refine mw_iload_n 64 rfl 2 dX10_when_63 rfl rfl ?_
              refine mw_callVi [.int x422, .int p1, .int p2] [] 67 rfl dX10_when_64 ml_X10_452 mc_X10_costWhen mk_X10_costWhen rfl rfl (by decide) (w_X10_costWhen l G (d + 0) ⟨by omega, by omega⟩ hI0 x422 p1 p2) rfl rfl (Nat.le_of_ble_eq_true rfl) (mh_rok (by omega) (by decide)) (fun x439 s440 q441 => ?_)
              obtain ⟨r_x439, rfl⟩ := q441
              refine mw_istore 69 rfl [(7, .int x439), (0, .ref (G.2.2.2 57)), (1, .int p1), (2, .int p2), (3, .int p3), (4, .int x424), (5, .int x423), (6, .int x422)] dX10_when_67  (by decide) rfl ?_
              refine mw_iload 71 rfl 0 dX10_when_69  rfl ?_
              refine mw_iload 73 rfl 6 dX10_when_71  rfl ?_
              have J87 : ∀ (x443 : Int32) (x444 : Int32), mh_r x444 (0) (999) → mh_W G (mh_XM l G (d + 1) (mh_Qi (P_X10_when B D s0 p1 p2 p3))) mM_X10_when 87 [(0, .ref (G.2.2.2 57)), (1, .int p1), (2, .int p2), (3, .int p3), (4, .int x444), (5, .int x443), (6, .int x422), (7, .int x439)] [] s0 := by
                intro x443 x444 r_x444
                refine mw_iincR (k := 6) (2) (1000) 90 rfl (fun z => [(6, .int z), (0, .ref (G.2.2.2 57)), (1, .int p1), (2, .int p2), (3, .int p3), (4, .int x444), (5, .int x443), (7, .int x439)]) dX10_when_87 rfl (by decide) (fun _ => rfl) r_x422 (by decide) (by decide) (fun x447 t448 r_x447 => ?_)
                refine mw_goto 93 rfl 51 dX10_when_90 (by decide) ?_
                exact mw_lv [1, 2, 3, 4, 5, 6, 0] rfl (ihn1 x447 x443 x444 (mh_r_wk r_x447 (by decide)) r_x444 (by have : x447.toInt = x422.toInt + (1) := t448; omega))
              refine mw_icmp_lt 76 rfl 79 dX10_when_73 (by decide) (fun c449 => ?_) (fun c449 => ?_)
              · skip
                have r_x439 : mh_r x439 (-2147483648) (2147483646) := mh_lt1 c449 r_x439 (mh_r_full x423) (2147483646) (by decide)
                have r_x423 : mh_r x423 (-2147483647) (2147483647) := mh_lt2 c449 r_x439 (mh_r_full x423) (-2147483647) (by decide)
                refine mw_iload 81 rfl 7 dX10_when_79  rfl ?_
                refine mw_istore 83 rfl [(4, .int x422), (7, .int x439), (0, .ref (G.2.2.2 57)), (1, .int p1), (2, .int p2), (3, .int p3), (5, .int x423), (6, .int x422)] dX10_when_81  (by decide) rfl ?_
                refine mw_iload 85 rfl 1 dX10_when_83  rfl ?_
                refine mw_istore 87 rfl [(5, .int x439), (4, .int x422), (7, .int x439), (0, .ref (G.2.2.2 57)), (1, .int p1), (2, .int p2), (3, .int p3), (6, .int x422)] dX10_when_85  (by decide) rfl ?_
                exact mw_lv [3, 4, 5, 6, 1, 0, 7, 2] rfl (J87 x439 x422 (mh_r_wk r_x422 (by decide)))
              · skip
                refine mw_goto 79 rfl 87 dX10_when_76 (by decide) ?_
                exact mw_lv [1, 2, 3, 4, 5, 6, 7, 0] rfl (J87 x423 x424 r_x424)
        exact mw_lv [3, 4, 5, 6, 2, 1, 0] rfl (L51 1000 (1) x242 (0) (mh_r_wk rc_1 (by decide)) (mh_r_wk rc_0 (by decide)) (by have := (rc_1).1; have := (rc_1).2; omega))
      · skip
        have r_x238 : mh_r x238 (0) (0) := mh_eq1 (show x238.toInt = (0 : Int32).toInt from c241) r_x238 rc_0 (0) (0) (by decide)
        refine mw_iconst (v := -1) 35 rfl dX10_when_34 (by decide) ?_
        exact mw_iret dX10_when_35 rfl ⟨(-1), rfl, ⟨(mh_r_wk rc_m1 (by decide)), rfl⟩⟩

def S_X10_lid : List (Nat × Nat) := [(100, 9999), (101, 9999)]
def P_X10_lid (B D : Int) (s0 : mh_H) (p1 : Int32) (p2 : Int32) (p3 : Int32) (p4 : Int32) : Int64 → mh_H → Prop := fun z s => mh_I B D s ∧ mh_F S_X10_lid s0 s
set_option maxRecDepth 100000 in
set_option maxHeartbeats 4000000 in
theorem w_X10_lid (l : Launch) (G : mh_G) (d : Nat) {B D : Int} (hB : B ≤ 1980000000 ∧ D ≤ 1980000000) {s0 : mh_H} (hI0 : mh_I B D s0) (p1 : Int32) (p2 : Int32) (p3 : Int32) (p4 : Int32) : mh_Ml l G (d + 1) mM_X10_lid [.ref (G.2.2.2 57), .int p1, .int p2, .int p3, .int p4] s0 (P_X10_lid B D s0 p1 p2 p3 p4) := by
  refine mh_enter (lv := [(0, .ref (G.2.2.2 57)), (1, .int p1), (2, .int p2), (3, .int p3), (4, .int p4)]) (by decide) rfl (Nat.le_of_ble_eq_true rfl) ?_
  have hF0 : mh_F S_X10_lid s0 s0 := mh_F_rf
  refine mw_iload_n 1 rfl 1 dX10_lid_0 rfl rfl ?_
  refine mw_i2l 2 rfl dX10_lid_1 (fun y6094 t6095 => ?_)
  refine mw_lconst (v := 1) 3 rfl dX10_lid_2 (by decide) ?_
  refine mw_ldc2 6 rfl dX10_lid_3 ck_X10_293 ?_
  refine mw_callSi [.long y6094, .long (1), .long (200)] [] 9 rfl dX10_lid_6 ml_X10_154 mc_X10_lies mk_X10_lies (w_X10_lies l G (d + 0) ⟨by omega, by omega⟩ hI0 y6094 (1) (200)) rfl rfl (Nat.le_of_ble_eq_true rfl) (mh_rok (by omega) (by decide)) (fun x6096 s6097 q6098 => ?_)
  obtain ⟨r_x6096, e0_s6097, rfl⟩ := q6098
  have f_x6096 : x6096.toInt = 1 ↔ (1 ≤ p1.toInt ∧ p1.toInt ≤ 200) := by rw [e0_s6097]; exact by simp only [t6095, Int32.toInt_toInt64]; first | done | exact Iff.rfl
  refine mw_if_eq 12 rfl 47 dX10_lid_9 (by decide) (fun c6099 => ?_) (fun c6099 => ?_)
  · skip
    have r_x6096 : mh_r x6096 (0) (0) := mh_eq1 (show x6096.toInt = (0 : Int32).toInt from c6099) r_x6096 rc_0 (0) (0) (by decide)
    refine mw_ldc2 50 rfl dX10_lid_47 ck_X10_457 ?_
    exact mw_lret dX10_lid_50 rfl ⟨(-1), rfl, ⟨hI0, hF0⟩⟩
  · skip
    have r_p1 : mh_r p1 (1) (200) := ⟨by have := f_x6096.1 (mh_z1 r_x6096 c6099); have := ((mh_r_full p1)).1; omega, by have := f_x6096.1 (mh_z1 r_x6096 c6099); have := ((mh_r_full p1)).2; omega⟩
    have r_x6096 : mh_r x6096 (1) (1) := mh_ne1 (show x6096.toInt ≠ (0 : Int32).toInt from c6099) r_x6096 rc_0 (1) (1) (by decide)
    refine mw_iload_n 13 rfl 2 dX10_lid_12 rfl rfl ?_
    refine mw_i2l 14 rfl dX10_lid_13 (fun y6100 t6101 => ?_)
    refine mw_lconst (v := 1) 15 rfl dX10_lid_14 (by decide) ?_
    refine mw_ldc2 18 rfl dX10_lid_15 ck_X10_455 ?_
    refine mw_callSi [.long y6100, .long (1), .long (12)] [] 21 rfl dX10_lid_18 ml_X10_154 mc_X10_lies mk_X10_lies (w_X10_lies l G (d + 0) ⟨by omega, by omega⟩ hI0 y6100 (1) (12)) rfl rfl (Nat.le_of_ble_eq_true rfl) (mh_rok (by omega) (by decide)) (fun x6102 s6103 q6104 => ?_)
    obtain ⟨r_x6102, e0_s6103, rfl⟩ := q6104
    have f_x6102 : x6102.toInt = 1 ↔ (1 ≤ p2.toInt ∧ p2.toInt ≤ 12) := by rw [e0_s6103]; exact by simp only [t6101, Int32.toInt_toInt64]; first | done | exact Iff.rfl
    refine mw_if_eq 24 rfl 47 dX10_lid_21 (by decide) (fun c6105 => ?_) (fun c6105 => ?_)
    · skip
      have r_x6102 : mh_r x6102 (0) (0) := mh_eq1 (show x6102.toInt = (0 : Int32).toInt from c6105) r_x6102 rc_0 (0) (0) (by decide)
      refine mw_ldc2 50 rfl dX10_lid_47 ck_X10_457 ?_
      exact mw_lret dX10_lid_50 rfl ⟨(-1), rfl, ⟨hI0, hF0⟩⟩
    · skip
      have r_p2 : mh_r p2 (1) (12) := ⟨by have := f_x6102.1 (mh_z1 r_x6102 c6105); have := ((mh_r_full p2)).1; omega, by have := f_x6102.1 (mh_z1 r_x6102 c6105); have := ((mh_r_full p2)).2; omega⟩
      have r_x6102 : mh_r x6102 (1) (1) := mh_ne1 (show x6102.toInt ≠ (0 : Int32).toInt from c6105) r_x6102 rc_0 (1) (1) (by decide)
      refine mw_iload_n 25 rfl 3 dX10_lid_24 rfl rfl ?_
      refine mw_i2l 26 rfl dX10_lid_25 (fun y6106 t6107 => ?_)
      refine mw_lconst (v := 1) 27 rfl dX10_lid_26 (by decide) ?_
      refine mw_ldc2 30 rfl dX10_lid_27 ck_X10_179 ?_
      refine mw_callSi [.long y6106, .long (1), .long (9)] [] 33 rfl dX10_lid_30 ml_X10_154 mc_X10_lies mk_X10_lies (w_X10_lies l G (d + 0) ⟨by omega, by omega⟩ hI0 y6106 (1) (9)) rfl rfl (Nat.le_of_ble_eq_true rfl) (mh_rok (by omega) (by decide)) (fun x6108 s6109 q6110 => ?_)
      obtain ⟨r_x6108, e0_s6109, rfl⟩ := q6110
      have f_x6108 : x6108.toInt = 1 ↔ (1 ≤ p3.toInt ∧ p3.toInt ≤ 9) := by rw [e0_s6109]; exact by simp only [t6107, Int32.toInt_toInt64]; first | done | exact Iff.rfl
      refine mw_if_eq 36 rfl 47 dX10_lid_33 (by decide) (fun c6111 => ?_) (fun c6111 => ?_)
      · skip
        have r_x6108 : mh_r x6108 (0) (0) := mh_eq1 (show x6108.toInt = (0 : Int32).toInt from c6111) r_x6108 rc_0 (0) (0) (by decide)
        refine mw_ldc2 50 rfl dX10_lid_47 ck_X10_457 ?_
        exact mw_lret dX10_lid_50 rfl ⟨(-1), rfl, ⟨hI0, hF0⟩⟩
      · skip
        have r_p3 : mh_r p3 (1) (9) := ⟨by have := f_x6108.1 (mh_z1 r_x6108 c6111); have := ((mh_r_full p3)).1; omega, by have := f_x6108.1 (mh_z1 r_x6108 c6111); have := ((mh_r_full p3)).2; omega⟩
        have r_x6108 : mh_r x6108 (1) (1) := mh_ne1 (show x6108.toInt ≠ (0 : Int32).toInt from c6111) r_x6108 rc_0 (1) (1) (by decide)
        refine mw_iload 38 rfl 4 dX10_lid_36  rfl ?_
        refine mw_i2l 39 rfl dX10_lid_38 (fun y6112 t6113 => ?_)
        refine mw_lconst (v := 0) 40 rfl dX10_lid_39 (by decide) ?_
        refine mw_lconst (v := 1) 41 rfl dX10_lid_40 (by decide) ?_
        refine mw_callSi [.long y6112, .long (0), .long (1)] [] 44 rfl dX10_lid_41 ml_X10_154 mc_X10_lies mk_X10_lies (w_X10_lies l G (d + 0) ⟨by omega, by omega⟩ hI0 y6112 (0) (1)) rfl rfl (Nat.le_of_ble_eq_true rfl) (mh_rok (by omega) (by decide)) (fun x6114 s6115 q6116 => ?_)
        obtain ⟨r_x6114, e0_s6115, rfl⟩ := q6116
        have f_x6114 : x6114.toInt = 1 ↔ (0 ≤ p4.toInt ∧ p4.toInt ≤ 1) := by rw [e0_s6115]; exact by simp only [t6113, Int32.toInt_toInt64]; first | done | exact Iff.rfl
        refine mw_if_ne 47 rfl 51 dX10_lid_44 (by decide) (fun c6117 => ?_) (fun c6117 => ?_)
        · skip
          have r_p4 : mh_r p4 (0) (1) := ⟨by have := f_x6114.1 (mh_z1 r_x6114 c6117); have := ((mh_r_full p4)).1; omega, by have := f_x6114.1 (mh_z1 r_x6114 c6117); have := ((mh_r_full p4)).2; omega⟩
          have r_x6114 : mh_r x6114 (1) (1) := mh_ne1 (show x6114.toInt ≠ (0 : Int32).toInt from c6117) r_x6114 rc_0 (1) (1) (by decide)
          refine mw_iconst (v := 0) 52 rfl dX10_lid_51 (by decide) ?_
          refine mw_istore 54 rfl [(5, .int (0)), (0, .ref (G.2.2.2 57)), (1, .int p1), (2, .int p2), (3, .int p3), (4, .int p4)] dX10_lid_52  (by decide) rfl ?_
          have L54 : ∀ n1 : Nat, ∀ (x6196 : Int32) (s6197 : mh_H), mh_r x6196 (0) (121) → mh_I B D s6197 → mh_F S_X10_lid s0 s6197 → (121) - x6196.toInt < (n1 : Int) → mh_W G (mh_XM l G (d + 1) (mh_Ql (P_X10_lid B D s0 p1 p2 p3 p4))) mM_X10_lid 54 [(0, .ref (G.2.2.2 57)), (1, .int p1), (2, .int p2), (3, .int p3), (4, .int p4), (5, .int x6196)] [] s6197 := by
            intro n1
            induction n1 with
            | zero =>
              intro x6196 s6197 r_x6196 hI_s6197 hF_s6197 hmn1
              exact absurd hmn1 (by have := r_x6196.1; have := r_x6196.2; omega)
            | succ n1 ihn1 =>
              intro x6196 s6197 r_x6196 hI_s6197 hF_s6197 hmn1
              refine mw_iload 56 rfl 5 dX10_lid_54  rfl ?_
              refine mw_bipush (v := 121) 58 rfl dX10_lid_56 (by decide) ?_
              refine mw_icmp_ge 61 rfl 84 dX10_lid_58 (by decide) (fun c6207 => ?_) (fun c6207 => ?_)
              · skip
                have r_x6196 : mh_r x6196 (121) (121) := mh_le2 c6207 rc_121 r_x6196 (121) (by decide)
                refine mw_lconst (v := 1) 85 rfl dX10_lid_84 (by decide) ?_
                refine mw_lstore 87 rfl [(5, .long (1)), (0, .ref (G.2.2.2 57)), (1, .int p1), (2, .int p2), (3, .int p3), (4, .int p4)] dX10_lid_85  (by decide) rfl ?_
                refine mw_iconst (v := 0) 88 rfl dX10_lid_87 (by decide) ?_
                refine mw_istore 90 rfl [(7, .int (0)), (5, .long (1)), (0, .ref (G.2.2.2 57)), (1, .int p1), (2, .int p2), (3, .int p3), (4, .int p4)] dX10_lid_88  (by decide) rfl ?_
                have L90 : ∀ n2 : Nat, ∀ (x10169 : Int32) (y10170 : Int64) (s10171 : mh_H), mh_r x10169 (0) (14) → mh_I B D s10171 → mh_F S_X10_lid s0 s10171 → (1 ≤ y10170.toInt ∧ y10170.toInt ≤ 10 ^ x10169.toInt.toNat) → (14) - x10169.toInt < (n2 : Int) → mh_W G (mh_XM l G (d + 1) (mh_Ql (P_X10_lid B D s0 p1 p2 p3 p4))) mM_X10_lid 90 [(0, .ref (G.2.2.2 57)), (1, .int p1), (2, .int p2), (3, .int p3), (4, .int p4), (5, .long y10170), (7, .int x10169)] [] s10171 := by
                  intro n2
                  induction n2 with
                  | zero =>
                    intro x10169 y10170 s10171 r_x10169 hI_s10171 hF_s10171 iv hmn2
                    exact absurd hmn2 (by have := r_x10169.1; have := r_x10169.2; omega)
                  | succ n2 ihn2 =>
                    intro x10169 y10170 s10171 r_x10169 hI_s10171 hF_s10171 iv hmn2
                    refine mw_iload 92 rfl 6 dX10_lid_90  rfl ?_
                    refine mw_iload_n 93 rfl 2 dX10_lid_92 rfl rfl ?_
                    refine mw_icmp_ge 96 rfl 207 dX10_lid_93 (by decide) (fun c11163 => ?_) (fun c11163 => ?_)
                    · skip
                      have r_x10169 : mh_r x10169 (1) (14) := mh_le2 c11163 r_p2 r_x10169 (1) (by decide)
                      refine mw_lconst (v := 0) 208 rfl dX10_lid_207 (by decide) ?_
                      refine mw_lstore 210 rfl [(7, .long (0)), (0, .ref (G.2.2.2 57)), (1, .int p1), (2, .int p2), (3, .int p3), (4, .int p4), (5, .long y10170)] dX10_lid_208  (by decide) rfl ?_
                      refine mw_iload_n 211 rfl 2 dX10_lid_210 rfl rfl ?_
                      refine mw_istore 213 rfl [(9, .int p1), (7, .long (0)), (0, .ref (G.2.2.2 57)), (1, .int p1), (2, .int p2), (3, .int p3), (4, .int p4), (5, .long y10170)] dX10_lid_211  (by decide) rfl ?_
                      have L213 : ∀ n3 : Nat, ∀ (x11170 : Int32) (y11171 : Int64), mh_r x11170 (1) (200) → (200) - x11170.toInt < (n3 : Int) → mh_W G (mh_XM l G (d + 1) (mh_Ql (P_X10_lid B D s0 p1 p2 p3 p4))) mM_X10_lid 213 [(0, .ref (G.2.2.2 57)), (1, .int p1), (2, .int p2), (3, .int p3), (4, .int p4), (5, .long y10170), (7, .long y11171), (9, .int x11170)] [] s10171 := by
                        intro n3
                        induction n3 with
                        | zero =>
                          intro x11170 y11171 r_x11170 hmn3
                          exact absurd hmn3 (by have := r_x11170.1; have := r_x11170.2; omega)
                        | succ n3 ihn3 =>
                          intro x11170 y11171 r_x11170 hmn3
                          refine mw_iload 215 rfl 7 dX10_lid_213  rfl ?_
                          refine mw_bipush (v := 121) 217 rfl dX10_lid_215 (by decide) ?_
                          refine mw_icmp_ge 220 rfl 238 dX10_lid_217 (by decide) (fun c11180 => ?_) (fun c11180 => ?_)
                          · skip
                            have r_x11170 : mh_r x11170 (121) (200) := mh_le2 c11180 rc_121 r_x11170 (121) (by decide)
                            refine mw_lload 240 rfl 6 dX10_lid_238  rfl ?_
                            refine mw_lload 242 rfl 5 dX10_lid_240  rfl ?_
                            refine mw_callSl [.long y11171, .long y10170] [] 245 rfl dX10_lid_242 ml_X10_448 mc_X10_divisor mk_X10_divisor (w_X10_divisor l G (d + 0) ⟨by omega, by omega⟩ hI_s10171 y11171 y10170) rfl rfl (Nat.le_of_ble_eq_true rfl) (mh_rok (by omega) (by decide)) (fun y11181 s11182 q11183 => ?_)
                            obtain ⟨e0_s11182, e1_s11182, rfl⟩ := q11183
                            refine mw_lstore 247 rfl [(9, .long y11181), (0, .ref (G.2.2.2 57)), (1, .int p1), (2, .int p2), (3, .int p3), (4, .int p4), (5, .long y10170), (7, .long y11171)] dX10_lid_245  (by decide) rfl ?_
                            refine mw_iload 249 rfl 5 dX10_lid_247  rfl ?_
                            refine mw_if_ne 252 rfl 260 dX10_lid_249 (by decide) (fun c11184 => ?_) (fun c11184 => ?_)
                            · skip
                              have r_p4 : mh_r p4 (1) (1) := mh_ne1 (show p4.toInt ≠ (0 : Int32).toInt from c11184) r_p4 rc_0 (1) (1) (by decide)
                              refine mw_lload 262 rfl 6 dX10_lid_260  rfl ?_
                              refine mw_lload 264 rfl 0 dX10_lid_262  rfl ?_
                              refine mw_ldiv 265 rfl dX10_lid_264 (mh_lnz (mh_gnz e0_s11182 iv.1)) (fun y11185 t11186 => ?_)
                              exact mw_lret dX10_lid_265 rfl ⟨y11185, rfl, ⟨hI_s10171, hF_s10171⟩⟩
                            · skip
                              have r_p4 : mh_r p4 (0) (0) := mh_eq1 (show p4.toInt = (0 : Int32).toInt from c11184) r_p4 rc_0 (0) (0) (by decide)
                              refine mw_lload 254 rfl 7 dX10_lid_252  rfl ?_
                              refine mw_lload 256 rfl 0 dX10_lid_254  rfl ?_
                              refine mw_ldiv 257 rfl dX10_lid_256 (mh_lnz (mh_gnz e0_s11182 iv.1)) (fun y11187 t11188 => ?_)
                              refine mw_goto 260 rfl 265 dX10_lid_257 (by decide) ?_
                              exact mw_lret dX10_lid_265 rfl ⟨y11187, rfl, ⟨hI_s10171, hF_s10171⟩⟩
                          · skip
                            have r_x11170 : mh_r x11170 (1) (120) := mh_lt1 c11180 r_x11170 rc_121 (120) (by decide)
                            refine mw_lload 222 rfl 6 dX10_lid_220  rfl ?_
                            refine mw_aload_n 223 rfl 0 dX10_lid_222 rfl rfl ?_
                            refine mw_geta 226 rfl dX10_lid_223 gf_X10_143 rfl 100 (mh_rf hI_s10171 97 rfl) ?_
                            refine mw_iload 228 rfl 7 dX10_lid_226  rfl ?_
                            refine mw_lald 229 rfl dX10_lid_228 rfl r_x11170 (by decide) (fun y11189 _ => ?_)
                            refine mw_ladd 230 rfl dX10_lid_229 (fun y11190 t11191 => ?_)
                            refine mw_lstore 232 rfl [(7, .long y11190), (0, .ref (G.2.2.2 57)), (1, .int p1), (2, .int p2), (3, .int p3), (4, .int p4), (5, .long y10170), (9, .int x11170)] dX10_lid_230  (by decide) rfl ?_
                            refine mw_iincR (k := 7) (2) (121) 235 rfl (fun z => [(9, .int z), (7, .long y11190), (0, .ref (G.2.2.2 57)), (1, .int p1), (2, .int p2), (3, .int p3), (4, .int p4), (5, .long y10170)]) dX10_lid_232 rfl (by decide) (fun _ => rfl) r_x11170 (by decide) (by decide) (fun x11192 t11193 r_x11192 => ?_)
                            refine mw_goto 238 rfl 213 dX10_lid_235 (by decide) ?_
                            exact mw_lv [2, 3, 4, 5, 6, 7, 1, 0] rfl (ihn3 x11192 y11190 (mh_r_wk r_x11192 (by decide)) (by have : x11192.toInt = x11170.toInt + (1) := t11193; omega))
                      exact mw_lv [2, 3, 4, 5, 6, 7, 1, 0] rfl (L213 200 p1 (0) r_p1 (by have := (r_p1).1; have := (r_p1).2; omega))
                    · skip
                      have r_x10169 : mh_r x10169 (0) (11) := mh_lt1 c11163 r_x10169 r_p2 (11) (by decide)
                      refine mw_iconst (v := 0) 97 rfl dX10_lid_96 (by decide) ?_
                      refine mw_istore 99 rfl [(8, .int (0)), (0, .ref (G.2.2.2 57)), (1, .int p1), (2, .int p2), (3, .int p3), (4, .int p4), (5, .long y10170), (7, .int x10169)] dX10_lid_97  (by decide) rfl ?_
                      have L99 : ∀ n4 : Nat, ∀ (x11909 : Int32) (s11910 : mh_H), mh_r x11909 (0) (121) → mh_I B D s11910 → mh_F S_X10_lid s0 s11910 → (121) - x11909.toInt < (n4 : Int) → mh_W G (mh_XM l G (d + 1) (mh_Ql (P_X10_lid B D s0 p1 p2 p3 p4))) mM_X10_lid 99 [(0, .ref (G.2.2.2 57)), (1, .int p1), (2, .int p2), (3, .int p3), (4, .int p4), (5, .long y10170), (7, .int x10169), (8, .int x11909)] [] s11910 := by
                        intro n4
                        induction n4 with
                        | zero =>
                          intro x11909 s11910 r_x11909 hI_s11910 hF_s11910 hmn4
                          exact absurd hmn4 (by have := r_x11909.1; have := r_x11909.2; omega)
                        | succ n4 ihn4 =>
                          intro x11909 s11910 r_x11909 hI_s11910 hF_s11910 hmn4
                          refine mw_iload 101 rfl 7 dX10_lid_99  rfl ?_
                          refine mw_bipush (v := 121) 103 rfl dX10_lid_101 (by decide) ?_
                          refine mw_icmp_ge 106 rfl 162 dX10_lid_103 (by decide) (fun c12000 => ?_) (fun c12000 => ?_)
                          · skip
                            have r_x11909 : mh_r x11909 (121) (121) := mh_le2 c12000 rc_121 r_x11909 (121) (by decide)
                            refine mw_iconst (v := 0) 163 rfl dX10_lid_162 (by decide) ?_
                            refine mw_istore 165 rfl [(8, .int (0)), (0, .ref (G.2.2.2 57)), (1, .int p1), (2, .int p2), (3, .int p3), (4, .int p4), (5, .long y10170), (7, .int x10169)] dX10_lid_163  (by decide) rfl ?_
                            have L165 : ∀ n5 : Nat, ∀ (x12071 : Int32) (s12072 : mh_H), mh_r x12071 (0) (121) → mh_I B D s12072 → mh_F S_X10_lid s0 s12072 → (121) - x12071.toInt < (n5 : Int) → mh_W G (mh_XM l G (d + 1) (mh_Ql (P_X10_lid B D s0 p1 p2 p3 p4))) mM_X10_lid 165 [(0, .ref (G.2.2.2 57)), (1, .int p1), (2, .int p2), (3, .int p3), (4, .int p4), (5, .long y10170), (7, .int x10169), (8, .int x12071)] [] s12072 := by
                              intro n5
                              induction n5 with
                              | zero =>
                                intro x12071 s12072 r_x12071 hI_s12072 hF_s12072 hmn5
                                exact absurd hmn5 (by have := r_x12071.1; have := r_x12071.2; omega)
                              | succ n5 ihn5 =>
                                intro x12071 s12072 r_x12071 hI_s12072 hF_s12072 hmn5
                                refine mw_iload 167 rfl 7 dX10_lid_165  rfl ?_
                                refine mw_bipush (v := 121) 169 rfl dX10_lid_167 (by decide) ?_
                                refine mw_icmp_ge 172 rfl 192 dX10_lid_169 (by decide) (fun c12081 => ?_) (fun c12081 => ?_)
                                · skip
                                  have r_x12071 : mh_r x12071 (121) (121) := mh_le2 c12081 rc_121 r_x12071 (121) (by decide)
                                  refine mw_lload 194 rfl 5 dX10_lid_192  rfl ?_
                                  refine mw_iload_n 195 rfl 3 dX10_lid_194 rfl rfl ?_
                                  refine mw_iconst (v := 1) 196 rfl dX10_lid_195 (by decide) ?_
                                  refine mw_iadd 197 rfl (2) (10) dX10_lid_196 r_p3 rc_1 (by decide) (fun x12082 t12083 r_x12082 => ?_)
                                  refine mw_i2l 198 rfl dX10_lid_197 (fun y12084 t12085 => ?_)
                                  refine mw_lmul 199 rfl dX10_lid_198 (fun y12086 t12087 => ?_)
                                  refine mw_lstore 201 rfl [(5, .long y12086), (0, .ref (G.2.2.2 57)), (1, .int p1), (2, .int p2), (3, .int p3), (4, .int p4), (7, .int x10169), (8, .int x12071)] dX10_lid_199  (by decide) rfl ?_
                                  refine mw_iincR (k := 6) (1) (12) 204 rfl (fun z => [(7, .int z), (5, .long y12086), (0, .ref (G.2.2.2 57)), (1, .int p1), (2, .int p2), (3, .int p3), (4, .int p4), (8, .int x12071)]) dX10_lid_201 rfl (by decide) (fun _ => rfl) r_x10169 (by decide) (by decide) (fun x12088 t12089 r_x12088 => ?_)
                                  refine mw_goto 207 rfl 90 dX10_lid_204 (by decide) ?_
                                  exact mw_lv [2, 3, 4, 5, 6, 1, 0] rfl (ihn2 x12088 y12086 s12072 (mh_r_wk r_x12088 (by decide)) hI_s12072 hF_s12072 (by
                                      exact mh_allst t12087 t12085 iv (mh_r_wk r_x12082 (by decide)) (mh_r_wk r_x10169 (by decide)) t12089) (by have : x12088.toInt = x10169.toInt + (1) := t12089; omega))
                                · skip
                                  have r_x12071 : mh_r x12071 (0) (120) := mh_lt1 c12081 r_x12071 rc_121 (120) (by decide)
                                  refine mw_aload_n 173 rfl 0 dX10_lid_172 rfl rfl ?_
                                  refine mw_geta 176 rfl dX10_lid_173 gf_X10_143 rfl 100 (mh_rf hI_s12072 97 rfl) ?_
                                  refine mw_iload 178 rfl 7 dX10_lid_176  rfl ?_
                                  refine mw_aload_n 179 rfl 0 dX10_lid_178 rfl rfl ?_
                                  refine mw_geta 182 rfl dX10_lid_179 gf_X10_146 rfl 101 (mh_rf hI_s12072 98 rfl) ?_
                                  refine mw_iload 184 rfl 7 dX10_lid_182  rfl ?_
                                  refine mw_lald 185 rfl dX10_lid_184 rfl r_x12071 (by decide) (fun y12090 _ => ?_)
                                  refine mw_last 186 rfl dX10_lid_185 rfl r_x12071 (by decide) (fun s12091 t12092 => ?_)
                                  have hI_s12091 : mh_I B D s12091 := by rw [t12092]; exact mh_I_pL hI_s12072
                                  have hF_s12091 : mh_F S_X10_lid s0 s12091 := by rw [t12092]; exact mh_F_pL hF_s12072 (mh_si 0 rfl)
                                  refine mw_iincR (k := 7) (1) (121) 189 rfl (fun z => [(8, .int z), (0, .ref (G.2.2.2 57)), (1, .int p1), (2, .int p2), (3, .int p3), (4, .int p4), (5, .long y10170), (7, .int x10169)]) dX10_lid_186 rfl (by decide) (fun _ => rfl) r_x12071 (by decide) (by decide) (fun x12093 t12094 r_x12093 => ?_)
                                  refine mw_goto 192 rfl 165 dX10_lid_189 (by decide) ?_
                                  exact mw_lv [1, 2, 3, 4, 5, 6, 7, 0] rfl (ihn5 x12093 s12091 (mh_r_wk r_x12093 (by decide)) hI_s12091 hF_s12091 (by have : x12093.toInt = x12071.toInt + (1) := t12094; omega))
                            exact mw_lv [1, 2, 3, 4, 5, 6, 7, 0] rfl (L165 122 (0) s11910 (mh_r_wk rc_0 (by decide)) hI_s11910 hF_s11910 (by have := (rc_0).1; have := (rc_0).2; omega))
                          · skip
                            have r_x11909 : mh_r x11909 (0) (120) := mh_lt1 c12000 r_x11909 rc_121 (120) (by decide)
                            refine mw_aload_n 107 rfl 0 dX10_lid_106 rfl rfl ?_
                            refine mw_geta 110 rfl dX10_lid_107 gf_X10_146 rfl 101 (mh_rf hI_s11910 98 rfl) ?_
                            refine mw_iload 112 rfl 7 dX10_lid_110  rfl ?_
                            refine mw_lconst (v := 0) 113 rfl dX10_lid_112 (by decide) ?_
                            refine mw_last 114 rfl dX10_lid_113 rfl r_x11909 (by decide) (fun s12095 t12096 => ?_)
                            have hI_s12095 : mh_I B D s12095 := by rw [t12096]; exact mh_I_pL hI_s11910
                            have hF_s12095 : mh_F S_X10_lid s0 s12095 := by rw [t12096]; exact mh_F_pL hF_s11910 (mh_si 1 rfl)
                            refine mw_iconst (v := 0) 115 rfl dX10_lid_114 (by decide) ?_
                            refine mw_istore 117 rfl [(9, .int (0)), (0, .ref (G.2.2.2 57)), (1, .int p1), (2, .int p2), (3, .int p3), (4, .int p4), (5, .long y10170), (7, .int x10169), (8, .int x11909)] dX10_lid_115  (by decide) rfl ?_
                            have L117 : ∀ n6 : Nat, ∀ (x12151 : Int32) (s12152 : mh_H), mh_r x12151 (0) (14) → mh_I B D s12152 → mh_F S_X10_lid s0 s12152 → (14) - x12151.toInt < (n6 : Int) → mh_W G (mh_XM l G (d + 1) (mh_Ql (P_X10_lid B D s0 p1 p2 p3 p4))) mM_X10_lid 117 [(0, .ref (G.2.2.2 57)), (1, .int p1), (2, .int p2), (3, .int p3), (4, .int p4), (5, .long y10170), (7, .int x10169), (8, .int x11909), (9, .int x12151)] [] s12152 := by
                              intro n6
                              induction n6 with
                              | zero =>
                                intro x12151 s12152 r_x12151 hI_s12152 hF_s12152 hmn6
                                exact absurd hmn6 (by have := r_x12151.1; have := r_x12151.2; omega)
                              | succ n6 ihn6 =>
                                intro x12151 s12152 r_x12151 hI_s12152 hF_s12152 hmn6
                                refine mw_iload 119 rfl 8 dX10_lid_117  rfl ?_
                                refine mw_iload_n 120 rfl 3 dX10_lid_119 rfl rfl ?_
                                have J156 : mh_W G (mh_XM l G (d + 1) (mh_Ql (P_X10_lid B D s0 p1 p2 p3 p4))) mM_X10_lid 156 [(0, .ref (G.2.2.2 57)), (1, .int p1), (2, .int p2), (3, .int p3), (4, .int p4), (5, .long y10170), (7, .int x10169), (8, .int x11909), (9, .int x12151)] [] s12152 := by
                                  skip
                                  refine mw_iincR (k := 7) (1) (121) 159 rfl (fun z => [(8, .int z), (0, .ref (G.2.2.2 57)), (1, .int p1), (2, .int p2), (3, .int p3), (4, .int p4), (5, .long y10170), (7, .int x10169), (9, .int x12151)]) dX10_lid_156 rfl (by decide) (fun _ => rfl) r_x11909 (by decide) (by decide) (fun x12181 t12182 r_x12181 => ?_)
                                  refine mw_goto 162 rfl 99 dX10_lid_159 (by decide) ?_
                                  exact mw_lv [1, 2, 3, 4, 5, 6, 7, 0] rfl (ihn4 x12181 s12152 (mh_r_wk r_x12181 (by decide)) hI_s12152 hF_s12152 (by have : x12181.toInt = x11909.toInt + (1) := t12182; omega))
                                refine mw_icmp_gt 123 rfl 156 dX10_lid_120 (by decide) (fun c12183 => ?_) (fun c12183 => ?_)
                                · skip
                                  have r_x12151 : mh_r x12151 (2) (14) := mh_lt2 c12183 r_p3 r_x12151 (2) (by decide)
                                  exact mw_lv [0, 1, 2, 3, 4, 5, 6, 7, 8] rfl (J156)
                                · skip
                                  have r_x12151 : mh_r x12151 (0) (9) := mh_le1 c12183 r_x12151 r_p3 (9) (by decide)
                                  refine mw_iload 125 rfl 8 dX10_lid_123  rfl ?_
                                  refine mw_iload 127 rfl 7 dX10_lid_125  rfl ?_
                                  refine mw_icmp_gt 130 rfl 156 dX10_lid_127 (by decide) (fun c12184 => ?_) (fun c12184 => ?_)
                                  · skip
                                    have r_x11909 : mh_r x11909 (0) (8) := mh_lt1 c12184 r_x11909 r_x12151 (8) (by decide)
                                    have r_x12151 : mh_r x12151 (1) (9) := mh_lt2 c12184 r_x11909 r_x12151 (1) (by decide)
                                    exact mw_lv [0, 1, 2, 3, 4, 5, 6, 7, 8] rfl (J156)
                                  · skip
                                    refine mw_aload_n 131 rfl 0 dX10_lid_130 rfl rfl ?_
                                    refine mw_geta 134 rfl dX10_lid_131 gf_X10_146 rfl 101 (mh_rf hI_s12152 98 rfl) ?_
                                    refine mw_iload 136 rfl 7 dX10_lid_134  rfl ?_
                                    refine mw_dup2 137 rfl dX10_lid_136 rfl rfl ?_
                                    refine mw_lald 138 rfl dX10_lid_137 rfl r_x11909 (by decide) (fun y12185 _ => ?_)
                                    refine mw_aload_n 139 rfl 0 dX10_lid_138 rfl rfl ?_
                                    refine mw_geta 142 rfl dX10_lid_139 gf_X10_143 rfl 100 (mh_rf hI_s12152 97 rfl) ?_
                                    refine mw_iload 144 rfl 7 dX10_lid_142  rfl ?_
                                    refine mw_iload 146 rfl 8 dX10_lid_144  rfl ?_
                                    refine mw_isub 147 rfl (-9) (120) dX10_lid_146 r_x11909 r_x12151 (by decide) (fun x12186 t12187 r_x12186 => ?_)
                                    have r_x12186 : mh_r x12186 (0) (120) := ⟨by have := t12187; have := c12184; omega, r_x12186.2⟩
                                    refine mw_lald 148 rfl dX10_lid_147 rfl r_x12186 (by decide) (fun y12188 _ => ?_)
                                    refine mw_ladd 149 rfl dX10_lid_148 (fun y12189 t12190 => ?_)
                                    refine mw_last 150 rfl dX10_lid_149 rfl r_x11909 (by decide) (fun s12191 t12192 => ?_)
                                    have hI_s12191 : mh_I B D s12191 := by rw [t12192]; exact mh_I_pL hI_s12152
                                    have hF_s12191 : mh_F S_X10_lid s0 s12191 := by rw [t12192]; exact mh_F_pL hF_s12152 (mh_si 1 rfl)
                                    refine mw_iincR (k := 8) (1) (10) 153 rfl (fun z => [(9, .int z), (0, .ref (G.2.2.2 57)), (1, .int p1), (2, .int p2), (3, .int p3), (4, .int p4), (5, .long y10170), (7, .int x10169), (8, .int x11909)]) dX10_lid_150 rfl (by decide) (fun _ => rfl) r_x12151 (by decide) (by decide) (fun x12193 t12194 r_x12193 => ?_)
                                    refine mw_goto 156 rfl 117 dX10_lid_153 (by decide) ?_
                                    exact mw_lv [1, 2, 3, 4, 5, 6, 7, 8, 0] rfl (ihn6 x12193 s12191 (mh_r_wk r_x12193 (by decide)) hI_s12191 hF_s12191 (by have : x12193.toInt = x12151.toInt + (1) := t12194; omega))
                            exact mw_lv [1, 2, 3, 4, 5, 6, 7, 8, 0] rfl (L117 15 (0) s12095 (mh_r_wk rc_0 (by decide)) hI_s12095 hF_s12095 (by have := (rc_0).1; have := (rc_0).2; omega))
                      exact mw_lv [1, 2, 3, 4, 5, 6, 7, 0] rfl (L99 122 (0) s10171 (mh_r_wk rc_0 (by decide)) hI_s10171 hF_s10171 (by have := (rc_0).1; have := (rc_0).2; omega))
                exact mw_lv [2, 3, 4, 5, 6, 1, 0] rfl (L90 15 (0) (1) s6197 (mh_r_wk rc_0 (by decide)) hI_s6197 hF_s6197 (by
                    decide) (by have := (rc_0).1; have := (rc_0).2; omega))
              · skip
                have r_x6196 : mh_r x6196 (0) (120) := mh_lt1 c6207 r_x6196 rc_121 (120) (by decide)
                refine mw_aload_n 62 rfl 0 dX10_lid_61 rfl rfl ?_
                refine mw_geta 65 rfl dX10_lid_62 gf_X10_143 rfl 100 (mh_rf hI_s6197 97 rfl) ?_
                refine mw_iload 67 rfl 5 dX10_lid_65  rfl ?_
                refine mw_iload 69 rfl 5 dX10_lid_67  rfl ?_
                have J77 : ∀ (y12196 : Int64), mh_W G (mh_XM l G (d + 1) (mh_Ql (P_X10_lid B D s0 p1 p2 p3 p4))) mM_X10_lid 77 [(0, .ref (G.2.2.2 57)), (1, .int p1), (2, .int p2), (3, .int p3), (4, .int p4), (5, .int x6196)] [.long y12196, .int x6196, .ref (G.2.2.2 100)] s6197 := by
                  intro y12196
                  refine mw_last 78 rfl dX10_lid_77 rfl r_x6196 (by decide) (fun s12201 t12202 => ?_)
                  have hI_s12201 : mh_I B D s12201 := by rw [t12202]; exact mh_I_pL hI_s6197
                  have hF_s12201 : mh_F S_X10_lid s0 s12201 := by rw [t12202]; exact mh_F_pL hF_s6197 (mh_si 0 rfl)
                  refine mw_iincR (k := 5) (1) (121) 81 rfl (fun z => [(5, .int z), (0, .ref (G.2.2.2 57)), (1, .int p1), (2, .int p2), (3, .int p3), (4, .int p4)]) dX10_lid_78 rfl (by decide) (fun _ => rfl) r_x6196 (by decide) (by decide) (fun x12203 t12204 r_x12203 => ?_)
                  refine mw_goto 84 rfl 54 dX10_lid_81 (by decide) ?_
                  exact mw_lv [1, 2, 3, 4, 5, 0] rfl (ihn1 x12203 s12201 (mh_r_wk r_x12203 (by decide)) hI_s12201 hF_s12201 (by have : x12203.toInt = x6196.toInt + (1) := t12204; omega))
                refine mw_if_ne 72 rfl 76 dX10_lid_69 (by decide) (fun c12205 => ?_) (fun c12205 => ?_)
                · skip
                  have r_x6196 : mh_r x6196 (1) (120) := mh_ne1 (show x6196.toInt ≠ (0 : Int32).toInt from c12205) r_x6196 rc_0 (1) (120) (by decide)
                  refine mw_lconst (v := 0) 77 rfl dX10_lid_76 (by decide) ?_
                  exact mw_lv [0, 1, 2, 3, 4, 5] rfl (J77 (0))
                · skip
                  have r_x6196 : mh_r x6196 (0) (0) := mh_eq1 (show x6196.toInt = (0 : Int32).toInt from c12205) r_x6196 rc_0 (0) (0) (by decide)
                  refine mw_lconst (v := 1) 73 rfl dX10_lid_72 (by decide) ?_
                  refine mw_goto 76 rfl 77 dX10_lid_73 (by decide) ?_
                  exact mw_lv [0, 1, 2, 3, 4, 5] rfl (J77 (1))
          exact mw_lv [1, 2, 3, 4, 5, 0] rfl (L54 122 (0) s0 (mh_r_wk rc_0 (by decide)) hI0 hF0 (by have := (rc_0).1; have := (rc_0).2; omega))
        · skip
          have r_x6114 : mh_r x6114 (0) (0) := mh_eq1 (show x6114.toInt = (0 : Int32).toInt from c6117) r_x6114 rc_0 (0) (0) (by decide)
          refine mw_ldc2 50 rfl dX10_lid_47 ck_X10_457 ?_
          exact mw_lret dX10_lid_50 rfl ⟨(-1), rfl, ⟨hI0, hF0⟩⟩

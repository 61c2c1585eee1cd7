def V_X9_road (B D : Int) (s0 : mh_H) (p1 : Int32) (p2 : Int32) (p3 : Int32) (p4 : Int32) (p5 : Int32) : Int32 → mh_H → Prop := fun z s => mh_r z (0) (1) ∧ (z.toInt = 1 ↔ (mh_r p1 (0) (19) ∧ mh_r p2 (0) (9) ∧ mh_r p3 (0) (9) ∧ mh_r p4 (1) (99) ∧ mh_r p5 (0) (143) ∧ p2.toInt ≠ p3.toInt)) ∧ mh_I B D s ∧ mh_F S_X9_road s0 s
set_option maxRecDepth 100000 in
set_option maxHeartbeats 4000000 in
theorem v_X9_road (l : Launch) (G : mh_G) (d : Nat) {B D : Int} (hB : B ≤ 1980000000 ∧ D ≤ 1980000000) {s0 : mh_H} (hI0 : mh_I B D s0) (p1 : Int32) (p2 : Int32) (p3 : Int32) (p4 : Int32) (p5 : Int32) : mh_Mi l G (d + 1) mM_X9_road [.ref (G.2.2.2 0), .int p1, .int p2, .int p3, .int p4, .int p5] s0 (V_X9_road B D s0 p1 p2 p3 p4 p5) := by
  refine mh_enter (lv := [(0, .ref (G.2.2.2 0)), (1, .int p1), (2, .int p2), (3, .int p3), (4, .int p4), (5, .int p5)]) (by decide) rfl (Nat.le_of_ble_eq_true rfl) ?_
  have hF0 : mh_F S_X9_road s0 s0 := mh_F_rf
  refine mw_iload_n 1 rfl 1 dX9_road_0 rfl rfl ?_
  refine mw_bipush (v := 19) 3 rfl dX9_road_1 (by decide) ?_
  refine mw_callSi [.int p1, .int (19)] [] 6 rfl dX9_road_3 ml_X9_98 mc_X9_isWithin mk_X9_isWithin (w_X9_isWithin l G (d + 0) ⟨by omega, by omega⟩ hI0 p1 (19)) rfl rfl (Nat.le_of_ble_eq_true rfl) (mh_rok (by omega) (by decide)) (fun x35 s36 q37 => ?_)
  obtain ⟨r_x35, e0_s36, rfl⟩ := q37
  refine mw_if_eq 9 rfl 32 dX9_road_6 (by decide) (fun c38 => ?_) (fun c38 => ?_)
  · skip
    have r_x35 : mh_r x35 (0) (0) := mh_eq1 (show x35.toInt = (0 : Int32).toInt from c38) r_x35 rc_0 (0) (0) (by decide)
    refine mw_iconst (v := 0) 33 rfl dX9_road_32 (by decide) ?_
    exact mw_zret dX9_road_33 rfl (mh_r_wk rc_0 (by decide)) ⟨(0), rfl, ⟨(mh_r_wk rc_0 (by decide)), ⟨fun h => absurd h (by decide), fun h => by exfalso; have c0 : (99 : Int32).toInt = 99 := rfl; have c1 : (4 : Int32).toInt = 4 := rfl; have c2 : (9999 : Int32).toInt = 9999 := rfl; have c3 : (9 : Int32).toInt = 9 := rfl; have c4 : (19 : Int32).toInt = 19 := rfl; have c5 : (143 : Int32).toInt = 143 := rfl; have c6 : (65535 : Int32).toInt = 65535 := rfl; have d0 : (0 : Int64).toInt = 0 := rfl; have d1 : (1 : Int64).toInt = 1 := rfl; have d2 : (99 : Int64).toInt = 99 := rfl; have d3 : (4 : Int64).toInt = 4 := rfl; have d4 : (9999 : Int64).toInt = 9999 := rfl; have d5 : (9 : Int64).toInt = 9 := rfl; have d6 : (19 : Int64).toInt = 19 := rfl; have d7 : (143 : Int64).toInt = 143 := rfl; have d8 : (65535 : Int64).toInt = 65535 := rfl; simp only [mh_r] at *; omega⟩, hI0, hF0⟩⟩
  · skip
    have r_p1 : mh_r p1 (0) (19) := ⟨by have := e0_s36.1 (mh_z1 r_x35 c38); have := ((mh_r_full p1)).1; omega, by have := e0_s36.1 (mh_z1 r_x35 c38); have := ((mh_r_full p1)).2; have := (rc_19).2; omega⟩
    have r_x35 : mh_r x35 (1) (1) := mh_ne1 (show x35.toInt ≠ (0 : Int32).toInt from c38) r_x35 rc_0 (1) (1) (by decide)
    refine mw_iload_n 10 rfl 2 dX9_road_9 rfl rfl ?_
    refine mw_bipush (v := 9) 12 rfl dX9_road_10 (by decide) ?_
    refine mw_callSi [.int p2, .int (9)] [] 15 rfl dX9_road_12 ml_X9_98 mc_X9_isWithin mk_X9_isWithin (w_X9_isWithin l G (d + 0) ⟨by omega, by omega⟩ hI0 p2 (9)) rfl rfl (Nat.le_of_ble_eq_true rfl) (mh_rok (by omega) (by decide)) (fun x39 s40 q41 => ?_)
    obtain ⟨r_x39, e0_s40, rfl⟩ := q41
    refine mw_if_eq 18 rfl 32 dX9_road_15 (by decide) (fun c42 => ?_) (fun c42 => ?_)
    · skip
      have r_x39 : mh_r x39 (0) (0) := mh_eq1 (show x39.toInt = (0 : Int32).toInt from c42) r_x39 rc_0 (0) (0) (by decide)
      refine mw_iconst (v := 0) 33 rfl dX9_road_32 (by decide) ?_
      exact mw_zret dX9_road_33 rfl (mh_r_wk rc_0 (by decide)) ⟨(0), rfl, ⟨(mh_r_wk rc_0 (by decide)), ⟨fun h => absurd h (by decide), fun h => by exfalso; have c0 : (99 : Int32).toInt = 99 := rfl; have c1 : (4 : Int32).toInt = 4 := rfl; have c2 : (9999 : Int32).toInt = 9999 := rfl; have c3 : (9 : Int32).toInt = 9 := rfl; have c4 : (19 : Int32).toInt = 19 := rfl; have c5 : (143 : Int32).toInt = 143 := rfl; have c6 : (65535 : Int32).toInt = 65535 := rfl; have d0 : (0 : Int64).toInt = 0 := rfl; have d1 : (1 : Int64).toInt = 1 := rfl; have d2 : (99 : Int64).toInt = 99 := rfl; have d3 : (4 : Int64).toInt = 4 := rfl; have d4 : (9999 : Int64).toInt = 9999 := rfl; have d5 : (9 : Int64).toInt = 9 := rfl; have d6 : (19 : Int64).toInt = 19 := rfl; have d7 : (143 : Int64).toInt = 143 := rfl; have d8 : (65535 : Int64).toInt = 65535 := rfl; simp only [mh_r] at *; omega⟩, hI0, hF0⟩⟩
    · skip
      have r_p2 : mh_r p2 (0) (9) := ⟨by have := e0_s40.1 (mh_z1 r_x39 c42); have := ((mh_r_full p2)).1; omega, by have := e0_s40.1 (mh_z1 r_x39 c42); have := ((mh_r_full p2)).2; have := (rc_9).2; omega⟩
      have r_x39 : mh_r x39 (1) (1) := mh_ne1 (show x39.toInt ≠ (0 : Int32).toInt from c42) r_x39 rc_0 (1) (1) (by decide)
      refine mw_iload_n 19 rfl 3 dX9_road_18 rfl rfl ?_
      refine mw_bipush (v := 9) 21 rfl dX9_road_19 (by decide) ?_
      refine mw_callSi [.int p3, .int (9)] [] 24 rfl dX9_road_21 ml_X9_98 mc_X9_isWithin mk_X9_isWithin (w_X9_isWithin l G (d + 0) ⟨by omega, by omega⟩ hI0 p3 (9)) rfl rfl (Nat.le_of_ble_eq_true rfl) (mh_rok (by omega) (by decide)) (fun x43 s44 q45 => ?_)
      obtain ⟨r_x43, e0_s44, rfl⟩ := q45
      refine mw_if_eq 27 rfl 32 dX9_road_24 (by decide) (fun c46 => ?_) (fun c46 => ?_)
      · skip
        have r_x43 : mh_r x43 (0) (0) := mh_eq1 (show x43.toInt = (0 : Int32).toInt from c46) r_x43 rc_0 (0) (0) (by decide)
        refine mw_iconst (v := 0) 33 rfl dX9_road_32 (by decide) ?_
        exact mw_zret dX9_road_33 rfl (mh_r_wk rc_0 (by decide)) ⟨(0), rfl, ⟨(mh_r_wk rc_0 (by decide)), ⟨fun h => absurd h (by decide), fun h => by exfalso; have c0 : (99 : Int32).toInt = 99 := rfl; have c1 : (4 : Int32).toInt = 4 := rfl; have c2 : (9999 : Int32).toInt = 9999 := rfl; have c3 : (9 : Int32).toInt = 9 := rfl; have c4 : (19 : Int32).toInt = 19 := rfl; have c5 : (143 : Int32).toInt = 143 := rfl; have c6 : (65535 : Int32).toInt = 65535 := rfl; have d0 : (0 : Int64).toInt = 0 := rfl; have d1 : (1 : Int64).toInt = 1 := rfl; have d2 : (99 : Int64).toInt = 99 := rfl; have d3 : (4 : Int64).toInt = 4 := rfl; have d4 : (9999 : Int64).toInt = 9999 := rfl; have d5 : (9 : Int64).toInt = 9 := rfl; have d6 : (19 : Int64).toInt = 19 := rfl; have d7 : (143 : Int64).toInt = 143 := rfl; have d8 : (65535 : Int64).toInt = 65535 := rfl; simp only [mh_r] at *; omega⟩, hI0, hF0⟩⟩
      · skip
        have r_p3 : mh_r p3 (0) (9) := ⟨by have := e0_s44.1 (mh_z1 r_x43 c46); have := ((mh_r_full p3)).1; omega, by have := e0_s44.1 (mh_z1 r_x43 c46); have := ((mh_r_full p3)).2; have := (rc_9).2; omega⟩
        have r_x43 : mh_r x43 (1) (1) := mh_ne1 (show x43.toInt ≠ (0 : Int32).toInt from c46) r_x43 rc_0 (1) (1) (by decide)
        refine mw_iload_n 28 rfl 2 dX9_road_27 rfl rfl ?_
        refine mw_iload_n 29 rfl 3 dX9_road_28 rfl rfl ?_
        refine mw_icmp_ne 32 rfl 34 dX9_road_29 (by decide) (fun c47 => ?_) (fun c47 => ?_)
        · skip
          refine mw_iload 36 rfl 4 dX9_road_34  rfl ?_
          refine mw_iconst (v := 1) 37 rfl dX9_road_36 (by decide) ?_
          refine mw_icmp_lt 40 rfl 58 dX9_road_37 (by decide) (fun c48 => ?_) (fun c48 => ?_)
          · skip
            have r_p4 : mh_r p4 (-2147483648) (0) := mh_lt1 c48 (mh_r_full p4) rc_1 (0) (by decide)
            refine mw_iconst (v := 0) 59 rfl dX9_road_58 (by decide) ?_
            exact mw_zret dX9_road_59 rfl (mh_r_wk rc_0 (by decide)) ⟨(0), rfl, ⟨(mh_r_wk rc_0 (by decide)), ⟨fun h => absurd h (by decide), fun h => by exfalso; have c0 : (99 : Int32).toInt = 99 := rfl; have c1 : (4 : Int32).toInt = 4 := rfl; have c2 : (9999 : Int32).toInt = 9999 := rfl; have c3 : (9 : Int32).toInt = 9 := rfl; have c4 : (19 : Int32).toInt = 19 := rfl; have c5 : (143 : Int32).toInt = 143 := rfl; have c6 : (65535 : Int32).toInt = 65535 := rfl; have d0 : (0 : Int64).toInt = 0 := rfl; have d1 : (1 : Int64).toInt = 1 := rfl; have d2 : (99 : Int64).toInt = 99 := rfl; have d3 : (4 : Int64).toInt = 4 := rfl; have d4 : (9999 : Int64).toInt = 9999 := rfl; have d5 : (9 : Int64).toInt = 9 := rfl; have d6 : (19 : Int64).toInt = 19 := rfl; have d7 : (143 : Int64).toInt = 143 := rfl; have d8 : (65535 : Int64).toInt = 65535 := rfl; simp only [mh_r] at *; omega⟩, hI0, hF0⟩⟩
          · skip
            have r_p4 : mh_r p4 (1) (2147483647) := mh_le2 c48 rc_1 (mh_r_full p4) (1) (by decide)
            refine mw_iload 42 rfl 4 dX9_road_40  rfl ?_
            refine mw_bipush (v := 99) 44 rfl dX9_road_42 (by decide) ?_
            refine mw_icmp_gt 47 rfl 58 dX9_road_44 (by decide) (fun c49 => ?_) (fun c49 => ?_)
            · skip
              have r_p4 : mh_r p4 (100) (2147483647) := mh_lt2 c49 rc_99 r_p4 (100) (by decide)
              refine mw_iconst (v := 0) 59 rfl dX9_road_58 (by decide) ?_
              exact mw_zret dX9_road_59 rfl (mh_r_wk rc_0 (by decide)) ⟨(0), rfl, ⟨(mh_r_wk rc_0 (by decide)), ⟨fun h => absurd h (by decide), fun h => by exfalso; have c0 : (99 : Int32).toInt = 99 := rfl; have c1 : (4 : Int32).toInt = 4 := rfl; have c2 : (9999 : Int32).toInt = 9999 := rfl; have c3 : (9 : Int32).toInt = 9 := rfl; have c4 : (19 : Int32).toInt = 19 := rfl; have c5 : (143 : Int32).toInt = 143 := rfl; have c6 : (65535 : Int32).toInt = 65535 := rfl; have d0 : (0 : Int64).toInt = 0 := rfl; have d1 : (1 : Int64).toInt = 1 := rfl; have d2 : (99 : Int64).toInt = 99 := rfl; have d3 : (4 : Int64).toInt = 4 := rfl; have d4 : (9999 : Int64).toInt = 9999 := rfl; have d5 : (9 : Int64).toInt = 9 := rfl; have d6 : (19 : Int64).toInt = 19 := rfl; have d7 : (143 : Int64).toInt = 143 := rfl; have d8 : (65535 : Int64).toInt = 65535 := rfl; simp only [mh_r] at *; omega⟩, hI0, hF0⟩⟩
            · skip
              have r_p4 : mh_r p4 (1) (99) := mh_le1 c49 r_p4 rc_99 (99) (by decide)
              refine mw_iload 49 rfl 5 dX9_road_47  rfl ?_
              refine mw_sipush (v := 143) 52 rfl dX9_road_49 (by decide) ?_
              refine mw_callSi [.int p5, .int (143)] [] 55 rfl dX9_road_52 ml_X9_98 mc_X9_isWithin mk_X9_isWithin (w_X9_isWithin l G (d + 0) ⟨by omega, by omega⟩ hI0 p5 (143)) rfl rfl (Nat.le_of_ble_eq_true rfl) (mh_rok (by omega) (by decide)) (fun x50 s51 q52 => ?_)
              obtain ⟨r_x50, e0_s51, rfl⟩ := q52
              refine mw_if_ne 58 rfl 60 dX9_road_55 (by decide) (fun c53 => ?_) (fun c53 => ?_)
              · skip
                have r_p5 : mh_r p5 (0) (143) := ⟨by have := e0_s51.1 (mh_z1 r_x50 c53); have := ((mh_r_full p5)).1; omega, by have := e0_s51.1 (mh_z1 r_x50 c53); have := ((mh_r_full p5)).2; have := (rc_143).2; omega⟩
                have r_x50 : mh_r x50 (1) (1) := mh_ne1 (show x50.toInt ≠ (0 : Int32).toInt from c53) r_x50 rc_0 (1) (1) (by decide)
                refine mw_aload_n 61 rfl 0 dX9_road_60 rfl rfl ?_
                refine mw_geta 64 rfl dX9_road_61 gf_X9_39 rfl 23 (mh_rf hI0 5 rfl) ?_
                refine mw_geta 67 rfl dX9_road_64 gf_X9_201 rfl 24 (mh_rf hI0 28 rfl) ?_
                refine mw_iload_n 68 rfl 1 dX9_road_67 rfl rfl ?_
                refine mw_iconst (v := 1) 69 rfl dX9_road_68 (by decide) ?_
                refine mw_iload_n 70 rfl 2 dX9_road_69 rfl rfl ?_
                refine mw_ishl_u 71 rfl dX9_road_70 (fun x54 _ => ?_)
                refine mw_iconst (v := 1) 72 rfl dX9_road_71 (by decide) ?_
                refine mw_iload_n 73 rfl 3 dX9_road_72 rfl rfl ?_
                refine mw_ishl_u 74 rfl dX9_road_73 (fun x55 _ => ?_)
                refine mw_ior_u 75 rfl dX9_road_74 (fun x56 _ => ?_)
                refine mw_iast 76 rfl dX9_road_75 rfl r_p1 (by decide) (fun s57 t58 => ?_)
                have hI_s57 : mh_I B D s57 := by rw [t58]; exact wr_24 hI0
                have hF_s57 : mh_F S_X9_road s0 s57 := by rw [t58]; exact mh_F_pI hF0 (mh_si 0 rfl)
                refine mw_aload_n 77 rfl 0 dX9_road_76 rfl rfl ?_
                refine mw_geta 80 rfl dX9_road_77 gf_X9_39 rfl 23 (mh_rf hI_s57 5 rfl) ?_
                refine mw_geta 83 rfl dX9_road_80 gf_X9_204 rfl 25 (mh_rf hI_s57 29 rfl) ?_
                refine mw_iload_n 84 rfl 1 dX9_road_83 rfl rfl ?_
                refine mw_iload 86 rfl 4 dX9_road_84  rfl ?_
                refine mw_iast 87 rfl dX9_road_86 rfl r_p1 (by decide) (fun s59 t60 => ?_)
                have hI_s59 : mh_I B D s59 := by rw [t60]; exact wr_25 hI_s57 (mh_r_wk r_p4 (by decide))
                have hF_s59 : mh_F S_X9_road s0 s59 := by rw [t60]; exact mh_F_pI hF_s57 (mh_si 1 rfl)
                refine mw_aload_n 88 rfl 0 dX9_road_87 rfl rfl ?_
                refine mw_geta 91 rfl dX9_road_88 gf_X9_39 rfl 23 (mh_rf hI_s59 5 rfl) ?_
                refine mw_geta 94 rfl dX9_road_91 gf_X9_207 rfl 26 (mh_rf hI_s59 30 rfl) ?_
                refine mw_iload_n 95 rfl 1 dX9_road_94 rfl rfl ?_
                refine mw_iload 97 rfl 5 dX9_road_95  rfl ?_
                refine mw_iast 98 rfl dX9_road_97 rfl r_p1 (by decide) (fun s61 t62 => ?_)
                have hI_s61 : mh_I B D s61 := by rw [t62]; exact wr_26 hI_s59 r_p5
                have hF_s61 : mh_F S_X9_road s0 s61 := by rw [t62]; exact mh_F_pI hF_s59 (mh_si 2 rfl)
                refine mw_aload_n 99 rfl 0 dX9_road_98 rfl rfl ?_
                refine mw_geta 102 rfl dX9_road_99 gf_X9_39 rfl 23 (mh_rf hI_s61 5 rfl) ?_
                refine mw_dup 103 rfl dX9_road_102 rfl ?_
                refine mw_geti 106 rfl dX9_road_103 gf_X9_210 rfl (fun x63 t64 => ?_)
                refine mw_iconst (v := 1) 107 rfl dX9_road_106 (by decide) ?_
                refine mw_iload_n 108 rfl 1 dX9_road_107 rfl rfl ?_
                refine mw_ishl_u 109 rfl dX9_road_108 (fun x65 _ => ?_)
                refine mw_ior_u 110 rfl dX9_road_109 (fun x66 _ => ?_)
                refine mw_puti 113 rfl dX9_road_110 pf_X9_210 rfl (fun s67 t68 => ?_)
                have hI_s67 : mh_I B D s67 := by rw [t68]; exact wr_23_5 hI_s61
                have hF_s67 : mh_F S_X9_road s0 s67 := by rw [t68]; exact mh_F_pI hF_s61 (mh_sj 3 rfl)
                refine mw_iconst (v := 1) 114 rfl dX9_road_113 (by decide) ?_
                exact mw_zret dX9_road_114 rfl (mh_r_wk rc_1 (by decide)) ⟨(1), rfl, ⟨(mh_r_wk rc_1 (by decide)), ⟨fun _ => ⟨r_p1, r_p2, r_p3, r_p4, r_p5, by omega⟩, fun _ => rfl⟩, hI_s67, hF_s67⟩⟩
              · skip
                have r_x50 : mh_r x50 (0) (0) := mh_eq1 (show x50.toInt = (0 : Int32).toInt from c53) r_x50 rc_0 (0) (0) (by decide)
                refine mw_iconst (v := 0) 59 rfl dX9_road_58 (by decide) ?_
                exact mw_zret dX9_road_59 rfl (mh_r_wk rc_0 (by decide)) ⟨(0), rfl, ⟨(mh_r_wk rc_0 (by decide)), ⟨fun h => absurd h (by decide), fun h => by exfalso; have c0 : (99 : Int32).toInt = 99 := rfl; have c1 : (4 : Int32).toInt = 4 := rfl; have c2 : (9999 : Int32).toInt = 9999 := rfl; have c3 : (9 : Int32).toInt = 9 := rfl; have c4 : (19 : Int32).toInt = 19 := rfl; have c5 : (143 : Int32).toInt = 143 := rfl; have c6 : (65535 : Int32).toInt = 65535 := rfl; have d0 : (0 : Int64).toInt = 0 := rfl; have d1 : (1 : Int64).toInt = 1 := rfl; have d2 : (99 : Int64).toInt = 99 := rfl; have d3 : (4 : Int64).toInt = 4 := rfl; have d4 : (9999 : Int64).toInt = 9999 := rfl; have d5 : (9 : Int64).toInt = 9 := rfl; have d6 : (19 : Int64).toInt = 19 := rfl; have d7 : (143 : Int64).toInt = 143 := rfl; have d8 : (65535 : Int64).toInt = 65535 := rfl; simp only [mh_r] at *; omega⟩, hI0, hF0⟩⟩
        · skip
          refine mw_iconst (v := 0) 33 rfl dX9_road_32 (by decide) ?_
          exact mw_zret dX9_road_33 rfl (mh_r_wk rc_0 (by decide)) ⟨(0), rfl, ⟨(mh_r_wk rc_0 (by decide)), ⟨fun h => absurd h (by decide), fun h => by exfalso; have c0 : (99 : Int32).toInt = 99 := rfl; have c1 : (4 : Int32).toInt = 4 := rfl; have c2 : (9999 : Int32).toInt = 9999 := rfl; have c3 : (9 : Int32).toInt = 9 := rfl; have c4 : (19 : Int32).toInt = 19 := rfl; have c5 : (143 : Int32).toInt = 143 := rfl; have c6 : (65535 : Int32).toInt = 65535 := rfl; have d0 : (0 : Int64).toInt = 0 := rfl; have d1 : (1 : Int64).toInt = 1 := rfl; have d2 : (99 : Int64).toInt = 99 := rfl; have d3 : (4 : Int64).toInt = 4 := rfl; have d4 : (9999 : Int64).toInt = 9999 := rfl; have d5 : (9 : Int64).toInt = 9 := rfl; have d6 : (19 : Int64).toInt = 19 := rfl; have d7 : (143 : Int64).toInt = 143 := rfl; have d8 : (65535 : Int64).toInt = 65535 := rfl; simp only [mh_r] at *; omega⟩, hI0, hF0⟩⟩


def V_X10_road (B D : Int) (s0 : mh_H) (p1 : Int32) (p2 : Int32) (p3 : Int32) (p4 : Int32) (p5 : Int32) : Int32 → mh_H → Prop := fun z s => mh_r z (0) (1) ∧ (z.toInt = 1 ↔ (mh_r p1 (0) (19) ∧ mh_r p2 (0) (9) ∧ mh_r p3 (0) (9) ∧ mh_r p4 (1) (99) ∧ mh_r p5 (0) (143) ∧ p2.toInt ≠ p3.toInt)) ∧ mh_I B D s ∧ mh_F S_X10_road s0 s
set_option maxRecDepth 100000 in
set_option maxHeartbeats 4000000 in
theorem v_X10_road (l : Launch) (G : mh_G) (d : Nat) {B D : Int} (hB : B ≤ 1960000000 ∧ D ≤ 1960000000) {s0 : mh_H} (hI0 : mh_I B D s0) (p1 : Int32) (p2 : Int32) (p3 : Int32) (p4 : Int32) (p5 : Int32) : mh_Mi l G (d + 2) mM_X10_road [.ref (G.2.2.2 57), .int p1, .int p2, .int p3, .int p4, .int p5] s0 (V_X10_road B D s0 p1 p2 p3 p4 p5) := by
  refine mh_enter (lv := [(0, .ref (G.2.2.2 57)), (1, .int p1), (2, .int p2), (3, .int p3), (4, .int p4), (5, .int p5)]) (by decide) rfl (Nat.le_of_ble_eq_true rfl) ?_
  have hF0 : mh_F S_X10_road s0 s0 := mh_F_rf
  refine mw_iload_n 1 rfl 1 dX10_road_0 rfl rfl ?_
  refine mw_i2l 2 rfl dX10_road_1 (fun y38 t39 => ?_)
  refine mw_lconst (v := 0) 3 rfl dX10_road_2 (by decide) ?_
  refine mw_ldc2 6 rfl dX10_road_3 ck_X10_408 ?_
  refine mw_callSi [.long y38, .long (0), .long (19)] [] 9 rfl dX10_road_6 ml_X10_154 mc_X10_lies mk_X10_lies (w_X10_lies l G (d + 1) ⟨by omega, by omega⟩ hI0 y38 (0) (19)) rfl rfl (Nat.le_of_ble_eq_true rfl) (mh_rok (by omega) (by decide)) (fun x40 s41 q42 => ?_)
  obtain ⟨r_x40, e0_s41, rfl⟩ := q42
  have f_x40 : x40.toInt = 1 ↔ (0 ≤ p1.toInt ∧ p1.toInt ≤ 19) := by rw [e0_s41]; exact by simp only [t39, Int32.toInt_toInt64]; first | done | exact Iff.rfl
  refine mw_if_eq 12 rfl 57 dX10_road_9 (by decide) (fun c43 => ?_) (fun c43 => ?_)
  · skip
    have r_x40 : mh_r x40 (0) (0) := mh_eq1 (show x40.toInt = (0 : Int32).toInt from c43) r_x40 rc_0 (0) (0) (by decide)
    refine mw_iconst (v := 0) 58 rfl dX10_road_57 (by decide) ?_
    exact mw_zret dX10_road_58 rfl (mh_r_wk rc_0 (by decide)) ⟨(0), rfl, ⟨(mh_r_wk rc_0 (by decide)), ⟨fun h => absurd h (by decide), fun h => by exfalso; have c0 : (99 : Int32).toInt = 99 := rfl; have c1 : (4 : Int32).toInt = 4 := rfl; have c2 : (9999 : Int32).toInt = 9999 := rfl; have c3 : (9 : Int32).toInt = 9 := rfl; have c4 : (19 : Int32).toInt = 19 := rfl; have c5 : (143 : Int32).toInt = 143 := rfl; have c6 : (65535 : Int32).toInt = 65535 := rfl; have d0 : (0 : Int64).toInt = 0 := rfl; have d1 : (1 : Int64).toInt = 1 := rfl; have d2 : (99 : Int64).toInt = 99 := rfl; have d3 : (4 : Int64).toInt = 4 := rfl; have d4 : (9999 : Int64).toInt = 9999 := rfl; have d5 : (9 : Int64).toInt = 9 := rfl; have d6 : (19 : Int64).toInt = 19 := rfl; have d7 : (143 : Int64).toInt = 143 := rfl; have d8 : (65535 : Int64).toInt = 65535 := rfl; simp only [mh_r] at *; omega⟩, hI0, hF0⟩⟩
  · skip
    have r_p1 : mh_r p1 (0) (19) := ⟨by have := f_x40.1 (mh_z1 r_x40 c43); have := ((mh_r_full p1)).1; omega, by have := f_x40.1 (mh_z1 r_x40 c43); have := ((mh_r_full p1)).2; omega⟩
    have r_x40 : mh_r x40 (1) (1) := mh_ne1 (show x40.toInt ≠ (0 : Int32).toInt from c43) r_x40 rc_0 (1) (1) (by decide)
    refine mw_iload_n 13 rfl 2 dX10_road_12 rfl rfl ?_
    refine mw_callSi [.int p2] [] 16 rfl dX10_road_13 ml_X10_410 mc_X10_isNode mk_X10_isNode (w_X10_isNode l G (d + 0) ⟨by omega, by omega⟩ hI0 p2) rfl rfl (Nat.le_of_ble_eq_true rfl) (mh_rok (by omega) (by decide)) (fun x44 s45 q46 => ?_)
    obtain ⟨r_x44, e0_s45, rfl⟩ := q46
    refine mw_if_eq 19 rfl 57 dX10_road_16 (by decide) (fun c47 => ?_) (fun c47 => ?_)
    · skip
      have r_x44 : mh_r x44 (0) (0) := mh_eq1 (show x44.toInt = (0 : Int32).toInt from c47) r_x44 rc_0 (0) (0) (by decide)
      refine mw_iconst (v := 0) 58 rfl dX10_road_57 (by decide) ?_
      exact mw_zret dX10_road_58 rfl (mh_r_wk rc_0 (by decide)) ⟨(0), rfl, ⟨(mh_r_wk rc_0 (by decide)), ⟨fun h => absurd h (by decide), fun h => by exfalso; have c0 : (99 : Int32).toInt = 99 := rfl; have c1 : (4 : Int32).toInt = 4 := rfl; have c2 : (9999 : Int32).toInt = 9999 := rfl; have c3 : (9 : Int32).toInt = 9 := rfl; have c4 : (19 : Int32).toInt = 19 := rfl; have c5 : (143 : Int32).toInt = 143 := rfl; have c6 : (65535 : Int32).toInt = 65535 := rfl; have d0 : (0 : Int64).toInt = 0 := rfl; have d1 : (1 : Int64).toInt = 1 := rfl; have d2 : (99 : Int64).toInt = 99 := rfl; have d3 : (4 : Int64).toInt = 4 := rfl; have d4 : (9999 : Int64).toInt = 9999 := rfl; have d5 : (9 : Int64).toInt = 9 := rfl; have d6 : (19 : Int64).toInt = 19 := rfl; have d7 : (143 : Int64).toInt = 143 := rfl; have d8 : (65535 : Int64).toInt = 65535 := rfl; simp only [mh_r] at *; omega⟩, hI0, hF0⟩⟩
    · skip
      have r_p2 : mh_r p2 (0) (9) := ⟨by have := e0_s45.1 (mh_z1 r_x44 c47); have := ((mh_r_full p2)).1; omega, by have := e0_s45.1 (mh_z1 r_x44 c47); have := ((mh_r_full p2)).2; omega⟩
      have r_x44 : mh_r x44 (1) (1) := mh_ne1 (show x44.toInt ≠ (0 : Int32).toInt from c47) r_x44 rc_0 (1) (1) (by decide)
      refine mw_iload_n 20 rfl 3 dX10_road_19 rfl rfl ?_
      refine mw_callSi [.int p3] [] 23 rfl dX10_road_20 ml_X10_410 mc_X10_isNode mk_X10_isNode (w_X10_isNode l G (d + 0) ⟨by omega, by omega⟩ hI0 p3) rfl rfl (Nat.le_of_ble_eq_true rfl) (mh_rok (by omega) (by decide)) (fun x48 s49 q50 => ?_)
      obtain ⟨r_x48, e0_s49, rfl⟩ := q50
      refine mw_if_eq 26 rfl 57 dX10_road_23 (by decide) (fun c51 => ?_) (fun c51 => ?_)
      · skip
        have r_x48 : mh_r x48 (0) (0) := mh_eq1 (show x48.toInt = (0 : Int32).toInt from c51) r_x48 rc_0 (0) (0) (by decide)
        refine mw_iconst (v := 0) 58 rfl dX10_road_57 (by decide) ?_
        exact mw_zret dX10_road_58 rfl (mh_r_wk rc_0 (by decide)) ⟨(0), rfl, ⟨(mh_r_wk rc_0 (by decide)), ⟨fun h => absurd h (by decide), fun h => by exfalso; have c0 : (99 : Int32).toInt = 99 := rfl; have c1 : (4 : Int32).toInt = 4 := rfl; have c2 : (9999 : Int32).toInt = 9999 := rfl; have c3 : (9 : Int32).toInt = 9 := rfl; have c4 : (19 : Int32).toInt = 19 := rfl; have c5 : (143 : Int32).toInt = 143 := rfl; have c6 : (65535 : Int32).toInt = 65535 := rfl; have d0 : (0 : Int64).toInt = 0 := rfl; have d1 : (1 : Int64).toInt = 1 := rfl; have d2 : (99 : Int64).toInt = 99 := rfl; have d3 : (4 : Int64).toInt = 4 := rfl; have d4 : (9999 : Int64).toInt = 9999 := rfl; have d5 : (9 : Int64).toInt = 9 := rfl; have d6 : (19 : Int64).toInt = 19 := rfl; have d7 : (143 : Int64).toInt = 143 := rfl; have d8 : (65535 : Int64).toInt = 65535 := rfl; simp only [mh_r] at *; omega⟩, hI0, hF0⟩⟩
      · skip
        have r_p3 : mh_r p3 (0) (9) := ⟨by have := e0_s49.1 (mh_z1 r_x48 c51); have := ((mh_r_full p3)).1; omega, by have := e0_s49.1 (mh_z1 r_x48 c51); have := ((mh_r_full p3)).2; omega⟩
        have r_x48 : mh_r x48 (1) (1) := mh_ne1 (show x48.toInt ≠ (0 : Int32).toInt from c51) r_x48 rc_0 (1) (1) (by decide)
        refine mw_iload_n 27 rfl 2 dX10_road_26 rfl rfl ?_
        refine mw_iload_n 28 rfl 3 dX10_road_27 rfl rfl ?_
        refine mw_icmp_eq 31 rfl 57 dX10_road_28 (by decide) (fun c52 => ?_) (fun c52 => ?_)
        · skip
          refine mw_iconst (v := 0) 58 rfl dX10_road_57 (by decide) ?_
          exact mw_zret dX10_road_58 rfl (mh_r_wk rc_0 (by decide)) ⟨(0), rfl, ⟨(mh_r_wk rc_0 (by decide)), ⟨fun h => absurd h (by decide), fun h => by exfalso; have c0 : (99 : Int32).toInt = 99 := rfl; have c1 : (4 : Int32).toInt = 4 := rfl; have c2 : (9999 : Int32).toInt = 9999 := rfl; have c3 : (9 : Int32).toInt = 9 := rfl; have c4 : (19 : Int32).toInt = 19 := rfl; have c5 : (143 : Int32).toInt = 143 := rfl; have c6 : (65535 : Int32).toInt = 65535 := rfl; have d0 : (0 : Int64).toInt = 0 := rfl; have d1 : (1 : Int64).toInt = 1 := rfl; have d2 : (99 : Int64).toInt = 99 := rfl; have d3 : (4 : Int64).toInt = 4 := rfl; have d4 : (9999 : Int64).toInt = 9999 := rfl; have d5 : (9 : Int64).toInt = 9 := rfl; have d6 : (19 : Int64).toInt = 19 := rfl; have d7 : (143 : Int64).toInt = 143 := rfl; have d8 : (65535 : Int64).toInt = 65535 := rfl; simp only [mh_r] at *; omega⟩, hI0, hF0⟩⟩
        · skip
          refine mw_iload 33 rfl 4 dX10_road_31  rfl ?_
          refine mw_i2l 34 rfl dX10_road_33 (fun y53 t54 => ?_)
          refine mw_lconst (v := 1) 35 rfl dX10_road_34 (by decide) ?_
          refine mw_ldc2 38 rfl dX10_road_35 ck_X10_170 ?_
          refine mw_callSi [.long y53, .long (1), .long (99)] [] 41 rfl dX10_road_38 ml_X10_154 mc_X10_lies mk_X10_lies (w_X10_lies l G (d + 1) ⟨by omega, by omega⟩ hI0 y53 (1) (99)) rfl rfl (Nat.le_of_ble_eq_true rfl) (mh_rok (by omega) (by decide)) (fun x55 s56 q57 => ?_)
          obtain ⟨r_x55, e0_s56, rfl⟩ := q57
          have f_x55 : x55.toInt = 1 ↔ (1 ≤ p4.toInt ∧ p4.toInt ≤ 99) := by rw [e0_s56]; exact by simp only [t54, Int32.toInt_toInt64]; first | done | exact Iff.rfl
          refine mw_if_eq 44 rfl 57 dX10_road_41 (by decide) (fun c58 => ?_) (fun c58 => ?_)
          · skip
            have r_x55 : mh_r x55 (0) (0) := mh_eq1 (show x55.toInt = (0 : Int32).toInt from c58) r_x55 rc_0 (0) (0) (by decide)
            refine mw_iconst (v := 0) 58 rfl dX10_road_57 (by decide) ?_
            exact mw_zret dX10_road_58 rfl (mh_r_wk rc_0 (by decide)) ⟨(0), rfl, ⟨(mh_r_wk rc_0 (by decide)), ⟨fun h => absurd h (by decide), fun h => by exfalso; have c0 : (99 : Int32).toInt = 99 := rfl; have c1 : (4 : Int32).toInt = 4 := rfl; have c2 : (9999 : Int32).toInt = 9999 := rfl; have c3 : (9 : Int32).toInt = 9 := rfl; have c4 : (19 : Int32).toInt = 19 := rfl; have c5 : (143 : Int32).toInt = 143 := rfl; have c6 : (65535 : Int32).toInt = 65535 := rfl; have d0 : (0 : Int64).toInt = 0 := rfl; have d1 : (1 : Int64).toInt = 1 := rfl; have d2 : (99 : Int64).toInt = 99 := rfl; have d3 : (4 : Int64).toInt = 4 := rfl; have d4 : (9999 : Int64).toInt = 9999 := rfl; have d5 : (9 : Int64).toInt = 9 := rfl; have d6 : (19 : Int64).toInt = 19 := rfl; have d7 : (143 : Int64).toInt = 143 := rfl; have d8 : (65535 : Int64).toInt = 65535 := rfl; simp only [mh_r] at *; omega⟩, hI0, hF0⟩⟩
          · skip
            have r_p4 : mh_r p4 (1) (99) := ⟨by have := f_x55.1 (mh_z1 r_x55 c58); have := ((mh_r_full p4)).1; omega, by have := f_x55.1 (mh_z1 r_x55 c58); have := ((mh_r_full p4)).2; omega⟩
            have r_x55 : mh_r x55 (1) (1) := mh_ne1 (show x55.toInt ≠ (0 : Int32).toInt from c58) r_x55 rc_0 (1) (1) (by decide)
            refine mw_iload 46 rfl 5 dX10_road_44  rfl ?_
            refine mw_i2l 47 rfl dX10_road_46 (fun y59 t60 => ?_)
            refine mw_lconst (v := 0) 48 rfl dX10_road_47 (by decide) ?_
            refine mw_ldc2 51 rfl dX10_road_48 ck_X10_404 ?_
            refine mw_callSi [.long y59, .long (0), .long (143)] [] 54 rfl dX10_road_51 ml_X10_154 mc_X10_lies mk_X10_lies (w_X10_lies l G (d + 1) ⟨by omega, by omega⟩ hI0 y59 (0) (143)) rfl rfl (Nat.le_of_ble_eq_true rfl) (mh_rok (by omega) (by decide)) (fun x61 s62 q63 => ?_)
            obtain ⟨r_x61, e0_s62, rfl⟩ := q63
            have f_x61 : x61.toInt = 1 ↔ (0 ≤ p5.toInt ∧ p5.toInt ≤ 143) := by rw [e0_s62]; exact by simp only [t60, Int32.toInt_toInt64]; first | done | exact Iff.rfl
            refine mw_if_ne 57 rfl 59 dX10_road_54 (by decide) (fun c64 => ?_) (fun c64 => ?_)
            · skip
              have r_p5 : mh_r p5 (0) (143) := ⟨by have := f_x61.1 (mh_z1 r_x61 c64); have := ((mh_r_full p5)).1; omega, by have := f_x61.1 (mh_z1 r_x61 c64); have := ((mh_r_full p5)).2; omega⟩
              have r_x61 : mh_r x61 (1) (1) := mh_ne1 (show x61.toInt ≠ (0 : Int32).toInt from c64) r_x61 rc_0 (1) (1) (by decide)
              refine mw_aload_n 60 rfl 0 dX10_road_59 rfl rfl ?_
              refine mw_geta 63 rfl dX10_road_60 gf_X10_113 rfl 90 (mh_rf hI0 87 rfl) ?_
              refine mw_iload_n 64 rfl 1 dX10_road_63 rfl rfl ?_
              refine mw_iconst (v := 1) 65 rfl dX10_road_64 (by decide) ?_
              refine mw_zast 66 rfl dX10_road_65 rfl r_p1 (by decide) (fun s65 t66 => ?_)
              rw [mh_nz (mh_r_wk rc_1 (by decide))] at t66
              have hI_s65 : mh_I B D s65 := by rw [t66]; exact wr_90 hI0 (mh_r_wk rc_1 (by decide))
              have hF_s65 : mh_F S_X10_road s0 s65 := by rw [t66]; exact mh_F_pI hF0 (mh_si 0 rfl)
              refine mw_aload_n 67 rfl 0 dX10_road_66 rfl rfl ?_
              refine mw_geta 70 rfl dX10_road_67 gf_X10_116 rfl 91 (mh_rf hI_s65 88 rfl) ?_
              refine mw_iload_n 71 rfl 1 dX10_road_70 rfl rfl ?_
              refine mw_iload_n 72 rfl 2 dX10_road_71 rfl rfl ?_
              refine mw_iast 73 rfl dX10_road_72 rfl r_p1 (by decide) (fun s67 t68 => ?_)
              have hI_s67 : mh_I B D s67 := by rw [t68]; exact wr_91 hI_s65 r_p2
              have hF_s67 : mh_F S_X10_road s0 s67 := by rw [t68]; exact mh_F_pI hF_s65 (mh_si 1 rfl)
              refine mw_aload_n 74 rfl 0 dX10_road_73 rfl rfl ?_
              refine mw_geta 77 rfl dX10_road_74 gf_X10_119 rfl 92 (mh_rf hI_s67 89 rfl) ?_
              refine mw_iload_n 78 rfl 1 dX10_road_77 rfl rfl ?_
              refine mw_iload_n 79 rfl 3 dX10_road_78 rfl rfl ?_
              refine mw_iast 80 rfl dX10_road_79 rfl r_p1 (by decide) (fun s69 t70 => ?_)
              have hI_s69 : mh_I B D s69 := by rw [t70]; exact wr_92 hI_s67 r_p3
              have hF_s69 : mh_F S_X10_road s0 s69 := by rw [t70]; exact mh_F_pI hF_s67 (mh_si 2 rfl)
              refine mw_aload_n 81 rfl 0 dX10_road_80 rfl rfl ?_
              refine mw_geta 84 rfl dX10_road_81 gf_X10_122 rfl 93 (mh_rf hI_s69 90 rfl) ?_
              refine mw_iload_n 85 rfl 1 dX10_road_84 rfl rfl ?_
              refine mw_iload 87 rfl 4 dX10_road_85  rfl ?_
              refine mw_iast 88 rfl dX10_road_87 rfl r_p1 (by decide) (fun s71 t72 => ?_)
              have hI_s71 : mh_I B D s71 := by rw [t72]; exact wr_93 hI_s69 (mh_r_wk r_p4 (by decide))
              have hF_s71 : mh_F S_X10_road s0 s71 := by rw [t72]; exact mh_F_pI hF_s69 (mh_si 3 rfl)
              refine mw_aload_n 89 rfl 0 dX10_road_88 rfl rfl ?_
              refine mw_geta 92 rfl dX10_road_89 gf_X10_125 rfl 94 (mh_rf hI_s71 91 rfl) ?_
              refine mw_iload_n 93 rfl 1 dX10_road_92 rfl rfl ?_
              refine mw_iload 95 rfl 5 dX10_road_93  rfl ?_
              refine mw_iast 96 rfl dX10_road_95 rfl r_p1 (by decide) (fun s73 t74 => ?_)
              have hI_s73 : mh_I B D s73 := by rw [t74]; exact wr_94 hI_s71 r_p5
              have hF_s73 : mh_F S_X10_road s0 s73 := by rw [t74]; exact mh_F_pI hF_s71 (mh_si 4 rfl)
              refine mw_iconst (v := 1) 97 rfl dX10_road_96 (by decide) ?_
              exact mw_zret dX10_road_97 rfl (mh_r_wk rc_1 (by decide)) ⟨(1), rfl, ⟨(mh_r_wk rc_1 (by decide)), ⟨fun _ => ⟨r_p1, r_p2, r_p3, r_p4, r_p5, by omega⟩, fun _ => rfl⟩, hI_s73, hF_s73⟩⟩
            · skip
              have r_x61 : mh_r x61 (0) (0) := mh_eq1 (show x61.toInt = (0 : Int32).toInt from c64) r_x61 rc_0 (0) (0) (by decide)
              refine mw_iconst (v := 0) 58 rfl dX10_road_57 (by decide) ?_
              exact mw_zret dX10_road_58 rfl (mh_r_wk rc_0 (by decide)) ⟨(0), rfl, ⟨(mh_r_wk rc_0 (by decide)), ⟨fun h => absurd h (by decide), fun h => by exfalso; have c0 : (99 : Int32).toInt = 99 := rfl; have c1 : (4 : Int32).toInt = 4 := rfl; have c2 : (9999 : Int32).toInt = 9999 := rfl; have c3 : (9 : Int32).toInt = 9 := rfl; have c4 : (19 : Int32).toInt = 19 := rfl; have c5 : (143 : Int32).toInt = 143 := rfl; have c6 : (65535 : Int32).toInt = 65535 := rfl; have d0 : (0 : Int64).toInt = 0 := rfl; have d1 : (1 : Int64).toInt = 1 := rfl; have d2 : (99 : Int64).toInt = 99 := rfl; have d3 : (4 : Int64).toInt = 4 := rfl; have d4 : (9999 : Int64).toInt = 9999 := rfl; have d5 : (9 : Int64).toInt = 9 := rfl; have d6 : (19 : Int64).toInt = 19 := rfl; have d7 : (143 : Int64).toInt = 143 := rfl; have d8 : (65535 : Int64).toInt = 65535 := rfl; simp only [mh_r] at *; omega⟩, hI0, hF0⟩⟩



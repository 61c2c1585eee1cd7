def S_X9_band : List (Nat × Nat) := [(14, 9999), (15, 9999), (16, 9999), (17, 9999), (18, 9999), (13, 5), (13, 6), (13, 7), (46, 9999), (54, 9999), (47, 9999), (55, 9999), (20, 9999), (21, 9999)]
def P_X9_band (B D : Int) (s0 : mh_H) (p1 : Int32) (p2 : Int32) : Int32 → mh_H → Prop := fun z s => mh_r z (-2) (99) ∧ mh_I B D s ∧ mh_F S_X9_band s0 s
set_option maxRecDepth 100000 in
set_option maxHeartbeats 4000000 in
theorem w_X9_band (l : Launch) (G : mh_G) (d : Nat) {B D : Int} (hB : B ≤ 1900000000 ∧ D ≤ 1900000000) {s0 : mh_H} (hI0 : mh_I B D s0) (p1 : Int32) (p2 : Int32) : mh_Mi l G (d + 5) mM_X9_band [.ref (G.2.2.2 0), .int p1, .int p2] s0 (P_X9_band B D s0 p1 p2) := by
  refine mh_enter (lv := [(0, .ref (G.2.2.2 0)), (1, .int p1), (2, .int p2)]) (by decide) rfl (Nat.le_of_ble_eq_true rfl) ?_
  have hF0 : mh_F S_X9_band s0 s0 := mh_F_rf
  refine mw_iload_n 1 rfl 1 dX9_band_0 rfl rfl ?_
  refine mw_callSi [.int p1] [] 4 rfl dX9_band_1 ml_X9_128 mc_X9_isNight mk_X9_isNight (w_X9_isNight l G (d + 4) ⟨by omega, by omega⟩ hI0 p1) rfl rfl (Nat.le_of_ble_eq_true rfl) (mh_rok (by omega) (by decide)) (fun x136 s137 q138 => ?_)
  obtain ⟨r_x136, e0_s137, rfl⟩ := q138
  refine mw_if_eq 7 rfl 19 dX9_band_4 (by decide) (fun c139 => ?_) (fun c139 => ?_)
  · skip
    have r_x136 : mh_r x136 (0) (0) := mh_eq1 (show x136.toInt = (0 : Int32).toInt from c139) r_x136 rc_0 (0) (0) (by decide)
    refine mw_iconst (v := -1) 20 rfl dX9_band_19 (by decide) ?_
    exact mw_iret dX9_band_20 rfl ⟨(-1), rfl, ⟨(mh_r_wk rc_m1 (by decide)), hI0, hF0⟩⟩
  · skip
    have r_p1 : mh_r p1 (1) (60) := ⟨by have := e0_s137.1 (mh_z1 r_x136 c139); have := ((mh_r_full p1)).1; omega, by have := e0_s137.1 (mh_z1 r_x136 c139); have := ((mh_r_full p1)).2; omega⟩
    have r_x136 : mh_r x136 (1) (1) := mh_ne1 (show x136.toInt ≠ (0 : Int32).toInt from c139) r_x136 rc_0 (1) (1) (by decide)
    refine mw_iload_n 8 rfl 2 dX9_band_7 rfl rfl ?_
    refine mw_iconst (v := 1) 9 rfl dX9_band_8 (by decide) ?_
    refine mw_icmp_lt 12 rfl 19 dX9_band_9 (by decide) (fun c140 => ?_) (fun c140 => ?_)
    · skip
      have r_p2 : mh_r p2 (-2147483648) (0) := mh_lt1 c140 (mh_r_full p2) rc_1 (0) (by decide)
      refine mw_iconst (v := -1) 20 rfl dX9_band_19 (by decide) ?_
      exact mw_iret dX9_band_20 rfl ⟨(-1), rfl, ⟨(mh_r_wk rc_m1 (by decide)), hI0, hF0⟩⟩
    · skip
      have r_p2 : mh_r p2 (1) (2147483647) := mh_le2 c140 rc_1 (mh_r_full p2) (1) (by decide)
      refine mw_iload_n 13 rfl 2 dX9_band_12 rfl rfl ?_
      refine mw_sipush (v := 9999) 16 rfl dX9_band_13 (by decide) ?_
      refine mw_icmp_le 19 rfl 21 dX9_band_16 (by decide) (fun c141 => ?_) (fun c141 => ?_)
      · skip
        have r_p2 : mh_r p2 (1) (9999) := mh_le1 c141 r_p2 rc_9999 (9999) (by decide)
        refine mw_iconst (v := 0) 22 rfl dX9_band_21 (by decide) ?_
        refine mw_istore_n 23 rfl [(3, .int (0)), (0, .ref (G.2.2.2 0)), (1, .int p1), (2, .int p2)] dX9_band_22 rfl (by decide) rfl ?_
        refine mw_aload_n 24 rfl 1 dX9_band_23 rfl rfl ?_
        refine mw_geta 27 rfl dX9_band_24 gf_X9_19 rfl 13 (mh_rf hI0 2 rfl) ?_
        refine mw_aload_n 28 rfl 1 dX9_band_27 rfl rfl ?_
        refine mw_geta 31 rfl dX9_band_28 gf_X9_10 rfl 1 (mh_rf hI0 0 rfl) ?_
        refine mw_callVv [.ref (G.2.2.2 1)] [] 34 rfl dX9_band_31 ml_X9_169 mc_X8_copyFrom mk_X8_copyFrom rfl rfl (by decide) (w_X8_copyFrom l G (d + 3) ⟨by omega, by omega⟩ hI0 13 (Or.inr (Or.inr rfl)) 1 (Or.inl rfl)) rfl rfl (Nat.le_of_ble_eq_true rfl) (mh_rok (by omega) (by decide)) (fun s143 q144 => ?_)
        obtain ⟨hI_s143, hG_s143⟩ := q144
        have hF_s143 : mh_F S_X9_band s0 s143 := mh_F_tl hF0 hG_s143 (by decide +kernel)
        refine mw_iconst (v := 0) 35 rfl dX9_band_34 (by decide) ?_
        refine mw_istore 37 rfl [(4, .int (0)), (3, .int (0)), (0, .ref (G.2.2.2 0)), (1, .int p1), (2, .int p2)] dX9_band_35  (by decide) rfl ?_
        have L37 : ∀ n1 : Nat, ∀ (x238 : Int32) (x239 : Int32) (s240 : mh_H), mh_r x238 (0) (60) → mh_r x239 (0) (2147483647) → mh_I B D s240 → mh_F S_X9_band s0 s240 → (60) - x238.toInt < (n1 : Int) → mh_W G (mh_XM l G (d + 5) (mh_Qi (P_X9_band B D s0 p1 p2))) mM_X9_band 37 [(0, .ref (G.2.2.2 0)), (1, .int p1), (2, .int p2), (3, .int x239), (4, .int x238)] [] s240 := by
          intro n1
          induction n1 with
          | zero =>
            intro x238 x239 s240 r_x238 r_x239 hI_s240 hF_s240 hmn1
            exact absurd hmn1 (by have := r_x238.1; have := r_x238.2; omega)
          | succ n1 ihn1 =>
            intro x238 x239 s240 r_x238 r_x239 hI_s240 hF_s240 hmn1
            refine mw_iload 39 rfl 4 dX9_band_37  rfl ?_
            refine mw_iload_n 40 rfl 1 dX9_band_39 rfl rfl ?_
            refine mw_icmp_ge 43 rfl 74 dX9_band_40 (by decide) (fun c257 => ?_) (fun c257 => ?_)
            · skip
              have r_x238 : mh_r x238 (1) (60) := mh_le2 c257 r_p1 r_x238 (1) (by decide)
              refine mw_iload_n 75 rfl 3 dX9_band_74 rfl rfl ?_
              refine mw_bipush (v := 99) 77 rfl dX9_band_75 (by decide) ?_
              refine mw_icmp_le 80 rfl 85 dX9_band_77 (by decide) (fun c258 => ?_) (fun c258 => ?_)
              · skip
                have r_x239 : mh_r x239 (0) (99) := mh_le1 c258 r_x239 rc_99 (99) (by decide)
                refine mw_iload_n 86 rfl 3 dX9_band_85 rfl rfl ?_
                exact mw_iret dX9_band_86 rfl ⟨x239, rfl, ⟨(mh_r_wk r_x239 (by decide)), hI_s240, hF_s240⟩⟩
              · skip
                have r_x239 : mh_r x239 (100) (2147483647) := mh_lt2 c258 rc_99 r_x239 (100) (by decide)
                refine mw_bipush (v := -2) 82 rfl dX9_band_80 (by decide) ?_
                refine mw_goto 85 rfl 86 dX9_band_82 (by decide) ?_
                exact mw_iret dX9_band_86 rfl ⟨(-2), rfl, ⟨(mh_r_wk rc_m2 (by decide)), hI_s240, hF_s240⟩⟩
            · skip
              have r_x238 : mh_r x238 (0) (59) := mh_lt1 c257 r_x238 r_p1 (59) (by decide)
              refine mw_aload_n 44 rfl 0 dX9_band_43 rfl rfl ?_
              refine mw_geta 47 rfl dX9_band_44 gf_X9_25 rfl 19 (mh_rf hI_s240 3 rfl) ?_
              refine mw_aload_n 48 rfl 0 dX9_band_47 rfl rfl ?_
              refine mw_geta 51 rfl dX9_band_48 gf_X9_19 rfl 13 (mh_rf hI_s240 2 rfl) ?_
              refine mw_aload_n 52 rfl 0 dX9_band_51 rfl rfl ?_
              obtain ⟨k260, t259⟩ : ∃ y : Nat, s240.2.2 0 11 = y := ⟨_, rfl⟩
              have hk260 : mh_isL k260 := by rw [← t259]; exact hI_s240.2.1.2.1
              refine mw_geta 55 rfl dX9_band_52 gf_X9_71 rfl k260 t259 ?_
              refine mw_callVv [.ref (G.2.2.2 13), .ref (G.2.2.2 k260)] [] 58 rfl dX9_band_55 ml_X9_135 mc_X0_pass mk_X0_pass rfl rfl (by decide) (w_X0_pass l G (d + 0) ⟨by omega, by omega⟩ hI_s240 13 (Or.inr (Or.inr rfl)) k260 hk260) rfl rfl (Nat.le_of_ble_eq_true rfl) (mh_rok (by omega) (by decide)) (fun s262 q263 => ?_)
              obtain ⟨hI_s262, hG_s262⟩ := q263
              have hF_s262 : mh_F S_X9_band s0 s262 := mh_F_tl hF_s240 hG_s262 (by rcases hk260 with rfl | rfl <;> decide +kernel)
              refine mw_iload_n 59 rfl 3 dX9_band_58 rfl rfl ?_
              refine mw_aload_n 60 rfl 0 dX9_band_59 rfl rfl ?_
              refine mw_iload_n 61 rfl 2 dX9_band_60 rfl rfl ?_
              refine mw_callVi [.int p2] [.int x239] 64 rfl dX9_band_61 ml_X9_179 mc_X9_heightFreeOf mk_X9_heightFreeOf rfl rfl (by decide) (w_X9_heightFreeOf l G (d + 3) ⟨by omega, by omega⟩ hI_s262 p2) rfl rfl (Nat.le_of_ble_eq_true rfl) (mh_rok (by omega) (by decide)) (fun x264 s265 q266 => ?_)
              obtain ⟨r_x264, rfl⟩ := q266
              refine mw_mmax (0) (2147483647) 67 rfl dX9_band_64 ml_X9_182 r_x239 r_x264 (by decide) (mh_mr (D := d + 5) (by omega) (Nat.le_of_ble_eq_true rfl)) (fun x267 t268 r_x267 => ?_)
              refine mw_istore_n 68 rfl [(3, .int x267), (0, .ref (G.2.2.2 0)), (1, .int p1), (2, .int p2), (4, .int x238)] dX9_band_67 rfl (by decide) rfl ?_
              refine mw_iincR (k := 4) (1) (60) 71 rfl (fun z => [(4, .int z), (3, .int x267), (0, .ref (G.2.2.2 0)), (1, .int p1), (2, .int p2)]) dX9_band_68 rfl (by decide) (fun _ => rfl) r_x238 (by decide) (by decide) (fun x269 t270 r_x269 => ?_)
              refine mw_goto 74 rfl 37 dX9_band_71 (by decide) ?_
              exact mw_lv [2, 3, 4, 1, 0] rfl (ihn1 x269 x267 s262 (mh_r_wk r_x269 (by decide)) r_x267 hI_s262 hF_s262 (by have : x269.toInt = x238.toInt + (1) := t270; omega))
        exact mw_lv [2, 3, 4, 1, 0] rfl (L37 61 (0) (0) s143 (mh_r_wk rc_0 (by decide)) (mh_r_wk rc_0 (by decide)) hI_s143 hF_s143 (by have := (rc_0).1; have := (rc_0).2; omega))
      · skip
        have r_p2 : mh_r p2 (10000) (2147483647) := mh_lt2 c141 rc_9999 r_p2 (10000) (by decide)
        refine mw_iconst (v := -1) 20 rfl dX9_band_19 (by decide) ?_
        exact mw_iret dX9_band_20 rfl ⟨(-1), rfl, ⟨(mh_r_wk rc_m1 (by decide)), hI0, hF0⟩⟩

def S_X9_cell : List (Nat × Nat) := [(46, 9999), (54, 9999), (47, 9999), (55, 9999)]
def P_X9_cell (B D : Int) (s0 : mh_H) (p1 : Int32) (p2 : Int32) (p3 : Int32) : Int32 → mh_H → Prop := fun z s => mh_r z (-2147483648) (2147483647) ∧ mh_I B D s ∧ mh_F S_X9_cell s0 s
set_option maxRecDepth 100000 in
set_option maxHeartbeats 4000000 in
theorem w_X9_cell (l : Launch) (G : mh_G) (d : Nat) {B D : Int} (hB : B ≤ 1900000000 ∧ D ≤ 1900000000) {s0 : mh_H} (hI0 : mh_I B D s0) (p1 : Int32) (p2 : Int32) (p3 : Int32) : mh_Mi l G (d + 5) mM_X9_cell [.ref (G.2.2.2 0), .int p1, .int p2, .int p3] s0 (P_X9_cell B D s0 p1 p2 p3) := by
  refine mh_enter (lv := [(0, .ref (G.2.2.2 0)), (1, .int p1), (2, .int p2), (3, .int p3)]) (by decide) rfl (Nat.le_of_ble_eq_true rfl) ?_
  have hF0 : mh_F S_X9_cell s0 s0 := mh_F_rf
  refine mw_iload_n 1 rfl 1 dX9_cell_0 rfl rfl ?_
  refine mw_iload_n 2 rfl 2 dX9_cell_1 rfl rfl ?_
  refine mw_callSi [.int p1, .int p2] [] 5 rfl dX9_cell_2 ml_X9_94 mc_X9_isPlace mk_X9_isPlace (w_X9_isPlace l G (d + 3) ⟨by omega, by omega⟩ hI0 p1 p2) rfl rfl (Nat.le_of_ble_eq_true rfl) (mh_rok (by omega) (by decide)) (fun x39 s40 q41 => ?_)
  obtain ⟨r_x39, e0_s40, rfl⟩ := q41
  refine mw_if_ne 8 rfl 10 dX9_cell_5 (by decide) (fun c42 => ?_) (fun c42 => ?_)
  · skip
    have r_p1 : mh_r p1 (0) (11) := ⟨by have := e0_s40.1 (mh_z1 r_x39 c42); have := ((mh_r_full p1)).1; omega, by have := e0_s40.1 (mh_z1 r_x39 c42); have := ((mh_r_full p1)).2; omega⟩
    have r_p2 : mh_r p2 (0) (11) := ⟨by have := e0_s40.1 (mh_z1 r_x39 c42); have := ((mh_r_full p2)).1; omega, by have := e0_s40.1 (mh_z1 r_x39 c42); have := ((mh_r_full p2)).2; omega⟩
    have r_x39 : mh_r x39 (1) (1) := mh_ne1 (show x39.toInt ≠ (0 : Int32).toInt from c42) r_x39 rc_0 (1) (1) (by decide)
    refine mw_bipush (v := 12) 12 rfl dX9_cell_10 (by decide) ?_
    refine mw_iload_n 13 rfl 2 dX9_cell_12 rfl rfl ?_
    refine mw_imul 14 rfl (0) (132) dX9_cell_13 rc_12 r_p2 (by decide) (fun x43 t44 r_x43 => ?_)
    refine mw_iload_n 15 rfl 1 dX9_cell_14 rfl rfl ?_
    refine mw_iadd 16 rfl (0) (143) dX9_cell_15 r_x43 r_p1 (by decide) (fun x45 t46 r_x45 => ?_)
    refine mw_istore 18 rfl [(4, .int x45), (0, .ref (G.2.2.2 0)), (1, .int p1), (2, .int p2), (3, .int p3)] dX9_cell_16  (by decide) rfl ?_
    refine mw_iload_n 19 rfl 4 dX9_cell_18 rfl rfl ?_
    rcases (show p3.toInt = 0 ∨ p3.toInt = 1 ∨ p3.toInt = 2 ∨ p3.toInt = 3 ∨ p3.toInt = 4 ∨ p3.toInt = 5 ∨ p3.toInt = 6 ∨ p3.toInt = 7 ∨ (p3.toInt < 0 ∨ 7 < p3.toInt) by have := (mh_r_full p3).1; have := (mh_r_full p3).2; omega) with c47 | c47 | c47 | c47 | c47 | c47 | c47 | c47 | c47
    · refine mw_tabIn 64 dX9_cell_19 (by rw [c47]; decide) (by rw [c47]; decide) (by rw [c47]; rfl) (by decide) ?_
      have r_p3 : mh_r p3 (0) (0) := mh_eq1 (show p3.toInt = (0 : Int32).toInt from c47.trans rfl) (mh_r_full p3) rc_0 (0) (0) (by decide)
      refine mw_aload_n 65 rfl 1 dX9_cell_64 rfl rfl ?_
      refine mw_geta 68 rfl dX9_cell_65 gf_X9_10 rfl 1 (mh_rf hI0 0 rfl) ?_
      refine mw_geta 71 rfl dX9_cell_68 gf_X9_101 rfl 2 (mh_rf hI0 11 rfl) ?_
      refine mw_iload 73 rfl 0 dX9_cell_71  rfl ?_
      refine mw_iald 74 rfl dX9_cell_73 rfl r_x45 (by decide) (fun x48 t49 => ?_)
      exact mw_iret dX9_cell_74 rfl ⟨x48, rfl, ⟨(mh_r_full x48), hI0, hF0⟩⟩
    · refine mw_tabIn 75 dX9_cell_19 (by rw [c47]; decide) (by rw [c47]; decide) (by rw [c47]; rfl) (by decide) ?_
      have r_p3 : mh_r p3 (1) (1) := mh_eq1 (show p3.toInt = (1 : Int32).toInt from c47.trans rfl) (mh_r_full p3) rc_1 (1) (1) (by decide)
      refine mw_aload_n 76 rfl 1 dX9_cell_75 rfl rfl ?_
      refine mw_geta 79 rfl dX9_cell_76 gf_X9_10 rfl 1 (mh_rf hI0 0 rfl) ?_
      refine mw_geta 82 rfl dX9_cell_79 gf_X9_104 rfl 3 (mh_rf hI0 12 rfl) ?_
      refine mw_iload 84 rfl 0 dX9_cell_82  rfl ?_
      refine mw_iald 85 rfl dX9_cell_84 rfl r_x45 (by decide) (fun x50 t51 => ?_)
      exact mw_iret dX9_cell_85 rfl ⟨x50, rfl, ⟨(mh_r_full x50), hI0, hF0⟩⟩
    · refine mw_tabIn 86 dX9_cell_19 (by rw [c47]; decide) (by rw [c47]; decide) (by rw [c47]; rfl) (by decide) ?_
      have r_p3 : mh_r p3 (2) (2) := mh_eq1 (show p3.toInt = (2 : Int32).toInt from c47.trans rfl) (mh_r_full p3) rc_2 (2) (2) (by decide)
      refine mw_aload_n 87 rfl 1 dX9_cell_86 rfl rfl ?_
      refine mw_geta 90 rfl dX9_cell_87 gf_X9_10 rfl 1 (mh_rf hI0 0 rfl) ?_
      refine mw_geta 93 rfl dX9_cell_90 gf_X9_107 rfl 4 (mh_rf hI0 13 rfl) ?_
      refine mw_iload 95 rfl 0 dX9_cell_93  rfl ?_
      refine mw_iald 96 rfl dX9_cell_95 rfl r_x45 (by decide) (fun x52 t53 => ?_)
      exact mw_iret dX9_cell_96 rfl ⟨x52, rfl, ⟨(mh_r_full x52), hI0, hF0⟩⟩
    · refine mw_tabIn 97 dX9_cell_19 (by rw [c47]; decide) (by rw [c47]; decide) (by rw [c47]; rfl) (by decide) ?_
      have r_p3 : mh_r p3 (3) (3) := mh_eq1 (show p3.toInt = (3 : Int32).toInt from c47.trans rfl) (mh_r_full p3) rc_3 (3) (3) (by decide)
      refine mw_aload_n 98 rfl 1 dX9_cell_97 rfl rfl ?_
      refine mw_geta 101 rfl dX9_cell_98 gf_X9_10 rfl 1 (mh_rf hI0 0 rfl) ?_
      refine mw_geta 104 rfl dX9_cell_101 gf_X9_110 rfl 5 (mh_rf hI0 14 rfl) ?_
      refine mw_iload 106 rfl 0 dX9_cell_104  rfl ?_
      refine mw_iald 107 rfl dX9_cell_106 rfl r_x45 (by decide) (fun x54 t55 => ?_)
      exact mw_iret dX9_cell_107 rfl ⟨x54, rfl, ⟨(mh_r_full x54), hI0, hF0⟩⟩
    · refine mw_tabIn 108 dX9_cell_19 (by rw [c47]; decide) (by rw [c47]; decide) (by rw [c47]; rfl) (by decide) ?_
      have r_p3 : mh_r p3 (4) (4) := mh_eq1 (show p3.toInt = (4 : Int32).toInt from c47.trans rfl) (mh_r_full p3) rc_4 (4) (4) (by decide)
      refine mw_aload_n 109 rfl 1 dX9_cell_108 rfl rfl ?_
      obtain ⟨k57, t56⟩ : ∃ y : Nat, s0.2.2 0 11 = y := ⟨_, rfl⟩
      have hk57 : mh_isL k57 := by rw [← t56]; exact hI0.2.1.2.1
      refine mw_geta 112 rfl dX9_cell_109 gf_X9_71 rfl k57 t56 ?_
      refine mw_aload_n 113 rfl 1 dX9_cell_112 rfl rfl ?_
      refine mw_geta 116 rfl dX9_cell_113 gf_X9_10 rfl 1 (mh_rf hI0 0 rfl) ?_
      refine mw_iload 118 rfl 0 dX9_cell_116  rfl ?_
      refine mw_callVi [.ref (G.2.2.2 1), .int x45] [] 121 rfl dX9_cell_118 ml_X9_139 mc_X1_mist mk_X1_mist (ly_L hk57) rfl (by decide) (w_X1_mist l G (d + 1) ⟨by omega, by omega⟩ hI0 1 (Or.inl rfl) k57 hk57 x45 r_x45) rfl rfl (Nat.le_of_ble_eq_true rfl) (mh_rok (by omega) (by decide)) (fun x58 s59 q60 => ?_)
      obtain ⟨r_x58, hI_s59, hG_s59⟩ := q60
      have hF_s59 : mh_F S_X9_cell s0 s59 := mh_F_tl hF0 hG_s59 (by rcases hk57 with rfl | rfl <;> decide +kernel)
      exact mw_iret dX9_cell_121 rfl ⟨x58, rfl, ⟨(mh_r_wk r_x58 (by decide)), hI_s59, hF_s59⟩⟩
    · refine mw_tabIn 122 dX9_cell_19 (by rw [c47]; decide) (by rw [c47]; decide) (by rw [c47]; rfl) (by decide) ?_
      have r_p3 : mh_r p3 (5) (5) := mh_eq1 (show p3.toInt = (5 : Int32).toInt from c47.trans rfl) (mh_r_full p3) rc_5 (5) (5) (by decide)
      refine mw_aload_n 123 rfl 1 dX9_cell_122 rfl rfl ?_
      obtain ⟨k62, t61⟩ : ∃ y : Nat, s0.2.2 0 11 = y := ⟨_, rfl⟩
      have hk62 : mh_isL k62 := by rw [← t61]; exact hI0.2.1.2.1
      refine mw_geta 126 rfl dX9_cell_123 gf_X9_71 rfl k62 t61 ?_
      refine mw_aload_n 127 rfl 1 dX9_cell_126 rfl rfl ?_
      refine mw_geta 130 rfl dX9_cell_127 gf_X9_10 rfl 1 (mh_rf hI0 0 rfl) ?_
      refine mw_iload 132 rfl 0 dX9_cell_130  rfl ?_
      refine mw_callVi [.ref (G.2.2.2 1), .int x45] [] 135 rfl dX9_cell_132 ml_X9_143 mc_X1_top mk_X1_top (ly_L hk62) rfl (by decide) (w_X1_top l G (d + 0) ⟨by omega, by omega⟩ hI0 1 (Or.inl rfl) k62 hk62 x45 r_x45) rfl rfl (Nat.le_of_ble_eq_true rfl) (mh_rok (by omega) (by decide)) (fun x63 s64 q65 => ?_)
      obtain ⟨r_x63, hI_s64, hG_s64⟩ := q65
      have hF_s64 : mh_F S_X9_cell s0 s64 := mh_F_tl hF0 hG_s64 (by rcases hk62 with rfl | rfl <;> decide +kernel)
      refine mw_callSi [.int x63] [] 138 rfl dX9_cell_135 ml_X9_146 mc_X9_orNothing mk_X9_orNothing (w_X9_orNothing l G (d + 4) ⟨by omega, by omega⟩ hI_s64 x63) rfl rfl (Nat.le_of_ble_eq_true rfl) (mh_rok (by omega) (by decide)) (fun x66 s67 q68 => ?_)
      obtain ⟨r_x66, rfl⟩ := q68
      exact mw_iret dX9_cell_138 rfl ⟨x66, rfl, ⟨(mh_r_wk r_x66 (by decide)), hI_s64, hF_s64⟩⟩
    · refine mw_tabIn 139 dX9_cell_19 (by rw [c47]; decide) (by rw [c47]; decide) (by rw [c47]; rfl) (by decide) ?_
      have r_p3 : mh_r p3 (6) (6) := mh_eq1 (show p3.toInt = (6 : Int32).toInt from c47.trans rfl) (mh_r_full p3) rc_6 (6) (6) (by decide)
      refine mw_aload_n 140 rfl 1 dX9_cell_139 rfl rfl ?_
      obtain ⟨k70, t69⟩ : ∃ y : Nat, s0.2.2 0 11 = y := ⟨_, rfl⟩
      have hk70 : mh_isL k70 := by rw [← t69]; exact hI0.2.1.2.1
      refine mw_geta 143 rfl dX9_cell_140 gf_X9_71 rfl k70 t69 ?_
      refine mw_aload_n 144 rfl 1 dX9_cell_143 rfl rfl ?_
      refine mw_geta 147 rfl dX9_cell_144 gf_X9_10 rfl 1 (mh_rf hI0 0 rfl) ?_
      refine mw_iload 149 rfl 0 dX9_cell_147  rfl ?_
      refine mw_callVi [.ref (G.2.2.2 1), .int x45] [] 152 rfl dX9_cell_149 ml_X9_150 mc_X1_yards mk_X1_yards (ly_L hk70) rfl (by decide) (w_X1_yards l G (d + 0) ⟨by omega, by omega⟩ hI0 1 (Or.inl rfl) k70 hk70 x45 r_x45) rfl rfl (Nat.le_of_ble_eq_true rfl) (mh_rok (by omega) (by decide)) (fun x71 s72 q73 => ?_)
      obtain ⟨r_x71, hI_s72, hG_s72⟩ := q73
      have hF_s72 : mh_F S_X9_cell s0 s72 := mh_F_tl hF0 hG_s72 (by rcases hk70 with rfl | rfl <;> decide +kernel)
      exact mw_iret dX9_cell_152 rfl ⟨x71, rfl, ⟨(mh_r_wk r_x71 (by decide)), hI_s72, hF_s72⟩⟩
    · refine mw_tabIn 153 dX9_cell_19 (by rw [c47]; decide) (by rw [c47]; decide) (by rw [c47]; rfl) (by decide) ?_
      have r_p3 : mh_r p3 (7) (7) := mh_eq1 (show p3.toInt = (7 : Int32).toInt from c47.trans rfl) (mh_r_full p3) rc_7 (7) (7) (by decide)
      refine mw_aload_n 154 rfl 1 dX9_cell_153 rfl rfl ?_
      refine mw_geta 157 rfl dX9_cell_154 gf_X9_10 rfl 1 (mh_rf hI0 0 rfl) ?_
      refine mw_iload 159 rfl 0 dX9_cell_157  rfl ?_
      refine mw_callVi [.int x45] [] 162 rfl dX9_cell_159 ml_X9_153 mc_X8_level mk_X8_level rfl rfl (by decide) (w_X8_level l G (d + 4) ⟨by omega, by omega⟩ hI0 1 (Or.inl rfl) x45 r_x45) rfl rfl (Nat.le_of_ble_eq_true rfl) (mh_rok (by omega) (by decide)) (fun x74 s75 q76 => ?_)
      obtain ⟨r_x74, rfl⟩ := q76
      exact mw_iret dX9_cell_162 rfl ⟨x74, rfl, ⟨r_x74, hI0, hF0⟩⟩
    · refine mw_tabOut 163 dX9_cell_19 c47 (by decide) ?_
      refine mw_iconst (v := -1) 164 rfl dX9_cell_163 (by decide) ?_
      exact mw_iret dX9_cell_164 rfl ⟨(-1), rfl, ⟨(mh_r_wk rc_m1 (by decide)), hI0, hF0⟩⟩
  · skip
    have r_x39 : mh_r x39 (0) (0) := mh_eq1 (show x39.toInt = (0 : Int32).toInt from c42) r_x39 rc_0 (0) (0) (by decide)
    refine mw_iconst (v := -1) 9 rfl dX9_cell_8 (by decide) ?_
    exact mw_iret dX9_cell_9 rfl ⟨(-1), rfl, ⟨(mh_r_wk rc_m1 (by decide)), hI0, hF0⟩⟩

def S_X9_check : List (Nat × Nat) := [(37, 1)]
def P_X9_check (B D : Int) (s0 : mh_H) (p1 : Int32) (p2 : Int32) : Int32 → mh_H → Prop := fun z s => mh_r z (-2) (11) ∧ mh_I B D s ∧ mh_F S_X9_check s0 s
set_option maxRecDepth 100000 in
set_option maxHeartbeats 4000000 in
theorem w_X9_check (l : Launch) (G : mh_G) (d : Nat) {B D : Int} (hB : B ≤ 1940000000 ∧ D ≤ 1940000000) {s0 : mh_H} (hI0 : mh_I B D s0) (p1 : Int32) (p2 : Int32) : mh_Mi l G (d + 3) mM_X9_check [.ref (G.2.2.2 0), .int p1, .int p2] s0 (P_X9_check B D s0 p1 p2) := by
  refine mh_enter (lv := [(0, .ref (G.2.2.2 0)), (1, .int p1), (2, .int p2)]) (by decide) rfl (Nat.le_of_ble_eq_true rfl) ?_
  have hF0 : mh_F S_X9_check s0 s0 := mh_F_rf
  refine mw_iload_n 1 rfl 1 dX9_check_0 rfl rfl ?_
  refine mw_bipush (v := 11) 3 rfl dX9_check_1 (by decide) ?_
  refine mw_callSi [.int p1, .int (11)] [] 6 rfl dX9_check_3 ml_X9_98 mc_X9_isWithin mk_X9_isWithin (w_X9_isWithin l G (d + 2) ⟨by omega, by omega⟩ hI0 p1 (11)) rfl rfl (Nat.le_of_ble_eq_true rfl) (mh_rok (by omega) (by decide)) (fun x169 s170 q171 => ?_)
  obtain ⟨r_x169, e0_s170, rfl⟩ := q171
  refine mw_if_eq 9 rfl 31 dX9_check_6 (by decide) (fun c172 => ?_) (fun c172 => ?_)
  · skip
    have r_x169 : mh_r x169 (0) (0) := mh_eq1 (show x169.toInt = (0 : Int32).toInt from c172) r_x169 rc_0 (0) (0) (by decide)
    refine mw_bipush (v := -2) 33 rfl dX9_check_31 (by decide) ?_
    exact mw_iret dX9_check_33 rfl ⟨(-2), rfl, ⟨(mh_r_wk rc_m2 (by decide)), hI0, hF0⟩⟩
  · skip
    have r_p1 : mh_r p1 (0) (11) := ⟨by have := e0_s170.1 (mh_z1 r_x169 c172); have := ((mh_r_full p1)).1; omega, by have := e0_s170.1 (mh_z1 r_x169 c172); have := ((mh_r_full p1)).2; have := (rc_11).2; omega⟩
    have r_x169 : mh_r x169 (1) (1) := mh_ne1 (show x169.toInt ≠ (0 : Int32).toInt from c172) r_x169 rc_0 (1) (1) (by decide)
    refine mw_iload_n 10 rfl 2 dX9_check_9 rfl rfl ?_
    refine mw_bipush (v := 12) 12 rfl dX9_check_10 (by decide) ?_
    refine mw_callSi [.int p2, .int (12)] [] 15 rfl dX9_check_12 ml_X9_98 mc_X9_isWithin mk_X9_isWithin (w_X9_isWithin l G (d + 2) ⟨by omega, by omega⟩ hI0 p2 (12)) rfl rfl (Nat.le_of_ble_eq_true rfl) (mh_rok (by omega) (by decide)) (fun x173 s174 q175 => ?_)
    obtain ⟨r_x173, e0_s174, rfl⟩ := q175
    refine mw_if_eq 18 rfl 31 dX9_check_15 (by decide) (fun c176 => ?_) (fun c176 => ?_)
    · skip
      have r_x173 : mh_r x173 (0) (0) := mh_eq1 (show x173.toInt = (0 : Int32).toInt from c176) r_x173 rc_0 (0) (0) (by decide)
      refine mw_bipush (v := -2) 33 rfl dX9_check_31 (by decide) ?_
      exact mw_iret dX9_check_33 rfl ⟨(-2), rfl, ⟨(mh_r_wk rc_m2 (by decide)), hI0, hF0⟩⟩
    · skip
      have r_p2 : mh_r p2 (0) (12) := ⟨by have := e0_s174.1 (mh_z1 r_x173 c176); have := ((mh_r_full p2)).1; omega, by have := e0_s174.1 (mh_z1 r_x173 c176); have := ((mh_r_full p2)).2; have := (rc_12).2; omega⟩
      have r_x173 : mh_r x173 (1) (1) := mh_ne1 (show x173.toInt ≠ (0 : Int32).toInt from c176) r_x173 rc_0 (1) (1) (by decide)
      refine mw_iconst (v := 4) 19 rfl dX9_check_18 (by decide) ?_
      refine mw_iload_n 20 rfl 2 dX9_check_19 rfl rfl ?_
      refine mw_imul 21 rfl (0) (48) dX9_check_20 rc_4 r_p2 (by decide) (fun x177 t178 r_x177 => ?_)
      refine mw_aload_n 22 rfl 0 dX9_check_21 rfl rfl ?_
      refine mw_geta 25 rfl dX9_check_22 gf_X9_60 rfl 37 (mh_rf hI0 8 rfl) ?_
      refine mw_geti 28 rfl dX9_check_25 gf_X9_116 rfl (fun x179 t180 => ?_)
      have r_x179 : mh_r x179 (0) (220) := by rw [t180]; exact rd_37_1 hI0
      refine mw_icmp_le 31 rfl 34 dX9_check_28 (by decide) (fun c181 => ?_) (fun c181 => ?_)
      · skip
        refine mw_aload_n 35 rfl 0 dX9_check_34 rfl rfl ?_
        refine mw_geta 38 rfl dX9_check_35 gf_X9_60 rfl 37 (mh_rf hI0 8 rfl) ?_
        refine mw_iconst (v := 0) 39 rfl dX9_check_38 (by decide) ?_
        refine mw_puti 42 rfl dX9_check_39 pf_X9_116 rfl (fun s182 t183 => ?_)
        have hI_s182 : mh_I B D s182 := by rw [t183]; exact wr_37_1 hI0 (mh_r_wk rc_0 (by decide))
        have hF_s182 : mh_F S_X9_check s0 s182 := by rw [t183]; exact mh_F_pI hF0 (mh_sj 0 rfl)
        refine mw_iconst (v := 0) 43 rfl dX9_check_42 (by decide) ?_
        refine mw_istore_n 44 rfl [(3, .int (0)), (0, .ref (G.2.2.2 0)), (1, .int p1), (2, .int p2)] dX9_check_43 rfl (by decide) rfl ?_
        have L44 : ∀ n1 : Nat, ∀ (x309 : Int32), mh_r x309 (0) (12) → (12) - x309.toInt < (n1 : Int) → mh_W G (mh_XM l G (d + 3) (mh_Qi (P_X9_check B D s0 p1 p2))) mM_X9_check 44 [(0, .ref (G.2.2.2 0)), (1, .int p1), (2, .int p2), (3, .int x309)] [] s182 := by
          intro n1
          induction n1 with
          | zero =>
            intro x309 r_x309 hmn1
            exact absurd hmn1 (by have := r_x309.1; have := r_x309.2; omega)
          | succ n1 ihn1 =>
            intro x309 r_x309 hmn1
            refine mw_iload_n 45 rfl 3 dX9_check_44 rfl rfl ?_
            refine mw_iload_n 46 rfl 2 dX9_check_45 rfl rfl ?_
            refine mw_icmp_ge 49 rfl 82 dX9_check_46 (by decide) (fun c324 => ?_) (fun c324 => ?_)
            · skip
              refine mw_iconst (v := -1) 83 rfl dX9_check_82 (by decide) ?_
              exact mw_iret dX9_check_83 rfl ⟨(-1), rfl, ⟨(mh_r_wk rc_m1 (by decide)), hI_s182, hF_s182⟩⟩
            · skip
              have r_x309 : mh_r x309 (0) (11) := mh_lt1 c324 r_x309 r_p2 (11) (by decide)
              have r_p2 : mh_r p2 (1) (12) := mh_lt2 c324 r_x309 r_p2 (1) (by decide)
              refine mw_aload_n 50 rfl 0 dX9_check_49 rfl rfl ?_
              refine mw_geta 53 rfl dX9_check_50 gf_X9_60 rfl 37 (mh_rf hI_s182 8 rfl) ?_
              refine mw_iload_n 54 rfl 3 dX9_check_53 rfl rfl ?_
              refine mw_callVi [.int x309] [] 57 rfl dX9_check_54 ml_X9_301 mc_X7_number mk_X7_number rfl rfl (by decide) (w_X7_number l G (d + 0) ⟨by omega, by omega⟩ hI_s182 x309) rfl rfl (Nat.le_of_ble_eq_true rfl) (mh_rok (by omega) (by decide)) (fun x325 s326 q327 => ?_)
              obtain ⟨r_x325, rfl⟩ := q327
              refine mw_aload_n 58 rfl 0 dX9_check_57 rfl rfl ?_
              refine mw_geta 61 rfl dX9_check_58 gf_X9_10 rfl 1 (mh_rf hI_s182 0 rfl) ?_
              refine mw_geta 64 rfl dX9_check_61 gf_X9_107 rfl 4 (mh_rf hI_s182 13 rfl) ?_
              refine mw_bipush (v := 12) 66 rfl dX9_check_64 (by decide) ?_
              refine mw_iload_n 67 rfl 1 dX9_check_66 rfl rfl ?_
              refine mw_imul 68 rfl (0) (132) dX9_check_67 rc_12 r_p1 (by decide) (fun x328 t329 r_x328 => ?_)
              refine mw_iload_n 69 rfl 3 dX9_check_68 rfl rfl ?_
              refine mw_iadd 70 rfl (0) (143) dX9_check_69 r_x328 r_x309 (by decide) (fun x330 t331 r_x330 => ?_)
              refine mw_iald 71 rfl dX9_check_70 rfl r_x330 (by decide) (fun x332 t333 => ?_)
              refine mw_icmp_eq 74 rfl 76 dX9_check_71 (by decide) (fun c334 => ?_) (fun c334 => ?_)
              · skip
                refine mw_iincR (k := 3) (1) (12) 79 rfl (fun z => [(3, .int z), (0, .ref (G.2.2.2 0)), (1, .int p1), (2, .int p2)]) dX9_check_76 rfl (by decide) (fun _ => rfl) r_x309 (by decide) (by decide) (fun x335 t336 r_x335 => ?_)
                refine mw_goto 82 rfl 44 dX9_check_79 (by decide) ?_
                exact mw_lv [1, 2, 3, 0] rfl (ihn1 x335 (mh_r_wk r_x335 (by decide)) (by have : x335.toInt = x309.toInt + (1) := t336; omega))
              · skip
                refine mw_iload_n 75 rfl 3 dX9_check_74 rfl rfl ?_
                exact mw_iret dX9_check_75 rfl ⟨x309, rfl, ⟨(mh_r_wk r_x309 (by decide)), hI_s182, hF_s182⟩⟩
        exact mw_lv [1, 2, 3, 0] rfl (L44 13 (0) (mh_r_wk rc_0 (by decide)) (by have := (rc_0).1; have := (rc_0).2; omega))
      · skip
        have r_x179 : mh_r x179 (0) (47) := mh_lt1 c181 r_x179 r_x177 (47) (by decide)
        have r_x177 : mh_r x177 (1) (48) := mh_lt2 c181 r_x179 r_x177 (1) (by decide)
        refine mw_bipush (v := -2) 33 rfl dX9_check_31 (by decide) ?_
        exact mw_iret dX9_check_33 rfl ⟨(-2), rfl, ⟨(mh_r_wk rc_m2 (by decide)), hI0, hF0⟩⟩

def P_X9_count (B D : Int) (s0 : mh_H) (p1 : Int32) : Int32 → mh_H → Prop := fun z s => mh_r z (-2147483648) (2147483647) ∧ s0 = s
set_option maxRecDepth 100000 in
set_option maxHeartbeats 4000000 in
theorem w_X9_count (l : Launch) (G : mh_G) (d : Nat) {B D : Int} (hB : B ≤ 1960000000 ∧ D ≤ 1960000000) {s0 : mh_H} (hI0 : mh_I B D s0) (p1 : Int32) : mh_Mi l G (d + 2) mM_X9_count [.ref (G.2.2.2 0), .int p1] s0 (P_X9_count B D s0 p1) := by
  refine mh_enter (lv := [(0, .ref (G.2.2.2 0)), (1, .int p1)]) (by decide) rfl (Nat.le_of_ble_eq_true rfl) ?_
  refine mw_iload_n 1 rfl 1 dX9_count_0 rfl rfl ?_
  rcases (show p1.toInt = 0 ∨ p1.toInt = 1 ∨ p1.toInt = 2 ∨ p1.toInt = 3 ∨ p1.toInt = 4 ∨ p1.toInt = 5 ∨ (p1.toInt < 0 ∨ 5 < p1.toInt) by have := (mh_r_full p1).1; have := (mh_r_full p1).2; omega) with c22 | c22 | c22 | c22 | c22 | c22 | c22
  · refine mw_tabIn 40 dX9_count_1 (by rw [c22]; decide) (by rw [c22]; decide) (by rw [c22]; rfl) (by decide) ?_
    have r_p1 : mh_r p1 (0) (0) := mh_eq1 (show p1.toInt = (0 : Int32).toInt from c22.trans rfl) (mh_r_full p1) rc_0 (0) (0) (by decide)
    refine mw_aload_n 41 rfl 0 dX9_count_40 rfl rfl ?_
    refine mw_geta 44 rfl dX9_count_41 gf_X9_10 rfl 1 (mh_rf hI0 0 rfl) ?_
    refine mw_geti 47 rfl dX9_count_44 gf_X9_176 rfl (fun x23 t24 => ?_)
    exact mw_iret dX9_count_47 rfl ⟨x23, rfl, ⟨(mh_r_full x23), rfl⟩⟩
  · refine mw_tabIn 48 dX9_count_1 (by rw [c22]; decide) (by rw [c22]; decide) (by rw [c22]; rfl) (by decide) ?_
    have r_p1 : mh_r p1 (1) (1) := mh_eq1 (show p1.toInt = (1 : Int32).toInt from c22.trans rfl) (mh_r_full p1) rc_1 (1) (1) (by decide)
    refine mw_aload_n 49 rfl 0 dX9_count_48 rfl rfl ?_
    obtain ⟨k26, t25⟩ : ∃ y : Nat, s0.2.2 0 11 = y := ⟨_, rfl⟩
    have hk26 : mh_isL k26 := by rw [← t25]; exact hI0.2.1.2.1
    refine mw_geta 52 rfl dX9_count_49 gf_X9_71 rfl k26 t25 ?_
    refine mw_geti 55 rfl dX9_count_52 gf_X9_304 (ly_L hk26) (fun x27 t28 => ?_)
    have r_x27 : mh_r x27 (0) (14) := by rw [t28]; exact rd_L_7 hI0 hk26
    exact mw_iret dX9_count_55 rfl ⟨x27, rfl, ⟨(mh_r_wk r_x27 (by decide)), rfl⟩⟩
  · refine mw_tabIn 56 dX9_count_1 (by rw [c22]; decide) (by rw [c22]; decide) (by rw [c22]; rfl) (by decide) ?_
    have r_p1 : mh_r p1 (2) (2) := mh_eq1 (show p1.toInt = (2 : Int32).toInt from c22.trans rfl) (mh_r_full p1) rc_2 (2) (2) (by decide)
    refine mw_aload_n 57 rfl 0 dX9_count_56 rfl rfl ?_
    refine mw_geta 60 rfl dX9_count_57 gf_X9_60 rfl 37 (mh_rf hI0 8 rfl) ?_
    refine mw_geti 63 rfl dX9_count_60 gf_X9_116 rfl (fun x29 t30 => ?_)
    have r_x29 : mh_r x29 (0) (220) := by rw [t30]; exact rd_37_1 hI0
    exact mw_iret dX9_count_63 rfl ⟨x29, rfl, ⟨(mh_r_wk r_x29 (by decide)), rfl⟩⟩
  · refine mw_tabIn 64 dX9_count_1 (by rw [c22]; decide) (by rw [c22]; decide) (by rw [c22]; rfl) (by decide) ?_
    have r_p1 : mh_r p1 (3) (3) := mh_eq1 (show p1.toInt = (3 : Int32).toInt from c22.trans rfl) (mh_r_full p1) rc_3 (3) (3) (by decide)
    refine mw_aload_n 65 rfl 0 dX9_count_64 rfl rfl ?_
    refine mw_geta 68 rfl dX9_count_65 gf_X9_46 rfl 29 (mh_rf hI0 6 rfl) ?_
    refine mw_geti 71 rfl dX9_count_68 gf_X9_236 rfl (fun x31 t32 => ?_)
    have r_x31 : mh_r x31 (0) (60) := by rw [t32]; exact rd_29_5 hI0
    exact mw_iret dX9_count_71 rfl ⟨x31, rfl, ⟨(mh_r_wk r_x31 (by decide)), rfl⟩⟩
  · refine mw_tabIn 72 dX9_count_1 (by rw [c22]; decide) (by rw [c22]; decide) (by rw [c22]; rfl) (by decide) ?_
    have r_p1 : mh_r p1 (4) (4) := mh_eq1 (show p1.toInt = (4 : Int32).toInt from c22.trans rfl) (mh_r_full p1) rc_4 (4) (4) (by decide)
    refine mw_aload_n 73 rfl 0 dX9_count_72 rfl rfl ?_
    refine mw_geta 76 rfl dX9_count_73 gf_X9_39 rfl 23 (mh_rf hI0 5 rfl) ?_
    refine mw_geti 79 rfl dX9_count_76 gf_X9_210 rfl (fun x33 t34 => ?_)
    exact mw_iret dX9_count_79 rfl ⟨x33, rfl, ⟨(mh_r_full x33), rfl⟩⟩
  · refine mw_tabIn 80 dX9_count_1 (by rw [c22]; decide) (by rw [c22]; decide) (by rw [c22]; rfl) (by decide) ?_
    have r_p1 : mh_r p1 (5) (5) := mh_eq1 (show p1.toInt = (5 : Int32).toInt from c22.trans rfl) (mh_r_full p1) rc_5 (5) (5) (by decide)
    refine mw_aload_n 81 rfl 0 dX9_count_80 rfl rfl ?_
    refine mw_geta 84 rfl dX9_count_81 gf_X9_10 rfl 1 (mh_rf hI0 0 rfl) ?_
    refine mw_geti 87 rfl dX9_count_84 gf_X9_295 rfl (fun x35 t36 => ?_)
    exact mw_iret dX9_count_87 rfl ⟨x35, rfl, ⟨(mh_r_full x35), rfl⟩⟩
  · refine mw_tabOut 88 dX9_count_1 c22 (by decide) ?_
    refine mw_iload_n 89 rfl 1 dX9_count_88 rfl rfl ?_
    refine mw_bipush (v := 100) 91 rfl dX9_count_89 (by decide) ?_
    refine mw_icmp_ge 94 rfl 98 dX9_count_91 (by decide) (fun c37 => ?_) (fun c37 => ?_)
    · skip
      have r_p1 : mh_r p1 (100) (2147483647) := mh_le2 c37 rc_100 (mh_r_full p1) (100) (by decide)
      refine mw_aload_n 99 rfl 0 dX9_count_98 rfl rfl ?_
      refine mw_geta 102 rfl dX9_count_99 gf_X9_10 rfl 1 (mh_rf hI0 0 rfl) ?_
      refine mw_iload_n 103 rfl 1 dX9_count_102 rfl rfl ?_
      refine mw_bipush (v := 100) 105 rfl dX9_count_103 (by decide) ?_
      refine mw_isub 106 rfl (0) (2147483547) dX9_count_105 r_p1 rc_100 (by decide) (fun x38 t39 r_x38 => ?_)
      refine mw_callVi [.int x38] [] 109 rfl dX9_count_106 ml_X9_307 mc_X8_windOf mk_X8_windOf rfl rfl (by decide) (w_X8_windOf l G (d + 0) ⟨by omega, by omega⟩ hI0 1 (Or.inl rfl) x38) rfl rfl (Nat.le_of_ble_eq_true rfl) (mh_rok (by omega) (by decide)) (fun x40 s41 q42 => ?_)
      obtain ⟨r_x40, rfl⟩ := q42
      exact mw_iret dX9_count_109 rfl ⟨x40, rfl, ⟨r_x40, rfl⟩⟩
    · skip
      have r_p1 : mh_r p1 (-2147483648) (99) := mh_lt1 c37 (mh_r_full p1) rc_100 (99) (by decide)
      refine mw_iconst (v := -1) 95 rfl dX9_count_94 (by decide) ?_
      refine mw_goto 98 rfl 109 dX9_count_95 (by decide) ?_
      exact mw_iret dX9_count_109 rfl ⟨(-1), rfl, ⟨(mh_r_wk rc_m1 (by decide)), rfl⟩⟩

def S_X9_dam : List (Nat × Nat) := [(14, 9999), (15, 9999), (16, 9999), (17, 9999), (18, 9999), (13, 5), (13, 6), (13, 7), (46, 9999), (54, 9999), (47, 9999), (55, 9999), (20, 9999), (21, 9999)]
def P_X9_dam (B D : Int) (s0 : mh_H) (p1 : Int32) (p2 : Int32) (p3 : Int32) : Int32 → mh_H → Prop := fun z s => mh_r z (-2147483648) (10000) ∧ mh_I B D s ∧ mh_F S_X9_dam s0 s
set_option maxRecDepth 100000 in
set_option maxHeartbeats 4000000 in
theorem w_X9_dam (l : Launch) (G : mh_G) (d : Nat) {B D : Int} (hB : B ≤ 1880000000 ∧ D ≤ 1880000000) {s0 : mh_H} (hI0 : mh_I B D s0) (p1 : Int32) (p2 : Int32) (p3 : Int32) : mh_Mi l G (d + 6) mM_X9_dam [.ref (G.2.2.2 0), .int p1, .int p2, .int p3] s0 (P_X9_dam B D s0 p1 p2 p3) := by
  refine mh_enter (lv := [(0, .ref (G.2.2.2 0)), (1, .int p1), (2, .int p2), (3, .int p3)]) (by decide) rfl (Nat.le_of_ble_eq_true rfl) ?_
  have hF0 : mh_F S_X9_dam s0 s0 := mh_F_rf
  refine mw_iload_n 1 rfl 1 dX9_dam_0 rfl rfl ?_
  refine mw_sipush (v := 143) 4 rfl dX9_dam_1 (by decide) ?_
  refine mw_callSi [.int p1, .int (143)] [] 7 rfl dX9_dam_4 ml_X9_98 mc_X9_isWithin mk_X9_isWithin (w_X9_isWithin l G (d + 5) ⟨by omega, by omega⟩ hI0 p1 (143)) rfl rfl (Nat.le_of_ble_eq_true rfl) (mh_rok (by omega) (by decide)) (fun x309 s310 q311 => ?_)
  obtain ⟨r_x309, e0_s310, rfl⟩ := q311
  refine mw_if_eq 10 rfl 29 dX9_dam_7 (by decide) (fun c312 => ?_) (fun c312 => ?_)
  · skip
    have r_x309 : mh_r x309 (0) (0) := mh_eq1 (show x309.toInt = (0 : Int32).toInt from c312) r_x309 rc_0 (0) (0) (by decide)
    refine mw_iconst (v := -1) 30 rfl dX9_dam_29 (by decide) ?_
    exact mw_iret dX9_dam_30 rfl ⟨(-1), rfl, ⟨(mh_r_wk rc_m1 (by decide)), hI0, hF0⟩⟩
  · skip
    have r_p1 : mh_r p1 (0) (143) := ⟨by have := e0_s310.1 (mh_z1 r_x309 c312); have := ((mh_r_full p1)).1; omega, by have := e0_s310.1 (mh_z1 r_x309 c312); have := ((mh_r_full p1)).2; have := (rc_143).2; omega⟩
    have r_x309 : mh_r x309 (1) (1) := mh_ne1 (show x309.toInt ≠ (0 : Int32).toInt from c312) r_x309 rc_0 (1) (1) (by decide)
    refine mw_iload_n 11 rfl 2 dX9_dam_10 rfl rfl ?_
    refine mw_iconst (v := 1) 12 rfl dX9_dam_11 (by decide) ?_
    refine mw_icmp_lt 15 rfl 29 dX9_dam_12 (by decide) (fun c313 => ?_) (fun c313 => ?_)
    · skip
      have r_p2 : mh_r p2 (-2147483648) (0) := mh_lt1 c313 (mh_r_full p2) rc_1 (0) (by decide)
      refine mw_iconst (v := -1) 30 rfl dX9_dam_29 (by decide) ?_
      exact mw_iret dX9_dam_30 rfl ⟨(-1), rfl, ⟨(mh_r_wk rc_m1 (by decide)), hI0, hF0⟩⟩
    · skip
      have r_p2 : mh_r p2 (1) (2147483647) := mh_le2 c313 rc_1 (mh_r_full p2) (1) (by decide)
      refine mw_iload_n 16 rfl 2 dX9_dam_15 rfl rfl ?_
      refine mw_bipush (v := 20) 18 rfl dX9_dam_16 (by decide) ?_
      refine mw_icmp_gt 21 rfl 29 dX9_dam_18 (by decide) (fun c314 => ?_) (fun c314 => ?_)
      · skip
        have r_p2 : mh_r p2 (21) (2147483647) := mh_lt2 c314 rc_20 r_p2 (21) (by decide)
        refine mw_iconst (v := -1) 30 rfl dX9_dam_29 (by decide) ?_
        exact mw_iret dX9_dam_30 rfl ⟨(-1), rfl, ⟨(mh_r_wk rc_m1 (by decide)), hI0, hF0⟩⟩
      · skip
        have r_p2 : mh_r p2 (1) (20) := mh_le1 c314 r_p2 rc_20 (20) (by decide)
        refine mw_iload_n 22 rfl 3 dX9_dam_21 rfl rfl ?_
        refine mw_iconst (v := 1) 23 rfl dX9_dam_22 (by decide) ?_
        refine mw_callSi [.int p3, .int (1)] [] 26 rfl dX9_dam_23 ml_X9_98 mc_X9_isWithin mk_X9_isWithin (w_X9_isWithin l G (d + 5) ⟨by omega, by omega⟩ hI0 p3 (1)) rfl rfl (Nat.le_of_ble_eq_true rfl) (mh_rok (by omega) (by decide)) (fun x315 s316 q317 => ?_)
        obtain ⟨r_x315, e0_s316, rfl⟩ := q317
        refine mw_if_ne 29 rfl 31 dX9_dam_26 (by decide) (fun c318 => ?_) (fun c318 => ?_)
        · skip
          have r_p3 : mh_r p3 (0) (1) := ⟨by have := e0_s316.1 (mh_z1 r_x315 c318); have := ((mh_r_full p3)).1; omega, by have := e0_s316.1 (mh_z1 r_x315 c318); have := ((mh_r_full p3)).2; have := (rc_1).2; omega⟩
          have r_x315 : mh_r x315 (1) (1) := mh_ne1 (show x315.toInt ≠ (0 : Int32).toInt from c318) r_x315 rc_0 (1) (1) (by decide)
          refine mw_bipush (v := -2) 33 rfl dX9_dam_31 (by decide) ?_
          refine mw_istore 35 rfl [(4, .int (-2)), (0, .ref (G.2.2.2 0)), (1, .int p1), (2, .int p2), (3, .int p3)] dX9_dam_33  (by decide) rfl ?_
          refine mw_sipush (v := 10000) 38 rfl dX9_dam_35 (by decide) ?_
          refine mw_istore 40 rfl [(5, .int (10000)), (4, .int (-2)), (0, .ref (G.2.2.2 0)), (1, .int p1), (2, .int p2), (3, .int p3)] dX9_dam_38  (by decide) rfl ?_
          refine mw_iconst (v := 0) 41 rfl dX9_dam_40 (by decide) ?_
          refine mw_istore 43 rfl [(6, .int (0)), (5, .int (10000)), (4, .int (-2)), (0, .ref (G.2.2.2 0)), (1, .int p1), (2, .int p2), (3, .int p3)] dX9_dam_41  (by decide) rfl ?_
          have L43 : ∀ n1 : Nat, ∀ (x575 : Int32) (x576 : Int32) (x577 : Int32) (s578 : mh_H), mh_r x575 (0) (144) → mh_r x576 (-2147483648) (10000) → mh_r x577 (-2) (143) → mh_I B D s578 → mh_F S_X9_dam s0 s578 → (144) - x575.toInt < (n1 : Int) → mh_W G (mh_XM l G (d + 6) (mh_Qi (P_X9_dam B D s0 p1 p2 p3))) mM_X9_dam 43 [(0, .ref (G.2.2.2 0)), (1, .int p1), (2, .int p2), (3, .int p3), (4, .int x577), (5, .int x576), (6, .int x575)] [] s578 := by
            intro n1
            induction n1 with
            | zero =>
              intro x575 x576 x577 s578 r_x575 r_x576 r_x577 hI_s578 hF_s578 hmn1
              exact absurd hmn1 (by have := r_x575.1; have := r_x575.2; omega)
            | succ n1 ihn1 =>
              intro x575 x576 x577 s578 r_x575 r_x576 r_x577 hI_s578 hF_s578 hmn1
              refine mw_iload 45 rfl 6 dX9_dam_43  rfl ?_
              refine mw_sipush (v := 144) 48 rfl dX9_dam_45 (by decide) ?_
              refine mw_icmp_ge 51 rfl 107 dX9_dam_48 (by decide) (fun c599 => ?_) (fun c599 => ?_)
              · skip
                have r_x575 : mh_r x575 (144) (144) := mh_le2 c599 rc_144 r_x575 (144) (by decide)
                refine mw_iload_n 108 rfl 3 dX9_dam_107 rfl rfl ?_
                refine mw_if_ne 111 rfl 116 dX9_dam_108 (by decide) (fun c600 => ?_) (fun c600 => ?_)
                · skip
                  have r_p3 : mh_r p3 (1) (1) := mh_ne1 (show p3.toInt ≠ (0 : Int32).toInt from c600) r_p3 rc_0 (1) (1) (by decide)
                  refine mw_iload 118 rfl 5 dX9_dam_116  rfl ?_
                  exact mw_iret dX9_dam_118 rfl ⟨x576, rfl, ⟨r_x576, hI_s578, hF_s578⟩⟩
                · skip
                  have r_p3 : mh_r p3 (0) (0) := mh_eq1 (show p3.toInt = (0 : Int32).toInt from c600) r_p3 rc_0 (0) (0) (by decide)
                  refine mw_iload 113 rfl 4 dX9_dam_111  rfl ?_
                  refine mw_goto 116 rfl 118 dX9_dam_113 (by decide) ?_
                  exact mw_iret dX9_dam_118 rfl ⟨x577, rfl, ⟨(mh_r_wk r_x577 (by decide)), hI_s578, hF_s578⟩⟩
              · skip
                have r_x575 : mh_r x575 (0) (143) := mh_lt1 c599 r_x575 rc_144 (143) (by decide)
                refine mw_iload 53 rfl 5 dX9_dam_51  rfl ?_
                refine mw_if_le 56 rfl 107 dX9_dam_53 (by decide) (fun c601 => ?_) (fun c601 => ?_)
                · skip
                  have r_x576 : mh_r x576 (-2147483648) (0) := mh_le1 (show x576.toInt ≤ (0 : Int32).toInt from c601) r_x576 rc_0 (0) (by decide)
                  refine mw_iload_n 108 rfl 3 dX9_dam_107 rfl rfl ?_
                  refine mw_if_ne 111 rfl 116 dX9_dam_108 (by decide) (fun c602 => ?_) (fun c602 => ?_)
                  · skip
                    have r_p3 : mh_r p3 (1) (1) := mh_ne1 (show p3.toInt ≠ (0 : Int32).toInt from c602) r_p3 rc_0 (1) (1) (by decide)
                    refine mw_iload 118 rfl 5 dX9_dam_116  rfl ?_
                    exact mw_iret dX9_dam_118 rfl ⟨x576, rfl, ⟨(mh_r_wk r_x576 (by decide)), hI_s578, hF_s578⟩⟩
                  · skip
                    have r_p3 : mh_r p3 (0) (0) := mh_eq1 (show p3.toInt = (0 : Int32).toInt from c602) r_p3 rc_0 (0) (0) (by decide)
                    refine mw_iload 113 rfl 4 dX9_dam_111  rfl ?_
                    refine mw_goto 116 rfl 118 dX9_dam_113 (by decide) ?_
                    exact mw_iret dX9_dam_118 rfl ⟨x577, rfl, ⟨(mh_r_wk r_x577 (by decide)), hI_s578, hF_s578⟩⟩
                · skip
                  have r_x576 : mh_r x576 (1) (10000) := mh_lt2 (show (0 : Int32).toInt < x576.toInt from c601) rc_0 r_x576 (1) (by decide)
                  refine mw_iload 58 rfl 6 dX9_dam_56  rfl ?_
                  refine mw_iload_n 59 rfl 1 dX9_dam_58 rfl rfl ?_
                  have J101 : ∀ (x612 : Int32) (x613 : Int32) (s614 : mh_H), mh_r x612 (-2) (143) → mh_r x613 (-2147483648) (10000) → mh_I B D s614 → mh_F S_X9_dam s0 s614 → mh_W G (mh_XM l G (d + 6) (mh_Qi (P_X9_dam B D s0 p1 p2 p3))) mM_X9_dam 101 [(0, .ref (G.2.2.2 0)), (1, .int p1), (2, .int p2), (3, .int p3), (4, .int x612), (5, .int x613), (6, .int x575)] [] s614 := by
                    intro x612 x613 s614 r_x612 r_x613 hI_s614 hF_s614
                    refine mw_iincR (k := 6) (1) (144) 104 rfl (fun z => [(6, .int z), (0, .ref (G.2.2.2 0)), (1, .int p1), (2, .int p2), (3, .int p3), (4, .int x612), (5, .int x613)]) dX9_dam_101 rfl (by decide) (fun _ => rfl) r_x575 (by decide) (by decide) (fun x617 t618 r_x617 => ?_)
                    refine mw_goto 107 rfl 43 dX9_dam_104 (by decide) ?_
                    exact mw_lv [1, 2, 3, 4, 5, 6, 0] rfl (ihn1 x617 x613 x612 s614 (mh_r_wk r_x617 (by decide)) r_x613 r_x612 hI_s614 hF_s614 (by have : x617.toInt = x575.toInt + (1) := t618; omega))
                  refine mw_icmp_ne 62 rfl 65 dX9_dam_59 (by decide) (fun c619 => ?_) (fun c619 => ?_)
                  · skip
                    refine mw_aload_n 66 rfl 0 dX9_dam_65 rfl rfl ?_
                    refine mw_iload_n 67 rfl 2 dX9_dam_66 rfl rfl ?_
                    refine mw_iload 69 rfl 6 dX9_dam_67  rfl ?_
                    refine mw_callVv [.int p2, .int x575] [] 72 rfl dX9_dam_69 ml_X9_188 mc_X9_passTrial mk_X9_passTrial rfl rfl (by decide) (w_X9_passTrial l G (d + 0) ⟨by omega, by omega⟩ hI_s578 p2 (mh_r_wk r_p2 (by decide)) x575 (mh_r_wk r_x575 (by decide))) rfl rfl (Nat.le_of_ble_eq_true rfl) (mh_rok (by omega) (by decide)) (fun s621 q622 => ?_)
                    obtain ⟨hI_s621, hG_s621⟩ := q622
                    have hF_s621 : mh_F S_X9_dam s0 s621 := mh_F_tl hF_s578 hG_s621 (by decide +kernel)
                    refine mw_aload_n 73 rfl 0 dX9_dam_72 rfl rfl ?_
                    refine mw_geta 76 rfl dX9_dam_73 gf_X9_19 rfl 13 (mh_rf hI_s621 2 rfl) ?_
                    refine mw_geta 79 rfl dX9_dam_76 gf_X9_107 rfl 16 (mh_rf hI_s621 23 rfl) ?_
                    refine mw_iload_n 80 rfl 1 dX9_dam_79 rfl rfl ?_
                    refine mw_iald 81 rfl dX9_dam_80 rfl r_p1 (by decide) (fun x623 t624 => ?_)
                    refine mw_iload 83 rfl 5 dX9_dam_81  rfl ?_
                    refine mw_icmp_ge 86 rfl 101 dX9_dam_83 (by decide) (fun c625 => ?_) (fun c625 => ?_)
                    · skip
                      have r_x623 : mh_r x623 (1) (2147483647) := mh_le2 c625 r_x576 (mh_r_full x623) (1) (by decide)
                      exact mw_lv [0, 1, 2, 3, 4, 5, 6] rfl (J101 x577 x576 s621 r_x577 (mh_r_wk r_x576 (by decide)) hI_s621 hF_s621)
                    · skip
                      have r_x623 : mh_r x623 (-2147483648) (9999) := mh_lt1 c625 (mh_r_full x623) r_x576 (9999) (by decide)
                      refine mw_iload 88 rfl 6 dX9_dam_86  rfl ?_
                      refine mw_istore 90 rfl [(4, .int x575), (0, .ref (G.2.2.2 0)), (1, .int p1), (2, .int p2), (3, .int p3), (5, .int x576), (6, .int x575)] dX9_dam_88  (by decide) rfl ?_
                      refine mw_aload_n 91 rfl 1 dX9_dam_90 rfl rfl ?_
                      refine mw_geta 94 rfl dX9_dam_91 gf_X9_19 rfl 13 (mh_rf hI_s621 2 rfl) ?_
                      refine mw_geta 97 rfl dX9_dam_94 gf_X9_107 rfl 16 (mh_rf hI_s621 23 rfl) ?_
                      refine mw_iload_n 98 rfl 2 dX9_dam_97 rfl rfl ?_
                      refine mw_iald 99 rfl dX9_dam_98 rfl r_p1 (by decide) (fun x626 t627 => ?_)
                      obtain rfl : x623 = x626 := t624.trans t627.symm
                      refine mw_istore 101 rfl [(5, .int x623), (4, .int x575), (0, .ref (G.2.2.2 0)), (1, .int p1), (2, .int p2), (3, .int p3), (6, .int x575)] dX9_dam_99  (by decide) rfl ?_
                      exact mw_lv [2, 3, 4, 5, 1, 0, 6] rfl (J101 x575 x623 s621 (mh_r_wk r_x575 (by decide)) (mh_r_wk r_x623 (by decide)) hI_s621 hF_s621)
                  · skip
                    refine mw_goto 65 rfl 101 dX9_dam_62 (by decide) ?_
                    exact mw_lv [0, 1, 2, 3, 4, 5, 6] rfl (J101 x577 x576 s578 r_x577 (mh_r_wk r_x576 (by decide)) hI_s578 hF_s578)
          exact mw_lv [3, 4, 5, 6, 2, 1, 0] rfl (L43 145 (0) (10000) (-2) s0 (mh_r_wk rc_0 (by decide)) (mh_r_wk rc_10000 (by decide)) (mh_r_wk rc_m2 (by decide)) hI0 hF0 (by have := (rc_0).1; have := (rc_0).2; omega))
        · skip
          have r_x315 : mh_r x315 (0) (0) := mh_eq1 (show x315.toInt = (0 : Int32).toInt from c318) r_x315 rc_0 (0) (0) (by decide)
          refine mw_iconst (v := -1) 30 rfl dX9_dam_29 (by decide) ?_
          exact mw_iret dX9_dam_30 rfl ⟨(-1), rfl, ⟨(mh_r_wk rc_m1 (by decide)), hI0, hF0⟩⟩

def S_X9_draw : List (Nat × Nat) := [(1, 7), (6, 9999), (46, 9999), (54, 9999), (47, 9999), (55, 9999), (4, 9999), (5, 9999), (20, 9999), (21, 9999), (1, 6), (1, 5)]
def P_X9_draw (B D : Int) (s0 : mh_H) (p1 : Int32) : Int32 → mh_H → Prop := fun z s => mh_r z (-2147483648) (2147483647) ∧ mh_I B D s ∧ mh_F S_X9_draw s0 s
set_option maxRecDepth 100000 in
set_option maxHeartbeats 4000000 in
theorem w_X9_draw (l : Launch) (G : mh_G) (d : Nat) {B D : Int} (hB : B ≤ 1900000000 ∧ D ≤ 1900000000) {s0 : mh_H} (hI0 : mh_I B D s0) (p1 : Int32) : mh_Mi l G (d + 5) mM_X9_draw [.ref (G.2.2.2 0), .int p1] s0 (P_X9_draw B D s0 p1) := by
  refine mh_enter (lv := [(0, .ref (G.2.2.2 0)), (1, .int p1)]) (by decide) rfl (Nat.le_of_ble_eq_true rfl) ?_
  have hF0 : mh_F S_X9_draw s0 s0 := mh_F_rf
  refine mw_iload_n 1 rfl 1 dX9_draw_0 rfl rfl ?_
  refine mw_callSi [.int p1] [] 4 rfl dX9_draw_1 ml_X9_128 mc_X9_isNight mk_X9_isNight (w_X9_isNight l G (d + 4) ⟨by omega, by omega⟩ hI0 p1) rfl rfl (Nat.le_of_ble_eq_true rfl) (mh_rok (by omega) (by decide)) (fun x113 s114 q115 => ?_)
  obtain ⟨r_x113, e0_s114, rfl⟩ := q115
  refine mw_if_ne 7 rfl 9 dX9_draw_4 (by decide) (fun c116 => ?_) (fun c116 => ?_)
  · skip
    have r_p1 : mh_r p1 (1) (60) := ⟨by have := e0_s114.1 (mh_z1 r_x113 c116); have := ((mh_r_full p1)).1; omega, by have := e0_s114.1 (mh_z1 r_x113 c116); have := ((mh_r_full p1)).2; omega⟩
    have r_x113 : mh_r x113 (1) (1) := mh_ne1 (show x113.toInt ≠ (0 : Int32).toInt from c116) r_x113 rc_0 (1) (1) (by decide)
    refine mw_aload_n 10 rfl 0 dX9_draw_9 rfl rfl ?_
    refine mw_geta 13 rfl dX9_draw_10 gf_X9_10 rfl 1 (mh_rf hI0 0 rfl) ?_
    refine mw_geti 16 rfl dX9_draw_13 gf_X9_132 rfl (fun x117 t118 => ?_)
    refine mw_istore_n 17 rfl [(2, .int x117), (0, .ref (G.2.2.2 0)), (1, .int p1)] dX9_draw_16 rfl (by decide) rfl ?_
    refine mw_iconst (v := 0) 18 rfl dX9_draw_17 (by decide) ?_
    refine mw_istore_n 19 rfl [(3, .int (0)), (2, .int x117), (0, .ref (G.2.2.2 0)), (1, .int p1)] dX9_draw_18 rfl (by decide) rfl ?_
    have L19 : ∀ n1 : Nat, ∀ (x195 : Int32) (s196 : mh_H), mh_r x195 (0) (60) → mh_I B D s196 → mh_F S_X9_draw s0 s196 → (60) - x195.toInt < (n1 : Int) → mh_W G (mh_XM l G (d + 5) (mh_Qi (P_X9_draw B D s0 p1))) mM_X9_draw 19 [(0, .ref (G.2.2.2 0)), (1, .int p1), (2, .int x117), (3, .int x195)] [] s196 := by
      intro n1
      induction n1 with
      | zero =>
        intro x195 s196 r_x195 hI_s196 hF_s196 hmn1
        exact absurd hmn1 (by have := r_x195.1; have := r_x195.2; omega)
      | succ n1 ihn1 =>
        intro x195 s196 r_x195 hI_s196 hF_s196 hmn1
        refine mw_iload_n 20 rfl 3 dX9_draw_19 rfl rfl ?_
        refine mw_iload_n 21 rfl 1 dX9_draw_20 rfl rfl ?_
        refine mw_icmp_ge 24 rfl 52 dX9_draw_21 (by decide) (fun c210 => ?_) (fun c210 => ?_)
        · skip
          have r_x195 : mh_r x195 (1) (60) := mh_le2 c210 r_p1 r_x195 (1) (by decide)
          refine mw_aload_n 53 rfl 0 dX9_draw_52 rfl rfl ?_
          refine mw_geta 56 rfl dX9_draw_53 gf_X9_10 rfl 1 (mh_rf hI_s196 0 rfl) ?_
          refine mw_geti 59 rfl dX9_draw_56 gf_X9_132 rfl (fun x211 t212 => ?_)
          refine mw_iload_n 60 rfl 2 dX9_draw_59 rfl rfl ?_
          refine mw_isub_u 61 rfl dX9_draw_60 (fun x213 t214 => ?_)
          exact mw_iret dX9_draw_61 rfl ⟨x213, rfl, ⟨(mh_r_full x213), hI_s196, hF_s196⟩⟩
        · skip
          have r_x195 : mh_r x195 (0) (59) := mh_lt1 c210 r_x195 r_p1 (59) (by decide)
          refine mw_aload_n 25 rfl 0 dX9_draw_24 rfl rfl ?_
          refine mw_geta 28 rfl dX9_draw_25 gf_X9_10 rfl 1 (mh_rf hI_s196 0 rfl) ?_
          refine mw_callVv [] [] 31 rfl dX9_draw_28 ml_X9_298 mc_X8_drawWind mk_X8_drawWind rfl rfl (by decide) (w_X8_drawWind l G (d + 3) ⟨by omega, by omega⟩ hI_s196 1 (Or.inl rfl)) rfl rfl (Nat.le_of_ble_eq_true rfl) (mh_rok (by omega) (by decide)) (fun s216 q217 => ?_)
          obtain ⟨hI_s216, hG_s216⟩ := q217
          have hF_s216 : mh_F S_X9_draw s0 s216 := mh_F_tl hF_s196 hG_s216 (by decide +kernel)
          refine mw_aload_n 32 rfl 0 dX9_draw_31 rfl rfl ?_
          refine mw_geta 35 rfl dX9_draw_32 gf_X9_25 rfl 19 (mh_rf hI_s216 3 rfl) ?_
          refine mw_aload_n 36 rfl 0 dX9_draw_35 rfl rfl ?_
          refine mw_geta 39 rfl dX9_draw_36 gf_X9_10 rfl 1 (mh_rf hI_s216 0 rfl) ?_
          refine mw_aload_n 40 rfl 0 dX9_draw_39 rfl rfl ?_
          obtain ⟨k219, t218⟩ : ∃ y : Nat, s216.2.2 0 11 = y := ⟨_, rfl⟩
          have hk219 : mh_isL k219 := by rw [← t218]; exact hI_s216.2.1.2.1
          refine mw_geta 43 rfl dX9_draw_40 gf_X9_71 rfl k219 t218 ?_
          refine mw_callVv [.ref (G.2.2.2 1), .ref (G.2.2.2 k219)] [] 46 rfl dX9_draw_43 ml_X9_135 mc_X0_pass mk_X0_pass rfl rfl (by decide) (w_X0_pass l G (d + 0) ⟨by omega, by omega⟩ hI_s216 1 (Or.inl rfl) k219 hk219) rfl rfl (Nat.le_of_ble_eq_true rfl) (mh_rok (by omega) (by decide)) (fun s221 q222 => ?_)
          obtain ⟨hI_s221, hG_s221⟩ := q222
          have hF_s221 : mh_F S_X9_draw s0 s221 := mh_F_tl hF_s216 hG_s221 (by rcases hk219 with rfl | rfl <;> decide +kernel)
          refine mw_iincR (k := 3) (1) (60) 49 rfl (fun z => [(3, .int z), (0, .ref (G.2.2.2 0)), (1, .int p1), (2, .int x117)]) dX9_draw_46 rfl (by decide) (fun _ => rfl) r_x195 (by decide) (by decide) (fun x223 t224 r_x223 => ?_)
          refine mw_goto 52 rfl 19 dX9_draw_49 (by decide) ?_
          exact mw_lv [1, 2, 3, 0] rfl (ihn1 x223 s221 (mh_r_wk r_x223 (by decide)) hI_s221 hF_s221 (by have : x223.toInt = x195.toInt + (1) := t224; omega))
    exact mw_lv [2, 3, 1, 0] rfl (L19 61 (0) s0 (mh_r_wk rc_0 (by decide)) hI0 hF0 (by have := (rc_0).1; have := (rc_0).2; omega))
  · skip
    have r_x113 : mh_r x113 (0) (0) := mh_eq1 (show x113.toInt = (0 : Int32).toInt from c116) r_x113 rc_0 (0) (0) (by decide)
    refine mw_iconst (v := -1) 8 rfl dX9_draw_7 (by decide) ?_
    exact mw_iret dX9_draw_8 rfl ⟨(-1), rfl, ⟨(mh_r_wk rc_m1 (by decide)), hI0, hF0⟩⟩

def S_X9_edge : List (Nat × Nat) := [(46, 9999), (54, 9999), (47, 9999), (55, 9999), (27, 9999)]
def P_X9_edge (B D : Int) (s0 : mh_H) (p1 : Int32) : Int32 → mh_H → Prop := fun z s => mh_r z (-2) (999) ∧ mh_I B D s ∧ mh_F S_X9_edge s0 s
set_option maxRecDepth 100000 in
set_option maxHeartbeats 4000000 in
theorem w_X9_edge (l : Launch) (G : mh_G) (d : Nat) {B D : Int} (hB : B ≤ 1880000000 ∧ D ≤ 1880000000) {s0 : mh_H} (hI0 : mh_I B D s0) (p1 : Int32) : mh_Mi l G (d + 6) mM_X9_edge [.ref (G.2.2.2 0), .int p1] s0 (P_X9_edge B D s0 p1) := by
  refine mh_enter (lv := [(0, .ref (G.2.2.2 0)), (1, .int p1)]) (by decide) rfl (Nat.le_of_ble_eq_true rfl) ?_
  have hF0 : mh_F S_X9_edge s0 s0 := mh_F_rf
  refine mw_iload_n 1 rfl 1 dX9_edge_0 rfl rfl ?_
  refine mw_iconst (v := 2) 2 rfl dX9_edge_1 (by decide) ?_
  refine mw_callSi [.int p1, .int (2)] [] 5 rfl dX9_edge_2 ml_X9_98 mc_X9_isWithin mk_X9_isWithin (w_X9_isWithin l G (d + 5) ⟨by omega, by omega⟩ hI0 p1 (2)) rfl rfl (Nat.le_of_ble_eq_true rfl) (mh_rok (by omega) (by decide)) (fun x1603 s1604 q1605 => ?_)
  obtain ⟨r_x1603, e0_s1604, rfl⟩ := q1605
  refine mw_if_ne 8 rfl 10 dX9_edge_5 (by decide) (fun c1606 => ?_) (fun c1606 => ?_)
  · skip
    have r_p1 : mh_r p1 (0) (2) := ⟨by have := e0_s1604.1 (mh_z1 r_x1603 c1606); have := ((mh_r_full p1)).1; omega, by have := e0_s1604.1 (mh_z1 r_x1603 c1606); have := ((mh_r_full p1)).2; have := (rc_2).2; omega⟩
    have r_x1603 : mh_r x1603 (1) (1) := mh_ne1 (show x1603.toInt ≠ (0 : Int32).toInt from c1606) r_x1603 rc_0 (1) (1) (by decide)
    refine mw_aload_n 11 rfl 0 dX9_edge_10 rfl rfl ?_
    refine mw_geta 14 rfl dX9_edge_11 gf_X9_39 rfl 23 (mh_rf hI0 5 rfl) ?_
    refine mw_aload_n 15 rfl 0 dX9_edge_14 rfl rfl ?_
    refine mw_geta 18 rfl dX9_edge_15 gf_X9_10 rfl 1 (mh_rf hI0 0 rfl) ?_
    refine mw_aload_n 19 rfl 0 dX9_edge_18 rfl rfl ?_
    obtain ⟨k1608, t1607⟩ : ∃ y : Nat, s0.2.2 0 11 = y := ⟨_, rfl⟩
    have hk1608 : mh_isL k1608 := by rw [← t1607]; exact hI0.2.1.2.1
    refine mw_geta 22 rfl dX9_edge_19 gf_X9_71 rfl k1608 t1607 ?_
    refine mw_callVv [.ref (G.2.2.2 1), .ref (G.2.2.2 k1608)] [] 25 rfl dX9_edge_22 ml_X9_216 mc_X5_look mk_X5_look rfl rfl (by decide) (w_X5_look l G (d + 0) ⟨by omega, by omega⟩ hI0 1 (Or.inl rfl) k1608 hk1608) rfl rfl (Nat.le_of_ble_eq_true rfl) (mh_rok (by omega) (by decide)) (fun s1610 q1611 => ?_)
    obtain ⟨hI_s1610, hG_s1610⟩ := q1611
    have hF_s1610 : mh_F S_X9_edge s0 s1610 := mh_F_tl hF0 hG_s1610 (by rcases hk1608 with rfl | rfl <;> decide +kernel)
    refine mw_bipush (v := -2) 27 rfl dX9_edge_25 (by decide) ?_
    refine mw_istore_n 28 rfl [(2, .int (-2)), (0, .ref (G.2.2.2 0)), (1, .int p1)] dX9_edge_27 rfl (by decide) rfl ?_
    refine mw_bipush (v := -2) 30 rfl dX9_edge_28 (by decide) ?_
    refine mw_istore_n 31 rfl [(3, .int (-2)), (2, .int (-2)), (0, .ref (G.2.2.2 0)), (1, .int p1)] dX9_edge_30 rfl (by decide) rfl ?_
    refine mw_bipush (v := -2) 33 rfl dX9_edge_31 (by decide) ?_
    refine mw_istore 35 rfl [(4, .int (-2)), (3, .int (-2)), (2, .int (-2)), (0, .ref (G.2.2.2 0)), (1, .int p1)] dX9_edge_33  (by decide) rfl ?_
    refine mw_iconst (v := 0) 36 rfl dX9_edge_35 (by decide) ?_
    refine mw_istore 38 rfl [(5, .int (0)), (4, .int (-2)), (3, .int (-2)), (2, .int (-2)), (0, .ref (G.2.2.2 0)), (1, .int p1)] dX9_edge_36  (by decide) rfl ?_
    have L38 : ∀ n1 : Nat, ∀ (x3007 : Int32) (x3008 : Int32) (x3009 : Int32) (x3010 : Int32), mh_r x3007 (0) (20) → mh_r x3008 (-2) (999) → mh_r x3009 (-2) (19) → mh_r x3010 (-2) (19) → (20) - x3007.toInt < (n1 : Int) → mh_W G (mh_XM l G (d + 6) (mh_Qi (P_X9_edge B D s0 p1))) mM_X9_edge 38 [(0, .ref (G.2.2.2 0)), (1, .int p1), (2, .int x3010), (3, .int x3009), (4, .int x3008), (5, .int x3007)] [] s1610 := by
      intro n1
      induction n1 with
      | zero =>
        intro x3007 x3008 x3009 x3010 r_x3007 r_x3008 r_x3009 r_x3010 hmn1
        exact absurd hmn1 (by have := r_x3007.1; have := r_x3007.2; omega)
      | succ n1 ihn1 =>
        intro x3007 x3008 x3009 x3010 r_x3007 r_x3008 r_x3009 r_x3010 hmn1
        refine mw_iload 40 rfl 5 dX9_edge_38  rfl ?_
        refine mw_bipush (v := 20) 42 rfl dX9_edge_40 (by decide) ?_
        refine mw_icmp_ge 45 rfl 145 dX9_edge_42 (by decide) (fun c3109 => ?_) (fun c3109 => ?_)
        · skip
          have r_x3007 : mh_r x3007 (20) (20) := mh_le2 c3109 rc_20 r_x3007 (20) (by decide)
          refine mw_iload_n 146 rfl 1 dX9_edge_145 rfl rfl ?_
          refine mw_if_ne 149 rfl 151 dX9_edge_146 (by decide) (fun c3110 => ?_) (fun c3110 => ?_)
          · skip
            have r_p1 : mh_r p1 (1) (2) := mh_ne1 (show p1.toInt ≠ (0 : Int32).toInt from c3110) r_p1 rc_0 (1) (2) (by decide)
            refine mw_iload_n 152 rfl 1 dX9_edge_151 rfl rfl ?_
            refine mw_iconst (v := 1) 153 rfl dX9_edge_152 (by decide) ?_
            refine mw_icmp_ne 156 rfl 160 dX9_edge_153 (by decide) (fun c3111 => ?_) (fun c3111 => ?_)
            · skip
              have r_p1 : mh_r p1 (2) (2) := mh_ne1 c3111 r_p1 rc_1 (2) (2) (by decide)
              refine mw_iload 162 rfl 4 dX9_edge_160  rfl ?_
              exact mw_iret dX9_edge_162 rfl ⟨x3008, rfl, ⟨r_x3008, hI_s1610, hF_s1610⟩⟩
            · skip
              have r_p1 : mh_r p1 (1) (1) := mh_eq1 c3111 r_p1 rc_1 (1) (1) (by decide)
              refine mw_iload_n 157 rfl 3 dX9_edge_156 rfl rfl ?_
              refine mw_goto 160 rfl 162 dX9_edge_157 (by decide) ?_
              exact mw_iret dX9_edge_162 rfl ⟨x3009, rfl, ⟨(mh_r_wk r_x3009 (by decide)), hI_s1610, hF_s1610⟩⟩
          · skip
            have r_p1 : mh_r p1 (0) (0) := mh_eq1 (show p1.toInt = (0 : Int32).toInt from c3110) r_p1 rc_0 (0) (0) (by decide)
            refine mw_iload_n 150 rfl 2 dX9_edge_149 rfl rfl ?_
            exact mw_iret dX9_edge_150 rfl ⟨x3010, rfl, ⟨(mh_r_wk r_x3010 (by decide)), hI_s1610, hF_s1610⟩⟩
        · skip
          have r_x3007 : mh_r x3007 (0) (19) := mh_lt1 c3109 r_x3007 rc_20 (19) (by decide)
          refine mw_iload 47 rfl 5 dX9_edge_45  rfl ?_
          refine mw_iconst (v := 1) 48 rfl dX9_edge_47 (by decide) ?_
          refine mw_iadd 49 rfl (1) (20) dX9_edge_48 r_x3007 rc_1 (by decide) (fun x3112 t3113 r_x3112 => ?_)
          refine mw_istore 51 rfl [(6, .int x3112), (0, .ref (G.2.2.2 0)), (1, .int p1), (2, .int x3010), (3, .int x3009), (4, .int x3008), (5, .int x3007)] dX9_edge_49  (by decide) rfl ?_
          have L51 : ∀ n2 : Nat, ∀ (x3141 : Int32) (x3142 : Int32) (x3143 : Int32) (x3144 : Int32), mh_r x3141 (1) (20) → mh_r x3142 (-2) (19) → mh_r x3143 (-2) (19) → mh_r x3144 (-2) (999) → (20) - x3141.toInt < (n2 : Int) → mh_W G (mh_XM l G (d + 6) (mh_Qi (P_X9_edge B D s0 p1))) mM_X9_edge 51 [(0, .ref (G.2.2.2 0)), (1, .int p1), (2, .int x3142), (3, .int x3143), (4, .int x3144), (5, .int x3007), (6, .int x3141)] [] s1610 := by
            intro n2
            induction n2 with
            | zero =>
              intro x3141 x3142 x3143 x3144 r_x3141 r_x3142 r_x3143 r_x3144 hmn2
              exact absurd hmn2 (by have := r_x3141.1; have := r_x3141.2; omega)
            | succ n2 ihn2 =>
              intro x3141 x3142 x3143 x3144 r_x3141 r_x3142 r_x3143 r_x3144 hmn2
              refine mw_iload 53 rfl 6 dX9_edge_51  rfl ?_
              refine mw_bipush (v := 20) 55 rfl dX9_edge_53 (by decide) ?_
              refine mw_icmp_ge 58 rfl 139 dX9_edge_55 (by decide) (fun c3176 => ?_) (fun c3176 => ?_)
              · skip
                have r_x3141 : mh_r x3141 (20) (20) := mh_le2 c3176 rc_20 r_x3141 (20) (by decide)
                refine mw_iincR (k := 5) (1) (20) 142 rfl (fun z => [(5, .int z), (0, .ref (G.2.2.2 0)), (1, .int p1), (2, .int x3142), (3, .int x3143), (4, .int x3144), (6, .int x3141)]) dX9_edge_139 rfl (by decide) (fun _ => rfl) r_x3007 (by decide) (by decide) (fun x3177 t3178 r_x3177 => ?_)
                refine mw_goto 145 rfl 38 dX9_edge_142 (by decide) ?_
                exact mw_lv [1, 2, 3, 4, 5, 0] rfl (ihn1 x3177 x3144 x3143 x3142 (mh_r_wk r_x3177 (by decide)) r_x3144 r_x3143 r_x3142 (by have : x3177.toInt = x3007.toInt + (1) := t3178; omega))
              · skip
                have r_x3141 : mh_r x3141 (1) (19) := mh_lt1 c3176 r_x3141 rc_20 (19) (by decide)
                refine mw_aload_n 59 rfl 0 dX9_edge_58 rfl rfl ?_
                refine mw_geta 62 rfl dX9_edge_59 gf_X9_39 rfl 23 (mh_rf hI_s1610 5 rfl) ?_
                refine mw_iload 64 rfl 5 dX9_edge_62  rfl ?_
                refine mw_iload 66 rfl 6 dX9_edge_64  rfl ?_
                refine mw_callVi [.int x3007, .int x3141] [] 69 rfl dX9_edge_66 ml_X9_224 mc_X5_meet mk_X5_meet rfl rfl (by decide) (w_X5_meet l G (d + 4) ⟨by omega, by omega⟩ hI_s1610 x3007 r_x3007 x3141 (mh_r_wk r_x3141 (by decide))) rfl rfl (Nat.le_of_ble_eq_true rfl) (mh_rok (by omega) (by decide)) (fun x3179 s3180 q3181 => ?_)
                obtain ⟨r_x3179, rfl⟩ := q3181
                have J133 : ∀ (x3200 : Int32) (x3201 : Int32) (x3202 : Int32), mh_r x3200 (-2) (19) → mh_r x3201 (-2) (19) → mh_r x3202 (-2) (999) → mh_W G (mh_XM l G (d + 6) (mh_Qi (P_X9_edge B D s0 p1))) mM_X9_edge 133 [(0, .ref (G.2.2.2 0)), (1, .int p1), (2, .int x3200), (3, .int x3201), (4, .int x3202), (5, .int x3007), (6, .int x3141)] [] s1610 := by
                  intro x3200 x3201 x3202 r_x3200 r_x3201 r_x3202
                  refine mw_iincR (k := 6) (2) (20) 136 rfl (fun z => [(6, .int z), (0, .ref (G.2.2.2 0)), (1, .int p1), (2, .int x3200), (3, .int x3201), (4, .int x3202), (5, .int x3007)]) dX9_edge_133 rfl (by decide) (fun _ => rfl) r_x3141 (by decide) (by decide) (fun x3205 t3206 r_x3205 => ?_)
                  refine mw_goto 139 rfl 51 dX9_edge_136 (by decide) ?_
                  exact mw_lv [1, 2, 3, 4, 5, 6, 0] rfl (ihn2 x3205 x3200 x3201 x3202 (mh_r_wk r_x3205 (by decide)) r_x3200 r_x3201 r_x3202 (by have : x3205.toInt = x3141.toInt + (1) := t3206; omega))
                refine mw_if_eq 72 rfl 133 dX9_edge_69 (by decide) (fun c3207 => ?_) (fun c3207 => ?_)
                · skip
                  have r_x3179 : mh_r x3179 (0) (0) := mh_eq1 (show x3179.toInt = (0 : Int32).toInt from c3207) r_x3179 rc_0 (0) (0) (by decide)
                  exact mw_lv [0, 1, 2, 3, 4, 5, 6] rfl (J133 x3142 x3143 x3144 r_x3142 r_x3143 r_x3144)
                · skip
                  have r_x3179 : mh_r x3179 (1) (1) := mh_ne1 (show x3179.toInt ≠ (0 : Int32).toInt from c3207) r_x3179 rc_0 (1) (1) (by decide)
                  refine mw_aload_n 73 rfl 0 dX9_edge_72 rfl rfl ?_
                  refine mw_geta 76 rfl dX9_edge_73 gf_X9_39 rfl 23 (mh_rf hI_s1610 5 rfl) ?_
                  refine mw_geta 79 rfl dX9_edge_76 gf_X9_227 rfl 27 (mh_rf hI_s1610 31 rfl) ?_
                  refine mw_iload 81 rfl 5 dX9_edge_79  rfl ?_
                  refine mw_iald 82 rfl dX9_edge_81 rfl r_x3007 (by decide) (fun x3208 t3209 => ?_)
                  have r_x3208 : mh_r x3208 (0) (999) := by rw [t3209]; exact rd_27 hI_s1610 _
                  refine mw_aload_n 83 rfl 0 dX9_edge_82 rfl rfl ?_
                  refine mw_geta 86 rfl dX9_edge_83 gf_X9_39 rfl 23 (mh_rf hI_s1610 5 rfl) ?_
                  refine mw_geta 89 rfl dX9_edge_86 gf_X9_227 rfl 27 (mh_rf hI_s1610 31 rfl) ?_
                  refine mw_iload 91 rfl 6 dX9_edge_89  rfl ?_
                  refine mw_iald 92 rfl dX9_edge_91 rfl r_x3141 (by decide) (fun x3210 t3211 => ?_)
                  have r_x3210 : mh_r x3210 (0) (999) := by rw [t3211]; exact rd_27 hI_s1610 _
                  refine mw_isub 93 rfl (-999) (999) dX9_edge_92 r_x3208 r_x3210 (by decide) (fun x3212 t3213 r_x3212 => ?_)
                  refine mw_mabs 96 rfl dX9_edge_93 ml_X9_229 (mh_mr (D := d + 6) (by omega) (Nat.le_of_ble_eq_true rfl)) (fun x3214 t3215 => ?_)
                  have r_x3214 : mh_r x3214 0 (999) := by rw [t3215]; exact mh_absr r_x3212 (by decide) (by decide)
                  refine mw_iload 98 rfl 4 dX9_edge_96  rfl ?_
                  refine mw_icmp_le 101 rfl 133 dX9_edge_98 (by decide) (fun c3216 => ?_) (fun c3216 => ?_)
                  · skip
                    have r_x3144 : mh_r x3144 (0) (999) := mh_le2 c3216 r_x3214 r_x3144 (0) (by decide)
                    exact mw_lv [0, 1, 2, 3, 4, 5, 6] rfl (J133 x3142 x3143 x3144 r_x3142 r_x3143 (mh_r_wk r_x3144 (by decide)))
                  · skip
                    have r_x3144 : mh_r x3144 (-2) (998) := mh_lt1 c3216 r_x3144 r_x3214 (998) (by decide)
                    refine mw_iload 103 rfl 5 dX9_edge_101  rfl ?_
                    refine mw_istore_n 104 rfl [(2, .int x3007), (0, .ref (G.2.2.2 0)), (1, .int p1), (3, .int x3143), (4, .int x3144), (5, .int x3007), (6, .int x3141)] dX9_edge_103 rfl (by decide) rfl ?_
                    refine mw_iload 106 rfl 6 dX9_edge_104  rfl ?_
                    refine mw_istore_n 107 rfl [(3, .int x3141), (2, .int x3007), (0, .ref (G.2.2.2 0)), (1, .int p1), (4, .int x3144), (5, .int x3007), (6, .int x3141)] dX9_edge_106 rfl (by decide) rfl ?_
                    refine mw_aload_n 108 rfl 2 dX9_edge_107 rfl rfl ?_
                    refine mw_geta 111 rfl dX9_edge_108 gf_X9_39 rfl 23 (mh_rf hI_s1610 5 rfl) ?_
                    refine mw_geta 114 rfl dX9_edge_111 gf_X9_227 rfl 27 (mh_rf hI_s1610 31 rfl) ?_
                    refine mw_iload 116 rfl 5 dX9_edge_114  rfl ?_
                    refine mw_iald 117 rfl dX9_edge_116 rfl r_x3007 (by decide) (fun x3217 t3218 => ?_)
                    obtain rfl : x3208 = x3217 := t3209.trans t3218.symm
                    refine mw_aload_n 118 rfl 2 dX9_edge_117 rfl rfl ?_
                    refine mw_geta 121 rfl dX9_edge_118 gf_X9_39 rfl 23 (mh_rf hI_s1610 5 rfl) ?_
                    refine mw_geta 124 rfl dX9_edge_121 gf_X9_227 rfl 27 (mh_rf hI_s1610 31 rfl) ?_
                    refine mw_iload 126 rfl 6 dX9_edge_124  rfl ?_
                    refine mw_iald 127 rfl dX9_edge_126 rfl r_x3141 (by decide) (fun x3219 t3220 => ?_)
                    obtain rfl : x3210 = x3219 := t3211.trans t3220.symm
                    refine mw_isub 128 rfl (-999) (999) dX9_edge_127 r_x3208 r_x3210 (by decide) (fun x3221 t3222 r_x3221 => ?_)
                    obtain rfl : x3212 = x3221 := Int32.toInt_inj.mp (t3213.trans t3222.symm)
                    refine mw_mabs 131 rfl dX9_edge_128 ml_X9_229 (mh_mr (D := d + 6) (by omega) (Nat.le_of_ble_eq_true rfl)) (fun x3223 t3224 => ?_)
                    have r_x3223 : mh_r x3223 0 (999) := by rw [t3224]; exact mh_absr r_x3212 (by decide) (by decide)
                    refine mw_istore 133 rfl [(4, .int x3223), (3, .int x3141), (2, .int x3007), (0, .ref (G.2.2.2 0)), (1, .int p1), (5, .int x3007), (6, .int x3141)] dX9_edge_131  (by decide) rfl ?_
                    exact mw_lv [3, 4, 2, 1, 0, 5, 6] rfl (J133 x3007 x3141 x3223 (mh_r_wk r_x3007 (by decide)) (mh_r_wk r_x3141 (by decide)) (mh_r_wk r_x3223 (by decide)))
          exact mw_lv [1, 2, 3, 4, 5, 6, 0] rfl (L51 20 x3112 x3010 x3009 x3008 r_x3112 r_x3010 r_x3009 r_x3008 (by have := (r_x3112).1; have := (r_x3112).2; omega))
    exact mw_lv [4, 5, 3, 2, 1, 0] rfl (L38 21 (0) (-2) (-2) (-2) (mh_r_wk rc_0 (by decide)) (mh_r_wk rc_m2 (by decide)) (mh_r_wk rc_m2 (by decide)) (mh_r_wk rc_m2 (by decide)) (by have := (rc_0).1; have := (rc_0).2; omega))
  · skip
    have r_x1603 : mh_r x1603 (0) (0) := mh_eq1 (show x1603.toInt = (0 : Int32).toInt from c1606) r_x1603 rc_0 (0) (0) (by decide)
    refine mw_iconst (v := -1) 9 rfl dX9_edge_8 (by decide) ?_
    exact mw_iret dX9_edge_9 rfl ⟨(-1), rfl, ⟨(mh_r_wk rc_m1 (by decide)), hI0, hF0⟩⟩

def S_X9_held : List (Nat × Nat) := [(46, 9999), (54, 9999), (47, 9999), (55, 9999)]
def P_X9_held (B D : Int) (s0 : mh_H) (p1 : Int32) (p2 : Int32) : Int32 → mh_H → Prop := fun z s => mh_r z (-2147483648) (2147483647) ∧ mh_I B D s ∧ mh_F S_X9_held s0 s
set_option maxRecDepth 100000 in
set_option maxHeartbeats 4000000 in
theorem w_X9_held (l : Launch) (G : mh_G) (d : Nat) {B D : Int} (hB : B ≤ 1920000000 ∧ D ≤ 1920000000) {s0 : mh_H} (hI0 : mh_I B D s0) (p1 : Int32) (p2 : Int32) : mh_Mi l G (d + 4) mM_X9_held [.ref (G.2.2.2 0), .int p1, .int p2] s0 (P_X9_held B D s0 p1 p2) := by
  refine mh_enter (lv := [(0, .ref (G.2.2.2 0)), (1, .int p1), (2, .int p2)]) (by decide) rfl (Nat.le_of_ble_eq_true rfl) ?_
  have hF0 : mh_F S_X9_held s0 s0 := mh_F_rf
  refine mw_iload_n 1 rfl 1 dX9_held_0 rfl rfl ?_
  refine mw_iload_n 2 rfl 2 dX9_held_1 rfl rfl ?_
  refine mw_callSi [.int p1, .int p2] [] 5 rfl dX9_held_2 ml_X9_252 mc_X9_arePrices mk_X9_arePrices (w_X9_arePrices l G (d + 2) ⟨by omega, by omega⟩ hI0 p1 p2) rfl rfl (Nat.le_of_ble_eq_true rfl) (mh_rok (by omega) (by decide)) (fun x194 s195 q196 => ?_)
  obtain ⟨r_x194, e0_s195, rfl⟩ := q196
  refine mw_if_ne 8 rfl 10 dX9_held_5 (by decide) (fun c197 => ?_) (fun c197 => ?_)
  · skip
    have r_p1 : mh_r p1 (0) (999) := ⟨by have := e0_s195.1 (mh_z1 r_x194 c197); have := ((mh_r_full p1)).1; omega, by have := e0_s195.1 (mh_z1 r_x194 c197); have := ((mh_r_full p1)).2; omega⟩
    have r_p2 : mh_r p2 (0) (999) := ⟨by have := e0_s195.1 (mh_z1 r_x194 c197); have := ((mh_r_full p2)).1; omega, by have := e0_s195.1 (mh_z1 r_x194 c197); have := ((mh_r_full p2)).2; omega⟩
    have r_x194 : mh_r x194 (1) (1) := mh_ne1 (show x194.toInt ≠ (0 : Int32).toInt from c197) r_x194 rc_0 (1) (1) (by decide)
    refine mw_iconst (v := 0) 11 rfl dX9_held_10 (by decide) ?_
    refine mw_istore_n 12 rfl [(3, .int (0)), (0, .ref (G.2.2.2 0)), (1, .int p1), (2, .int p2)] dX9_held_11 rfl (by decide) rfl ?_
    refine mw_iconst (v := 0) 13 rfl dX9_held_12 (by decide) ?_
    refine mw_istore 15 rfl [(4, .int (0)), (3, .int (0)), (0, .ref (G.2.2.2 0)), (1, .int p1), (2, .int p2)] dX9_held_13  (by decide) rfl ?_
    have L15 : ∀ n1 : Nat, ∀ (x339 : Int32) (x340 : Int32) (s341 : mh_H), mh_r x339 (0) (60) → mh_I B D s341 → mh_F S_X9_held s0 s341 → (60) - x339.toInt < (n1 : Int) → mh_W G (mh_XM l G (d + 4) (mh_Qi (P_X9_held B D s0 p1 p2))) mM_X9_held 15 [(0, .ref (G.2.2.2 0)), (1, .int p1), (2, .int p2), (3, .int x340), (4, .int x339)] [] s341 := by
      intro n1
      induction n1 with
      | zero =>
        intro x339 x340 s341 r_x339 hI_s341 hF_s341 hmn1
        exact absurd hmn1 (by have := r_x339.1; have := r_x339.2; omega)
      | succ n1 ihn1 =>
        intro x339 x340 s341 r_x339 hI_s341 hF_s341 hmn1
        refine mw_iload 17 rfl 4 dX9_held_15  rfl ?_
        refine mw_aload_n 18 rfl 0 dX9_held_17 rfl rfl ?_
        refine mw_geta 21 rfl dX9_held_18 gf_X9_46 rfl 29 (mh_rf hI_s341 6 rfl) ?_
        refine mw_geti 24 rfl dX9_held_21 gf_X9_236 rfl (fun x366 t367 => ?_)
        have r_x366 : mh_r x366 (0) (60) := by rw [t367]; exact rd_29_5 hI_s341
        refine mw_icmp_ge 27 rfl 88 dX9_held_24 (by decide) (fun c368 => ?_) (fun c368 => ?_)
        · skip
          refine mw_iload_n 89 rfl 3 dX9_held_88 rfl rfl ?_
          exact mw_iret dX9_held_89 rfl ⟨x340, rfl, ⟨(mh_r_full x340), hI_s341, hF_s341⟩⟩
        · skip
          have r_x339 : mh_r x339 (0) (59) := mh_lt1 c368 r_x339 r_x366 (59) (by decide)
          have r_x366 : mh_r x366 (1) (60) := mh_lt2 c368 r_x339 r_x366 (1) (by decide)
          refine mw_aload_n 28 rfl 0 dX9_held_27 rfl rfl ?_
          obtain ⟨k370, t369⟩ : ∃ y : Nat, s341.2.2 0 11 = y := ⟨_, rfl⟩
          have hk370 : mh_isL k370 := by rw [← t369]; exact hI_s341.2.1.2.1
          refine mw_geta 31 rfl dX9_held_28 gf_X9_71 rfl k370 t369 ?_
          refine mw_aload_n 32 rfl 0 dX9_held_31 rfl rfl ?_
          refine mw_geta 35 rfl dX9_held_32 gf_X9_46 rfl 29 (mh_rf hI_s341 6 rfl) ?_
          refine mw_geta 38 rfl dX9_held_35 gf_X9_237 rfl 30 (mh_rf hI_s341 33 rfl) ?_
          refine mw_iload 40 rfl 4 dX9_held_38  rfl ?_
          refine mw_iald 41 rfl dX9_held_40 rfl r_x339 (by decide) (fun x371 t372 => ?_)
          refine mw_aload_n 42 rfl 0 dX9_held_41 rfl rfl ?_
          refine mw_geta 45 rfl dX9_held_42 gf_X9_46 rfl 29 (mh_rf hI_s341 6 rfl) ?_
          refine mw_geta 48 rfl dX9_held_45 gf_X9_240 rfl 31 (mh_rf hI_s341 34 rfl) ?_
          refine mw_iload 50 rfl 4 dX9_held_48  rfl ?_
          refine mw_iald 51 rfl dX9_held_50 rfl r_x339 (by decide) (fun x373 t374 => ?_)
          refine mw_aload_n 52 rfl 0 dX9_held_51 rfl rfl ?_
          refine mw_geta 55 rfl dX9_held_52 gf_X9_46 rfl 29 (mh_rf hI_s341 6 rfl) ?_
          refine mw_geta 58 rfl dX9_held_55 gf_X9_243 rfl 32 (mh_rf hI_s341 35 rfl) ?_
          refine mw_iload 60 rfl 4 dX9_held_58  rfl ?_
          refine mw_iald 61 rfl dX9_held_60 rfl r_x339 (by decide) (fun x375 t376 => ?_)
          refine mw_callVi [.int x371, .int x373, .int x375] [] 64 rfl dX9_held_61 ml_X9_266 mc_X1_saysMist mk_X1_saysMist (ly_L hk370) rfl (by decide) (w_X1_saysMist l G (d + 0) ⟨by omega, by omega⟩ hI_s341 k370 hk370 x371 x373 x375) rfl rfl (Nat.le_of_ble_eq_true rfl) (mh_rok (by omega) (by decide)) (fun x377 s378 q379 => ?_)
          obtain ⟨r_x377, hI_s378, hG_s378⟩ := q379
          have hF_s378 : mh_F S_X9_held s0 s378 := mh_F_tl hF_s341 hG_s378 (by rcases hk370 with rfl | rfl <;> decide +kernel)
          refine mw_istore 66 rfl [(5, .int x377), (0, .ref (G.2.2.2 0)), (1, .int p1), (2, .int p2), (3, .int x340), (4, .int x339)] dX9_held_64  (by decide) rfl ?_
          refine mw_iload_n 67 rfl 4 dX9_held_66 rfl rfl ?_
          refine mw_aload_n 68 rfl 1 dX9_held_67 rfl rfl ?_
          refine mw_geta 71 rfl dX9_held_68 gf_X9_46 rfl 29 (mh_rf hI_s378 6 rfl) ?_
          refine mw_iload 73 rfl 5 dX9_held_71  rfl ?_
          refine mw_iload 75 rfl 0 dX9_held_73  rfl ?_
          refine mw_iload_n 76 rfl 2 dX9_held_75 rfl rfl ?_
          refine mw_iload_n 77 rfl 3 dX9_held_76 rfl rfl ?_
          refine mw_callVi [.int x339, .int x377, .int p1, .int p2] [.int x340] 80 rfl dX9_held_77 ml_X9_269 mc_X3_cost mk_X3_cost rfl rfl (by decide) (w_X3_cost l G (d + 3) ⟨by omega, by omega⟩ hI_s378 x339 r_x339 x377 r_x377 p1 p2) rfl rfl (Nat.le_of_ble_eq_true rfl) (mh_rok (by omega) (by decide)) (fun x380 s381 q382 => ?_)
          obtain ⟨r_x380, rfl⟩ := q382
          refine mw_iadd_u 81 rfl dX9_held_80 (fun x383 t384 => ?_)
          refine mw_istore_n 82 rfl [(3, .int x383), (5, .int x377), (0, .ref (G.2.2.2 0)), (1, .int p1), (2, .int p2), (4, .int x339)] dX9_held_81 rfl (by decide) rfl ?_
          refine mw_iincR (k := 5) (1) (60) 85 rfl (fun z => [(4, .int z), (3, .int x383), (5, .int x377), (0, .ref (G.2.2.2 0)), (1, .int p1), (2, .int p2)]) dX9_held_82 rfl (by decide) (fun _ => rfl) r_x339 (by decide) (by decide) (fun x385 t386 r_x385 => ?_)
          refine mw_goto 88 rfl 15 dX9_held_85 (by decide) ?_
          exact mw_lv [3, 4, 5, 1, 0] rfl (ihn1 x385 x383 s378 (mh_r_wk r_x385 (by decide)) hI_s378 hF_s378 (by have : x385.toInt = x339.toInt + (1) := t386; omega))
    exact mw_lv [2, 3, 4, 1, 0] rfl (L15 61 (0) (0) s0 (mh_r_wk rc_0 (by decide)) hI0 hF0 (by have := (rc_0).1; have := (rc_0).2; omega))
  · skip
    have r_x194 : mh_r x194 (0) (0) := mh_eq1 (show x194.toInt = (0 : Int32).toInt from c197) r_x194 rc_0 (0) (0) (by decide)
    refine mw_iconst (v := -1) 9 rfl dX9_held_8 (by decide) ?_
    exact mw_iret dX9_held_9 rfl ⟨(-1), rfl, ⟨(mh_r_wk rc_m1 (by decide)), hI0, hF0⟩⟩

def S_X9_lid : List (Nat × Nat) := [(36, 9999)]
def P_X9_lid (B D : Int) (s0 : mh_H) (p1 : Int32) (p2 : Int32) (p3 : Int32) (p4 : Int32) : Int64 → mh_H → Prop := fun z s => mh_I B D s ∧ mh_F S_X9_lid s0 s
set_option maxRecDepth 100000 in
set_option maxHeartbeats 4000000 in
theorem w_X9_lid (l : Launch) (G : mh_G) (d : Nat) {B D : Int} (hB : B ≤ 1960000000 ∧ D ≤ 1960000000) {s0 : mh_H} (hI0 : mh_I B D s0) (p1 : Int32) (p2 : Int32) (p3 : Int32) (p4 : Int32) : mh_Ml l G (d + 2) mM_X9_lid [.ref (G.2.2.2 0), .int p1, .int p2, .int p3, .int p4] s0 (P_X9_lid B D s0 p1 p2 p3 p4) := by
  refine mh_enter (lv := [(0, .ref (G.2.2.2 0)), (1, .int p1), (2, .int p2), (3, .int p3), (4, .int p4)]) (by decide) rfl (Nat.le_of_ble_eq_true rfl) ?_
  have hF0 : mh_F S_X9_lid s0 s0 := mh_F_rf
  refine mw_iload_n 1 rfl 1 dX9_lid_0 rfl rfl ?_
  refine mw_iconst (v := 1) 2 rfl dX9_lid_1 (by decide) ?_
  refine mw_icmp_lt 5 rfl 43 dX9_lid_2 (by decide) (fun c20 => ?_) (fun c20 => ?_)
  · skip
    have r_p1 : mh_r p1 (-2147483648) (0) := mh_lt1 c20 (mh_r_full p1) rc_1 (0) (by decide)
    refine mw_ldc2 46 rfl dX9_lid_43 ck_X9_284 ?_
    exact mw_lret dX9_lid_46 rfl ⟨(-1), rfl, ⟨hI0, hF0⟩⟩
  · skip
    have r_p1 : mh_r p1 (1) (2147483647) := mh_le2 c20 rc_1 (mh_r_full p1) (1) (by decide)
    refine mw_iload_n 6 rfl 1 dX9_lid_5 rfl rfl ?_
    refine mw_sipush (v := 200) 9 rfl dX9_lid_6 (by decide) ?_
    refine mw_icmp_gt 12 rfl 43 dX9_lid_9 (by decide) (fun c21 => ?_) (fun c21 => ?_)
    · skip
      have r_p1 : mh_r p1 (201) (2147483647) := mh_lt2 c21 rc_200 r_p1 (201) (by decide)
      refine mw_ldc2 46 rfl dX9_lid_43 ck_X9_284 ?_
      exact mw_lret dX9_lid_46 rfl ⟨(-1), rfl, ⟨hI0, hF0⟩⟩
    · skip
      have r_p1 : mh_r p1 (1) (200) := mh_le1 c21 r_p1 rc_200 (200) (by decide)
      refine mw_iload_n 13 rfl 2 dX9_lid_12 rfl rfl ?_
      refine mw_iconst (v := 1) 14 rfl dX9_lid_13 (by decide) ?_
      refine mw_icmp_lt 17 rfl 43 dX9_lid_14 (by decide) (fun c22 => ?_) (fun c22 => ?_)
      · skip
        have r_p2 : mh_r p2 (-2147483648) (0) := mh_lt1 c22 (mh_r_full p2) rc_1 (0) (by decide)
        refine mw_ldc2 46 rfl dX9_lid_43 ck_X9_284 ?_
        exact mw_lret dX9_lid_46 rfl ⟨(-1), rfl, ⟨hI0, hF0⟩⟩
      · skip
        have r_p2 : mh_r p2 (1) (2147483647) := mh_le2 c22 rc_1 (mh_r_full p2) (1) (by decide)
        refine mw_iload_n 18 rfl 2 dX9_lid_17 rfl rfl ?_
        refine mw_bipush (v := 12) 20 rfl dX9_lid_18 (by decide) ?_
        refine mw_icmp_gt 23 rfl 43 dX9_lid_20 (by decide) (fun c23 => ?_) (fun c23 => ?_)
        · skip
          have r_p2 : mh_r p2 (13) (2147483647) := mh_lt2 c23 rc_12 r_p2 (13) (by decide)
          refine mw_ldc2 46 rfl dX9_lid_43 ck_X9_284 ?_
          exact mw_lret dX9_lid_46 rfl ⟨(-1), rfl, ⟨hI0, hF0⟩⟩
        · skip
          have r_p2 : mh_r p2 (1) (12) := mh_le1 c23 r_p2 rc_12 (12) (by decide)
          refine mw_iload_n 24 rfl 3 dX9_lid_23 rfl rfl ?_
          refine mw_iconst (v := 1) 25 rfl dX9_lid_24 (by decide) ?_
          refine mw_icmp_lt 28 rfl 43 dX9_lid_25 (by decide) (fun c24 => ?_) (fun c24 => ?_)
          · skip
            have r_p3 : mh_r p3 (-2147483648) (0) := mh_lt1 c24 (mh_r_full p3) rc_1 (0) (by decide)
            refine mw_ldc2 46 rfl dX9_lid_43 ck_X9_284 ?_
            exact mw_lret dX9_lid_46 rfl ⟨(-1), rfl, ⟨hI0, hF0⟩⟩
          · skip
            have r_p3 : mh_r p3 (1) (2147483647) := mh_le2 c24 rc_1 (mh_r_full p3) (1) (by decide)
            refine mw_iload_n 29 rfl 3 dX9_lid_28 rfl rfl ?_
            refine mw_bipush (v := 9) 31 rfl dX9_lid_29 (by decide) ?_
            refine mw_icmp_gt 34 rfl 43 dX9_lid_31 (by decide) (fun c25 => ?_) (fun c25 => ?_)
            · skip
              have r_p3 : mh_r p3 (10) (2147483647) := mh_lt2 c25 rc_9 r_p3 (10) (by decide)
              refine mw_ldc2 46 rfl dX9_lid_43 ck_X9_284 ?_
              exact mw_lret dX9_lid_46 rfl ⟨(-1), rfl, ⟨hI0, hF0⟩⟩
            · skip
              have r_p3 : mh_r p3 (1) (9) := mh_le1 c25 r_p3 rc_9 (9) (by decide)
              refine mw_iload 36 rfl 4 dX9_lid_34  rfl ?_
              refine mw_iconst (v := 1) 37 rfl dX9_lid_36 (by decide) ?_
              refine mw_callSi [.int p4, .int (1)] [] 40 rfl dX9_lid_37 ml_X9_98 mc_X9_isWithin mk_X9_isWithin (w_X9_isWithin l G (d + 1) ⟨by omega, by omega⟩ hI0 p4 (1)) rfl rfl (Nat.le_of_ble_eq_true rfl) (mh_rok (by omega) (by decide)) (fun x26 s27 q28 => ?_)
              obtain ⟨r_x26, e0_s27, rfl⟩ := q28
              refine mw_if_ne 43 rfl 47 dX9_lid_40 (by decide) (fun c29 => ?_) (fun c29 => ?_)
              · skip
                have r_p4 : mh_r p4 (0) (1) := ⟨by have := e0_s27.1 (mh_z1 r_x26 c29); have := ((mh_r_full p4)).1; omega, by have := e0_s27.1 (mh_z1 r_x26 c29); have := ((mh_r_full p4)).2; have := (rc_1).2; omega⟩
                have r_x26 : mh_r x26 (1) (1) := mh_ne1 (show x26.toInt ≠ (0 : Int32).toInt from c29) r_x26 rc_0 (1) (1) (by decide)
                refine mw_aload_n 48 rfl 0 dX9_lid_47 rfl rfl ?_
                refine mw_geta 51 rfl dX9_lid_48 gf_X9_53 rfl 35 (mh_rf hI0 7 rfl) ?_
                refine mw_iload_n 52 rfl 1 dX9_lid_51 rfl rfl ?_
                refine mw_iload_n 53 rfl 2 dX9_lid_52 rfl rfl ?_
                refine mw_iload_n 54 rfl 3 dX9_lid_53 rfl rfl ?_
                refine mw_callVl [.int p1, .int p2, .int p3] [] 57 rfl dX9_lid_54 ml_X9_286 mc_X2_breaking mk_X2_breaking rfl rfl (by decide) (w_X2_breaking l G (d + 0) ⟨by omega, by omega⟩ hI0 p1 r_p1 p2 r_p2 p3 r_p3) rfl rfl (Nat.le_of_ble_eq_true rfl) (mh_rok (by omega) (by decide)) (fun y30 s31 q32 => ?_)
                obtain ⟨hI_s31, hG_s31⟩ := q32
                have hF_s31 : mh_F S_X9_lid s0 s31 := mh_F_tl hF0 hG_s31 (by decide +kernel)
                refine mw_aload_n 58 rfl 0 dX9_lid_57 rfl rfl ?_
                refine mw_geta 61 rfl dX9_lid_58 gf_X9_53 rfl 35 (mh_rf hI_s31 7 rfl) ?_
                refine mw_iload_n 62 rfl 2 dX9_lid_61 rfl rfl ?_
                refine mw_iload_n 63 rfl 3 dX9_lid_62 rfl rfl ?_
                refine mw_callVl [.int p2, .int p3] [.long y30] 66 rfl dX9_lid_63 ml_X9_290 mc_X2_all mk_X2_all rfl rfl (by decide) (w_X2_all l G (d + 1) ⟨by omega, by omega⟩ hI_s31 p2 r_p2 p3 r_p3) rfl rfl (Nat.le_of_ble_eq_true rfl) (mh_rok (by omega) (by decide)) (fun y33 s34 q35 => ?_)
                have q35 := q35; subst q35
                refine mw_iload 68 rfl 4 dX9_lid_66  rfl ?_
                refine mw_callSl [.long y30, .long y33, .int p4] [] 71 rfl dX9_lid_68 ml_X9_277 mc_X9_lowestTerm mk_X9_lowestTerm (w_X9_lowestTerm l G (d + 1) ⟨by omega, by omega⟩ hI_s31 y30 y33 p4) rfl rfl (Nat.le_of_ble_eq_true rfl) (mh_rok (by omega) (by decide)) (fun y36 s37 q38 => ?_)
                have q38 := q38; subst q38
                exact mw_lret dX9_lid_71 rfl ⟨y36, rfl, ⟨hI_s31, hF_s31⟩⟩
              · skip
                have r_x26 : mh_r x26 (0) (0) := mh_eq1 (show x26.toInt = (0 : Int32).toInt from c29) r_x26 rc_0 (0) (0) (by decide)
                refine mw_ldc2 46 rfl dX9_lid_43 ck_X9_284 ?_
                exact mw_lret dX9_lid_46 rfl ⟨(-1), rfl, ⟨hI0, hF0⟩⟩

def P_X9_line (B D : Int) (s0 : mh_H) (p1 : Int32) (p2 : Int32) (p3 : Int32) (p4 : Int32) : Int32 → mh_H → Prop := fun z s => mh_r z (-2147483648) (2147483647) ∧ s0 = s
set_option maxRecDepth 100000 in
set_option maxHeartbeats 4000000 in
theorem w_X9_line (l : Launch) (G : mh_G) (d : Nat) {B D : Int} (hB : B ≤ 1940000000 ∧ D ≤ 1940000000) {s0 : mh_H} (hI0 : mh_I B D s0) (p1 : Int32) (p2 : Int32) (p3 : Int32) (p4 : Int32) : mh_Mi l G (d + 3) mM_X9_line [.ref (G.2.2.2 0), .int p1, .int p2, .int p3, .int p4] s0 (P_X9_line B D s0 p1 p2 p3 p4) := by
  refine mh_enter (lv := [(0, .ref (G.2.2.2 0)), (1, .int p1), (2, .int p2), (3, .int p3), (4, .int p4)]) (by decide) rfl (Nat.le_of_ble_eq_true rfl) ?_
  refine mw_iload_n 1 rfl 1 dX9_line_0 rfl rfl ?_
  refine mw_iconst (v := 2) 2 rfl dX9_line_1 (by decide) ?_
  refine mw_callSi [.int p1, .int (2)] [] 5 rfl dX9_line_2 ml_X9_98 mc_X9_isWithin mk_X9_isWithin (w_X9_isWithin l G (d + 2) ⟨by omega, by omega⟩ hI0 p1 (2)) rfl rfl (Nat.le_of_ble_eq_true rfl) (mh_rok (by omega) (by decide)) (fun x20 s21 q22 => ?_)
  obtain ⟨r_x20, e0_s21, rfl⟩ := q22
  refine mw_if_eq 8 rfl 25 dX9_line_5 (by decide) (fun c23 => ?_) (fun c23 => ?_)
  · skip
    have r_x20 : mh_r x20 (0) (0) := mh_eq1 (show x20.toInt = (0 : Int32).toInt from c23) r_x20 rc_0 (0) (0) (by decide)
    refine mw_iconst (v := -1) 26 rfl dX9_line_25 (by decide) ?_
    exact mw_iret dX9_line_26 rfl ⟨(-1), rfl, ⟨(mh_r_wk rc_m1 (by decide)), rfl⟩⟩
  · skip
    have r_p1 : mh_r p1 (0) (2) := ⟨by have := e0_s21.1 (mh_z1 r_x20 c23); have := ((mh_r_full p1)).1; omega, by have := e0_s21.1 (mh_z1 r_x20 c23); have := ((mh_r_full p1)).2; have := (rc_2).2; omega⟩
    have r_x20 : mh_r x20 (1) (1) := mh_ne1 (show x20.toInt ≠ (0 : Int32).toInt from c23) r_x20 rc_0 (1) (1) (by decide)
    refine mw_iload_n 9 rfl 2 dX9_line_8 rfl rfl ?_
    refine mw_iload_n 10 rfl 3 dX9_line_9 rfl rfl ?_
    refine mw_callSi [.int p2, .int p3] [] 13 rfl dX9_line_10 ml_X9_252 mc_X9_arePrices mk_X9_arePrices (w_X9_arePrices l G (d + 1) ⟨by omega, by omega⟩ hI0 p2 p3) rfl rfl (Nat.le_of_ble_eq_true rfl) (mh_rok (by omega) (by decide)) (fun x24 s25 q26 => ?_)
    obtain ⟨r_x24, e0_s25, rfl⟩ := q26
    refine mw_if_eq 16 rfl 25 dX9_line_13 (by decide) (fun c27 => ?_) (fun c27 => ?_)
    · skip
      have r_x24 : mh_r x24 (0) (0) := mh_eq1 (show x24.toInt = (0 : Int32).toInt from c27) r_x24 rc_0 (0) (0) (by decide)
      refine mw_iconst (v := -1) 26 rfl dX9_line_25 (by decide) ?_
      exact mw_iret dX9_line_26 rfl ⟨(-1), rfl, ⟨(mh_r_wk rc_m1 (by decide)), rfl⟩⟩
    · skip
      have r_p2 : mh_r p2 (0) (999) := ⟨by have := e0_s25.1 (mh_z1 r_x24 c27); have := ((mh_r_full p2)).1; omega, by have := e0_s25.1 (mh_z1 r_x24 c27); have := ((mh_r_full p2)).2; omega⟩
      have r_p3 : mh_r p3 (0) (999) := ⟨by have := e0_s25.1 (mh_z1 r_x24 c27); have := ((mh_r_full p3)).1; omega, by have := e0_s25.1 (mh_z1 r_x24 c27); have := ((mh_r_full p3)).2; omega⟩
      have r_x24 : mh_r x24 (1) (1) := mh_ne1 (show x24.toInt ≠ (0 : Int32).toInt from c27) r_x24 rc_0 (1) (1) (by decide)
      refine mw_iload 18 rfl 4 dX9_line_16  rfl ?_
      refine mw_iconst (v := 1) 19 rfl dX9_line_18 (by decide) ?_
      refine mw_callSi [.int p4, .int (1)] [] 22 rfl dX9_line_19 ml_X9_98 mc_X9_isWithin mk_X9_isWithin (w_X9_isWithin l G (d + 2) ⟨by omega, by omega⟩ hI0 p4 (1)) rfl rfl (Nat.le_of_ble_eq_true rfl) (mh_rok (by omega) (by decide)) (fun x28 s29 q30 => ?_)
      obtain ⟨r_x28, e0_s29, rfl⟩ := q30
      refine mw_if_ne 25 rfl 27 dX9_line_22 (by decide) (fun c31 => ?_) (fun c31 => ?_)
      · skip
        have r_p4 : mh_r p4 (0) (1) := ⟨by have := e0_s29.1 (mh_z1 r_x28 c31); have := ((mh_r_full p4)).1; omega, by have := e0_s29.1 (mh_z1 r_x28 c31); have := ((mh_r_full p4)).2; have := (rc_1).2; omega⟩
        have r_x28 : mh_r x28 (1) (1) := mh_ne1 (show x28.toInt ≠ (0 : Int32).toInt from c31) r_x28 rc_0 (1) (1) (by decide)
        refine mw_aload_n 28 rfl 0 dX9_line_27 rfl rfl ?_
        refine mw_geta 31 rfl dX9_line_28 gf_X9_46 rfl 29 (mh_rf hI0 6 rfl) ?_
        refine mw_iload_n 32 rfl 1 dX9_line_31 rfl rfl ?_
        refine mw_iload_n 33 rfl 2 dX9_line_32 rfl rfl ?_
        refine mw_iload_n 34 rfl 3 dX9_line_33 rfl rfl ?_
        refine mw_callVi [.int p1, .int p2, .int p3] [] 37 rfl dX9_line_34 ml_X9_255 mc_X3_bestLine mk_X3_bestLine rfl rfl (by decide) (w_X3_bestLine l G (d + 0) ⟨by omega, by omega⟩ hI0 p1 p2 p3) rfl rfl (Nat.le_of_ble_eq_true rfl) (mh_rok (by omega) (by decide)) (fun x32 s33 q34 => ?_)
        obtain ⟨r_x32, rfl⟩ := q34
        refine mw_istore 39 rfl [(5, .int x32), (0, .ref (G.2.2.2 0)), (1, .int p1), (2, .int p2), (3, .int p3), (4, .int p4)] dX9_line_37  (by decide) rfl ?_
        refine mw_iload 41 rfl 5 dX9_line_39  rfl ?_
        refine mw_if_ne 44 rfl 59 dX9_line_41 (by decide) (fun c35 => ?_) (fun c35 => ?_)
        · skip
          have r_p4 : mh_r p4 (1) (1) := mh_ne1 (show p4.toInt ≠ (0 : Int32).toInt from c35) r_p4 rc_0 (1) (1) (by decide)
          refine mw_iload 61 rfl 0 dX9_line_59  rfl ?_
          exact mw_iret dX9_line_61 rfl ⟨x32, rfl, ⟨(mh_r_wk r_x32 (by decide)), rfl⟩⟩
        · skip
          have r_p4 : mh_r p4 (0) (0) := mh_eq1 (show p4.toInt = (0 : Int32).toInt from c35) r_p4 rc_0 (0) (0) (by decide)
          refine mw_aload_n 45 rfl 1 dX9_line_44 rfl rfl ?_
          refine mw_geta 48 rfl dX9_line_45 gf_X9_46 rfl 29 (mh_rf hI0 6 rfl) ?_
          refine mw_iload_n 49 rfl 2 dX9_line_48 rfl rfl ?_
          refine mw_iload 51 rfl 0 dX9_line_49  rfl ?_
          refine mw_iload_n 52 rfl 3 dX9_line_51 rfl rfl ?_
          refine mw_iload_n 53 rfl 4 dX9_line_52 rfl rfl ?_
          refine mw_callVi [.int p1, .int x32, .int p2, .int p3] [] 56 rfl dX9_line_53 ml_X9_259 mc_X3_lineCost mk_X3_lineCost rfl rfl (by decide) (w_X3_lineCost l G (d + 1) ⟨by omega, by omega⟩ hI0 p1 x32 p2 p3) rfl rfl (Nat.le_of_ble_eq_true rfl) (mh_rok (by omega) (by decide)) (fun x36 s37 q38 => ?_)
          obtain ⟨r_x36, rfl⟩ := q38
          refine mw_goto 59 rfl 61 dX9_line_56 (by decide) ?_
          exact mw_iret dX9_line_61 rfl ⟨x36, rfl, ⟨r_x36, rfl⟩⟩
      · skip
        have r_x28 : mh_r x28 (0) (0) := mh_eq1 (show x28.toInt = (0 : Int32).toInt from c31) r_x28 rc_0 (0) (0) (by decide)
        refine mw_iconst (v := -1) 26 rfl dX9_line_25 (by decide) ?_
        exact mw_iret dX9_line_26 rfl ⟨(-1), rfl, ⟨(mh_r_wk rc_m1 (by decide)), rfl⟩⟩

def S_X9_night : List (Nat × Nat) := [(14, 9999), (15, 9999), (16, 9999), (17, 9999), (18, 9999), (13, 5), (13, 6), (13, 7), (46, 9999), (54, 9999), (47, 9999), (55, 9999), (20, 9999), (21, 9999), (22, 0), (22, 1), (22, 2)]
def P_X9_night (B D : Int) (s0 : mh_H) (p1 : Int32) (p2 : Int32) : Int32 → mh_H → Prop := fun z s => mh_r z (-2147483648) (2147483647) ∧ mh_I B D s ∧ mh_F S_X9_night s0 s
set_option maxRecDepth 100000 in
set_option maxHeartbeats 4000000 in
theorem w_X9_night (l : Launch) (G : mh_G) (d : Nat) {B D : Int} (hB : B ≤ 1880000000 ∧ D ≤ 1880000000) {s0 : mh_H} (hI0 : mh_I B D s0) (p1 : Int32) (p2 : Int32) : mh_Mi l G (d + 6) mM_X9_night [.ref (G.2.2.2 0), .int p1, .int p2] s0 (P_X9_night B D s0 p1 p2) := by
  refine mh_enter (lv := [(0, .ref (G.2.2.2 0)), (1, .int p1), (2, .int p2)]) (by decide) rfl (Nat.le_of_ble_eq_true rfl) ?_
  have hF0 : mh_F S_X9_night s0 s0 := mh_F_rf
  refine mw_iload_n 1 rfl 1 dX9_night_0 rfl rfl ?_
  refine mw_callSi [.int p1] [] 4 rfl dX9_night_1 ml_X9_128 mc_X9_isNight mk_X9_isNight (w_X9_isNight l G (d + 5) ⟨by omega, by omega⟩ hI0 p1) rfl rfl (Nat.le_of_ble_eq_true rfl) (mh_rok (by omega) (by decide)) (fun x1015 s1016 q1017 => ?_)
  obtain ⟨r_x1015, e0_s1016, rfl⟩ := q1017
  refine mw_if_eq 7 rfl 15 dX9_night_4 (by decide) (fun c1018 => ?_) (fun c1018 => ?_)
  · skip
    have r_x1015 : mh_r x1015 (0) (0) := mh_eq1 (show x1015.toInt = (0 : Int32).toInt from c1018) r_x1015 rc_0 (0) (0) (by decide)
    refine mw_iconst (v := -1) 16 rfl dX9_night_15 (by decide) ?_
    exact mw_iret dX9_night_16 rfl ⟨(-1), rfl, ⟨(mh_r_wk rc_m1 (by decide)), hI0, hF0⟩⟩
  · skip
    have r_p1 : mh_r p1 (1) (60) := ⟨by have := e0_s1016.1 (mh_z1 r_x1015 c1018); have := ((mh_r_full p1)).1; omega, by have := e0_s1016.1 (mh_z1 r_x1015 c1018); have := ((mh_r_full p1)).2; omega⟩
    have r_x1015 : mh_r x1015 (1) (1) := mh_ne1 (show x1015.toInt ≠ (0 : Int32).toInt from c1018) r_x1015 rc_0 (1) (1) (by decide)
    refine mw_iload_n 8 rfl 2 dX9_night_7 rfl rfl ?_
    refine mw_iconst (v := 4) 9 rfl dX9_night_8 (by decide) ?_
    refine mw_callSi [.int p2, .int (4)] [] 12 rfl dX9_night_9 ml_X9_98 mc_X9_isWithin mk_X9_isWithin (w_X9_isWithin l G (d + 5) ⟨by omega, by omega⟩ hI0 p2 (4)) rfl rfl (Nat.le_of_ble_eq_true rfl) (mh_rok (by omega) (by decide)) (fun x1019 s1020 q1021 => ?_)
    obtain ⟨r_x1019, e0_s1020, rfl⟩ := q1021
    refine mw_if_ne 15 rfl 17 dX9_night_12 (by decide) (fun c1022 => ?_) (fun c1022 => ?_)
    · skip
      have r_p2 : mh_r p2 (0) (4) := ⟨by have := e0_s1020.1 (mh_z1 r_x1019 c1022); have := ((mh_r_full p2)).1; omega, by have := e0_s1020.1 (mh_z1 r_x1019 c1022); have := ((mh_r_full p2)).2; have := (rc_4).2; omega⟩
      have r_x1019 : mh_r x1019 (1) (1) := mh_ne1 (show x1019.toInt ≠ (0 : Int32).toInt from c1022) r_x1019 rc_0 (1) (1) (by decide)
      refine mw_bipush (v := -2) 19 rfl dX9_night_17 (by decide) ?_
      refine mw_istore_n 20 rfl [(3, .int (-2)), (0, .ref (G.2.2.2 0)), (1, .int p1), (2, .int p2)] dX9_night_19 rfl (by decide) rfl ?_
      refine mw_bipush (v := -2) 22 rfl dX9_night_20 (by decide) ?_
      refine mw_istore 24 rfl [(4, .int (-2)), (3, .int (-2)), (0, .ref (G.2.2.2 0)), (1, .int p1), (2, .int p2)] dX9_night_22  (by decide) rfl ?_
      refine mw_bipush (v := -2) 26 rfl dX9_night_24 (by decide) ?_
      refine mw_istore 28 rfl [(5, .int (-2)), (4, .int (-2)), (3, .int (-2)), (0, .ref (G.2.2.2 0)), (1, .int p1), (2, .int p2)] dX9_night_26  (by decide) rfl ?_
      refine mw_bipush (v := -2) 30 rfl dX9_night_28 (by decide) ?_
      refine mw_istore 32 rfl [(6, .int (-2)), (5, .int (-2)), (4, .int (-2)), (3, .int (-2)), (0, .ref (G.2.2.2 0)), (1, .int p1), (2, .int p2)] dX9_night_30  (by decide) rfl ?_
      refine mw_iconst (v := 0) 33 rfl dX9_night_32 (by decide) ?_
      refine mw_istore 35 rfl [(7, .int (0)), (6, .int (-2)), (5, .int (-2)), (4, .int (-2)), (3, .int (-2)), (0, .ref (G.2.2.2 0)), (1, .int p1), (2, .int p2)] dX9_night_33  (by decide) rfl ?_
      refine mw_aload_n 36 rfl 5 dX9_night_35 rfl rfl ?_
      refine mw_geta 39 rfl dX9_night_36 gf_X9_19 rfl 13 (mh_rf hI0 2 rfl) ?_
      refine mw_aload_n 40 rfl 5 dX9_night_39 rfl rfl ?_
      refine mw_geta 43 rfl dX9_night_40 gf_X9_10 rfl 1 (mh_rf hI0 0 rfl) ?_
      refine mw_callVv [.ref (G.2.2.2 1)] [] 46 rfl dX9_night_43 ml_X9_169 mc_X8_copyFrom mk_X8_copyFrom rfl rfl (by decide) (w_X8_copyFrom l G (d + 4) ⟨by omega, by omega⟩ hI0 13 (Or.inr (Or.inr rfl)) 1 (Or.inl rfl)) rfl rfl (Nat.le_of_ble_eq_true rfl) (mh_rok (by omega) (by decide)) (fun s1024 q1025 => ?_)
      obtain ⟨hI_s1024, hG_s1024⟩ := q1025
      have hF_s1024 : mh_F S_X9_night s0 s1024 := mh_F_tl hF0 hG_s1024 (by decide +kernel)
      refine mw_iconst (v := 0) 47 rfl dX9_night_46 (by decide) ?_
      refine mw_istore 49 rfl [(8, .int (0)), (7, .int (0)), (6, .int (-2)), (5, .int (-2)), (4, .int (-2)), (3, .int (-2)), (0, .ref (G.2.2.2 0)), (1, .int p1), (2, .int p2)] dX9_night_47  (by decide) rfl ?_
      have L49 : ∀ n1 : Nat, ∀ (x1942 : Int32) (x1943 : Int32) (x1944 : Int32) (x1945 : Int32) (x1946 : Int32) (x1947 : Int32) (s1948 : mh_H), mh_r x1942 (0) (60) → mh_r x1947 (-2) (2147483647) → mh_I B D s1948 → mh_F S_X9_night s0 s1948 → (60) - x1942.toInt < (n1 : Int) → mh_W G (mh_XM l G (d + 6) (mh_Qi (P_X9_night B D s0 p1 p2))) mM_X9_night 49 [(0, .ref (G.2.2.2 0)), (1, .int p1), (2, .int p2), (3, .int x1947), (4, .int x1946), (5, .int x1945), (6, .int x1944), (7, .int x1943), (8, .int x1942)] [] s1948 := by
        intro n1
        induction n1 with
        | zero =>
          intro x1942 x1943 x1944 x1945 x1946 x1947 s1948 r_x1942 r_x1947 hI_s1948 hF_s1948 hmn1
          exact absurd hmn1 (by have := r_x1942.1; have := r_x1942.2; omega)
        | succ n1 ihn1 =>
          intro x1942 x1943 x1944 x1945 x1946 x1947 s1948 r_x1942 r_x1947 hI_s1948 hF_s1948 hmn1
          refine mw_iload 51 rfl 8 dX9_night_49  rfl ?_
          refine mw_iload_n 52 rfl 1 dX9_night_51 rfl rfl ?_
          refine mw_icmp_ge 55 rfl 158 dX9_night_52 (by decide) (fun c1992 => ?_) (fun c1992 => ?_)
          · skip
            have r_x1942 : mh_r x1942 (1) (60) := mh_le2 c1992 r_p1 r_x1942 (1) (by decide)
            refine mw_iload_n 159 rfl 2 dX9_night_158 rfl rfl ?_
            rcases (show p2.toInt = 0 ∨ p2.toInt = 1 ∨ p2.toInt = 2 ∨ p2.toInt = 3 ∨ (p2.toInt < 0 ∨ 3 < p2.toInt) by have := r_p2.1; have := r_p2.2; omega) with c1993 | c1993 | c1993 | c1993 | c1993
            · refine mw_tabIn 188 dX9_night_159 (by rw [c1993]; decide) (by rw [c1993]; decide) (by rw [c1993]; rfl) (by decide) ?_
              have r_p2 : mh_r p2 (0) (0) := mh_eq1 (show p2.toInt = (0 : Int32).toInt from c1993.trans rfl) r_p2 rc_0 (0) (0) (by decide)
              refine mw_iload_n 189 rfl 3 dX9_night_188 rfl rfl ?_
              exact mw_iret dX9_night_189 rfl ⟨x1947, rfl, ⟨(mh_r_wk r_x1947 (by decide)), hI_s1948, hF_s1948⟩⟩
            · refine mw_tabIn 190 dX9_night_159 (by rw [c1993]; decide) (by rw [c1993]; decide) (by rw [c1993]; rfl) (by decide) ?_
              have r_p2 : mh_r p2 (1) (1) := mh_eq1 (show p2.toInt = (1 : Int32).toInt from c1993.trans rfl) r_p2 rc_1 (1) (1) (by decide)
              refine mw_iload 192 rfl 4 dX9_night_190  rfl ?_
              exact mw_iret dX9_night_192 rfl ⟨x1946, rfl, ⟨(mh_r_full x1946), hI_s1948, hF_s1948⟩⟩
            · refine mw_tabIn 193 dX9_night_159 (by rw [c1993]; decide) (by rw [c1993]; decide) (by rw [c1993]; rfl) (by decide) ?_
              have r_p2 : mh_r p2 (2) (2) := mh_eq1 (show p2.toInt = (2 : Int32).toInt from c1993.trans rfl) r_p2 rc_2 (2) (2) (by decide)
              refine mw_iload 195 rfl 5 dX9_night_193  rfl ?_
              exact mw_iret dX9_night_195 rfl ⟨x1945, rfl, ⟨(mh_r_full x1945), hI_s1948, hF_s1948⟩⟩
            · refine mw_tabIn 196 dX9_night_159 (by rw [c1993]; decide) (by rw [c1993]; decide) (by rw [c1993]; rfl) (by decide) ?_
              have r_p2 : mh_r p2 (3) (3) := mh_eq1 (show p2.toInt = (3 : Int32).toInt from c1993.trans rfl) r_p2 rc_3 (3) (3) (by decide)
              refine mw_iload 198 rfl 6 dX9_night_196  rfl ?_
              exact mw_iret dX9_night_198 rfl ⟨x1944, rfl, ⟨(mh_r_full x1944), hI_s1948, hF_s1948⟩⟩
            · refine mw_tabOut 199 dX9_night_159 c1993 (by decide) ?_
              refine mw_iload 201 rfl 7 dX9_night_199  rfl ?_
              exact mw_iret dX9_night_201 rfl ⟨x1943, rfl, ⟨(mh_r_full x1943), hI_s1948, hF_s1948⟩⟩
          · skip
            have r_x1942 : mh_r x1942 (0) (59) := mh_lt1 c1992 r_x1942 r_p1 (59) (by decide)
            refine mw_aload_n 56 rfl 0 dX9_night_55 rfl rfl ?_
            refine mw_geta 59 rfl dX9_night_56 gf_X9_25 rfl 19 (mh_rf hI_s1948 3 rfl) ?_
            refine mw_aload_n 60 rfl 0 dX9_night_59 rfl rfl ?_
            refine mw_geta 63 rfl dX9_night_60 gf_X9_19 rfl 13 (mh_rf hI_s1948 2 rfl) ?_
            refine mw_aload_n 64 rfl 0 dX9_night_63 rfl rfl ?_
            obtain ⟨k1995, t1994⟩ : ∃ y : Nat, s1948.2.2 0 11 = y := ⟨_, rfl⟩
            have hk1995 : mh_isL k1995 := by rw [← t1994]; exact hI_s1948.2.1.2.1
            refine mw_geta 67 rfl dX9_night_64 gf_X9_71 rfl k1995 t1994 ?_
            refine mw_callVv [.ref (G.2.2.2 13), .ref (G.2.2.2 k1995)] [] 70 rfl dX9_night_67 ml_X9_135 mc_X0_pass mk_X0_pass rfl rfl (by decide) (w_X0_pass l G (d + 1) ⟨by omega, by omega⟩ hI_s1948 13 (Or.inr (Or.inr rfl)) k1995 hk1995) rfl rfl (Nat.le_of_ble_eq_true rfl) (mh_rok (by omega) (by decide)) (fun s1997 q1998 => ?_)
            obtain ⟨hI_s1997, hG_s1997⟩ := q1998
            have hF_s1997 : mh_F S_X9_night s0 s1997 := mh_F_tl hF_s1948 hG_s1997 (by rcases hk1995 with rfl | rfl <;> decide +kernel)
            refine mw_aload_n 71 rfl 0 dX9_night_70 rfl rfl ?_
            refine mw_geta 74 rfl dX9_night_71 gf_X9_32 rfl 22 (mh_rf hI_s1997 4 rfl) ?_
            refine mw_aload_n 75 rfl 0 dX9_night_74 rfl rfl ?_
            refine mw_geta 78 rfl dX9_night_75 gf_X9_19 rfl 13 (mh_rf hI_s1997 2 rfl) ?_
            refine mw_aload_n 79 rfl 0 dX9_night_78 rfl rfl ?_
            obtain ⟨k2000, t1999⟩ : ∃ y : Nat, s1997.2.2 0 11 = y := ⟨_, rfl⟩
            have hk2000 : mh_isL k2000 := by rw [← t1999]; exact hI_s1997.2.1.2.1
            refine mw_geta 82 rfl dX9_night_79 gf_X9_71 rfl k2000 t1999 ?_
            refine mw_callVv [.ref (G.2.2.2 13), .ref (G.2.2.2 k2000)] [] 85 rfl dX9_night_82 ml_X9_160 mc_X6_look mk_X6_look rfl rfl (by decide) (w_X6_look l G (d + 0) ⟨by omega, by omega⟩ hI_s1997 13 (Or.inr (Or.inr rfl)) k2000 hk2000) rfl rfl (Nat.le_of_ble_eq_true rfl) (mh_rok (by omega) (by decide)) (fun s2002 q2003 => ?_)
            obtain ⟨hI_s2002, hG_s2002⟩ := q2003
            have hF_s2002 : mh_F S_X9_night s0 s2002 := mh_F_tl hF_s1997 hG_s2002 (by rcases hk2000 with rfl | rfl <;> decide +kernel)
            refine mw_aload_n 86 rfl 0 dX9_night_85 rfl rfl ?_
            refine mw_geta 89 rfl dX9_night_86 gf_X9_32 rfl 22 (mh_rf hI_s2002 4 rfl) ?_
            refine mw_geti 92 rfl dX9_night_89 gf_X9_163 rfl (fun x2004 t2005 => ?_)
            have J152 : ∀ (x2022 : Int32) (x2023 : Int32) (x2024 : Int32) (x2025 : Int32) (x2026 : Int32), mh_r x2023 (-2) (2147483647) → mh_W G (mh_XM l G (d + 6) (mh_Qi (P_X9_night B D s0 p1 p2))) mM_X9_night 152 [(0, .ref (G.2.2.2 0)), (1, .int p1), (2, .int p2), (3, .int x2023), (4, .int x2024), (5, .int x2025), (6, .int x2026), (7, .int x2022), (8, .int x1942)] [] s2002 := by
              intro x2022 x2023 x2024 x2025 x2026 r_x2023
              refine mw_iincR (k := 8) (1) (60) 155 rfl (fun z => [(8, .int z), (0, .ref (G.2.2.2 0)), (1, .int p1), (2, .int p2), (3, .int x2023), (4, .int x2024), (5, .int x2025), (6, .int x2026), (7, .int x2022)]) dX9_night_152 rfl (by decide) (fun _ => rfl) r_x1942 (by decide) (by decide) (fun x2029 t2030 r_x2029 => ?_)
              refine mw_goto 158 rfl 49 dX9_night_155 (by decide) ?_
              exact mw_lv [1, 2, 3, 4, 5, 6, 7, 8, 0] rfl (ihn1 x2029 x2022 x2026 x2025 x2024 x2023 s2002 (mh_r_wk r_x2029 (by decide)) r_x2023 hI_s2002 hF_s2002 (by have : x2029.toInt = x1942.toInt + (1) := t2030; omega))
            refine mw_if_ne 95 rfl 98 dX9_night_92 (by decide) (fun c2031 => ?_) (fun c2031 => ?_)
            · skip
              refine mw_iload 100 rfl 7 dX9_night_98  rfl ?_
              have J121 : ∀ (x2037 : Int32) (x2038 : Int32), mh_W G (mh_XM l G (d + 6) (mh_Qi (P_X9_night B D s0 p1 p2))) mM_X9_night 121 [(0, .ref (G.2.2.2 0)), (1, .int p1), (2, .int p2), (3, .int x1947), (4, .int x1946), (5, .int x2037), (6, .int x2038), (7, .int x1943), (8, .int x1942)] [] s2002 := by
                intro x2037 x2038
                refine mw_iincU (k := 7) 124 rfl (fun z => [(7, .int z), (0, .ref (G.2.2.2 0)), (1, .int p1), (2, .int p2), (3, .int x1947), (4, .int x1946), (5, .int x2037), (6, .int x2038), (8, .int x1942)]) dX9_night_121 rfl (by decide) (fun _ => rfl) (fun x2047 _ => ?_)
                refine mw_aload_n 125 rfl 1 dX9_night_124 rfl rfl ?_
                refine mw_geta 128 rfl dX9_night_125 gf_X9_32 rfl 22 (mh_rf hI_s2002 4 rfl) ?_
                refine mw_geti 131 rfl dX9_night_128 gf_X9_166 rfl (fun x2048 t2049 => ?_)
                refine mw_iload_n 132 rfl 4 dX9_night_131 rfl rfl ?_
                refine mw_icmp_le 135 rfl 152 dX9_night_132 (by decide) (fun c2050 => ?_) (fun c2050 => ?_)
                · skip
                  exact mw_lv [1, 2, 3, 4, 5, 6, 7, 0, 8] rfl (J152 x2047 x1947 x1946 x2037 x2038 r_x1947)
                · skip
                  have r_x1947 : mh_r x1947 (-2) (2147483646) := mh_lt1 c2050 r_x1947 (mh_r_full x2048) (2147483646) (by decide)
                  have r_x2048 : mh_r x2048 (-1) (2147483647) := mh_lt2 c2050 r_x1947 (mh_r_full x2048) (-1) (by decide)
                  refine mw_aload_n 136 rfl 1 dX9_night_135 rfl rfl ?_
                  refine mw_geta 139 rfl dX9_night_136 gf_X9_32 rfl 22 (mh_rf hI_s2002 4 rfl) ?_
                  refine mw_geti 142 rfl dX9_night_139 gf_X9_166 rfl (fun x2051 t2052 => ?_)
                  obtain rfl : x2048 = x2051 := t2049.trans t2052.symm
                  refine mw_istore_n 143 rfl [(3, .int x2048), (7, .int x2047), (0, .ref (G.2.2.2 0)), (1, .int p1), (2, .int p2), (4, .int x1946), (5, .int x2037), (6, .int x2038), (8, .int x1942)] dX9_night_142 rfl (by decide) rfl ?_
                  refine mw_aload_n 144 rfl 2 dX9_night_143 rfl rfl ?_
                  refine mw_geta 147 rfl dX9_night_144 gf_X9_19 rfl 13 (mh_rf hI_s2002 2 rfl) ?_
                  refine mw_geti 150 rfl dX9_night_147 gf_X9_176 rfl (fun x2053 t2054 => ?_)
                  refine mw_istore 152 rfl [(4, .int x2053), (3, .int x2048), (7, .int x2047), (0, .ref (G.2.2.2 0)), (1, .int p1), (2, .int p2), (5, .int x2037), (6, .int x2038), (8, .int x1942)] dX9_night_150  (by decide) rfl ?_
                  exact mw_lv [3, 4, 5, 1, 0, 6, 7, 2, 8] rfl (J152 x2047 x2048 x2053 x2037 x2038 (mh_r_wk r_x2048 (by decide)))
              refine mw_if_ne 103 rfl 121 dX9_night_100 (by decide) (fun c2055 => ?_) (fun c2055 => ?_)
              · skip
                exact mw_lv [0, 1, 2, 3, 4, 5, 6, 7, 8] rfl (J121 x1945 x1944)
              · skip
                have r_x1943 : mh_r x1943 (0) (0) := mh_eq1 (show x1943.toInt = (0 : Int32).toInt from c2055) (mh_r_full x1943) rc_0 (0) (0) (by decide)
                refine mw_aload_n 104 rfl 0 dX9_night_103 rfl rfl ?_
                refine mw_geta 107 rfl dX9_night_104 gf_X9_32 rfl 22 (mh_rf hI_s2002 4 rfl) ?_
                refine mw_geti 110 rfl dX9_night_107 gf_X9_173 rfl (fun x2056 t2057 => ?_)
                refine mw_istore 112 rfl [(5, .int x2056), (0, .ref (G.2.2.2 0)), (1, .int p1), (2, .int p2), (3, .int x1947), (4, .int x1946), (6, .int x1944), (7, .int x1943), (8, .int x1942)] dX9_night_110  (by decide) rfl ?_
                refine mw_aload_n 113 rfl 1 dX9_night_112 rfl rfl ?_
                refine mw_geta 116 rfl dX9_night_113 gf_X9_19 rfl 13 (mh_rf hI_s2002 2 rfl) ?_
                refine mw_geti 119 rfl dX9_night_116 gf_X9_176 rfl (fun x2058 t2059 => ?_)
                refine mw_istore 121 rfl [(6, .int x2058), (5, .int x2056), (0, .ref (G.2.2.2 0)), (1, .int p1), (2, .int p2), (3, .int x1947), (4, .int x1946), (7, .int x1943), (8, .int x1942)] dX9_night_119  (by decide) rfl ?_
                exact mw_lv [2, 3, 4, 5, 6, 1, 0, 7, 8] rfl (J121 x2056 x2058)
            · skip
              have r_x2004 : mh_r x2004 (0) (0) := mh_eq1 (show x2004.toInt = (0 : Int32).toInt from c2031) (mh_r_full x2004) rc_0 (0) (0) (by decide)
              refine mw_goto 98 rfl 152 dX9_night_95 (by decide) ?_
              exact mw_lv [0, 1, 2, 3, 4, 5, 6, 7, 8] rfl (J152 x1943 x1947 x1946 x1945 x1944 r_x1947)
      exact mw_lv [6, 7, 8, 5, 4, 3, 2, 1, 0] rfl (L49 61 (0) (0) (-2) (-2) (-2) (-2) s1024 (mh_r_wk rc_0 (by decide)) (mh_r_wk rc_m2 (by decide)) hI_s1024 hF_s1024 (by have := (rc_0).1; have := (rc_0).2; omega))
    · skip
      have r_x1019 : mh_r x1019 (0) (0) := mh_eq1 (show x1019.toInt = (0 : Int32).toInt from c1022) r_x1019 rc_0 (0) (0) (by decide)
      refine mw_iconst (v := -1) 16 rfl dX9_night_15 (by decide) ?_
      exact mw_iret dX9_night_16 rfl ⟨(-1), rfl, ⟨(mh_r_wk rc_m1 (by decide)), hI0, hF0⟩⟩

def P_X9_odds (B D : Int) (s0 : mh_H) (p1 : Int32) (p2 : Int32) (p3 : Int32) (p4 : Int32) (p5 : Int32) : Int32 → mh_H → Prop := fun z s => mh_r z (-2147483648) (2147483647) ∧ s0 = s
set_option maxRecDepth 100000 in
set_option maxHeartbeats 4000000 in
theorem w_X9_odds (l : Launch) (G : mh_G) (d : Nat) {B D : Int} (hB : B ≤ 1960000000 ∧ D ≤ 1960000000) {s0 : mh_H} (hI0 : mh_I B D s0) (p1 : Int32) (p2 : Int32) (p3 : Int32) (p4 : Int32) (p5 : Int32) : mh_Mi l G (d + 2) mM_X9_odds [.ref (G.2.2.2 0), .int p1, .int p2, .int p3, .int p4, .int p5] s0 (P_X9_odds B D s0 p1 p2 p3 p4 p5) := by
  refine mh_enter (lv := [(0, .ref (G.2.2.2 0)), (1, .int p1), (2, .int p2), (3, .int p3), (4, .int p4), (5, .int p5)]) (by decide) rfl (Nat.le_of_ble_eq_true rfl) ?_
  refine mw_iload_n 1 rfl 1 dX9_odds_0 rfl rfl ?_
  refine mw_iload_n 2 rfl 2 dX9_odds_1 rfl rfl ?_
  refine mw_iload_n 3 rfl 3 dX9_odds_2 rfl rfl ?_
  refine mw_callSi [.int p1, .int p2, .int p3] [] 6 rfl dX9_odds_3 ml_X9_232 mc_X9_isEvening mk_X9_isEvening (w_X9_isEvening l G (d + 0) ⟨by omega, by omega⟩ hI0 p1 p2 p3) rfl rfl (Nat.le_of_ble_eq_true rfl) (mh_rok (by omega) (by decide)) (fun x658 s659 q660 => ?_)
  obtain ⟨r_x658, e0_s659, rfl⟩ := q660
  refine mw_if_eq 9 rfl 28 dX9_odds_6 (by decide) (fun c661 => ?_) (fun c661 => ?_)
  · skip
    have r_x658 : mh_r x658 (0) (0) := mh_eq1 (show x658.toInt = (0 : Int32).toInt from c661) r_x658 rc_0 (0) (0) (by decide)
    refine mw_iconst (v := -1) 29 rfl dX9_odds_28 (by decide) ?_
    exact mw_iret dX9_odds_29 rfl ⟨(-1), rfl, ⟨(mh_r_wk rc_m1 (by decide)), rfl⟩⟩
  · skip
    have r_p1 : mh_r p1 (0) (99) := ⟨by have := e0_s659.1 (mh_z1 r_x658 c661); have := ((mh_r_full p1)).1; omega, by have := e0_s659.1 (mh_z1 r_x658 c661); have := ((mh_r_full p1)).2; omega⟩
    have r_p2 : mh_r p2 (0) (99) := ⟨by have := e0_s659.1 (mh_z1 r_x658 c661); have := ((mh_r_full p2)).1; omega, by have := e0_s659.1 (mh_z1 r_x658 c661); have := ((mh_r_full p2)).2; omega⟩
    have r_p3 : mh_r p3 (0) (99) := ⟨by have := e0_s659.1 (mh_z1 r_x658 c661); have := ((mh_r_full p3)).1; omega, by have := e0_s659.1 (mh_z1 r_x658 c661); have := ((mh_r_full p3)).2; omega⟩
    have r_x658 : mh_r x658 (1) (1) := mh_ne1 (show x658.toInt ≠ (0 : Int32).toInt from c661) r_x658 rc_0 (1) (1) (by decide)
    refine mw_iload 11 rfl 4 dX9_odds_9  rfl ?_
    refine mw_bipush (v := 99) 13 rfl dX9_odds_11 (by decide) ?_
    refine mw_callSi [.int p4, .int (99)] [] 16 rfl dX9_odds_13 ml_X9_98 mc_X9_isWithin mk_X9_isWithin (w_X9_isWithin l G (d + 1) ⟨by omega, by omega⟩ hI0 p4 (99)) rfl rfl (Nat.le_of_ble_eq_true rfl) (mh_rok (by omega) (by decide)) (fun x662 s663 q664 => ?_)
    obtain ⟨r_x662, e0_s663, rfl⟩ := q664
    refine mw_if_eq 19 rfl 28 dX9_odds_16 (by decide) (fun c665 => ?_) (fun c665 => ?_)
    · skip
      have r_x662 : mh_r x662 (0) (0) := mh_eq1 (show x662.toInt = (0 : Int32).toInt from c665) r_x662 rc_0 (0) (0) (by decide)
      refine mw_iconst (v := -1) 29 rfl dX9_odds_28 (by decide) ?_
      exact mw_iret dX9_odds_29 rfl ⟨(-1), rfl, ⟨(mh_r_wk rc_m1 (by decide)), rfl⟩⟩
    · skip
      have r_p4 : mh_r p4 (0) (99) := ⟨by have := e0_s663.1 (mh_z1 r_x662 c665); have := ((mh_r_full p4)).1; omega, by have := e0_s663.1 (mh_z1 r_x662 c665); have := ((mh_r_full p4)).2; have := (rc_99).2; omega⟩
      have r_x662 : mh_r x662 (1) (1) := mh_ne1 (show x662.toInt ≠ (0 : Int32).toInt from c665) r_x662 rc_0 (1) (1) (by decide)
      refine mw_iload 21 rfl 5 dX9_odds_19  rfl ?_
      refine mw_iconst (v := 2) 22 rfl dX9_odds_21 (by decide) ?_
      refine mw_callSi [.int p5, .int (2)] [] 25 rfl dX9_odds_22 ml_X9_98 mc_X9_isWithin mk_X9_isWithin (w_X9_isWithin l G (d + 1) ⟨by omega, by omega⟩ hI0 p5 (2)) rfl rfl (Nat.le_of_ble_eq_true rfl) (mh_rok (by omega) (by decide)) (fun x666 s667 q668 => ?_)
      obtain ⟨r_x666, e0_s667, rfl⟩ := q668
      refine mw_if_ne 28 rfl 30 dX9_odds_25 (by decide) (fun c669 => ?_) (fun c669 => ?_)
      · skip
        have r_p5 : mh_r p5 (0) (2) := ⟨by have := e0_s667.1 (mh_z1 r_x666 c669); have := ((mh_r_full p5)).1; omega, by have := e0_s667.1 (mh_z1 r_x666 c669); have := ((mh_r_full p5)).2; have := (rc_2).2; omega⟩
        have r_x666 : mh_r x666 (1) (1) := mh_ne1 (show x666.toInt ≠ (0 : Int32).toInt from c669) r_x666 rc_0 (1) (1) (by decide)
        refine mw_iconst (v := 0) 31 rfl dX9_odds_30 (by decide) ?_
        refine mw_istore 33 rfl [(6, .int (0)), (0, .ref (G.2.2.2 0)), (1, .int p1), (2, .int p2), (3, .int p3), (4, .int p4), (5, .int p5)] dX9_odds_31  (by decide) rfl ?_
        refine mw_iconst (v := 0) 34 rfl dX9_odds_33 (by decide) ?_
        refine mw_istore 36 rfl [(7, .int (0)), (6, .int (0)), (0, .ref (G.2.2.2 0)), (1, .int p1), (2, .int p2), (3, .int p3), (4, .int p4), (5, .int p5)] dX9_odds_34  (by decide) rfl ?_
        refine mw_iconst (v := 0) 37 rfl dX9_odds_36 (by decide) ?_
        refine mw_istore 39 rfl [(8, .int (0)), (7, .int (0)), (6, .int (0)), (0, .ref (G.2.2.2 0)), (1, .int p1), (2, .int p2), (3, .int p3), (4, .int p4), (5, .int p5)] dX9_odds_37  (by decide) rfl ?_
        refine mw_iconst (v := 0) 40 rfl dX9_odds_39 (by decide) ?_
        refine mw_istore 42 rfl [(9, .int (0)), (8, .int (0)), (7, .int (0)), (6, .int (0)), (0, .ref (G.2.2.2 0)), (1, .int p1), (2, .int p2), (3, .int p3), (4, .int p4), (5, .int p5)] dX9_odds_40  (by decide) rfl ?_
        have L42 : ∀ n1 : Nat, ∀ (x1252 : Int32) (x1253 : Int32) (x1254 : Int32) (x1255 : Int32), mh_r x1252 (0) (60) → mh_r x1253 (0) (2147483647) → (60) - x1252.toInt < (n1 : Int) → mh_W G (mh_XM l G (d + 2) (mh_Qi (P_X9_odds B D s0 p1 p2 p3 p4 p5))) mM_X9_odds 42 [(0, .ref (G.2.2.2 0)), (1, .int p1), (2, .int p2), (3, .int p3), (4, .int p4), (5, .int p5), (6, .int x1255), (7, .int x1254), (8, .int x1253), (9, .int x1252)] [] s0 := by
          intro n1
          induction n1 with
          | zero =>
            intro x1252 x1253 x1254 x1255 r_x1252 r_x1253 hmn1
            exact absurd hmn1 (by have := r_x1252.1; have := r_x1252.2; omega)
          | succ n1 ihn1 =>
            intro x1252 x1253 x1254 x1255 r_x1252 r_x1253 hmn1
            refine mw_iload 44 rfl 9 dX9_odds_42  rfl ?_
            refine mw_aload_n 45 rfl 0 dX9_odds_44 rfl rfl ?_
            refine mw_geta 48 rfl dX9_odds_45 gf_X9_46 rfl 29 (mh_rf hI0 6 rfl) ?_
            refine mw_geti 51 rfl dX9_odds_48 gf_X9_236 rfl (fun x1282 t1283 => ?_)
            have r_x1282 : mh_r x1282 (0) (60) := by rw [t1283]; exact rd_29_5 hI0
            refine mw_icmp_ge 54 rfl 116 dX9_odds_51 (by decide) (fun c1284 => ?_) (fun c1284 => ?_)
            · skip
              refine mw_iload 118 rfl 6 dX9_odds_116  rfl ?_
              refine mw_if_ne 121 rfl 124 dX9_odds_118 (by decide) (fun c1285 => ?_) (fun c1285 => ?_)
              · skip
                refine mw_iload 126 rfl 5 dX9_odds_124  rfl ?_
                refine mw_iconst (v := 2) 127 rfl dX9_odds_126 (by decide) ?_
                refine mw_icmp_ne 130 rfl 133 dX9_odds_127 (by decide) (fun c1286 => ?_) (fun c1286 => ?_)
                · skip
                  have r_p5 : mh_r p5 (0) (1) := mh_ne1 c1286 r_p5 rc_2 (0) (1) (by decide)
                  refine mw_iload 135 rfl 7 dX9_odds_133  rfl ?_
                  refine mw_i2l 136 rfl dX9_odds_135 (fun y1287 t1288 => ?_)
                  refine mw_iload 138 rfl 6 dX9_odds_136  rfl ?_
                  refine mw_i2l 139 rfl dX9_odds_138 (fun y1289 t1290 => ?_)
                  refine mw_iload 141 rfl 5 dX9_odds_139  rfl ?_
                  refine mw_callSl [.long y1287, .long y1289, .int p5] [] 144 rfl dX9_odds_141 ml_X9_277 mc_X9_lowestTerm mk_X9_lowestTerm (w_X9_lowestTerm l G (d + 1) ⟨by omega, by omega⟩ hI0 y1287 y1289 p5) rfl rfl (Nat.le_of_ble_eq_true rfl) (mh_rok (by omega) (by decide)) (fun y1291 s1292 q1293 => ?_)
                  have q1293 := q1293; subst q1293
                  refine mw_l2i 145 rfl dX9_odds_144 (fun x1294 t1295 => ?_)
                  exact mw_iret dX9_odds_145 rfl ⟨x1294, rfl, ⟨(mh_r_full x1294), rfl⟩⟩
                · skip
                  have r_p5 : mh_r p5 (2) (2) := mh_eq1 c1286 r_p5 rc_2 (2) (2) (by decide)
                  refine mw_iload 132 rfl 8 dX9_odds_130  rfl ?_
                  exact mw_iret dX9_odds_132 rfl ⟨x1253, rfl, ⟨(mh_r_wk r_x1253 (by decide)), rfl⟩⟩
              · skip
                have r_x1255 : mh_r x1255 (0) (0) := mh_eq1 (show x1255.toInt = (0 : Int32).toInt from c1285) (mh_r_full x1255) rc_0 (0) (0) (by decide)
                refine mw_bipush (v := -2) 123 rfl dX9_odds_121 (by decide) ?_
                exact mw_iret dX9_odds_123 rfl ⟨(-2), rfl, ⟨(mh_r_wk rc_m2 (by decide)), rfl⟩⟩
            · skip
              have r_x1252 : mh_r x1252 (0) (59) := mh_lt1 c1284 r_x1252 r_x1282 (59) (by decide)
              have r_x1282 : mh_r x1282 (1) (60) := mh_lt2 c1284 r_x1252 r_x1282 (1) (by decide)
              refine mw_aload_n 55 rfl 0 dX9_odds_54 rfl rfl ?_
              refine mw_geta 58 rfl dX9_odds_55 gf_X9_46 rfl 29 (mh_rf hI0 6 rfl) ?_
              refine mw_iload 60 rfl 9 dX9_odds_58  rfl ?_
              refine mw_iload_n 61 rfl 1 dX9_odds_60 rfl rfl ?_
              refine mw_iload_n 62 rfl 2 dX9_odds_61 rfl rfl ?_
              refine mw_iload_n 63 rfl 3 dX9_odds_62 rfl rfl ?_
              refine mw_iload 65 rfl 4 dX9_odds_63  rfl ?_
              refine mw_callVi [.int x1252, .int p1, .int p2, .int p3, .int p4] [] 68 rfl dX9_odds_65 ml_X9_273 mc_X3_isAlike mk_X3_isAlike rfl rfl (by decide) (w_X3_isAlike l G (d + 0) ⟨by omega, by omega⟩ hI0 x1252 r_x1252 p1 p2 p3 p4) rfl rfl (Nat.le_of_ble_eq_true rfl) (mh_rok (by omega) (by decide)) (fun x1296 s1297 q1298 => ?_)
              obtain ⟨r_x1296, rfl⟩ := q1298
              have J110 : ∀ (x1310 : Int32) (x1311 : Int32) (x1312 : Int32), mh_r x1310 (0) (2147483647) → mh_W G (mh_XM l G (d + 2) (mh_Qi (P_X9_odds B D s0 p1 p2 p3 p4 p5))) mM_X9_odds 110 [(0, .ref (G.2.2.2 0)), (1, .int p1), (2, .int p2), (3, .int p3), (4, .int p4), (5, .int p5), (6, .int x1311), (7, .int x1312), (8, .int x1310), (9, .int x1252)] [] s0 := by
                intro x1310 x1311 x1312 r_x1310
                refine mw_iincR (k := 9) (1) (60) 113 rfl (fun z => [(9, .int z), (0, .ref (G.2.2.2 0)), (1, .int p1), (2, .int p2), (3, .int p3), (4, .int p4), (5, .int p5), (6, .int x1311), (7, .int x1312), (8, .int x1310)]) dX9_odds_110 rfl (by decide) (fun _ => rfl) r_x1252 (by decide) (by decide) (fun x1315 t1316 r_x1315 => ?_)
                refine mw_goto 116 rfl 42 dX9_odds_113 (by decide) ?_
                exact mw_lv [1, 2, 3, 4, 5, 6, 7, 8, 9, 0] rfl (ihn1 x1315 x1310 x1312 x1311 (mh_r_wk r_x1315 (by decide)) r_x1310 (by have : x1315.toInt = x1252.toInt + (1) := t1316; omega))
              refine mw_if_ne 71 rfl 74 dX9_odds_68 (by decide) (fun c1317 => ?_) (fun c1317 => ?_)
              · skip
                have r_x1296 : mh_r x1296 (1) (1) := mh_ne1 (show x1296.toInt ≠ (0 : Int32).toInt from c1317) r_x1296 rc_0 (1) (1) (by decide)
                refine mw_iincU (k := 6) 77 rfl (fun z => [(6, .int z), (0, .ref (G.2.2.2 0)), (1, .int p1), (2, .int p2), (3, .int p3), (4, .int p4), (5, .int p5), (7, .int x1254), (8, .int x1253), (9, .int x1252)]) dX9_odds_74 rfl (by decide) (fun _ => rfl) (fun x1318 _ => ?_)
                refine mw_aload_n 78 rfl 1 dX9_odds_77 rfl rfl ?_
                refine mw_geta 81 rfl dX9_odds_78 gf_X9_46 rfl 29 (mh_rf hI0 6 rfl) ?_
                refine mw_geta 84 rfl dX9_odds_81 gf_X9_246 rfl 33 (mh_rf hI0 36 rfl) ?_
                refine mw_iload 86 rfl 9 dX9_odds_84  rfl ?_
                refine mw_iald 87 rfl dX9_odds_86 rfl r_x1252 (by decide) (fun x1319 t1320 => ?_)
                have J93 : ∀ (x1323 : Int32), mh_W G (mh_XM l G (d + 2) (mh_Qi (P_X9_odds B D s0 p1 p2 p3 p4 p5))) mM_X9_odds 93 [(0, .ref (G.2.2.2 0)), (1, .int p1), (2, .int p2), (3, .int p3), (4, .int p4), (5, .int p5), (6, .int x1318), (7, .int x1323), (8, .int x1253), (9, .int x1252)] [] s0 := by
                  intro x1323
                  refine mw_iload 95 rfl 8 dX9_odds_93  rfl ?_
                  refine mw_aload_n 96 rfl 0 dX9_odds_95 rfl rfl ?_
                  refine mw_geta 99 rfl dX9_odds_96 gf_X9_46 rfl 29 (mh_rf hI0 6 rfl) ?_
                  refine mw_geta 102 rfl dX9_odds_99 gf_X9_246 rfl 33 (mh_rf hI0 36 rfl) ?_
                  refine mw_iload 104 rfl 9 dX9_odds_102  rfl ?_
                  refine mw_iald 105 rfl dX9_odds_104 rfl r_x1252 (by decide) (fun x1328 t1329 => ?_)
                  obtain rfl : x1319 = x1328 := t1320.trans t1329.symm
                  refine mw_mmax (0) (2147483647) 108 rfl dX9_odds_105 ml_X9_182 r_x1253 (mh_r_full x1319) (by decide) (mh_mr (D := d + 2) (by omega) (Nat.le_of_ble_eq_true rfl)) (fun x1330 t1331 r_x1330 => ?_)
                  refine mw_istore 110 rfl [(8, .int x1330), (0, .ref (G.2.2.2 0)), (1, .int p1), (2, .int p2), (3, .int p3), (4, .int p4), (5, .int p5), (6, .int x1318), (7, .int x1323), (9, .int x1252)] dX9_odds_108  (by decide) rfl ?_
                  exact mw_lv [1, 2, 3, 4, 5, 6, 7, 8, 0, 9] rfl (J110 x1330 x1318 x1323 r_x1330)
                refine mw_if_le 90 rfl 93 dX9_odds_87 (by decide) (fun c1332 => ?_) (fun c1332 => ?_)
                · skip
                  have r_x1319 : mh_r x1319 (-2147483648) (0) := mh_le1 (show x1319.toInt ≤ (0 : Int32).toInt from c1332) (mh_r_full x1319) rc_0 (0) (by decide)
                  exact mw_lv [1, 2, 3, 4, 5, 6, 0, 7, 8, 9] rfl (J93 x1254)
                · skip
                  have r_x1319 : mh_r x1319 (1) (2147483647) := mh_lt2 (show (0 : Int32).toInt < x1319.toInt from c1332) rc_0 (mh_r_full x1319) (1) (by decide)
                  refine mw_iincU (k := 7) 93 rfl (fun z => [(7, .int z), (6, .int x1318), (0, .ref (G.2.2.2 0)), (1, .int p1), (2, .int p2), (3, .int p3), (4, .int p4), (5, .int p5), (8, .int x1253), (9, .int x1252)]) dX9_odds_90 rfl (by decide) (fun _ => rfl) (fun x1333 _ => ?_)
                  exact mw_lv [2, 3, 4, 5, 6, 7, 1, 0, 8, 9] rfl (J93 x1333)
              · skip
                have r_x1296 : mh_r x1296 (0) (0) := mh_eq1 (show x1296.toInt = (0 : Int32).toInt from c1317) r_x1296 rc_0 (0) (0) (by decide)
                refine mw_goto 74 rfl 110 dX9_odds_71 (by decide) ?_
                exact mw_lv [0, 1, 2, 3, 4, 5, 6, 7, 8, 9] rfl (J110 x1253 x1255 x1254 r_x1253)
        exact mw_lv [4, 5, 6, 7, 8, 9, 3, 2, 1, 0] rfl (L42 61 (0) (0) (0) (0) (mh_r_wk rc_0 (by decide)) (mh_r_wk rc_0 (by decide)) (by have := (rc_0).1; have := (rc_0).2; omega))
      · skip
        have r_x666 : mh_r x666 (0) (0) := mh_eq1 (show x666.toInt = (0 : Int32).toInt from c669) r_x666 rc_0 (0) (0) (by decide)
        refine mw_iconst (v := -1) 29 rfl dX9_odds_28 (by decide) ?_
        exact mw_iret dX9_odds_29 rfl ⟨(-1), rfl, ⟨(mh_r_wk rc_m1 (by decide)), rfl⟩⟩

def S_X9_soonest : List (Nat × Nat) := [(28, 9999), (14, 9999), (15, 9999), (16, 9999), (17, 9999), (18, 9999), (13, 5), (13, 6), (13, 7), (46, 9999), (54, 9999), (47, 9999), (55, 9999), (27, 9999), (20, 9999), (21, 9999)]
def P_X9_soonest (B D : Int) (s0 : mh_H) (p1 : Int32) (p2 : Int32) (p3 : Int32) (p4 : Int32) : Int32 → mh_H → Prop := fun z s => mh_r z (-2) (300) ∧ mh_I B D s ∧ mh_F S_X9_soonest s0 s
set_option maxRecDepth 100000 in
set_option maxHeartbeats 4000000 in
theorem w_X9_soonest (l : Launch) (G : mh_G) (d : Nat) {B D : Int} (hB : B ≤ 1880000000 ∧ D ≤ 1880000000) {s0 : mh_H} (hI0 : mh_I B D s0) (p1 : Int32) (p2 : Int32) (p3 : Int32) (p4 : Int32) : mh_Mi l G (d + 6) mM_X9_soonest [.ref (G.2.2.2 0), .int p1, .int p2, .int p3, .int p4] s0 (P_X9_soonest B D s0 p1 p2 p3 p4) := by
  refine mh_enter (lv := [(0, .ref (G.2.2.2 0)), (1, .int p1), (2, .int p2), (3, .int p3), (4, .int p4)]) (by decide) rfl (Nat.le_of_ble_eq_true rfl) ?_
  have hF0 : mh_F S_X9_soonest s0 s0 := mh_F_rf
  refine mw_iload_n 1 rfl 1 dX9_soonest_0 rfl rfl ?_
  refine mw_bipush (v := 9) 3 rfl dX9_soonest_1 (by decide) ?_
  refine mw_callSi [.int p1, .int (9)] [] 6 rfl dX9_soonest_3 ml_X9_98 mc_X9_isWithin mk_X9_isWithin (w_X9_isWithin l G (d + 5) ⟨by omega, by omega⟩ hI0 p1 (9)) rfl rfl (Nat.le_of_ble_eq_true rfl) (mh_rok (by omega) (by decide)) (fun x301 s302 q303 => ?_)
  obtain ⟨r_x301, e0_s302, rfl⟩ := q303
  refine mw_if_eq 9 rfl 37 dX9_soonest_6 (by decide) (fun c304 => ?_) (fun c304 => ?_)
  · skip
    have r_x301 : mh_r x301 (0) (0) := mh_eq1 (show x301.toInt = (0 : Int32).toInt from c304) r_x301 rc_0 (0) (0) (by decide)
    refine mw_iconst (v := -1) 38 rfl dX9_soonest_37 (by decide) ?_
    exact mw_iret dX9_soonest_38 rfl ⟨(-1), rfl, ⟨(mh_r_wk rc_m1 (by decide)), hI0, hF0⟩⟩
  · skip
    have r_p1 : mh_r p1 (0) (9) := ⟨by have := e0_s302.1 (mh_z1 r_x301 c304); have := ((mh_r_full p1)).1; omega, by have := e0_s302.1 (mh_z1 r_x301 c304); have := ((mh_r_full p1)).2; have := (rc_9).2; omega⟩
    have r_x301 : mh_r x301 (1) (1) := mh_ne1 (show x301.toInt ≠ (0 : Int32).toInt from c304) r_x301 rc_0 (1) (1) (by decide)
    refine mw_iload_n 10 rfl 2 dX9_soonest_9 rfl rfl ?_
    refine mw_bipush (v := 9) 12 rfl dX9_soonest_10 (by decide) ?_
    refine mw_callSi [.int p2, .int (9)] [] 15 rfl dX9_soonest_12 ml_X9_98 mc_X9_isWithin mk_X9_isWithin (w_X9_isWithin l G (d + 5) ⟨by omega, by omega⟩ hI0 p2 (9)) rfl rfl (Nat.le_of_ble_eq_true rfl) (mh_rok (by omega) (by decide)) (fun x305 s306 q307 => ?_)
    obtain ⟨r_x305, e0_s306, rfl⟩ := q307
    refine mw_if_eq 18 rfl 37 dX9_soonest_15 (by decide) (fun c308 => ?_) (fun c308 => ?_)
    · skip
      have r_x305 : mh_r x305 (0) (0) := mh_eq1 (show x305.toInt = (0 : Int32).toInt from c308) r_x305 rc_0 (0) (0) (by decide)
      refine mw_iconst (v := -1) 38 rfl dX9_soonest_37 (by decide) ?_
      exact mw_iret dX9_soonest_38 rfl ⟨(-1), rfl, ⟨(mh_r_wk rc_m1 (by decide)), hI0, hF0⟩⟩
    · skip
      have r_p2 : mh_r p2 (0) (9) := ⟨by have := e0_s306.1 (mh_z1 r_x305 c308); have := ((mh_r_full p2)).1; omega, by have := e0_s306.1 (mh_z1 r_x305 c308); have := ((mh_r_full p2)).2; have := (rc_9).2; omega⟩
      have r_x305 : mh_r x305 (1) (1) := mh_ne1 (show x305.toInt ≠ (0 : Int32).toInt from c308) r_x305 rc_0 (1) (1) (by decide)
      refine mw_iload_n 19 rfl 3 dX9_soonest_18 rfl rfl ?_
      refine mw_sipush (v := 299) 22 rfl dX9_soonest_19 (by decide) ?_
      refine mw_callSi [.int p3, .int (299)] [] 25 rfl dX9_soonest_22 ml_X9_98 mc_X9_isWithin mk_X9_isWithin (w_X9_isWithin l G (d + 5) ⟨by omega, by omega⟩ hI0 p3 (299)) rfl rfl (Nat.le_of_ble_eq_true rfl) (mh_rok (by omega) (by decide)) (fun x309 s310 q311 => ?_)
      obtain ⟨r_x309, e0_s310, rfl⟩ := q311
      refine mw_if_eq 28 rfl 37 dX9_soonest_25 (by decide) (fun c312 => ?_) (fun c312 => ?_)
      · skip
        have r_x309 : mh_r x309 (0) (0) := mh_eq1 (show x309.toInt = (0 : Int32).toInt from c312) r_x309 rc_0 (0) (0) (by decide)
        refine mw_iconst (v := -1) 38 rfl dX9_soonest_37 (by decide) ?_
        exact mw_iret dX9_soonest_38 rfl ⟨(-1), rfl, ⟨(mh_r_wk rc_m1 (by decide)), hI0, hF0⟩⟩
      · skip
        have r_p3 : mh_r p3 (0) (299) := ⟨by have := e0_s310.1 (mh_z1 r_x309 c312); have := ((mh_r_full p3)).1; omega, by have := e0_s310.1 (mh_z1 r_x309 c312); have := ((mh_r_full p3)).2; have := (rc_299).2; omega⟩
        have r_x309 : mh_r x309 (1) (1) := mh_ne1 (show x309.toInt ≠ (0 : Int32).toInt from c312) r_x309 rc_0 (1) (1) (by decide)
        refine mw_iload 30 rfl 4 dX9_soonest_28  rfl ?_
        refine mw_iconst (v := 1) 31 rfl dX9_soonest_30 (by decide) ?_
        refine mw_callSi [.int p4, .int (1)] [] 34 rfl dX9_soonest_31 ml_X9_98 mc_X9_isWithin mk_X9_isWithin (w_X9_isWithin l G (d + 5) ⟨by omega, by omega⟩ hI0 p4 (1)) rfl rfl (Nat.le_of_ble_eq_true rfl) (mh_rok (by omega) (by decide)) (fun x313 s314 q315 => ?_)
        obtain ⟨r_x313, e0_s314, rfl⟩ := q315
        refine mw_if_ne 37 rfl 39 dX9_soonest_34 (by decide) (fun c316 => ?_) (fun c316 => ?_)
        · skip
          have r_p4 : mh_r p4 (0) (1) := ⟨by have := e0_s314.1 (mh_z1 r_x313 c316); have := ((mh_r_full p4)).1; omega, by have := e0_s314.1 (mh_z1 r_x313 c316); have := ((mh_r_full p4)).2; have := (rc_1).2; omega⟩
          have r_x313 : mh_r x313 (1) (1) := mh_ne1 (show x313.toInt ≠ (0 : Int32).toInt from c316) r_x313 rc_0 (1) (1) (by decide)
          refine mw_aload_n 40 rfl 0 dX9_soonest_39 rfl rfl ?_
          refine mw_geta 43 rfl dX9_soonest_40 gf_X9_39 rfl 23 (mh_rf hI0 5 rfl) ?_
          refine mw_iload_n 44 rfl 1 dX9_soonest_43 rfl rfl ?_
          refine mw_iload_n 45 rfl 3 dX9_soonest_44 rfl rfl ?_
          refine mw_callVv [.int p1, .int p3] [] 48 rfl dX9_soonest_45 ml_X9_213 mc_X5_leave mk_X5_leave rfl rfl (by decide) (w_X5_leave l G (d + 4) ⟨by omega, by omega⟩ hI0 p1 p3 r_p3) rfl rfl (Nat.le_of_ble_eq_true rfl) (mh_rok (by omega) (by decide)) (fun s318 q319 => ?_)
          obtain ⟨hI_s318, hG_s318⟩ := q319
          have hF_s318 : mh_F S_X9_soonest s0 s318 := mh_F_tl hF0 hG_s318 (by decide +kernel)
          refine mw_aload_n 49 rfl 0 dX9_soonest_48 rfl rfl ?_
          refine mw_geta 52 rfl dX9_soonest_49 gf_X9_19 rfl 13 (mh_rf hI_s318 2 rfl) ?_
          refine mw_aload_n 53 rfl 0 dX9_soonest_52 rfl rfl ?_
          refine mw_geta 56 rfl dX9_soonest_53 gf_X9_10 rfl 1 (mh_rf hI_s318 0 rfl) ?_
          refine mw_callVv [.ref (G.2.2.2 1)] [] 59 rfl dX9_soonest_56 ml_X9_169 mc_X8_copyFrom mk_X8_copyFrom rfl rfl (by decide) (w_X8_copyFrom l G (d + 4) ⟨by omega, by omega⟩ hI_s318 13 (Or.inr (Or.inr rfl)) 1 (Or.inl rfl)) rfl rfl (Nat.le_of_ble_eq_true rfl) (mh_rok (by omega) (by decide)) (fun s321 q322 => ?_)
          obtain ⟨hI_s321, hG_s321⟩ := q322
          have hF_s321 : mh_F S_X9_soonest s0 s321 := mh_F_tl hF_s318 hG_s321 (by decide +kernel)
          refine mw_iconst (v := 0) 60 rfl dX9_soonest_59 (by decide) ?_
          refine mw_istore 62 rfl [(5, .int (0)), (0, .ref (G.2.2.2 0)), (1, .int p1), (2, .int p2), (3, .int p3), (4, .int p4)] dX9_soonest_60  (by decide) rfl ?_
          have L62 : ∀ n1 : Nat, ∀ (x551 : Int32) (s552 : mh_H), mh_r x551 (0) (30) → mh_I B D s552 → mh_F S_X9_soonest s0 s552 → (30) - x551.toInt < (n1 : Int) → mh_W G (mh_XM l G (d + 6) (mh_Qi (P_X9_soonest B D s0 p1 p2 p3 p4))) mM_X9_soonest 62 [(0, .ref (G.2.2.2 0)), (1, .int p1), (2, .int p2), (3, .int p3), (4, .int p4), (5, .int x551)] [] s552 := by
            intro n1
            induction n1 with
            | zero =>
              intro x551 s552 r_x551 hI_s552 hF_s552 hmn1
              exact absurd hmn1 (by have := r_x551.1; have := r_x551.2; omega)
            | succ n1 ihn1 =>
              intro x551 s552 r_x551 hI_s552 hF_s552 hmn1
              refine mw_iload 64 rfl 5 dX9_soonest_62  rfl ?_
              refine mw_bipush (v := 30) 66 rfl dX9_soonest_64 (by decide) ?_
              refine mw_icmp_ge 69 rfl 140 dX9_soonest_66 (by decide) (fun c576 => ?_) (fun c576 => ?_)
              · skip
                have r_x551 : mh_r x551 (30) (30) := mh_le2 c576 rc_30 r_x551 (30) (by decide)
                refine mw_aload_n 141 rfl 0 dX9_soonest_140 rfl rfl ?_
                refine mw_geta 144 rfl dX9_soonest_141 gf_X9_39 rfl 23 (mh_rf hI_s552 5 rfl) ?_
                refine mw_iload_n 145 rfl 2 dX9_soonest_144 rfl rfl ?_
                refine mw_sipush (v := 300) 148 rfl dX9_soonest_145 (by decide) ?_
                refine mw_callVi [.int p2, .int (300)] [] 151 rfl dX9_soonest_148 ml_X9_221 mc_X5_isAt mk_X5_isAt rfl rfl (by decide) (w_X5_isAt l G (d + 5) ⟨by omega, by omega⟩ hI_s552 p2 (300) (mh_r_wk rc_300 (by decide))) rfl rfl (Nat.le_of_ble_eq_true rfl) (mh_rok (by omega) (by decide)) (fun x577 s578 q579 => ?_)
                obtain ⟨r_x577, rfl⟩ := q579
                refine mw_if_eq 154 rfl 160 dX9_soonest_151 (by decide) (fun c580 => ?_) (fun c580 => ?_)
                · skip
                  have r_x577 : mh_r x577 (0) (0) := mh_eq1 (show x577.toInt = (0 : Int32).toInt from c580) r_x577 rc_0 (0) (0) (by decide)
                  refine mw_bipush (v := -2) 162 rfl dX9_soonest_160 (by decide) ?_
                  exact mw_iret dX9_soonest_162 rfl ⟨(-2), rfl, ⟨(mh_r_wk rc_m2 (by decide)), hI_s552, hF_s552⟩⟩
                · skip
                  have r_x577 : mh_r x577 (1) (1) := mh_ne1 (show x577.toInt ≠ (0 : Int32).toInt from c580) r_x577 rc_0 (1) (1) (by decide)
                  refine mw_sipush (v := 300) 157 rfl dX9_soonest_154 (by decide) ?_
                  refine mw_goto 160 rfl 162 dX9_soonest_157 (by decide) ?_
                  exact mw_iret dX9_soonest_162 rfl ⟨(300), rfl, ⟨(mh_r_wk rc_300 (by decide)), hI_s552, hF_s552⟩⟩
              · skip
                have r_x551 : mh_r x551 (0) (29) := mh_lt1 c576 r_x551 rc_30 (29) (by decide)
                refine mw_aload_n 70 rfl 0 dX9_soonest_69 rfl rfl ?_
                refine mw_geta 73 rfl dX9_soonest_70 gf_X9_39 rfl 23 (mh_rf hI_s552 5 rfl) ?_
                refine mw_aload_n 74 rfl 0 dX9_soonest_73 rfl rfl ?_
                refine mw_geta 77 rfl dX9_soonest_74 gf_X9_19 rfl 13 (mh_rf hI_s552 2 rfl) ?_
                refine mw_aload_n 78 rfl 0 dX9_soonest_77 rfl rfl ?_
                obtain ⟨k582, t581⟩ : ∃ y : Nat, s552.2.2 0 11 = y := ⟨_, rfl⟩
                have hk582 : mh_isL k582 := by rw [← t581]; exact hI_s552.2.1.2.1
                refine mw_geta 81 rfl dX9_soonest_78 gf_X9_71 rfl k582 t581 ?_
                refine mw_callVv [.ref (G.2.2.2 13), .ref (G.2.2.2 k582)] [] 84 rfl dX9_soonest_81 ml_X9_216 mc_X5_look mk_X5_look rfl rfl (by decide) (w_X5_look l G (d + 0) ⟨by omega, by omega⟩ hI_s552 13 (Or.inr (Or.inr rfl)) k582 hk582) rfl rfl (Nat.le_of_ble_eq_true rfl) (mh_rok (by omega) (by decide)) (fun s584 q585 => ?_)
                obtain ⟨hI_s584, hG_s584⟩ := q585
                have hF_s584 : mh_F S_X9_soonest s0 s584 := mh_F_tl hF_s552 hG_s584 (by rcases hk582 with rfl | rfl <;> decide +kernel)
                refine mw_aload_n 85 rfl 0 dX9_soonest_84 rfl rfl ?_
                refine mw_geta 88 rfl dX9_soonest_85 gf_X9_39 rfl 23 (mh_rf hI_s584 5 rfl) ?_
                refine mw_iload_n 89 rfl 2 dX9_soonest_88 rfl rfl ?_
                refine mw_bipush (v := 10) 91 rfl dX9_soonest_89 (by decide) ?_
                refine mw_iload 93 rfl 5 dX9_soonest_91  rfl ?_
                refine mw_imul 94 rfl (0) (290) dX9_soonest_93 rc_10 r_x551 (by decide) (fun x586 t587 r_x586 => ?_)
                refine mw_iload 96 rfl 4 dX9_soonest_94  rfl ?_
                have J104 : ∀ (x589 : Int32), mh_r x589 (0) (1) → mh_W G (mh_XM l G (d + 6) (mh_Qi (P_X9_soonest B D s0 p1 p2 p3 p4))) mM_X9_soonest 104 [(0, .ref (G.2.2.2 0)), (1, .int p1), (2, .int p2), (3, .int p3), (4, .int p4), (5, .int x551)] [.int x589, .int x586, .int p2, .ref (G.2.2.2 23)] s584 := by
                  intro x589 r_x589
                  refine mw_callVi [.int p2, .int x586, .int x589] [] 107 rfl dX9_soonest_104 ml_X9_217 mc_X5_go mk_X5_go rfl rfl (by decide) (w_X5_go l G (d + 3) ⟨by omega, by omega⟩ hI_s584 p2 x586 r_x586 x589 r_x589) rfl rfl (Nat.le_of_ble_eq_true rfl) (mh_rok (by omega) (by decide)) (fun x601 s602 q603 => ?_)
                  obtain ⟨r_x601, hI_s602, hG_s602⟩ := q603
                  have hF_s602 : mh_F S_X9_soonest s0 s602 := mh_F_tl hF_s584 hG_s602 (by decide +kernel)
                  refine mw_istore 109 rfl [(6, .int x601), (0, .ref (G.2.2.2 0)), (1, .int p1), (2, .int p2), (3, .int p3), (4, .int p4), (5, .int x551)] dX9_soonest_107  (by decide) rfl ?_
                  refine mw_iload 111 rfl 0 dX9_soonest_109  rfl ?_
                  refine mw_bipush (v := -2) 113 rfl dX9_soonest_111 (by decide) ?_
                  refine mw_icmp_eq 116 rfl 119 dX9_soonest_113 (by decide) (fun c604 => ?_) (fun c604 => ?_)
                  · skip
                    have r_x601 : mh_r x601 (-2) (-2) := mh_eq1 c604 r_x601 rc_m2 (-2) (-2) (by decide)
                    refine mw_aload_n 120 rfl 1 dX9_soonest_119 rfl rfl ?_
                    refine mw_geta 123 rfl dX9_soonest_120 gf_X9_25 rfl 19 (mh_rf hI_s602 3 rfl) ?_
                    refine mw_aload_n 124 rfl 1 dX9_soonest_123 rfl rfl ?_
                    refine mw_geta 127 rfl dX9_soonest_124 gf_X9_19 rfl 13 (mh_rf hI_s602 2 rfl) ?_
                    refine mw_aload_n 128 rfl 1 dX9_soonest_127 rfl rfl ?_
                    obtain ⟨k606, t605⟩ : ∃ y : Nat, s602.2.2 0 11 = y := ⟨_, rfl⟩
                    have hk606 : mh_isL k606 := by rw [← t605]; exact hI_s602.2.1.2.1
                    refine mw_geta 131 rfl dX9_soonest_128 gf_X9_71 rfl k606 t605 ?_
                    refine mw_callVv [.ref (G.2.2.2 13), .ref (G.2.2.2 k606)] [] 134 rfl dX9_soonest_131 ml_X9_135 mc_X0_pass mk_X0_pass rfl rfl (by decide) (w_X0_pass l G (d + 1) ⟨by omega, by omega⟩ hI_s602 13 (Or.inr (Or.inr rfl)) k606 hk606) rfl rfl (Nat.le_of_ble_eq_true rfl) (mh_rok (by omega) (by decide)) (fun s608 q609 => ?_)
                    obtain ⟨hI_s608, hG_s608⟩ := q609
                    have hF_s608 : mh_F S_X9_soonest s0 s608 := mh_F_tl hF_s602 hG_s608 (by rcases hk606 with rfl | rfl <;> decide +kernel)
                    refine mw_iincR (k := 6) (1) (30) 137 rfl (fun z => [(5, .int z), (6, .int x601), (0, .ref (G.2.2.2 0)), (1, .int p1), (2, .int p2), (3, .int p3), (4, .int p4)]) dX9_soonest_134 rfl (by decide) (fun _ => rfl) r_x551 (by decide) (by decide) (fun x610 t611 r_x610 => ?_)
                    refine mw_goto 140 rfl 62 dX9_soonest_137 (by decide) ?_
                    exact mw_lv [2, 3, 4, 5, 6, 0] rfl (ihn1 x610 s608 (mh_r_wk r_x610 (by decide)) hI_s608 hF_s608 (by have : x610.toInt = x551.toInt + (1) := t611; omega))
                  · skip
                    have r_x601 : mh_r x601 (-1) (299) := mh_ne1 c604 r_x601 rc_m2 (-1) (299) (by decide)
                    refine mw_iload 118 rfl 0 dX9_soonest_116  rfl ?_
                    exact mw_iret dX9_soonest_118 rfl ⟨x601, rfl, ⟨(mh_r_wk r_x601 (by decide)), hI_s602, hF_s602⟩⟩
                refine mw_if_ne 99 rfl 103 dX9_soonest_96 (by decide) (fun c612 => ?_) (fun c612 => ?_)
                · skip
                  have r_p4 : mh_r p4 (1) (1) := mh_ne1 (show p4.toInt ≠ (0 : Int32).toInt from c612) r_p4 rc_0 (1) (1) (by decide)
                  refine mw_iconst (v := 0) 104 rfl dX9_soonest_103 (by decide) ?_
                  exact mw_lv [0, 1, 2, 3, 4, 5] rfl (J104 (0) (mh_r_wk rc_0 (by decide)))
                · skip
                  have r_p4 : mh_r p4 (0) (0) := mh_eq1 (show p4.toInt = (0 : Int32).toInt from c612) r_p4 rc_0 (0) (0) (by decide)
                  refine mw_iconst (v := 1) 100 rfl dX9_soonest_99 (by decide) ?_
                  refine mw_goto 103 rfl 104 dX9_soonest_100 (by decide) ?_
                  exact mw_lv [0, 1, 2, 3, 4, 5] rfl (J104 (1) (mh_r_wk rc_1 (by decide)))
          exact mw_lv [1, 2, 3, 4, 5, 0] rfl (L62 31 (0) s321 (mh_r_wk rc_0 (by decide)) hI_s321 hF_s321 (by have := (rc_0).1; have := (rc_0).2; omega))
        · skip
          have r_x313 : mh_r x313 (0) (0) := mh_eq1 (show x313.toInt = (0 : Int32).toInt from c316) r_x313 rc_0 (0) (0) (by decide)
          refine mw_iconst (v := -1) 38 rfl dX9_soonest_37 (by decide) ?_
          exact mw_iret dX9_soonest_38 rfl ⟨(-1), rfl, ⟨(mh_r_wk rc_m1 (by decide)), hI0, hF0⟩⟩

def S_X9_steps : List (Nat × Nat) := [(46, 9999), (54, 9999), (47, 9999), (55, 9999), (4, 9999), (5, 9999), (20, 9999), (21, 9999), (1, 6), (1, 5)]
def P_X9_steps (B D : Int) (s0 : mh_H) (p1 : Int32) : Int32 → mh_H → Prop := fun z s => mh_r z (-2147483648) (2147483647) ∧ mh_I B D s ∧ mh_F S_X9_steps s0 s
set_option maxRecDepth 100000 in
set_option maxHeartbeats 4000000 in
theorem w_X9_steps (l : Launch) (G : mh_G) (d : Nat) {B D : Int} (hB : B ≤ 1900000000 ∧ D ≤ 1900000000) {s0 : mh_H} (hI0 : mh_I B D s0) (p1 : Int32) : mh_Mi l G (d + 5) mM_X9_steps [.ref (G.2.2.2 0), .int p1] s0 (P_X9_steps B D s0 p1) := by
  refine mh_enter (lv := [(0, .ref (G.2.2.2 0)), (1, .int p1)]) (by decide) rfl (Nat.le_of_ble_eq_true rfl) ?_
  have hF0 : mh_F S_X9_steps s0 s0 := mh_F_rf
  refine mw_iload_n 1 rfl 1 dX9_steps_0 rfl rfl ?_
  refine mw_callSi [.int p1] [] 4 rfl dX9_steps_1 ml_X9_128 mc_X9_isNight mk_X9_isNight (w_X9_isNight l G (d + 4) ⟨by omega, by omega⟩ hI0 p1) rfl rfl (Nat.le_of_ble_eq_true rfl) (mh_rok (by omega) (by decide)) (fun x89 s90 q91 => ?_)
  obtain ⟨r_x89, e0_s90, rfl⟩ := q91
  refine mw_if_ne 7 rfl 9 dX9_steps_4 (by decide) (fun c92 => ?_) (fun c92 => ?_)
  · skip
    have r_p1 : mh_r p1 (1) (60) := ⟨by have := e0_s90.1 (mh_z1 r_x89 c92); have := ((mh_r_full p1)).1; omega, by have := e0_s90.1 (mh_z1 r_x89 c92); have := ((mh_r_full p1)).2; omega⟩
    have r_x89 : mh_r x89 (1) (1) := mh_ne1 (show x89.toInt ≠ (0 : Int32).toInt from c92) r_x89 rc_0 (1) (1) (by decide)
    refine mw_aload_n 10 rfl 0 dX9_steps_9 rfl rfl ?_
    refine mw_geta 13 rfl dX9_steps_10 gf_X9_10 rfl 1 (mh_rf hI0 0 rfl) ?_
    refine mw_geti 16 rfl dX9_steps_13 gf_X9_132 rfl (fun x93 t94 => ?_)
    refine mw_istore_n 17 rfl [(2, .int x93), (0, .ref (G.2.2.2 0)), (1, .int p1)] dX9_steps_16 rfl (by decide) rfl ?_
    refine mw_iconst (v := 0) 18 rfl dX9_steps_17 (by decide) ?_
    refine mw_istore_n 19 rfl [(3, .int (0)), (2, .int x93), (0, .ref (G.2.2.2 0)), (1, .int p1)] dX9_steps_18 rfl (by decide) rfl ?_
    have L19 : ∀ n1 : Nat, ∀ (x153 : Int32) (s154 : mh_H), mh_r x153 (0) (60) → mh_I B D s154 → mh_F S_X9_steps s0 s154 → (60) - x153.toInt < (n1 : Int) → mh_W G (mh_XM l G (d + 5) (mh_Qi (P_X9_steps B D s0 p1))) mM_X9_steps 19 [(0, .ref (G.2.2.2 0)), (1, .int p1), (2, .int x93), (3, .int x153)] [] s154 := by
      intro n1
      induction n1 with
      | zero =>
        intro x153 s154 r_x153 hI_s154 hF_s154 hmn1
        exact absurd hmn1 (by have := r_x153.1; have := r_x153.2; omega)
      | succ n1 ihn1 =>
        intro x153 s154 r_x153 hI_s154 hF_s154 hmn1
        refine mw_iload_n 20 rfl 3 dX9_steps_19 rfl rfl ?_
        refine mw_iload_n 21 rfl 1 dX9_steps_20 rfl rfl ?_
        refine mw_icmp_ge 24 rfl 45 dX9_steps_21 (by decide) (fun c165 => ?_) (fun c165 => ?_)
        · skip
          have r_x153 : mh_r x153 (1) (60) := mh_le2 c165 r_p1 r_x153 (1) (by decide)
          refine mw_aload_n 46 rfl 0 dX9_steps_45 rfl rfl ?_
          refine mw_geta 49 rfl dX9_steps_46 gf_X9_10 rfl 1 (mh_rf hI_s154 0 rfl) ?_
          refine mw_geti 52 rfl dX9_steps_49 gf_X9_132 rfl (fun x166 t167 => ?_)
          refine mw_iload_n 53 rfl 2 dX9_steps_52 rfl rfl ?_
          refine mw_isub_u 54 rfl dX9_steps_53 (fun x168 t169 => ?_)
          exact mw_iret dX9_steps_54 rfl ⟨x168, rfl, ⟨(mh_r_full x168), hI_s154, hF_s154⟩⟩
        · skip
          have r_x153 : mh_r x153 (0) (59) := mh_lt1 c165 r_x153 r_p1 (59) (by decide)
          refine mw_aload_n 25 rfl 0 dX9_steps_24 rfl rfl ?_
          refine mw_geta 28 rfl dX9_steps_25 gf_X9_25 rfl 19 (mh_rf hI_s154 3 rfl) ?_
          refine mw_aload_n 29 rfl 0 dX9_steps_28 rfl rfl ?_
          refine mw_geta 32 rfl dX9_steps_29 gf_X9_10 rfl 1 (mh_rf hI_s154 0 rfl) ?_
          refine mw_aload_n 33 rfl 0 dX9_steps_32 rfl rfl ?_
          obtain ⟨k171, t170⟩ : ∃ y : Nat, s154.2.2 0 11 = y := ⟨_, rfl⟩
          have hk171 : mh_isL k171 := by rw [← t170]; exact hI_s154.2.1.2.1
          refine mw_geta 36 rfl dX9_steps_33 gf_X9_71 rfl k171 t170 ?_
          refine mw_callVv [.ref (G.2.2.2 1), .ref (G.2.2.2 k171)] [] 39 rfl dX9_steps_36 ml_X9_135 mc_X0_pass mk_X0_pass rfl rfl (by decide) (w_X0_pass l G (d + 0) ⟨by omega, by omega⟩ hI_s154 1 (Or.inl rfl) k171 hk171) rfl rfl (Nat.le_of_ble_eq_true rfl) (mh_rok (by omega) (by decide)) (fun s173 q174 => ?_)
          obtain ⟨hI_s173, hG_s173⟩ := q174
          have hF_s173 : mh_F S_X9_steps s0 s173 := mh_F_tl hF_s154 hG_s173 (by rcases hk171 with rfl | rfl <;> decide +kernel)
          refine mw_iincR (k := 3) (1) (60) 42 rfl (fun z => [(3, .int z), (0, .ref (G.2.2.2 0)), (1, .int p1), (2, .int x93)]) dX9_steps_39 rfl (by decide) (fun _ => rfl) r_x153 (by decide) (by decide) (fun x175 t176 r_x175 => ?_)
          refine mw_goto 45 rfl 19 dX9_steps_42 (by decide) ?_
          exact mw_lv [1, 2, 3, 0] rfl (ihn1 x175 s173 (mh_r_wk r_x175 (by decide)) hI_s173 hF_s173 (by have : x175.toInt = x153.toInt + (1) := t176; omega))
    exact mw_lv [2, 3, 1, 0] rfl (L19 61 (0) s0 (mh_r_wk rc_0 (by decide)) hI0 hF0 (by have := (rc_0).1; have := (rc_0).2; omega))
  · skip
    have r_x89 : mh_r x89 (0) (0) := mh_eq1 (show x89.toInt = (0 : Int32).toInt from c92) r_x89 rc_0 (0) (0) (by decide)
    refine mw_iconst (v := -1) 8 rfl dX9_steps_7 (by decide) ?_
    exact mw_iret dX9_steps_8 rfl ⟨(-1), rfl, ⟨(mh_r_wk rc_m1 (by decide)), hI0, hF0⟩⟩

def S_X9_sums : List (Nat × Nat) := [(22, 0), (22, 1), (22, 2), (46, 9999), (54, 9999), (47, 9999), (55, 9999)]
def P_X9_sums (B D : Int) (s0 : mh_H) (p1 : Int32) : Int32 → mh_H → Prop := fun z s => mh_r z (-2147483648) (2147483647) ∧ mh_I B D s ∧ mh_F S_X9_sums s0 s
set_option maxRecDepth 100000 in
set_option maxHeartbeats 4000000 in
theorem w_X9_sums (l : Launch) (G : mh_G) (d : Nat) {B D : Int} (hB : B ≤ 1880000000 ∧ D ≤ 1880000000) {s0 : mh_H} (hI0 : mh_I B D s0) (p1 : Int32) : mh_Mi l G (d + 6) mM_X9_sums [.ref (G.2.2.2 0), .int p1] s0 (P_X9_sums B D s0 p1) := by
  refine mh_enter (lv := [(0, .ref (G.2.2.2 0)), (1, .int p1)]) (by decide) rfl (Nat.le_of_ble_eq_true rfl) ?_
  have hF0 : mh_F S_X9_sums s0 s0 := mh_F_rf
  refine mw_iload_n 1 rfl 1 dX9_sums_0 rfl rfl ?_
  rcases (show p1.toInt = 0 ∨ p1.toInt = 1 ∨ p1.toInt = 2 ∨ p1.toInt = 3 ∨ p1.toInt = 4 ∨ (p1.toInt < 0 ∨ 4 < p1.toInt) by have := (mh_r_full p1).1; have := (mh_r_full p1).2; omega) with c24 | c24 | c24 | c24 | c24 | c24
  · refine mw_tabIn 36 dX9_sums_1 (by rw [c24]; decide) (by rw [c24]; decide) (by rw [c24]; rfl) (by decide) ?_
    have r_p1 : mh_r p1 (0) (0) := mh_eq1 (show p1.toInt = (0 : Int32).toInt from c24.trans rfl) (mh_r_full p1) rc_0 (0) (0) (by decide)
    refine mw_aload_n 37 rfl 0 dX9_sums_36 rfl rfl ?_
    refine mw_geta 40 rfl dX9_sums_37 gf_X9_10 rfl 1 (mh_rf hI0 0 rfl) ?_
    refine mw_geta 43 rfl dX9_sums_40 gf_X9_107 rfl 4 (mh_rf hI0 13 rfl) ?_
    refine mw_callSi [.ref (G.2.2.2 4)] [] 46 rfl dX9_sums_43 ml_X9_156 mc_X9_sumOf mk_X9_sumOf (w_X9_sumOf_c l G (d + 5) ⟨by omega, by omega⟩ hI0) rfl rfl (Nat.le_of_ble_eq_true rfl) (mh_rok (by omega) (by decide)) (fun x25 s26 q27 => ?_)
    obtain ⟨r_x25, rfl⟩ := q27
    exact mw_iret dX9_sums_46 rfl ⟨x25, rfl, ⟨r_x25, hI0, hF0⟩⟩
  · refine mw_tabIn 47 dX9_sums_1 (by rw [c24]; decide) (by rw [c24]; decide) (by rw [c24]; rfl) (by decide) ?_
    have r_p1 : mh_r p1 (1) (1) := mh_eq1 (show p1.toInt = (1 : Int32).toInt from c24.trans rfl) (mh_r_full p1) rc_1 (1) (1) (by decide)
    refine mw_aload_n 48 rfl 0 dX9_sums_47 rfl rfl ?_
    refine mw_geta 51 rfl dX9_sums_48 gf_X9_10 rfl 1 (mh_rf hI0 0 rfl) ?_
    refine mw_geta 54 rfl dX9_sums_51 gf_X9_110 rfl 5 (mh_rf hI0 14 rfl) ?_
    refine mw_callSi [.ref (G.2.2.2 5)] [] 57 rfl dX9_sums_54 ml_X9_156 mc_X9_sumOf mk_X9_sumOf (w_X9_sumOf_w l G (d + 5) ⟨by omega, by omega⟩ hI0) rfl rfl (Nat.le_of_ble_eq_true rfl) (mh_rok (by omega) (by decide)) (fun x28 s29 q30 => ?_)
    obtain ⟨r_x28, rfl⟩ := q30
    exact mw_iret dX9_sums_57 rfl ⟨x28, rfl, ⟨r_x28, hI0, hF0⟩⟩
  · refine mw_tabIn 58 dX9_sums_1 (by rw [c24]; decide) (by rw [c24]; decide) (by rw [c24]; rfl) (by decide) ?_
    have r_p1 : mh_r p1 (2) (2) := mh_eq1 (show p1.toInt = (2 : Int32).toInt from c24.trans rfl) (mh_r_full p1) rc_2 (2) (2) (by decide)
    refine mw_aload_n 59 rfl 0 dX9_sums_58 rfl rfl ?_
    refine mw_geta 62 rfl dX9_sums_59 gf_X9_10 rfl 1 (mh_rf hI0 0 rfl) ?_
    refine mw_geti 65 rfl dX9_sums_62 gf_X9_132 rfl (fun x31 t32 => ?_)
    exact mw_iret dX9_sums_65 rfl ⟨x31, rfl, ⟨(mh_r_full x31), hI0, hF0⟩⟩
  · refine mw_tabIn 66 dX9_sums_1 (by rw [c24]; decide) (by rw [c24]; decide) (by rw [c24]; rfl) (by decide) ?_
    have r_p1 : mh_r p1 (3) (3) := mh_eq1 (show p1.toInt = (3 : Int32).toInt from c24.trans rfl) (mh_r_full p1) rc_3 (3) (3) (by decide)
    refine mw_aload_n 67 rfl 0 dX9_sums_66 rfl rfl ?_
    refine mw_geta 70 rfl dX9_sums_67 gf_X9_32 rfl 22 (mh_rf hI0 4 rfl) ?_
    refine mw_aload_n 71 rfl 0 dX9_sums_70 rfl rfl ?_
    refine mw_geta 74 rfl dX9_sums_71 gf_X9_10 rfl 1 (mh_rf hI0 0 rfl) ?_
    refine mw_aload_n 75 rfl 0 dX9_sums_74 rfl rfl ?_
    obtain ⟨k34, t33⟩ : ∃ y : Nat, s0.2.2 0 11 = y := ⟨_, rfl⟩
    have hk34 : mh_isL k34 := by rw [← t33]; exact hI0.2.1.2.1
    refine mw_geta 78 rfl dX9_sums_75 gf_X9_71 rfl k34 t33 ?_
    refine mw_callVv [.ref (G.2.2.2 1), .ref (G.2.2.2 k34)] [] 81 rfl dX9_sums_78 ml_X9_160 mc_X6_look mk_X6_look rfl rfl (by decide) (w_X6_look l G (d + 0) ⟨by omega, by omega⟩ hI0 1 (Or.inl rfl) k34 hk34) rfl rfl (Nat.le_of_ble_eq_true rfl) (mh_rok (by omega) (by decide)) (fun s36 q37 => ?_)
    obtain ⟨hI_s36, hG_s36⟩ := q37
    have hF_s36 : mh_F S_X9_sums s0 s36 := mh_F_tl hF0 hG_s36 (by rcases hk34 with rfl | rfl <;> decide +kernel)
    refine mw_aload_n 82 rfl 0 dX9_sums_81 rfl rfl ?_
    refine mw_geta 85 rfl dX9_sums_82 gf_X9_32 rfl 22 (mh_rf hI_s36 4 rfl) ?_
    refine mw_geti 88 rfl dX9_sums_85 gf_X9_163 rfl (fun x38 t39 => ?_)
    exact mw_iret dX9_sums_88 rfl ⟨x38, rfl, ⟨(mh_r_full x38), hI_s36, hF_s36⟩⟩
  · refine mw_tabIn 89 dX9_sums_1 (by rw [c24]; decide) (by rw [c24]; decide) (by rw [c24]; rfl) (by decide) ?_
    have r_p1 : mh_r p1 (4) (4) := mh_eq1 (show p1.toInt = (4 : Int32).toInt from c24.trans rfl) (mh_r_full p1) rc_4 (4) (4) (by decide)
    refine mw_aload_n 90 rfl 0 dX9_sums_89 rfl rfl ?_
    refine mw_geta 93 rfl dX9_sums_90 gf_X9_32 rfl 22 (mh_rf hI0 4 rfl) ?_
    refine mw_aload_n 94 rfl 0 dX9_sums_93 rfl rfl ?_
    refine mw_geta 97 rfl dX9_sums_94 gf_X9_10 rfl 1 (mh_rf hI0 0 rfl) ?_
    refine mw_aload_n 98 rfl 0 dX9_sums_97 rfl rfl ?_
    obtain ⟨k41, t40⟩ : ∃ y : Nat, s0.2.2 0 11 = y := ⟨_, rfl⟩
    have hk41 : mh_isL k41 := by rw [← t40]; exact hI0.2.1.2.1
    refine mw_geta 101 rfl dX9_sums_98 gf_X9_71 rfl k41 t40 ?_
    refine mw_callVv [.ref (G.2.2.2 1), .ref (G.2.2.2 k41)] [] 104 rfl dX9_sums_101 ml_X9_160 mc_X6_look mk_X6_look rfl rfl (by decide) (w_X6_look l G (d + 0) ⟨by omega, by omega⟩ hI0 1 (Or.inl rfl) k41 hk41) rfl rfl (Nat.le_of_ble_eq_true rfl) (mh_rok (by omega) (by decide)) (fun s43 q44 => ?_)
    obtain ⟨hI_s43, hG_s43⟩ := q44
    have hF_s43 : mh_F S_X9_sums s0 s43 := mh_F_tl hF0 hG_s43 (by rcases hk41 with rfl | rfl <;> decide +kernel)
    refine mw_aload_n 105 rfl 0 dX9_sums_104 rfl rfl ?_
    refine mw_geta 108 rfl dX9_sums_105 gf_X9_32 rfl 22 (mh_rf hI_s43 4 rfl) ?_
    refine mw_geti 111 rfl dX9_sums_108 gf_X9_166 rfl (fun x45 t46 => ?_)
    exact mw_iret dX9_sums_111 rfl ⟨x45, rfl, ⟨(mh_r_full x45), hI_s43, hF_s43⟩⟩
  · refine mw_tabOut 112 dX9_sums_1 c24 (by decide) ?_
    refine mw_iconst (v := -1) 113 rfl dX9_sums_112 (by decide) ?_
    exact mw_iret dX9_sums_113 rfl ⟨(-1), rfl, ⟨(mh_r_wk rc_m1 (by decide)), hI0, hF0⟩⟩

def S_X9_sun : List (Nat × Nat) := [(14, 9999), (15, 9999), (16, 9999), (17, 9999), (18, 9999), (13, 5), (13, 6), (13, 7), (46, 9999), (54, 9999), (47, 9999), (55, 9999), (20, 9999), (21, 9999)]
def P_X9_sun (B D : Int) (s0 : mh_H) (p1 : Int32) (p2 : Int32) (p3 : Int32) (p4 : Int32) : Int32 → mh_H → Prop := fun z s => mh_r z (-2147483648) (2147483647) ∧ mh_I B D s ∧ mh_F S_X9_sun s0 s
set_option maxRecDepth 100000 in
set_option maxHeartbeats 4000000 in
theorem w_X9_sun (l : Launch) (G : mh_G) (d : Nat) {B D : Int} (hB : B ≤ 1900000000 ∧ D ≤ 1900000000) {s0 : mh_H} (hI0 : mh_I B D s0) (p1 : Int32) (p2 : Int32) (p3 : Int32) (p4 : Int32) : mh_Mi l G (d + 5) mM_X9_sun [.ref (G.2.2.2 0), .int p1, .int p2, .int p3, .int p4] s0 (P_X9_sun B D s0 p1 p2 p3 p4) := by
  refine mh_enter (lv := [(0, .ref (G.2.2.2 0)), (1, .int p1), (2, .int p2), (3, .int p3), (4, .int p4)]) (by decide) rfl (Nat.le_of_ble_eq_true rfl) ?_
  have hF0 : mh_F S_X9_sun s0 s0 := mh_F_rf
  refine mw_iload_n 1 rfl 1 dX9_sun_0 rfl rfl ?_
  refine mw_iload_n 2 rfl 2 dX9_sun_1 rfl rfl ?_
  refine mw_callSi [.int p1, .int p2] [] 5 rfl dX9_sun_2 ml_X9_94 mc_X9_isPlace mk_X9_isPlace (w_X9_isPlace l G (d + 3) ⟨by omega, by omega⟩ hI0 p1 p2) rfl rfl (Nat.le_of_ble_eq_true rfl) (mh_rok (by omega) (by decide)) (fun x534 s535 q536 => ?_)
  obtain ⟨r_x534, e0_s535, rfl⟩ := q536
  refine mw_if_eq 8 rfl 23 dX9_sun_5 (by decide) (fun c537 => ?_) (fun c537 => ?_)
  · skip
    have r_x534 : mh_r x534 (0) (0) := mh_eq1 (show x534.toInt = (0 : Int32).toInt from c537) r_x534 rc_0 (0) (0) (by decide)
    refine mw_iconst (v := -1) 24 rfl dX9_sun_23 (by decide) ?_
    exact mw_iret dX9_sun_24 rfl ⟨(-1), rfl, ⟨(mh_r_wk rc_m1 (by decide)), hI0, hF0⟩⟩
  · skip
    have r_p1 : mh_r p1 (0) (11) := ⟨by have := e0_s535.1 (mh_z1 r_x534 c537); have := ((mh_r_full p1)).1; omega, by have := e0_s535.1 (mh_z1 r_x534 c537); have := ((mh_r_full p1)).2; omega⟩
    have r_p2 : mh_r p2 (0) (11) := ⟨by have := e0_s535.1 (mh_z1 r_x534 c537); have := ((mh_r_full p2)).1; omega, by have := e0_s535.1 (mh_z1 r_x534 c537); have := ((mh_r_full p2)).2; omega⟩
    have r_x534 : mh_r x534 (1) (1) := mh_ne1 (show x534.toInt ≠ (0 : Int32).toInt from c537) r_x534 rc_0 (1) (1) (by decide)
    refine mw_iload 10 rfl 4 dX9_sun_8  rfl ?_
    refine mw_callSi [.int p4] [] 13 rfl dX9_sun_10 ml_X9_128 mc_X9_isNight mk_X9_isNight (w_X9_isNight l G (d + 4) ⟨by omega, by omega⟩ hI0 p4) rfl rfl (Nat.le_of_ble_eq_true rfl) (mh_rok (by omega) (by decide)) (fun x538 s539 q540 => ?_)
    obtain ⟨r_x538, e0_s539, rfl⟩ := q540
    refine mw_if_eq 16 rfl 23 dX9_sun_13 (by decide) (fun c541 => ?_) (fun c541 => ?_)
    · skip
      have r_x538 : mh_r x538 (0) (0) := mh_eq1 (show x538.toInt = (0 : Int32).toInt from c541) r_x538 rc_0 (0) (0) (by decide)
      refine mw_iconst (v := -1) 24 rfl dX9_sun_23 (by decide) ?_
      exact mw_iret dX9_sun_24 rfl ⟨(-1), rfl, ⟨(mh_r_wk rc_m1 (by decide)), hI0, hF0⟩⟩
    · skip
      have r_p4 : mh_r p4 (1) (60) := ⟨by have := e0_s539.1 (mh_z1 r_x538 c541); have := ((mh_r_full p4)).1; omega, by have := e0_s539.1 (mh_z1 r_x538 c541); have := ((mh_r_full p4)).2; omega⟩
      have r_x538 : mh_r x538 (1) (1) := mh_ne1 (show x538.toInt ≠ (0 : Int32).toInt from c541) r_x538 rc_0 (1) (1) (by decide)
      refine mw_iload_n 17 rfl 3 dX9_sun_16 rfl rfl ?_
      refine mw_sipush (v := 198) 20 rfl dX9_sun_17 (by decide) ?_
      refine mw_icmp_le 23 rfl 25 dX9_sun_20 (by decide) (fun c542 => ?_) (fun c542 => ?_)
      · skip
        have r_p3 : mh_r p3 (-2147483648) (198) := mh_le1 c542 (mh_r_full p3) rc_198 (198) (by decide)
        refine mw_bipush (v := 12) 27 rfl dX9_sun_25 (by decide) ?_
        refine mw_iload_n 28 rfl 2 dX9_sun_27 rfl rfl ?_
        refine mw_imul 29 rfl (0) (132) dX9_sun_28 rc_12 r_p2 (by decide) (fun x543 t544 r_x543 => ?_)
        refine mw_iload_n 30 rfl 1 dX9_sun_29 rfl rfl ?_
        refine mw_iadd 31 rfl (0) (143) dX9_sun_30 r_x543 r_p1 (by decide) (fun x545 t546 r_x545 => ?_)
        refine mw_istore 33 rfl [(5, .int x545), (0, .ref (G.2.2.2 0)), (1, .int p1), (2, .int p2), (3, .int p3), (4, .int p4)] dX9_sun_31  (by decide) rfl ?_
        refine mw_iload_n 34 rfl 4 dX9_sun_33 rfl rfl ?_
        refine mw_aload_n 35 rfl 1 dX9_sun_34 rfl rfl ?_
        refine mw_geta 38 rfl dX9_sun_35 gf_X9_10 rfl 1 (mh_rf hI0 0 rfl) ?_
        refine mw_geta 41 rfl dX9_sun_38 gf_X9_101 rfl 2 (mh_rf hI0 11 rfl) ?_
        refine mw_iload 43 rfl 0 dX9_sun_41  rfl ?_
        refine mw_iald 44 rfl dX9_sun_43 rfl r_x545 (by decide) (fun x547 t548 => ?_)
        refine mw_icmp_ge 47 rfl 49 dX9_sun_44 (by decide) (fun c549 => ?_) (fun c549 => ?_)
        · skip
          have r_x547 : mh_r x547 (-2147483648) (198) := mh_le1 c549 (mh_r_full x547) r_p3 (198) (by decide)
          refine mw_iconst (v := 0) 50 rfl dX9_sun_49 (by decide) ?_
          refine mw_istore 52 rfl [(6, .int (0)), (5, .int x545), (0, .ref (G.2.2.2 0)), (1, .int p1), (2, .int p2), (3, .int p3), (4, .int p4)] dX9_sun_50  (by decide) rfl ?_
          refine mw_aload_n 53 rfl 2 dX9_sun_52 rfl rfl ?_
          refine mw_geta 56 rfl dX9_sun_53 gf_X9_19 rfl 13 (mh_rf hI0 2 rfl) ?_
          refine mw_aload_n 57 rfl 2 dX9_sun_56 rfl rfl ?_
          refine mw_geta 60 rfl dX9_sun_57 gf_X9_10 rfl 1 (mh_rf hI0 0 rfl) ?_
          refine mw_callVv [.ref (G.2.2.2 1)] [] 63 rfl dX9_sun_60 ml_X9_169 mc_X8_copyFrom mk_X8_copyFrom rfl rfl (by decide) (w_X8_copyFrom l G (d + 3) ⟨by omega, by omega⟩ hI0 13 (Or.inr (Or.inr rfl)) 1 (Or.inl rfl)) rfl rfl (Nat.le_of_ble_eq_true rfl) (mh_rok (by omega) (by decide)) (fun s551 q552 => ?_)
          obtain ⟨hI_s551, hG_s551⟩ := q552
          have hF_s551 : mh_F S_X9_sun s0 s551 := mh_F_tl hF0 hG_s551 (by decide +kernel)
          refine mw_iconst (v := 0) 64 rfl dX9_sun_63 (by decide) ?_
          refine mw_istore 66 rfl [(7, .int (0)), (6, .int (0)), (5, .int x545), (0, .ref (G.2.2.2 0)), (1, .int p1), (2, .int p2), (3, .int p3), (4, .int p4)] dX9_sun_64  (by decide) rfl ?_
          have L66 : ∀ n1 : Nat, ∀ (x1029 : Int32) (x1030 : Int32) (s1031 : mh_H), mh_r x1029 (0) (60) → mh_I B D s1031 → mh_F S_X9_sun s0 s1031 → (60) - x1029.toInt < (n1 : Int) → mh_W G (mh_XM l G (d + 5) (mh_Qi (P_X9_sun B D s0 p1 p2 p3 p4))) mM_X9_sun 66 [(0, .ref (G.2.2.2 0)), (1, .int p1), (2, .int p2), (3, .int p3), (4, .int p4), (5, .int x545), (6, .int x1030), (7, .int x1029)] [] s1031 := by
            intro n1
            induction n1 with
            | zero =>
              intro x1029 x1030 s1031 r_x1029 hI_s1031 hF_s1031 hmn1
              exact absurd hmn1 (by have := r_x1029.1; have := r_x1029.2; omega)
            | succ n1 ihn1 =>
              intro x1029 x1030 s1031 r_x1029 hI_s1031 hF_s1031 hmn1
              refine mw_iload 68 rfl 7 dX9_sun_66  rfl ?_
              refine mw_iload 70 rfl 4 dX9_sun_68  rfl ?_
              refine mw_icmp_ge 73 rfl 114 dX9_sun_70 (by decide) (fun c1051 => ?_) (fun c1051 => ?_)
              · skip
                have r_x1029 : mh_r x1029 (1) (60) := mh_le2 c1051 r_p4 r_x1029 (1) (by decide)
                refine mw_iload 116 rfl 6 dX9_sun_114  rfl ?_
                exact mw_iret dX9_sun_116 rfl ⟨x1030, rfl, ⟨(mh_r_full x1030), hI_s1031, hF_s1031⟩⟩
              · skip
                have r_x1029 : mh_r x1029 (0) (59) := mh_lt1 c1051 r_x1029 r_p4 (59) (by decide)
                refine mw_aload_n 74 rfl 0 dX9_sun_73 rfl rfl ?_
                refine mw_geta 77 rfl dX9_sun_74 gf_X9_25 rfl 19 (mh_rf hI_s1031 3 rfl) ?_
                refine mw_aload_n 78 rfl 0 dX9_sun_77 rfl rfl ?_
                refine mw_geta 81 rfl dX9_sun_78 gf_X9_19 rfl 13 (mh_rf hI_s1031 2 rfl) ?_
                refine mw_aload_n 82 rfl 0 dX9_sun_81 rfl rfl ?_
                obtain ⟨k1053, t1052⟩ : ∃ y : Nat, s1031.2.2 0 11 = y := ⟨_, rfl⟩
                have hk1053 : mh_isL k1053 := by rw [← t1052]; exact hI_s1031.2.1.2.1
                refine mw_geta 85 rfl dX9_sun_82 gf_X9_71 rfl k1053 t1052 ?_
                refine mw_callVv [.ref (G.2.2.2 13), .ref (G.2.2.2 k1053)] [] 88 rfl dX9_sun_85 ml_X9_135 mc_X0_pass mk_X0_pass rfl rfl (by decide) (w_X0_pass l G (d + 0) ⟨by omega, by omega⟩ hI_s1031 13 (Or.inr (Or.inr rfl)) k1053 hk1053) rfl rfl (Nat.le_of_ble_eq_true rfl) (mh_rok (by omega) (by decide)) (fun s1055 q1056 => ?_)
                obtain ⟨hI_s1055, hG_s1055⟩ := q1056
                have hF_s1055 : mh_F S_X9_sun s0 s1055 := mh_F_tl hF_s1031 hG_s1055 (by rcases hk1053 with rfl | rfl <;> decide +kernel)
                refine mw_iload_n 89 rfl 3 dX9_sun_88 rfl rfl ?_
                refine mw_aload_n 90 rfl 0 dX9_sun_89 rfl rfl ?_
                obtain ⟨k1058, t1057⟩ : ∃ y : Nat, s1055.2.2 0 11 = y := ⟨_, rfl⟩
                have hk1058 : mh_isL k1058 := by rw [← t1057]; exact hI_s1055.2.1.2.1
                refine mw_geta 93 rfl dX9_sun_90 gf_X9_71 rfl k1058 t1057 ?_
                refine mw_aload_n 94 rfl 0 dX9_sun_93 rfl rfl ?_
                refine mw_geta 97 rfl dX9_sun_94 gf_X9_19 rfl 13 (mh_rf hI_s1055 2 rfl) ?_
                refine mw_iload 99 rfl 5 dX9_sun_97  rfl ?_
                refine mw_callVi [.ref (G.2.2.2 13), .int x545] [.int p3] 102 rfl dX9_sun_99 ml_X9_143 mc_X1_top mk_X1_top (ly_L hk1058) rfl (by decide) (w_X1_top l G (d + 0) ⟨by omega, by omega⟩ hI_s1055 13 (Or.inr (Or.inr rfl)) k1058 hk1058 x545 r_x545) rfl rfl (Nat.le_of_ble_eq_true rfl) (mh_rok (by omega) (by decide)) (fun x1059 s1060 q1061 => ?_)
                obtain ⟨r_x1059, hI_s1060, hG_s1060⟩ := q1061
                have hF_s1060 : mh_F S_X9_sun s0 s1060 := mh_F_tl hF_s1055 hG_s1060 (by rcases hk1058 with rfl | rfl <;> decide +kernel)
                have J108 : ∀ (x1064 : Int32), mh_W G (mh_XM l G (d + 5) (mh_Qi (P_X9_sun B D s0 p1 p2 p3 p4))) mM_X9_sun 108 [(0, .ref (G.2.2.2 0)), (1, .int p1), (2, .int p2), (3, .int p3), (4, .int p4), (5, .int x545), (6, .int x1064), (7, .int x1029)] [] s1060 := by
                  intro x1064
                  refine mw_iincR (k := 7) (1) (60) 111 rfl (fun z => [(7, .int z), (0, .ref (G.2.2.2 0)), (1, .int p1), (2, .int p2), (3, .int p3), (4, .int p4), (5, .int x545), (6, .int x1064)]) dX9_sun_108 rfl (by decide) (fun _ => rfl) r_x1029 (by decide) (by decide) (fun x1067 t1068 r_x1067 => ?_)
                  refine mw_goto 114 rfl 66 dX9_sun_111 (by decide) ?_
                  exact mw_lv [1, 2, 3, 4, 5, 6, 7, 0] rfl (ihn1 x1067 x1064 s1060 (mh_r_wk r_x1067 (by decide)) hI_s1060 hF_s1060 (by have : x1067.toInt = x1029.toInt + (1) := t1068; omega))
                refine mw_icmp_lt 105 rfl 108 dX9_sun_102 (by decide) (fun c1069 => ?_) (fun c1069 => ?_)
                · skip
                  have r_x1059 : mh_r x1059 (-2147483647) (2147483647) := mh_lt2 c1069 r_p3 r_x1059 (-2147483647) (by decide)
                  exact mw_lv [0, 1, 2, 3, 4, 5, 6, 7] rfl (J108 x1030)
                · skip
                  have r_x1059 : mh_r x1059 (-2147483648) (198) := mh_le1 c1069 r_x1059 r_p3 (198) (by decide)
                  refine mw_iincU (k := 6) 108 rfl (fun z => [(6, .int z), (0, .ref (G.2.2.2 0)), (1, .int p1), (2, .int p2), (3, .int p3), (4, .int p4), (5, .int x545), (7, .int x1029)]) dX9_sun_105 rfl (by decide) (fun _ => rfl) (fun x1070 _ => ?_)
                  exact mw_lv [1, 2, 3, 4, 5, 6, 0, 7] rfl (J108 x1070)
          exact mw_lv [3, 4, 5, 6, 7, 2, 1, 0] rfl (L66 61 (0) (0) s551 (mh_r_wk rc_0 (by decide)) hI_s551 hF_s551 (by have := (rc_0).1; have := (rc_0).2; omega))
        · skip
          have r_x547 : mh_r x547 (-2147483647) (2147483647) := mh_lt2 c549 r_p3 (mh_r_full x547) (-2147483647) (by decide)
          refine mw_iconst (v := -1) 48 rfl dX9_sun_47 (by decide) ?_
          exact mw_iret dX9_sun_48 rfl ⟨(-1), rfl, ⟨(mh_r_wk rc_m1 (by decide)), hI0, hF0⟩⟩
      · skip
        have r_p3 : mh_r p3 (199) (2147483647) := mh_lt2 c542 rc_198 (mh_r_full p3) (199) (by decide)
        refine mw_iconst (v := -1) 24 rfl dX9_sun_23 (by decide) ?_
        exact mw_iret dX9_sun_24 rfl ⟨(-1), rfl, ⟨(mh_r_wk rc_m1 (by decide)), hI0, hF0⟩⟩

def P_X9_tells (B D : Int) (s0 : mh_H) (p1 : Int32) (p2 : Int32) : Int32 → mh_H → Prop := fun z s => mh_r z (-1) (2) ∧ s0 = s
set_option maxRecDepth 100000 in
set_option maxHeartbeats 4000000 in
theorem w_X9_tells (l : Launch) (G : mh_G) (d : Nat) {B D : Int} (hB : B ≤ 1940000000 ∧ D ≤ 1940000000) {s0 : mh_H} (hI0 : mh_I B D s0) (p1 : Int32) (p2 : Int32) : mh_Mi l G (d + 3) mM_X9_tells [.ref (G.2.2.2 0), .int p1, .int p2] s0 (P_X9_tells B D s0 p1 p2) := by
  refine mh_enter (lv := [(0, .ref (G.2.2.2 0)), (1, .int p1), (2, .int p2)]) (by decide) rfl (Nat.le_of_ble_eq_true rfl) ?_
  refine mw_iload_n 1 rfl 1 dX9_tells_0 rfl rfl ?_
  refine mw_iload_n 2 rfl 2 dX9_tells_1 rfl rfl ?_
  refine mw_callSi [.int p1, .int p2] [] 5 rfl dX9_tells_2 ml_X9_252 mc_X9_arePrices mk_X9_arePrices (w_X9_arePrices l G (d + 1) ⟨by omega, by omega⟩ hI0 p1 p2) rfl rfl (Nat.le_of_ble_eq_true rfl) (mh_rok (by omega) (by decide)) (fun x75 s76 q77 => ?_)
  obtain ⟨r_x75, e0_s76, rfl⟩ := q77
  refine mw_if_ne 8 rfl 10 dX9_tells_5 (by decide) (fun c78 => ?_) (fun c78 => ?_)
  · skip
    have r_p1 : mh_r p1 (0) (999) := ⟨by have := e0_s76.1 (mh_z1 r_x75 c78); have := ((mh_r_full p1)).1; omega, by have := e0_s76.1 (mh_z1 r_x75 c78); have := ((mh_r_full p1)).2; omega⟩
    have r_p2 : mh_r p2 (0) (999) := ⟨by have := e0_s76.1 (mh_z1 r_x75 c78); have := ((mh_r_full p2)).1; omega, by have := e0_s76.1 (mh_z1 r_x75 c78); have := ((mh_r_full p2)).2; omega⟩
    have r_x75 : mh_r x75 (1) (1) := mh_ne1 (show x75.toInt ≠ (0 : Int32).toInt from c78) r_x75 rc_0 (1) (1) (by decide)
    refine mw_iconst (v := 0) 11 rfl dX9_tells_10 (by decide) ?_
    refine mw_istore_n 12 rfl [(3, .int (0)), (0, .ref (G.2.2.2 0)), (1, .int p1), (2, .int p2)] dX9_tells_11 rfl (by decide) rfl ?_
    refine mw_ldcw 15 rfl dX9_tells_12 ck_X9_265 ?_
    refine mw_istore 17 rfl [(4, .int (2147483647)), (3, .int (0)), (0, .ref (G.2.2.2 0)), (1, .int p1), (2, .int p2)] dX9_tells_15  (by decide) rfl ?_
    refine mw_iconst (v := 0) 18 rfl dX9_tells_17 (by decide) ?_
    refine mw_istore 20 rfl [(5, .int (0)), (4, .int (2147483647)), (3, .int (0)), (0, .ref (G.2.2.2 0)), (1, .int p1), (2, .int p2)] dX9_tells_18  (by decide) rfl ?_
    have L20 : ∀ n1 : Nat, ∀ (x119 : Int32) (x120 : Int32) (x121 : Int32), mh_r x119 (0) (3) → mh_r x121 (0) (2) → (3) - x119.toInt < (n1 : Int) → mh_W G (mh_XM l G (d + 3) (mh_Qi (P_X9_tells B D s0 p1 p2))) mM_X9_tells 20 [(0, .ref (G.2.2.2 0)), (1, .int p1), (2, .int p2), (3, .int x121), (4, .int x120), (5, .int x119)] [] s0 := by
      intro n1
      induction n1 with
      | zero =>
        intro x119 x120 x121 r_x119 r_x121 hmn1
        exact absurd hmn1 (by have := r_x119.1; have := r_x119.2; omega)
      | succ n1 ihn1 =>
        intro x119 x120 x121 r_x119 r_x121 hmn1
        refine mw_iload 22 rfl 5 dX9_tells_20  rfl ?_
        refine mw_iconst (v := 3) 23 rfl dX9_tells_22 (by decide) ?_
        refine mw_icmp_ge 26 rfl 70 dX9_tells_23 (by decide) (fun c137 => ?_) (fun c137 => ?_)
        · skip
          have r_x119 : mh_r x119 (3) (3) := mh_le2 c137 rc_3 r_x119 (3) (by decide)
          refine mw_iload_n 71 rfl 3 dX9_tells_70 rfl rfl ?_
          exact mw_iret dX9_tells_71 rfl ⟨x121, rfl, ⟨(mh_r_wk r_x121 (by decide)), rfl⟩⟩
        · skip
          have r_x119 : mh_r x119 (0) (2) := mh_lt1 c137 r_x119 rc_3 (2) (by decide)
          refine mw_aload_n 27 rfl 0 dX9_tells_26 rfl rfl ?_
          refine mw_geta 30 rfl dX9_tells_27 gf_X9_46 rfl 29 (mh_rf hI0 6 rfl) ?_
          refine mw_iload 32 rfl 5 dX9_tells_30  rfl ?_
          refine mw_aload_n 33 rfl 0 dX9_tells_32 rfl rfl ?_
          refine mw_geta 36 rfl dX9_tells_33 gf_X9_46 rfl 29 (mh_rf hI0 6 rfl) ?_
          refine mw_iload 38 rfl 5 dX9_tells_36  rfl ?_
          refine mw_iload_n 39 rfl 1 dX9_tells_38 rfl rfl ?_
          refine mw_iload_n 40 rfl 2 dX9_tells_39 rfl rfl ?_
          refine mw_callVi [.int x119, .int p1, .int p2] [.int x119, .ref (G.2.2.2 29)] 43 rfl dX9_tells_40 ml_X9_255 mc_X3_bestLine mk_X3_bestLine rfl rfl (by decide) (w_X3_bestLine l G (d + 0) ⟨by omega, by omega⟩ hI0 x119 p1 p2) rfl rfl (Nat.le_of_ble_eq_true rfl) (mh_rok (by omega) (by decide)) (fun x138 s139 q140 => ?_)
          obtain ⟨r_x138, rfl⟩ := q140
          refine mw_iload_n 44 rfl 1 dX9_tells_43 rfl rfl ?_
          refine mw_iload_n 45 rfl 2 dX9_tells_44 rfl rfl ?_
          refine mw_callVi [.int x119, .int x138, .int p1, .int p2] [] 48 rfl dX9_tells_45 ml_X9_259 mc_X3_lineCost mk_X3_lineCost rfl rfl (by decide) (w_X3_lineCost l G (d + 1) ⟨by omega, by omega⟩ hI0 x119 x138 p1 p2) rfl rfl (Nat.le_of_ble_eq_true rfl) (mh_rok (by omega) (by decide)) (fun x141 s142 q143 => ?_)
          obtain ⟨r_x141, rfl⟩ := q143
          refine mw_istore 50 rfl [(6, .int x141), (0, .ref (G.2.2.2 0)), (1, .int p1), (2, .int p2), (3, .int x121), (4, .int x120), (5, .int x119)] dX9_tells_48  (by decide) rfl ?_
          refine mw_iload 52 rfl 0 dX9_tells_50  rfl ?_
          refine mw_iload 54 rfl 5 dX9_tells_52  rfl ?_
          have J64 : ∀ (x145 : Int32) (x146 : Int32), mh_r x145 (0) (2) → mh_W G (mh_XM l G (d + 3) (mh_Qi (P_X9_tells B D s0 p1 p2))) mM_X9_tells 64 [(0, .ref (G.2.2.2 0)), (1, .int p1), (2, .int p2), (3, .int x145), (4, .int x146), (5, .int x119), (6, .int x141)] [] s0 := by
            intro x145 x146 r_x145
            refine mw_iincR (k := 5) (1) (3) 67 rfl (fun z => [(5, .int z), (0, .ref (G.2.2.2 0)), (1, .int p1), (2, .int p2), (3, .int x145), (4, .int x146), (6, .int x141)]) dX9_tells_64 rfl (by decide) (fun _ => rfl) r_x119 (by decide) (by decide) (fun x149 t150 r_x149 => ?_)
            refine mw_goto 70 rfl 20 dX9_tells_67 (by decide) ?_
            exact mw_lv [1, 2, 3, 4, 5, 0] rfl (ihn1 x149 x146 x145 (mh_r_wk r_x149 (by decide)) r_x145 (by have : x149.toInt = x119.toInt + (1) := t150; omega))
          refine mw_icmp_ge 57 rfl 64 dX9_tells_54 (by decide) (fun c151 => ?_) (fun c151 => ?_)
          · skip
            exact mw_lv [1, 2, 3, 4, 5, 6, 0] rfl (J64 x121 x120 r_x121)
          · skip
            have r_x141 : mh_r x141 (-2147483648) (2147483646) := mh_lt1 c151 r_x141 (mh_r_full x120) (2147483646) (by decide)
            have r_x120 : mh_r x120 (-2147483647) (2147483647) := mh_lt2 c151 r_x141 (mh_r_full x120) (-2147483647) (by decide)
            refine mw_iload 59 rfl 6 dX9_tells_57  rfl ?_
            refine mw_istore_n 60 rfl [(3, .int x119), (6, .int x141), (0, .ref (G.2.2.2 0)), (1, .int p1), (2, .int p2), (4, .int x120), (5, .int x119)] dX9_tells_59 rfl (by decide) rfl ?_
            refine mw_iload 62 rfl 1 dX9_tells_60  rfl ?_
            refine mw_istore 64 rfl [(4, .int x141), (3, .int x119), (6, .int x141), (0, .ref (G.2.2.2 0)), (1, .int p1), (2, .int p2), (5, .int x119)] dX9_tells_62  (by decide) rfl ?_
            exact mw_lv [3, 4, 5, 1, 0, 6, 2] rfl (J64 x119 x141 r_x119)
    exact mw_lv [3, 4, 5, 2, 1, 0] rfl (L20 4 (0) (2147483647) (0) (mh_r_wk rc_0 (by decide)) (mh_r_wk rc_0 (by decide)) (by have := (rc_0).1; have := (rc_0).2; omega))
  · skip
    have r_x75 : mh_r x75 (0) (0) := mh_eq1 (show x75.toInt = (0 : Int32).toInt from c78) r_x75 rc_0 (0) (0) (by decide)
    refine mw_iconst (v := -1) 9 rfl dX9_tells_8 (by decide) ?_
    exact mw_iret dX9_tells_9 rfl ⟨(-1), rfl, ⟨(mh_r_wk rc_m1 (by decide)), rfl⟩⟩

def P_X9_when (B D : Int) (s0 : mh_H) (p1 : Int32) (p2 : Int32) (p3 : Int32) : Int32 → mh_H → Prop := fun z s => mh_r z (-2147483648) (2147483647) ∧ s0 = s
set_option maxRecDepth 100000 in
set_option maxHeartbeats 4000000 in
theorem w_X9_when (l : Launch) (G : mh_G) (d : Nat) {B D : Int} (hB : B ≤ 1980000000 ∧ D ≤ 1980000000) {s0 : mh_H} (hI0 : mh_I B D s0) (p1 : Int32) (p2 : Int32) (p3 : Int32) : mh_Mi l G (d + 1) mM_X9_when [.ref (G.2.2.2 0), .int p1, .int p2, .int p3] s0 (P_X9_when B D s0 p1 p2 p3) := by
  refine mh_enter (lv := [(0, .ref (G.2.2.2 0)), (1, .int p1), (2, .int p2), (3, .int p3)]) (by decide) rfl (Nat.le_of_ble_eq_true rfl) ?_
  refine mw_iload_n 1 rfl 1 dX9_when_0 rfl rfl ?_
  refine mw_bipush (v := 99) 3 rfl dX9_when_1 (by decide) ?_
  refine mw_callSi [.int p1, .int (99)] [] 6 rfl dX9_when_3 ml_X9_98 mc_X9_isWithin mk_X9_isWithin (w_X9_isWithin l G (d + 0) ⟨by omega, by omega⟩ hI0 p1 (99)) rfl rfl (Nat.le_of_ble_eq_true rfl) (mh_rok (by omega) (by decide)) (fun x261 s262 q263 => ?_)
  obtain ⟨r_x261, e0_s262, rfl⟩ := q263
  refine mw_if_eq 9 rfl 26 dX9_when_6 (by decide) (fun c264 => ?_) (fun c264 => ?_)
  · skip
    have r_x261 : mh_r x261 (0) (0) := mh_eq1 (show x261.toInt = (0 : Int32).toInt from c264) r_x261 rc_0 (0) (0) (by decide)
    refine mw_iconst (v := -1) 27 rfl dX9_when_26 (by decide) ?_
    exact mw_iret dX9_when_27 rfl ⟨(-1), rfl, ⟨(mh_r_wk rc_m1 (by decide)), rfl⟩⟩
  · skip
    have r_p1 : mh_r p1 (0) (99) := ⟨by have := e0_s262.1 (mh_z1 r_x261 c264); have := ((mh_r_full p1)).1; omega, by have := e0_s262.1 (mh_z1 r_x261 c264); have := ((mh_r_full p1)).2; have := (rc_99).2; omega⟩
    have r_x261 : mh_r x261 (1) (1) := mh_ne1 (show x261.toInt ≠ (0 : Int32).toInt from c264) r_x261 rc_0 (1) (1) (by decide)
    refine mw_iload_n 10 rfl 2 dX9_when_9 rfl rfl ?_
    refine mw_bipush (v := 99) 12 rfl dX9_when_10 (by decide) ?_
    refine mw_callSi [.int p2, .int (99)] [] 15 rfl dX9_when_12 ml_X9_98 mc_X9_isWithin mk_X9_isWithin (w_X9_isWithin l G (d + 0) ⟨by omega, by omega⟩ hI0 p2 (99)) rfl rfl (Nat.le_of_ble_eq_true rfl) (mh_rok (by omega) (by decide)) (fun x265 s266 q267 => ?_)
    obtain ⟨r_x265, e0_s266, rfl⟩ := q267
    refine mw_if_eq 18 rfl 26 dX9_when_15 (by decide) (fun c268 => ?_) (fun c268 => ?_)
    · skip
      have r_x265 : mh_r x265 (0) (0) := mh_eq1 (show x265.toInt = (0 : Int32).toInt from c268) r_x265 rc_0 (0) (0) (by decide)
      refine mw_iconst (v := -1) 27 rfl dX9_when_26 (by decide) ?_
      exact mw_iret dX9_when_27 rfl ⟨(-1), rfl, ⟨(mh_r_wk rc_m1 (by decide)), rfl⟩⟩
    · skip
      have r_p2 : mh_r p2 (0) (99) := ⟨by have := e0_s266.1 (mh_z1 r_x265 c268); have := ((mh_r_full p2)).1; omega, by have := e0_s266.1 (mh_z1 r_x265 c268); have := ((mh_r_full p2)).2; have := (rc_99).2; omega⟩
      have r_x265 : mh_r x265 (1) (1) := mh_ne1 (show x265.toInt ≠ (0 : Int32).toInt from c268) r_x265 rc_0 (1) (1) (by decide)
      refine mw_iload_n 19 rfl 3 dX9_when_18 rfl rfl ?_
      refine mw_iconst (v := 1) 20 rfl dX9_when_19 (by decide) ?_
      refine mw_callSi [.int p3, .int (1)] [] 23 rfl dX9_when_20 ml_X9_98 mc_X9_isWithin mk_X9_isWithin (w_X9_isWithin l G (d + 0) ⟨by omega, by omega⟩ hI0 p3 (1)) rfl rfl (Nat.le_of_ble_eq_true rfl) (mh_rok (by omega) (by decide)) (fun x269 s270 q271 => ?_)
      obtain ⟨r_x269, e0_s270, rfl⟩ := q271
      refine mw_if_ne 26 rfl 28 dX9_when_23 (by decide) (fun c272 => ?_) (fun c272 => ?_)
      · skip
        have r_p3 : mh_r p3 (0) (1) := ⟨by have := e0_s270.1 (mh_z1 r_x269 c272); have := ((mh_r_full p3)).1; omega, by have := e0_s270.1 (mh_z1 r_x269 c272); have := ((mh_r_full p3)).2; have := (rc_1).2; omega⟩
        have r_x269 : mh_r x269 (1) (1) := mh_ne1 (show x269.toInt ≠ (0 : Int32).toInt from c272) r_x269 rc_0 (1) (1) (by decide)
        refine mw_iconst (v := 0) 29 rfl dX9_when_28 (by decide) ?_
        refine mw_istore 31 rfl [(4, .int (0)), (0, .ref (G.2.2.2 0)), (1, .int p1), (2, .int p2), (3, .int p3)] dX9_when_29  (by decide) rfl ?_
        refine mw_ldcw 34 rfl dX9_when_31 ck_X9_265 ?_
        refine mw_istore 36 rfl [(5, .int (2147483647)), (4, .int (0)), (0, .ref (G.2.2.2 0)), (1, .int p1), (2, .int p2), (3, .int p3)] dX9_when_34  (by decide) rfl ?_
        refine mw_iconst (v := 0) 37 rfl dX9_when_36 (by decide) ?_
        refine mw_istore 39 rfl [(6, .int (0)), (5, .int (2147483647)), (4, .int (0)), (0, .ref (G.2.2.2 0)), (1, .int p1), (2, .int p2), (3, .int p3)] dX9_when_37  (by decide) rfl ?_
        have L39 : ∀ n1 : Nat, ∀ (x496 : Int32) (x497 : Int32) (x498 : Int32), mh_r x496 (0) (1000) → mh_r x498 (0) (999) → (1000) - x496.toInt < (n1 : Int) → mh_W G (mh_XM l G (d + 1) (mh_Qi (P_X9_when B D s0 p1 p2 p3))) mM_X9_when 39 [(0, .ref (G.2.2.2 0)), (1, .int p1), (2, .int p2), (3, .int p3), (4, .int x498), (5, .int x497), (6, .int x496)] [] s0 := by
          intro n1
          induction n1 with
          | zero =>
            intro x496 x497 x498 r_x496 r_x498 hmn1
            exact absurd hmn1 (by have := r_x496.1; have := r_x496.2; omega)
          | succ n1 ihn1 =>
            intro x496 x497 x498 r_x496 r_x498 hmn1
            refine mw_iload 41 rfl 6 dX9_when_39  rfl ?_
            refine mw_sipush (v := 999) 44 rfl dX9_when_41 (by decide) ?_
            refine mw_icmp_gt 47 rfl 81 dX9_when_44 (by decide) (fun c511 => ?_) (fun c511 => ?_)
            · skip
              have r_x496 : mh_r x496 (1000) (1000) := mh_lt2 c511 rc_999 r_x496 (1000) (by decide)
              refine mw_iload_n 82 rfl 3 dX9_when_81 rfl rfl ?_
              refine mw_if_ne 85 rfl 90 dX9_when_82 (by decide) (fun c512 => ?_) (fun c512 => ?_)
              · skip
                have r_p3 : mh_r p3 (1) (1) := mh_ne1 (show p3.toInt ≠ (0 : Int32).toInt from c512) r_p3 rc_0 (1) (1) (by decide)
                refine mw_iload 92 rfl 5 dX9_when_90  rfl ?_
                exact mw_iret dX9_when_92 rfl ⟨x497, rfl, ⟨(mh_r_full x497), rfl⟩⟩
              · skip
                have r_p3 : mh_r p3 (0) (0) := mh_eq1 (show p3.toInt = (0 : Int32).toInt from c512) r_p3 rc_0 (0) (0) (by decide)
                refine mw_iload 87 rfl 4 dX9_when_85  rfl ?_
                refine mw_goto 90 rfl 92 dX9_when_87 (by decide) ?_
                exact mw_iret dX9_when_92 rfl ⟨x498, rfl, ⟨(mh_r_wk r_x498 (by decide)), rfl⟩⟩
            · skip
              have r_x496 : mh_r x496 (0) (999) := mh_le1 c511 r_x496 rc_999 (999) (by decide)
              refine mw_aload_n 48 rfl 0 dX9_when_47 rfl rfl ?_
              refine mw_geta 51 rfl dX9_when_48 gf_X9_46 rfl 29 (mh_rf hI0 6 rfl) ?_
              refine mw_iload 53 rfl 6 dX9_when_51  rfl ?_
              refine mw_iload_n 54 rfl 1 dX9_when_53 rfl rfl ?_
              refine mw_iload_n 55 rfl 2 dX9_when_54 rfl rfl ?_
              refine mw_callVi [.int x496, .int p1, .int p2] [] 58 rfl dX9_when_55 ml_X9_281 mc_X3_sendCost mk_X3_sendCost rfl rfl (by decide) (w_X3_sendCost l G (d + 0) ⟨by omega, by omega⟩ hI0 x496 p1 p2) rfl rfl (Nat.le_of_ble_eq_true rfl) (mh_rok (by omega) (by decide)) (fun x513 s514 q515 => ?_)
              obtain ⟨r_x513, rfl⟩ := q515
              refine mw_istore 60 rfl [(7, .int x513), (0, .ref (G.2.2.2 0)), (1, .int p1), (2, .int p2), (3, .int p3), (4, .int x498), (5, .int x497), (6, .int x496)] dX9_when_58  (by decide) rfl ?_
              refine mw_iload 62 rfl 0 dX9_when_60  rfl ?_
              refine mw_iload 64 rfl 6 dX9_when_62  rfl ?_
              have J75 : ∀ (x517 : Int32) (x518 : Int32), mh_r x517 (0) (999) → mh_W G (mh_XM l G (d + 1) (mh_Qi (P_X9_when B D s0 p1 p2 p3))) mM_X9_when 75 [(0, .ref (G.2.2.2 0)), (1, .int p1), (2, .int p2), (3, .int p3), (4, .int x517), (5, .int x518), (6, .int x496), (7, .int x513)] [] s0 := by
                intro x517 x518 r_x517
                refine mw_iincR (k := 6) (1) (1000) 78 rfl (fun z => [(6, .int z), (0, .ref (G.2.2.2 0)), (1, .int p1), (2, .int p2), (3, .int p3), (4, .int x517), (5, .int x518), (7, .int x513)]) dX9_when_75 rfl (by decide) (fun _ => rfl) r_x496 (by decide) (by decide) (fun x521 t522 r_x521 => ?_)
                refine mw_goto 81 rfl 39 dX9_when_78 (by decide) ?_
                exact mw_lv [1, 2, 3, 4, 5, 6, 0] rfl (ihn1 x521 x518 x517 (mh_r_wk r_x521 (by decide)) r_x517 (by have : x521.toInt = x496.toInt + (1) := t522; omega))
              refine mw_icmp_ge 67 rfl 75 dX9_when_64 (by decide) (fun c523 => ?_) (fun c523 => ?_)
              · skip
                exact mw_lv [1, 2, 3, 4, 5, 6, 7, 0] rfl (J75 x498 x497 r_x498)
              · skip
                have r_x513 : mh_r x513 (-2147483648) (2147483646) := mh_lt1 c523 r_x513 (mh_r_full x497) (2147483646) (by decide)
                have r_x497 : mh_r x497 (-2147483647) (2147483647) := mh_lt2 c523 r_x513 (mh_r_full x497) (-2147483647) (by decide)
                refine mw_iload 69 rfl 7 dX9_when_67  rfl ?_
                refine mw_istore 71 rfl [(4, .int x496), (7, .int x513), (0, .ref (G.2.2.2 0)), (1, .int p1), (2, .int p2), (3, .int p3), (5, .int x497), (6, .int x496)] dX9_when_69  (by decide) rfl ?_
                refine mw_iload 73 rfl 1 dX9_when_71  rfl ?_
                refine mw_istore 75 rfl [(5, .int x513), (4, .int x496), (7, .int x513), (0, .ref (G.2.2.2 0)), (1, .int p1), (2, .int p2), (3, .int p3), (6, .int x496)] dX9_when_73  (by decide) rfl ?_
                exact mw_lv [3, 4, 5, 6, 1, 0, 7, 2] rfl (J75 x496 x513 r_x496)
        exact mw_lv [3, 4, 5, 6, 2, 1, 0] rfl (L39 1001 (0) (2147483647) (0) (mh_r_wk rc_0 (by decide)) (mh_r_wk rc_0 (by decide)) (by have := (rc_0).1; have := (rc_0).2; omega))
      · skip
        have r_x269 : mh_r x269 (0) (0) := mh_eq1 (show x269.toInt = (0 : Int32).toInt from c272) r_x269 rc_0 (0) (0) (by decide)
        refine mw_iconst (v := -1) 27 rfl dX9_when_26 (by decide) ?_
        exact mw_iret dX9_when_27 rfl ⟨(-1), rfl, ⟨(mh_r_wk rc_m1 (by decide)), rfl⟩⟩

def S_X9_works : List (Nat × Nat) := [(14, 9999), (15, 9999), (16, 9999), (17, 9999), (18, 9999), (13, 5), (13, 6), (13, 7), (46, 9999), (54, 9999), (47, 9999), (55, 9999), (20, 9999), (21, 9999), (39, 9999)]
def P_X9_works (B D : Int) (s0 : mh_H) (p1 : Int32) (p2 : Int32) (p3 : Int32) (p4 : Int32) : Int32 → mh_H → Prop := fun z s => mh_r z (-2147483648) (2147483647) ∧ mh_I B D s ∧ mh_F S_X9_works s0 s
set_option maxRecDepth 100000 in
set_option maxHeartbeats 4000000 in
theorem w_X9_works (l : Launch) (G : mh_G) (d : Nat) {B D : Int} (hB : B ≤ 1880000000 ∧ D ≤ 1880000000) {s0 : mh_H} (hI0 : mh_I B D s0) (p1 : Int32) (p2 : Int32) (p3 : Int32) (p4 : Int32) : mh_Mi l G (d + 6) mM_X9_works [.ref (G.2.2.2 0), .int p1, .int p2, .int p3, .int p4] s0 (P_X9_works B D s0 p1 p2 p3 p4) := by
  refine mh_enter (lv := [(0, .ref (G.2.2.2 0)), (1, .int p1), (2, .int p2), (3, .int p3), (4, .int p4)]) (by decide) rfl (Nat.le_of_ble_eq_true rfl) ?_
  have hF0 : mh_F S_X9_works s0 s0 := mh_F_rf
  refine mw_iload_n 1 rfl 1 dX9_works_0 rfl rfl ?_
  refine mw_iload_n 2 rfl 2 dX9_works_1 rfl rfl ?_
  refine mw_callSi [.int p1, .int p2] [] 5 rfl dX9_works_2 ml_X9_94 mc_X9_isPlace mk_X9_isPlace (w_X9_isPlace l G (d + 4) ⟨by omega, by omega⟩ hI0 p1 p2) rfl rfl (Nat.le_of_ble_eq_true rfl) (mh_rok (by omega) (by decide)) (fun x31 s32 q33 => ?_)
  obtain ⟨r_x31, e0_s32, rfl⟩ := q33
  refine mw_if_eq 8 rfl 24 dX9_works_5 (by decide) (fun c34 => ?_) (fun c34 => ?_)
  · skip
    have r_x31 : mh_r x31 (0) (0) := mh_eq1 (show x31.toInt = (0 : Int32).toInt from c34) r_x31 rc_0 (0) (0) (by decide)
    refine mw_iconst (v := -1) 25 rfl dX9_works_24 (by decide) ?_
    exact mw_iret dX9_works_25 rfl ⟨(-1), rfl, ⟨(mh_r_wk rc_m1 (by decide)), hI0, hF0⟩⟩
  · skip
    have r_p1 : mh_r p1 (0) (11) := ⟨by have := e0_s32.1 (mh_z1 r_x31 c34); have := ((mh_r_full p1)).1; omega, by have := e0_s32.1 (mh_z1 r_x31 c34); have := ((mh_r_full p1)).2; omega⟩
    have r_p2 : mh_r p2 (0) (11) := ⟨by have := e0_s32.1 (mh_z1 r_x31 c34); have := ((mh_r_full p2)).1; omega, by have := e0_s32.1 (mh_z1 r_x31 c34); have := ((mh_r_full p2)).2; omega⟩
    have r_x31 : mh_r x31 (1) (1) := mh_ne1 (show x31.toInt ≠ (0 : Int32).toInt from c34) r_x31 rc_0 (1) (1) (by decide)
    refine mw_iload_n 9 rfl 3 dX9_works_8 rfl rfl ?_
    refine mw_callSi [.int p3] [] 12 rfl dX9_works_9 ml_X9_128 mc_X9_isNight mk_X9_isNight (w_X9_isNight l G (d + 5) ⟨by omega, by omega⟩ hI0 p3) rfl rfl (Nat.le_of_ble_eq_true rfl) (mh_rok (by omega) (by decide)) (fun x35 s36 q37 => ?_)
    obtain ⟨r_x35, e0_s36, rfl⟩ := q37
    refine mw_if_eq 15 rfl 24 dX9_works_12 (by decide) (fun c38 => ?_) (fun c38 => ?_)
    · skip
      have r_x35 : mh_r x35 (0) (0) := mh_eq1 (show x35.toInt = (0 : Int32).toInt from c38) r_x35 rc_0 (0) (0) (by decide)
      refine mw_iconst (v := -1) 25 rfl dX9_works_24 (by decide) ?_
      exact mw_iret dX9_works_25 rfl ⟨(-1), rfl, ⟨(mh_r_wk rc_m1 (by decide)), hI0, hF0⟩⟩
    · skip
      have r_p3 : mh_r p3 (1) (60) := ⟨by have := e0_s36.1 (mh_z1 r_x35 c38); have := ((mh_r_full p3)).1; omega, by have := e0_s36.1 (mh_z1 r_x35 c38); have := ((mh_r_full p3)).2; omega⟩
      have r_x35 : mh_r x35 (1) (1) := mh_ne1 (show x35.toInt ≠ (0 : Int32).toInt from c38) r_x35 rc_0 (1) (1) (by decide)
      refine mw_iload 17 rfl 4 dX9_works_15  rfl ?_
      refine mw_iconst (v := 3) 18 rfl dX9_works_17 (by decide) ?_
      refine mw_callSi [.int p4, .int (3)] [] 21 rfl dX9_works_18 ml_X9_98 mc_X9_isWithin mk_X9_isWithin (w_X9_isWithin l G (d + 5) ⟨by omega, by omega⟩ hI0 p4 (3)) rfl rfl (Nat.le_of_ble_eq_true rfl) (mh_rok (by omega) (by decide)) (fun x39 s40 q41 => ?_)
      obtain ⟨r_x39, e0_s40, rfl⟩ := q41
      refine mw_if_ne 24 rfl 26 dX9_works_21 (by decide) (fun c42 => ?_) (fun c42 => ?_)
      · skip
        have r_p4 : mh_r p4 (0) (3) := ⟨by have := e0_s40.1 (mh_z1 r_x39 c42); have := ((mh_r_full p4)).1; omega, by have := e0_s40.1 (mh_z1 r_x39 c42); have := ((mh_r_full p4)).2; have := (rc_3).2; omega⟩
        have r_x39 : mh_r x39 (1) (1) := mh_ne1 (show x39.toInt ≠ (0 : Int32).toInt from c42) r_x39 rc_0 (1) (1) (by decide)
        refine mw_bipush (v := 12) 28 rfl dX9_works_26 (by decide) ?_
        refine mw_iload_n 29 rfl 2 dX9_works_28 rfl rfl ?_
        refine mw_imul 30 rfl (0) (132) dX9_works_29 rc_12 r_p2 (by decide) (fun x43 t44 r_x43 => ?_)
        refine mw_iload_n 31 rfl 1 dX9_works_30 rfl rfl ?_
        refine mw_iadd 32 rfl (0) (143) dX9_works_31 r_x43 r_p1 (by decide) (fun x45 t46 r_x45 => ?_)
        refine mw_istore 34 rfl [(5, .int x45), (0, .ref (G.2.2.2 0)), (1, .int p1), (2, .int p2), (3, .int p3), (4, .int p4)] dX9_works_32  (by decide) rfl ?_
        refine mw_aload_n 35 rfl 1 dX9_works_34 rfl rfl ?_
        refine mw_geta 38 rfl dX9_works_35 gf_X9_10 rfl 1 (mh_rf hI0 0 rfl) ?_
        refine mw_geta 41 rfl dX9_works_38 gf_X9_104 rfl 3 (mh_rf hI0 12 rfl) ?_
        refine mw_iload 43 rfl 0 dX9_works_41  rfl ?_
        refine mw_iald 44 rfl dX9_works_43 rfl r_x45 (by decide) (fun x47 t48 => ?_)
        refine mw_iconst (v := 2) 45 rfl dX9_works_44 (by decide) ?_
        refine mw_icmp_ne 48 rfl 50 dX9_works_45 (by decide) (fun c49 => ?_) (fun c49 => ?_)
        · skip
          refine mw_aload_n 51 rfl 1 dX9_works_50 rfl rfl ?_
          refine mw_iload_n 52 rfl 4 dX9_works_51 rfl rfl ?_
          refine mw_iconst (v := -1) 53 rfl dX9_works_52 (by decide) ?_
          refine mw_callVv [.int p3, .int (-1)] [] 56 rfl dX9_works_53 ml_X9_188 mc_X9_passTrial mk_X9_passTrial rfl rfl (by decide) (w_X9_passTrial l G (d + 0) ⟨by omega, by omega⟩ hI0 p3 r_p3 (-1) (mh_r_wk rc_m1 (by decide))) rfl rfl (Nat.le_of_ble_eq_true rfl) (mh_rok (by omega) (by decide)) (fun s51 q52 => ?_)
          obtain ⟨hI_s51, hG_s51⟩ := q52
          have hF_s51 : mh_F S_X9_works s0 s51 := mh_F_tl hF0 hG_s51 (by decide +kernel)
          refine mw_aload_n 57 rfl 1 dX9_works_56 rfl rfl ?_
          refine mw_geta 60 rfl dX9_works_57 gf_X9_19 rfl 13 (mh_rf hI_s51 2 rfl) ?_
          refine mw_geta 63 rfl dX9_works_60 gf_X9_107 rfl 16 (mh_rf hI_s51 23 rfl) ?_
          refine mw_iconst (v := 0) 64 rfl dX9_works_63 (by decide) ?_
          refine mw_aload_n 65 rfl 1 dX9_works_64 rfl rfl ?_
          refine mw_geta 68 rfl dX9_works_65 gf_X9_64 rfl 39 (mh_rf hI_s51 10 rfl) ?_
          refine mw_iconst (v := 0) 69 rfl dX9_works_68 (by decide) ?_
          refine mw_sipush (v := 144) 72 rfl dX9_works_69 (by decide) ?_
          refine mw_copy 75 rfl dX9_works_72 ml_X9_192 rfl rfl (by decide) (mh_cr (D := d + 6) (by omega) (Nat.le_of_ble_eq_true rfl)) (fun s53 t54 => ?_)
          have hI_s53 : mh_I B D s53 := by rw [t54]; exact mh_I_pA hI_s51 (fun j => mh_r_full _) rfl (by decide)
          have hF_s53 : mh_F S_X9_works s0 s53 := by rw [t54]; exact mh_F_pA hF_s51 (List.mem_of_getElem? (i := 14) rfl)
          refine mw_aload_n 76 rfl 1 dX9_works_75 rfl rfl ?_
          refine mw_iload_n 77 rfl 4 dX9_works_76 rfl rfl ?_
          refine mw_iload 79 rfl 0 dX9_works_77  rfl ?_
          refine mw_callVv [.int p3, .int x45] [] 82 rfl dX9_works_79 ml_X9_188 mc_X9_passTrial mk_X9_passTrial rfl rfl (by decide) (w_X9_passTrial l G (d + 0) ⟨by omega, by omega⟩ hI_s53 p3 r_p3 x45 (mh_r_wk r_x45 (by decide))) rfl rfl (Nat.le_of_ble_eq_true rfl) (mh_rok (by omega) (by decide)) (fun s56 q57 => ?_)
          obtain ⟨hI_s56, hG_s56⟩ := q57
          have hF_s56 : mh_F S_X9_works s0 s56 := mh_F_tl hF_s53 hG_s56 (by decide +kernel)
          refine mw_aload_n 83 rfl 1 dX9_works_82 rfl rfl ?_
          refine mw_iload 85 rfl 5 dX9_works_83  rfl ?_
          refine mw_callVi [.int p4] [] 88 rfl dX9_works_85 ml_X9_198 mc_X9_tellWorks mk_X9_tellWorks rfl rfl (by decide) (w_X9_tellWorks l G (d + 5) ⟨by omega, by omega⟩ hI_s56 p4) rfl rfl (Nat.le_of_ble_eq_true rfl) (mh_rok (by omega) (by decide)) (fun x58 s59 q60 => ?_)
          obtain ⟨r_x58, rfl⟩ := q60
          exact mw_iret dX9_works_88 rfl ⟨x58, rfl, ⟨r_x58, hI_s56, hF_s56⟩⟩
        · skip
          have r_x47 : mh_r x47 (2) (2) := mh_eq1 c49 (mh_r_full x47) rc_2 (2) (2) (by decide)
          refine mw_iconst (v := -1) 49 rfl dX9_works_48 (by decide) ?_
          exact mw_iret dX9_works_49 rfl ⟨(-1), rfl, ⟨(mh_r_wk rc_m1 (by decide)), hI0, hF0⟩⟩
      · skip
        have r_x39 : mh_r x39 (0) (0) := mh_eq1 (show x39.toInt = (0 : Int32).toInt from c42) r_x39 rc_0 (0) (0) (by decide)
        refine mw_iconst (v := -1) 25 rfl dX9_works_24 (by decide) ?_
        exact mw_iret dX9_works_25 rfl ⟨(-1), rfl, ⟨(mh_r_wk rc_m1 (by decide)), hI0, hF0⟩⟩

def S_X10_pieceOfC : List (Nat × Nat) := [(57, 28), (76, 9999), (57, 29), (57, 23), (57, 25), (57, 31), (74, 9999), (75, 9999), (57, 27)]
def P_X10_pieceOfC (B D : Int) (s0 : mh_H) (b : Int) : mh_H → Prop := fun s => (mh_pb b s) ∧ (mh_pk b s0 s) ∧ (mh_pd b 1 s) ∧ ((s.1 57 25).toInt = 0 → mh_cq (s.1 76) (s.1 57 29).toInt.toNat ∧ (s0.1 57 23).toInt + 1 ≤ (s.1 57 23).toInt) ∧ ((s0.1 57 23).toInt ≤ (s.1 57 23).toInt) ∧ mh_I B D s ∧ mh_F S_X10_pieceOfC s0 s
set_option maxRecDepth 100000 in
set_option maxHeartbeats 4000000 in
theorem w_X10_pieceOfC (l : Launch) (G : mh_G) (d : Nat) {B D : Int} (hB : B ≤ 1900000000 ∧ D ≤ 1900000000) {s0 : mh_H} (hI0 : mh_I B D s0) (b : Int) (hb : mh_pb b s0) (hd : mh_pd b 0 s0) (hcq : mh_cq (s0.1 76) (s0.1 57 29).toInt.toNat) : mh_Mv l G (d + 5) mM_X10_pieceOfC [.ref (G.2.2.2 57)] s0 (P_X10_pieceOfC B D s0 b) := by
  refine mh_enter (lv := [(0, .ref (G.2.2.2 57))]) (by decide) rfl (Nat.le_of_ble_eq_true rfl) ?_
  have hF0 : mh_F S_X10_pieceOfC s0 s0 := mh_F_rf
  obtain ⟨x207, t208⟩ : ∃ z : Int32, z = s0.1 57 23 := ⟨_, rfl⟩
  obtain ⟨x209, t210⟩ : ∃ z : Int32, z = s0.1 57 24 := ⟨_, rfl⟩
  obtain ⟨x211, t212⟩ : ∃ z : Int32, z = s0.1 57 25 := ⟨_, rfl⟩
  obtain ⟨x213, t214⟩ : ∃ z : Int32, z = s0.1 57 27 := ⟨_, rfl⟩
  obtain ⟨x215, t216⟩ : ∃ z : Int32, z = s0.1 57 29 := ⟨_, rfl⟩
  have pb_s0 : 0 ≤ x207.toInt ∧ x207.toInt ≤ x209.toInt ∧ x209.toInt ≤ 200 ∧ 0 ≤ x215.toInt ∧ 0 ≤ b ∧ b ≤ x213.toInt ∧ x215.toInt + x213.toInt ≤ x207.toInt ∧ x211.toInt ≤ 0 := by have h9 := hb; unfold mh_pb at h9; rw [← t208, ← t210, ← t212, ← t214, ← t216] at h9; exact h9
  have r_x207 : mh_r x207 (0) (200) := ⟨by have := ((mh_r_full x207)).1; omega, by have := ((mh_r_full x207)).2; omega⟩
  have r_x209 : mh_r x209 (0) (200) := ⟨by have := ((mh_r_full x209)).1; omega, by have := ((mh_r_full x209)).2; omega⟩
  have r_x211 : mh_r x211 (-2147483648) (0) := ⟨by have := ((mh_r_full x211)).1; omega, by have := ((mh_r_full x211)).2; omega⟩
  have r_x213 : mh_r x213 (0) (200) := ⟨by have := ((mh_r_full x213)).1; omega, by have := ((mh_r_full x213)).2; omega⟩
  have r_x215 : mh_r x215 (0) (200) := ⟨by have := ((mh_r_full x215)).1; omega, by have := ((mh_r_full x215)).2; omega⟩
  have L0 : ∀ n1 : Nat, ∀  (s247 : mh_H), mh_I B D s247 → mh_F S_X10_pieceOfC s0 s247 → (mh_pb b s247 ∧ mh_pd b 0 s247 ∧ s247.1 74 = s0.1 74 ∧ mh_cq (s247.1 76) (s247.1 57 29).toInt.toNat ∧ (s0.1 57 23).toInt ≤ (s247.1 57 23).toInt) → 200 - (s247.1 57 23).toInt < (n1 : Int) → mh_W G (mh_XM l G (d + 5) (mh_Qv (P_X10_pieceOfC B D s0 b))) mM_X10_pieceOfC 0 [(0, .ref (G.2.2.2 57))] [] s247 := by
    intro n1
    induction n1 with
    | zero =>
      intro s247 hI_s247 hF_s247 iv hmn1
      exact absurd hmn1 (by have h9 := iv.1; unfold mh_pb at h9; omega)
    | succ n1 ihn1 =>
      intro s247 hI_s247 hF_s247 iv hmn1
      obtain ⟨x289, t290⟩ : ∃ z : Int32, z = s247.1 57 23 := ⟨_, rfl⟩
      obtain ⟨x291, t292⟩ : ∃ z : Int32, z = s247.1 57 24 := ⟨_, rfl⟩
      obtain ⟨x293, t294⟩ : ∃ z : Int32, z = s247.1 57 25 := ⟨_, rfl⟩
      obtain ⟨x295, t296⟩ : ∃ z : Int32, z = s247.1 57 27 := ⟨_, rfl⟩
      obtain ⟨x297, t298⟩ : ∃ z : Int32, z = s247.1 57 29 := ⟨_, rfl⟩
      have pb_s247 : 0 ≤ x289.toInt ∧ x289.toInt ≤ x291.toInt ∧ x291.toInt ≤ 200 ∧ 0 ≤ x297.toInt ∧ 0 ≤ b ∧ b ≤ x295.toInt ∧ x297.toInt + x295.toInt ≤ x289.toInt ∧ x293.toInt ≤ 0 := by have h9 := iv.1; unfold mh_pb at h9; rw [← t290, ← t292, ← t294, ← t296, ← t298] at h9; exact h9
      have r_x289 : mh_r x289 (0) (200) := ⟨by have := ((mh_r_full x289)).1; omega, by have := ((mh_r_full x289)).2; omega⟩
      have r_x291 : mh_r x291 (0) (200) := ⟨by have := ((mh_r_full x291)).1; omega, by have := ((mh_r_full x291)).2; omega⟩
      have r_x293 : mh_r x293 (-2147483648) (0) := ⟨by have := ((mh_r_full x293)).1; omega, by have := ((mh_r_full x293)).2; omega⟩
      have r_x295 : mh_r x295 (0) (200) := ⟨by have := ((mh_r_full x295)).1; omega, by have := ((mh_r_full x295)).2; omega⟩
      have r_x297 : mh_r x297 (0) (200) := ⟨by have := ((mh_r_full x297)).1; omega, by have := ((mh_r_full x297)).2; omega⟩
      refine mw_aload_n 1 rfl 0 dX10_pieceOfC_0 rfl rfl ?_
      refine mw_callVi [] [] 4 rfl dX10_pieceOfC_1 ml_X10_197 mc_X10_isGood mk_X10_isGood rfl rfl (by decide) (w_X10_isGood l G (d + 4) ⟨by omega, by omega⟩ hI_s247) rfl rfl (Nat.le_of_ble_eq_true rfl) (mh_rok (by omega) (by decide)) (fun x299 s300 q301 => ?_)
      obtain ⟨r_x299, e0_s300, rfl⟩ := q301
      rw [← t294] at e0_s300
      refine mw_if_eq 7 rfl 32 dX10_pieceOfC_4 (by decide) (fun c302 => ?_) (fun c302 => ?_)
      · skip
        have r_x293 : mh_r x293 (-2147483648) (-1) := ⟨(r_x293).1, by have := (r_x293).2; have : x293.toInt ≠ 0 := (fun q => by have := e0_s300.2 q; have := c302; omega); omega⟩
        have r_x299 : mh_r x299 (0) (0) := mh_eq1 (show x299.toInt = (0 : Int32).toInt from c302) r_x299 rc_0 (0) (0) (by decide)
        refine mw_aload_n 33 rfl 0 dX10_pieceOfC_32 rfl rfl ?_
        refine mw_callVi [] [] 36 rfl dX10_pieceOfC_33 ml_X10_197 mc_X10_isGood mk_X10_isGood rfl rfl (by decide) (w_X10_isGood l G (d + 4) ⟨by omega, by omega⟩ hI_s247) rfl rfl (Nat.le_of_ble_eq_true rfl) (mh_rok (by omega) (by decide)) (fun x303 s304 q305 => ?_)
        obtain ⟨r_x303, e0_s304, rfl⟩ := q305
        rw [← t294] at e0_s304
        refine mw_if_eq 39 rfl 43 dX10_pieceOfC_36 (by decide) (fun c306 => ?_) (fun c306 => ?_)
        · skip
          have r_x303 : mh_r x303 (0) (0) := mh_eq1 (show x303.toInt = (0 : Int32).toInt from c306) r_x303 rc_0 (0) (0) (by decide)
          refine mw_aload_n 44 rfl 0 dX10_pieceOfC_43 rfl rfl ?_
          refine mw_callVi [] [] 47 rfl dX10_pieceOfC_44 ml_X10_197 mc_X10_isGood mk_X10_isGood rfl rfl (by decide) (w_X10_isGood l G (d + 4) ⟨by omega, by omega⟩ hI_s247) rfl rfl (Nat.le_of_ble_eq_true rfl) (mh_rok (by omega) (by decide)) (fun x307 s308 q309 => ?_)
          obtain ⟨r_x307, e0_s308, rfl⟩ := q309
          rw [← t294] at e0_s308
          refine mw_if_ne 50 rfl 51 dX10_pieceOfC_47 (by decide) (fun c310 => ?_) (fun c310 => ?_)
          · skip
            exact absurd (e0_s308.1 (mh_z1 r_x307 c310)) (by have := (r_x293).2; omega)
          · skip
            have r_x307 : mh_r x307 (0) (0) := mh_eq1 (show x307.toInt = (0 : Int32).toInt from c310) r_x307 rc_0 (0) (0) (by decide)
            refine mw_vret dX10_pieceOfC_50 rfl ⟨rfl, ⟨?_, ?_, ?_, ?_, ?_, hI_s247, hF_s247⟩⟩
            · skip
              exact (show mh_pb b s247 by unfold mh_pb; rw [← t290, ← t292, ← t294, ← t296, ← t298]; have := kc_0; have := kc_1; have := (r_x207).1; have := (r_x207).2; have := (r_x209).1; have := (r_x209).2; have := (r_x211).1; have := (r_x211).2; have := (r_x213).1; have := (r_x213).2; have := (r_x215).1; have := (r_x215).2; have := (r_x289).1; have := (r_x289).2; have := (r_x291).1; have := (r_x291).2; have := (r_x293).1; have := (r_x293).2; have := (r_x295).1; have := (r_x295).2; have := (r_x297).1; have := (r_x297).2; have := kc_0; have := kc_1; have := kc_33; have := kc_40; omega)
            · skip
              exact mh_pk_tr (mh_pk_row iv.2.2.1) (mh_pk_row (rfl))
            · skip
              intro hg9
              exfalso
              have := congrArg Int32.toInt t208
              have := congrArg Int32.toInt t210
              have := congrArg Int32.toInt t212
              have := congrArg Int32.toInt t214
              have := congrArg Int32.toInt t216
              have := congrArg Int32.toInt t290
              have := congrArg Int32.toInt t292
              have := congrArg Int32.toInt t294
              have := congrArg Int32.toInt t296
              have := congrArg Int32.toInt t298
              have := (r_x207).1; have := (r_x207).2
              have := (r_x209).1; have := (r_x209).2
              have := (r_x211).1; have := (r_x211).2
              have := (r_x213).1; have := (r_x213).2
              have := (r_x215).1; have := (r_x215).2
              have := (r_x289).1; have := (r_x289).2
              have := (r_x291).1; have := (r_x291).2
              have := (r_x293).1; have := (r_x293).2
              have := (r_x295).1; have := (r_x295).2
              have := (r_x297).1; have := (r_x297).2
              have := kc_0
              have := kc_1
              have := kc_33
              have := kc_40
              omega
            · skip
              intro hg9
              exfalso
              have := congrArg Int32.toInt t208
              have := congrArg Int32.toInt t210
              have := congrArg Int32.toInt t212
              have := congrArg Int32.toInt t214
              have := congrArg Int32.toInt t216
              have := congrArg Int32.toInt t290
              have := congrArg Int32.toInt t292
              have := congrArg Int32.toInt t294
              have := congrArg Int32.toInt t296
              have := congrArg Int32.toInt t298
              have := (r_x207).1; have := (r_x207).2
              have := (r_x209).1; have := (r_x209).2
              have := (r_x211).1; have := (r_x211).2
              have := (r_x213).1; have := (r_x213).2
              have := (r_x215).1; have := (r_x215).2
              have := (r_x289).1; have := (r_x289).2
              have := (r_x291).1; have := (r_x291).2
              have := (r_x293).1; have := (r_x293).2
              have := (r_x295).1; have := (r_x295).2
              have := (r_x297).1; have := (r_x297).2
              have := kc_0
              have := kc_1
              have := kc_33
              have := kc_40
              omega
            · skip
              have := congrArg Int32.toInt t208
              have := congrArg Int32.toInt t210
              have := congrArg Int32.toInt t212
              have := congrArg Int32.toInt t214
              have := congrArg Int32.toInt t216
              have := congrArg Int32.toInt t290
              have := congrArg Int32.toInt t292
              have := congrArg Int32.toInt t294
              have := congrArg Int32.toInt t296
              have := congrArg Int32.toInt t298
              have := (r_x207).1; have := (r_x207).2
              have := (r_x209).1; have := (r_x209).2
              have := (r_x211).1; have := (r_x211).2
              have := (r_x213).1; have := (r_x213).2
              have := (r_x215).1; have := (r_x215).2
              have := (r_x289).1; have := (r_x289).2
              have := (r_x291).1; have := (r_x291).2
              have := (r_x293).1; have := (r_x293).2
              have := (r_x295).1; have := (r_x295).2
              have := (r_x297).1; have := (r_x297).2
              have := kc_0
              have := kc_1
              have := kc_33
              have := kc_40
              have := iv.2.2.2.2
              omega
        · skip
          exact absurd (e0_s304.1 (mh_z1 r_x303 c306)) (by have := (r_x293).2; omega)
      · skip
        have r_x293 : mh_r x293 (0) (0) := ⟨by have := e0_s300.1 (mh_z1 r_x299 c302); omega, by have := e0_s300.1 (mh_z1 r_x299 c302); omega⟩
        have r_x299 : mh_r x299 (1) (1) := mh_ne1 (show x299.toInt ≠ (0 : Int32).toInt from c302) r_x299 rc_0 (1) (1) (by decide)
        refine mw_aload_n 8 rfl 0 dX10_pieceOfC_7 rfl rfl ?_
        refine mw_callVi [] [] 11 rfl dX10_pieceOfC_8 ml_X10_214 mc_X10_here mk_X10_here rfl rfl (by decide) (w_X10_here l G (d + 4) ⟨by omega, by omega⟩ hI_s247 (by rw [← t290, ← t292]; have := (r_x207).1; have := (r_x207).2; have := (r_x209).1; have := (r_x209).2; have := (r_x211).1; have := (r_x211).2; have := (r_x213).1; have := (r_x213).2; have := (r_x215).1; have := (r_x215).2; have := (r_x289).1; have := (r_x289).2; have := (r_x291).1; have := (r_x291).2; have := (r_x293).1; have := (r_x293).2; have := (r_x295).1; have := (r_x295).2; have := (r_x297).1; have := (r_x297).2; have := kc_0; have := kc_1; have := kc_33; have := kc_40; omega)) rfl rfl (Nat.le_of_ble_eq_true rfl) (mh_rok (by omega) (by decide)) (fun x311 s312 q313 => ?_)
        obtain ⟨r_x311, e0_s312, rfl⟩ := q313
        have hq_x311 : x311.toInt ≠ 0 → x289.toInt < x291.toInt := fun q => by rw [t290, t292]; exact mh_hr_lt (by rw [← e0_s312]; exact q)
        refine mw_bipush (v := 33) 13 rfl dX10_pieceOfC_11 (by decide) ?_
        refine mw_icmp_eq 16 rfl 25 dX10_pieceOfC_13 (by decide) (fun c314 => ?_) (fun c314 => ?_)
        · skip
          have r_x311 : mh_r x311 (33) (33) := mh_eq1 c314 r_x311 rc_33 (33) (33) (by decide)
          refine mw_aload_n 26 rfl 0 dX10_pieceOfC_25 rfl rfl ?_
          refine mw_callVv [] [] 29 rfl dX10_pieceOfC_26 ml_X10_240 mc_X10_opens mk_X10_opens rfl rfl (by decide) (w_X10_opens l G (d + 3) ⟨by omega, by omega⟩ hI_s247 b (show mh_pb b s247 by unfold mh_pb; rw [← t290, ← t292, ← t294, ← t296, ← t298]; have := kc_0; have := kc_1; have := (r_x207).1; have := (r_x207).2; have := (r_x209).1; have := (r_x209).2; have := (r_x211).1; have := (r_x211).2; have := (r_x213).1; have := (r_x213).2; have := (r_x215).1; have := (r_x215).2; have := (r_x289).1; have := (r_x289).2; have := (r_x291).1; have := (r_x291).2; have := (r_x293).1; have := (r_x293).2; have := (r_x295).1; have := (r_x295).2; have := (r_x297).1; have := (r_x297).2; have := kc_0; have := kc_1; have := kc_33; have := kc_40; omega) (by have := congrArg Int32.toInt t208; have := congrArg Int32.toInt t210; have := congrArg Int32.toInt t212; have := congrArg Int32.toInt t214; have := congrArg Int32.toInt t216; have := congrArg Int32.toInt t290; have := congrArg Int32.toInt t292; have := congrArg Int32.toInt t294; have := congrArg Int32.toInt t296; have := congrArg Int32.toInt t298; have := (r_x207).1; have := (r_x207).2; have := (r_x209).1; have := (r_x209).2; have := (r_x211).1; have := (r_x211).2; have := (r_x213).1; have := (r_x213).2; have := (r_x215).1; have := (r_x215).2; have := (r_x289).1; have := (r_x289).2; have := (r_x291).1; have := (r_x291).2; have := (r_x293).1; have := (r_x293).2; have := (r_x295).1; have := (r_x295).2; have := (r_x297).1; have := (r_x297).2; have := kc_0; have := kc_1; have := kc_33; have := kc_40; omega)) rfl rfl (Nat.le_of_ble_eq_true rfl) (mh_rok (by omega) (by decide)) (fun s316 q317 => ?_)
          obtain ⟨e0_s316, e1_s316, e2_s316, hI_s316, hG_s316⟩ := q317
          have hF_s316 : mh_F S_X10_pieceOfC s0 s316 := mh_F_tl hF_s247 hG_s316 (by decide +kernel)
          obtain ⟨x318, t319⟩ : ∃ z : Int32, z = s316.1 57 23 := ⟨_, rfl⟩
          have t320 : x291 = s316.1 57 24 := (t292).trans (hG_s316 57 24 (mh_nsI (by rfl))).1.symm
          obtain ⟨x321, t322⟩ : ∃ z : Int32, z = s316.1 57 25 := ⟨_, rfl⟩
          have t323 : x295 = s316.1 57 27 := (t296).trans (hG_s316 57 27 (mh_nsI (by rfl))).1.symm
          obtain ⟨x324, t325⟩ : ∃ z : Int32, z = s316.1 57 29 := ⟨_, rfl⟩
          have pb_s316 : 0 ≤ x318.toInt ∧ x318.toInt ≤ x291.toInt ∧ x291.toInt ≤ 200 ∧ 0 ≤ x324.toInt ∧ 0 ≤ b ∧ b ≤ x295.toInt ∧ x324.toInt + x295.toInt ≤ x318.toInt ∧ x321.toInt ≤ 0 := by have h9 := e0_s316; unfold mh_pb at h9; rw [← t319, ← t320, ← t322, ← t323, ← t325] at h9; exact h9
          have r_x318 : mh_r x318 (0) (200) := ⟨by have := ((mh_r_full x318)).1; omega, by have := ((mh_r_full x318)).2; omega⟩
          have r_x321 : mh_r x321 (-2147483648) (0) := ⟨by have := ((mh_r_full x321)).1; omega, by have := ((mh_r_full x321)).2; omega⟩
          have r_x324 : mh_r x324 (0) (200) := ⟨by have := ((mh_r_full x324)).1; omega, by have := ((mh_r_full x324)).2; omega⟩
          have hop_s316 := e2_s316
          rw [← t325, ← t319, ← t322, ← t298, ← t290, ← t294] at hop_s316
          refine mw_goto 32 rfl 0 dX10_pieceOfC_29 (by decide) ?_
          exact mw_lv [0] rfl (ihn1 s316 hI_s316 hF_s316 (by
              have h76 := e1_s316
              rw [← t298, ← e0_s312] at h76
              have h74 : s316.1 74 = s247.1 74 := (mh_F_row hG_s316 74 rfl)
              refine ⟨e0_s316, ?_, h74.trans iv.2.2.1, ?_, ?_⟩
              · skip
                intro hg
                have := congrArg Int32.toInt t208
                have := congrArg Int32.toInt t210
                have := congrArg Int32.toInt t212
                have := congrArg Int32.toInt t214
                have := congrArg Int32.toInt t216
                have := congrArg Int32.toInt t290
                have := congrArg Int32.toInt t292
                have := congrArg Int32.toInt t294
                have := congrArg Int32.toInt t296
                have := congrArg Int32.toInt t298
                have := congrArg Int32.toInt t319
                have := congrArg Int32.toInt t320
                have := congrArg Int32.toInt t322
                have := congrArg Int32.toInt t323
                have := congrArg Int32.toInt t325
                have := (r_x207).1; have := (r_x207).2
                have := (r_x209).1; have := (r_x209).2
                have := (r_x211).1; have := (r_x211).2
                have := (r_x213).1; have := (r_x213).2
                have := (r_x215).1; have := (r_x215).2
                have := (r_x289).1; have := (r_x289).2
                have := (r_x291).1; have := (r_x291).2
                have := (r_x293).1; have := (r_x293).2
                have := (r_x295).1; have := (r_x295).2
                have := (r_x297).1; have := (r_x297).2
                have := (r_x318).1; have := (r_x318).2
                have := (r_x321).1; have := (r_x321).2
                have := (r_x324).1; have := (r_x324).2
                have := kc_0
                have := kc_1
                have := kc_33
                have := kc_40
                have hB := iv.2.1 (by rw [← t294]; omega)
                have h76 := e1_s316
                rw [← t298] at h76
                have h74 : s316.1 74 = s247.1 74 := (mh_F_row hG_s316 74 rfl)
                have hcod : (s316.1 57 27).toInt = x295.toInt := by rw [← t323]
                have hst : (s316.1 57 29).toInt.toNat = x297.toInt.toNat + 1 := by rw [← t325]; omega
                rw [← t296, ← t298] at hB
                rw [h74, h76, hcod, hst]
                exact mh_pdr_pn hB (by rw [← e0_s312]; show (_ ∨ _ ∨ _); omega)
              · skip
                have := congrArg Int32.toInt t208
                have := congrArg Int32.toInt t210
                have := congrArg Int32.toInt t212
                have := congrArg Int32.toInt t214
                have := congrArg Int32.toInt t216
                have := congrArg Int32.toInt t290
                have := congrArg Int32.toInt t292
                have := congrArg Int32.toInt t294
                have := congrArg Int32.toInt t296
                have := congrArg Int32.toInt t298
                have := congrArg Int32.toInt t319
                have := congrArg Int32.toInt t320
                have := congrArg Int32.toInt t322
                have := congrArg Int32.toInt t323
                have := congrArg Int32.toInt t325
                have := (r_x207).1; have := (r_x207).2
                have := (r_x209).1; have := (r_x209).2
                have := (r_x211).1; have := (r_x211).2
                have := (r_x213).1; have := (r_x213).2
                have := (r_x215).1; have := (r_x215).2
                have := (r_x289).1; have := (r_x289).2
                have := (r_x291).1; have := (r_x291).2
                have := (r_x293).1; have := (r_x293).2
                have := (r_x295).1; have := (r_x295).2
                have := (r_x297).1; have := (r_x297).2
                have := (r_x318).1; have := (r_x318).2
                have := (r_x321).1; have := (r_x321).2
                have := (r_x324).1; have := (r_x324).2
                have := kc_0
                have := kc_1
                have := kc_33
                have := kc_40
                have hc9 := iv.2.2.2.1
                rw [← t298] at hc9
                have hst : (s316.1 57 29).toInt.toNat = x297.toInt.toNat + 1 := by rw [← t325]; omega
                rw [hst, h76]
                exact mh_cq_psh hc9 (by unfold mh_cs; omega)
              · skip
                have := congrArg Int32.toInt t208
                have := congrArg Int32.toInt t210
                have := congrArg Int32.toInt t212
                have := congrArg Int32.toInt t214
                have := congrArg Int32.toInt t216
                have := congrArg Int32.toInt t290
                have := congrArg Int32.toInt t292
                have := congrArg Int32.toInt t294
                have := congrArg Int32.toInt t296
                have := congrArg Int32.toInt t298
                have := congrArg Int32.toInt t319
                have := congrArg Int32.toInt t320
                have := congrArg Int32.toInt t322
                have := congrArg Int32.toInt t323
                have := congrArg Int32.toInt t325
                have := (r_x207).1; have := (r_x207).2
                have := (r_x209).1; have := (r_x209).2
                have := (r_x211).1; have := (r_x211).2
                have := (r_x213).1; have := (r_x213).2
                have := (r_x215).1; have := (r_x215).2
                have := (r_x289).1; have := (r_x289).2
                have := (r_x291).1; have := (r_x291).2
                have := (r_x293).1; have := (r_x293).2
                have := (r_x295).1; have := (r_x295).2
                have := (r_x297).1; have := (r_x297).2
                have := (r_x318).1; have := (r_x318).2
                have := (r_x321).1; have := (r_x321).2
                have := (r_x324).1; have := (r_x324).2
                have := kc_0
                have := kc_1
                have := kc_33
                have := kc_40
                have := iv.2.2.2.2
                omega) (by have := congrArg Int32.toInt t208; have := congrArg Int32.toInt t210; have := congrArg Int32.toInt t212; have := congrArg Int32.toInt t214; have := congrArg Int32.toInt t216; have := congrArg Int32.toInt t290; have := congrArg Int32.toInt t292; have := congrArg Int32.toInt t294; have := congrArg Int32.toInt t296; have := congrArg Int32.toInt t298; have := congrArg Int32.toInt t319; have := congrArg Int32.toInt t320; have := congrArg Int32.toInt t322; have := congrArg Int32.toInt t323; have := congrArg Int32.toInt t325; have := (r_x207).1; have := (r_x207).2; have := (r_x209).1; have := (r_x209).2; have := (r_x211).1; have := (r_x211).2; have := (r_x213).1; have := (r_x213).2; have := (r_x215).1; have := (r_x215).2; have := (r_x289).1; have := (r_x289).2; have := (r_x291).1; have := (r_x291).2; have := (r_x293).1; have := (r_x293).2; have := (r_x295).1; have := (r_x295).2; have := (r_x297).1; have := (r_x297).2; have := (r_x318).1; have := (r_x318).2; have := (r_x321).1; have := (r_x321).2; have := (r_x324).1; have := (r_x324).2; have := kc_0; have := kc_1; have := kc_33; have := kc_40; omega))
        · skip
          refine mw_aload_n 17 rfl 0 dX10_pieceOfC_16 rfl rfl ?_
          refine mw_callVi [] [] 20 rfl dX10_pieceOfC_17 ml_X10_214 mc_X10_here mk_X10_here rfl rfl (by decide) (w_X10_here l G (d + 4) ⟨by omega, by omega⟩ hI_s247 (by rw [← t290, ← t292]; have := (r_x207).1; have := (r_x207).2; have := (r_x209).1; have := (r_x209).2; have := (r_x211).1; have := (r_x211).2; have := (r_x213).1; have := (r_x213).2; have := (r_x215).1; have := (r_x215).2; have := (r_x289).1; have := (r_x289).2; have := (r_x291).1; have := (r_x291).2; have := (r_x293).1; have := (r_x293).2; have := (r_x295).1; have := (r_x295).2; have := (r_x297).1; have := (r_x297).2; have := kc_0; have := kc_1; have := kc_33; have := kc_40; omega)) rfl rfl (Nat.le_of_ble_eq_true rfl) (mh_rok (by omega) (by decide)) (fun x326 s327 q328 => ?_)
          obtain ⟨r_x326, e0_s327, rfl⟩ := q328
          obtain rfl : x311 = x326 := e0_s312.trans e0_s327.symm
          refine mw_bipush (v := 40) 22 rfl dX10_pieceOfC_20 (by decide) ?_
          refine mw_icmp_ne 25 rfl 32 dX10_pieceOfC_22 (by decide) (fun c329 => ?_) (fun c329 => ?_)
          · skip
            refine mw_aload_n 33 rfl 0 dX10_pieceOfC_32 rfl rfl ?_
            refine mw_callVi [] [] 36 rfl dX10_pieceOfC_33 ml_X10_197 mc_X10_isGood mk_X10_isGood rfl rfl (by decide) (w_X10_isGood l G (d + 4) ⟨by omega, by omega⟩ hI_s247) rfl rfl (Nat.le_of_ble_eq_true rfl) (mh_rok (by omega) (by decide)) (fun x330 s331 q332 => ?_)
            obtain ⟨r_x330, e0_s331, rfl⟩ := q332
            rw [← t294] at e0_s331
            refine mw_if_eq 39 rfl 43 dX10_pieceOfC_36 (by decide) (fun c333 => ?_) (fun c333 => ?_)
            · skip
              exact absurd (e0_s331.2 (by have := (r_x293).1; have := (r_x293).2; omega)) (by have := c333; omega)
            · skip
              have r_x330 : mh_r x330 (1) (1) := mh_ne1 (show x330.toInt ≠ (0 : Int32).toInt from c333) r_x330 rc_0 (1) (1) (by decide)
              refine mw_aload_n 40 rfl 0 dX10_pieceOfC_39 rfl rfl ?_
              refine mw_callVv [] [] 43 rfl dX10_pieceOfC_40 ml_X10_263 mc_X10_value mk_X10_value rfl rfl (by decide) (w_X10_value l G (d + 0) ⟨by omega, by omega⟩ hI_s247 b (show mh_pb b s247 by unfold mh_pb; rw [← t290, ← t292, ← t294, ← t296, ← t298]; have := kc_0; have := kc_1; have := (r_x207).1; have := (r_x207).2; have := (r_x209).1; have := (r_x209).2; have := (r_x211).1; have := (r_x211).2; have := (r_x213).1; have := (r_x213).2; have := (r_x215).1; have := (r_x215).2; have := (r_x289).1; have := (r_x289).2; have := (r_x291).1; have := (r_x291).2; have := (r_x293).1; have := (r_x293).2; have := (r_x295).1; have := (r_x295).2; have := (r_x297).1; have := (r_x297).2; have := kc_0; have := kc_1; have := kc_33; have := kc_40; omega) ((mh_pd_c iv.2.1 rfl rfl rfl (rfl) (rfl))) (by rw [← t294]; have := (r_x207).1; have := (r_x207).2; have := (r_x209).1; have := (r_x209).2; have := (r_x211).1; have := (r_x211).2; have := (r_x213).1; have := (r_x213).2; have := (r_x215).1; have := (r_x215).2; have := (r_x289).1; have := (r_x289).2; have := (r_x291).1; have := (r_x291).2; have := (r_x293).1; have := (r_x293).2; have := (r_x295).1; have := (r_x295).2; have := (r_x297).1; have := (r_x297).2; have := kc_0; have := kc_1; have := kc_33; have := kc_40; omega) (mh_cq_fl iv.2.2.2.1)) rfl rfl (Nat.le_of_ble_eq_true rfl) (mh_rok (by omega) (by decide)) (fun s335 q336 => ?_)
              obtain ⟨e0_s335, e1_s335, e2_s335, e3_s335, e4_s335, hI_s335, hG_s335⟩ := q336
              have hF_s335 : mh_F S_X10_pieceOfC s0 s335 := mh_F_tl hF_s247 hG_s335 (by decide +kernel)
              obtain ⟨x337, t338⟩ : ∃ z : Int32, z = s335.1 57 23 := ⟨_, rfl⟩
              have t339 : x291 = s335.1 57 24 := (t292).trans (hG_s335 57 24 (mh_nsI (by rfl))).1.symm
              obtain ⟨x340, t341⟩ : ∃ z : Int32, z = s335.1 57 25 := ⟨_, rfl⟩
              obtain ⟨x342, t343⟩ : ∃ z : Int32, z = s335.1 57 27 := ⟨_, rfl⟩
              obtain ⟨x344, t345⟩ : ∃ z : Int32, z = s335.1 57 29 := ⟨_, rfl⟩
              have pb_s335 : 0 ≤ x337.toInt ∧ x337.toInt ≤ x291.toInt ∧ x291.toInt ≤ 200 ∧ 0 ≤ x344.toInt ∧ 0 ≤ b ∧ b ≤ x342.toInt ∧ x344.toInt + x342.toInt ≤ x337.toInt ∧ x340.toInt ≤ 0 := by have h9 := e0_s335; unfold mh_pb at h9; rw [← t338, ← t339, ← t341, ← t343, ← t345] at h9; exact h9
              have r_x337 : mh_r x337 (0) (200) := ⟨by have := ((mh_r_full x337)).1; omega, by have := ((mh_r_full x337)).2; omega⟩
              have r_x340 : mh_r x340 (-2147483648) (0) := ⟨by have := ((mh_r_full x340)).1; omega, by have := ((mh_r_full x340)).2; omega⟩
              have r_x342 : mh_r x342 (0) (200) := ⟨by have := ((mh_r_full x342)).1; omega, by have := ((mh_r_full x342)).2; omega⟩
              have r_x344 : mh_r x344 (0) (200) := ⟨by have := ((mh_r_full x344)).1; omega, by have := ((mh_r_full x344)).2; omega⟩
              have hva_s335 := e4_s335
              rw [← t290, ← t338, ← t341] at hva_s335
              have hvb_s335 := e2_s335
              rw [← t298, ← t345, ← t341] at hvb_s335
              refine mw_aload_n 44 rfl 0 dX10_pieceOfC_43 rfl rfl ?_
              refine mw_callVi [] [] 47 rfl dX10_pieceOfC_44 ml_X10_197 mc_X10_isGood mk_X10_isGood rfl rfl (by decide) (w_X10_isGood l G (d + 4) ⟨by omega, by omega⟩ hI_s335) rfl rfl (Nat.le_of_ble_eq_true rfl) (mh_rok (by omega) (by decide)) (fun x346 s347 q348 => ?_)
              obtain ⟨r_x346, e0_s347, rfl⟩ := q348
              rw [← t341] at e0_s347
              refine mw_if_ne 50 rfl 51 dX10_pieceOfC_47 (by decide) (fun c349 => ?_) (fun c349 => ?_)
              · skip
                have r_x340 : mh_r x340 (0) (0) := ⟨by have := e0_s347.1 (mh_z1 r_x346 c349); omega, by have := e0_s347.1 (mh_z1 r_x346 c349); omega⟩
                have r_x346 : mh_r x346 (1) (1) := mh_ne1 (show x346.toInt ≠ (0 : Int32).toInt from c349) r_x346 rc_0 (1) (1) (by decide)
                refine mw_aload_n 52 rfl 0 dX10_pieceOfC_51 rfl rfl ?_
                refine mw_callVi [] [] 55 rfl dX10_pieceOfC_52 ml_X10_214 mc_X10_here mk_X10_here rfl rfl (by decide) (w_X10_here l G (d + 4) ⟨by omega, by omega⟩ hI_s335 (by rw [← t338, ← t339]; have := (r_x207).1; have := (r_x207).2; have := (r_x209).1; have := (r_x209).2; have := (r_x211).1; have := (r_x211).2; have := (r_x213).1; have := (r_x213).2; have := (r_x215).1; have := (r_x215).2; have := (r_x289).1; have := (r_x289).2; have := (r_x291).1; have := (r_x291).2; have := (r_x293).1; have := (r_x293).2; have := (r_x295).1; have := (r_x295).2; have := (r_x297).1; have := (r_x297).2; have := (r_x337).1; have := (r_x337).2; have := (r_x340).1; have := (r_x340).2; have := (r_x342).1; have := (r_x342).2; have := (r_x344).1; have := (r_x344).2; have := kc_0; have := kc_1; have := kc_33; have := kc_40; omega)) rfl rfl (Nat.le_of_ble_eq_true rfl) (mh_rok (by omega) (by decide)) (fun x350 s351 q352 => ?_)
                obtain ⟨r_x350, e0_s351, rfl⟩ := q352
                have hq_x350 : x350.toInt ≠ 0 → x337.toInt < x291.toInt := fun q => by rw [t338, t339]; exact mh_hr_lt (by rw [← e0_s351]; exact q)
                refine mw_istore_n 56 rfl [(1, .int x350), (0, .ref (G.2.2.2 57))] dX10_pieceOfC_55 rfl (by decide) rfl ?_
                refine mw_iload_n 57 rfl 0 dX10_pieceOfC_56 rfl rfl ?_
                refine mw_callSi [.int x350] [] 60 rfl dX10_pieceOfC_57 ml_X10_266 mc_X10_isSign mk_X10_isSign (w_X10_isSign l G (d + 4) ⟨by omega, by omega⟩ hI_s335 x350) rfl rfl (Nat.le_of_ble_eq_true rfl) (mh_rok (by omega) (by decide)) (fun x353 s354 q355 => ?_)
                obtain ⟨r_x353, e0_s354, rfl⟩ := q355
                refine mw_if_ne 63 rfl 73 dX10_pieceOfC_60 (by decide) (fun c356 => ?_) (fun c356 => ?_)
                · skip
                  have hk_x353 := e0_s354.1 (mh_z1 r_x353 c356)
                  have r_x353 : mh_r x353 (1) (1) := mh_ne1 (show x353.toInt ≠ (0 : Int32).toInt from c356) r_x353 rc_0 (1) (1) (by decide)
                  refine mw_aload_n 74 rfl 1 dX10_pieceOfC_73 rfl rfl ?_
                  refine mw_iload_n 75 rfl 0 dX10_pieceOfC_74 rfl rfl ?_
                  refine mw_callVv [.int x350] [] 78 rfl dX10_pieceOfC_75 ml_X10_218 mc_X10_puts mk_X10_puts rfl rfl (by decide) (w_X10_puts l G (d + 4) ⟨by omega, by omega⟩ hI_s335 x350 (by rw [← t345, ← t338]; have := (r_x350).1; have := (r_x350).2; have := (r_x207).1; have := (r_x207).2; have := (r_x209).1; have := (r_x209).2; have := (r_x211).1; have := (r_x211).2; have := (r_x213).1; have := (r_x213).2; have := (r_x215).1; have := (r_x215).2; have := (r_x289).1; have := (r_x289).2; have := (r_x291).1; have := (r_x291).2; have := (r_x293).1; have := (r_x293).2; have := (r_x295).1; have := (r_x295).2; have := (r_x297).1; have := (r_x297).2; have := (r_x337).1; have := (r_x337).2; have := (r_x340).1; have := (r_x340).2; have := (r_x342).1; have := (r_x342).2; have := (r_x344).1; have := (r_x344).2; have := kc_0; have := kc_1; have := kc_33; have := kc_40; omega)) rfl rfl (Nat.le_of_ble_eq_true rfl) (mh_rok (by omega) (by decide)) (fun s358 q359 => ?_)
                  obtain ⟨e0_s358, hI_s358, hG_s358⟩ := q359
                  have hF_s358 : mh_F S_X10_pieceOfC s0 s358 := mh_F_tl hF_s335 hG_s358 (by decide +kernel)
                  obtain ⟨x360, t361⟩ : ∃ z : Int32, z = s358.1 57 29 := ⟨_, rfl⟩
                  obtain ⟨x362, t363⟩ : ∃ z : Int32, z = s358.1 57 23 := ⟨_, rfl⟩
                  rw [← t345, ← t361, ← t338, ← t363] at e0_s358
                  have r_x360 : mh_r x360 (1) (201) := ⟨by have := e0_s358.2; have := (r_x344).1; omega, by have := e0_s358.2; have := (r_x344).2; omega⟩
                  have r_x362 : mh_r x362 (1) (201) := ⟨by have := e0_s358.2; have := (r_x337).1; omega, by have := e0_s358.2; have := (r_x337).2; omega⟩
                  refine mw_aload_n 79 rfl 1 dX10_pieceOfC_78 rfl rfl ?_
                  have t364 : x291 = s358.1 57 24 := (t339).trans (hG_s358 57 24 (mh_nsI (by rfl))).1.symm
                  have t365 : x340 = s358.1 57 25 := (t341).trans (hG_s358 57 25 (mh_nsI (by rfl))).1.symm
                  have t366 : x342 = s358.1 57 27 := (t343).trans (hG_s358 57 27 (mh_nsI (by rfl))).1.symm
                  have hpd3 : mh_pd b 0 s358 := by
                    intro hg9
                    have := congrArg Int32.toInt t208
                    have := congrArg Int32.toInt t210
                    have := congrArg Int32.toInt t212
                    have := congrArg Int32.toInt t214
                    have := congrArg Int32.toInt t216
                    have := congrArg Int32.toInt t290
                    have := congrArg Int32.toInt t292
                    have := congrArg Int32.toInt t294
                    have := congrArg Int32.toInt t296
                    have := congrArg Int32.toInt t298
                    have := congrArg Int32.toInt t338
                    have := congrArg Int32.toInt t339
                    have := congrArg Int32.toInt t341
                    have := congrArg Int32.toInt t343
                    have := congrArg Int32.toInt t345
                    have := congrArg Int32.toInt t361
                    have := congrArg Int32.toInt t363
                    have := congrArg Int32.toInt t364
                    have := congrArg Int32.toInt t365
                    have := congrArg Int32.toInt t366
                    have := (r_x350).1; have := (r_x350).2
                    have := (r_x207).1; have := (r_x207).2
                    have := (r_x209).1; have := (r_x209).2
                    have := (r_x211).1; have := (r_x211).2
                    have := (r_x213).1; have := (r_x213).2
                    have := (r_x215).1; have := (r_x215).2
                    have := (r_x289).1; have := (r_x289).2
                    have := (r_x291).1; have := (r_x291).2
                    have := (r_x293).1; have := (r_x293).2
                    have := (r_x295).1; have := (r_x295).2
                    have := (r_x297).1; have := (r_x297).2
                    have := (r_x337).1; have := (r_x337).2
                    have := (r_x340).1; have := (r_x340).2
                    have := (r_x342).1; have := (r_x342).2
                    have := (r_x344).1; have := (r_x344).2
                    have := (r_x360).1; have := (r_x360).2
                    have := (r_x362).1; have := (r_x362).2
                    have := kc_0
                    have := kc_1
                    have := kc_33
                    have := kc_40
                    have hB := e3_s335 (by rw [← t341]; omega)
                    rw [← t343, ← t345] at hB
                    have h74 : s358.1 74 = s335.1 74 := (mh_F_row hG_s358 74 rfl)
                    have hcod : (s358.1 57 27).toInt = x342.toInt := by rw [← t366]
                    have hst : (s358.1 57 29).toInt.toNat = x344.toInt.toNat + 1 := by rw [← t361]; omega
                    rw [h74, e0_s358.1, hcod, hst]
                    exact mh_pdr_pb hB (by show ¬ (_ ∨ _ ∨ _); omega)
                  have hfl3 : mh_fl (s358.1 76) (s358.1 57 29).toInt.toNat := by
                    have := congrArg Int32.toInt t208
                    have := congrArg Int32.toInt t210
                    have := congrArg Int32.toInt t212
                    have := congrArg Int32.toInt t214
                    have := congrArg Int32.toInt t216
                    have := congrArg Int32.toInt t290
                    have := congrArg Int32.toInt t292
                    have := congrArg Int32.toInt t294
                    have := congrArg Int32.toInt t296
                    have := congrArg Int32.toInt t298
                    have := congrArg Int32.toInt t338
                    have := congrArg Int32.toInt t339
                    have := congrArg Int32.toInt t341
                    have := congrArg Int32.toInt t343
                    have := congrArg Int32.toInt t345
                    have := congrArg Int32.toInt t361
                    have := congrArg Int32.toInt t363
                    have := congrArg Int32.toInt t364
                    have := congrArg Int32.toInt t365
                    have := congrArg Int32.toInt t366
                    have := (r_x350).1; have := (r_x350).2
                    have := (r_x207).1; have := (r_x207).2
                    have := (r_x209).1; have := (r_x209).2
                    have := (r_x211).1; have := (r_x211).2
                    have := (r_x213).1; have := (r_x213).2
                    have := (r_x215).1; have := (r_x215).2
                    have := (r_x289).1; have := (r_x289).2
                    have := (r_x291).1; have := (r_x291).2
                    have := (r_x293).1; have := (r_x293).2
                    have := (r_x295).1; have := (r_x295).2
                    have := (r_x297).1; have := (r_x297).2
                    have := (r_x337).1; have := (r_x337).2
                    have := (r_x340).1; have := (r_x340).2
                    have := (r_x342).1; have := (r_x342).2
                    have := (r_x344).1; have := (r_x344).2
                    have := (r_x360).1; have := (r_x360).2
                    have := (r_x362).1; have := (r_x362).2
                    have := kc_0
                    have := kc_1
                    have := kc_33
                    have := kc_40
                    intro j hj q
                    have h5 : s358.1 76 j = x350 := by rw [e0_s358.1]; exact if_pos (by omega)
                    rw [h5] at q
                    unfold mh_vs at q
                    omega
                  refine mw_callVv [] [] 82 rfl dX10_pieceOfC_79 ml_X10_263 mc_X10_value mk_X10_value rfl rfl (by decide) (w_X10_value l G (d + 0) ⟨by omega, by omega⟩ hI_s358 b (show mh_pb b s358 by unfold mh_pb; rw [← t363, ← t364, ← t365, ← t366, ← t361]; have := kc_0; have := kc_1; have := (r_x350).1; have := (r_x350).2; have := (r_x207).1; have := (r_x207).2; have := (r_x209).1; have := (r_x209).2; have := (r_x211).1; have := (r_x211).2; have := (r_x213).1; have := (r_x213).2; have := (r_x215).1; have := (r_x215).2; have := (r_x289).1; have := (r_x289).2; have := (r_x291).1; have := (r_x291).2; have := (r_x293).1; have := (r_x293).2; have := (r_x295).1; have := (r_x295).2; have := (r_x297).1; have := (r_x297).2; have := (r_x337).1; have := (r_x337).2; have := (r_x340).1; have := (r_x340).2; have := (r_x342).1; have := (r_x342).2; have := (r_x344).1; have := (r_x344).2; have := (r_x360).1; have := (r_x360).2; have := (r_x362).1; have := (r_x362).2; have := kc_0; have := kc_1; have := kc_33; have := kc_40; omega) hpd3 (by rw [← t365]; have := (r_x350).1; have := (r_x350).2; have := (r_x207).1; have := (r_x207).2; have := (r_x209).1; have := (r_x209).2; have := (r_x211).1; have := (r_x211).2; have := (r_x213).1; have := (r_x213).2; have := (r_x215).1; have := (r_x215).2; have := (r_x289).1; have := (r_x289).2; have := (r_x291).1; have := (r_x291).2; have := (r_x293).1; have := (r_x293).2; have := (r_x295).1; have := (r_x295).2; have := (r_x297).1; have := (r_x297).2; have := (r_x337).1; have := (r_x337).2; have := (r_x340).1; have := (r_x340).2; have := (r_x342).1; have := (r_x342).2; have := (r_x344).1; have := (r_x344).2; have := (r_x360).1; have := (r_x360).2; have := (r_x362).1; have := (r_x362).2; have := kc_0; have := kc_1; have := kc_33; have := kc_40; omega) hfl3) rfl rfl (Nat.le_of_ble_eq_true rfl) (mh_rok (by omega) (by decide)) (fun s368 q369 => ?_)
                  obtain ⟨e0_s368, e1_s368, e2_s368, e3_s368, e4_s368, hI_s368, hG_s368⟩ := q369
                  have hF_s368 : mh_F S_X10_pieceOfC s0 s368 := mh_F_tl hF_s358 hG_s368 (by decide +kernel)
                  obtain ⟨x370, t371⟩ : ∃ z : Int32, z = s368.1 57 23 := ⟨_, rfl⟩
                  have t372 : x291 = s368.1 57 24 := (t364).trans (hG_s368 57 24 (mh_nsI (by rfl))).1.symm
                  obtain ⟨x373, t374⟩ : ∃ z : Int32, z = s368.1 57 25 := ⟨_, rfl⟩
                  obtain ⟨x375, t376⟩ : ∃ z : Int32, z = s368.1 57 27 := ⟨_, rfl⟩
                  obtain ⟨x377, t378⟩ : ∃ z : Int32, z = s368.1 57 29 := ⟨_, rfl⟩
                  have pb_s368 : 0 ≤ x370.toInt ∧ x370.toInt ≤ x291.toInt ∧ x291.toInt ≤ 200 ∧ 0 ≤ x377.toInt ∧ 0 ≤ b ∧ b ≤ x375.toInt ∧ x377.toInt + x375.toInt ≤ x370.toInt ∧ x373.toInt ≤ 0 := by have h9 := e0_s368; unfold mh_pb at h9; rw [← t371, ← t372, ← t374, ← t376, ← t378] at h9; exact h9
                  have r_x370 : mh_r x370 (0) (200) := ⟨by have := ((mh_r_full x370)).1; omega, by have := ((mh_r_full x370)).2; omega⟩
                  have r_x373 : mh_r x373 (-2147483648) (0) := ⟨by have := ((mh_r_full x373)).1; omega, by have := ((mh_r_full x373)).2; omega⟩
                  have r_x375 : mh_r x375 (0) (200) := ⟨by have := ((mh_r_full x375)).1; omega, by have := ((mh_r_full x375)).2; omega⟩
                  have r_x377 : mh_r x377 (0) (200) := ⟨by have := ((mh_r_full x377)).1; omega, by have := ((mh_r_full x377)).2; omega⟩
                  have hva_s368 := e4_s368
                  rw [← t363, ← t371, ← t374] at hva_s368
                  have hvb_s368 := e2_s368
                  rw [← t361, ← t378, ← t374] at hvb_s368
                  refine mw_aload_n 83 rfl 1 dX10_pieceOfC_82 rfl rfl ?_
                  refine mw_callVi [] [] 86 rfl dX10_pieceOfC_83 ml_X10_197 mc_X10_isGood mk_X10_isGood rfl rfl (by decide) (w_X10_isGood l G (d + 4) ⟨by omega, by omega⟩ hI_s368) rfl rfl (Nat.le_of_ble_eq_true rfl) (mh_rok (by omega) (by decide)) (fun x379 s380 q381 => ?_)
                  obtain ⟨r_x379, e0_s380, rfl⟩ := q381
                  rw [← t374] at e0_s380
                  refine mw_if_ne 89 rfl 90 dX10_pieceOfC_86 (by decide) (fun c382 => ?_) (fun c382 => ?_)
                  · skip
                    have r_x373 : mh_r x373 (0) (0) := ⟨by have := e0_s380.1 (mh_z1 r_x379 c382); omega, by have := e0_s380.1 (mh_z1 r_x379 c382); omega⟩
                    have r_x379 : mh_r x379 (1) (1) := mh_ne1 (show x379.toInt ≠ (0 : Int32).toInt from c382) r_x379 rc_0 (1) (1) (by decide)
                    refine mw_aload_n 91 rfl 1 dX10_pieceOfC_90 rfl rfl ?_
                    refine mw_aload_n 92 rfl 1 dX10_pieceOfC_91 rfl rfl ?_
                    refine mw_callVi [] [.ref (G.2.2.2 57)] 95 rfl dX10_pieceOfC_92 ml_X10_228 mc_X10_top mk_X10_top rfl rfl (by decide) (w_X10_top l G (d + 4) ⟨by omega, by omega⟩ hI_s368 (by rw [← t378]; have := (r_x350).1; have := (r_x350).2; have := (r_x207).1; have := (r_x207).2; have := (r_x209).1; have := (r_x209).2; have := (r_x211).1; have := (r_x211).2; have := (r_x213).1; have := (r_x213).2; have := (r_x215).1; have := (r_x215).2; have := (r_x289).1; have := (r_x289).2; have := (r_x291).1; have := (r_x291).2; have := (r_x293).1; have := (r_x293).2; have := (r_x295).1; have := (r_x295).2; have := (r_x297).1; have := (r_x297).2; have := (r_x337).1; have := (r_x337).2; have := (r_x340).1; have := (r_x340).2; have := (r_x342).1; have := (r_x342).2; have := (r_x344).1; have := (r_x344).2; have := (r_x360).1; have := (r_x360).2; have := (r_x362).1; have := (r_x362).2; have := (r_x370).1; have := (r_x370).2; have := (r_x373).1; have := (r_x373).2; have := (r_x375).1; have := (r_x375).2; have := (r_x377).1; have := (r_x377).2; have := kc_0; have := kc_1; have := kc_33; have := kc_40; omega)) rfl rfl (Nat.le_of_ble_eq_true rfl) (mh_rok (by omega) (by decide)) (fun x383 s384 q385 => ?_)
                    obtain ⟨r_x383, e0_s384, rfl⟩ := q385
                    have hq_x383 : x383.toInt ≠ 0 → 0 < x377.toInt ∧ s368.1 76 (x377.toInt.toNat - 1) = x383 := fun q => by rw [t378]; have h9 := mh_tp_s (σ := s368) (by rw [← e0_s384]; exact q); rw [← e0_s384] at h9; exact h9
                    have htop : x383 = x350 := by
                      have := congrArg Int32.toInt t208
                      have := congrArg Int32.toInt t210
                      have := congrArg Int32.toInt t212
                      have := congrArg Int32.toInt t214
                      have := congrArg Int32.toInt t216
                      have := congrArg Int32.toInt t290
                      have := congrArg Int32.toInt t292
                      have := congrArg Int32.toInt t294
                      have := congrArg Int32.toInt t296
                      have := congrArg Int32.toInt t298
                      have := congrArg Int32.toInt t338
                      have := congrArg Int32.toInt t339
                      have := congrArg Int32.toInt t341
                      have := congrArg Int32.toInt t343
                      have := congrArg Int32.toInt t345
                      have := congrArg Int32.toInt t361
                      have := congrArg Int32.toInt t363
                      have := congrArg Int32.toInt t364
                      have := congrArg Int32.toInt t365
                      have := congrArg Int32.toInt t366
                      have := congrArg Int32.toInt t371
                      have := congrArg Int32.toInt t372
                      have := congrArg Int32.toInt t374
                      have := congrArg Int32.toInt t376
                      have := congrArg Int32.toInt t378
                      have := (r_x350).1; have := (r_x350).2
                      have := (r_x207).1; have := (r_x207).2
                      have := (r_x209).1; have := (r_x209).2
                      have := (r_x211).1; have := (r_x211).2
                      have := (r_x213).1; have := (r_x213).2
                      have := (r_x215).1; have := (r_x215).2
                      have := (r_x289).1; have := (r_x289).2
                      have := (r_x291).1; have := (r_x291).2
                      have := (r_x293).1; have := (r_x293).2
                      have := (r_x295).1; have := (r_x295).2
                      have := (r_x297).1; have := (r_x297).2
                      have := (r_x337).1; have := (r_x337).2
                      have := (r_x340).1; have := (r_x340).2
                      have := (r_x342).1; have := (r_x342).2
                      have := (r_x344).1; have := (r_x344).2
                      have := (r_x360).1; have := (r_x360).2
                      have := (r_x362).1; have := (r_x362).2
                      have := (r_x370).1; have := (r_x370).2
                      have := (r_x373).1; have := (r_x373).2
                      have := (r_x375).1; have := (r_x375).2
                      have := (r_x377).1; have := (r_x377).2
                      have := kc_0
                      have := kc_1
                      have := kc_33
                      have := kc_40
                      have hvb := hvb_s368 (by omega)
                      have h5 : mh_tp s368 = s368.1 76 (x377.toInt.toNat - 1) := by unfold mh_tp; rw [← t378, if_pos (by omega)]
                      rw [e0_s384, h5, hvb.2 _ (by omega), e0_s358.1]
                      exact if_pos (by omega)
                    refine mw_iconst (v := 0) 96 rfl dX10_pieceOfC_95 (by decide) ?_
                    refine mw_callVv [.int x383, .int (0)] [] 99 rfl dX10_pieceOfC_96 ml_X10_237 mc_X10_emit mk_X10_emit rfl rfl (by decide) (w_X10_emit l G (d + 3) ⟨by omega, by omega⟩ hI_s368 x383 (0) (by rw [← t374, ← t376]; have := (r_x350).1; have := (r_x350).2; have := (r_x207).1; have := (r_x207).2; have := (r_x209).1; have := (r_x209).2; have := (r_x211).1; have := (r_x211).2; have := (r_x213).1; have := (r_x213).2; have := (r_x215).1; have := (r_x215).2; have := (r_x289).1; have := (r_x289).2; have := (r_x291).1; have := (r_x291).2; have := (r_x293).1; have := (r_x293).2; have := (r_x295).1; have := (r_x295).2; have := (r_x297).1; have := (r_x297).2; have := (r_x337).1; have := (r_x337).2; have := (r_x340).1; have := (r_x340).2; have := (r_x342).1; have := (r_x342).2; have := (r_x344).1; have := (r_x344).2; have := (r_x360).1; have := (r_x360).2; have := (r_x362).1; have := (r_x362).2; have := (r_x370).1; have := (r_x370).2; have := (r_x373).1; have := (r_x373).2; have := (r_x375).1; have := (r_x375).2; have := (r_x377).1; have := (r_x377).2; have := kc_0; have := kc_1; have := kc_33; have := kc_40; omega)) rfl rfl (Nat.le_of_ble_eq_true rfl) (mh_rok (by omega) (by decide)) (fun s387 q388 => ?_)
                    obtain ⟨e0_s387, hI_s387, hG_s387⟩ := q388
                    have hF_s387 : mh_F S_X10_pieceOfC s0 s387 := mh_F_tl hF_s368 hG_s387 (by decide +kernel)
                    obtain ⟨x389, t390⟩ : ∃ z : Int32, z = s387.1 57 27 := ⟨_, rfl⟩
                    have hm_s387 : (x373.toInt = 0 → s387.1 74 = mh_u1 (s368.1 74) x375.toInt.toNat x383 ∧ x389.toInt = x375.toInt + 1) ∧ (x373.toInt ≠ 0 → s387.1 74 = s368.1 74 ∧ x389.toInt = x375.toInt) := by
                      have h9 := e0_s387
                      rw [← t374, ← t376] at h9
                      rw [← t390] at h9
                      exact ⟨h9.1, fun q => ⟨(h9.2 q).1, congrArg Int32.toInt (h9.2 q).2⟩⟩
                    have hn_s387 : (x373.toInt = 0 ∧ x389.toInt = x375.toInt + 1) ∨ (x373.toInt ≠ 0 ∧ x389.toInt = x375.toInt) := by by_cases q : x373.toInt = 0; exact Or.inl ⟨q, (hm_s387.1 q).2⟩; exact Or.inr ⟨q, (hm_s387.2 q).2⟩
                    have r_x389 : mh_r x389 (0) (201) := ⟨by have := (r_x375).1; omega, by have := (r_x375).2; omega⟩
                    refine mw_aload_n 100 rfl 1 dX10_pieceOfC_99 rfl rfl ?_
                    refine mw_dup 101 rfl dX10_pieceOfC_100 rfl ?_
                    refine mw_geti 104 rfl dX10_pieceOfC_101 gf_X10_204 rfl (fun x391 t392 => ?_)
                    have t393 : x377 = s387.1 57 29 := (t378).trans (hG_s387 57 29 (mh_nsI (by rfl))).1.symm
                    obtain rfl : x377 = x391 := t393.trans t392.symm
                    refine mw_iconst (v := 1) 105 rfl dX10_pieceOfC_104 (by decide) ?_
                    refine mw_isub 106 rfl (-1) (199) dX10_pieceOfC_105 r_x377 rc_1 (by decide) (fun x394 t395 r_x394 => ?_)
                    refine mw_puti 109 rfl dX10_pieceOfC_106 pf_X10_204 rfl (fun s396 t397 => ?_)
                    have hI_s396 : mh_I B D s396 := by rw [t397]; exact wr_57_29 hI_s387
                    have hF_s396 : mh_F S_X10_pieceOfC s0 s396 := by rw [t397]; exact mh_F_pI hF_s387 (mh_sj 2 rfl)
                    refine mw_aload_n 110 rfl 1 dX10_pieceOfC_109 rfl rfl ?_
                    have t398 : x370 = s387.1 57 23 := (t371).trans (hG_s387 57 23 (mh_nsI (by rfl))).1.symm
                    have t399 : x370 = s396.1 57 23 := by rw [t397]; exact (t398).trans (mh_pI_n (by omega)).symm
                    have t400 : x291 = s387.1 57 24 := (t372).trans (hG_s387 57 24 (mh_nsI (by rfl))).1.symm
                    have t401 : x291 = s396.1 57 24 := by rw [t397]; exact (t400).trans (mh_pI_n (by omega)).symm
                    have t402 : x373 = s387.1 57 25 := (t374).trans (hG_s387 57 25 (mh_nsI (by rfl))).1.symm
                    have t403 : x373 = s396.1 57 25 := by rw [t397]; exact (t402).trans (mh_pI_n (by omega)).symm
                    have t404 : x389 = s396.1 57 27 := by rw [t397]; exact (t390).trans (mh_pI_n (by omega)).symm
                    have t405 : x394 = s396.1 57 29 := by rw [t397]; exact mh_pI_s.symm
                    have hpd6 : mh_pd b 1 s396 := by
                      intro hg9
                      have := congrArg Int32.toInt t208
                      have := congrArg Int32.toInt t210
                      have := congrArg Int32.toInt t212
                      have := congrArg Int32.toInt t214
                      have := congrArg Int32.toInt t216
                      have := congrArg Int32.toInt t290
                      have := congrArg Int32.toInt t292
                      have := congrArg Int32.toInt t294
                      have := congrArg Int32.toInt t296
                      have := congrArg Int32.toInt t298
                      have := congrArg Int32.toInt t338
                      have := congrArg Int32.toInt t339
                      have := congrArg Int32.toInt t341
                      have := congrArg Int32.toInt t343
                      have := congrArg Int32.toInt t345
                      have := congrArg Int32.toInt t361
                      have := congrArg Int32.toInt t363
                      have := congrArg Int32.toInt t364
                      have := congrArg Int32.toInt t365
                      have := congrArg Int32.toInt t366
                      have := congrArg Int32.toInt t371
                      have := congrArg Int32.toInt t372
                      have := congrArg Int32.toInt t374
                      have := congrArg Int32.toInt t376
                      have := congrArg Int32.toInt t378
                      have := congrArg Int32.toInt t390
                      have := congrArg Int32.toInt t393
                      have := congrArg Int32.toInt t399
                      have := congrArg Int32.toInt t401
                      have := congrArg Int32.toInt t403
                      have := congrArg Int32.toInt t404
                      have := congrArg Int32.toInt t405
                      have := (r_x350).1; have := (r_x350).2
                      have := (r_x207).1; have := (r_x207).2
                      have := (r_x209).1; have := (r_x209).2
                      have := (r_x211).1; have := (r_x211).2
                      have := (r_x213).1; have := (r_x213).2
                      have := (r_x215).1; have := (r_x215).2
                      have := (r_x289).1; have := (r_x289).2
                      have := (r_x291).1; have := (r_x291).2
                      have := (r_x293).1; have := (r_x293).2
                      have := (r_x295).1; have := (r_x295).2
                      have := (r_x297).1; have := (r_x297).2
                      have := (r_x337).1; have := (r_x337).2
                      have := (r_x340).1; have := (r_x340).2
                      have := (r_x342).1; have := (r_x342).2
                      have := (r_x344).1; have := (r_x344).2
                      have := (r_x360).1; have := (r_x360).2
                      have := (r_x362).1; have := (r_x362).2
                      have := (r_x370).1; have := (r_x370).2
                      have := (r_x373).1; have := (r_x373).2
                      have := (r_x375).1; have := (r_x375).2
                      have := (r_x377).1; have := (r_x377).2
                      have := (r_x389).1; have := (r_x389).2
                      have := (r_x394).1; have := (r_x394).2
                      have := (rc_1).1; have := (rc_1).2
                      have := kc_0
                      have := kc_1
                      have := kc_33
                      have := kc_40
                      have hg0 : x373.toInt = 0 := by omega
                      have hq9 := hq_x383 (by rw [htop]; omega)
                      have hB := e3_s368 (by rw [← t374]; exact hg0)
                      rw [← t376, ← t378] at hB
                      have h74 : s396.1 74 = mh_u1 (s368.1 74) x375.toInt.toNat x383 := ((by rw [t397]; exact mh_row_n (by decide) : s396.1 74 = s387.1 74)).trans (hm_s387.1 hg0).1
                      have h76 : s396.1 76 = s368.1 76 := ((by rw [t397]; exact mh_row_n (by decide) : s396.1 76 = s387.1 76)).trans (mh_F_row hG_s387 76 rfl)
                      have hcod : (s396.1 57 27).toInt = x375.toInt + 1 := by rw [← t404]; exact (hm_s387.1 hg0).2
                      have hst : (s396.1 57 29).toInt.toNat = x377.toInt.toNat - 1 := by rw [← t405]; omega
                      rw [h74, h76, hcod, hst]
                      exact mh_pdr_bin hB ⟨by omega, by omega⟩ (by omega) hq9.2 (by rw [htop]; show ¬ (_ ∨ _ ∨ _); omega) (by rw [htop]; omega)
                    refine mw_callVv [] [] 113 rfl dX10_pieceOfC_110 ml_X10_269 mc_X10_ends mk_X10_ends rfl rfl (by decide) (w_X10_ends l G (d + 2) ⟨by omega, by omega⟩ hI_s396 b (show mh_pb b s396 by unfold mh_pb; rw [← t399, ← t401, ← t403, ← t404, ← t405]; have := kc_0; have := kc_1; have := (r_x350).1; have := (r_x350).2; have := (r_x207).1; have := (r_x207).2; have := (r_x209).1; have := (r_x209).2; have := (r_x211).1; have := (r_x211).2; have := (r_x213).1; have := (r_x213).2; have := (r_x215).1; have := (r_x215).2; have := (r_x289).1; have := (r_x289).2; have := (r_x291).1; have := (r_x291).2; have := (r_x293).1; have := (r_x293).2; have := (r_x295).1; have := (r_x295).2; have := (r_x297).1; have := (r_x297).2; have := (r_x337).1; have := (r_x337).2; have := (r_x340).1; have := (r_x340).2; have := (r_x342).1; have := (r_x342).2; have := (r_x344).1; have := (r_x344).2; have := (r_x360).1; have := (r_x360).2; have := (r_x362).1; have := (r_x362).2; have := (r_x370).1; have := (r_x370).2; have := (r_x373).1; have := (r_x373).2; have := (r_x375).1; have := (r_x375).2; have := (r_x377).1; have := (r_x377).2; have := (r_x389).1; have := (r_x389).2; have := (r_x394).1; have := (r_x394).2; have := (rc_1).1; have := (rc_1).2; have := kc_0; have := kc_1; have := kc_33; have := kc_40; omega) hpd6) rfl rfl (Nat.le_of_ble_eq_true rfl) (mh_rok (by omega) (by decide)) (fun s407 q408 => ?_)
                    obtain ⟨e0_s407, e1_s407, e2_s407, e3_s407, e4_s407, e5_s407, hI_s407, hG_s407⟩ := q408
                    have hF_s407 : mh_F S_X10_pieceOfC s0 s407 := mh_F_tl hF_s396 hG_s407 (by decide +kernel)
                    have t409 : x370 = s407.1 57 23 := (t399).trans (hG_s407 57 23 (mh_nsI (by rfl))).1.symm
                    have t410 : x291 = s407.1 57 24 := (t401).trans (hG_s407 57 24 (mh_nsI (by rfl))).1.symm
                    have t411 : x373 = s407.1 57 25 := (t403).trans (hG_s407 57 25 (mh_nsI (by rfl))).1.symm
                    obtain ⟨x412, t413⟩ : ∃ z : Int32, z = s407.1 57 27 := ⟨_, rfl⟩
                    obtain ⟨x414, t415⟩ : ∃ z : Int32, z = s407.1 57 29 := ⟨_, rfl⟩
                    have pb_s407 : 0 ≤ x370.toInt ∧ x370.toInt ≤ x291.toInt ∧ x291.toInt ≤ 200 ∧ 0 ≤ x414.toInt ∧ 0 ≤ b ∧ b ≤ x412.toInt ∧ x414.toInt + x412.toInt ≤ x370.toInt ∧ x373.toInt ≤ 0 := by have h9 := e0_s407; unfold mh_pb at h9; rw [← t409, ← t410, ← t411, ← t413, ← t415] at h9; exact h9
                    have r_x412 : mh_r x412 (0) (200) := ⟨by have := ((mh_r_full x412)).1; omega, by have := ((mh_r_full x412)).2; omega⟩
                    have r_x414 : mh_r x414 (0) (200) := ⟨by have := ((mh_r_full x414)).1; omega, by have := ((mh_r_full x414)).2; omega⟩
                    have hp_s407 := e3_s407
                    rw [← t415, ← t405] at hp_s407
                    refine mw_vret dX10_pieceOfC_113 rfl ⟨rfl, ⟨?_, ?_, ?_, ?_, ?_, hI_s407, hF_s407⟩⟩
                    · skip
                      exact (show mh_pb b s407 by unfold mh_pb; rw [← t409, ← t410, ← t411, ← t413, ← t415]; have := kc_0; have := kc_1; have := (r_x350).1; have := (r_x350).2; have := (r_x207).1; have := (r_x207).2; have := (r_x209).1; have := (r_x209).2; have := (r_x211).1; have := (r_x211).2; have := (r_x213).1; have := (r_x213).2; have := (r_x215).1; have := (r_x215).2; have := (r_x289).1; have := (r_x289).2; have := (r_x291).1; have := (r_x291).2; have := (r_x293).1; have := (r_x293).2; have := (r_x295).1; have := (r_x295).2; have := (r_x297).1; have := (r_x297).2; have := (r_x337).1; have := (r_x337).2; have := (r_x340).1; have := (r_x340).2; have := (r_x342).1; have := (r_x342).2; have := (r_x344).1; have := (r_x344).2; have := (r_x360).1; have := (r_x360).2; have := (r_x362).1; have := (r_x362).2; have := (r_x370).1; have := (r_x370).2; have := (r_x373).1; have := (r_x373).2; have := (r_x375).1; have := (r_x375).2; have := (r_x377).1; have := (r_x377).2; have := (r_x389).1; have := (r_x389).2; have := (r_x394).1; have := (r_x394).2; have := (r_x412).1; have := (r_x412).2; have := (r_x414).1; have := (r_x414).2; have := kc_0; have := kc_1; have := kc_33; have := kc_40; omega)
                    · skip
                      have := congrArg Int32.toInt t208
                      have := congrArg Int32.toInt t210
                      have := congrArg Int32.toInt t212
                      have := congrArg Int32.toInt t214
                      have := congrArg Int32.toInt t216
                      have := congrArg Int32.toInt t290
                      have := congrArg Int32.toInt t292
                      have := congrArg Int32.toInt t294
                      have := congrArg Int32.toInt t296
                      have := congrArg Int32.toInt t298
                      have := congrArg Int32.toInt t338
                      have := congrArg Int32.toInt t339
                      have := congrArg Int32.toInt t341
                      have := congrArg Int32.toInt t343
                      have := congrArg Int32.toInt t345
                      have := congrArg Int32.toInt t361
                      have := congrArg Int32.toInt t363
                      have := congrArg Int32.toInt t364
                      have := congrArg Int32.toInt t365
                      have := congrArg Int32.toInt t366
                      have := congrArg Int32.toInt t371
                      have := congrArg Int32.toInt t372
                      have := congrArg Int32.toInt t374
                      have := congrArg Int32.toInt t376
                      have := congrArg Int32.toInt t378
                      have := congrArg Int32.toInt t390
                      have := congrArg Int32.toInt t393
                      have := congrArg Int32.toInt t399
                      have := congrArg Int32.toInt t401
                      have := congrArg Int32.toInt t403
                      have := congrArg Int32.toInt t404
                      have := congrArg Int32.toInt t405
                      have := congrArg Int32.toInt t409
                      have := congrArg Int32.toInt t410
                      have := congrArg Int32.toInt t411
                      have := congrArg Int32.toInt t413
                      have := congrArg Int32.toInt t415
                      have := (r_x350).1; have := (r_x350).2
                      have := (r_x207).1; have := (r_x207).2
                      have := (r_x209).1; have := (r_x209).2
                      have := (r_x211).1; have := (r_x211).2
                      have := (r_x213).1; have := (r_x213).2
                      have := (r_x215).1; have := (r_x215).2
                      have := (r_x289).1; have := (r_x289).2
                      have := (r_x291).1; have := (r_x291).2
                      have := (r_x293).1; have := (r_x293).2
                      have := (r_x295).1; have := (r_x295).2
                      have := (r_x297).1; have := (r_x297).2
                      have := (r_x337).1; have := (r_x337).2
                      have := (r_x340).1; have := (r_x340).2
                      have := (r_x342).1; have := (r_x342).2
                      have := (r_x344).1; have := (r_x344).2
                      have := (r_x360).1; have := (r_x360).2
                      have := (r_x362).1; have := (r_x362).2
                      have := (r_x370).1; have := (r_x370).2
                      have := (r_x373).1; have := (r_x373).2
                      have := (r_x375).1; have := (r_x375).2
                      have := (r_x377).1; have := (r_x377).2
                      have := (r_x389).1; have := (r_x389).2
                      have := (r_x394).1; have := (r_x394).2
                      have := (r_x412).1; have := (r_x412).2
                      have := (r_x414).1; have := (r_x414).2
                      have := (rc_1).1; have := (rc_1).2
                      have := kc_0
                      have := kc_1
                      have := kc_33
                      have := kc_40
                      exact mh_pk_tr (mh_pk_tr (mh_pk_tr (mh_pk_row iv.2.2.1) (mh_pk_tr (mh_pk_row (rfl)) e1_s335)) (mh_pk_tr (mh_pk_row ((mh_F_row hG_s358 74 rfl))) e1_s368)) (mh_pk_tr (mh_pk_em hm_s387 ⟨by omega, by omega⟩) (mh_pk_tr (mh_pk_row ((by rw [t397]; exact mh_row_n (by decide) : s396.1 74 = s387.1 74))) e2_s407))
                    · skip
                      exact e1_s407
                    · skip
                      intro hg9
                      have := congrArg Int32.toInt t208
                      have := congrArg Int32.toInt t210
                      have := congrArg Int32.toInt t212
                      have := congrArg Int32.toInt t214
                      have := congrArg Int32.toInt t216
                      have := congrArg Int32.toInt t290
                      have := congrArg Int32.toInt t292
                      have := congrArg Int32.toInt t294
                      have := congrArg Int32.toInt t296
                      have := congrArg Int32.toInt t298
                      have := congrArg Int32.toInt t338
                      have := congrArg Int32.toInt t339
                      have := congrArg Int32.toInt t341
                      have := congrArg Int32.toInt t343
                      have := congrArg Int32.toInt t345
                      have := congrArg Int32.toInt t361
                      have := congrArg Int32.toInt t363
                      have := congrArg Int32.toInt t364
                      have := congrArg Int32.toInt t365
                      have := congrArg Int32.toInt t366
                      have := congrArg Int32.toInt t371
                      have := congrArg Int32.toInt t372
                      have := congrArg Int32.toInt t374
                      have := congrArg Int32.toInt t376
                      have := congrArg Int32.toInt t378
                      have := congrArg Int32.toInt t390
                      have := congrArg Int32.toInt t393
                      have := congrArg Int32.toInt t399
                      have := congrArg Int32.toInt t401
                      have := congrArg Int32.toInt t403
                      have := congrArg Int32.toInt t404
                      have := congrArg Int32.toInt t405
                      have := congrArg Int32.toInt t409
                      have := congrArg Int32.toInt t410
                      have := congrArg Int32.toInt t411
                      have := congrArg Int32.toInt t413
                      have := congrArg Int32.toInt t415
                      have := (r_x350).1; have := (r_x350).2
                      have := (r_x207).1; have := (r_x207).2
                      have := (r_x209).1; have := (r_x209).2
                      have := (r_x211).1; have := (r_x211).2
                      have := (r_x213).1; have := (r_x213).2
                      have := (r_x215).1; have := (r_x215).2
                      have := (r_x289).1; have := (r_x289).2
                      have := (r_x291).1; have := (r_x291).2
                      have := (r_x293).1; have := (r_x293).2
                      have := (r_x295).1; have := (r_x295).2
                      have := (r_x297).1; have := (r_x297).2
                      have := (r_x337).1; have := (r_x337).2
                      have := (r_x340).1; have := (r_x340).2
                      have := (r_x342).1; have := (r_x342).2
                      have := (r_x344).1; have := (r_x344).2
                      have := (r_x360).1; have := (r_x360).2
                      have := (r_x362).1; have := (r_x362).2
                      have := (r_x370).1; have := (r_x370).2
                      have := (r_x373).1; have := (r_x373).2
                      have := (r_x375).1; have := (r_x375).2
                      have := (r_x377).1; have := (r_x377).2
                      have := (r_x389).1; have := (r_x389).2
                      have := (r_x394).1; have := (r_x394).2
                      have := (r_x412).1; have := (r_x412).2
                      have := (r_x414).1; have := (r_x414).2
                      have := (rc_1).1; have := (rc_1).2
                      have := kc_0
                      have := kc_1
                      have := kc_33
                      have := kc_40
                      have hb1 := hvb_s335 (by omega)
                      have hb2 := hvb_s368 (by omega)
                      have hc9 := iv.2.2.2.1
                      rw [← t298] at hc9
                      have hs : ∀ j, j < x297.toInt.toNat → s407.1 76 j = s247.1 76 j := fun j hj => by
                        rw [show s407.1 76 = s368.1 76 from (((mh_F_row hG_s407 76 rfl)).trans (by rw [t397]; exact mh_row_n (by decide) : s396.1 76 = s387.1 76)).trans (mh_F_row hG_s387 76 rfl), hb2.2 j (by omega), e0_s358.1, mh_u1_lt (by omega), hb1.2 j (by omega)]
                      have h6 : s396.1 76 = s407.1 76 := ((mh_F_row hG_s407 76 rfl)).symm
                      have hn7 : (s407.1 57 29).toInt.toNat = x414.toInt.toNat := by rw [← t415]
                      have hp9 := e4_s407
                      rw [← t405, ← t415, h6] at hp9
                      have hge : 1 ≤ x414.toInt.toNat := mh_cq_pop hc9 (fun j h1 h2 => by have := hp9 j h1 (by omega); rw [hs j h2] at this; omega)
                      rw [hn7]
                      exact ⟨mh_cq_sub hc9 hge (by omega) (fun j hj => hs j (by omega)), by have := iv.2.2.2.2; omega⟩
                    · skip
                      have := congrArg Int32.toInt t208
                      have := congrArg Int32.toInt t210
                      have := congrArg Int32.toInt t212
                      have := congrArg Int32.toInt t214
                      have := congrArg Int32.toInt t216
                      have := congrArg Int32.toInt t290
                      have := congrArg Int32.toInt t292
                      have := congrArg Int32.toInt t294
                      have := congrArg Int32.toInt t296
                      have := congrArg Int32.toInt t298
                      have := congrArg Int32.toInt t338
                      have := congrArg Int32.toInt t339
                      have := congrArg Int32.toInt t341
                      have := congrArg Int32.toInt t343
                      have := congrArg Int32.toInt t345
                      have := congrArg Int32.toInt t361
                      have := congrArg Int32.toInt t363
                      have := congrArg Int32.toInt t364
                      have := congrArg Int32.toInt t365
                      have := congrArg Int32.toInt t366
                      have := congrArg Int32.toInt t371
                      have := congrArg Int32.toInt t372
                      have := congrArg Int32.toInt t374
                      have := congrArg Int32.toInt t376
                      have := congrArg Int32.toInt t378
                      have := congrArg Int32.toInt t390
                      have := congrArg Int32.toInt t393
                      have := congrArg Int32.toInt t399
                      have := congrArg Int32.toInt t401
                      have := congrArg Int32.toInt t403
                      have := congrArg Int32.toInt t404
                      have := congrArg Int32.toInt t405
                      have := congrArg Int32.toInt t409
                      have := congrArg Int32.toInt t410
                      have := congrArg Int32.toInt t411
                      have := congrArg Int32.toInt t413
                      have := congrArg Int32.toInt t415
                      have := (r_x350).1; have := (r_x350).2
                      have := (r_x207).1; have := (r_x207).2
                      have := (r_x209).1; have := (r_x209).2
                      have := (r_x211).1; have := (r_x211).2
                      have := (r_x213).1; have := (r_x213).2
                      have := (r_x215).1; have := (r_x215).2
                      have := (r_x289).1; have := (r_x289).2
                      have := (r_x291).1; have := (r_x291).2
                      have := (r_x293).1; have := (r_x293).2
                      have := (r_x295).1; have := (r_x295).2
                      have := (r_x297).1; have := (r_x297).2
                      have := (r_x337).1; have := (r_x337).2
                      have := (r_x340).1; have := (r_x340).2
                      have := (r_x342).1; have := (r_x342).2
                      have := (r_x344).1; have := (r_x344).2
                      have := (r_x360).1; have := (r_x360).2
                      have := (r_x362).1; have := (r_x362).2
                      have := (r_x370).1; have := (r_x370).2
                      have := (r_x373).1; have := (r_x373).2
                      have := (r_x375).1; have := (r_x375).2
                      have := (r_x377).1; have := (r_x377).2
                      have := (r_x389).1; have := (r_x389).2
                      have := (r_x394).1; have := (r_x394).2
                      have := (r_x412).1; have := (r_x412).2
                      have := (r_x414).1; have := (r_x414).2
                      have := (rc_1).1; have := (rc_1).2
                      have := kc_0
                      have := kc_1
                      have := kc_33
                      have := kc_40
                      have := iv.2.2.2.2
                      omega
                  · skip
                    have r_x373 : mh_r x373 (-2147483648) (-1) := ⟨(r_x373).1, by have := (r_x373).2; have : x373.toInt ≠ 0 := (fun q => by have := e0_s380.2 q; have := c382; omega); omega⟩
                    have r_x379 : mh_r x379 (0) (0) := mh_eq1 (show x379.toInt = (0 : Int32).toInt from c382) r_x379 rc_0 (0) (0) (by decide)
                    refine mw_vret dX10_pieceOfC_89 rfl ⟨rfl, ⟨?_, ?_, ?_, ?_, ?_, hI_s368, hF_s368⟩⟩
                    · skip
                      exact (show mh_pb b s368 by unfold mh_pb; rw [← t371, ← t372, ← t374, ← t376, ← t378]; have := kc_0; have := kc_1; have := (r_x350).1; have := (r_x350).2; have := (r_x207).1; have := (r_x207).2; have := (r_x209).1; have := (r_x209).2; have := (r_x211).1; have := (r_x211).2; have := (r_x213).1; have := (r_x213).2; have := (r_x215).1; have := (r_x215).2; have := (r_x289).1; have := (r_x289).2; have := (r_x291).1; have := (r_x291).2; have := (r_x293).1; have := (r_x293).2; have := (r_x295).1; have := (r_x295).2; have := (r_x297).1; have := (r_x297).2; have := (r_x337).1; have := (r_x337).2; have := (r_x340).1; have := (r_x340).2; have := (r_x342).1; have := (r_x342).2; have := (r_x344).1; have := (r_x344).2; have := (r_x360).1; have := (r_x360).2; have := (r_x362).1; have := (r_x362).2; have := (r_x370).1; have := (r_x370).2; have := (r_x373).1; have := (r_x373).2; have := (r_x375).1; have := (r_x375).2; have := (r_x377).1; have := (r_x377).2; have := kc_0; have := kc_1; have := kc_33; have := kc_40; omega)
                    · skip
                      exact mh_pk_tr (mh_pk_tr (mh_pk_tr (mh_pk_row iv.2.2.1) (mh_pk_tr (mh_pk_row (rfl)) e1_s335)) (mh_pk_tr (mh_pk_row ((mh_F_row hG_s358 74 rfl))) e1_s368)) (mh_pk_row (rfl))
                    · skip
                      intro hg9
                      exfalso
                      have := congrArg Int32.toInt t208
                      have := congrArg Int32.toInt t210
                      have := congrArg Int32.toInt t212
                      have := congrArg Int32.toInt t214
                      have := congrArg Int32.toInt t216
                      have := congrArg Int32.toInt t290
                      have := congrArg Int32.toInt t292
                      have := congrArg Int32.toInt t294
                      have := congrArg Int32.toInt t296
                      have := congrArg Int32.toInt t298
                      have := congrArg Int32.toInt t338
                      have := congrArg Int32.toInt t339
                      have := congrArg Int32.toInt t341
                      have := congrArg Int32.toInt t343
                      have := congrArg Int32.toInt t345
                      have := congrArg Int32.toInt t361
                      have := congrArg Int32.toInt t363
                      have := congrArg Int32.toInt t364
                      have := congrArg Int32.toInt t365
                      have := congrArg Int32.toInt t366
                      have := congrArg Int32.toInt t371
                      have := congrArg Int32.toInt t372
                      have := congrArg Int32.toInt t374
                      have := congrArg Int32.toInt t376
                      have := congrArg Int32.toInt t378
                      have := (r_x350).1; have := (r_x350).2
                      have := (r_x207).1; have := (r_x207).2
                      have := (r_x209).1; have := (r_x209).2
                      have := (r_x211).1; have := (r_x211).2
                      have := (r_x213).1; have := (r_x213).2
                      have := (r_x215).1; have := (r_x215).2
                      have := (r_x289).1; have := (r_x289).2
                      have := (r_x291).1; have := (r_x291).2
                      have := (r_x293).1; have := (r_x293).2
                      have := (r_x295).1; have := (r_x295).2
                      have := (r_x297).1; have := (r_x297).2
                      have := (r_x337).1; have := (r_x337).2
                      have := (r_x340).1; have := (r_x340).2
                      have := (r_x342).1; have := (r_x342).2
                      have := (r_x344).1; have := (r_x344).2
                      have := (r_x360).1; have := (r_x360).2
                      have := (r_x362).1; have := (r_x362).2
                      have := (r_x370).1; have := (r_x370).2
                      have := (r_x373).1; have := (r_x373).2
                      have := (r_x375).1; have := (r_x375).2
                      have := (r_x377).1; have := (r_x377).2
                      have := kc_0
                      have := kc_1
                      have := kc_33
                      have := kc_40
                      omega
                    · skip
                      intro hg9
                      exfalso
                      have := congrArg Int32.toInt t208
                      have := congrArg Int32.toInt t210
                      have := congrArg Int32.toInt t212
                      have := congrArg Int32.toInt t214
                      have := congrArg Int32.toInt t216
                      have := congrArg Int32.toInt t290
                      have := congrArg Int32.toInt t292
                      have := congrArg Int32.toInt t294
                      have := congrArg Int32.toInt t296
                      have := congrArg Int32.toInt t298
                      have := congrArg Int32.toInt t338
                      have := congrArg Int32.toInt t339
                      have := congrArg Int32.toInt t341
                      have := congrArg Int32.toInt t343
                      have := congrArg Int32.toInt t345
                      have := congrArg Int32.toInt t361
                      have := congrArg Int32.toInt t363
                      have := congrArg Int32.toInt t364
                      have := congrArg Int32.toInt t365
                      have := congrArg Int32.toInt t366
                      have := congrArg Int32.toInt t371
                      have := congrArg Int32.toInt t372
                      have := congrArg Int32.toInt t374
                      have := congrArg Int32.toInt t376
                      have := congrArg Int32.toInt t378
                      have := (r_x350).1; have := (r_x350).2
                      have := (r_x207).1; have := (r_x207).2
                      have := (r_x209).1; have := (r_x209).2
                      have := (r_x211).1; have := (r_x211).2
                      have := (r_x213).1; have := (r_x213).2
                      have := (r_x215).1; have := (r_x215).2
                      have := (r_x289).1; have := (r_x289).2
                      have := (r_x291).1; have := (r_x291).2
                      have := (r_x293).1; have := (r_x293).2
                      have := (r_x295).1; have := (r_x295).2
                      have := (r_x297).1; have := (r_x297).2
                      have := (r_x337).1; have := (r_x337).2
                      have := (r_x340).1; have := (r_x340).2
                      have := (r_x342).1; have := (r_x342).2
                      have := (r_x344).1; have := (r_x344).2
                      have := (r_x360).1; have := (r_x360).2
                      have := (r_x362).1; have := (r_x362).2
                      have := (r_x370).1; have := (r_x370).2
                      have := (r_x373).1; have := (r_x373).2
                      have := (r_x375).1; have := (r_x375).2
                      have := (r_x377).1; have := (r_x377).2
                      have := kc_0
                      have := kc_1
                      have := kc_33
                      have := kc_40
                      omega
                    · skip
                      have := congrArg Int32.toInt t208
                      have := congrArg Int32.toInt t210
                      have := congrArg Int32.toInt t212
                      have := congrArg Int32.toInt t214
                      have := congrArg Int32.toInt t216
                      have := congrArg Int32.toInt t290
                      have := congrArg Int32.toInt t292
                      have := congrArg Int32.toInt t294
                      have := congrArg Int32.toInt t296
                      have := congrArg Int32.toInt t298
                      have := congrArg Int32.toInt t338
                      have := congrArg Int32.toInt t339
                      have := congrArg Int32.toInt t341
                      have := congrArg Int32.toInt t343
                      have := congrArg Int32.toInt t345
                      have := congrArg Int32.toInt t361
                      have := congrArg Int32.toInt t363
                      have := congrArg Int32.toInt t364
                      have := congrArg Int32.toInt t365
                      have := congrArg Int32.toInt t366
                      have := congrArg Int32.toInt t371
                      have := congrArg Int32.toInt t372
                      have := congrArg Int32.toInt t374
                      have := congrArg Int32.toInt t376
                      have := congrArg Int32.toInt t378
                      have := (r_x350).1; have := (r_x350).2
                      have := (r_x207).1; have := (r_x207).2
                      have := (r_x209).1; have := (r_x209).2
                      have := (r_x211).1; have := (r_x211).2
                      have := (r_x213).1; have := (r_x213).2
                      have := (r_x215).1; have := (r_x215).2
                      have := (r_x289).1; have := (r_x289).2
                      have := (r_x291).1; have := (r_x291).2
                      have := (r_x293).1; have := (r_x293).2
                      have := (r_x295).1; have := (r_x295).2
                      have := (r_x297).1; have := (r_x297).2
                      have := (r_x337).1; have := (r_x337).2
                      have := (r_x340).1; have := (r_x340).2
                      have := (r_x342).1; have := (r_x342).2
                      have := (r_x344).1; have := (r_x344).2
                      have := (r_x360).1; have := (r_x360).2
                      have := (r_x362).1; have := (r_x362).2
                      have := (r_x370).1; have := (r_x370).2
                      have := (r_x373).1; have := (r_x373).2
                      have := (r_x375).1; have := (r_x375).2
                      have := (r_x377).1; have := (r_x377).2
                      have := kc_0
                      have := kc_1
                      have := kc_33
                      have := kc_40
                      have := iv.2.2.2.2
                      omega
                · skip
                  have hk_x353 := fun q => (by have := e0_s354.2 q; have := c356; omega : False)
                  have r_x353 : mh_r x353 (0) (0) := mh_eq1 (show x353.toInt = (0 : Int32).toInt from c356) r_x353 rc_0 (0) (0) (by decide)
                  refine mw_aload_n 64 rfl 1 dX10_pieceOfC_63 rfl rfl ?_
                  refine mw_iconst (v := 1) 65 rfl dX10_pieceOfC_64 (by decide) ?_
                  refine mw_aload_n 66 rfl 1 dX10_pieceOfC_65 rfl rfl ?_
                  refine mw_geti 69 rfl dX10_pieceOfC_66 gf_X10_188 rfl (fun x416 t417 => ?_)
                  obtain rfl : x337 = x416 := t338.trans t417.symm
                  refine mw_callVv [.int (1), .int x337] [] 72 rfl dX10_pieceOfC_69 ml_X10_210 mc_X10_wrongs mk_X10_wrongs rfl rfl (by decide) (w_X10_wrongs l G (d + 4) ⟨by omega, by omega⟩ hI_s335 (1) (mh_r_wk rc_1 (by decide)) x337 r_x337 (by rw [← t341]; have := (r_x350).1; have := (r_x350).2; have := (r_x207).1; have := (r_x207).2; have := (r_x209).1; have := (r_x209).2; have := (r_x211).1; have := (r_x211).2; have := (r_x213).1; have := (r_x213).2; have := (r_x215).1; have := (r_x215).2; have := (r_x289).1; have := (r_x289).2; have := (r_x291).1; have := (r_x291).2; have := (r_x293).1; have := (r_x293).2; have := (r_x295).1; have := (r_x295).2; have := (r_x297).1; have := (r_x297).2; have := (r_x337).1; have := (r_x337).2; have := (r_x340).1; have := (r_x340).2; have := (r_x342).1; have := (r_x342).2; have := (r_x344).1; have := (r_x344).2; have := kc_0; have := kc_1; have := kc_33; have := kc_40; omega)) rfl rfl (Nat.le_of_ble_eq_true rfl) (mh_rok (by omega) (by decide)) (fun s419 q420 => ?_)
                  obtain ⟨e0_s419, hI_s419, hG_s419⟩ := q420
                  have hF_s419 : mh_F S_X10_pieceOfC s0 s419 := mh_F_tl hF_s335 hG_s419 (by decide +kernel)
                  obtain ⟨x421, t422⟩ : ∃ z : Int32, z = s419.1 57 25 := ⟨_, rfl⟩
                  have hw_s419 : x421.toInt < 0 := by rw [t422]; exact e0_s419
                  have r_x421 : mh_r x421 (-2147483648) (-1) := ⟨((mh_r_full x421)).1, by have := hw_s419; omega⟩
                  refine mw_vret dX10_pieceOfC_72 rfl ⟨rfl, ⟨?_, ?_, ?_, ?_, ?_, hI_s419, hF_s419⟩⟩
                  · skip
                    have t423 : x337 = s419.1 57 23 := (t338).trans (hG_s419 57 23 (mh_nsI (by rfl))).1.symm
                    have t424 : x291 = s419.1 57 24 := (t339).trans (hG_s419 57 24 (mh_nsI (by rfl))).1.symm
                    have t425 : x342 = s419.1 57 27 := (t343).trans (hG_s419 57 27 (mh_nsI (by rfl))).1.symm
                    have t426 : x344 = s419.1 57 29 := (t345).trans (hG_s419 57 29 (mh_nsI (by rfl))).1.symm
                    exact (show mh_pb b s419 by unfold mh_pb; rw [← t423, ← t424, ← t422, ← t425, ← t426]; have := kc_0; have := kc_1; have := (r_x350).1; have := (r_x350).2; have := (r_x207).1; have := (r_x207).2; have := (r_x209).1; have := (r_x209).2; have := (r_x211).1; have := (r_x211).2; have := (r_x213).1; have := (r_x213).2; have := (r_x215).1; have := (r_x215).2; have := (r_x289).1; have := (r_x289).2; have := (r_x291).1; have := (r_x291).2; have := (r_x293).1; have := (r_x293).2; have := (r_x295).1; have := (r_x295).2; have := (r_x297).1; have := (r_x297).2; have := (r_x337).1; have := (r_x337).2; have := (r_x340).1; have := (r_x340).2; have := (r_x342).1; have := (r_x342).2; have := (r_x344).1; have := (r_x344).2; have := (r_x421).1; have := (r_x421).2; have := kc_0; have := kc_1; have := kc_33; have := kc_40; omega)
                  · skip
                    have t427 : x337 = s419.1 57 23 := (t338).trans (hG_s419 57 23 (mh_nsI (by rfl))).1.symm
                    have t428 : x291 = s419.1 57 24 := (t339).trans (hG_s419 57 24 (mh_nsI (by rfl))).1.symm
                    have t429 : x342 = s419.1 57 27 := (t343).trans (hG_s419 57 27 (mh_nsI (by rfl))).1.symm
                    have t430 : x344 = s419.1 57 29 := (t345).trans (hG_s419 57 29 (mh_nsI (by rfl))).1.symm
                    exact mh_pk_tr (mh_pk_tr (mh_pk_row iv.2.2.1) (mh_pk_tr (mh_pk_row (rfl)) e1_s335)) (mh_pk_row ((mh_F_row hG_s419 74 rfl)))
                  · skip
                    have t431 : x337 = s419.1 57 23 := (t338).trans (hG_s419 57 23 (mh_nsI (by rfl))).1.symm
                    have t432 : x291 = s419.1 57 24 := (t339).trans (hG_s419 57 24 (mh_nsI (by rfl))).1.symm
                    have t433 : x342 = s419.1 57 27 := (t343).trans (hG_s419 57 27 (mh_nsI (by rfl))).1.symm
                    have t434 : x344 = s419.1 57 29 := (t345).trans (hG_s419 57 29 (mh_nsI (by rfl))).1.symm
                    intro hg9
                    exfalso
                    have := congrArg Int32.toInt t208
                    have := congrArg Int32.toInt t210
                    have := congrArg Int32.toInt t212
                    have := congrArg Int32.toInt t214
                    have := congrArg Int32.toInt t216
                    have := congrArg Int32.toInt t290
                    have := congrArg Int32.toInt t292
                    have := congrArg Int32.toInt t294
                    have := congrArg Int32.toInt t296
                    have := congrArg Int32.toInt t298
                    have := congrArg Int32.toInt t338
                    have := congrArg Int32.toInt t339
                    have := congrArg Int32.toInt t341
                    have := congrArg Int32.toInt t343
                    have := congrArg Int32.toInt t345
                    have := congrArg Int32.toInt t422
                    have := congrArg Int32.toInt t431
                    have := congrArg Int32.toInt t432
                    have := congrArg Int32.toInt t433
                    have := congrArg Int32.toInt t434
                    have := (r_x350).1; have := (r_x350).2
                    have := (r_x207).1; have := (r_x207).2
                    have := (r_x209).1; have := (r_x209).2
                    have := (r_x211).1; have := (r_x211).2
                    have := (r_x213).1; have := (r_x213).2
                    have := (r_x215).1; have := (r_x215).2
                    have := (r_x289).1; have := (r_x289).2
                    have := (r_x291).1; have := (r_x291).2
                    have := (r_x293).1; have := (r_x293).2
                    have := (r_x295).1; have := (r_x295).2
                    have := (r_x297).1; have := (r_x297).2
                    have := (r_x337).1; have := (r_x337).2
                    have := (r_x340).1; have := (r_x340).2
                    have := (r_x342).1; have := (r_x342).2
                    have := (r_x344).1; have := (r_x344).2
                    have := (r_x421).1; have := (r_x421).2
                    have := kc_0
                    have := kc_1
                    have := kc_33
                    have := kc_40
                    omega
                  · skip
                    have t435 : x337 = s419.1 57 23 := (t338).trans (hG_s419 57 23 (mh_nsI (by rfl))).1.symm
                    have t436 : x291 = s419.1 57 24 := (t339).trans (hG_s419 57 24 (mh_nsI (by rfl))).1.symm
                    have t437 : x342 = s419.1 57 27 := (t343).trans (hG_s419 57 27 (mh_nsI (by rfl))).1.symm
                    have t438 : x344 = s419.1 57 29 := (t345).trans (hG_s419 57 29 (mh_nsI (by rfl))).1.symm
                    intro hg9
                    exfalso
                    have := congrArg Int32.toInt t208
                    have := congrArg Int32.toInt t210
                    have := congrArg Int32.toInt t212
                    have := congrArg Int32.toInt t214
                    have := congrArg Int32.toInt t216
                    have := congrArg Int32.toInt t290
                    have := congrArg Int32.toInt t292
                    have := congrArg Int32.toInt t294
                    have := congrArg Int32.toInt t296
                    have := congrArg Int32.toInt t298
                    have := congrArg Int32.toInt t338
                    have := congrArg Int32.toInt t339
                    have := congrArg Int32.toInt t341
                    have := congrArg Int32.toInt t343
                    have := congrArg Int32.toInt t345
                    have := congrArg Int32.toInt t422
                    have := congrArg Int32.toInt t435
                    have := congrArg Int32.toInt t436
                    have := congrArg Int32.toInt t437
                    have := congrArg Int32.toInt t438
                    have := (r_x350).1; have := (r_x350).2
                    have := (r_x207).1; have := (r_x207).2
                    have := (r_x209).1; have := (r_x209).2
                    have := (r_x211).1; have := (r_x211).2
                    have := (r_x213).1; have := (r_x213).2
                    have := (r_x215).1; have := (r_x215).2
                    have := (r_x289).1; have := (r_x289).2
                    have := (r_x291).1; have := (r_x291).2
                    have := (r_x293).1; have := (r_x293).2
                    have := (r_x295).1; have := (r_x295).2
                    have := (r_x297).1; have := (r_x297).2
                    have := (r_x337).1; have := (r_x337).2
                    have := (r_x340).1; have := (r_x340).2
                    have := (r_x342).1; have := (r_x342).2
                    have := (r_x344).1; have := (r_x344).2
                    have := (r_x421).1; have := (r_x421).2
                    have := kc_0
                    have := kc_1
                    have := kc_33
                    have := kc_40
                    omega
                  · skip
                    have t439 : x337 = s419.1 57 23 := (t338).trans (hG_s419 57 23 (mh_nsI (by rfl))).1.symm
                    have t440 : x291 = s419.1 57 24 := (t339).trans (hG_s419 57 24 (mh_nsI (by rfl))).1.symm
                    have t441 : x342 = s419.1 57 27 := (t343).trans (hG_s419 57 27 (mh_nsI (by rfl))).1.symm
                    have t442 : x344 = s419.1 57 29 := (t345).trans (hG_s419 57 29 (mh_nsI (by rfl))).1.symm
                    have := congrArg Int32.toInt t208
                    have := congrArg Int32.toInt t210
                    have := congrArg Int32.toInt t212
                    have := congrArg Int32.toInt t214
                    have := congrArg Int32.toInt t216
                    have := congrArg Int32.toInt t290
                    have := congrArg Int32.toInt t292
                    have := congrArg Int32.toInt t294
                    have := congrArg Int32.toInt t296
                    have := congrArg Int32.toInt t298
                    have := congrArg Int32.toInt t338
                    have := congrArg Int32.toInt t339
                    have := congrArg Int32.toInt t341
                    have := congrArg Int32.toInt t343
                    have := congrArg Int32.toInt t345
                    have := congrArg Int32.toInt t422
                    have := congrArg Int32.toInt t439
                    have := congrArg Int32.toInt t440
                    have := congrArg Int32.toInt t441
                    have := congrArg Int32.toInt t442
                    have := (r_x350).1; have := (r_x350).2
                    have := (r_x207).1; have := (r_x207).2
                    have := (r_x209).1; have := (r_x209).2
                    have := (r_x211).1; have := (r_x211).2
                    have := (r_x213).1; have := (r_x213).2
                    have := (r_x215).1; have := (r_x215).2
                    have := (r_x289).1; have := (r_x289).2
                    have := (r_x291).1; have := (r_x291).2
                    have := (r_x293).1; have := (r_x293).2
                    have := (r_x295).1; have := (r_x295).2
                    have := (r_x297).1; have := (r_x297).2
                    have := (r_x337).1; have := (r_x337).2
                    have := (r_x340).1; have := (r_x340).2
                    have := (r_x342).1; have := (r_x342).2
                    have := (r_x344).1; have := (r_x344).2
                    have := (r_x421).1; have := (r_x421).2
                    have := kc_0
                    have := kc_1
                    have := kc_33
                    have := kc_40
                    have := iv.2.2.2.2
                    omega
              · skip
                have r_x340 : mh_r x340 (-2147483648) (-1) := ⟨(r_x340).1, by have := (r_x340).2; have : x340.toInt ≠ 0 := (fun q => by have := e0_s347.2 q; have := c349; omega); omega⟩
                have r_x346 : mh_r x346 (0) (0) := mh_eq1 (show x346.toInt = (0 : Int32).toInt from c349) r_x346 rc_0 (0) (0) (by decide)
                refine mw_vret dX10_pieceOfC_50 rfl ⟨rfl, ⟨?_, ?_, ?_, ?_, ?_, hI_s335, hF_s335⟩⟩
                · skip
                  exact (show mh_pb b s335 by unfold mh_pb; rw [← t338, ← t339, ← t341, ← t343, ← t345]; have := kc_0; have := kc_1; have := (r_x207).1; have := (r_x207).2; have := (r_x209).1; have := (r_x209).2; have := (r_x211).1; have := (r_x211).2; have := (r_x213).1; have := (r_x213).2; have := (r_x215).1; have := (r_x215).2; have := (r_x289).1; have := (r_x289).2; have := (r_x291).1; have := (r_x291).2; have := (r_x293).1; have := (r_x293).2; have := (r_x295).1; have := (r_x295).2; have := (r_x297).1; have := (r_x297).2; have := (r_x337).1; have := (r_x337).2; have := (r_x340).1; have := (r_x340).2; have := (r_x342).1; have := (r_x342).2; have := (r_x344).1; have := (r_x344).2; have := kc_0; have := kc_1; have := kc_33; have := kc_40; omega)
                · skip
                  exact mh_pk_tr (mh_pk_tr (mh_pk_row iv.2.2.1) (mh_pk_tr (mh_pk_row (rfl)) e1_s335)) (mh_pk_row (rfl))
                · skip
                  intro hg9
                  exfalso
                  have := congrArg Int32.toInt t208
                  have := congrArg Int32.toInt t210
                  have := congrArg Int32.toInt t212
                  have := congrArg Int32.toInt t214
                  have := congrArg Int32.toInt t216
                  have := congrArg Int32.toInt t290
                  have := congrArg Int32.toInt t292
                  have := congrArg Int32.toInt t294
                  have := congrArg Int32.toInt t296
                  have := congrArg Int32.toInt t298
                  have := congrArg Int32.toInt t338
                  have := congrArg Int32.toInt t339
                  have := congrArg Int32.toInt t341
                  have := congrArg Int32.toInt t343
                  have := congrArg Int32.toInt t345
                  have := (r_x207).1; have := (r_x207).2
                  have := (r_x209).1; have := (r_x209).2
                  have := (r_x211).1; have := (r_x211).2
                  have := (r_x213).1; have := (r_x213).2
                  have := (r_x215).1; have := (r_x215).2
                  have := (r_x289).1; have := (r_x289).2
                  have := (r_x291).1; have := (r_x291).2
                  have := (r_x293).1; have := (r_x293).2
                  have := (r_x295).1; have := (r_x295).2
                  have := (r_x297).1; have := (r_x297).2
                  have := (r_x337).1; have := (r_x337).2
                  have := (r_x340).1; have := (r_x340).2
                  have := (r_x342).1; have := (r_x342).2
                  have := (r_x344).1; have := (r_x344).2
                  have := kc_0
                  have := kc_1
                  have := kc_33
                  have := kc_40
                  omega
                · skip
                  intro hg9
                  exfalso
                  have := congrArg Int32.toInt t208
                  have := congrArg Int32.toInt t210
                  have := congrArg Int32.toInt t212
                  have := congrArg Int32.toInt t214
                  have := congrArg Int32.toInt t216
                  have := congrArg Int32.toInt t290
                  have := congrArg Int32.toInt t292
                  have := congrArg Int32.toInt t294
                  have := congrArg Int32.toInt t296
                  have := congrArg Int32.toInt t298
                  have := congrArg Int32.toInt t338
                  have := congrArg Int32.toInt t339
                  have := congrArg Int32.toInt t341
                  have := congrArg Int32.toInt t343
                  have := congrArg Int32.toInt t345
                  have := (r_x207).1; have := (r_x207).2
                  have := (r_x209).1; have := (r_x209).2
                  have := (r_x211).1; have := (r_x211).2
                  have := (r_x213).1; have := (r_x213).2
                  have := (r_x215).1; have := (r_x215).2
                  have := (r_x289).1; have := (r_x289).2
                  have := (r_x291).1; have := (r_x291).2
                  have := (r_x293).1; have := (r_x293).2
                  have := (r_x295).1; have := (r_x295).2
                  have := (r_x297).1; have := (r_x297).2
                  have := (r_x337).1; have := (r_x337).2
                  have := (r_x340).1; have := (r_x340).2
                  have := (r_x342).1; have := (r_x342).2
                  have := (r_x344).1; have := (r_x344).2
                  have := kc_0
                  have := kc_1
                  have := kc_33
                  have := kc_40
                  omega
                · skip
                  have := congrArg Int32.toInt t208
                  have := congrArg Int32.toInt t210
                  have := congrArg Int32.toInt t212
                  have := congrArg Int32.toInt t214
                  have := congrArg Int32.toInt t216
                  have := congrArg Int32.toInt t290
                  have := congrArg Int32.toInt t292
                  have := congrArg Int32.toInt t294
                  have := congrArg Int32.toInt t296
                  have := congrArg Int32.toInt t298
                  have := congrArg Int32.toInt t338
                  have := congrArg Int32.toInt t339
                  have := congrArg Int32.toInt t341
                  have := congrArg Int32.toInt t343
                  have := congrArg Int32.toInt t345
                  have := (r_x207).1; have := (r_x207).2
                  have := (r_x209).1; have := (r_x209).2
                  have := (r_x211).1; have := (r_x211).2
                  have := (r_x213).1; have := (r_x213).2
                  have := (r_x215).1; have := (r_x215).2
                  have := (r_x289).1; have := (r_x289).2
                  have := (r_x291).1; have := (r_x291).2
                  have := (r_x293).1; have := (r_x293).2
                  have := (r_x295).1; have := (r_x295).2
                  have := (r_x297).1; have := (r_x297).2
                  have := (r_x337).1; have := (r_x337).2
                  have := (r_x340).1; have := (r_x340).2
                  have := (r_x342).1; have := (r_x342).2
                  have := (r_x344).1; have := (r_x344).2
                  have := kc_0
                  have := kc_1
                  have := kc_33
                  have := kc_40
                  have := iv.2.2.2.2
                  omega
          · skip
            have r_x311 : mh_r x311 (40) (40) := mh_eq1 c329 r_x311 rc_40 (40) (40) (by decide)
            refine mw_aload_n 26 rfl 0 dX10_pieceOfC_25 rfl rfl ?_
            refine mw_callVv [] [] 29 rfl dX10_pieceOfC_26 ml_X10_240 mc_X10_opens mk_X10_opens rfl rfl (by decide) (w_X10_opens l G (d + 3) ⟨by omega, by omega⟩ hI_s247 b (show mh_pb b s247 by unfold mh_pb; rw [← t290, ← t292, ← t294, ← t296, ← t298]; have := kc_0; have := kc_1; have := (r_x207).1; have := (r_x207).2; have := (r_x209).1; have := (r_x209).2; have := (r_x211).1; have := (r_x211).2; have := (r_x213).1; have := (r_x213).2; have := (r_x215).1; have := (r_x215).2; have := (r_x289).1; have := (r_x289).2; have := (r_x291).1; have := (r_x291).2; have := (r_x293).1; have := (r_x293).2; have := (r_x295).1; have := (r_x295).2; have := (r_x297).1; have := (r_x297).2; have := kc_0; have := kc_1; have := kc_33; have := kc_40; omega) (by have := congrArg Int32.toInt t208; have := congrArg Int32.toInt t210; have := congrArg Int32.toInt t212; have := congrArg Int32.toInt t214; have := congrArg Int32.toInt t216; have := congrArg Int32.toInt t290; have := congrArg Int32.toInt t292; have := congrArg Int32.toInt t294; have := congrArg Int32.toInt t296; have := congrArg Int32.toInt t298; have := (r_x207).1; have := (r_x207).2; have := (r_x209).1; have := (r_x209).2; have := (r_x211).1; have := (r_x211).2; have := (r_x213).1; have := (r_x213).2; have := (r_x215).1; have := (r_x215).2; have := (r_x289).1; have := (r_x289).2; have := (r_x291).1; have := (r_x291).2; have := (r_x293).1; have := (r_x293).2; have := (r_x295).1; have := (r_x295).2; have := (r_x297).1; have := (r_x297).2; have := kc_0; have := kc_1; have := kc_33; have := kc_40; omega)) rfl rfl (Nat.le_of_ble_eq_true rfl) (mh_rok (by omega) (by decide)) (fun s444 q445 => ?_)
            obtain ⟨e0_s444, e1_s444, e2_s444, hI_s444, hG_s444⟩ := q445
            have hF_s444 : mh_F S_X10_pieceOfC s0 s444 := mh_F_tl hF_s247 hG_s444 (by decide +kernel)
            obtain ⟨x446, t447⟩ : ∃ z : Int32, z = s444.1 57 23 := ⟨_, rfl⟩
            have t448 : x291 = s444.1 57 24 := (t292).trans (hG_s444 57 24 (mh_nsI (by rfl))).1.symm
            obtain ⟨x449, t450⟩ : ∃ z : Int32, z = s444.1 57 25 := ⟨_, rfl⟩
            have t451 : x295 = s444.1 57 27 := (t296).trans (hG_s444 57 27 (mh_nsI (by rfl))).1.symm
            obtain ⟨x452, t453⟩ : ∃ z : Int32, z = s444.1 57 29 := ⟨_, rfl⟩
            have pb_s444 : 0 ≤ x446.toInt ∧ x446.toInt ≤ x291.toInt ∧ x291.toInt ≤ 200 ∧ 0 ≤ x452.toInt ∧ 0 ≤ b ∧ b ≤ x295.toInt ∧ x452.toInt + x295.toInt ≤ x446.toInt ∧ x449.toInt ≤ 0 := by have h9 := e0_s444; unfold mh_pb at h9; rw [← t447, ← t448, ← t450, ← t451, ← t453] at h9; exact h9
            have r_x446 : mh_r x446 (0) (200) := ⟨by have := ((mh_r_full x446)).1; omega, by have := ((mh_r_full x446)).2; omega⟩
            have r_x449 : mh_r x449 (-2147483648) (0) := ⟨by have := ((mh_r_full x449)).1; omega, by have := ((mh_r_full x449)).2; omega⟩
            have r_x452 : mh_r x452 (0) (200) := ⟨by have := ((mh_r_full x452)).1; omega, by have := ((mh_r_full x452)).2; omega⟩
            have hop_s444 := e2_s444
            rw [← t453, ← t447, ← t450, ← t298, ← t290, ← t294] at hop_s444
            refine mw_goto 32 rfl 0 dX10_pieceOfC_29 (by decide) ?_
            exact mw_lv [0] rfl (ihn1 s444 hI_s444 hF_s444 (by
                have h76 := e1_s444
                rw [← t298, ← e0_s312] at h76
                have h74 : s444.1 74 = s247.1 74 := (mh_F_row hG_s444 74 rfl)
                refine ⟨e0_s444, ?_, h74.trans iv.2.2.1, ?_, ?_⟩
                · skip
                  intro hg
                  have := congrArg Int32.toInt t208
                  have := congrArg Int32.toInt t210
                  have := congrArg Int32.toInt t212
                  have := congrArg Int32.toInt t214
                  have := congrArg Int32.toInt t216
                  have := congrArg Int32.toInt t290
                  have := congrArg Int32.toInt t292
                  have := congrArg Int32.toInt t294
                  have := congrArg Int32.toInt t296
                  have := congrArg Int32.toInt t298
                  have := congrArg Int32.toInt t447
                  have := congrArg Int32.toInt t448
                  have := congrArg Int32.toInt t450
                  have := congrArg Int32.toInt t451
                  have := congrArg Int32.toInt t453
                  have := (r_x207).1; have := (r_x207).2
                  have := (r_x209).1; have := (r_x209).2
                  have := (r_x211).1; have := (r_x211).2
                  have := (r_x213).1; have := (r_x213).2
                  have := (r_x215).1; have := (r_x215).2
                  have := (r_x289).1; have := (r_x289).2
                  have := (r_x291).1; have := (r_x291).2
                  have := (r_x293).1; have := (r_x293).2
                  have := (r_x295).1; have := (r_x295).2
                  have := (r_x297).1; have := (r_x297).2
                  have := (r_x446).1; have := (r_x446).2
                  have := (r_x449).1; have := (r_x449).2
                  have := (r_x452).1; have := (r_x452).2
                  have := kc_0
                  have := kc_1
                  have := kc_33
                  have := kc_40
                  have hB := iv.2.1 (by rw [← t294]; omega)
                  have h76 := e1_s444
                  rw [← t298] at h76
                  have h74 : s444.1 74 = s247.1 74 := (mh_F_row hG_s444 74 rfl)
                  have hcod : (s444.1 57 27).toInt = x295.toInt := by rw [← t451]
                  have hst : (s444.1 57 29).toInt.toNat = x297.toInt.toNat + 1 := by rw [← t453]; omega
                  rw [← t296, ← t298] at hB
                  rw [h74, h76, hcod, hst]
                  exact mh_pdr_pn hB (by rw [← e0_s312]; show (_ ∨ _ ∨ _); omega)
                · skip
                  have := congrArg Int32.toInt t208
                  have := congrArg Int32.toInt t210
                  have := congrArg Int32.toInt t212
                  have := congrArg Int32.toInt t214
                  have := congrArg Int32.toInt t216
                  have := congrArg Int32.toInt t290
                  have := congrArg Int32.toInt t292
                  have := congrArg Int32.toInt t294
                  have := congrArg Int32.toInt t296
                  have := congrArg Int32.toInt t298
                  have := congrArg Int32.toInt t447
                  have := congrArg Int32.toInt t448
                  have := congrArg Int32.toInt t450
                  have := congrArg Int32.toInt t451
                  have := congrArg Int32.toInt t453
                  have := (r_x207).1; have := (r_x207).2
                  have := (r_x209).1; have := (r_x209).2
                  have := (r_x211).1; have := (r_x211).2
                  have := (r_x213).1; have := (r_x213).2
                  have := (r_x215).1; have := (r_x215).2
                  have := (r_x289).1; have := (r_x289).2
                  have := (r_x291).1; have := (r_x291).2
                  have := (r_x293).1; have := (r_x293).2
                  have := (r_x295).1; have := (r_x295).2
                  have := (r_x297).1; have := (r_x297).2
                  have := (r_x446).1; have := (r_x446).2
                  have := (r_x449).1; have := (r_x449).2
                  have := (r_x452).1; have := (r_x452).2
                  have := kc_0
                  have := kc_1
                  have := kc_33
                  have := kc_40
                  have hc9 := iv.2.2.2.1
                  rw [← t298] at hc9
                  have hst : (s444.1 57 29).toInt.toNat = x297.toInt.toNat + 1 := by rw [← t453]; omega
                  rw [hst, h76]
                  exact mh_cq_psh hc9 (by unfold mh_cs; omega)
                · skip
                  have := congrArg Int32.toInt t208
                  have := congrArg Int32.toInt t210
                  have := congrArg Int32.toInt t212
                  have := congrArg Int32.toInt t214
                  have := congrArg Int32.toInt t216
                  have := congrArg Int32.toInt t290
                  have := congrArg Int32.toInt t292
                  have := congrArg Int32.toInt t294
                  have := congrArg Int32.toInt t296
                  have := congrArg Int32.toInt t298
                  have := congrArg Int32.toInt t447
                  have := congrArg Int32.toInt t448
                  have := congrArg Int32.toInt t450
                  have := congrArg Int32.toInt t451
                  have := congrArg Int32.toInt t453
                  have := (r_x207).1; have := (r_x207).2
                  have := (r_x209).1; have := (r_x209).2
                  have := (r_x211).1; have := (r_x211).2
                  have := (r_x213).1; have := (r_x213).2
                  have := (r_x215).1; have := (r_x215).2
                  have := (r_x289).1; have := (r_x289).2
                  have := (r_x291).1; have := (r_x291).2
                  have := (r_x293).1; have := (r_x293).2
                  have := (r_x295).1; have := (r_x295).2
                  have := (r_x297).1; have := (r_x297).2
                  have := (r_x446).1; have := (r_x446).2
                  have := (r_x449).1; have := (r_x449).2
                  have := (r_x452).1; have := (r_x452).2
                  have := kc_0
                  have := kc_1
                  have := kc_33
                  have := kc_40
                  have := iv.2.2.2.2
                  omega) (by have := congrArg Int32.toInt t208; have := congrArg Int32.toInt t210; have := congrArg Int32.toInt t212; have := congrArg Int32.toInt t214; have := congrArg Int32.toInt t216; have := congrArg Int32.toInt t290; have := congrArg Int32.toInt t292; have := congrArg Int32.toInt t294; have := congrArg Int32.toInt t296; have := congrArg Int32.toInt t298; have := congrArg Int32.toInt t447; have := congrArg Int32.toInt t448; have := congrArg Int32.toInt t450; have := congrArg Int32.toInt t451; have := congrArg Int32.toInt t453; have := (r_x207).1; have := (r_x207).2; have := (r_x209).1; have := (r_x209).2; have := (r_x211).1; have := (r_x211).2; have := (r_x213).1; have := (r_x213).2; have := (r_x215).1; have := (r_x215).2; have := (r_x289).1; have := (r_x289).2; have := (r_x291).1; have := (r_x291).2; have := (r_x293).1; have := (r_x293).2; have := (r_x295).1; have := (r_x295).2; have := (r_x297).1; have := (r_x297).2; have := (r_x446).1; have := (r_x446).2; have := (r_x449).1; have := (r_x449).2; have := (r_x452).1; have := (r_x452).2; have := kc_0; have := kc_1; have := kc_33; have := kc_40; omega))
  exact mw_lv [0] rfl (L0 202 s0 hI0 hF0 (by
      exact ⟨hb, hd, rfl, hcq, Int.le_refl _⟩) (by have h9 := hb; unfold mh_pb at h9; omega))

def S_X10_goesBehind : List (Nat × Nat) := [(74, 9999), (75, 9999), (57, 27), (57, 29), (76, 9999), (57, 23), (57, 28), (57, 30), (57, 25)]
def P_X10_goesBehind (B D : Int) (s0 : mh_H) (b : Int) : Int32 → mh_H → Prop := fun z s => mh_r z (0) (1) ∧ (mh_pb b s) ∧ (mh_pk b s0 s) ∧ (z.toInt = 1 → mh_pd b 0 s ∧ mh_cq (s.1 76) (s.1 57 29).toInt.toNat ∧ s.1 57 30 = s0.1 57 30 ∧ (s.1 57 25).toInt = 0) ∧ (z.toInt = 0 → (s.1 57 25).toInt = 0 → mh_pd b 1 s ∧ (((s.1 57 30).toInt = 1 ∧ (s.1 57 29).toInt = 0) ∨ ((s.1 57 30).toInt = 0 ∧ mh_cq (s.1 76) (s.1 57 29).toInt.toNat))) ∧ ((s0.1 57 23).toInt ≤ (s.1 57 23).toInt ∧ ((s.1 57 25).toInt = 0 → (s0.1 57 23).toInt + 1 ≤ (s.1 57 23).toInt)) ∧ mh_I B D s ∧ mh_F S_X10_goesBehind s0 s
set_option maxRecDepth 100000 in
set_option maxHeartbeats 4000000 in
theorem w_X10_goesBehind (l : Launch) (G : mh_G) (d : Nat) {B D : Int} (hB : B ≤ 1940000000 ∧ D ≤ 1940000000) {s0 : mh_H} (hI0 : mh_I B D s0) (b : Int) (hb : mh_pb b s0) (hd : mh_pd b 1 s0) (hg : (s0.1 57 25).toInt = 0) (hcq : mh_cq (s0.1 76) (s0.1 57 29).toInt.toNat) : mh_Mi l G (d + 3) mM_X10_goesBehind [.ref (G.2.2.2 57)] s0 (P_X10_goesBehind B D s0 b) := by
  refine mh_enter (lv := [(0, .ref (G.2.2.2 57))]) (by decide) rfl (Nat.le_of_ble_eq_true rfl) ?_
  have hF0 : mh_F S_X10_goesBehind s0 s0 := mh_F_rf
  obtain ⟨x101, t102⟩ : ∃ z : Int32, z = s0.1 57 30 := ⟨_, rfl⟩
  obtain ⟨x103, t104⟩ : ∃ z : Int32, z = s0.1 57 23 := ⟨_, rfl⟩
  obtain ⟨x105, t106⟩ : ∃ z : Int32, z = s0.1 57 24 := ⟨_, rfl⟩
  obtain ⟨x107, t108⟩ : ∃ z : Int32, z = s0.1 57 25 := ⟨_, rfl⟩
  obtain ⟨x109, t110⟩ : ∃ z : Int32, z = s0.1 57 27 := ⟨_, rfl⟩
  obtain ⟨x111, t112⟩ : ∃ z : Int32, z = s0.1 57 29 := ⟨_, rfl⟩
  have pb_s0 : 0 ≤ x103.toInt ∧ x103.toInt ≤ x105.toInt ∧ x105.toInt ≤ 200 ∧ 0 ≤ x111.toInt ∧ 0 ≤ b ∧ b ≤ x109.toInt ∧ x111.toInt + x109.toInt ≤ x103.toInt ∧ x107.toInt ≤ 0 := by have h9 := hb; unfold mh_pb at h9; rw [← t104, ← t106, ← t108, ← t110, ← t112] at h9; exact h9
  have r_x103 : mh_r x103 (0) (200) := ⟨by have := ((mh_r_full x103)).1; omega, by have := ((mh_r_full x103)).2; omega⟩
  have r_x105 : mh_r x105 (0) (200) := ⟨by have := ((mh_r_full x105)).1; omega, by have := ((mh_r_full x105)).2; omega⟩
  have r_x107 : mh_r x107 (-2147483648) (0) := ⟨by have := ((mh_r_full x107)).1; omega, by have := ((mh_r_full x107)).2; omega⟩
  have r_x109 : mh_r x109 (0) (200) := ⟨by have := ((mh_r_full x109)).1; omega, by have := ((mh_r_full x109)).2; omega⟩
  have r_x111 : mh_r x111 (0) (200) := ⟨by have := ((mh_r_full x111)).1; omega, by have := ((mh_r_full x111)).2; omega⟩
  rw [← t108] at hg
  rw [← t112] at hcq
  have r_x107 : mh_r x107 (0) (0) := ⟨by omega, by omega⟩
  refine mw_aload_n 1 rfl 0 dX10_goesBehind_0 rfl rfl ?_
  refine mw_callVi [] [] 4 rfl dX10_goesBehind_1 ml_X10_214 mc_X10_here mk_X10_here rfl rfl (by decide) (w_X10_here l G (d + 2) ⟨by omega, by omega⟩ hI0 (by rw [← t104, ← t106]; have := (r_x103).1; have := (r_x103).2; have := (r_x105).1; have := (r_x105).2; have := (r_x107).1; have := (r_x107).2; have := (r_x109).1; have := (r_x109).2; have := (r_x111).1; have := (r_x111).2; have := kc_0; have := kc_1; have := kc_38; have := kc_41; have := kc_124; omega)) rfl rfl (Nat.le_of_ble_eq_true rfl) (mh_rok (by omega) (by decide)) (fun x113 s114 q115 => ?_)
  obtain ⟨r_x113, e0_s114, rfl⟩ := q115
  have hq_x113 : x113.toInt ≠ 0 → x103.toInt < x105.toInt := fun q => by rw [t104, t106]; exact mh_hr_lt (by rw [← e0_s114]; exact q)
  refine mw_istore_n 5 rfl [(1, .int x113), (0, .ref (G.2.2.2 57))] dX10_goesBehind_4 rfl (by decide) rfl ?_
  refine mw_iload_n 6 rfl 0 dX10_goesBehind_5 rfl rfl ?_
  refine mw_bipush (v := 38) 8 rfl dX10_goesBehind_6 (by decide) ?_
  refine mw_icmp_eq 11 rfl 17 dX10_goesBehind_8 (by decide) (fun c116 => ?_) (fun c116 => ?_)
  · skip
    have r_x113 : mh_r x113 (38) (38) := mh_eq1 c116 r_x113 rc_38 (38) (38) (by decide)
    refine mw_aload_n 18 rfl 1 dX10_goesBehind_17 rfl rfl ?_
    refine mw_iload_n 19 rfl 0 dX10_goesBehind_18 rfl rfl ?_
    refine mw_bipush (v := 124) 21 rfl dX10_goesBehind_19 (by decide) ?_
    refine mw_icmp_ne 24 rfl 28 dX10_goesBehind_21 (by decide) (fun c117 => ?_) (fun c117 => ?_)
    · skip
      refine mw_iconst (v := 0) 29 rfl dX10_goesBehind_28 (by decide) ?_
      refine mw_callVv [.int (0)] [] 32 rfl dX10_goesBehind_29 ml_X10_272 mc_X10_joins mk_X10_joins rfl rfl (by decide) (w_X10_joins l G (d + 0) ⟨by omega, by omega⟩ hI0 (0) (mh_r_wk rc_0 (by decide)) b (show mh_pb b s0 by unfold mh_pb; rw [← t104, ← t106, ← t108, ← t110, ← t112]; have := kc_0; have := kc_1; have := (r_x113).1; have := (r_x113).2; have := (r_x103).1; have := (r_x103).2; have := (r_x105).1; have := (r_x105).2; have := (r_x107).1; have := (r_x107).2; have := (r_x109).1; have := (r_x109).2; have := (r_x111).1; have := (r_x111).2; have := kc_0; have := kc_1; have := kc_38; have := kc_41; have := kc_124; omega) hd) rfl rfl (Nat.le_of_ble_eq_true rfl) (mh_rok (by omega) (by decide)) (fun s119 q120 => ?_)
      obtain ⟨e0_s119, e1_s119, e2_s119, e3_s119, e4_s119, e5_s119, hI_s119, hG_s119⟩ := q120
      have hF_s119 : mh_F S_X10_goesBehind s0 s119 := mh_F_tl hF0 hG_s119 (by decide +kernel)
      have t121 : x103 = s119.1 57 23 := (t104).trans (hG_s119 57 23 (mh_nsI (by rfl))).1.symm
      have t122 : x105 = s119.1 57 24 := (t106).trans (hG_s119 57 24 (mh_nsI (by rfl))).1.symm
      have t123 : x107 = s119.1 57 25 := (t108).trans (hG_s119 57 25 (mh_nsI (by rfl))).1.symm
      obtain ⟨x124, t125⟩ : ∃ z : Int32, z = s119.1 57 27 := ⟨_, rfl⟩
      obtain ⟨x126, t127⟩ : ∃ z : Int32, z = s119.1 57 29 := ⟨_, rfl⟩
      have pb_s119 : 0 ≤ x103.toInt ∧ x103.toInt ≤ x105.toInt ∧ x105.toInt ≤ 200 ∧ 0 ≤ x126.toInt ∧ 0 ≤ b ∧ b ≤ x124.toInt ∧ x126.toInt + x124.toInt ≤ x103.toInt ∧ x107.toInt ≤ 0 := by have h9 := e0_s119; unfold mh_pb at h9; rw [← t121, ← t122, ← t123, ← t125, ← t127] at h9; exact h9
      have r_x124 : mh_r x124 (0) (200) := ⟨by have := ((mh_r_full x124)).1; omega, by have := ((mh_r_full x124)).2; omega⟩
      have r_x126 : mh_r x126 (0) (200) := ⟨by have := ((mh_r_full x126)).1; omega, by have := ((mh_r_full x126)).2; omega⟩
      have hp_s119 := e3_s119
      rw [← t127, ← t112] at hp_s119
      have hj4 := e4_s119
      rw [← t127, ← t112] at hj4
      have hj1 : 1 ≤ x126.toInt.toNat := mh_cq_pop hcq (fun j h1 h2 => by have := hj4 j h1 h2; omega)
      have h76j : s119.1 76 = s0.1 76 := mh_F_row hG_s119 76 rfl
      have hcq1 : mh_cq (s119.1 76) x126.toInt.toNat := by rw [h76j]; exact mh_cq_sub hcq hj1 (by have := (r_x113).1; have := (r_x113).2; have := (r_x103).1; have := (r_x103).2; have := (r_x105).1; have := (r_x105).2; have := (r_x107).1; have := (r_x107).2; have := (r_x109).1; have := (r_x109).2; have := (r_x111).1; have := (r_x111).2; have := (r_x124).1; have := (r_x124).2; have := (r_x126).1; have := (r_x126).2; have := kc_0; have := kc_1; have := kc_38; have := kc_41; have := kc_124; omega) (fun j hj => rfl)
      refine mw_aload_n 33 rfl 1 dX10_goesBehind_32 rfl rfl ?_
      refine mw_iload_n 34 rfl 0 dX10_goesBehind_33 rfl rfl ?_
      refine mw_callVv [.int x113] [] 37 rfl dX10_goesBehind_34 ml_X10_218 mc_X10_puts mk_X10_puts rfl rfl (by decide) (w_X10_puts l G (d + 2) ⟨by omega, by omega⟩ hI_s119 x113 (by rw [← t127, ← t121]; have := (r_x113).1; have := (r_x113).2; have := (r_x103).1; have := (r_x103).2; have := (r_x105).1; have := (r_x105).2; have := (r_x107).1; have := (r_x107).2; have := (r_x109).1; have := (r_x109).2; have := (r_x111).1; have := (r_x111).2; have := (r_x124).1; have := (r_x124).2; have := (r_x126).1; have := (r_x126).2; have := kc_0; have := kc_1; have := kc_38; have := kc_41; have := kc_124; omega)) rfl rfl (Nat.le_of_ble_eq_true rfl) (mh_rok (by omega) (by decide)) (fun s129 q130 => ?_)
      obtain ⟨e0_s129, hI_s129, hG_s129⟩ := q130
      have hF_s129 : mh_F S_X10_goesBehind s0 s129 := mh_F_tl hF_s119 hG_s129 (by decide +kernel)
      obtain ⟨x131, t132⟩ : ∃ z : Int32, z = s129.1 57 29 := ⟨_, rfl⟩
      obtain ⟨x133, t134⟩ : ∃ z : Int32, z = s129.1 57 23 := ⟨_, rfl⟩
      rw [← t127, ← t132, ← t121, ← t134] at e0_s129
      have r_x131 : mh_r x131 (1) (201) := ⟨by have := e0_s129.2; have := (r_x126).1; omega, by have := e0_s129.2; have := (r_x126).2; omega⟩
      have r_x133 : mh_r x133 (1) (201) := ⟨by have := e0_s129.2; have := (r_x103).1; omega, by have := e0_s129.2; have := (r_x103).2; omega⟩
      refine mw_iconst (v := 1) 38 rfl dX10_goesBehind_37 (by decide) ?_
      refine mw_zret dX10_goesBehind_38 rfl (mh_r_wk rc_1 (by decide)) ⟨(1), rfl, ⟨(mh_r_wk rc_1 (by decide)), ?_, ?_, ?_, ?_, ?_, hI_s129, hF_s129⟩⟩
      · skip
        have t135 : x105 = s129.1 57 24 := (t122).trans (hG_s129 57 24 (mh_nsI (by rfl))).1.symm
        have t136 : x107 = s129.1 57 25 := (t123).trans (hG_s129 57 25 (mh_nsI (by rfl))).1.symm
        have t137 : x124 = s129.1 57 27 := (t125).trans (hG_s129 57 27 (mh_nsI (by rfl))).1.symm
        exact (show mh_pb b s129 by unfold mh_pb; rw [← t134, ← t135, ← t136, ← t137, ← t132]; have := kc_0; have := kc_1; have := (r_x113).1; have := (r_x113).2; have := (rc_1).1; have := (rc_1).2; have := (r_x103).1; have := (r_x103).2; have := (r_x105).1; have := (r_x105).2; have := (r_x107).1; have := (r_x107).2; have := (r_x109).1; have := (r_x109).2; have := (r_x111).1; have := (r_x111).2; have := (r_x124).1; have := (r_x124).2; have := (r_x126).1; have := (r_x126).2; have := (r_x131).1; have := (r_x131).2; have := (r_x133).1; have := (r_x133).2; have := kc_0; have := kc_1; have := kc_38; have := kc_41; have := kc_124; omega)
      · skip
        exact mh_pk_tr e2_s119 (mh_pk_row ((mh_F_row hG_s129 74 rfl)))
      · skip
        have t138 : x105 = s129.1 57 24 := (t122).trans (hG_s129 57 24 (mh_nsI (by rfl))).1.symm
        have t139 : x107 = s129.1 57 25 := (t123).trans (hG_s129 57 25 (mh_nsI (by rfl))).1.symm
        have t140 : x124 = s129.1 57 27 := (t125).trans (hG_s129 57 27 (mh_nsI (by rfl))).1.symm
        have t141 : x101 = s119.1 57 30 := (t102).trans (hG_s119 57 30 (mh_nsI (by rfl))).1.symm
        have t142 : x101 = s129.1 57 30 := (t141).trans (hG_s129 57 30 (mh_nsI (by rfl))).1.symm
        intro _
        have := congrArg Int32.toInt t104
        have := congrArg Int32.toInt t106
        have := congrArg Int32.toInt t108
        have := congrArg Int32.toInt t110
        have := congrArg Int32.toInt t112
        have := congrArg Int32.toInt t121
        have := congrArg Int32.toInt t122
        have := congrArg Int32.toInt t123
        have := congrArg Int32.toInt t125
        have := congrArg Int32.toInt t127
        have := congrArg Int32.toInt t132
        have := congrArg Int32.toInt t134
        have := congrArg Int32.toInt t138
        have := congrArg Int32.toInt t139
        have := congrArg Int32.toInt t140
        have := (r_x113).1; have := (r_x113).2
        have := (rc_1).1; have := (rc_1).2
        have := (r_x103).1; have := (r_x103).2
        have := (r_x105).1; have := (r_x105).2
        have := (r_x107).1; have := (r_x107).2
        have := (r_x109).1; have := (r_x109).2
        have := (r_x111).1; have := (r_x111).2
        have := (r_x124).1; have := (r_x124).2
        have := (r_x126).1; have := (r_x126).2
        have := (r_x131).1; have := (r_x131).2
        have := (r_x133).1; have := (r_x133).2
        have := kc_0
        have := kc_1
        have := kc_38
        have := kc_41
        have := kc_124
        have hst : (s129.1 57 29).toInt.toNat = x126.toInt.toNat + 1 := by rw [← t132]; omega
        refine ⟨?_, ?_, ?_, ?_⟩
        · intro hg9
          have hB := e1_s119 (by rw [← t123]; omega)
          rw [← t125, ← t127] at hB
          have h74 : s129.1 74 = s119.1 74 := (mh_F_row hG_s129 74 rfl)
          have hcod : (s129.1 57 27).toInt = x124.toInt := by rw [← t140]
          rw [h74, e0_s129.1, hcod, hst]
          exact mh_pdr_pb hB (by show ¬ (_ ∨ _ ∨ _); omega)
        · rw [hst, e0_s129.1]
          exact mh_cq_psh hcq1 (by unfold mh_cs; omega)
        · rw [← t142, ← t102]
        · omega
      · skip
        intro q
        exact absurd q (by decide)
      · skip
        have t143 : x105 = s129.1 57 24 := (t122).trans (hG_s129 57 24 (mh_nsI (by rfl))).1.symm
        have t144 : x107 = s129.1 57 25 := (t123).trans (hG_s129 57 25 (mh_nsI (by rfl))).1.symm
        have t145 : x124 = s129.1 57 27 := (t125).trans (hG_s129 57 27 (mh_nsI (by rfl))).1.symm
        have := congrArg Int32.toInt t104
        have := congrArg Int32.toInt t106
        have := congrArg Int32.toInt t108
        have := congrArg Int32.toInt t110
        have := congrArg Int32.toInt t112
        have := congrArg Int32.toInt t121
        have := congrArg Int32.toInt t122
        have := congrArg Int32.toInt t123
        have := congrArg Int32.toInt t125
        have := congrArg Int32.toInt t127
        have := congrArg Int32.toInt t132
        have := congrArg Int32.toInt t134
        have := congrArg Int32.toInt t143
        have := congrArg Int32.toInt t144
        have := congrArg Int32.toInt t145
        have := (r_x113).1; have := (r_x113).2
        have := (rc_1).1; have := (rc_1).2
        have := (r_x103).1; have := (r_x103).2
        have := (r_x105).1; have := (r_x105).2
        have := (r_x107).1; have := (r_x107).2
        have := (r_x109).1; have := (r_x109).2
        have := (r_x111).1; have := (r_x111).2
        have := (r_x124).1; have := (r_x124).2
        have := (r_x126).1; have := (r_x126).2
        have := (r_x131).1; have := (r_x131).2
        have := (r_x133).1; have := (r_x133).2
        have := kc_0
        have := kc_1
        have := kc_38
        have := kc_41
        have := kc_124
        omega
    · skip
      exact (mh_neq c117 r_x113 rc_124 (by decide)).elim
  · skip
    refine mw_iload_n 12 rfl 0 dX10_goesBehind_11 rfl rfl ?_
    refine mw_bipush (v := 124) 14 rfl dX10_goesBehind_12 (by decide) ?_
    refine mw_icmp_ne 17 rfl 39 dX10_goesBehind_14 (by decide) (fun c146 => ?_) (fun c146 => ?_)
    · skip
      refine mw_iload_n 40 rfl 0 dX10_goesBehind_39 rfl rfl ?_
      refine mw_bipush (v := 41) 42 rfl dX10_goesBehind_40 (by decide) ?_
      refine mw_icmp_eq 45 rfl 56 dX10_goesBehind_42 (by decide) (fun c147 => ?_) (fun c147 => ?_)
      · skip
        have r_x113 : mh_r x113 (41) (41) := mh_eq1 c147 r_x113 rc_41 (41) (41) (by decide)
        refine mw_aload_n 57 rfl 1 dX10_goesBehind_56 rfl rfl ?_
        refine mw_iconst (v := 1) 58 rfl dX10_goesBehind_57 (by decide) ?_
        refine mw_callVv [.int (1)] [] 61 rfl dX10_goesBehind_58 ml_X10_272 mc_X10_joins mk_X10_joins rfl rfl (by decide) (w_X10_joins l G (d + 0) ⟨by omega, by omega⟩ hI0 (1) (mh_r_wk rc_1 (by decide)) b (show mh_pb b s0 by unfold mh_pb; rw [← t104, ← t106, ← t108, ← t110, ← t112]; have := kc_0; have := kc_1; have := (r_x113).1; have := (r_x113).2; have := (r_x103).1; have := (r_x103).2; have := (r_x105).1; have := (r_x105).2; have := (r_x107).1; have := (r_x107).2; have := (r_x109).1; have := (r_x109).2; have := (r_x111).1; have := (r_x111).2; have := kc_0; have := kc_1; have := kc_38; have := kc_41; have := kc_124; omega) hd) rfl rfl (Nat.le_of_ble_eq_true rfl) (mh_rok (by omega) (by decide)) (fun s149 q150 => ?_)
        obtain ⟨e0_s149, e1_s149, e2_s149, e3_s149, e4_s149, e5_s149, hI_s149, hG_s149⟩ := q150
        have hF_s149 : mh_F S_X10_goesBehind s0 s149 := mh_F_tl hF0 hG_s149 (by decide +kernel)
        have t151 : x103 = s149.1 57 23 := (t104).trans (hG_s149 57 23 (mh_nsI (by rfl))).1.symm
        have t152 : x105 = s149.1 57 24 := (t106).trans (hG_s149 57 24 (mh_nsI (by rfl))).1.symm
        have t153 : x107 = s149.1 57 25 := (t108).trans (hG_s149 57 25 (mh_nsI (by rfl))).1.symm
        obtain ⟨x154, t155⟩ : ∃ z : Int32, z = s149.1 57 27 := ⟨_, rfl⟩
        obtain ⟨x156, t157⟩ : ∃ z : Int32, z = s149.1 57 29 := ⟨_, rfl⟩
        have pb_s149 : 0 ≤ x103.toInt ∧ x103.toInt ≤ x105.toInt ∧ x105.toInt ≤ 200 ∧ 0 ≤ x156.toInt ∧ 0 ≤ b ∧ b ≤ x154.toInt ∧ x156.toInt + x154.toInt ≤ x103.toInt ∧ x107.toInt ≤ 0 := by have h9 := e0_s149; unfold mh_pb at h9; rw [← t151, ← t152, ← t153, ← t155, ← t157] at h9; exact h9
        have r_x154 : mh_r x154 (0) (200) := ⟨by have := ((mh_r_full x154)).1; omega, by have := ((mh_r_full x154)).2; omega⟩
        have r_x156 : mh_r x156 (0) (200) := ⟨by have := ((mh_r_full x156)).1; omega, by have := ((mh_r_full x156)).2; omega⟩
        have hp_s149 := e3_s149
        rw [← t157, ← t112] at hp_s149
        have hj4 := e4_s149
        rw [← t157, ← t112] at hj4
        have hj1 : 1 ≤ x156.toInt.toNat := mh_cq_pop hcq (fun j h1 h2 => by have := hj4 j h1 h2; omega)
        have h76j : s149.1 76 = s0.1 76 := mh_F_row hG_s149 76 rfl
        have hcq1 : mh_cq (s149.1 76) x156.toInt.toNat := by rw [h76j]; exact mh_cq_sub hcq hj1 (by have := (r_x113).1; have := (r_x113).2; have := (r_x103).1; have := (r_x103).2; have := (r_x105).1; have := (r_x105).2; have := (r_x107).1; have := (r_x107).2; have := (r_x109).1; have := (r_x109).2; have := (r_x111).1; have := (r_x111).2; have := (r_x154).1; have := (r_x154).2; have := (r_x156).1; have := (r_x156).2; have := kc_0; have := kc_1; have := kc_38; have := kc_41; have := kc_124; omega) (fun j hj => rfl)
        refine mw_aload_n 62 rfl 1 dX10_goesBehind_61 rfl rfl ?_
        refine mw_dup 63 rfl dX10_goesBehind_62 rfl ?_
        refine mw_geti 66 rfl dX10_goesBehind_63 gf_X10_204 rfl (fun x158 t159 => ?_)
        obtain rfl : x156 = x158 := t157.trans t159.symm
        refine mw_iconst (v := 1) 67 rfl dX10_goesBehind_66 (by decide) ?_
        refine mw_isub 68 rfl (-1) (199) dX10_goesBehind_67 r_x156 rc_1 (by decide) (fun x160 t161 r_x160 => ?_)
        refine mw_puti 71 rfl dX10_goesBehind_68 pf_X10_204 rfl (fun s162 t163 => ?_)
        have hI_s162 : mh_I B D s162 := by rw [t163]; exact wr_57_29 hI_s149
        have hF_s162 : mh_F S_X10_goesBehind s0 s162 := by rw [t163]; exact mh_F_pI hF_s149 (mh_sj 3 rfl)
        refine mw_aload_n 72 rfl 1 dX10_goesBehind_71 rfl rfl ?_
        refine mw_dup 73 rfl dX10_goesBehind_72 rfl ?_
        refine mw_geti 76 rfl dX10_goesBehind_73 gf_X10_207 rfl (fun x164 t165 => ?_)
        refine mw_iconst (v := 1) 77 rfl dX10_goesBehind_76 (by decide) ?_
        refine mw_isub_u 78 rfl dX10_goesBehind_77 (fun x166 t167 => ?_)
        refine mw_puti 81 rfl dX10_goesBehind_78 pf_X10_207 rfl (fun s168 t169 => ?_)
        have hI_s168 : mh_I B D s168 := by rw [t169]; exact wr_57_28 hI_s162
        have hF_s168 : mh_F S_X10_goesBehind s0 s168 := by rw [t169]; exact mh_F_pI hF_s162 (mh_sj 6 rfl)
        refine mw_aload_n 82 rfl 1 dX10_goesBehind_81 rfl rfl ?_
        refine mw_dup 83 rfl dX10_goesBehind_82 rfl ?_
        refine mw_geti 86 rfl dX10_goesBehind_83 gf_X10_188 rfl (fun x170 t171 => ?_)
        have t172 : x103 = s162.1 57 23 := by rw [t163]; exact (t151).trans (mh_pI_n (by omega)).symm
        have t173 : x103 = s168.1 57 23 := by rw [t169]; exact (t172).trans (mh_pI_n (by omega)).symm
        obtain rfl : x103 = x170 := t173.trans t171.symm
        refine mw_iconst (v := 1) 87 rfl dX10_goesBehind_86 (by decide) ?_
        refine mw_iadd 88 rfl (1) (201) dX10_goesBehind_87 r_x103 rc_1 (by decide) (fun x174 t175 r_x174 => ?_)
        refine mw_puti 91 rfl dX10_goesBehind_88 pf_X10_188 rfl (fun s176 t177 => ?_)
        have hI_s176 : mh_I B D s176 := by rw [t177]; exact wr_57_23 hI_s168
        have hF_s176 : mh_F S_X10_goesBehind s0 s176 := by rw [t177]; exact mh_F_pI hF_s168 (mh_sj 5 rfl)
        refine mw_aload_n 92 rfl 1 dX10_goesBehind_91 rfl rfl ?_
        refine mw_aload_n 93 rfl 1 dX10_goesBehind_92 rfl rfl ?_
        refine mw_geti 96 rfl dX10_goesBehind_93 gf_X10_204 rfl (fun x178 t179 => ?_)
        have t180 : x160 = s162.1 57 29 := by rw [t163]; exact mh_pI_s.symm
        have t181 : x160 = s168.1 57 29 := by rw [t169]; exact (t180).trans (mh_pI_n (by omega)).symm
        have t182 : x160 = s176.1 57 29 := by rw [t177]; exact (t181).trans (mh_pI_n (by omega)).symm
        obtain rfl : x160 = x178 := t182.trans t179.symm
        refine mw_if_ne 99 rfl 103 dX10_goesBehind_96 (by decide) (fun c183 => ?_) (fun c183 => ?_)
        · skip
          refine mw_iconst (v := 0) 104 rfl dX10_goesBehind_103 (by decide) ?_
          refine mw_putz 107 rfl dX10_goesBehind_104 pf_X10_275 rfl (mh_r_wk rc_0 (by decide)) (fun s184 t185 => ?_)
          have hI_s184 : mh_I B D s184 := by rw [t185]; exact wr_57_30 hI_s176 (mh_r_wk rc_0 (by decide))
          have hF_s184 : mh_F S_X10_goesBehind s0 s184 := by rw [t185]; exact mh_F_pI hF_s176 (mh_sj 7 rfl)
          refine mw_aload_n 108 rfl 1 dX10_goesBehind_107 rfl rfl ?_
          refine mw_geti 111 rfl dX10_goesBehind_108 gf_X10_275 rfl (fun x186 t187 => ?_)
          have t188 : (0) = s184.1 57 30 := by rw [t185]; exact mh_pI_s.symm
          obtain rfl : (0) = x186 := t188.trans t187.symm
          refine mw_if_ne 114 rfl 118 dX10_goesBehind_111 (by decide) (fun c189 => ?_) (fun c189 => ?_)
          · skip
            exact (mh_nne (show (0 : Int32).toInt ≠ (0 : Int32).toInt from c189) rc_0 rc_0).elim
          · skip
            refine mw_aload_n 115 rfl 1 dX10_goesBehind_114 rfl rfl ?_
            have t190 : x174 = s176.1 57 23 := by rw [t177]; exact mh_pI_s.symm
            have t191 : x174 = s184.1 57 23 := by rw [t185]; exact (t190).trans (mh_pI_n (by omega)).symm
            have t192 : x105 = s162.1 57 24 := by rw [t163]; exact (t152).trans (mh_pI_n (by omega)).symm
            have t193 : x105 = s168.1 57 24 := by rw [t169]; exact (t192).trans (mh_pI_n (by omega)).symm
            have t194 : x105 = s176.1 57 24 := by rw [t177]; exact (t193).trans (mh_pI_n (by omega)).symm
            have t195 : x105 = s184.1 57 24 := by rw [t185]; exact (t194).trans (mh_pI_n (by omega)).symm
            have t196 : x107 = s162.1 57 25 := by rw [t163]; exact (t153).trans (mh_pI_n (by omega)).symm
            have t197 : x107 = s168.1 57 25 := by rw [t169]; exact (t196).trans (mh_pI_n (by omega)).symm
            have t198 : x107 = s176.1 57 25 := by rw [t177]; exact (t197).trans (mh_pI_n (by omega)).symm
            have t199 : x107 = s184.1 57 25 := by rw [t185]; exact (t198).trans (mh_pI_n (by omega)).symm
            have t200 : x154 = s162.1 57 27 := by rw [t163]; exact (t155).trans (mh_pI_n (by omega)).symm
            have t201 : x154 = s168.1 57 27 := by rw [t169]; exact (t200).trans (mh_pI_n (by omega)).symm
            have t202 : x154 = s176.1 57 27 := by rw [t177]; exact (t201).trans (mh_pI_n (by omega)).symm
            have t203 : x154 = s184.1 57 27 := by rw [t185]; exact (t202).trans (mh_pI_n (by omega)).symm
            have t204 : x160 = s184.1 57 29 := by rw [t185]; exact (t182).trans (mh_pI_n (by omega)).symm
            have hpd9 : mh_pd b 1 s184 := by
              intro hg9
              have := congrArg Int32.toInt t104
              have := congrArg Int32.toInt t106
              have := congrArg Int32.toInt t108
              have := congrArg Int32.toInt t110
              have := congrArg Int32.toInt t112
              have := congrArg Int32.toInt t151
              have := congrArg Int32.toInt t152
              have := congrArg Int32.toInt t153
              have := congrArg Int32.toInt t155
              have := congrArg Int32.toInt t157
              have := congrArg Int32.toInt t173
              have := congrArg Int32.toInt t182
              have := congrArg Int32.toInt t191
              have := congrArg Int32.toInt t195
              have := congrArg Int32.toInt t199
              have := congrArg Int32.toInt t203
              have := congrArg Int32.toInt t204
              have := (r_x113).1; have := (r_x113).2
              have := (r_x103).1; have := (r_x103).2
              have := (r_x105).1; have := (r_x105).2
              have := (r_x107).1; have := (r_x107).2
              have := (r_x109).1; have := (r_x109).2
              have := (r_x111).1; have := (r_x111).2
              have := (r_x154).1; have := (r_x154).2
              have := (r_x156).1; have := (r_x156).2
              have := (r_x160).1; have := (r_x160).2
              have := (rc_0).1; have := (rc_0).2
              have := (r_x174).1; have := (r_x174).2
              have := (rc_1).1; have := (rc_1).2
              have := kc_0
              have := kc_1
              have := kc_38
              have := kc_41
              have := kc_124
              have hB := e1_s149 (by rw [← t153]; omega)
              rw [← t155, ← t157] at hB
              have h74 : s184.1 74 = s149.1 74 := ((((by rw [t185]; exact mh_row_n (by decide) : s184.1 74 = s176.1 74)).trans (by rw [t177]; exact mh_row_n (by decide) : s176.1 74 = s168.1 74)).trans (by rw [t169]; exact mh_row_n (by decide) : s168.1 74 = s162.1 74)).trans (by rw [t163]; exact mh_row_n (by decide) : s162.1 74 = s149.1 74)
              have h76 : s184.1 76 = s149.1 76 := ((((by rw [t185]; exact mh_row_n (by decide) : s184.1 76 = s176.1 76)).trans (by rw [t177]; exact mh_row_n (by decide) : s176.1 76 = s168.1 76)).trans (by rw [t169]; exact mh_row_n (by decide) : s168.1 76 = s162.1 76)).trans (by rw [t163]; exact mh_row_n (by decide) : s162.1 76 = s149.1 76)
              have hcod : (s184.1 57 27).toInt = x154.toInt := by rw [← t203]
              have hst : (s184.1 57 29).toInt.toNat = x156.toInt.toNat - 1 := by rw [← t204]; omega
              have h9 := e5_s149
              have h8 := h9.2 (by decide)
              have h7 : mh_tp s149 = s149.1 76 (x156.toInt.toNat - 1) := by unfold mh_tp; rw [← t157, if_pos (by omega)]
              rw [h7] at h9 h8
              have h6 := hcq1.2.2 (x156.toInt.toNat - 1) (by omega)
              unfold mh_cs at h6
              rw [h74, h76, hcod, hst]
              exact mh_pdr_qn hB hj1 (by show (_ ∨ _ ∨ _); omega)
            refine mw_callVv [] [] 118 rfl dX10_goesBehind_115 ml_X10_269 mc_X10_ends mk_X10_ends rfl rfl (by decide) (w_X10_ends l G (d + 0) ⟨by omega, by omega⟩ hI_s184 b (show mh_pb b s184 by unfold mh_pb; rw [← t191, ← t195, ← t199, ← t203, ← t204]; have := kc_0; have := kc_1; have := (r_x113).1; have := (r_x113).2; have := (r_x103).1; have := (r_x103).2; have := (r_x105).1; have := (r_x105).2; have := (r_x107).1; have := (r_x107).2; have := (r_x109).1; have := (r_x109).2; have := (r_x111).1; have := (r_x111).2; have := (r_x154).1; have := (r_x154).2; have := (r_x156).1; have := (r_x156).2; have := (r_x160).1; have := (r_x160).2; have := (rc_0).1; have := (rc_0).2; have := (r_x174).1; have := (r_x174).2; have := (rc_1).1; have := (rc_1).2; have := kc_0; have := kc_1; have := kc_38; have := kc_41; have := kc_124; omega) hpd9) rfl rfl (Nat.le_of_ble_eq_true rfl) (mh_rok (by omega) (by decide)) (fun s206 q207 => ?_)
            obtain ⟨e0_s206, e1_s206, e2_s206, e3_s206, e4_s206, e5_s206, hI_s206, hG_s206⟩ := q207
            have hF_s206 : mh_F S_X10_goesBehind s0 s206 := mh_F_tl hF_s184 hG_s206 (by decide +kernel)
            have t208 : x174 = s206.1 57 23 := (t191).trans (hG_s206 57 23 (mh_nsI (by rfl))).1.symm
            have t209 : x105 = s206.1 57 24 := (t195).trans (hG_s206 57 24 (mh_nsI (by rfl))).1.symm
            have t210 : x107 = s206.1 57 25 := (t199).trans (hG_s206 57 25 (mh_nsI (by rfl))).1.symm
            obtain ⟨x211, t212⟩ : ∃ z : Int32, z = s206.1 57 27 := ⟨_, rfl⟩
            obtain ⟨x213, t214⟩ : ∃ z : Int32, z = s206.1 57 29 := ⟨_, rfl⟩
            have pb_s206 : 0 ≤ x174.toInt ∧ x174.toInt ≤ x105.toInt ∧ x105.toInt ≤ 200 ∧ 0 ≤ x213.toInt ∧ 0 ≤ b ∧ b ≤ x211.toInt ∧ x213.toInt + x211.toInt ≤ x174.toInt ∧ x107.toInt ≤ 0 := by have h9 := e0_s206; unfold mh_pb at h9; rw [← t208, ← t209, ← t210, ← t212, ← t214] at h9; exact h9
            have r_x174 : mh_r x174 (1) (200) := ⟨by have := (r_x174).1; omega, by have := (r_x174).2; omega⟩
            have r_x103 : mh_r x103 (0) (199) := by have := (show x174.toInt = x103.toInt + (1) from t175); have := (r_x103).1; have := (r_x103).2; have := (r_x174).1; have := (r_x174).2; exact ⟨by omega, by omega⟩
            have r_x211 : mh_r x211 (0) (200) := ⟨by have := ((mh_r_full x211)).1; omega, by have := ((mh_r_full x211)).2; omega⟩
            have r_x213 : mh_r x213 (0) (200) := ⟨by have := ((mh_r_full x213)).1; omega, by have := ((mh_r_full x213)).2; omega⟩
            have hp_s206 := e3_s206
            rw [← t214, ← t204] at hp_s206
            refine mw_iconst (v := 0) 119 rfl dX10_goesBehind_118 (by decide) ?_
            refine mw_zret dX10_goesBehind_119 rfl (mh_r_wk rc_0 (by decide)) ⟨(0), rfl, ⟨(mh_r_wk rc_0 (by decide)), ?_, ?_, ?_, ?_, ?_, hI_s206, hF_s206⟩⟩
            · skip
              exact (show mh_pb b s206 by unfold mh_pb; rw [← t208, ← t209, ← t210, ← t212, ← t214]; have := kc_0; have := kc_1; have := (r_x113).1; have := (r_x113).2; have := (rc_0).1; have := (rc_0).2; have := (r_x103).1; have := (r_x103).2; have := (r_x105).1; have := (r_x105).2; have := (r_x107).1; have := (r_x107).2; have := (r_x109).1; have := (r_x109).2; have := (r_x111).1; have := (r_x111).2; have := (r_x154).1; have := (r_x154).2; have := (r_x156).1; have := (r_x156).2; have := (r_x160).1; have := (r_x160).2; have := (r_x174).1; have := (r_x174).2; have := (r_x211).1; have := (r_x211).2; have := (r_x213).1; have := (r_x213).2; have := (rc_1).1; have := (rc_1).2; have := kc_0; have := kc_1; have := kc_38; have := kc_41; have := kc_124; omega)
            · skip
              exact mh_pk_tr e2_s149 (mh_pk_tr (mh_pk_row (((((by rw [t185]; exact mh_row_n (by decide) : s184.1 74 = s176.1 74)).trans (by rw [t177]; exact mh_row_n (by decide) : s176.1 74 = s168.1 74)).trans (by rw [t169]; exact mh_row_n (by decide) : s168.1 74 = s162.1 74)).trans (by rw [t163]; exact mh_row_n (by decide) : s162.1 74 = s149.1 74))) (mh_pk_tr e2_s206 (mh_pk_row (rfl))))
            · skip
              intro q
              exact absurd q (by decide)
            · skip
              have t215 : (0) = s206.1 57 30 := (t188).trans (hG_s206 57 30 (mh_nsI (by rfl))).1.symm
              intro _ _
              have := congrArg Int32.toInt t104
              have := congrArg Int32.toInt t106
              have := congrArg Int32.toInt t108
              have := congrArg Int32.toInt t110
              have := congrArg Int32.toInt t112
              have := congrArg Int32.toInt t151
              have := congrArg Int32.toInt t152
              have := congrArg Int32.toInt t153
              have := congrArg Int32.toInt t155
              have := congrArg Int32.toInt t157
              have := congrArg Int32.toInt t173
              have := congrArg Int32.toInt t182
              have := congrArg Int32.toInt t191
              have := congrArg Int32.toInt t195
              have := congrArg Int32.toInt t199
              have := congrArg Int32.toInt t203
              have := congrArg Int32.toInt t204
              have := congrArg Int32.toInt t208
              have := congrArg Int32.toInt t209
              have := congrArg Int32.toInt t210
              have := congrArg Int32.toInt t212
              have := congrArg Int32.toInt t214
              have := (r_x113).1; have := (r_x113).2
              have := (rc_0).1; have := (rc_0).2
              have := (r_x103).1; have := (r_x103).2
              have := (r_x105).1; have := (r_x105).2
              have := (r_x107).1; have := (r_x107).2
              have := (r_x109).1; have := (r_x109).2
              have := (r_x111).1; have := (r_x111).2
              have := (r_x154).1; have := (r_x154).2
              have := (r_x156).1; have := (r_x156).2
              have := (r_x160).1; have := (r_x160).2
              have := (r_x174).1; have := (r_x174).2
              have := (r_x211).1; have := (r_x211).2
              have := (r_x213).1; have := (r_x213).2
              have := (rc_1).1; have := (rc_1).2
              have := kc_0
              have := kc_1
              have := kc_38
              have := kc_41
              have := kc_124
              have h30 := congrArg Int32.toInt t215
              have := kc_0
              have h76a : s184.1 76 = s149.1 76 := ((((by rw [t185]; exact mh_row_n (by decide) : s184.1 76 = s176.1 76)).trans (by rw [t177]; exact mh_row_n (by decide) : s176.1 76 = s168.1 76)).trans (by rw [t169]; exact mh_row_n (by decide) : s168.1 76 = s162.1 76)).trans (by rw [t163]; exact mh_row_n (by decide) : s162.1 76 = s149.1 76)
              have h76b : s206.1 76 = s149.1 76 := (((((mh_F_row hG_s206 76 rfl)).trans (by rw [t185]; exact mh_row_n (by decide) : s184.1 76 = s176.1 76)).trans (by rw [t177]; exact mh_row_n (by decide) : s176.1 76 = s168.1 76)).trans (by rw [t169]; exact mh_row_n (by decide) : s168.1 76 = s162.1 76)).trans (by rw [t163]; exact mh_row_n (by decide) : s162.1 76 = s149.1 76)
              have hp9 := e4_s206
              rw [← t204, ← t214, h76a] at hp9
              have hcqA : mh_cq (s149.1 76) x160.toInt.toNat := mh_cq_sub hcq1 (by omega) (by omega) (fun j hj => rfl)
              have hge : 1 ≤ x213.toInt.toNat := mh_cq_pop hcqA (fun j h1 h2 => by have := hp9 j h1 h2; omega)
              have hst : (s206.1 57 29).toInt.toNat = x213.toInt.toNat := by rw [← t214]
              refine ⟨e1_s206, Or.inr ⟨by omega, ?_⟩⟩
              rw [hst, h76b]
              exact mh_cq_sub hcq1 hge (by omega) (fun j hj => rfl)
            · skip
              have := congrArg Int32.toInt t104
              have := congrArg Int32.toInt t106
              have := congrArg Int32.toInt t108
              have := congrArg Int32.toInt t110
              have := congrArg Int32.toInt t112
              have := congrArg Int32.toInt t151
              have := congrArg Int32.toInt t152
              have := congrArg Int32.toInt t153
              have := congrArg Int32.toInt t155
              have := congrArg Int32.toInt t157
              have := congrArg Int32.toInt t173
              have := congrArg Int32.toInt t182
              have := congrArg Int32.toInt t191
              have := congrArg Int32.toInt t195
              have := congrArg Int32.toInt t199
              have := congrArg Int32.toInt t203
              have := congrArg Int32.toInt t204
              have := congrArg Int32.toInt t208
              have := congrArg Int32.toInt t209
              have := congrArg Int32.toInt t210
              have := congrArg Int32.toInt t212
              have := congrArg Int32.toInt t214
              have := (r_x113).1; have := (r_x113).2
              have := (rc_0).1; have := (rc_0).2
              have := (r_x103).1; have := (r_x103).2
              have := (r_x105).1; have := (r_x105).2
              have := (r_x107).1; have := (r_x107).2
              have := (r_x109).1; have := (r_x109).2
              have := (r_x111).1; have := (r_x111).2
              have := (r_x154).1; have := (r_x154).2
              have := (r_x156).1; have := (r_x156).2
              have := (r_x160).1; have := (r_x160).2
              have := (r_x174).1; have := (r_x174).2
              have := (r_x211).1; have := (r_x211).2
              have := (r_x213).1; have := (r_x213).2
              have := (rc_1).1; have := (rc_1).2
              have := kc_0
              have := kc_1
              have := kc_38
              have := kc_41
              have := kc_124
              omega
        · skip
          have r_x160 : mh_r x160 (0) (0) := mh_eq1 (show x160.toInt = (0 : Int32).toInt from c183) r_x160 rc_0 (0) (0) (by decide)
          have r_x156 : mh_r x156 (1) (1) := by have := (show x160.toInt = x156.toInt - (1) from t161); have := (r_x156).1; have := (r_x156).2; have := (r_x160).1; have := (r_x160).2; exact ⟨by omega, by omega⟩
          refine mw_iconst (v := 1) 100 rfl dX10_goesBehind_99 (by decide) ?_
          refine mw_goto 103 rfl 104 dX10_goesBehind_100 (by decide) ?_
          refine mw_putz 107 rfl dX10_goesBehind_104 pf_X10_275 rfl (mh_r_wk rc_1 (by decide)) (fun s216 t217 => ?_)
          have hI_s216 : mh_I B D s216 := by rw [t217]; exact wr_57_30 hI_s176 (mh_r_wk rc_1 (by decide))
          have hF_s216 : mh_F S_X10_goesBehind s0 s216 := by rw [t217]; exact mh_F_pI hF_s176 (mh_sj 7 rfl)
          refine mw_aload_n 108 rfl 1 dX10_goesBehind_107 rfl rfl ?_
          refine mw_geti 111 rfl dX10_goesBehind_108 gf_X10_275 rfl (fun x218 t219 => ?_)
          have t220 : (1) = s216.1 57 30 := by rw [t217]; exact mh_pI_s.symm
          obtain rfl : (1) = x218 := t220.trans t219.symm
          refine mw_if_ne 114 rfl 118 dX10_goesBehind_111 (by decide) (fun c221 => ?_) (fun c221 => ?_)
          · skip
            refine mw_iconst (v := 0) 119 rfl dX10_goesBehind_118 (by decide) ?_
            refine mw_zret dX10_goesBehind_119 rfl (mh_r_wk rc_0 (by decide)) ⟨(0), rfl, ⟨(mh_r_wk rc_0 (by decide)), ?_, ?_, ?_, ?_, ?_, hI_s216, hF_s216⟩⟩
            · skip
              have t222 : x174 = s176.1 57 23 := by rw [t177]; exact mh_pI_s.symm
              have t223 : x174 = s216.1 57 23 := by rw [t217]; exact (t222).trans (mh_pI_n (by omega)).symm
              have t224 : x105 = s162.1 57 24 := by rw [t163]; exact (t152).trans (mh_pI_n (by omega)).symm
              have t225 : x105 = s168.1 57 24 := by rw [t169]; exact (t224).trans (mh_pI_n (by omega)).symm
              have t226 : x105 = s176.1 57 24 := by rw [t177]; exact (t225).trans (mh_pI_n (by omega)).symm
              have t227 : x105 = s216.1 57 24 := by rw [t217]; exact (t226).trans (mh_pI_n (by omega)).symm
              have t228 : x107 = s162.1 57 25 := by rw [t163]; exact (t153).trans (mh_pI_n (by omega)).symm
              have t229 : x107 = s168.1 57 25 := by rw [t169]; exact (t228).trans (mh_pI_n (by omega)).symm
              have t230 : x107 = s176.1 57 25 := by rw [t177]; exact (t229).trans (mh_pI_n (by omega)).symm
              have t231 : x107 = s216.1 57 25 := by rw [t217]; exact (t230).trans (mh_pI_n (by omega)).symm
              have t232 : x154 = s162.1 57 27 := by rw [t163]; exact (t155).trans (mh_pI_n (by omega)).symm
              have t233 : x154 = s168.1 57 27 := by rw [t169]; exact (t232).trans (mh_pI_n (by omega)).symm
              have t234 : x154 = s176.1 57 27 := by rw [t177]; exact (t233).trans (mh_pI_n (by omega)).symm
              have t235 : x154 = s216.1 57 27 := by rw [t217]; exact (t234).trans (mh_pI_n (by omega)).symm
              have t236 : x160 = s216.1 57 29 := by rw [t217]; exact (t182).trans (mh_pI_n (by omega)).symm
              exact (show mh_pb b s216 by unfold mh_pb; rw [← t223, ← t227, ← t231, ← t235, ← t236]; have := kc_0; have := kc_1; have := (r_x113).1; have := (r_x113).2; have := (rc_0).1; have := (rc_0).2; have := (r_x103).1; have := (r_x103).2; have := (r_x105).1; have := (r_x105).2; have := (r_x107).1; have := (r_x107).2; have := (r_x109).1; have := (r_x109).2; have := (r_x111).1; have := (r_x111).2; have := (r_x154).1; have := (r_x154).2; have := (r_x156).1; have := (r_x156).2; have := (r_x160).1; have := (r_x160).2; have := (rc_1).1; have := (rc_1).2; have := (r_x174).1; have := (r_x174).2; have := kc_0; have := kc_1; have := kc_38; have := kc_41; have := kc_124; omega)
            · skip
              exact mh_pk_tr e2_s149 (mh_pk_row (((((by rw [t217]; exact mh_row_n (by decide) : s216.1 74 = s176.1 74)).trans (by rw [t177]; exact mh_row_n (by decide) : s176.1 74 = s168.1 74)).trans (by rw [t169]; exact mh_row_n (by decide) : s168.1 74 = s162.1 74)).trans (by rw [t163]; exact mh_row_n (by decide) : s162.1 74 = s149.1 74)))
            · skip
              intro q
              exact absurd q (by decide)
            · skip
              have t237 : x174 = s176.1 57 23 := by rw [t177]; exact mh_pI_s.symm
              have t238 : x174 = s216.1 57 23 := by rw [t217]; exact (t237).trans (mh_pI_n (by omega)).symm
              have t239 : x105 = s162.1 57 24 := by rw [t163]; exact (t152).trans (mh_pI_n (by omega)).symm
              have t240 : x105 = s168.1 57 24 := by rw [t169]; exact (t239).trans (mh_pI_n (by omega)).symm
              have t241 : x105 = s176.1 57 24 := by rw [t177]; exact (t240).trans (mh_pI_n (by omega)).symm
              have t242 : x105 = s216.1 57 24 := by rw [t217]; exact (t241).trans (mh_pI_n (by omega)).symm
              have t243 : x107 = s162.1 57 25 := by rw [t163]; exact (t153).trans (mh_pI_n (by omega)).symm
              have t244 : x107 = s168.1 57 25 := by rw [t169]; exact (t243).trans (mh_pI_n (by omega)).symm
              have t245 : x107 = s176.1 57 25 := by rw [t177]; exact (t244).trans (mh_pI_n (by omega)).symm
              have t246 : x107 = s216.1 57 25 := by rw [t217]; exact (t245).trans (mh_pI_n (by omega)).symm
              have t247 : x154 = s162.1 57 27 := by rw [t163]; exact (t155).trans (mh_pI_n (by omega)).symm
              have t248 : x154 = s168.1 57 27 := by rw [t169]; exact (t247).trans (mh_pI_n (by omega)).symm
              have t249 : x154 = s176.1 57 27 := by rw [t177]; exact (t248).trans (mh_pI_n (by omega)).symm
              have t250 : x154 = s216.1 57 27 := by rw [t217]; exact (t249).trans (mh_pI_n (by omega)).symm
              have t251 : x160 = s216.1 57 29 := by rw [t217]; exact (t182).trans (mh_pI_n (by omega)).symm
              intro _ _
              have := congrArg Int32.toInt t104
              have := congrArg Int32.toInt t106
              have := congrArg Int32.toInt t108
              have := congrArg Int32.toInt t110
              have := congrArg Int32.toInt t112
              have := congrArg Int32.toInt t151
              have := congrArg Int32.toInt t152
              have := congrArg Int32.toInt t153
              have := congrArg Int32.toInt t155
              have := congrArg Int32.toInt t157
              have := congrArg Int32.toInt t173
              have := congrArg Int32.toInt t182
              have := congrArg Int32.toInt t238
              have := congrArg Int32.toInt t242
              have := congrArg Int32.toInt t246
              have := congrArg Int32.toInt t250
              have := congrArg Int32.toInt t251
              have := (r_x113).1; have := (r_x113).2
              have := (rc_0).1; have := (rc_0).2
              have := (r_x103).1; have := (r_x103).2
              have := (r_x105).1; have := (r_x105).2
              have := (r_x107).1; have := (r_x107).2
              have := (r_x109).1; have := (r_x109).2
              have := (r_x111).1; have := (r_x111).2
              have := (r_x154).1; have := (r_x154).2
              have := (r_x156).1; have := (r_x156).2
              have := (r_x160).1; have := (r_x160).2
              have := (rc_1).1; have := (rc_1).2
              have := (r_x174).1; have := (r_x174).2
              have := kc_0
              have := kc_1
              have := kc_38
              have := kc_41
              have := kc_124
              have h30 := congrArg Int32.toInt t220
              have := kc_1
              have hpd9 : mh_pd b 1 s216 := by
                intro hg9
                have := congrArg Int32.toInt t104
                have := congrArg Int32.toInt t106
                have := congrArg Int32.toInt t108
                have := congrArg Int32.toInt t110
                have := congrArg Int32.toInt t112
                have := congrArg Int32.toInt t151
                have := congrArg Int32.toInt t152
                have := congrArg Int32.toInt t153
                have := congrArg Int32.toInt t155
                have := congrArg Int32.toInt t157
                have := congrArg Int32.toInt t173
                have := congrArg Int32.toInt t182
                have := congrArg Int32.toInt t238
                have := congrArg Int32.toInt t242
                have := congrArg Int32.toInt t246
                have := congrArg Int32.toInt t250
                have := congrArg Int32.toInt t251
                have := (r_x113).1; have := (r_x113).2
                have := (rc_0).1; have := (rc_0).2
                have := (r_x103).1; have := (r_x103).2
                have := (r_x105).1; have := (r_x105).2
                have := (r_x107).1; have := (r_x107).2
                have := (r_x109).1; have := (r_x109).2
                have := (r_x111).1; have := (r_x111).2
                have := (r_x154).1; have := (r_x154).2
                have := (r_x156).1; have := (r_x156).2
                have := (r_x160).1; have := (r_x160).2
                have := (rc_1).1; have := (rc_1).2
                have := (r_x174).1; have := (r_x174).2
                have := kc_0
                have := kc_1
                have := kc_38
                have := kc_41
                have := kc_124
                have hB := e1_s149 (by rw [← t153]; omega)
                rw [← t155, ← t157] at hB
                have h74 : s216.1 74 = s149.1 74 := ((((by rw [t217]; exact mh_row_n (by decide) : s216.1 74 = s176.1 74)).trans (by rw [t177]; exact mh_row_n (by decide) : s176.1 74 = s168.1 74)).trans (by rw [t169]; exact mh_row_n (by decide) : s168.1 74 = s162.1 74)).trans (by rw [t163]; exact mh_row_n (by decide) : s162.1 74 = s149.1 74)
                have h76 : s216.1 76 = s149.1 76 := ((((by rw [t217]; exact mh_row_n (by decide) : s216.1 76 = s176.1 76)).trans (by rw [t177]; exact mh_row_n (by decide) : s176.1 76 = s168.1 76)).trans (by rw [t169]; exact mh_row_n (by decide) : s168.1 76 = s162.1 76)).trans (by rw [t163]; exact mh_row_n (by decide) : s162.1 76 = s149.1 76)
                have hcod : (s216.1 57 27).toInt = x154.toInt := by rw [← t250]
                have hst : (s216.1 57 29).toInt.toNat = x156.toInt.toNat - 1 := by rw [← t251]; omega
                have h9 := e5_s149
                have h8 := h9.2 (by decide)
                have h7 : mh_tp s149 = s149.1 76 (x156.toInt.toNat - 1) := by unfold mh_tp; rw [← t157, if_pos (by omega)]
                rw [h7] at h9 h8
                have h6 := hcq1.2.2 (x156.toInt.toNat - 1) (by omega)
                unfold mh_cs at h6
                rw [h74, h76, hcod, hst]
                exact mh_pdr_qn hB hj1 (by show (_ ∨ _ ∨ _); omega)
              exact ⟨hpd9, Or.inl ⟨by omega, by omega⟩⟩
            · skip
              have t252 : x174 = s176.1 57 23 := by rw [t177]; exact mh_pI_s.symm
              have t253 : x174 = s216.1 57 23 := by rw [t217]; exact (t252).trans (mh_pI_n (by omega)).symm
              have t254 : x105 = s162.1 57 24 := by rw [t163]; exact (t152).trans (mh_pI_n (by omega)).symm
              have t255 : x105 = s168.1 57 24 := by rw [t169]; exact (t254).trans (mh_pI_n (by omega)).symm
              have t256 : x105 = s176.1 57 24 := by rw [t177]; exact (t255).trans (mh_pI_n (by omega)).symm
              have t257 : x105 = s216.1 57 24 := by rw [t217]; exact (t256).trans (mh_pI_n (by omega)).symm
              have t258 : x107 = s162.1 57 25 := by rw [t163]; exact (t153).trans (mh_pI_n (by omega)).symm
              have t259 : x107 = s168.1 57 25 := by rw [t169]; exact (t258).trans (mh_pI_n (by omega)).symm
              have t260 : x107 = s176.1 57 25 := by rw [t177]; exact (t259).trans (mh_pI_n (by omega)).symm
              have t261 : x107 = s216.1 57 25 := by rw [t217]; exact (t260).trans (mh_pI_n (by omega)).symm
              have t262 : x154 = s162.1 57 27 := by rw [t163]; exact (t155).trans (mh_pI_n (by omega)).symm
              have t263 : x154 = s168.1 57 27 := by rw [t169]; exact (t262).trans (mh_pI_n (by omega)).symm
              have t264 : x154 = s176.1 57 27 := by rw [t177]; exact (t263).trans (mh_pI_n (by omega)).symm
              have t265 : x154 = s216.1 57 27 := by rw [t217]; exact (t264).trans (mh_pI_n (by omega)).symm
              have t266 : x160 = s216.1 57 29 := by rw [t217]; exact (t182).trans (mh_pI_n (by omega)).symm
              have := congrArg Int32.toInt t104
              have := congrArg Int32.toInt t106
              have := congrArg Int32.toInt t108
              have := congrArg Int32.toInt t110
              have := congrArg Int32.toInt t112
              have := congrArg Int32.toInt t151
              have := congrArg Int32.toInt t152
              have := congrArg Int32.toInt t153
              have := congrArg Int32.toInt t155
              have := congrArg Int32.toInt t157
              have := congrArg Int32.toInt t173
              have := congrArg Int32.toInt t182
              have := congrArg Int32.toInt t253
              have := congrArg Int32.toInt t257
              have := congrArg Int32.toInt t261
              have := congrArg Int32.toInt t265
              have := congrArg Int32.toInt t266
              have := (r_x113).1; have := (r_x113).2
              have := (rc_0).1; have := (rc_0).2
              have := (r_x103).1; have := (r_x103).2
              have := (r_x105).1; have := (r_x105).2
              have := (r_x107).1; have := (r_x107).2
              have := (r_x109).1; have := (r_x109).2
              have := (r_x111).1; have := (r_x111).2
              have := (r_x154).1; have := (r_x154).2
              have := (r_x156).1; have := (r_x156).2
              have := (r_x160).1; have := (r_x160).2
              have := (rc_1).1; have := (rc_1).2
              have := (r_x174).1; have := (r_x174).2
              have := kc_0
              have := kc_1
              have := kc_38
              have := kc_41
              have := kc_124
              omega
          · skip
            exact (mh_neq (show (1 : Int32).toInt = (0 : Int32).toInt from c221) rc_1 rc_0 (by decide)).elim
      · skip
        refine mw_aload_n 46 rfl 1 dX10_goesBehind_45 rfl rfl ?_
        refine mw_iconst (v := 1) 47 rfl dX10_goesBehind_46 (by decide) ?_
        refine mw_aload_n 48 rfl 1 dX10_goesBehind_47 rfl rfl ?_
        refine mw_geti 51 rfl dX10_goesBehind_48 gf_X10_188 rfl (fun x267 t268 => ?_)
        obtain rfl : x103 = x267 := t104.trans t268.symm
        refine mw_callVv [.int (1), .int x103] [] 54 rfl dX10_goesBehind_51 ml_X10_210 mc_X10_wrongs mk_X10_wrongs rfl rfl (by decide) (w_X10_wrongs l G (d + 2) ⟨by omega, by omega⟩ hI0 (1) (mh_r_wk rc_1 (by decide)) x103 r_x103 (by rw [← t108]; have := (r_x113).1; have := (r_x113).2; have := (r_x103).1; have := (r_x103).2; have := (r_x105).1; have := (r_x105).2; have := (r_x107).1; have := (r_x107).2; have := (r_x109).1; have := (r_x109).2; have := (r_x111).1; have := (r_x111).2; have := kc_0; have := kc_1; have := kc_38; have := kc_41; have := kc_124; omega)) rfl rfl (Nat.le_of_ble_eq_true rfl) (mh_rok (by omega) (by decide)) (fun s270 q271 => ?_)
        obtain ⟨e0_s270, hI_s270, hG_s270⟩ := q271
        have hF_s270 : mh_F S_X10_goesBehind s0 s270 := mh_F_tl hF0 hG_s270 (by decide +kernel)
        obtain ⟨x272, t273⟩ : ∃ z : Int32, z = s270.1 57 25 := ⟨_, rfl⟩
        have hw_s270 : x272.toInt < 0 := by rw [t273]; exact e0_s270
        have r_x272 : mh_r x272 (-2147483648) (-1) := ⟨((mh_r_full x272)).1, by have := hw_s270; omega⟩
        refine mw_iconst (v := 0) 55 rfl dX10_goesBehind_54 (by decide) ?_
        refine mw_zret dX10_goesBehind_55 rfl (mh_r_wk rc_0 (by decide)) ⟨(0), rfl, ⟨(mh_r_wk rc_0 (by decide)), ?_, ?_, ?_, ?_, ?_, hI_s270, hF_s270⟩⟩
        · skip
          have t274 : x103 = s270.1 57 23 := (t104).trans (hG_s270 57 23 (mh_nsI (by rfl))).1.symm
          have t275 : x105 = s270.1 57 24 := (t106).trans (hG_s270 57 24 (mh_nsI (by rfl))).1.symm
          have t276 : x109 = s270.1 57 27 := (t110).trans (hG_s270 57 27 (mh_nsI (by rfl))).1.symm
          have t277 : x111 = s270.1 57 29 := (t112).trans (hG_s270 57 29 (mh_nsI (by rfl))).1.symm
          exact (show mh_pb b s270 by unfold mh_pb; rw [← t274, ← t275, ← t273, ← t276, ← t277]; have := kc_0; have := kc_1; have := (r_x113).1; have := (r_x113).2; have := (rc_0).1; have := (rc_0).2; have := (r_x103).1; have := (r_x103).2; have := (r_x105).1; have := (r_x105).2; have := (r_x107).1; have := (r_x107).2; have := (r_x109).1; have := (r_x109).2; have := (r_x111).1; have := (r_x111).2; have := (r_x272).1; have := (r_x272).2; have := kc_0; have := kc_1; have := kc_38; have := kc_41; have := kc_124; omega)
        · skip
          exact mh_pk_row ((mh_F_row hG_s270 74 rfl))
        · skip
          intro q
          exact absurd q (by decide)
        · skip
          have t278 : x103 = s270.1 57 23 := (t104).trans (hG_s270 57 23 (mh_nsI (by rfl))).1.symm
          have t279 : x105 = s270.1 57 24 := (t106).trans (hG_s270 57 24 (mh_nsI (by rfl))).1.symm
          have t280 : x109 = s270.1 57 27 := (t110).trans (hG_s270 57 27 (mh_nsI (by rfl))).1.symm
          have t281 : x111 = s270.1 57 29 := (t112).trans (hG_s270 57 29 (mh_nsI (by rfl))).1.symm
          intro _ hg9
          exfalso
          have := congrArg Int32.toInt t104
          have := congrArg Int32.toInt t106
          have := congrArg Int32.toInt t108
          have := congrArg Int32.toInt t110
          have := congrArg Int32.toInt t112
          have := congrArg Int32.toInt t273
          have := congrArg Int32.toInt t278
          have := congrArg Int32.toInt t279
          have := congrArg Int32.toInt t280
          have := congrArg Int32.toInt t281
          have := (r_x113).1; have := (r_x113).2
          have := (rc_0).1; have := (rc_0).2
          have := (r_x103).1; have := (r_x103).2
          have := (r_x105).1; have := (r_x105).2
          have := (r_x107).1; have := (r_x107).2
          have := (r_x109).1; have := (r_x109).2
          have := (r_x111).1; have := (r_x111).2
          have := (r_x272).1; have := (r_x272).2
          have := kc_0
          have := kc_1
          have := kc_38
          have := kc_41
          have := kc_124
          omega
        · skip
          have t282 : x103 = s270.1 57 23 := (t104).trans (hG_s270 57 23 (mh_nsI (by rfl))).1.symm
          have t283 : x105 = s270.1 57 24 := (t106).trans (hG_s270 57 24 (mh_nsI (by rfl))).1.symm
          have t284 : x109 = s270.1 57 27 := (t110).trans (hG_s270 57 27 (mh_nsI (by rfl))).1.symm
          have t285 : x111 = s270.1 57 29 := (t112).trans (hG_s270 57 29 (mh_nsI (by rfl))).1.symm
          have := congrArg Int32.toInt t104
          have := congrArg Int32.toInt t106
          have := congrArg Int32.toInt t108
          have := congrArg Int32.toInt t110
          have := congrArg Int32.toInt t112
          have := congrArg Int32.toInt t273
          have := congrArg Int32.toInt t282
          have := congrArg Int32.toInt t283
          have := congrArg Int32.toInt t284
          have := congrArg Int32.toInt t285
          have := (r_x113).1; have := (r_x113).2
          have := (rc_0).1; have := (rc_0).2
          have := (r_x103).1; have := (r_x103).2
          have := (r_x105).1; have := (r_x105).2
          have := (r_x107).1; have := (r_x107).2
          have := (r_x109).1; have := (r_x109).2
          have := (r_x111).1; have := (r_x111).2
          have := (r_x272).1; have := (r_x272).2
          have := kc_0
          have := kc_1
          have := kc_38
          have := kc_41
          have := kc_124
          omega
    · skip
      have r_x113 : mh_r x113 (124) (124) := mh_eq1 c146 r_x113 rc_124 (124) (124) (by decide)
      refine mw_aload_n 18 rfl 1 dX10_goesBehind_17 rfl rfl ?_
      refine mw_iload_n 19 rfl 0 dX10_goesBehind_18 rfl rfl ?_
      refine mw_bipush (v := 124) 21 rfl dX10_goesBehind_19 (by decide) ?_
      refine mw_icmp_ne 24 rfl 28 dX10_goesBehind_21 (by decide) (fun c286 => ?_) (fun c286 => ?_)
      · skip
        exact (mh_nne c286 r_x113 rc_124).elim
      · skip
        refine mw_iconst (v := 1) 25 rfl dX10_goesBehind_24 (by decide) ?_
        refine mw_goto 28 rfl 29 dX10_goesBehind_25 (by decide) ?_
        refine mw_callVv [.int (1)] [] 32 rfl dX10_goesBehind_29 ml_X10_272 mc_X10_joins mk_X10_joins rfl rfl (by decide) (w_X10_joins l G (d + 0) ⟨by omega, by omega⟩ hI0 (1) (mh_r_wk rc_1 (by decide)) b (show mh_pb b s0 by unfold mh_pb; rw [← t104, ← t106, ← t108, ← t110, ← t112]; have := kc_0; have := kc_1; have := (r_x113).1; have := (r_x113).2; have := (r_x103).1; have := (r_x103).2; have := (r_x105).1; have := (r_x105).2; have := (r_x107).1; have := (r_x107).2; have := (r_x109).1; have := (r_x109).2; have := (r_x111).1; have := (r_x111).2; have := kc_0; have := kc_1; have := kc_38; have := kc_41; have := kc_124; omega) hd) rfl rfl (Nat.le_of_ble_eq_true rfl) (mh_rok (by omega) (by decide)) (fun s288 q289 => ?_)
        obtain ⟨e0_s288, e1_s288, e2_s288, e3_s288, e4_s288, e5_s288, hI_s288, hG_s288⟩ := q289
        have hF_s288 : mh_F S_X10_goesBehind s0 s288 := mh_F_tl hF0 hG_s288 (by decide +kernel)
        have t290 : x103 = s288.1 57 23 := (t104).trans (hG_s288 57 23 (mh_nsI (by rfl))).1.symm
        have t291 : x105 = s288.1 57 24 := (t106).trans (hG_s288 57 24 (mh_nsI (by rfl))).1.symm
        have t292 : x107 = s288.1 57 25 := (t108).trans (hG_s288 57 25 (mh_nsI (by rfl))).1.symm
        obtain ⟨x293, t294⟩ : ∃ z : Int32, z = s288.1 57 27 := ⟨_, rfl⟩
        obtain ⟨x295, t296⟩ : ∃ z : Int32, z = s288.1 57 29 := ⟨_, rfl⟩
        have pb_s288 : 0 ≤ x103.toInt ∧ x103.toInt ≤ x105.toInt ∧ x105.toInt ≤ 200 ∧ 0 ≤ x295.toInt ∧ 0 ≤ b ∧ b ≤ x293.toInt ∧ x295.toInt + x293.toInt ≤ x103.toInt ∧ x107.toInt ≤ 0 := by have h9 := e0_s288; unfold mh_pb at h9; rw [← t290, ← t291, ← t292, ← t294, ← t296] at h9; exact h9
        have r_x293 : mh_r x293 (0) (200) := ⟨by have := ((mh_r_full x293)).1; omega, by have := ((mh_r_full x293)).2; omega⟩
        have r_x295 : mh_r x295 (0) (200) := ⟨by have := ((mh_r_full x295)).1; omega, by have := ((mh_r_full x295)).2; omega⟩
        have hp_s288 := e3_s288
        rw [← t296, ← t112] at hp_s288
        have hj4 := e4_s288
        rw [← t296, ← t112] at hj4
        have hj1 : 1 ≤ x295.toInt.toNat := mh_cq_pop hcq (fun j h1 h2 => by have := hj4 j h1 h2; omega)
        have h76j : s288.1 76 = s0.1 76 := mh_F_row hG_s288 76 rfl
        have hcq1 : mh_cq (s288.1 76) x295.toInt.toNat := by rw [h76j]; exact mh_cq_sub hcq hj1 (by have := (r_x113).1; have := (r_x113).2; have := (r_x103).1; have := (r_x103).2; have := (r_x105).1; have := (r_x105).2; have := (r_x107).1; have := (r_x107).2; have := (r_x109).1; have := (r_x109).2; have := (r_x111).1; have := (r_x111).2; have := (r_x293).1; have := (r_x293).2; have := (r_x295).1; have := (r_x295).2; have := kc_0; have := kc_1; have := kc_38; have := kc_41; have := kc_124; omega) (fun j hj => rfl)
        refine mw_aload_n 33 rfl 1 dX10_goesBehind_32 rfl rfl ?_
        refine mw_iload_n 34 rfl 0 dX10_goesBehind_33 rfl rfl ?_
        refine mw_callVv [.int x113] [] 37 rfl dX10_goesBehind_34 ml_X10_218 mc_X10_puts mk_X10_puts rfl rfl (by decide) (w_X10_puts l G (d + 2) ⟨by omega, by omega⟩ hI_s288 x113 (by rw [← t296, ← t290]; have := (r_x113).1; have := (r_x113).2; have := (r_x103).1; have := (r_x103).2; have := (r_x105).1; have := (r_x105).2; have := (r_x107).1; have := (r_x107).2; have := (r_x109).1; have := (r_x109).2; have := (r_x111).1; have := (r_x111).2; have := (r_x293).1; have := (r_x293).2; have := (r_x295).1; have := (r_x295).2; have := kc_0; have := kc_1; have := kc_38; have := kc_41; have := kc_124; omega)) rfl rfl (Nat.le_of_ble_eq_true rfl) (mh_rok (by omega) (by decide)) (fun s298 q299 => ?_)
        obtain ⟨e0_s298, hI_s298, hG_s298⟩ := q299
        have hF_s298 : mh_F S_X10_goesBehind s0 s298 := mh_F_tl hF_s288 hG_s298 (by decide +kernel)
        obtain ⟨x300, t301⟩ : ∃ z : Int32, z = s298.1 57 29 := ⟨_, rfl⟩
        obtain ⟨x302, t303⟩ : ∃ z : Int32, z = s298.1 57 23 := ⟨_, rfl⟩
        rw [← t296, ← t301, ← t290, ← t303] at e0_s298
        have r_x300 : mh_r x300 (1) (201) := ⟨by have := e0_s298.2; have := (r_x295).1; omega, by have := e0_s298.2; have := (r_x295).2; omega⟩
        have r_x302 : mh_r x302 (1) (201) := ⟨by have := e0_s298.2; have := (r_x103).1; omega, by have := e0_s298.2; have := (r_x103).2; omega⟩
        refine mw_iconst (v := 1) 38 rfl dX10_goesBehind_37 (by decide) ?_
        refine mw_zret dX10_goesBehind_38 rfl (mh_r_wk rc_1 (by decide)) ⟨(1), rfl, ⟨(mh_r_wk rc_1 (by decide)), ?_, ?_, ?_, ?_, ?_, hI_s298, hF_s298⟩⟩
        · skip
          have t304 : x105 = s298.1 57 24 := (t291).trans (hG_s298 57 24 (mh_nsI (by rfl))).1.symm
          have t305 : x107 = s298.1 57 25 := (t292).trans (hG_s298 57 25 (mh_nsI (by rfl))).1.symm
          have t306 : x293 = s298.1 57 27 := (t294).trans (hG_s298 57 27 (mh_nsI (by rfl))).1.symm
          exact (show mh_pb b s298 by unfold mh_pb; rw [← t303, ← t304, ← t305, ← t306, ← t301]; have := kc_0; have := kc_1; have := (r_x113).1; have := (r_x113).2; have := (rc_1).1; have := (rc_1).2; have := (r_x103).1; have := (r_x103).2; have := (r_x105).1; have := (r_x105).2; have := (r_x107).1; have := (r_x107).2; have := (r_x109).1; have := (r_x109).2; have := (r_x111).1; have := (r_x111).2; have := (r_x293).1; have := (r_x293).2; have := (r_x295).1; have := (r_x295).2; have := (r_x300).1; have := (r_x300).2; have := (r_x302).1; have := (r_x302).2; have := kc_0; have := kc_1; have := kc_38; have := kc_41; have := kc_124; omega)
        · skip
          exact mh_pk_tr e2_s288 (mh_pk_row ((mh_F_row hG_s298 74 rfl)))
        · skip
          have t307 : x105 = s298.1 57 24 := (t291).trans (hG_s298 57 24 (mh_nsI (by rfl))).1.symm
          have t308 : x107 = s298.1 57 25 := (t292).trans (hG_s298 57 25 (mh_nsI (by rfl))).1.symm
          have t309 : x293 = s298.1 57 27 := (t294).trans (hG_s298 57 27 (mh_nsI (by rfl))).1.symm
          have t310 : x101 = s288.1 57 30 := (t102).trans (hG_s288 57 30 (mh_nsI (by rfl))).1.symm
          have t311 : x101 = s298.1 57 30 := (t310).trans (hG_s298 57 30 (mh_nsI (by rfl))).1.symm
          intro _
          have := congrArg Int32.toInt t104
          have := congrArg Int32.toInt t106
          have := congrArg Int32.toInt t108
          have := congrArg Int32.toInt t110
          have := congrArg Int32.toInt t112
          have := congrArg Int32.toInt t290
          have := congrArg Int32.toInt t291
          have := congrArg Int32.toInt t292
          have := congrArg Int32.toInt t294
          have := congrArg Int32.toInt t296
          have := congrArg Int32.toInt t301
          have := congrArg Int32.toInt t303
          have := congrArg Int32.toInt t307
          have := congrArg Int32.toInt t308
          have := congrArg Int32.toInt t309
          have := (r_x113).1; have := (r_x113).2
          have := (rc_1).1; have := (rc_1).2
          have := (r_x103).1; have := (r_x103).2
          have := (r_x105).1; have := (r_x105).2
          have := (r_x107).1; have := (r_x107).2
          have := (r_x109).1; have := (r_x109).2
          have := (r_x111).1; have := (r_x111).2
          have := (r_x293).1; have := (r_x293).2
          have := (r_x295).1; have := (r_x295).2
          have := (r_x300).1; have := (r_x300).2
          have := (r_x302).1; have := (r_x302).2
          have := kc_0
          have := kc_1
          have := kc_38
          have := kc_41
          have := kc_124
          have hst : (s298.1 57 29).toInt.toNat = x295.toInt.toNat + 1 := by rw [← t301]; omega
          refine ⟨?_, ?_, ?_, ?_⟩
          · intro hg9
            have hB := e1_s288 (by rw [← t292]; omega)
            rw [← t294, ← t296] at hB
            have h74 : s298.1 74 = s288.1 74 := (mh_F_row hG_s298 74 rfl)
            have hcod : (s298.1 57 27).toInt = x293.toInt := by rw [← t309]
            rw [h74, e0_s298.1, hcod, hst]
            exact mh_pdr_pb hB (by show ¬ (_ ∨ _ ∨ _); omega)
          · rw [hst, e0_s298.1]
            exact mh_cq_psh hcq1 (by unfold mh_cs; omega)
          · rw [← t311, ← t102]
          · omega
        · skip
          intro q
          exact absurd q (by decide)
        · skip
          have t312 : x105 = s298.1 57 24 := (t291).trans (hG_s298 57 24 (mh_nsI (by rfl))).1.symm
          have t313 : x107 = s298.1 57 25 := (t292).trans (hG_s298 57 25 (mh_nsI (by rfl))).1.symm
          have t314 : x293 = s298.1 57 27 := (t294).trans (hG_s298 57 27 (mh_nsI (by rfl))).1.symm
          have := congrArg Int32.toInt t104
          have := congrArg Int32.toInt t106
          have := congrArg Int32.toInt t108
          have := congrArg Int32.toInt t110
          have := congrArg Int32.toInt t112
          have := congrArg Int32.toInt t290
          have := congrArg Int32.toInt t291
          have := congrArg Int32.toInt t292
          have := congrArg Int32.toInt t294
          have := congrArg Int32.toInt t296
          have := congrArg Int32.toInt t301
          have := congrArg Int32.toInt t303
          have := congrArg Int32.toInt t312
          have := congrArg Int32.toInt t313
          have := congrArg Int32.toInt t314
          have := (r_x113).1; have := (r_x113).2
          have := (rc_1).1; have := (rc_1).2
          have := (r_x103).1; have := (r_x103).2
          have := (r_x105).1; have := (r_x105).2
          have := (r_x107).1; have := (r_x107).2
          have := (r_x109).1; have := (r_x109).2
          have := (r_x111).1; have := (r_x111).2
          have := (r_x293).1; have := (r_x293).2
          have := (r_x295).1; have := (r_x295).2
          have := (r_x300).1; have := (r_x300).2
          have := (r_x302).1; have := (r_x302).2
          have := kc_0
          have := kc_1
          have := kc_38
          have := kc_41
          have := kc_124
          omega

def S_X10_condition : List (Nat × Nat) := [(57, 30), (57, 28), (76, 9999), (57, 29), (57, 23), (57, 25), (74, 9999), (75, 9999), (57, 27), (57, 31)]
def P_X10_condition (B D : Int) (s0 : mh_H) (b : Int) : mh_H → Prop := fun s => (mh_pb b s) ∧ (mh_pk b s0 s) ∧ ((s.1 57 25).toInt = 0 → (s.1 57 29).toInt = 0 ∧ mh_pd b 1 s) ∧ ((s0.1 57 23).toInt ≤ (s.1 57 23).toInt) ∧ mh_I B D s ∧ mh_F S_X10_condition s0 s
set_option maxRecDepth 100000 in
set_option maxHeartbeats 4000000 in
theorem w_X10_condition (l : Launch) (G : mh_G) (d : Nat) {B D : Int} (hB : B ≤ 1880000000 ∧ D ≤ 1880000000) {s0 : mh_H} (hI0 : mh_I B D s0) (b : Int) (hb : mh_pb b s0) (hd : mh_pd b 0 s0) (hg : (s0.1 57 25).toInt = 0) (hz : (s0.1 57 29).toInt = 0) : mh_Mv l G (d + 6) mM_X10_condition [.ref (G.2.2.2 57)] s0 (P_X10_condition B D s0 b) := by
  refine mh_enter (lv := [(0, .ref (G.2.2.2 57))]) (by decide) rfl (Nat.le_of_ble_eq_true rfl) ?_
  have hF0 : mh_F S_X10_condition s0 s0 := mh_F_rf
  obtain ⟨x229, t230⟩ : ∃ z : Int32, z = s0.1 57 23 := ⟨_, rfl⟩
  obtain ⟨x231, t232⟩ : ∃ z : Int32, z = s0.1 57 24 := ⟨_, rfl⟩
  obtain ⟨x233, t234⟩ : ∃ z : Int32, z = s0.1 57 25 := ⟨_, rfl⟩
  obtain ⟨x235, t236⟩ : ∃ z : Int32, z = s0.1 57 27 := ⟨_, rfl⟩
  obtain ⟨x237, t238⟩ : ∃ z : Int32, z = s0.1 57 29 := ⟨_, rfl⟩
  have pb_s0 : 0 ≤ x229.toInt ∧ x229.toInt ≤ x231.toInt ∧ x231.toInt ≤ 200 ∧ 0 ≤ x237.toInt ∧ 0 ≤ b ∧ b ≤ x235.toInt ∧ x237.toInt + x235.toInt ≤ x229.toInt ∧ x233.toInt ≤ 0 := by have h9 := hb; unfold mh_pb at h9; rw [← t230, ← t232, ← t234, ← t236, ← t238] at h9; exact h9
  have r_x229 : mh_r x229 (0) (200) := ⟨by have := ((mh_r_full x229)).1; omega, by have := ((mh_r_full x229)).2; omega⟩
  have r_x231 : mh_r x231 (0) (200) := ⟨by have := ((mh_r_full x231)).1; omega, by have := ((mh_r_full x231)).2; omega⟩
  have r_x233 : mh_r x233 (-2147483648) (0) := ⟨by have := ((mh_r_full x233)).1; omega, by have := ((mh_r_full x233)).2; omega⟩
  have r_x235 : mh_r x235 (0) (200) := ⟨by have := ((mh_r_full x235)).1; omega, by have := ((mh_r_full x235)).2; omega⟩
  have r_x237 : mh_r x237 (0) (200) := ⟨by have := ((mh_r_full x237)).1; omega, by have := ((mh_r_full x237)).2; omega⟩
  rw [← t234] at hg
  rw [← t238] at hz
  have r_x233 : mh_r x233 (0) (0) := ⟨by omega, by omega⟩
  have r_x237 : mh_r x237 (0) (0) := ⟨by omega, by omega⟩
  refine mw_aload_n 1 rfl 0 dX10_condition_0 rfl rfl ?_
  refine mw_iconst (v := 0) 2 rfl dX10_condition_1 (by decide) ?_
  refine mw_putz 5 rfl dX10_condition_2 pf_X10_275 rfl (mh_r_wk rc_0 (by decide)) (fun s239 t240 => ?_)
  have hI_s239 : mh_I B D s239 := by rw [t240]; exact wr_57_30 hI0 (mh_r_wk rc_0 (by decide))
  have hF_s239 : mh_F S_X10_condition s0 s239 := by rw [t240]; exact mh_F_pI hF0 (mh_sj 0 rfl)
  refine mw_aload_n 6 rfl 0 dX10_condition_5 rfl rfl ?_
  have t241 : x229 = s239.1 57 23 := by rw [t240]; exact (t230).trans (mh_pI_n (by omega)).symm
  have t242 : x231 = s239.1 57 24 := by rw [t240]; exact (t232).trans (mh_pI_n (by omega)).symm
  refine mw_callVi [] [] 9 rfl dX10_condition_6 ml_X10_214 mc_X10_here mk_X10_here rfl rfl (by decide) (w_X10_here l G (d + 5) ⟨by omega, by omega⟩ hI_s239 (by rw [← t241, ← t242]; have := (r_x229).1; have := (r_x229).2; have := (r_x231).1; have := (r_x231).2; have := (r_x233).1; have := (r_x233).2; have := (r_x235).1; have := (r_x235).2; have := (r_x237).1; have := (r_x237).2; have := kc_0; have := kc_1; have := kc_40; omega)) rfl rfl (Nat.le_of_ble_eq_true rfl) (mh_rok (by omega) (by decide)) (fun x243 s244 q245 => ?_)
  obtain ⟨r_x243, e0_s244, rfl⟩ := q245
  have hq_x243 : x243.toInt ≠ 0 → x229.toInt < x231.toInt := fun q => by rw [t241, t242]; exact mh_hr_lt (by rw [← e0_s244]; exact q)
  refine mw_bipush (v := 40) 11 rfl dX10_condition_9 (by decide) ?_
  refine mw_icmp_eq 14 rfl 23 dX10_condition_11 (by decide) (fun c246 => ?_) (fun c246 => ?_)
  · skip
    have r_x243 : mh_r x243 (40) (40) := mh_eq1 c246 r_x243 rc_40 (40) (40) (by decide)
    refine mw_aload_n 24 rfl 0 dX10_condition_23 rfl rfl ?_
    refine mw_callVi [] [] 27 rfl dX10_condition_24 ml_X10_197 mc_X10_isGood mk_X10_isGood rfl rfl (by decide) (w_X10_isGood l G (d + 5) ⟨by omega, by omega⟩ hI_s239) rfl rfl (Nat.le_of_ble_eq_true rfl) (mh_rok (by omega) (by decide)) (fun x247 s248 q249 => ?_)
    obtain ⟨r_x247, e0_s248, rfl⟩ := q249
    have t250 : x233 = s239.1 57 25 := by rw [t240]; exact (t234).trans (mh_pI_n (by omega)).symm
    rw [← t250] at e0_s248
    refine mw_if_ne 30 rfl 31 dX10_condition_27 (by decide) (fun c251 => ?_) (fun c251 => ?_)
    · skip
      have r_x247 : mh_r x247 (1) (1) := mh_ne1 (show x247.toInt ≠ (0 : Int32).toInt from c251) r_x247 rc_0 (1) (1) (by decide)
      refine mw_aload_n 32 rfl 0 dX10_condition_31 rfl rfl ?_
      have t252 : x235 = s239.1 57 27 := by rw [t240]; exact (t236).trans (mh_pI_n (by omega)).symm
      have t253 : x237 = s239.1 57 29 := by rw [t240]; exact (t238).trans (mh_pI_n (by omega)).symm
      refine mw_callVv [] [] 35 rfl dX10_condition_32 ml_X10_240 mc_X10_opens mk_X10_opens rfl rfl (by decide) (w_X10_opens l G (d + 4) ⟨by omega, by omega⟩ hI_s239 b (show mh_pb b s239 by unfold mh_pb; rw [← t241, ← t242, ← t250, ← t252, ← t253]; have := kc_0; have := kc_1; have := (r_x229).1; have := (r_x229).2; have := (r_x231).1; have := (r_x231).2; have := (r_x233).1; have := (r_x233).2; have := (r_x235).1; have := (r_x235).2; have := (r_x237).1; have := (r_x237).2; have := kc_0; have := kc_1; have := kc_40; omega) (by have := congrArg Int32.toInt t230; have := congrArg Int32.toInt t232; have := congrArg Int32.toInt t234; have := congrArg Int32.toInt t236; have := congrArg Int32.toInt t238; have := congrArg Int32.toInt t241; have := congrArg Int32.toInt t242; have := congrArg Int32.toInt t250; have := congrArg Int32.toInt t252; have := congrArg Int32.toInt t253; have := (r_x229).1; have := (r_x229).2; have := (r_x231).1; have := (r_x231).2; have := (r_x233).1; have := (r_x233).2; have := (r_x235).1; have := (r_x235).2; have := (r_x237).1; have := (r_x237).2; have := kc_0; have := kc_1; have := kc_40; omega)) rfl rfl (Nat.le_of_ble_eq_true rfl) (mh_rok (by omega) (by decide)) (fun s255 q256 => ?_)
      obtain ⟨e0_s255, e1_s255, e2_s255, hI_s255, hG_s255⟩ := q256
      have hF_s255 : mh_F S_X10_condition s0 s255 := mh_F_tl hF_s239 hG_s255 (by decide +kernel)
      obtain ⟨x257, t258⟩ : ∃ z : Int32, z = s255.1 57 23 := ⟨_, rfl⟩
      have t259 : x231 = s255.1 57 24 := (t242).trans (hG_s255 57 24 (mh_nsI (by rfl))).1.symm
      obtain ⟨x260, t261⟩ : ∃ z : Int32, z = s255.1 57 25 := ⟨_, rfl⟩
      have t262 : x235 = s255.1 57 27 := (t252).trans (hG_s255 57 27 (mh_nsI (by rfl))).1.symm
      obtain ⟨x263, t264⟩ : ∃ z : Int32, z = s255.1 57 29 := ⟨_, rfl⟩
      have pb_s255 : 0 ≤ x257.toInt ∧ x257.toInt ≤ x231.toInt ∧ x231.toInt ≤ 200 ∧ 0 ≤ x263.toInt ∧ 0 ≤ b ∧ b ≤ x235.toInt ∧ x263.toInt + x235.toInt ≤ x257.toInt ∧ x260.toInt ≤ 0 := by have h9 := e0_s255; unfold mh_pb at h9; rw [← t258, ← t259, ← t261, ← t262, ← t264] at h9; exact h9
      have r_x257 : mh_r x257 (0) (200) := ⟨by have := ((mh_r_full x257)).1; omega, by have := ((mh_r_full x257)).2; omega⟩
      have r_x260 : mh_r x260 (-2147483648) (0) := ⟨by have := ((mh_r_full x260)).1; omega, by have := ((mh_r_full x260)).2; omega⟩
      have r_x263 : mh_r x263 (0) (200) := ⟨by have := ((mh_r_full x263)).1; omega, by have := ((mh_r_full x263)).2; omega⟩
      have hop_s255 := e2_s255
      rw [← t264, ← t258, ← t261, ← t253, ← t241, ← t250] at hop_s255
      refine mw_iconst (v := 1) 36 rfl dX10_condition_35 (by decide) ?_
      refine mw_istore_n 37 rfl [(1, .int (1)), (0, .ref (G.2.2.2 57))] dX10_condition_36 rfl (by decide) rfl ?_
      have L37 : ∀ n1 : Nat, ∀ (x319 : Int32) (s320 : mh_H), mh_r x319 (0) (1) → mh_I B D s320 → mh_F S_X10_condition s0 s320 → (mh_pb b s320 ∧ mh_pk b s0 s320 ∧ (s0.1 57 23).toInt ≤ (s320.1 57 23).toInt ∧ ((s320.1 57 25).toInt = 0 → ((s320.1 57 30).toInt = 1 → (s320.1 57 29).toInt = 0 ∧ mh_pd b 1 s320) ∧ ((s320.1 57 30).toInt = 0 → mh_cq (s320.1 76) (s320.1 57 29).toInt.toNat ∧ (x319.toInt = 1 → mh_pd b 0 s320) ∧ (x319.toInt = 0 → mh_pd b 1 s320)))) → 2 * (200 - (s320.1 57 23).toInt) + max (s320.1 57 25).toInt (-1) + 1 < (n1 : Int) → mh_W G (mh_XM l G (d + 6) (mh_Qv (P_X10_condition B D s0 b))) mM_X10_condition 37 [(0, .ref (G.2.2.2 57)), (1, .int x319)] [] s320 := by
        intro n1
        induction n1 with
        | zero =>
          intro x319 s320 r_x319 hI_s320 hF_s320 iv hmn1
          exact absurd hmn1 (by have h9 := iv.1; unfold mh_pb at h9; omega)
        | succ n1 ihn1 =>
          intro x319 s320 r_x319 hI_s320 hF_s320 iv hmn1
          obtain ⟨x388, t389⟩ : ∃ z : Int32, z = s320.1 57 23 := ⟨_, rfl⟩
          obtain ⟨x390, t391⟩ : ∃ z : Int32, z = s320.1 57 24 := ⟨_, rfl⟩
          obtain ⟨x392, t393⟩ : ∃ z : Int32, z = s320.1 57 25 := ⟨_, rfl⟩
          obtain ⟨x394, t395⟩ : ∃ z : Int32, z = s320.1 57 27 := ⟨_, rfl⟩
          obtain ⟨x396, t397⟩ : ∃ z : Int32, z = s320.1 57 29 := ⟨_, rfl⟩
          have pb_s320 : 0 ≤ x388.toInt ∧ x388.toInt ≤ x390.toInt ∧ x390.toInt ≤ 200 ∧ 0 ≤ x396.toInt ∧ 0 ≤ b ∧ b ≤ x394.toInt ∧ x396.toInt + x394.toInt ≤ x388.toInt ∧ x392.toInt ≤ 0 := by have h9 := iv.1; unfold mh_pb at h9; rw [← t389, ← t391, ← t393, ← t395, ← t397] at h9; exact h9
          have r_x388 : mh_r x388 (0) (200) := ⟨by have := ((mh_r_full x388)).1; omega, by have := ((mh_r_full x388)).2; omega⟩
          have r_x390 : mh_r x390 (0) (200) := ⟨by have := ((mh_r_full x390)).1; omega, by have := ((mh_r_full x390)).2; omega⟩
          have r_x392 : mh_r x392 (-2147483648) (0) := ⟨by have := ((mh_r_full x392)).1; omega, by have := ((mh_r_full x392)).2; omega⟩
          have r_x394 : mh_r x394 (0) (200) := ⟨by have := ((mh_r_full x394)).1; omega, by have := ((mh_r_full x394)).2; omega⟩
          have r_x396 : mh_r x396 (0) (200) := ⟨by have := ((mh_r_full x396)).1; omega, by have := ((mh_r_full x396)).2; omega⟩
          obtain ⟨x398, t399⟩ : ∃ z : Int32, z = s320.1 57 30 := ⟨_, rfl⟩
          have r_x398 : mh_r x398 (0) (1) := by rw [t399]; exact rd_57_30 hI_s320
          refine mw_aload_n 38 rfl 0 dX10_condition_37 rfl rfl ?_
          refine mw_callVi [] [] 41 rfl dX10_condition_38 ml_X10_197 mc_X10_isGood mk_X10_isGood rfl rfl (by decide) (w_X10_isGood l G (d + 5) ⟨by omega, by omega⟩ hI_s320) rfl rfl (Nat.le_of_ble_eq_true rfl) (mh_rok (by omega) (by decide)) (fun x400 s401 q402 => ?_)
          obtain ⟨r_x400, e0_s401, rfl⟩ := q402
          rw [← t393] at e0_s401
          refine mw_if_eq 44 rfl 74 dX10_condition_41 (by decide) (fun c403 => ?_) (fun c403 => ?_)
          · skip
            have r_x392 : mh_r x392 (-2147483648) (-1) := ⟨(r_x392).1, by have := (r_x392).2; have : x392.toInt ≠ 0 := (fun q => by have := e0_s401.2 q; have := c403; omega); omega⟩
            have r_x400 : mh_r x400 (0) (0) := mh_eq1 (show x400.toInt = (0 : Int32).toInt from c403) r_x400 rc_0 (0) (0) (by decide)
            refine mw_vret dX10_condition_74 rfl ⟨rfl, ⟨?_, ?_, ?_, ?_, hI_s320, hF_s320⟩⟩
            · skip
              exact (show mh_pb b s320 by unfold mh_pb; rw [← t389, ← t391, ← t393, ← t395, ← t397]; have := kc_0; have := kc_1; have := (r_x319).1; have := (r_x319).2; have := (r_x229).1; have := (r_x229).2; have := (r_x231).1; have := (r_x231).2; have := (r_x233).1; have := (r_x233).2; have := (r_x235).1; have := (r_x235).2; have := (r_x237).1; have := (r_x237).2; have := (r_x257).1; have := (r_x257).2; have := (r_x260).1; have := (r_x260).2; have := (r_x263).1; have := (r_x263).2; have := (r_x388).1; have := (r_x388).2; have := (r_x390).1; have := (r_x390).2; have := (r_x392).1; have := (r_x392).2; have := (r_x394).1; have := (r_x394).2; have := (r_x396).1; have := (r_x396).2; have := (r_x398).1; have := (r_x398).2; have := kc_0; have := kc_1; have := kc_40; omega)
            · skip
              exact mh_pk_tr iv.2.1 (mh_pk_row (rfl))
            · skip
              intro hg9
              exfalso
              have := congrArg Int32.toInt t230
              have := congrArg Int32.toInt t232
              have := congrArg Int32.toInt t234
              have := congrArg Int32.toInt t236
              have := congrArg Int32.toInt t238
              have := congrArg Int32.toInt t241
              have := congrArg Int32.toInt t242
              have := congrArg Int32.toInt t250
              have := congrArg Int32.toInt t252
              have := congrArg Int32.toInt t253
              have := congrArg Int32.toInt t258
              have := congrArg Int32.toInt t259
              have := congrArg Int32.toInt t261
              have := congrArg Int32.toInt t262
              have := congrArg Int32.toInt t264
              have := congrArg Int32.toInt t389
              have := congrArg Int32.toInt t391
              have := congrArg Int32.toInt t393
              have := congrArg Int32.toInt t395
              have := congrArg Int32.toInt t397
              have := (r_x319).1; have := (r_x319).2
              have := (r_x229).1; have := (r_x229).2
              have := (r_x231).1; have := (r_x231).2
              have := (r_x233).1; have := (r_x233).2
              have := (r_x235).1; have := (r_x235).2
              have := (r_x237).1; have := (r_x237).2
              have := (r_x257).1; have := (r_x257).2
              have := (r_x260).1; have := (r_x260).2
              have := (r_x263).1; have := (r_x263).2
              have := (r_x388).1; have := (r_x388).2
              have := (r_x390).1; have := (r_x390).2
              have := (r_x392).1; have := (r_x392).2
              have := (r_x394).1; have := (r_x394).2
              have := (r_x396).1; have := (r_x396).2
              have := (r_x398).1; have := (r_x398).2
              have := kc_0
              have := kc_1
              have := kc_40
              omega
            · skip
              have := congrArg Int32.toInt t230
              have := congrArg Int32.toInt t232
              have := congrArg Int32.toInt t234
              have := congrArg Int32.toInt t236
              have := congrArg Int32.toInt t238
              have := congrArg Int32.toInt t241
              have := congrArg Int32.toInt t242
              have := congrArg Int32.toInt t250
              have := congrArg Int32.toInt t252
              have := congrArg Int32.toInt t253
              have := congrArg Int32.toInt t258
              have := congrArg Int32.toInt t259
              have := congrArg Int32.toInt t261
              have := congrArg Int32.toInt t262
              have := congrArg Int32.toInt t264
              have := congrArg Int32.toInt t389
              have := congrArg Int32.toInt t391
              have := congrArg Int32.toInt t393
              have := congrArg Int32.toInt t395
              have := congrArg Int32.toInt t397
              have := (r_x319).1; have := (r_x319).2
              have := (r_x229).1; have := (r_x229).2
              have := (r_x231).1; have := (r_x231).2
              have := (r_x233).1; have := (r_x233).2
              have := (r_x235).1; have := (r_x235).2
              have := (r_x237).1; have := (r_x237).2
              have := (r_x257).1; have := (r_x257).2
              have := (r_x260).1; have := (r_x260).2
              have := (r_x263).1; have := (r_x263).2
              have := (r_x388).1; have := (r_x388).2
              have := (r_x390).1; have := (r_x390).2
              have := (r_x392).1; have := (r_x392).2
              have := (r_x394).1; have := (r_x394).2
              have := (r_x396).1; have := (r_x396).2
              have := (r_x398).1; have := (r_x398).2
              have := kc_0
              have := kc_1
              have := kc_40
              have := iv.2.2.1
              omega
          · skip
            have r_x392 : mh_r x392 (0) (0) := ⟨by have := e0_s401.1 (mh_z1 r_x400 c403); omega, by have := e0_s401.1 (mh_z1 r_x400 c403); omega⟩
            have r_x400 : mh_r x400 (1) (1) := mh_ne1 (show x400.toInt ≠ (0 : Int32).toInt from c403) r_x400 rc_0 (1) (1) (by decide)
            refine mw_aload_n 45 rfl 0 dX10_condition_44 rfl rfl ?_
            refine mw_geti 48 rfl dX10_condition_45 gf_X10_275 rfl (fun x404 t405 => ?_)
            obtain rfl : x398 = x404 := t399.trans t405.symm
            refine mw_if_ne 51 rfl 74 dX10_condition_48 (by decide) (fun c406 => ?_) (fun c406 => ?_)
            · skip
              have r_x398 : mh_r x398 (1) (1) := mh_ne1 (show x398.toInt ≠ (0 : Int32).toInt from c406) r_x398 rc_0 (1) (1) (by decide)
              refine mw_vret dX10_condition_74 rfl ⟨rfl, ⟨?_, ?_, ?_, ?_, hI_s320, hF_s320⟩⟩
              · skip
                exact (show mh_pb b s320 by unfold mh_pb; rw [← t389, ← t391, ← t393, ← t395, ← t397]; have := kc_0; have := kc_1; have := (r_x319).1; have := (r_x319).2; have := (r_x229).1; have := (r_x229).2; have := (r_x231).1; have := (r_x231).2; have := (r_x233).1; have := (r_x233).2; have := (r_x235).1; have := (r_x235).2; have := (r_x237).1; have := (r_x237).2; have := (r_x257).1; have := (r_x257).2; have := (r_x260).1; have := (r_x260).2; have := (r_x263).1; have := (r_x263).2; have := (r_x388).1; have := (r_x388).2; have := (r_x390).1; have := (r_x390).2; have := (r_x392).1; have := (r_x392).2; have := (r_x394).1; have := (r_x394).2; have := (r_x396).1; have := (r_x396).2; have := (r_x398).1; have := (r_x398).2; have := kc_0; have := kc_1; have := kc_40; omega)
              · skip
                exact mh_pk_tr iv.2.1 (mh_pk_row (rfl))
              · skip
                intro hg9
                have := congrArg Int32.toInt t230
                have := congrArg Int32.toInt t232
                have := congrArg Int32.toInt t234
                have := congrArg Int32.toInt t236
                have := congrArg Int32.toInt t238
                have := congrArg Int32.toInt t241
                have := congrArg Int32.toInt t242
                have := congrArg Int32.toInt t250
                have := congrArg Int32.toInt t252
                have := congrArg Int32.toInt t253
                have := congrArg Int32.toInt t258
                have := congrArg Int32.toInt t259
                have := congrArg Int32.toInt t261
                have := congrArg Int32.toInt t262
                have := congrArg Int32.toInt t264
                have := congrArg Int32.toInt t389
                have := congrArg Int32.toInt t391
                have := congrArg Int32.toInt t393
                have := congrArg Int32.toInt t395
                have := congrArg Int32.toInt t397
                have := (r_x319).1; have := (r_x319).2
                have := (r_x229).1; have := (r_x229).2
                have := (r_x231).1; have := (r_x231).2
                have := (r_x233).1; have := (r_x233).2
                have := (r_x235).1; have := (r_x235).2
                have := (r_x237).1; have := (r_x237).2
                have := (r_x257).1; have := (r_x257).2
                have := (r_x260).1; have := (r_x260).2
                have := (r_x263).1; have := (r_x263).2
                have := (r_x388).1; have := (r_x388).2
                have := (r_x390).1; have := (r_x390).2
                have := (r_x392).1; have := (r_x392).2
                have := (r_x394).1; have := (r_x394).2
                have := (r_x396).1; have := (r_x396).2
                have := (r_x398).1; have := (r_x398).2
                have := kc_0
                have := kc_1
                have := kc_40
                have := congrArg Int32.toInt t399
                have := (r_x319).1; have := (r_x319).2
                have := (r_x229).1; have := (r_x229).2
                have := (r_x231).1; have := (r_x231).2
                have := (r_x233).1; have := (r_x233).2
                have := (r_x235).1; have := (r_x235).2
                have := (r_x237).1; have := (r_x237).2
                have := (r_x257).1; have := (r_x257).2
                have := (r_x260).1; have := (r_x260).2
                have := (r_x263).1; have := (r_x263).2
                have := (r_x388).1; have := (r_x388).2
                have := (r_x390).1; have := (r_x390).2
                have := (r_x392).1; have := (r_x392).2
                have := (r_x394).1; have := (r_x394).2
                have := (r_x396).1; have := (r_x396).2
                have := (r_x398).1; have := (r_x398).2
                have := kc_0
                have := kc_1
                have := kc_40
                exact (iv.2.2.2 hg9).1 (by omega)
              · skip
                have := congrArg Int32.toInt t230
                have := congrArg Int32.toInt t232
                have := congrArg Int32.toInt t234
                have := congrArg Int32.toInt t236
                have := congrArg Int32.toInt t238
                have := congrArg Int32.toInt t241
                have := congrArg Int32.toInt t242
                have := congrArg Int32.toInt t250
                have := congrArg Int32.toInt t252
                have := congrArg Int32.toInt t253
                have := congrArg Int32.toInt t258
                have := congrArg Int32.toInt t259
                have := congrArg Int32.toInt t261
                have := congrArg Int32.toInt t262
                have := congrArg Int32.toInt t264
                have := congrArg Int32.toInt t389
                have := congrArg Int32.toInt t391
                have := congrArg Int32.toInt t393
                have := congrArg Int32.toInt t395
                have := congrArg Int32.toInt t397
                have := (r_x319).1; have := (r_x319).2
                have := (r_x229).1; have := (r_x229).2
                have := (r_x231).1; have := (r_x231).2
                have := (r_x233).1; have := (r_x233).2
                have := (r_x235).1; have := (r_x235).2
                have := (r_x237).1; have := (r_x237).2
                have := (r_x257).1; have := (r_x257).2
                have := (r_x260).1; have := (r_x260).2
                have := (r_x263).1; have := (r_x263).2
                have := (r_x388).1; have := (r_x388).2
                have := (r_x390).1; have := (r_x390).2
                have := (r_x392).1; have := (r_x392).2
                have := (r_x394).1; have := (r_x394).2
                have := (r_x396).1; have := (r_x396).2
                have := (r_x398).1; have := (r_x398).2
                have := kc_0
                have := kc_1
                have := kc_40
                have := iv.2.2.1
                omega
            · skip
              have r_x398 : mh_r x398 (0) (0) := mh_eq1 (show x398.toInt = (0 : Int32).toInt from c406) r_x398 rc_0 (0) (0) (by decide)
              refine mw_iload_n 52 rfl 1 dX10_condition_51 rfl rfl ?_
              refine mw_if_eq 55 rfl 59 dX10_condition_52 (by decide) (fun c407 => ?_) (fun c407 => ?_)
              · skip
                have r_x319 : mh_r x319 (0) (0) := mh_eq1 (show x319.toInt = (0 : Int32).toInt from c407) r_x319 rc_0 (0) (0) (by decide)
                refine mw_aload_n 60 rfl 0 dX10_condition_59 rfl rfl ?_
                refine mw_callVi [] [] 63 rfl dX10_condition_60 ml_X10_197 mc_X10_isGood mk_X10_isGood rfl rfl (by decide) (w_X10_isGood l G (d + 5) ⟨by omega, by omega⟩ hI_s320) rfl rfl (Nat.le_of_ble_eq_true rfl) (mh_rok (by omega) (by decide)) (fun x408 s409 q410 => ?_)
                obtain ⟨r_x408, e0_s409, rfl⟩ := q410
                rw [← t393] at e0_s409
                refine mw_if_eq 66 rfl 37 dX10_condition_63 (by decide) (fun c411 => ?_) (fun c411 => ?_)
                · skip
                  exact absurd (e0_s409.2 (by have := (r_x392).1; have := (r_x392).2; omega)) (by have := c411; omega)
                · skip
                  have r_x408 : mh_r x408 (1) (1) := mh_ne1 (show x408.toInt ≠ (0 : Int32).toInt from c411) r_x408 rc_0 (1) (1) (by decide)
                  refine mw_aload_n 67 rfl 0 dX10_condition_66 rfl rfl ?_
                  refine mw_callVi [] [] 70 rfl dX10_condition_67 ml_X10_281 mc_X10_goesBehind mk_X10_goesBehind rfl rfl (by decide) (w_X10_goesBehind l G (d + 2) ⟨by omega, by omega⟩ hI_s320 b (show mh_pb b s320 by unfold mh_pb; rw [← t389, ← t391, ← t393, ← t395, ← t397]; have := kc_0; have := kc_1; have := (r_x319).1; have := (r_x319).2; have := (r_x229).1; have := (r_x229).2; have := (r_x231).1; have := (r_x231).2; have := (r_x233).1; have := (r_x233).2; have := (r_x235).1; have := (r_x235).2; have := (r_x237).1; have := (r_x237).2; have := (r_x257).1; have := (r_x257).2; have := (r_x260).1; have := (r_x260).2; have := (r_x263).1; have := (r_x263).2; have := (r_x388).1; have := (r_x388).2; have := (r_x390).1; have := (r_x390).2; have := (r_x392).1; have := (r_x392).2; have := (r_x394).1; have := (r_x394).2; have := (r_x396).1; have := (r_x396).2; have := (r_x398).1; have := (r_x398).2; have := kc_0; have := kc_1; have := kc_40; omega) (((iv.2.2.2 (by rw [← t393]; have := (r_x319).1; have := (r_x319).2; have := (r_x229).1; have := (r_x229).2; have := (r_x231).1; have := (r_x231).2; have := (r_x233).1; have := (r_x233).2; have := (r_x235).1; have := (r_x235).2; have := (r_x237).1; have := (r_x237).2; have := (r_x257).1; have := (r_x257).2; have := (r_x260).1; have := (r_x260).2; have := (r_x263).1; have := (r_x263).2; have := (r_x388).1; have := (r_x388).2; have := (r_x390).1; have := (r_x390).2; have := (r_x392).1; have := (r_x392).2; have := (r_x394).1; have := (r_x394).2; have := (r_x396).1; have := (r_x396).2; have := (r_x398).1; have := (r_x398).2; have := kc_0; have := kc_1; have := kc_40; omega)).2 (by rw [← t399]; have := (r_x319).1; have := (r_x319).2; have := (r_x229).1; have := (r_x229).2; have := (r_x231).1; have := (r_x231).2; have := (r_x233).1; have := (r_x233).2; have := (r_x235).1; have := (r_x235).2; have := (r_x237).1; have := (r_x237).2; have := (r_x257).1; have := (r_x257).2; have := (r_x260).1; have := (r_x260).2; have := (r_x263).1; have := (r_x263).2; have := (r_x388).1; have := (r_x388).2; have := (r_x390).1; have := (r_x390).2; have := (r_x392).1; have := (r_x392).2; have := (r_x394).1; have := (r_x394).2; have := (r_x396).1; have := (r_x396).2; have := (r_x398).1; have := (r_x398).2; have := kc_0; have := kc_1; have := kc_40; omega)).2.2 (by have := r_x319.1; have := r_x319.2; have := (r_x319).1; have := (r_x319).2; have := (r_x229).1; have := (r_x229).2; have := (r_x231).1; have := (r_x231).2; have := (r_x233).1; have := (r_x233).2; have := (r_x235).1; have := (r_x235).2; have := (r_x237).1; have := (r_x237).2; have := (r_x257).1; have := (r_x257).2; have := (r_x260).1; have := (r_x260).2; have := (r_x263).1; have := (r_x263).2; have := (r_x388).1; have := (r_x388).2; have := (r_x390).1; have := (r_x390).2; have := (r_x392).1; have := (r_x392).2; have := (r_x394).1; have := (r_x394).2; have := (r_x396).1; have := (r_x396).2; have := (r_x398).1; have := (r_x398).2; have := kc_0; have := kc_1; have := kc_40; omega)) (by rw [← t393]; have := (r_x319).1; have := (r_x319).2; have := (r_x229).1; have := (r_x229).2; have := (r_x231).1; have := (r_x231).2; have := (r_x233).1; have := (r_x233).2; have := (r_x235).1; have := (r_x235).2; have := (r_x237).1; have := (r_x237).2; have := (r_x257).1; have := (r_x257).2; have := (r_x260).1; have := (r_x260).2; have := (r_x263).1; have := (r_x263).2; have := (r_x388).1; have := (r_x388).2; have := (r_x390).1; have := (r_x390).2; have := (r_x392).1; have := (r_x392).2; have := (r_x394).1; have := (r_x394).2; have := (r_x396).1; have := (r_x396).2; have := (r_x398).1; have := (r_x398).2; have := kc_0; have := kc_1; have := kc_40; omega) (((iv.2.2.2 (by rw [← t393]; have := (r_x319).1; have := (r_x319).2; have := (r_x229).1; have := (r_x229).2; have := (r_x231).1; have := (r_x231).2; have := (r_x233).1; have := (r_x233).2; have := (r_x235).1; have := (r_x235).2; have := (r_x237).1; have := (r_x237).2; have := (r_x257).1; have := (r_x257).2; have := (r_x260).1; have := (r_x260).2; have := (r_x263).1; have := (r_x263).2; have := (r_x388).1; have := (r_x388).2; have := (r_x390).1; have := (r_x390).2; have := (r_x392).1; have := (r_x392).2; have := (r_x394).1; have := (r_x394).2; have := (r_x396).1; have := (r_x396).2; have := (r_x398).1; have := (r_x398).2; have := kc_0; have := kc_1; have := kc_40; omega)).2 (by rw [← t399]; have := (r_x319).1; have := (r_x319).2; have := (r_x229).1; have := (r_x229).2; have := (r_x231).1; have := (r_x231).2; have := (r_x233).1; have := (r_x233).2; have := (r_x235).1; have := (r_x235).2; have := (r_x237).1; have := (r_x237).2; have := (r_x257).1; have := (r_x257).2; have := (r_x260).1; have := (r_x260).2; have := (r_x263).1; have := (r_x263).2; have := (r_x388).1; have := (r_x388).2; have := (r_x390).1; have := (r_x390).2; have := (r_x392).1; have := (r_x392).2; have := (r_x394).1; have := (r_x394).2; have := (r_x396).1; have := (r_x396).2; have := (r_x398).1; have := (r_x398).2; have := kc_0; have := kc_1; have := kc_40; omega)).1)) rfl rfl (Nat.le_of_ble_eq_true rfl) (mh_rok (by omega) (by decide)) (fun x412 s413 q414 => ?_)
                  obtain ⟨r_x412, e0_s413, e1_s413, e2_s413, e3_s413, e4_s413, hI_s413, hG_s413⟩ := q414
                  have hF_s413 : mh_F S_X10_condition s0 s413 := mh_F_tl hF_s320 hG_s413 (by decide +kernel)
                  obtain ⟨x415, t416⟩ : ∃ z : Int32, z = s413.1 57 23 := ⟨_, rfl⟩
                  have t417 : x390 = s413.1 57 24 := (t391).trans (hG_s413 57 24 (mh_nsI (by rfl))).1.symm
                  obtain ⟨x418, t419⟩ : ∃ z : Int32, z = s413.1 57 25 := ⟨_, rfl⟩
                  obtain ⟨x420, t421⟩ : ∃ z : Int32, z = s413.1 57 27 := ⟨_, rfl⟩
                  obtain ⟨x422, t423⟩ : ∃ z : Int32, z = s413.1 57 29 := ⟨_, rfl⟩
                  have pb_s413 : 0 ≤ x415.toInt ∧ x415.toInt ≤ x390.toInt ∧ x390.toInt ≤ 200 ∧ 0 ≤ x422.toInt ∧ 0 ≤ b ∧ b ≤ x420.toInt ∧ x422.toInt + x420.toInt ≤ x415.toInt ∧ x418.toInt ≤ 0 := by have h9 := e0_s413; unfold mh_pb at h9; rw [← t416, ← t417, ← t419, ← t421, ← t423] at h9; exact h9
                  have r_x415 : mh_r x415 (0) (200) := ⟨by have := ((mh_r_full x415)).1; omega, by have := ((mh_r_full x415)).2; omega⟩
                  have r_x418 : mh_r x418 (-2147483648) (0) := ⟨by have := ((mh_r_full x418)).1; omega, by have := ((mh_r_full x418)).2; omega⟩
                  have r_x420 : mh_r x420 (0) (200) := ⟨by have := ((mh_r_full x420)).1; omega, by have := ((mh_r_full x420)).2; omega⟩
                  have r_x422 : mh_r x422 (0) (200) := ⟨by have := ((mh_r_full x422)).1; omega, by have := ((mh_r_full x422)).2; omega⟩
                  obtain ⟨x424, t425⟩ : ∃ z : Int32, z = s413.1 57 30 := ⟨_, rfl⟩
                  have hgb4 := e4_s413
                  rw [← t389, ← t416, ← t419] at hgb4
                  refine mw_istore_n 71 rfl [(1, .int x412), (0, .ref (G.2.2.2 57))] dX10_condition_70 rfl (by decide) rfl ?_
                  refine mw_goto 74 rfl 37 dX10_condition_71 (by decide) ?_
                  exact mw_lv [1, 0] rfl (ihn1 x412 s413 r_x412 hI_s413 hF_s413 (by
                      have := congrArg Int32.toInt t230
                      have := congrArg Int32.toInt t232
                      have := congrArg Int32.toInt t234
                      have := congrArg Int32.toInt t236
                      have := congrArg Int32.toInt t238
                      have := congrArg Int32.toInt t241
                      have := congrArg Int32.toInt t242
                      have := congrArg Int32.toInt t250
                      have := congrArg Int32.toInt t252
                      have := congrArg Int32.toInt t253
                      have := congrArg Int32.toInt t258
                      have := congrArg Int32.toInt t259
                      have := congrArg Int32.toInt t261
                      have := congrArg Int32.toInt t262
                      have := congrArg Int32.toInt t264
                      have := congrArg Int32.toInt t389
                      have := congrArg Int32.toInt t391
                      have := congrArg Int32.toInt t393
                      have := congrArg Int32.toInt t395
                      have := congrArg Int32.toInt t397
                      have := congrArg Int32.toInt t416
                      have := congrArg Int32.toInt t417
                      have := congrArg Int32.toInt t419
                      have := congrArg Int32.toInt t421
                      have := congrArg Int32.toInt t423
                      have := (r_x412).1; have := (r_x412).2
                      have := (r_x229).1; have := (r_x229).2
                      have := (r_x231).1; have := (r_x231).2
                      have := (r_x233).1; have := (r_x233).2
                      have := (r_x235).1; have := (r_x235).2
                      have := (r_x237).1; have := (r_x237).2
                      have := (r_x257).1; have := (r_x257).2
                      have := (r_x260).1; have := (r_x260).2
                      have := (r_x263).1; have := (r_x263).2
                      have := (r_x388).1; have := (r_x388).2
                      have := (r_x390).1; have := (r_x390).2
                      have := (r_x392).1; have := (r_x392).2
                      have := (r_x394).1; have := (r_x394).2
                      have := (r_x396).1; have := (r_x396).2
                      have := (r_x398).1; have := (r_x398).2
                      have := (r_x415).1; have := (r_x415).2
                      have := (r_x418).1; have := (r_x418).2
                      have := (r_x420).1; have := (r_x420).2
                      have := (r_x422).1; have := (r_x422).2
                      have := kc_0
                      have := kc_1
                      have := kc_40
                      have := iv.2.2.1
                      have hzr := r_x412
                      have := hzr.1; have := hzr.2
                      refine ⟨e0_s413, mh_pk_tr iv.2.1 e1_s413, by omega, fun hg9 => ?_⟩
                      rcases (show x412.toInt = 1 ∨ x412.toInt = 0 by omega) with q | q
                      · have h9 := e2_s413 q
                        have h30 : (s413.1 57 30).toInt = 0 := by rw [h9.2.2.1, ← t399]; have := (r_x412).1; have := (r_x412).2; have := (r_x229).1; have := (r_x229).2; have := (r_x231).1; have := (r_x231).2; have := (r_x233).1; have := (r_x233).2; have := (r_x235).1; have := (r_x235).2; have := (r_x237).1; have := (r_x237).2; have := (r_x257).1; have := (r_x257).2; have := (r_x260).1; have := (r_x260).2; have := (r_x263).1; have := (r_x263).2; have := (r_x388).1; have := (r_x388).2; have := (r_x390).1; have := (r_x390).2; have := (r_x392).1; have := (r_x392).2; have := (r_x394).1; have := (r_x394).2; have := (r_x396).1; have := (r_x396).2; have := (r_x398).1; have := (r_x398).2; have := (r_x415).1; have := (r_x415).2; have := (r_x418).1; have := (r_x418).2; have := (r_x420).1; have := (r_x420).2; have := (r_x422).1; have := (r_x422).2; have := kc_0; have := kc_1; have := kc_40; omega
                        exact ⟨fun q2 => absurd q2 (by omega), fun _ => ⟨h9.2.1, fun _ => h9.1, fun q2 => absurd q2 (by omega)⟩⟩
                      · have h9 := e3_s413 q hg9
                        refine ⟨fun q2 => ⟨?_, h9.1⟩, fun q2 => ⟨?_, fun q3 => absurd q3 (by omega), fun _ => h9.1⟩⟩
                        · rcases h9.2 with h8 | h8
                          · exact h8.2
                          · exact absurd h8.1 (by omega)
                        · rcases h9.2 with h8 | h8
                          · exact absurd h8.1 (by omega)
                          · exact h8.2) (by have := congrArg Int32.toInt t230; have := congrArg Int32.toInt t232; have := congrArg Int32.toInt t234; have := congrArg Int32.toInt t236; have := congrArg Int32.toInt t238; have := congrArg Int32.toInt t241; have := congrArg Int32.toInt t242; have := congrArg Int32.toInt t250; have := congrArg Int32.toInt t252; have := congrArg Int32.toInt t253; have := congrArg Int32.toInt t258; have := congrArg Int32.toInt t259; have := congrArg Int32.toInt t261; have := congrArg Int32.toInt t262; have := congrArg Int32.toInt t264; have := congrArg Int32.toInt t389; have := congrArg Int32.toInt t391; have := congrArg Int32.toInt t393; have := congrArg Int32.toInt t395; have := congrArg Int32.toInt t397; have := congrArg Int32.toInt t416; have := congrArg Int32.toInt t417; have := congrArg Int32.toInt t419; have := congrArg Int32.toInt t421; have := congrArg Int32.toInt t423; have := (r_x412).1; have := (r_x412).2; have := (r_x229).1; have := (r_x229).2; have := (r_x231).1; have := (r_x231).2; have := (r_x233).1; have := (r_x233).2; have := (r_x235).1; have := (r_x235).2; have := (r_x237).1; have := (r_x237).2; have := (r_x257).1; have := (r_x257).2; have := (r_x260).1; have := (r_x260).2; have := (r_x263).1; have := (r_x263).2; have := (r_x388).1; have := (r_x388).2; have := (r_x390).1; have := (r_x390).2; have := (r_x392).1; have := (r_x392).2; have := (r_x394).1; have := (r_x394).2; have := (r_x396).1; have := (r_x396).2; have := (r_x398).1; have := (r_x398).2; have := (r_x415).1; have := (r_x415).2; have := (r_x418).1; have := (r_x418).2; have := (r_x420).1; have := (r_x420).2; have := (r_x422).1; have := (r_x422).2; have := kc_0; have := kc_1; have := kc_40; omega))
              · skip
                have r_x319 : mh_r x319 (1) (1) := mh_ne1 (show x319.toInt ≠ (0 : Int32).toInt from c407) r_x319 rc_0 (1) (1) (by decide)
                refine mw_aload_n 56 rfl 0 dX10_condition_55 rfl rfl ?_
                refine mw_callVv [] [] 59 rfl dX10_condition_56 ml_X10_278 mc_X10_pieceOfC mk_X10_pieceOfC rfl rfl (by decide) (w_X10_pieceOfC l G (d + 0) ⟨by omega, by omega⟩ hI_s320 b (show mh_pb b s320 by unfold mh_pb; rw [← t389, ← t391, ← t393, ← t395, ← t397]; have := kc_0; have := kc_1; have := (r_x319).1; have := (r_x319).2; have := (r_x229).1; have := (r_x229).2; have := (r_x231).1; have := (r_x231).2; have := (r_x233).1; have := (r_x233).2; have := (r_x235).1; have := (r_x235).2; have := (r_x237).1; have := (r_x237).2; have := (r_x257).1; have := (r_x257).2; have := (r_x260).1; have := (r_x260).2; have := (r_x263).1; have := (r_x263).2; have := (r_x388).1; have := (r_x388).2; have := (r_x390).1; have := (r_x390).2; have := (r_x392).1; have := (r_x392).2; have := (r_x394).1; have := (r_x394).2; have := (r_x396).1; have := (r_x396).2; have := (r_x398).1; have := (r_x398).2; have := kc_0; have := kc_1; have := kc_40; omega) (((iv.2.2.2 (by rw [← t393]; have := (r_x319).1; have := (r_x319).2; have := (r_x229).1; have := (r_x229).2; have := (r_x231).1; have := (r_x231).2; have := (r_x233).1; have := (r_x233).2; have := (r_x235).1; have := (r_x235).2; have := (r_x237).1; have := (r_x237).2; have := (r_x257).1; have := (r_x257).2; have := (r_x260).1; have := (r_x260).2; have := (r_x263).1; have := (r_x263).2; have := (r_x388).1; have := (r_x388).2; have := (r_x390).1; have := (r_x390).2; have := (r_x392).1; have := (r_x392).2; have := (r_x394).1; have := (r_x394).2; have := (r_x396).1; have := (r_x396).2; have := (r_x398).1; have := (r_x398).2; have := kc_0; have := kc_1; have := kc_40; omega)).2 (by rw [← t399]; have := (r_x319).1; have := (r_x319).2; have := (r_x229).1; have := (r_x229).2; have := (r_x231).1; have := (r_x231).2; have := (r_x233).1; have := (r_x233).2; have := (r_x235).1; have := (r_x235).2; have := (r_x237).1; have := (r_x237).2; have := (r_x257).1; have := (r_x257).2; have := (r_x260).1; have := (r_x260).2; have := (r_x263).1; have := (r_x263).2; have := (r_x388).1; have := (r_x388).2; have := (r_x390).1; have := (r_x390).2; have := (r_x392).1; have := (r_x392).2; have := (r_x394).1; have := (r_x394).2; have := (r_x396).1; have := (r_x396).2; have := (r_x398).1; have := (r_x398).2; have := kc_0; have := kc_1; have := kc_40; omega)).2.1 (by have := r_x319.1; have := r_x319.2; have := (r_x319).1; have := (r_x319).2; have := (r_x229).1; have := (r_x229).2; have := (r_x231).1; have := (r_x231).2; have := (r_x233).1; have := (r_x233).2; have := (r_x235).1; have := (r_x235).2; have := (r_x237).1; have := (r_x237).2; have := (r_x257).1; have := (r_x257).2; have := (r_x260).1; have := (r_x260).2; have := (r_x263).1; have := (r_x263).2; have := (r_x388).1; have := (r_x388).2; have := (r_x390).1; have := (r_x390).2; have := (r_x392).1; have := (r_x392).2; have := (r_x394).1; have := (r_x394).2; have := (r_x396).1; have := (r_x396).2; have := (r_x398).1; have := (r_x398).2; have := kc_0; have := kc_1; have := kc_40; omega)) (((iv.2.2.2 (by rw [← t393]; have := (r_x319).1; have := (r_x319).2; have := (r_x229).1; have := (r_x229).2; have := (r_x231).1; have := (r_x231).2; have := (r_x233).1; have := (r_x233).2; have := (r_x235).1; have := (r_x235).2; have := (r_x237).1; have := (r_x237).2; have := (r_x257).1; have := (r_x257).2; have := (r_x260).1; have := (r_x260).2; have := (r_x263).1; have := (r_x263).2; have := (r_x388).1; have := (r_x388).2; have := (r_x390).1; have := (r_x390).2; have := (r_x392).1; have := (r_x392).2; have := (r_x394).1; have := (r_x394).2; have := (r_x396).1; have := (r_x396).2; have := (r_x398).1; have := (r_x398).2; have := kc_0; have := kc_1; have := kc_40; omega)).2 (by rw [← t399]; have := (r_x319).1; have := (r_x319).2; have := (r_x229).1; have := (r_x229).2; have := (r_x231).1; have := (r_x231).2; have := (r_x233).1; have := (r_x233).2; have := (r_x235).1; have := (r_x235).2; have := (r_x237).1; have := (r_x237).2; have := (r_x257).1; have := (r_x257).2; have := (r_x260).1; have := (r_x260).2; have := (r_x263).1; have := (r_x263).2; have := (r_x388).1; have := (r_x388).2; have := (r_x390).1; have := (r_x390).2; have := (r_x392).1; have := (r_x392).2; have := (r_x394).1; have := (r_x394).2; have := (r_x396).1; have := (r_x396).2; have := (r_x398).1; have := (r_x398).2; have := kc_0; have := kc_1; have := kc_40; omega)).1)) rfl rfl (Nat.le_of_ble_eq_true rfl) (mh_rok (by omega) (by decide)) (fun s427 q428 => ?_)
                obtain ⟨e0_s427, e1_s427, e2_s427, e3_s427, e4_s427, hI_s427, hG_s427⟩ := q428
                have hF_s427 : mh_F S_X10_condition s0 s427 := mh_F_tl hF_s320 hG_s427 (by decide +kernel)
                obtain ⟨x429, t430⟩ : ∃ z : Int32, z = s427.1 57 23 := ⟨_, rfl⟩
                have t431 : x390 = s427.1 57 24 := (t391).trans (hG_s427 57 24 (mh_nsI (by rfl))).1.symm
                obtain ⟨x432, t433⟩ : ∃ z : Int32, z = s427.1 57 25 := ⟨_, rfl⟩
                obtain ⟨x434, t435⟩ : ∃ z : Int32, z = s427.1 57 27 := ⟨_, rfl⟩
                obtain ⟨x436, t437⟩ : ∃ z : Int32, z = s427.1 57 29 := ⟨_, rfl⟩
                have pb_s427 : 0 ≤ x429.toInt ∧ x429.toInt ≤ x390.toInt ∧ x390.toInt ≤ 200 ∧ 0 ≤ x436.toInt ∧ 0 ≤ b ∧ b ≤ x434.toInt ∧ x436.toInt + x434.toInt ≤ x429.toInt ∧ x432.toInt ≤ 0 := by have h9 := e0_s427; unfold mh_pb at h9; rw [← t430, ← t431, ← t433, ← t435, ← t437] at h9; exact h9
                have r_x429 : mh_r x429 (0) (200) := ⟨by have := ((mh_r_full x429)).1; omega, by have := ((mh_r_full x429)).2; omega⟩
                have r_x432 : mh_r x432 (-2147483648) (0) := ⟨by have := ((mh_r_full x432)).1; omega, by have := ((mh_r_full x432)).2; omega⟩
                have r_x434 : mh_r x434 (0) (200) := ⟨by have := ((mh_r_full x434)).1; omega, by have := ((mh_r_full x434)).2; omega⟩
                have r_x436 : mh_r x436 (0) (200) := ⟨by have := ((mh_r_full x436)).1; omega, by have := ((mh_r_full x436)).2; omega⟩
                have hpc3 := e3_s427
                rw [← t389, ← t430, ← t433] at hpc3
                have hpc4 := e4_s427
                rw [← t389, ← t430] at hpc4
                refine mw_aload_n 60 rfl 0 dX10_condition_59 rfl rfl ?_
                refine mw_callVi [] [] 63 rfl dX10_condition_60 ml_X10_197 mc_X10_isGood mk_X10_isGood rfl rfl (by decide) (w_X10_isGood l G (d + 5) ⟨by omega, by omega⟩ hI_s427) rfl rfl (Nat.le_of_ble_eq_true rfl) (mh_rok (by omega) (by decide)) (fun x438 s439 q440 => ?_)
                obtain ⟨r_x438, e0_s439, rfl⟩ := q440
                rw [← t433] at e0_s439
                refine mw_if_eq 66 rfl 37 dX10_condition_63 (by decide) (fun c441 => ?_) (fun c441 => ?_)
                · skip
                  have r_x432 : mh_r x432 (-2147483648) (-1) := ⟨(r_x432).1, by have := (r_x432).2; have : x432.toInt ≠ 0 := (fun q => by have := e0_s439.2 q; have := c441; omega); omega⟩
                  have r_x438 : mh_r x438 (0) (0) := mh_eq1 (show x438.toInt = (0 : Int32).toInt from c441) r_x438 rc_0 (0) (0) (by decide)
                  exact mw_lv [0, 1] rfl (ihn1 x319 s427 (mh_r_wk r_x319 (by decide)) hI_s427 hF_s427 (by
                      have := congrArg Int32.toInt t230
                      have := congrArg Int32.toInt t232
                      have := congrArg Int32.toInt t234
                      have := congrArg Int32.toInt t236
                      have := congrArg Int32.toInt t238
                      have := congrArg Int32.toInt t241
                      have := congrArg Int32.toInt t242
                      have := congrArg Int32.toInt t250
                      have := congrArg Int32.toInt t252
                      have := congrArg Int32.toInt t253
                      have := congrArg Int32.toInt t258
                      have := congrArg Int32.toInt t259
                      have := congrArg Int32.toInt t261
                      have := congrArg Int32.toInt t262
                      have := congrArg Int32.toInt t264
                      have := congrArg Int32.toInt t389
                      have := congrArg Int32.toInt t391
                      have := congrArg Int32.toInt t393
                      have := congrArg Int32.toInt t395
                      have := congrArg Int32.toInt t397
                      have := congrArg Int32.toInt t430
                      have := congrArg Int32.toInt t431
                      have := congrArg Int32.toInt t433
                      have := congrArg Int32.toInt t435
                      have := congrArg Int32.toInt t437
                      have := (r_x319).1; have := (r_x319).2
                      have := (r_x229).1; have := (r_x229).2
                      have := (r_x231).1; have := (r_x231).2
                      have := (r_x233).1; have := (r_x233).2
                      have := (r_x235).1; have := (r_x235).2
                      have := (r_x237).1; have := (r_x237).2
                      have := (r_x257).1; have := (r_x257).2
                      have := (r_x260).1; have := (r_x260).2
                      have := (r_x263).1; have := (r_x263).2
                      have := (r_x388).1; have := (r_x388).2
                      have := (r_x390).1; have := (r_x390).2
                      have := (r_x392).1; have := (r_x392).2
                      have := (r_x394).1; have := (r_x394).2
                      have := (r_x396).1; have := (r_x396).2
                      have := (r_x398).1; have := (r_x398).2
                      have := (r_x429).1; have := (r_x429).2
                      have := (r_x432).1; have := (r_x432).2
                      have := (r_x434).1; have := (r_x434).2
                      have := (r_x436).1; have := (r_x436).2
                      have := kc_0
                      have := kc_1
                      have := kc_40
                      have := iv.2.2.1
                      refine ⟨e0_s427, mh_pk_tr iv.2.1 e1_s427, by omega, fun hg9 => ?_⟩
                      exfalso
                      omega) (by have := congrArg Int32.toInt t230; have := congrArg Int32.toInt t232; have := congrArg Int32.toInt t234; have := congrArg Int32.toInt t236; have := congrArg Int32.toInt t238; have := congrArg Int32.toInt t241; have := congrArg Int32.toInt t242; have := congrArg Int32.toInt t250; have := congrArg Int32.toInt t252; have := congrArg Int32.toInt t253; have := congrArg Int32.toInt t258; have := congrArg Int32.toInt t259; have := congrArg Int32.toInt t261; have := congrArg Int32.toInt t262; have := congrArg Int32.toInt t264; have := congrArg Int32.toInt t389; have := congrArg Int32.toInt t391; have := congrArg Int32.toInt t393; have := congrArg Int32.toInt t395; have := congrArg Int32.toInt t397; have := congrArg Int32.toInt t430; have := congrArg Int32.toInt t431; have := congrArg Int32.toInt t433; have := congrArg Int32.toInt t435; have := congrArg Int32.toInt t437; have := (r_x319).1; have := (r_x319).2; have := (r_x229).1; have := (r_x229).2; have := (r_x231).1; have := (r_x231).2; have := (r_x233).1; have := (r_x233).2; have := (r_x235).1; have := (r_x235).2; have := (r_x237).1; have := (r_x237).2; have := (r_x257).1; have := (r_x257).2; have := (r_x260).1; have := (r_x260).2; have := (r_x263).1; have := (r_x263).2; have := (r_x388).1; have := (r_x388).2; have := (r_x390).1; have := (r_x390).2; have := (r_x392).1; have := (r_x392).2; have := (r_x394).1; have := (r_x394).2; have := (r_x396).1; have := (r_x396).2; have := (r_x398).1; have := (r_x398).2; have := (r_x429).1; have := (r_x429).2; have := (r_x432).1; have := (r_x432).2; have := (r_x434).1; have := (r_x434).2; have := (r_x436).1; have := (r_x436).2; have := kc_0; have := kc_1; have := kc_40; omega))
                · skip
                  have r_x432 : mh_r x432 (0) (0) := ⟨by have := e0_s439.1 (mh_z1 r_x438 c441); omega, by have := e0_s439.1 (mh_z1 r_x438 c441); omega⟩
                  have r_x438 : mh_r x438 (1) (1) := mh_ne1 (show x438.toInt ≠ (0 : Int32).toInt from c441) r_x438 rc_0 (1) (1) (by decide)
                  refine mw_aload_n 67 rfl 0 dX10_condition_66 rfl rfl ?_
                  have t442 : x398 = s427.1 57 30 := (t399).trans (hG_s427 57 30 (mh_nsI (by rfl))).1.symm
                  refine mw_callVi [] [] 70 rfl dX10_condition_67 ml_X10_281 mc_X10_goesBehind mk_X10_goesBehind rfl rfl (by decide) (w_X10_goesBehind l G (d + 2) ⟨by omega, by omega⟩ hI_s427 b (show mh_pb b s427 by unfold mh_pb; rw [← t430, ← t431, ← t433, ← t435, ← t437]; have := kc_0; have := kc_1; have := (r_x319).1; have := (r_x319).2; have := (r_x229).1; have := (r_x229).2; have := (r_x231).1; have := (r_x231).2; have := (r_x233).1; have := (r_x233).2; have := (r_x235).1; have := (r_x235).2; have := (r_x237).1; have := (r_x237).2; have := (r_x257).1; have := (r_x257).2; have := (r_x260).1; have := (r_x260).2; have := (r_x263).1; have := (r_x263).2; have := (r_x388).1; have := (r_x388).2; have := (r_x390).1; have := (r_x390).2; have := (r_x392).1; have := (r_x392).2; have := (r_x394).1; have := (r_x394).2; have := (r_x396).1; have := (r_x396).2; have := (r_x398).1; have := (r_x398).2; have := (r_x429).1; have := (r_x429).2; have := (r_x432).1; have := (r_x432).2; have := (r_x434).1; have := (r_x434).2; have := (r_x436).1; have := (r_x436).2; have := kc_0; have := kc_1; have := kc_40; omega) e2_s427 (by rw [← t433]; have := (r_x319).1; have := (r_x319).2; have := (r_x229).1; have := (r_x229).2; have := (r_x231).1; have := (r_x231).2; have := (r_x233).1; have := (r_x233).2; have := (r_x235).1; have := (r_x235).2; have := (r_x237).1; have := (r_x237).2; have := (r_x257).1; have := (r_x257).2; have := (r_x260).1; have := (r_x260).2; have := (r_x263).1; have := (r_x263).2; have := (r_x388).1; have := (r_x388).2; have := (r_x390).1; have := (r_x390).2; have := (r_x392).1; have := (r_x392).2; have := (r_x394).1; have := (r_x394).2; have := (r_x396).1; have := (r_x396).2; have := (r_x398).1; have := (r_x398).2; have := (r_x429).1; have := (r_x429).2; have := (r_x432).1; have := (r_x432).2; have := (r_x434).1; have := (r_x434).2; have := (r_x436).1; have := (r_x436).2; have := kc_0; have := kc_1; have := kc_40; omega) (hpc3 (by have := (r_x319).1; have := (r_x319).2; have := (r_x229).1; have := (r_x229).2; have := (r_x231).1; have := (r_x231).2; have := (r_x233).1; have := (r_x233).2; have := (r_x235).1; have := (r_x235).2; have := (r_x237).1; have := (r_x237).2; have := (r_x257).1; have := (r_x257).2; have := (r_x260).1; have := (r_x260).2; have := (r_x263).1; have := (r_x263).2; have := (r_x388).1; have := (r_x388).2; have := (r_x390).1; have := (r_x390).2; have := (r_x392).1; have := (r_x392).2; have := (r_x394).1; have := (r_x394).2; have := (r_x396).1; have := (r_x396).2; have := (r_x398).1; have := (r_x398).2; have := (r_x429).1; have := (r_x429).2; have := (r_x432).1; have := (r_x432).2; have := (r_x434).1; have := (r_x434).2; have := (r_x436).1; have := (r_x436).2; have := kc_0; have := kc_1; have := kc_40; omega)).1) rfl rfl (Nat.le_of_ble_eq_true rfl) (mh_rok (by omega) (by decide)) (fun x443 s444 q445 => ?_)
                  obtain ⟨r_x443, e0_s444, e1_s444, e2_s444, e3_s444, e4_s444, hI_s444, hG_s444⟩ := q445
                  have hF_s444 : mh_F S_X10_condition s0 s444 := mh_F_tl hF_s427 hG_s444 (by decide +kernel)
                  obtain ⟨x446, t447⟩ : ∃ z : Int32, z = s444.1 57 23 := ⟨_, rfl⟩
                  have t448 : x390 = s444.1 57 24 := (t431).trans (hG_s444 57 24 (mh_nsI (by rfl))).1.symm
                  obtain ⟨x449, t450⟩ : ∃ z : Int32, z = s444.1 57 25 := ⟨_, rfl⟩
                  obtain ⟨x451, t452⟩ : ∃ z : Int32, z = s444.1 57 27 := ⟨_, rfl⟩
                  obtain ⟨x453, t454⟩ : ∃ z : Int32, z = s444.1 57 29 := ⟨_, rfl⟩
                  have pb_s444 : 0 ≤ x446.toInt ∧ x446.toInt ≤ x390.toInt ∧ x390.toInt ≤ 200 ∧ 0 ≤ x453.toInt ∧ 0 ≤ b ∧ b ≤ x451.toInt ∧ x453.toInt + x451.toInt ≤ x446.toInt ∧ x449.toInt ≤ 0 := by have h9 := e0_s444; unfold mh_pb at h9; rw [← t447, ← t448, ← t450, ← t452, ← t454] at h9; exact h9
                  have r_x446 : mh_r x446 (0) (200) := ⟨by have := ((mh_r_full x446)).1; omega, by have := ((mh_r_full x446)).2; omega⟩
                  have r_x449 : mh_r x449 (-2147483648) (0) := ⟨by have := ((mh_r_full x449)).1; omega, by have := ((mh_r_full x449)).2; omega⟩
                  have r_x451 : mh_r x451 (0) (200) := ⟨by have := ((mh_r_full x451)).1; omega, by have := ((mh_r_full x451)).2; omega⟩
                  have r_x453 : mh_r x453 (0) (200) := ⟨by have := ((mh_r_full x453)).1; omega, by have := ((mh_r_full x453)).2; omega⟩
                  obtain ⟨x455, t456⟩ : ∃ z : Int32, z = s444.1 57 30 := ⟨_, rfl⟩
                  have hgb4 := e4_s444
                  rw [← t430, ← t447, ← t450] at hgb4
                  refine mw_istore_n 71 rfl [(1, .int x443), (0, .ref (G.2.2.2 57))] dX10_condition_70 rfl (by decide) rfl ?_
                  refine mw_goto 74 rfl 37 dX10_condition_71 (by decide) ?_
                  exact mw_lv [1, 0] rfl (ihn1 x443 s444 r_x443 hI_s444 hF_s444 (by
                      have := congrArg Int32.toInt t230
                      have := congrArg Int32.toInt t232
                      have := congrArg Int32.toInt t234
                      have := congrArg Int32.toInt t236
                      have := congrArg Int32.toInt t238
                      have := congrArg Int32.toInt t241
                      have := congrArg Int32.toInt t242
                      have := congrArg Int32.toInt t250
                      have := congrArg Int32.toInt t252
                      have := congrArg Int32.toInt t253
                      have := congrArg Int32.toInt t258
                      have := congrArg Int32.toInt t259
                      have := congrArg Int32.toInt t261
                      have := congrArg Int32.toInt t262
                      have := congrArg Int32.toInt t264
                      have := congrArg Int32.toInt t389
                      have := congrArg Int32.toInt t391
                      have := congrArg Int32.toInt t393
                      have := congrArg Int32.toInt t395
                      have := congrArg Int32.toInt t397
                      have := congrArg Int32.toInt t430
                      have := congrArg Int32.toInt t431
                      have := congrArg Int32.toInt t433
                      have := congrArg Int32.toInt t435
                      have := congrArg Int32.toInt t437
                      have := congrArg Int32.toInt t447
                      have := congrArg Int32.toInt t448
                      have := congrArg Int32.toInt t450
                      have := congrArg Int32.toInt t452
                      have := congrArg Int32.toInt t454
                      have := (r_x443).1; have := (r_x443).2
                      have := (r_x229).1; have := (r_x229).2
                      have := (r_x231).1; have := (r_x231).2
                      have := (r_x233).1; have := (r_x233).2
                      have := (r_x235).1; have := (r_x235).2
                      have := (r_x237).1; have := (r_x237).2
                      have := (r_x257).1; have := (r_x257).2
                      have := (r_x260).1; have := (r_x260).2
                      have := (r_x263).1; have := (r_x263).2
                      have := (r_x388).1; have := (r_x388).2
                      have := (r_x390).1; have := (r_x390).2
                      have := (r_x392).1; have := (r_x392).2
                      have := (r_x394).1; have := (r_x394).2
                      have := (r_x396).1; have := (r_x396).2
                      have := (r_x398).1; have := (r_x398).2
                      have := (r_x429).1; have := (r_x429).2
                      have := (r_x432).1; have := (r_x432).2
                      have := (r_x434).1; have := (r_x434).2
                      have := (r_x436).1; have := (r_x436).2
                      have := (r_x446).1; have := (r_x446).2
                      have := (r_x449).1; have := (r_x449).2
                      have := (r_x451).1; have := (r_x451).2
                      have := (r_x453).1; have := (r_x453).2
                      have := kc_0
                      have := kc_1
                      have := kc_40
                      have := iv.2.2.1
                      have hzr := r_x443
                      have := hzr.1; have := hzr.2
                      refine ⟨e0_s444, mh_pk_tr (mh_pk_tr iv.2.1 e1_s427) e1_s444, by omega, fun hg9 => ?_⟩
                      rcases (show x443.toInt = 1 ∨ x443.toInt = 0 by omega) with q | q
                      · have h9 := e2_s444 q
                        have h30 : (s444.1 57 30).toInt = 0 := by rw [h9.2.2.1, ← t442]; have := (r_x443).1; have := (r_x443).2; have := (r_x229).1; have := (r_x229).2; have := (r_x231).1; have := (r_x231).2; have := (r_x233).1; have := (r_x233).2; have := (r_x235).1; have := (r_x235).2; have := (r_x237).1; have := (r_x237).2; have := (r_x257).1; have := (r_x257).2; have := (r_x260).1; have := (r_x260).2; have := (r_x263).1; have := (r_x263).2; have := (r_x388).1; have := (r_x388).2; have := (r_x390).1; have := (r_x390).2; have := (r_x392).1; have := (r_x392).2; have := (r_x394).1; have := (r_x394).2; have := (r_x396).1; have := (r_x396).2; have := (r_x398).1; have := (r_x398).2; have := (r_x429).1; have := (r_x429).2; have := (r_x432).1; have := (r_x432).2; have := (r_x434).1; have := (r_x434).2; have := (r_x436).1; have := (r_x436).2; have := (r_x446).1; have := (r_x446).2; have := (r_x449).1; have := (r_x449).2; have := (r_x451).1; have := (r_x451).2; have := (r_x453).1; have := (r_x453).2; have := kc_0; have := kc_1; have := kc_40; omega
                        exact ⟨fun q2 => absurd q2 (by omega), fun _ => ⟨h9.2.1, fun _ => h9.1, fun q2 => absurd q2 (by omega)⟩⟩
                      · have h9 := e3_s444 q hg9
                        refine ⟨fun q2 => ⟨?_, h9.1⟩, fun q2 => ⟨?_, fun q3 => absurd q3 (by omega), fun _ => h9.1⟩⟩
                        · rcases h9.2 with h8 | h8
                          · exact h8.2
                          · exact absurd h8.1 (by omega)
                        · rcases h9.2 with h8 | h8
                          · exact absurd h8.1 (by omega)
                          · exact h8.2) (by have := congrArg Int32.toInt t230; have := congrArg Int32.toInt t232; have := congrArg Int32.toInt t234; have := congrArg Int32.toInt t236; have := congrArg Int32.toInt t238; have := congrArg Int32.toInt t241; have := congrArg Int32.toInt t242; have := congrArg Int32.toInt t250; have := congrArg Int32.toInt t252; have := congrArg Int32.toInt t253; have := congrArg Int32.toInt t258; have := congrArg Int32.toInt t259; have := congrArg Int32.toInt t261; have := congrArg Int32.toInt t262; have := congrArg Int32.toInt t264; have := congrArg Int32.toInt t389; have := congrArg Int32.toInt t391; have := congrArg Int32.toInt t393; have := congrArg Int32.toInt t395; have := congrArg Int32.toInt t397; have := congrArg Int32.toInt t430; have := congrArg Int32.toInt t431; have := congrArg Int32.toInt t433; have := congrArg Int32.toInt t435; have := congrArg Int32.toInt t437; have := congrArg Int32.toInt t447; have := congrArg Int32.toInt t448; have := congrArg Int32.toInt t450; have := congrArg Int32.toInt t452; have := congrArg Int32.toInt t454; have := (r_x443).1; have := (r_x443).2; have := (r_x229).1; have := (r_x229).2; have := (r_x231).1; have := (r_x231).2; have := (r_x233).1; have := (r_x233).2; have := (r_x235).1; have := (r_x235).2; have := (r_x237).1; have := (r_x237).2; have := (r_x257).1; have := (r_x257).2; have := (r_x260).1; have := (r_x260).2; have := (r_x263).1; have := (r_x263).2; have := (r_x388).1; have := (r_x388).2; have := (r_x390).1; have := (r_x390).2; have := (r_x392).1; have := (r_x392).2; have := (r_x394).1; have := (r_x394).2; have := (r_x396).1; have := (r_x396).2; have := (r_x398).1; have := (r_x398).2; have := (r_x429).1; have := (r_x429).2; have := (r_x432).1; have := (r_x432).2; have := (r_x434).1; have := (r_x434).2; have := (r_x436).1; have := (r_x436).2; have := (r_x446).1; have := (r_x446).2; have := (r_x449).1; have := (r_x449).2; have := (r_x451).1; have := (r_x451).2; have := (r_x453).1; have := (r_x453).2; have := kc_0; have := kc_1; have := kc_40; omega))
      have t457 : (0) = s239.1 57 30 := by rw [t240]; exact mh_pI_s.symm
      have t458 : (0) = s255.1 57 30 := (t457).trans (hG_s255 57 30 (mh_nsI (by rfl))).1.symm
      exact mw_lv [1, 0] rfl (L37 404 (1) s255 (mh_r_wk rc_1 (by decide)) hI_s255 hF_s255 (by
          have := congrArg Int32.toInt t230
          have := congrArg Int32.toInt t232
          have := congrArg Int32.toInt t234
          have := congrArg Int32.toInt t236
          have := congrArg Int32.toInt t238
          have := congrArg Int32.toInt t241
          have := congrArg Int32.toInt t242
          have := congrArg Int32.toInt t250
          have := congrArg Int32.toInt t252
          have := congrArg Int32.toInt t253
          have := congrArg Int32.toInt t258
          have := congrArg Int32.toInt t259
          have := congrArg Int32.toInt t261
          have := congrArg Int32.toInt t262
          have := congrArg Int32.toInt t264
          have := (rc_1).1; have := (rc_1).2
          have := (r_x229).1; have := (r_x229).2
          have := (r_x231).1; have := (r_x231).2
          have := (r_x233).1; have := (r_x233).2
          have := (r_x235).1; have := (r_x235).2
          have := (r_x237).1; have := (r_x237).2
          have := (r_x257).1; have := (r_x257).2
          have := (r_x260).1; have := (r_x260).2
          have := (r_x263).1; have := (r_x263).2
          have := kc_0
          have := kc_1
          have := kc_40
          have h30 := congrArg Int32.toInt t458
          have := kc_0; have := kc_1
          have h8 : mh_hr s239 = x243 := (mh_hr_c (t241.symm.trans t241) (t242.symm.trans t242) (rfl)).trans e0_s244.symm
          have h76 := e1_s255
          rw [← t253, h8] at h76
          have h29 : x237.toInt.toNat = 0 := by omega
          rw [h29] at h76
          have hst : (s255.1 57 29).toInt.toNat = 1 := by rw [← t264]; omega
          refine ⟨e0_s255, mh_pk_row (((mh_F_row hG_s255 74 rfl)).trans (by rw [t240]; exact mh_row_n (by decide) : s239.1 74 = s0.1 74)), by omega, fun hg9 => ⟨fun q => absurd q (by omega), fun _ => ⟨by rw [hst, h76]; exact mh_cq_1 (by omega), fun _ => ?_, fun q => absurd q (by decide)⟩⟩⟩
          intro _
          have hB := hd (by rw [← t234]; omega)
          rw [← t236, ← t238, show x237.toInt.toNat = 0 by omega] at hB
          have h76s : s239.1 76 = s0.1 76 := (by rw [t240]; exact mh_row_n (by decide) : s239.1 76 = s0.1 76)
          have h74 : s255.1 74 = s0.1 74 := ((mh_F_row hG_s255 74 rfl)).trans (by rw [t240]; exact mh_row_n (by decide) : s239.1 74 = s0.1 74)
          have hcod : (s255.1 57 27).toInt = x235.toInt := by rw [← t262]
          rw [h74, h76, hcod, hst, h76s]
          exact mh_pdr_pn hB (by show (_ ∨ _ ∨ _); omega)) (by have := congrArg Int32.toInt t230; have := congrArg Int32.toInt t232; have := congrArg Int32.toInt t234; have := congrArg Int32.toInt t236; have := congrArg Int32.toInt t238; have := congrArg Int32.toInt t241; have := congrArg Int32.toInt t242; have := congrArg Int32.toInt t250; have := congrArg Int32.toInt t252; have := congrArg Int32.toInt t253; have := congrArg Int32.toInt t258; have := congrArg Int32.toInt t259; have := congrArg Int32.toInt t261; have := congrArg Int32.toInt t262; have := congrArg Int32.toInt t264; have := (rc_1).1; have := (rc_1).2; have := (r_x229).1; have := (r_x229).2; have := (r_x231).1; have := (r_x231).2; have := (r_x233).1; have := (r_x233).2; have := (r_x235).1; have := (r_x235).2; have := (r_x237).1; have := (r_x237).2; have := (r_x257).1; have := (r_x257).2; have := (r_x260).1; have := (r_x260).2; have := (r_x263).1; have := (r_x263).2; have := (rc_0).1; have := (rc_0).2; have := kc_0; have := kc_1; have := kc_40; omega))
    · skip
      exact absurd (e0_s248.2 (by have := (r_x233).1; have := (r_x233).2; omega)) (by have := c251; omega)
  · skip
    refine mw_aload_n 15 rfl 0 dX10_condition_14 rfl rfl ?_
    refine mw_iconst (v := 1) 16 rfl dX10_condition_15 (by decide) ?_
    refine mw_aload_n 17 rfl 0 dX10_condition_16 rfl rfl ?_
    refine mw_geti 20 rfl dX10_condition_17 gf_X10_188 rfl (fun x459 t460 => ?_)
    obtain rfl : x229 = x459 := t241.trans t460.symm
    have t461 : x233 = s239.1 57 25 := by rw [t240]; exact (t234).trans (mh_pI_n (by omega)).symm
    refine mw_callVv [.int (1), .int x229] [] 23 rfl dX10_condition_20 ml_X10_210 mc_X10_wrongs mk_X10_wrongs rfl rfl (by decide) (w_X10_wrongs l G (d + 5) ⟨by omega, by omega⟩ hI_s239 (1) (mh_r_wk rc_1 (by decide)) x229 r_x229 (by rw [← t461]; have := (r_x229).1; have := (r_x229).2; have := (r_x231).1; have := (r_x231).2; have := (r_x233).1; have := (r_x233).2; have := (r_x235).1; have := (r_x235).2; have := (r_x237).1; have := (r_x237).2; have := kc_0; have := kc_1; have := kc_40; omega)) rfl rfl (Nat.le_of_ble_eq_true rfl) (mh_rok (by omega) (by decide)) (fun s463 q464 => ?_)
    obtain ⟨e0_s463, hI_s463, hG_s463⟩ := q464
    have hF_s463 : mh_F S_X10_condition s0 s463 := mh_F_tl hF_s239 hG_s463 (by decide +kernel)
    obtain ⟨x465, t466⟩ : ∃ z : Int32, z = s463.1 57 25 := ⟨_, rfl⟩
    have hw_s463 : x465.toInt < 0 := by rw [t466]; exact e0_s463
    have r_x465 : mh_r x465 (-2147483648) (-1) := ⟨((mh_r_full x465)).1, by have := hw_s463; omega⟩
    refine mw_aload_n 24 rfl 0 dX10_condition_23 rfl rfl ?_
    refine mw_callVi [] [] 27 rfl dX10_condition_24 ml_X10_197 mc_X10_isGood mk_X10_isGood rfl rfl (by decide) (w_X10_isGood l G (d + 5) ⟨by omega, by omega⟩ hI_s463) rfl rfl (Nat.le_of_ble_eq_true rfl) (mh_rok (by omega) (by decide)) (fun x467 s468 q469 => ?_)
    obtain ⟨r_x467, e0_s468, rfl⟩ := q469
    rw [← t466] at e0_s468
    refine mw_if_ne 30 rfl 31 dX10_condition_27 (by decide) (fun c470 => ?_) (fun c470 => ?_)
    · skip
      exact absurd (e0_s468.1 (mh_z1 r_x467 c470)) (by have := (r_x465).2; omega)
    · skip
      have r_x467 : mh_r x467 (0) (0) := mh_eq1 (show x467.toInt = (0 : Int32).toInt from c470) r_x467 rc_0 (0) (0) (by decide)
      refine mw_vret dX10_condition_30 rfl ⟨rfl, ⟨?_, ?_, ?_, ?_, hI_s463, hF_s463⟩⟩
      · skip
        have t471 : x229 = s463.1 57 23 := (t241).trans (hG_s463 57 23 (mh_nsI (by rfl))).1.symm
        have t472 : x231 = s463.1 57 24 := (t242).trans (hG_s463 57 24 (mh_nsI (by rfl))).1.symm
        have t473 : x235 = s239.1 57 27 := by rw [t240]; exact (t236).trans (mh_pI_n (by omega)).symm
        have t474 : x235 = s463.1 57 27 := (t473).trans (hG_s463 57 27 (mh_nsI (by rfl))).1.symm
        have t475 : x237 = s239.1 57 29 := by rw [t240]; exact (t238).trans (mh_pI_n (by omega)).symm
        have t476 : x237 = s463.1 57 29 := (t475).trans (hG_s463 57 29 (mh_nsI (by rfl))).1.symm
        exact (show mh_pb b s463 by unfold mh_pb; rw [← t471, ← t472, ← t466, ← t474, ← t476]; have := kc_0; have := kc_1; have := (r_x229).1; have := (r_x229).2; have := (r_x231).1; have := (r_x231).2; have := (r_x233).1; have := (r_x233).2; have := (r_x235).1; have := (r_x235).2; have := (r_x237).1; have := (r_x237).2; have := (r_x465).1; have := (r_x465).2; have := kc_0; have := kc_1; have := kc_40; omega)
      · skip
        exact mh_pk_row (((mh_F_row hG_s463 74 rfl)).trans (by rw [t240]; exact mh_row_n (by decide) : s239.1 74 = s0.1 74))
      · skip
        have t477 : x229 = s463.1 57 23 := (t241).trans (hG_s463 57 23 (mh_nsI (by rfl))).1.symm
        have t478 : x231 = s463.1 57 24 := (t242).trans (hG_s463 57 24 (mh_nsI (by rfl))).1.symm
        have t479 : x235 = s239.1 57 27 := by rw [t240]; exact (t236).trans (mh_pI_n (by omega)).symm
        have t480 : x235 = s463.1 57 27 := (t479).trans (hG_s463 57 27 (mh_nsI (by rfl))).1.symm
        have t481 : x237 = s239.1 57 29 := by rw [t240]; exact (t238).trans (mh_pI_n (by omega)).symm
        have t482 : x237 = s463.1 57 29 := (t481).trans (hG_s463 57 29 (mh_nsI (by rfl))).1.symm
        intro hg9
        exfalso
        have := congrArg Int32.toInt t230
        have := congrArg Int32.toInt t232
        have := congrArg Int32.toInt t234
        have := congrArg Int32.toInt t236
        have := congrArg Int32.toInt t238
        have := congrArg Int32.toInt t241
        have := congrArg Int32.toInt t242
        have := congrArg Int32.toInt t461
        have := congrArg Int32.toInt t466
        have := congrArg Int32.toInt t477
        have := congrArg Int32.toInt t478
        have := congrArg Int32.toInt t480
        have := congrArg Int32.toInt t482
        have := (r_x229).1; have := (r_x229).2
        have := (r_x231).1; have := (r_x231).2
        have := (r_x233).1; have := (r_x233).2
        have := (r_x235).1; have := (r_x235).2
        have := (r_x237).1; have := (r_x237).2
        have := (r_x465).1; have := (r_x465).2
        have := kc_0
        have := kc_1
        have := kc_40
        omega
      · skip
        have t483 : x229 = s463.1 57 23 := (t241).trans (hG_s463 57 23 (mh_nsI (by rfl))).1.symm
        have t484 : x231 = s463.1 57 24 := (t242).trans (hG_s463 57 24 (mh_nsI (by rfl))).1.symm
        have t485 : x235 = s239.1 57 27 := by rw [t240]; exact (t236).trans (mh_pI_n (by omega)).symm
        have t486 : x235 = s463.1 57 27 := (t485).trans (hG_s463 57 27 (mh_nsI (by rfl))).1.symm
        have t487 : x237 = s239.1 57 29 := by rw [t240]; exact (t238).trans (mh_pI_n (by omega)).symm
        have t488 : x237 = s463.1 57 29 := (t487).trans (hG_s463 57 29 (mh_nsI (by rfl))).1.symm
        have := congrArg Int32.toInt t230
        have := congrArg Int32.toInt t232
        have := congrArg Int32.toInt t234
        have := congrArg Int32.toInt t236
        have := congrArg Int32.toInt t238
        have := congrArg Int32.toInt t241
        have := congrArg Int32.toInt t242
        have := congrArg Int32.toInt t461
        have := congrArg Int32.toInt t466
        have := congrArg Int32.toInt t483
        have := congrArg Int32.toInt t484
        have := congrArg Int32.toInt t486
        have := congrArg Int32.toInt t488
        have := (r_x229).1; have := (r_x229).2
        have := (r_x231).1; have := (r_x231).2
        have := (r_x233).1; have := (r_x233).2
        have := (r_x235).1; have := (r_x235).2
        have := (r_x237).1; have := (r_x237).2
        have := (r_x465).1; have := (r_x465).2
        have := kc_0
        have := kc_1
        have := kc_40
        omega

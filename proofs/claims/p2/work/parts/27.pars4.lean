def S_X10_pieceOfC : List (Nat × Nat) := [(57, 28), (76, 9999), (57, 29), (57, 23), (57, 25), (57, 31), (74, 9999), (75, 9999), (57, 27)]
def P_X10_pieceOfC (B D : Int) (s0 : mh_H) (b : Int) : mh_H → Prop := fun s => (mh_pb b s) ∧ (mh_pk b s0 s) ∧ (mh_pd b 1 s) ∧ ((s.1 57 25).toInt = 0 → mh_cq (s.1 76) (s.1 57 29).toInt.toNat ∧ (s0.1 57 23).toInt + 1 ≤ (s.1 57 23).toInt) ∧ ((s0.1 57 23).toInt ≤ (s.1 57 23).toInt) ∧ mh_I B D s ∧ mh_F S_X10_pieceOfC s0 s
set_option maxRecDepth 100000 in
set_option maxHeartbeats 4000000 in
theorem w_X10_pieceOfC (l : Launch) (G : mh_G) (d : Nat) {B D : Int} (hB : B ≤ 1900000000 ∧ D ≤ 1900000000) {s0 : mh_H} (hI0 : mh_I B D s0) (b : Int) (hb : mh_pb b s0) (hd : mh_pd b 0 s0) (hcq : mh_cq (s0.1 76) (s0.1 57 29).toInt.toNat) : mh_Mv l G (d + 5) mM_X10_pieceOfC [.ref (G.2.2.2 57)] s0 (P_X10_pieceOfC B D s0 b) := by
  refine mh_enter (lv := [(0, .ref (G.2.2.2 57))]) (by decide) rfl (Nat.le_of_ble_eq_true rfl) ?_
  have hF0 : mh_F S_X10_pieceOfC s0 s0 := mh_F_rf
  obtain ⟨x207, t208⟩ : ∃ z : Int32, z = s0.1 57 23 := ⟨_, rfl⟩
  obtain ⟨x209, t210⟩ : ∃ z : Int32, z = s0.1 57 24 := ⟨_, rfl⟩
  obtain ⟨x211, t212⟩ : ∃ z : Int32, z = s0.1 57 25 := ⟨_, rfl⟩
  obtain ⟨x213, t214⟩ : ∃ z : Int32, z = s0.1 57 27 := ⟨_, rfl⟩
  obtain ⟨x215, t216⟩ : ∃ z : Int32, z = s0.1 57 29 := ⟨_, rfl⟩
  have pb_s0 : 0 ≤ x207.toInt ∧ x207.toInt ≤ x209.toInt ∧ x209.toInt ≤ 200 ∧ 0 ≤ x215.toInt ∧ 0 ≤ b ∧ b ≤ x213.toInt ∧ x215.toInt + x213.toInt ≤ x207.toInt ∧ x211.toInt ≤ 0 := by have h9 := hb; unfold mh_pb at h9; rw [← t208, ← t210, ← t212, ← t214, ← t216] at h9; exact h9
  have r_x207 : mh_r x207 (0) (200) := ⟨by have := ((mh_r_full x207)).1; omega, by have := ((mh_r_full x207)).2; omega⟩
  have r_x209 : mh_r x209 (0) (200) := ⟨by have := ((mh_r_full x209)).1; omega, by have := ((mh_r_full x209)).2; omega⟩
  have r_x211 : mh_r x211 (-2147483648) (0) := ⟨by have := ((mh_r_full x211)).1; omega, by have := ((mh_r_full x211)).2; omega⟩
  have r_x213 : mh_r x213 (0) (200) := ⟨by have := ((mh_r_full x213)).1; omega, by have := ((mh_r_full x213)).2; omega⟩
  have r_x215 : mh_r x215 (0) (200) := ⟨by have := ((mh_r_full x215)).1; omega, by have := ((mh_r_full x215)).2; omega⟩
  have L0 : ∀ n1 : Nat, ∀  (s247 : mh_H), mh_I B D s247 → mh_F S_X10_pieceOfC s0 s247 → (mh_pb b s247 ∧ mh_pd b 0 s247 ∧ s247.1 74 = s0.1 74 ∧ mh_cq (s247.1 76) (s247.1 57 29).toInt.toNat ∧ (s0.1 57 23).toInt ≤ (s247.1 57 23).toInt) → 200 - (s247.1 57 23).toInt < (n1 : Int) → mh_W G (mh_XM l G (d + 5) (mh_Qv (P_X10_pieceOfC B D s0 b))) mM_X10_pieceOfC 0 [(0, .ref (G.2.2.2 57))] [] s247 := by
    intro n1
    induction n1 with
    | zero =>
      intro s247 hI_s247 hF_s247 iv hmn1
      exact absurd hmn1 (by have h9 := iv.1; unfold mh_pb at h9; omega)
    | succ n1 ihn1 =>
      intro s247 hI_s247 hF_s247 iv hmn1
      obtain ⟨x289, t290⟩ : ∃ z : Int32, z = s247.1 57 23 := ⟨_, rfl⟩
      obtain ⟨x291, t292⟩ : ∃ z : Int32, z = s247.1 57 24 := ⟨_, rfl⟩
      obtain ⟨x293, t294⟩ : ∃ z : Int32, z = s247.1 57 25 := ⟨_, rfl⟩
      obtain ⟨x295, t296⟩ : ∃ z : Int32, z = s247.1 57 27 := ⟨_, rfl⟩
      obtain ⟨x297, t298⟩ : ∃ z : Int32, z = s247.1 57 29 := ⟨_, rfl⟩
      have pb_s247 : 0 ≤ x289.toInt ∧ x289.toInt ≤ x291.toInt ∧ x291.toInt ≤ 200 ∧ 0 ≤ x297.toInt ∧ 0 ≤ b ∧ b ≤ x295.toInt ∧ x297.toInt + x295.toInt ≤ x289.toInt ∧ x293.toInt ≤ 0 := by have h9 := iv.1; unfold mh_pb at h9; rw [← t290, ← t292, ← t294, ← t296, ← t298] at h9; exact h9
      have r_x289 : mh_r x289 (0) (200) := ⟨by have := ((mh_r_full x289)).1; omega, by have := ((mh_r_full x289)).2; omega⟩
      have r_x291 : mh_r x291 (0) (200) := ⟨by have := ((mh_r_full x291)).1; omega, by have := ((mh_r_full x291)).2; omega⟩
      have r_x293 : mh_r x293 (-2147483648) (0) := ⟨by have := ((mh_r_full x293)).1; omega, by have := ((mh_r_full x293)).2; omega⟩
      have r_x295 : mh_r x295 (0) (200) := ⟨by have := ((mh_r_full x295)).1; omega, by have := ((mh_r_full x295)).2; omega⟩
      have r_x297 : mh_r x297 (0) (200) := ⟨by have := ((mh_r_full x297)).1; omega, by have := ((mh_r_full x297)).2; omega⟩
      refine mw_aload_n 1 rfl 0 dX10_pieceOfC_0 rfl rfl ?_
      refine mw_callVi [] [] 4 rfl dX10_pieceOfC_1 ml_X10_197 mc_X10_isGood mk_X10_isGood rfl rfl (by decide) (w_X10_isGood l G (d + 4) ⟨by omega, by omega⟩ hI_s247) rfl rfl (Nat.le_of_ble_eq_true rfl) (mh_rok (by omega) (by decide)) (fun x299 s300 q301 => ?_)
      obtain ⟨r_x299, e0_s300, rfl⟩ := q301
      rw [← t294] at e0_s300
      refine mw_if_eq 7 rfl 32 dX10_pieceOfC_4 (by decide) (fun c302 => ?_) (fun c302 => ?_)
      · skip
        have r_x293 : mh_r x293 (-2147483648) (-1) := ⟨(r_x293).1, by have := (r_x293).2; have : x293.toInt ≠ 0 := (fun q => by have := e0_s300.2 q; have := c302; omega); omega⟩
        have r_x299 : mh_r x299 (0) (0) := mh_eq1 (show x299.toInt = (0 : Int32).toInt from c302) r_x299 rc_0 (0) (0) (by decide)
        refine mw_aload_n 33 rfl 0 dX10_pieceOfC_32 rfl rfl ?_
        refine mw_callVi [] [] 36 rfl dX10_pieceOfC_33 ml_X10_197 mc_X10_isGood mk_X10_isGood rfl rfl (by decide) (w_X10_isGood l G (d + 4) ⟨by omega, by omega⟩ hI_s247) rfl rfl (Nat.le_of_ble_eq_true rfl) (mh_rok (by omega) (by decide)) (fun x303 s304 q305 => ?_)
        obtain ⟨r_x303, e0_s304, rfl⟩ := q305
        rw [← t294] at e0_s304
        refine mw_if_eq 39 rfl 43 dX10_pieceOfC_36 (by decide) (fun c306 => ?_) (fun c306 => ?_)
        · skip
          have r_x303 : mh_r x303 (0) (0) := mh_eq1 (show x303.toInt = (0 : Int32).toInt from c306) r_x303 rc_0 (0) (0) (by decide)
          refine mw_aload_n 44 rfl 0 dX10_pieceOfC_43 rfl rfl ?_
          refine mw_callVi [] [] 47 rfl dX10_pieceOfC_44 ml_X10_197 mc_X10_isGood mk_X10_isGood rfl rfl (by decide) (w_X10_isGood l G (d + 4) ⟨by omega, by omega⟩ hI_s247) rfl rfl (Nat.le_of_ble_eq_true rfl) (mh_rok (by omega) (by decide)) (fun x307 s308 q309 => ?_)
          obtain ⟨r_x307, e0_s308, rfl⟩ := q309
          rw [← t294] at e0_s308
          refine mw_if_ne 50 rfl 51 dX10_pieceOfC_47 (by decide) (fun c310 => ?_) (fun c310 => ?_)
          · skip
            exact absurd (e0_s308.1 (mh_z1 r_x307 c310)) (by have := (r_x293).2; omega)
          · skip
            have r_x307 : mh_r x307 (0) (0) := mh_eq1 (show x307.toInt = (0 : Int32).toInt from c310) r_x307 rc_0 (0) (0) (by decide)
            refine mw_vret dX10_pieceOfC_50 rfl ⟨rfl, ⟨?_, ?_, ?_, ?_, ?_, hI_s247, hF_s247⟩⟩
            · skip
              exact (show mh_pb b s247 by unfold mh_pb; rw [← t290, ← t292, ← t294, ← t296, ← t298]; have := kc_0; have := kc_1; have := (r_x207).1; have := (r_x207).2; have := (r_x209).1; have := (r_x209).2; have := (r_x211).1; have := (r_x211).2; have := (r_x213).1; have := (r_x213).2; have := (r_x215).1; have := (r_x215).2; have := (r_x289).1; have := (r_x289).2; have := (r_x291).1; have := (r_x291).2; have := (r_x293).1; have := (r_x293).2; have := (r_x295).1; have := (r_x295).2; have := (r_x297).1; have := (r_x297).2; have := kc_0; have := kc_1; have := kc_33; have := kc_40; omega)
            · skip
              exact mh_pk_tr (mh_pk_row iv.2.2.1) (mh_pk_row (rfl))
            · skip
              intro hg9
              exfalso
              have := congrArg Int32.toInt t208
              have := congrArg Int32.toInt t210
              have := congrArg Int32.toInt t212
              have := congrArg Int32.toInt t214
              have := congrArg Int32.toInt t216
              have := congrArg Int32.toInt t290
              have := congrArg Int32.toInt t292
              have := congrArg Int32.toInt t294
              have := congrArg Int32.toInt t296
              have := congrArg Int32.toInt t298
              have := (r_x207).1; have := (r_x207).2
              have := (r_x209).1; have := (r_x209).2
              have := (r_x211).1; have := (r_x211).2
              have := (r_x213).1; have := (r_x213).2
              have := (r_x215).1; have := (r_x215).2
              have := (r_x289).1; have := (r_x289).2
              have := (r_x291).1; have := (r_x291).2
              have := (r_x293).1; have := (r_x293).2
              have := (r_x295).1; have := (r_x295).2
              have := (r_x297).1; have := (r_x297).2
              have := kc_0
              have := kc_1
              have := kc_33
              have := kc_40
              omega
            · skip
              intro hg9
              exfalso
              have := congrArg Int32.toInt t208
              have := congrArg Int32.toInt t210
              have := congrArg Int32.toInt t212
              have := congrArg Int32.toInt t214
              have := congrArg Int32.toInt t216
              have := congrArg Int32.toInt t290
              have := congrArg Int32.toInt t292
              have := congrArg Int32.toInt t294
              have := congrArg Int32.toInt t296
              have := congrArg Int32.toInt t298
              have := (r_x207).1; have := (r_x207).2
              have := (r_x209).1; have := (r_x209).2
              have := (r_x211).1; have := (r_x211).2
              have := (r_x213).1; have := (r_x213).2
              have := (r_x215).1; have := (r_x215).2
              have := (r_x289).1; have := (r_x289).2
              have := (r_x291).1; have := (r_x291).2
              have := (r_x293).1; have := (r_x293).2
              have := (r_x295).1; have := (r_x295).2
              have := (r_x297).1; have := (r_x297).2
              have := kc_0
              have := kc_1
              have := kc_33
              have := kc_40
              omega
            · skip
              have := congrArg Int32.toInt t208
              have := congrArg Int32.toInt t210
              have := congrArg Int32.toInt t212
              have := congrArg Int32.toInt t214
              have := congrArg Int32.toInt t216
              have := congrArg Int32.toInt t290
              have := congrArg Int32.toInt t292
              have := congrArg Int32.toInt t294
              have := congrArg Int32.toInt t296
              have := congrArg Int32.toInt t298
              have := (r_x207).1; have := (r_x207).2
              have := (r_x209).1; have := (r_x209).2
              have := (r_x211).1; have := (r_x211).2
              have := (r_x213).1; have := (r_x213).2
              have := (r_x215).1; have := (r_x215).2
              have := (r_x289).1; have := (r_x289).2
              have := (r_x291).1; have := (r_x291).2
              have := (r_x293).1; have := (r_x293).2
              have := (r_x295).1; have := (r_x295).2
              have := (r_x297).1; have := (r_x297).2
              have := kc_0
              have := kc_1
              have := kc_33
              have := kc_40
              have := iv.2.2.2.2
              omega
        · skip
          exact absurd (e0_s304.1 (mh_z1 r_x303 c306)) (by have := (r_x293).2; omega)
      · skip
        have r_x293 : mh_r x293 (0) (0) := ⟨by have := e0_s300.1 (mh_z1 r_x299 c302); omega, by have := e0_s300.1 (mh_z1 r_x299 c302); omega⟩
        have r_x299 : mh_r x299 (1) (1) := mh_ne1 (show x299.toInt ≠ (0 : Int32).toInt from c302) r_x299 rc_0 (1) (1) (by decide)
        refine mw_aload_n 8 rfl 0 dX10_pieceOfC_7 rfl rfl ?_
        refine mw_callVi [] [] 11 rfl dX10_pieceOfC_8 ml_X10_214 mc_X10_here mk_X10_here rfl rfl (by decide) (w_X10_here l G (d + 4) ⟨by omega, by omega⟩ hI_s247 (by rw [← t290, ← t292]; have := (r_x207).1; have := (r_x207).2; have := (r_x209).1; have := (r_x209).2; have := (r_x211).1; have := (r_x211).2; have := (r_x213).1; have := (r_x213).2; have := (r_x215).1; have := (r_x215).2; have := (r_x289).1; have := (r_x289).2; have := (r_x291).1; have := (r_x291).2; have := (r_x293).1; have := (r_x293).2; have := (r_x295).1; have := (r_x295).2; have := (r_x297).1; have := (r_x297).2; have := kc_0; have := kc_1; have := kc_33; have := kc_40; omega)) rfl rfl (Nat.le_of_ble_eq_true rfl) (mh_rok (by omega) (by decide)) (fun x311 s312 q313 => ?_)
        obtain ⟨r_x311, e0_s312, rfl⟩ := q313
        have hq_x311 : x311.toInt ≠ 0 → x289.toInt < x291.toInt := fun q => by rw [t290, t292]; exact mh_hr_lt (by rw [← e0_s312]; exact q)
        refine mw_bipush (v := 33) 13 rfl dX10_pieceOfC_11 (by decide) ?_
        refine mw_icmp_eq 16 rfl 25 dX10_pieceOfC_13 (by decide) (fun c314 => ?_) (fun c314 => ?_)
        · skip
          have r_x311 : mh_r x311 (33) (33) := mh_eq1 c314 r_x311 rc_33 (33) (33) (by decide)
          refine mw_aload_n 26 rfl 0 dX10_pieceOfC_25 rfl rfl ?_
          refine mw_callVv [] [] 29 rfl dX10_pieceOfC_26 ml_X10_240 mc_X10_opens mk_X10_opens rfl rfl (by decide) (w_X10_opens l G (d + 3) ⟨by omega, by omega⟩ hI_s247 b (show mh_pb b s247 by unfold mh_pb; rw [← t290, ← t292, ← t294, ← t296, ← t298]; have := kc_0; have := kc_1; have := (r_x207).1; have := (r_x207).2; have := (r_x209).1; have := (r_x209).2; have := (r_x211).1; have := (r_x211).2; have := (r_x213).1; have := (r_x213).2; have := (r_x215).1; have := (r_x215).2; have := (r_x289).1; have := (r_x289).2; have := (r_x291).1; have := (r_x291).2; have := (r_x293).1; have := (r_x293).2; have := (r_x295).1; have := (r_x295).2; have := (r_x297).1; have := (r_x297).2; have := kc_0; have := kc_1; have := kc_33; have := kc_40; omega) (by have := congrArg Int32.toInt t208; have := congrArg Int32.toInt t210; have := congrArg Int32.toInt t212; have := congrArg Int32.toInt t214; have := congrArg Int32.toInt t216; have := congrArg Int32.toInt t290; have := congrArg Int32.toInt t292; have := congrArg Int32.toInt t294; have := congrArg Int32.toInt t296; have := congrArg Int32.toInt t298; have := (r_x207).1; have := (r_x207).2; have := (r_x209).1; have := (r_x209).2; have := (r_x211).1; have := (r_x211).2; have := (r_x213).1; have := (r_x213).2; have := (r_x215).1; have := (r_x215).2; have := (r_x289).1; have := (r_x289).2; have := (r_x291).1; have := (r_x291).2; have := (r_x293).1; have := (r_x293).2; have := (r_x295).1; have := (r_x295).2; have := (r_x297).1; have := (r_x297).2; have := kc_0; have := kc_1; have := kc_33; have := kc_40; omega)) rfl rfl (Nat.le_of_ble_eq_true rfl) (mh_rok (by omega) (by decide)) (fun s316 q317 => ?_)
          obtain ⟨e0_s316, e1_s316, e2_s316, hI_s316, hG_s316⟩ := q317
          have hF_s316 : mh_F S_X10_pieceOfC s0 s316 := mh_F_tl hF_s247 hG_s316 (by decide +kernel)
          obtain ⟨x318, t319⟩ : ∃ z : Int32, z = s316.1 57 23 := ⟨_, rfl⟩
          have t320 : x291 = s316.1 57 24 := (t292).trans (hG_s316 57 24 (mh_nsI (by rfl))).1.symm
          obtain ⟨x321, t322⟩ : ∃ z : Int32, z = s316.1 57 25 := ⟨_, rfl⟩
          have t323 : x295 = s316.1 57 27 := (t296).trans (hG_s316 57 27 (mh_nsI (by rfl))).1.symm
          obtain ⟨x324, t325⟩ : ∃ z : Int32, z = s316.1 57 29 := ⟨_, rfl⟩
          have pb_s316 : 0 ≤ x318.toInt ∧ x318.toInt ≤ x291.toInt ∧ x291.toInt ≤ 200 ∧ 0 ≤ x324.toInt ∧ 0 ≤ b ∧ b ≤ x295.toInt ∧ x324.toInt + x295.toInt ≤ x318.toInt ∧ x321.toInt ≤ 0 := by have h9 := e0_s316; unfold mh_pb at h9; rw [← t319, ← t320, ← t322, ← t323, ← t325] at h9; exact h9
          have r_x318 : mh_r x318 (0) (200) := ⟨by have := ((mh_r_full x318)).1; omega, by have := ((mh_r_full x318)).2; omega⟩
          have r_x321 : mh_r x321 (-2147483648) (0) := ⟨by have := ((mh_r_full x321)).1; omega, by have := ((mh_r_full x321)).2; omega⟩
          have r_x324 : mh_r x324 (0) (200) := ⟨by have := ((mh_r_full x324)).1; omega, by have := ((mh_r_full x324)).2; omega⟩
          have hop_s316 := e2_s316
          rw [← t325, ← t319, ← t322, ← t298, ← t290, ← t294] at hop_s316
          refine mw_goto 32 rfl 0 dX10_pieceOfC_29 (by decide) ?_
          exact mw_lv [0] rfl (ihn1 s316 hI_s316 hF_s316 (by
              have h76 := e1_s316
              rw [← t298, ← e0_s312] at h76
              have h74 : s316.1 74 = s247.1 74 := (mh_F_row hG_s316 74 rfl)
              refine ⟨e0_s316, ?_, h74.trans iv.2.2.1, ?_, ?_⟩
              · skip
                intro hg
                have := congrArg Int32.toInt t208
                have := congrArg Int32.toInt t210
                have := congrArg Int32.toInt t212
                have := congrArg Int32.toInt t214
                have := congrArg Int32.toInt t216
                have := congrArg Int32.toInt t290
                have := congrArg Int32.toInt t292
                have := congrArg Int32.toInt t294
                have := congrArg Int32.toInt t296
                have := congrArg Int32.toInt t298
                have := congrArg Int32.toInt t319
                have := congrArg Int32.toInt t320
                have := congrArg Int32.toInt t322
                have := congrArg Int32.toInt t323
                have := congrArg Int32.toInt t325
                have := (r_x207).1; have := (r_x207).2
                have := (r_x209).1; have := (r_x209).2
                have := (r_x211).1; have := (r_x211).2
                have := (r_x213).1; have := (r_x213).2
                have := (r_x215).1; have := (r_x215).2
                have := (r_x289).1; have := (r_x289).2
                have := (r_x291).1; have := (r_x291).2
                have := (r_x293).1; have := (r_x293).2
                have := (r_x295).1; have := (r_x295).2
                have := (r_x297).1; have := (r_x297).2
                have := (r_x318).1; have := (r_x318).2
                have := (r_x321).1; have := (r_x321).2
                have := (r_x324).1; have := (r_x324).2
                have := kc_0
                have := kc_1
                have := kc_33
                have := kc_40
                have hB := iv.2.1 (by rw [← t294]; omega)
                have h76 := e1_s316
                rw [← t298] at h76
                have h74 : s316.1 74 = s247.1 74 := (mh_F_row hG_s316 74 rfl)
                have hcod : (s316.1 57 27).toInt = x295.toInt := by rw [← t323]
                have hst : (s316.1 57 29).toInt.toNat = x297.toInt.toNat + 1 := by rw [← t325]; omega
                rw [← t296, ← t298] at hB
                rw [h74, h76, hcod, hst]
                exact mh_pdr_pn hB (by rw [← e0_s312]; show (_ ∨ _ ∨ _); omega)
              · skip
                have := congrArg Int32.toInt t208
                have := congrArg Int32.toInt t210
                have := congrArg Int32.toInt t212
                have := congrArg Int32.toInt t214
                have := congrArg Int32.toInt t216
                have := congrArg Int32.toInt t290
                have := congrArg Int32.toInt t292
                have := congrArg Int32.toInt t294
                have := congrArg Int32.toInt t296
                have := congrArg Int32.toInt t298
                have := congrArg Int32.toInt t319
                have := congrArg Int32.toInt t320
                have := congrArg Int32.toInt t322
                have := congrArg Int32.toInt t323
                have := congrArg Int32.toInt t325
                have := (r_x207).1; have := (r_x207).2
                have := (r_x209).1; have := (r_x209).2
                have := (r_x211).1; have := (r_x211).2
                have := (r_x213).1; have := (r_x213).2
                have := (r_x215).1; have := (r_x215).2
                have := (r_x289).1; have := (r_x289).2
                have := (r_x291).1; have := (r_x291).2
                have := (r_x293).1; have := (r_x293).2
                have := (r_x295).1; have := (r_x295).2
                have := (r_x297).1; have := (r_x297).2
                have := (r_x318).1; have := (r_x318).2
                have := (r_x321).1; have := (r_x321).2
                have := (r_x324).1; have := (r_x324).2
                have := kc_0
                have := kc_1
                have := kc_33
                have := kc_40
                have hc9 := iv.2.2.2.1
                rw [← t298] at hc9
                have hst : (s316.1 57 29).toInt.toNat = x297.toInt.toNat + 1 := by rw [← t325]; omega
                rw [hst, h76]
                exact mh_cq_psh hc9 (by unfold mh_cs; omega)
              · skip
                have := congrArg Int32.toInt t208
                have := congrArg Int32.toInt t210
                have := congrArg Int32.toInt t212
                have := congrArg Int32.toInt t214
                have := congrArg Int32.toInt t216
                have := congrArg Int32.toInt t290
                have := congrArg Int32.toInt t292
                have := congrArg Int32.toInt t294
                have := congrArg Int32.toInt t296
                have := congrArg Int32.toInt t298
                have := congrArg Int32.toInt t319
                have := congrArg Int32.toInt t320
                have := congrArg Int32.toInt t322
                have := congrArg Int32.toInt t323
                have := congrArg Int32.toInt t325
                have := (r_x207).1; have := (r_x207).2
                have := (r_x209).1; have := (r_x209).2
                have := (r_x211).1; have := (r_x211).2
                have := (r_x213).1; have := (r_x213).2
                have := (r_x215).1; have := (r_x215).2
                have := (r_x289).1; have := (r_x289).2
                have := (r_x291).1; have := (r_x291).2
                have := (r_x293).1; have := (r_x293).2
                have := (r_x295).1; have := (r_x295).2
                have := (r_x297).1; have := (r_x297).2
                have := (r_x318).1; have := (r_x318).2
                have := (r_x321).1; have := (r_x321).2
                have := (r_x324).1; have := (r_x324).2
                have := kc_0
                have := kc_1
                have := kc_33
                have := kc_40
                have := iv.2.2.2.2
                omega) (by have := congrArg Int32.toInt t208; have := congrArg Int32.toInt t210; have := congrArg Int32.toInt t212; have := congrArg Int32.toInt t214; have := congrArg Int32.toInt t216; have := congrArg Int32.toInt t290; have := congrArg Int32.toInt t292; have := congrArg Int32.toInt t294; have := congrArg Int32.toInt t296; have := congrArg Int32.toInt t298; have := congrArg Int32.toInt t319; have := congrArg Int32.toInt t320; have := congrArg Int32.toInt t322; have := congrArg Int32.toInt t323; have := congrArg Int32.toInt t325; have := (r_x207).1; have := (r_x207).2; have := (r_x209).1; have := (r_x209).2; have := (r_x211).1; have := (r_x211).2; have := (r_x213).1; have := (r_x213).2; have := (r_x215).1; have := (r_x215).2; have := (r_x289).1; have := (r_x289).2; have := (r_x291).1; have := (r_x291).2; have := (r_x293).1; have := (r_x293).2; have := (r_x295).1; have := (r_x295).2; have := (r_x297).1; have := (r_x297).2; have := (r_x318).1; have := (r_x318).2; have := (r_x321).1; have := (r_x321).2; have := (r_x324).1; have := (r_x324).2; have := kc_0; have := kc_1; have := kc_33; have := kc_40; omega))
        · skip
          refine mw_aload_n 17 rfl 0 dX10_pieceOfC_16 rfl rfl ?_
          refine mw_callVi [] [] 20 rfl dX10_pieceOfC_17 ml_X10_214 mc_X10_here mk_X10_here rfl rfl (by decide) (w_X10_here l G (d + 4) ⟨by omega, by omega⟩ hI_s247 (by rw [← t290, ← t292]; have := (r_x207).1; have := (r_x207).2; have := (r_x209).1; have := (r_x209).2; have := (r_x211).1; have := (r_x211).2; have := (r_x213).1; have := (r_x213).2; have := (r_x215).1; have := (r_x215).2; have := (r_x289).1; have := (r_x289).2; have := (r_x291).1; have := (r_x291).2; have := (r_x293).1; have := (r_x293).2; have := (r_x295).1; have := (r_x295).2; have := (r_x297).1; have := (r_x297).2; have := kc_0; have := kc_1; have := kc_33; have := kc_40; omega)) rfl rfl (Nat.le_of_ble_eq_true rfl) (mh_rok (by omega) (by decide)) (fun x326 s327 q328 => ?_)
          obtain ⟨r_x326, e0_s327, rfl⟩ := q328
          obtain rfl : x311 = x326 := e0_s312.trans e0_s327.symm
          refine mw_bipush (v := 40) 22 rfl dX10_pieceOfC_20 (by decide) ?_
          refine mw_icmp_ne 25 rfl 32 dX10_pieceOfC_22 (by decide) (fun c329 => ?_) (fun c329 => ?_)
          · skip
            refine mw_aload_n 33 rfl 0 dX10_pieceOfC_32 rfl rfl ?_
            refine mw_callVi [] [] 36 rfl dX10_pieceOfC_33 ml_X10_197 mc_X10_isGood mk_X10_isGood rfl rfl (by decide) (w_X10_isGood l G (d + 4) ⟨by omega, by omega⟩ hI_s247) rfl rfl (Nat.le_of_ble_eq_true rfl) (mh_rok (by omega) (by decide)) (fun x330 s331 q332 => ?_)
            obtain ⟨r_x330, e0_s331, rfl⟩ := q332
            rw [← t294] at e0_s331
            refine mw_if_eq 39 rfl 43 dX10_pieceOfC_36 (by decide) (fun c333 => ?_) (fun c333 => ?_)
            · skip
              exact absurd (e0_s331.2 (by have := (r_x293).1; have := (r_x293).2; omega)) (by have := c333; omega)
            · skip
              have r_x330 : mh_r x330 (1) (1) := mh_ne1 (show x330.toInt ≠ (0 : Int32).toInt from c333) r_x330 rc_0 (1) (1) (by decide)
              refine mw_aload_n 40 rfl 0 dX10_pieceOfC_39 rfl rfl ?_
              refine mw_callVv [] [] 43 rfl dX10_pieceOfC_40 ml_X10_263 mc_X10_value mk_X10_value rfl rfl (by decide) (w_X10_value l G (d + 0) ⟨by omega, by omega⟩ hI_s247 b (show mh_pb b s247 by unfold mh_pb; rw [← t290, ← t292, ← t294, ← t296, ← t298]; have := kc_0; have := kc_1; have := (r_x207).1; have := (r_x207).2; have := (r_x209).1; have := (r_x209).2; have := (r_x211).1; have := (r_x211).2; have := (r_x213).1; have := (r_x213).2; have := (r_x215).1; have := (r_x215).2; have := (r_x289).1; have := (r_x289).2; have := (r_x291).1; have := (r_x291).2; have := (r_x293).1; have := (r_x293).2; have := (r_x295).1; have := (r_x295).2; have := (r_x297).1; have := (r_x297).2; have := kc_0; have := kc_1; have := kc_33; have := kc_40; omega) ((mh_pd_c iv.2.1 rfl rfl rfl (rfl) (rfl))) (by rw [← t294]; have := (r_x207).1; have := (r_x207).2; have := (r_x209).1; have := (r_x209).2; have := (r_x211).1; have := (r_x211).2; have := (r_x213).1; have := (r_x213).2; have := (r_x215).1; have := (r_x215).2; have := (r_x289).1; have := (r_x289).2; have := (r_x291).1; have := (r_x291).2; have := (r_x293).1; have := (r_x293).2; have := (r_x295).1; have := (r_x295).2; have := (r_x297).1; have := (r_x297).2; have := kc_0; have := kc_1; have := kc_33; have := kc_40; omega) (mh_cq_fl iv.2.2.2.1)) rfl rfl (Nat.le_of_ble_eq_true rfl) (mh_rok (by omega) (by decide)) (fun s335 q336 => ?_)
              obtain ⟨e0_s335, e1_s335, e2_s335, e3_s335, e4_s335, hI_s335, hG_s335⟩ := q336
              have hF_s335 : mh_F S_X10_pieceOfC s0 s335 := mh_F_tl hF_s247 hG_s335 (by decide +kernel)
              obtain ⟨x337, t338⟩ : ∃ z : Int32, z = s335.1 57 23 := ⟨_, rfl⟩
              have t339 : x291 = s335.1 57 24 := (t292).trans (hG_s335 57 24 (mh_nsI (by rfl))).1.symm
              obtain ⟨x340, t341⟩ : ∃ z : Int32, z = s335.1 57 25 := ⟨_, rfl⟩
              obtain ⟨x342, t343⟩ : ∃ z : Int32, z = s335.1 57 27 := ⟨_, rfl⟩
              obtain ⟨x344, t345⟩ : ∃ z : Int32, z = s335.1 57 29 := ⟨_, rfl⟩
              have pb_s335 : 0 ≤ x337.toInt ∧ x337.toInt ≤ x291.toInt ∧ x291.toInt ≤ 200 ∧ 0 ≤ x344.toInt ∧ 0 ≤ b ∧ b ≤ x342.toInt ∧ x344.toInt + x342.toInt ≤ x337.toInt ∧ x340.toInt ≤ 0 := by have h9 := e0_s335; unfold mh_pb at h9; rw [← t338, ← t339, ← t341, ← t343, ← t345] at h9; exact h9
              have r_x337 : mh_r x337 (0) (200) := ⟨by have := ((mh_r_full x337)).1; omega, by have := ((mh_r_full x337)).2; omega⟩
              have r_x340 : mh_r x340 (-2147483648) (0) := ⟨by have := ((mh_r_full x340)).1; omega, by have := ((mh_r_full x340)).2; omega⟩
              have r_x342 : mh_r x342 (0) (200) := ⟨by have := ((mh_r_full x342)).1; omega, by have := ((mh_r_full x342)).2; omega⟩
              have r_x344 : mh_r x344 (0) (200) := ⟨by have := ((mh_r_full x344)).1; omega, by have := ((mh_r_full x344)).2; omega⟩
              have hva_s335 := e4_s335
              rw [← t290, ← t338, ← t341] at hva_s335
              have hvb_s335 := e2_s335
              rw [← t298, ← t345, ← t341] at hvb_s335
              refine mw_aload_n 44 rfl 0 dX10_pieceOfC_43 rfl rfl ?_
              refine mw_callVi [] [] 47 rfl dX10_pieceOfC_44 ml_X10_197 mc_X10_isGood mk_X10_isGood rfl rfl (by decide) (w_X10_isGood l G (d + 4) ⟨by omega, by omega⟩ hI_s335) rfl rfl (Nat.le_of_ble_eq_true rfl) (mh_rok (by omega) (by decide)) (fun x346 s347 q348 => ?_)
              obtain ⟨r_x346, e0_s347, rfl⟩ := q348
              rw [← t341] at e0_s347
              refine mw_if_ne 50 rfl 51 dX10_pieceOfC_47 (by decide) (fun c349 => ?_) (fun c349 => ?_)
              · skip
                have r_x340 : mh_r x340 (0) (0) := ⟨by have := e0_s347.1 (mh_z1 r_x346 c349); omega, by have := e0_s347.1 (mh_z1 r_x346 c349); omega⟩
                have r_x346 : mh_r x346 (1) (1) := mh_ne1 (show x346.toInt ≠ (0 : Int32).toInt from c349) r_x346 rc_0 (1) (1) (by decide)
                refine mw_aload_n 52 rfl 0 dX10_pieceOfC_51 rfl rfl ?_
                refine mw_callVi [] [] 55 rfl dX10_pieceOfC_52 ml_X10_214 mc_X10_here mk_X10_here rfl rfl (by decide) (w_X10_here l G (d + 4) ⟨by omega, by omega⟩ hI_s335 (by rw [← t338, ← t339]; have := (r_x207).1; have := (r_x207).2; have := (r_x209).1; have := (r_x209).2; have := (r_x211).1; have := (r_x211).2; have := (r_x213).1; have := (r_x213).2; have := (r_x215).1; have := (r_x215).2; have := (r_x289).1; have := (r_x289).2; have := (r_x291).1; have := (r_x291).2; have := (r_x293).1; have := (r_x293).2; have := (r_x295).1; have := (r_x295).2; have := (r_x297).1; have := (r_x297).2; have := (r_x337).1; have := (r_x337).2; have := (r_x340).1; have := (r_x340).2; have := (r_x342).1; have := (r_x342).2; have := (r_x344).1; have := (r_x344).2; have := kc_0; have := kc_1; have := kc_33; have := kc_40; omega)) rfl rfl (Nat.le_of_ble_eq_true rfl) (mh_rok (by omega) (by decide)) (fun x350 s351 q352 => ?_)
                obtain ⟨r_x350, e0_s351, rfl⟩ := q352
                have hq_x350 : x350.toInt ≠ 0 → x337.toInt < x291.toInt := fun q => by rw [t338, t339]; exact mh_hr_lt (by rw [← e0_s351]; exact q)
                refine mw_istore_n 56 rfl [(1, .int x350), (0, .ref (G.2.2.2 57))] dX10_pieceOfC_55 rfl (by decide) rfl ?_
                refine mw_iload_n 57 rfl 0 dX10_pieceOfC_56 rfl rfl ?_
                refine mw_callSi [.int x350] [] 60 rfl dX10_pieceOfC_57 ml_X10_266 mc_X10_isSign mk_X10_isSign (w_X10_isSign l G (d + 4) ⟨by omega, by omega⟩ hI_s335 x350) rfl rfl (Nat.le_of_ble_eq_true rfl) (mh_rok (by omega) (by decide)) (fun x353 s354 q355 => ?_)
                obtain ⟨r_x353, e0_s354, rfl⟩ := q355
                refine mw_if_ne 63 rfl 73 dX10_pieceOfC_60 (by decide) (fun c356 => ?_) (fun c356 => ?_)
                · skip
                  have hk_x353 := e0_s354.1 (mh_z1 r_x353 c356)
                  have r_x353 : mh_r x353 (1) (1) := mh_ne1 (show x353.toInt ≠ (0 : Int32).toInt from c356) r_x353 rc_0 (1) (1) (by decide)
                  refine mw_aload_n 74 rfl 1 dX10_pieceOfC_73 rfl rfl ?_
                  refine mw_iload_n 75 rfl 0 dX10_pieceOfC_74 rfl rfl ?_
                  refine mw_callVv [.int x350] [] 78 rfl dX10_pieceOfC_75 ml_X10_218 mc_X10_puts mk_X10_puts rfl rfl (by decide) (w_X10_puts l G (d + 4) ⟨by omega, by omega⟩ hI_s335 x350 (by rw [← t345, ← t338]; have := (r_x350).1; have := (r_x350).2; have := (r_x207).1; have := (r_x207).2; have := (r_x209).1; have := (r_x209).2; have := (r_x211).1; have := (r_x211).2; have := (r_x213).1; have := (r_x213).2; have := (r_x215).1; have := (r_x215).2; have := (r_x289).1; have := (r_x289).2; have := (r_x291).1; have := (r_x291).2; have := (r_x293).1; have := (r_x293).2; have := (r_x295).1; have := (r_x295).2; have := (r_x297).1; have := (r_x297).2; have := (r_x337).1; have := (r_x337).2; have := (r_x340).1; have := (r_x340).2; have := (r_x342).1; have := (r_x342).2; have := (r_x344).1; have := (r_x344).2; have := kc_0; have := kc_1; have := kc_33; have := kc_40; omega)) rfl rfl (Nat.le_of_ble_eq_true rfl) (mh_rok (by omega) (by decide)) (fun s358 q359 => ?_)
                  obtain ⟨e0_s358, hI_s358, hG_s358⟩ := q359
                  have hF_s358 : mh_F S_X10_pieceOfC s0 s358 := mh_F_tl hF_s335 hG_s358 (by decide +kernel)
                  obtain ⟨x360, t361⟩ : ∃ z : Int32, z = s358.1 57 29 := ⟨_, rfl⟩
                  obtain ⟨x362, t363⟩ : ∃ z : Int32, z = s358.1 57 23 := ⟨_, rfl⟩
                  rw [← t345, ← t361, ← t338, ← t363] at e0_s358
                  have r_x360 : mh_r x360 (1) (201) := ⟨by have := e0_s358.2; have := (r_x344).1; omega, by have := e0_s358.2; have := (r_x344).2; omega⟩
                  have r_x362 : mh_r x362 (1) (201) := ⟨by have := e0_s358.2; have := (r_x337).1; omega, by have := e0_s358.2; have := (r_x337).2; omega⟩
                  refine mw_aload_n 79 rfl 1 dX10_pieceOfC_78 rfl rfl ?_
                  have t364 : x291 = s358.1 57 24 := (t339).trans (hG_s358 57 24 (mh_nsI (by rfl))).1.symm
                  have t365 : x340 = s358.1 57 25 := (t341).trans (hG_s358 57 25 (mh_nsI (by rfl))).1.symm
                  have t366 : x342 = s358.1 57 27 := (t343).trans (hG_s358 57 27 (mh_nsI (by rfl))).1.symm
                  have hpd3 : mh_pd b 0 s358 := by
                    intro hg9
                    have := congrArg Int32.toInt t208
                    have := congrArg Int32.toInt t210
                    have := congrArg Int32.toInt t212
                    have := congrArg Int32.toInt t214
                    have := congrArg Int32.toInt t216
                    have := congrArg Int32.toInt t290
                    have := congrArg Int32.toInt t292
                    have := congrArg Int32.toInt t294
                    have := congrArg Int32.toInt t296
                    have := congrArg Int32.toInt t298
                    have := congrArg Int32.toInt t338
                    have := congrArg Int32.toInt t339
                    have := congrArg Int32.toInt t341
                    have := congrArg Int32.toInt t343
                    have := congrArg Int32.toInt t345
                    have := congrArg Int32.toInt t361
                    have := congrArg Int32.toInt t363
                    have := congrArg Int32.toInt t364
                    have := congrArg Int32.toInt t365
                    have := congrArg Int32.toInt t366
                    have := (r_x350).1; have := (r_x350).2
                    have := (r_x207).1; have := (r_x207).2
                    have := (r_x209).1; have := (r_x209).2
                    have := (r_x211).1; have := (r_x211).2
                    have := (r_x213).1; have := (r_x213).2
                    have := (r_x215).1; have := (r_x215).2
                    have := (r_x289).1; have := (r_x289).2
                    have := (r_x291).1; have := (r_x291).2
                    have := (r_x293).1; have := (r_x293).2
                    have := (r_x295).1; have := (r_x295).2
                    have := (r_x297).1; have := (r_x297).2
                    have := (r_x337).1; have := (r_x337).2
                    have := (r_x340).1; have := (r_x340).2
                    have := (r_x342).1; have := (r_x342).2
                    have := (r_x344).1; have := (r_x344).2
                    have := (r_x360).1; have := (r_x360).2
                    have := (r_x362).1; have := (r_x362).2
                    have := kc_0
                    have := kc_1
                    have := kc_33
                    have := kc_40
                    have hB := e3_s335 (by rw [← t341]; omega)
                    rw [← t343, ← t345] at hB
                    have h74 : s358.1 74 = s335.1 74 := (mh_F_row hG_s358 74 rfl)
                    have hcod : (s358.1 57 27).toInt = x342.toInt := by rw [← t366]
                    have hst : (s358.1 57 29).toInt.toNat = x344.toInt.toNat + 1 := by rw [← t361]; omega
                    rw [h74, e0_s358.1, hcod, hst]
                    exact mh_pdr_pb hB (by show ¬ (_ ∨ _ ∨ _); omega)
                  have hfl3 : mh_fl (s358.1 76) (s358.1 57 29).toInt.toNat := by
                    have := congrArg Int32.toInt t208
                    have := congrArg Int32.toInt t210
                    have := congrArg Int32.toInt t212
                    have := congrArg Int32.toInt t214
                    have := congrArg Int32.toInt t216
                    have := congrArg Int32.toInt t290
                    have := congrArg Int32.toInt t292
                    have := congrArg Int32.toInt t294
                    have := congrArg Int32.toInt t296
                    have := congrArg Int32.toInt t298
                    have := congrArg Int32.toInt t338
                    have := congrArg Int32.toInt t339
                    have := congrArg Int32.toInt t341
                    have := congrArg Int32.toInt t343
                    have := congrArg Int32.toInt t345
                    have := congrArg Int32.toInt t361
                    have := congrArg Int32.toInt t363
                    have := congrArg Int32.toInt t364
                    have := congrArg Int32.toInt t365
                    have := congrArg Int32.toInt t366
                    have := (r_x350).1; have := (r_x350).2
                    have := (r_x207).1; have := (r_x207).2
                    have := (r_x209).1; have := (r_x209).2
                    have := (r_x211).1; have := (r_x211).2
                    have := (r_x213).1; have := (r_x213).2
                    have := (r_x215).1; have := (r_x215).2
                    have := (r_x289).1; have := (r_x289).2
                    have := (r_x291).1; have := (r_x291).2
                    have := (r_x293).1; have := (r_x293).2
                    have := (r_x295).1; have := (r_x295).2
                    have := (r_x297).1; have := (r_x297).2
                    have := (r_x337).1; have := (r_x337).2
                    have := (r_x340).1; have := (r_x340).2
                    have := (r_x342).1; have := (r_x342).2
                    have := (r_x344).1; have := (r_x344).2
                    have := (r_x360).1; have := (r_x360).2
                    have := (r_x362).1; have := (r_x362).2
                    have := kc_0
                    have := kc_1
                    have := kc_33
                    have := kc_40
                    intro j hj q
                    have h5 : s358.1 76 j = x350 := by rw [e0_s358.1]; exact if_pos (by omega)
                    rw [h5] at q
                    unfold mh_vs at q
                    omega
                  refine mw_callVv [] [] 82 rfl dX10_pieceOfC_79 ml_X10_263 mc_X10_value mk_X10_value rfl rfl (by decide) (w_X10_value l G (d + 0) ⟨by omega, by omega⟩ hI_s358 b (show mh_pb b s358 by unfold mh_pb; rw [← t363, ← t364, ← t365, ← t366, ← t361]; have := kc_0; have := kc_1; have := (r_x350).1; have := (r_x350).2; have := (r_x207).1; have := (r_x207).2; have := (r_x209).1; have := (r_x209).2; have := (r_x211).1; have := (r_x211).2; have := (r_x213).1; have := (r_x213).2; have := (r_x215).1; have := (r_x215).2; have := (r_x289).1; have := (r_x289).2; have := (r_x291).1; have := (r_x291).2; have := (r_x293).1; have := (r_x293).2; have := (r_x295).1; have := (r_x295).2; have := (r_x297).1; have := (r_x297).2; have := (r_x337).1; have := (r_x337).2; have := (r_x340).1; have := (r_x340).2; have := (r_x342).1; have := (r_x342).2; have := (r_x344).1; have := (r_x344).2; have := (r_x360).1; have := (r_x360).2; have := (r_x362).1; have := (r_x362).2; have := kc_0; have := kc_1; have := kc_33; have := kc_40; omega) hpd3 (by rw [← t365]; have := (r_x350).1; have := (r_x350).2; have := (r_x207).1; have := (r_x207).2; have := (r_x209).1; have := (r_x209).2; have := (r_x211).1; have := (r_x211).2; have := (r_x213).1; have := (r_x213).2; have := (r_x215).1; have := (r_x215).2; have := (r_x289).1; have := (r_x289).2; have := (r_x291).1; have := (r_x291).2; have := (r_x293).1; have := (r_x293).2; have := (r_x295).1; have := (r_x295).2; have := (r_x297).1; have := (r_x297).2; have := (r_x337).1; have := (r_x337).2; have := (r_x340).1; have := (r_x340).2; have := (r_x342).1; have := (r_x342).2; have := (r_x344).1; have := (r_x344).2; have := (r_x360).1; have := (r_x360).2; have := (r_x362).1; have := (r_x362).2; have := kc_0; have := kc_1; have := kc_33; have := kc_40; omega) hfl3) rfl rfl (Nat.le_of_ble_eq_true rfl) (mh_rok (by omega) (by decide)) (fun s368 q369 => ?_)
                  obtain ⟨e0_s368, e1_s368, e2_s368, e3_s368, e4_s368, hI_s368, hG_s368⟩ := q369
                  have hF_s368 : mh_F S_X10_pieceOfC s0 s368 := mh_F_tl hF_s358 hG_s368 (by decide +kernel)
                  obtain ⟨x370, t371⟩ : ∃ z : Int32, z = s368.1 57 23 := ⟨_, rfl⟩
                  have t372 : x291 = s368.1 57 24 := (t364).trans (hG_s368 57 24 (mh_nsI (by rfl))).1.symm
                  obtain ⟨x373, t374⟩ : ∃ z : Int32, z = s368.1 57 25 := ⟨_, rfl⟩
                  obtain ⟨x375, t376⟩ : ∃ z : Int32, z = s368.1 57 27 := ⟨_, rfl⟩
                  obtain ⟨x377, t378⟩ : ∃ z : Int32, z = s368.1 57 29 := ⟨_, rfl⟩
                  have pb_s368 : 0 ≤ x370.toInt ∧ x370.toInt ≤ x291.toInt ∧ x291.toInt ≤ 200 ∧ 0 ≤ x377.toInt ∧ 0 ≤ b ∧ b ≤ x375.toInt ∧ x377.toInt + x375.toInt ≤ x370.toInt ∧ x373.toInt ≤ 0 := by have h9 := e0_s368; unfold mh_pb at h9; rw [← t371, ← t372, ← t374, ← t376, ← t378] at h9; exact h9
                  have r_x370 : mh_r x370 (0) (200) := ⟨by have := ((mh_r_full x370)).1; omega, by have := ((mh_r_full x370)).2; omega⟩
                  have r_x373 : mh_r x373 (-2147483648) (0) := ⟨by have := ((mh_r_full x373)).1; omega, by have := ((mh_r_full x373)).2; omega⟩
                  have r_x375 : mh_r x375 (0) (200) := ⟨by have := ((mh_r_full x375)).1; omega, by have := ((mh_r_full x375)).2; omega⟩
                  have r_x377 : mh_r x377 (0) (200) := ⟨by have := ((mh_r_full x377)).1; omega, by have := ((mh_r_full x377)).2; omega⟩
                  have hva_s368 := e4_s368
                  rw [← t363, ← t371, ← t374] at hva_s368
                  have hvb_s368 := e2_s368
                  rw [← t361, ← t378, ← t374] at hvb_s368
                  refine mw_aload_n 83 rfl 1 dX10_pieceOfC_82 rfl rfl ?_
                  refine mw_callVi [] [] 86 rfl dX10_pieceOfC_83 ml_X10_197 mc_X10_isGood mk_X10_isGood rfl rfl (by decide) (w_X10_isGood l G (d + 4) ⟨by omega, by omega⟩ hI_s368) rfl rfl (Nat.le_of_ble_eq_true rfl) (mh_rok (by omega) (by decide)) (fun x379 s380 q381 => ?_)
                  obtain ⟨r_x379, e0_s380, rfl⟩ := q381
                  rw [← t374] at e0_s380
                  refine mw_if_ne 89 rfl 90 dX10_pieceOfC_86 (by decide) (fun c382 => ?_) (fun c382 => ?_)
                  · skip
                    have r_x373 : mh_r x373 (0) (0) := ⟨by have := e0_s380.1 (mh_z1 r_x379 c382); omega, by have := e0_s380.1 (mh_z1 r_x379 c382); omega⟩
                    have r_x379 : mh_r x379 (1) (1) := mh_ne1 (show x379.toInt ≠ (0 : Int32).toInt from c382) r_x379 rc_0 (1) (1) (by decide)
                    refine mw_aload_n 91 rfl 1 dX10_pieceOfC_90 rfl rfl ?_
                    refine mw_aload_n 92 rfl 1 dX10_pieceOfC_91 rfl rfl ?_
                    refine mw_callVi [] [.ref (G.2.2.2 57)] 95 rfl dX10_pieceOfC_92 ml_X10_228 mc_X10_top mk_X10_top rfl rfl (by decide) (w_X10_top l G (d + 4) ⟨by omega, by omega⟩ hI_s368 (by rw [← t378]; have := (r_x350).1; have := (r_x350).2; have := (r_x207).1; have := (r_x207).2; have := (r_x209).1; have := (r_x209).2; have := (r_x211).1; have := (r_x211).2; have := (r_x213).1; have := (r_x213).2; have := (r_x215).1; have := (r_x215).2; have := (r_x289).1; have := (r_x289).2; have := (r_x291).1; have := (r_x291).2; have := (r_x293).1; have := (r_x293).2; have := (r_x295).1; have := (r_x295).2; have := (r_x297).1; have := (r_x297).2; have := (r_x337).1; have := (r_x337).2; have := (r_x340).1; have := (r_x340).2; have := (r_x342).1; have := (r_x342).2; have := (r_x344).1; have := (r_x344).2; have := (r_x360).1; have := (r_x360).2; have := (r_x362).1; have := (r_x362).2; have := (r_x370).1; have := (r_x370).2; have := (r_x373).1; have := (r_x373).2; have := (r_x375).1; have := (r_x375).2; have := (r_x377).1; have := (r_x377).2; have := kc_0; have := kc_1; have := kc_33; have := kc_40; omega)) rfl rfl (Nat.le_of_ble_eq_true rfl) (mh_rok (by omega) (by decide)) (fun x383 s384 q385 => ?_)
                    obtain ⟨r_x383, e0_s384, rfl⟩ := q385
                    have hq_x383 : x383.toInt ≠ 0 → 0 < x377.toInt ∧ s368.1 76 (x377.toInt.toNat - 1) = x383 := fun q => by rw [t378]; have h9 := mh_tp_s (σ := s368) (by rw [← e0_s384]; exact q); rw [← e0_s384] at h9; exact h9
                    have htop : x383 = x350 := by
                      have := congrArg Int32.toInt t208
                      have := congrArg Int32.toInt t210
                      have := congrArg Int32.toInt t212
                      have := congrArg Int32.toInt t214
                      have := congrArg Int32.toInt t216
                      have := congrArg Int32.toInt t290
                      have := congrArg Int32.toInt t292
                      have := congrArg Int32.toInt t294
                      have := congrArg Int32.toInt t296
                      have := congrArg Int32.toInt t298
                      have := congrArg Int32.toInt t338
                      have := congrArg Int32.toInt t339
                      have := congrArg Int32.toInt t341
                      have := congrArg Int32.toInt t343
                      have := congrArg Int32.toInt t345
                      have := congrArg Int32.toInt t361
                      have := congrArg Int32.toInt t363
                      have := congrArg Int32.toInt t364
                      have := congrArg Int32.toInt t365
                      have := congrArg Int32.toInt t366
                      have := congrArg Int32.toInt t371
                      have := congrArg Int32.toInt t372
                      have := congrArg Int32.toInt t374
                      have := congrArg Int32.toInt t376
                      have := congrArg Int32.toInt t378
                      have := (r_x350).1; have := (r_x350).2
                      have := (r_x207).1; have := (r_x207).2
                      have := (r_x209).1; have := (r_x209).2
                      have := (r_x211).1; have := (r_x211).2
                      have := (r_x213).1; have := (r_x213).2
                      have := (r_x215).1; have := (r_x215).2
                      have := (r_x289).1; have := (r_x289).2
                      have := (r_x291).1; have := (r_x291).2
                      have := (r_x293).1; have := (r_x293).2
                      have := (r_x295).1; have := (r_x295).2
                      have := (r_x297).1; have := (r_x297).2
                      have := (r_x337).1; have := (r_x337).2
                      have := (r_x340).1; have := (r_x340).2
                      have := (r_x342).1; have := (r_x342).2
                      have := (r_x344).1; have := (r_x344).2
                      have := (r_x360).1; have := (r_x360).2
                      have := (r_x362).1; have := (r_x362).2
                      have := (r_x370).1; have := (r_x370).2
                      have := (r_x373).1; have := (r_x373).2
                      have := (r_x375).1; have := (r_x375).2
                      have := (r_x377).1; have := (r_x377).2
                      have := kc_0
                      have := kc_1
                      have := kc_33
                      have := kc_40
                      have hvb := hvb_s368 (by omega)
                      have h5 : mh_tp s368 = s368.1 76 (x377.toInt.toNat - 1) := by unfold mh_tp; rw [← t378, if_pos (by omega)]
                      rw [e0_s384, h5, hvb.2 _ (by omega), e0_s358.1]
                      exact if_pos (by omega)
                    refine mw_iconst (v := 0) 96 rfl dX10_pieceOfC_95 (by decide) ?_
                    refine mw_callVv [.int x383, .int (0)] [] 99 rfl dX10_pieceOfC_96 ml_X10_237 mc_X10_emit mk_X10_emit rfl rfl (by decide) (w_X10_emit l G (d + 3) ⟨by omega, by omega⟩ hI_s368 x383 (0) (by rw [← t374, ← t376]; have := (r_x350).1; have := (r_x350).2; have := (r_x207).1; have := (r_x207).2; have := (r_x209).1; have := (r_x209).2; have := (r_x211).1; have := (r_x211).2; have := (r_x213).1; have := (r_x213).2; have := (r_x215).1; have := (r_x215).2; have := (r_x289).1; have := (r_x289).2; have := (r_x291).1; have := (r_x291).2; have := (r_x293).1; have := (r_x293).2; have := (r_x295).1; have := (r_x295).2; have := (r_x297).1; have := (r_x297).2; have := (r_x337).1; have := (r_x337).2; have := (r_x340).1; have := (r_x340).2; have := (r_x342).1; have := (r_x342).2; have := (r_x344).1; have := (r_x344).2; have := (r_x360).1; have := (r_x360).2; have := (r_x362).1; have := (r_x362).2; have := (r_x370).1; have := (r_x370).2; have := (r_x373).1; have := (r_x373).2; have := (r_x375).1; have := (r_x375).2; have := (r_x377).1; have := (r_x377).2; have := kc_0; have := kc_1; have := kc_33; have := kc_40; omega)) rfl rfl (Nat.le_of_ble_eq_true rfl) (mh_rok (by omega) (by decide)) (fun s387 q388 => ?_)
                    obtain ⟨e0_s387, hI_s387, hG_s387⟩ := q388
                    have hF_s387 : mh_F S_X10_pieceOfC s0 s387 := mh_F_tl hF_s368 hG_s387 (by decide +kernel)
                    obtain ⟨x389, t390⟩ : ∃ z : Int32, z = s387.1 57 27 := ⟨_, rfl⟩
                    have hm_s387 : (x373.toInt = 0 → s387.1 74 = mh_u1 (s368.1 74) x375.toInt.toNat x383 ∧ x389.toInt = x375.toInt + 1) ∧ (x373.toInt ≠ 0 → s387.1 74 = s368.1 74 ∧ x389.toInt = x375.toInt) := by
                      have h9 := e0_s387
                      rw [← t374, ← t376] at h9
                      rw [← t390] at h9
                      exact ⟨h9.1, fun q => ⟨(h9.2 q).1, congrArg Int32.toInt (h9.2 q).2⟩⟩
                    have hn_s387 : (x373.toInt = 0 ∧ x389.toInt = x375.toInt + 1) ∨ (x373.toInt ≠ 0 ∧ x389.toInt = x375.toInt) := by by_cases q : x373.toInt = 0; exact Or.inl ⟨q, (hm_s387.1 q).2⟩; exact Or.inr ⟨q, (hm_s387.2 q).2⟩
                    have r_x389 : mh_r x389 (0) (201) := ⟨by have := (r_x375).1; omega, by have := (r_x375).2; omega⟩
                    refine mw_aload_n 100 rfl 1 dX10_pieceOfC_99 rfl rfl ?_
                    refine mw_dup 101 rfl dX10_pieceOfC_100 rfl ?_
                    refine mw_geti 104 rfl dX10_pieceOfC_101 gf_X10_204 rfl (fun x391 t392 => ?_)
                    have t393 : x377 = s387.1 57 29 := (t378).trans (hG_s387 57 29 (mh_nsI (by rfl))).1.symm
                    obtain rfl : x377 = x391 := t393.trans t392.symm
                    refine mw_iconst (v := 1) 105 rfl dX10_pieceOfC_104 (by decide) ?_
                    refine mw_isub 106 rfl (-1) (199) dX10_pieceOfC_105 r_x377 rc_1 (by decide) (fun x394 t395 r_x394 => ?_)
                    refine mw_puti 109 rfl dX10_pieceOfC_106 pf_X10_204 rfl (fun s396 t397 => ?_)
                    have hI_s396 : mh_I B D s396 := by rw [t397]; exact wr_57_29 hI_s387
                    have hF_s396 : mh_F S_X10_pieceOfC s0 s396 := by rw [t397]; exact mh_F_pI hF_s387 (mh_sj 2 rfl)
                    refine mw_aload_n 110 rfl 1 dX10_pieceOfC_109 rfl rfl ?_
                    have t398 : x370 = s387.1 57 23 := (t371).trans (hG_s387 57 23 (mh_nsI (by rfl))).1.symm
                    have t399 : x370 = s396.1 57 23 := by rw [t397]; exact (t398).trans (mh_pI_n (by omega)).symm
                    have t400 : x291 = s387.1 57 24 := (t372).trans (hG_s387 57 24 (mh_nsI (by rfl))).1.symm
                    have t401 : x291 = s396.1 57 24 := by rw [t397]; exact (t400).trans (mh_pI_n (by omega)).symm
                    have t402 : x373 = s387.1 57 25 := (t374).trans (hG_s387 57 25 (mh_nsI (by rfl))).1.symm
                    have t403 : x373 = s396.1 57 25 := by rw [t397]; exact (t402).trans (mh_pI_n (by omega)).symm
                    have t404 : x389 = s396.1 57 27 := by rw [t397]; exact (t390).trans (mh_pI_n (by omega)).symm
                    have t405 : x394 = s396.1 57 29 := by rw [t397]; exact mh_pI_s.symm
                    have hpd6 : mh_pd b 1 s396 := by
                      intro hg9
                      have := congrArg Int32.toInt t208
                      have := congrArg Int32.toInt t210
                      have := congrArg Int32.toInt t212
                      have := congrArg Int32.toInt t214
                      have := congrArg Int32.toInt t216
                      have := congrArg Int32.toInt t290
                      have := congrArg Int32.toInt t292
                      have := congrArg Int32.toInt t294
                      have := congrArg Int32.toInt t296
                      have := congrArg Int32.toInt t298
                      have := congrArg Int32.toInt t338
                      have := congrArg Int32.toInt t339
                      have := congrArg Int32.toInt t341
                      have := congrArg Int32.toInt t343
                      have := congrArg Int32.toInt t345
                      have := congrArg Int32.toInt t361
                      have := congrArg Int32.toInt t363
                      have := congrArg Int32.toInt t364
                      have := congrArg Int32.toInt t365
                      have := congrArg Int32.toInt t366
                      have := congrArg Int32.toInt t371
                      have := congrArg Int32.toInt t372
                      have := congrArg Int32.toInt t374
                      have := congrArg Int32.toInt t376
                      have := congrArg Int32.toInt t378
                      have := congrArg Int32.toInt t390
                      have := congrArg Int32.toInt t393
                      have := congrArg Int32.toInt t399
                      have := congrArg Int32.toInt t401
                      have := congrArg Int32.toInt t403
                      have := congrArg Int32.toInt t404
                      have := congrArg Int32.toInt t405
                      have := (r_x350).1; have := (r_x350).2
                      have := (r_x207).1; have := (r_x207).2
                      have := (r_x209).1; have := (r_x209).2
                      have := (r_x211).1; have := (r_x211).2
                      have := (r_x213).1; have := (r_x213).2
                      have := (r_x215).1; have := (r_x215).2
                      have := (r_x289).1; have := (r_x289).2
                      have := (r_x291).1; have := (r_x291).2
                      have := (r_x293).1; have := (r_x293).2
                      have := (r_x295).1; have := (r_x295).2
                      have := (r_x297).1; have := (r_x297).2
                      have := (r_x337).1; have := (r_x337).2
                      have := (r_x340).1; have := (r_x340).2
                      have := (r_x342).1; have := (r_x342).2
                      have := (r_x344).1; have := (r_x344).2
                      have := (r_x360).1; have := (r_x360).2
                      have := (r_x362).1; have := (r_x362).2
                      have := (r_x370).1; have := (r_x370).2
                      have := (r_x373).1; have := (r_x373).2
                      have := (r_x375).1; have := (r_x375).2
                      have := (r_x377).1; have := (r_x377).2
                      have := (r_x389).1; have := (r_x389).2
                      have := (r_x394).1; have := (r_x394).2
                      have := (rc_1).1; have := (rc_1).2
                      have := kc_0
                      have := kc_1
                      have := kc_33
                      have := kc_40
                      have hg0 : x373.toInt = 0 := by omega
                      have hq9 := hq_x383 (by rw [htop]; omega)
                      have hB := e3_s368 (by rw [← t374]; exact hg0)
                      rw [← t376, ← t378] at hB
                      have h74 : s396.1 74 = mh_u1 (s368.1 74) x375.toInt.toNat x383 := ((by rw [t397]; exact mh_row_n (by decide) : s396.1 74 = s387.1 74)).trans (hm_s387.1 hg0).1
                      have h76 : s396.1 76 = s368.1 76 := ((by rw [t397]; exact mh_row_n (by decide) : s396.1 76 = s387.1 76)).trans (mh_F_row hG_s387 76 rfl)
                      have hcod : (s396.1 57 27).toInt = x375.toInt + 1 := by rw [← t404]; exact (hm_s387.1 hg0).2
                      have hst : (s396.1 57 29).toInt.toNat = x377.toInt.toNat - 1 := by rw [← t405]; omega
                      rw [h74, h76, hcod, hst]
                      exact mh_pdr_bin hB ⟨by omega, by omega⟩ (by omega) hq9.2 (by rw [htop]; show ¬ (_ ∨ _ ∨ _); omega) (by rw [htop]; omega)
                    refine mw_callVv [] [] 113 rfl dX10_pieceOfC_110 ml_X10_269 mc_X10_ends mk_X10_ends rfl rfl (by decide) (w_X10_ends l G (d + 2) ⟨by omega, by omega⟩ hI_s396 b (show mh_pb b s396 by unfold mh_pb; rw [← t399, ← t401, ← t403, ← t404, ← t405]; have := kc_0; have := kc_1; have := (r_x350).1; have := (r_x350).2; have := (r_x207).1; have := (r_x207).2; have := (r_x209).1; have := (r_x209).2; have := (r_x211).1; have := (r_x211).2; have := (r_x213).1; have := (r_x213).2; have := (r_x215).1; have := (r_x215).2; have := (r_x289).1; have := (r_x289).2; have := (r_x291).1; have := (r_x291).2; have := (r_x293).1; have := (r_x293).2; have := (r_x295).1; have := (r_x295).2; have := (r_x297).1; have := (r_x297).2; have := (r_x337).1; have := (r_x337).2; have := (r_x340).1; have := (r_x340).2; have := (r_x342).1; have := (r_x342).2; have := (r_x344).1; have := (r_x344).2; have := (r_x360).1; have := (r_x360).2; have := (r_x362).1; have := (r_x362).2; have := (r_x370).1; have := (r_x370).2; have := (r_x373).1; have := (r_x373).2; have := (r_x375).1; have := (r_x375).2; have := (r_x377).1; have := (r_x377).2; have := (r_x389).1; have := (r_x389).2; have := (r_x394).1; have := (r_x394).2; have := (rc_1).1; have := (rc_1).2; have := kc_0; have := kc_1; have := kc_33; have := kc_40; omega) hpd6) rfl rfl (Nat.le_of_ble_eq_true rfl) (mh_rok (by omega) (by decide)) (fun s407 q408 => ?_)
                    obtain ⟨e0_s407, e1_s407, e2_s407, e3_s407, e4_s407, e5_s407, hI_s407, hG_s407⟩ := q408
                    have hF_s407 : mh_F S_X10_pieceOfC s0 s407 := mh_F_tl hF_s396 hG_s407 (by decide +kernel)
                    have t409 : x370 = s407.1 57 23 := (t399).trans (hG_s407 57 23 (mh_nsI (by rfl))).1.symm
                    have t410 : x291 = s407.1 57 24 := (t401).trans (hG_s407 57 24 (mh_nsI (by rfl))).1.symm
                    have t411 : x373 = s407.1 57 25 := (t403).trans (hG_s407 57 25 (mh_nsI (by rfl))).1.symm
                    obtain ⟨x412, t413⟩ : ∃ z : Int32, z = s407.1 57 27 := ⟨_, rfl⟩
                    obtain ⟨x414, t415⟩ : ∃ z : Int32, z = s407.1 57 29 := ⟨_, rfl⟩
                    have pb_s407 : 0 ≤ x370.toInt ∧ x370.toInt ≤ x291.toInt ∧ x291.toInt ≤ 200 ∧ 0 ≤ x414.toInt ∧ 0 ≤ b ∧ b ≤ x412.toInt ∧ x414.toInt + x412.toInt ≤ x370.toInt ∧ x373.toInt ≤ 0 := by have h9 := e0_s407; unfold mh_pb at h9; rw [← t409, ← t410, ← t411, ← t413, ← t415] at h9; exact h9
                    have r_x412 : mh_r x412 (0) (200) := ⟨by have := ((mh_r_full x412)).1; omega, by have := ((mh_r_full x412)).2; omega⟩
                    have r_x414 : mh_r x414 (0) (200) := ⟨by have := ((mh_r_full x414)).1; omega, by have := ((mh_r_full x414)).2; omega⟩
                    have hp_s407 := e3_s407
                    rw [← t415, ← t405] at hp_s407
                    refine mw_vret dX10_pieceOfC_113 rfl ⟨rfl, ⟨?_, ?_, ?_, ?_, ?_, hI_s407, hF_s407⟩⟩
                    · skip
                      exact (show mh_pb b s407 by unfold mh_pb; rw [← t409, ← t410, ← t411, ← t413, ← t415]; have := kc_0; have := kc_1; have := (r_x350).1; have := (r_x350).2; have := (r_x207).1; have := (r_x207).2; have := (r_x209).1; have := (r_x209).2; have := (r_x211).1; have := (r_x211).2; have := (r_x213).1; have := (r_x213).2; have := (r_x215).1; have := (r_x215).2; have := (r_x289).1; have := (r_x289).2; have := (r_x291).1; have := (r_x291).2; have := (r_x293).1; have := (r_x293).2; have := (r_x295).1; have := (r_x295).2; have := (r_x297).1; have := (r_x297).2; have := (r_x337).1; have := (r_x337).2; have := (r_x340).1; have := (r_x340).2; have := (r_x342).1; have := (r_x342).2; have := (r_x344).1; have := (r_x344).2; have := (r_x360).1; have := (r_x360).2; have := (r_x362).1; have := (r_x362).2; have := (r_x370).1; have := (r_x370).2; have := (r_x373).1; have := (r_x373).2; have := (r_x375).1; have := (r_x375).2; have := (r_x377).1; have := (r_x377).2; have := (r_x389).1; have := (r_x389).2; have := (r_x394).1; have := (r_x394).2; have := (r_x412).1; have := (r_x412).2; have := (r_x414).1; have := (r_x414).2; have := kc_0; have := kc_1; have := kc_33; have := kc_40; omega)
                    · skip
                      have := congrArg Int32.toInt t208
                      have := congrArg Int32.toInt t210
                      have := congrArg Int32.toInt t212
                      have := congrArg Int32.toInt t214
                      have := congrArg Int32.toInt t216
                      have := congrArg Int32.toInt t290
                      have := congrArg Int32.toInt t292
                      have := congrArg Int32.toInt t294
                      have := congrArg Int32.toInt t296
                      have := congrArg Int32.toInt t298
                      have := congrArg Int32.toInt t338
                      have := congrArg Int32.toInt t339
                      have := congrArg Int32.toInt t341
                      have := congrArg Int32.toInt t343
                      have := congrArg Int32.toInt t345
                      have := congrArg Int32.toInt t361
                      have := congrArg Int32.toInt t363
                      have := congrArg Int32.toInt t364
                      have := congrArg Int32.toInt t365
                      have := congrArg Int32.toInt t366
                      have := congrArg Int32.toInt t371
                      have := congrArg Int32.toInt t372
                      have := congrArg Int32.toInt t374
                      have := congrArg Int32.toInt t376
                      have := congrArg Int32.toInt t378
                      have := congrArg Int32.toInt t390
                      have := congrArg Int32.toInt t393
                      have := congrArg Int32.toInt t399
                      have := congrArg Int32.toInt t401
                      have := congrArg Int32.toInt t403
                      have := congrArg Int32.toInt t404
                      have := congrArg Int32.toInt t405
                      have := congrArg Int32.toInt t409
                      have := congrArg Int32.toInt t410
                      have := congrArg Int32.toInt t411
                      have := congrArg Int32.toInt t413
                      have := congrArg Int32.toInt t415
                      have := (r_x350).1; have := (r_x350).2
                      have := (r_x207).1; have := (r_x207).2
                      have := (r_x209).1; have := (r_x209).2
                      have := (r_x211).1; have := (r_x211).2
                      have := (r_x213).1; have := (r_x213).2
                      have := (r_x215).1; have := (r_x215).2
                      have := (r_x289).1; have := (r_x289).2
                      have := (r_x291).1; have := (r_x291).2
                      have := (r_x293).1; have := (r_x293).2
                      have := (r_x295).1; have := (r_x295).2
                      have := (r_x297).1; have := (r_x297).2
                      have := (r_x337).1; have := (r_x337).2
                      have := (r_x340).1; have := (r_x340).2
                      have := (r_x342).1; have := (r_x342).2
                      have := (r_x344).1; have := (r_x344).2
                      have := (r_x360).1; have := (r_x360).2
                      have := (r_x362).1; have := (r_x362).2
                      have := (r_x370).1; have := (r_x370).2
                      have := (r_x373).1; have := (r_x373).2
                      have := (r_x375).1; have := (r_x375).2
                      have := (r_x377).1; have := (r_x377).2
                      have := (r_x389).1; have := (r_x389).2
                      have := (r_x394).1; have := (r_x394).2
                      have := (r_x412).1; have := (r_x412).2
                      have := (r_x414).1; have := (r_x414).2
                      have := (rc_1).1; have := (rc_1).2
                      have := kc_0
                      have := kc_1
                      have := kc_33
                      have := kc_40
                      exact mh_pk_tr (mh_pk_tr (mh_pk_tr (mh_pk_row iv.2.2.1) (mh_pk_tr (mh_pk_row (rfl)) e1_s335)) (mh_pk_tr (mh_pk_row ((mh_F_row hG_s358 74 rfl))) e1_s368)) (mh_pk_tr (mh_pk_em hm_s387 ⟨by omega, by omega⟩) (mh_pk_tr (mh_pk_row ((by rw [t397]; exact mh_row_n (by decide) : s396.1 74 = s387.1 74))) e2_s407))
                    · skip
                      exact e1_s407
                    · skip
                      intro hg9
                      have := congrArg Int32.toInt t208
                      have := congrArg Int32.toInt t210
                      have := congrArg Int32.toInt t212
                      have := congrArg Int32.toInt t214
                      have := congrArg Int32.toInt t216
                      have := congrArg Int32.toInt t290
                      have := congrArg Int32.toInt t292
                      have := congrArg Int32.toInt t294
                      have := congrArg Int32.toInt t296
                      have := congrArg Int32.toInt t298
                      have := congrArg Int32.toInt t338
                      have := congrArg Int32.toInt t339
                      have := congrArg Int32.toInt t341
                      have := congrArg Int32.toInt t343
                      have := congrArg Int32.toInt t345
                      have := congrArg Int32.toInt t361
                      have := congrArg Int32.toInt t363
                      have := congrArg Int32.toInt t364
                      have := congrArg Int32.toInt t365
                      have := congrArg Int32.toInt t366
                      have := congrArg Int32.toInt t371
                      have := congrArg Int32.toInt t372
                      have := congrArg Int32.toInt t374
                      have := congrArg Int32.toInt t376
                      have := congrArg Int32.toInt t378
                      have := congrArg Int32.toInt t390
                      have := congrArg Int32.toInt t393
                      have := congrArg Int32.toInt t399
                      have := congrArg Int32.toInt t401
                      have := congrArg Int32.toInt t403
                      have := congrArg Int32.toInt t404
                      have := congrArg Int32.toInt t405
                      have := congrArg Int32.toInt t409
                      have := congrArg Int32.toInt t410
                      have := congrArg Int32.toInt t411
                      have := congrArg Int32.toInt t413
                      have := congrArg Int32.toInt t415
                      have := (r_x350).1; have := (r_x350).2
                      have := (r_x207).1; have := (r_x207).2
                      have := (r_x209).1; have := (r_x209).2
                      have := (r_x211).1; have := (r_x211).2
                      have := (r_x213).1; have := (r_x213).2
                      have := (r_x215).1; have := (r_x215).2
                      have := (r_x289).1; have := (r_x289).2
                      have := (r_x291).1; have := (r_x291).2
                      have := (r_x293).1; have := (r_x293).2
                      have := (r_x295).1; have := (r_x295).2
                      have := (r_x297).1; have := (r_x297).2
                      have := (r_x337).1; have := (r_x337).2
                      have := (r_x340).1; have := (r_x340).2
                      have := (r_x342).1; have := (r_x342).2
                      have := (r_x344).1; have := (r_x344).2
                      have := (r_x360).1; have := (r_x360).2
                      have := (r_x362).1; have := (r_x362).2
                      have := (r_x370).1; have := (r_x370).2
                      have := (r_x373).1; have := (r_x373).2
                      have := (r_x375).1; have := (r_x375).2
                      have := (r_x377).1; have := (r_x377).2
                      have := (r_x389).1; have := (r_x389).2
                      have := (r_x394).1; have := (r_x394).2
                      have := (r_x412).1; have := (r_x412).2
                      have := (r_x414).1; have := (r_x414).2
                      have := (rc_1).1; have := (rc_1).2
                      have := kc_0
                      have := kc_1
                      have := kc_33
                      have := kc_40
                      have hb1 := hvb_s335 (by omega)
                      have hb2 := hvb_s368 (by omega)
                      have hc9 := iv.2.2.2.1
                      rw [← t298] at hc9
                      have hs : ∀ j, j < x297.toInt.toNat → s407.1 76 j = s247.1 76 j := fun j hj => by
                        rw [show s407.1 76 = s368.1 76 from (((mh_F_row hG_s407 76 rfl)).trans (by rw [t397]; exact mh_row_n (by decide) : s396.1 76 = s387.1 76)).trans (mh_F_row hG_s387 76 rfl), hb2.2 j (by omega), e0_s358.1, mh_u1_lt (by omega), hb1.2 j (by omega)]
                      have h6 : s396.1 76 = s407.1 76 := ((mh_F_row hG_s407 76 rfl)).symm
                      have hn7 : (s407.1 57 29).toInt.toNat = x414.toInt.toNat := by rw [← t415]
                      have hp9 := e4_s407
                      rw [← t405, ← t415, h6] at hp9
                      have hge : 1 ≤ x414.toInt.toNat := mh_cq_pop hc9 (fun j h1 h2 => by have := hp9 j h1 (by omega); rw [hs j h2] at this; omega)
                      rw [hn7]
                      exact ⟨mh_cq_sub hc9 hge (by omega) (fun j hj => hs j (by omega)), by have := iv.2.2.2.2; omega⟩
                    · skip
                      have := congrArg Int32.toInt t208
                      have := congrArg Int32.toInt t210
                      have := congrArg Int32.toInt t212
                      have := congrArg Int32.toInt t214
                      have := congrArg Int32.toInt t216
                      have := congrArg Int32.toInt t290
                      have := congrArg Int32.toInt t292
                      have := congrArg Int32.toInt t294
                      have := congrArg Int32.toInt t296
                      have := congrArg Int32.toInt t298
                      have := congrArg Int32.toInt t338
                      have := congrArg Int32.toInt t339
                      have := congrArg Int32.toInt t341
                      have := congrArg Int32.toInt t343
                      have := congrArg Int32.toInt t345
                      have := congrArg Int32.toInt t361
                      have := congrArg Int32.toInt t363
                      have := congrArg Int32.toInt t364
                      have := congrArg Int32.toInt t365
                      have := congrArg Int32.toInt t366
                      have := congrArg Int32.toInt t371
                      have := congrArg Int32.toInt t372
                      have := congrArg Int32.toInt t374
                      have := congrArg Int32.toInt t376
                      have := congrArg Int32.toInt t378
                      have := congrArg Int32.toInt t390
                      have := congrArg Int32.toInt t393
                      have := congrArg Int32.toInt t399
                      have := congrArg Int32.toInt t401
                      have := congrArg Int32.toInt t403
                      have := congrArg Int32.toInt t404
                      have := congrArg Int32.toInt t405
                      have := congrArg Int32.toInt t409
                      have := congrArg Int32.toInt t410
                      have := congrArg Int32.toInt t411
                      have := congrArg Int32.toInt t413
                      have := congrArg Int32.toInt t415
                      have := (r_x350).1; have := (r_x350).2
                      have := (r_x207).1; have := (r_x207).2
                      have := (r_x209).1; have := (r_x209).2
                      have := (r_x211).1; have := (r_x211).2
                      have := (r_x213).1; have := (r_x213).2
                      have := (r_x215).1; have := (r_x215).2
                      have := (r_x289).1; have := (r_x289).2
                      have := (r_x291).1; have := (r_x291).2
                      have := (r_x293).1; have := (r_x293).2
                      have := (r_x295).1; have := (r_x295).2
                      have := (r_x297).1; have := (r_x297).2
                      have := (r_x337).1; have := (r_x337).2
                      have := (r_x340).1; have := (r_x340).2
                      have := (r_x342).1; have := (r_x342).2
                      have := (r_x344).1; have := (r_x344).2
                      have := (r_x360).1; have := (r_x360).2
                      have := (r_x362).1; have := (r_x362).2
                      have := (r_x370).1; have := (r_x370).2
                      have := (r_x373).1; have := (r_x373).2
                      have := (r_x375).1; have := (r_x375).2
                      have := (r_x377).1; have := (r_x377).2
                      have := (r_x389).1; have := (r_x389).2
                      have := (r_x394).1; have := (r_x394).2
                      have := (r_x412).1; have := (r_x412).2
                      have := (r_x414).1; have := (r_x414).2
                      have := (rc_1).1; have := (rc_1).2
                      have := kc_0
                      have := kc_1
                      have := kc_33
                      have := kc_40
                      have := iv.2.2.2.2
                      omega
                  · skip
                    have r_x373 : mh_r x373 (-2147483648) (-1) := ⟨(r_x373).1, by have := (r_x373).2; have : x373.toInt ≠ 0 := (fun q => by have := e0_s380.2 q; have := c382; omega); omega⟩
                    have r_x379 : mh_r x379 (0) (0) := mh_eq1 (show x379.toInt = (0 : Int32).toInt from c382) r_x379 rc_0 (0) (0) (by decide)
                    refine mw_vret dX10_pieceOfC_89 rfl ⟨rfl, ⟨?_, ?_, ?_, ?_, ?_, hI_s368, hF_s368⟩⟩
                    · skip
                      exact (show mh_pb b s368 by unfold mh_pb; rw [← t371, ← t372, ← t374, ← t376, ← t378]; have := kc_0; have := kc_1; have := (r_x350).1; have := (r_x350).2; have := (r_x207).1; have := (r_x207).2; have := (r_x209).1; have := (r_x209).2; have := (r_x211).1; have := (r_x211).2; have := (r_x213).1; have := (r_x213).2; have := (r_x215).1; have := (r_x215).2; have := (r_x289).1; have := (r_x289).2; have := (r_x291).1; have := (r_x291).2; have := (r_x293).1; have := (r_x293).2; have := (r_x295).1; have := (r_x295).2; have := (r_x297).1; have := (r_x297).2; have := (r_x337).1; have := (r_x337).2; have := (r_x340).1; have := (r_x340).2; have := (r_x342).1; have := (r_x342).2; have := (r_x344).1; have := (r_x344).2; have := (r_x360).1; have := (r_x360).2; have := (r_x362).1; have := (r_x362).2; have := (r_x370).1; have := (r_x370).2; have := (r_x373).1; have := (r_x373).2; have := (r_x375).1; have := (r_x375).2; have := (r_x377).1; have := (r_x377).2; have := kc_0; have := kc_1; have := kc_33; have := kc_40; omega)
                    · skip
                      exact mh_pk_tr (mh_pk_tr (mh_pk_tr (mh_pk_row iv.2.2.1) (mh_pk_tr (mh_pk_row (rfl)) e1_s335)) (mh_pk_tr (mh_pk_row ((mh_F_row hG_s358 74 rfl))) e1_s368)) (mh_pk_row (rfl))
                    · skip
                      intro hg9
                      exfalso
                      have := congrArg Int32.toInt t208
                      have := congrArg Int32.toInt t210
                      have := congrArg Int32.toInt t212
                      have := congrArg Int32.toInt t214
                      have := congrArg Int32.toInt t216
                      have := congrArg Int32.toInt t290
                      have := congrArg Int32.toInt t292
                      have := congrArg Int32.toInt t294
                      have := congrArg Int32.toInt t296
                      have := congrArg Int32.toInt t298
                      have := congrArg Int32.toInt t338
                      have := congrArg Int32.toInt t339
                      have := congrArg Int32.toInt t341
                      have := congrArg Int32.toInt t343
                      have := congrArg Int32.toInt t345
                      have := congrArg Int32.toInt t361
                      have := congrArg Int32.toInt t363
                      have := congrArg Int32.toInt t364
                      have := congrArg Int32.toInt t365
                      have := congrArg Int32.toInt t366
                      have := congrArg Int32.toInt t371
                      have := congrArg Int32.toInt t372
                      have := congrArg Int32.toInt t374
                      have := congrArg Int32.toInt t376
                      have := congrArg Int32.toInt t378
                      have := (r_x350).1; have := (r_x350).2
                      have := (r_x207).1; have := (r_x207).2
                      have := (r_x209).1; have := (r_x209).2
                      have := (r_x211).1; have := (r_x211).2
                      have := (r_x213).1; have := (r_x213).2
                      have := (r_x215).1; have := (r_x215).2
                      have := (r_x289).1; have := (r_x289).2
                      have := (r_x291).1; have := (r_x291).2
                      have := (r_x293).1; have := (r_x293).2
                      have := (r_x295).1; have := (r_x295).2
                      have := (r_x297).1; have := (r_x297).2
                      have := (r_x337).1; have := (r_x337).2
                      have := (r_x340).1; have := (r_x340).2
                      have := (r_x342).1; have := (r_x342).2
                      have := (r_x344).1; have := (r_x344).2
                      have := (r_x360).1; have := (r_x360).2
                      have := (r_x362).1; have := (r_x362).2
                      have := (r_x370).1; have := (r_x370).2
                      have := (r_x373).1; have := (r_x373).2
                      have := (r_x375).1; have := (r_x375).2
                      have := (r_x377).1; have := (r_x377).2
                      have := kc_0
                      have := kc_1
                      have := kc_33
                      have := kc_40
                      omega
                    · skip
                      intro hg9
                      exfalso
                      have := congrArg Int32.toInt t208
                      have := congrArg Int32.toInt t210
                      have := congrArg Int32.toInt t212
                      have := congrArg Int32.toInt t214
                      have := congrArg Int32.toInt t216
                      have := congrArg Int32.toInt t290
                      have := congrArg Int32.toInt t292
                      have := congrArg Int32.toInt t294
                      have := congrArg Int32.toInt t296
                      have := congrArg Int32.toInt t298
                      have := congrArg Int32.toInt t338
                      have := congrArg Int32.toInt t339
                      have := congrArg Int32.toInt t341
                      have := congrArg Int32.toInt t343
                      have := congrArg Int32.toInt t345
                      have := congrArg Int32.toInt t361
                      have := congrArg Int32.toInt t363
                      have := congrArg Int32.toInt t364
                      have := congrArg Int32.toInt t365
                      have := congrArg Int32.toInt t366
                      have := congrArg Int32.toInt t371
                      have := congrArg Int32.toInt t372
                      have := congrArg Int32.toInt t374
                      have := congrArg Int32.toInt t376
                      have := congrArg Int32.toInt t378
                      have := (r_x350).1; have := (r_x350).2
                      have := (r_x207).1; have := (r_x207).2
                      have := (r_x209).1; have := (r_x209).2
                      have := (r_x211).1; have := (r_x211).2
                      have := (r_x213).1; have := (r_x213).2
                      have := (r_x215).1; have := (r_x215).2
                      have := (r_x289).1; have := (r_x289).2
                      have := (r_x291).1; have := (r_x291).2
                      have := (r_x293).1; have := (r_x293).2
                      have := (r_x295).1; have := (r_x295).2
                      have := (r_x297).1; have := (r_x297).2
                      have := (r_x337).1; have := (r_x337).2
                      have := (r_x340).1; have := (r_x340).2
                      have := (r_x342).1; have := (r_x342).2
                      have := (r_x344).1; have := (r_x344).2
                      have := (r_x360).1; have := (r_x360).2
                      have := (r_x362).1; have := (r_x362).2
                      have := (r_x370).1; have := (r_x370).2
                      have := (r_x373).1; have := (r_x373).2
                      have := (r_x375).1; have := (r_x375).2
                      have := (r_x377).1; have := (r_x377).2
                      have := kc_0
                      have := kc_1
                      have := kc_33
                      have := kc_40
                      omega
                    · skip
                      have := congrArg Int32.toInt t208
                      have := congrArg Int32.toInt t210
                      have := congrArg Int32.toInt t212
                      have := congrArg Int32.toInt t214
                      have := congrArg Int32.toInt t216
                      have := congrArg Int32.toInt t290
                      have := congrArg Int32.toInt t292
                      have := congrArg Int32.toInt t294
                      have := congrArg Int32.toInt t296
                      have := congrArg Int32.toInt t298
                      have := congrArg Int32.toInt t338
                      have := congrArg Int32.toInt t339
                      have := congrArg Int32.toInt t341
                      have := congrArg Int32.toInt t343
                      have := congrArg Int32.toInt t345
                      have := congrArg Int32.toInt t361
                      have := congrArg Int32.toInt t363
                      have := congrArg Int32.toInt t364
                      have := congrArg Int32.toInt t365
                      have := congrArg Int32.toInt t366
                      have := congrArg Int32.toInt t371
                      have := congrArg Int32.toInt t372
                      have := congrArg Int32.toInt t374
                      have := congrArg Int32.toInt t376
                      have := congrArg Int32.toInt t378
                      have := (r_x350).1; have := (r_x350).2
                      have := (r_x207).1; have := (r_x207).2
                      have := (r_x209).1; have := (r_x209).2
                      have := (r_x211).1; have := (r_x211).2
                      have := (r_x213).1; have := (r_x213).2
                      have := (r_x215).1; have := (r_x215).2
                      have := (r_x289).1; have := (r_x289).2
                      have := (r_x291).1; have := (r_x291).2
                      have := (r_x293).1; have := (r_x293).2
                      have := (r_x295).1; have := (r_x295).2
                      have := (r_x297).1; have := (r_x297).2
                      have := (r_x337).1; have := (r_x337).2
                      have := (r_x340).1; have := (r_x340).2
                      have := (r_x342).1; have := (r_x342).2
                      have := (r_x344).1; have := (r_x344).2
                      have := (r_x360).1; have := (r_x360).2
                      have := (r_x362).1; have := (r_x362).2
                      have := (r_x370).1; have := (r_x370).2
                      have := (r_x373).1; have := (r_x373).2
                      have := (r_x375).1; have := (r_x375).2
                      have := (r_x377).1; have := (r_x377).2
                      have := kc_0
                      have := kc_1
                      have := kc_33
                      have := kc_40
                      have := iv.2.2.2.2
                      omega
                · skip
                  have hk_x353 := fun q => (by have := e0_s354.2 q; have := c356; omega : False)
                  have r_x353 : mh_r x353 (0) (0) := mh_eq1 (show x353.toInt = (0 : Int32).toInt from c356) r_x353 rc_0 (0) (0) (by decide)
                  refine mw_aload_n 64 rfl 1 dX10_pieceOfC_63 rfl rfl ?_
                  refine mw_iconst (v := 1) 65 rfl dX10_pieceOfC_64 (by decide) ?_
                  refine mw_aload_n 66 rfl 1 dX10_pieceOfC_65 rfl rfl ?_
                  refine mw_geti 69 rfl dX10_pieceOfC_66 gf_X10_188 rfl (fun x416 t417 => ?_)
                  obtain rfl : x337 = x416 := t338.trans t417.symm
                  refine mw_callVv [.int (1), .int x337] [] 72 rfl dX10_pieceOfC_69 ml_X10_210 mc_X10_wrongs mk_X10_wrongs rfl rfl (by decide) (w_X10_wrongs l G (d + 4) ⟨by omega, by omega⟩ hI_s335 (1) (mh_r_wk rc_1 (by decide)) x337 r_x337 (by rw [← t341]; have := (r_x350).1; have := (r_x350).2; have := (r_x207).1; have := (r_x207).2; have := (r_x209).1; have := (r_x209).2; have := (r_x211).1; have := (r_x211).2; have := (r_x213).1; have := (r_x213).2; have := (r_x215).1; have := (r_x215).2; have := (r_x289).1; have := (r_x289).2; have := (r_x291).1; have := (r_x291).2; have := (r_x293).1; have := (r_x293).2; have := (r_x295).1; have := (r_x295).2; have := (r_x297).1; have := (r_x297).2; have := (r_x337).1; have := (r_x337).2; have := (r_x340).1; have := (r_x340).2; have := (r_x342).1; have := (r_x342).2; have := (r_x344).1; have := (r_x344).2; have := kc_0; have := kc_1; have := kc_33; have := kc_40; omega)) rfl rfl (Nat.le_of_ble_eq_true rfl) (mh_rok (by omega) (by decide)) (fun s419 q420 => ?_)
                  obtain ⟨e0_s419, hI_s419, hG_s419⟩ := q420
                  have hF_s419 : mh_F S_X10_pieceOfC s0 s419 := mh_F_tl hF_s335 hG_s419 (by decide +kernel)
                  obtain ⟨x421, t422⟩ : ∃ z : Int32, z = s419.1 57 25 := ⟨_, rfl⟩
                  have hw_s419 : x421.toInt < 0 := by rw [t422]; exact e0_s419
                  have r_x421 : mh_r x421 (-2147483648) (-1) := ⟨((mh_r_full x421)).1, by have := hw_s419; omega⟩
                  refine mw_vret dX10_pieceOfC_72 rfl ⟨rfl, ⟨?_, ?_, ?_, ?_, ?_, hI_s419, hF_s419⟩⟩
                  · skip
                    have t423 : x337 = s419.1 57 23 := (t338).trans (hG_s419 57 23 (mh_nsI (by rfl))).1.symm
                    have t424 : x291 = s419.1 57 24 := (t339).trans (hG_s419 57 24 (mh_nsI (by rfl))).1.symm
                    have t425 : x342 = s419.1 57 27 := (t343).trans (hG_s419 57 27 (mh_nsI (by rfl))).1.symm
                    have t426 : x344 = s419.1 57 29 := (t345).trans (hG_s419 57 29 (mh_nsI (by rfl))).1.symm
                    exact (show mh_pb b s419 by unfold mh_pb; rw [← t423, ← t424, ← t422, ← t425, ← t426]; have := kc_0; have := kc_1; have := (r_x350).1; have := (r_x350).2; have := (r_x207).1; have := (r_x207).2; have := (r_x209).1; have := (r_x209).2; have := (r_x211).1; have := (r_x211).2; have := (r_x213).1; have := (r_x213).2; have := (r_x215).1; have := (r_x215).2; have := (r_x289).1; have := (r_x289).2; have := (r_x291).1; have := (r_x291).2; have := (r_x293).1; have := (r_x293).2; have := (r_x295).1; have := (r_x295).2; have := (r_x297).1; have := (r_x297).2; have := (r_x337).1; have := (r_x337).2; have := (r_x340).1; have := (r_x340).2; have := (r_x342).1; have := (r_x342).2; have := (r_x344).1; have := (r_x344).2; have := (r_x421).1; have := (r_x421).2; have := kc_0; have := kc_1; have := kc_33; have := kc_40; omega)
                  · skip
                    have t427 : x337 = s419.1 57 23 := (t338).trans (hG_s419 57 23 (mh_nsI (by rfl))).1.symm
                    have t428 : x291 = s419.1 57 24 := (t339).trans (hG_s419 57 24 (mh_nsI (by rfl))).1.symm
                    have t429 : x342 = s419.1 57 27 := (t343).trans (hG_s419 57 27 (mh_nsI (by rfl))).1.symm
                    have t430 : x344 = s419.1 57 29 := (t345).trans (hG_s419 57 29 (mh_nsI (by rfl))).1.symm
                    exact mh_pk_tr (mh_pk_tr (mh_pk_row iv.2.2.1) (mh_pk_tr (mh_pk_row (rfl)) e1_s335)) (mh_pk_row ((mh_F_row hG_s419 74 rfl)))
                  · skip
                    have t431 : x337 = s419.1 57 23 := (t338).trans (hG_s419 57 23 (mh_nsI (by rfl))).1.symm
                    have t432 : x291 = s419.1 57 24 := (t339).trans (hG_s419 57 24 (mh_nsI (by rfl))).1.symm
                    have t433 : x342 = s419.1 57 27 := (t343).trans (hG_s419 57 27 (mh_nsI (by rfl))).1.symm
                    have t434 : x344 = s419.1 57 29 := (t345).trans (hG_s419 57 29 (mh_nsI (by rfl))).1.symm
                    intro hg9
                    exfalso
                    have := congrArg Int32.toInt t208
                    have := congrArg Int32.toInt t210
                    have := congrArg Int32.toInt t212
                    have := congrArg Int32.toInt t214
                    have := congrArg Int32.toInt t216
                    have := congrArg Int32.toInt t290
                    have := congrArg Int32.toInt t292
                    have := congrArg Int32.toInt t294
                    have := congrArg Int32.toInt t296
                    have := congrArg Int32.toInt t298
                    have := congrArg Int32.toInt t338
                    have := congrArg Int32.toInt t339
                    have := congrArg Int32.toInt t341
                    have := congrArg Int32.toInt t343
                    have := congrArg Int32.toInt t345
                    have := congrArg Int32.toInt t422
                    have := congrArg Int32.toInt t431
                    have := congrArg Int32.toInt t432
                    have := congrArg Int32.toInt t433
                    have := congrArg Int32.toInt t434
                    have := (r_x350).1; have := (r_x350).2
                    have := (r_x207).1; have := (r_x207).2
                    have := (r_x209).1; have := (r_x209).2
                    have := (r_x211).1; have := (r_x211).2
                    have := (r_x213).1; have := (r_x213).2
                    have := (r_x215).1; have := (r_x215).2
                    have := (r_x289).1; have := (r_x289).2
                    have := (r_x291).1; have := (r_x291).2
                    have := (r_x293).1; have := (r_x293).2
                    have := (r_x295).1; have := (r_x295).2
                    have := (r_x297).1; have := (r_x297).2
                    have := (r_x337).1; have := (r_x337).2
                    have := (r_x340).1; have := (r_x340).2
                    have := (r_x342).1; have := (r_x342).2
                    have := (r_x344).1; have := (r_x344).2
                    have := (r_x421).1; have := (r_x421).2
                    have := kc_0
                    have := kc_1
                    have := kc_33
                    have := kc_40
                    omega
                  · skip
                    have t435 : x337 = s419.1 57 23 := (t338).trans (hG_s419 57 23 (mh_nsI (by rfl))).1.symm
                    have t436 : x291 = s419.1 57 24 := (t339).trans (hG_s419 57 24 (mh_nsI (by rfl))).1.symm
                    have t437 : x342 = s419.1 57 27 := (t343).trans (hG_s419 57 27 (mh_nsI (by rfl))).1.symm
                    have t438 : x344 = s419.1 57 29 := (t345).trans (hG_s419 57 29 (mh_nsI (by rfl))).1.symm
                    intro hg9
                    exfalso
                    have := congrArg Int32.toInt t208
                    have := congrArg Int32.toInt t210
                    have := congrArg Int32.toInt t212
                    have := congrArg Int32.toInt t214
                    have := congrArg Int32.toInt t216
                    have := congrArg Int32.toInt t290
                    have := congrArg Int32.toInt t292
                    have := congrArg Int32.toInt t294
                    have := congrArg Int32.toInt t296
                    have := congrArg Int32.toInt t298
                    have := congrArg Int32.toInt t338
                    have := congrArg Int32.toInt t339
                    have := congrArg Int32.toInt t341
                    have := congrArg Int32.toInt t343
                    have := congrArg Int32.toInt t345
                    have := congrArg Int32.toInt t422
                    have := congrArg Int32.toInt t435
                    have := congrArg Int32.toInt t436
                    have := congrArg Int32.toInt t437
                    have := congrArg Int32.toInt t438
                    have := (r_x350).1; have := (r_x350).2
                    have := (r_x207).1; have := (r_x207).2
                    have := (r_x209).1; have := (r_x209).2
                    have := (r_x211).1; have := (r_x211).2
                    have := (r_x213).1; have := (r_x213).2
                    have := (r_x215).1; have := (r_x215).2
                    have := (r_x289).1; have := (r_x289).2
                    have := (r_x291).1; have := (r_x291).2
                    have := (r_x293).1; have := (r_x293).2
                    have := (r_x295).1; have := (r_x295).2
                    have := (r_x297).1; have := (r_x297).2
                    have := (r_x337).1; have := (r_x337).2
                    have := (r_x340).1; have := (r_x340).2
                    have := (r_x342).1; have := (r_x342).2
                    have := (r_x344).1; have := (r_x344).2
                    have := (r_x421).1; have := (r_x421).2
                    have := kc_0
                    have := kc_1
                    have := kc_33
                    have := kc_40
                    omega
                  · skip
                    have t439 : x337 = s419.1 57 23 := (t338).trans (hG_s419 57 23 (mh_nsI (by rfl))).1.symm
                    have t440 : x291 = s419.1 57 24 := (t339).trans (hG_s419 57 24 (mh_nsI (by rfl))).1.symm
                    have t441 : x342 = s419.1 57 27 := (t343).trans (hG_s419 57 27 (mh_nsI (by rfl))).1.symm
                    have t442 : x344 = s419.1 57 29 := (t345).trans (hG_s419 57 29 (mh_nsI (by rfl))).1.symm
                    have := congrArg Int32.toInt t208
                    have := congrArg Int32.toInt t210
                    have := congrArg Int32.toInt t212
                    have := congrArg Int32.toInt t214
                    have := congrArg Int32.toInt t216
                    have := congrArg Int32.toInt t290
                    have := congrArg Int32.toInt t292
                    have := congrArg Int32.toInt t294
                    have := congrArg Int32.toInt t296
                    have := congrArg Int32.toInt t298
                    have := congrArg Int32.toInt t338
                    have := congrArg Int32.toInt t339
                    have := congrArg Int32.toInt t341
                    have := congrArg Int32.toInt t343
                    have := congrArg Int32.toInt t345
                    have := congrArg Int32.toInt t422
                    have := congrArg Int32.toInt t439
                    have := congrArg Int32.toInt t440
                    have := congrArg Int32.toInt t441
                    have := congrArg Int32.toInt t442
                    have := (r_x350).1; have := (r_x350).2
                    have := (r_x207).1; have := (r_x207).2
                    have := (r_x209).1; have := (r_x209).2
                    have := (r_x211).1; have := (r_x211).2
                    have := (r_x213).1; have := (r_x213).2
                    have := (r_x215).1; have := (r_x215).2
                    have := (r_x289).1; have := (r_x289).2
                    have := (r_x291).1; have := (r_x291).2
                    have := (r_x293).1; have := (r_x293).2
                    have := (r_x295).1; have := (r_x295).2
                    have := (r_x297).1; have := (r_x297).2
                    have := (r_x337).1; have := (r_x337).2
                    have := (r_x340).1; have := (r_x340).2
                    have := (r_x342).1; have := (r_x342).2
                    have := (r_x344).1; have := (r_x344).2
                    have := (r_x421).1; have := (r_x421).2
                    have := kc_0
                    have := kc_1
                    have := kc_33
                    have := kc_40
                    have := iv.2.2.2.2
                    omega
              · skip
                have r_x340 : mh_r x340 (-2147483648) (-1) := ⟨(r_x340).1, by have := (r_x340).2; have : x340.toInt ≠ 0 := (fun q => by have := e0_s347.2 q; have := c349; omega); omega⟩
                have r_x346 : mh_r x346 (0) (0) := mh_eq1 (show x346.toInt = (0 : Int32).toInt from c349) r_x346 rc_0 (0) (0) (by decide)
                refine mw_vret dX10_pieceOfC_50 rfl ⟨rfl, ⟨?_, ?_, ?_, ?_, ?_, hI_s335, hF_s335⟩⟩
                · skip
                  exact (show mh_pb b s335 by unfold mh_pb; rw [← t338, ← t339, ← t341, ← t343, ← t345]; have := kc_0; have := kc_1; have := (r_x207).1; have := (r_x207).2; have := (r_x209).1; have := (r_x209).2; have := (r_x211).1; have := (r_x211).2; have := (r_x213).1; have := (r_x213).2; have := (r_x215).1; have := (r_x215).2; have := (r_x289).1; have := (r_x289).2; have := (r_x291).1; have := (r_x291).2; have := (r_x293).1; have := (r_x293).2; have := (r_x295).1; have := (r_x295).2; have := (r_x297).1; have := (r_x297).2; have := (r_x337).1; have := (r_x337).2; have := (r_x340).1; have := (r_x340).2; have := (r_x342).1; have := (r_x342).2; have := (r_x344).1; have := (r_x344).2; have := kc_0; have := kc_1; have := kc_33; have := kc_40; omega)
                · skip
                  exact mh_pk_tr (mh_pk_tr (mh_pk_row iv.2.2.1) (mh_pk_tr (mh_pk_row (rfl)) e1_s335)) (mh_pk_row (rfl))
                · skip
                  intro hg9
                  exfalso
                  have := congrArg Int32.toInt t208
                  have := congrArg Int32.toInt t210
                  have := congrArg Int32.toInt t212
                  have := congrArg Int32.toInt t214
                  have := congrArg Int32.toInt t216
                  have := congrArg Int32.toInt t290
                  have := congrArg Int32.toInt t292
                  have := congrArg Int32.toInt t294
                  have := congrArg Int32.toInt t296
                  have := congrArg Int32.toInt t298
                  have := congrArg Int32.toInt t338
                  have := congrArg Int32.toInt t339
                  have := congrArg Int32.toInt t341
                  have := congrArg Int32.toInt t343
                  have := congrArg Int32.toInt t345
                  have := (r_x207).1; have := (r_x207).2
                  have := (r_x209).1; have := (r_x209).2
                  have := (r_x211).1; have := (r_x211).2
                  have := (r_x213).1; have := (r_x213).2
                  have := (r_x215).1; have := (r_x215).2
                  have := (r_x289).1; have := (r_x289).2
                  have := (r_x291).1; have := (r_x291).2
                  have := (r_x293).1; have := (r_x293).2
                  have := (r_x295).1; have := (r_x295).2
                  have := (r_x297).1; have := (r_x297).2
                  have := (r_x337).1; have := (r_x337).2
                  have := (r_x340).1; have := (r_x340).2
                  have := (r_x342).1; have := (r_x342).2
                  have := (r_x344).1; have := (r_x344).2
                  have := kc_0
                  have := kc_1
                  have := kc_33
                  have := kc_40
                  omega
                · skip
                  intro hg9
                  exfalso
                  have := congrArg Int32.toInt t208
                  have := congrArg Int32.toInt t210
                  have := congrArg Int32.toInt t212
                  have := congrArg Int32.toInt t214
                  have := congrArg Int32.toInt t216
                  have := congrArg Int32.toInt t290
                  have := congrArg Int32.toInt t292
                  have := congrArg Int32.toInt t294
                  have := congrArg Int32.toInt t296
                  have := congrArg Int32.toInt t298
                  have := congrArg Int32.toInt t338
                  have := congrArg Int32.toInt t339
                  have := congrArg Int32.toInt t341
                  have := congrArg Int32.toInt t343
                  have := congrArg Int32.toInt t345
                  have := (r_x207).1; have := (r_x207).2
                  have := (r_x209).1; have := (r_x209).2
                  have := (r_x211).1; have := (r_x211).2
                  have := (r_x213).1; have := (r_x213).2
                  have := (r_x215).1; have := (r_x215).2
                  have := (r_x289).1; have := (r_x289).2
                  have := (r_x291).1; have := (r_x291).2
                  have := (r_x293).1; have := (r_x293).2
                  have := (r_x295).1; have := (r_x295).2
                  have := (r_x297).1; have := (r_x297).2
                  have := (r_x337).1; have := (r_x337).2
                  have := (r_x340).1; have := (r_x340).2
                  have := (r_x342).1; have := (r_x342).2
                  have := (r_x344).1; have := (r_x344).2
                  have := kc_0
                  have := kc_1
                  have := kc_33
                  have := kc_40
                  omega
                · skip
                  have := congrArg Int32.toInt t208
                  have := congrArg Int32.toInt t210
                  have := congrArg Int32.toInt t212
                  have := congrArg Int32.toInt t214
                  have := congrArg Int32.toInt t216
                  have := congrArg Int32.toInt t290
                  have := congrArg Int32.toInt t292
                  have := congrArg Int32.toInt t294
                  have := congrArg Int32.toInt t296
                  have := congrArg Int32.toInt t298
                  have := congrArg Int32.toInt t338
                  have := congrArg Int32.toInt t339
                  have := congrArg Int32.toInt t341
                  have := congrArg Int32.toInt t343
                  have := congrArg Int32.toInt t345
                  have := (r_x207).1; have := (r_x207).2
                  have := (r_x209).1; have := (r_x209).2
                  have := (r_x211).1; have := (r_x211).2
                  have := (r_x213).1; have := (r_x213).2
                  have := (r_x215).1; have := (r_x215).2
                  have := (r_x289).1; have := (r_x289).2
                  have := (r_x291).1; have := (r_x291).2
                  have := (r_x293).1; have := (r_x293).2
                  have := (r_x295).1; have := (r_x295).2
                  have := (r_x297).1; have := (r_x297).2
                  have := (r_x337).1; have := (r_x337).2
                  have := (r_x340).1; have := (r_x340).2
                  have := (r_x342).1; have := (r_x342).2
                  have := (r_x344).1; have := (r_x344).2
                  have := kc_0
                  have := kc_1
                  have := kc_33
                  have := kc_40
                  have := iv.2.2.2.2
                  omega
          · skip
            have r_x311 : mh_r x311 (40) (40) := mh_eq1 c329 r_x311 rc_40 (40) (40) (by decide)
            refine mw_aload_n 26 rfl 0 dX10_pieceOfC_25 rfl rfl ?_
            refine mw_callVv [] [] 29 rfl dX10_pieceOfC_26 ml_X10_240 mc_X10_opens mk_X10_opens rfl rfl (by decide) (w_X10_opens l G (d + 3) ⟨by omega, by omega⟩ hI_s247 b (show mh_pb b s247 by unfold mh_pb; rw [← t290, ← t292, ← t294, ← t296, ← t298]; have := kc_0; have := kc_1; have := (r_x207).1; have := (r_x207).2; have := (r_x209).1; have := (r_x209).2; have := (r_x211).1; have := (r_x211).2; have := (r_x213).1; have := (r_x213).2; have := (r_x215).1; have := (r_x215).2; have := (r_x289).1; have := (r_x289).2; have := (r_x291).1; have := (r_x291).2; have := (r_x293).1; have := (r_x293).2; have := (r_x295).1; have := (r_x295).2; have := (r_x297).1; have := (r_x297).2; have := kc_0; have := kc_1; have := kc_33; have := kc_40; omega) (by have := congrArg Int32.toInt t208; have := congrArg Int32.toInt t210; have := congrArg Int32.toInt t212; have := congrArg Int32.toInt t214; have := congrArg Int32.toInt t216; have := congrArg Int32.toInt t290; have := congrArg Int32.toInt t292; have := congrArg Int32.toInt t294; have := congrArg Int32.toInt t296; have := congrArg Int32.toInt t298; have := (r_x207).1; have := (r_x207).2; have := (r_x209).1; have := (r_x209).2; have := (r_x211).1; have := (r_x211).2; have := (r_x213).1; have := (r_x213).2; have := (r_x215).1; have := (r_x215).2; have := (r_x289).1; have := (r_x289).2; have := (r_x291).1; have := (r_x291).2; have := (r_x293).1; have := (r_x293).2; have := (r_x295).1; have := (r_x295).2; have := (r_x297).1; have := (r_x297).2; have := kc_0; have := kc_1; have := kc_33; have := kc_40; omega)) rfl rfl (Nat.le_of_ble_eq_true rfl) (mh_rok (by omega) (by decide)) (fun s444 q445 => ?_)
            obtain ⟨e0_s444, e1_s444, e2_s444, hI_s444, hG_s444⟩ := q445
            have hF_s444 : mh_F S_X10_pieceOfC s0 s444 := mh_F_tl hF_s247 hG_s444 (by decide +kernel)
            obtain ⟨x446, t447⟩ : ∃ z : Int32, z = s444.1 57 23 := ⟨_, rfl⟩
            have t448 : x291 = s444.1 57 24 := (t292).trans (hG_s444 57 24 (mh_nsI (by rfl))).1.symm
            obtain ⟨x449, t450⟩ : ∃ z : Int32, z = s444.1 57 25 := ⟨_, rfl⟩
            have t451 : x295 = s444.1 57 27 := (t296).trans (hG_s444 57 27 (mh_nsI (by rfl))).1.symm
            obtain ⟨x452, t453⟩ : ∃ z : Int32, z = s444.1 57 29 := ⟨_, rfl⟩
            have pb_s444 : 0 ≤ x446.toInt ∧ x446.toInt ≤ x291.toInt ∧ x291.toInt ≤ 200 ∧ 0 ≤ x452.toInt ∧ 0 ≤ b ∧ b ≤ x295.toInt ∧ x452.toInt + x295.toInt ≤ x446.toInt ∧ x449.toInt ≤ 0 := by have h9 := e0_s444; unfold mh_pb at h9; rw [← t447, ← t448, ← t450, ← t451, ← t453] at h9; exact h9
            have r_x446 : mh_r x446 (0) (200) := ⟨by have := ((mh_r_full x446)).1; omega, by have := ((mh_r_full x446)).2; omega⟩
            have r_x449 : mh_r x449 (-2147483648) (0) := ⟨by have := ((mh_r_full x449)).1; omega, by have := ((mh_r_full x449)).2; omega⟩
            have r_x452 : mh_r x452 (0) (200) := ⟨by have := ((mh_r_full x452)).1; omega, by have := ((mh_r_full x452)).2; omega⟩
            have hop_s444 := e2_s444
            rw [← t453, ← t447, ← t450, ← t298, ← t290, ← t294] at hop_s444
            refine mw_goto 32 rfl 0 dX10_pieceOfC_29 (by decide) ?_
            exact mw_lv [0] rfl (ihn1 s444 hI_s444 hF_s444 (by
                have h76 := e1_s444
                rw [← t298, ← e0_s312] at h76
                have h74 : s444.1 74 = s247.1 74 := (mh_F_row hG_s444 74 rfl)
                refine ⟨e0_s444, ?_, h74.trans iv.2.2.1, ?_, ?_⟩
                · skip
                  intro hg
                  have := congrArg Int32.toInt t208
                  have := congrArg Int32.toInt t210
                  have := congrArg Int32.toInt t212
                  have := congrArg Int32.toInt t214
                  have := congrArg Int32.toInt t216
                  have := congrArg Int32.toInt t290
                  have := congrArg Int32.toInt t292
                  have := congrArg Int32.toInt t294
                  have := congrArg Int32.toInt t296
                  have := congrArg Int32.toInt t298
                  have := congrArg Int32.toInt t447
                  have := congrArg Int32.toInt t448
                  have := congrArg Int32.toInt t450
                  have := congrArg Int32.toInt t451
                  have := congrArg Int32.toInt t453
                  have := (r_x207).1; have := (r_x207).2
                  have := (r_x209).1; have := (r_x209).2
                  have := (r_x211).1; have := (r_x211).2
                  have := (r_x213).1; have := (r_x213).2
                  have := (r_x215).1; have := (r_x215).2
                  have := (r_x289).1; have := (r_x289).2
                  have := (r_x291).1; have := (r_x291).2
                  have := (r_x293).1; have := (r_x293).2
                  have := (r_x295).1; have := (r_x295).2
                  have := (r_x297).1; have := (r_x297).2
                  have := (r_x446).1; have := (r_x446).2
                  have := (r_x449).1; have := (r_x449).2
                  have := (r_x452).1; have := (r_x452).2
                  have := kc_0
                  have := kc_1
                  have := kc_33
                  have := kc_40
                  have hB := iv.2.1 (by rw [← t294]; omega)
                  have h76 := e1_s444
                  rw [← t298] at h76
                  have h74 : s444.1 74 = s247.1 74 := (mh_F_row hG_s444 74 rfl)
                  have hcod : (s444.1 57 27).toInt = x295.toInt := by rw [← t451]
                  have hst : (s444.1 57 29).toInt.toNat = x297.toInt.toNat + 1 := by rw [← t453]; omega
                  rw [← t296, ← t298] at hB
                  rw [h74, h76, hcod, hst]
                  exact mh_pdr_pn hB (by rw [← e0_s312]; show (_ ∨ _ ∨ _); omega)
                · skip
                  have := congrArg Int32.toInt t208
                  have := congrArg Int32.toInt t210
                  have := congrArg Int32.toInt t212
                  have := congrArg Int32.toInt t214
                  have := congrArg Int32.toInt t216
                  have := congrArg Int32.toInt t290
                  have := congrArg Int32.toInt t292
                  have := congrArg Int32.toInt t294
                  have := congrArg Int32.toInt t296
                  have := congrArg Int32.toInt t298
                  have := congrArg Int32.toInt t447
                  have := congrArg Int32.toInt t448
                  have := congrArg Int32.toInt t450
                  have := congrArg Int32.toInt t451
                  have := congrArg Int32.toInt t453
                  have := (r_x207).1; have := (r_x207).2
                  have := (r_x209).1; have := (r_x209).2
                  have := (r_x211).1; have := (r_x211).2
                  have := (r_x213).1; have := (r_x213).2
                  have := (r_x215).1; have := (r_x215).2
                  have := (r_x289).1; have := (r_x289).2
                  have := (r_x291).1; have := (r_x291).2
                  have := (r_x293).1; have := (r_x293).2
                  have := (r_x295).1; have := (r_x295).2
                  have := (r_x297).1; have := (r_x297).2
                  have := (r_x446).1; have := (r_x446).2
                  have := (r_x449).1; have := (r_x449).2
                  have := (r_x452).1; have := (r_x452).2
                  have := kc_0
                  have := kc_1
                  have := kc_33
                  have := kc_40
                  have hc9 := iv.2.2.2.1
                  rw [← t298] at hc9
                  have hst : (s444.1 57 29).toInt.toNat = x297.toInt.toNat + 1 := by rw [← t453]; omega
                  rw [hst, h76]
                  exact mh_cq_psh hc9 (by unfold mh_cs; omega)
                · skip
                  have := congrArg Int32.toInt t208
                  have := congrArg Int32.toInt t210
                  have := congrArg Int32.toInt t212
                  have := congrArg Int32.toInt t214
                  have := congrArg Int32.toInt t216
                  have := congrArg Int32.toInt t290
                  have := congrArg Int32.toInt t292
                  have := congrArg Int32.toInt t294
                  have := congrArg Int32.toInt t296
                  have := congrArg Int32.toInt t298
                  have := congrArg Int32.toInt t447
                  have := congrArg Int32.toInt t448
                  have := congrArg Int32.toInt t450
                  have := congrArg Int32.toInt t451
                  have := congrArg Int32.toInt t453
                  have := (r_x207).1; have := (r_x207).2
                  have := (r_x209).1; have := (r_x209).2
                  have := (r_x211).1; have := (r_x211).2
                  have := (r_x213).1; have := (r_x213).2
                  have := (r_x215).1; have := (r_x215).2
                  have := (r_x289).1; have := (r_x289).2
                  have := (r_x291).1; have := (r_x291).2
                  have := (r_x293).1; have := (r_x293).2
                  have := (r_x295).1; have := (r_x295).2
                  have := (r_x297).1; have := (r_x297).2
                  have := (r_x446).1; have := (r_x446).2
                  have := (r_x449).1; have := (r_x449).2
                  have := (r_x452).1; have := (r_x452).2
                  have := kc_0
                  have := kc_1
                  have := kc_33
                  have := kc_40
                  have := iv.2.2.2.2
                  omega) (by have := congrArg Int32.toInt t208; have := congrArg Int32.toInt t210; have := congrArg Int32.toInt t212; have := congrArg Int32.toInt t214; have := congrArg Int32.toInt t216; have := congrArg Int32.toInt t290; have := congrArg Int32.toInt t292; have := congrArg Int32.toInt t294; have := congrArg Int32.toInt t296; have := congrArg Int32.toInt t298; have := congrArg Int32.toInt t447; have := congrArg Int32.toInt t448; have := congrArg Int32.toInt t450; have := congrArg Int32.toInt t451; have := congrArg Int32.toInt t453; have := (r_x207).1; have := (r_x207).2; have := (r_x209).1; have := (r_x209).2; have := (r_x211).1; have := (r_x211).2; have := (r_x213).1; have := (r_x213).2; have := (r_x215).1; have := (r_x215).2; have := (r_x289).1; have := (r_x289).2; have := (r_x291).1; have := (r_x291).2; have := (r_x293).1; have := (r_x293).2; have := (r_x295).1; have := (r_x295).2; have := (r_x297).1; have := (r_x297).2; have := (r_x446).1; have := (r_x446).2; have := (r_x449).1; have := (r_x449).2; have := (r_x452).1; have := (r_x452).2; have := kc_0; have := kc_1; have := kc_33; have := kc_40; omega))
  exact mw_lv [0] rfl (L0 202 s0 hI0 hF0 (by
      exact ⟨hb, hd, rfl, hcq, Int.le_refl _⟩) (by have h9 := hb; unfold mh_pb at h9; omega))

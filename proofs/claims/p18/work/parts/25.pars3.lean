def S_X10_factor : List (Nat × Nat) := [(57, 28), (76, 9999), (57, 29), (57, 23), (57, 25), (74, 9999), (75, 9999), (57, 27)]
def P_X10_factor (B D : Int) (s0 : mh_H) (b : Int) : mh_H → Prop := fun s => (mh_pb b s) ∧ (mh_pd b 1 s) ∧ (mh_pk b s0 s) ∧ ((s0.1 57 29).toInt ≤ (s.1 57 29).toInt ∧ (s0.1 57 23).toInt ≤ (s.1 57 23).toInt ∧ ((s.1 57 25).toInt = 0 → (s0.1 57 23).toInt + 1 ≤ (s.1 57 23).toInt) ∧ ((s.1 57 25).toInt = 0 → (s0.1 57 25).toInt = 0)) ∧ ((∀ j : Nat, j < (s0.1 57 29).toInt.toNat → s.1 76 j = s0.1 76 j) ∧ (∀ j : Nat, (s0.1 57 29).toInt.toNat ≤ j → j < (s.1 57 29).toInt.toNat → (s.1 76 j).toInt = 91)) ∧ mh_I B D s ∧ mh_F S_X10_factor s0 s
set_option maxRecDepth 100000 in
set_option maxHeartbeats 4000000 in
theorem w_X10_factor (l : Launch) (G : mh_G) (d : Nat) {B D : Int} (hB : B ≤ 1940000000 ∧ D ≤ 1940000000) {s0 : mh_H} (hI0 : mh_I B D s0) (b : Int) (hb : mh_pb b s0) (hd : mh_pd b 0 s0) : mh_Mv l G (d + 3) mM_X10_factor [.ref (G.2.2.2 57)] s0 (P_X10_factor B D s0 b) := by
  refine mh_enter (lv := [(0, .ref (G.2.2.2 57))]) (by decide) rfl (Nat.le_of_ble_eq_true rfl) ?_
  have hF0 : mh_F S_X10_factor s0 s0 := mh_F_rf
  obtain ⟨x136, t137⟩ : ∃ z : Int32, z = s0.1 57 23 := ⟨_, rfl⟩
  obtain ⟨x138, t139⟩ : ∃ z : Int32, z = s0.1 57 24 := ⟨_, rfl⟩
  obtain ⟨x140, t141⟩ : ∃ z : Int32, z = s0.1 57 25 := ⟨_, rfl⟩
  obtain ⟨x142, t143⟩ : ∃ z : Int32, z = s0.1 57 27 := ⟨_, rfl⟩
  obtain ⟨x144, t145⟩ : ∃ z : Int32, z = s0.1 57 29 := ⟨_, rfl⟩
  have pb_s0 : 0 ≤ x136.toInt ∧ x136.toInt ≤ x138.toInt ∧ x138.toInt ≤ 200 ∧ 0 ≤ x144.toInt ∧ 0 ≤ b ∧ b ≤ x142.toInt ∧ x144.toInt + x142.toInt ≤ x136.toInt ∧ x140.toInt ≤ 0 := by have h9 := hb; unfold mh_pb at h9; rw [← t137, ← t139, ← t141, ← t143, ← t145] at h9; exact h9
  have r_x136 : mh_r x136 (0) (200) := ⟨by have := ((mh_r_full x136)).1; omega, by have := ((mh_r_full x136)).2; omega⟩
  have r_x138 : mh_r x138 (0) (200) := ⟨by have := ((mh_r_full x138)).1; omega, by have := ((mh_r_full x138)).2; omega⟩
  have r_x140 : mh_r x140 (-2147483648) (0) := ⟨by have := ((mh_r_full x140)).1; omega, by have := ((mh_r_full x140)).2; omega⟩
  have r_x142 : mh_r x142 (0) (200) := ⟨by have := ((mh_r_full x142)).1; omega, by have := ((mh_r_full x142)).2; omega⟩
  have r_x144 : mh_r x144 (0) (200) := ⟨by have := ((mh_r_full x144)).1; omega, by have := ((mh_r_full x144)).2; omega⟩
  have L0 : ∀ n1 : Nat, ∀  (s163 : mh_H), mh_I B D s163 → mh_F S_X10_factor s0 s163 → (mh_pb b s163 ∧ mh_pd b 0 s163 ∧ s163.1 74 = s0.1 74 ∧ (s0.1 57 29).toInt ≤ (s163.1 57 29).toInt ∧ (s0.1 57 23).toInt ≤ (s163.1 57 23).toInt ∧ ((s163.1 57 25).toInt = 0 → (s0.1 57 25).toInt = 0) ∧ (∀ j : Nat, j < (s0.1 57 29).toInt.toNat → s163.1 76 j = s0.1 76 j) ∧ (∀ j : Nat, (s0.1 57 29).toInt.toNat ≤ j → j < (s163.1 57 29).toInt.toNat → (s163.1 76 j).toInt = 91)) → 200 - (s163.1 57 23).toInt < (n1 : Int) → mh_W G (mh_XM l G (d + 3) (mh_Qv (P_X10_factor B D s0 b))) mM_X10_factor 0 [(0, .ref (G.2.2.2 57))] [] s163 := by
    intro n1
    induction n1 with
    | zero =>
      intro s163 hI_s163 hF_s163 iv hmn1
      exact absurd hmn1 (by have h9 := iv.1; unfold mh_pb at h9; omega)
    | succ n1 ihn1 =>
      intro s163 hI_s163 hF_s163 iv hmn1
      obtain ⟨x192, t193⟩ : ∃ z : Int32, z = s163.1 57 23 := ⟨_, rfl⟩
      obtain ⟨x194, t195⟩ : ∃ z : Int32, z = s163.1 57 24 := ⟨_, rfl⟩
      obtain ⟨x196, t197⟩ : ∃ z : Int32, z = s163.1 57 25 := ⟨_, rfl⟩
      obtain ⟨x198, t199⟩ : ∃ z : Int32, z = s163.1 57 27 := ⟨_, rfl⟩
      obtain ⟨x200, t201⟩ : ∃ z : Int32, z = s163.1 57 29 := ⟨_, rfl⟩
      have pb_s163 : 0 ≤ x192.toInt ∧ x192.toInt ≤ x194.toInt ∧ x194.toInt ≤ 200 ∧ 0 ≤ x200.toInt ∧ 0 ≤ b ∧ b ≤ x198.toInt ∧ x200.toInt + x198.toInt ≤ x192.toInt ∧ x196.toInt ≤ 0 := by have h9 := iv.1; unfold mh_pb at h9; rw [← t193, ← t195, ← t197, ← t199, ← t201] at h9; exact h9
      have r_x192 : mh_r x192 (0) (200) := ⟨by have := ((mh_r_full x192)).1; omega, by have := ((mh_r_full x192)).2; omega⟩
      have r_x194 : mh_r x194 (0) (200) := ⟨by have := ((mh_r_full x194)).1; omega, by have := ((mh_r_full x194)).2; omega⟩
      have r_x196 : mh_r x196 (-2147483648) (0) := ⟨by have := ((mh_r_full x196)).1; omega, by have := ((mh_r_full x196)).2; omega⟩
      have r_x198 : mh_r x198 (0) (200) := ⟨by have := ((mh_r_full x198)).1; omega, by have := ((mh_r_full x198)).2; omega⟩
      have r_x200 : mh_r x200 (0) (200) := ⟨by have := ((mh_r_full x200)).1; omega, by have := ((mh_r_full x200)).2; omega⟩
      refine mw_aload_n 1 rfl 0 dX10_factor_0 rfl rfl ?_
      refine mw_callVi [] [] 4 rfl dX10_factor_1 ml_X10_197 mc_X10_isGood mk_X10_isGood rfl rfl (by decide) (w_X10_isGood l G (d + 2) ⟨by omega, by omega⟩ hI_s163) rfl rfl (Nat.le_of_ble_eq_true rfl) (mh_rok (by omega) (by decide)) (fun x202 s203 q204 => ?_)
      obtain ⟨r_x202, e0_s203, rfl⟩ := q204
      rw [← t197] at e0_s203
      refine mw_if_eq 7 rfl 23 dX10_factor_4 (by decide) (fun c205 => ?_) (fun c205 => ?_)
      · skip
        have r_x196 : mh_r x196 (-2147483648) (-1) := ⟨(r_x196).1, by have := (r_x196).2; have : x196.toInt ≠ 0 := (fun q => by have := e0_s203.2 q; have := c205; omega); omega⟩
        have r_x202 : mh_r x202 (0) (0) := mh_eq1 (show x202.toInt = (0 : Int32).toInt from c205) r_x202 rc_0 (0) (0) (by decide)
        refine mw_aload_n 24 rfl 0 dX10_factor_23 rfl rfl ?_
        refine mw_callVi [] [] 27 rfl dX10_factor_24 ml_X10_197 mc_X10_isGood mk_X10_isGood rfl rfl (by decide) (w_X10_isGood l G (d + 2) ⟨by omega, by omega⟩ hI_s163) rfl rfl (Nat.le_of_ble_eq_true rfl) (mh_rok (by omega) (by decide)) (fun x206 s207 q208 => ?_)
        obtain ⟨r_x206, e0_s207, rfl⟩ := q208
        rw [← t197] at e0_s207
        refine mw_if_ne 30 rfl 31 dX10_factor_27 (by decide) (fun c209 => ?_) (fun c209 => ?_)
        · skip
          exact absurd (e0_s207.1 (mh_z1 r_x206 c209)) (by have := (r_x196).2; omega)
        · skip
          have r_x206 : mh_r x206 (0) (0) := mh_eq1 (show x206.toInt = (0 : Int32).toInt from c209) r_x206 rc_0 (0) (0) (by decide)
          refine mw_vret dX10_factor_30 rfl ⟨rfl, ⟨?_, ?_, ?_, ?_, ?_, hI_s163, hF_s163⟩⟩
          · skip
            exact (show mh_pb b s163 by unfold mh_pb; rw [← t193, ← t195, ← t197, ← t199, ← t201]; have := kc_0; have := kc_1; have := (r_x192).1; have := (r_x192).2; have := (r_x194).1; have := (r_x194).2; have := (r_x196).1; have := (r_x196).2; have := (r_x198).1; have := (r_x198).2; have := (r_x200).1; have := (r_x200).2; have := kc_0; have := kc_1; have := kc_91; omega)
          · skip
            intro hg
            exfalso
            have := congrArg Int32.toInt t193
            have := congrArg Int32.toInt t195
            have := congrArg Int32.toInt t197
            have := congrArg Int32.toInt t199
            have := congrArg Int32.toInt t201
            have := (r_x192).1; have := (r_x192).2
            have := (r_x194).1; have := (r_x194).2
            have := (r_x196).1; have := (r_x196).2
            have := (r_x198).1; have := (r_x198).2
            have := (r_x200).1; have := (r_x200).2
            have := kc_0
            have := kc_1
            have := kc_91
            omega
          · skip
            exact mh_pk_row (show s163.1 74 = s0.1 74 from (rfl).trans iv.2.2.1)
          · skip
            have := congrArg Int32.toInt t193
            have := congrArg Int32.toInt t195
            have := congrArg Int32.toInt t197
            have := congrArg Int32.toInt t199
            have := congrArg Int32.toInt t201
            have := (r_x192).1; have := (r_x192).2
            have := (r_x194).1; have := (r_x194).2
            have := (r_x196).1; have := (r_x196).2
            have := (r_x198).1; have := (r_x198).2
            have := (r_x200).1; have := (r_x200).2
            have := kc_0
            have := kc_1
            have := kc_91
            have h6 := iv.2.2.2.1
            have h5 := iv.2.2.2.2.1
            have h4 := iv.2.2.2.2.2.1
            omega
          · skip
            have h76 : s163.1 76 = s163.1 76 := rfl
            rw [h76]
            have h29 : s163.1 57 29 = s163.1 57 29 := by first | rfl | rw [← t201, ← t201]
            rw [h29]
            exact ⟨iv.2.2.2.2.2.2.1, iv.2.2.2.2.2.2.2⟩
      · skip
        have r_x196 : mh_r x196 (0) (0) := ⟨by have := e0_s203.1 (mh_z1 r_x202 c205); omega, by have := e0_s203.1 (mh_z1 r_x202 c205); omega⟩
        have r_x202 : mh_r x202 (1) (1) := mh_ne1 (show x202.toInt ≠ (0 : Int32).toInt from c205) r_x202 rc_0 (1) (1) (by decide)
        refine mw_aload_n 8 rfl 0 dX10_factor_7 rfl rfl ?_
        refine mw_callVi [] [] 11 rfl dX10_factor_8 ml_X10_214 mc_X10_here mk_X10_here rfl rfl (by decide) (w_X10_here l G (d + 2) ⟨by omega, by omega⟩ hI_s163 (by rw [← t193, ← t195]; have := (r_x192).1; have := (r_x192).2; have := (r_x194).1; have := (r_x194).2; have := (r_x196).1; have := (r_x196).2; have := (r_x198).1; have := (r_x198).2; have := (r_x200).1; have := (r_x200).2; have := kc_0; have := kc_1; have := kc_91; omega)) rfl rfl (Nat.le_of_ble_eq_true rfl) (mh_rok (by omega) (by decide)) (fun x210 s211 q212 => ?_)
        obtain ⟨r_x210, e0_s211, rfl⟩ := q212
        have hq_x210 : x210.toInt ≠ 0 → x192.toInt < x194.toInt := fun q => by rw [t193, t195]; exact mh_hr_lt (by rw [← e0_s211]; exact q)
        refine mw_bipush (v := 91) 13 rfl dX10_factor_11 (by decide) ?_
        refine mw_icmp_ne 16 rfl 23 dX10_factor_13 (by decide) (fun c213 => ?_) (fun c213 => ?_)
        · skip
          refine mw_aload_n 24 rfl 0 dX10_factor_23 rfl rfl ?_
          refine mw_callVi [] [] 27 rfl dX10_factor_24 ml_X10_197 mc_X10_isGood mk_X10_isGood rfl rfl (by decide) (w_X10_isGood l G (d + 2) ⟨by omega, by omega⟩ hI_s163) rfl rfl (Nat.le_of_ble_eq_true rfl) (mh_rok (by omega) (by decide)) (fun x214 s215 q216 => ?_)
          obtain ⟨r_x214, e0_s215, rfl⟩ := q216
          rw [← t197] at e0_s215
          refine mw_if_ne 30 rfl 31 dX10_factor_27 (by decide) (fun c217 => ?_) (fun c217 => ?_)
          · skip
            have r_x214 : mh_r x214 (1) (1) := mh_ne1 (show x214.toInt ≠ (0 : Int32).toInt from c217) r_x214 rc_0 (1) (1) (by decide)
            refine mw_aload_n 32 rfl 0 dX10_factor_31 rfl rfl ?_
            refine mw_callVi [] [] 35 rfl dX10_factor_32 ml_X10_225 mc_X10_seesDigit mk_X10_seesDigit rfl rfl (by decide) (w_X10_seesDigit l G (d + 1) ⟨by omega, by omega⟩ hI_s163 (by rw [← t193, ← t195]; have := (r_x192).1; have := (r_x192).2; have := (r_x194).1; have := (r_x194).2; have := (r_x196).1; have := (r_x196).2; have := (r_x198).1; have := (r_x198).2; have := (r_x200).1; have := (r_x200).2; have := kc_0; have := kc_1; have := kc_91; omega)) rfl rfl (Nat.le_of_ble_eq_true rfl) (mh_rok (by omega) (by decide)) (fun x218 s219 q220 => ?_)
            obtain ⟨r_x218, e0_s219, rfl⟩ := q220
            have hd_x218 : x218.toInt = 1 → x192.toInt < x194.toInt := fun q => by rw [t193, t195]; exact mh_hr_lt (by have := e0_s219.1 q; omega)
            refine mw_if_eq 38 rfl 50 dX10_factor_35 (by decide) (fun c221 => ?_) (fun c221 => ?_)
            · skip
              have r_x218 : mh_r x218 (0) (0) := mh_eq1 (show x218.toInt = (0 : Int32).toInt from c221) r_x218 rc_0 (0) (0) (by decide)
              refine mw_aload_n 51 rfl 0 dX10_factor_50 rfl rfl ?_
              refine mw_callVi [] [] 54 rfl dX10_factor_51 ml_X10_214 mc_X10_here mk_X10_here rfl rfl (by decide) (w_X10_here l G (d + 2) ⟨by omega, by omega⟩ hI_s163 (by rw [← t193, ← t195]; have := (r_x192).1; have := (r_x192).2; have := (r_x194).1; have := (r_x194).2; have := (r_x196).1; have := (r_x196).2; have := (r_x198).1; have := (r_x198).2; have := (r_x200).1; have := (r_x200).2; have := kc_0; have := kc_1; have := kc_91; omega)) rfl rfl (Nat.le_of_ble_eq_true rfl) (mh_rok (by omega) (by decide)) (fun x222 s223 q224 => ?_)
              obtain ⟨r_x222, e0_s223, rfl⟩ := q224
              obtain rfl : x210 = x222 := e0_s211.trans e0_s223.symm
              refine mw_callSi [.int x210] [] 57 rfl dX10_factor_54 ml_X10_246 mc_X10_isValue mk_X10_isValue (w_X10_isValue l G (d + 2) ⟨by omega, by omega⟩ hI_s163 x210) rfl rfl (Nat.le_of_ble_eq_true rfl) (mh_rok (by omega) (by decide)) (fun x225 s226 q227 => ?_)
              obtain ⟨r_x225, e0_s226, rfl⟩ := q227
              refine mw_if_eq 60 rfl 82 dX10_factor_57 (by decide) (fun c228 => ?_) (fun c228 => ?_)
              · skip
                have r_x225 : mh_r x225 (0) (0) := mh_eq1 (show x225.toInt = (0 : Int32).toInt from c228) r_x225 rc_0 (0) (0) (by decide)
                refine mw_aload_n 83 rfl 0 dX10_factor_82 rfl rfl ?_
                refine mw_iconst (v := 1) 84 rfl dX10_factor_83 (by decide) ?_
                refine mw_aload_n 85 rfl 0 dX10_factor_84 rfl rfl ?_
                refine mw_geti 88 rfl dX10_factor_85 gf_X10_188 rfl (fun x229 t230 => ?_)
                obtain rfl : x192 = x229 := t193.trans t230.symm
                refine mw_callVv [.int (1), .int x192] [] 91 rfl dX10_factor_88 ml_X10_210 mc_X10_wrongs mk_X10_wrongs rfl rfl (by decide) (w_X10_wrongs l G (d + 2) ⟨by omega, by omega⟩ hI_s163 (1) (mh_r_wk rc_1 (by decide)) x192 r_x192 (by rw [← t197]; have := (r_x192).1; have := (r_x192).2; have := (r_x194).1; have := (r_x194).2; have := (r_x196).1; have := (r_x196).2; have := (r_x198).1; have := (r_x198).2; have := (r_x200).1; have := (r_x200).2; have := kc_0; have := kc_1; have := kc_91; omega)) rfl rfl (Nat.le_of_ble_eq_true rfl) (mh_rok (by omega) (by decide)) (fun s232 q233 => ?_)
                obtain ⟨e0_s232, hI_s232, hG_s232⟩ := q233
                have hF_s232 : mh_F S_X10_factor s0 s232 := mh_F_tl hF_s163 hG_s232 (by decide +kernel)
                obtain ⟨x234, t235⟩ : ∃ z : Int32, z = s232.1 57 25 := ⟨_, rfl⟩
                have hw_s232 : x234.toInt < 0 := by rw [t235]; exact e0_s232
                have r_x234 : mh_r x234 (-2147483648) (-1) := ⟨((mh_r_full x234)).1, by have := hw_s232; omega⟩
                refine mw_vret dX10_factor_91 rfl ⟨rfl, ⟨?_, ?_, ?_, ?_, ?_, hI_s232, hF_s232⟩⟩
                · skip
                  have t236 : x192 = s232.1 57 23 := (t193).trans (hG_s232 57 23 (mh_nsI (by rfl))).1.symm
                  have t237 : x194 = s232.1 57 24 := (t195).trans (hG_s232 57 24 (mh_nsI (by rfl))).1.symm
                  have t238 : x198 = s232.1 57 27 := (t199).trans (hG_s232 57 27 (mh_nsI (by rfl))).1.symm
                  have t239 : x200 = s232.1 57 29 := (t201).trans (hG_s232 57 29 (mh_nsI (by rfl))).1.symm
                  exact (show mh_pb b s232 by unfold mh_pb; rw [← t236, ← t237, ← t235, ← t238, ← t239]; have := kc_0; have := kc_1; have := (r_x192).1; have := (r_x192).2; have := (r_x194).1; have := (r_x194).2; have := (r_x196).1; have := (r_x196).2; have := (r_x198).1; have := (r_x198).2; have := (r_x200).1; have := (r_x200).2; have := (r_x234).1; have := (r_x234).2; have := kc_0; have := kc_1; have := kc_91; omega)
                · skip
                  have t240 : x192 = s232.1 57 23 := (t193).trans (hG_s232 57 23 (mh_nsI (by rfl))).1.symm
                  have t241 : x194 = s232.1 57 24 := (t195).trans (hG_s232 57 24 (mh_nsI (by rfl))).1.symm
                  have t242 : x198 = s232.1 57 27 := (t199).trans (hG_s232 57 27 (mh_nsI (by rfl))).1.symm
                  have t243 : x200 = s232.1 57 29 := (t201).trans (hG_s232 57 29 (mh_nsI (by rfl))).1.symm
                  intro hg
                  exfalso
                  have := congrArg Int32.toInt t193
                  have := congrArg Int32.toInt t195
                  have := congrArg Int32.toInt t197
                  have := congrArg Int32.toInt t199
                  have := congrArg Int32.toInt t201
                  have := congrArg Int32.toInt t235
                  have := congrArg Int32.toInt t240
                  have := congrArg Int32.toInt t241
                  have := congrArg Int32.toInt t242
                  have := congrArg Int32.toInt t243
                  have := (r_x192).1; have := (r_x192).2
                  have := (r_x194).1; have := (r_x194).2
                  have := (r_x196).1; have := (r_x196).2
                  have := (r_x198).1; have := (r_x198).2
                  have := (r_x200).1; have := (r_x200).2
                  have := (r_x234).1; have := (r_x234).2
                  have := kc_0
                  have := kc_1
                  have := kc_91
                  omega
                · skip
                  exact mh_pk_row (show s232.1 74 = s0.1 74 from ((mh_F_row hG_s232 74 rfl)).trans iv.2.2.1)
                · skip
                  have t244 : x192 = s232.1 57 23 := (t193).trans (hG_s232 57 23 (mh_nsI (by rfl))).1.symm
                  have t245 : x194 = s232.1 57 24 := (t195).trans (hG_s232 57 24 (mh_nsI (by rfl))).1.symm
                  have t246 : x198 = s232.1 57 27 := (t199).trans (hG_s232 57 27 (mh_nsI (by rfl))).1.symm
                  have t247 : x200 = s232.1 57 29 := (t201).trans (hG_s232 57 29 (mh_nsI (by rfl))).1.symm
                  have := congrArg Int32.toInt t193
                  have := congrArg Int32.toInt t195
                  have := congrArg Int32.toInt t197
                  have := congrArg Int32.toInt t199
                  have := congrArg Int32.toInt t201
                  have := congrArg Int32.toInt t235
                  have := congrArg Int32.toInt t244
                  have := congrArg Int32.toInt t245
                  have := congrArg Int32.toInt t246
                  have := congrArg Int32.toInt t247
                  have := (r_x192).1; have := (r_x192).2
                  have := (r_x194).1; have := (r_x194).2
                  have := (r_x196).1; have := (r_x196).2
                  have := (r_x198).1; have := (r_x198).2
                  have := (r_x200).1; have := (r_x200).2
                  have := (r_x234).1; have := (r_x234).2
                  have := kc_0
                  have := kc_1
                  have := kc_91
                  have h6 := iv.2.2.2.1
                  have h5 := iv.2.2.2.2.1
                  have h4 := iv.2.2.2.2.2.1
                  omega
                · skip
                  have t248 : x200 = s232.1 57 29 := (t201).trans (hG_s232 57 29 (mh_nsI (by rfl))).1.symm
                  have h76 : s232.1 76 = s163.1 76 := (mh_F_row hG_s232 76 rfl)
                  rw [h76]
                  have h29 : s232.1 57 29 = s163.1 57 29 := by first | rfl | rw [← t248, ← t201]
                  rw [h29]
                  exact ⟨iv.2.2.2.2.2.2.1, iv.2.2.2.2.2.2.2⟩
              · skip
                have hk_x225 := e0_s226 (mh_z1 r_x225 c228)
                have r_x225 : mh_r x225 (1) (1) := mh_ne1 (show x225.toInt ≠ (0 : Int32).toInt from c228) r_x225 rc_0 (1) (1) (by decide)
                refine mw_aload_n 61 rfl 0 dX10_factor_60 rfl rfl ?_
                refine mw_iconst (v := 1) 62 rfl dX10_factor_61 (by decide) ?_
                refine mw_aload_n 63 rfl 0 dX10_factor_62 rfl rfl ?_
                refine mw_callVi [] [.int (1), .ref (G.2.2.2 57)] 66 rfl dX10_factor_63 ml_X10_214 mc_X10_here mk_X10_here rfl rfl (by decide) (w_X10_here l G (d + 2) ⟨by omega, by omega⟩ hI_s163 (by rw [← t193, ← t195]; have := (rc_1).1; have := (rc_1).2; have := (r_x192).1; have := (r_x192).2; have := (r_x194).1; have := (r_x194).2; have := (r_x196).1; have := (r_x196).2; have := (r_x198).1; have := (r_x198).2; have := (r_x200).1; have := (r_x200).2; have := kc_0; have := kc_1; have := kc_91; omega)) rfl rfl (Nat.le_of_ble_eq_true rfl) (mh_rok (by omega) (by decide)) (fun x249 s250 q251 => ?_)
                obtain ⟨r_x249, e0_s250, rfl⟩ := q251
                obtain rfl : x210 = x249 := e0_s211.trans e0_s250.symm
                refine mw_callVv [.int (1), .int x210] [] 69 rfl dX10_factor_66 ml_X10_237 mc_X10_emit mk_X10_emit rfl rfl (by decide) (w_X10_emit l G (d + 1) ⟨by omega, by omega⟩ hI_s163 (1) x210 (by rw [← t197, ← t199]; have := (r_x192).1; have := (r_x192).2; have := (r_x194).1; have := (r_x194).2; have := (r_x196).1; have := (r_x196).2; have := (r_x198).1; have := (r_x198).2; have := (r_x200).1; have := (r_x200).2; have := kc_0; have := kc_1; have := kc_91; omega)) rfl rfl (Nat.le_of_ble_eq_true rfl) (mh_rok (by omega) (by decide)) (fun s253 q254 => ?_)
                obtain ⟨e0_s253, hI_s253, hG_s253⟩ := q254
                have hF_s253 : mh_F S_X10_factor s0 s253 := mh_F_tl hF_s163 hG_s253 (by decide +kernel)
                obtain ⟨x255, t256⟩ : ∃ z : Int32, z = s253.1 57 27 := ⟨_, rfl⟩
                have hm_s253 : (x196.toInt = 0 → s253.1 74 = mh_u1 (s163.1 74) x198.toInt.toNat (1 : Int32) ∧ x255.toInt = x198.toInt + 1) ∧ (x196.toInt ≠ 0 → s253.1 74 = s163.1 74 ∧ x255.toInt = x198.toInt) := by
                  have h9 := e0_s253
                  rw [← t197, ← t199] at h9
                  rw [← t256] at h9
                  exact ⟨h9.1, fun q => ⟨(h9.2 q).1, congrArg Int32.toInt (h9.2 q).2⟩⟩
                have hn_s253 : (x196.toInt = 0 ∧ x255.toInt = x198.toInt + 1) ∨ (x196.toInt ≠ 0 ∧ x255.toInt = x198.toInt) := by by_cases q : x196.toInt = 0; exact Or.inl ⟨q, (hm_s253.1 q).2⟩; exact Or.inr ⟨q, (hm_s253.2 q).2⟩
                have r_x255 : mh_r x255 (0) (201) := ⟨by have := (r_x198).1; omega, by have := (r_x198).2; omega⟩
                refine mw_aload_n 70 rfl 0 dX10_factor_69 rfl rfl ?_
                refine mw_dup 71 rfl dX10_factor_70 rfl ?_
                refine mw_geti 74 rfl dX10_factor_71 gf_X10_188 rfl (fun x257 t258 => ?_)
                have t259 : x192 = s253.1 57 23 := (t193).trans (hG_s253 57 23 (mh_nsI (by rfl))).1.symm
                obtain rfl : x192 = x257 := t259.trans t258.symm
                refine mw_iconst (v := 1) 75 rfl dX10_factor_74 (by decide) ?_
                refine mw_iadd 76 rfl (1) (201) dX10_factor_75 r_x192 rc_1 (by decide) (fun x260 t261 r_x260 => ?_)
                refine mw_puti 79 rfl dX10_factor_76 pf_X10_188 rfl (fun s262 t263 => ?_)
                have hI_s262 : mh_I B D s262 := by rw [t263]; exact wr_57_23 hI_s253
                have hF_s262 : mh_F S_X10_factor s0 s262 := by rw [t263]; exact mh_F_pI hF_s253 (mh_sj 3 rfl)
                refine mw_goto 82 rfl 91 dX10_factor_79 (by decide) ?_
                refine mw_vret dX10_factor_91 rfl ⟨rfl, ⟨?_, ?_, ?_, ?_, ?_, hI_s262, hF_s262⟩⟩
                · skip
                  have t264 : x260 = s262.1 57 23 := by rw [t263]; exact mh_pI_s.symm
                  have t265 : x194 = s253.1 57 24 := (t195).trans (hG_s253 57 24 (mh_nsI (by rfl))).1.symm
                  have t266 : x194 = s262.1 57 24 := by rw [t263]; exact (t265).trans (mh_pI_n (by omega)).symm
                  have t267 : x196 = s253.1 57 25 := (t197).trans (hG_s253 57 25 (mh_nsI (by rfl))).1.symm
                  have t268 : x196 = s262.1 57 25 := by rw [t263]; exact (t267).trans (mh_pI_n (by omega)).symm
                  have t269 : x255 = s262.1 57 27 := by rw [t263]; exact (t256).trans (mh_pI_n (by omega)).symm
                  have t270 : x200 = s253.1 57 29 := (t201).trans (hG_s253 57 29 (mh_nsI (by rfl))).1.symm
                  have t271 : x200 = s262.1 57 29 := by rw [t263]; exact (t270).trans (mh_pI_n (by omega)).symm
                  exact (show mh_pb b s262 by unfold mh_pb; rw [← t264, ← t266, ← t268, ← t269, ← t271]; have := kc_0; have := kc_1; have := (r_x192).1; have := (r_x192).2; have := (r_x194).1; have := (r_x194).2; have := (r_x196).1; have := (r_x196).2; have := (r_x198).1; have := (r_x198).2; have := (r_x200).1; have := (r_x200).2; have := (r_x255).1; have := (r_x255).2; have := (r_x260).1; have := (r_x260).2; have := (rc_1).1; have := (rc_1).2; have := kc_0; have := kc_1; have := kc_91; omega)
                · skip
                  have t272 : x260 = s262.1 57 23 := by rw [t263]; exact mh_pI_s.symm
                  have t273 : x194 = s253.1 57 24 := (t195).trans (hG_s253 57 24 (mh_nsI (by rfl))).1.symm
                  have t274 : x194 = s262.1 57 24 := by rw [t263]; exact (t273).trans (mh_pI_n (by omega)).symm
                  have t275 : x196 = s253.1 57 25 := (t197).trans (hG_s253 57 25 (mh_nsI (by rfl))).1.symm
                  have t276 : x196 = s262.1 57 25 := by rw [t263]; exact (t275).trans (mh_pI_n (by omega)).symm
                  have t277 : x255 = s262.1 57 27 := by rw [t263]; exact (t256).trans (mh_pI_n (by omega)).symm
                  have t278 : x200 = s253.1 57 29 := (t201).trans (hG_s253 57 29 (mh_nsI (by rfl))).1.symm
                  have t279 : x200 = s262.1 57 29 := by rw [t263]; exact (t278).trans (mh_pI_n (by omega)).symm
                  intro hg
                  have := congrArg Int32.toInt t193
                  have := congrArg Int32.toInt t195
                  have := congrArg Int32.toInt t197
                  have := congrArg Int32.toInt t199
                  have := congrArg Int32.toInt t201
                  have := congrArg Int32.toInt t256
                  have := congrArg Int32.toInt t259
                  have := congrArg Int32.toInt t272
                  have := congrArg Int32.toInt t274
                  have := congrArg Int32.toInt t276
                  have := congrArg Int32.toInt t277
                  have := congrArg Int32.toInt t279
                  have := (r_x192).1; have := (r_x192).2
                  have := (r_x194).1; have := (r_x194).2
                  have := (r_x196).1; have := (r_x196).2
                  have := (r_x198).1; have := (r_x198).2
                  have := (r_x200).1; have := (r_x200).2
                  have := (r_x255).1; have := (r_x255).2
                  have := (r_x260).1; have := (r_x260).2
                  have := (rc_1).1; have := (rc_1).2
                  have := kc_0
                  have := kc_1
                  have := kc_91
                  have hg0 : x196.toInt = 0 := by omega
                  have hB := iv.2.1 (by rw [← t197]; omega)
                  rw [← t199, ← t201] at hB
                  have h74 : s262.1 74 = mh_u1 (s163.1 74) x198.toInt.toNat (1 : Int32) := by rw [show s262.1 74 = s253.1 74 from (by rw [t263]; exact mh_row_n (by decide) : s262.1 74 = s253.1 74), (hm_s253.1 hg0).1, show s163.1 74 = s163.1 74 from rfl]
                  have h76 : s262.1 76 = s163.1 76 := ((by rw [t263]; exact mh_row_n (by decide) : s262.1 76 = s253.1 76)).trans (mh_F_row hG_s253 76 rfl)
                  have hcod : (s262.1 57 27).toInt = x198.toInt + 1 := by rw [← t277]; exact (hm_s253.1 hg0).2
                  have hst : (s262.1 57 29).toInt.toNat = x200.toInt.toNat := by rw [← t279]
                  rw [h74, h76, hcod, hst]
                  exact mh_pdr_opd hB ⟨by omega, by omega⟩ (by omega)
                · skip
                  have t280 : x260 = s262.1 57 23 := by rw [t263]; exact mh_pI_s.symm
                  have t281 : x194 = s253.1 57 24 := (t195).trans (hG_s253 57 24 (mh_nsI (by rfl))).1.symm
                  have t282 : x194 = s262.1 57 24 := by rw [t263]; exact (t281).trans (mh_pI_n (by omega)).symm
                  have t283 : x196 = s253.1 57 25 := (t197).trans (hG_s253 57 25 (mh_nsI (by rfl))).1.symm
                  have t284 : x196 = s262.1 57 25 := by rw [t263]; exact (t283).trans (mh_pI_n (by omega)).symm
                  have t285 : x255 = s262.1 57 27 := by rw [t263]; exact (t256).trans (mh_pI_n (by omega)).symm
                  have t286 : x200 = s253.1 57 29 := (t201).trans (hG_s253 57 29 (mh_nsI (by rfl))).1.symm
                  have t287 : x200 = s262.1 57 29 := by rw [t263]; exact (t286).trans (mh_pI_n (by omega)).symm
                  have := congrArg Int32.toInt t193
                  have := congrArg Int32.toInt t195
                  have := congrArg Int32.toInt t197
                  have := congrArg Int32.toInt t199
                  have := congrArg Int32.toInt t201
                  have := congrArg Int32.toInt t256
                  have := congrArg Int32.toInt t259
                  have := congrArg Int32.toInt t280
                  have := congrArg Int32.toInt t282
                  have := congrArg Int32.toInt t284
                  have := congrArg Int32.toInt t285
                  have := congrArg Int32.toInt t287
                  have := (r_x192).1; have := (r_x192).2
                  have := (r_x194).1; have := (r_x194).2
                  have := (r_x196).1; have := (r_x196).2
                  have := (r_x198).1; have := (r_x198).2
                  have := (r_x200).1; have := (r_x200).2
                  have := (r_x255).1; have := (r_x255).2
                  have := (r_x260).1; have := (r_x260).2
                  have := (rc_1).1; have := (rc_1).2
                  have := kc_0
                  have := kc_1
                  have := kc_91
                  exact mh_pk_tr (mh_pk_row (show s163.1 74 = s0.1 74 from (rfl).trans iv.2.2.1)) (mh_pk_tr (mh_pk_em hm_s253 ⟨by omega, by omega⟩) (mh_pk_row ((by rw [t263]; exact mh_row_n (by decide) : s262.1 74 = s253.1 74))))
                · skip
                  have t288 : x260 = s262.1 57 23 := by rw [t263]; exact mh_pI_s.symm
                  have t289 : x194 = s253.1 57 24 := (t195).trans (hG_s253 57 24 (mh_nsI (by rfl))).1.symm
                  have t290 : x194 = s262.1 57 24 := by rw [t263]; exact (t289).trans (mh_pI_n (by omega)).symm
                  have t291 : x196 = s253.1 57 25 := (t197).trans (hG_s253 57 25 (mh_nsI (by rfl))).1.symm
                  have t292 : x196 = s262.1 57 25 := by rw [t263]; exact (t291).trans (mh_pI_n (by omega)).symm
                  have t293 : x255 = s262.1 57 27 := by rw [t263]; exact (t256).trans (mh_pI_n (by omega)).symm
                  have t294 : x200 = s253.1 57 29 := (t201).trans (hG_s253 57 29 (mh_nsI (by rfl))).1.symm
                  have t295 : x200 = s262.1 57 29 := by rw [t263]; exact (t294).trans (mh_pI_n (by omega)).symm
                  have := congrArg Int32.toInt t193
                  have := congrArg Int32.toInt t195
                  have := congrArg Int32.toInt t197
                  have := congrArg Int32.toInt t199
                  have := congrArg Int32.toInt t201
                  have := congrArg Int32.toInt t256
                  have := congrArg Int32.toInt t259
                  have := congrArg Int32.toInt t288
                  have := congrArg Int32.toInt t290
                  have := congrArg Int32.toInt t292
                  have := congrArg Int32.toInt t293
                  have := congrArg Int32.toInt t295
                  have := (r_x192).1; have := (r_x192).2
                  have := (r_x194).1; have := (r_x194).2
                  have := (r_x196).1; have := (r_x196).2
                  have := (r_x198).1; have := (r_x198).2
                  have := (r_x200).1; have := (r_x200).2
                  have := (r_x255).1; have := (r_x255).2
                  have := (r_x260).1; have := (r_x260).2
                  have := (rc_1).1; have := (rc_1).2
                  have := kc_0
                  have := kc_1
                  have := kc_91
                  have h6 := iv.2.2.2.1
                  have h5 := iv.2.2.2.2.1
                  have h4 := iv.2.2.2.2.2.1
                  omega
                · skip
                  have t296 : x200 = s253.1 57 29 := (t201).trans (hG_s253 57 29 (mh_nsI (by rfl))).1.symm
                  have t297 : x200 = s262.1 57 29 := by rw [t263]; exact (t296).trans (mh_pI_n (by omega)).symm
                  have h76 : s262.1 76 = s163.1 76 := ((by rw [t263]; exact mh_row_n (by decide) : s262.1 76 = s253.1 76)).trans (mh_F_row hG_s253 76 rfl)
                  rw [h76]
                  have h29 : s262.1 57 29 = s163.1 57 29 := by first | rfl | rw [← t297, ← t201]
                  rw [h29]
                  exact ⟨iv.2.2.2.2.2.2.1, iv.2.2.2.2.2.2.2⟩
            · skip
              have hl_x218 := hd_x218 (mh_z1 r_x218 c221)
              have hk_x218 := e0_s219.1 (mh_z1 r_x218 c221)
              have r_x218 : mh_r x218 (1) (1) := mh_ne1 (show x218.toInt ≠ (0 : Int32).toInt from c221) r_x218 rc_0 (1) (1) (by decide)
              refine mw_aload_n 39 rfl 0 dX10_factor_38 rfl rfl ?_
              refine mw_iconst (v := 0) 40 rfl dX10_factor_39 (by decide) ?_
              refine mw_aload_n 41 rfl 0 dX10_factor_40 rfl rfl ?_
              refine mw_callVi [] [.int (0), .ref (G.2.2.2 57)] 44 rfl dX10_factor_41 ml_X10_243 mc_X10_reads mk_X10_reads rfl rfl (by decide) (w_X10_reads l G (d + 0) ⟨by omega, by omega⟩ hI_s163 b (show mh_pb b s163 by unfold mh_pb; rw [← t193, ← t195, ← t197, ← t199, ← t201]; have := kc_0; have := kc_1; have := (rc_0).1; have := (rc_0).2; have := (r_x192).1; have := (r_x192).2; have := (r_x194).1; have := (r_x194).2; have := (r_x196).1; have := (r_x196).2; have := (r_x198).1; have := (r_x198).2; have := (r_x200).1; have := (r_x200).2; have := kc_0; have := kc_1; have := kc_91; omega)) rfl rfl (Nat.le_of_ble_eq_true rfl) (mh_rok (by omega) (by decide)) (fun x298 s299 q300 => ?_)
              obtain ⟨r_x298, e0_s299, e1_s299, e2_s299, hI_s299, hG_s299⟩ := q300
              have hF_s299 : mh_F S_X10_factor s0 s299 := mh_F_tl hF_s163 hG_s299 (by decide +kernel)
              obtain ⟨x301, t302⟩ : ∃ z : Int32, z = s299.1 57 23 := ⟨_, rfl⟩
              have t303 : x194 = s299.1 57 24 := (t195).trans (hG_s299 57 24 (mh_nsI (by rfl))).1.symm
              obtain ⟨x304, t305⟩ : ∃ z : Int32, z = s299.1 57 25 := ⟨_, rfl⟩
              have t306 : x198 = s299.1 57 27 := (t199).trans (hG_s299 57 27 (mh_nsI (by rfl))).1.symm
              have t307 : x200 = s299.1 57 29 := (t201).trans (hG_s299 57 29 (mh_nsI (by rfl))).1.symm
              have pb_s299 : 0 ≤ x301.toInt ∧ x301.toInt ≤ x194.toInt ∧ x194.toInt ≤ 200 ∧ 0 ≤ x200.toInt ∧ 0 ≤ b ∧ b ≤ x198.toInt ∧ x200.toInt + x198.toInt ≤ x301.toInt ∧ x304.toInt ≤ 0 := by have h9 := e0_s299; unfold mh_pb at h9; rw [← t302, ← t303, ← t305, ← t306, ← t307] at h9; exact h9
              have r_x301 : mh_r x301 (0) (200) := ⟨by have := ((mh_r_full x301)).1; omega, by have := ((mh_r_full x301)).2; omega⟩
              have r_x304 : mh_r x304 (-2147483648) (0) := ⟨by have := ((mh_r_full x304)).1; omega, by have := ((mh_r_full x304)).2; omega⟩
              have hr1_s299 := e1_s299
              have hr2_s299 := e2_s299
              rw [← t193, ← t197, ← t302, ← t305] at hr1_s299
              rw [← t193, ← t197, ← t302, ← t305] at hr2_s299
              have hr_s299 := hr2_s299 (by have := (r_x196).1; have := (r_x196).2; omega) (by assumption)
              refine mw_callVv [.int (0), .int x298] [] 47 rfl dX10_factor_44 ml_X10_237 mc_X10_emit mk_X10_emit rfl rfl (by decide) (w_X10_emit l G (d + 1) ⟨by omega, by omega⟩ hI_s299 (0) x298 (by rw [← t305, ← t306]; have := (r_x192).1; have := (r_x192).2; have := (r_x194).1; have := (r_x194).2; have := (r_x196).1; have := (r_x196).2; have := (r_x198).1; have := (r_x198).2; have := (r_x200).1; have := (r_x200).2; have := (r_x301).1; have := (r_x301).2; have := (r_x304).1; have := (r_x304).2; have := kc_0; have := kc_1; have := kc_91; omega)) rfl rfl (Nat.le_of_ble_eq_true rfl) (mh_rok (by omega) (by decide)) (fun s309 q310 => ?_)
              obtain ⟨e0_s309, hI_s309, hG_s309⟩ := q310
              have hF_s309 : mh_F S_X10_factor s0 s309 := mh_F_tl hF_s299 hG_s309 (by decide +kernel)
              obtain ⟨x311, t312⟩ : ∃ z : Int32, z = s309.1 57 27 := ⟨_, rfl⟩
              have hm_s309 : (x304.toInt = 0 → s309.1 74 = mh_u1 (s299.1 74) x198.toInt.toNat (0 : Int32) ∧ x311.toInt = x198.toInt + 1) ∧ (x304.toInt ≠ 0 → s309.1 74 = s299.1 74 ∧ x311.toInt = x198.toInt) := by
                have h9 := e0_s309
                rw [← t305, ← t306] at h9
                rw [← t312] at h9
                exact ⟨h9.1, fun q => ⟨(h9.2 q).1, congrArg Int32.toInt (h9.2 q).2⟩⟩
              have hn_s309 : (x304.toInt = 0 ∧ x311.toInt = x198.toInt + 1) ∨ (x304.toInt ≠ 0 ∧ x311.toInt = x198.toInt) := by by_cases q : x304.toInt = 0; exact Or.inl ⟨q, (hm_s309.1 q).2⟩; exact Or.inr ⟨q, (hm_s309.2 q).2⟩
              have r_x311 : mh_r x311 (0) (201) := ⟨by have := (r_x198).1; omega, by have := (r_x198).2; omega⟩
              refine mw_goto 50 rfl 91 dX10_factor_47 (by decide) ?_
              refine mw_vret dX10_factor_91 rfl ⟨rfl, ⟨?_, ?_, ?_, ?_, ?_, hI_s309, hF_s309⟩⟩
              · skip
                have t313 : x301 = s309.1 57 23 := (t302).trans (hG_s309 57 23 (mh_nsI (by rfl))).1.symm
                have t314 : x194 = s309.1 57 24 := (t303).trans (hG_s309 57 24 (mh_nsI (by rfl))).1.symm
                have t315 : x304 = s309.1 57 25 := (t305).trans (hG_s309 57 25 (mh_nsI (by rfl))).1.symm
                have t316 : x200 = s309.1 57 29 := (t307).trans (hG_s309 57 29 (mh_nsI (by rfl))).1.symm
                exact (show mh_pb b s309 by unfold mh_pb; rw [← t313, ← t314, ← t315, ← t312, ← t316]; have := kc_0; have := kc_1; have := (r_x192).1; have := (r_x192).2; have := (r_x194).1; have := (r_x194).2; have := (r_x196).1; have := (r_x196).2; have := (r_x198).1; have := (r_x198).2; have := (r_x200).1; have := (r_x200).2; have := (r_x301).1; have := (r_x301).2; have := (r_x304).1; have := (r_x304).2; have := (r_x311).1; have := (r_x311).2; have := kc_0; have := kc_1; have := kc_91; omega)
              · skip
                have t317 : x301 = s309.1 57 23 := (t302).trans (hG_s309 57 23 (mh_nsI (by rfl))).1.symm
                have t318 : x194 = s309.1 57 24 := (t303).trans (hG_s309 57 24 (mh_nsI (by rfl))).1.symm
                have t319 : x304 = s309.1 57 25 := (t305).trans (hG_s309 57 25 (mh_nsI (by rfl))).1.symm
                have t320 : x200 = s309.1 57 29 := (t307).trans (hG_s309 57 29 (mh_nsI (by rfl))).1.symm
                intro hg
                have := congrArg Int32.toInt t193
                have := congrArg Int32.toInt t195
                have := congrArg Int32.toInt t197
                have := congrArg Int32.toInt t199
                have := congrArg Int32.toInt t201
                have := congrArg Int32.toInt t302
                have := congrArg Int32.toInt t303
                have := congrArg Int32.toInt t305
                have := congrArg Int32.toInt t306
                have := congrArg Int32.toInt t307
                have := congrArg Int32.toInt t312
                have := congrArg Int32.toInt t317
                have := congrArg Int32.toInt t318
                have := congrArg Int32.toInt t319
                have := congrArg Int32.toInt t320
                have := (r_x192).1; have := (r_x192).2
                have := (r_x194).1; have := (r_x194).2
                have := (r_x196).1; have := (r_x196).2
                have := (r_x198).1; have := (r_x198).2
                have := (r_x200).1; have := (r_x200).2
                have := (r_x301).1; have := (r_x301).2
                have := (r_x304).1; have := (r_x304).2
                have := (r_x311).1; have := (r_x311).2
                have := kc_0
                have := kc_1
                have := kc_91
                have hg0 : x304.toInt = 0 := by omega
                have hB := iv.2.1 (by rw [← t197]; omega)
                rw [← t199, ← t201] at hB
                have h74 : s309.1 74 = mh_u1 (s163.1 74) x198.toInt.toNat (0 : Int32) := by rw [show s309.1 74 = s309.1 74 from rfl, (hm_s309.1 hg0).1, show s299.1 74 = s163.1 74 from (mh_F_row hG_s299 74 rfl)]
                have h76 : s309.1 76 = s163.1 76 := ((mh_F_row hG_s309 76 rfl)).trans (mh_F_row hG_s299 76 rfl)
                have hcod : (s309.1 57 27).toInt = x198.toInt + 1 := by rw [← t312]; exact (hm_s309.1 hg0).2
                have hst : (s309.1 57 29).toInt.toNat = x200.toInt.toNat := by rw [← t320]
                rw [h74, h76, hcod, hst]
                exact mh_pdr_opd hB ⟨by omega, by omega⟩ (by omega)
              · skip
                have t321 : x301 = s309.1 57 23 := (t302).trans (hG_s309 57 23 (mh_nsI (by rfl))).1.symm
                have t322 : x194 = s309.1 57 24 := (t303).trans (hG_s309 57 24 (mh_nsI (by rfl))).1.symm
                have t323 : x304 = s309.1 57 25 := (t305).trans (hG_s309 57 25 (mh_nsI (by rfl))).1.symm
                have t324 : x200 = s309.1 57 29 := (t307).trans (hG_s309 57 29 (mh_nsI (by rfl))).1.symm
                have := congrArg Int32.toInt t193
                have := congrArg Int32.toInt t195
                have := congrArg Int32.toInt t197
                have := congrArg Int32.toInt t199
                have := congrArg Int32.toInt t201
                have := congrArg Int32.toInt t302
                have := congrArg Int32.toInt t303
                have := congrArg Int32.toInt t305
                have := congrArg Int32.toInt t306
                have := congrArg Int32.toInt t307
                have := congrArg Int32.toInt t312
                have := congrArg Int32.toInt t321
                have := congrArg Int32.toInt t322
                have := congrArg Int32.toInt t323
                have := congrArg Int32.toInt t324
                have := (r_x192).1; have := (r_x192).2
                have := (r_x194).1; have := (r_x194).2
                have := (r_x196).1; have := (r_x196).2
                have := (r_x198).1; have := (r_x198).2
                have := (r_x200).1; have := (r_x200).2
                have := (r_x301).1; have := (r_x301).2
                have := (r_x304).1; have := (r_x304).2
                have := (r_x311).1; have := (r_x311).2
                have := kc_0
                have := kc_1
                have := kc_91
                exact mh_pk_tr (mh_pk_row (show s299.1 74 = s0.1 74 from ((mh_F_row hG_s299 74 rfl)).trans iv.2.2.1)) (mh_pk_tr (mh_pk_em hm_s309 ⟨by omega, by omega⟩) (mh_pk_row (rfl)))
              · skip
                have t325 : x301 = s309.1 57 23 := (t302).trans (hG_s309 57 23 (mh_nsI (by rfl))).1.symm
                have t326 : x194 = s309.1 57 24 := (t303).trans (hG_s309 57 24 (mh_nsI (by rfl))).1.symm
                have t327 : x304 = s309.1 57 25 := (t305).trans (hG_s309 57 25 (mh_nsI (by rfl))).1.symm
                have t328 : x200 = s309.1 57 29 := (t307).trans (hG_s309 57 29 (mh_nsI (by rfl))).1.symm
                have := congrArg Int32.toInt t193
                have := congrArg Int32.toInt t195
                have := congrArg Int32.toInt t197
                have := congrArg Int32.toInt t199
                have := congrArg Int32.toInt t201
                have := congrArg Int32.toInt t302
                have := congrArg Int32.toInt t303
                have := congrArg Int32.toInt t305
                have := congrArg Int32.toInt t306
                have := congrArg Int32.toInt t307
                have := congrArg Int32.toInt t312
                have := congrArg Int32.toInt t325
                have := congrArg Int32.toInt t326
                have := congrArg Int32.toInt t327
                have := congrArg Int32.toInt t328
                have := (r_x192).1; have := (r_x192).2
                have := (r_x194).1; have := (r_x194).2
                have := (r_x196).1; have := (r_x196).2
                have := (r_x198).1; have := (r_x198).2
                have := (r_x200).1; have := (r_x200).2
                have := (r_x301).1; have := (r_x301).2
                have := (r_x304).1; have := (r_x304).2
                have := (r_x311).1; have := (r_x311).2
                have := kc_0
                have := kc_1
                have := kc_91
                have h6 := iv.2.2.2.1
                have h5 := iv.2.2.2.2.1
                have h4 := iv.2.2.2.2.2.1
                omega
              · skip
                have t329 : x200 = s309.1 57 29 := (t307).trans (hG_s309 57 29 (mh_nsI (by rfl))).1.symm
                have h76 : s309.1 76 = s163.1 76 := ((mh_F_row hG_s309 76 rfl)).trans (mh_F_row hG_s299 76 rfl)
                rw [h76]
                have h29 : s309.1 57 29 = s163.1 57 29 := by first | rfl | rw [← t329, ← t201]
                rw [h29]
                exact ⟨iv.2.2.2.2.2.2.1, iv.2.2.2.2.2.2.2⟩
          · skip
            exact absurd (e0_s215.2 (by have := (r_x196).1; have := (r_x196).2; omega)) (by have := c217; omega)
        · skip
          have r_x210 : mh_r x210 (91) (91) := mh_eq1 c213 r_x210 rc_91 (91) (91) (by decide)
          refine mw_aload_n 17 rfl 0 dX10_factor_16 rfl rfl ?_
          refine mw_callVv [] [] 20 rfl dX10_factor_17 ml_X10_240 mc_X10_opens mk_X10_opens rfl rfl (by decide) (w_X10_opens l G (d + 1) ⟨by omega, by omega⟩ hI_s163 b (show mh_pb b s163 by unfold mh_pb; rw [← t193, ← t195, ← t197, ← t199, ← t201]; have := kc_0; have := kc_1; have := (r_x192).1; have := (r_x192).2; have := (r_x194).1; have := (r_x194).2; have := (r_x196).1; have := (r_x196).2; have := (r_x198).1; have := (r_x198).2; have := (r_x200).1; have := (r_x200).2; have := kc_0; have := kc_1; have := kc_91; omega) (by have := congrArg Int32.toInt t193; have := congrArg Int32.toInt t195; have := congrArg Int32.toInt t197; have := congrArg Int32.toInt t199; have := congrArg Int32.toInt t201; have := (r_x192).1; have := (r_x192).2; have := (r_x194).1; have := (r_x194).2; have := (r_x196).1; have := (r_x196).2; have := (r_x198).1; have := (r_x198).2; have := (r_x200).1; have := (r_x200).2; have := kc_0; have := kc_1; have := kc_91; omega)) rfl rfl (Nat.le_of_ble_eq_true rfl) (mh_rok (by omega) (by decide)) (fun s331 q332 => ?_)
          obtain ⟨e0_s331, e1_s331, e2_s331, hI_s331, hG_s331⟩ := q332
          have hF_s331 : mh_F S_X10_factor s0 s331 := mh_F_tl hF_s163 hG_s331 (by decide +kernel)
          obtain ⟨x333, t334⟩ : ∃ z : Int32, z = s331.1 57 23 := ⟨_, rfl⟩
          have t335 : x194 = s331.1 57 24 := (t195).trans (hG_s331 57 24 (mh_nsI (by rfl))).1.symm
          obtain ⟨x336, t337⟩ : ∃ z : Int32, z = s331.1 57 25 := ⟨_, rfl⟩
          have t338 : x198 = s331.1 57 27 := (t199).trans (hG_s331 57 27 (mh_nsI (by rfl))).1.symm
          obtain ⟨x339, t340⟩ : ∃ z : Int32, z = s331.1 57 29 := ⟨_, rfl⟩
          have pb_s331 : 0 ≤ x333.toInt ∧ x333.toInt ≤ x194.toInt ∧ x194.toInt ≤ 200 ∧ 0 ≤ x339.toInt ∧ 0 ≤ b ∧ b ≤ x198.toInt ∧ x339.toInt + x198.toInt ≤ x333.toInt ∧ x336.toInt ≤ 0 := by have h9 := e0_s331; unfold mh_pb at h9; rw [← t334, ← t335, ← t337, ← t338, ← t340] at h9; exact h9
          have r_x333 : mh_r x333 (0) (200) := ⟨by have := ((mh_r_full x333)).1; omega, by have := ((mh_r_full x333)).2; omega⟩
          have r_x336 : mh_r x336 (-2147483648) (0) := ⟨by have := ((mh_r_full x336)).1; omega, by have := ((mh_r_full x336)).2; omega⟩
          have r_x339 : mh_r x339 (0) (200) := ⟨by have := ((mh_r_full x339)).1; omega, by have := ((mh_r_full x339)).2; omega⟩
          have hop_s331 := e2_s331
          rw [← t340, ← t334, ← t337, ← t201, ← t193, ← t197] at hop_s331
          refine mw_goto 23 rfl 0 dX10_factor_20 (by decide) ?_
          exact mw_lv [0] rfl (ihn1 s331 hI_s331 hF_s331 (by
              have h76 := e1_s331
              rw [← t201, ← e0_s211] at h76
              have h74 : s331.1 74 = s163.1 74 := (mh_F_row hG_s331 74 rfl)
              refine ⟨e0_s331, ?_, h74.trans iv.2.2.1, ?_, ?_, ?_, ?_, ?_⟩
              · skip
                intro hg
                have := congrArg Int32.toInt t193
                have := congrArg Int32.toInt t195
                have := congrArg Int32.toInt t197
                have := congrArg Int32.toInt t199
                have := congrArg Int32.toInt t201
                have := congrArg Int32.toInt t334
                have := congrArg Int32.toInt t335
                have := congrArg Int32.toInt t337
                have := congrArg Int32.toInt t338
                have := congrArg Int32.toInt t340
                have := (r_x192).1; have := (r_x192).2
                have := (r_x194).1; have := (r_x194).2
                have := (r_x196).1; have := (r_x196).2
                have := (r_x198).1; have := (r_x198).2
                have := (r_x200).1; have := (r_x200).2
                have := (r_x333).1; have := (r_x333).2
                have := (r_x336).1; have := (r_x336).2
                have := (r_x339).1; have := (r_x339).2
                have := kc_0
                have := kc_1
                have := kc_91
                have hB := iv.2.1 (by rw [← t197]; omega)
                have h76 := e1_s331
                rw [← t201] at h76
                have h74 : s331.1 74 = s163.1 74 := (mh_F_row hG_s331 74 rfl)
                have hcod : (s331.1 57 27).toInt = x198.toInt := by rw [← t338]
                have hst : (s331.1 57 29).toInt.toNat = x200.toInt.toNat + 1 := by rw [← t340]; omega
                rw [← t199, ← t201] at hB
                rw [h74, h76, hcod, hst]
                exact mh_pdr_pn hB (by rw [← e0_s211]; show (_ ∨ _ ∨ _); omega)
              · skip
                have := congrArg Int32.toInt t193
                have := congrArg Int32.toInt t195
                have := congrArg Int32.toInt t197
                have := congrArg Int32.toInt t199
                have := congrArg Int32.toInt t201
                have := congrArg Int32.toInt t334
                have := congrArg Int32.toInt t335
                have := congrArg Int32.toInt t337
                have := congrArg Int32.toInt t338
                have := congrArg Int32.toInt t340
                have := (r_x192).1; have := (r_x192).2
                have := (r_x194).1; have := (r_x194).2
                have := (r_x196).1; have := (r_x196).2
                have := (r_x198).1; have := (r_x198).2
                have := (r_x200).1; have := (r_x200).2
                have := (r_x333).1; have := (r_x333).2
                have := (r_x336).1; have := (r_x336).2
                have := (r_x339).1; have := (r_x339).2
                have := kc_0
                have := kc_1
                have := kc_91
                have := iv.2.2.2.1
                omega
              · skip
                have := congrArg Int32.toInt t193
                have := congrArg Int32.toInt t195
                have := congrArg Int32.toInt t197
                have := congrArg Int32.toInt t199
                have := congrArg Int32.toInt t201
                have := congrArg Int32.toInt t334
                have := congrArg Int32.toInt t335
                have := congrArg Int32.toInt t337
                have := congrArg Int32.toInt t338
                have := congrArg Int32.toInt t340
                have := (r_x192).1; have := (r_x192).2
                have := (r_x194).1; have := (r_x194).2
                have := (r_x196).1; have := (r_x196).2
                have := (r_x198).1; have := (r_x198).2
                have := (r_x200).1; have := (r_x200).2
                have := (r_x333).1; have := (r_x333).2
                have := (r_x336).1; have := (r_x336).2
                have := (r_x339).1; have := (r_x339).2
                have := kc_0
                have := kc_1
                have := kc_91
                have := iv.2.2.2.2.1
                omega
              · skip
                intro q
                have := congrArg Int32.toInt t193
                have := congrArg Int32.toInt t195
                have := congrArg Int32.toInt t197
                have := congrArg Int32.toInt t199
                have := congrArg Int32.toInt t201
                have := congrArg Int32.toInt t334
                have := congrArg Int32.toInt t335
                have := congrArg Int32.toInt t337
                have := congrArg Int32.toInt t338
                have := congrArg Int32.toInt t340
                have := (r_x192).1; have := (r_x192).2
                have := (r_x194).1; have := (r_x194).2
                have := (r_x196).1; have := (r_x196).2
                have := (r_x198).1; have := (r_x198).2
                have := (r_x200).1; have := (r_x200).2
                have := (r_x333).1; have := (r_x333).2
                have := (r_x336).1; have := (r_x336).2
                have := (r_x339).1; have := (r_x339).2
                have := kc_0
                have := kc_1
                have := kc_91
                exact iv.2.2.2.2.2.1 (by omega)
              · skip
                intro j hj
                have := congrArg Int32.toInt t193
                have := congrArg Int32.toInt t195
                have := congrArg Int32.toInt t197
                have := congrArg Int32.toInt t199
                have := congrArg Int32.toInt t201
                have := congrArg Int32.toInt t334
                have := congrArg Int32.toInt t335
                have := congrArg Int32.toInt t337
                have := congrArg Int32.toInt t338
                have := congrArg Int32.toInt t340
                have := (r_x192).1; have := (r_x192).2
                have := (r_x194).1; have := (r_x194).2
                have := (r_x196).1; have := (r_x196).2
                have := (r_x198).1; have := (r_x198).2
                have := (r_x200).1; have := (r_x200).2
                have := (r_x333).1; have := (r_x333).2
                have := (r_x336).1; have := (r_x336).2
                have := (r_x339).1; have := (r_x339).2
                have := kc_0
                have := kc_1
                have := kc_91
                have := iv.2.2.2.1
                rw [h76]
                have h5 : mh_u1 (s163.1 76) x200.toInt.toNat x210 j = s163.1 76 j := if_neg (by omega)
                rw [h5]
                exact iv.2.2.2.2.2.2.1 j hj
              · skip
                intro j h1 h2
                have := congrArg Int32.toInt t193
                have := congrArg Int32.toInt t195
                have := congrArg Int32.toInt t197
                have := congrArg Int32.toInt t199
                have := congrArg Int32.toInt t201
                have := congrArg Int32.toInt t334
                have := congrArg Int32.toInt t335
                have := congrArg Int32.toInt t337
                have := congrArg Int32.toInt t338
                have := congrArg Int32.toInt t340
                have := (r_x192).1; have := (r_x192).2
                have := (r_x194).1; have := (r_x194).2
                have := (r_x196).1; have := (r_x196).2
                have := (r_x198).1; have := (r_x198).2
                have := (r_x200).1; have := (r_x200).2
                have := (r_x333).1; have := (r_x333).2
                have := (r_x336).1; have := (r_x336).2
                have := (r_x339).1; have := (r_x339).2
                have := kc_0
                have := kc_1
                have := kc_91
                rw [h76]
                by_cases q : j = x200.toInt.toNat
                · have h5 : mh_u1 (s163.1 76) x200.toInt.toNat x210 j = x210 := if_pos q
                  rw [h5]; omega
                · have h5 : mh_u1 (s163.1 76) x200.toInt.toNat x210 j = s163.1 76 j := if_neg q
                  rw [h5]
                  exact iv.2.2.2.2.2.2.2 j h1 (by rw [← t201]; omega)) (by have := congrArg Int32.toInt t193; have := congrArg Int32.toInt t195; have := congrArg Int32.toInt t197; have := congrArg Int32.toInt t199; have := congrArg Int32.toInt t201; have := congrArg Int32.toInt t334; have := congrArg Int32.toInt t335; have := congrArg Int32.toInt t337; have := congrArg Int32.toInt t338; have := congrArg Int32.toInt t340; have := (r_x192).1; have := (r_x192).2; have := (r_x194).1; have := (r_x194).2; have := (r_x196).1; have := (r_x196).2; have := (r_x198).1; have := (r_x198).2; have := (r_x200).1; have := (r_x200).2; have := (r_x333).1; have := (r_x333).2; have := (r_x336).1; have := (r_x336).2; have := (r_x339).1; have := (r_x339).2; have := kc_0; have := kc_1; have := kc_91; omega))
  exact mw_lv [0] rfl (L0 202 s0 hI0 hF0 (by
      exact ⟨hb, hd, rfl, Int.le_refl _, Int.le_refl _, fun h => h, fun _ _ => rfl, fun j h1 h2 => absurd h1 (by omega)⟩) (by have h9 := hb; unfold mh_pb at h9; omega))

def S_X10_stays : List (Nat × Nat) := [(74, 9999), (75, 9999), (57, 27), (57, 29), (76, 9999), (57, 23), (57, 28), (57, 31), (57, 25)]
def P_X10_stays (B D : Int) (s0 : mh_H) (b : Int) (h : Nat) : Int32 → mh_H → Prop := fun z s => mh_r z (0) (1) ∧ (mh_pb b s) ∧ (mh_pk b s0 s) ∧ ((z.toInt = 1 → (s.1 57 31).toInt = 0 → mh_pd b 0 s) ∧ (z.toInt = 1 → (s.1 57 31).toInt = 1 → mh_pd b 1 s) ∧ (z.toInt = 0 → mh_pd b 1 s)) ∧ (h ≤ (s.1 57 29).toInt.toNat ∧ mh_ab (s.1 76) h (s.1 57 29).toInt.toNat ∧ (∀ j : Nat, j < h → s.1 76 j = s0.1 76 j)) ∧ (z.toInt = 0 → (s.1 57 25).toInt = 0 → ¬ ((mh_tp s).toInt = 42 ∨ (mh_tp s).toInt = 47 ∨ (mh_tp s).toInt = 37 ∨ (mh_tp s).toInt = 43 ∨ (mh_tp s).toInt = 45)) ∧ ((s0.1 57 23).toInt ≤ (s.1 57 23).toInt ∧ (z.toInt = 1 → (s0.1 57 23).toInt + 1 ≤ (s.1 57 23).toInt ∧ (s.1 57 25).toInt = 0)) ∧ mh_I B D s ∧ mh_F S_X10_stays s0 s
set_option maxRecDepth 100000 in
set_option maxHeartbeats 4000000 in
theorem w_X10_stays (l : Launch) (G : mh_G) (d : Nat) {B D : Int} (hB : B ≤ 1940000000 ∧ D ≤ 1940000000) {s0 : mh_H} (hI0 : mh_I B D s0) (b : Int) (h : Nat) (hb : mh_pb b s0) (hd : mh_pd b 1 s0) (hg : (s0.1 57 25).toInt = 0) (hi : (s0.1 57 31).toInt = 0) (hfl : mh_fl (s0.1 76) h) (hab : mh_ab (s0.1 76) h (s0.1 57 29).toInt.toNat) (hh : h ≤ (s0.1 57 29).toInt.toNat) : mh_Mi l G (d + 3) mM_X10_stays [.ref (G.2.2.2 57)] s0 (P_X10_stays B D s0 b h) := by
  refine mh_enter (lv := [(0, .ref (G.2.2.2 57))]) (by decide) rfl (Nat.le_of_ble_eq_true rfl) ?_
  have hF0 : mh_F S_X10_stays s0 s0 := mh_F_rf
  obtain ⟨x97, t98⟩ : ∃ z : Int32, z = s0.1 57 31 := ⟨_, rfl⟩
  obtain ⟨x99, t100⟩ : ∃ z : Int32, z = s0.1 57 23 := ⟨_, rfl⟩
  obtain ⟨x101, t102⟩ : ∃ z : Int32, z = s0.1 57 24 := ⟨_, rfl⟩
  obtain ⟨x103, t104⟩ : ∃ z : Int32, z = s0.1 57 25 := ⟨_, rfl⟩
  obtain ⟨x105, t106⟩ : ∃ z : Int32, z = s0.1 57 27 := ⟨_, rfl⟩
  obtain ⟨x107, t108⟩ : ∃ z : Int32, z = s0.1 57 29 := ⟨_, rfl⟩
  have pb_s0 : 0 ≤ x99.toInt ∧ x99.toInt ≤ x101.toInt ∧ x101.toInt ≤ 200 ∧ 0 ≤ x107.toInt ∧ 0 ≤ b ∧ b ≤ x105.toInt ∧ x107.toInt + x105.toInt ≤ x99.toInt ∧ x103.toInt ≤ 0 := by have h9 := hb; unfold mh_pb at h9; rw [← t100, ← t102, ← t104, ← t106, ← t108] at h9; exact h9
  have r_x99 : mh_r x99 (0) (200) := ⟨by have := ((mh_r_full x99)).1; omega, by have := ((mh_r_full x99)).2; omega⟩
  have r_x101 : mh_r x101 (0) (200) := ⟨by have := ((mh_r_full x101)).1; omega, by have := ((mh_r_full x101)).2; omega⟩
  have r_x103 : mh_r x103 (-2147483648) (0) := ⟨by have := ((mh_r_full x103)).1; omega, by have := ((mh_r_full x103)).2; omega⟩
  have r_x105 : mh_r x105 (0) (200) := ⟨by have := ((mh_r_full x105)).1; omega, by have := ((mh_r_full x105)).2; omega⟩
  have r_x107 : mh_r x107 (0) (200) := ⟨by have := ((mh_r_full x107)).1; omega, by have := ((mh_r_full x107)).2; omega⟩
  rw [← t98] at hi
  rw [← t104] at hg
  have r_x103 : mh_r x103 (0) (0) := ⟨by omega, by omega⟩
  have r_x97 : mh_r x97 (0) (0) := ⟨by omega, by omega⟩
  refine mw_aload_n 1 rfl 0 dX10_stays_0 rfl rfl ?_
  refine mw_callVi [] [] 4 rfl dX10_stays_1 ml_X10_214 mc_X10_here mk_X10_here rfl rfl (by decide) (w_X10_here l G (d + 2) ⟨by omega, by omega⟩ hI0 (by rw [← t100, ← t102]; have := (r_x97).1; have := (r_x97).2; have := (r_x99).1; have := (r_x99).2; have := (r_x101).1; have := (r_x101).2; have := (r_x103).1; have := (r_x103).2; have := (r_x105).1; have := (r_x105).2; have := (r_x107).1; have := (r_x107).2; have := kc_0; have := kc_1; have := kc_91; have := kc_93; omega)) rfl rfl (Nat.le_of_ble_eq_true rfl) (mh_rok (by omega) (by decide)) (fun x109 s110 q111 => ?_)
  obtain ⟨r_x109, e0_s110, rfl⟩ := q111
  have hq_x109 : x109.toInt ≠ 0 → x99.toInt < x101.toInt := fun q => by rw [t100, t102]; exact mh_hr_lt (by rw [← e0_s110]; exact q)
  refine mw_istore_n 5 rfl [(1, .int x109), (0, .ref (G.2.2.2 57))] dX10_stays_4 rfl (by decide) rfl ?_
  refine mw_iload_n 6 rfl 0 dX10_stays_5 rfl rfl ?_
  refine mw_callSi [.int x109] [] 9 rfl dX10_stays_6 ml_X10_231 mc_X10_isTimes mk_X10_isTimes (w_X10_isTimes l G (d + 2) ⟨by omega, by omega⟩ hI0 x109) rfl rfl (Nat.le_of_ble_eq_true rfl) (mh_rok (by omega) (by decide)) (fun x112 s113 q114 => ?_)
  obtain ⟨r_x112, e0_s113, rfl⟩ := q114
  refine mw_if_ne 12 rfl 19 dX10_stays_9 (by decide) (fun c115 => ?_) (fun c115 => ?_)
  · skip
    have hk_x112 := e0_s113.1 (mh_z1 r_x112 c115)
    have r_x112 : mh_r x112 (1) (1) := mh_ne1 (show x112.toInt ≠ (0 : Int32).toInt from c115) r_x112 rc_0 (1) (1) (by decide)
    refine mw_aload_n 20 rfl 1 dX10_stays_19 rfl rfl ?_
    refine mw_iload_n 21 rfl 0 dX10_stays_20 rfl rfl ?_
    refine mw_callSi [.int x109] [.ref (G.2.2.2 57)] 24 rfl dX10_stays_21 ml_X10_234 mc_X10_isPlus mk_X10_isPlus (w_X10_isPlus l G (d + 2) ⟨by omega, by omega⟩ hI0 x109) rfl rfl (Nat.le_of_ble_eq_true rfl) (mh_rok (by omega) (by decide)) (fun x116 s117 q118 => ?_)
    obtain ⟨r_x116, e0_s117, rfl⟩ := q118
    refine mw_callVv [.int x116] [] 27 rfl dX10_stays_24 ml_X10_249 mc_X10_folds mk_X10_folds rfl rfl (by decide) (w_X10_folds l G (d + 0) ⟨by omega, by omega⟩ hI0 x116 r_x116 b (show mh_pb b s0 by unfold mh_pb; rw [← t100, ← t102, ← t104, ← t106, ← t108]; have := kc_0; have := kc_1; have := (r_x109).1; have := (r_x109).2; have := (r_x97).1; have := (r_x97).2; have := (r_x99).1; have := (r_x99).2; have := (r_x101).1; have := (r_x101).2; have := (r_x103).1; have := (r_x103).2; have := (r_x105).1; have := (r_x105).2; have := (r_x107).1; have := (r_x107).2; have := kc_0; have := kc_1; have := kc_91; have := kc_93; omega) hd) rfl rfl (Nat.le_of_ble_eq_true rfl) (mh_rok (by omega) (by decide)) (fun s120 q121 => ?_)
    obtain ⟨e0_s120, e1_s120, e2_s120, e3_s120, e4_s120, e5_s120, hI_s120, hG_s120⟩ := q121
    have hF_s120 : mh_F S_X10_stays s0 s120 := mh_F_tl hF0 hG_s120 (by decide +kernel)
    have t122 : x99 = s120.1 57 23 := (t100).trans (hG_s120 57 23 (mh_nsI (by rfl))).1.symm
    have t123 : x101 = s120.1 57 24 := (t102).trans (hG_s120 57 24 (mh_nsI (by rfl))).1.symm
    have t124 : x103 = s120.1 57 25 := (t104).trans (hG_s120 57 25 (mh_nsI (by rfl))).1.symm
    obtain ⟨x125, t126⟩ : ∃ z : Int32, z = s120.1 57 27 := ⟨_, rfl⟩
    obtain ⟨x127, t128⟩ : ∃ z : Int32, z = s120.1 57 29 := ⟨_, rfl⟩
    have pb_s120 : 0 ≤ x99.toInt ∧ x99.toInt ≤ x101.toInt ∧ x101.toInt ≤ 200 ∧ 0 ≤ x127.toInt ∧ 0 ≤ b ∧ b ≤ x125.toInt ∧ x127.toInt + x125.toInt ≤ x99.toInt ∧ x103.toInt ≤ 0 := by have h9 := e0_s120; unfold mh_pb at h9; rw [← t122, ← t123, ← t124, ← t126, ← t128] at h9; exact h9
    have r_x125 : mh_r x125 (0) (200) := ⟨by have := ((mh_r_full x125)).1; omega, by have := ((mh_r_full x125)).2; omega⟩
    have r_x127 : mh_r x127 (0) (200) := ⟨by have := ((mh_r_full x127)).1; omega, by have := ((mh_r_full x127)).2; omega⟩
    have hp_s120 := e3_s120
    rw [← t128, ← t108] at hp_s120
    have hge := mh_fl_ge hfl hh (fun j h1 h2 => by have := e4_s120 j h1 h2; unfold mh_vs; omega)
    rw [← t128] at hge
    have h76s : s120.1 76 = s0.1 76 := mh_F_row hG_s120 76 rfl
    refine mw_aload_n 28 rfl 1 dX10_stays_27 rfl rfl ?_
    refine mw_iload_n 29 rfl 0 dX10_stays_28 rfl rfl ?_
    refine mw_callVv [.int x109] [] 32 rfl dX10_stays_29 ml_X10_218 mc_X10_puts mk_X10_puts rfl rfl (by decide) (w_X10_puts l G (d + 2) ⟨by omega, by omega⟩ hI_s120 x109 (by rw [← t128, ← t122]; have := (r_x109).1; have := (r_x109).2; have := (r_x97).1; have := (r_x97).2; have := (r_x99).1; have := (r_x99).2; have := (r_x101).1; have := (r_x101).2; have := (r_x103).1; have := (r_x103).2; have := (r_x105).1; have := (r_x105).2; have := (r_x107).1; have := (r_x107).2; have := (r_x125).1; have := (r_x125).2; have := (r_x127).1; have := (r_x127).2; have := kc_0; have := kc_1; have := kc_91; have := kc_93; omega)) rfl rfl (Nat.le_of_ble_eq_true rfl) (mh_rok (by omega) (by decide)) (fun s130 q131 => ?_)
    obtain ⟨e0_s130, hI_s130, hG_s130⟩ := q131
    have hF_s130 : mh_F S_X10_stays s0 s130 := mh_F_tl hF_s120 hG_s130 (by decide +kernel)
    obtain ⟨x132, t133⟩ : ∃ z : Int32, z = s130.1 57 29 := ⟨_, rfl⟩
    obtain ⟨x134, t135⟩ : ∃ z : Int32, z = s130.1 57 23 := ⟨_, rfl⟩
    rw [← t128, ← t133, ← t122, ← t135] at e0_s130
    have r_x132 : mh_r x132 (1) (201) := ⟨by have := e0_s130.2; have := (r_x127).1; omega, by have := e0_s130.2; have := (r_x127).2; omega⟩
    have r_x134 : mh_r x134 (1) (201) := ⟨by have := e0_s130.2; have := (r_x99).1; omega, by have := e0_s130.2; have := (r_x99).2; omega⟩
    refine mw_iconst (v := 1) 33 rfl dX10_stays_32 (by decide) ?_
    refine mw_zret dX10_stays_33 rfl (mh_r_wk rc_1 (by decide)) ⟨(1), rfl, ⟨(mh_r_wk rc_1 (by decide)), ?_, ?_, ?_, ?_, ?_, ?_, hI_s130, hF_s130⟩⟩
    · skip
      have t136 : x101 = s130.1 57 24 := (t123).trans (hG_s130 57 24 (mh_nsI (by rfl))).1.symm
      have t137 : x103 = s130.1 57 25 := (t124).trans (hG_s130 57 25 (mh_nsI (by rfl))).1.symm
      have t138 : x125 = s130.1 57 27 := (t126).trans (hG_s130 57 27 (mh_nsI (by rfl))).1.symm
      exact (show mh_pb b s130 by unfold mh_pb; rw [← t135, ← t136, ← t137, ← t138, ← t133]; have := kc_0; have := kc_1; have := (r_x109).1; have := (r_x109).2; have := (rc_1).1; have := (rc_1).2; have := (r_x97).1; have := (r_x97).2; have := (r_x99).1; have := (r_x99).2; have := (r_x101).1; have := (r_x101).2; have := (r_x103).1; have := (r_x103).2; have := (r_x105).1; have := (r_x105).2; have := (r_x107).1; have := (r_x107).2; have := (r_x125).1; have := (r_x125).2; have := (r_x127).1; have := (r_x127).2; have := (r_x132).1; have := (r_x132).2; have := (r_x134).1; have := (r_x134).2; have := kc_0; have := kc_1; have := kc_91; have := kc_93; omega)
    · skip
      exact mh_pk_tr e2_s120 (mh_pk_row ((mh_F_row hG_s130 74 rfl)))
    · skip
      have t139 : x101 = s130.1 57 24 := (t123).trans (hG_s130 57 24 (mh_nsI (by rfl))).1.symm
      have t140 : x103 = s130.1 57 25 := (t124).trans (hG_s130 57 25 (mh_nsI (by rfl))).1.symm
      have t141 : x125 = s130.1 57 27 := (t126).trans (hG_s130 57 27 (mh_nsI (by rfl))).1.symm
      have t142 : x97 = s120.1 57 31 := (t98).trans (hG_s120 57 31 (mh_nsI (by rfl))).1.symm
      have t143 : x97 = s130.1 57 31 := (t142).trans (hG_s130 57 31 (mh_nsI (by rfl))).1.symm
      have := congrArg Int32.toInt t100
      have := congrArg Int32.toInt t102
      have := congrArg Int32.toInt t104
      have := congrArg Int32.toInt t106
      have := congrArg Int32.toInt t108
      have := congrArg Int32.toInt t122
      have := congrArg Int32.toInt t123
      have := congrArg Int32.toInt t124
      have := congrArg Int32.toInt t126
      have := congrArg Int32.toInt t128
      have := congrArg Int32.toInt t133
      have := congrArg Int32.toInt t135
      have := congrArg Int32.toInt t139
      have := congrArg Int32.toInt t140
      have := congrArg Int32.toInt t141
      have := (r_x109).1; have := (r_x109).2
      have := (rc_1).1; have := (rc_1).2
      have := (r_x97).1; have := (r_x97).2
      have := (r_x99).1; have := (r_x99).2
      have := (r_x101).1; have := (r_x101).2
      have := (r_x103).1; have := (r_x103).2
      have := (r_x105).1; have := (r_x105).2
      have := (r_x107).1; have := (r_x107).2
      have := (r_x125).1; have := (r_x125).2
      have := (r_x127).1; have := (r_x127).2
      have := (r_x132).1; have := (r_x132).2
      have := (r_x134).1; have := (r_x134).2
      have := kc_0
      have := kc_1
      have := kc_91
      have := kc_93
      have := congrArg Int32.toInt t143
      have := (r_x97).1; have := (r_x97).2
      refine ⟨fun _ _ => ?_, fun _ q => absurd q (by omega), fun q => absurd q (by decide)⟩
      intro hg9
      have hB := e1_s120 (by rw [← t124]; omega)
      rw [← t126, ← t128] at hB
      have h74 : s130.1 74 = s120.1 74 := (mh_F_row hG_s130 74 rfl)
      have hcod : (s130.1 57 27).toInt = x125.toInt := by rw [← t141]
      have hst : (s130.1 57 29).toInt.toNat = x127.toInt.toNat + 1 := by rw [← t133]; omega
      rw [h74, e0_s130.1, hcod, hst]
      exact mh_pdr_pb hB (by show ¬ (_ ∨ _ ∨ _); omega)
    · skip
      have t144 : x101 = s130.1 57 24 := (t123).trans (hG_s130 57 24 (mh_nsI (by rfl))).1.symm
      have t145 : x103 = s130.1 57 25 := (t124).trans (hG_s130 57 25 (mh_nsI (by rfl))).1.symm
      have t146 : x125 = s130.1 57 27 := (t126).trans (hG_s130 57 27 (mh_nsI (by rfl))).1.symm
      rw [← t108] at hab
      have := congrArg Int32.toInt t100
      have := congrArg Int32.toInt t102
      have := congrArg Int32.toInt t104
      have := congrArg Int32.toInt t106
      have := congrArg Int32.toInt t108
      have := congrArg Int32.toInt t122
      have := congrArg Int32.toInt t123
      have := congrArg Int32.toInt t124
      have := congrArg Int32.toInt t126
      have := congrArg Int32.toInt t128
      have := congrArg Int32.toInt t133
      have := congrArg Int32.toInt t135
      have := congrArg Int32.toInt t144
      have := congrArg Int32.toInt t145
      have := congrArg Int32.toInt t146
      have := (r_x109).1; have := (r_x109).2
      have := (rc_1).1; have := (rc_1).2
      have := (r_x97).1; have := (r_x97).2
      have := (r_x99).1; have := (r_x99).2
      have := (r_x101).1; have := (r_x101).2
      have := (r_x103).1; have := (r_x103).2
      have := (r_x105).1; have := (r_x105).2
      have := (r_x107).1; have := (r_x107).2
      have := (r_x125).1; have := (r_x125).2
      have := (r_x127).1; have := (r_x127).2
      have := (r_x132).1; have := (r_x132).2
      have := (r_x134).1; have := (r_x134).2
      have := kc_0
      have := kc_1
      have := kc_91
      have := kc_93
      have hst : (s130.1 57 29).toInt.toNat = x127.toInt.toNat + 1 := by rw [← t133]; omega
      rw [hst, e0_s130.1, h76s]
      exact ⟨by omega, mh_ab_psh (mh_ab_sub hab (by omega)) (by unfold mh_vs; omega), fun j hj => mh_u1_lt (by omega)⟩
    · skip
      intro q
      exact absurd q (by decide)
    · skip
      have t147 : x101 = s130.1 57 24 := (t123).trans (hG_s130 57 24 (mh_nsI (by rfl))).1.symm
      have t148 : x103 = s130.1 57 25 := (t124).trans (hG_s130 57 25 (mh_nsI (by rfl))).1.symm
      have t149 : x125 = s130.1 57 27 := (t126).trans (hG_s130 57 27 (mh_nsI (by rfl))).1.symm
      have := congrArg Int32.toInt t100
      have := congrArg Int32.toInt t102
      have := congrArg Int32.toInt t104
      have := congrArg Int32.toInt t106
      have := congrArg Int32.toInt t108
      have := congrArg Int32.toInt t122
      have := congrArg Int32.toInt t123
      have := congrArg Int32.toInt t124
      have := congrArg Int32.toInt t126
      have := congrArg Int32.toInt t128
      have := congrArg Int32.toInt t133
      have := congrArg Int32.toInt t135
      have := congrArg Int32.toInt t147
      have := congrArg Int32.toInt t148
      have := congrArg Int32.toInt t149
      have := (r_x109).1; have := (r_x109).2
      have := (rc_1).1; have := (rc_1).2
      have := (r_x97).1; have := (r_x97).2
      have := (r_x99).1; have := (r_x99).2
      have := (r_x101).1; have := (r_x101).2
      have := (r_x103).1; have := (r_x103).2
      have := (r_x105).1; have := (r_x105).2
      have := (r_x107).1; have := (r_x107).2
      have := (r_x125).1; have := (r_x125).2
      have := (r_x127).1; have := (r_x127).2
      have := (r_x132).1; have := (r_x132).2
      have := (r_x134).1; have := (r_x134).2
      have := kc_0
      have := kc_1
      have := kc_91
      have := kc_93
      have := kc_0; have := kc_1
      omega
  · skip
    have hk_x112 := fun q => (by have := e0_s113.2 q; have := c115; omega : False)
    have r_x112 : mh_r x112 (0) (0) := mh_eq1 (show x112.toInt = (0 : Int32).toInt from c115) r_x112 rc_0 (0) (0) (by decide)
    refine mw_iload_n 13 rfl 0 dX10_stays_12 rfl rfl ?_
    refine mw_callSi [.int x109] [] 16 rfl dX10_stays_13 ml_X10_234 mc_X10_isPlus mk_X10_isPlus (w_X10_isPlus l G (d + 2) ⟨by omega, by omega⟩ hI0 x109) rfl rfl (Nat.le_of_ble_eq_true rfl) (mh_rok (by omega) (by decide)) (fun x150 s151 q152 => ?_)
    obtain ⟨r_x150, e0_s151, rfl⟩ := q152
    refine mw_if_eq 19 rfl 34 dX10_stays_16 (by decide) (fun c153 => ?_) (fun c153 => ?_)
    · skip
      have hk_x150 := fun q => (by have := e0_s151.2 q; have := c153; omega : False)
      have r_x150 : mh_r x150 (0) (0) := mh_eq1 (show x150.toInt = (0 : Int32).toInt from c153) r_x150 rc_0 (0) (0) (by decide)
      refine mw_aload_n 35 rfl 1 dX10_stays_34 rfl rfl ?_
      refine mw_iconst (v := 1) 36 rfl dX10_stays_35 (by decide) ?_
      refine mw_callVv [.int (1)] [] 39 rfl dX10_stays_36 ml_X10_249 mc_X10_folds mk_X10_folds rfl rfl (by decide) (w_X10_folds l G (d + 0) ⟨by omega, by omega⟩ hI0 (1) (mh_r_wk rc_1 (by decide)) b (show mh_pb b s0 by unfold mh_pb; rw [← t100, ← t102, ← t104, ← t106, ← t108]; have := kc_0; have := kc_1; have := (r_x109).1; have := (r_x109).2; have := (r_x97).1; have := (r_x97).2; have := (r_x99).1; have := (r_x99).2; have := (r_x101).1; have := (r_x101).2; have := (r_x103).1; have := (r_x103).2; have := (r_x105).1; have := (r_x105).2; have := (r_x107).1; have := (r_x107).2; have := kc_0; have := kc_1; have := kc_91; have := kc_93; omega) hd) rfl rfl (Nat.le_of_ble_eq_true rfl) (mh_rok (by omega) (by decide)) (fun s155 q156 => ?_)
      obtain ⟨e0_s155, e1_s155, e2_s155, e3_s155, e4_s155, e5_s155, hI_s155, hG_s155⟩ := q156
      have hF_s155 : mh_F S_X10_stays s0 s155 := mh_F_tl hF0 hG_s155 (by decide +kernel)
      have t157 : x99 = s155.1 57 23 := (t100).trans (hG_s155 57 23 (mh_nsI (by rfl))).1.symm
      have t158 : x101 = s155.1 57 24 := (t102).trans (hG_s155 57 24 (mh_nsI (by rfl))).1.symm
      have t159 : x103 = s155.1 57 25 := (t104).trans (hG_s155 57 25 (mh_nsI (by rfl))).1.symm
      obtain ⟨x160, t161⟩ : ∃ z : Int32, z = s155.1 57 27 := ⟨_, rfl⟩
      obtain ⟨x162, t163⟩ : ∃ z : Int32, z = s155.1 57 29 := ⟨_, rfl⟩
      have pb_s155 : 0 ≤ x99.toInt ∧ x99.toInt ≤ x101.toInt ∧ x101.toInt ≤ 200 ∧ 0 ≤ x162.toInt ∧ 0 ≤ b ∧ b ≤ x160.toInt ∧ x162.toInt + x160.toInt ≤ x99.toInt ∧ x103.toInt ≤ 0 := by have h9 := e0_s155; unfold mh_pb at h9; rw [← t157, ← t158, ← t159, ← t161, ← t163] at h9; exact h9
      have r_x160 : mh_r x160 (0) (200) := ⟨by have := ((mh_r_full x160)).1; omega, by have := ((mh_r_full x160)).2; omega⟩
      have r_x162 : mh_r x162 (0) (200) := ⟨by have := ((mh_r_full x162)).1; omega, by have := ((mh_r_full x162)).2; omega⟩
      have hp_s155 := e3_s155
      rw [← t163, ← t108] at hp_s155
      have hge := mh_fl_ge hfl hh (fun j h1 h2 => by have := e4_s155 j h1 h2; unfold mh_vs; omega)
      rw [← t163] at hge
      have h76s : s155.1 76 = s0.1 76 := mh_F_row hG_s155 76 rfl
      refine mw_iload_n 40 rfl 0 dX10_stays_39 rfl rfl ?_
      refine mw_bipush (v := 93) 42 rfl dX10_stays_40 (by decide) ?_
      refine mw_icmp_eq 45 rfl 47 dX10_stays_42 (by decide) (fun c164 => ?_) (fun c164 => ?_)
      · skip
        have r_x109 : mh_r x109 (93) (93) := mh_eq1 c164 r_x109 rc_93 (93) (93) (by decide)
        refine mw_aload_n 48 rfl 1 dX10_stays_47 rfl rfl ?_
        refine mw_callVi [] [] 51 rfl dX10_stays_48 ml_X10_228 mc_X10_top mk_X10_top rfl rfl (by decide) (w_X10_top l G (d + 2) ⟨by omega, by omega⟩ hI_s155 (by rw [← t163]; have := (r_x109).1; have := (r_x109).2; have := (r_x97).1; have := (r_x97).2; have := (r_x99).1; have := (r_x99).2; have := (r_x101).1; have := (r_x101).2; have := (r_x103).1; have := (r_x103).2; have := (r_x105).1; have := (r_x105).2; have := (r_x107).1; have := (r_x107).2; have := (r_x160).1; have := (r_x160).2; have := (r_x162).1; have := (r_x162).2; have := kc_0; have := kc_1; have := kc_91; have := kc_93; omega)) rfl rfl (Nat.le_of_ble_eq_true rfl) (mh_rok (by omega) (by decide)) (fun x165 s166 q167 => ?_)
        obtain ⟨r_x165, e0_s166, rfl⟩ := q167
        have hq_x165 : x165.toInt ≠ 0 → 0 < x162.toInt ∧ s155.1 76 (x162.toInt.toNat - 1) = x165 := fun q => by rw [t163]; have h9 := mh_tp_s (σ := s155) (by rw [← e0_s166]; exact q); rw [← e0_s166] at h9; exact h9
        refine mw_bipush (v := 91) 53 rfl dX10_stays_51 (by decide) ?_
        refine mw_icmp_eq 56 rfl 67 dX10_stays_53 (by decide) (fun c168 => ?_) (fun c168 => ?_)
        · skip
          have r_x165 : mh_r x165 (91) (91) := mh_eq1 c168 r_x165 rc_91 (91) (91) (by decide)
          refine mw_aload_n 68 rfl 1 dX10_stays_67 rfl rfl ?_
          refine mw_dup 69 rfl dX10_stays_68 rfl ?_
          refine mw_geti 72 rfl dX10_stays_69 gf_X10_204 rfl (fun x169 t170 => ?_)
          obtain rfl : x162 = x169 := t163.trans t170.symm
          refine mw_iconst (v := 1) 73 rfl dX10_stays_72 (by decide) ?_
          refine mw_isub 74 rfl (-1) (199) dX10_stays_73 r_x162 rc_1 (by decide) (fun x171 t172 r_x171 => ?_)
          refine mw_puti 77 rfl dX10_stays_74 pf_X10_204 rfl (fun s173 t174 => ?_)
          have hI_s173 : mh_I B D s173 := by rw [t174]; exact wr_57_29 hI_s155
          have hF_s173 : mh_F S_X10_stays s0 s173 := by rw [t174]; exact mh_F_pI hF_s155 (mh_sj 3 rfl)
          refine mw_aload_n 78 rfl 1 dX10_stays_77 rfl rfl ?_
          refine mw_dup 79 rfl dX10_stays_78 rfl ?_
          refine mw_geti 82 rfl dX10_stays_79 gf_X10_207 rfl (fun x175 t176 => ?_)
          refine mw_iconst (v := 1) 83 rfl dX10_stays_82 (by decide) ?_
          refine mw_isub_u 84 rfl dX10_stays_83 (fun x177 t178 => ?_)
          refine mw_puti 87 rfl dX10_stays_84 pf_X10_207 rfl (fun s179 t180 => ?_)
          have hI_s179 : mh_I B D s179 := by rw [t180]; exact wr_57_28 hI_s173
          have hF_s179 : mh_F S_X10_stays s0 s179 := by rw [t180]; exact mh_F_pI hF_s173 (mh_sj 6 rfl)
          refine mw_aload_n 88 rfl 1 dX10_stays_87 rfl rfl ?_
          refine mw_dup 89 rfl dX10_stays_88 rfl ?_
          refine mw_geti 92 rfl dX10_stays_89 gf_X10_188 rfl (fun x181 t182 => ?_)
          have t183 : x99 = s173.1 57 23 := by rw [t174]; exact (t157).trans (mh_pI_n (by omega)).symm
          have t184 : x99 = s179.1 57 23 := by rw [t180]; exact (t183).trans (mh_pI_n (by omega)).symm
          obtain rfl : x99 = x181 := t184.trans t182.symm
          refine mw_iconst (v := 1) 93 rfl dX10_stays_92 (by decide) ?_
          refine mw_iadd 94 rfl (1) (201) dX10_stays_93 r_x99 rc_1 (by decide) (fun x185 t186 r_x185 => ?_)
          refine mw_puti 97 rfl dX10_stays_94 pf_X10_188 rfl (fun s187 t188 => ?_)
          have hI_s187 : mh_I B D s187 := by rw [t188]; exact wr_57_23 hI_s179
          have hF_s187 : mh_F S_X10_stays s0 s187 := by rw [t188]; exact mh_F_pI hF_s179 (mh_sj 5 rfl)
          refine mw_aload_n 98 rfl 1 dX10_stays_97 rfl rfl ?_
          refine mw_iconst (v := 1) 99 rfl dX10_stays_98 (by decide) ?_
          refine mw_putz 102 rfl dX10_stays_99 pf_X10_253 rfl (mh_r_wk rc_1 (by decide)) (fun s189 t190 => ?_)
          have hI_s189 : mh_I B D s189 := by rw [t190]; exact wr_57_31 hI_s187 (mh_r_wk rc_1 (by decide))
          have hF_s189 : mh_F S_X10_stays s0 s189 := by rw [t190]; exact mh_F_pI hF_s187 (mh_sj 7 rfl)
          refine mw_iconst (v := 1) 103 rfl dX10_stays_102 (by decide) ?_
          refine mw_zret dX10_stays_103 rfl (mh_r_wk rc_1 (by decide)) ⟨(1), rfl, ⟨(mh_r_wk rc_1 (by decide)), ?_, ?_, ?_, ?_, ?_, ?_, hI_s189, hF_s189⟩⟩
          · skip
            have t191 : x185 = s187.1 57 23 := by rw [t188]; exact mh_pI_s.symm
            have t192 : x185 = s189.1 57 23 := by rw [t190]; exact (t191).trans (mh_pI_n (by omega)).symm
            have t193 : x101 = s173.1 57 24 := by rw [t174]; exact (t158).trans (mh_pI_n (by omega)).symm
            have t194 : x101 = s179.1 57 24 := by rw [t180]; exact (t193).trans (mh_pI_n (by omega)).symm
            have t195 : x101 = s187.1 57 24 := by rw [t188]; exact (t194).trans (mh_pI_n (by omega)).symm
            have t196 : x101 = s189.1 57 24 := by rw [t190]; exact (t195).trans (mh_pI_n (by omega)).symm
            have t197 : x103 = s173.1 57 25 := by rw [t174]; exact (t159).trans (mh_pI_n (by omega)).symm
            have t198 : x103 = s179.1 57 25 := by rw [t180]; exact (t197).trans (mh_pI_n (by omega)).symm
            have t199 : x103 = s187.1 57 25 := by rw [t188]; exact (t198).trans (mh_pI_n (by omega)).symm
            have t200 : x103 = s189.1 57 25 := by rw [t190]; exact (t199).trans (mh_pI_n (by omega)).symm
            have t201 : x160 = s173.1 57 27 := by rw [t174]; exact (t161).trans (mh_pI_n (by omega)).symm
            have t202 : x160 = s179.1 57 27 := by rw [t180]; exact (t201).trans (mh_pI_n (by omega)).symm
            have t203 : x160 = s187.1 57 27 := by rw [t188]; exact (t202).trans (mh_pI_n (by omega)).symm
            have t204 : x160 = s189.1 57 27 := by rw [t190]; exact (t203).trans (mh_pI_n (by omega)).symm
            have t205 : x171 = s173.1 57 29 := by rw [t174]; exact mh_pI_s.symm
            have t206 : x171 = s179.1 57 29 := by rw [t180]; exact (t205).trans (mh_pI_n (by omega)).symm
            have t207 : x171 = s187.1 57 29 := by rw [t188]; exact (t206).trans (mh_pI_n (by omega)).symm
            have t208 : x171 = s189.1 57 29 := by rw [t190]; exact (t207).trans (mh_pI_n (by omega)).symm
            exact (show mh_pb b s189 by unfold mh_pb; rw [← t192, ← t196, ← t200, ← t204, ← t208]; have := kc_0; have := kc_1; have := (r_x109).1; have := (r_x109).2; have := (rc_1).1; have := (rc_1).2; have := (r_x97).1; have := (r_x97).2; have := (r_x99).1; have := (r_x99).2; have := (r_x101).1; have := (r_x101).2; have := (r_x103).1; have := (r_x103).2; have := (r_x105).1; have := (r_x105).2; have := (r_x107).1; have := (r_x107).2; have := (r_x160).1; have := (r_x160).2; have := (r_x162).1; have := (r_x162).2; have := (r_x185).1; have := (r_x185).2; have := (r_x171).1; have := (r_x171).2; have := kc_0; have := kc_1; have := kc_91; have := kc_93; omega)
          · skip
            exact mh_pk_tr e2_s155 (mh_pk_row (((((by rw [t190]; exact mh_row_n (by decide) : s189.1 74 = s187.1 74)).trans (by rw [t188]; exact mh_row_n (by decide) : s187.1 74 = s179.1 74)).trans (by rw [t180]; exact mh_row_n (by decide) : s179.1 74 = s173.1 74)).trans (by rw [t174]; exact mh_row_n (by decide) : s173.1 74 = s155.1 74)))
          · skip
            have t209 : x185 = s187.1 57 23 := by rw [t188]; exact mh_pI_s.symm
            have t210 : x185 = s189.1 57 23 := by rw [t190]; exact (t209).trans (mh_pI_n (by omega)).symm
            have t211 : x101 = s173.1 57 24 := by rw [t174]; exact (t158).trans (mh_pI_n (by omega)).symm
            have t212 : x101 = s179.1 57 24 := by rw [t180]; exact (t211).trans (mh_pI_n (by omega)).symm
            have t213 : x101 = s187.1 57 24 := by rw [t188]; exact (t212).trans (mh_pI_n (by omega)).symm
            have t214 : x101 = s189.1 57 24 := by rw [t190]; exact (t213).trans (mh_pI_n (by omega)).symm
            have t215 : x103 = s173.1 57 25 := by rw [t174]; exact (t159).trans (mh_pI_n (by omega)).symm
            have t216 : x103 = s179.1 57 25 := by rw [t180]; exact (t215).trans (mh_pI_n (by omega)).symm
            have t217 : x103 = s187.1 57 25 := by rw [t188]; exact (t216).trans (mh_pI_n (by omega)).symm
            have t218 : x103 = s189.1 57 25 := by rw [t190]; exact (t217).trans (mh_pI_n (by omega)).symm
            have t219 : x160 = s173.1 57 27 := by rw [t174]; exact (t161).trans (mh_pI_n (by omega)).symm
            have t220 : x160 = s179.1 57 27 := by rw [t180]; exact (t219).trans (mh_pI_n (by omega)).symm
            have t221 : x160 = s187.1 57 27 := by rw [t188]; exact (t220).trans (mh_pI_n (by omega)).symm
            have t222 : x160 = s189.1 57 27 := by rw [t190]; exact (t221).trans (mh_pI_n (by omega)).symm
            have t223 : x171 = s173.1 57 29 := by rw [t174]; exact mh_pI_s.symm
            have t224 : x171 = s179.1 57 29 := by rw [t180]; exact (t223).trans (mh_pI_n (by omega)).symm
            have t225 : x171 = s187.1 57 29 := by rw [t188]; exact (t224).trans (mh_pI_n (by omega)).symm
            have t226 : x171 = s189.1 57 29 := by rw [t190]; exact (t225).trans (mh_pI_n (by omega)).symm
            have t227 : (1) = s189.1 57 31 := by rw [t190]; exact mh_pI_s.symm
            have := congrArg Int32.toInt t100
            have := congrArg Int32.toInt t102
            have := congrArg Int32.toInt t104
            have := congrArg Int32.toInt t106
            have := congrArg Int32.toInt t108
            have := congrArg Int32.toInt t157
            have := congrArg Int32.toInt t158
            have := congrArg Int32.toInt t159
            have := congrArg Int32.toInt t161
            have := congrArg Int32.toInt t163
            have := congrArg Int32.toInt t184
            have := congrArg Int32.toInt t210
            have := congrArg Int32.toInt t214
            have := congrArg Int32.toInt t218
            have := congrArg Int32.toInt t222
            have := congrArg Int32.toInt t226
            have := (r_x109).1; have := (r_x109).2
            have := (rc_1).1; have := (rc_1).2
            have := (r_x97).1; have := (r_x97).2
            have := (r_x99).1; have := (r_x99).2
            have := (r_x101).1; have := (r_x101).2
            have := (r_x103).1; have := (r_x103).2
            have := (r_x105).1; have := (r_x105).2
            have := (r_x107).1; have := (r_x107).2
            have := (r_x160).1; have := (r_x160).2
            have := (r_x162).1; have := (r_x162).2
            have := (r_x185).1; have := (r_x185).2
            have := (r_x171).1; have := (r_x171).2
            have := kc_0
            have := kc_1
            have := kc_91
            have := kc_93
            have := congrArg Int32.toInt t227
            have := kc_1
            refine ⟨fun _ q => absurd q (by omega), fun _ _ => ?_, fun q => absurd q (by decide)⟩
            intro hg9
            have hB := e1_s155 (by rw [← t159]; omega)
            rw [← t161, ← t163] at hB
            have h74 : s189.1 74 = s155.1 74 := ((((by rw [t190]; exact mh_row_n (by decide) : s189.1 74 = s187.1 74)).trans (by rw [t188]; exact mh_row_n (by decide) : s187.1 74 = s179.1 74)).trans (by rw [t180]; exact mh_row_n (by decide) : s179.1 74 = s173.1 74)).trans (by rw [t174]; exact mh_row_n (by decide) : s173.1 74 = s155.1 74)
            have h76 : s189.1 76 = s155.1 76 := ((((by rw [t190]; exact mh_row_n (by decide) : s189.1 76 = s187.1 76)).trans (by rw [t188]; exact mh_row_n (by decide) : s187.1 76 = s179.1 76)).trans (by rw [t180]; exact mh_row_n (by decide) : s179.1 76 = s173.1 76)).trans (by rw [t174]; exact mh_row_n (by decide) : s173.1 76 = s155.1 76)
            have hcod : (s189.1 57 27).toInt = x160.toInt := by rw [← t222]
            have hst : (s189.1 57 29).toInt.toNat = x162.toInt.toNat - 1 := by rw [← t226]; omega
            have hq9 := hq_x165 (by omega)
            rw [h74, h76, hcod, hst]
            exact mh_pdr_qn hB (by omega) (by rw [hq9.2]; show (_ ∨ _ ∨ _); omega)
          · skip
            have t228 : x185 = s187.1 57 23 := by rw [t188]; exact mh_pI_s.symm
            have t229 : x185 = s189.1 57 23 := by rw [t190]; exact (t228).trans (mh_pI_n (by omega)).symm
            have t230 : x101 = s173.1 57 24 := by rw [t174]; exact (t158).trans (mh_pI_n (by omega)).symm
            have t231 : x101 = s179.1 57 24 := by rw [t180]; exact (t230).trans (mh_pI_n (by omega)).symm
            have t232 : x101 = s187.1 57 24 := by rw [t188]; exact (t231).trans (mh_pI_n (by omega)).symm
            have t233 : x101 = s189.1 57 24 := by rw [t190]; exact (t232).trans (mh_pI_n (by omega)).symm
            have t234 : x103 = s173.1 57 25 := by rw [t174]; exact (t159).trans (mh_pI_n (by omega)).symm
            have t235 : x103 = s179.1 57 25 := by rw [t180]; exact (t234).trans (mh_pI_n (by omega)).symm
            have t236 : x103 = s187.1 57 25 := by rw [t188]; exact (t235).trans (mh_pI_n (by omega)).symm
            have t237 : x103 = s189.1 57 25 := by rw [t190]; exact (t236).trans (mh_pI_n (by omega)).symm
            have t238 : x160 = s173.1 57 27 := by rw [t174]; exact (t161).trans (mh_pI_n (by omega)).symm
            have t239 : x160 = s179.1 57 27 := by rw [t180]; exact (t238).trans (mh_pI_n (by omega)).symm
            have t240 : x160 = s187.1 57 27 := by rw [t188]; exact (t239).trans (mh_pI_n (by omega)).symm
            have t241 : x160 = s189.1 57 27 := by rw [t190]; exact (t240).trans (mh_pI_n (by omega)).symm
            have t242 : x171 = s173.1 57 29 := by rw [t174]; exact mh_pI_s.symm
            have t243 : x171 = s179.1 57 29 := by rw [t180]; exact (t242).trans (mh_pI_n (by omega)).symm
            have t244 : x171 = s187.1 57 29 := by rw [t188]; exact (t243).trans (mh_pI_n (by omega)).symm
            have t245 : x171 = s189.1 57 29 := by rw [t190]; exact (t244).trans (mh_pI_n (by omega)).symm
            rw [← t108] at hab
            have := congrArg Int32.toInt t100
            have := congrArg Int32.toInt t102
            have := congrArg Int32.toInt t104
            have := congrArg Int32.toInt t106
            have := congrArg Int32.toInt t108
            have := congrArg Int32.toInt t157
            have := congrArg Int32.toInt t158
            have := congrArg Int32.toInt t159
            have := congrArg Int32.toInt t161
            have := congrArg Int32.toInt t163
            have := congrArg Int32.toInt t184
            have := congrArg Int32.toInt t229
            have := congrArg Int32.toInt t233
            have := congrArg Int32.toInt t237
            have := congrArg Int32.toInt t241
            have := congrArg Int32.toInt t245
            have := (r_x109).1; have := (r_x109).2
            have := (rc_1).1; have := (rc_1).2
            have := (r_x97).1; have := (r_x97).2
            have := (r_x99).1; have := (r_x99).2
            have := (r_x101).1; have := (r_x101).2
            have := (r_x103).1; have := (r_x103).2
            have := (r_x105).1; have := (r_x105).2
            have := (r_x107).1; have := (r_x107).2
            have := (r_x160).1; have := (r_x160).2
            have := (r_x162).1; have := (r_x162).2
            have := (r_x185).1; have := (r_x185).2
            have := (r_x171).1; have := (r_x171).2
            have := kc_0
            have := kc_1
            have := kc_91
            have := kc_93
            have h76 : s189.1 76 = s0.1 76 := (((((by rw [t190]; exact mh_row_n (by decide) : s189.1 76 = s187.1 76)).trans (by rw [t188]; exact mh_row_n (by decide) : s187.1 76 = s179.1 76)).trans (by rw [t180]; exact mh_row_n (by decide) : s179.1 76 = s173.1 76)).trans (by rw [t174]; exact mh_row_n (by decide) : s173.1 76 = s155.1 76)).trans h76s
            have hq9 := hq_x165 (by omega)
            rw [h76s] at hq9
            have hne : h ≠ x162.toInt.toNat := fun q => hfl (x162.toInt.toNat - 1) (by omega) (by rw [hq9.2]; unfold mh_vs; omega)
            have hst : (s189.1 57 29).toInt.toNat = x162.toInt.toNat - 1 := by rw [← t245]; omega
            rw [hst, h76]
            exact ⟨by omega, mh_ab_sub hab (by omega), fun j hj => rfl⟩
          · skip
            intro q
            exact absurd q (by decide)
          · skip
            have t246 : x185 = s187.1 57 23 := by rw [t188]; exact mh_pI_s.symm
            have t247 : x185 = s189.1 57 23 := by rw [t190]; exact (t246).trans (mh_pI_n (by omega)).symm
            have t248 : x101 = s173.1 57 24 := by rw [t174]; exact (t158).trans (mh_pI_n (by omega)).symm
            have t249 : x101 = s179.1 57 24 := by rw [t180]; exact (t248).trans (mh_pI_n (by omega)).symm
            have t250 : x101 = s187.1 57 24 := by rw [t188]; exact (t249).trans (mh_pI_n (by omega)).symm
            have t251 : x101 = s189.1 57 24 := by rw [t190]; exact (t250).trans (mh_pI_n (by omega)).symm
            have t252 : x103 = s173.1 57 25 := by rw [t174]; exact (t159).trans (mh_pI_n (by omega)).symm
            have t253 : x103 = s179.1 57 25 := by rw [t180]; exact (t252).trans (mh_pI_n (by omega)).symm
            have t254 : x103 = s187.1 57 25 := by rw [t188]; exact (t253).trans (mh_pI_n (by omega)).symm
            have t255 : x103 = s189.1 57 25 := by rw [t190]; exact (t254).trans (mh_pI_n (by omega)).symm
            have t256 : x160 = s173.1 57 27 := by rw [t174]; exact (t161).trans (mh_pI_n (by omega)).symm
            have t257 : x160 = s179.1 57 27 := by rw [t180]; exact (t256).trans (mh_pI_n (by omega)).symm
            have t258 : x160 = s187.1 57 27 := by rw [t188]; exact (t257).trans (mh_pI_n (by omega)).symm
            have t259 : x160 = s189.1 57 27 := by rw [t190]; exact (t258).trans (mh_pI_n (by omega)).symm
            have t260 : x171 = s173.1 57 29 := by rw [t174]; exact mh_pI_s.symm
            have t261 : x171 = s179.1 57 29 := by rw [t180]; exact (t260).trans (mh_pI_n (by omega)).symm
            have t262 : x171 = s187.1 57 29 := by rw [t188]; exact (t261).trans (mh_pI_n (by omega)).symm
            have t263 : x171 = s189.1 57 29 := by rw [t190]; exact (t262).trans (mh_pI_n (by omega)).symm
            have := congrArg Int32.toInt t100
            have := congrArg Int32.toInt t102
            have := congrArg Int32.toInt t104
            have := congrArg Int32.toInt t106
            have := congrArg Int32.toInt t108
            have := congrArg Int32.toInt t157
            have := congrArg Int32.toInt t158
            have := congrArg Int32.toInt t159
            have := congrArg Int32.toInt t161
            have := congrArg Int32.toInt t163
            have := congrArg Int32.toInt t184
            have := congrArg Int32.toInt t247
            have := congrArg Int32.toInt t251
            have := congrArg Int32.toInt t255
            have := congrArg Int32.toInt t259
            have := congrArg Int32.toInt t263
            have := (r_x109).1; have := (r_x109).2
            have := (rc_1).1; have := (rc_1).2
            have := (r_x97).1; have := (r_x97).2
            have := (r_x99).1; have := (r_x99).2
            have := (r_x101).1; have := (r_x101).2
            have := (r_x103).1; have := (r_x103).2
            have := (r_x105).1; have := (r_x105).2
            have := (r_x107).1; have := (r_x107).2
            have := (r_x160).1; have := (r_x160).2
            have := (r_x162).1; have := (r_x162).2
            have := (r_x185).1; have := (r_x185).2
            have := (r_x171).1; have := (r_x171).2
            have := kc_0
            have := kc_1
            have := kc_91
            have := kc_93
            have := kc_0; have := kc_1
            omega
        · skip
          refine mw_aload_n 57 rfl 1 dX10_stays_56 rfl rfl ?_
          refine mw_iconst (v := 1) 58 rfl dX10_stays_57 (by decide) ?_
          refine mw_aload_n 59 rfl 1 dX10_stays_58 rfl rfl ?_
          refine mw_geti 62 rfl dX10_stays_59 gf_X10_188 rfl (fun x264 t265 => ?_)
          obtain rfl : x99 = x264 := t157.trans t265.symm
          refine mw_callVv [.int (1), .int x99] [] 65 rfl dX10_stays_62 ml_X10_210 mc_X10_wrongs mk_X10_wrongs rfl rfl (by decide) (w_X10_wrongs l G (d + 2) ⟨by omega, by omega⟩ hI_s155 (1) (mh_r_wk rc_1 (by decide)) x99 r_x99 (by rw [← t159]; have := (r_x109).1; have := (r_x109).2; have := (r_x97).1; have := (r_x97).2; have := (r_x99).1; have := (r_x99).2; have := (r_x101).1; have := (r_x101).2; have := (r_x103).1; have := (r_x103).2; have := (r_x105).1; have := (r_x105).2; have := (r_x107).1; have := (r_x107).2; have := (r_x160).1; have := (r_x160).2; have := (r_x162).1; have := (r_x162).2; have := kc_0; have := kc_1; have := kc_91; have := kc_93; omega)) rfl rfl (Nat.le_of_ble_eq_true rfl) (mh_rok (by omega) (by decide)) (fun s267 q268 => ?_)
          obtain ⟨e0_s267, hI_s267, hG_s267⟩ := q268
          have hF_s267 : mh_F S_X10_stays s0 s267 := mh_F_tl hF_s155 hG_s267 (by decide +kernel)
          obtain ⟨x269, t270⟩ : ∃ z : Int32, z = s267.1 57 25 := ⟨_, rfl⟩
          have hw_s267 : x269.toInt < 0 := by rw [t270]; exact e0_s267
          have r_x269 : mh_r x269 (-2147483648) (-1) := ⟨((mh_r_full x269)).1, by have := hw_s267; omega⟩
          refine mw_iconst (v := 0) 66 rfl dX10_stays_65 (by decide) ?_
          refine mw_zret dX10_stays_66 rfl (mh_r_wk rc_0 (by decide)) ⟨(0), rfl, ⟨(mh_r_wk rc_0 (by decide)), ?_, ?_, ?_, ?_, ?_, ?_, hI_s267, hF_s267⟩⟩
          · skip
            have t271 : x99 = s267.1 57 23 := (t157).trans (hG_s267 57 23 (mh_nsI (by rfl))).1.symm
            have t272 : x101 = s267.1 57 24 := (t158).trans (hG_s267 57 24 (mh_nsI (by rfl))).1.symm
            have t273 : x160 = s267.1 57 27 := (t161).trans (hG_s267 57 27 (mh_nsI (by rfl))).1.symm
            have t274 : x162 = s267.1 57 29 := (t163).trans (hG_s267 57 29 (mh_nsI (by rfl))).1.symm
            exact (show mh_pb b s267 by unfold mh_pb; rw [← t271, ← t272, ← t270, ← t273, ← t274]; have := kc_0; have := kc_1; have := (r_x109).1; have := (r_x109).2; have := (rc_0).1; have := (rc_0).2; have := (r_x97).1; have := (r_x97).2; have := (r_x99).1; have := (r_x99).2; have := (r_x101).1; have := (r_x101).2; have := (r_x103).1; have := (r_x103).2; have := (r_x105).1; have := (r_x105).2; have := (r_x107).1; have := (r_x107).2; have := (r_x160).1; have := (r_x160).2; have := (r_x162).1; have := (r_x162).2; have := (r_x269).1; have := (r_x269).2; have := kc_0; have := kc_1; have := kc_91; have := kc_93; omega)
          · skip
            exact mh_pk_tr e2_s155 (mh_pk_row ((mh_F_row hG_s267 74 rfl)))
          · skip
            have t275 : x99 = s267.1 57 23 := (t157).trans (hG_s267 57 23 (mh_nsI (by rfl))).1.symm
            have t276 : x101 = s267.1 57 24 := (t158).trans (hG_s267 57 24 (mh_nsI (by rfl))).1.symm
            have t277 : x160 = s267.1 57 27 := (t161).trans (hG_s267 57 27 (mh_nsI (by rfl))).1.symm
            have t278 : x162 = s267.1 57 29 := (t163).trans (hG_s267 57 29 (mh_nsI (by rfl))).1.symm
            have t279 : x97 = s155.1 57 31 := (t98).trans (hG_s155 57 31 (mh_nsI (by rfl))).1.symm
            have t280 : x97 = s267.1 57 31 := (t279).trans (hG_s267 57 31 (mh_nsI (by rfl))).1.symm
            have := congrArg Int32.toInt t100
            have := congrArg Int32.toInt t102
            have := congrArg Int32.toInt t104
            have := congrArg Int32.toInt t106
            have := congrArg Int32.toInt t108
            have := congrArg Int32.toInt t157
            have := congrArg Int32.toInt t158
            have := congrArg Int32.toInt t159
            have := congrArg Int32.toInt t161
            have := congrArg Int32.toInt t163
            have := congrArg Int32.toInt t270
            have := congrArg Int32.toInt t275
            have := congrArg Int32.toInt t276
            have := congrArg Int32.toInt t277
            have := congrArg Int32.toInt t278
            have := (r_x109).1; have := (r_x109).2
            have := (rc_0).1; have := (rc_0).2
            have := (r_x97).1; have := (r_x97).2
            have := (r_x99).1; have := (r_x99).2
            have := (r_x101).1; have := (r_x101).2
            have := (r_x103).1; have := (r_x103).2
            have := (r_x105).1; have := (r_x105).2
            have := (r_x107).1; have := (r_x107).2
            have := (r_x160).1; have := (r_x160).2
            have := (r_x162).1; have := (r_x162).2
            have := (r_x269).1; have := (r_x269).2
            have := kc_0
            have := kc_1
            have := kc_91
            have := kc_93
            refine ⟨fun q => absurd q (by decide), fun q => absurd q (by decide), fun _ => ?_⟩
            intro hg9
            exfalso
            omega
          · skip
            have t281 : x99 = s267.1 57 23 := (t157).trans (hG_s267 57 23 (mh_nsI (by rfl))).1.symm
            have t282 : x101 = s267.1 57 24 := (t158).trans (hG_s267 57 24 (mh_nsI (by rfl))).1.symm
            have t283 : x160 = s267.1 57 27 := (t161).trans (hG_s267 57 27 (mh_nsI (by rfl))).1.symm
            have t284 : x162 = s267.1 57 29 := (t163).trans (hG_s267 57 29 (mh_nsI (by rfl))).1.symm
            rw [← t108] at hab
            have := congrArg Int32.toInt t100
            have := congrArg Int32.toInt t102
            have := congrArg Int32.toInt t104
            have := congrArg Int32.toInt t106
            have := congrArg Int32.toInt t108
            have := congrArg Int32.toInt t157
            have := congrArg Int32.toInt t158
            have := congrArg Int32.toInt t159
            have := congrArg Int32.toInt t161
            have := congrArg Int32.toInt t163
            have := congrArg Int32.toInt t270
            have := congrArg Int32.toInt t281
            have := congrArg Int32.toInt t282
            have := congrArg Int32.toInt t283
            have := congrArg Int32.toInt t284
            have := (r_x109).1; have := (r_x109).2
            have := (rc_0).1; have := (rc_0).2
            have := (r_x97).1; have := (r_x97).2
            have := (r_x99).1; have := (r_x99).2
            have := (r_x101).1; have := (r_x101).2
            have := (r_x103).1; have := (r_x103).2
            have := (r_x105).1; have := (r_x105).2
            have := (r_x107).1; have := (r_x107).2
            have := (r_x160).1; have := (r_x160).2
            have := (r_x162).1; have := (r_x162).2
            have := (r_x269).1; have := (r_x269).2
            have := kc_0
            have := kc_1
            have := kc_91
            have := kc_93
            have h76 : s267.1 76 = s0.1 76 := ((mh_F_row hG_s267 76 rfl)).trans h76s
            have hst : (s267.1 57 29).toInt.toNat = x162.toInt.toNat := by rw [← t284]
            rw [hst, h76]
            exact ⟨hge, mh_ab_sub hab (by omega), fun j hj => rfl⟩
          · skip
            have t285 : x99 = s267.1 57 23 := (t157).trans (hG_s267 57 23 (mh_nsI (by rfl))).1.symm
            have t286 : x101 = s267.1 57 24 := (t158).trans (hG_s267 57 24 (mh_nsI (by rfl))).1.symm
            have t287 : x160 = s267.1 57 27 := (t161).trans (hG_s267 57 27 (mh_nsI (by rfl))).1.symm
            have t288 : x162 = s267.1 57 29 := (t163).trans (hG_s267 57 29 (mh_nsI (by rfl))).1.symm
            intro _ hg9
            exfalso
            have := congrArg Int32.toInt t100
            have := congrArg Int32.toInt t102
            have := congrArg Int32.toInt t104
            have := congrArg Int32.toInt t106
            have := congrArg Int32.toInt t108
            have := congrArg Int32.toInt t157
            have := congrArg Int32.toInt t158
            have := congrArg Int32.toInt t159
            have := congrArg Int32.toInt t161
            have := congrArg Int32.toInt t163
            have := congrArg Int32.toInt t270
            have := congrArg Int32.toInt t285
            have := congrArg Int32.toInt t286
            have := congrArg Int32.toInt t287
            have := congrArg Int32.toInt t288
            have := (r_x109).1; have := (r_x109).2
            have := (rc_0).1; have := (rc_0).2
            have := (r_x97).1; have := (r_x97).2
            have := (r_x99).1; have := (r_x99).2
            have := (r_x101).1; have := (r_x101).2
            have := (r_x103).1; have := (r_x103).2
            have := (r_x105).1; have := (r_x105).2
            have := (r_x107).1; have := (r_x107).2
            have := (r_x160).1; have := (r_x160).2
            have := (r_x162).1; have := (r_x162).2
            have := (r_x269).1; have := (r_x269).2
            have := kc_0
            have := kc_1
            have := kc_91
            have := kc_93
            omega
          · skip
            have t289 : x99 = s267.1 57 23 := (t157).trans (hG_s267 57 23 (mh_nsI (by rfl))).1.symm
            have t290 : x101 = s267.1 57 24 := (t158).trans (hG_s267 57 24 (mh_nsI (by rfl))).1.symm
            have t291 : x160 = s267.1 57 27 := (t161).trans (hG_s267 57 27 (mh_nsI (by rfl))).1.symm
            have t292 : x162 = s267.1 57 29 := (t163).trans (hG_s267 57 29 (mh_nsI (by rfl))).1.symm
            have := congrArg Int32.toInt t100
            have := congrArg Int32.toInt t102
            have := congrArg Int32.toInt t104
            have := congrArg Int32.toInt t106
            have := congrArg Int32.toInt t108
            have := congrArg Int32.toInt t157
            have := congrArg Int32.toInt t158
            have := congrArg Int32.toInt t159
            have := congrArg Int32.toInt t161
            have := congrArg Int32.toInt t163
            have := congrArg Int32.toInt t270
            have := congrArg Int32.toInt t289
            have := congrArg Int32.toInt t290
            have := congrArg Int32.toInt t291
            have := congrArg Int32.toInt t292
            have := (r_x109).1; have := (r_x109).2
            have := (rc_0).1; have := (rc_0).2
            have := (r_x97).1; have := (r_x97).2
            have := (r_x99).1; have := (r_x99).2
            have := (r_x101).1; have := (r_x101).2
            have := (r_x103).1; have := (r_x103).2
            have := (r_x105).1; have := (r_x105).2
            have := (r_x107).1; have := (r_x107).2
            have := (r_x160).1; have := (r_x160).2
            have := (r_x162).1; have := (r_x162).2
            have := (r_x269).1; have := (r_x269).2
            have := kc_0
            have := kc_1
            have := kc_91
            have := kc_93
            have := kc_0; have := kc_1
            omega
      · skip
        refine mw_iconst (v := 0) 46 rfl dX10_stays_45 (by decide) ?_
        refine mw_zret dX10_stays_46 rfl (mh_r_wk rc_0 (by decide)) ⟨(0), rfl, ⟨(mh_r_wk rc_0 (by decide)), ?_, ?_, ?_, ?_, ?_, ?_, hI_s155, hF_s155⟩⟩
        · skip
          exact (show mh_pb b s155 by unfold mh_pb; rw [← t157, ← t158, ← t159, ← t161, ← t163]; have := kc_0; have := kc_1; have := (r_x109).1; have := (r_x109).2; have := (rc_0).1; have := (rc_0).2; have := (r_x97).1; have := (r_x97).2; have := (r_x99).1; have := (r_x99).2; have := (r_x101).1; have := (r_x101).2; have := (r_x103).1; have := (r_x103).2; have := (r_x105).1; have := (r_x105).2; have := (r_x107).1; have := (r_x107).2; have := (r_x160).1; have := (r_x160).2; have := (r_x162).1; have := (r_x162).2; have := kc_0; have := kc_1; have := kc_91; have := kc_93; omega)
        · skip
          exact mh_pk_tr e2_s155 (mh_pk_row (rfl))
        · skip
          have t293 : x97 = s155.1 57 31 := (t98).trans (hG_s155 57 31 (mh_nsI (by rfl))).1.symm
          have := congrArg Int32.toInt t100
          have := congrArg Int32.toInt t102
          have := congrArg Int32.toInt t104
          have := congrArg Int32.toInt t106
          have := congrArg Int32.toInt t108
          have := congrArg Int32.toInt t157
          have := congrArg Int32.toInt t158
          have := congrArg Int32.toInt t159
          have := congrArg Int32.toInt t161
          have := congrArg Int32.toInt t163
          have := (r_x109).1; have := (r_x109).2
          have := (rc_0).1; have := (rc_0).2
          have := (r_x97).1; have := (r_x97).2
          have := (r_x99).1; have := (r_x99).2
          have := (r_x101).1; have := (r_x101).2
          have := (r_x103).1; have := (r_x103).2
          have := (r_x105).1; have := (r_x105).2
          have := (r_x107).1; have := (r_x107).2
          have := (r_x160).1; have := (r_x160).2
          have := (r_x162).1; have := (r_x162).2
          have := kc_0
          have := kc_1
          have := kc_91
          have := kc_93
          refine ⟨fun q => absurd q (by decide), fun q => absurd q (by decide), fun _ => ?_⟩
          exact e1_s155
        · skip
          rw [← t108] at hab
          have := congrArg Int32.toInt t100
          have := congrArg Int32.toInt t102
          have := congrArg Int32.toInt t104
          have := congrArg Int32.toInt t106
          have := congrArg Int32.toInt t108
          have := congrArg Int32.toInt t157
          have := congrArg Int32.toInt t158
          have := congrArg Int32.toInt t159
          have := congrArg Int32.toInt t161
          have := congrArg Int32.toInt t163
          have := (r_x109).1; have := (r_x109).2
          have := (rc_0).1; have := (rc_0).2
          have := (r_x97).1; have := (r_x97).2
          have := (r_x99).1; have := (r_x99).2
          have := (r_x101).1; have := (r_x101).2
          have := (r_x103).1; have := (r_x103).2
          have := (r_x105).1; have := (r_x105).2
          have := (r_x107).1; have := (r_x107).2
          have := (r_x160).1; have := (r_x160).2
          have := (r_x162).1; have := (r_x162).2
          have := kc_0
          have := kc_1
          have := kc_91
          have := kc_93
          have h76 : s155.1 76 = s0.1 76 := (rfl).trans h76s
          have hst : (s155.1 57 29).toInt.toNat = x162.toInt.toNat := by rw [← t163]
          rw [hst, h76]
          exact ⟨hge, mh_ab_sub hab (by omega), fun j hj => rfl⟩
        · skip
          intro _ _
          have h9 := e5_s155
          have h8 := h9.2 (by decide)
          omega
        · skip
          have := congrArg Int32.toInt t100
          have := congrArg Int32.toInt t102
          have := congrArg Int32.toInt t104
          have := congrArg Int32.toInt t106
          have := congrArg Int32.toInt t108
          have := congrArg Int32.toInt t157
          have := congrArg Int32.toInt t158
          have := congrArg Int32.toInt t159
          have := congrArg Int32.toInt t161
          have := congrArg Int32.toInt t163
          have := (r_x109).1; have := (r_x109).2
          have := (rc_0).1; have := (rc_0).2
          have := (r_x97).1; have := (r_x97).2
          have := (r_x99).1; have := (r_x99).2
          have := (r_x101).1; have := (r_x101).2
          have := (r_x103).1; have := (r_x103).2
          have := (r_x105).1; have := (r_x105).2
          have := (r_x107).1; have := (r_x107).2
          have := (r_x160).1; have := (r_x160).2
          have := (r_x162).1; have := (r_x162).2
          have := kc_0
          have := kc_1
          have := kc_91
          have := kc_93
          have := kc_0; have := kc_1
          omega
    · skip
      have hk_x150 := e0_s151.1 (mh_z1 r_x150 c153)
      have r_x150 : mh_r x150 (1) (1) := mh_ne1 (show x150.toInt ≠ (0 : Int32).toInt from c153) r_x150 rc_0 (1) (1) (by decide)
      refine mw_aload_n 20 rfl 1 dX10_stays_19 rfl rfl ?_
      refine mw_iload_n 21 rfl 0 dX10_stays_20 rfl rfl ?_
      refine mw_callSi [.int x109] [.ref (G.2.2.2 57)] 24 rfl dX10_stays_21 ml_X10_234 mc_X10_isPlus mk_X10_isPlus (w_X10_isPlus l G (d + 2) ⟨by omega, by omega⟩ hI0 x109) rfl rfl (Nat.le_of_ble_eq_true rfl) (mh_rok (by omega) (by decide)) (fun x294 s295 q296 => ?_)
      obtain ⟨r_x294, e0_s295, rfl⟩ := q296
      refine mw_callVv [.int x294] [] 27 rfl dX10_stays_24 ml_X10_249 mc_X10_folds mk_X10_folds rfl rfl (by decide) (w_X10_folds l G (d + 0) ⟨by omega, by omega⟩ hI0 x294 r_x294 b (show mh_pb b s0 by unfold mh_pb; rw [← t100, ← t102, ← t104, ← t106, ← t108]; have := kc_0; have := kc_1; have := (r_x109).1; have := (r_x109).2; have := (r_x97).1; have := (r_x97).2; have := (r_x99).1; have := (r_x99).2; have := (r_x101).1; have := (r_x101).2; have := (r_x103).1; have := (r_x103).2; have := (r_x105).1; have := (r_x105).2; have := (r_x107).1; have := (r_x107).2; have := kc_0; have := kc_1; have := kc_91; have := kc_93; omega) hd) rfl rfl (Nat.le_of_ble_eq_true rfl) (mh_rok (by omega) (by decide)) (fun s298 q299 => ?_)
      obtain ⟨e0_s298, e1_s298, e2_s298, e3_s298, e4_s298, e5_s298, hI_s298, hG_s298⟩ := q299
      have hF_s298 : mh_F S_X10_stays s0 s298 := mh_F_tl hF0 hG_s298 (by decide +kernel)
      have t300 : x99 = s298.1 57 23 := (t100).trans (hG_s298 57 23 (mh_nsI (by rfl))).1.symm
      have t301 : x101 = s298.1 57 24 := (t102).trans (hG_s298 57 24 (mh_nsI (by rfl))).1.symm
      have t302 : x103 = s298.1 57 25 := (t104).trans (hG_s298 57 25 (mh_nsI (by rfl))).1.symm
      obtain ⟨x303, t304⟩ : ∃ z : Int32, z = s298.1 57 27 := ⟨_, rfl⟩
      obtain ⟨x305, t306⟩ : ∃ z : Int32, z = s298.1 57 29 := ⟨_, rfl⟩
      have pb_s298 : 0 ≤ x99.toInt ∧ x99.toInt ≤ x101.toInt ∧ x101.toInt ≤ 200 ∧ 0 ≤ x305.toInt ∧ 0 ≤ b ∧ b ≤ x303.toInt ∧ x305.toInt + x303.toInt ≤ x99.toInt ∧ x103.toInt ≤ 0 := by have h9 := e0_s298; unfold mh_pb at h9; rw [← t300, ← t301, ← t302, ← t304, ← t306] at h9; exact h9
      have r_x303 : mh_r x303 (0) (200) := ⟨by have := ((mh_r_full x303)).1; omega, by have := ((mh_r_full x303)).2; omega⟩
      have r_x305 : mh_r x305 (0) (200) := ⟨by have := ((mh_r_full x305)).1; omega, by have := ((mh_r_full x305)).2; omega⟩
      have hp_s298 := e3_s298
      rw [← t306, ← t108] at hp_s298
      have hge := mh_fl_ge hfl hh (fun j h1 h2 => by have := e4_s298 j h1 h2; unfold mh_vs; omega)
      rw [← t306] at hge
      have h76s : s298.1 76 = s0.1 76 := mh_F_row hG_s298 76 rfl
      refine mw_aload_n 28 rfl 1 dX10_stays_27 rfl rfl ?_
      refine mw_iload_n 29 rfl 0 dX10_stays_28 rfl rfl ?_
      refine mw_callVv [.int x109] [] 32 rfl dX10_stays_29 ml_X10_218 mc_X10_puts mk_X10_puts rfl rfl (by decide) (w_X10_puts l G (d + 2) ⟨by omega, by omega⟩ hI_s298 x109 (by rw [← t306, ← t300]; have := (r_x109).1; have := (r_x109).2; have := (r_x97).1; have := (r_x97).2; have := (r_x99).1; have := (r_x99).2; have := (r_x101).1; have := (r_x101).2; have := (r_x103).1; have := (r_x103).2; have := (r_x105).1; have := (r_x105).2; have := (r_x107).1; have := (r_x107).2; have := (r_x303).1; have := (r_x303).2; have := (r_x305).1; have := (r_x305).2; have := kc_0; have := kc_1; have := kc_91; have := kc_93; omega)) rfl rfl (Nat.le_of_ble_eq_true rfl) (mh_rok (by omega) (by decide)) (fun s308 q309 => ?_)
      obtain ⟨e0_s308, hI_s308, hG_s308⟩ := q309
      have hF_s308 : mh_F S_X10_stays s0 s308 := mh_F_tl hF_s298 hG_s308 (by decide +kernel)
      obtain ⟨x310, t311⟩ : ∃ z : Int32, z = s308.1 57 29 := ⟨_, rfl⟩
      obtain ⟨x312, t313⟩ : ∃ z : Int32, z = s308.1 57 23 := ⟨_, rfl⟩
      rw [← t306, ← t311, ← t300, ← t313] at e0_s308
      have r_x310 : mh_r x310 (1) (201) := ⟨by have := e0_s308.2; have := (r_x305).1; omega, by have := e0_s308.2; have := (r_x305).2; omega⟩
      have r_x312 : mh_r x312 (1) (201) := ⟨by have := e0_s308.2; have := (r_x99).1; omega, by have := e0_s308.2; have := (r_x99).2; omega⟩
      refine mw_iconst (v := 1) 33 rfl dX10_stays_32 (by decide) ?_
      refine mw_zret dX10_stays_33 rfl (mh_r_wk rc_1 (by decide)) ⟨(1), rfl, ⟨(mh_r_wk rc_1 (by decide)), ?_, ?_, ?_, ?_, ?_, ?_, hI_s308, hF_s308⟩⟩
      · skip
        have t314 : x101 = s308.1 57 24 := (t301).trans (hG_s308 57 24 (mh_nsI (by rfl))).1.symm
        have t315 : x103 = s308.1 57 25 := (t302).trans (hG_s308 57 25 (mh_nsI (by rfl))).1.symm
        have t316 : x303 = s308.1 57 27 := (t304).trans (hG_s308 57 27 (mh_nsI (by rfl))).1.symm
        exact (show mh_pb b s308 by unfold mh_pb; rw [← t313, ← t314, ← t315, ← t316, ← t311]; have := kc_0; have := kc_1; have := (r_x109).1; have := (r_x109).2; have := (rc_1).1; have := (rc_1).2; have := (r_x97).1; have := (r_x97).2; have := (r_x99).1; have := (r_x99).2; have := (r_x101).1; have := (r_x101).2; have := (r_x103).1; have := (r_x103).2; have := (r_x105).1; have := (r_x105).2; have := (r_x107).1; have := (r_x107).2; have := (r_x303).1; have := (r_x303).2; have := (r_x305).1; have := (r_x305).2; have := (r_x310).1; have := (r_x310).2; have := (r_x312).1; have := (r_x312).2; have := kc_0; have := kc_1; have := kc_91; have := kc_93; omega)
      · skip
        exact mh_pk_tr e2_s298 (mh_pk_row ((mh_F_row hG_s308 74 rfl)))
      · skip
        have t317 : x101 = s308.1 57 24 := (t301).trans (hG_s308 57 24 (mh_nsI (by rfl))).1.symm
        have t318 : x103 = s308.1 57 25 := (t302).trans (hG_s308 57 25 (mh_nsI (by rfl))).1.symm
        have t319 : x303 = s308.1 57 27 := (t304).trans (hG_s308 57 27 (mh_nsI (by rfl))).1.symm
        have t320 : x97 = s298.1 57 31 := (t98).trans (hG_s298 57 31 (mh_nsI (by rfl))).1.symm
        have t321 : x97 = s308.1 57 31 := (t320).trans (hG_s308 57 31 (mh_nsI (by rfl))).1.symm
        have := congrArg Int32.toInt t100
        have := congrArg Int32.toInt t102
        have := congrArg Int32.toInt t104
        have := congrArg Int32.toInt t106
        have := congrArg Int32.toInt t108
        have := congrArg Int32.toInt t300
        have := congrArg Int32.toInt t301
        have := congrArg Int32.toInt t302
        have := congrArg Int32.toInt t304
        have := congrArg Int32.toInt t306
        have := congrArg Int32.toInt t311
        have := congrArg Int32.toInt t313
        have := congrArg Int32.toInt t317
        have := congrArg Int32.toInt t318
        have := congrArg Int32.toInt t319
        have := (r_x109).1; have := (r_x109).2
        have := (rc_1).1; have := (rc_1).2
        have := (r_x97).1; have := (r_x97).2
        have := (r_x99).1; have := (r_x99).2
        have := (r_x101).1; have := (r_x101).2
        have := (r_x103).1; have := (r_x103).2
        have := (r_x105).1; have := (r_x105).2
        have := (r_x107).1; have := (r_x107).2
        have := (r_x303).1; have := (r_x303).2
        have := (r_x305).1; have := (r_x305).2
        have := (r_x310).1; have := (r_x310).2
        have := (r_x312).1; have := (r_x312).2
        have := kc_0
        have := kc_1
        have := kc_91
        have := kc_93
        have := congrArg Int32.toInt t321
        have := (r_x97).1; have := (r_x97).2
        refine ⟨fun _ _ => ?_, fun _ q => absurd q (by omega), fun q => absurd q (by decide)⟩
        intro hg9
        have hB := e1_s298 (by rw [← t302]; omega)
        rw [← t304, ← t306] at hB
        have h74 : s308.1 74 = s298.1 74 := (mh_F_row hG_s308 74 rfl)
        have hcod : (s308.1 57 27).toInt = x303.toInt := by rw [← t319]
        have hst : (s308.1 57 29).toInt.toNat = x305.toInt.toNat + 1 := by rw [← t311]; omega
        rw [h74, e0_s308.1, hcod, hst]
        exact mh_pdr_pb hB (by show ¬ (_ ∨ _ ∨ _); omega)
      · skip
        have t322 : x101 = s308.1 57 24 := (t301).trans (hG_s308 57 24 (mh_nsI (by rfl))).1.symm
        have t323 : x103 = s308.1 57 25 := (t302).trans (hG_s308 57 25 (mh_nsI (by rfl))).1.symm
        have t324 : x303 = s308.1 57 27 := (t304).trans (hG_s308 57 27 (mh_nsI (by rfl))).1.symm
        rw [← t108] at hab
        have := congrArg Int32.toInt t100
        have := congrArg Int32.toInt t102
        have := congrArg Int32.toInt t104
        have := congrArg Int32.toInt t106
        have := congrArg Int32.toInt t108
        have := congrArg Int32.toInt t300
        have := congrArg Int32.toInt t301
        have := congrArg Int32.toInt t302
        have := congrArg Int32.toInt t304
        have := congrArg Int32.toInt t306
        have := congrArg Int32.toInt t311
        have := congrArg Int32.toInt t313
        have := congrArg Int32.toInt t322
        have := congrArg Int32.toInt t323
        have := congrArg Int32.toInt t324
        have := (r_x109).1; have := (r_x109).2
        have := (rc_1).1; have := (rc_1).2
        have := (r_x97).1; have := (r_x97).2
        have := (r_x99).1; have := (r_x99).2
        have := (r_x101).1; have := (r_x101).2
        have := (r_x103).1; have := (r_x103).2
        have := (r_x105).1; have := (r_x105).2
        have := (r_x107).1; have := (r_x107).2
        have := (r_x303).1; have := (r_x303).2
        have := (r_x305).1; have := (r_x305).2
        have := (r_x310).1; have := (r_x310).2
        have := (r_x312).1; have := (r_x312).2
        have := kc_0
        have := kc_1
        have := kc_91
        have := kc_93
        have hst : (s308.1 57 29).toInt.toNat = x305.toInt.toNat + 1 := by rw [← t311]; omega
        rw [hst, e0_s308.1, h76s]
        exact ⟨by omega, mh_ab_psh (mh_ab_sub hab (by omega)) (by unfold mh_vs; omega), fun j hj => mh_u1_lt (by omega)⟩
      · skip
        intro q
        exact absurd q (by decide)
      · skip
        have t325 : x101 = s308.1 57 24 := (t301).trans (hG_s308 57 24 (mh_nsI (by rfl))).1.symm
        have t326 : x103 = s308.1 57 25 := (t302).trans (hG_s308 57 25 (mh_nsI (by rfl))).1.symm
        have t327 : x303 = s308.1 57 27 := (t304).trans (hG_s308 57 27 (mh_nsI (by rfl))).1.symm
        have := congrArg Int32.toInt t100
        have := congrArg Int32.toInt t102
        have := congrArg Int32.toInt t104
        have := congrArg Int32.toInt t106
        have := congrArg Int32.toInt t108
        have := congrArg Int32.toInt t300
        have := congrArg Int32.toInt t301
        have := congrArg Int32.toInt t302
        have := congrArg Int32.toInt t304
        have := congrArg Int32.toInt t306
        have := congrArg Int32.toInt t311
        have := congrArg Int32.toInt t313
        have := congrArg Int32.toInt t325
        have := congrArg Int32.toInt t326
        have := congrArg Int32.toInt t327
        have := (r_x109).1; have := (r_x109).2
        have := (rc_1).1; have := (rc_1).2
        have := (r_x97).1; have := (r_x97).2
        have := (r_x99).1; have := (r_x99).2
        have := (r_x101).1; have := (r_x101).2
        have := (r_x103).1; have := (r_x103).2
        have := (r_x105).1; have := (r_x105).2
        have := (r_x107).1; have := (r_x107).2
        have := (r_x303).1; have := (r_x303).2
        have := (r_x305).1; have := (r_x305).2
        have := (r_x310).1; have := (r_x310).2
        have := (r_x312).1; have := (r_x312).2
        have := kc_0
        have := kc_1
        have := kc_91
        have := kc_93
        have := kc_0; have := kc_1
        omega

def S_X10_value : List (Nat × Nat) := [(57, 31), (57, 28), (76, 9999), (57, 29), (57, 23), (57, 25), (74, 9999), (75, 9999), (57, 27)]
def P_X10_value (B D : Int) (s0 : mh_H) (b : Int) : mh_H → Prop := fun s => (mh_pb b s) ∧ (mh_pk b s0 s) ∧ ((s.1 57 25).toInt = 0 → (s.1 57 29).toInt = (s0.1 57 29).toInt ∧ (∀ j : Nat, j < (s0.1 57 29).toInt.toNat → s.1 76 j = s0.1 76 j)) ∧ (mh_pd b 1 s) ∧ ((s0.1 57 23).toInt ≤ (s.1 57 23).toInt ∧ ((s.1 57 25).toInt = 0 → (s0.1 57 23).toInt + 1 ≤ (s.1 57 23).toInt)) ∧ mh_I B D s ∧ mh_F S_X10_value s0 s
set_option maxRecDepth 100000 in
set_option maxHeartbeats 4000000 in
theorem w_X10_value (l : Launch) (G : mh_G) (d : Nat) {B D : Int} (hB : B ≤ 1920000000 ∧ D ≤ 1920000000) {s0 : mh_H} (hI0 : mh_I B D s0) (b : Int) (hb : mh_pb b s0) (hd : mh_pd b 0 s0) (hg : (s0.1 57 25).toInt = 0) (hfl : mh_fl (s0.1 76) (s0.1 57 29).toInt.toNat) : mh_Mv l G (d + 4) mM_X10_value [.ref (G.2.2.2 57)] s0 (P_X10_value B D s0 b) := by
  refine mh_enter (lv := [(0, .ref (G.2.2.2 57))]) (by decide) rfl (Nat.le_of_ble_eq_true rfl) ?_
  have hF0 : mh_F S_X10_value s0 s0 := mh_F_rf
  obtain ⟨x220, t221⟩ : ∃ z : Int32, z = s0.1 57 31 := ⟨_, rfl⟩
  obtain ⟨x222, t223⟩ : ∃ z : Int32, z = s0.1 57 23 := ⟨_, rfl⟩
  obtain ⟨x224, t225⟩ : ∃ z : Int32, z = s0.1 57 24 := ⟨_, rfl⟩
  obtain ⟨x226, t227⟩ : ∃ z : Int32, z = s0.1 57 25 := ⟨_, rfl⟩
  obtain ⟨x228, t229⟩ : ∃ z : Int32, z = s0.1 57 27 := ⟨_, rfl⟩
  obtain ⟨x230, t231⟩ : ∃ z : Int32, z = s0.1 57 29 := ⟨_, rfl⟩
  have pb_s0 : 0 ≤ x222.toInt ∧ x222.toInt ≤ x224.toInt ∧ x224.toInt ≤ 200 ∧ 0 ≤ x230.toInt ∧ 0 ≤ b ∧ b ≤ x228.toInt ∧ x230.toInt + x228.toInt ≤ x222.toInt ∧ x226.toInt ≤ 0 := by have h9 := hb; unfold mh_pb at h9; rw [← t223, ← t225, ← t227, ← t229, ← t231] at h9; exact h9
  have r_x222 : mh_r x222 (0) (200) := ⟨by have := ((mh_r_full x222)).1; omega, by have := ((mh_r_full x222)).2; omega⟩
  have r_x224 : mh_r x224 (0) (200) := ⟨by have := ((mh_r_full x224)).1; omega, by have := ((mh_r_full x224)).2; omega⟩
  have r_x226 : mh_r x226 (-2147483648) (0) := ⟨by have := ((mh_r_full x226)).1; omega, by have := ((mh_r_full x226)).2; omega⟩
  have r_x228 : mh_r x228 (0) (200) := ⟨by have := ((mh_r_full x228)).1; omega, by have := ((mh_r_full x228)).2; omega⟩
  have r_x230 : mh_r x230 (0) (200) := ⟨by have := ((mh_r_full x230)).1; omega, by have := ((mh_r_full x230)).2; omega⟩
  refine mw_iconst (v := 1) 1 rfl dX10_value_0 (by decide) ?_
  refine mw_istore_n 2 rfl [(1, .int (1)), (0, .ref (G.2.2.2 57))] dX10_value_1 rfl (by decide) rfl ?_
  refine mw_aload_n 3 rfl 1 dX10_value_2 rfl rfl ?_
  refine mw_iconst (v := 0) 4 rfl dX10_value_3 (by decide) ?_
  refine mw_putz 7 rfl dX10_value_4 pf_X10_253 rfl (mh_r_wk rc_0 (by decide)) (fun s232 t233 => ?_)
  have hI_s232 : mh_I B D s232 := by rw [t233]; exact wr_57_31 hI0 (mh_r_wk rc_0 (by decide))
  have hF_s232 : mh_F S_X10_value s0 s232 := by rw [t233]; exact mh_F_pI hF0 (mh_sj 0 rfl)
  have L7 : ∀ n1 : Nat, ∀ (x274 : Int32) (s275 : mh_H), mh_r x274 (0) (1) → mh_I B D s275 → mh_F S_X10_value s0 s275 → (mh_pb b s275 ∧ mh_pk b s0 s275 ∧ (s0.1 57 29).toInt.toNat ≤ (s275.1 57 29).toInt.toNat ∧ mh_ab (s275.1 76) (s0.1 57 29).toInt.toNat (s275.1 57 29).toInt.toNat ∧ (∀ j : Nat, j < (s0.1 57 29).toInt.toNat → s275.1 76 j = s0.1 76 j) ∧ (x274.toInt = 1 → ((s275.1 57 31).toInt = 0 → mh_pd b 0 s275) ∧ ((s275.1 57 31).toInt = 1 → mh_pd b 1 s275 ∧ (s0.1 57 23).toInt + 1 ≤ (s275.1 57 23).toInt)) ∧ (x274.toInt = 0 → (s275.1 57 25).toInt = 0 → mh_pd b 1 s275 ∧ (¬ ((mh_tp s275).toInt = 42 ∨ (mh_tp s275).toInt = 47 ∨ (mh_tp s275).toInt = 37 ∨ (mh_tp s275).toInt = 43 ∨ (mh_tp s275).toInt = 45)) ∧ (s0.1 57 23).toInt + 1 ≤ (s275.1 57 23).toInt) ∧ (s0.1 57 23).toInt ≤ (s275.1 57 23).toInt) → 2 * (200 - (s275.1 57 23).toInt) + x274.toInt < (n1 : Int) → mh_W G (mh_XM l G (d + 4) (mh_Qv (P_X10_value B D s0 b))) mM_X10_value 7 [(0, .ref (G.2.2.2 57)), (1, .int x274)] [] s275 := by
    intro n1
    induction n1 with
    | zero =>
      intro x274 s275 r_x274 hI_s275 hF_s275 iv hmn1
      exact absurd hmn1 (by have h9 := iv.1; unfold mh_pb at h9; have := r_x274.1; omega)
    | succ n1 ihn1 =>
      intro x274 s275 r_x274 hI_s275 hF_s275 iv hmn1
      obtain ⟨x349, t350⟩ : ∃ z : Int32, z = s275.1 57 23 := ⟨_, rfl⟩
      obtain ⟨x351, t352⟩ : ∃ z : Int32, z = s275.1 57 24 := ⟨_, rfl⟩
      obtain ⟨x353, t354⟩ : ∃ z : Int32, z = s275.1 57 25 := ⟨_, rfl⟩
      obtain ⟨x355, t356⟩ : ∃ z : Int32, z = s275.1 57 27 := ⟨_, rfl⟩
      obtain ⟨x357, t358⟩ : ∃ z : Int32, z = s275.1 57 29 := ⟨_, rfl⟩
      have pb_s275 : 0 ≤ x349.toInt ∧ x349.toInt ≤ x351.toInt ∧ x351.toInt ≤ 200 ∧ 0 ≤ x357.toInt ∧ 0 ≤ b ∧ b ≤ x355.toInt ∧ x357.toInt + x355.toInt ≤ x349.toInt ∧ x353.toInt ≤ 0 := by have h9 := iv.1; unfold mh_pb at h9; rw [← t350, ← t352, ← t354, ← t356, ← t358] at h9; exact h9
      have r_x349 : mh_r x349 (0) (200) := ⟨by have := ((mh_r_full x349)).1; omega, by have := ((mh_r_full x349)).2; omega⟩
      have r_x351 : mh_r x351 (0) (200) := ⟨by have := ((mh_r_full x351)).1; omega, by have := ((mh_r_full x351)).2; omega⟩
      have r_x353 : mh_r x353 (-2147483648) (0) := ⟨by have := ((mh_r_full x353)).1; omega, by have := ((mh_r_full x353)).2; omega⟩
      have r_x355 : mh_r x355 (0) (200) := ⟨by have := ((mh_r_full x355)).1; omega, by have := ((mh_r_full x355)).2; omega⟩
      have r_x357 : mh_r x357 (0) (200) := ⟨by have := ((mh_r_full x357)).1; omega, by have := ((mh_r_full x357)).2; omega⟩
      obtain ⟨x359, t360⟩ : ∃ z : Int32, z = s275.1 57 31 := ⟨_, rfl⟩
      have r_x359 : mh_r x359 (0) (1) := by rw [t360]; exact rd_57_31 hI_s275
      refine mw_iload_n 8 rfl 1 dX10_value_7 rfl rfl ?_
      refine mw_if_eq 11 rfl 57 dX10_value_8 (by decide) (fun c361 => ?_) (fun c361 => ?_)
      · skip
        have r_x274 : mh_r x274 (0) (0) := mh_eq1 (show x274.toInt = (0 : Int32).toInt from c361) r_x274 rc_0 (0) (0) (by decide)
        refine mw_aload_n 58 rfl 0 dX10_value_57 rfl rfl ?_
        refine mw_callVi [] [] 61 rfl dX10_value_58 ml_X10_197 mc_X10_isGood mk_X10_isGood rfl rfl (by decide) (w_X10_isGood l G (d + 3) ⟨by omega, by omega⟩ hI_s275) rfl rfl (Nat.le_of_ble_eq_true rfl) (mh_rok (by omega) (by decide)) (fun x362 s363 q364 => ?_)
        obtain ⟨r_x362, e0_s363, rfl⟩ := q364
        rw [← t354] at e0_s363
        refine mw_if_eq 64 rfl 82 dX10_value_61 (by decide) (fun c365 => ?_) (fun c365 => ?_)
        · skip
          have r_x353 : mh_r x353 (-2147483648) (-1) := ⟨(r_x353).1, by have := (r_x353).2; have : x353.toInt ≠ 0 := (fun q => by have := e0_s363.2 q; have := c365; omega); omega⟩
          have r_x362 : mh_r x362 (0) (0) := mh_eq1 (show x362.toInt = (0 : Int32).toInt from c365) r_x362 rc_0 (0) (0) (by decide)
          refine mw_vret dX10_value_82 rfl ⟨rfl, ⟨?_, ?_, ?_, ?_, ?_, hI_s275, hF_s275⟩⟩
          · skip
            exact (show mh_pb b s275 by unfold mh_pb; rw [← t350, ← t352, ← t354, ← t356, ← t358]; have := kc_0; have := kc_1; have := (r_x274).1; have := (r_x274).2; have := (r_x222).1; have := (r_x222).2; have := (r_x224).1; have := (r_x224).2; have := (r_x226).1; have := (r_x226).2; have := (r_x228).1; have := (r_x228).2; have := (r_x230).1; have := (r_x230).2; have := (r_x349).1; have := (r_x349).2; have := (r_x351).1; have := (r_x351).2; have := (r_x353).1; have := (r_x353).2; have := (r_x355).1; have := (r_x355).2; have := (r_x357).1; have := (r_x357).2; have := (r_x359).1; have := (r_x359).2; have := kc_0; have := kc_1; have := kc_91; omega)
          · skip
            exact mh_pk_tr iv.2.1 (mh_pk_row (rfl))
          · skip
            have := congrArg Int32.toInt t223
            have := congrArg Int32.toInt t225
            have := congrArg Int32.toInt t227
            have := congrArg Int32.toInt t229
            have := congrArg Int32.toInt t231
            have := congrArg Int32.toInt t350
            have := congrArg Int32.toInt t352
            have := congrArg Int32.toInt t354
            have := congrArg Int32.toInt t356
            have := congrArg Int32.toInt t358
            have := (r_x274).1; have := (r_x274).2
            have := (r_x222).1; have := (r_x222).2
            have := (r_x224).1; have := (r_x224).2
            have := (r_x226).1; have := (r_x226).2
            have := (r_x228).1; have := (r_x228).2
            have := (r_x230).1; have := (r_x230).2
            have := (r_x349).1; have := (r_x349).2
            have := (r_x351).1; have := (r_x351).2
            have := (r_x353).1; have := (r_x353).2
            have := (r_x355).1; have := (r_x355).2
            have := (r_x357).1; have := (r_x357).2
            have := (r_x359).1; have := (r_x359).2
            have := kc_0
            have := kc_1
            have := kc_91
            intro q
            exfalso
            omega
          · skip
            intro q
            exfalso
            have := congrArg Int32.toInt t223
            have := congrArg Int32.toInt t225
            have := congrArg Int32.toInt t227
            have := congrArg Int32.toInt t229
            have := congrArg Int32.toInt t231
            have := congrArg Int32.toInt t350
            have := congrArg Int32.toInt t352
            have := congrArg Int32.toInt t354
            have := congrArg Int32.toInt t356
            have := congrArg Int32.toInt t358
            have := (r_x274).1; have := (r_x274).2
            have := (r_x222).1; have := (r_x222).2
            have := (r_x224).1; have := (r_x224).2
            have := (r_x226).1; have := (r_x226).2
            have := (r_x228).1; have := (r_x228).2
            have := (r_x230).1; have := (r_x230).2
            have := (r_x349).1; have := (r_x349).2
            have := (r_x351).1; have := (r_x351).2
            have := (r_x353).1; have := (r_x353).2
            have := (r_x355).1; have := (r_x355).2
            have := (r_x357).1; have := (r_x357).2
            have := (r_x359).1; have := (r_x359).2
            have := kc_0
            have := kc_1
            have := kc_91
            omega
          · skip
            have := congrArg Int32.toInt t223
            have := congrArg Int32.toInt t225
            have := congrArg Int32.toInt t227
            have := congrArg Int32.toInt t229
            have := congrArg Int32.toInt t231
            have := congrArg Int32.toInt t350
            have := congrArg Int32.toInt t352
            have := congrArg Int32.toInt t354
            have := congrArg Int32.toInt t356
            have := congrArg Int32.toInt t358
            have := (r_x274).1; have := (r_x274).2
            have := (r_x222).1; have := (r_x222).2
            have := (r_x224).1; have := (r_x224).2
            have := (r_x226).1; have := (r_x226).2
            have := (r_x228).1; have := (r_x228).2
            have := (r_x230).1; have := (r_x230).2
            have := (r_x349).1; have := (r_x349).2
            have := (r_x351).1; have := (r_x351).2
            have := (r_x353).1; have := (r_x353).2
            have := (r_x355).1; have := (r_x355).2
            have := (r_x357).1; have := (r_x357).2
            have := (r_x359).1; have := (r_x359).2
            have := kc_0
            have := kc_1
            have := kc_91
            have := iv.2.2.2.2.2.2.2
            refine ⟨by omega, fun q => ?_⟩
            exfalso
            omega
        · skip
          have r_x353 : mh_r x353 (0) (0) := ⟨by have := e0_s363.1 (mh_z1 r_x362 c365); omega, by have := e0_s363.1 (mh_z1 r_x362 c365); omega⟩
          have r_x362 : mh_r x362 (1) (1) := mh_ne1 (show x362.toInt ≠ (0 : Int32).toInt from c365) r_x362 rc_0 (1) (1) (by decide)
          refine mw_aload_n 65 rfl 0 dX10_value_64 rfl rfl ?_
          refine mw_callVi [] [] 68 rfl dX10_value_65 ml_X10_228 mc_X10_top mk_X10_top rfl rfl (by decide) (w_X10_top l G (d + 3) ⟨by omega, by omega⟩ hI_s275 (by rw [← t358]; have := (r_x274).1; have := (r_x274).2; have := (r_x222).1; have := (r_x222).2; have := (r_x224).1; have := (r_x224).2; have := (r_x226).1; have := (r_x226).2; have := (r_x228).1; have := (r_x228).2; have := (r_x230).1; have := (r_x230).2; have := (r_x349).1; have := (r_x349).2; have := (r_x351).1; have := (r_x351).2; have := (r_x353).1; have := (r_x353).2; have := (r_x355).1; have := (r_x355).2; have := (r_x357).1; have := (r_x357).2; have := (r_x359).1; have := (r_x359).2; have := kc_0; have := kc_1; have := kc_91; omega)) rfl rfl (Nat.le_of_ble_eq_true rfl) (mh_rok (by omega) (by decide)) (fun x366 s367 q368 => ?_)
          obtain ⟨r_x366, e0_s367, rfl⟩ := q368
          have hq_x366 : x366.toInt ≠ 0 → 0 < x357.toInt ∧ s275.1 76 (x357.toInt.toNat - 1) = x366 := fun q => by rw [t358]; have h9 := mh_tp_s (σ := s275) (by rw [← e0_s367]; exact q); rw [← e0_s367] at h9; exact h9
          refine mw_bipush (v := 91) 70 rfl dX10_value_68 (by decide) ?_
          refine mw_icmp_ne 73 rfl 82 dX10_value_70 (by decide) (fun c369 => ?_) (fun c369 => ?_)
          · skip
            refine mw_vret dX10_value_82 rfl ⟨rfl, ⟨?_, ?_, ?_, ?_, ?_, hI_s275, hF_s275⟩⟩
            · skip
              exact (show mh_pb b s275 by unfold mh_pb; rw [← t350, ← t352, ← t354, ← t356, ← t358]; have := kc_0; have := kc_1; have := (r_x274).1; have := (r_x274).2; have := (r_x222).1; have := (r_x222).2; have := (r_x224).1; have := (r_x224).2; have := (r_x226).1; have := (r_x226).2; have := (r_x228).1; have := (r_x228).2; have := (r_x230).1; have := (r_x230).2; have := (r_x349).1; have := (r_x349).2; have := (r_x351).1; have := (r_x351).2; have := (r_x353).1; have := (r_x353).2; have := (r_x355).1; have := (r_x355).2; have := (r_x357).1; have := (r_x357).2; have := (r_x359).1; have := (r_x359).2; have := kc_0; have := kc_1; have := kc_91; omega)
            · skip
              exact mh_pk_tr iv.2.1 (mh_pk_row (rfl))
            · skip
              have := congrArg Int32.toInt t223
              have := congrArg Int32.toInt t225
              have := congrArg Int32.toInt t227
              have := congrArg Int32.toInt t229
              have := congrArg Int32.toInt t231
              have := congrArg Int32.toInt t350
              have := congrArg Int32.toInt t352
              have := congrArg Int32.toInt t354
              have := congrArg Int32.toInt t356
              have := congrArg Int32.toInt t358
              have := (r_x274).1; have := (r_x274).2
              have := (r_x222).1; have := (r_x222).2
              have := (r_x224).1; have := (r_x224).2
              have := (r_x226).1; have := (r_x226).2
              have := (r_x228).1; have := (r_x228).2
              have := (r_x230).1; have := (r_x230).2
              have := (r_x349).1; have := (r_x349).2
              have := (r_x351).1; have := (r_x351).2
              have := (r_x353).1; have := (r_x353).2
              have := (r_x355).1; have := (r_x355).2
              have := (r_x357).1; have := (r_x357).2
              have := (r_x359).1; have := (r_x359).2
              have := kc_0
              have := kc_1
              have := kc_91
              intro q
              have hx := iv.2.2.2.2.2.2.1 (by omega) q
              have h9 : ¬ (s0.1 57 29).toInt.toNat < (s275.1 57 29).toInt.toNat := fun q2 => by
                have h8 := iv.2.2.2.1 ((s275.1 57 29).toInt.toNat - 1) (by omega) (by omega)
                have h7 : s275.1 76 ((s275.1 57 29).toInt.toNat - 1) = mh_tp s275 := by unfold mh_tp; rw [if_pos (by omega)]
                rw [h7] at h8
                have h6 := hx.2.1
                rw [← e0_s367] at h8 h6
                unfold mh_vs at h8
                omega
              have h5 := iv.2.2.1
              exact ⟨by omega, iv.2.2.2.2.1⟩
            · skip
              have := congrArg Int32.toInt t223
              have := congrArg Int32.toInt t225
              have := congrArg Int32.toInt t227
              have := congrArg Int32.toInt t229
              have := congrArg Int32.toInt t231
              have := congrArg Int32.toInt t350
              have := congrArg Int32.toInt t352
              have := congrArg Int32.toInt t354
              have := congrArg Int32.toInt t356
              have := congrArg Int32.toInt t358
              have := (r_x274).1; have := (r_x274).2
              have := (r_x222).1; have := (r_x222).2
              have := (r_x224).1; have := (r_x224).2
              have := (r_x226).1; have := (r_x226).2
              have := (r_x228).1; have := (r_x228).2
              have := (r_x230).1; have := (r_x230).2
              have := (r_x349).1; have := (r_x349).2
              have := (r_x351).1; have := (r_x351).2
              have := (r_x353).1; have := (r_x353).2
              have := (r_x355).1; have := (r_x355).2
              have := (r_x357).1; have := (r_x357).2
              have := (r_x359).1; have := (r_x359).2
              have := kc_0
              have := kc_1
              have := kc_91
              exact fun q => (iv.2.2.2.2.2.2.1 (by omega) q).1 q
            · skip
              have := congrArg Int32.toInt t223
              have := congrArg Int32.toInt t225
              have := congrArg Int32.toInt t227
              have := congrArg Int32.toInt t229
              have := congrArg Int32.toInt t231
              have := congrArg Int32.toInt t350
              have := congrArg Int32.toInt t352
              have := congrArg Int32.toInt t354
              have := congrArg Int32.toInt t356
              have := congrArg Int32.toInt t358
              have := (r_x274).1; have := (r_x274).2
              have := (r_x222).1; have := (r_x222).2
              have := (r_x224).1; have := (r_x224).2
              have := (r_x226).1; have := (r_x226).2
              have := (r_x228).1; have := (r_x228).2
              have := (r_x230).1; have := (r_x230).2
              have := (r_x349).1; have := (r_x349).2
              have := (r_x351).1; have := (r_x351).2
              have := (r_x353).1; have := (r_x353).2
              have := (r_x355).1; have := (r_x355).2
              have := (r_x357).1; have := (r_x357).2
              have := (r_x359).1; have := (r_x359).2
              have := kc_0
              have := kc_1
              have := kc_91
              have := iv.2.2.2.2.2.2.2
              exact ⟨by omega, fun q => (iv.2.2.2.2.2.2.1 (by omega) q).2.2⟩
          · skip
            have r_x366 : mh_r x366 (91) (91) := mh_eq1 c369 r_x366 rc_91 (91) (91) (by decide)
            refine mw_aload_n 74 rfl 0 dX10_value_73 rfl rfl ?_
            refine mw_iconst (v := 1) 75 rfl dX10_value_74 (by decide) ?_
            refine mw_aload_n 76 rfl 0 dX10_value_75 rfl rfl ?_
            refine mw_geti 79 rfl dX10_value_76 gf_X10_188 rfl (fun x370 t371 => ?_)
            obtain rfl : x349 = x370 := t350.trans t371.symm
            refine mw_callVv [.int (1), .int x349] [] 82 rfl dX10_value_79 ml_X10_210 mc_X10_wrongs mk_X10_wrongs rfl rfl (by decide) (w_X10_wrongs l G (d + 3) ⟨by omega, by omega⟩ hI_s275 (1) (mh_r_wk rc_1 (by decide)) x349 r_x349 (by rw [← t354]; have := (r_x274).1; have := (r_x274).2; have := (r_x222).1; have := (r_x222).2; have := (r_x224).1; have := (r_x224).2; have := (r_x226).1; have := (r_x226).2; have := (r_x228).1; have := (r_x228).2; have := (r_x230).1; have := (r_x230).2; have := (r_x349).1; have := (r_x349).2; have := (r_x351).1; have := (r_x351).2; have := (r_x353).1; have := (r_x353).2; have := (r_x355).1; have := (r_x355).2; have := (r_x357).1; have := (r_x357).2; have := (r_x359).1; have := (r_x359).2; have := kc_0; have := kc_1; have := kc_91; omega)) rfl rfl (Nat.le_of_ble_eq_true rfl) (mh_rok (by omega) (by decide)) (fun s373 q374 => ?_)
            obtain ⟨e0_s373, hI_s373, hG_s373⟩ := q374
            have hF_s373 : mh_F S_X10_value s0 s373 := mh_F_tl hF_s275 hG_s373 (by decide +kernel)
            obtain ⟨x375, t376⟩ : ∃ z : Int32, z = s373.1 57 25 := ⟨_, rfl⟩
            have hw_s373 : x375.toInt < 0 := by rw [t376]; exact e0_s373
            have r_x375 : mh_r x375 (-2147483648) (-1) := ⟨((mh_r_full x375)).1, by have := hw_s373; omega⟩
            refine mw_vret dX10_value_82 rfl ⟨rfl, ⟨?_, ?_, ?_, ?_, ?_, hI_s373, hF_s373⟩⟩
            · skip
              have t377 : x349 = s373.1 57 23 := (t350).trans (hG_s373 57 23 (mh_nsI (by rfl))).1.symm
              have t378 : x351 = s373.1 57 24 := (t352).trans (hG_s373 57 24 (mh_nsI (by rfl))).1.symm
              have t379 : x355 = s373.1 57 27 := (t356).trans (hG_s373 57 27 (mh_nsI (by rfl))).1.symm
              have t380 : x357 = s373.1 57 29 := (t358).trans (hG_s373 57 29 (mh_nsI (by rfl))).1.symm
              exact (show mh_pb b s373 by unfold mh_pb; rw [← t377, ← t378, ← t376, ← t379, ← t380]; have := kc_0; have := kc_1; have := (r_x274).1; have := (r_x274).2; have := (r_x222).1; have := (r_x222).2; have := (r_x224).1; have := (r_x224).2; have := (r_x226).1; have := (r_x226).2; have := (r_x228).1; have := (r_x228).2; have := (r_x230).1; have := (r_x230).2; have := (r_x349).1; have := (r_x349).2; have := (r_x351).1; have := (r_x351).2; have := (r_x353).1; have := (r_x353).2; have := (r_x355).1; have := (r_x355).2; have := (r_x357).1; have := (r_x357).2; have := (r_x359).1; have := (r_x359).2; have := (r_x375).1; have := (r_x375).2; have := kc_0; have := kc_1; have := kc_91; omega)
            · skip
              exact mh_pk_tr iv.2.1 (mh_pk_row ((mh_F_row hG_s373 74 rfl)))
            · skip
              have t381 : x349 = s373.1 57 23 := (t350).trans (hG_s373 57 23 (mh_nsI (by rfl))).1.symm
              have t382 : x351 = s373.1 57 24 := (t352).trans (hG_s373 57 24 (mh_nsI (by rfl))).1.symm
              have t383 : x355 = s373.1 57 27 := (t356).trans (hG_s373 57 27 (mh_nsI (by rfl))).1.symm
              have t384 : x357 = s373.1 57 29 := (t358).trans (hG_s373 57 29 (mh_nsI (by rfl))).1.symm
              have := congrArg Int32.toInt t223
              have := congrArg Int32.toInt t225
              have := congrArg Int32.toInt t227
              have := congrArg Int32.toInt t229
              have := congrArg Int32.toInt t231
              have := congrArg Int32.toInt t350
              have := congrArg Int32.toInt t352
              have := congrArg Int32.toInt t354
              have := congrArg Int32.toInt t356
              have := congrArg Int32.toInt t358
              have := congrArg Int32.toInt t376
              have := congrArg Int32.toInt t381
              have := congrArg Int32.toInt t382
              have := congrArg Int32.toInt t383
              have := congrArg Int32.toInt t384
              have := (r_x274).1; have := (r_x274).2
              have := (r_x222).1; have := (r_x222).2
              have := (r_x224).1; have := (r_x224).2
              have := (r_x226).1; have := (r_x226).2
              have := (r_x228).1; have := (r_x228).2
              have := (r_x230).1; have := (r_x230).2
              have := (r_x349).1; have := (r_x349).2
              have := (r_x351).1; have := (r_x351).2
              have := (r_x353).1; have := (r_x353).2
              have := (r_x355).1; have := (r_x355).2
              have := (r_x357).1; have := (r_x357).2
              have := (r_x359).1; have := (r_x359).2
              have := (r_x375).1; have := (r_x375).2
              have := kc_0
              have := kc_1
              have := kc_91
              intro q
              exfalso
              omega
            · skip
              have t385 : x349 = s373.1 57 23 := (t350).trans (hG_s373 57 23 (mh_nsI (by rfl))).1.symm
              have t386 : x351 = s373.1 57 24 := (t352).trans (hG_s373 57 24 (mh_nsI (by rfl))).1.symm
              have t387 : x355 = s373.1 57 27 := (t356).trans (hG_s373 57 27 (mh_nsI (by rfl))).1.symm
              have t388 : x357 = s373.1 57 29 := (t358).trans (hG_s373 57 29 (mh_nsI (by rfl))).1.symm
              intro q
              exfalso
              have := congrArg Int32.toInt t223
              have := congrArg Int32.toInt t225
              have := congrArg Int32.toInt t227
              have := congrArg Int32.toInt t229
              have := congrArg Int32.toInt t231
              have := congrArg Int32.toInt t350
              have := congrArg Int32.toInt t352
              have := congrArg Int32.toInt t354
              have := congrArg Int32.toInt t356
              have := congrArg Int32.toInt t358
              have := congrArg Int32.toInt t376
              have := congrArg Int32.toInt t385
              have := congrArg Int32.toInt t386
              have := congrArg Int32.toInt t387
              have := congrArg Int32.toInt t388
              have := (r_x274).1; have := (r_x274).2
              have := (r_x222).1; have := (r_x222).2
              have := (r_x224).1; have := (r_x224).2
              have := (r_x226).1; have := (r_x226).2
              have := (r_x228).1; have := (r_x228).2
              have := (r_x230).1; have := (r_x230).2
              have := (r_x349).1; have := (r_x349).2
              have := (r_x351).1; have := (r_x351).2
              have := (r_x353).1; have := (r_x353).2
              have := (r_x355).1; have := (r_x355).2
              have := (r_x357).1; have := (r_x357).2
              have := (r_x359).1; have := (r_x359).2
              have := (r_x375).1; have := (r_x375).2
              have := kc_0
              have := kc_1
              have := kc_91
              omega
            · skip
              have t389 : x349 = s373.1 57 23 := (t350).trans (hG_s373 57 23 (mh_nsI (by rfl))).1.symm
              have t390 : x351 = s373.1 57 24 := (t352).trans (hG_s373 57 24 (mh_nsI (by rfl))).1.symm
              have t391 : x355 = s373.1 57 27 := (t356).trans (hG_s373 57 27 (mh_nsI (by rfl))).1.symm
              have t392 : x357 = s373.1 57 29 := (t358).trans (hG_s373 57 29 (mh_nsI (by rfl))).1.symm
              have := congrArg Int32.toInt t223
              have := congrArg Int32.toInt t225
              have := congrArg Int32.toInt t227
              have := congrArg Int32.toInt t229
              have := congrArg Int32.toInt t231
              have := congrArg Int32.toInt t350
              have := congrArg Int32.toInt t352
              have := congrArg Int32.toInt t354
              have := congrArg Int32.toInt t356
              have := congrArg Int32.toInt t358
              have := congrArg Int32.toInt t376
              have := congrArg Int32.toInt t389
              have := congrArg Int32.toInt t390
              have := congrArg Int32.toInt t391
              have := congrArg Int32.toInt t392
              have := (r_x274).1; have := (r_x274).2
              have := (r_x222).1; have := (r_x222).2
              have := (r_x224).1; have := (r_x224).2
              have := (r_x226).1; have := (r_x226).2
              have := (r_x228).1; have := (r_x228).2
              have := (r_x230).1; have := (r_x230).2
              have := (r_x349).1; have := (r_x349).2
              have := (r_x351).1; have := (r_x351).2
              have := (r_x353).1; have := (r_x353).2
              have := (r_x355).1; have := (r_x355).2
              have := (r_x357).1; have := (r_x357).2
              have := (r_x359).1; have := (r_x359).2
              have := (r_x375).1; have := (r_x375).2
              have := kc_0
              have := kc_1
              have := kc_91
              have := iv.2.2.2.2.2.2.2
              refine ⟨by omega, fun q => ?_⟩
              exfalso
              omega
      · skip
        have r_x274 : mh_r x274 (1) (1) := mh_ne1 (show x274.toInt ≠ (0 : Int32).toInt from c361) r_x274 rc_0 (1) (1) (by decide)
        refine mw_aload_n 12 rfl 0 dX10_value_11 rfl rfl ?_
        refine mw_callVi [] [] 15 rfl dX10_value_12 ml_X10_197 mc_X10_isGood mk_X10_isGood rfl rfl (by decide) (w_X10_isGood l G (d + 3) ⟨by omega, by omega⟩ hI_s275) rfl rfl (Nat.le_of_ble_eq_true rfl) (mh_rok (by omega) (by decide)) (fun x393 s394 q395 => ?_)
        obtain ⟨r_x393, e0_s394, rfl⟩ := q395
        rw [← t354] at e0_s394
        refine mw_if_eq 18 rfl 57 dX10_value_15 (by decide) (fun c396 => ?_) (fun c396 => ?_)
        · skip
          have r_x353 : mh_r x353 (-2147483648) (-1) := ⟨(r_x353).1, by have := (r_x353).2; have : x353.toInt ≠ 0 := (fun q => by have := e0_s394.2 q; have := c396; omega); omega⟩
          have r_x393 : mh_r x393 (0) (0) := mh_eq1 (show x393.toInt = (0 : Int32).toInt from c396) r_x393 rc_0 (0) (0) (by decide)
          refine mw_aload_n 58 rfl 0 dX10_value_57 rfl rfl ?_
          refine mw_callVi [] [] 61 rfl dX10_value_58 ml_X10_197 mc_X10_isGood mk_X10_isGood rfl rfl (by decide) (w_X10_isGood l G (d + 3) ⟨by omega, by omega⟩ hI_s275) rfl rfl (Nat.le_of_ble_eq_true rfl) (mh_rok (by omega) (by decide)) (fun x397 s398 q399 => ?_)
          obtain ⟨r_x397, e0_s398, rfl⟩ := q399
          rw [← t354] at e0_s398
          refine mw_if_eq 64 rfl 82 dX10_value_61 (by decide) (fun c400 => ?_) (fun c400 => ?_)
          · skip
            have r_x397 : mh_r x397 (0) (0) := mh_eq1 (show x397.toInt = (0 : Int32).toInt from c400) r_x397 rc_0 (0) (0) (by decide)
            refine mw_vret dX10_value_82 rfl ⟨rfl, ⟨?_, ?_, ?_, ?_, ?_, hI_s275, hF_s275⟩⟩
            · skip
              exact (show mh_pb b s275 by unfold mh_pb; rw [← t350, ← t352, ← t354, ← t356, ← t358]; have := kc_0; have := kc_1; have := (r_x274).1; have := (r_x274).2; have := (r_x222).1; have := (r_x222).2; have := (r_x224).1; have := (r_x224).2; have := (r_x226).1; have := (r_x226).2; have := (r_x228).1; have := (r_x228).2; have := (r_x230).1; have := (r_x230).2; have := (r_x349).1; have := (r_x349).2; have := (r_x351).1; have := (r_x351).2; have := (r_x353).1; have := (r_x353).2; have := (r_x355).1; have := (r_x355).2; have := (r_x357).1; have := (r_x357).2; have := (r_x359).1; have := (r_x359).2; have := kc_0; have := kc_1; have := kc_91; omega)
            · skip
              exact mh_pk_tr iv.2.1 (mh_pk_row (rfl))
            · skip
              have := congrArg Int32.toInt t223
              have := congrArg Int32.toInt t225
              have := congrArg Int32.toInt t227
              have := congrArg Int32.toInt t229
              have := congrArg Int32.toInt t231
              have := congrArg Int32.toInt t350
              have := congrArg Int32.toInt t352
              have := congrArg Int32.toInt t354
              have := congrArg Int32.toInt t356
              have := congrArg Int32.toInt t358
              have := (r_x274).1; have := (r_x274).2
              have := (r_x222).1; have := (r_x222).2
              have := (r_x224).1; have := (r_x224).2
              have := (r_x226).1; have := (r_x226).2
              have := (r_x228).1; have := (r_x228).2
              have := (r_x230).1; have := (r_x230).2
              have := (r_x349).1; have := (r_x349).2
              have := (r_x351).1; have := (r_x351).2
              have := (r_x353).1; have := (r_x353).2
              have := (r_x355).1; have := (r_x355).2
              have := (r_x357).1; have := (r_x357).2
              have := (r_x359).1; have := (r_x359).2
              have := kc_0
              have := kc_1
              have := kc_91
              intro q
              exfalso
              omega
            · skip
              intro q
              exfalso
              have := congrArg Int32.toInt t223
              have := congrArg Int32.toInt t225
              have := congrArg Int32.toInt t227
              have := congrArg Int32.toInt t229
              have := congrArg Int32.toInt t231
              have := congrArg Int32.toInt t350
              have := congrArg Int32.toInt t352
              have := congrArg Int32.toInt t354
              have := congrArg Int32.toInt t356
              have := congrArg Int32.toInt t358
              have := (r_x274).1; have := (r_x274).2
              have := (r_x222).1; have := (r_x222).2
              have := (r_x224).1; have := (r_x224).2
              have := (r_x226).1; have := (r_x226).2
              have := (r_x228).1; have := (r_x228).2
              have := (r_x230).1; have := (r_x230).2
              have := (r_x349).1; have := (r_x349).2
              have := (r_x351).1; have := (r_x351).2
              have := (r_x353).1; have := (r_x353).2
              have := (r_x355).1; have := (r_x355).2
              have := (r_x357).1; have := (r_x357).2
              have := (r_x359).1; have := (r_x359).2
              have := kc_0
              have := kc_1
              have := kc_91
              omega
            · skip
              have := congrArg Int32.toInt t223
              have := congrArg Int32.toInt t225
              have := congrArg Int32.toInt t227
              have := congrArg Int32.toInt t229
              have := congrArg Int32.toInt t231
              have := congrArg Int32.toInt t350
              have := congrArg Int32.toInt t352
              have := congrArg Int32.toInt t354
              have := congrArg Int32.toInt t356
              have := congrArg Int32.toInt t358
              have := (r_x274).1; have := (r_x274).2
              have := (r_x222).1; have := (r_x222).2
              have := (r_x224).1; have := (r_x224).2
              have := (r_x226).1; have := (r_x226).2
              have := (r_x228).1; have := (r_x228).2
              have := (r_x230).1; have := (r_x230).2
              have := (r_x349).1; have := (r_x349).2
              have := (r_x351).1; have := (r_x351).2
              have := (r_x353).1; have := (r_x353).2
              have := (r_x355).1; have := (r_x355).2
              have := (r_x357).1; have := (r_x357).2
              have := (r_x359).1; have := (r_x359).2
              have := kc_0
              have := kc_1
              have := kc_91
              have := iv.2.2.2.2.2.2.2
              refine ⟨by omega, fun q => ?_⟩
              exfalso
              omega
          · skip
            exact absurd (e0_s398.1 (mh_z1 r_x397 c400)) (by have := (r_x353).2; omega)
        · skip
          have r_x353 : mh_r x353 (0) (0) := ⟨by have := e0_s394.1 (mh_z1 r_x393 c396); omega, by have := e0_s394.1 (mh_z1 r_x393 c396); omega⟩
          have r_x393 : mh_r x393 (1) (1) := mh_ne1 (show x393.toInt ≠ (0 : Int32).toInt from c396) r_x393 rc_0 (1) (1) (by decide)
          refine mw_aload_n 19 rfl 0 dX10_value_18 rfl rfl ?_
          refine mw_geti 22 rfl dX10_value_19 gf_X10_253 rfl (fun x401 t402 => ?_)
          obtain rfl : x359 = x401 := t360.trans t402.symm
          refine mw_if_ne 25 rfl 29 dX10_value_22 (by decide) (fun c403 => ?_) (fun c403 => ?_)
          · skip
            have r_x359 : mh_r x359 (1) (1) := mh_ne1 (show x359.toInt ≠ (0 : Int32).toInt from c403) r_x359 rc_0 (1) (1) (by decide)
            refine mw_aload_n 30 rfl 0 dX10_value_29 rfl rfl ?_
            refine mw_iconst (v := 0) 31 rfl dX10_value_30 (by decide) ?_
            refine mw_putz 34 rfl dX10_value_31 pf_X10_253 rfl (mh_r_wk rc_0 (by decide)) (fun s404 t405 => ?_)
            have hI_s404 : mh_I B D s404 := by rw [t405]; exact wr_57_31 hI_s275 (mh_r_wk rc_0 (by decide))
            have hF_s404 : mh_F S_X10_value s0 s404 := by rw [t405]; exact mh_F_pI hF_s275 (mh_sj 0 rfl)
            have t406 : x349 = s404.1 57 23 := by rw [t405]; exact (t350).trans (mh_pI_n (by omega)).symm
            have t407 : x351 = s404.1 57 24 := by rw [t405]; exact (t352).trans (mh_pI_n (by omega)).symm
            have t408 : x353 = s404.1 57 25 := by rw [t405]; exact (t354).trans (mh_pI_n (by omega)).symm
            have t409 : x355 = s404.1 57 27 := by rw [t405]; exact (t356).trans (mh_pI_n (by omega)).symm
            have t410 : x357 = s404.1 57 29 := by rw [t405]; exact (t358).trans (mh_pI_n (by omega)).symm
            have hiv := iv.2.2.1
            rw [← t358] at hiv
            have hv3 := iv.2.2.2.1
            rw [← t358] at hv3
            have h76m : s404.1 76 = s275.1 76 := (by rw [t405]; exact mh_row_n (by decide) : s404.1 76 = s275.1 76)
            have hs4 : ∀ j : Nat, j < (s0.1 57 29).toInt.toNat → s404.1 76 j = s0.1 76 j := fun j hj => by rw [h76m]; exact iv.2.2.2.2.1 j hj
            have hab2 : mh_ab (s404.1 76) (s0.1 57 29).toInt.toNat x357.toInt.toNat := by rw [h76m]; exact hv3
            have hpk2 : mh_pk b s0 s404 := mh_pk_tr iv.2.1 (mh_pk_row ((by rw [t405]; exact mh_row_n (by decide) : s404.1 74 = s275.1 74)))
            have hib := (iv.2.2.2.2.2.1 (by have := (r_x274).1; have := (r_x274).2; have := (r_x222).1; have := (r_x222).2; have := (r_x224).1; have := (r_x224).2; have := (r_x226).1; have := (r_x226).2; have := (r_x228).1; have := (r_x228).2; have := (r_x230).1; have := (r_x230).2; have := (r_x349).1; have := (r_x349).2; have := (r_x351).1; have := (r_x351).2; have := (r_x353).1; have := (r_x353).2; have := (r_x355).1; have := (r_x355).2; have := (r_x357).1; have := (r_x357).2; have := (r_x359).1; have := (r_x359).2; have := kc_0; have := kc_1; have := kc_91; omega)).2 (by rw [← t360]; have := (r_x274).1; have := (r_x274).2; have := (r_x222).1; have := (r_x222).2; have := (r_x224).1; have := (r_x224).2; have := (r_x226).1; have := (r_x226).2; have := (r_x228).1; have := (r_x228).2; have := (r_x230).1; have := (r_x230).2; have := (r_x349).1; have := (r_x349).2; have := (r_x351).1; have := (r_x351).2; have := (r_x353).1; have := (r_x353).2; have := (r_x355).1; have := (r_x355).2; have := (r_x357).1; have := (r_x357).2; have := (r_x359).1; have := (r_x359).2; have := kc_0; have := kc_1; have := kc_91; omega)
            have hpd2 : mh_pd b 1 s404 := (mh_pd_c hib.1 (t408.symm.trans t354) (t409.symm.trans t356) (t410.symm.trans t358) ((by rw [t405]; exact mh_row_n (by decide) : s404.1 74 = s275.1 74)) ((by rw [t405]; exact mh_row_n (by decide) : s404.1 76 = s275.1 76)))
            have hpl1 := hib.2
            have hge2 : (s0.1 57 29).toInt.toNat ≤ x357.toInt.toNat := by have := (r_x274).1; have := (r_x274).2; have := (r_x222).1; have := (r_x222).2; have := (r_x224).1; have := (r_x224).2; have := (r_x226).1; have := (r_x226).2; have := (r_x228).1; have := (r_x228).2; have := (r_x230).1; have := (r_x230).2; have := (r_x349).1; have := (r_x349).2; have := (r_x351).1; have := (r_x351).2; have := (r_x353).1; have := (r_x353).2; have := (r_x355).1; have := (r_x355).2; have := (r_x357).1; have := (r_x357).2; have := (r_x359).1; have := (r_x359).2; have := kc_0; have := kc_1; have := kc_91; omega
            refine mw_aload_n 35 rfl 0 dX10_value_34 rfl rfl ?_
            refine mw_callVi [] [] 38 rfl dX10_value_35 ml_X10_197 mc_X10_isGood mk_X10_isGood rfl rfl (by decide) (w_X10_isGood l G (d + 3) ⟨by omega, by omega⟩ hI_s404) rfl rfl (Nat.le_of_ble_eq_true rfl) (mh_rok (by omega) (by decide)) (fun x411 s412 q413 => ?_)
            obtain ⟨r_x411, e0_s412, rfl⟩ := q413
            rw [← t408] at e0_s412
            refine mw_if_eq 41 rfl 52 dX10_value_38 (by decide) (fun c414 => ?_) (fun c414 => ?_)
            · skip
              exact absurd (e0_s412.2 (by have := (r_x353).1; have := (r_x353).2; omega)) (by have := c414; omega)
            · skip
              have r_x411 : mh_r x411 (1) (1) := mh_ne1 (show x411.toInt ≠ (0 : Int32).toInt from c414) r_x411 rc_0 (1) (1) (by decide)
              refine mw_aload_n 42 rfl 0 dX10_value_41 rfl rfl ?_
              have t415 : (0) = s404.1 57 31 := by rw [t405]; exact mh_pI_s.symm
              refine mw_callVi [] [] 45 rfl dX10_value_42 ml_X10_260 mc_X10_stays mk_X10_stays rfl rfl (by decide) (w_X10_stays l G (d + 0) ⟨by omega, by omega⟩ hI_s404 b (s0.1 57 29).toInt.toNat (show mh_pb b s404 by unfold mh_pb; rw [← t406, ← t407, ← t408, ← t409, ← t410]; have := kc_0; have := kc_1; have := (r_x274).1; have := (r_x274).2; have := (r_x222).1; have := (r_x222).2; have := (r_x224).1; have := (r_x224).2; have := (r_x226).1; have := (r_x226).2; have := (r_x228).1; have := (r_x228).2; have := (r_x230).1; have := (r_x230).2; have := (r_x349).1; have := (r_x349).2; have := (r_x351).1; have := (r_x351).2; have := (r_x353).1; have := (r_x353).2; have := (r_x355).1; have := (r_x355).2; have := (r_x357).1; have := (r_x357).2; have := (r_x359).1; have := (r_x359).2; have := (rc_0).1; have := (rc_0).2; have := kc_0; have := kc_1; have := kc_91; omega) hpd2 (by rw [← t408]; have := (r_x274).1; have := (r_x274).2; have := (r_x222).1; have := (r_x222).2; have := (r_x224).1; have := (r_x224).2; have := (r_x226).1; have := (r_x226).2; have := (r_x228).1; have := (r_x228).2; have := (r_x230).1; have := (r_x230).2; have := (r_x349).1; have := (r_x349).2; have := (r_x351).1; have := (r_x351).2; have := (r_x353).1; have := (r_x353).2; have := (r_x355).1; have := (r_x355).2; have := (r_x357).1; have := (r_x357).2; have := (r_x359).1; have := (r_x359).2; have := (rc_0).1; have := (rc_0).2; have := kc_0; have := kc_1; have := kc_91; omega) (by rw [← t415]; have := (r_x274).1; have := (r_x274).2; have := (r_x222).1; have := (r_x222).2; have := (r_x224).1; have := (r_x224).2; have := (r_x226).1; have := (r_x226).2; have := (r_x228).1; have := (r_x228).2; have := (r_x230).1; have := (r_x230).2; have := (r_x349).1; have := (r_x349).2; have := (r_x351).1; have := (r_x351).2; have := (r_x353).1; have := (r_x353).2; have := (r_x355).1; have := (r_x355).2; have := (r_x357).1; have := (r_x357).2; have := (r_x359).1; have := (r_x359).2; have := (rc_0).1; have := (rc_0).2; have := kc_0; have := kc_1; have := kc_91; have := kc_0; omega) (mh_fl_c hfl hs4) (by rw [← t410]; exact hab2) (by rw [← t410]; exact hge2)) rfl rfl (Nat.le_of_ble_eq_true rfl) (mh_rok (by omega) (by decide)) (fun x416 s417 q418 => ?_)
              obtain ⟨r_x416, e0_s417, e1_s417, e2_s417, e3_s417, e4_s417, e5_s417, hI_s417, hG_s417⟩ := q418
              have hF_s417 : mh_F S_X10_value s0 s417 := mh_F_tl hF_s404 hG_s417 (by decide +kernel)
              obtain ⟨x419, t420⟩ : ∃ z : Int32, z = s417.1 57 23 := ⟨_, rfl⟩
              have t421 : x351 = s417.1 57 24 := (t407).trans (hG_s417 57 24 (mh_nsI (by rfl))).1.symm
              obtain ⟨x422, t423⟩ : ∃ z : Int32, z = s417.1 57 25 := ⟨_, rfl⟩
              obtain ⟨x424, t425⟩ : ∃ z : Int32, z = s417.1 57 27 := ⟨_, rfl⟩
              obtain ⟨x426, t427⟩ : ∃ z : Int32, z = s417.1 57 29 := ⟨_, rfl⟩
              have pb_s417 : 0 ≤ x419.toInt ∧ x419.toInt ≤ x351.toInt ∧ x351.toInt ≤ 200 ∧ 0 ≤ x426.toInt ∧ 0 ≤ b ∧ b ≤ x424.toInt ∧ x426.toInt + x424.toInt ≤ x419.toInt ∧ x422.toInt ≤ 0 := by have h9 := e0_s417; unfold mh_pb at h9; rw [← t420, ← t421, ← t423, ← t425, ← t427] at h9; exact h9
              have r_x419 : mh_r x419 (0) (200) := ⟨by have := ((mh_r_full x419)).1; omega, by have := ((mh_r_full x419)).2; omega⟩
              have r_x422 : mh_r x422 (-2147483648) (0) := ⟨by have := ((mh_r_full x422)).1; omega, by have := ((mh_r_full x422)).2; omega⟩
              have r_x424 : mh_r x424 (0) (200) := ⟨by have := ((mh_r_full x424)).1; omega, by have := ((mh_r_full x424)).2; omega⟩
              have r_x426 : mh_r x426 (0) (200) := ⟨by have := ((mh_r_full x426)).1; omega, by have := ((mh_r_full x426)).2; omega⟩
              obtain ⟨x428, t429⟩ : ∃ z : Int32, z = s417.1 57 31 := ⟨_, rfl⟩
              have hsy_s417 := e5_s417
              rw [← t406, ← t420, ← t423] at hsy_s417
              refine mw_if_eq 48 rfl 52 dX10_value_45 (by decide) (fun c430 => ?_) (fun c430 => ?_)
              · skip
                have r_x416 : mh_r x416 (0) (0) := mh_eq1 (show x416.toInt = (0 : Int32).toInt from c430) r_x416 rc_0 (0) (0) (by decide)
                refine mw_iconst (v := 0) 53 rfl dX10_value_52 (by decide) ?_
                refine mw_istore_n 54 rfl [(1, .int (0)), (0, .ref (G.2.2.2 57))] dX10_value_53 rfl (by decide) rfl ?_
                refine mw_goto 57 rfl 7 dX10_value_54 (by decide) ?_
                exact mw_lv [1, 0] rfl (ihn1 (0) s417 (mh_r_wk rc_0 (by decide)) hI_s417 hF_s417 (by
                    have h9 := e3_s417
                    have hpl := iv.2.2.2.2.2.2.2
                    have := r_x274.1; have := r_x274.2
                    have := congrArg Int32.toInt t223
                    have := congrArg Int32.toInt t225
                    have := congrArg Int32.toInt t227
                    have := congrArg Int32.toInt t229
                    have := congrArg Int32.toInt t231
                    have := congrArg Int32.toInt t350
                    have := congrArg Int32.toInt t352
                    have := congrArg Int32.toInt t354
                    have := congrArg Int32.toInt t356
                    have := congrArg Int32.toInt t358
                    have := congrArg Int32.toInt t406
                    have := congrArg Int32.toInt t407
                    have := congrArg Int32.toInt t408
                    have := congrArg Int32.toInt t409
                    have := congrArg Int32.toInt t410
                    have := congrArg Int32.toInt t420
                    have := congrArg Int32.toInt t421
                    have := congrArg Int32.toInt t423
                    have := congrArg Int32.toInt t425
                    have := congrArg Int32.toInt t427
                    have := (rc_0).1; have := (rc_0).2
                    have := (r_x222).1; have := (r_x222).2
                    have := (r_x224).1; have := (r_x224).2
                    have := (r_x226).1; have := (r_x226).2
                    have := (r_x228).1; have := (r_x228).2
                    have := (r_x230).1; have := (r_x230).2
                    have := (r_x349).1; have := (r_x349).2
                    have := (r_x351).1; have := (r_x351).2
                    have := (r_x353).1; have := (r_x353).2
                    have := (r_x355).1; have := (r_x355).2
                    have := (r_x357).1; have := (r_x357).2
                    have := (r_x359).1; have := (r_x359).2
                    have := (r_x419).1; have := (r_x419).2
                    have := (r_x422).1; have := (r_x422).2
                    have := (r_x424).1; have := (r_x424).2
                    have := (r_x426).1; have := (r_x426).2
                    have := kc_0
                    have := kc_1
                    have := kc_91
                    have := r_x416.1; have := r_x416.2
                    have hz9 : x416.toInt = 0 := by omega
                    refine ⟨e0_s417, mh_pk_tr hpk2 e1_s417, h9.1, h9.2.1, fun j hj => (h9.2.2 j hj).trans (hs4 j hj), ?_, ?_, ?_⟩
                    · intro q; exact absurd q (by decide)
                    · intro _ q2; exact ⟨(e2_s417).2.2 hz9, e4_s417 hz9 q2, by omega⟩
                    · omega) (by have := congrArg Int32.toInt t223; have := congrArg Int32.toInt t225; have := congrArg Int32.toInt t227; have := congrArg Int32.toInt t229; have := congrArg Int32.toInt t231; have := congrArg Int32.toInt t350; have := congrArg Int32.toInt t352; have := congrArg Int32.toInt t354; have := congrArg Int32.toInt t356; have := congrArg Int32.toInt t358; have := congrArg Int32.toInt t406; have := congrArg Int32.toInt t407; have := congrArg Int32.toInt t408; have := congrArg Int32.toInt t409; have := congrArg Int32.toInt t410; have := congrArg Int32.toInt t420; have := congrArg Int32.toInt t421; have := congrArg Int32.toInt t423; have := congrArg Int32.toInt t425; have := congrArg Int32.toInt t427; have := (rc_0).1; have := (rc_0).2; have := (r_x222).1; have := (r_x222).2; have := (r_x224).1; have := (r_x224).2; have := (r_x226).1; have := (r_x226).2; have := (r_x228).1; have := (r_x228).2; have := (r_x230).1; have := (r_x230).2; have := (r_x349).1; have := (r_x349).2; have := (r_x351).1; have := (r_x351).2; have := (r_x353).1; have := (r_x353).2; have := (r_x355).1; have := (r_x355).2; have := (r_x357).1; have := (r_x357).2; have := (r_x359).1; have := (r_x359).2; have := (r_x419).1; have := (r_x419).2; have := (r_x422).1; have := (r_x422).2; have := (r_x424).1; have := (r_x424).2; have := (r_x426).1; have := (r_x426).2; have := kc_0; have := kc_1; have := kc_91; have := r_x274.1; have := r_x274.2; have := r_x416.1; have := r_x416.2; have := kc_0; have := kc_1; omega))
              · skip
                have r_x416 : mh_r x416 (1) (1) := mh_ne1 (show x416.toInt ≠ (0 : Int32).toInt from c430) r_x416 rc_0 (1) (1) (by decide)
                refine mw_iconst (v := 1) 49 rfl dX10_value_48 (by decide) ?_
                refine mw_goto 52 rfl 53 dX10_value_49 (by decide) ?_
                refine mw_istore_n 54 rfl [(1, .int (1)), (0, .ref (G.2.2.2 57))] dX10_value_53 rfl (by decide) rfl ?_
                refine mw_goto 57 rfl 7 dX10_value_54 (by decide) ?_
                exact mw_lv [1, 0] rfl (ihn1 (1) s417 (mh_r_wk rc_1 (by decide)) hI_s417 hF_s417 (by
                    have h9 := e3_s417
                    have hpl := iv.2.2.2.2.2.2.2
                    have := r_x274.1; have := r_x274.2
                    have := congrArg Int32.toInt t223
                    have := congrArg Int32.toInt t225
                    have := congrArg Int32.toInt t227
                    have := congrArg Int32.toInt t229
                    have := congrArg Int32.toInt t231
                    have := congrArg Int32.toInt t350
                    have := congrArg Int32.toInt t352
                    have := congrArg Int32.toInt t354
                    have := congrArg Int32.toInt t356
                    have := congrArg Int32.toInt t358
                    have := congrArg Int32.toInt t406
                    have := congrArg Int32.toInt t407
                    have := congrArg Int32.toInt t408
                    have := congrArg Int32.toInt t409
                    have := congrArg Int32.toInt t410
                    have := congrArg Int32.toInt t420
                    have := congrArg Int32.toInt t421
                    have := congrArg Int32.toInt t423
                    have := congrArg Int32.toInt t425
                    have := congrArg Int32.toInt t427
                    have := (rc_1).1; have := (rc_1).2
                    have := (r_x222).1; have := (r_x222).2
                    have := (r_x224).1; have := (r_x224).2
                    have := (r_x226).1; have := (r_x226).2
                    have := (r_x228).1; have := (r_x228).2
                    have := (r_x230).1; have := (r_x230).2
                    have := (r_x349).1; have := (r_x349).2
                    have := (r_x351).1; have := (r_x351).2
                    have := (r_x353).1; have := (r_x353).2
                    have := (r_x355).1; have := (r_x355).2
                    have := (r_x357).1; have := (r_x357).2
                    have := (r_x359).1; have := (r_x359).2
                    have := (rc_0).1; have := (rc_0).2
                    have := (r_x419).1; have := (r_x419).2
                    have := (r_x422).1; have := (r_x422).2
                    have := (r_x424).1; have := (r_x424).2
                    have := (r_x426).1; have := (r_x426).2
                    have := kc_0
                    have := kc_1
                    have := kc_91
                    have := r_x416.1; have := r_x416.2
                    have hz9 : x416.toInt = 1 := by omega
                    refine ⟨e0_s417, mh_pk_tr hpk2 e1_s417, h9.1, h9.2.1, fun j hj => (h9.2.2 j hj).trans (hs4 j hj), ?_, ?_, ?_⟩
                    · intro _; exact ⟨(e2_s417).1 hz9, fun q => ⟨(e2_s417).2.1 hz9 q, by omega⟩⟩
                    · intro q; exact absurd q (by decide)
                    · omega) (by have := congrArg Int32.toInt t223; have := congrArg Int32.toInt t225; have := congrArg Int32.toInt t227; have := congrArg Int32.toInt t229; have := congrArg Int32.toInt t231; have := congrArg Int32.toInt t350; have := congrArg Int32.toInt t352; have := congrArg Int32.toInt t354; have := congrArg Int32.toInt t356; have := congrArg Int32.toInt t358; have := congrArg Int32.toInt t406; have := congrArg Int32.toInt t407; have := congrArg Int32.toInt t408; have := congrArg Int32.toInt t409; have := congrArg Int32.toInt t410; have := congrArg Int32.toInt t420; have := congrArg Int32.toInt t421; have := congrArg Int32.toInt t423; have := congrArg Int32.toInt t425; have := congrArg Int32.toInt t427; have := (rc_1).1; have := (rc_1).2; have := (r_x222).1; have := (r_x222).2; have := (r_x224).1; have := (r_x224).2; have := (r_x226).1; have := (r_x226).2; have := (r_x228).1; have := (r_x228).2; have := (r_x230).1; have := (r_x230).2; have := (r_x349).1; have := (r_x349).2; have := (r_x351).1; have := (r_x351).2; have := (r_x353).1; have := (r_x353).2; have := (r_x355).1; have := (r_x355).2; have := (r_x357).1; have := (r_x357).2; have := (r_x359).1; have := (r_x359).2; have := (rc_0).1; have := (rc_0).2; have := (r_x419).1; have := (r_x419).2; have := (r_x422).1; have := (r_x422).2; have := (r_x424).1; have := (r_x424).2; have := (r_x426).1; have := (r_x426).2; have := kc_0; have := kc_1; have := kc_91; have := r_x274.1; have := r_x274.2; have := r_x416.1; have := r_x416.2; have := kc_0; have := kc_1; omega))
          · skip
            have r_x359 : mh_r x359 (0) (0) := mh_eq1 (show x359.toInt = (0 : Int32).toInt from c403) r_x359 rc_0 (0) (0) (by decide)
            refine mw_aload_n 26 rfl 0 dX10_value_25 rfl rfl ?_
            refine mw_callVv [] [] 29 rfl dX10_value_26 ml_X10_257 mc_X10_factor mk_X10_factor rfl rfl (by decide) (w_X10_factor l G (d + 0) ⟨by omega, by omega⟩ hI_s275 b (show mh_pb b s275 by unfold mh_pb; rw [← t350, ← t352, ← t354, ← t356, ← t358]; have := kc_0; have := kc_1; have := (r_x274).1; have := (r_x274).2; have := (r_x222).1; have := (r_x222).2; have := (r_x224).1; have := (r_x224).2; have := (r_x226).1; have := (r_x226).2; have := (r_x228).1; have := (r_x228).2; have := (r_x230).1; have := (r_x230).2; have := (r_x349).1; have := (r_x349).2; have := (r_x351).1; have := (r_x351).2; have := (r_x353).1; have := (r_x353).2; have := (r_x355).1; have := (r_x355).2; have := (r_x357).1; have := (r_x357).2; have := (r_x359).1; have := (r_x359).2; have := kc_0; have := kc_1; have := kc_91; omega) ((iv.2.2.2.2.2.1 (by have := (r_x274).1; have := (r_x274).2; have := (r_x222).1; have := (r_x222).2; have := (r_x224).1; have := (r_x224).2; have := (r_x226).1; have := (r_x226).2; have := (r_x228).1; have := (r_x228).2; have := (r_x230).1; have := (r_x230).2; have := (r_x349).1; have := (r_x349).2; have := (r_x351).1; have := (r_x351).2; have := (r_x353).1; have := (r_x353).2; have := (r_x355).1; have := (r_x355).2; have := (r_x357).1; have := (r_x357).2; have := (r_x359).1; have := (r_x359).2; have := kc_0; have := kc_1; have := kc_91; omega)).1 (by rw [← t360]; have := (r_x274).1; have := (r_x274).2; have := (r_x222).1; have := (r_x222).2; have := (r_x224).1; have := (r_x224).2; have := (r_x226).1; have := (r_x226).2; have := (r_x228).1; have := (r_x228).2; have := (r_x230).1; have := (r_x230).2; have := (r_x349).1; have := (r_x349).2; have := (r_x351).1; have := (r_x351).2; have := (r_x353).1; have := (r_x353).2; have := (r_x355).1; have := (r_x355).2; have := (r_x357).1; have := (r_x357).2; have := (r_x359).1; have := (r_x359).2; have := kc_0; have := kc_1; have := kc_91; omega))) rfl rfl (Nat.le_of_ble_eq_true rfl) (mh_rok (by omega) (by decide)) (fun s432 q433 => ?_)
            obtain ⟨e0_s432, e1_s432, e2_s432, e3_s432, e4_s432, hI_s432, hG_s432⟩ := q433
            have hF_s432 : mh_F S_X10_value s0 s432 := mh_F_tl hF_s275 hG_s432 (by decide +kernel)
            obtain ⟨x434, t435⟩ : ∃ z : Int32, z = s432.1 57 23 := ⟨_, rfl⟩
            have t436 : x351 = s432.1 57 24 := (t352).trans (hG_s432 57 24 (mh_nsI (by rfl))).1.symm
            obtain ⟨x437, t438⟩ : ∃ z : Int32, z = s432.1 57 25 := ⟨_, rfl⟩
            obtain ⟨x439, t440⟩ : ∃ z : Int32, z = s432.1 57 27 := ⟨_, rfl⟩
            obtain ⟨x441, t442⟩ : ∃ z : Int32, z = s432.1 57 29 := ⟨_, rfl⟩
            have pb_s432 : 0 ≤ x434.toInt ∧ x434.toInt ≤ x351.toInt ∧ x351.toInt ≤ 200 ∧ 0 ≤ x441.toInt ∧ 0 ≤ b ∧ b ≤ x439.toInt ∧ x441.toInt + x439.toInt ≤ x434.toInt ∧ x437.toInt ≤ 0 := by have h9 := e0_s432; unfold mh_pb at h9; rw [← t435, ← t436, ← t438, ← t440, ← t442] at h9; exact h9
            have r_x434 : mh_r x434 (0) (200) := ⟨by have := ((mh_r_full x434)).1; omega, by have := ((mh_r_full x434)).2; omega⟩
            have r_x437 : mh_r x437 (-2147483648) (0) := ⟨by have := ((mh_r_full x437)).1; omega, by have := ((mh_r_full x437)).2; omega⟩
            have r_x439 : mh_r x439 (0) (200) := ⟨by have := ((mh_r_full x439)).1; omega, by have := ((mh_r_full x439)).2; omega⟩
            have r_x441 : mh_r x441 (0) (200) := ⟨by have := ((mh_r_full x441)).1; omega, by have := ((mh_r_full x441)).2; omega⟩
            have hfa_s432 := e3_s432
            rw [← t358, ← t350, ← t354, ← t442, ← t435, ← t438] at hfa_s432
            refine mw_aload_n 30 rfl 0 dX10_value_29 rfl rfl ?_
            refine mw_iconst (v := 0) 31 rfl dX10_value_30 (by decide) ?_
            refine mw_putz 34 rfl dX10_value_31 pf_X10_253 rfl (mh_r_wk rc_0 (by decide)) (fun s443 t444 => ?_)
            have hI_s443 : mh_I B D s443 := by rw [t444]; exact wr_57_31 hI_s432 (mh_r_wk rc_0 (by decide))
            have hF_s443 : mh_F S_X10_value s0 s443 := by rw [t444]; exact mh_F_pI hF_s432 (mh_sj 0 rfl)
            have t445 : x434 = s443.1 57 23 := by rw [t444]; exact (t435).trans (mh_pI_n (by omega)).symm
            have t446 : x351 = s443.1 57 24 := by rw [t444]; exact (t436).trans (mh_pI_n (by omega)).symm
            have t447 : x437 = s443.1 57 25 := by rw [t444]; exact (t438).trans (mh_pI_n (by omega)).symm
            have t448 : x439 = s443.1 57 27 := by rw [t444]; exact (t440).trans (mh_pI_n (by omega)).symm
            have t449 : x441 = s443.1 57 29 := by rw [t444]; exact (t442).trans (mh_pI_n (by omega)).symm
            have hiv := iv.2.2.1
            rw [← t358] at hiv
            have hv3 := iv.2.2.2.1
            rw [← t358] at hv3
            have h76m : s443.1 76 = s432.1 76 := (by rw [t444]; exact mh_row_n (by decide) : s443.1 76 = s432.1 76)
            have hs4 : ∀ j : Nat, j < (s0.1 57 29).toInt.toNat → s443.1 76 j = s0.1 76 j := fun j hj => by
              rw [h76m, (e4_s432).1 j (by rw [← t358]; omega)]
              exact iv.2.2.2.2.1 j hj
            have hv9 := e4_s432
            rw [← t358, ← t442] at hv9
            have hab2 : mh_ab (s443.1 76) (s0.1 57 29).toInt.toNat x441.toInt.toNat := fun j h1 h2 => by
              rw [h76m]
              rcases Nat.lt_or_ge j x357.toInt.toNat with h3 | h3
              · rw [hv9.1 j h3]; exact hv3 j h1 h3
              · have := hv9.2 j h3 h2
                unfold mh_vs; omega
            have hpk2 : mh_pk b s0 s443 := mh_pk_tr iv.2.1 (mh_pk_tr e2_s432 (mh_pk_row ((by rw [t444]; exact mh_row_n (by decide) : s443.1 74 = s432.1 74))))
            have hpd2 : mh_pd b 1 s443 := (mh_pd_c e1_s432 (t447.symm.trans t438) (t448.symm.trans t440) (t449.symm.trans t442) ((by rw [t444]; exact mh_row_n (by decide) : s443.1 74 = s432.1 74)) ((by rw [t444]; exact mh_row_n (by decide) : s443.1 76 = s432.1 76)))
            have hge2 : (s0.1 57 29).toInt.toNat ≤ x441.toInt.toNat := by have := (r_x274).1; have := (r_x274).2; have := (r_x222).1; have := (r_x222).2; have := (r_x224).1; have := (r_x224).2; have := (r_x226).1; have := (r_x226).2; have := (r_x228).1; have := (r_x228).2; have := (r_x230).1; have := (r_x230).2; have := (r_x349).1; have := (r_x349).2; have := (r_x351).1; have := (r_x351).2; have := (r_x353).1; have := (r_x353).2; have := (r_x355).1; have := (r_x355).2; have := (r_x357).1; have := (r_x357).2; have := (r_x359).1; have := (r_x359).2; have := (r_x434).1; have := (r_x434).2; have := (r_x437).1; have := (r_x437).2; have := (r_x439).1; have := (r_x439).2; have := (r_x441).1; have := (r_x441).2; have := kc_0; have := kc_1; have := kc_91; omega
            refine mw_aload_n 35 rfl 0 dX10_value_34 rfl rfl ?_
            refine mw_callVi [] [] 38 rfl dX10_value_35 ml_X10_197 mc_X10_isGood mk_X10_isGood rfl rfl (by decide) (w_X10_isGood l G (d + 3) ⟨by omega, by omega⟩ hI_s443) rfl rfl (Nat.le_of_ble_eq_true rfl) (mh_rok (by omega) (by decide)) (fun x450 s451 q452 => ?_)
            obtain ⟨r_x450, e0_s451, rfl⟩ := q452
            rw [← t447] at e0_s451
            refine mw_if_eq 41 rfl 52 dX10_value_38 (by decide) (fun c453 => ?_) (fun c453 => ?_)
            · skip
              have r_x437 : mh_r x437 (-2147483648) (-1) := ⟨(r_x437).1, by have := (r_x437).2; have : x437.toInt ≠ 0 := (fun q => by have := e0_s451.2 q; have := c453; omega); omega⟩
              have r_x450 : mh_r x450 (0) (0) := mh_eq1 (show x450.toInt = (0 : Int32).toInt from c453) r_x450 rc_0 (0) (0) (by decide)
              refine mw_iconst (v := 0) 53 rfl dX10_value_52 (by decide) ?_
              refine mw_istore_n 54 rfl [(1, .int (0)), (0, .ref (G.2.2.2 57))] dX10_value_53 rfl (by decide) rfl ?_
              refine mw_goto 57 rfl 7 dX10_value_54 (by decide) ?_
              exact mw_lv [1, 0] rfl (ihn1 (0) s443 (mh_r_wk rc_0 (by decide)) hI_s443 hF_s443 (by
                  have hpl := iv.2.2.2.2.2.2.2
                  have := r_x274.1; have := r_x274.2
                  have := congrArg Int32.toInt t223
                  have := congrArg Int32.toInt t225
                  have := congrArg Int32.toInt t227
                  have := congrArg Int32.toInt t229
                  have := congrArg Int32.toInt t231
                  have := congrArg Int32.toInt t350
                  have := congrArg Int32.toInt t352
                  have := congrArg Int32.toInt t354
                  have := congrArg Int32.toInt t356
                  have := congrArg Int32.toInt t358
                  have := congrArg Int32.toInt t435
                  have := congrArg Int32.toInt t436
                  have := congrArg Int32.toInt t438
                  have := congrArg Int32.toInt t440
                  have := congrArg Int32.toInt t442
                  have := congrArg Int32.toInt t445
                  have := congrArg Int32.toInt t446
                  have := congrArg Int32.toInt t447
                  have := congrArg Int32.toInt t448
                  have := congrArg Int32.toInt t449
                  have := (rc_0).1; have := (rc_0).2
                  have := (r_x222).1; have := (r_x222).2
                  have := (r_x224).1; have := (r_x224).2
                  have := (r_x226).1; have := (r_x226).2
                  have := (r_x228).1; have := (r_x228).2
                  have := (r_x230).1; have := (r_x230).2
                  have := (r_x349).1; have := (r_x349).2
                  have := (r_x351).1; have := (r_x351).2
                  have := (r_x353).1; have := (r_x353).2
                  have := (r_x355).1; have := (r_x355).2
                  have := (r_x357).1; have := (r_x357).2
                  have := (r_x359).1; have := (r_x359).2
                  have := (r_x434).1; have := (r_x434).2
                  have := (r_x437).1; have := (r_x437).2
                  have := (r_x439).1; have := (r_x439).2
                  have := (r_x441).1; have := (r_x441).2
                  have := kc_0
                  have := kc_1
                  have := kc_91
                  refine ⟨(show mh_pb b s443 by unfold mh_pb; rw [← t445, ← t446, ← t447, ← t448, ← t449]; have := kc_0; have := kc_1; have := (rc_0).1; have := (rc_0).2; have := (r_x222).1; have := (r_x222).2; have := (r_x224).1; have := (r_x224).2; have := (r_x226).1; have := (r_x226).2; have := (r_x228).1; have := (r_x228).2; have := (r_x230).1; have := (r_x230).2; have := (r_x349).1; have := (r_x349).2; have := (r_x351).1; have := (r_x351).2; have := (r_x353).1; have := (r_x353).2; have := (r_x355).1; have := (r_x355).2; have := (r_x357).1; have := (r_x357).2; have := (r_x359).1; have := (r_x359).2; have := (r_x434).1; have := (r_x434).2; have := (r_x437).1; have := (r_x437).2; have := (r_x439).1; have := (r_x439).2; have := (r_x441).1; have := (r_x441).2; have := kc_0; have := kc_1; have := kc_91; omega), hpk2, by rw [← t449]; exact hge2, by rw [← t449]; exact hab2, hs4, ?_, ?_, ?_⟩
                  · intro q; exact absurd q (by decide)
                  · intro _ q2; exfalso; omega
                  · omega) (by have := congrArg Int32.toInt t223; have := congrArg Int32.toInt t225; have := congrArg Int32.toInt t227; have := congrArg Int32.toInt t229; have := congrArg Int32.toInt t231; have := congrArg Int32.toInt t350; have := congrArg Int32.toInt t352; have := congrArg Int32.toInt t354; have := congrArg Int32.toInt t356; have := congrArg Int32.toInt t358; have := congrArg Int32.toInt t435; have := congrArg Int32.toInt t436; have := congrArg Int32.toInt t438; have := congrArg Int32.toInt t440; have := congrArg Int32.toInt t442; have := congrArg Int32.toInt t445; have := congrArg Int32.toInt t446; have := congrArg Int32.toInt t447; have := congrArg Int32.toInt t448; have := congrArg Int32.toInt t449; have := (rc_0).1; have := (rc_0).2; have := (r_x222).1; have := (r_x222).2; have := (r_x224).1; have := (r_x224).2; have := (r_x226).1; have := (r_x226).2; have := (r_x228).1; have := (r_x228).2; have := (r_x230).1; have := (r_x230).2; have := (r_x349).1; have := (r_x349).2; have := (r_x351).1; have := (r_x351).2; have := (r_x353).1; have := (r_x353).2; have := (r_x355).1; have := (r_x355).2; have := (r_x357).1; have := (r_x357).2; have := (r_x359).1; have := (r_x359).2; have := (r_x434).1; have := (r_x434).2; have := (r_x437).1; have := (r_x437).2; have := (r_x439).1; have := (r_x439).2; have := (r_x441).1; have := (r_x441).2; have := kc_0; have := kc_1; have := kc_91; have := r_x274.1; have := r_x274.2; have := kc_0; have := kc_1; omega))
            · skip
              have r_x437 : mh_r x437 (0) (0) := ⟨by have := e0_s451.1 (mh_z1 r_x450 c453); omega, by have := e0_s451.1 (mh_z1 r_x450 c453); omega⟩
              have r_x450 : mh_r x450 (1) (1) := mh_ne1 (show x450.toInt ≠ (0 : Int32).toInt from c453) r_x450 rc_0 (1) (1) (by decide)
              refine mw_aload_n 42 rfl 0 dX10_value_41 rfl rfl ?_
              have t454 : (0) = s443.1 57 31 := by rw [t444]; exact mh_pI_s.symm
              refine mw_callVi [] [] 45 rfl dX10_value_42 ml_X10_260 mc_X10_stays mk_X10_stays rfl rfl (by decide) (w_X10_stays l G (d + 0) ⟨by omega, by omega⟩ hI_s443 b (s0.1 57 29).toInt.toNat (show mh_pb b s443 by unfold mh_pb; rw [← t445, ← t446, ← t447, ← t448, ← t449]; have := kc_0; have := kc_1; have := (r_x274).1; have := (r_x274).2; have := (r_x222).1; have := (r_x222).2; have := (r_x224).1; have := (r_x224).2; have := (r_x226).1; have := (r_x226).2; have := (r_x228).1; have := (r_x228).2; have := (r_x230).1; have := (r_x230).2; have := (r_x349).1; have := (r_x349).2; have := (r_x351).1; have := (r_x351).2; have := (r_x353).1; have := (r_x353).2; have := (r_x355).1; have := (r_x355).2; have := (r_x357).1; have := (r_x357).2; have := (r_x359).1; have := (r_x359).2; have := (r_x434).1; have := (r_x434).2; have := (r_x437).1; have := (r_x437).2; have := (r_x439).1; have := (r_x439).2; have := (r_x441).1; have := (r_x441).2; have := (rc_0).1; have := (rc_0).2; have := kc_0; have := kc_1; have := kc_91; omega) hpd2 (by rw [← t447]; have := (r_x274).1; have := (r_x274).2; have := (r_x222).1; have := (r_x222).2; have := (r_x224).1; have := (r_x224).2; have := (r_x226).1; have := (r_x226).2; have := (r_x228).1; have := (r_x228).2; have := (r_x230).1; have := (r_x230).2; have := (r_x349).1; have := (r_x349).2; have := (r_x351).1; have := (r_x351).2; have := (r_x353).1; have := (r_x353).2; have := (r_x355).1; have := (r_x355).2; have := (r_x357).1; have := (r_x357).2; have := (r_x359).1; have := (r_x359).2; have := (r_x434).1; have := (r_x434).2; have := (r_x437).1; have := (r_x437).2; have := (r_x439).1; have := (r_x439).2; have := (r_x441).1; have := (r_x441).2; have := (rc_0).1; have := (rc_0).2; have := kc_0; have := kc_1; have := kc_91; omega) (by rw [← t454]; have := (r_x274).1; have := (r_x274).2; have := (r_x222).1; have := (r_x222).2; have := (r_x224).1; have := (r_x224).2; have := (r_x226).1; have := (r_x226).2; have := (r_x228).1; have := (r_x228).2; have := (r_x230).1; have := (r_x230).2; have := (r_x349).1; have := (r_x349).2; have := (r_x351).1; have := (r_x351).2; have := (r_x353).1; have := (r_x353).2; have := (r_x355).1; have := (r_x355).2; have := (r_x357).1; have := (r_x357).2; have := (r_x359).1; have := (r_x359).2; have := (r_x434).1; have := (r_x434).2; have := (r_x437).1; have := (r_x437).2; have := (r_x439).1; have := (r_x439).2; have := (r_x441).1; have := (r_x441).2; have := (rc_0).1; have := (rc_0).2; have := kc_0; have := kc_1; have := kc_91; have := kc_0; omega) (mh_fl_c hfl hs4) (by rw [← t449]; exact hab2) (by rw [← t449]; exact hge2)) rfl rfl (Nat.le_of_ble_eq_true rfl) (mh_rok (by omega) (by decide)) (fun x455 s456 q457 => ?_)
              obtain ⟨r_x455, e0_s456, e1_s456, e2_s456, e3_s456, e4_s456, e5_s456, hI_s456, hG_s456⟩ := q457
              have hF_s456 : mh_F S_X10_value s0 s456 := mh_F_tl hF_s443 hG_s456 (by decide +kernel)
              obtain ⟨x458, t459⟩ : ∃ z : Int32, z = s456.1 57 23 := ⟨_, rfl⟩
              have t460 : x351 = s456.1 57 24 := (t446).trans (hG_s456 57 24 (mh_nsI (by rfl))).1.symm
              obtain ⟨x461, t462⟩ : ∃ z : Int32, z = s456.1 57 25 := ⟨_, rfl⟩
              obtain ⟨x463, t464⟩ : ∃ z : Int32, z = s456.1 57 27 := ⟨_, rfl⟩
              obtain ⟨x465, t466⟩ : ∃ z : Int32, z = s456.1 57 29 := ⟨_, rfl⟩
              have pb_s456 : 0 ≤ x458.toInt ∧ x458.toInt ≤ x351.toInt ∧ x351.toInt ≤ 200 ∧ 0 ≤ x465.toInt ∧ 0 ≤ b ∧ b ≤ x463.toInt ∧ x465.toInt + x463.toInt ≤ x458.toInt ∧ x461.toInt ≤ 0 := by have h9 := e0_s456; unfold mh_pb at h9; rw [← t459, ← t460, ← t462, ← t464, ← t466] at h9; exact h9
              have r_x458 : mh_r x458 (0) (200) := ⟨by have := ((mh_r_full x458)).1; omega, by have := ((mh_r_full x458)).2; omega⟩
              have r_x461 : mh_r x461 (-2147483648) (0) := ⟨by have := ((mh_r_full x461)).1; omega, by have := ((mh_r_full x461)).2; omega⟩
              have r_x463 : mh_r x463 (0) (200) := ⟨by have := ((mh_r_full x463)).1; omega, by have := ((mh_r_full x463)).2; omega⟩
              have r_x465 : mh_r x465 (0) (200) := ⟨by have := ((mh_r_full x465)).1; omega, by have := ((mh_r_full x465)).2; omega⟩
              obtain ⟨x467, t468⟩ : ∃ z : Int32, z = s456.1 57 31 := ⟨_, rfl⟩
              have hsy_s456 := e5_s456
              rw [← t445, ← t459, ← t462] at hsy_s456
              refine mw_if_eq 48 rfl 52 dX10_value_45 (by decide) (fun c469 => ?_) (fun c469 => ?_)
              · skip
                have r_x455 : mh_r x455 (0) (0) := mh_eq1 (show x455.toInt = (0 : Int32).toInt from c469) r_x455 rc_0 (0) (0) (by decide)
                refine mw_iconst (v := 0) 53 rfl dX10_value_52 (by decide) ?_
                refine mw_istore_n 54 rfl [(1, .int (0)), (0, .ref (G.2.2.2 57))] dX10_value_53 rfl (by decide) rfl ?_
                refine mw_goto 57 rfl 7 dX10_value_54 (by decide) ?_
                exact mw_lv [1, 0] rfl (ihn1 (0) s456 (mh_r_wk rc_0 (by decide)) hI_s456 hF_s456 (by
                    have h9 := e3_s456
                    have hpl := iv.2.2.2.2.2.2.2
                    have := r_x274.1; have := r_x274.2
                    have := congrArg Int32.toInt t223
                    have := congrArg Int32.toInt t225
                    have := congrArg Int32.toInt t227
                    have := congrArg Int32.toInt t229
                    have := congrArg Int32.toInt t231
                    have := congrArg Int32.toInt t350
                    have := congrArg Int32.toInt t352
                    have := congrArg Int32.toInt t354
                    have := congrArg Int32.toInt t356
                    have := congrArg Int32.toInt t358
                    have := congrArg Int32.toInt t435
                    have := congrArg Int32.toInt t436
                    have := congrArg Int32.toInt t438
                    have := congrArg Int32.toInt t440
                    have := congrArg Int32.toInt t442
                    have := congrArg Int32.toInt t445
                    have := congrArg Int32.toInt t446
                    have := congrArg Int32.toInt t447
                    have := congrArg Int32.toInt t448
                    have := congrArg Int32.toInt t449
                    have := congrArg Int32.toInt t459
                    have := congrArg Int32.toInt t460
                    have := congrArg Int32.toInt t462
                    have := congrArg Int32.toInt t464
                    have := congrArg Int32.toInt t466
                    have := (rc_0).1; have := (rc_0).2
                    have := (r_x222).1; have := (r_x222).2
                    have := (r_x224).1; have := (r_x224).2
                    have := (r_x226).1; have := (r_x226).2
                    have := (r_x228).1; have := (r_x228).2
                    have := (r_x230).1; have := (r_x230).2
                    have := (r_x349).1; have := (r_x349).2
                    have := (r_x351).1; have := (r_x351).2
                    have := (r_x353).1; have := (r_x353).2
                    have := (r_x355).1; have := (r_x355).2
                    have := (r_x357).1; have := (r_x357).2
                    have := (r_x359).1; have := (r_x359).2
                    have := (r_x434).1; have := (r_x434).2
                    have := (r_x437).1; have := (r_x437).2
                    have := (r_x439).1; have := (r_x439).2
                    have := (r_x441).1; have := (r_x441).2
                    have := (r_x458).1; have := (r_x458).2
                    have := (r_x461).1; have := (r_x461).2
                    have := (r_x463).1; have := (r_x463).2
                    have := (r_x465).1; have := (r_x465).2
                    have := kc_0
                    have := kc_1
                    have := kc_91
                    have := r_x455.1; have := r_x455.2
                    have hz9 : x455.toInt = 0 := by omega
                    refine ⟨e0_s456, mh_pk_tr hpk2 e1_s456, h9.1, h9.2.1, fun j hj => (h9.2.2 j hj).trans (hs4 j hj), ?_, ?_, ?_⟩
                    · intro q; exact absurd q (by decide)
                    · intro _ q2; exact ⟨(e2_s456).2.2 hz9, e4_s456 hz9 q2, by omega⟩
                    · omega) (by have := congrArg Int32.toInt t223; have := congrArg Int32.toInt t225; have := congrArg Int32.toInt t227; have := congrArg Int32.toInt t229; have := congrArg Int32.toInt t231; have := congrArg Int32.toInt t350; have := congrArg Int32.toInt t352; have := congrArg Int32.toInt t354; have := congrArg Int32.toInt t356; have := congrArg Int32.toInt t358; have := congrArg Int32.toInt t435; have := congrArg Int32.toInt t436; have := congrArg Int32.toInt t438; have := congrArg Int32.toInt t440; have := congrArg Int32.toInt t442; have := congrArg Int32.toInt t445; have := congrArg Int32.toInt t446; have := congrArg Int32.toInt t447; have := congrArg Int32.toInt t448; have := congrArg Int32.toInt t449; have := congrArg Int32.toInt t459; have := congrArg Int32.toInt t460; have := congrArg Int32.toInt t462; have := congrArg Int32.toInt t464; have := congrArg Int32.toInt t466; have := (rc_0).1; have := (rc_0).2; have := (r_x222).1; have := (r_x222).2; have := (r_x224).1; have := (r_x224).2; have := (r_x226).1; have := (r_x226).2; have := (r_x228).1; have := (r_x228).2; have := (r_x230).1; have := (r_x230).2; have := (r_x349).1; have := (r_x349).2; have := (r_x351).1; have := (r_x351).2; have := (r_x353).1; have := (r_x353).2; have := (r_x355).1; have := (r_x355).2; have := (r_x357).1; have := (r_x357).2; have := (r_x359).1; have := (r_x359).2; have := (r_x434).1; have := (r_x434).2; have := (r_x437).1; have := (r_x437).2; have := (r_x439).1; have := (r_x439).2; have := (r_x441).1; have := (r_x441).2; have := (r_x458).1; have := (r_x458).2; have := (r_x461).1; have := (r_x461).2; have := (r_x463).1; have := (r_x463).2; have := (r_x465).1; have := (r_x465).2; have := kc_0; have := kc_1; have := kc_91; have := r_x274.1; have := r_x274.2; have := r_x455.1; have := r_x455.2; have := kc_0; have := kc_1; omega))
              · skip
                have r_x455 : mh_r x455 (1) (1) := mh_ne1 (show x455.toInt ≠ (0 : Int32).toInt from c469) r_x455 rc_0 (1) (1) (by decide)
                refine mw_iconst (v := 1) 49 rfl dX10_value_48 (by decide) ?_
                refine mw_goto 52 rfl 53 dX10_value_49 (by decide) ?_
                refine mw_istore_n 54 rfl [(1, .int (1)), (0, .ref (G.2.2.2 57))] dX10_value_53 rfl (by decide) rfl ?_
                refine mw_goto 57 rfl 7 dX10_value_54 (by decide) ?_
                exact mw_lv [1, 0] rfl (ihn1 (1) s456 (mh_r_wk rc_1 (by decide)) hI_s456 hF_s456 (by
                    have h9 := e3_s456
                    have hpl := iv.2.2.2.2.2.2.2
                    have := r_x274.1; have := r_x274.2
                    have := congrArg Int32.toInt t223
                    have := congrArg Int32.toInt t225
                    have := congrArg Int32.toInt t227
                    have := congrArg Int32.toInt t229
                    have := congrArg Int32.toInt t231
                    have := congrArg Int32.toInt t350
                    have := congrArg Int32.toInt t352
                    have := congrArg Int32.toInt t354
                    have := congrArg Int32.toInt t356
                    have := congrArg Int32.toInt t358
                    have := congrArg Int32.toInt t435
                    have := congrArg Int32.toInt t436
                    have := congrArg Int32.toInt t438
                    have := congrArg Int32.toInt t440
                    have := congrArg Int32.toInt t442
                    have := congrArg Int32.toInt t445
                    have := congrArg Int32.toInt t446
                    have := congrArg Int32.toInt t447
                    have := congrArg Int32.toInt t448
                    have := congrArg Int32.toInt t449
                    have := congrArg Int32.toInt t459
                    have := congrArg Int32.toInt t460
                    have := congrArg Int32.toInt t462
                    have := congrArg Int32.toInt t464
                    have := congrArg Int32.toInt t466
                    have := (rc_1).1; have := (rc_1).2
                    have := (r_x222).1; have := (r_x222).2
                    have := (r_x224).1; have := (r_x224).2
                    have := (r_x226).1; have := (r_x226).2
                    have := (r_x228).1; have := (r_x228).2
                    have := (r_x230).1; have := (r_x230).2
                    have := (r_x349).1; have := (r_x349).2
                    have := (r_x351).1; have := (r_x351).2
                    have := (r_x353).1; have := (r_x353).2
                    have := (r_x355).1; have := (r_x355).2
                    have := (r_x357).1; have := (r_x357).2
                    have := (r_x359).1; have := (r_x359).2
                    have := (r_x434).1; have := (r_x434).2
                    have := (r_x437).1; have := (r_x437).2
                    have := (r_x439).1; have := (r_x439).2
                    have := (r_x441).1; have := (r_x441).2
                    have := (rc_0).1; have := (rc_0).2
                    have := (r_x458).1; have := (r_x458).2
                    have := (r_x461).1; have := (r_x461).2
                    have := (r_x463).1; have := (r_x463).2
                    have := (r_x465).1; have := (r_x465).2
                    have := kc_0
                    have := kc_1
                    have := kc_91
                    have := r_x455.1; have := r_x455.2
                    have hz9 : x455.toInt = 1 := by omega
                    refine ⟨e0_s456, mh_pk_tr hpk2 e1_s456, h9.1, h9.2.1, fun j hj => (h9.2.2 j hj).trans (hs4 j hj), ?_, ?_, ?_⟩
                    · intro _; exact ⟨(e2_s456).1 hz9, fun q => ⟨(e2_s456).2.1 hz9 q, by omega⟩⟩
                    · intro q; exact absurd q (by decide)
                    · omega) (by have := congrArg Int32.toInt t223; have := congrArg Int32.toInt t225; have := congrArg Int32.toInt t227; have := congrArg Int32.toInt t229; have := congrArg Int32.toInt t231; have := congrArg Int32.toInt t350; have := congrArg Int32.toInt t352; have := congrArg Int32.toInt t354; have := congrArg Int32.toInt t356; have := congrArg Int32.toInt t358; have := congrArg Int32.toInt t435; have := congrArg Int32.toInt t436; have := congrArg Int32.toInt t438; have := congrArg Int32.toInt t440; have := congrArg Int32.toInt t442; have := congrArg Int32.toInt t445; have := congrArg Int32.toInt t446; have := congrArg Int32.toInt t447; have := congrArg Int32.toInt t448; have := congrArg Int32.toInt t449; have := congrArg Int32.toInt t459; have := congrArg Int32.toInt t460; have := congrArg Int32.toInt t462; have := congrArg Int32.toInt t464; have := congrArg Int32.toInt t466; have := (rc_1).1; have := (rc_1).2; have := (r_x222).1; have := (r_x222).2; have := (r_x224).1; have := (r_x224).2; have := (r_x226).1; have := (r_x226).2; have := (r_x228).1; have := (r_x228).2; have := (r_x230).1; have := (r_x230).2; have := (r_x349).1; have := (r_x349).2; have := (r_x351).1; have := (r_x351).2; have := (r_x353).1; have := (r_x353).2; have := (r_x355).1; have := (r_x355).2; have := (r_x357).1; have := (r_x357).2; have := (r_x359).1; have := (r_x359).2; have := (r_x434).1; have := (r_x434).2; have := (r_x437).1; have := (r_x437).2; have := (r_x439).1; have := (r_x439).2; have := (r_x441).1; have := (r_x441).2; have := (rc_0).1; have := (rc_0).2; have := (r_x458).1; have := (r_x458).2; have := (r_x461).1; have := (r_x461).2; have := (r_x463).1; have := (r_x463).2; have := (r_x465).1; have := (r_x465).2; have := kc_0; have := kc_1; have := kc_91; have := r_x274.1; have := r_x274.2; have := r_x455.1; have := r_x455.2; have := kc_0; have := kc_1; omega))
  have t470 : x222 = s232.1 57 23 := by rw [t233]; exact (t223).trans (mh_pI_n (by omega)).symm
  have t471 : x224 = s232.1 57 24 := by rw [t233]; exact (t225).trans (mh_pI_n (by omega)).symm
  have t472 : x226 = s232.1 57 25 := by rw [t233]; exact (t227).trans (mh_pI_n (by omega)).symm
  have t473 : x228 = s232.1 57 27 := by rw [t233]; exact (t229).trans (mh_pI_n (by omega)).symm
  have t474 : x230 = s232.1 57 29 := by rw [t233]; exact (t231).trans (mh_pI_n (by omega)).symm
  have t475 : (0) = s232.1 57 31 := by rw [t233]; exact mh_pI_s.symm
  exact mw_lv [1, 0] rfl (L7 404 (1) s232 (mh_r_wk rc_1 (by decide)) hI_s232 hF_s232 (by
      have h76 : s232.1 76 = s0.1 76 := (by rw [t233]; exact mh_row_n (by decide) : s232.1 76 = s0.1 76)
      have h29 : s232.1 57 29 = s0.1 57 29 := (t474.symm.trans t231)
      refine ⟨(show mh_pb b s232 by unfold mh_pb; rw [← t470, ← t471, ← t472, ← t473, ← t474]; have := kc_0; have := kc_1; have := (rc_1).1; have := (rc_1).2; have := (r_x222).1; have := (r_x222).2; have := (r_x224).1; have := (r_x224).2; have := (r_x226).1; have := (r_x226).2; have := (r_x228).1; have := (r_x228).2; have := (r_x230).1; have := (r_x230).2; have := kc_0; have := kc_1; have := kc_91; omega), mh_pk_row ((by rw [t233]; exact mh_row_n (by decide) : s232.1 74 = s0.1 74)), by rw [h29]; exact Nat.le_refl _, ?_, ?_, ?_, ?_, ?_⟩
      · rw [h29]; exact fun j h1 h2 => absurd h2 (by omega)
      · intro j hj; rw [h76]
      · intro _; refine ⟨fun _ => (mh_pd_c hd (t472.symm.trans t227) (t473.symm.trans t229) (t474.symm.trans t231) ((by rw [t233]; exact mh_row_n (by decide) : s232.1 74 = s0.1 74)) ((by rw [t233]; exact mh_row_n (by decide) : s232.1 76 = s0.1 76))), fun q => ?_⟩
        exfalso; rw [← t475] at q; have := kc_0; omega
      · intro q; exact absurd q (by decide)
      · have := congrArg Int32.toInt t223; have := congrArg Int32.toInt t225; have := congrArg Int32.toInt t227; have := congrArg Int32.toInt t229; have := congrArg Int32.toInt t231; have := congrArg Int32.toInt t470; have := congrArg Int32.toInt t471; have := congrArg Int32.toInt t472; have := congrArg Int32.toInt t473; have := congrArg Int32.toInt t474; have := (rc_1).1; have := (rc_1).2; have := (r_x222).1; have := (r_x222).2; have := (r_x224).1; have := (r_x224).2; have := (r_x226).1; have := (r_x226).2; have := (r_x228).1; have := (r_x228).2; have := (r_x230).1; have := (r_x230).2; have := kc_0; have := kc_1; have := kc_91; omega) (by have h9 := hb; unfold mh_pb at h9; have := kc_1; have := congrArg Int32.toInt t223; have := congrArg Int32.toInt t225; have := congrArg Int32.toInt t227; have := congrArg Int32.toInt t229; have := congrArg Int32.toInt t231; have := congrArg Int32.toInt t470; have := congrArg Int32.toInt t471; have := congrArg Int32.toInt t472; have := congrArg Int32.toInt t473; have := congrArg Int32.toInt t474; have := (rc_1).1; have := (rc_1).2; have := (r_x222).1; have := (r_x222).2; have := (r_x224).1; have := (r_x224).2; have := (r_x226).1; have := (r_x226).2; have := (r_x228).1; have := (r_x228).2; have := (r_x230).1; have := (r_x230).2; have := (rc_0).1; have := (rc_0).2; have := kc_0; have := kc_1; have := kc_91; omega))

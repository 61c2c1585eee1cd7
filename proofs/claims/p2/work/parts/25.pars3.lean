def S_X10_factor : List (Nat × Nat) := [(57, 28), (76, 9999), (57, 29), (57, 23), (57, 25), (74, 9999), (75, 9999), (57, 27)]
def P_X10_factor (B D : Int) (s0 : mh_H) (b : Int) : mh_H → Prop := fun s => (mh_pb b s) ∧ (mh_pd b 1 s) ∧ (mh_pk b s0 s) ∧ ((s0.1 57 29).toInt ≤ (s.1 57 29).toInt ∧ (s0.1 57 23).toInt ≤ (s.1 57 23).toInt ∧ ((s.1 57 25).toInt = 0 → (s0.1 57 23).toInt + 1 ≤ (s.1 57 23).toInt) ∧ ((s.1 57 25).toInt = 0 → (s0.1 57 25).toInt = 0)) ∧ ((∀ j : Nat, j < (s0.1 57 29).toInt.toNat → s.1 76 j = s0.1 76 j) ∧ (∀ j : Nat, (s0.1 57 29).toInt.toNat ≤ j → j < (s.1 57 29).toInt.toNat → (s.1 76 j).toInt = 91)) ∧ mh_I B D s ∧ mh_F S_X10_factor s0 s
set_option maxRecDepth 100000 in
set_option maxHeartbeats 4000000 in
theorem w_X10_factor (l : Launch) (G : mh_G) (d : Nat) {B D : Int} (hB : B ≤ 1940000000 ∧ D ≤ 1940000000) {s0 : mh_H} (hI0 : mh_I B D s0) (b : Int) (hb : mh_pb b s0) (hd : mh_pd b 0 s0) : mh_Mv l G (d + 3) mM_X10_factor [.ref (G.2.2.2 57)] s0 (P_X10_factor B D s0 b) := by
  refine mh_enter (lv := [(0, .ref (G.2.2.2 57))]) (by decide) rfl (Nat.le_of_ble_eq_true rfl) ?_
  have hF0 : mh_F S_X10_factor s0 s0 := mh_F_rf
  obtain ⟨x136, t137⟩ : ∃ z : Int32, z = s0.1 57 23 := ⟨_, rfl⟩
  obtain ⟨x138, t139⟩ : ∃ z : Int32, z = s0.1 57 24 := ⟨_, rfl⟩
  obtain ⟨x140, t141⟩ : ∃ z : Int32, z = s0.1 57 25 := ⟨_, rfl⟩
  obtain ⟨x142, t143⟩ : ∃ z : Int32, z = s0.1 57 27 := ⟨_, rfl⟩
  obtain ⟨x144, t145⟩ : ∃ z : Int32, z = s0.1 57 29 := ⟨_, rfl⟩
  have pb_s0 : 0 ≤ x136.toInt ∧ x136.toInt ≤ x138.toInt ∧ x138.toInt ≤ 200 ∧ 0 ≤ x144.toInt ∧ 0 ≤ b ∧ b ≤ x142.toInt ∧ x144.toInt + x142.toInt ≤ x136.toInt ∧ x140.toInt ≤ 0 := by have h9 := hb; unfold mh_pb at h9; rw [← t137, ← t139, ← t141, ← t143, ← t145] at h9; exact h9
  have r_x136 : mh_r x136 (0) (200) := ⟨by have := ((mh_r_full x136)).1; omega, by have := ((mh_r_full x136)).2; omega⟩
  have r_x138 : mh_r x138 (0) (200) := ⟨by have := ((mh_r_full x138)).1; omega, by have := ((mh_r_full x138)).2; omega⟩
  have r_x140 : mh_r x140 (-2147483648) (0) := ⟨by have := ((mh_r_full x140)).1; omega, by have := ((mh_r_full x140)).2; omega⟩
  have r_x142 : mh_r x142 (0) (200) := ⟨by have := ((mh_r_full x142)).1; omega, by have := ((mh_r_full x142)).2; omega⟩
  have r_x144 : mh_r x144 (0) (200) := ⟨by have := ((mh_r_full x144)).1; omega, by have := ((mh_r_full x144)).2; omega⟩
  have L0 : ∀ n1 : Nat, ∀  (s163 : mh_H), mh_I B D s163 → mh_F S_X10_factor s0 s163 → (mh_pb b s163 ∧ mh_pd b 0 s163 ∧ s163.1 74 = s0.1 74 ∧ (s0.1 57 29).toInt ≤ (s163.1 57 29).toInt ∧ (s0.1 57 23).toInt ≤ (s163.1 57 23).toInt ∧ ((s163.1 57 25).toInt = 0 → (s0.1 57 25).toInt = 0) ∧ (∀ j : Nat, j < (s0.1 57 29).toInt.toNat → s163.1 76 j = s0.1 76 j) ∧ (∀ j : Nat, (s0.1 57 29).toInt.toNat ≤ j → j < (s163.1 57 29).toInt.toNat → (s163.1 76 j).toInt = 91)) → 200 - (s163.1 57 23).toInt < (n1 : Int) → mh_W G (mh_XM l G (d + 3) (mh_Qv (P_X10_factor B D s0 b))) mM_X10_factor 0 [(0, .ref (G.2.2.2 57))] [] s163 := by
    intro n1
    induction n1 with
    | zero =>
      intro s163 hI_s163 hF_s163 iv hmn1
      exact absurd hmn1 (by have h9 := iv.1; unfold mh_pb at h9; omega)
    | succ n1 ihn1 =>
      intro s163 hI_s163 hF_s163 iv hmn1
      obtain ⟨x192, t193⟩ : ∃ z : Int32, z = s163.1 57 23 := ⟨_, rfl⟩
      obtain ⟨x194, t195⟩ : ∃ z : Int32, z = s163.1 57 24 := ⟨_, rfl⟩
      obtain ⟨x196, t197⟩ : ∃ z : Int32, z = s163.1 57 25 := ⟨_, rfl⟩
      obtain ⟨x198, t199⟩ : ∃ z : Int32, z = s163.1 57 27 := ⟨_, rfl⟩
      obtain ⟨x200, t201⟩ : ∃ z : Int32, z = s163.1 57 29 := ⟨_, rfl⟩
      have pb_s163 : 0 ≤ x192.toInt ∧ x192.toInt ≤ x194.toInt ∧ x194.toInt ≤ 200 ∧ 0 ≤ x200.toInt ∧ 0 ≤ b ∧ b ≤ x198.toInt ∧ x200.toInt + x198.toInt ≤ x192.toInt ∧ x196.toInt ≤ 0 := by have h9 := iv.1; unfold mh_pb at h9; rw [← t193, ← t195, ← t197, ← t199, ← t201] at h9; exact h9
      have r_x192 : mh_r x192 (0) (200) := ⟨by have := ((mh_r_full x192)).1; omega, by have := ((mh_r_full x192)).2; omega⟩
      have r_x194 : mh_r x194 (0) (200) := ⟨by have := ((mh_r_full x194)).1; omega, by have := ((mh_r_full x194)).2; omega⟩
      have r_x196 : mh_r x196 (-2147483648) (0) := ⟨by have := ((mh_r_full x196)).1; omega, by have := ((mh_r_full x196)).2; omega⟩
      have r_x198 : mh_r x198 (0) (200) := ⟨by have := ((mh_r_full x198)).1; omega, by have := ((mh_r_full x198)).2; omega⟩
      have r_x200 : mh_r x200 (0) (200) := ⟨by have := ((mh_r_full x200)).1; omega, by have := ((mh_r_full x200)).2; omega⟩
      refine mw_aload_n 1 rfl 0 dX10_factor_0 rfl rfl ?_
      refine mw_callVi [] [] 4 rfl dX10_factor_1 ml_X10_197 mc_X10_isGood mk_X10_isGood rfl rfl (by decide) (w_X10_isGood l G (d + 2) ⟨by omega, by omega⟩ hI_s163) rfl rfl (Nat.le_of_ble_eq_true rfl) (mh_rok (by omega) (by decide)) (fun x202 s203 q204 => ?_)
      obtain ⟨r_x202, e0_s203, rfl⟩ := q204
      rw [← t197] at e0_s203
      refine mw_if_eq 7 rfl 23 dX10_factor_4 (by decide) (fun c205 => ?_) (fun c205 => ?_)
      · skip
        have r_x196 : mh_r x196 (-2147483648) (-1) := ⟨(r_x196).1, by have := (r_x196).2; have : x196.toInt ≠ 0 := (fun q => by have := e0_s203.2 q; have := c205; omega); omega⟩
        have r_x202 : mh_r x202 (0) (0) := mh_eq1 (show x202.toInt = (0 : Int32).toInt from c205) r_x202 rc_0 (0) (0) (by decide)
        refine mw_aload_n 24 rfl 0 dX10_factor_23 rfl rfl ?_
        refine mw_callVi [] [] 27 rfl dX10_factor_24 ml_X10_197 mc_X10_isGood mk_X10_isGood rfl rfl (by decide) (w_X10_isGood l G (d + 2) ⟨by omega, by omega⟩ hI_s163) rfl rfl (Nat.le_of_ble_eq_true rfl) (mh_rok (by omega) (by decide)) (fun x206 s207 q208 => ?_)
        obtain ⟨r_x206, e0_s207, rfl⟩ := q208
        rw [← t197] at e0_s207
        refine mw_if_ne 30 rfl 31 dX10_factor_27 (by decide) (fun c209 => ?_) (fun c209 => ?_)
        · skip
          exact absurd (e0_s207.1 (mh_z1 r_x206 c209)) (by have := (r_x196).2; omega)
        · skip
          have r_x206 : mh_r x206 (0) (0) := mh_eq1 (show x206.toInt = (0 : Int32).toInt from c209) r_x206 rc_0 (0) (0) (by decide)
          refine mw_vret dX10_factor_30 rfl ⟨rfl, ⟨?_, ?_, ?_, ?_, ?_, hI_s163, hF_s163⟩⟩
          · skip
            exact (show mh_pb b s163 by unfold mh_pb; rw [← t193, ← t195, ← t197, ← t199, ← t201]; have := kc_0; have := kc_1; have := (r_x192).1; have := (r_x192).2; have := (r_x194).1; have := (r_x194).2; have := (r_x196).1; have := (r_x196).2; have := (r_x198).1; have := (r_x198).2; have := (r_x200).1; have := (r_x200).2; have := kc_0; have := kc_1; have := kc_91; omega)
          · skip
            intro hg
            exfalso
            have := congrArg Int32.toInt t193
            have := congrArg Int32.toInt t195
            have := congrArg Int32.toInt t197
            have := congrArg Int32.toInt t199
            have := congrArg Int32.toInt t201
            have := (r_x192).1; have := (r_x192).2
            have := (r_x194).1; have := (r_x194).2
            have := (r_x196).1; have := (r_x196).2
            have := (r_x198).1; have := (r_x198).2
            have := (r_x200).1; have := (r_x200).2
            have := kc_0
            have := kc_1
            have := kc_91
            omega
          · skip
            exact mh_pk_row (show s163.1 74 = s0.1 74 from (rfl).trans iv.2.2.1)
          · skip
            have := congrArg Int32.toInt t193
            have := congrArg Int32.toInt t195
            have := congrArg Int32.toInt t197
            have := congrArg Int32.toInt t199
            have := congrArg Int32.toInt t201
            have := (r_x192).1; have := (r_x192).2
            have := (r_x194).1; have := (r_x194).2
            have := (r_x196).1; have := (r_x196).2
            have := (r_x198).1; have := (r_x198).2
            have := (r_x200).1; have := (r_x200).2
            have := kc_0
            have := kc_1
            have := kc_91
            have h6 := iv.2.2.2.1
            have h5 := iv.2.2.2.2.1
            have h4 := iv.2.2.2.2.2.1
            omega
          · skip
            have h76 : s163.1 76 = s163.1 76 := rfl
            rw [h76]
            have h29 : s163.1 57 29 = s163.1 57 29 := by first | rfl | rw [← t201, ← t201]
            rw [h29]
            exact ⟨iv.2.2.2.2.2.2.1, iv.2.2.2.2.2.2.2⟩
      · skip
        have r_x196 : mh_r x196 (0) (0) := ⟨by have := e0_s203.1 (mh_z1 r_x202 c205); omega, by have := e0_s203.1 (mh_z1 r_x202 c205); omega⟩
        have r_x202 : mh_r x202 (1) (1) := mh_ne1 (show x202.toInt ≠ (0 : Int32).toInt from c205) r_x202 rc_0 (1) (1) (by decide)
        refine mw_aload_n 8 rfl 0 dX10_factor_7 rfl rfl ?_
        refine mw_callVi [] [] 11 rfl dX10_factor_8 ml_X10_214 mc_X10_here mk_X10_here rfl rfl (by decide) (w_X10_here l G (d + 2) ⟨by omega, by omega⟩ hI_s163 (by rw [← t193, ← t195]; have := (r_x192).1; have := (r_x192).2; have := (r_x194).1; have := (r_x194).2; have := (r_x196).1; have := (r_x196).2; have := (r_x198).1; have := (r_x198).2; have := (r_x200).1; have := (r_x200).2; have := kc_0; have := kc_1; have := kc_91; omega)) rfl rfl (Nat.le_of_ble_eq_true rfl) (mh_rok (by omega) (by decide)) (fun x210 s211 q212 => ?_)
        obtain ⟨r_x210, e0_s211, rfl⟩ := q212
        have hq_x210 : x210.toInt ≠ 0 → x192.toInt < x194.toInt := fun q => by rw [t193, t195]; exact mh_hr_lt (by rw [← e0_s211]; exact q)
        refine mw_bipush (v := 91) 13 rfl dX10_factor_11 (by decide) ?_
        refine mw_icmp_ne 16 rfl 23 dX10_factor_13 (by decide) (fun c213 => ?_) (fun c213 => ?_)
        · skip
          refine mw_aload_n 24 rfl 0 dX10_factor_23 rfl rfl ?_
          refine mw_callVi [] [] 27 rfl dX10_factor_24 ml_X10_197 mc_X10_isGood mk_X10_isGood rfl rfl (by decide) (w_X10_isGood l G (d + 2) ⟨by omega, by omega⟩ hI_s163) rfl rfl (Nat.le_of_ble_eq_true rfl) (mh_rok (by omega) (by decide)) (fun x214 s215 q216 => ?_)
          obtain ⟨r_x214, e0_s215, rfl⟩ := q216
          rw [← t197] at e0_s215
          refine mw_if_ne 30 rfl 31 dX10_factor_27 (by decide) (fun c217 => ?_) (fun c217 => ?_)
          · skip
            have r_x214 : mh_r x214 (1) (1) := mh_ne1 (show x214.toInt ≠ (0 : Int32).toInt from c217) r_x214 rc_0 (1) (1) (by decide)
            refine mw_aload_n 32 rfl 0 dX10_factor_31 rfl rfl ?_
            refine mw_callVi [] [] 35 rfl dX10_factor_32 ml_X10_225 mc_X10_seesDigit mk_X10_seesDigit rfl rfl (by decide) (w_X10_seesDigit l G (d + 1) ⟨by omega, by omega⟩ hI_s163 (by rw [← t193, ← t195]; have := (r_x192).1; have := (r_x192).2; have := (r_x194).1; have := (r_x194).2; have := (r_x196).1; have := (r_x196).2; have := (r_x198).1; have := (r_x198).2; have := (r_x200).1; have := (r_x200).2; have := kc_0; have := kc_1; have := kc_91; omega)) rfl rfl (Nat.le_of_ble_eq_true rfl) (mh_rok (by omega) (by decide)) (fun x218 s219 q220 => ?_)
            obtain ⟨r_x218, e0_s219, rfl⟩ := q220
            have hd_x218 : x218.toInt = 1 → x192.toInt < x194.toInt := fun q => by rw [t193, t195]; exact mh_hr_lt (by have := e0_s219.1 q; omega)
            refine mw_if_eq 38 rfl 50 dX10_factor_35 (by decide) (fun c221 => ?_) (fun c221 => ?_)
            · skip
              have r_x218 : mh_r x218 (0) (0) := mh_eq1 (show x218.toInt = (0 : Int32).toInt from c221) r_x218 rc_0 (0) (0) (by decide)
              refine mw_aload_n 51 rfl 0 dX10_factor_50 rfl rfl ?_
              refine mw_callVi [] [] 54 rfl dX10_factor_51 ml_X10_214 mc_X10_here mk_X10_here rfl rfl (by decide) (w_X10_here l G (d + 2) ⟨by omega, by omega⟩ hI_s163 (by rw [← t193, ← t195]; have := (r_x192).1; have := (r_x192).2; have := (r_x194).1; have := (r_x194).2; have := (r_x196).1; have := (r_x196).2; have := (r_x198).1; have := (r_x198).2; have := (r_x200).1; have := (r_x200).2; have := kc_0; have := kc_1; have := kc_91; omega)) rfl rfl (Nat.le_of_ble_eq_true rfl) (mh_rok (by omega) (by decide)) (fun x222 s223 q224 => ?_)
              obtain ⟨r_x222, e0_s223, rfl⟩ := q224
              obtain rfl : x210 = x222 := e0_s211.trans e0_s223.symm
              refine mw_callSi [.int x210] [] 57 rfl dX10_factor_54 ml_X10_246 mc_X10_isValue mk_X10_isValue (w_X10_isValue l G (d + 2) ⟨by omega, by omega⟩ hI_s163 x210) rfl rfl (Nat.le_of_ble_eq_true rfl) (mh_rok (by omega) (by decide)) (fun x225 s226 q227 => ?_)
              obtain ⟨r_x225, e0_s226, rfl⟩ := q227
              refine mw_if_eq 60 rfl 82 dX10_factor_57 (by decide) (fun c228 => ?_) (fun c228 => ?_)
              · skip
                have r_x225 : mh_r x225 (0) (0) := mh_eq1 (show x225.toInt = (0 : Int32).toInt from c228) r_x225 rc_0 (0) (0) (by decide)
                refine mw_aload_n 83 rfl 0 dX10_factor_82 rfl rfl ?_
                refine mw_iconst (v := 1) 84 rfl dX10_factor_83 (by decide) ?_
                refine mw_aload_n 85 rfl 0 dX10_factor_84 rfl rfl ?_
                refine mw_geti 88 rfl dX10_factor_85 gf_X10_188 rfl (fun x229 t230 => ?_)
                obtain rfl : x192 = x229 := t193.trans t230.symm
                refine mw_callVv [.int (1), .int x192] [] 91 rfl dX10_factor_88 ml_X10_210 mc_X10_wrongs mk_X10_wrongs rfl rfl (by decide) (w_X10_wrongs l G (d + 2) ⟨by omega, by omega⟩ hI_s163 (1) (mh_r_wk rc_1 (by decide)) x192 r_x192 (by rw [← t197]; have := (r_x192).1; have := (r_x192).2; have := (r_x194).1; have := (r_x194).2; have := (r_x196).1; have := (r_x196).2; have := (r_x198).1; have := (r_x198).2; have := (r_x200).1; have := (r_x200).2; have := kc_0; have := kc_1; have := kc_91; omega)) rfl rfl (Nat.le_of_ble_eq_true rfl) (mh_rok (by omega) (by decide)) (fun s232 q233 => ?_)
                obtain ⟨e0_s232, hI_s232, hG_s232⟩ := q233
                have hF_s232 : mh_F S_X10_factor s0 s232 := mh_F_tl hF_s163 hG_s232 (by decide +kernel)
                obtain ⟨x234, t235⟩ : ∃ z : Int32, z = s232.1 57 25 := ⟨_, rfl⟩
                have hw_s232 : x234.toInt < 0 := by rw [t235]; exact e0_s232
                have r_x234 : mh_r x234 (-2147483648) (-1) := ⟨((mh_r_full x234)).1, by have := hw_s232; omega⟩
                refine mw_vret dX10_factor_91 rfl ⟨rfl, ⟨?_, ?_, ?_, ?_, ?_, hI_s232, hF_s232⟩⟩
                · skip
                  have t236 : x192 = s232.1 57 23 := (t193).trans (hG_s232 57 23 (mh_nsI (by rfl))).1.symm
                  have t237 : x194 = s232.1 57 24 := (t195).trans (hG_s232 57 24 (mh_nsI (by rfl))).1.symm
                  have t238 : x198 = s232.1 57 27 := (t199).trans (hG_s232 57 27 (mh_nsI (by rfl))).1.symm
                  have t239 : x200 = s232.1 57 29 := (t201).trans (hG_s232 57 29 (mh_nsI (by rfl))).1.symm
                  exact (show mh_pb b s232 by unfold mh_pb; rw [← t236, ← t237, ← t235, ← t238, ← t239]; have := kc_0; have := kc_1; have := (r_x192).1; have := (r_x192).2; have := (r_x194).1; have := (r_x194).2; have := (r_x196).1; have := (r_x196).2; have := (r_x198).1; have := (r_x198).2; have := (r_x200).1; have := (r_x200).2; have := (r_x234).1; have := (r_x234).2; have := kc_0; have := kc_1; have := kc_91; omega)
                · skip
                  have t240 : x192 = s232.1 57 23 := (t193).trans (hG_s232 57 23 (mh_nsI (by rfl))).1.symm
                  have t241 : x194 = s232.1 57 24 := (t195).trans (hG_s232 57 24 (mh_nsI (by rfl))).1.symm
                  have t242 : x198 = s232.1 57 27 := (t199).trans (hG_s232 57 27 (mh_nsI (by rfl))).1.symm
                  have t243 : x200 = s232.1 57 29 := (t201).trans (hG_s232 57 29 (mh_nsI (by rfl))).1.symm
                  intro hg
                  exfalso
                  have := congrArg Int32.toInt t193
                  have := congrArg Int32.toInt t195
                  have := congrArg Int32.toInt t197
                  have := congrArg Int32.toInt t199
                  have := congrArg Int32.toInt t201
                  have := congrArg Int32.toInt t235
                  have := congrArg Int32.toInt t240
                  have := congrArg Int32.toInt t241
                  have := congrArg Int32.toInt t242
                  have := congrArg Int32.toInt t243
                  have := (r_x192).1; have := (r_x192).2
                  have := (r_x194).1; have := (r_x194).2
                  have := (r_x196).1; have := (r_x196).2
                  have := (r_x198).1; have := (r_x198).2
                  have := (r_x200).1; have := (r_x200).2
                  have := (r_x234).1; have := (r_x234).2
                  have := kc_0
                  have := kc_1
                  have := kc_91
                  omega
                · skip
                  exact mh_pk_row (show s232.1 74 = s0.1 74 from ((mh_F_row hG_s232 74 rfl)).trans iv.2.2.1)
                · skip
                  have t244 : x192 = s232.1 57 23 := (t193).trans (hG_s232 57 23 (mh_nsI (by rfl))).1.symm
                  have t245 : x194 = s232.1 57 24 := (t195).trans (hG_s232 57 24 (mh_nsI (by rfl))).1.symm
                  have t246 : x198 = s232.1 57 27 := (t199).trans (hG_s232 57 27 (mh_nsI (by rfl))).1.symm
                  have t247 : x200 = s232.1 57 29 := (t201).trans (hG_s232 57 29 (mh_nsI (by rfl))).1.symm
                  have := congrArg Int32.toInt t193
                  have := congrArg Int32.toInt t195
                  have := congrArg Int32.toInt t197
                  have := congrArg Int32.toInt t199
                  have := congrArg Int32.toInt t201
                  have := congrArg Int32.toInt t235
                  have := congrArg Int32.toInt t244
                  have := congrArg Int32.toInt t245
                  have := congrArg Int32.toInt t246
                  have := congrArg Int32.toInt t247
                  have := (r_x192).1; have := (r_x192).2
                  have := (r_x194).1; have := (r_x194).2
                  have := (r_x196).1; have := (r_x196).2
                  have := (r_x198).1; have := (r_x198).2
                  have := (r_x200).1; have := (r_x200).2
                  have := (r_x234).1; have := (r_x234).2
                  have := kc_0
                  have := kc_1
                  have := kc_91
                  have h6 := iv.2.2.2.1
                  have h5 := iv.2.2.2.2.1
                  have h4 := iv.2.2.2.2.2.1
                  omega
                · skip
                  have t248 : x200 = s232.1 57 29 := (t201).trans (hG_s232 57 29 (mh_nsI (by rfl))).1.symm
                  have h76 : s232.1 76 = s163.1 76 := (mh_F_row hG_s232 76 rfl)
                  rw [h76]
                  have h29 : s232.1 57 29 = s163.1 57 29 := by first | rfl | rw [← t248, ← t201]
                  rw [h29]
                  exact ⟨iv.2.2.2.2.2.2.1, iv.2.2.2.2.2.2.2⟩
              · skip
                have hk_x225 := e0_s226 (mh_z1 r_x225 c228)
                have r_x225 : mh_r x225 (1) (1) := mh_ne1 (show x225.toInt ≠ (0 : Int32).toInt from c228) r_x225 rc_0 (1) (1) (by decide)
                refine mw_aload_n 61 rfl 0 dX10_factor_60 rfl rfl ?_
                refine mw_iconst (v := 1) 62 rfl dX10_factor_61 (by decide) ?_
                refine mw_aload_n 63 rfl 0 dX10_factor_62 rfl rfl ?_
                refine mw_callVi [] [.int (1), .ref (G.2.2.2 57)] 66 rfl dX10_factor_63 ml_X10_214 mc_X10_here mk_X10_here rfl rfl (by decide) (w_X10_here l G (d + 2) ⟨by omega, by omega⟩ hI_s163 (by rw [← t193, ← t195]; have := (rc_1).1; have := (rc_1).2; have := (r_x192).1; have := (r_x192).2; have := (r_x194).1; have := (r_x194).2; have := (r_x196).1; have := (r_x196).2; have := (r_x198).1; have := (r_x198).2; have := (r_x200).1; have := (r_x200).2; have := kc_0; have := kc_1; have := kc_91; omega)) rfl rfl (Nat.le_of_ble_eq_true rfl) (mh_rok (by omega) (by decide)) (fun x249 s250 q251 => ?_)
                obtain ⟨r_x249, e0_s250, rfl⟩ := q251
                obtain rfl : x210 = x249 := e0_s211.trans e0_s250.symm
                refine mw_callVv [.int (1), .int x210] [] 69 rfl dX10_factor_66 ml_X10_237 mc_X10_emit mk_X10_emit rfl rfl (by decide) (w_X10_emit l G (d + 1) ⟨by omega, by omega⟩ hI_s163 (1) x210 (by rw [← t197, ← t199]; have := (r_x192).1; have := (r_x192).2; have := (r_x194).1; have := (r_x194).2; have := (r_x196).1; have := (r_x196).2; have := (r_x198).1; have := (r_x198).2; have := (r_x200).1; have := (r_x200).2; have := kc_0; have := kc_1; have := kc_91; omega)) rfl rfl (Nat.le_of_ble_eq_true rfl) (mh_rok (by omega) (by decide)) (fun s253 q254 => ?_)
                obtain ⟨e0_s253, hI_s253, hG_s253⟩ := q254
                have hF_s253 : mh_F S_X10_factor s0 s253 := mh_F_tl hF_s163 hG_s253 (by decide +kernel)
                obtain ⟨x255, t256⟩ : ∃ z : Int32, z = s253.1 57 27 := ⟨_, rfl⟩
                have hm_s253 : (x196.toInt = 0 → s253.1 74 = mh_u1 (s163.1 74) x198.toInt.toNat (1 : Int32) ∧ x255.toInt = x198.toInt + 1) ∧ (x196.toInt ≠ 0 → s253.1 74 = s163.1 74 ∧ x255.toInt = x198.toInt) := by
                  have h9 := e0_s253
                  rw [← t197, ← t199] at h9
                  rw [← t256] at h9
                  exact ⟨h9.1, fun q => ⟨(h9.2 q).1, congrArg Int32.toInt (h9.2 q).2⟩⟩
                have hn_s253 : (x196.toInt = 0 ∧ x255.toInt = x198.toInt + 1) ∨ (x196.toInt ≠ 0 ∧ x255.toInt = x198.toInt) := by by_cases q : x196.toInt = 0; exact Or.inl ⟨q, (hm_s253.1 q).2⟩; exact Or.inr ⟨q, (hm_s253.2 q).2⟩
                have r_x255 : mh_r x255 (0) (201) := ⟨by have := (r_x198).1; omega, by have := (r_x198).2; omega⟩
                refine mw_aload_n 70 rfl 0 dX10_factor_69 rfl rfl ?_
                refine mw_dup 71 rfl dX10_factor_70 rfl ?_
                refine mw_geti 74 rfl dX10_factor_71 gf_X10_188 rfl (fun x257 t258 => ?_)
                have t259 : x192 = s253.1 57 23 := (t193).trans (hG_s253 57 23 (mh_nsI (by rfl))).1.symm
                obtain rfl : x192 = x257 := t259.trans t258.symm
                refine mw_iconst (v := 1) 75 rfl dX10_factor_74 (by decide) ?_
                refine mw_iadd 76 rfl (1) (201) dX10_factor_75 r_x192 rc_1 (by decide) (fun x260 t261 r_x260 => ?_)
                refine mw_puti 79 rfl dX10_factor_76 pf_X10_188 rfl (fun s262 t263 => ?_)
                have hI_s262 : mh_I B D s262 := by rw [t263]; exact wr_57_23 hI_s253
                have hF_s262 : mh_F S_X10_factor s0 s262 := by rw [t263]; exact mh_F_pI hF_s253 (mh_sj 3 rfl)
                refine mw_goto 82 rfl 91 dX10_factor_79 (by decide) ?_
                refine mw_vret dX10_factor_91 rfl ⟨rfl, ⟨?_, ?_, ?_, ?_, ?_, hI_s262, hF_s262⟩⟩
                · skip
                  have t264 : x260 = s262.1 57 23 := by rw [t263]; exact mh_pI_s.symm
                  have t265 : x194 = s253.1 57 24 := (t195).trans (hG_s253 57 24 (mh_nsI (by rfl))).1.symm
                  have t266 : x194 = s262.1 57 24 := by rw [t263]; exact (t265).trans (mh_pI_n (by omega)).symm
                  have t267 : x196 = s253.1 57 25 := (t197).trans (hG_s253 57 25 (mh_nsI (by rfl))).1.symm
                  have t268 : x196 = s262.1 57 25 := by rw [t263]; exact (t267).trans (mh_pI_n (by omega)).symm
                  have t269 : x255 = s262.1 57 27 := by rw [t263]; exact (t256).trans (mh_pI_n (by omega)).symm
                  have t270 : x200 = s253.1 57 29 := (t201).trans (hG_s253 57 29 (mh_nsI (by rfl))).1.symm
                  have t271 : x200 = s262.1 57 29 := by rw [t263]; exact (t270).trans (mh_pI_n (by omega)).symm
                  exact (show mh_pb b s262 by unfold mh_pb; rw [← t264, ← t266, ← t268, ← t269, ← t271]; have := kc_0; have := kc_1; have := (r_x192).1; have := (r_x192).2; have := (r_x194).1; have := (r_x194).2; have := (r_x196).1; have := (r_x196).2; have := (r_x198).1; have := (r_x198).2; have := (r_x200).1; have := (r_x200).2; have := (r_x255).1; have := (r_x255).2; have := (r_x260).1; have := (r_x260).2; have := (rc_1).1; have := (rc_1).2; have := kc_0; have := kc_1; have := kc_91; omega)
                · skip
                  have t272 : x260 = s262.1 57 23 := by rw [t263]; exact mh_pI_s.symm
                  have t273 : x194 = s253.1 57 24 := (t195).trans (hG_s253 57 24 (mh_nsI (by rfl))).1.symm
                  have t274 : x194 = s262.1 57 24 := by rw [t263]; exact (t273).trans (mh_pI_n (by omega)).symm
                  have t275 : x196 = s253.1 57 25 := (t197).trans (hG_s253 57 25 (mh_nsI (by rfl))).1.symm
                  have t276 : x196 = s262.1 57 25 := by rw [t263]; exact (t275).trans (mh_pI_n (by omega)).symm
                  have t277 : x255 = s262.1 57 27 := by rw [t263]; exact (t256).trans (mh_pI_n (by omega)).symm
                  have t278 : x200 = s253.1 57 29 := (t201).trans (hG_s253 57 29 (mh_nsI (by rfl))).1.symm
                  have t279 : x200 = s262.1 57 29 := by rw [t263]; exact (t278).trans (mh_pI_n (by omega)).symm
                  intro hg
                  have := congrArg Int32.toInt t193
                  have := congrArg Int32.toInt t195
                  have := congrArg Int32.toInt t197
                  have := congrArg Int32.toInt t199
                  have := congrArg Int32.toInt t201
                  have := congrArg Int32.toInt t256
                  have := congrArg Int32.toInt t259
                  have := congrArg Int32.toInt t272
                  have := congrArg Int32.toInt t274
                  have := congrArg Int32.toInt t276
                  have := congrArg Int32.toInt t277
                  have := congrArg Int32.toInt t279
                  have := (r_x192).1; have := (r_x192).2
                  have := (r_x194).1; have := (r_x194).2
                  have := (r_x196).1; have := (r_x196).2
                  have := (r_x198).1; have := (r_x198).2
                  have := (r_x200).1; have := (r_x200).2
                  have := (r_x255).1; have := (r_x255).2
                  have := (r_x260).1; have := (r_x260).2
                  have := (rc_1).1; have := (rc_1).2
                  have := kc_0
                  have := kc_1
                  have := kc_91
                  have hg0 : x196.toInt = 0 := by omega
                  have hB := iv.2.1 (by rw [← t197]; omega)
                  rw [← t199, ← t201] at hB
                  have h74 : s262.1 74 = mh_u1 (s163.1 74) x198.toInt.toNat (1 : Int32) := by rw [show s262.1 74 = s253.1 74 from (by rw [t263]; exact mh_row_n (by decide) : s262.1 74 = s253.1 74), (hm_s253.1 hg0).1, show s163.1 74 = s163.1 74 from rfl]
                  have h76 : s262.1 76 = s163.1 76 := ((by rw [t263]; exact mh_row_n (by decide) : s262.1 76 = s253.1 76)).trans (mh_F_row hG_s253 76 rfl)
                  have hcod : (s262.1 57 27).toInt = x198.toInt + 1 := by rw [← t277]; exact (hm_s253.1 hg0).2
                  have hst : (s262.1 57 29).toInt.toNat = x200.toInt.toNat := by rw [← t279]
                  rw [h74, h76, hcod, hst]
                  exact mh_pdr_opd hB ⟨by omega, by omega⟩ (by omega)
                · skip
                  have t280 : x260 = s262.1 57 23 := by rw [t263]; exact mh_pI_s.symm
                  have t281 : x194 = s253.1 57 24 := (t195).trans (hG_s253 57 24 (mh_nsI (by rfl))).1.symm
                  have t282 : x194 = s262.1 57 24 := by rw [t263]; exact (t281).trans (mh_pI_n (by omega)).symm
                  have t283 : x196 = s253.1 57 25 := (t197).trans (hG_s253 57 25 (mh_nsI (by rfl))).1.symm
                  have t284 : x196 = s262.1 57 25 := by rw [t263]; exact (t283).trans (mh_pI_n (by omega)).symm
                  have t285 : x255 = s262.1 57 27 := by rw [t263]; exact (t256).trans (mh_pI_n (by omega)).symm
                  have t286 : x200 = s253.1 57 29 := (t201).trans (hG_s253 57 29 (mh_nsI (by rfl))).1.symm
                  have t287 : x200 = s262.1 57 29 := by rw [t263]; exact (t286).trans (mh_pI_n (by omega)).symm
                  have := congrArg Int32.toInt t193
                  have := congrArg Int32.toInt t195
                  have := congrArg Int32.toInt t197
                  have := congrArg Int32.toInt t199
                  have := congrArg Int32.toInt t201
                  have := congrArg Int32.toInt t256
                  have := congrArg Int32.toInt t259
                  have := congrArg Int32.toInt t280
                  have := congrArg Int32.toInt t282
                  have := congrArg Int32.toInt t284
                  have := congrArg Int32.toInt t285
                  have := congrArg Int32.toInt t287
                  have := (r_x192).1; have := (r_x192).2
                  have := (r_x194).1; have := (r_x194).2
                  have := (r_x196).1; have := (r_x196).2
                  have := (r_x198).1; have := (r_x198).2
                  have := (r_x200).1; have := (r_x200).2
                  have := (r_x255).1; have := (r_x255).2
                  have := (r_x260).1; have := (r_x260).2
                  have := (rc_1).1; have := (rc_1).2
                  have := kc_0
                  have := kc_1
                  have := kc_91
                  exact mh_pk_tr (mh_pk_row (show s163.1 74 = s0.1 74 from (rfl).trans iv.2.2.1)) (mh_pk_tr (mh_pk_em hm_s253 ⟨by omega, by omega⟩) (mh_pk_row ((by rw [t263]; exact mh_row_n (by decide) : s262.1 74 = s253.1 74))))
                · skip
                  have t288 : x260 = s262.1 57 23 := by rw [t263]; exact mh_pI_s.symm
                  have t289 : x194 = s253.1 57 24 := (t195).trans (hG_s253 57 24 (mh_nsI (by rfl))).1.symm
                  have t290 : x194 = s262.1 57 24 := by rw [t263]; exact (t289).trans (mh_pI_n (by omega)).symm
                  have t291 : x196 = s253.1 57 25 := (t197).trans (hG_s253 57 25 (mh_nsI (by rfl))).1.symm
                  have t292 : x196 = s262.1 57 25 := by rw [t263]; exact (t291).trans (mh_pI_n (by omega)).symm
                  have t293 : x255 = s262.1 57 27 := by rw [t263]; exact (t256).trans (mh_pI_n (by omega)).symm
                  have t294 : x200 = s253.1 57 29 := (t201).trans (hG_s253 57 29 (mh_nsI (by rfl))).1.symm
                  have t295 : x200 = s262.1 57 29 := by rw [t263]; exact (t294).trans (mh_pI_n (by omega)).symm
                  have := congrArg Int32.toInt t193
                  have := congrArg Int32.toInt t195
                  have := congrArg Int32.toInt t197
                  have := congrArg Int32.toInt t199
                  have := congrArg Int32.toInt t201
                  have := congrArg Int32.toInt t256
                  have := congrArg Int32.toInt t259
                  have := congrArg Int32.toInt t288
                  have := congrArg Int32.toInt t290
                  have := congrArg Int32.toInt t292
                  have := congrArg Int32.toInt t293
                  have := congrArg Int32.toInt t295
                  have := (r_x192).1; have := (r_x192).2
                  have := (r_x194).1; have := (r_x194).2
                  have := (r_x196).1; have := (r_x196).2
                  have := (r_x198).1; have := (r_x198).2
                  have := (r_x200).1; have := (r_x200).2
                  have := (r_x255).1; have := (r_x255).2
                  have := (r_x260).1; have := (r_x260).2
                  have := (rc_1).1; have := (rc_1).2
                  have := kc_0
                  have := kc_1
                  have := kc_91
                  have h6 := iv.2.2.2.1
                  have h5 := iv.2.2.2.2.1
                  have h4 := iv.2.2.2.2.2.1
                  omega
                · skip
                  have t296 : x200 = s253.1 57 29 := (t201).trans (hG_s253 57 29 (mh_nsI (by rfl))).1.symm
                  have t297 : x200 = s262.1 57 29 := by rw [t263]; exact (t296).trans (mh_pI_n (by omega)).symm
                  have h76 : s262.1 76 = s163.1 76 := ((by rw [t263]; exact mh_row_n (by decide) : s262.1 76 = s253.1 76)).trans (mh_F_row hG_s253 76 rfl)
                  rw [h76]
                  have h29 : s262.1 57 29 = s163.1 57 29 := by first | rfl | rw [← t297, ← t201]
                  rw [h29]
                  exact ⟨iv.2.2.2.2.2.2.1, iv.2.2.2.2.2.2.2⟩
            · skip
              have hl_x218 := hd_x218 (mh_z1 r_x218 c221)
              have hk_x218 := e0_s219.1 (mh_z1 r_x218 c221)
              have r_x218 : mh_r x218 (1) (1) := mh_ne1 (show x218.toInt ≠ (0 : Int32).toInt from c221) r_x218 rc_0 (1) (1) (by decide)
              refine mw_aload_n 39 rfl 0 dX10_factor_38 rfl rfl ?_
              refine mw_iconst (v := 0) 40 rfl dX10_factor_39 (by decide) ?_
              refine mw_aload_n 41 rfl 0 dX10_factor_40 rfl rfl ?_
              refine mw_callVi [] [.int (0), .ref (G.2.2.2 57)] 44 rfl dX10_factor_41 ml_X10_243 mc_X10_reads mk_X10_reads rfl rfl (by decide) (w_X10_reads l G (d + 0) ⟨by omega, by omega⟩ hI_s163 b (show mh_pb b s163 by unfold mh_pb; rw [← t193, ← t195, ← t197, ← t199, ← t201]; have := kc_0; have := kc_1; have := (rc_0).1; have := (rc_0).2; have := (r_x192).1; have := (r_x192).2; have := (r_x194).1; have := (r_x194).2; have := (r_x196).1; have := (r_x196).2; have := (r_x198).1; have := (r_x198).2; have := (r_x200).1; have := (r_x200).2; have := kc_0; have := kc_1; have := kc_91; omega)) rfl rfl (Nat.le_of_ble_eq_true rfl) (mh_rok (by omega) (by decide)) (fun x298 s299 q300 => ?_)
              obtain ⟨r_x298, e0_s299, e1_s299, e2_s299, hI_s299, hG_s299⟩ := q300
              have hF_s299 : mh_F S_X10_factor s0 s299 := mh_F_tl hF_s163 hG_s299 (by decide +kernel)
              obtain ⟨x301, t302⟩ : ∃ z : Int32, z = s299.1 57 23 := ⟨_, rfl⟩
              have t303 : x194 = s299.1 57 24 := (t195).trans (hG_s299 57 24 (mh_nsI (by rfl))).1.symm
              obtain ⟨x304, t305⟩ : ∃ z : Int32, z = s299.1 57 25 := ⟨_, rfl⟩
              have t306 : x198 = s299.1 57 27 := (t199).trans (hG_s299 57 27 (mh_nsI (by rfl))).1.symm
              have t307 : x200 = s299.1 57 29 := (t201).trans (hG_s299 57 29 (mh_nsI (by rfl))).1.symm
              have pb_s299 : 0 ≤ x301.toInt ∧ x301.toInt ≤ x194.toInt ∧ x194.toInt ≤ 200 ∧ 0 ≤ x200.toInt ∧ 0 ≤ b ∧ b ≤ x198.toInt ∧ x200.toInt + x198.toInt ≤ x301.toInt ∧ x304.toInt ≤ 0 := by have h9 := e0_s299; unfold mh_pb at h9; rw [← t302, ← t303, ← t305, ← t306, ← t307] at h9; exact h9
              have r_x301 : mh_r x301 (0) (200) := ⟨by have := ((mh_r_full x301)).1; omega, by have := ((mh_r_full x301)).2; omega⟩
              have r_x304 : mh_r x304 (-2147483648) (0) := ⟨by have := ((mh_r_full x304)).1; omega, by have := ((mh_r_full x304)).2; omega⟩
              have hr1_s299 := e1_s299
              have hr2_s299 := e2_s299
              rw [← t193, ← t197, ← t302, ← t305] at hr1_s299
              rw [← t193, ← t197, ← t302, ← t305] at hr2_s299
              have hr_s299 := hr2_s299 (by have := (r_x196).1; have := (r_x196).2; omega) (by assumption)
              refine mw_callVv [.int (0), .int x298] [] 47 rfl dX10_factor_44 ml_X10_237 mc_X10_emit mk_X10_emit rfl rfl (by decide) (w_X10_emit l G (d + 1) ⟨by omega, by omega⟩ hI_s299 (0) x298 (by rw [← t305, ← t306]; have := (r_x192).1; have := (r_x192).2; have := (r_x194).1; have := (r_x194).2; have := (r_x196).1; have := (r_x196).2; have := (r_x198).1; have := (r_x198).2; have := (r_x200).1; have := (r_x200).2; have := (r_x301).1; have := (r_x301).2; have := (r_x304).1; have := (r_x304).2; have := kc_0; have := kc_1; have := kc_91; omega)) rfl rfl (Nat.le_of_ble_eq_true rfl) (mh_rok (by omega) (by decide)) (fun s309 q310 => ?_)
              obtain ⟨e0_s309, hI_s309, hG_s309⟩ := q310
              have hF_s309 : mh_F S_X10_factor s0 s309 := mh_F_tl hF_s299 hG_s309 (by decide +kernel)
              obtain ⟨x311, t312⟩ : ∃ z : Int32, z = s309.1 57 27 := ⟨_, rfl⟩
              have hm_s309 : (x304.toInt = 0 → s309.1 74 = mh_u1 (s299.1 74) x198.toInt.toNat (0 : Int32) ∧ x311.toInt = x198.toInt + 1) ∧ (x304.toInt ≠ 0 → s309.1 74 = s299.1 74 ∧ x311.toInt = x198.toInt) := by
                have h9 := e0_s309
                rw [← t305, ← t306] at h9
                rw [← t312] at h9
                exact ⟨h9.1, fun q => ⟨(h9.2 q).1, congrArg Int32.toInt (h9.2 q).2⟩⟩
              have hn_s309 : (x304.toInt = 0 ∧ x311.toInt = x198.toInt + 1) ∨ (x304.toInt ≠ 0 ∧ x311.toInt = x198.toInt) := by by_cases q : x304.toInt = 0; exact Or.inl ⟨q, (hm_s309.1 q).2⟩; exact Or.inr ⟨q, (hm_s309.2 q).2⟩
              have r_x311 : mh_r x311 (0) (201) := ⟨by have := (r_x198).1; omega, by have := (r_x198).2; omega⟩
              refine mw_goto 50 rfl 91 dX10_factor_47 (by decide) ?_
              refine mw_vret dX10_factor_91 rfl ⟨rfl, ⟨?_, ?_, ?_, ?_, ?_, hI_s309, hF_s309⟩⟩
              · skip
                have t313 : x301 = s309.1 57 23 := (t302).trans (hG_s309 57 23 (mh_nsI (by rfl))).1.symm
                have t314 : x194 = s309.1 57 24 := (t303).trans (hG_s309 57 24 (mh_nsI (by rfl))).1.symm
                have t315 : x304 = s309.1 57 25 := (t305).trans (hG_s309 57 25 (mh_nsI (by rfl))).1.symm
                have t316 : x200 = s309.1 57 29 := (t307).trans (hG_s309 57 29 (mh_nsI (by rfl))).1.symm
                exact (show mh_pb b s309 by unfold mh_pb; rw [← t313, ← t314, ← t315, ← t312, ← t316]; have := kc_0; have := kc_1; have := (r_x192).1; have := (r_x192).2; have := (r_x194).1; have := (r_x194).2; have := (r_x196).1; have := (r_x196).2; have := (r_x198).1; have := (r_x198).2; have := (r_x200).1; have := (r_x200).2; have := (r_x301).1; have := (r_x301).2; have := (r_x304).1; have := (r_x304).2; have := (r_x311).1; have := (r_x311).2; have := kc_0; have := kc_1; have := kc_91; omega)
              · skip
                have t317 : x301 = s309.1 57 23 := (t302).trans (hG_s309 57 23 (mh_nsI (by rfl))).1.symm
                have t318 : x194 = s309.1 57 24 := (t303).trans (hG_s309 57 24 (mh_nsI (by rfl))).1.symm
                have t319 : x304 = s309.1 57 25 := (t305).trans (hG_s309 57 25 (mh_nsI (by rfl))).1.symm
                have t320 : x200 = s309.1 57 29 := (t307).trans (hG_s309 57 29 (mh_nsI (by rfl))).1.symm
                intro hg
                have := congrArg Int32.toInt t193
                have := congrArg Int32.toInt t195
                have := congrArg Int32.toInt t197
                have := congrArg Int32.toInt t199
                have := congrArg Int32.toInt t201
                have := congrArg Int32.toInt t302
                have := congrArg Int32.toInt t303
                have := congrArg Int32.toInt t305
                have := congrArg Int32.toInt t306
                have := congrArg Int32.toInt t307
                have := congrArg Int32.toInt t312
                have := congrArg Int32.toInt t317
                have := congrArg Int32.toInt t318
                have := congrArg Int32.toInt t319
                have := congrArg Int32.toInt t320
                have := (r_x192).1; have := (r_x192).2
                have := (r_x194).1; have := (r_x194).2
                have := (r_x196).1; have := (r_x196).2
                have := (r_x198).1; have := (r_x198).2
                have := (r_x200).1; have := (r_x200).2
                have := (r_x301).1; have := (r_x301).2
                have := (r_x304).1; have := (r_x304).2
                have := (r_x311).1; have := (r_x311).2
                have := kc_0
                have := kc_1
                have := kc_91
                have hg0 : x304.toInt = 0 := by omega
                have hB := iv.2.1 (by rw [← t197]; omega)
                rw [← t199, ← t201] at hB
                have h74 : s309.1 74 = mh_u1 (s163.1 74) x198.toInt.toNat (0 : Int32) := by rw [show s309.1 74 = s309.1 74 from rfl, (hm_s309.1 hg0).1, show s299.1 74 = s163.1 74 from (mh_F_row hG_s299 74 rfl)]
                have h76 : s309.1 76 = s163.1 76 := ((mh_F_row hG_s309 76 rfl)).trans (mh_F_row hG_s299 76 rfl)
                have hcod : (s309.1 57 27).toInt = x198.toInt + 1 := by rw [← t312]; exact (hm_s309.1 hg0).2
                have hst : (s309.1 57 29).toInt.toNat = x200.toInt.toNat := by rw [← t320]
                rw [h74, h76, hcod, hst]
                exact mh_pdr_opd hB ⟨by omega, by omega⟩ (by omega)
              · skip
                have t321 : x301 = s309.1 57 23 := (t302).trans (hG_s309 57 23 (mh_nsI (by rfl))).1.symm
                have t322 : x194 = s309.1 57 24 := (t303).trans (hG_s309 57 24 (mh_nsI (by rfl))).1.symm
                have t323 : x304 = s309.1 57 25 := (t305).trans (hG_s309 57 25 (mh_nsI (by rfl))).1.symm
                have t324 : x200 = s309.1 57 29 := (t307).trans (hG_s309 57 29 (mh_nsI (by rfl))).1.symm
                have := congrArg Int32.toInt t193
                have := congrArg Int32.toInt t195
                have := congrArg Int32.toInt t197
                have := congrArg Int32.toInt t199
                have := congrArg Int32.toInt t201
                have := congrArg Int32.toInt t302
                have := congrArg Int32.toInt t303
                have := congrArg Int32.toInt t305
                have := congrArg Int32.toInt t306
                have := congrArg Int32.toInt t307
                have := congrArg Int32.toInt t312
                have := congrArg Int32.toInt t321
                have := congrArg Int32.toInt t322
                have := congrArg Int32.toInt t323
                have := congrArg Int32.toInt t324
                have := (r_x192).1; have := (r_x192).2
                have := (r_x194).1; have := (r_x194).2
                have := (r_x196).1; have := (r_x196).2
                have := (r_x198).1; have := (r_x198).2
                have := (r_x200).1; have := (r_x200).2
                have := (r_x301).1; have := (r_x301).2
                have := (r_x304).1; have := (r_x304).2
                have := (r_x311).1; have := (r_x311).2
                have := kc_0
                have := kc_1
                have := kc_91
                exact mh_pk_tr (mh_pk_row (show s299.1 74 = s0.1 74 from ((mh_F_row hG_s299 74 rfl)).trans iv.2.2.1)) (mh_pk_tr (mh_pk_em hm_s309 ⟨by omega, by omega⟩) (mh_pk_row (rfl)))
              · skip
                have t325 : x301 = s309.1 57 23 := (t302).trans (hG_s309 57 23 (mh_nsI (by rfl))).1.symm
                have t326 : x194 = s309.1 57 24 := (t303).trans (hG_s309 57 24 (mh_nsI (by rfl))).1.symm
                have t327 : x304 = s309.1 57 25 := (t305).trans (hG_s309 57 25 (mh_nsI (by rfl))).1.symm
                have t328 : x200 = s309.1 57 29 := (t307).trans (hG_s309 57 29 (mh_nsI (by rfl))).1.symm
                have := congrArg Int32.toInt t193
                have := congrArg Int32.toInt t195
                have := congrArg Int32.toInt t197
                have := congrArg Int32.toInt t199
                have := congrArg Int32.toInt t201
                have := congrArg Int32.toInt t302
                have := congrArg Int32.toInt t303
                have := congrArg Int32.toInt t305
                have := congrArg Int32.toInt t306
                have := congrArg Int32.toInt t307
                have := congrArg Int32.toInt t312
                have := congrArg Int32.toInt t325
                have := congrArg Int32.toInt t326
                have := congrArg Int32.toInt t327
                have := congrArg Int32.toInt t328
                have := (r_x192).1; have := (r_x192).2
                have := (r_x194).1; have := (r_x194).2
                have := (r_x196).1; have := (r_x196).2
                have := (r_x198).1; have := (r_x198).2
                have := (r_x200).1; have := (r_x200).2
                have := (r_x301).1; have := (r_x301).2
                have := (r_x304).1; have := (r_x304).2
                have := (r_x311).1; have := (r_x311).2
                have := kc_0
                have := kc_1
                have := kc_91
                have h6 := iv.2.2.2.1
                have h5 := iv.2.2.2.2.1
                have h4 := iv.2.2.2.2.2.1
                omega
              · skip
                have t329 : x200 = s309.1 57 29 := (t307).trans (hG_s309 57 29 (mh_nsI (by rfl))).1.symm
                have h76 : s309.1 76 = s163.1 76 := ((mh_F_row hG_s309 76 rfl)).trans (mh_F_row hG_s299 76 rfl)
                rw [h76]
                have h29 : s309.1 57 29 = s163.1 57 29 := by first | rfl | rw [← t329, ← t201]
                rw [h29]
                exact ⟨iv.2.2.2.2.2.2.1, iv.2.2.2.2.2.2.2⟩
          · skip
            exact absurd (e0_s215.2 (by have := (r_x196).1; have := (r_x196).2; omega)) (by have := c217; omega)
        · skip
          have r_x210 : mh_r x210 (91) (91) := mh_eq1 c213 r_x210 rc_91 (91) (91) (by decide)
          refine mw_aload_n 17 rfl 0 dX10_factor_16 rfl rfl ?_
          refine mw_callVv [] [] 20 rfl dX10_factor_17 ml_X10_240 mc_X10_opens mk_X10_opens rfl rfl (by decide) (w_X10_opens l G (d + 1) ⟨by omega, by omega⟩ hI_s163 b (show mh_pb b s163 by unfold mh_pb; rw [← t193, ← t195, ← t197, ← t199, ← t201]; have := kc_0; have := kc_1; have := (r_x192).1; have := (r_x192).2; have := (r_x194).1; have := (r_x194).2; have := (r_x196).1; have := (r_x196).2; have := (r_x198).1; have := (r_x198).2; have := (r_x200).1; have := (r_x200).2; have := kc_0; have := kc_1; have := kc_91; omega) (by have := congrArg Int32.toInt t193; have := congrArg Int32.toInt t195; have := congrArg Int32.toInt t197; have := congrArg Int32.toInt t199; have := congrArg Int32.toInt t201; have := (r_x192).1; have := (r_x192).2; have := (r_x194).1; have := (r_x194).2; have := (r_x196).1; have := (r_x196).2; have := (r_x198).1; have := (r_x198).2; have := (r_x200).1; have := (r_x200).2; have := kc_0; have := kc_1; have := kc_91; omega)) rfl rfl (Nat.le_of_ble_eq_true rfl) (mh_rok (by omega) (by decide)) (fun s331 q332 => ?_)
          obtain ⟨e0_s331, e1_s331, e2_s331, hI_s331, hG_s331⟩ := q332
          have hF_s331 : mh_F S_X10_factor s0 s331 := mh_F_tl hF_s163 hG_s331 (by decide +kernel)
          obtain ⟨x333, t334⟩ : ∃ z : Int32, z = s331.1 57 23 := ⟨_, rfl⟩
          have t335 : x194 = s331.1 57 24 := (t195).trans (hG_s331 57 24 (mh_nsI (by rfl))).1.symm
          obtain ⟨x336, t337⟩ : ∃ z : Int32, z = s331.1 57 25 := ⟨_, rfl⟩
          have t338 : x198 = s331.1 57 27 := (t199).trans (hG_s331 57 27 (mh_nsI (by rfl))).1.symm
          obtain ⟨x339, t340⟩ : ∃ z : Int32, z = s331.1 57 29 := ⟨_, rfl⟩
          have pb_s331 : 0 ≤ x333.toInt ∧ x333.toInt ≤ x194.toInt ∧ x194.toInt ≤ 200 ∧ 0 ≤ x339.toInt ∧ 0 ≤ b ∧ b ≤ x198.toInt ∧ x339.toInt + x198.toInt ≤ x333.toInt ∧ x336.toInt ≤ 0 := by have h9 := e0_s331; unfold mh_pb at h9; rw [← t334, ← t335, ← t337, ← t338, ← t340] at h9; exact h9
          have r_x333 : mh_r x333 (0) (200) := ⟨by have := ((mh_r_full x333)).1; omega, by have := ((mh_r_full x333)).2; omega⟩
          have r_x336 : mh_r x336 (-2147483648) (0) := ⟨by have := ((mh_r_full x336)).1; omega, by have := ((mh_r_full x336)).2; omega⟩
          have r_x339 : mh_r x339 (0) (200) := ⟨by have := ((mh_r_full x339)).1; omega, by have := ((mh_r_full x339)).2; omega⟩
          have hop_s331 := e2_s331
          rw [← t340, ← t334, ← t337, ← t201, ← t193, ← t197] at hop_s331
          refine mw_goto 23 rfl 0 dX10_factor_20 (by decide) ?_
          exact mw_lv [0] rfl (ihn1 s331 hI_s331 hF_s331 (by
              have h76 := e1_s331
              rw [← t201, ← e0_s211] at h76
              have h74 : s331.1 74 = s163.1 74 := (mh_F_row hG_s331 74 rfl)
              refine ⟨e0_s331, ?_, h74.trans iv.2.2.1, ?_, ?_, ?_, ?_, ?_⟩
              · skip
                intro hg
                have := congrArg Int32.toInt t193
                have := congrArg Int32.toInt t195
                have := congrArg Int32.toInt t197
                have := congrArg Int32.toInt t199
                have := congrArg Int32.toInt t201
                have := congrArg Int32.toInt t334
                have := congrArg Int32.toInt t335
                have := congrArg Int32.toInt t337
                have := congrArg Int32.toInt t338
                have := congrArg Int32.toInt t340
                have := (r_x192).1; have := (r_x192).2
                have := (r_x194).1; have := (r_x194).2
                have := (r_x196).1; have := (r_x196).2
                have := (r_x198).1; have := (r_x198).2
                have := (r_x200).1; have := (r_x200).2
                have := (r_x333).1; have := (r_x333).2
                have := (r_x336).1; have := (r_x336).2
                have := (r_x339).1; have := (r_x339).2
                have := kc_0
                have := kc_1
                have := kc_91
                have hB := iv.2.1 (by rw [← t197]; omega)
                have h76 := e1_s331
                rw [← t201] at h76
                have h74 : s331.1 74 = s163.1 74 := (mh_F_row hG_s331 74 rfl)
                have hcod : (s331.1 57 27).toInt = x198.toInt := by rw [← t338]
                have hst : (s331.1 57 29).toInt.toNat = x200.toInt.toNat + 1 := by rw [← t340]; omega
                rw [← t199, ← t201] at hB
                rw [h74, h76, hcod, hst]
                exact mh_pdr_pn hB (by rw [← e0_s211]; show (_ ∨ _ ∨ _); omega)
              · skip
                have := congrArg Int32.toInt t193
                have := congrArg Int32.toInt t195
                have := congrArg Int32.toInt t197
                have := congrArg Int32.toInt t199
                have := congrArg Int32.toInt t201
                have := congrArg Int32.toInt t334
                have := congrArg Int32.toInt t335
                have := congrArg Int32.toInt t337
                have := congrArg Int32.toInt t338
                have := congrArg Int32.toInt t340
                have := (r_x192).1; have := (r_x192).2
                have := (r_x194).1; have := (r_x194).2
                have := (r_x196).1; have := (r_x196).2
                have := (r_x198).1; have := (r_x198).2
                have := (r_x200).1; have := (r_x200).2
                have := (r_x333).1; have := (r_x333).2
                have := (r_x336).1; have := (r_x336).2
                have := (r_x339).1; have := (r_x339).2
                have := kc_0
                have := kc_1
                have := kc_91
                have := iv.2.2.2.1
                omega
              · skip
                have := congrArg Int32.toInt t193
                have := congrArg Int32.toInt t195
                have := congrArg Int32.toInt t197
                have := congrArg Int32.toInt t199
                have := congrArg Int32.toInt t201
                have := congrArg Int32.toInt t334
                have := congrArg Int32.toInt t335
                have := congrArg Int32.toInt t337
                have := congrArg Int32.toInt t338
                have := congrArg Int32.toInt t340
                have := (r_x192).1; have := (r_x192).2
                have := (r_x194).1; have := (r_x194).2
                have := (r_x196).1; have := (r_x196).2
                have := (r_x198).1; have := (r_x198).2
                have := (r_x200).1; have := (r_x200).2
                have := (r_x333).1; have := (r_x333).2
                have := (r_x336).1; have := (r_x336).2
                have := (r_x339).1; have := (r_x339).2
                have := kc_0
                have := kc_1
                have := kc_91
                have := iv.2.2.2.2.1
                omega
              · skip
                intro q
                have := congrArg Int32.toInt t193
                have := congrArg Int32.toInt t195
                have := congrArg Int32.toInt t197
                have := congrArg Int32.toInt t199
                have := congrArg Int32.toInt t201
                have := congrArg Int32.toInt t334
                have := congrArg Int32.toInt t335
                have := congrArg Int32.toInt t337
                have := congrArg Int32.toInt t338
                have := congrArg Int32.toInt t340
                have := (r_x192).1; have := (r_x192).2
                have := (r_x194).1; have := (r_x194).2
                have := (r_x196).1; have := (r_x196).2
                have := (r_x198).1; have := (r_x198).2
                have := (r_x200).1; have := (r_x200).2
                have := (r_x333).1; have := (r_x333).2
                have := (r_x336).1; have := (r_x336).2
                have := (r_x339).1; have := (r_x339).2
                have := kc_0
                have := kc_1
                have := kc_91
                exact iv.2.2.2.2.2.1 (by omega)
              · skip
                intro j hj
                have := congrArg Int32.toInt t193
                have := congrArg Int32.toInt t195
                have := congrArg Int32.toInt t197
                have := congrArg Int32.toInt t199
                have := congrArg Int32.toInt t201
                have := congrArg Int32.toInt t334
                have := congrArg Int32.toInt t335
                have := congrArg Int32.toInt t337
                have := congrArg Int32.toInt t338
                have := congrArg Int32.toInt t340
                have := (r_x192).1; have := (r_x192).2
                have := (r_x194).1; have := (r_x194).2
                have := (r_x196).1; have := (r_x196).2
                have := (r_x198).1; have := (r_x198).2
                have := (r_x200).1; have := (r_x200).2
                have := (r_x333).1; have := (r_x333).2
                have := (r_x336).1; have := (r_x336).2
                have := (r_x339).1; have := (r_x339).2
                have := kc_0
                have := kc_1
                have := kc_91
                have := iv.2.2.2.1
                rw [h76]
                have h5 : mh_u1 (s163.1 76) x200.toInt.toNat x210 j = s163.1 76 j := if_neg (by omega)
                rw [h5]
                exact iv.2.2.2.2.2.2.1 j hj
              · skip
                intro j h1 h2
                have := congrArg Int32.toInt t193
                have := congrArg Int32.toInt t195
                have := congrArg Int32.toInt t197
                have := congrArg Int32.toInt t199
                have := congrArg Int32.toInt t201
                have := congrArg Int32.toInt t334
                have := congrArg Int32.toInt t335
                have := congrArg Int32.toInt t337
                have := congrArg Int32.toInt t338
                have := congrArg Int32.toInt t340
                have := (r_x192).1; have := (r_x192).2
                have := (r_x194).1; have := (r_x194).2
                have := (r_x196).1; have := (r_x196).2
                have := (r_x198).1; have := (r_x198).2
                have := (r_x200).1; have := (r_x200).2
                have := (r_x333).1; have := (r_x333).2
                have := (r_x336).1; have := (r_x336).2
                have := (r_x339).1; have := (r_x339).2
                have := kc_0
                have := kc_1
                have := kc_91
                rw [h76]
                by_cases q : j = x200.toInt.toNat
                · have h5 : mh_u1 (s163.1 76) x200.toInt.toNat x210 j = x210 := if_pos q
                  rw [h5]; omega
                · have h5 : mh_u1 (s163.1 76) x200.toInt.toNat x210 j = s163.1 76 j := if_neg q
                  rw [h5]
                  exact iv.2.2.2.2.2.2.2 j h1 (by rw [← t201]; omega)) (by have := congrArg Int32.toInt t193; have := congrArg Int32.toInt t195; have := congrArg Int32.toInt t197; have := congrArg Int32.toInt t199; have := congrArg Int32.toInt t201; have := congrArg Int32.toInt t334; have := congrArg Int32.toInt t335; have := congrArg Int32.toInt t337; have := congrArg Int32.toInt t338; have := congrArg Int32.toInt t340; have := (r_x192).1; have := (r_x192).2; have := (r_x194).1; have := (r_x194).2; have := (r_x196).1; have := (r_x196).2; have := (r_x198).1; have := (r_x198).2; have := (r_x200).1; have := (r_x200).2; have := (r_x333).1; have := (r_x333).2; have := (r_x336).1; have := (r_x336).2; have := (r_x339).1; have := (r_x339).2; have := kc_0; have := kc_1; have := kc_91; omega))
  exact mw_lv [0] rfl (L0 202 s0 hI0 hF0 (by
      exact ⟨hb, hd, rfl, Int.le_refl _, Int.le_refl _, fun h => h, fun _ _ => rfl, fun j h1 h2 => absurd h1 (by omega)⟩) (by have h9 := hb; unfold mh_pb at h9; omega))

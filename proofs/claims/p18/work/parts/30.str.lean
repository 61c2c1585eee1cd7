theorem c_isLatin1 (l : Launch) (G : mh_G) (d i : Nat) (hi : i < 2) (σ : mh_H) : mh_Mi l G d mM_J0_isLatin1_aae02 [.ref (G.2.2.2 (1000 + i))] σ (fun z s => z = 1 ∧ σ = s) := by
  refine mh_enter (lv := [(0, .ref (G.2.2.2 (1000 + i)))]) (by decide) rfl (Nat.le_of_ble_eq_true rfl) ?_
  refine mw_cs 3 rfl dJ0_isLatin1_aae02_0 sf_38 ?_
  refine mw_if_eq 6 rfl 17 dJ0_isLatin1_aae02_3 (by decide) (fun c => absurd c (by decide)) (fun _ => ?_)
  refine mw_aload_n 7 rfl 0 dJ0_isLatin1_aae02_6 rfl rfl ?_
  refine mw_strc hi 10 rfl dJ0_isLatin1_aae02_7 sf_15 ?_
  refine mw_if_ne 13 rfl 17 dJ0_isLatin1_aae02_10 (by decide) (fun c => absurd (by decide) c) (fun _ => ?_)
  refine mw_iconst (v := 1) 14 rfl dJ0_isLatin1_aae02_13 (by decide) ?_
  refine mw_goto 17 rfl 18 dJ0_isLatin1_aae02_14 (by decide) ?_
  exact mw_zret dJ0_isLatin1_aae02_18 rfl (mh_r_wk rc_1 (by decide)) ⟨_, rfl, rfl, rfl⟩
theorem c_coder (l : Launch) (G : mh_G) (d i : Nat) (hi : i < 2) (σ : mh_H) : mh_Mi l G d mM_J0_coder_7d493 [.ref (G.2.2.2 (1000 + i))] σ (fun z s => z = 0 ∧ σ = s) := by
  refine mh_enter (lv := [(0, .ref (G.2.2.2 (1000 + i)))]) (by decide) rfl (Nat.le_of_ble_eq_true rfl) ?_
  refine mw_cs 3 rfl dJ0_coder_7d493_0 sf_38 ?_
  refine mw_if_eq 6 rfl 13 dJ0_coder_7d493_3 (by decide) (fun c => absurd c (by decide)) (fun _ => ?_)
  refine mw_aload_n 7 rfl 0 dJ0_coder_7d493_6 rfl rfl ?_
  refine mw_strc hi 10 rfl dJ0_coder_7d493_7 sf_15 ?_
  refine mw_goto 13 rfl 14 dJ0_coder_7d493_10 (by decide) ?_
  exact mw_bret dJ0_coder_7d493_14 rfl rfl ⟨_, rfl, rfl, rfl⟩
theorem c_length (l : Launch) (G : mh_G) (d i : Nat) (hi : i < 2) (σ : mh_H) : mh_Mi l G (d + 1) mM_J0_length_8abf5 [.ref (G.2.2.2 (1000 + i))] σ (fun z s => z = Int32.ofNat (mh_sl.getD i 0) ∧ σ = s) := by
  refine mh_enter (lv := [(0, .ref (G.2.2.2 (1000 + i)))]) (by decide) rfl (Nat.le_of_ble_eq_true rfl) ?_
  refine mw_aload_n 1 rfl 0 dJ0_length_8abf5_0 rfl rfl ?_
  refine mw_strv hi 4 rfl dJ0_length_8abf5_1 sf_9 ?_
  refine mw_strl hi 5 rfl dJ0_length_8abf5_4 rfl ?_
  refine mw_aload_n 6 rfl 0 dJ0_length_8abf5_5 rfl rfl ?_
  refine mw_callKi hi [] [.int (Int32.ofNat (mh_sl.getD i 0))] 9 rfl dJ0_length_8abf5_6 ml_J0_335 mc_J0_coder_7d493 mk_J0_coder_7d493 rfl (c_coder l G d i hi σ) rfl rfl (Nat.le_of_ble_eq_true rfl) (mh_rok (by omega) (by decide)) (fun z s2 hq => ?_)
  obtain ⟨rfl, rfl⟩ := hq
  refine mw_ishr_u 10 rfl dJ0_length_8abf5_9 (fun z hz => ?_)
  refine mw_iret dJ0_length_8abf5_10 rfl ⟨z, rfl, ?_, rfl⟩
  rw [hz]
  rcases (show i = 0 ∨ i = 1 by omega) with rfl | rfl <;> decide
theorem c_canEncode (l : Launch) (G : mh_G) (d : Nat) (σ : mh_H) (x : Int32) : mh_Mi l G d mM_J1_canEncode_9a6ad [.int x] σ (fun z s => mh_r z 0 1 ∧ σ = s) := by
  refine mh_enter (lv := [(0, .int x)]) (by decide) rfl (Nat.le_of_ble_eq_true rfl) ?_
  refine mw_iload_n 1 rfl 0 dJ1_canEncode_9a6ad_0 rfl rfl ?_
  refine mw_if_lt 4 rfl 15 dJ1_canEncode_9a6ad_1 (by decide) (fun _ => ?_) (fun _ => ?_)
  · refine mw_iconst (v := 0) 16 rfl dJ1_canEncode_9a6ad_15 (by decide) ?_
    exact mw_zret dJ1_canEncode_9a6ad_16 rfl (mh_r_wk rc_0 (by decide)) ⟨_, rfl, mh_r_wk rc_0 (by decide), rfl⟩
  · refine mw_iload_n 5 rfl 0 dJ1_canEncode_9a6ad_4 rfl rfl ?_
    refine mw_sipush (v := 255) 8 rfl dJ1_canEncode_9a6ad_5 (by decide) ?_
    refine mw_icmp_gt 11 rfl 15 dJ1_canEncode_9a6ad_8 (by decide) (fun _ => ?_) (fun _ => ?_)
    · refine mw_iconst (v := 0) 16 rfl dJ1_canEncode_9a6ad_15 (by decide) ?_
      exact mw_zret dJ1_canEncode_9a6ad_16 rfl (mh_r_wk rc_0 (by decide)) ⟨_, rfl, mh_r_wk rc_0 (by decide), rfl⟩
    · refine mw_iconst (v := 1) 12 rfl dJ1_canEncode_9a6ad_11 (by decide) ?_
      refine mw_goto 15 rfl 16 dJ1_canEncode_9a6ad_12 (by decide) ?_
      exact mw_zret dJ1_canEncode_9a6ad_16 rfl (mh_r_wk rc_1 (by decide)) ⟨_, rfl, mh_r_wk rc_1 (by decide), rfl⟩
theorem mh_sl13 {i : Nat} (hi : i < 2) : mh_sl.getD i 0 ≤ 13 := by
  rcases (show i = 0 ∨ i = 1 by omega) with rfl | rfl <;> decide
theorem c_indexOfChar (l : Launch) (G : mh_G) (d i : Nat) (hi : i < 2) (σ : mh_H) (x a b : Int32) (ha : mh_r a 0 2147483647) (hb : b.toInt ≤ mh_sl.getD i 0) (hab : a.toInt < b.toInt) : mh_Mi l G d mM_J1_indexOfChar_4cfef [.ref (G.2.2.2 (1010 + i)), .int x, .int a, .int b] σ (fun _ s => σ = s) := by
  have h13 := mh_sl13 hi
  refine mh_enter (lv := [(0, .ref (G.2.2.2 (1010 + i))), (1, .int x), (2, .int a), (3, .int b)]) (by decide) rfl (Nat.le_of_ble_eq_true rfl) ?_
  refine mw_iload_n 1 rfl 1 dJ1_indexOfChar_4cfef_0 rfl rfl ?_
  refine mw_i2b 2 rfl dJ1_indexOfChar_4cfef_1 (fun w _ => ?_)
  refine mw_istore 4 rfl [(4, .int w), (0, .ref (G.2.2.2 (1010 + i))), (1, .int x), (2, .int a), (3, .int b)] dJ1_indexOfChar_4cfef_2 (by decide) rfl ?_
  refine mw_iload_n 5 rfl 3 dJ1_indexOfChar_4cfef_4 rfl rfl ?_
  refine mw_istore 7 rfl [(5, .int a), (4, .int w), (0, .ref (G.2.2.2 (1010 + i))), (1, .int x), (2, .int a), (3, .int b)] dJ1_indexOfChar_4cfef_5 (by decide) rfl ?_
  have L : ∀ n : Nat, ∀ y : Int32, mh_r y 0 13 → 13 - y.toInt < (n : Int) → mh_W G (mh_XM l G d (mh_Qi (fun _ s => σ = s))) mM_J1_indexOfChar_4cfef 7 [(5, .int y), (4, .int w), (0, .ref (G.2.2.2 (1010 + i))), (1, .int x), (2, .int a), (3, .int b)] [] σ := by
    intro n
    induction n with
    | zero => intro y hy hm; exact absurd hm (by have := hy.2; omega)
    | succ n ih =>
      intro y hy hm
      have hy1 := hy.1
      refine mw_iload 9 rfl 0 dJ1_indexOfChar_4cfef_7 rfl ?_
      refine mw_iload_n 10 rfl 5 dJ1_indexOfChar_4cfef_9 rfl rfl ?_
      refine mw_icmp_ge 13 rfl 31 dJ1_indexOfChar_4cfef_10 (by decide) (fun c => ?_) (fun c => ?_)
      · refine mw_iconst (v := -1) 32 rfl dJ1_indexOfChar_4cfef_31 (by decide) ?_
        exact mw_iret dJ1_indexOfChar_4cfef_32 rfl ⟨_, rfl, rfl⟩
      · refine mw_aload_n 14 rfl 2 dJ1_indexOfChar_4cfef_13 rfl rfl ?_
        refine mw_iload 16 rfl 0 dJ1_indexOfChar_4cfef_14 rfl ?_
        have r12 : mh_r y 0 12 := ⟨hy1, by omega⟩
        refine mw_strb (a := 0) (b := y.toInt) hi 17 rfl dJ1_indexOfChar_4cfef_16 ⟨hy1, Int.le_refl _⟩ ⟨by decide, by omega⟩ (fun z _ => ?_)
        refine mw_iload 19 rfl 1 dJ1_indexOfChar_4cfef_17 rfl ?_
        refine mw_icmp_ne 22 rfl 25 dJ1_indexOfChar_4cfef_19 (by decide) (fun _ => ?_) (fun _ => ?_)
        · refine mw_iincR (k := 0) (1) (13) 28 rfl (fun z => [(5, .int z), (4, .int w), (0, .ref (G.2.2.2 (1010 + i))), (1, .int x), (2, .int a), (3, .int b)]) dJ1_indexOfChar_4cfef_25 rfl (by decide) (fun _ => rfl) r12 (by decide) (by decide) (fun y2 t2 r2 => ?_)
          refine mw_goto 31 rfl 7 dJ1_indexOfChar_4cfef_28 (by decide) ?_
          exact ih y2 (mh_r_wk r2 (by decide)) (by omega)
        · refine mw_iload 24 rfl 0 dJ1_indexOfChar_4cfef_22 rfl ?_
          exact mw_iret dJ1_indexOfChar_4cfef_24 rfl ⟨_, rfl, rfl⟩
  have ha1 := ha.1
  exact L 14 a ⟨ha1, by omega⟩ (by omega)
theorem c_indexOf4 (l : Launch) (G : mh_G) (d i : Nat) (hi : i < 2) (σ : mh_H) (x a b : Int32) : mh_Mi l G (d + 1) mM_J1_indexOf_4cfef [.ref (G.2.2.2 (1010 + i)), .int x, .int a, .int b] σ (fun _ s => σ = s) := by
  have h13 := mh_sl13 hi
  refine mh_enter (lv := [(0, .ref (G.2.2.2 (1010 + i))), (1, .int x), (2, .int a), (3, .int b)]) (by decide) rfl (Nat.le_of_ble_eq_true rfl) ?_
  refine mw_iload_n 1 rfl 1 dJ1_indexOf_4cfef_0 rfl rfl ?_
  refine mw_callSi [.int x] [] 4 rfl dJ1_indexOf_4cfef_1 ml_J1_88 mc_J1_canEncode_9a6ad mk_J1_canEncode_9a6ad (c_canEncode l G d σ x) rfl rfl (Nat.le_of_ble_eq_true rfl) (mh_rok (by omega) (by decide)) (fun z s2 hq => ?_)
  obtain ⟨-, rfl⟩ := hq
  refine mw_if_ne 7 rfl 9 dJ1_indexOf_4cfef_4 (by decide) (fun _ => ?_) (fun _ => ?_)
  · refine mw_iload_n 10 rfl 2 dJ1_indexOf_4cfef_9 rfl rfl ?_
    refine mw_iconst (v := 0) 11 rfl dJ1_indexOf_4cfef_10 (by decide) ?_
    refine mw_mmax (0) (2147483647) 14 rfl dJ1_indexOf_4cfef_11 ml_J1_92 (mh_r_full a) rc_0 (by decide) (mh_mr (D := d + 1) (by omega) (Nat.le_of_ble_eq_true rfl)) (fun a2 ta ra => ?_)
    refine mw_istore_n 15 rfl [(2, .int a2), (0, .ref (G.2.2.2 (1010 + i))), (1, .int x), (3, .int b)] dJ1_indexOf_4cfef_14 rfl (by decide) rfl ?_
    refine mw_iload_n 16 rfl 3 dJ1_indexOf_4cfef_15 rfl rfl ?_
    refine mw_aload_n 17 rfl 1 dJ1_indexOf_4cfef_16 rfl rfl ?_
    refine mw_strl hi 18 rfl dJ1_indexOf_4cfef_17 rfl ?_
    refine mw_mmin (-2147483648) (2147483647) 21 rfl dJ1_indexOf_4cfef_18 ml_J1_38 (mh_r_full b) (mh_r_full _) (by decide) (mh_mr (D := d + 1) (by omega) (Nat.le_of_ble_eq_true rfl)) (fun b2 tb rb => ?_)
    have hb2 : b2.toInt ≤ mh_sl.getD i 0 := by
      have h7 : (Int32.ofNat (mh_sl.getD i 0)).toInt = mh_sl.getD i 0 := by
        rcases (show i = 0 ∨ i = 1 by omega) with rfl | rfl <;> decide
      rw [h7] at tb
      omega
    refine mw_istore_n 22 rfl [(3, .int b2), (2, .int a2), (0, .ref (G.2.2.2 (1010 + i))), (1, .int x)] dJ1_indexOf_4cfef_21 rfl (by decide) rfl ?_
    refine mw_iload_n 23 rfl 1 dJ1_indexOf_4cfef_22 rfl rfl ?_
    refine mw_iload_n 24 rfl 0 dJ1_indexOf_4cfef_23 rfl rfl ?_
    refine mw_icmp_lt 27 rfl 29 dJ1_indexOf_4cfef_24 (by decide) (fun c => ?_) (fun c => ?_)
    · refine mw_aload_n 30 rfl 2 dJ1_indexOf_4cfef_29 rfl rfl ?_
      refine mw_iload_n 31 rfl 3 dJ1_indexOf_4cfef_30 rfl rfl ?_
      refine mw_iload_n 32 rfl 1 dJ1_indexOf_4cfef_31 rfl rfl ?_
      refine mw_iload_n 33 rfl 0 dJ1_indexOf_4cfef_32 rfl rfl ?_
      refine mw_callSi [.ref (G.2.2.2 (1010 + i)), .int x, .int a2, .int b2] [] 36 rfl dJ1_indexOf_4cfef_33 ml_J1_95 mc_J1_indexOfChar_4cfef mk_J1_indexOfChar_4cfef (c_indexOfChar l G d i hi σ x a2 b2 ra hb2 c) rfl rfl (Nat.le_of_ble_eq_true rfl) (mh_rok (by omega) (by decide)) (fun z3 s3 hq => ?_)
      obtain rfl := hq
      exact mw_iret dJ1_indexOf_4cfef_36 rfl ⟨_, rfl, rfl⟩
    · refine mw_iconst (v := -1) 28 rfl dJ1_indexOf_4cfef_27 (by decide) ?_
      exact mw_iret dJ1_indexOf_4cfef_28 rfl ⟨_, rfl, rfl⟩
  · refine mw_iconst (v := -1) 8 rfl dJ1_indexOf_4cfef_7 (by decide) ?_
    exact mw_iret dJ1_indexOf_4cfef_8 rfl ⟨_, rfl, rfl⟩
theorem c_indexOf2 (l : Launch) (G : mh_G) (d i : Nat) (hi : i < 2) (σ : mh_H) (x a : Int32) : mh_Mi l G (d + 2) mM_J0_indexOf_7cf53 [.ref (G.2.2.2 (1000 + i)), .int x, .int a] σ (fun _ s => σ = s) := by
  refine mh_enter (lv := [(0, .ref (G.2.2.2 (1000 + i))), (1, .int x), (2, .int a)]) (by decide) rfl (Nat.le_of_ble_eq_true rfl) ?_
  refine mw_aload_n 1 rfl 0 dJ0_indexOf_7cf53_0 rfl rfl ?_
  refine mw_callKi hi [] [] 4 rfl dJ0_indexOf_7cf53_1 ml_J0_492 mc_J0_isLatin1_aae02 mk_J0_isLatin1_aae02 rfl (c_isLatin1 l G d i hi σ) rfl rfl (Nat.le_of_ble_eq_true rfl) (mh_rok (by omega) (by decide)) (fun z s2 hq => ?_)
  obtain ⟨rfl, rfl⟩ := hq
  refine mw_if_eq 7 rfl 23 dJ0_indexOf_7cf53_4 (by decide) (fun c => absurd c (by decide)) (fun _ => ?_)
  refine mw_aload_n 8 rfl 0 dJ0_indexOf_7cf53_7 rfl rfl ?_
  refine mw_strv hi 11 rfl dJ0_indexOf_7cf53_8 sf_9 ?_
  refine mw_iload_n 12 rfl 1 dJ0_indexOf_7cf53_11 rfl rfl ?_
  refine mw_iload_n 13 rfl 2 dJ0_indexOf_7cf53_12 rfl rfl ?_
  refine mw_aload_n 14 rfl 0 dJ0_indexOf_7cf53_13 rfl rfl ?_
  refine mw_callKi hi [] [.int a, .int x, .ref (G.2.2.2 (1010 + i))] 17 rfl dJ0_indexOf_7cf53_14 ml_J0_505 mc_J0_length_8abf5 mk_J0_length_8abf5 rfl (c_length l G d i hi σ) rfl rfl (Nat.le_of_ble_eq_true rfl) (mh_rok (by omega) (by decide)) (fun z2 s2 hq => ?_)
  obtain ⟨-, rfl⟩ := hq
  refine mw_callSi [.ref (G.2.2.2 (1010 + i)), .int x, .int a, .int z2] [] 20 rfl dJ0_indexOf_7cf53_17 ml_J0_637 mc_J1_indexOf_4cfef mk_J1_indexOf_4cfef (c_indexOf4 l G d i hi σ x a z2) rfl rfl (Nat.le_of_ble_eq_true rfl) (mh_rok (by omega) (by decide)) (fun z3 s3 hq => ?_)
  obtain rfl := hq
  refine mw_goto 23 rfl 36 dJ0_indexOf_7cf53_20 (by decide) ?_
  exact mw_iret dJ0_indexOf_7cf53_36 rfl ⟨_, rfl, rfl⟩
theorem c_indexOf (l : Launch) (G : mh_G) (d i : Nat) (hi : i < 2) (σ : mh_H) (x : Int32) : mh_Mi l G (d + 3) mM_J0_indexOf_0f7a4 [.ref (G.2.2.2 (1000 + i)), .int x] σ (fun _ s => σ = s) := by
  refine mh_enter (lv := [(0, .ref (G.2.2.2 (1000 + i))), (1, .int x)]) (by decide) rfl (Nat.le_of_ble_eq_true rfl) ?_
  refine mw_aload_n 1 rfl 0 dJ0_indexOf_0f7a4_0 rfl rfl ?_
  refine mw_iload_n 2 rfl 1 dJ0_indexOf_0f7a4_1 rfl rfl ?_
  refine mw_iconst (v := 0) 3 rfl dJ0_indexOf_0f7a4_2 (by decide) ?_
  refine mw_callKi hi [.int x, .int 0] [] 6 rfl dJ0_indexOf_0f7a4_3 ml_J0_633 mc_J0_indexOf_7cf53 mk_J0_indexOf_7cf53 rfl (c_indexOf2 l G d i hi σ x 0) rfl rfl (Nat.le_of_ble_eq_true rfl) (mh_rok (by omega) (by decide)) (fun z s2 hq => ?_)
  obtain rfl := hq
  exact mw_iret dJ0_indexOf_0f7a4_6 rfl ⟨_, rfl, rfl⟩

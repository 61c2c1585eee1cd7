theorem mh_lc {x y : Int64} {z : Int32} (t : z = lg_cmp x y) : (z.toInt = 0 ↔ x.toInt = y.toInt) ∧ (z.toInt < 0 ↔ x.toInt < y.toInt) ∧ mh_r z (-1) 1 := by
  subst t
  unfold lg_cmp
  by_cases h1 : x > y
  · rw [if_pos h1]
    have h2 : y.toInt < x.toInt := Int64.lt_iff_toInt_lt.mp h1
    have h3 : (1 : Int32).toInt = 1 := by decide
    refine ⟨?_, ?_, ?_⟩
    · rw [h3]; omega
    · rw [h3]; omega
    · rw [mh_r, h3]; omega
  · rw [if_neg h1]
    have h2 : ¬ y.toInt < x.toInt := fun q => h1 (Int64.lt_iff_toInt_lt.mpr q)
    by_cases h4 : x = y
    · rw [if_pos h4]
      subst h4
      have h3 : (0 : Int32).toInt = 0 := by decide
      refine ⟨?_, ?_, ?_⟩
      · rw [h3]; omega
      · rw [h3]; omega
      · rw [mh_r, h3]; omega
    · rw [if_neg h4]
      have h5 : x.toInt ≠ y.toInt := fun q => h4 (Int64.toInt_inj.mp q)
      have h3 : (-1 : Int32).toInt = -1 := by decide
      refine ⟨?_, ?_, ?_⟩
      · rw [h3]; omega
      · rw [h3]; omega
      · rw [mh_r, h3]; omega
theorem mh_lnz {y : Int64} (h : y.toInt ≠ 0) : ¬ y = 0 := fun q => h (by rw [q]; decide)
theorem mh_nzc {y : Int32} (h : y.toInt ≠ (0 : Int32).toInt) : ¬ y = 0 := fun q => h (by rw [q])
theorem mh_isL_s {S : List (Nat × Nat)} {k o j : Nat} (h : mh_isL k) (h1 : mh_sI S (40 + o) j) (h2 : mh_sI S (48 + o) j) : mh_sI S (k + o) j := by
  rcases h with rfl | rfl
  · exact h1
  · exact h2
theorem mh_nsI {S : List (Nat × Nat)} {k j : Nat} (h : S.any (fun e => e.1 == k && (e.2 == 9999 || e.2 == j)) = false) : ¬ mh_sI S k j := by
  rintro ⟨e, he, h1, h2⟩
  have h3 := List.any_eq_false.mp h e he
  rw [h1] at h3
  rcases h2 with h2 | h2 <;> rw [h2] at h3 <;> simp at h3
theorem mh_dve {x y z : Int32} {n : Int} (t : z.toInt = x.toInt.tdiv y.toInt) (h : (0 : Int) ≤ x.toInt) (hy : y.toInt = n) : z.toInt = x.toInt / n := by
  rw [t, hy, Int.tdiv_eq_ediv_of_nonneg h]
theorem mh_rme {x y z : Int32} {n : Int} (t : z.toInt = x.toInt.tmod y.toInt) (h : (0 : Int) ≤ x.toInt) (hy : y.toInt = n) : z.toInt = x.toInt % n := by
  rw [t, hy, Int.tmod_eq_emod_of_nonneg h]
theorem kc_0 : (0 : Int32).toInt = 0 := by decide
theorem kc_1 : (1 : Int32).toInt = 1 := by decide
theorem kc_2 : (2 : Int32).toInt = 2 := by decide
theorem kc_3 : (3 : Int32).toInt = 3 := by decide
theorem kc_4 : (4 : Int32).toInt = 4 := by decide
theorem kc_5 : (5 : Int32).toInt = 5 := by decide
theorem kc_6 : (6 : Int32).toInt = 6 := by decide
theorem kc_7 : (7 : Int32).toInt = 7 := by decide
theorem kc_8 : (8 : Int32).toInt = 8 := by decide
theorem kc_9 : (9 : Int32).toInt = 9 := by decide
theorem kc_10 : (10 : Int32).toInt = 10 := by decide
theorem kc_11 : (11 : Int32).toInt = 11 := by decide
theorem kc_12 : (12 : Int32).toInt = 12 := by decide
theorem kc_13 : (13 : Int32).toInt = 13 := by decide
theorem kc_14 : (14 : Int32).toInt = 14 := by decide
theorem kc_16 : (16 : Int32).toInt = 16 := by decide
theorem kc_19 : (19 : Int32).toInt = 19 := by decide
theorem kc_20 : (20 : Int32).toInt = 20 := by decide
theorem kc_24 : (24 : Int32).toInt = 24 := by decide
theorem kc_25 : (25 : Int32).toInt = 25 := by decide
theorem kc_26 : (26 : Int32).toInt = 26 := by decide
theorem kc_28 : (28 : Int32).toInt = 28 := by decide
theorem kc_29 : (29 : Int32).toInt = 29 := by decide
theorem kc_30 : (30 : Int32).toInt = 30 := by decide
theorem kc_31 : (31 : Int32).toInt = 31 := by decide
theorem kc_32 : (32 : Int32).toInt = 32 := by decide
theorem kc_33 : (33 : Int32).toInt = 33 := by decide
theorem kc_37 : (37 : Int32).toInt = 37 := by decide
theorem kc_38 : (38 : Int32).toInt = 38 := by decide
theorem kc_40 : (40 : Int32).toInt = 40 := by decide
theorem kc_41 : (41 : Int32).toInt = 41 := by decide
theorem kc_42 : (42 : Int32).toInt = 42 := by decide
theorem kc_43 : (43 : Int32).toInt = 43 := by decide
theorem kc_45 : (45 : Int32).toInt = 45 := by decide
theorem kc_47 : (47 : Int32).toInt = 47 := by decide
theorem kc_48 : (48 : Int32).toInt = 48 := by decide
theorem kc_57 : (57 : Int32).toInt = 57 := by decide
theorem kc_58 : (58 : Int32).toInt = 58 := by decide
theorem kc_59 : (59 : Int32).toInt = 59 := by decide
theorem kc_60 : (60 : Int32).toInt = 60 := by decide
theorem kc_61 : (61 : Int32).toInt = 61 := by decide
theorem kc_62 : (62 : Int32).toInt = 62 := by decide
theorem kc_63 : (63 : Int32).toInt = 63 := by decide
theorem kc_91 : (91 : Int32).toInt = 91 := by decide
theorem kc_93 : (93 : Int32).toInt = 93 := by decide
theorem kc_97 : (97 : Int32).toInt = 97 := by decide
theorem kc_99 : (99 : Int32).toInt = 99 := by decide
theorem kc_100 : (100 : Int32).toInt = 100 := by decide
theorem kc_102 : (102 : Int32).toInt = 102 := by decide
theorem kc_104 : (104 : Int32).toInt = 104 := by decide
theorem kc_105 : (105 : Int32).toInt = 105 := by decide
theorem kc_106 : (106 : Int32).toInt = 106 := by decide
theorem kc_107 : (107 : Int32).toInt = 107 := by decide
theorem kc_108 : (108 : Int32).toInt = 108 := by decide
theorem kc_109 : (109 : Int32).toInt = 109 := by decide
theorem kc_110 : (110 : Int32).toInt = 110 := by decide
theorem kc_115 : (115 : Int32).toInt = 115 := by decide
theorem kc_116 : (116 : Int32).toInt = 116 := by decide
theorem kc_118 : (118 : Int32).toInt = 118 := by decide
theorem kc_119 : (119 : Int32).toInt = 119 := by decide
theorem kc_120 : (120 : Int32).toInt = 120 := by decide
theorem kc_121 : (121 : Int32).toInt = 121 := by decide
theorem kc_124 : (124 : Int32).toInt = 124 := by decide
theorem kc_143 : (143 : Int32).toInt = 143 := by decide
theorem kc_144 : (144 : Int32).toInt = 144 := by decide
theorem kc_145 : (145 : Int32).toInt = 145 := by decide
theorem kc_180 : (180 : Int32).toInt = 180 := by decide
theorem kc_192 : (192 : Int32).toInt = 192 := by decide
theorem kc_198 : (198 : Int32).toInt = 198 := by decide
theorem kc_199 : (199 : Int32).toInt = 199 := by decide
theorem kc_200 : (200 : Int32).toInt = 200 := by decide
theorem kc_220 : (220 : Int32).toInt = 220 := by decide
theorem kc_240 : (240 : Int32).toInt = 240 := by decide
theorem kc_255 : (255 : Int32).toInt = 255 := by decide
theorem kc_299 : (299 : Int32).toInt = 299 := by decide
theorem kc_300 : (300 : Int32).toInt = 300 := by decide
theorem kc_301 : (301 : Int32).toInt = 301 := by decide
theorem kc_600 : (600 : Int32).toInt = 600 := by decide
theorem kc_999 : (999 : Int32).toInt = 999 := by decide
theorem kc_1000 : (1000 : Int32).toInt = 1000 := by decide
theorem kc_3010 : (3010 : Int32).toInt = 3010 := by decide
theorem kc_9999 : (9999 : Int32).toInt = 9999 := by decide
theorem kc_10000 : (10000 : Int32).toInt = 10000 := by decide
theorem kc_13849 : (13849 : Int32).toInt = 13849 := by decide
theorem kc_25173 : (25173 : Int32).toInt = 25173 := by decide
theorem kc_65535 : (65535 : Int32).toInt = 65535 := by decide
theorem kc_65536 : (65536 : Int32).toInt = 65536 := by decide
theorem kc_m1 : (-1 : Int32).toInt = -1 := by decide
theorem kc_m2 : (-2 : Int32).toInt = -2 := by decide
theorem kc_m3 : (-3 : Int32).toInt = -3 := by decide
theorem kc_m8 : (-8 : Int32).toInt = -8 := by decide
theorem kc_m1000 : (-1000 : Int32).toInt = -1000 := by decide
theorem kc_2147483647 : (2147483647 : Int32).toInt = 2147483647 := by decide
theorem kc_1000000000 : (1000000000 : Int32).toInt = 1000000000 := by decide
theorem mh_nz0 {y : Int32} {a b : Int} (h : mh_r y a b) (hb : 0 < a ∨ b < 0) : ¬ y = 0 := fun q => by
  subst q
  have h1 : (0 : Int32).toInt = 0 := by decide
  have := h.1; have := h.2
  omega
theorem mh_dvc {x y z : Int32} {a b lo hi : Int} (t : z.toInt = x.toInt.tdiv y.toInt) (hx : mh_r x a b) (hy : 1 ≤ y.toInt) (hb : lo ≤ a.tdiv y.toInt ∧ b.tdiv y.toInt ≤ hi) : mh_r z lo hi := by
  have h1 : (0 : Int) < y.toInt := by omega
  rw [mh_r, t]
  exact ⟨Int.le_trans hb.1 (Int.tdiv_le_tdiv h1 hx.1), Int.le_trans (Int.tdiv_le_tdiv h1 hx.2) hb.2⟩
theorem mh_absr {x : Int32} {a b hi : Int} (hx : mh_r x a b) (ha : -2147483648 < a) (hb : -a ≤ hi ∧ b ≤ hi) : mh_r (if 0 ≤ x then x else 0 - x) 0 hi := by
  have h0 : (0 : Int32).toInt = 0 := by decide
  have h1 := hx.1
  have h2 := hx.2
  by_cases h : 0 ≤ x
  · rw [if_pos h]
    have h3 := Int32.le_iff_toInt_le.mp h
    exact ⟨by omega, by omega⟩
  · rw [if_neg h]
    have h3 : ¬ (0 : Int32).toInt ≤ x.toInt := fun q => h (Int32.le_iff_toInt_le.mpr q)
    have hx3 := (mh_r_full x).2
    have h4 := mh_sub (x := 0) (y := x) (lo := 0) (hi := 2147483647) (by omega) (by omega)
    rw [mh_r, h4]
    exact ⟨by omega, by omega⟩
theorem mh_cr {D n : Nat} (h : 1 ≤ D) (hn : n ≤ 40) : 1 ≤ (mh_rm D).frames ∧ n ≤ (mh_rm D).locals := by
  refine ⟨h, ?_⟩
  show n ≤ 40 * D
  omega
theorem mh_pI_s {σ : mh_H} {k j : Nat} {x : Int32} : (mh_pI σ k j x).1 k j = x := mh_up_s
theorem mh_pI_n {σ : mh_H} {k j a b : Nat} {x : Int32} (h : ¬ (a = k ∧ b = j)) : (mh_pI σ k j x).1 a b = σ.1 a b := mh_up_n h
theorem mh_pA_n {σ : mh_H} {k a b : Nat} {f : Nat → Int32} (h : ¬ a = k) : (mh_pA σ k f).1 a b = σ.1 a b := if_neg h
theorem mh_l0 : (0 : Int64).toInt = 0 := by decide

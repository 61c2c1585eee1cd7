theorem rn_not {kl : Nat} {s0 : mh_H} {HI : Int32} {hi c m : Nat} {st : Nat → Int32} {R : Int32} (hH : HI.toInt = (hi : Int)) (hh : hi ≤ 400) (hc : c < hi) (hm : m < 40) (ho : s0.1 (kl + 1) c = 33) (h : sg_R kl s0 HI hi (c + 1) (m + 1) (mh_us st m (if (st m).toInt = 0 then 1 else 0)) R) : sg_R kl s0 HI hi c (m + 1) st R := by
  intro n s T X Y t hX hY hT hs hst ht hn
  obtain ⟨n, rfl⟩ : ∃ m, n = m + 1 := ⟨n - 1, by omega⟩
  have k1 : (1 : Int32).toInt = ((1 : Nat) : Int) := rfl
  have c13 : (13 : Int32).toInt = 13 := rfl
  have c33 : (33 : Int32).toInt = 33 := rfl
  have c38 : (38 : Int32).toInt = 38 := rfl
  have c124 : (124 : Int32).toInt = 124 := rfl
  rw [rn_step hT (by omega) hX hH hc hh]
  have hw : s.1 (kl + 1) c = 33 := (congrFun (hs (kl + 1) (by omega)) c).trans ho
  unfold j_eX1_run_67_3
  simp only [mh_lbE]
  rw [hw]
  have hwi := fq_within s 33 13
  rw [if_pos (hwi.2 (by omega)), if_neg (by omega), if_neg (by decide), if_neg (by decide), if_pos (by decide)]
  have eY1 : (Y - 1).toInt = ((m : Nat) : Int) := by
    have := ix_sub hY (by omega) k1 (by decide) (by omega)
    rw [this]; omega
  rw [ix_n eY1, hst m (by omega)]
  have nx : ∀ v : Int32, v = (if (st m).toInt = 0 then 1 else 0) → (j_eX1_run_263_12 (l_eX1_run_21_1 kl HI n) s kl T X Y (Y - 1) v).1 = R ∧ ∀ k, k ≠ kl + 7 → (j_eX1_run_263_12 (l_eX1_run_21_1 kl HI n) s kl T X Y (Y - 1) v).2.1 k = s0.1 k := by
    intro v hv
    unfold j_eX1_run_263_12 j_eX1_run_337_4
    simp only [mh_lbE]
    rw [ix_n eY1, hv]
    refine h n _ (T + 1) (X + 1) Y (t + 1) (ix_add hX (by omega) k1 (by decide)) hY (ix_add hT (by omega) k1 (by decide)) (fun k hk => (pI_row hk).trans (hs k hk)) (fun j hj => ?_) (by omega) (by omega)
    rw [pI_v]
    by_cases g : j = m
    · rw [if_pos ⟨rfl, g⟩, g, us_w]
    · rw [if_neg (fun q => g q.2), us_o g]; exact hst j hj
  by_cases g0 : (st m).toInt = 0
  · rw [if_pos g0]; exact nx 1 (if_pos g0).symm
  · rw [if_neg g0]; exact nx 0 (if_neg g0).symm
theorem rn_jmp {kl : Nat} {s0 : mh_H} {HI : Int32} {hi c c2 m : Nat} {st : Nat → Int32} {R op : Int32} (hH : HI.toInt = (hi : Int)) (hh : hi ≤ 400) (hc : c + 2 ≤ c2) (hc2 : c2 ≤ hi) (hm : m < 40) (ho : s0.1 (kl + 1) c = op) (h2 : op.toInt = 38 ∨ op.toInt = 124) (ht2 : (s0.1 (kl + 1) (c + 1)).toInt = (c2 : Int)) (h : if (op.toInt = 38 ↔ (st m).toInt = 0) then sg_R kl s0 HI hi c2 (m + 1) st R else sg_R kl s0 HI hi (c + 2) m st R) : sg_R kl s0 HI hi c (m + 1) st R := by
  intro n s T X Y t hX hY hT hs hst ht hn
  obtain ⟨n, rfl⟩ : ∃ m, n = m + 1 := ⟨n - 1, by omega⟩
  have k1 : (1 : Int32).toInt = ((1 : Nat) : Int) := rfl
  have k0 : (0 : Int32).toInt = ((0 : Nat) : Int) := rfl
  have k2 : (2 : Int32).toInt = ((2 : Nat) : Int) := rfl
  have c0 : (0 : Int32).toInt = 0 := rfl
  have c1 : (1 : Int32).toInt = 1 := rfl
  have c13 : (13 : Int32).toInt = 13 := rfl
  have c38 : (38 : Int32).toInt = 38 := rfl
  have c124 : (124 : Int32).toInt = 124 := rfl
  rw [rn_step hT (by omega) hX hH (by omega) hh]
  have hw : s.1 (kl + 1) c = op := (congrFun (hs (kl + 1) (by omega)) c).trans ho
  have hw1 : s.1 (kl + 1) (c + 1) = s0.1 (kl + 1) (c + 1) := congrFun (hs (kl + 1) (by omega)) (c + 1)
  unfold j_eX1_run_67_3
  simp only [mh_lbE]
  rw [hw, hw1, if_pos (show c + 1 < hi by omega)]
  have hwi := fq_within s op 13
  rw [if_pos (hwi.2 (by omega)), if_neg (by omega)]
  have eY1 : (Y - 1).toInt = ((m : Nat) : Int) := by
    have := ix_sub hY (by omega) k1 (by decide) (by omega)
    rw [this]; omega
  have eY0 : (Y - 0).toInt = ((m + 1 : Nat) : Int) := by
    have := ix_sub hY (by omega) k0 (by decide) (by omega)
    rw [this]; omega
  have eX2 : (X + 2).toInt = ((c + 2 : Nat) : Int) := ix_add hX (by omega) k2 (by decide)
  have eT : (T + 1).toInt = ((t + 1 : Nat) : Int) := ix_add hT (by omega) k1 (by decide)
  generalize s0.1 (kl + 1) (c + 1) = w at ht2
  have take : (op.toInt = 38 ↔ (st m).toInt = 0) → (j_eX1_run_192_8 (l_eX1_run_21_1 kl HI n) s T X Y w 1).1 = R ∧ ∀ k, k ≠ kl + 7 → (j_eX1_run_192_8 (l_eX1_run_21_1 kl HI n) s T X Y w 1).2.1 k = s0.1 k := by
    intro g
    rw [if_pos g] at h
    unfold j_eX1_run_192_8 j_eX1_run_215_9 j_eX1_run_228_10 j_eX1_run_337_4
    simp only [mh_lbE]
    rw [if_neg (by decide), if_neg (by decide)]
    refine h n s (T + 1) (mh_ma32 (X + 2) w) (Y - 0) (t + 1) ?_ eY0 eT hs hst (by omega) (by omega)
    rw [mh_ma32_i]; omega
  have pass : ¬ (op.toInt = 38 ↔ (st m).toInt = 0) → (j_eX1_run_192_8 (l_eX1_run_21_1 kl HI n) s T X Y w 0).1 = R ∧ ∀ k, k ≠ kl + 7 → (j_eX1_run_192_8 (l_eX1_run_21_1 kl HI n) s T X Y w 0).2.1 k = s0.1 k := by
    intro g
    rw [if_neg g] at h
    unfold j_eX1_run_192_8 j_eX1_run_215_9 j_eX1_run_228_10 j_eX1_run_337_4
    simp only [mh_lbE]
    rw [if_pos (by decide), if_pos (by decide)]
    exact h n s (T + 1) (X + 2) (Y - 1) (t + 1) eX2 eY1 eT hs (fun j hj => hst j (by omega)) (by omega) (by omega)
  have mid : (j_eX1_run_156_5 (l_eX1_run_21_1 kl HI n) s kl T X Y op w).1 = R ∧ ∀ k, k ≠ kl + 7 → (j_eX1_run_156_5 (l_eX1_run_21_1 kl HI n) s kl T X Y op w).2.1 k = s0.1 k := by
    unfold j_eX1_run_156_5
    simp only [mh_lbE]
    rw [ix_n eY1, hst m (by omega)]
    by_cases g0 : (st m).toInt = 0
    · rw [if_pos g0]
      unfold j_eX1_run_172_6
      by_cases g1 : op.toInt = 124
      · rw [if_pos (by omega)]
        unfold j_eX1_run_184_7
        rw [if_neg (by decide)]
        exact pass (fun q => by omega)
      · rw [if_neg (by omega)]
        unfold j_eX1_run_184_7
        rw [if_pos (by decide)]
        exact take (by omega)
    · rw [if_neg g0]
      unfold j_eX1_run_172_6
      by_cases g1 : op.toInt = 124
      · rw [if_pos (by omega)]
        unfold j_eX1_run_184_7
        rw [if_pos (by decide)]
        exact take (by omega)
      · rw [if_neg (by omega)]
        unfold j_eX1_run_184_7
        rw [if_neg (by decide)]
        exact pass (fun q => by omega)
  by_cases g38 : op.toInt = 38
  · rw [if_pos (by omega)]; exact mid
  · rw [if_neg (by omega), if_pos (by omega)]; exact mid
theorem rn_end {kl : Nat} {s0 : mh_H} {HI : Int32} {hi m : Nat} {st : Nat → Int32} (hH : HI.toInt = (hi : Int)) (hm : m < 40) : sg_R kl s0 HI hi hi (m + 1) st (st m) := by
  intro n s T X Y t hX hY hT hs hst ht hn
  obtain ⟨n, rfl⟩ : ∃ m, n = m + 1 := ⟨n - 1, by omega⟩
  have k1 : (1 : Int32).toInt = ((1 : Nat) : Int) := rfl
  have c1 : (1 : Int32).toInt = 1 := rfl
  have eY1 : (Y - 1).toInt = ((m : Nat) : Int) := by
    have := ix_sub hY (by omega) k1 (by decide) (by omega)
    rw [this]; omega
  have fin : (j_eX1_run_343_2 s kl Y).1 = st m ∧ ∀ k, k ≠ kl + 7 → (j_eX1_run_343_2 s kl Y).2.1 k = s0.1 k := by
    unfold j_eX1_run_343_2
    simp only [mh_lbE]
    rw [if_neg (by omega), ix_n eY1]
    exact ⟨hst m (by omega), hs⟩
  rw [l_eX1_run_21_1_s]
  unfold ls_eX1_run_21_1
  split
  · rw [if_neg (by omega)]; exact fin
  · exact fin

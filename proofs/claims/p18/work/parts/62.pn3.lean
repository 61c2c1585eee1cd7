theorem ab32_i {v : Int32} {m : Int} (h : -m ≤ v.toInt ∧ v.toInt ≤ m) (hm : m ≤ 2147483647) : (mh_ab32 v).toInt = if 0 ≤ v.toInt then v.toInt else -v.toInt := by
  have h0 := kc_0
  unfold mh_ab32
  by_cases c : 0 ≤ v.toInt
  · rw [if_pos c, if_pos (by rw [Int32.le_iff_toInt_le, h0]; exact c)]
  · rw [if_neg c, if_neg (by rw [Int32.le_iff_toInt_le, h0]; exact c), mh_sub (lo := 0) (hi := 2147483647) (by rw [h0]; omega) (by decide), h0]
    omega
theorem neg32_i {v : Int32} {m : Int} (h : -m ≤ v.toInt ∧ v.toInt ≤ m) (hm : m ≤ 2147483647) : (-v).toInt = -v.toInt := by
  rw [Int32.toInt_neg]
  exact mh_fit (by omega) (by omega)
theorem fq_near (s : mh_H) {a b w : Int32} (ha : mh_r a 0 99) (hb : 0 ≤ b.toInt ∧ b.toInt ≤ 99) (hw : 0 ≤ w.toInt ∧ w.toInt ≤ 99) : ((f_eX10_isWithin s a b w).toInt = 0) ↔ ¬ (-w.toInt ≤ a.toInt - b.toInt ∧ a.toInt - b.toInt ≤ w.toInt) := by
  unfold f_eX10_isWithin
  have a1 := ha.1; have a2 := ha.2
  simp only [mh_lbE, fq_lies, Int32.toInt_toInt64]
  rw [mh_sub (lo := -99) (hi := 99) (by omega) (by decide), neg32_i (m := 99) (by omega) (by decide)]
theorem fq_alike {s : mh_H} (h : rl_N s) {x p1 p2 p3 w : Int32} (hx : 0 ≤ x.toInt ∧ x.toInt ≤ 59) (h1 : 0 ≤ p1.toInt ∧ p1.toInt ≤ 99) (h2 : 0 ≤ p2.toInt ∧ p2.toInt ≤ 99) (h3 : 0 ≤ p3.toInt ∧ p3.toInt ≤ 99) (hw : 0 ≤ w.toInt ∧ w.toInt ≤ 99) : ((f_eX3_isAlike s x p1 p2 p3 w).toInt = 0) ↔ ¬ ((-w.toInt ≤ (s.1 97 (3 * x.toNatClampNeg)).toInt - p1.toInt ∧ (s.1 97 (3 * x.toNatClampNeg)).toInt - p1.toInt ≤ w.toInt) ∧ (-w.toInt ≤ (s.1 97 (3 * x.toNatClampNeg + 1)).toInt - p2.toInt ∧ (s.1 97 (3 * x.toNatClampNeg + 1)).toInt - p2.toInt ≤ w.toInt) ∧ (-w.toInt ≤ (s.1 97 (3 * x.toNatClampNeg + 2)).toInt - p3.toInt ∧ (s.1 97 (3 * x.toNatClampNeg + 2)).toInt - p3.toInt ≤ w.toInt)) := by
  obtain ⟨⟨q1, q2, q3, -, -⟩, ⟨r1, r1'⟩, ⟨r2, r2'⟩, ⟨r3, r3'⟩, -, -⟩ := h.2.2 x.toNatClampNeg (by show x.toInt.toNat < 60; omega)
  unfold f_eX3_isAlike
  simp only [mh_lbE]
  rw [← q1, ← q2, ← q3]
  generalize s.1 30 x.toNatClampNeg = u1 at r1 r1' ⊢
  generalize s.1 31 x.toNatClampNeg = u2 at r2 r2' ⊢
  generalize s.1 32 x.toNatClampNeg = u3 at r3 r3' ⊢
  have e1 : (u1 - p1).toInt = u1.toInt - p1.toInt := mh_sub (lo := -99) (hi := 99) (by omega) (by decide)
  have e2 : (u2 - p2).toInt = u2.toInt - p2.toInt := mh_sub (lo := -99) (hi := 99) (by omega) (by decide)
  have e3 : (u3 - p3).toInt = u3.toInt - p3.toInt := mh_sub (lo := -99) (hi := 99) (by omega) (by decide)
  have b1 := ab32_i (v := u1 - p1) (m := 99) (by omega) (by decide)
  have b2 := ab32_i (v := u2 - p2) (m := 99) (by omega) (by decide)
  have b3 := ab32_i (v := u3 - p3) (m := 99) (by omega) (by decide)
  rw [e1] at b1; rw [e2] at b2; rw [e3] at b3
  generalize mh_ab32 (u1 - p1) = v1 at b1 ⊢
  generalize mh_ab32 (u2 - p2) = v2 at b2 ⊢
  generalize mh_ab32 (u3 - p3) = v3 at b3 ⊢
  have h0 := kc_0; have h1 := kc_1
  have c1 : v1.toInt ≤ w.toInt ↔ (-w.toInt ≤ u1.toInt - p1.toInt ∧ u1.toInt - p1.toInt ≤ w.toInt) := by split at b1 <;> omega
  have c2 : v2.toInt ≤ w.toInt ↔ (-w.toInt ≤ u2.toInt - p2.toInt ∧ u2.toInt - p2.toInt ≤ w.toInt) := by split at b2 <;> omega
  have c3 : v3.toInt ≤ w.toInt ↔ (-w.toInt ≤ u3.toInt - p3.toInt ∧ u3.toInt - p3.toInt ≤ w.toInt) := by split at b3 <;> omega
  rw [← c1, ← c2, ← c3]
  split
  · omega
  · split
    · omega
    · split <;> omega
theorem od_div {a : Int32} {g : Int64} (ha : 0 ≤ a.toInt) (hg : 1 ≤ g.toInt ∧ g.toInt ≤ 60) : Int64.toInt32 (Int32.toInt64 a / g) = a / Int64.toInt32 g := by
  have e0 : (Int64.toInt32 g).toInt = g.toInt := by
    rw [Int64.toInt_toInt32]
    exact mh_fit (by omega) (by omega)
  have e1 : (a / Int64.toInt32 g).toInt = a.toInt.tdiv g.toInt := by rw [mh_div (by rw [e0]; exact hg.1), e0]
  have hb := (mh_divb (x := a.toInt) hg.1).1 ha
  have hf := mh_r_full a
  have hf2 := hf.2
  have e2 : (Int32.toInt64 a / g).toInt = a.toInt.tdiv g.toInt := by
    rw [Int64.toInt_div, Int32.toInt_toInt64]
    apply Int.bmod_eq_of_le <;> omega
  apply Int32.toInt_inj.mp
  rw [e1, Int64.toInt_toInt32, e2]
  exact mh_fit (by omega) (by omega)
theorem od_end (s : mh_H) {mi al p5 : Int32} (h1 : 0 ≤ mi.toInt) (h2 : mi.toInt ≤ al.toInt) (h3 : 1 ≤ al.toInt) (h4 : al.toInt ≤ 60) : Int64.toInt32 (f_eX9_lowestTerm s (Int32.toInt64 mi) (Int32.toInt64 al) p5) = if p5.toInt = 0 then mi / Int64.toInt32 (f_eX10_divisor s (Int32.toInt64 mi) (Int32.toInt64 al)) else al / Int64.toInt32 (f_eX10_divisor s (Int32.toInt64 mi) (Int32.toInt64 al)) := by
  obtain ⟨g, g1, g2⟩ := lt_eq s (a := Int32.toInt64 mi) (b := Int32.toInt64 al) p5 (by rw [Int32.toInt_toInt64]; exact h1) (by rw [Int32.toInt_toInt64]; exact h3) (by rw [Int32.toInt_toInt64]; omega) (by rw [Int32.toInt_toInt64]; omega)
  have d := dv_eq s (a := Int32.toInt64 mi) (b := Int32.toInt64 al) (by rw [Int32.toInt_toInt64]; exact h1) (by rw [Int32.toInt_toInt64]; omega)
  have dg : f_eX10_divisor s (Int32.toInt64 mi) (Int32.toInt64 al) = g := Int64.toInt_inj.mp (by rw [d, g1])
  rw [dg, g2]
  rw [Int32.toInt_toInt64, Int32.toInt_toInt64] at g1
  have hp := Nat.gcd_pos_of_pos_right mi.toInt.toNat (show 0 < al.toInt.toNat by omega)
  have hq := Nat.gcd_le_right mi.toInt.toNat (show 0 < al.toInt.toNat by omega)
  split
  · exact od_div h1 (by omega)
  · exact od_div (by omega) (by omega)
theorem od_loop {s : mh_H} (h : rl_N s) (p1 p2 p3 p4 p5 : Int32) (h1 : 0 ≤ p1.toInt ∧ p1.toInt ≤ 99) (h2 : 0 ≤ p2.toInt ∧ p2.toInt ≤ 99) (h3 : 0 ≤ p3.toInt ∧ p3.toInt ≤ 99) (hw : 0 ≤ p4.toInt ∧ p4.toInt ≤ 99) : ∀ (n : Nat) (x hi mi al : Int32), 0 ≤ x.toInt → x.toInt ≤ 60 → 0 ≤ mi.toInt → mi.toInt ≤ al.toInt → al.toInt ≤ x.toInt → l_eX9_odds_42_1 s p1 p2 p3 p4 p5 n x hi mi al = l_eX10_odds_76_1 s p1 p2 p3 p4 p5 n x hi mi al := by
  intro n
  induction n with
  | zero => intros; rfl
  | succ n ih =>
    intro x hi mi al h0 hx g0 g1 g2
    rw [l_eX9_odds_42_1_s, l_eX10_odds_76_1_s]
    unfold ls_eX9_odds_42_1 ls_eX10_odds_76_1
    simp only [mh_lbE]
    have hr := h.2.1.2
    rw [h.1] at hr
    rw [h.1]
    by_cases hc : x.toInt < (s.1 57 58).toInt
    · rw [if_pos hc, if_pos hc]
      have hxx : 0 ≤ x.toInt ∧ x.toInt ≤ 59 := by omega
      have hn := nn_inc h0 hx (by decide)
      have ha := nn_inc (x := al) (m := 60) (by omega) (by omega) (by decide)
      have hm := nn_inc (x := mi) (m := 60) (by omega) (by omega) (by decide)
      obtain ⟨⟨q1, q2, q3, q4, -⟩, r1, r2, r3, -, -⟩ := h.2.2 x.toNatClampNeg (by show x.toInt.toNat < 60; omega)
      rw [q1] at r1; rw [q2] at r2; rw [q3] at r3
      have i1 : ((3 : Int32) * x + 1).toNatClampNeg = 3 * x.toNatClampNeg + 1 := nn_ix hxx (by decide)
      have i2 : ((3 : Int32) * x + 2).toNatClampNeg = 3 * x.toNatClampNeg + 2 := nn_ix hxx (by decide)
      simp only [fq_alike h hxx h1 h2 h3 hw, nn_ix0 hxx, i1, i2, fq_near s r1 h1 hw, fq_near s r2 h2 hw, fq_near s r3 h3 hw, q4]
      have k0 := ih (x + 1) hi mi al (by omega) (by omega) g0 g1 (by omega)
      by_cases c1 : -p4.toInt ≤ (s.1 97 (3 * x.toNatClampNeg)).toInt - p1.toInt ∧ (s.1 97 (3 * x.toNatClampNeg)).toInt - p1.toInt ≤ p4.toInt
      · by_cases c2 : -p4.toInt ≤ (s.1 97 (3 * x.toNatClampNeg + 1)).toInt - p2.toInt ∧ (s.1 97 (3 * x.toNatClampNeg + 1)).toInt - p2.toInt ≤ p4.toInt
        · by_cases c3 : -p4.toInt ≤ (s.1 97 (3 * x.toNatClampNeg + 2)).toInt - p3.toInt ∧ (s.1 97 (3 * x.toNatClampNeg + 2)).toInt - p3.toInt ≤ p4.toInt
          · rw [if_neg (not_not_intro ⟨c1, c2, c3⟩), if_neg (not_not_intro c1), if_neg (not_not_intro c2), if_neg (not_not_intro c3)]
            simp only [j_eX9_odds_110_2, j_eX9_odds_93_3, j_eX10_odds_195_2, j_eX10_odds_193_4, j_eX10_odds_166_3, mh_lbE, mh_ma32]
            have e0 : mi + 0 = mi := by simp
            by_cases c4 : 0 < (s.1 98 x.toNatClampNeg).toInt
            · rw [if_pos c4, if_pos c4]
              split
              · exact ih (x + 1) _ (mi + 1) (al + 1) (by omega) (by omega) (by omega) (by omega) (by omega)
              · exact ih (x + 1) _ (mi + 1) (al + 1) (by omega) (by omega) (by omega) (by omega) (by omega)
            · rw [if_neg c4, if_neg c4, e0]
              split
              · exact ih (x + 1) _ mi (al + 1) (by omega) (by omega) (by omega) (by omega) (by omega)
              · exact ih (x + 1) _ mi (al + 1) (by omega) (by omega) (by omega) (by omega) (by omega)
          · rw [if_pos (fun q => c3 q.2.2), if_neg (not_not_intro c1), if_neg (not_not_intro c2), if_pos c3]
            exact k0
        · rw [if_pos (fun q => c2 q.2.1), if_neg (not_not_intro c1), if_pos c2]
          exact k0
      · rw [if_pos (fun q => c1 q.1), if_pos c1]
        exact k0
    · rw [if_neg hc, if_neg hc]
      by_cases c1 : al.toInt = 0
      · rw [if_pos c1, if_pos c1]
      · rw [if_neg c1, if_neg c1]
        split
        · rfl
        · exact od_end s g0 g1 (by omega) (by omega)
theorem odds_eq {s : mh_H} (h : rl_N s) (p1 p2 p3 p4 p5 : Int32) : f_eX9_odds s p1 p2 p3 p4 p5 = f_eX10_odds s p1 p2 p3 p4 p5 := by
  unfold f_eX9_odds f_eX10_odds
  simp only [mh_lbE, fq_within, fq_lies, fq_evening, Int32.toInt_toInt64]
  have a1 : (0 : Int64).toInt = 0 := rfl
  have a2 : (2 : Int64).toInt = 2 := rfl
  have a3 : (99 : Int64).toInt = 99 := rfl
  have b2 : (2 : Int32).toInt = 2 := rfl
  have b3 : (99 : Int32).toInt = 99 := rfl
  rw [a1, a2, a3, b2, b3]
  by_cases c1 : 0 ≤ p1.toInt ∧ p1.toInt ≤ 99
  · by_cases c2 : 0 ≤ p2.toInt ∧ p2.toInt ≤ 99
    · by_cases c3 : 0 ≤ p3.toInt ∧ p3.toInt ≤ 99
      · by_cases c4 : 0 ≤ p4.toInt ∧ p4.toInt ≤ 99
        · by_cases c5 : 0 ≤ p5.toInt ∧ p5.toInt ≤ 2
          · simp only [c1, c2, c3, c4, c5, and_self, not_true_eq_false, if_false]
            exact od_loop h p1 p2 p3 p4 p5 c1 c2 c3 c4 61 0 0 0 0 (by decide) (by decide) (by decide) (by decide) (by decide)
          · simp only [c1, c2, c3, c4, c5, and_self, and_true, true_and, false_and, and_false, not_true_eq_false, not_false_eq_true, if_false, if_true]
        · simp only [c1, c2, c3, c4, and_self, and_true, true_and, false_and, and_false, not_true_eq_false, not_false_eq_true, if_false, if_true]
      · simp only [c1, c2, c3, and_self, and_self, and_true, true_and, false_and, and_false, not_true_eq_false, not_false_eq_true, if_false, if_true]
    · simp only [c1, c2, false_and, and_self, and_true, true_and, false_and, and_false, not_true_eq_false, not_false_eq_true, if_false, if_true]
  · simp only [c1, false_and, not_false_eq_true, if_true]
theorem was_N {s s1 s2 : mh_H} (h : rl_N s) {p1 p2 p3 p4 p5 z0 z1 : Int32} (E0 : f_eX9_was s p1 p2 p3 p4 p5 = (z0, s1)) (E1 : f_eX10_was s1 p1 p2 p3 p4 p5 = (z1, s2)) : z0 = z1 ∧ rl_N s2 := by
  unfold f_eX9_was at E0
  unfold f_eX10_was at E1
  have a1 : (0 : Int64).toInt = 0 := rfl
  have a2 : (999 : Int64).toInt = 999 := rfl
  have a3 : (99 : Int64).toInt = 99 := rfl
  have b1 : (60 : Int32).toInt = 60 := rfl
  have b2 : (999 : Int32).toInt = 999 := rfl
  have b3 : (99 : Int32).toInt = 99 := rfl
  simp only [mh_lbE, fq_within, fq_evening, b1, b2, b3] at E0
  simp only [mh_lbE, fq_lies, Int32.toInt_toInt64, a1, a2, a3, b1] at E1
  by_cases c : (((0 ≤ p1.toInt ∧ p1.toInt ≤ 99) ∧ (0 ≤ p2.toInt ∧ p2.toInt ≤ 99) ∧ (0 ≤ p3.toInt ∧ p3.toInt ≤ 99)) ∧ (0 ≤ p4.toInt ∧ p4.toInt ≤ 99) ∧ (0 ≤ p5.toInt ∧ p5.toInt ≤ 999)) ∧ (s.1 29 5).toInt < 60
  · obtain ⟨⟨⟨c1, c2, c3⟩, c4, c5⟩, c6⟩ := c
    have r0 := h.2.1.1
    have eq0 := h.1
    rw [if_neg (not_not_intro ⟨c1, c2, c3⟩), if_neg (not_not_intro c4), if_neg (not_not_intro c5), if_pos c6] at E0
    obtain ⟨rfl, rfl⟩ := Prod.mk.inj E0
    have f0 : (mh_pI (mh_pI (mh_pI (mh_pI (mh_pI (mh_pI s 30 (s.1 29 5).toNatClampNeg p1) 31 (s.1 29 5).toNatClampNeg p2) 32 (s.1 29 5).toNatClampNeg p3) 33 (s.1 29 5).toNatClampNeg p4) 34 (s.1 29 5).toNatClampNeg p5) 29 5 (s.1 29 5 + 1)).1 57 58 = s.1 29 5 := by
      rw [eq0]; simp [mh_pI, mh_up]
    rw [f0] at E1
    rw [if_neg (not_not_intro c1), if_neg (not_not_intro c2), if_neg (not_not_intro c3), if_neg (not_not_intro c4), if_neg (not_not_intro c5), if_neg (by omega)] at E1
    obtain ⟨rfl, rfl⟩ := Prod.mk.inj E1
    have hxx : 0 ≤ (s.1 29 5).toInt ∧ (s.1 29 5).toInt ≤ 59 := by omega
    have i1 : ((3 : Int32) * (s.1 29 5) + 1).toNatClampNeg = 3 * (s.1 29 5).toNatClampNeg + 1 := nn_ix hxx (by decide)
    have i2 : ((3 : Int32) * (s.1 29 5) + 2).toNatClampNeg = 3 * (s.1 29 5).toNatClampNeg + 2 := nn_ix hxx (by decide)
    have hn := nn_inc (x := s.1 29 5) (m := 60) (by omega) (by omega) (by decide)
    rw [i1, i2, nn_ix0 hxx]
    refine ⟨rfl, ?_, ?_, fun j hj => ?_⟩
    · simp [mh_pI, mh_up]
    · have : ∀ y : Int32, y = s.1 29 5 + 1 → mh_r y 0 60 := fun y hy => by rw [hy, mh_r, hn]; omega
      exact this _ (by simp [mh_pI, mh_up])
    · have hj2 := h.2.2 j hj
      generalize (s.1 29 5).toNatClampNeg = n
      by_cases q : j = n
      · subst q
        simp [mh_pI, mh_up, mh_r, c1, c2, c3, c4, c5]
      · have q1 : ¬ 3 * j = 3 * n := by omega
        have q2 : ¬ 3 * j = 3 * n + 1 := by omega
        have q3 : ¬ 3 * j = 3 * n + 2 := by omega
        have q4 : ¬ 3 * j + 1 = 3 * n := by omega
        have q5 : ¬ 3 * j + 1 = 3 * n + 1 := by omega
        have q6 : ¬ 3 * j + 1 = 3 * n + 2 := by omega
        have q7 : ¬ 3 * j + 2 = 3 * n := by omega
        have q8 : ¬ 3 * j + 2 = 3 * n + 1 := by omega
        have q9 : ¬ 3 * j + 2 = 3 * n + 2 := by omega
        simpa only [mh_pI, mh_up, q, q1, q2, q3, q4, q5, q6, q7, q8, q9, and_false, if_false, Nat.reduceEqDiff, false_and] using hj2
  · have e0 : ((-1 : Int32), s) = (z0, s1) := by
      by_cases c1 : (0 ≤ p1.toInt ∧ p1.toInt ≤ 99) ∧ (0 ≤ p2.toInt ∧ p2.toInt ≤ 99) ∧ (0 ≤ p3.toInt ∧ p3.toInt ≤ 99)
      · rw [if_neg (not_not_intro c1)] at E0
        by_cases c4 : 0 ≤ p4.toInt ∧ p4.toInt ≤ 99
        · rw [if_neg (not_not_intro c4)] at E0
          by_cases c5 : 0 ≤ p5.toInt ∧ p5.toInt ≤ 999
          · rw [if_neg (not_not_intro c5), if_neg (fun q => c ⟨⟨c1, c4, c5⟩, q⟩)] at E0
            exact E0
          · rw [if_pos c5] at E0; exact E0
        · rw [if_pos c4] at E0; exact E0
      · rw [if_pos c1] at E0; exact E0
    obtain ⟨rfl, rfl⟩ := Prod.mk.inj e0
    have e1 : ((-1 : Int32), s) = (z1, s2) := by
      have r0 := h.2.1.2
      rw [← h.1] at E1
      by_cases c1 : 0 ≤ p1.toInt ∧ p1.toInt ≤ 99
      · rw [if_neg (not_not_intro c1)] at E1
        by_cases c2 : 0 ≤ p2.toInt ∧ p2.toInt ≤ 99
        · rw [if_neg (not_not_intro c2)] at E1
          by_cases c3 : 0 ≤ p3.toInt ∧ p3.toInt ≤ 99
          · rw [if_neg (not_not_intro c3)] at E1
            by_cases c4 : 0 ≤ p4.toInt ∧ p4.toInt ≤ 99
            · rw [if_neg (not_not_intro c4)] at E1
              by_cases c5 : 0 ≤ p5.toInt ∧ p5.toInt ≤ 999
              · rw [if_neg (not_not_intro c5), if_pos (by rcases Int.lt_or_le (s.1 29 5).toInt 60 with g | g; exact absurd ⟨⟨⟨c1, c2, c3⟩, c4, c5⟩, g⟩ c; omega)] at E1
                exact E1
              · rw [if_pos c5] at E1; exact E1
            · rw [if_pos c4] at E1; exact E1
          · rw [if_pos c3] at E1; exact E1
        · rw [if_pos c2] at E1; exact E1
      · rw [if_pos c1] at E1; exact E1
    obtain ⟨rfl, rfl⟩ := Prod.mk.inj e1
    exact ⟨rfl, h⟩

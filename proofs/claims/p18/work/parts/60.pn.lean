theorem fq_within (s : mh_H) (a b : Int32) : ((f_eX9_isWithin s a b).toInt = 0) ↔ ¬ (0 ≤ a.toInt ∧ a.toInt ≤ b.toInt) := by
  unfold f_eX9_isWithin
  have h0 := kc_0; have h1 := kc_1
  split
  · omega
  · split <;> omega
theorem fq_lies (s : mh_H) (a b c : Int64) : ((f_eX10_lies s a b c).toInt = 0) ↔ ¬ (b.toInt ≤ a.toInt ∧ a.toInt ≤ c.toInt) := by
  unfold f_eX10_lies
  simp only [mh_lbE]
  have h0 := kc_0; have h1 := kc_1
  obtain ⟨a1, a2, a3, a4⟩ := mh_lc (x := a) (y := b) rfl
  obtain ⟨b1, b2, b3, b4⟩ := mh_lc (x := a) (y := c) rfl
  split
  · omega
  · split <;> omega
theorem fq_evening (s : mh_H) (a b c : Int32) : ((f_eX9_isEvening s a b c).toInt = 0) ↔ ¬ ((0 ≤ a.toInt ∧ a.toInt ≤ 99) ∧ (0 ≤ b.toInt ∧ b.toInt ≤ 99) ∧ (0 ≤ c.toInt ∧ c.toInt ≤ 99)) := by
  unfold f_eX9_isEvening
  simp only [mh_lbE, fq_within]
  have h0 := kc_0; have h1 := kc_1; have h9 : (99 : Int32).toInt = 99 := rfl
  rw [h9]
  split
  · omega
  · split
    · omega
    · split <;> omega
theorem fq_prices (s : mh_H) (a b : Int32) : ((f_eX9_arePrices s a b).toInt = 0) ↔ ¬ ((0 ≤ a.toInt ∧ a.toInt ≤ 999) ∧ (0 ≤ b.toInt ∧ b.toInt ≤ 999)) := by
  unfold f_eX9_arePrices
  simp only [mh_lbE, fq_within]
  have h0 := kc_0; have h1 := kc_1; have h9 : (999 : Int32).toInt = 999 := rfl
  rw [h9]
  split
  · omega
  · split <;> omega
theorem fq_price (s : mh_H) (a : Int32) : ((f_eX10_isPrice s a).toInt = 0) ↔ ¬ (0 ≤ a.toInt ∧ a.toInt ≤ 999) := by
  unfold f_eX10_isPrice
  simp only [mh_lbE, fq_lies, Int32.toInt_toInt64]
  have h0 : (0 : Int64).toInt = 0 := rfl
  have h9 : (999 : Int64).toInt = 999 := rfl
  rw [h0, h9]
/-- the nights that were: class and reference alike -/
def rl_N (σ : mh_H) : Prop := σ.1 29 5 = σ.1 57 58 ∧ mh_r (σ.1 29 5) 0 60 ∧ ∀ j : Nat, j < 60 → (σ.1 30 j = σ.1 97 (3 * j) ∧ σ.1 31 j = σ.1 97 (3 * j + 1) ∧ σ.1 32 j = σ.1 97 (3 * j + 2) ∧ σ.1 33 j = σ.1 98 j ∧ σ.1 34 j = σ.1 99 j) ∧ (mh_r (σ.1 30 j) 0 99 ∧ mh_r (σ.1 31 j) 0 99 ∧ mh_r (σ.1 32 j) 0 99 ∧ mh_r (σ.1 33 j) 0 99 ∧ mh_r (σ.1 34 j) 0 999)
theorem nn_ix {x c : Int32} (hx : 0 ≤ x.toInt ∧ x.toInt ≤ 59) (hc : 0 ≤ c.toInt ∧ c.toInt ≤ 2) : ((3 : Int32) * x + c).toNatClampNeg = 3 * x.toNatClampNeg + c.toInt.toNat := by
  have h3 : (3 : Int32).toInt = 3 := rfl
  have e1 : ((3 : Int32) * x).toInt = 3 * x.toInt := by rw [mh_mul (lo := 0) (hi := 177) (by rw [h3]; omega) (by decide), h3]
  have e2 : ((3 : Int32) * x + c).toInt = 3 * x.toInt + c.toInt := by rw [mh_add (lo := 0) (hi := 179) (by rw [e1]; omega) (by decide), e1]
  show ((3 : Int32) * x + c).toInt.toNat = 3 * x.toInt.toNat + c.toInt.toNat
  omega
theorem nn_ix0 {x : Int32} (hx : 0 ≤ x.toInt ∧ x.toInt ≤ 59) : ((3 : Int32) * x).toNatClampNeg = 3 * x.toNatClampNeg := by
  have h3 : (3 : Int32).toInt = 3 := rfl
  have e1 : ((3 : Int32) * x).toInt = 3 * x.toInt := by rw [mh_mul (lo := 0) (hi := 177) (by rw [h3]; omega) (by decide), h3]
  show ((3 : Int32) * x).toInt.toNat = 3 * x.toInt.toNat
  omega
theorem nn_inc {x : Int32} {m : Int} (h0 : 0 ≤ x.toInt) (h1 : x.toInt ≤ m) (hm : m ≤ 2147483646) : (x + 1).toInt = x.toInt + 1 := by
  have h2 := kc_1
  rw [mh_add (lo := 0) (hi := 2147483647) (by omega) (by decide), h2]
theorem ev_eq {s : mh_H} (h : rl_N s) {x p : Int32} (hx : 0 ≤ x.toInt ∧ x.toInt ≤ 59) (hp : 0 ≤ p.toInt ∧ p.toInt ≤ 2) : f_eX3_eveningNumber s x p = s.1 97 ((3 : Int32) * x + p).toNatClampNeg := by
  rw [nn_ix hx hp]
  obtain ⟨⟨q1, q2, q3, q4, q5⟩, -⟩ := h.2.2 x.toNatClampNeg (by show x.toInt.toNat < 60; omega)
  unfold f_eX3_eveningNumber
  simp only [mh_lbE]
  have h1 := kc_1
  split
  · rw [q1]; exact congrArg (s.1 97) (by omega)
  · split
    · rw [q2]; exact congrArg (s.1 97) (by omega)
    · rw [q3]; exact congrArg (s.1 97) (by omega)
theorem lc_loop {s : mh_H} (h : rl_N s) (p1 p2 p3 p4 : Int32) (hp : 0 ≤ p1.toInt ∧ p1.toInt ≤ 2) : ∀ (n : Nat) (x a : Int32), 0 ≤ x.toInt → x.toInt ≤ 60 → l_eX3_lineCost_6_1 s p1 p2 p3 p4 n x a = l_eX10_costOf_6_1 s p1 p2 p3 p4 n x a := by
  intro n
  induction n with
  | zero => intros; rfl
  | succ n ih =>
    intro x a h0 h1
    rw [l_eX3_lineCost_6_1_s, l_eX10_costOf_6_1_s]
    unfold ls_eX3_lineCost_6_1 ls_eX10_costOf_6_1
    simp only [mh_lbE]
    have hr := h.2.1.2
    rw [h.1] at hr
    rw [h.1]
    by_cases hc : x.toInt < (s.1 57 58).toInt
    · have hx : 0 ≤ x.toInt ∧ x.toInt ≤ 59 := by omega
      rw [if_pos hc, if_pos hc, ← ev_eq h hx hp]
      have hn := nn_inc h0 h1 (by decide)
      have ih2 : ∀ a, l_eX3_lineCost_6_1 s p1 p2 p3 p4 n (x + 1) a = l_eX10_costOf_6_1 s p1 p2 p3 p4 n (x + 1) a := fun a => ih (x + 1) a (by omega) (by omega)
      generalize f_eX3_eveningNumber s x p1 = v
      have q4 := (h.2.2 x.toNatClampNeg (by show x.toInt.toNat < 60; omega)).1.2.2.2.1
      simp only [j_eX3_lineCost_38_2, j_eX10_costOf_35_2, j_eX10_costOf_54_3, j_eX10_costOf_70_5, j_eX10_costOf_73_4, f_eX3_cost, j_eX3_cost_14_1, mh_lbE, q4, ih2]
      by_cases c1 : v.toInt < p2.toInt <;> by_cases c2 : 0 < (s.1 98 x.toNatClampNeg).toInt <;> simp [c1, c2, kc_0, kc_1]
    · rw [if_neg hc, if_neg hc]
theorem lc_eq {s : mh_H} (h : rl_N s) (p1 p2 p3 p4 : Int32) (hp : 0 ≤ p1.toInt ∧ p1.toInt ≤ 2) : f_eX3_lineCost s p1 p2 p3 p4 = f_eX10_costOf s p1 p2 p3 p4 := lc_loop h p1 p2 p3 p4 hp 61 0 0 (by decide) (by decide)
theorem lc_bd {s : mh_H} (h : rl_N s) (p1 p2 p3 p4 : Int32) (h3 : 0 ≤ p3.toInt ∧ p3.toInt ≤ 999) (h4 : 0 ≤ p4.toInt ∧ p4.toInt ≤ 999) : ∀ (n : Nat) (x a : Int32), 0 ≤ x.toInt → x.toInt ≤ 60 → 0 ≤ a.toInt → a.toInt ≤ 999 * x.toInt → 0 ≤ (l_eX10_costOf_6_1 s p1 p2 p3 p4 n x a).toInt ∧ (l_eX10_costOf_6_1 s p1 p2 p3 p4 n x a).toInt ≤ 59940 := by
  intro n
  induction n with
  | zero => intro x a _ _ _ _; exact (show 0 ≤ (0 : Int32).toInt ∧ (0 : Int32).toInt ≤ 59940 by decide)
  | succ n ih =>
    intro x a h0 h1 g0 g1
    rw [l_eX10_costOf_6_1_s]
    unfold ls_eX10_costOf_6_1
    simp only [mh_lbE]
    have hr := h.2.1.2
    rw [h.1] at hr
    by_cases hc : x.toInt < (s.1 57 58).toInt
    · rw [if_pos hc]
      have hn := nn_inc h0 h1 (by decide)
      have k0 := ih (x + 1) a (by omega) (by omega) g0 (by omega)
      have e3 : (a + p3).toInt = a.toInt + p3.toInt := mh_add (lo := 0) (hi := 100000) (by omega) (by decide)
      have e4 : (a + p4).toInt = a.toInt + p4.toInt := mh_add (lo := 0) (hi := 100000) (by omega) (by decide)
      have k3 := ih (x + 1) (a + p3) (by omega) (by omega) (by omega) (by omega)
      have k4 := ih (x + 1) (a + p4) (by omega) (by omega) (by omega) (by omega)
      simp only [j_eX10_costOf_35_2, j_eX10_costOf_54_3, j_eX10_costOf_70_5, j_eX10_costOf_73_4, mh_lbE]
      repeat' split
      all_goals first | exact k0 | exact k3 | exact k4
    · rw [if_neg hc]; omega
theorem lc_lt {s : mh_H} (h : rl_N s) (p1 p2 p3 p4 : Int32) (h3 : 0 ≤ p3.toInt ∧ p3.toInt ≤ 999) (h4 : 0 ≤ p4.toInt ∧ p4.toInt ≤ 999) : (f_eX10_costOf s p1 p2 p3 p4).toInt < (2147483647 : Int32).toInt := by
  have h9 : (2147483647 : Int32).toInt = 2147483647 := rfl
  have := (lc_bd h p1 p2 p3 p4 h3 h4 61 0 0 (by decide) (by decide) (by decide) (by decide)).2
  rw [h9]
  unfold f_eX10_costOf
  omega
theorem bl_loop {s : mh_H} (h : rl_N s) (p1 p2 p3 : Int32) (hp : 0 ≤ p1.toInt ∧ p1.toInt ≤ 2) : ∀ (n : Nat) (x b : Int32), 0 ≤ x.toInt → x.toInt ≤ 101 → l_eX3_bestLine_10_1 s p1 p2 p3 n x (f_eX10_costOf s p1 b p2 p3) b = l_eX10_bestLine_6_1 s p1 p2 p3 n x b := by
  intro n
  induction n with
  | zero => intros; rfl
  | succ n ih =>
    intro x b h0 h1
    rw [l_eX3_bestLine_10_1_s, l_eX10_bestLine_6_1_s]
    unfold ls_eX3_bestLine_10_1 ls_eX10_bestLine_6_1
    have h9 : (100 : Int32).toInt = 100 := rfl
    by_cases hc : (100 : Int32).toInt < x.toInt
    · rw [if_pos hc, if_pos hc]
    · rw [if_neg hc, if_neg hc]
      have hn := nn_inc h0 h1 (by decide)
      simp only [mh_lbE, j_eX3_bestLine_43_2, j_eX10_bestLine_38_2, lc_eq h p1 _ p2 p3 hp]
      split
      · exact ih (x + 1) x (by omega) (by omega)
      · exact ih (x + 1) b (by omega) (by omega)
theorem bl_fst {s : mh_H} (p1 p2 p3 : Int32) (n : Nat) {c : Int32} (hl : f_eX3_lineCost s p1 0 p2 p3 = c) (hc : c.toInt < (2147483647 : Int32).toInt) : l_eX3_bestLine_10_1 s p1 p2 p3 (n + 1) 0 2147483647 0 = l_eX3_bestLine_10_1 s p1 p2 p3 n 1 c 0 := by
  rw [l_eX3_bestLine_10_1_s]
  unfold ls_eX3_bestLine_10_1
  have e01 : (0 : Int32) + 1 = 1 := rfl
  simp only [mh_lbE, j_eX3_bestLine_43_2, hl, e01]
  rw [if_neg (by decide), if_pos hc]
theorem bl_eq {s : mh_H} (h : rl_N s) (p1 p2 p3 : Int32) (hp : 0 ≤ p1.toInt ∧ p1.toInt ≤ 2) (h2 : 0 ≤ p2.toInt ∧ p2.toInt ≤ 999) (h3 : 0 ≤ p3.toInt ∧ p3.toInt ≤ 999) : f_eX3_bestLine s p1 p2 p3 = f_eX10_bestLine s p1 p2 p3 := by
  unfold f_eX3_bestLine f_eX10_bestLine
  obtain ⟨m, hm⟩ : ∃ m : Nat, m = 101 := ⟨_, rfl⟩
  rw [show (102 : Nat) = m + 1 by omega, show (101 : Nat) = m by omega, bl_fst p1 p2 p3 m (lc_eq h p1 0 p2 p3 hp) (lc_lt h p1 0 p2 p3 h2 h3)]
  exact bl_loop h p1 p2 p3 hp m 1 0 (by decide) (by decide)
theorem line_eq {s : mh_H} (h : rl_N s) (p1 p2 p3 p4 : Int32) : f_eX9_line s p1 p2 p3 p4 = f_eX10_line s p1 p2 p3 p4 := by
  unfold f_eX9_line f_eX10_line
  simp only [mh_lbE, fq_within, fq_lies, fq_prices, fq_price, Int32.toInt_toInt64]
  have a1 : (0 : Int64).toInt = 0 := rfl
  have a2 : (1 : Int64).toInt = 1 := rfl
  have a3 : (2 : Int64).toInt = 2 := rfl
  have b2 := kc_1
  have b3 : (2 : Int32).toInt = 2 := rfl
  rw [a1, a2, a3, b2, b3]
  by_cases c1 : 0 ≤ p1.toInt ∧ p1.toInt ≤ 2
  · by_cases c2 : 0 ≤ p2.toInt ∧ p2.toInt ≤ 999
    · by_cases c3 : 0 ≤ p3.toInt ∧ p3.toInt ≤ 999
      · by_cases c4 : 0 ≤ p4.toInt ∧ p4.toInt ≤ 1
        · simp only [c1, c2, c3, c4, and_self, not_true_eq_false, if_false]
          rw [bl_eq h p1 p2 p3 c1 c2 c3, lc_eq h p1 _ p2 p3 c1]
          by_cases c5 : p4.toInt = 0
          · rw [if_pos c5, if_neg (by omega)]
          · rw [if_neg c5, if_pos (by omega)]
        · simp only [c1, c2, c3, c4, and_self, and_true, true_and, false_and, and_false, not_true_eq_false, not_false_eq_true, if_false, if_true]
      · simp only [c1, c2, c3, and_self, and_true, true_and, false_and, and_false, not_true_eq_false, not_false_eq_true, if_false, if_true]
    · simp only [c1, c2, and_self, and_true, true_and, false_and, and_false, not_true_eq_false, not_false_eq_true, if_false, if_true]
  · simp only [c1, not_false_eq_true, if_true]
theorem te_loop {s : mh_H} (h : rl_N s) (p1 p2 : Int32) (h1 : 0 ≤ p1.toInt ∧ p1.toInt ≤ 999) (h2 : 0 ≤ p2.toInt ∧ p2.toInt ≤ 999) : ∀ (n : Nat) (x b : Int32), 0 ≤ x.toInt → x.toInt ≤ 3 → 0 ≤ b.toInt → b.toInt ≤ 2 → l_eX9_tells_20_1 s p1 p2 n x (f_eX10_costOf s b (f_eX10_bestLine s b p1 p2) p1 p2) b = l_eX10_tells_21_1 s p1 p2 n x b := by
  intro n
  induction n with
  | zero => intros; rfl
  | succ n ih =>
    intro x b h0 hx hb hb2
    rw [l_eX9_tells_20_1_s, l_eX10_tells_21_1_s]
    unfold ls_eX9_tells_20_1 ls_eX10_tells_21_1
    have h9 : (3 : Int32).toInt = 3 := rfl
    by_cases hc : x.toInt < (3 : Int32).toInt
    · rw [if_pos hc, if_pos hc]
      have hn := nn_inc h0 hx (by decide)
      simp only [mh_lbE, j_eX9_tells_64_2, j_eX10_tells_63_2, bl_eq h x p1 p2 ⟨h0, by omega⟩ h1 h2, lc_eq h x _ p1 p2 ⟨h0, by omega⟩]
      split
      · exact ih (x + 1) x (by omega) (by omega) h0 (by omega)
      · exact ih (x + 1) b (by omega) (by omega) hb hb2
    · rw [if_neg hc, if_neg hc]
theorem te_fst {s : mh_H} (p1 p2 : Int32) (n : Nat) {c : Int32} (hl : f_eX3_lineCost s 0 (f_eX3_bestLine s 0 p1 p2) p1 p2 = c) (hc : c.toInt < (2147483647 : Int32).toInt) : l_eX9_tells_20_1 s p1 p2 (n + 1) 0 2147483647 0 = l_eX9_tells_20_1 s p1 p2 n 1 c 0 := by
  rw [l_eX9_tells_20_1_s]
  unfold ls_eX9_tells_20_1
  have e01 : (0 : Int32) + 1 = 1 := rfl
  simp only [mh_lbE, j_eX9_tells_64_2, hl, e01]
  rw [if_pos (by decide), if_pos hc]
theorem tells_eq {s : mh_H} (h : rl_N s) (p1 p2 : Int32) : f_eX9_tells s p1 p2 = f_eX10_tells s p1 p2 := by
  unfold f_eX9_tells f_eX10_tells
  simp only [mh_lbE, fq_prices, fq_price]
  by_cases c1 : 0 ≤ p1.toInt ∧ p1.toInt ≤ 999
  · by_cases c2 : 0 ≤ p2.toInt ∧ p2.toInt ≤ 999
    · simp only [c1, c2, and_self, not_true_eq_false, if_false]
      obtain ⟨m, hm⟩ : ∃ m : Nat, m = 3 := ⟨_, rfl⟩
      rw [show (4 : Nat) = m + 1 by omega, show (3 : Nat) = m by omega, te_fst p1 p2 m (by rw [bl_eq h 0 p1 p2 (by decide) c1 c2]; exact lc_eq h 0 _ p1 p2 (by decide)) (lc_lt h 0 _ p1 p2 c1 c2)]
      exact te_loop h p1 p2 c1 c2 m 1 0 (by decide) (by decide) (by decide) (by decide)
    · simp only [c1, c2, and_self, and_true, true_and, false_and, and_false, not_true_eq_false, not_false_eq_true, if_false, if_true]
  · simp only [c1, false_and, not_false_eq_true, if_true]

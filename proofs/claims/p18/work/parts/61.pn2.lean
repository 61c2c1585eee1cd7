theorem pw_scl {s : mh_H} (h : rl_N s) (p1 p2 p3 : Int32) (hp : 0 ≤ p1.toInt ∧ p1.toInt ≤ 999) : ∀ (n : Nat) (x a : Int32), 0 ≤ x.toInt → x.toInt ≤ 60 → l_eX3_sendCost_6_1 s p1 p2 p3 n x a = l_eX10_costWhen_6_1 s p1 p2 p3 n x a := by
  intro n
  induction n with
  | zero => intros; rfl
  | succ n ih =>
    intro x a h0 h1
    rw [l_eX3_sendCost_6_1_s, l_eX10_costWhen_6_1_s]
    unfold ls_eX3_sendCost_6_1 ls_eX10_costWhen_6_1
    simp only [mh_lbE]
    have hr := h.2.1.2
    rw [h.1] at hr
    rw [h.1]
    by_cases hc : x.toInt < (s.1 57 58).toInt
    · rw [if_pos hc, if_pos hc]
      have hn := nn_inc h0 h1 (by decide)
      have ih2 : ∀ a, l_eX3_sendCost_6_1 s p1 p2 p3 n (x + 1) a = l_eX10_costWhen_6_1 s p1 p2 p3 n (x + 1) a := fun a => ih (x + 1) a (by omega) (by omega)
      obtain ⟨⟨-, -, -, q4, q5⟩, -, -, -, r4, r5⟩ := h.2.2 x.toNatClampNeg (by show x.toInt.toNat < 60; omega)
      simp only [j_eX3_sendCost_65_2, j_eX3_sendCost_62_3, j_eX10_costWhen_69_2, j_eX10_costWhen_66_3, mh_lbE, ih2]
      rw [q4] at r4 ⊢
      rw [q5] at r5 ⊢
      generalize s.1 98 x.toNatClampNeg = v at r4 ⊢
      generalize s.1 99 x.toNatClampNeg = t at r5 ⊢
      have r41 := r4.1; have r51 := r5.1; have r52 := r5.2
      have e : (t - p1).toInt = t.toInt - p1.toInt := mh_sub (lo := -999) (hi := 999) (by omega) (by decide)
      by_cases c1 : 0 < v.toInt
      · rw [if_pos c1, if_neg (show ¬ v.toInt = 0 by omega)]
        by_cases c2 : 0 < (t - p1).toInt
        · rw [if_pos c2, if_pos (show p1.toInt < t.toInt by omega)]
        · rw [if_neg c2, if_neg (show ¬ p1.toInt < t.toInt by omega), Int32.neg_sub]
      · rw [if_neg c1, if_pos (show v.toInt = 0 by omega)]
    · rw [if_neg hc, if_neg hc]
theorem pw_sce {s : mh_H} (h : rl_N s) (p1 p2 p3 : Int32) (hp : 0 ≤ p1.toInt ∧ p1.toInt ≤ 999) : f_eX3_sendCost s p1 p2 p3 = f_eX10_costWhen s p1 p2 p3 := pw_scl h p1 p2 p3 hp 61 0 0 (by decide) (by decide)
theorem pw_scb {s : mh_H} (h : rl_N s) (p1 p2 p3 : Int32) (hp : 0 ≤ p1.toInt ∧ p1.toInt ≤ 999) (h2 : 0 ≤ p2.toInt ∧ p2.toInt ≤ 99) (h3 : 0 ≤ p3.toInt ∧ p3.toInt ≤ 99) : ∀ (n : Nat) (x a : Int32), 0 ≤ x.toInt → x.toInt ≤ 60 → 0 ≤ a.toInt → a.toInt ≤ 98901 * x.toInt → 0 ≤ (l_eX10_costWhen_6_1 s p1 p2 p3 n x a).toInt ∧ (l_eX10_costWhen_6_1 s p1 p2 p3 n x a).toInt ≤ 5934060 := by
  intro n
  induction n with
  | zero => intro x a _ _ _ _; exact (show 0 ≤ (0 : Int32).toInt ∧ (0 : Int32).toInt ≤ 5934060 by decide)
  | succ n ih =>
    intro x a h0 h1 g0 g1
    rw [l_eX10_costWhen_6_1_s]
    unfold ls_eX10_costWhen_6_1
    simp only [mh_lbE]
    have hr := h.2.1.2
    rw [h.1] at hr
    by_cases hc : x.toInt < (s.1 57 58).toInt
    · rw [if_pos hc]
      have hn := nn_inc h0 h1 (by decide)
      have k0 := ih (x + 1) a (by omega) (by omega) g0 (by omega)
      obtain ⟨⟨-, -, -, q4, q5⟩, -, -, -, r4, r5⟩ := h.2.2 x.toNatClampNeg (by show x.toInt.toNat < 60; omega)
      rw [q5] at r5
      simp only [j_eX10_costWhen_69_2, j_eX10_costWhen_66_3, mh_lbE]
      generalize s.1 99 x.toNatClampNeg = t at r5 ⊢
      have r51 := r5.1; have r52 := r5.2
      have e1 : (t - p1).toInt = t.toInt - p1.toInt := mh_sub (lo := -999) (hi := 999) (by omega) (by decide)
      have e2 : (p1 - t).toInt = p1.toInt - t.toInt := mh_sub (lo := -999) (hi := 999) (by omega) (by decide)
      split
      · exact k0
      · split
        · rename_i c2
          have m1 := mh_mulc (lo := 0) (hi := 98901) h2.1 h2.2 (show (0 : Int) ≤ (t - p1).toInt by omega) (show (t - p1).toInt ≤ 999 by omega) (by decide) (by decide)
          have m2 : (p2 * (t - p1)).toInt = p2.toInt * (t - p1).toInt := mh_mul m1 (by decide)
          have m3 : (a + p2 * (t - p1)).toInt = a.toInt + (p2 * (t - p1)).toInt := mh_add (lo := 0) (hi := 100000000) (by omega) (by decide)
          exact ih (x + 1) (a + p2 * (t - p1)) (by omega) (by omega) (by omega) (by omega)
        · rename_i c2
          have m1 := mh_mulc (lo := 0) (hi := 98901) h3.1 h3.2 (show (0 : Int) ≤ (p1 - t).toInt by omega) (show (p1 - t).toInt ≤ 999 by omega) (by decide) (by decide)
          have m2 : (p3 * (p1 - t)).toInt = p3.toInt * (p1 - t).toInt := mh_mul m1 (by decide)
          have m3 : (a + p3 * (p1 - t)).toInt = a.toInt + (p3 * (p1 - t)).toInt := mh_add (lo := 0) (hi := 100000000) (by omega) (by decide)
          exact ih (x + 1) (a + p3 * (p1 - t)) (by omega) (by omega) (by omega) (by omega)
    · rw [if_neg hc]; omega
theorem pw_sct {s : mh_H} (h : rl_N s) (p1 p2 p3 : Int32) (hp : 0 ≤ p1.toInt ∧ p1.toInt ≤ 999) (h2 : 0 ≤ p2.toInt ∧ p2.toInt ≤ 99) (h3 : 0 ≤ p3.toInt ∧ p3.toInt ≤ 99) : (f_eX10_costWhen s p1 p2 p3).toInt < (2147483647 : Int32).toInt := by
  have h9 : (2147483647 : Int32).toInt = 2147483647 := rfl
  have := (pw_scb h p1 p2 p3 hp h2 h3 61 0 0 (by decide) (by decide) (by decide) (by decide)).2
  rw [h9]
  unfold f_eX10_costWhen
  omega
theorem wh_loop {s : mh_H} (h : rl_N s) (p1 p2 p3 : Int32) : ∀ (n : Nat) (x a b : Int32), 0 ≤ x.toInt → x.toInt ≤ 1000 → l_eX9_when_39_1 s p1 p2 p3 n x a b = l_eX10_when_51_1 s p1 p2 p3 n x a b := by
  intro n
  induction n with
  | zero => intros; rfl
  | succ n ih =>
    intro x a b h0 h1
    rw [l_eX9_when_39_1_s, l_eX10_when_51_1_s]
    unfold ls_eX9_when_39_1 ls_eX10_when_51_1
    have k1 : (999 : Int32).toInt = 999 := rfl
    have k2 : (1000 : Int32).toInt = 1000 := rfl
    by_cases hc : x.toInt < (1000 : Int32).toInt
    · rw [if_pos hc, if_neg (by omega)]
      have hn := nn_inc h0 h1 (by decide)
      simp only [mh_lbE, j_eX9_when_75_2, j_eX10_when_87_2, pw_sce h x p1 p2 ⟨h0, by omega⟩]
      split
      · exact ih (x + 1) _ _ (by omega) (by omega)
      · exact ih (x + 1) _ _ (by omega) (by omega)
    · rw [if_neg hc, if_pos (by omega)]
theorem wh_fst {s : mh_H} (p1 p2 p3 : Int32) (n : Nat) {c : Int32} (hl : f_eX3_sendCost s 0 p1 p2 = c) (hc : c.toInt < (2147483647 : Int32).toInt) : l_eX9_when_39_1 s p1 p2 p3 (n + 1) 0 2147483647 0 = l_eX9_when_39_1 s p1 p2 p3 n 1 c 0 := by
  rw [l_eX9_when_39_1_s]
  unfold ls_eX9_when_39_1
  have e01 : (0 : Int32) + 1 = 1 := rfl
  simp only [mh_lbE, j_eX9_when_75_2, hl, e01]
  rw [if_neg (by decide), if_pos hc]
theorem when_eq {s : mh_H} (h : rl_N s) (p1 p2 p3 : Int32) : f_eX9_when s p1 p2 p3 = f_eX10_when s p1 p2 p3 := by
  unfold f_eX9_when f_eX10_when
  obtain ⟨m, hm⟩ : ∃ m : Nat, m = 1000 := ⟨_, rfl⟩
  rw [show (1001 : Nat) = m + 1 by omega, show (1000 : Nat) = m by omega]
  simp only [mh_lbE, fq_within, fq_lies, Int32.toInt_toInt64]
  have a1 : (0 : Int64).toInt = 0 := rfl
  have a2 : (1 : Int64).toInt = 1 := rfl
  have a3 : (99 : Int64).toInt = 99 := rfl
  have b2 := kc_1
  have b3 : (99 : Int32).toInt = 99 := rfl
  rw [a1, a2, a3, b2, b3]
  by_cases c1 : 0 ≤ p1.toInt ∧ p1.toInt ≤ 99
  · by_cases c2 : 0 ≤ p2.toInt ∧ p2.toInt ≤ 99
    · by_cases c3 : 0 ≤ p3.toInt ∧ p3.toInt ≤ 1
      · simp only [c1, c2, c3, and_self, not_true_eq_false, if_false]
        rw [wh_fst p1 p2 p3 m (pw_sce h 0 p1 p2 (by decide)) (pw_sct h 0 p1 p2 (by decide) c1 c2)]
        exact wh_loop h p1 p2 p3 m 1 _ 0 (by decide) (by decide)
      · simp only [c1, c2, c3, and_self, and_true, true_and, false_and, and_false, not_true_eq_false, not_false_eq_true, if_false, if_true]
    · simp only [c1, c2, and_self, and_true, true_and, false_and, and_false, not_true_eq_false, not_false_eq_true, if_false, if_true]
  · simp only [c1, not_false_eq_true, if_true]
theorem dv_loop : ∀ (n : Nat) (q p : Int64), 0 ≤ p.toInt → 0 ≤ q.toInt → q.toInt < (n : Int) → (l_eX10_divisor_6_1 n q p).toInt = (Nat.gcd p.toInt.toNat q.toInt.toNat : Nat) := by
  intro n
  induction n with
  | zero => intro q p _ h1 h2; exfalso; omega
  | succ n ih =>
    intro q p h0 h1 h2
    rw [l_eX10_divisor_6_1_s]
    unfold ls_eX10_divisor_6_1
    simp only [mh_lbE]
    have hz := (mh_lc (x := q) (y := 0) rfl).1
    have a1 : (0 : Int64).toInt = 0 := rfl
    rw [a1] at hz
    by_cases hc : q.toInt = 0
    · rw [if_pos (hz.2 hc), hc]
      show p.toInt = ((Nat.gcd p.toInt.toNat 0 : Nat) : Int)
      rw [Nat.gcd_zero_right]
      omega
    · rw [if_neg (fun g => hc (hz.1 g))]
      obtain ⟨r1, r2, r3⟩ := mh_lrm2 (x := p) (y := q) rfl hc
      generalize p - p / q * q = r at r1 r2 r3 ⊢
      have r2 := r2 h0
      rw [ih r q h1 r2 (by omega)]
      have e1 : r.toInt.toNat = p.toInt.toNat % q.toInt.toNat := by
        rw [show r.toInt.toNat = r.toInt.natAbs by omega, r1, show p.toInt.natAbs = p.toInt.toNat by omega, show q.toInt.natAbs = q.toInt.toNat by omega]
      rw [e1, Nat.gcd_comm, ← Nat.gcd_rec, Nat.gcd_comm]
theorem dv_eq (s : mh_H) {a b : Int64} (ha : 0 ≤ a.toInt) (hb : 0 ≤ b.toInt) : (f_eX10_divisor s a b).toInt = (Nat.gcd a.toInt.toNat b.toInt.toNat : Nat) := by
  have h9 : b.toInt < 9223372036854775808 := Int64.toInt_lt b
  exact dv_loop _ b a ha hb (by omega)
theorem lt_st {R d m : Nat} (h1 : d ≤ R) (hd : 0 < d) (h : R * d < 2 ^ (m + 1)) : d * (R % d) < 2 ^ m := by
  have e := Nat.div_add_mod R d
  have q1 : 1 ≤ R / d := (Nat.one_le_div_iff hd).mpr h1
  have l := Nat.mod_lt R hd
  have e2 : d * 1 ≤ d * (R / d) := Nat.mul_le_mul_left d q1
  have e3 : R % d * 2 ≤ R := by omega
  have e4 : d * (R % d * 2) ≤ d * R := Nat.mul_le_mul_left d e3
  have e5 : d * (R % d * 2) = d * (R % d) * 2 := by rw [Nat.mul_assoc]
  have e6 : 2 ^ (m + 1) = 2 ^ m * 2 := Nat.pow_succ ..
  rw [Nat.mul_comm d R] at e4
  omega
theorem lt_loop (p0 p2 : Int64) (p4 : Int32) : ∀ (m n : Nat) (x : Int32) (r d : Int64), 0 ≤ d.toInt → d.toInt ≤ r.toInt → r.toInt.toNat * d.toInt.toNat < 2 ^ m → 0 ≤ x.toInt → x.toInt + m ≤ 199 → m < n → ∃ g : Int64, g.toInt = (Nat.gcd r.toInt.toNat d.toInt.toNat : Nat) ∧ l_eX9_lowestTerm_9_1 p0 p2 p4 n x r d = j_eX9_lowestTerm_45_2 p0 p2 p4 g := by
  intro m
  induction m with
  | zero =>
    intro n x r d h0 h1 h2 h3 h4 h5
    obtain ⟨n, rfl⟩ : ∃ k, n = k + 1 := ⟨n - 1, by omega⟩
    rw [l_eX9_lowestTerm_9_1_s]
    unfold ls_eX9_lowestTerm_9_1
    simp only [mh_lbE]
    have a2 : (200 : Int32).toInt = 200 := rfl
    rw [if_pos (by rw [a2]; omega)]
    have hz := (mh_lc (x := d) (y := 0) rfl).1
    have a1 : (0 : Int64).toInt = 0 := rfl
    rw [a1] at hz
    have hc : d.toInt = 0 := by
      rcases Int.lt_or_le 0 d.toInt with g | g
      · have : 0 < r.toInt.toNat * d.toInt.toNat := Nat.mul_pos (by omega) (by omega)
        rw [Nat.pow_zero] at h2
        omega
      · omega
    rw [if_pos (hz.2 hc), hc]
    exact ⟨r, by show r.toInt = ((Nat.gcd r.toInt.toNat 0 : Nat) : Int); rw [Nat.gcd_zero_right]; omega, rfl⟩
  | succ m ih =>
    intro n x r d h0 h1 h2 h3 h4 h5
    obtain ⟨n, rfl⟩ : ∃ k, n = k + 1 := ⟨n - 1, by omega⟩
    rw [l_eX9_lowestTerm_9_1_s]
    unfold ls_eX9_lowestTerm_9_1
    simp only [mh_lbE]
    have a2 : (200 : Int32).toInt = 200 := rfl
    rw [if_pos (by rw [a2]; omega)]
    have hz := (mh_lc (x := d) (y := 0) rfl).1
    have a1 : (0 : Int64).toInt = 0 := rfl
    rw [a1] at hz
    by_cases hc : d.toInt = 0
    · rw [if_pos (hz.2 hc), hc]
      exact ⟨r, by show r.toInt = ((Nat.gcd r.toInt.toNat 0 : Nat) : Int); rw [Nat.gcd_zero_right]; omega, rfl⟩
    · rw [if_neg (fun g => hc (hz.1 g))]
      obtain ⟨r1, r2, r3⟩ := mh_lrm2 (x := r) (y := d) rfl hc
      generalize r - r / d * d = q at r1 r2 r3 ⊢
      have r2 := r2 (by omega)
      have e1 : q.toInt.toNat = r.toInt.toNat % d.toInt.toNat := by
        rw [show q.toInt.toNat = q.toInt.natAbs by omega, r1, show r.toInt.natAbs = r.toInt.toNat by omega, show d.toInt.natAbs = d.toInt.toNat by omega]
      have hn := nn_inc (x := x) (m := 199) h3 (by omega) (by decide)
      obtain ⟨g, g1, g2⟩ := ih n (x + 1) d q r2 (by omega) (by rw [e1]; exact lt_st (by omega) (by omega) h2) (by omega) (by omega) (by omega)
      refine ⟨g, ?_, g2⟩
      rw [g1, e1, Nat.gcd_comm, ← Nat.gcd_rec, Nat.gcd_comm]
theorem lt_eq (s : mh_H) {a b : Int64} (p4 : Int32) (ha : 0 ≤ a.toInt) (hb : 1 ≤ b.toInt) (hA : a.toInt ≤ 1000000000000) (hB : b.toInt ≤ 1000000000000) : ∃ g : Int64, g.toInt = (Nat.gcd a.toInt.toNat b.toInt.toNat : Nat) ∧ f_eX9_lowestTerm s a b p4 = if p4.toInt = 0 then a / g else b / g := by
  have fin : ∀ g : Int64, g.toInt = (Nat.gcd a.toInt.toNat b.toInt.toNat : Nat) → j_eX9_lowestTerm_45_2 a b p4 g = if p4.toInt = 0 then a / g else b / g := by
    intro g hg
    unfold j_eX9_lowestTerm_45_2
    simp only [mh_lbE]
    have hz := (mh_lc (x := g) (y := 0) rfl).1
    have a1 : (0 : Int64).toInt = 0 := rfl
    have hp := Nat.gcd_pos_of_pos_right a.toInt.toNat (show 0 < b.toInt.toNat by omega)
    rw [a1] at hz
    rw [if_neg (fun q => by have := hz.1 q; omega)]
  have hpw : ∀ x y : Nat, x ≤ 1000000000000 → y ≤ 1000000000000 → x * y < 2 ^ 81 := fun x y h1 h2 => Nat.lt_of_le_of_lt (Nat.mul_le_mul h1 h2) (by decide)
  unfold f_eX9_lowestTerm
  obtain ⟨m, hm⟩ : ∃ m : Nat, m = 200 := ⟨_, rfl⟩
  rw [show (201 : Nat) = m + 1 by omega]
  rcases Int.le_total a.toInt b.toInt with hc | hc
  · obtain ⟨g, g1, g2⟩ := lt_loop a b p4 81 (m + 1) 0 b a ha hc (hpw _ _ (by omega) (by omega)) (by decide) (by decide) (by omega)
    rw [Nat.gcd_comm] at g1
    exact ⟨g, g1, g2.trans (fin g g1)⟩
  · have e01 : (0 : Int32) + 1 = 1 := rfl
    rw [l_eX9_lowestTerm_9_1_s]
    unfold ls_eX9_lowestTerm_9_1
    simp only [mh_lbE]
    rw [if_pos (by decide)]
    have hz := (mh_lc (x := a) (y := 0) rfl).1
    have a1 : (0 : Int64).toInt = 0 := rfl
    rw [a1] at hz
    have hc0 : a.toInt ≠ 0 := by omega
    rw [if_neg (fun g => hc0 (hz.1 g))]
    obtain ⟨r1, r2, r3⟩ := mh_lrm2 (x := b) (y := a) rfl hc0
    rw [e01]
    generalize b - b / a * a = q at r1 r2 r3 ⊢
    have r2 := r2 (by omega)
    have e1 : q.toInt.toNat = b.toInt.toNat % a.toInt.toNat := by
      rw [show q.toInt.toNat = q.toInt.natAbs by omega, r1, show b.toInt.natAbs = b.toInt.toNat by omega, show a.toInt.natAbs = a.toInt.toNat by omega]
    obtain ⟨g, g1, g2⟩ := lt_loop a b p4 81 m 1 a q r2 (by omega) (hpw _ _ (by omega) (by rw [e1]; have := Nat.mod_le b.toInt.toNat a.toInt.toNat; omega)) (by decide) (by decide) (by omega)
    have g3 : g.toInt = (Nat.gcd a.toInt.toNat b.toInt.toNat : Nat) := by
      rw [g1, e1, Nat.gcd_comm, ← Nat.gcd_rec]
    exact ⟨g, g3, g2.trans (fin g g3)⟩

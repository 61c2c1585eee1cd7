section
/-- not by rfl, so that the kernel need not compute -/
theorem mh_lbE {α β : Type} (e : α) (k : α → β) : mh_lb e k = k e := mh_lbT rfl rfl
theorem mh_lb2E {α γ β : Type} (e : α × γ) (k : α → γ → β) : mh_lb2 e k = k e.1 e.2 := mh_lb2T rfl rfl
/-- the three moving references -/
def mh_p3 (s : mh_H) : Prop := mh_isL (s.2.2 0 11) ∧ mh_isL (s.2.2 0 12) ∧ mh_isL (s.2.2 56 1)
def mh_Fr (S : List (Nat × Nat)) (s0 s : mh_H) : Prop := mh_F S s0 s ∧ mh_p3 s
def mh_FrP {α : Type} (S : List (Nat × Nat)) (s0 : mh_H) (r : α × mh_H) : Prop := mh_Fr S s0 r.2
theorem mh_fA {α β : Type} {P : β → Prop} {e : α} {k : α → β} (h : ∀ x, P (k x)) : P (mh_lb e k) := h e
theorem mh_fB {β : Type} {P : β → Prop} {S : List (Nat × Nat)} {s0 e : mh_H} {k : mh_H → β} (he : mh_Fr S s0 e) (h : ∀ s, mh_Fr S s0 s → P (k s)) : P (mh_lb e k) := h e he
theorem mh_fC {α β : Type} {P : β → Prop} {S : List (Nat × Nat)} {s0 : mh_H} {e : α × mh_H} {k : α → mh_H → β} (he : mh_FrP S s0 e) (h : ∀ z s, mh_Fr S s0 s → P (k z s)) : P (mh_lb2 e k) := h e.1 e.2 he
theorem mh_fK {β : Type} {P : β → Prop} {e : Nat} {k : Nat → β} (he : mh_isL e) (h : ∀ x, mh_isL x → P (k x)) : P (mh_lb e k) := h e he
theorem mh_fI {β : Type} {P : β → Prop} {c : Prop} {h : Decidable c} {a b : β} (ha : P a) (hb : P b) : P (@ite β c h a b) := by split <;> assumption
theorem mh_Fr_pI {S : List (Nat × Nat)} {s0 s : mh_H} {k j : Nat} {x : Int32} (h : mh_Fr S s0 s) (hs : mh_sI S k j) : mh_Fr S s0 (mh_pI s k j x) := ⟨mh_F_pI h.1 hs, h.2⟩
theorem mh_Fr_pL {S : List (Nat × Nat)} {s0 s : mh_H} {k j : Nat} {x : Int64} (h : mh_Fr S s0 s) (hs : mh_sI S k j) : mh_Fr S s0 (mh_pL s k j x) := ⟨mh_F_pL h.1 hs, h.2⟩
theorem mh_Fr_pA {S : List (Nat × Nat)} {s0 s : mh_H} {k : Nat} {f : Nat → Int32} (h : mh_Fr S s0 s) (hs : (k, 9999) ∈ S) : mh_Fr S s0 (mh_pA s k f) := ⟨mh_F_pA h.1 hs, h.2⟩
theorem mh_Fr_pR {S : List (Nat × Nat)} {s0 s : mh_H} {k j t : Nat} (h : mh_Fr S s0 s) (hs : mh_sI S k j) (ht : mh_isL t) : mh_Fr S s0 (mh_pR s k j t) := by
  have key : ∀ a b, mh_isL (s.2.2 a b) → mh_isL (mh_up s.2.2 k j t a b) := by
    intro a b h0
    by_cases q : a = k ∧ b = j
    · rw [q.1, q.2, mh_up_s]; exact ht
    · rw [mh_up_n q]; exact h0
  exact ⟨mh_F_pR h.1 hs, key _ _ h.2.1, key _ _ h.2.2.1, key _ _ h.2.2.2⟩
theorem mh_Fr_tv {S S' : List (Nat × Nat)} {s0 s e : mh_H} (h : mh_Fr S s0 s) (h2 : mh_Fr S' s e) (hs : mh_lsub S' S = true) : mh_Fr S s0 e := ⟨mh_F_tl h.1 h2.1 hs, h2.2⟩
theorem mh_Fr_tl {α : Type} {S S' : List (Nat × Nat)} {s0 s : mh_H} {e : α × mh_H} (h : mh_Fr S s0 s) (h2 : mh_FrP S' s e) (hs : mh_lsub S' S = true) : mh_FrP S s0 e := ⟨mh_F_tl h.1 h2.1 hs, h2.2⟩
theorem mh_I_p3 {B D : Int} {s : mh_H} (h : mh_I B D s) : mh_p3 s := h.2.1.2
end
section
theorem fq_within (s : mh_H) (a b : Int32) : ((f_eX9_isWithin s a b).toInt = 0) ↔ ¬ (0 ≤ a.toInt ∧ a.toInt ≤ b.toInt) := by
  unfold f_eX9_isWithin
  have h0 := kc_0; have h1 := kc_1
  split
  · omega
  · split <;> omega
theorem fq_lies (s : mh_H) (a b c : Int64) : ((f_eX10_lies s a b c).toInt = 0) ↔ ¬ (b.toInt ≤ a.toInt ∧ a.toInt ≤ c.toInt) := by
  unfold f_eX10_lies
  simp only [mh_lbE]
  have h0 := kc_0; have h1 := kc_1
  obtain ⟨a1, a2, a3, a4⟩ := mh_lc (x := a) (y := b) rfl
  obtain ⟨b1, b2, b3, b4⟩ := mh_lc (x := a) (y := c) rfl
  split
  · omega
  · split <;> omega
theorem fq_evening (s : mh_H) (a b c : Int32) : ((f_eX9_isEvening s a b c).toInt = 0) ↔ ¬ ((0 ≤ a.toInt ∧ a.toInt ≤ 99) ∧ (0 ≤ b.toInt ∧ b.toInt ≤ 99) ∧ (0 ≤ c.toInt ∧ c.toInt ≤ 99)) := by
  unfold f_eX9_isEvening
  simp only [mh_lbE, fq_within]
  have h0 := kc_0; have h1 := kc_1; have h9 : (99 : Int32).toInt = 99 := rfl
  rw [h9]
  split
  · omega
  · split
    · omega
    · split <;> omega
theorem fq_prices (s : mh_H) (a b : Int32) : ((f_eX9_arePrices s a b).toInt = 0) ↔ ¬ ((0 ≤ a.toInt ∧ a.toInt ≤ 999) ∧ (0 ≤ b.toInt ∧ b.toInt ≤ 999)) := by
  unfold f_eX9_arePrices
  simp only [mh_lbE, fq_within]
  have h0 := kc_0; have h1 := kc_1; have h9 : (999 : Int32).toInt = 999 := rfl
  rw [h9]
  split
  · omega
  · split <;> omega
theorem fq_price (s : mh_H) (a : Int32) : ((f_eX10_isPrice s a).toInt = 0) ↔ ¬ (0 ≤ a.toInt ∧ a.toInt ≤ 999) := by
  unfold f_eX10_isPrice
  simp only [mh_lbE, fq_lies, Int32.toInt_toInt64]
  have h0 : (0 : Int64).toInt = 0 := rfl
  have h9 : (999 : Int64).toInt = 999 := rfl
  rw [h0, h9]
/-- the nights that were: class and reference alike -/
def rl_N (σ : mh_H) : Prop := σ.1 29 5 = σ.1 57 58 ∧ mh_r (σ.1 29 5) 0 60 ∧ ∀ j : Nat, j < 60 → (σ.1 30 j = σ.1 97 (3 * j) ∧ σ.1 31 j = σ.1 97 (3 * j + 1) ∧ σ.1 32 j = σ.1 97 (3 * j + 2) ∧ σ.1 33 j = σ.1 98 j ∧ σ.1 34 j = σ.1 99 j) ∧ (mh_r (σ.1 30 j) 0 99 ∧ mh_r (σ.1 31 j) 0 99 ∧ mh_r (σ.1 32 j) 0 99 ∧ mh_r (σ.1 33 j) 0 99 ∧ mh_r (σ.1 34 j) 0 999)
theorem nn_ix {x c : Int32} (hx : 0 ≤ x.toInt ∧ x.toInt ≤ 59) (hc : 0 ≤ c.toInt ∧ c.toInt ≤ 2) : ((3 : Int32) * x + c).toNatClampNeg = 3 * x.toNatClampNeg + c.toInt.toNat := by
  have h3 : (3 : Int32).toInt = 3 := rfl
  have e1 : ((3 : Int32) * x).toInt = 3 * x.toInt := by rw [mh_mul (lo := 0) (hi := 177) (by rw [h3]; omega) (by decide), h3]
  have e2 : ((3 : Int32) * x + c).toInt = 3 * x.toInt + c.toInt := by rw [mh_add (lo := 0) (hi := 179) (by rw [e1]; omega) (by decide), e1]
  show ((3 : Int32) * x + c).toInt.toNat = 3 * x.toInt.toNat + c.toInt.toNat
  omega
theorem nn_ix0 {x : Int32} (hx : 0 ≤ x.toInt ∧ x.toInt ≤ 59) : ((3 : Int32) * x).toNatClampNeg = 3 * x.toNatClampNeg := by
  have h3 : (3 : Int32).toInt = 3 := rfl
  have e1 : ((3 : Int32) * x).toInt = 3 * x.toInt := by rw [mh_mul (lo := 0) (hi := 177) (by rw [h3]; omega) (by decide), h3]
  show ((3 : Int32) * x).toInt.toNat = 3 * x.toInt.toNat
  omega
theorem nn_inc {x : Int32} {m : Int} (h0 : 0 ≤ x.toInt) (h1 : x.toInt ≤ m) (hm : m ≤ 2147483646) : (x + 1).toInt = x.toInt + 1 := by
  have h2 := kc_1
  rw [mh_add (lo := 0) (hi := 2147483647) (by omega) (by decide), h2]
theorem ev_eq {s : mh_H} (h : rl_N s) {x p : Int32} (hx : 0 ≤ x.toInt ∧ x.toInt ≤ 59) (hp : 0 ≤ p.toInt ∧ p.toInt ≤ 2) : f_eX3_eveningNumber s x p = s.1 97 ((3 : Int32) * x + p).toNatClampNeg := by
  rw [nn_ix hx hp]
  obtain ⟨⟨q1, q2, q3, q4, q5⟩, -⟩ := h.2.2 x.toNatClampNeg (by show x.toInt.toNat < 60; omega)
  unfold f_eX3_eveningNumber
  simp only [mh_lbE]
  have h1 := kc_1
  split
  · rw [q1]; exact congrArg (s.1 97) (by omega)
  · split
    · rw [q2]; exact congrArg (s.1 97) (by omega)
    · rw [q3]; exact congrArg (s.1 97) (by omega)
theorem lc_loop {s : mh_H} (h : rl_N s) (p1 p2 p3 p4 : Int32) (hp : 0 ≤ p1.toInt ∧ p1.toInt ≤ 2) : ∀ (n : Nat) (x a : Int32), 0 ≤ x.toInt → x.toInt ≤ 60 → l_eX3_lineCost_6_1 s p1 p2 p3 p4 n x a = l_eX10_costOf_6_1 s p1 p2 p3 p4 n x a := by
  intro n
  induction n with
  | zero => intros; rfl
  | succ n ih =>
    intro x a h0 h1
    rw [l_eX3_lineCost_6_1_s, l_eX10_costOf_6_1_s]
    unfold ls_eX3_lineCost_6_1 ls_eX10_costOf_6_1
    simp only [mh_lbE]
    have hr := h.2.1.2
    rw [h.1] at hr
    rw [h.1]
    by_cases hc : x.toInt < (s.1 57 58).toInt
    · have hx : 0 ≤ x.toInt ∧ x.toInt ≤ 59 := by omega
      rw [if_pos hc, if_pos hc, ← ev_eq h hx hp]
      have hn := nn_inc h0 h1 (by decide)
      have ih2 : ∀ a, l_eX3_lineCost_6_1 s p1 p2 p3 p4 n (x + 1) a = l_eX10_costOf_6_1 s p1 p2 p3 p4 n (x + 1) a := fun a => ih (x + 1) a (by omega) (by omega)
      generalize f_eX3_eveningNumber s x p1 = v
      have q4 := (h.2.2 x.toNatClampNeg (by show x.toInt.toNat < 60; omega)).1.2.2.2.1
      simp only [j_eX3_lineCost_38_2, j_eX10_costOf_35_2, j_eX10_costOf_54_3, j_eX10_costOf_70_5, j_eX10_costOf_73_4, f_eX3_cost, j_eX3_cost_14_1, mh_lbE, q4, ih2]
      by_cases c1 : v.toInt < p2.toInt <;> by_cases c2 : 0 < (s.1 98 x.toNatClampNeg).toInt <;> simp [c1, c2, kc_0, kc_1]
    · rw [if_neg hc, if_neg hc]
theorem lc_eq {s : mh_H} (h : rl_N s) (p1 p2 p3 p4 : Int32) (hp : 0 ≤ p1.toInt ∧ p1.toInt ≤ 2) : f_eX3_lineCost s p1 p2 p3 p4 = f_eX10_costOf s p1 p2 p3 p4 := lc_loop h p1 p2 p3 p4 hp 61 0 0 (by decide) (by decide)
theorem lc_bd {s : mh_H} (h : rl_N s) (p1 p2 p3 p4 : Int32) (h3 : 0 ≤ p3.toInt ∧ p3.toInt ≤ 999) (h4 : 0 ≤ p4.toInt ∧ p4.toInt ≤ 999) : ∀ (n : Nat) (x a : Int32), 0 ≤ x.toInt → x.toInt ≤ 60 → 0 ≤ a.toInt → a.toInt ≤ 999 * x.toInt → 0 ≤ (l_eX10_costOf_6_1 s p1 p2 p3 p4 n x a).toInt ∧ (l_eX10_costOf_6_1 s p1 p2 p3 p4 n x a).toInt ≤ 59940 := by
  intro n
  induction n with
  | zero => intro x a _ _ _ _; exact (show 0 ≤ (0 : Int32).toInt ∧ (0 : Int32).toInt ≤ 59940 by decide)
  | succ n ih =>
    intro x a h0 h1 g0 g1
    rw [l_eX10_costOf_6_1_s]
    unfold ls_eX10_costOf_6_1
    simp only [mh_lbE]
    have hr := h.2.1.2
    rw [h.1] at hr
    by_cases hc : x.toInt < (s.1 57 58).toInt
    · rw [if_pos hc]
      have hn := nn_inc h0 h1 (by decide)
      have k0 := ih (x + 1) a (by omega) (by omega) g0 (by omega)
      have e3 : (a + p3).toInt = a.toInt + p3.toInt := mh_add (lo := 0) (hi := 100000) (by omega) (by decide)
      have e4 : (a + p4).toInt = a.toInt + p4.toInt := mh_add (lo := 0) (hi := 100000) (by omega) (by decide)
      have k3 := ih (x + 1) (a + p3) (by omega) (by omega) (by omega) (by omega)
      have k4 := ih (x + 1) (a + p4) (by omega) (by omega) (by omega) (by omega)
      simp only [j_eX10_costOf_35_2, j_eX10_costOf_54_3, j_eX10_costOf_70_5, j_eX10_costOf_73_4, mh_lbE]
      repeat' split
      all_goals first | exact k0 | exact k3 | exact k4
    · rw [if_neg hc]; omega
theorem lc_lt {s : mh_H} (h : rl_N s) (p1 p2 p3 p4 : Int32) (h3 : 0 ≤ p3.toInt ∧ p3.toInt ≤ 999) (h4 : 0 ≤ p4.toInt ∧ p4.toInt ≤ 999) : (f_eX10_costOf s p1 p2 p3 p4).toInt < (2147483647 : Int32).toInt := by
  have h9 : (2147483647 : Int32).toInt = 2147483647 := rfl
  have := (lc_bd h p1 p2 p3 p4 h3 h4 61 0 0 (by decide) (by decide) (by decide) (by decide)).2
  rw [h9]
  unfold f_eX10_costOf
  omega
theorem bl_loop {s : mh_H} (h : rl_N s) (p1 p2 p3 : Int32) (hp : 0 ≤ p1.toInt ∧ p1.toInt ≤ 2) : ∀ (n : Nat) (x b : Int32), 0 ≤ x.toInt → x.toInt ≤ 101 → l_eX3_bestLine_10_1 s p1 p2 p3 n x (f_eX10_costOf s p1 b p2 p3) b = l_eX10_bestLine_6_1 s p1 p2 p3 n x b := by
  intro n
  induction n with
  | zero => intros; rfl
  | succ n ih =>
    intro x b h0 h1
    rw [l_eX3_bestLine_10_1_s, l_eX10_bestLine_6_1_s]
    unfold ls_eX3_bestLine_10_1 ls_eX10_bestLine_6_1
    have h9 : (100 : Int32).toInt = 100 := rfl
    by_cases hc : (100 : Int32).toInt < x.toInt
    · rw [if_pos hc, if_pos hc]
    · rw [if_neg hc, if_neg hc]
      have hn := nn_inc h0 h1 (by decide)
      simp only [mh_lbE, j_eX3_bestLine_43_2, j_eX10_bestLine_38_2, lc_eq h p1 _ p2 p3 hp]
      split
      · exact ih (x + 1) x (by omega) (by omega)
      · exact ih (x + 1) b (by omega) (by omega)
theorem bl_fst {s : mh_H} (p1 p2 p3 : Int32) (n : Nat) {c : Int32} (hl : f_eX3_lineCost s p1 0 p2 p3 = c) (hc : c.toInt < (2147483647 : Int32).toInt) : l_eX3_bestLine_10_1 s p1 p2 p3 (n + 1) 0 2147483647 0 = l_eX3_bestLine_10_1 s p1 p2 p3 n 1 c 0 := by
  rw [l_eX3_bestLine_10_1_s]
  unfold ls_eX3_bestLine_10_1
  have e01 : (0 : Int32) + 1 = 1 := rfl
  simp only [mh_lbE, j_eX3_bestLine_43_2, hl, e01]
  rw [if_neg (by decide), if_pos hc]
theorem bl_eq {s : mh_H} (h : rl_N s) (p1 p2 p3 : Int32) (hp : 0 ≤ p1.toInt ∧ p1.toInt ≤ 2) (h2 : 0 ≤ p2.toInt ∧ p2.toInt ≤ 999) (h3 : 0 ≤ p3.toInt ∧ p3.toInt ≤ 999) : f_eX3_bestLine s p1 p2 p3 = f_eX10_bestLine s p1 p2 p3 := by
  unfold f_eX3_bestLine f_eX10_bestLine
  obtain ⟨m, hm⟩ : ∃ m : Nat, m = 101 := ⟨_, rfl⟩
  rw [show (102 : Nat) = m + 1 by omega, show (101 : Nat) = m by omega, bl_fst p1 p2 p3 m (lc_eq h p1 0 p2 p3 hp) (lc_lt h p1 0 p2 p3 h2 h3)]
  exact bl_loop h p1 p2 p3 hp m 1 0 (by decide) (by decide)
theorem line_eq {s : mh_H} (h : rl_N s) (p1 p2 p3 p4 : Int32) : f_eX9_line s p1 p2 p3 p4 = f_eX10_line s p1 p2 p3 p4 := by
  unfold f_eX9_line f_eX10_line
  simp only [mh_lbE, fq_within, fq_lies, fq_prices, fq_price, Int32.toInt_toInt64]
  have a1 : (0 : Int64).toInt = 0 := rfl
  have a2 : (1 : Int64).toInt = 1 := rfl
  have a3 : (2 : Int64).toInt = 2 := rfl
  have b2 := kc_1
  have b3 : (2 : Int32).toInt = 2 := rfl
  rw [a1, a2, a3, b2, b3]
  by_cases c1 : 0 ≤ p1.toInt ∧ p1.toInt ≤ 2
  · by_cases c2 : 0 ≤ p2.toInt ∧ p2.toInt ≤ 999
    · by_cases c3 : 0 ≤ p3.toInt ∧ p3.toInt ≤ 999
      · by_cases c4 : 0 ≤ p4.toInt ∧ p4.toInt ≤ 1
        · simp only [c1, c2, c3, c4, and_self, not_true_eq_false, if_false]
          rw [bl_eq h p1 p2 p3 c1 c2 c3, lc_eq h p1 _ p2 p3 c1]
          by_cases c5 : p4.toInt = 0
          · rw [if_pos c5, if_neg (by omega)]
          · rw [if_neg c5, if_pos (by omega)]
        · simp only [c1, c2, c3, c4, and_self, and_true, true_and, false_and, and_false, not_true_eq_false, not_false_eq_true, if_false, if_true]
      · simp only [c1, c2, c3, and_self, and_true, true_and, false_and, and_false, not_true_eq_false, not_false_eq_true, if_false, if_true]
    · simp only [c1, c2, and_self, and_true, true_and, false_and, and_false, not_true_eq_false, not_false_eq_true, if_false, if_true]
  · simp only [c1, not_false_eq_true, if_true]
theorem te_loop {s : mh_H} (h : rl_N s) (p1 p2 : Int32) (h1 : 0 ≤ p1.toInt ∧ p1.toInt ≤ 999) (h2 : 0 ≤ p2.toInt ∧ p2.toInt ≤ 999) : ∀ (n : Nat) (x b : Int32), 0 ≤ x.toInt → x.toInt ≤ 3 → 0 ≤ b.toInt → b.toInt ≤ 2 → l_eX9_tells_20_1 s p1 p2 n x (f_eX10_costOf s b (f_eX10_bestLine s b p1 p2) p1 p2) b = l_eX10_tells_21_1 s p1 p2 n x b := by
  intro n
  induction n with
  | zero => intros; rfl
  | succ n ih =>
    intro x b h0 hx hb hb2
    rw [l_eX9_tells_20_1_s, l_eX10_tells_21_1_s]
    unfold ls_eX9_tells_20_1 ls_eX10_tells_21_1
    have h9 : (3 : Int32).toInt = 3 := rfl
    by_cases hc : x.toInt < (3 : Int32).toInt
    · rw [if_pos hc, if_pos hc]
      have hn := nn_inc h0 hx (by decide)
      simp only [mh_lbE, j_eX9_tells_64_2, j_eX10_tells_63_2, bl_eq h x p1 p2 ⟨h0, by omega⟩ h1 h2, lc_eq h x _ p1 p2 ⟨h0, by omega⟩]
      split
      · exact ih (x + 1) x (by omega) (by omega) h0 (by omega)
      · exact ih (x + 1) b (by omega) (by omega) hb hb2
    · rw [if_neg hc, if_neg hc]
theorem te_fst {s : mh_H} (p1 p2 : Int32) (n : Nat) {c : Int32} (hl : f_eX3_lineCost s 0 (f_eX3_bestLine s 0 p1 p2) p1 p2 = c) (hc : c.toInt < (2147483647 : Int32).toInt) : l_eX9_tells_20_1 s p1 p2 (n + 1) 0 2147483647 0 = l_eX9_tells_20_1 s p1 p2 n 1 c 0 := by
  rw [l_eX9_tells_20_1_s]
  unfold ls_eX9_tells_20_1
  have e01 : (0 : Int32) + 1 = 1 := rfl
  simp only [mh_lbE, j_eX9_tells_64_2, hl, e01]
  rw [if_pos (by decide), if_pos hc]
theorem tells_eq {s : mh_H} (h : rl_N s) (p1 p2 : Int32) : f_eX9_tells s p1 p2 = f_eX10_tells s p1 p2 := by
  unfold f_eX9_tells f_eX10_tells
  simp only [mh_lbE, fq_prices, fq_price]
  by_cases c1 : 0 ≤ p1.toInt ∧ p1.toInt ≤ 999
  · by_cases c2 : 0 ≤ p2.toInt ∧ p2.toInt ≤ 999
    · simp only [c1, c2, and_self, not_true_eq_false, if_false]
      obtain ⟨m, hm⟩ : ∃ m : Nat, m = 3 := ⟨_, rfl⟩
      rw [show (4 : Nat) = m + 1 by omega, show (3 : Nat) = m by omega, te_fst p1 p2 m (by rw [bl_eq h 0 p1 p2 (by decide) c1 c2]; exact lc_eq h 0 _ p1 p2 (by decide)) (lc_lt h 0 _ p1 p2 c1 c2)]
      exact te_loop h p1 p2 c1 c2 m 1 0 (by decide) (by decide) (by decide) (by decide)
    · simp only [c1, c2, and_self, and_true, true_and, false_and, and_false, not_true_eq_false, not_false_eq_true, if_false, if_true]
  · simp only [c1, false_and, not_false_eq_true, if_true]
end
section
theorem fr_l_eJ7_fill_re_5_1 (s0 : mh_H) (hp : mh_p3 s0) (p1 : Int32) : ∀ (n : Nat) (s208 : mh_H) (x207 : Int32), mh_Fr S_eJ7_fill_re s0 s208 → mh_Fr S_eJ7_fill_re s0 (l_eJ7_fill_re_5_1 p1 n s208 x207) := by
  have fs0 : mh_Fr S_eJ7_fill_re s0 s0 := ⟨mh_F_rf, hp⟩
  intro n
  induction n with
  | zero => intro s208 x207 fs208; exact fs208
  | succ n ih =>
    intro s208 x207 fs208
    have hlo_5_1 := ih
    rw [l_eJ7_fill_re_5_1_s]
    unfold ls_eJ7_fill_re_5_1
    exact (mh_fI (mh_fB (mh_Fr_pI fs208 (mh_si 0 rfl)) (fun s217 fs217 => (mh_fA (fun x219 => (hlo_5_1 s217 x219 fs217))))) fs208)
theorem fr_eJ7_fill_re (s0 : mh_H) (p1 : Int32) (hp : mh_p3 s0) : mh_Fr S_eJ7_fill_re s0 (f_eJ7_fill_re s0 p1) := by
  have fs0 : mh_Fr S_eJ7_fill_re s0 s0 := ⟨mh_F_rf, hp⟩
  unfold f_eJ7_fill_re
  exact (fr_l_eJ7_fill_re_5_1 s0 hp p1 401 s0 (0 : Int32) fs0)
theorem fr_l_eJ7_fill_va_5_1 (s0 : mh_H) (kl : Nat) (hkl : mh_isL kl) (hp : mh_p3 s0) (p1 : Int32) : ∀ (n : Nat) (s68 : mh_H) (x67 : Int32), mh_Fr (S_eJ7_fill_va kl) s0 s68 → mh_Fr (S_eJ7_fill_va kl) s0 (l_eJ7_fill_va_5_1 kl p1 n s68 x67) := by
  have fs0 : mh_Fr (S_eJ7_fill_va kl) s0 s0 := ⟨mh_F_rf, hp⟩
  intro n
  induction n with
  | zero => intro s68 x67 fs68; exact fs68
  | succ n ih =>
    intro s68 x67 fs68
    have hlo_5_1 := ih
    rw [l_eJ7_fill_va_5_1_s]
    unfold ls_eJ7_fill_va_5_1
    exact (mh_fI (mh_fB (mh_Fr_pI fs68 (mh_si 0 rfl)) (fun s77 fs77 => (mh_fA (fun x79 => (hlo_5_1 s77 x79 fs77))))) fs68)
theorem fr_eJ7_fill_va (s0 : mh_H) (kl : Nat) (hkl : mh_isL kl) (p1 : Int32) (hp : mh_p3 s0) : mh_Fr (S_eJ7_fill_va kl) s0 (f_eJ7_fill_va s0 kl p1) := by
  have fs0 : mh_Fr (S_eJ7_fill_va kl) s0 s0 := ⟨mh_F_rf, hp⟩
  unfold f_eJ7_fill_va
  exact (fr_l_eJ7_fill_va_5_1 s0 kl hkl hp p1 15 s0 (0 : Int32) fs0)
theorem fr_l_eJ7_fill_wa_6_1 (s0 : mh_H) (hp : mh_p3 s0) (p1 : Int64) : ∀ (n : Nat) (s124 : mh_H) (x123 : Int32), mh_Fr S_eJ7_fill_wa s0 s124 → mh_Fr S_eJ7_fill_wa s0 (l_eJ7_fill_wa_6_1 p1 n s124 x123) := by
  have fs0 : mh_Fr S_eJ7_fill_wa s0 s0 := ⟨mh_F_rf, hp⟩
  intro n
  induction n with
  | zero => intro s124 x123 fs124; exact fs124
  | succ n ih =>
    intro s124 x123 fs124
    have hlo_6_1 := ih
    rw [l_eJ7_fill_wa_6_1_s]
    unfold ls_eJ7_fill_wa_6_1
    exact (mh_fI (mh_fB (mh_Fr_pL fs124 (mh_si 0 rfl)) (fun s133 fs133 => (mh_fA (fun x135 => (hlo_6_1 s133 x135 fs133))))) fs124)
theorem fr_eJ7_fill_wa (s0 : mh_H) (p1 : Int64) (hp : mh_p3 s0) : mh_Fr S_eJ7_fill_wa s0 (f_eJ7_fill_wa s0 p1) := by
  have fs0 : mh_Fr S_eJ7_fill_wa s0 s0 := ⟨mh_F_rf, hp⟩
  unfold f_eJ7_fill_wa
  exact (fr_l_eJ7_fill_wa_6_1 s0 hp p1 128 s0 (0 : Int32) fs0)
theorem fr_eX8_copyFrom (s0 : mh_H) (kv : Nat) (hkv : mh_isV kv) (ku : Nat) (hku : mh_isV ku) (hp : mh_p3 s0) : mh_Fr (S_eX8_copyFrom kv ku) s0 (f_eX8_copyFrom s0 kv ku) := by
  have fs0 : mh_Fr (S_eX8_copyFrom kv ku) s0 s0 := ⟨mh_F_rf, hp⟩
  unfold f_eX8_copyFrom
  exact (mh_fB (mh_Fr_pA fs0 (List.mem_of_getElem? (i := 0) rfl)) (fun s23 fs23 => (mh_fB (mh_Fr_pA fs23 (List.mem_of_getElem? (i := 1) rfl)) (fun s25 fs25 => (mh_fB (mh_Fr_pA fs25 (List.mem_of_getElem? (i := 2) rfl)) (fun s27 fs27 => (mh_fB (mh_Fr_pA fs27 (List.mem_of_getElem? (i := 3) rfl)) (fun s29 fs29 => (mh_fB (mh_Fr_pA fs29 (List.mem_of_getElem? (i := 4) rfl)) (fun s31 fs31 => (mh_fA (fun x33 => (mh_fB (mh_Fr_pI fs31 (mh_sj 5 rfl)) (fun s35 fs35 => (mh_fA (fun x37 => (mh_fB (mh_Fr_pI fs35 (mh_sj 6 rfl)) (fun s39 fs39 => (mh_fA (fun x41 => (mh_fB (mh_Fr_pI fs39 (mh_sj 7 rfl)) (fun s43 fs43 => fs43))))))))))))))))))))))
theorem fr_eX8_drawWind (s0 : mh_H) (kv : Nat) (hkv : mh_isV kv) (hp : mh_p3 s0) : mh_Fr (S_eX8_drawWind kv) s0 (f_eX8_drawWind s0 kv) := by
  have fs0 : mh_Fr (S_eX8_drawWind kv) s0 s0 := ⟨mh_F_rf, hp⟩
  unfold f_eX8_drawWind
  exact (mh_fA (fun x25 => (mh_fA (fun x27 => (mh_fA (fun x29 => (mh_fA (fun x31 => (mh_fB (mh_Fr_pI fs0 (mh_sj 0 rfl)) (fun s33 fs33 => (mh_fA (fun x35 => (mh_fA (fun x37 => (mh_fI fs33 (mh_fA (fun x46 => (mh_fB (mh_Fr_pI fs33 (mh_si 1 rfl)) (fun s48 fs48 => fs48)))))))))))))))))))
theorem fr_j_eX1_see_116_1 (s0 : mh_H) (kv : Nat) (hkv : mh_isV kv) (kl : Nat) (hkl : mh_isL kl) (hp : mh_p3 s0) (s91 : mh_H) (x99 : Int32) (fs91 : mh_Fr (S_eX1_see kv kl) s0 s91) : mh_Fr (S_eX1_see kv kl) s0 (j_eX1_see_116_1 s91 kl x99) := by
  have fs0 : mh_Fr (S_eX1_see kv kl) s0 s0 := ⟨mh_F_rf, hp⟩
  unfold j_eX1_see_116_1
  exact (mh_fB (mh_Fr_pI fs91 (mh_si 0 rfl)) (fun s110 fs110 => (mh_fB (mh_Fr_pI fs110 (mh_si 0 rfl)) (fun s112 fs112 => (mh_fB (mh_Fr_pI fs112 (mh_si 0 rfl)) (fun s114 fs114 => (mh_fB (mh_Fr_pI fs114 (mh_si 0 rfl)) (fun s116 fs116 => (mh_fB (mh_Fr_pI fs116 (mh_si 0 rfl)) (fun s118 fs118 => fs118))))))))))
theorem fr_eX1_see (s0 : mh_H) (kv : Nat) (hkv : mh_isV kv) (kl : Nat) (hkl : mh_isL kl) (p2 : Int32) (hp : mh_p3 s0) : mh_Fr (S_eX1_see kv kl) s0 (f_eX1_see s0 kv kl p2) := by
  have fs0 : mh_Fr (S_eX1_see kv kl) s0 s0 := ⟨mh_F_rf, hp⟩
  unfold f_eX1_see
  exact (mh_fA (fun x55 => (mh_fB (mh_Fr_pI fs0 (mh_si 0 rfl)) (fun s57 fs57 => (mh_fA (fun x59 => (mh_fB (mh_Fr_pI fs57 (mh_si 0 rfl)) (fun s61 fs61 => (mh_fA (fun x63 => (mh_fB (mh_Fr_pI fs61 (mh_si 0 rfl)) (fun s65 fs65 => (mh_fA (fun x70 => (mh_fB (mh_Fr_pI fs65 (mh_si 0 rfl)) (fun s73 fs73 => (mh_fA (fun x75 => (mh_fB (mh_Fr_pI fs73 (mh_si 0 rfl)) (fun s77 fs77 => (mh_fA (fun x79 => (mh_fB (mh_Fr_pI fs77 (mh_si 0 rfl)) (fun s81 fs81 => (mh_fA (fun x83 => (mh_fB (mh_Fr_pI fs81 (mh_si 0 rfl)) (fun s86 fs86 => (mh_fA (fun x88 => (mh_fB (mh_Fr_pI fs86 (mh_si 0 rfl)) (fun s91 fs91 => (mh_fA (fun x93 => (mh_fI (fr_j_eX1_see_116_1 s0 kv hkv kl hkl hp s91 (0 : Int32) fs91) (mh_fA (fun x121 => (fr_j_eX1_see_116_1 s0 kv hkv kl hkl hp s91 x121 fs91))))))))))))))))))))))))))))))))))))))
theorem fr_j_eX1_run_343_2 (s0 : mh_H) (kl : Nat) (hkl : mh_isL kl) (hp : mh_p3 s0) (s6627 : mh_H) (x6626 : Int32) (fs6627 : mh_Fr (S_eX1_run kl) s0 s6627) : mh_FrP (S_eX1_run kl) s0 (j_eX1_run_343_2 s6627 kl x6626) := by
  have fs0 : mh_Fr (S_eX1_run kl) s0 s0 := ⟨mh_F_rf, hp⟩
  unfold j_eX1_run_343_2
  exact (mh_fI fs6627 (mh_fA (fun x6836 => (mh_fA (fun x6838 => fs6627)))))
theorem fr_j_eX1_run_337_4 (s0 : mh_H) (kl : Nat) (hkl : mh_isL kl) (hp : mh_p3 s0) (lo_21_1 : mh_H → Int32 → Int32 → Int32 → Int32 × mh_H) (s7023 : mh_H) (x6624 : Int32) (x7021 : Int32) (x7022 : Int32) (hlo_21_1 : ∀ (s6627 : mh_H) (x6624 : Int32) (x6625 : Int32) (x6626 : Int32), mh_Fr (S_eX1_run kl) s0 s6627 → mh_FrP (S_eX1_run kl) s0 (lo_21_1 s6627 x6624 x6625 x6626)) (fs7023 : mh_Fr (S_eX1_run kl) s0 s7023) : mh_FrP (S_eX1_run kl) s0 (j_eX1_run_337_4 lo_21_1 s7023 x6624 x7021 x7022) := by
  have fs0 : mh_Fr (S_eX1_run kl) s0 s0 := ⟨mh_F_rf, hp⟩
  unfold j_eX1_run_337_4
  exact (mh_fA (fun x7026 => (hlo_21_1 s7023 x7026 x7021 x7022 fs7023)))
theorem fr_j_eX1_run_228_10 (s0 : mh_H) (kl : Nat) (hkl : mh_isL kl) (hp : mh_p3 s0) (lo_21_1 : mh_H → Int32 → Int32 → Int32 → Int32 × mh_H) (s6627 : mh_H) (x6624 : Int32) (x6626 : Int32) (x7153 : Int32) (x7159 : Int32) (hlo_21_1 : ∀ (s6627 : mh_H) (x6624 : Int32) (x6625 : Int32) (x6626 : Int32), mh_Fr (S_eX1_run kl) s0 s6627 → mh_FrP (S_eX1_run kl) s0 (lo_21_1 s6627 x6624 x6625 x6626)) (fs6627 : mh_Fr (S_eX1_run kl) s0 s6627) : mh_FrP (S_eX1_run kl) s0 (j_eX1_run_228_10 lo_21_1 s6627 x6624 x6626 x7153 x7159) := by
  have fs0 : mh_Fr (S_eX1_run kl) s0 s0 := ⟨mh_F_rf, hp⟩
  unfold j_eX1_run_228_10
  exact (mh_fA (fun x7162 => (fr_j_eX1_run_337_4 s0 kl hkl hp lo_21_1 s6627 x6624 x7153 x7162 hlo_21_1 fs6627)))
theorem fr_j_eX1_run_215_9 (s0 : mh_H) (kl : Nat) (hkl : mh_isL kl) (hp : mh_p3 s0) (lo_21_1 : mh_H → Int32 → Int32 → Int32 → Int32 × mh_H) (s6627 : mh_H) (x6624 : Int32) (x6626 : Int32) (x7133 : Int32) (x7153 : Int32) (hlo_21_1 : ∀ (s6627 : mh_H) (x6624 : Int32) (x6625 : Int32) (x6626 : Int32), mh_Fr (S_eX1_run kl) s0 s6627 → mh_FrP (S_eX1_run kl) s0 (lo_21_1 s6627 x6624 x6625 x6626)) (fs6627 : mh_Fr (S_eX1_run kl) s0 s6627) : mh_FrP (S_eX1_run kl) s0 (j_eX1_run_215_9 lo_21_1 s6627 x6624 x6626 x7133 x7153) := by
  have fs0 : mh_Fr (S_eX1_run kl) s0 s0 := ⟨mh_F_rf, hp⟩
  unfold j_eX1_run_215_9
  exact (mh_fI (fr_j_eX1_run_228_10 s0 kl hkl hp lo_21_1 s6627 x6624 x6626 x7153 (1 : Int32) hlo_21_1 fs6627) (fr_j_eX1_run_228_10 s0 kl hkl hp lo_21_1 s6627 x6624 x6626 x7153 (0 : Int32) hlo_21_1 fs6627))
theorem fr_j_eX1_run_192_8 (s0 : mh_H) (kl : Nat) (hkl : mh_isL kl) (hp : mh_p3 s0) (lo_21_1 : mh_H → Int32 → Int32 → Int32 → Int32 × mh_H) (s6627 : mh_H) (x6624 : Int32) (x6625 : Int32) (x6626 : Int32) (x6851 : Int32) (x7133 : Int32) (hlo_21_1 : ∀ (s6627 : mh_H) (x6624 : Int32) (x6625 : Int32) (x6626 : Int32), mh_Fr (S_eX1_run kl) s0 s6627 → mh_FrP (S_eX1_run kl) s0 (lo_21_1 s6627 x6624 x6625 x6626)) (fs6627 : mh_Fr (S_eX1_run kl) s0 s6627) : mh_FrP (S_eX1_run kl) s0 (j_eX1_run_192_8 lo_21_1 s6627 x6624 x6625 x6626 x6851 x7133) := by
  have fs0 : mh_Fr (S_eX1_run kl) s0 s0 := ⟨mh_F_rf, hp⟩
  unfold j_eX1_run_192_8
  exact (mh_fI (mh_fA (fun x7166 => (fr_j_eX1_run_215_9 s0 kl hkl hp lo_21_1 s6627 x6624 x6626 x7133 x7166 hlo_21_1 fs6627))) (mh_fA (fun x7168 => (mh_fA (fun x7170 => (fr_j_eX1_run_215_9 s0 kl hkl hp lo_21_1 s6627 x6624 x6626 x7133 x7170 hlo_21_1 fs6627))))))
theorem fr_j_eX1_run_184_7 (s0 : mh_H) (kl : Nat) (hkl : mh_isL kl) (hp : mh_p3 s0) (lo_21_1 : mh_H → Int32 → Int32 → Int32 → Int32 × mh_H) (s6627 : mh_H) (x6624 : Int32) (x6625 : Int32) (x6626 : Int32) (x6851 : Int32) (x7099 : Int32) (x7117 : Int32) (hlo_21_1 : ∀ (s6627 : mh_H) (x6624 : Int32) (x6625 : Int32) (x6626 : Int32), mh_Fr (S_eX1_run kl) s0 s6627 → mh_FrP (S_eX1_run kl) s0 (lo_21_1 s6627 x6624 x6625 x6626)) (fs6627 : mh_Fr (S_eX1_run kl) s0 s6627) : mh_FrP (S_eX1_run kl) s0 (j_eX1_run_184_7 lo_21_1 s6627 x6624 x6625 x6626 x6851 x7099 x7117) := by
  have fs0 : mh_Fr (S_eX1_run kl) s0 s0 := ⟨mh_F_rf, hp⟩
  unfold j_eX1_run_184_7
  exact (mh_fI (fr_j_eX1_run_192_8 s0 kl hkl hp lo_21_1 s6627 x6624 x6625 x6626 x6851 (1 : Int32) hlo_21_1 fs6627) (fr_j_eX1_run_192_8 s0 kl hkl hp lo_21_1 s6627 x6624 x6625 x6626 x6851 (0 : Int32) hlo_21_1 fs6627))
theorem fr_j_eX1_run_172_6 (s0 : mh_H) (kl : Nat) (hkl : mh_isL kl) (hp : mh_p3 s0) (lo_21_1 : mh_H → Int32 → Int32 → Int32 → Int32 × mh_H) (s6627 : mh_H) (x6624 : Int32) (x6625 : Int32) (x6626 : Int32) (x6842 : Int32) (x6851 : Int32) (x7099 : Int32) (hlo_21_1 : ∀ (s6627 : mh_H) (x6624 : Int32) (x6625 : Int32) (x6626 : Int32), mh_Fr (S_eX1_run kl) s0 s6627 → mh_FrP (S_eX1_run kl) s0 (lo_21_1 s6627 x6624 x6625 x6626)) (fs6627 : mh_Fr (S_eX1_run kl) s0 s6627) : mh_FrP (S_eX1_run kl) s0 (j_eX1_run_172_6 lo_21_1 s6627 x6624 x6625 x6626 x6842 x6851 x7099) := by
  have fs0 : mh_Fr (S_eX1_run kl) s0 s0 := ⟨mh_F_rf, hp⟩
  unfold j_eX1_run_172_6
  exact (mh_fI (fr_j_eX1_run_184_7 s0 kl hkl hp lo_21_1 s6627 x6624 x6625 x6626 x6851 x7099 (1 : Int32) hlo_21_1 fs6627) (fr_j_eX1_run_184_7 s0 kl hkl hp lo_21_1 s6627 x6624 x6625 x6626 x6851 x7099 (0 : Int32) hlo_21_1 fs6627))
theorem fr_j_eX1_run_156_5 (s0 : mh_H) (kl : Nat) (hkl : mh_isL kl) (hp : mh_p3 s0) (lo_21_1 : mh_H → Int32 → Int32 → Int32 → Int32 × mh_H) (s6627 : mh_H) (x6624 : Int32) (x6625 : Int32) (x6626 : Int32) (x6842 : Int32) (x6851 : Int32) (hlo_21_1 : ∀ (s6627 : mh_H) (x6624 : Int32) (x6625 : Int32) (x6626 : Int32), mh_Fr (S_eX1_run kl) s0 s6627 → mh_FrP (S_eX1_run kl) s0 (lo_21_1 s6627 x6624 x6625 x6626)) (fs6627 : mh_Fr (S_eX1_run kl) s0 s6627) : mh_FrP (S_eX1_run kl) s0 (j_eX1_run_156_5 lo_21_1 s6627 kl x6624 x6625 x6626 x6842 x6851) := by
  have fs0 : mh_Fr (S_eX1_run kl) s0 s0 := ⟨mh_F_rf, hp⟩
  unfold j_eX1_run_156_5
  exact (mh_fA (fun x7094 => (mh_fA (fun x7096 => (mh_fI (fr_j_eX1_run_172_6 s0 kl hkl hp lo_21_1 s6627 x6624 x6625 x6626 x6842 x6851 (0 : Int32) hlo_21_1 fs6627) (fr_j_eX1_run_172_6 s0 kl hkl hp lo_21_1 s6627 x6624 x6625 x6626 x6842 x6851 (1 : Int32) hlo_21_1 fs6627))))))
theorem fr_j_eX1_run_302_11 (s0 : mh_H) (kl : Nat) (hkl : mh_isL kl) (hp : mh_p3 s0) (lo_21_1 : mh_H → Int32 → Int32 → Int32 → Int32 × mh_H) (s6627 : mh_H) (x6624 : Int32) (x6625 : Int32) (x6626 : Int32) (x6842 : Int32) (x7181 : Int32) (hlo_21_1 : ∀ (s6627 : mh_H) (x6624 : Int32) (x6625 : Int32) (x6626 : Int32), mh_Fr (S_eX1_run kl) s0 s6627 → mh_FrP (S_eX1_run kl) s0 (lo_21_1 s6627 x6624 x6625 x6626)) (fs6627 : mh_Fr (S_eX1_run kl) s0 s6627) : mh_FrP (S_eX1_run kl) s0 (j_eX1_run_302_11 lo_21_1 s6627 kl x6624 x6625 x6626 x6842 x7181) := by
  have fs0 : mh_Fr (S_eX1_run kl) s0 s0 := ⟨mh_F_rf, hp⟩
  unfold j_eX1_run_302_11
  exact (mh_fA (fun x7205 => (mh_fA (fun x7209 => (mh_fA (fun x7215 => (mh_fB (mh_Fr_pI fs6627 (mh_si 0 rfl)) (fun s7218 fs7218 => (mh_fA (fun x7220 => (mh_fA (fun x7222 => (fr_j_eX1_run_337_4 s0 kl hkl hp lo_21_1 s7218 x6624 x7222 x7220 hlo_21_1 fs7218)))))))))))))
theorem fr_j_eX1_run_263_12 (s0 : mh_H) (kl : Nat) (hkl : mh_isL kl) (hp : mh_p3 s0) (lo_21_1 : mh_H → Int32 → Int32 → Int32 → Int32 × mh_H) (s6627 : mh_H) (x6624 : Int32) (x6625 : Int32) (x6626 : Int32) (x7227 : Int32) (x7234 : Int32) (hlo_21_1 : ∀ (s6627 : mh_H) (x6624 : Int32) (x6625 : Int32) (x6626 : Int32), mh_Fr (S_eX1_run kl) s0 s6627 → mh_FrP (S_eX1_run kl) s0 (lo_21_1 s6627 x6624 x6625 x6626)) (fs6627 : mh_Fr (S_eX1_run kl) s0 s6627) : mh_FrP (S_eX1_run kl) s0 (j_eX1_run_263_12 lo_21_1 s6627 kl x6624 x6625 x6626 x7227 x7234) := by
  have fs0 : mh_Fr (S_eX1_run kl) s0 s0 := ⟨mh_F_rf, hp⟩
  unfold j_eX1_run_263_12
  exact (mh_fB (mh_Fr_pI fs6627 (mh_si 0 rfl)) (fun s7239 fs7239 => (mh_fA (fun x7241 => (fr_j_eX1_run_337_4 s0 kl hkl hp lo_21_1 s7239 x6624 x7241 x6626 hlo_21_1 fs7239)))))
theorem fr_j_eX1_run_129_14 (s0 : mh_H) (kl : Nat) (hkl : mh_isL kl) (hp : mh_p3 s0) (lo_21_1 : mh_H → Int32 → Int32 → Int32 → Int32 × mh_H) (s7257 : mh_H) (x6624 : Int32) (x6625 : Int32) (x7259 : Int32) (x7262 : Int32) (hlo_21_1 : ∀ (s6627 : mh_H) (x6624 : Int32) (x6625 : Int32) (x6626 : Int32), mh_Fr (S_eX1_run kl) s0 s6627 → mh_FrP (S_eX1_run kl) s0 (lo_21_1 s6627 x6624 x6625 x6626)) (fs7257 : mh_Fr (S_eX1_run kl) s0 s7257) : mh_FrP (S_eX1_run kl) s0 (j_eX1_run_129_14 lo_21_1 s7257 x6624 x6625 x7259 x7262) := by
  have fs0 : mh_Fr (S_eX1_run kl) s0 s0 := ⟨mh_F_rf, hp⟩
  unfold j_eX1_run_129_14
  exact (mh_fA (fun x7265 => (fr_j_eX1_run_337_4 s0 kl hkl hp lo_21_1 s7257 x6624 x7265 x7259 hlo_21_1 fs7257)))
theorem fr_j_eX1_run_111_13 (s0 : mh_H) (kl : Nat) (hkl : mh_isL kl) (hp : mh_p3 s0) (lo_21_1 : mh_H → Int32 → Int32 → Int32 → Int32 × mh_H) (s6627 : mh_H) (x6624 : Int32) (x6625 : Int32) (x6626 : Int32) (x6842 : Int32) (x7248 : Int32) (hlo_21_1 : ∀ (s6627 : mh_H) (x6624 : Int32) (x6625 : Int32) (x6626 : Int32), mh_Fr (S_eX1_run kl) s0 s6627 → mh_FrP (S_eX1_run kl) s0 (lo_21_1 s6627 x6624 x6625 x6626)) (fs6627 : mh_Fr (S_eX1_run kl) s0 s6627) : mh_FrP (S_eX1_run kl) s0 (j_eX1_run_111_13 lo_21_1 s6627 kl x6624 x6625 x6626 x6842 x7248) := by
  have fs0 : mh_Fr (S_eX1_run kl) s0 s0 := ⟨mh_F_rf, hp⟩
  unfold j_eX1_run_111_13
  exact (mh_fB (mh_Fr_pI fs6627 (mh_si 0 rfl)) (fun s7257 fs7257 => (mh_fA (fun x7259 => (mh_fI (fr_j_eX1_run_129_14 s0 kl hkl hp lo_21_1 s7257 x6624 x6625 x7259 (2 : Int32) hlo_21_1 fs7257) (fr_j_eX1_run_129_14 s0 kl hkl hp lo_21_1 s7257 x6624 x6625 x7259 (1 : Int32) hlo_21_1 fs7257))))))
theorem fr_j_eX1_run_67_3 (s0 : mh_H) (kl : Nat) (hkl : mh_isL kl) (hp : mh_p3 s0) (lo_21_1 : mh_H → Int32 → Int32 → Int32 → Int32 × mh_H) (s6627 : mh_H) (x6624 : Int32) (x6625 : Int32) (x6626 : Int32) (x6842 : Int32) (x6851 : Int32) (hlo_21_1 : ∀ (s6627 : mh_H) (x6624 : Int32) (x6625 : Int32) (x6626 : Int32), mh_Fr (S_eX1_run kl) s0 s6627 → mh_FrP (S_eX1_run kl) s0 (lo_21_1 s6627 x6624 x6625 x6626)) (fs6627 : mh_Fr (S_eX1_run kl) s0 s6627) : mh_FrP (S_eX1_run kl) s0 (j_eX1_run_67_3 lo_21_1 s6627 kl x6624 x6625 x6626 x6842 x6851) := by
  have fs0 : mh_Fr (S_eX1_run kl) s0 s0 := ⟨mh_F_rf, hp⟩
  unfold j_eX1_run_67_3
  exact (mh_fA (fun x6939 => (mh_fI (mh_fI fs6627 (mh_fI (fr_j_eX1_run_156_5 s0 kl hkl hp lo_21_1 s6627 x6624 x6625 x6626 x6842 x6851 hlo_21_1 fs6627) (mh_fI (fr_j_eX1_run_156_5 s0 kl hkl hp lo_21_1 s6627 x6624 x6625 x6626 x6842 x6851 hlo_21_1 fs6627) (mh_fI (mh_fA (fun x7227 => (mh_fA (fun x7231 => (mh_fI (fr_j_eX1_run_263_12 s0 kl hkl hp lo_21_1 s6627 x6624 x6625 x6626 x7227 (1 : Int32) hlo_21_1 fs6627) (fr_j_eX1_run_263_12 s0 kl hkl hp lo_21_1 s6627 x6624 x6625 x6626 x7227 (0 : Int32) hlo_21_1 fs6627)))))) (mh_fI fs6627 (mh_fA (fun x7179 => (mh_fA (fun x7181 => (mh_fI (mh_fI fs6627 (mh_fI fs6627 (fr_j_eX1_run_302_11 s0 kl hkl hp lo_21_1 s6627 x6624 x6625 x6626 x6842 x7181 hlo_21_1 fs6627))) (fr_j_eX1_run_302_11 s0 kl hkl hp lo_21_1 s6627 x6624 x6625 x6626 x6842 x7181 hlo_21_1 fs6627))))))))))) (mh_fI (mh_fI (fr_j_eX1_run_111_13 s0 kl hkl hp lo_21_1 s6627 x6624 x6625 x6626 x6842 x6851 hlo_21_1 fs6627) (mh_fA (fun x7269 => (fr_j_eX1_run_111_13 s0 kl hkl hp lo_21_1 s6627 x6624 x6625 x6626 x6842 x7269 hlo_21_1 fs6627)))) fs6627))))
theorem fr_l_eX1_run_21_1 (s0 : mh_H) (kl : Nat) (hkl : mh_isL kl) (hp : mh_p3 s0) (x3420 : Int32) : ∀ (n : Nat) (s6627 : mh_H) (x6624 : Int32) (x6625 : Int32) (x6626 : Int32), mh_Fr (S_eX1_run kl) s0 s6627 → mh_FrP (S_eX1_run kl) s0 (l_eX1_run_21_1 kl x3420 n s6627 x6624 x6625 x6626) := by
  have fs0 : mh_Fr (S_eX1_run kl) s0 s0 := ⟨mh_F_rf, hp⟩
  intro n
  induction n with
  | zero => intro s6627 x6624 x6625 x6626 fs6627; exact fs6627
  | succ n ih =>
    intro s6627 x6624 x6625 x6626 fs6627
    have hlo_21_1 := ih
    rw [l_eX1_run_21_1_s]
    unfold ls_eX1_run_21_1
    exact (mh_fI (mh_fI (mh_fA (fun x6842 => (mh_fA (fun x6844 => (mh_fI (mh_fA (fun x7274 => (fr_j_eX1_run_67_3 s0 kl hkl hp (l_eX1_run_21_1 kl x3420 n) s6627 x6624 x6625 x6626 x6842 x7274 hlo_21_1 fs6627))) (fr_j_eX1_run_67_3 s0 kl hkl hp (l_eX1_run_21_1 kl x3420 n) s6627 x6624 x6625 x6626 x6842 (0 : Int32) hlo_21_1 fs6627)))))) (fr_j_eX1_run_343_2 s0 kl hkl hp s6627 x6626 fs6627)) (fr_j_eX1_run_343_2 s0 kl hkl hp s6627 x6626 fs6627))
theorem fr_eX1_run (s0 : mh_H) (kl : Nat) (hkl : mh_isL kl) (p1 : Int32) (p2 : Int32) (hp : mh_p3 s0) : mh_FrP (S_eX1_run kl) s0 (f_eX1_run s0 kl p1 p2) := by
  have fs0 : mh_Fr (S_eX1_run kl) s0 s0 := ⟨mh_F_rf, hp⟩
  unfold f_eX1_run
  exact (mh_fA (fun x3418 => (mh_fA (fun x3420 => (fr_l_eX1_run_21_1 s0 kl hkl hp x3420 401 s0 (0 : Int32) x3418 (0 : Int32) fs0)))))
theorem fr_j_eX1_worth_63_2 (s0 : mh_H) (kl : Nat) (hkl : mh_isL kl) (hp : mh_p3 s0) (lo_2_1 : mh_H → Int32 → Int32 × mh_H) (s248 : mh_H) (x200 : Int32) (hlo_2_1 : ∀ (s201 : mh_H) (x200 : Int32), mh_Fr (S_eX1_worth kl) s0 s201 → mh_FrP (S_eX1_worth kl) s0 (lo_2_1 s201 x200)) (fs248 : mh_Fr (S_eX1_worth kl) s0 s248) : mh_FrP (S_eX1_worth kl) s0 (j_eX1_worth_63_2 lo_2_1 s248 x200) := by
  have fs0 : mh_Fr (S_eX1_worth kl) s0 s0 := ⟨mh_F_rf, hp⟩
  unfold j_eX1_worth_63_2
  exact (mh_fA (fun x251 => (hlo_2_1 s248 x251 fs248)))
theorem fr_l_eX1_worth_2_1 (s0 : mh_H) (kl : Nat) (hkl : mh_isL kl) (hp : mh_p3 s0) (p1 : Int32) : ∀ (n : Nat) (s201 : mh_H) (x200 : Int32), mh_Fr (S_eX1_worth kl) s0 s201 → mh_FrP (S_eX1_worth kl) s0 (l_eX1_worth_2_1 kl p1 n s201 x200) := by
  have fs0 : mh_Fr (S_eX1_worth kl) s0 s0 := ⟨mh_F_rf, hp⟩
  intro n
  induction n with
  | zero => intro s201 x200 fs201; exact fs201
  | succ n ih =>
    intro s201 x200 fs201
    have hlo_2_1 := ih
    rw [l_eX1_worth_2_1_s]
    unfold ls_eX1_worth_2_1
    exact (mh_fA (fun x221 => (mh_fI (mh_fA (fun x224 => (mh_fI (mh_fA (fun x254 => (mh_fA (fun x256 => (mh_fC (mh_Fr_tl fs201 (fr_eX1_run s201 kl hkl x254 x256 fs201.2) (by rcases hkl with rfl | rfl <;> decide +kernel)) (fun x258 s259 fs259 => (mh_fI (fr_j_eX1_worth_63_2 s0 kl hkl hp (l_eX1_worth_2_1 kl p1 n) s259 x200 hlo_2_1 fs259) (mh_fA (fun x262 => (mh_fC (mh_Fr_tl fs259 (fr_eX1_run s259 kl hkl x262 x254 fs259.2) (by rcases hkl with rfl | rfl <;> decide +kernel)) (fun x267 s268 fs268 => (mh_fA (fun x270 => (mh_fA (fun x273 => fs268))))))))))))))) (fr_j_eX1_worth_63_2 s0 kl hkl hp (l_eX1_worth_2_1 kl p1 n) s201 x200 hlo_2_1 fs201)))) fs201)))
theorem fr_eX1_worth (s0 : mh_H) (kl : Nat) (hkl : mh_isL kl) (p1 : Int32) (hp : mh_p3 s0) : mh_FrP (S_eX1_worth kl) s0 (f_eX1_worth s0 kl p1) := by
  have fs0 : mh_Fr (S_eX1_worth kl) s0 s0 := ⟨mh_F_rf, hp⟩
  unfold f_eX1_worth
  exact (fr_l_eX1_worth_2_1 s0 kl hkl hp p1 15 s0 (0 : Int32) fs0)
theorem fr_l_eX0_comeAndDry_2_1 (s0 : mh_H) (kv : Nat) (hkv : mh_isV kv) (kl : Nat) (hkl : mh_isL kl) (hp : mh_p3 s0) : ∀ (n : Nat) (s1404 : mh_H) (x1403 : Int32), mh_Fr (S_eX0_comeAndDry kv kl) s0 s1404 → mh_Fr (S_eX0_comeAndDry kv kl) s0 (l_eX0_comeAndDry_2_1 kl kv n s1404 x1403) := by
  have fs0 : mh_Fr (S_eX0_comeAndDry kv kl) s0 s0 := ⟨mh_F_rf, hp⟩
  intro n
  induction n with
  | zero => intro s1404 x1403 fs1404; exact fs1404
  | succ n ih =>
    intro s1404 x1403 fs1404
    have hlo_2_1 := ih
    rw [l_eX0_comeAndDry_2_1_s]
    unfold ls_eX0_comeAndDry_2_1
    exact (mh_fI (mh_fB (mh_Fr_tv fs1404 (fr_eX1_see s1404 kv hkv kl hkl x1403 fs1404.2) (by rcases hkl with rfl | rfl <;> rcases hkv with rfl | rfl | rfl <;> decide +kernel)) (fun s1444 fs1444 => (mh_fC (mh_Fr_tl fs1444 (fr_eX1_worth s1444 kl hkl (99 : Int32) fs1444.2) (by rcases hkl with rfl | rfl <;> rcases hkv with rfl | rfl | rfl <;> decide +kernel)) (fun x1446 s1447 fs1447 => (mh_fC (mh_Fr_tl fs1447 (fr_eX1_worth s1447 kl hkl (119 : Int32) fs1447.2) (by rcases hkl with rfl | rfl <;> rcases hkv with rfl | rfl | rfl <;> decide +kernel)) (fun x1449 s1450 fs1450 => (mh_fC (mh_Fr_tl fs1450 (fr_eX1_worth s1450 kl hkl (115 : Int32) fs1450.2) (by rcases hkl with rfl | rfl <;> rcases hkv with rfl | rfl | rfl <;> decide +kernel)) (fun x1452 s1453 fs1453 => (mh_fA (fun x1455 => (mh_fA (fun x1457 => (mh_fA (fun x1459 => (mh_fA (fun x1461 => (mh_fB (mh_Fr_pI fs1453 (mh_si 2 rfl)) (fun s1464 fs1464 => (mh_fA (fun x1466 => (mh_fA (fun x1468 => (mh_fA (fun x1470 => (mh_fB (mh_Fr_pI fs1464 (mh_si 3 rfl)) (fun s1473 fs1473 => (mh_fA (fun x1475 => (hlo_2_1 s1473 x1475 fs1473))))))))))))))))))))))))))))) fs1404)
theorem fr_eX0_comeAndDry (s0 : mh_H) (kv : Nat) (hkv : mh_isV kv) (kl : Nat) (hkl : mh_isL kl) (hp : mh_p3 s0) : mh_Fr (S_eX0_comeAndDry kv kl) s0 (f_eX0_comeAndDry s0 kv kl) := by
  have fs0 : mh_Fr (S_eX0_comeAndDry kv kl) s0 s0 := ⟨mh_F_rf, hp⟩
  unfold f_eX0_comeAndDry
  exact (fr_l_eX0_comeAndDry_2_1 s0 kv hkv kl hkl hp 145 s0 (0 : Int32) fs0)
theorem fr_l_eX0_runDown_133_3 (s0 : mh_H) (kv : Nat) (hkv : mh_isV kv) (hp : mh_p3 s0) : ∀ (n : Nat) (s2015 : mh_H) (x2014 : Int32), mh_Fr (S_eX0_runDown kv) s0 s2015 → mh_Fr (S_eX0_runDown kv) s0 (l_eX0_runDown_133_3 kv n s2015 x2014) := by
  have fs0 : mh_Fr (S_eX0_runDown kv) s0 s0 := ⟨mh_F_rf, hp⟩
  intro n
  induction n with
  | zero => intro s2015 x2014 fs2015; exact fs2015
  | succ n ih =>
    intro s2015 x2014 fs2015
    have hlo_133_3 := ih
    rw [l_eX0_runDown_133_3_s]
    unfold ls_eX0_runDown_133_3
    exact (mh_fI (mh_fA (fun x2028 => (mh_fA (fun x2030 => (mh_fB (mh_Fr_pI fs2015 (mh_si 3 rfl)) (fun s2032 fs2032 => (mh_fA (fun x2034 => (hlo_133_3 s2032 x2034 fs2032))))))))) fs2015)
theorem fr_j_eX0_runDown_125_4 (s0 : mh_H) (kv : Nat) (hkv : mh_isV kv) (hp : mh_p3 s0) (lo_40_2 : mh_H → Int32 → mh_H) (s2075 : mh_H) (x1825 : Int32) (hlo_40_2 : ∀ (s1826 : mh_H) (x1825 : Int32), mh_Fr (S_eX0_runDown kv) s0 s1826 → mh_Fr (S_eX0_runDown kv) s0 (lo_40_2 s1826 x1825)) (fs2075 : mh_Fr (S_eX0_runDown kv) s0 s2075) : mh_Fr (S_eX0_runDown kv) s0 (j_eX0_runDown_125_4 lo_40_2 s2075 x1825) := by
  have fs0 : mh_Fr (S_eX0_runDown kv) s0 s0 := ⟨mh_F_rf, hp⟩
  unfold j_eX0_runDown_125_4
  exact (mh_fA (fun x2078 => (hlo_40_2 s2075 x2078 fs2075)))
theorem fr_l_eX0_runDown_40_2 (s0 : mh_H) (kv : Nat) (hkv : mh_isV kv) (hp : mh_p3 s0) : ∀ (n : Nat) (s1826 : mh_H) (x1825 : Int32), mh_Fr (S_eX0_runDown kv) s0 s1826 → mh_Fr (S_eX0_runDown kv) s0 (l_eX0_runDown_40_2 kv n s1826 x1825) := by
  have fs0 : mh_Fr (S_eX0_runDown kv) s0 s0 := ⟨mh_F_rf, hp⟩
  intro n
  induction n with
  | zero => intro s1826 x1825 fs1826; exact fs1826
  | succ n ih =>
    intro s1826 x1825 fs1826
    have hlo_40_2 := ih
    rw [l_eX0_runDown_40_2_s]
    unfold ls_eX0_runDown_40_2
    exact (mh_fI (mh_fA (fun x2036 => (mh_fA (fun x2039 => (mh_fA (fun x2041 => (mh_fA (fun x2043 => (mh_fI (mh_fA (fun x2081 => (mh_fA (fun x2083 => (mh_fA (fun x2085 => (mh_fA (fun x2087 => (mh_fA (fun x2090 => (mh_fA (fun x2092 => (mh_fA (fun x2094 => (mh_fB (mh_Fr_pI fs1826 (mh_si 1 rfl)) (fun s2096 fs2096 => (mh_fA (fun x2098 => (mh_fA (fun x2100 => (mh_fB (mh_Fr_pI fs2096 (mh_si 1 rfl)) (fun s2102 fs2102 => (mh_fA (fun x2104 => (mh_fA (fun x2106 => (mh_fB (mh_Fr_pI fs2102 (mh_sj 2 rfl)) (fun s2108 fs2108 => (fr_j_eX0_runDown_125_4 s0 kv hkv hp (l_eX0_runDown_40_2 kv n) s2108 x1825 hlo_40_2 fs2108))))))))))))))))))))))))))))) (fr_j_eX0_runDown_125_4 s0 kv hkv hp (l_eX0_runDown_40_2 kv n) s1826 x1825 hlo_40_2 fs1826)))))))))) (fr_l_eX0_runDown_133_3 s0 kv hkv hp 145 s1826 (0 : Int32) fs1826))
theorem fr_l_eX0_runDown_2_1 (s0 : mh_H) (kv : Nat) (hkv : mh_isV kv) (hp : mh_p3 s0) : ∀ (n : Nat) (s1226 : mh_H) (x1225 : Int32), mh_Fr (S_eX0_runDown kv) s0 s1226 → mh_Fr (S_eX0_runDown kv) s0 (l_eX0_runDown_2_1 kv n s1226 x1225) := by
  have fs0 : mh_Fr (S_eX0_runDown kv) s0 s0 := ⟨mh_F_rf, hp⟩
  intro n
  induction n with
  | zero => intro s1226 x1225 fs1226; exact fs1226
  | succ n ih =>
    intro s1226 x1225 fs1226
    have hlo_2_1 := ih
    rw [l_eX0_runDown_2_1_s]
    unfold ls_eX0_runDown_2_1
    exact (mh_fI (mh_fA (fun x2110 => (mh_fB (mh_Fr_pI fs1226 (mh_si 0 rfl)) (fun s2113 fs2113 => (mh_fA (fun x2115 => (mh_fB (mh_Fr_pI fs2113 (mh_si 1 rfl)) (fun s2117 fs2117 => (mh_fA (fun x2119 => (hlo_2_1 s2117 x2119 fs2117))))))))))) (fr_l_eX0_runDown_40_2 s0 kv hkv hp 145 s1226 (0 : Int32) fs1226))
theorem fr_eX0_runDown (s0 : mh_H) (kv : Nat) (hkv : mh_isV kv) (hp : mh_p3 s0) : mh_Fr (S_eX0_runDown kv) s0 (f_eX0_runDown s0 kv) := by
  have fs0 : mh_Fr (S_eX0_runDown kv) s0 s0 := ⟨mh_F_rf, hp⟩
  unfold f_eX0_runDown
  exact (fr_l_eX0_runDown_2_1 s0 kv hkv hp 145 s0 (0 : Int32) fs0)
theorem fr_j_eX0_pass_13_1 (s0 : mh_H) (kv : Nat) (hkv : mh_isV kv) (kl : Nat) (hkl : mh_isL kl) (hp : mh_p3 s0) (s23 : mh_H) (fs23 : mh_Fr (S_eX0_pass kv kl) s0 s23) : mh_Fr (S_eX0_pass kv kl) s0 (j_eX0_pass_13_1 s23 kv) := by
  have fs0 : mh_Fr (S_eX0_pass kv kl) s0 s0 := ⟨mh_F_rf, hp⟩
  unfold j_eX0_pass_13_1
  exact (mh_fB (mh_Fr_tv fs23 (fr_eX0_runDown s23 kv hkv fs23.2) (by rcases hkl with rfl | rfl <;> rcases hkv with rfl | rfl | rfl <;> decide +kernel)) (fun s34 fs34 => (mh_fA (fun x36 => (mh_fA (fun x38 => (mh_fB (mh_Fr_pI fs34 (mh_sj 7 rfl)) (fun s40 fs40 => fs40))))))))
theorem fr_eX0_pass (s0 : mh_H) (kv : Nat) (hkv : mh_isV kv) (kl : Nat) (hkl : mh_isL kl) (hp : mh_p3 s0) : mh_Fr (S_eX0_pass kv kl) s0 (f_eX0_pass s0 kv kl) := by
  have fs0 : mh_Fr (S_eX0_pass kv kl) s0 s0 := ⟨mh_F_rf, hp⟩
  unfold f_eX0_pass
  exact (mh_fA (fun x17 => (mh_fI (fr_j_eX0_pass_13_1 s0 kv hkv kl hkl hp s0 fs0) (mh_fB (mh_Fr_tv fs0 (fr_eX0_comeAndDry s0 kv hkv kl hkl fs0.2) (by rcases hkl with rfl | rfl <;> rcases hkv with rfl | rfl | rfl <;> decide +kernel)) (fun s44 fs44 => (fr_j_eX0_pass_13_1 s0 kv hkv kl hkl hp s44 fs44))))))
theorem fr_j_eX1_addClause_62_1 (s0 : mh_H) (kl : Nat) (hkl : mh_isL kl) (hp : mh_p3 s0) (s72 : mh_H) (p1 : Int32) (fs72 : mh_Fr (S_eX1_addClause kl) s0 s72) : mh_Fr (S_eX1_addClause kl) s0 (j_eX1_addClause_62_1 s72 kl p1) := by
  have fs0 : mh_Fr (S_eX1_addClause kl) s0 s0 := ⟨mh_F_rf, hp⟩
  unfold j_eX1_addClause_62_1
  exact (mh_fA (fun x89 => (mh_fI (mh_fI (mh_fB (mh_Fr_pI fs72 (mh_sj 5 rfl)) (fun s95 fs95 => fs95)) (mh_fI (mh_fB (mh_Fr_pI fs72 (mh_sj 5 rfl)) (fun s98 fs98 => fs98)) (mh_fI (mh_fB (mh_Fr_pI fs72 (mh_sj 5 rfl)) (fun s103 fs103 => fs103)) (mh_fB (mh_Fr_pI fs72 (mh_sj 5 rfl)) (fun s101 fs101 => fs101))))) (mh_fB (mh_Fr_pI fs72 (mh_sj 5 rfl)) (fun s92 fs92 => fs92)))))
theorem fr_eX1_addClause (s0 : mh_H) (kl : Nat) (hkl : mh_isL kl) (p1 : Int32) (p2 : Int32) (p3 : Int32) (hp : mh_p3 s0) : mh_Fr (S_eX1_addClause kl) s0 (f_eX1_addClause s0 kl p1 p2 p3) := by
  have fs0 : mh_Fr (S_eX1_addClause kl) s0 s0 := ⟨mh_F_rf, hp⟩
  unfold f_eX1_addClause
  exact (mh_fA (fun x45 => (mh_fI (mh_fB (mh_Fr_pI fs0 (mh_si 0 rfl)) (fun s108 fs108 => (mh_fB (mh_Fr_pI fs108 (mh_si 1 rfl)) (fun s113 fs113 => (mh_fB (mh_Fr_pI fs113 (mh_si 2 rfl)) (fun s118 fs118 => (mh_fA (fun x123 => (mh_fB (mh_Fr_pI fs118 (mh_si 3 rfl)) (fun s125 fs125 => (mh_fA (fun x130 => (mh_fB (mh_Fr_pI fs125 (mh_sj 4 rfl)) (fun s132 fs132 => (fr_j_eX1_addClause_62_1 s0 kl hkl hp s132 p1 fs132))))))))))))))) (fr_j_eX1_addClause_62_1 s0 kl hkl hp s0 p1 fs0))))
theorem fr_eX1_clear (s0 : mh_H) (kl : Nat) (hkl : mh_isL kl) (hp : mh_p3 s0) : mh_Fr (S_eX1_clear kl) s0 (f_eX1_clear s0 kl) := by
  have fs0 : mh_Fr (S_eX1_clear kl) s0 s0 := ⟨mh_F_rf, hp⟩
  unfold f_eX1_clear
  exact (mh_fB (mh_Fr_pI fs0 (mh_sj 0 rfl)) (fun s9 fs9 => (mh_fB (mh_Fr_pI fs9 (mh_sj 1 rfl)) (fun s11 fs11 => (mh_fB (mh_Fr_pI fs11 (mh_sj 2 rfl)) (fun s13 fs13 => (mh_fB (mh_Fr_pI fs13 (mh_sj 3 rfl)) (fun s15 fs15 => fs15))))))))
theorem fr_eX1_land (s0 : mh_H) (kl : Nat) (hkl : mh_isL kl) (p1 : Int32) (hp : mh_p3 s0) : mh_Fr (S_eX1_land kl) s0 (f_eX1_land s0 kl p1) := by
  have fs0 : mh_Fr (S_eX1_land kl) s0 s0 := ⟨mh_F_rf, hp⟩
  unfold f_eX1_land
  exact (mh_fA (fun x9 => (mh_fI fs0 (mh_fA (fun x13 => (mh_fB (mh_Fr_pI fs0 (mh_si 0 rfl)) (fun s15 fs15 => fs15)))))))
theorem fr_eX1_mist (s0 : mh_H) (kv : Nat) (hkv : mh_isV kv) (kl : Nat) (hkl : mh_isL kl) (p2 : Int32) (hp : mh_p3 s0) : mh_FrP (S_eX1_mist kv kl) s0 (f_eX1_mist s0 kv kl p2) := by
  have fs0 : mh_Fr (S_eX1_mist kv kl) s0 s0 := ⟨mh_F_rf, hp⟩
  unfold f_eX1_mist
  exact (mh_fB (mh_Fr_tv fs0 (fr_eX1_see s0 kv hkv kl hkl p2 fs0.2) (by rcases hkl with rfl | rfl <;> rcases hkv with rfl | rfl | rfl <;> decide +kernel)) (fun s8 fs8 => (mh_fC (mh_Fr_tl fs8 (fr_eX1_worth s8 kl hkl (109 : Int32) fs8.2) (by rcases hkl with rfl | rfl <;> rcases hkv with rfl | rfl | rfl <;> decide +kernel)) (fun x10 s11 fs11 => fs11))))
theorem fr_eX1_put (s0 : mh_H) (kl : Nat) (hkl : mh_isL kl) (p1 : Int32) (hp : mh_p3 s0) : mh_Fr (S_eX1_put kl) s0 (f_eX1_put s0 kl p1) := by
  have fs0 : mh_Fr (S_eX1_put kl) s0 s0 := ⟨mh_F_rf, hp⟩
  unfold f_eX1_put
  exact (mh_fA (fun x14 => (mh_fI (mh_fB (mh_Fr_pI fs0 (mh_si 0 rfl)) (fun s19 fs19 => (mh_fA (fun x24 => (mh_fB (mh_Fr_pI fs19 (mh_sj 1 rfl)) (fun s26 fs26 => fs26)))))) fs0)))
theorem fr_eX1_putJump (s0 : mh_H) (kl : Nat) (hkl : mh_isL kl) (p1 : Int32) (hp : mh_p3 s0) : mh_FrP (S_eX1_putJump kl) s0 (f_eX1_putJump s0 kl p1) := by
  have fs0 : mh_Fr (S_eX1_putJump kl) s0 s0 := ⟨mh_F_rf, hp⟩
  unfold f_eX1_putJump
  exact (mh_fB (mh_Fr_tv fs0 (fr_eX1_put s0 kl hkl p1 fs0.2) (by rcases hkl with rfl | rfl <;> decide +kernel)) (fun s12 fs12 => (mh_fB (mh_Fr_tv fs12 (fr_eX1_put s12 kl hkl (0 : Int32) fs12.2) (by rcases hkl with rfl | rfl <;> decide +kernel)) (fun s15 fs15 => (mh_fA (fun x17 => (mh_fA (fun x19 => fs15))))))))
theorem fr_eX1_saysMist (s0 : mh_H) (kl : Nat) (hkl : mh_isL kl) (p1 : Int32) (p2 : Int32) (p3 : Int32) (hp : mh_p3 s0) : mh_FrP (S_eX1_saysMist kl) s0 (f_eX1_saysMist s0 kl p1 p2 p3) := by
  have fs0 : mh_Fr (S_eX1_saysMist kl) s0 s0 := ⟨mh_F_rf, hp⟩
  unfold f_eX1_saysMist
  exact (mh_fB (mh_Fr_tv fs0 (fr_eJ7_fill_va s0 kl hkl (0 : Int32) fs0.2) (by rcases hkl with rfl | rfl <;> decide +kernel)) (fun s15 fs15 => (mh_fB (mh_Fr_pI fs15 (mh_si 0 rfl)) (fun s17 fs17 => (mh_fB (mh_Fr_pI fs17 (mh_si 0 rfl)) (fun s19 fs19 => (mh_fB (mh_Fr_pI fs19 (mh_si 0 rfl)) (fun s21 fs21 => (mh_fC (mh_Fr_tl fs21 (fr_eX1_worth s21 kl hkl (102 : Int32) fs21.2) (by rcases hkl with rfl | rfl <;> decide +kernel)) (fun x23 s24 fs24 => (mh_fI fs24 fs24)))))))))))
theorem fr_eX1_top (s0 : mh_H) (kv : Nat) (hkv : mh_isV kv) (kl : Nat) (hkl : mh_isL kl) (p2 : Int32) (hp : mh_p3 s0) : mh_FrP (S_eX1_top kv kl) s0 (f_eX1_top s0 kv kl p2) := by
  have fs0 : mh_Fr (S_eX1_top kv kl) s0 s0 := ⟨mh_F_rf, hp⟩
  unfold f_eX1_top
  exact (mh_fC (mh_Fr_tl fs0 (fr_eX1_mist s0 kv hkv kl hkl p2 fs0.2) (by rcases hkl with rfl | rfl <;> rcases hkv with rfl | rfl | rfl <;> decide +kernel)) (fun x9 s10 fs10 => (mh_fI (mh_fA (fun x13 => (mh_fA (fun x15 => fs10)))) fs10)))
theorem fr_eX1_yards (s0 : mh_H) (kv : Nat) (hkv : mh_isV kv) (kl : Nat) (hkl : mh_isL kl) (p2 : Int32) (hp : mh_p3 s0) : mh_FrP (S_eX1_yards kv kl) s0 (f_eX1_yards s0 kv kl p2) := by
  have fs0 : mh_Fr (S_eX1_yards kv kl) s0 s0 := ⟨mh_F_rf, hp⟩
  unfold f_eX1_yards
  exact (mh_fC (mh_Fr_tl fs0 (fr_eX1_mist s0 kv hkv kl hkl p2 fs0.2) (by rcases hkl with rfl | rfl <;> rcases hkv with rfl | rfl | rfl <;> decide +kernel)) (fun x9 s10 fs10 => (mh_fB (mh_Fr_pI fs10 (mh_si 0 rfl)) (fun s12 fs12 => (mh_fC (mh_Fr_tl fs12 (fr_eX1_worth s12 kl hkl (121 : Int32) fs12.2) (by rcases hkl with rfl | rfl <;> rcases hkv with rfl | rfl | rfl <;> decide +kernel)) (fun x14 s15 fs15 => fs15))))))
theorem fr_j_eX2_push_42_3 (s0 : mh_H) (hp : mh_p3 s0) (lo_3_1 : mh_H → Int32 → mh_H) (s1790 : mh_H) (x1657 : Int32) (hlo_3_1 : ∀ (s1658 : mh_H) (x1657 : Int32), mh_Fr S_eX2_push s0 s1658 → mh_Fr S_eX2_push s0 (lo_3_1 s1658 x1657)) (fs1790 : mh_Fr S_eX2_push s0 s1790) : mh_Fr S_eX2_push s0 (j_eX2_push_42_3 lo_3_1 s1790 x1657) := by
  have fs0 : mh_Fr S_eX2_push s0 s0 := ⟨mh_F_rf, hp⟩
  unfold j_eX2_push_42_3
  exact (mh_fA (fun x1823 => (hlo_3_1 s1790 x1823 fs1790)))
theorem fr_l_eX2_push_9_2 (s0 : mh_H) (hp : mh_p3 s0) (lo_3_1 : mh_H → Int32 → mh_H) (p1 : Int32) (x1657 : Int32) (hlo_3_1 : ∀ (s1658 : mh_H) (x1657 : Int32), mh_Fr S_eX2_push s0 s1658 → mh_Fr S_eX2_push s0 (lo_3_1 s1658 x1657)) : ∀ (n : Nat) (s1790 : mh_H) (x1789 : Int32), mh_Fr S_eX2_push s0 s1790 → mh_Fr S_eX2_push s0 (l_eX2_push_9_2 lo_3_1 p1 x1657 n s1790 x1789) := by
  have fs0 : mh_Fr S_eX2_push s0 s0 := ⟨mh_F_rf, hp⟩
  intro n
  induction n with
  | zero => intro s1790 x1789 fs1790; exact fs1790
  | succ n ih =>
    intro s1790 x1789 fs1790
    have hlo_9_2 := ih
    rw [l_eX2_push_9_2_s]
    unfold ls_eX2_push_9_2
    exact (mh_fI (fr_j_eX2_push_42_3 s0 hp lo_3_1 s1790 x1657 hlo_3_1 fs1790) (mh_fI (fr_j_eX2_push_42_3 s0 hp lo_3_1 s1790 x1657 hlo_3_1 fs1790) (mh_fA (fun y1827 => (mh_fA (fun x1829 => (mh_fA (fun y1831 => (mh_fA (fun y1833 => (mh_fB (mh_Fr_pL fs1790 (mh_si 0 rfl)) (fun s1835 fs1835 => (mh_fA (fun x1837 => (hlo_9_2 s1835 x1837 fs1835)))))))))))))))
theorem fr_l_eX2_push_3_1 (s0 : mh_H) (hp : mh_p3 s0) (p1 : Int32) : ∀ (n : Nat) (s1658 : mh_H) (x1657 : Int32), mh_Fr S_eX2_push s0 s1658 → mh_Fr S_eX2_push s0 (l_eX2_push_3_1 p1 n s1658 x1657) := by
  have fs0 : mh_Fr S_eX2_push s0 s0 := ⟨mh_F_rf, hp⟩
  intro n
  induction n with
  | zero => intro s1658 x1657 fs1658; exact fs1658
  | succ n ih =>
    intro s1658 x1657 fs1658
    have hlo_3_1 := ih
    rw [l_eX2_push_3_1_s]
    unfold ls_eX2_push_3_1
    exact (mh_fI (fr_l_eX2_push_9_2 s0 hp (l_eX2_push_3_1 p1 n) p1 x1657 hlo_3_1 14 s1658 (1 : Int32) fs1658) fs1658)
theorem fr_eX2_push (s0 : mh_H) (p1 : Int32) (hp : mh_p3 s0) : mh_Fr S_eX2_push s0 (f_eX2_push s0 p1) := by
  have fs0 : mh_Fr S_eX2_push s0 s0 := ⟨mh_F_rf, hp⟩
  unfold f_eX2_push
  exact (fr_l_eX2_push_3_1 s0 hp p1 109 s0 (108 : Int32) fs0)
theorem fr_l_eX2_breaking_41_2 (s0 : mh_H) (hp : mh_p3 s0) (s113 : mh_H) (fs113 : mh_Fr S_eX2_breaking s0 s113) : ∀ (n : Nat) (x130 : Int32) (y131 : Int64), mh_FrP S_eX2_breaking s0 (l_eX2_breaking_41_2 s113 n x130 y131) := by
  have fs0 : mh_Fr S_eX2_breaking s0 s0 := ⟨mh_F_rf, hp⟩
  intro n
  induction n with
  | zero => intro x130 y131; exact fs113
  | succ n ih =>
    intro x130 y131
    have hlo_41_2 := ih
    rw [l_eX2_breaking_41_2_s]
    unfold ls_eX2_breaking_41_2
    exact (mh_fI (mh_fA (fun y142 => (mh_fA (fun y144 => (mh_fA (fun x146 => (hlo_41_2 x146 y144))))))) fs113)
theorem fr_l_eX2_breaking_18_1 (s0 : mh_H) (hp : mh_p3 s0) (p1 : Int32) (p2 : Int32) (p3 : Int32) : ∀ (n : Nat) (s113 : mh_H) (x112 : Int32), mh_Fr S_eX2_breaking s0 s113 → mh_FrP S_eX2_breaking s0 (l_eX2_breaking_18_1 p1 p2 p3 n s113 x112) := by
  have fs0 : mh_Fr S_eX2_breaking s0 s0 := ⟨mh_F_rf, hp⟩
  intro n
  induction n with
  | zero => intro s113 x112 fs113; exact fs113
  | succ n ih =>
    intro s113 x112 fs113
    have hlo_18_1 := ih
    rw [l_eX2_breaking_18_1_s]
    unfold ls_eX2_breaking_18_1
    exact (mh_fI (mh_fB (mh_Fr_tv fs113 (fr_eX2_push s113 p3 fs113.2) (by decide +kernel)) (fun s149 fs149 => (mh_fA (fun x151 => (hlo_18_1 s149 x151 fs149))))) (fr_l_eX2_breaking_41_2 s0 hp s113 fs113 200 p1 (0 : Int64)))
theorem fr_eX2_breaking (s0 : mh_H) (p1 : Int32) (p2 : Int32) (p3 : Int32) (hp : mh_p3 s0) : mh_FrP S_eX2_breaking s0 (f_eX2_breaking s0 p1 p2 p3) := by
  have fs0 : mh_Fr S_eX2_breaking s0 s0 := ⟨mh_F_rf, hp⟩
  unfold f_eX2_breaking
  exact (mh_fB (mh_Fr_tv fs0 (fr_eJ7_fill_wa s0 (0 : Int64) fs0.2) (by decide +kernel)) (fun s78 fs78 => (mh_fB (mh_Fr_pL fs78 (mh_si 0 rfl)) (fun s80 fs80 => (fr_l_eX2_breaking_18_1 s0 hp p1 p2 p3 15 s80 (0 : Int32) fs80)))))
theorem fr_j_eX5_goIn_117_2 (s0 : mh_H) (hp : mh_p3 s0) (lo_2_1 : mh_H → Int32 → mh_H) (s842 : mh_H) (x739 : Int32) (hlo_2_1 : ∀ (s740 : mh_H) (x739 : Int32), mh_Fr S_eX5_goIn s0 s740 → mh_Fr S_eX5_goIn s0 (lo_2_1 s740 x739)) (fs842 : mh_Fr S_eX5_goIn s0 s842) : mh_Fr S_eX5_goIn s0 (j_eX5_goIn_117_2 lo_2_1 s842 x739) := by
  have fs0 : mh_Fr S_eX5_goIn s0 s0 := ⟨mh_F_rf, hp⟩
  unfold j_eX5_goIn_117_2
  exact (mh_fA (fun x845 => (hlo_2_1 s842 x845 fs842)))
theorem fr_j_eX5_goIn_115_3 (s0 : mh_H) (hp : mh_p3 s0) (lo_2_1 : mh_H → Int32 → mh_H) (s740 : mh_H) (x739 : Int32) (x866 : Int32) (x869 : Int32) (x880 : Int32) (hlo_2_1 : ∀ (s740 : mh_H) (x739 : Int32), mh_Fr S_eX5_goIn s0 s740 → mh_Fr S_eX5_goIn s0 (lo_2_1 s740 x739)) (fs740 : mh_Fr S_eX5_goIn s0 s740) : mh_Fr S_eX5_goIn s0 (j_eX5_goIn_115_3 lo_2_1 s740 x739 x866 x869 x880) := by
  have fs0 : mh_Fr S_eX5_goIn s0 s0 := ⟨mh_F_rf, hp⟩
  unfold j_eX5_goIn_115_3
  exact (mh_fA (fun x885 => (mh_fB (mh_Fr_pI fs740 (mh_si 0 rfl)) (fun s887 fs887 => (fr_j_eX5_goIn_117_2 s0 hp lo_2_1 s887 x739 hlo_2_1 fs887)))))
theorem fr_l_eX5_goIn_2_1 (s0 : mh_H) (hp : mh_p3 s0) (p1 : Int32) : ∀ (n : Nat) (s740 : mh_H) (x739 : Int32), mh_Fr S_eX5_goIn s0 s740 → mh_Fr S_eX5_goIn s0 (l_eX5_goIn_2_1 p1 n s740 x739) := by
  have fs0 : mh_Fr S_eX5_goIn s0 s0 := ⟨mh_F_rf, hp⟩
  intro n
  induction n with
  | zero => intro s740 x739 fs740; exact fs740
  | succ n ih =>
    intro s740 x739 fs740
    have hlo_2_1 := ih
    rw [l_eX5_goIn_2_1_s]
    unfold ls_eX5_goIn_2_1
    exact (mh_fI (mh_fA (fun x795 => (mh_fA (fun x797 => (mh_fA (fun x799 => (mh_fA (fun x801 => (mh_fI (fr_j_eX5_goIn_117_2 s0 hp (l_eX5_goIn_2_1 p1 n) s740 x739 hlo_2_1 fs740) (mh_fA (fun x848 => (mh_fI (mh_fI (fr_j_eX5_goIn_117_2 s0 hp (l_eX5_goIn_2_1 p1 n) s740 x739 hlo_2_1 fs740) (mh_fA (fun x852 => (mh_fA (fun x854 => (mh_fA (fun x858 => (mh_fA (fun x860 => (mh_fA (fun x864 => (mh_fA (fun x866 => (mh_fI (fr_j_eX5_goIn_117_2 s0 hp (l_eX5_goIn_2_1 p1 n) s740 x739 hlo_2_1 fs740) (mh_fA (fun x869 => (mh_fI (fr_j_eX5_goIn_115_3 s0 hp (l_eX5_goIn_2_1 p1 n) s740 x739 x866 x869 x799 hlo_2_1 fs740) (mh_fA (fun x892 => (mh_fA (fun x894 => (fr_j_eX5_goIn_115_3 s0 hp (l_eX5_goIn_2_1 p1 n) s740 x739 x866 x869 x894 hlo_2_1 fs740)))))))))))))))))))))) (fr_j_eX5_goIn_117_2 s0 hp (l_eX5_goIn_2_1 p1 n) s740 x739 hlo_2_1 fs740))))))))))))) fs740)
theorem fr_eX5_goIn (s0 : mh_H) (p1 : Int32) (hp : mh_p3 s0) : mh_Fr S_eX5_goIn s0 (f_eX5_goIn s0 p1) := by
  have fs0 : mh_Fr S_eX5_goIn s0 s0 := ⟨mh_F_rf, hp⟩
  unfold f_eX5_goIn
  exact (fr_l_eX5_goIn_2_1 s0 hp p1 21 s0 (0 : Int32) fs0)
theorem fr_j_eX5_go_70_3 (s0 : mh_H) (hp : mh_p3 s0) (lo_3_1 : mh_H → Int32 → Int32 × mh_H) (s328 : mh_H) (x253 : Int32) (hlo_3_1 : ∀ (s254 : mh_H) (x253 : Int32), mh_Fr S_eX5_go s0 s254 → mh_FrP S_eX5_go s0 (lo_3_1 s254 x253)) (fs328 : mh_Fr S_eX5_go s0 s328) : mh_FrP S_eX5_go s0 (j_eX5_go_70_3 lo_3_1 s328 x253) := by
  have fs0 : mh_Fr S_eX5_go s0 s0 := ⟨mh_F_rf, hp⟩
  unfold j_eX5_go_70_3
  exact (mh_fA (fun x331 => (hlo_3_1 s328 x331 fs328)))
theorem fr_j_eX5_go_47_2 (s0 : mh_H) (hp : mh_p3 s0) (lo_3_1 : mh_H → Int32 → Int32 × mh_H) (s302 : mh_H) (p3 : Int32) (x253 : Int32) (hlo_3_1 : ∀ (s254 : mh_H) (x253 : Int32), mh_Fr S_eX5_go s0 s254 → mh_FrP S_eX5_go s0 (lo_3_1 s254 x253)) (fs302 : mh_Fr S_eX5_go s0 s302) : mh_FrP S_eX5_go s0 (j_eX5_go_47_2 lo_3_1 s302 p3 x253) := by
  have fs0 : mh_Fr S_eX5_go s0 s0 := ⟨mh_F_rf, hp⟩
  unfold j_eX5_go_47_2
  exact (mh_fI (fr_j_eX5_go_70_3 s0 hp lo_3_1 s302 x253 hlo_3_1 fs302) (mh_fA (fun x334 => (mh_fA (fun x336 => (mh_fA (fun x338 => (mh_fA (fun x340 => (mh_fB (mh_Fr_pI fs302 (mh_si 0 rfl)) (fun s342 fs342 => (fr_j_eX5_go_70_3 s0 hp lo_3_1 s342 x253 hlo_3_1 fs342))))))))))))
theorem fr_l_eX5_go_3_1 (s0 : mh_H) (hp : mh_p3 s0) (p1 : Int32) (p2 : Int32) (p3 : Int32) : ∀ (n : Nat) (s254 : mh_H) (x253 : Int32), mh_Fr S_eX5_go s0 s254 → mh_FrP S_eX5_go s0 (l_eX5_go_3_1 p1 p2 p3 n s254 x253) := by
  have fs0 : mh_Fr S_eX5_go s0 s0 := ⟨mh_F_rf, hp⟩
  intro n
  induction n with
  | zero => intro s254 x253 fs254; exact fs254
  | succ n ih =>
    intro s254 x253 fs254
    have hlo_3_1 := ih
    rw [l_eX5_go_3_1_s]
    unfold ls_eX5_go_3_1
    exact (mh_fA (fun x287 => (mh_fA (fun x289 => (mh_fI (mh_fA (fun x292 => (mh_fI (mh_fA (fun x296 => (mh_fI (fr_j_eX5_go_47_2 s0 hp (l_eX5_go_3_1 p1 p2 p3 n) s254 p3 x253 hlo_3_1 fs254) (mh_fB (mh_Fr_tv fs254 (fr_eX5_goIn s254 x253 fs254.2) (by decide +kernel)) (fun s346 fs346 => (fr_j_eX5_go_47_2 s0 hp (l_eX5_go_3_1 p1 p2 p3 n) s346 p3 x253 hlo_3_1 fs346)))))) fs254))) fs254)))))
theorem fr_eX5_go (s0 : mh_H) (p1 : Int32) (p2 : Int32) (p3 : Int32) (hp : mh_p3 s0) : mh_FrP S_eX5_go s0 (f_eX5_go s0 p1 p2 p3) := by
  have fs0 : mh_Fr S_eX5_go s0 s0 := ⟨mh_F_rf, hp⟩
  unfold f_eX5_go
  exact (fr_l_eX5_go_3_1 s0 hp p1 p2 p3 301 s0 p2 fs0)
theorem fr_eX5_leave (s0 : mh_H) (p1 : Int32) (p2 : Int32) (hp : mh_p3 s0) : mh_Fr S_eX5_leave s0 (f_eX5_leave s0 p1 p2) := by
  have fs0 : mh_Fr S_eX5_leave s0 s0 := ⟨mh_F_rf, hp⟩
  unfold f_eX5_leave
  exact (mh_fB (mh_Fr_tv fs0 (fr_eJ7_fill_re s0 (0 : Int32) fs0.2) (by decide +kernel)) (fun s9 fs9 => (mh_fA (fun x11 => (mh_fB (mh_Fr_pI fs9 (mh_si 0 rfl)) (fun s13 fs13 => fs13))))))
theorem fr_j_eX5_look_36_2 (s0 : mh_H) (kv : Nat) (hkv : mh_isV kv) (kl : Nat) (hkl : mh_isL kl) (hp : mh_p3 s0) (lo_2_1 : mh_H → Int32 → mh_H) (s280 : mh_H) (x249 : Int32) (x279 : Int32) (hlo_2_1 : ∀ (s250 : mh_H) (x249 : Int32), mh_Fr (S_eX5_look kv kl) s0 s250 → mh_Fr (S_eX5_look kv kl) s0 (lo_2_1 s250 x249)) (fs280 : mh_Fr (S_eX5_look kv kl) s0 s280) : mh_Fr (S_eX5_look kv kl) s0 (j_eX5_look_36_2 lo_2_1 s280 x249 x279) := by
  have fs0 : mh_Fr (S_eX5_look kv kl) s0 s0 := ⟨mh_F_rf, hp⟩
  unfold j_eX5_look_36_2
  exact (mh_fB (mh_Fr_pI fs280 (mh_si 2 rfl)) (fun s285 fs285 => (mh_fA (fun x287 => (hlo_2_1 s285 x287 fs285)))))
theorem fr_l_eX5_look_2_1 (s0 : mh_H) (kv : Nat) (hkv : mh_isV kv) (kl : Nat) (hkl : mh_isL kl) (hp : mh_p3 s0) : ∀ (n : Nat) (s250 : mh_H) (x249 : Int32), mh_Fr (S_eX5_look kv kl) s0 s250 → mh_Fr (S_eX5_look kv kl) s0 (l_eX5_look_2_1 kl kv n s250 x249) := by
  have fs0 : mh_Fr (S_eX5_look kv kl) s0 s0 := ⟨mh_F_rf, hp⟩
  intro n
  induction n with
  | zero => intro s250 x249 fs250; exact fs250
  | succ n ih =>
    intro s250 x249 fs250
    have hlo_2_1 := ih
    rw [l_eX5_look_2_1_s]
    unfold ls_eX5_look_2_1
    exact (mh_fI (mh_fA (fun x270 => (mh_fI (fr_j_eX5_look_36_2 s0 kv hkv kl hkl hp (l_eX5_look_2_1 kl kv n) s250 x249 (0 : Int32) hlo_2_1 fs250) (mh_fA (fun x290 => (mh_fC (mh_Fr_tl fs250 (fr_eX1_yards s250 kv hkv kl hkl x290 fs250.2) (by rcases hkl with rfl | rfl <;> rcases hkv with rfl | rfl | rfl <;> decide +kernel)) (fun x292 s293 fs293 => (fr_j_eX5_look_36_2 s0 kv hkv kl hkl hp (l_eX5_look_2_1 kl kv n) s293 x249 x292 hlo_2_1 fs293)))))))) fs250)
theorem fr_eX5_look (s0 : mh_H) (kv : Nat) (hkv : mh_isV kv) (kl : Nat) (hkl : mh_isL kl) (hp : mh_p3 s0) : mh_Fr (S_eX5_look kv kl) s0 (f_eX5_look s0 kv kl) := by
  have fs0 : mh_Fr (S_eX5_look kv kl) s0 s0 := ⟨mh_F_rf, hp⟩
  unfold f_eX5_look
  exact (fr_l_eX5_look_2_1 s0 kv hkv kl hkl hp 21 s0 (0 : Int32) fs0)
theorem fr_j_eX6_look_81_2 (s0 : mh_H) (kv : Nat) (hkv : mh_isV kv) (kl : Nat) (hkl : mh_isL kl) (hp : mh_p3 s0) (lo_18_1 : mh_H → Int32 → mh_H) (s720 : mh_H) (x663 : Int32) (hlo_18_1 : ∀ (s664 : mh_H) (x663 : Int32), mh_Fr (S_eX6_look kv kl) s0 s664 → mh_Fr (S_eX6_look kv kl) s0 (lo_18_1 s664 x663)) (fs720 : mh_Fr (S_eX6_look kv kl) s0 s720) : mh_Fr (S_eX6_look kv kl) s0 (j_eX6_look_81_2 lo_18_1 s720 x663) := by
  have fs0 : mh_Fr (S_eX6_look kv kl) s0 s0 := ⟨mh_F_rf, hp⟩
  unfold j_eX6_look_81_2
  exact (mh_fA (fun x723 => (hlo_18_1 s720 x723 fs720)))
theorem fr_j_eX6_look_65_3 (s0 : mh_H) (kv : Nat) (hkv : mh_isV kv) (kl : Nat) (hkl : mh_isL kl) (hp : mh_p3 s0) (lo_18_1 : mh_H → Int32 → mh_H) (s730 : mh_H) (x663 : Int32) (x696 : Int32) (x738 : Int32) (hlo_18_1 : ∀ (s664 : mh_H) (x663 : Int32), mh_Fr (S_eX6_look kv kl) s0 s664 → mh_Fr (S_eX6_look kv kl) s0 (lo_18_1 s664 x663)) (fs730 : mh_Fr (S_eX6_look kv kl) s0 s730) : mh_Fr (S_eX6_look kv kl) s0 (j_eX6_look_65_3 lo_18_1 s730 x663 x696 x738) := by
  have fs0 : mh_Fr (S_eX6_look kv kl) s0 s0 := ⟨mh_F_rf, hp⟩
  unfold j_eX6_look_65_3
  exact (mh_fB (mh_Fr_pI fs730 (mh_sj 1 rfl)) (fun s747 fs747 => (mh_fA (fun x749 => (mh_fA (fun x751 => (mh_fB (mh_Fr_pI fs747 (mh_sj 2 rfl)) (fun s753 fs753 => (fr_j_eX6_look_81_2 s0 kv hkv kl hkl hp lo_18_1 s753 x663 hlo_18_1 fs753)))))))))
theorem fr_l_eX6_look_18_1 (s0 : mh_H) (kv : Nat) (hkv : mh_isV kv) (kl : Nat) (hkl : mh_isL kl) (hp : mh_p3 s0) : ∀ (n : Nat) (s664 : mh_H) (x663 : Int32), mh_Fr (S_eX6_look kv kl) s0 s664 → mh_Fr (S_eX6_look kv kl) s0 (l_eX6_look_18_1 kl kv n s664 x663) := by
  have fs0 : mh_Fr (S_eX6_look kv kl) s0 s0 := ⟨mh_F_rf, hp⟩
  intro n
  induction n with
  | zero => intro s664 x663 fs664; exact fs664
  | succ n ih =>
    intro s664 x663 fs664
    have hlo_18_1 := ih
    rw [l_eX6_look_18_1_s]
    unfold ls_eX6_look_18_1
    exact (mh_fI (mh_fC (mh_Fr_tl fs664 (fr_eX1_top s664 kv hkv kl hkl x663 fs664.2) (by rcases hkl with rfl | rfl <;> rcases hkv with rfl | rfl | rfl <;> decide +kernel)) (fun x696 s697 fs697 => (mh_fI (mh_fA (fun x726 => (mh_fA (fun x728 => (mh_fB (mh_Fr_pI fs697 (mh_sj 0 rfl)) (fun s730 fs730 => (mh_fI (fr_j_eX6_look_65_3 s0 kv hkv kl hkl hp (l_eX6_look_18_1 kl kv n) s730 x663 x696 x663 hlo_18_1 fs730) (mh_fA (fun x756 => (fr_j_eX6_look_65_3 s0 kv hkv kl hkl hp (l_eX6_look_18_1 kl kv n) s730 x663 x696 x756 hlo_18_1 fs730)))))))))) (fr_j_eX6_look_81_2 s0 kv hkv kl hkl hp (l_eX6_look_18_1 kl kv n) s697 x663 hlo_18_1 fs697)))) fs664)
theorem fr_eX6_look (s0 : mh_H) (kv : Nat) (hkv : mh_isV kv) (kl : Nat) (hkl : mh_isL kl) (hp : mh_p3 s0) : mh_Fr (S_eX6_look kv kl) s0 (f_eX6_look s0 kv kl) := by
  have fs0 : mh_Fr (S_eX6_look kv kl) s0 s0 := ⟨mh_F_rf, hp⟩
  unfold f_eX6_look
  exact (mh_fB (mh_Fr_pI fs0 (mh_sj 0 rfl)) (fun s362 fs362 => (mh_fB (mh_Fr_pI fs362 (mh_sj 1 rfl)) (fun s364 fs364 => (mh_fB (mh_Fr_pI fs364 (mh_sj 2 rfl)) (fun s366 fs366 => (fr_l_eX6_look_18_1 s0 kv hkv kl hkl hp 145 s366 (0 : Int32) fs366)))))))
theorem fr_l_eX7_put_3_1 (s0 : mh_H) (hp : mh_p3 s0) (p1 : Int32) : ∀ (n : Nat) (s218 : mh_H) (x217 : Int32), mh_Fr S_eX7_put s0 s218 → mh_Fr S_eX7_put s0 (l_eX7_put_3_1 p1 n s218 x217) := by
  have fs0 : mh_Fr S_eX7_put s0 s0 := ⟨mh_F_rf, hp⟩
  intro n
  induction n with
  | zero => intro s218 x217 fs218; exact fs218
  | succ n ih =>
    intro s218 x217 fs218
    have hlo_3_1 := ih
    rw [l_eX7_put_3_1_s]
    unfold ls_eX7_put_3_1
    exact (mh_fI fs218 (mh_fA (fun x242 => (mh_fI (mh_fA (fun x247 => (mh_fA (fun x249 => (mh_fB (mh_Fr_pI fs218 (mh_si 0 rfl)) (fun s251 fs251 => (mh_fA (fun x256 => (mh_fB (mh_Fr_pI fs251 (mh_sj 1 rfl)) (fun s258 fs258 => (mh_fA (fun x260 => (hlo_3_1 s258 x260 fs258))))))))))))) fs218))))
theorem fr_eX7_put (s0 : mh_H) (p1 : Int32) (hp : mh_p3 s0) : mh_Fr S_eX7_put s0 (f_eX7_put s0 p1) := by
  have fs0 : mh_Fr S_eX7_put s0 s0 := ⟨mh_F_rf, hp⟩
  unfold f_eX7_put
  exact (fr_l_eX7_put_3_1 s0 hp p1 33 s0 (24 : Int32) fs0)
theorem fr_eX9_air (s0 : mh_H) (p1 : Int32) (p2 : Int32) (p3 : Int32) (p4 : Int32) (hp : mh_p3 s0) : mh_FrP S_eX9_air s0 (f_eX9_air s0 p1 p2 p3 p4) := by
  have fs0 : mh_Fr S_eX9_air s0 s0 := ⟨mh_F_rf, hp⟩
  unfold f_eX9_air
  exact (mh_fA (fun x21 => (mh_fI fs0 (mh_fA (fun x25 => (mh_fI fs0 (mh_fA (fun x29 => (mh_fI fs0 (mh_fA (fun x33 => (mh_fA (fun x35 => (mh_fB (mh_Fr_pI fs0 (mh_si 0 rfl)) (fun s37 fs37 => (mh_fB (mh_Fr_pI fs37 (mh_si 1 rfl)) (fun s39 fs39 => fs39)))))))))))))))))
theorem fr_eX9_ground (s0 : mh_H) (p1 : Int32) (p2 : Int32) (p3 : Int32) (p4 : Int32) (hp : mh_p3 s0) : mh_FrP S_eX9_ground s0 (f_eX9_ground s0 p1 p2 p3 p4) := by
  have fs0 : mh_Fr S_eX9_ground s0 s0 := ⟨mh_F_rf, hp⟩
  unfold f_eX9_ground
  exact (mh_fA (fun x21 => (mh_fI fs0 (mh_fA (fun x25 => (mh_fI fs0 (mh_fA (fun x29 => (mh_fI fs0 (mh_fA (fun x33 => (mh_fA (fun x35 => (mh_fB (mh_Fr_pI fs0 (mh_si 0 rfl)) (fun s37 fs37 => (mh_fB (mh_Fr_pI fs37 (mh_si 1 rfl)) (fun s39 fs39 => fs39)))))))))))))))))
theorem fr_eX9_wind (s0 : mh_H) (p1 : Int32) (p2 : Int32) (hp : mh_p3 s0) : mh_FrP S_eX9_wind s0 (f_eX9_wind s0 p1 p2) := by
  have fs0 : mh_Fr S_eX9_wind s0 s0 := ⟨mh_F_rf, hp⟩
  unfold f_eX9_wind
  exact (mh_fA (fun x11 => (mh_fI fs0 (mh_fA (fun x15 => (mh_fI fs0 (mh_fB (mh_Fr_pI fs0 (mh_si 0 rfl)) (fun s19 fs19 => fs19))))))))
theorem fr_eX9_feed (s0 : mh_H) (p1 : Int32) (p2 : Int32) (p3 : Int32) (p4 : Int32) (p5 : Int32) (hp : mh_p3 s0) : mh_FrP S_eX9_feed s0 (f_eX9_feed s0 p1 p2 p3 p4 p5) := by
  have fs0 : mh_Fr S_eX9_feed s0 s0 := ⟨mh_F_rf, hp⟩
  unfold f_eX9_feed
  exact (mh_fA (fun x21 => (mh_fI fs0 (mh_fB (mh_Fr_tv fs0 (fr_eX7_put s0 p1 fs0.2) (by decide +kernel)) (fun s25 fs25 => (mh_fB (mh_Fr_tv fs25 (fr_eX7_put s25 p2 fs25.2) (by decide +kernel)) (fun s28 fs28 => (mh_fB (mh_Fr_tv fs28 (fr_eX7_put s28 p3 fs28.2) (by decide +kernel)) (fun s31 fs31 => (mh_fB (mh_Fr_tv fs31 (fr_eX7_put s31 p4 fs31.2) (by decide +kernel)) (fun s34 fs34 => (mh_fB (mh_Fr_tv fs34 (fr_eX7_put s34 p5 fs34.2) (by decide +kernel)) (fun s37 fs37 => (mh_fA (fun x39 => fs37)))))))))))))))
theorem fr_eX9_was (s0 : mh_H) (p1 : Int32) (p2 : Int32) (p3 : Int32) (p4 : Int32) (p5 : Int32) (hp : mh_p3 s0) : mh_FrP S_eX9_was s0 (f_eX9_was s0 p1 p2 p3 p4 p5) := by
  have fs0 : mh_Fr S_eX9_was s0 s0 := ⟨mh_F_rf, hp⟩
  unfold f_eX9_was
  exact (mh_fA (fun x36 => (mh_fI fs0 (mh_fA (fun x40 => (mh_fI fs0 (mh_fA (fun x44 => (mh_fI fs0 (mh_fA (fun x48 => (mh_fI (mh_fB (mh_Fr_pI fs0 (mh_si 0 rfl)) (fun s53 fs53 => (mh_fB (mh_Fr_pI fs53 (mh_si 1 rfl)) (fun s55 fs55 => (mh_fB (mh_Fr_pI fs55 (mh_si 2 rfl)) (fun s57 fs57 => (mh_fB (mh_Fr_pI fs57 (mh_si 3 rfl)) (fun s59 fs59 => (mh_fB (mh_Fr_pI fs59 (mh_si 4 rfl)) (fun s61 fs61 => (mh_fA (fun x70 => (mh_fB (mh_Fr_pI fs61 (mh_sj 5 rfl)) (fun s72 fs72 => fs72)))))))))))))) fs0))))))))))))
theorem fr_eX9_seed (s0 : mh_H) (p1 : Int32) (hp : mh_p3 s0) : mh_FrP S_eX9_seed s0 (f_eX9_seed s0 p1) := by
  have fs0 : mh_Fr S_eX9_seed s0 s0 := ⟨mh_F_rf, hp⟩
  unfold f_eX9_seed
  exact (mh_fA (fun x7 => (mh_fI fs0 (mh_fB (mh_Fr_pI fs0 (mh_sj 0 rfl)) (fun s11 fs11 => fs11)))))
theorem fr_eX9_road (s0 : mh_H) (p1 : Int32) (p2 : Int32) (p3 : Int32) (p4 : Int32) (p5 : Int32) (hp : mh_p3 s0) : mh_FrP S_eX9_road s0 (f_eX9_road s0 p1 p2 p3 p4 p5) := by
  have fs0 : mh_Fr S_eX9_road s0 s0 := ⟨mh_F_rf, hp⟩
  unfold f_eX9_road
  exact (mh_fA (fun x40 => (mh_fI fs0 (mh_fA (fun x44 => (mh_fI fs0 (mh_fA (fun x48 => (mh_fI fs0 (mh_fI fs0 (mh_fI fs0 (mh_fI fs0 (mh_fA (fun x55 => (mh_fI fs0 (mh_fA (fun x59 => (mh_fA (fun x61 => (mh_fA (fun x63 => (mh_fB (mh_Fr_pI fs0 (mh_si 0 rfl)) (fun s65 fs65 => (mh_fB (mh_Fr_pI fs65 (mh_si 1 rfl)) (fun s67 fs67 => (mh_fB (mh_Fr_pI fs67 (mh_si 2 rfl)) (fun s69 fs69 => (mh_fA (fun x71 => (mh_fA (fun x73 => (mh_fA (fun x75 => (mh_fB (mh_Fr_pI fs69 (mh_sj 3 rfl)) (fun s77 fs77 => fs77)))))))))))))))))))))))))))))))))))
theorem fr_eX9_keep (s0 : mh_H) (hp : mh_p3 s0) : mh_FrP S_eX9_keep s0 (f_eX9_keep s0) := by
  have fs0 : mh_Fr S_eX9_keep s0 s0 := ⟨mh_F_rf, hp⟩
  unfold f_eX9_keep
  exact (mh_fB (mh_Fr_tv fs0 (fr_eX8_copyFrom s0 7 (Or.inr (Or.inl rfl)) 1 (Or.inl rfl) fs0.2) (by decide +kernel)) (fun s9 fs9 => (mh_fB (mh_Fr_pI fs9 (mh_sj 8 rfl)) (fun s11 fs11 => (mh_fA (fun x13 => fs11))))))
theorem fr_eX9_undo (s0 : mh_H) (hp : mh_p3 s0) : mh_FrP S_eX9_undo s0 (f_eX9_undo s0) := by
  have fs0 : mh_Fr S_eX9_undo s0 s0 := ⟨mh_F_rf, hp⟩
  unfold f_eX9_undo
  exact (mh_fA (fun x7 => (mh_fI fs0 (mh_fB (mh_Fr_tv fs0 (fr_eX8_copyFrom s0 1 (Or.inl rfl) 7 (Or.inr (Or.inl rfl)) fs0.2) (by decide +kernel)) (fun s11 fs11 => fs11)))))
theorem fr_l_eX9_passTrial_33_2 (s0 : mh_H) (hp : mh_p3 s0) (p1 : Int32) : ∀ (n : Nat) (s266 : mh_H) (x265 : Int32), mh_Fr S_eX9_passTrial s0 s266 → mh_Fr S_eX9_passTrial s0 (l_eX9_passTrial_33_2 p1 n s266 x265) := by
  have fs0 : mh_Fr S_eX9_passTrial s0 s0 := ⟨mh_F_rf, hp⟩
  intro n
  induction n with
  | zero => intro s266 x265 fs266; exact fs266
  | succ n ih =>
    intro s266 x265 fs266
    have hlo_33_2 := ih
    rw [l_eX9_passTrial_33_2_s]
    unfold ls_eX9_passTrial_33_2
    exact (mh_fI (mh_fK (fs266.2.1) (fun k279 hk279 => (mh_fB (mh_Fr_tv fs266 (fr_eX0_pass s266 13 (Or.inr (Or.inr rfl)) k279 hk279 fs266.2) (by rcases hk279 with rfl | rfl <;> decide +kernel)) (fun s281 fs281 => (mh_fA (fun x283 => (hlo_33_2 s281 x283 fs281))))))) fs266)
theorem fr_j_eX9_passTrial_31_1 (s0 : mh_H) (hp : mh_p3 s0) (s108 : mh_H) (p1 : Int32) (fs108 : mh_Fr S_eX9_passTrial s0 s108) : mh_Fr S_eX9_passTrial s0 (j_eX9_passTrial_31_1 s108 p1) := by
  have fs0 : mh_Fr S_eX9_passTrial s0 s0 := ⟨mh_F_rf, hp⟩
  unfold j_eX9_passTrial_31_1
  exact (fr_l_eX9_passTrial_33_2 s0 hp p1 61 s108 (0 : Int32) fs108)
theorem fr_eX9_passTrial (s0 : mh_H) (p1 : Int32) (p2 : Int32) (hp : mh_p3 s0) : mh_Fr S_eX9_passTrial s0 (f_eX9_passTrial s0 p1 p2) := by
  have fs0 : mh_Fr S_eX9_passTrial s0 s0 := ⟨mh_F_rf, hp⟩
  unfold f_eX9_passTrial
  exact (mh_fB (mh_Fr_tv fs0 (fr_eX8_copyFrom s0 13 (Or.inr (Or.inr rfl)) 1 (Or.inl rfl) fs0.2) (by decide +kernel)) (fun s100 fs100 => (mh_fA (fun x102 => (mh_fI (fr_j_eX9_passTrial_31_1 s0 hp s100 p1 fs100) (mh_fB (mh_Fr_pI fs100 (mh_si 1 rfl)) (fun s286 fs286 => (fr_j_eX9_passTrial_31_1 s0 hp s286 p1 fs286))))))))
theorem fr_l_eX9_band_37_1 (s0 : mh_H) (hp : mh_p3 s0) (p1 : Int32) (p2 : Int32) : ∀ (n : Nat) (s240 : mh_H) (x238 : Int32) (x239 : Int32), mh_Fr S_eX9_band s0 s240 → mh_FrP S_eX9_band s0 (l_eX9_band_37_1 p1 p2 n s240 x238 x239) := by
  have fs0 : mh_Fr S_eX9_band s0 s0 := ⟨mh_F_rf, hp⟩
  intro n
  induction n with
  | zero => intro s240 x238 x239 fs240; exact fs240
  | succ n ih =>
    intro s240 x238 x239 fs240
    have hlo_37_1 := ih
    rw [l_eX9_band_37_1_s]
    unfold ls_eX9_band_37_1
    exact (mh_fI (mh_fK (fs240.2.1) (fun k260 hk260 => (mh_fB (mh_Fr_tv fs240 (fr_eX0_pass s240 13 (Or.inr (Or.inr rfl)) k260 hk260 fs240.2) (by rcases hk260 with rfl | rfl <;> decide +kernel)) (fun s262 fs262 => (mh_fA (fun x264 => (mh_fA (fun x267 => (mh_fA (fun x269 => (hlo_37_1 s262 x269 x267 fs262))))))))))) (mh_fI fs240 fs240))
theorem fr_eX9_band (s0 : mh_H) (p1 : Int32) (p2 : Int32) (hp : mh_p3 s0) : mh_FrP S_eX9_band s0 (f_eX9_band s0 p1 p2) := by
  have fs0 : mh_Fr S_eX9_band s0 s0 := ⟨mh_F_rf, hp⟩
  unfold f_eX9_band
  exact (mh_fA (fun x136 => (mh_fI fs0 (mh_fI fs0 (mh_fI fs0 (mh_fB (mh_Fr_tv fs0 (fr_eX8_copyFrom s0 13 (Or.inr (Or.inr rfl)) 1 (Or.inl rfl) fs0.2) (by decide +kernel)) (fun s143 fs143 => (fr_l_eX9_band_37_1 s0 hp p1 p2 61 s143 (0 : Int32) (0 : Int32) fs143))))))))
theorem fr_eX9_cell (s0 : mh_H) (p1 : Int32) (p2 : Int32) (p3 : Int32) (hp : mh_p3 s0) : mh_FrP S_eX9_cell s0 (f_eX9_cell s0 p1 p2 p3) := by
  have fs0 : mh_Fr S_eX9_cell s0 s0 := ⟨mh_F_rf, hp⟩
  unfold f_eX9_cell
  exact (mh_fA (fun x39 => (mh_fI fs0 (mh_fA (fun x43 => (mh_fA (fun x45 => (mh_fI (mh_fA (fun x48 => fs0)) (mh_fI (mh_fA (fun x50 => fs0)) (mh_fI (mh_fA (fun x52 => fs0)) (mh_fI (mh_fA (fun x54 => fs0)) (mh_fI (mh_fK (fs0.2.1) (fun k57 hk57 => (mh_fC (mh_Fr_tl fs0 (fr_eX1_mist s0 1 (Or.inl rfl) k57 hk57 x45 fs0.2) (by rcases hk57 with rfl | rfl <;> decide +kernel)) (fun x58 s59 fs59 => fs59)))) (mh_fI (mh_fK (fs0.2.1) (fun k62 hk62 => (mh_fC (mh_Fr_tl fs0 (fr_eX1_top s0 1 (Or.inl rfl) k62 hk62 x45 fs0.2) (by rcases hk62 with rfl | rfl <;> decide +kernel)) (fun x63 s64 fs64 => (mh_fA (fun x66 => fs64)))))) (mh_fI (mh_fK (fs0.2.1) (fun k70 hk70 => (mh_fC (mh_Fr_tl fs0 (fr_eX1_yards s0 1 (Or.inl rfl) k70 hk70 x45 fs0.2) (by rcases hk70 with rfl | rfl <;> decide +kernel)) (fun x71 s72 fs72 => fs72)))) (mh_fI (mh_fA (fun x74 => fs0)) fs0)))))))))))))))
theorem fr_l_eX9_check_44_1 (s0 : mh_H) (hp : mh_p3 s0) (s182 : mh_H) (p1 : Int32) (p2 : Int32) (fs182 : mh_Fr S_eX9_check s0 s182) : ∀ (n : Nat) (x309 : Int32), mh_FrP S_eX9_check s0 (l_eX9_check_44_1 s182 p1 p2 n x309) := by
  have fs0 : mh_Fr S_eX9_check s0 s0 := ⟨mh_F_rf, hp⟩
  intro n
  induction n with
  | zero => intro x309; exact fs182
  | succ n ih =>
    intro x309
    have hlo_44_1 := ih
    rw [l_eX9_check_44_1_s]
    unfold ls_eX9_check_44_1
    exact (mh_fI (mh_fA (fun x325 => (mh_fA (fun x328 => (mh_fA (fun x330 => (mh_fA (fun x332 => (mh_fI (mh_fA (fun x335 => (hlo_44_1 x335))) fs182))))))))) fs182)
theorem fr_eX9_check (s0 : mh_H) (p1 : Int32) (p2 : Int32) (hp : mh_p3 s0) : mh_FrP S_eX9_check s0 (f_eX9_check s0 p1 p2) := by
  have fs0 : mh_Fr S_eX9_check s0 s0 := ⟨mh_F_rf, hp⟩
  unfold f_eX9_check
  exact (mh_fA (fun x169 => (mh_fI fs0 (mh_fA (fun x173 => (mh_fI fs0 (mh_fA (fun x177 => (mh_fA (fun x179 => (mh_fI fs0 (mh_fB (mh_Fr_pI fs0 (mh_sj 0 rfl)) (fun s182 fs182 => (fr_l_eX9_check_44_1 s0 hp s182 p1 p2 fs182 13 (0 : Int32)))))))))))))))
theorem fr_j_eX9_dam_101_2 (s0 : mh_H) (hp : mh_p3 s0) (lo_43_1 : mh_H → Int32 → Int32 → Int32 → Int32 × mh_H) (s614 : mh_H) (x575 : Int32) (x612 : Int32) (x613 : Int32) (hlo_43_1 : ∀ (s578 : mh_H) (x575 : Int32) (x576 : Int32) (x577 : Int32), mh_Fr S_eX9_dam s0 s578 → mh_FrP S_eX9_dam s0 (lo_43_1 s578 x575 x576 x577)) (fs614 : mh_Fr S_eX9_dam s0 s614) : mh_FrP S_eX9_dam s0 (j_eX9_dam_101_2 lo_43_1 s614 x575 x612 x613) := by
  have fs0 : mh_Fr S_eX9_dam s0 s0 := ⟨mh_F_rf, hp⟩
  unfold j_eX9_dam_101_2
  exact (mh_fA (fun x617 => (hlo_43_1 s614 x617 x613 x612 fs614)))
theorem fr_l_eX9_dam_43_1 (s0 : mh_H) (hp : mh_p3 s0) (p1 : Int32) (p2 : Int32) (p3 : Int32) : ∀ (n : Nat) (s578 : mh_H) (x575 : Int32) (x576 : Int32) (x577 : Int32), mh_Fr S_eX9_dam s0 s578 → mh_FrP S_eX9_dam s0 (l_eX9_dam_43_1 p1 p2 p3 n s578 x575 x576 x577) := by
  have fs0 : mh_Fr S_eX9_dam s0 s0 := ⟨mh_F_rf, hp⟩
  intro n
  induction n with
  | zero => intro s578 x575 x576 x577 fs578; exact fs578
  | succ n ih =>
    intro s578 x575 x576 x577 fs578
    have hlo_43_1 := ih
    rw [l_eX9_dam_43_1_s]
    unfold ls_eX9_dam_43_1
    exact (mh_fI (mh_fI (mh_fI (fr_j_eX9_dam_101_2 s0 hp (l_eX9_dam_43_1 p1 p2 p3 n) s578 x575 x577 x576 hlo_43_1 fs578) (mh_fB (mh_Fr_tv fs578 (fr_eX9_passTrial s578 p2 x575 fs578.2) (by decide +kernel)) (fun s621 fs621 => (mh_fA (fun x623 => (mh_fI (fr_j_eX9_dam_101_2 s0 hp (l_eX9_dam_43_1 p1 p2 p3 n) s621 x575 x575 x623 hlo_43_1 fs621) (fr_j_eX9_dam_101_2 s0 hp (l_eX9_dam_43_1 p1 p2 p3 n) s621 x575 x577 x576 hlo_43_1 fs621))))))) (mh_fI fs578 fs578)) (mh_fI fs578 fs578))
theorem fr_eX9_dam (s0 : mh_H) (p1 : Int32) (p2 : Int32) (p3 : Int32) (hp : mh_p3 s0) : mh_FrP S_eX9_dam s0 (f_eX9_dam s0 p1 p2 p3) := by
  have fs0 : mh_Fr S_eX9_dam s0 s0 := ⟨mh_F_rf, hp⟩
  unfold f_eX9_dam
  exact (mh_fA (fun x309 => (mh_fI fs0 (mh_fI fs0 (mh_fI fs0 (mh_fA (fun x315 => (mh_fI fs0 (fr_l_eX9_dam_43_1 s0 hp p1 p2 p3 145 s0 (0 : Int32) (10000 : Int32) (-2 : Int32) fs0)))))))))
theorem fr_l_eX9_draw_19_1 (s0 : mh_H) (hp : mh_p3 s0) (p1 : Int32) (x117 : Int32) : ∀ (n : Nat) (s196 : mh_H) (x195 : Int32), mh_Fr S_eX9_draw s0 s196 → mh_FrP S_eX9_draw s0 (l_eX9_draw_19_1 p1 x117 n s196 x195) := by
  have fs0 : mh_Fr S_eX9_draw s0 s0 := ⟨mh_F_rf, hp⟩
  intro n
  induction n with
  | zero => intro s196 x195 fs196; exact fs196
  | succ n ih =>
    intro s196 x195 fs196
    have hlo_19_1 := ih
    rw [l_eX9_draw_19_1_s]
    unfold ls_eX9_draw_19_1
    exact (mh_fI (mh_fB (mh_Fr_tv fs196 (fr_eX8_drawWind s196 1 (Or.inl rfl) fs196.2) (by decide +kernel)) (fun s216 fs216 => (mh_fK (fs216.2.1) (fun k219 hk219 => (mh_fB (mh_Fr_tv fs216 (fr_eX0_pass s216 1 (Or.inl rfl) k219 hk219 fs216.2) (by rcases hk219 with rfl | rfl <;> decide +kernel)) (fun s221 fs221 => (mh_fA (fun x223 => (hlo_19_1 s221 x223 fs221))))))))) (mh_fA (fun x211 => (mh_fA (fun x213 => fs196)))))
theorem fr_eX9_draw (s0 : mh_H) (p1 : Int32) (hp : mh_p3 s0) : mh_FrP S_eX9_draw s0 (f_eX9_draw s0 p1) := by
  have fs0 : mh_Fr S_eX9_draw s0 s0 := ⟨mh_F_rf, hp⟩
  unfold f_eX9_draw
  exact (mh_fA (fun x113 => (mh_fI fs0 (mh_fA (fun x117 => (fr_l_eX9_draw_19_1 s0 hp p1 x117 61 s0 (0 : Int32) fs0))))))
theorem fr_j_eX9_edge_133_3 (s0 : mh_H) (hp : mh_p3 s0) (lo_51_2 : Int32 → Int32 → Int32 → Int32 → Int32 × mh_H) (x3141 : Int32) (x3200 : Int32) (x3201 : Int32) (x3202 : Int32) (hlo_51_2 : ∀ (x3141 : Int32) (x3142 : Int32) (x3143 : Int32) (x3144 : Int32), mh_FrP S_eX9_edge s0 (lo_51_2 x3141 x3142 x3143 x3144)) : mh_FrP S_eX9_edge s0 (j_eX9_edge_133_3 lo_51_2 x3141 x3200 x3201 x3202) := by
  have fs0 : mh_Fr S_eX9_edge s0 s0 := ⟨mh_F_rf, hp⟩
  unfold j_eX9_edge_133_3
  exact (mh_fA (fun x3205 => (hlo_51_2 x3205 x3200 x3201 x3202)))
theorem fr_l_eX9_edge_51_2 (s0 : mh_H) (hp : mh_p3 s0) (lo_38_1 : Int32 → Int32 → Int32 → Int32 → Int32 × mh_H) (s1610 : mh_H) (x3007 : Int32) (hlo_38_1 : ∀ (x3007 : Int32) (x3008 : Int32) (x3009 : Int32) (x3010 : Int32), mh_FrP S_eX9_edge s0 (lo_38_1 x3007 x3008 x3009 x3010)) (fs1610 : mh_Fr S_eX9_edge s0 s1610) : ∀ (n : Nat) (x3141 : Int32) (x3142 : Int32) (x3143 : Int32) (x3144 : Int32), mh_FrP S_eX9_edge s0 (l_eX9_edge_51_2 lo_38_1 s1610 x3007 n x3141 x3142 x3143 x3144) := by
  have fs0 : mh_Fr S_eX9_edge s0 s0 := ⟨mh_F_rf, hp⟩
  intro n
  induction n with
  | zero => intro x3141 x3142 x3143 x3144; exact fs1610
  | succ n ih =>
    intro x3141 x3142 x3143 x3144
    have hlo_51_2 := ih
    rw [l_eX9_edge_51_2_s]
    unfold ls_eX9_edge_51_2
    exact (mh_fI (mh_fA (fun x3179 => (mh_fI (fr_j_eX9_edge_133_3 s0 hp (l_eX9_edge_51_2 lo_38_1 s1610 x3007 n) x3141 x3142 x3143 x3144 hlo_51_2) (mh_fA (fun x3208 => (mh_fA (fun x3210 => (mh_fA (fun x3212 => (mh_fA (fun x3214 => (mh_fI (mh_fA (fun x3223 => (fr_j_eX9_edge_133_3 s0 hp (l_eX9_edge_51_2 lo_38_1 s1610 x3007 n) x3141 x3007 x3141 x3223 hlo_51_2))) (fr_j_eX9_edge_133_3 s0 hp (l_eX9_edge_51_2 lo_38_1 s1610 x3007 n) x3141 x3142 x3143 x3144 hlo_51_2))))))))))))) (mh_fA (fun x3177 => (hlo_38_1 x3177 x3144 x3143 x3142))))
theorem fr_l_eX9_edge_38_1 (s0 : mh_H) (hp : mh_p3 s0) (s1610 : mh_H) (p1 : Int32) (fs1610 : mh_Fr S_eX9_edge s0 s1610) : ∀ (n : Nat) (x3007 : Int32) (x3008 : Int32) (x3009 : Int32) (x3010 : Int32), mh_FrP S_eX9_edge s0 (l_eX9_edge_38_1 s1610 p1 n x3007 x3008 x3009 x3010) := by
  have fs0 : mh_Fr S_eX9_edge s0 s0 := ⟨mh_F_rf, hp⟩
  intro n
  induction n with
  | zero => intro x3007 x3008 x3009 x3010; exact fs1610
  | succ n ih =>
    intro x3007 x3008 x3009 x3010
    have hlo_38_1 := ih
    rw [l_eX9_edge_38_1_s]
    unfold ls_eX9_edge_38_1
    exact (mh_fI (mh_fA (fun x3112 => (fr_l_eX9_edge_51_2 s0 hp (l_eX9_edge_38_1 s1610 p1 n) s1610 x3007 hlo_38_1 fs1610 20 x3112 x3010 x3009 x3008))) (mh_fI fs1610 (mh_fI fs1610 fs1610)))
theorem fr_eX9_edge (s0 : mh_H) (p1 : Int32) (hp : mh_p3 s0) : mh_FrP S_eX9_edge s0 (f_eX9_edge s0 p1) := by
  have fs0 : mh_Fr S_eX9_edge s0 s0 := ⟨mh_F_rf, hp⟩
  unfold f_eX9_edge
  exact (mh_fA (fun x1603 => (mh_fI fs0 (mh_fK (fs0.2.1) (fun k1608 hk1608 => (mh_fB (mh_Fr_tv fs0 (fr_eX5_look s0 1 (Or.inl rfl) k1608 hk1608 fs0.2) (by rcases hk1608 with rfl | rfl <;> decide +kernel)) (fun s1610 fs1610 => (fr_l_eX9_edge_38_1 s0 hp s1610 p1 fs1610 21 (0 : Int32) (-2 : Int32) (-2 : Int32) (-2 : Int32)))))))))
theorem fr_l_eX9_held_15_1 (s0 : mh_H) (hp : mh_p3 s0) (p1 : Int32) (p2 : Int32) : ∀ (n : Nat) (s341 : mh_H) (x339 : Int32) (x340 : Int32), mh_Fr S_eX9_held s0 s341 → mh_FrP S_eX9_held s0 (l_eX9_held_15_1 p1 p2 n s341 x339 x340) := by
  have fs0 : mh_Fr S_eX9_held s0 s0 := ⟨mh_F_rf, hp⟩
  intro n
  induction n with
  | zero => intro s341 x339 x340 fs341; exact fs341
  | succ n ih =>
    intro s341 x339 x340 fs341
    have hlo_15_1 := ih
    rw [l_eX9_held_15_1_s]
    unfold ls_eX9_held_15_1
    exact (mh_fA (fun x366 => (mh_fI (mh_fK (fs341.2.1) (fun k370 hk370 => (mh_fA (fun x371 => (mh_fA (fun x373 => (mh_fA (fun x375 => (mh_fC (mh_Fr_tl fs341 (fr_eX1_saysMist s341 k370 hk370 x371 x373 x375 fs341.2) (by rcases hk370 with rfl | rfl <;> decide +kernel)) (fun x377 s378 fs378 => (mh_fA (fun x380 => (mh_fA (fun x383 => (mh_fA (fun x385 => (hlo_15_1 s378 x385 x383 fs378))))))))))))))))) fs341)))
theorem fr_eX9_held (s0 : mh_H) (p1 : Int32) (p2 : Int32) (hp : mh_p3 s0) : mh_FrP S_eX9_held s0 (f_eX9_held s0 p1 p2) := by
  have fs0 : mh_Fr S_eX9_held s0 s0 := ⟨mh_F_rf, hp⟩
  unfold f_eX9_held
  exact (mh_fA (fun x194 => (mh_fI fs0 (fr_l_eX9_held_15_1 s0 hp p1 p2 61 s0 (0 : Int32) (0 : Int32) fs0))))
theorem fr_eX9_lid (s0 : mh_H) (p1 : Int32) (p2 : Int32) (p3 : Int32) (p4 : Int32) (hp : mh_p3 s0) : mh_FrP S_eX9_lid s0 (f_eX9_lid s0 p1 p2 p3 p4) := by
  have fs0 : mh_Fr S_eX9_lid s0 s0 := ⟨mh_F_rf, hp⟩
  unfold f_eX9_lid
  exact (mh_fI fs0 (mh_fI fs0 (mh_fI fs0 (mh_fI fs0 (mh_fI fs0 (mh_fI fs0 (mh_fA (fun x26 => (mh_fI fs0 (mh_fC (mh_Fr_tl fs0 (fr_eX2_breaking s0 p1 p2 p3 fs0.2) (by decide +kernel)) (fun y30 s31 fs31 => (mh_fA (fun y33 => (mh_fA (fun y36 => fs31)))))))))))))))
theorem fr_j_eX9_night_152_2 (s0 : mh_H) (hp : mh_p3 s0) (lo_49_1 : mh_H → Int32 → Int32 → Int32 → Int32 → Int32 → Int32 → Int32 × mh_H) (s2007 : mh_H) (x1946 : Int32) (x2028 : Int32) (x2029 : Int32) (x2030 : Int32) (x2031 : Int32) (x2032 : Int32) (hlo_49_1 : ∀ (s1952 : mh_H) (x1946 : Int32) (x1947 : Int32) (x1948 : Int32) (x1949 : Int32) (x1950 : Int32) (x1951 : Int32), mh_Fr S_eX9_night s0 s1952 → mh_FrP S_eX9_night s0 (lo_49_1 s1952 x1946 x1947 x1948 x1949 x1950 x1951)) (fs2007 : mh_Fr S_eX9_night s0 s2007) : mh_FrP S_eX9_night s0 (j_eX9_night_152_2 lo_49_1 s2007 x1946 x2028 x2029 x2030 x2031 x2032) := by
  have fs0 : mh_Fr S_eX9_night s0 s0 := ⟨mh_F_rf, hp⟩
  unfold j_eX9_night_152_2
  exact (mh_fA (fun x2035 => (hlo_49_1 s2007 x2035 x2028 x2032 x2031 x2030 x2029 fs2007)))
theorem fr_j_eX9_night_121_3 (s0 : mh_H) (hp : mh_p3 s0) (lo_49_1 : mh_H → Int32 → Int32 → Int32 → Int32 → Int32 → Int32 → Int32 × mh_H) (s2007 : mh_H) (x1946 : Int32) (x1947 : Int32) (x1950 : Int32) (x1951 : Int32) (x2043 : Int32) (x2044 : Int32) (hlo_49_1 : ∀ (s1952 : mh_H) (x1946 : Int32) (x1947 : Int32) (x1948 : Int32) (x1949 : Int32) (x1950 : Int32) (x1951 : Int32), mh_Fr S_eX9_night s0 s1952 → mh_FrP S_eX9_night s0 (lo_49_1 s1952 x1946 x1947 x1948 x1949 x1950 x1951)) (fs2007 : mh_Fr S_eX9_night s0 s2007) : mh_FrP S_eX9_night s0 (j_eX9_night_121_3 lo_49_1 s2007 x1946 x1947 x1950 x1951 x2043 x2044) := by
  have fs0 : mh_Fr S_eX9_night s0 s0 := ⟨mh_F_rf, hp⟩
  unfold j_eX9_night_121_3
  exact (mh_fA (fun x2054 => (mh_fA (fun x2056 => (mh_fI (mh_fA (fun x2061 => (fr_j_eX9_night_152_2 s0 hp lo_49_1 s2007 x1946 x2054 x2056 x2061 x2043 x2044 hlo_49_1 fs2007))) (fr_j_eX9_night_152_2 s0 hp lo_49_1 s2007 x1946 x2054 x1951 x1950 x2043 x2044 hlo_49_1 fs2007))))))
theorem fr_l_eX9_night_49_1 (s0 : mh_H) (hp : mh_p3 s0) (p1 : Int32) (p2 : Int32) : ∀ (n : Nat) (s1952 : mh_H) (x1946 : Int32) (x1947 : Int32) (x1948 : Int32) (x1949 : Int32) (x1950 : Int32) (x1951 : Int32), mh_Fr S_eX9_night s0 s1952 → mh_FrP S_eX9_night s0 (l_eX9_night_49_1 p1 p2 n s1952 x1946 x1947 x1948 x1949 x1950 x1951) := by
  have fs0 : mh_Fr S_eX9_night s0 s0 := ⟨mh_F_rf, hp⟩
  intro n
  induction n with
  | zero => intro s1952 x1946 x1947 x1948 x1949 x1950 x1951 fs1952; exact fs1952
  | succ n ih =>
    intro s1952 x1946 x1947 x1948 x1949 x1950 x1951 fs1952
    have hlo_49_1 := ih
    rw [l_eX9_night_49_1_s]
    unfold ls_eX9_night_49_1
    exact (mh_fI (mh_fK (fs1952.2.1) (fun k2000 hk2000 => (mh_fB (mh_Fr_tv fs1952 (fr_eX0_pass s1952 13 (Or.inr (Or.inr rfl)) k2000 hk2000 fs1952.2) (by rcases hk2000 with rfl | rfl <;> decide +kernel)) (fun s2002 fs2002 => (mh_fK (fs2002.2.1) (fun k2005 hk2005 => (mh_fB (mh_Fr_tv fs2002 (fr_eX6_look s2002 13 (Or.inr (Or.inr rfl)) k2005 hk2005 fs2002.2) (by rcases hk2005 with rfl | rfl <;> decide +kernel)) (fun s2007 fs2007 => (mh_fA (fun x2009 => (mh_fI (fr_j_eX9_night_152_2 s0 hp (l_eX9_night_49_1 p1 p2 n) s2007 x1946 x1947 x1951 x1950 x1949 x1948 hlo_49_1 fs2007) (mh_fI (mh_fA (fun x2064 => (mh_fA (fun x2066 => (fr_j_eX9_night_121_3 s0 hp (l_eX9_night_49_1 p1 p2 n) s2007 x1946 x1947 x1950 x1951 x2064 x2066 hlo_49_1 fs2007))))) (fr_j_eX9_night_121_3 s0 hp (l_eX9_night_49_1 p1 p2 n) s2007 x1946 x1947 x1950 x1951 x1949 x1948 hlo_49_1 fs2007))))))))))))) (mh_fI fs1952 (mh_fI fs1952 (mh_fI fs1952 (mh_fI fs1952 fs1952)))))
theorem fr_eX9_night (s0 : mh_H) (p1 : Int32) (p2 : Int32) (hp : mh_p3 s0) : mh_FrP S_eX9_night s0 (f_eX9_night s0 p1 p2) := by
  have fs0 : mh_Fr S_eX9_night s0 s0 := ⟨mh_F_rf, hp⟩
  unfold f_eX9_night
  exact (mh_fA (fun x1018 => (mh_fI fs0 (mh_fA (fun x1022 => (mh_fI fs0 (mh_fB (mh_Fr_tv fs0 (fr_eX8_copyFrom s0 13 (Or.inr (Or.inr rfl)) 1 (Or.inl rfl) fs0.2) (by decide +kernel)) (fun s1027 fs1027 => (fr_l_eX9_night_49_1 s0 hp p1 p2 61 s1027 (0 : Int32) (0 : Int32) (-2 : Int32) (-2 : Int32) (-2 : Int32) (-2 : Int32) fs1027)))))))))
theorem fr_j_eX9_soonest_104_2 (s0 : mh_H) (hp : mh_p3 s0) (lo_62_1 : mh_H → Int32 → Int32 × mh_H) (s584 : mh_H) (p2 : Int32) (x551 : Int32) (x586 : Int32) (x589 : Int32) (hlo_62_1 : ∀ (s552 : mh_H) (x551 : Int32), mh_Fr S_eX9_soonest s0 s552 → mh_FrP S_eX9_soonest s0 (lo_62_1 s552 x551)) (fs584 : mh_Fr S_eX9_soonest s0 s584) : mh_FrP S_eX9_soonest s0 (j_eX9_soonest_104_2 lo_62_1 s584 p2 x551 x586 x589) := by
  have fs0 : mh_Fr S_eX9_soonest s0 s0 := ⟨mh_F_rf, hp⟩
  unfold j_eX9_soonest_104_2
  exact (mh_fC (mh_Fr_tl fs584 (fr_eX5_go s584 p2 x586 x589 fs584.2) (by decide +kernel)) (fun x601 s602 fs602 => (mh_fI (mh_fK (fs602.2.1) (fun k606 hk606 => (mh_fB (mh_Fr_tv fs602 (fr_eX0_pass s602 13 (Or.inr (Or.inr rfl)) k606 hk606 fs602.2) (by rcases hk606 with rfl | rfl <;> decide +kernel)) (fun s608 fs608 => (mh_fA (fun x610 => (hlo_62_1 s608 x610 fs608))))))) fs602)))
theorem fr_l_eX9_soonest_62_1 (s0 : mh_H) (hp : mh_p3 s0) (p2 : Int32) (p4 : Int32) : ∀ (n : Nat) (s552 : mh_H) (x551 : Int32), mh_Fr S_eX9_soonest s0 s552 → mh_FrP S_eX9_soonest s0 (l_eX9_soonest_62_1 p2 p4 n s552 x551) := by
  have fs0 : mh_Fr S_eX9_soonest s0 s0 := ⟨mh_F_rf, hp⟩
  intro n
  induction n with
  | zero => intro s552 x551 fs552; exact fs552
  | succ n ih =>
    intro s552 x551 fs552
    have hlo_62_1 := ih
    rw [l_eX9_soonest_62_1_s]
    unfold ls_eX9_soonest_62_1
    exact (mh_fI (mh_fK (fs552.2.1) (fun k582 hk582 => (mh_fB (mh_Fr_tv fs552 (fr_eX5_look s552 13 (Or.inr (Or.inr rfl)) k582 hk582 fs552.2) (by rcases hk582 with rfl | rfl <;> decide +kernel)) (fun s584 fs584 => (mh_fA (fun x586 => (mh_fI (fr_j_eX9_soonest_104_2 s0 hp (l_eX9_soonest_62_1 p2 p4 n) s584 p2 x551 x586 (1 : Int32) hlo_62_1 fs584) (fr_j_eX9_soonest_104_2 s0 hp (l_eX9_soonest_62_1 p2 p4 n) s584 p2 x551 x586 (0 : Int32) hlo_62_1 fs584)))))))) (mh_fA (fun x577 => (mh_fI fs552 fs552))))
theorem fr_eX9_soonest (s0 : mh_H) (p1 : Int32) (p2 : Int32) (p3 : Int32) (p4 : Int32) (hp : mh_p3 s0) : mh_FrP S_eX9_soonest s0 (f_eX9_soonest s0 p1 p2 p3 p4) := by
  have fs0 : mh_Fr S_eX9_soonest s0 s0 := ⟨mh_F_rf, hp⟩
  unfold f_eX9_soonest
  exact (mh_fA (fun x301 => (mh_fI fs0 (mh_fA (fun x305 => (mh_fI fs0 (mh_fA (fun x309 => (mh_fI fs0 (mh_fA (fun x313 => (mh_fI fs0 (mh_fB (mh_Fr_tv fs0 (fr_eX5_leave s0 p1 p3 fs0.2) (by decide +kernel)) (fun s318 fs318 => (mh_fB (mh_Fr_tv fs318 (fr_eX8_copyFrom s318 13 (Or.inr (Or.inr rfl)) 1 (Or.inl rfl) fs318.2) (by decide +kernel)) (fun s321 fs321 => (fr_l_eX9_soonest_62_1 s0 hp p2 p4 31 s321 (0 : Int32) fs321)))))))))))))))))
theorem fr_l_eX9_steps_19_1 (s0 : mh_H) (hp : mh_p3 s0) (p1 : Int32) (x93 : Int32) : ∀ (n : Nat) (s154 : mh_H) (x153 : Int32), mh_Fr S_eX9_steps s0 s154 → mh_FrP S_eX9_steps s0 (l_eX9_steps_19_1 p1 x93 n s154 x153) := by
  have fs0 : mh_Fr S_eX9_steps s0 s0 := ⟨mh_F_rf, hp⟩
  intro n
  induction n with
  | zero => intro s154 x153 fs154; exact fs154
  | succ n ih =>
    intro s154 x153 fs154
    have hlo_19_1 := ih
    rw [l_eX9_steps_19_1_s]
    unfold ls_eX9_steps_19_1
    exact (mh_fI (mh_fK (fs154.2.1) (fun k171 hk171 => (mh_fB (mh_Fr_tv fs154 (fr_eX0_pass s154 1 (Or.inl rfl) k171 hk171 fs154.2) (by rcases hk171 with rfl | rfl <;> decide +kernel)) (fun s173 fs173 => (mh_fA (fun x175 => (hlo_19_1 s173 x175 fs173))))))) (mh_fA (fun x166 => (mh_fA (fun x168 => fs154)))))
theorem fr_eX9_steps (s0 : mh_H) (p1 : Int32) (hp : mh_p3 s0) : mh_FrP S_eX9_steps s0 (f_eX9_steps s0 p1) := by
  have fs0 : mh_Fr S_eX9_steps s0 s0 := ⟨mh_F_rf, hp⟩
  unfold f_eX9_steps
  exact (mh_fA (fun x89 => (mh_fI fs0 (mh_fA (fun x93 => (fr_l_eX9_steps_19_1 s0 hp p1 x93 61 s0 (0 : Int32) fs0))))))
theorem fr_eX9_sums (s0 : mh_H) (p1 : Int32) (hp : mh_p3 s0) : mh_FrP S_eX9_sums s0 (f_eX9_sums s0 p1) := by
  have fs0 : mh_Fr S_eX9_sums s0 s0 := ⟨mh_F_rf, hp⟩
  unfold f_eX9_sums
  exact (mh_fI (mh_fA (fun x25 => fs0)) (mh_fI (mh_fA (fun x28 => fs0)) (mh_fI (mh_fA (fun x31 => fs0)) (mh_fI (mh_fK (fs0.2.1) (fun k34 hk34 => (mh_fB (mh_Fr_tv fs0 (fr_eX6_look s0 1 (Or.inl rfl) k34 hk34 fs0.2) (by rcases hk34 with rfl | rfl <;> decide +kernel)) (fun s36 fs36 => (mh_fA (fun x38 => fs36)))))) (mh_fI (mh_fK (fs0.2.1) (fun k41 hk41 => (mh_fB (mh_Fr_tv fs0 (fr_eX6_look s0 1 (Or.inl rfl) k41 hk41 fs0.2) (by rcases hk41 with rfl | rfl <;> decide +kernel)) (fun s43 fs43 => (mh_fA (fun x45 => fs43)))))) fs0)))))
theorem fr_j_eX9_sun_108_2 (s0 : mh_H) (hp : mh_p3 s0) (lo_66_1 : mh_H → Int32 → Int32 → Int32 × mh_H) (s1065 : mh_H) (x1033 : Int32) (x1070 : Int32) (hlo_66_1 : ∀ (s1035 : mh_H) (x1033 : Int32) (x1034 : Int32), mh_Fr S_eX9_sun s0 s1035 → mh_FrP S_eX9_sun s0 (lo_66_1 s1035 x1033 x1034)) (fs1065 : mh_Fr S_eX9_sun s0 s1065) : mh_FrP S_eX9_sun s0 (j_eX9_sun_108_2 lo_66_1 s1065 x1033 x1070) := by
  have fs0 : mh_Fr S_eX9_sun s0 s0 := ⟨mh_F_rf, hp⟩
  unfold j_eX9_sun_108_2
  exact (mh_fA (fun x1073 => (hlo_66_1 s1065 x1073 x1070 fs1065)))
theorem fr_l_eX9_sun_66_1 (s0 : mh_H) (hp : mh_p3 s0) (p3 : Int32) (p4 : Int32) (x548 : Int32) : ∀ (n : Nat) (s1035 : mh_H) (x1033 : Int32) (x1034 : Int32), mh_Fr S_eX9_sun s0 s1035 → mh_FrP S_eX9_sun s0 (l_eX9_sun_66_1 p3 p4 x548 n s1035 x1033 x1034) := by
  have fs0 : mh_Fr S_eX9_sun s0 s0 := ⟨mh_F_rf, hp⟩
  intro n
  induction n with
  | zero => intro s1035 x1033 x1034 fs1035; exact fs1035
  | succ n ih =>
    intro s1035 x1033 x1034 fs1035
    have hlo_66_1 := ih
    rw [l_eX9_sun_66_1_s]
    unfold ls_eX9_sun_66_1
    exact (mh_fI (mh_fK (fs1035.2.1) (fun k1058 hk1058 => (mh_fB (mh_Fr_tv fs1035 (fr_eX0_pass s1035 13 (Or.inr (Or.inr rfl)) k1058 hk1058 fs1035.2) (by rcases hk1058 with rfl | rfl <;> decide +kernel)) (fun s1060 fs1060 => (mh_fK (fs1060.2.1) (fun k1063 hk1063 => (mh_fC (mh_Fr_tl fs1060 (fr_eX1_top s1060 13 (Or.inr (Or.inr rfl)) k1063 hk1063 x548 fs1060.2) (by rcases hk1063 with rfl | rfl <;> decide +kernel)) (fun x1064 s1065 fs1065 => (mh_fI (fr_j_eX9_sun_108_2 s0 hp (l_eX9_sun_66_1 p3 p4 x548 n) s1065 x1033 x1034 hlo_66_1 fs1065) (mh_fA (fun x1076 => (fr_j_eX9_sun_108_2 s0 hp (l_eX9_sun_66_1 p3 p4 x548 n) s1065 x1033 x1076 hlo_66_1 fs1065)))))))))))) fs1035)
theorem fr_eX9_sun (s0 : mh_H) (p1 : Int32) (p2 : Int32) (p3 : Int32) (p4 : Int32) (hp : mh_p3 s0) : mh_FrP S_eX9_sun s0 (f_eX9_sun s0 p1 p2 p3 p4) := by
  have fs0 : mh_Fr S_eX9_sun s0 s0 := ⟨mh_F_rf, hp⟩
  unfold f_eX9_sun
  exact (mh_fA (fun x537 => (mh_fI fs0 (mh_fA (fun x541 => (mh_fI fs0 (mh_fI fs0 (mh_fA (fun x546 => (mh_fA (fun x548 => (mh_fA (fun x550 => (mh_fI fs0 (mh_fB (mh_Fr_tv fs0 (fr_eX8_copyFrom s0 13 (Or.inr (Or.inr rfl)) 1 (Or.inl rfl) fs0.2) (by decide +kernel)) (fun s554 fs554 => (fr_l_eX9_sun_66_1 s0 hp p3 p4 x548 61 s554 (0 : Int32) (0 : Int32) fs554)))))))))))))))))
theorem fr_eX9_works (s0 : mh_H) (p1 : Int32) (p2 : Int32) (p3 : Int32) (p4 : Int32) (hp : mh_p3 s0) : mh_FrP S_eX9_works s0 (f_eX9_works s0 p1 p2 p3 p4) := by
  have fs0 : mh_Fr S_eX9_works s0 s0 := ⟨mh_F_rf, hp⟩
  unfold f_eX9_works
  exact (mh_fA (fun x31 => (mh_fI fs0 (mh_fA (fun x35 => (mh_fI fs0 (mh_fA (fun x39 => (mh_fI fs0 (mh_fA (fun x43 => (mh_fA (fun x45 => (mh_fA (fun x47 => (mh_fI fs0 (mh_fB (mh_Fr_tv fs0 (fr_eX9_passTrial s0 p3 (-1 : Int32) fs0.2) (by decide +kernel)) (fun s51 fs51 => (mh_fB (mh_Fr_pA fs51 (List.mem_of_getElem? (i := 14) rfl)) (fun s53 fs53 => (mh_fB (mh_Fr_tv fs53 (fr_eX9_passTrial s53 p3 x45 fs53.2) (by decide +kernel)) (fun s56 fs56 => (mh_fA (fun x58 => fs56))))))))))))))))))))))))
theorem fr_eX10_does (s0 : mh_H) (p1 : Int32) (p2 : Int32) (hp : mh_p3 s0) : mh_Fr S_eX10_does s0 (f_eX10_does s0 p1 p2) := by
  have fs0 : mh_Fr S_eX10_does s0 s0 := ⟨mh_F_rf, hp⟩
  unfold f_eX10_does
  exact (mh_fA (fun x126 => (mh_fI (mh_fA (fun x129 => (mh_fI (mh_fA (fun x132 => (mh_fI (mh_fA (fun x136 => (mh_fB (mh_Fr_pI fs0 (mh_si 0 rfl)) (fun s138 fs138 => (mh_fA (fun x140 => (mh_fB (mh_Fr_pI fs138 (mh_si 1 rfl)) (fun s142 fs142 => fs142)))))))) fs0))) fs0))) (mh_fI (mh_fA (fun x240 => (mh_fI (mh_fA (fun x243 => (mh_fI (mh_fA (fun x247 => (mh_fB (mh_Fr_pI fs0 (mh_si 0 rfl)) (fun s249 fs249 => (mh_fA (fun x251 => (mh_fB (mh_Fr_pI fs249 (mh_si 1 rfl)) (fun s253 fs253 => fs253)))))))) fs0))) fs0))) (mh_fA (fun x145 => (mh_fI (mh_fA (fun x159 => (mh_fI (mh_fI (mh_fA (fun x174 => (mh_fI (mh_fB (mh_Fr_pI fs0 (mh_si 1 rfl)) (fun s189 fs189 => (mh_fA (fun x191 => (mh_fA (fun x196 => (mh_fB (mh_Fr_pI fs189 (mh_si 0 rfl)) (fun s199 fs199 => fs199)))))))) (mh_fB (mh_Fr_pI fs0 (mh_si 1 rfl)) (fun s177 fs177 => (mh_fA (fun x179 => (mh_fA (fun x184 => (mh_fB (mh_Fr_pI fs177 (mh_si 0 rfl)) (fun s187 fs187 => fs187))))))))))) (mh_fI (mh_fA (fun x213 => (mh_fI (mh_fB (mh_Fr_pI fs0 (mh_si 1 rfl)) (fun s228 fs228 => (mh_fA (fun x230 => (mh_fA (fun x235 => (mh_fB (mh_Fr_pI fs228 (mh_si 0 rfl)) (fun s238 fs238 => fs238)))))))) (mh_fB (mh_Fr_pI fs0 (mh_si 1 rfl)) (fun s216 fs216 => (mh_fA (fun x218 => (mh_fA (fun x223 => (mh_fB (mh_Fr_pI fs216 (mh_si 0 rfl)) (fun s226 fs226 => fs226))))))))))) (mh_fB (mh_Fr_pI fs0 (mh_si 1 rfl)) (fun s202 fs202 => (mh_fA (fun x204 => (mh_fA (fun x206 => (mh_fA (fun x208 => (mh_fB (mh_Fr_pI fs202 (mh_si 0 rfl)) (fun s211 fs211 => fs211)))))))))))) (mh_fB (mh_Fr_pI fs0 (mh_si 1 rfl)) (fun s162 fs162 => (mh_fA (fun x164 => (mh_fA (fun x166 => (mh_fA (fun x168 => (mh_fB (mh_Fr_pI fs162 (mh_si 0 rfl)) (fun s171 fs171 => fs171))))))))))))) (mh_fB (mh_Fr_pI fs0 (mh_si 1 rfl)) (fun s148 fs148 => (mh_fA (fun x150 => (mh_fA (fun x152 => (mh_fA (fun x154 => (mh_fB (mh_Fr_pI fs148 (mh_si 0 rfl)) (fun s157 fs157 => fs157)))))))))))))))))
theorem fr_l_eX10_goesThrough_5_1 (s0 : mh_H) (hp : mh_p3 s0) (p2 : Int32) : ∀ (n : Nat) (s227 : mh_H) (x225 : Int32) (x226 : Int32), mh_Fr S_eX10_goesThrough s0 s227 → mh_Fr S_eX10_goesThrough s0 (l_eX10_goesThrough_5_1 p2 n s227 x225 x226) := by
  have fs0 : mh_Fr S_eX10_goesThrough s0 s0 := ⟨mh_F_rf, hp⟩
  intro n
  induction n with
  | zero => intro s227 x225 x226 fs227; exact fs227
  | succ n ih =>
    intro s227 x225 x226 fs227
    have hlo_5_1 := ih
    rw [l_eX10_goesThrough_5_1_s]
    unfold ls_eX10_goesThrough_5_1
    exact (mh_fI (mh_fA (fun x286 => (mh_fI (mh_fA (fun x329 => (mh_fA (fun x333 => (mh_fB (mh_Fr_tv fs227 (fr_eX10_does s227 x286 x333 fs227.2) (by decide +kernel)) (fun s336 fs336 => (mh_fA (fun x338 => (hlo_5_1 s336 x338 x329 fs336))))))))) (mh_fI (mh_fA (fun x317 => (mh_fA (fun x321 => (mh_fA (fun x323 => (mh_fB (mh_Fr_pI fs227 (mh_si 1 rfl)) (fun s325 fs325 => (mh_fA (fun x327 => (hlo_5_1 s325 x327 x226 fs325))))))))))) (mh_fB (mh_Fr_pI fs227 (mh_si 0 rfl)) (fun s292 fs292 => (mh_fI (mh_fA (fun x309 => (mh_fB (mh_Fr_pI fs292 (mh_si 1 rfl)) (fun s311 fs311 => (mh_fA (fun x313 => (mh_fA (fun x315 => (hlo_5_1 s311 x315 x313 fs311))))))))) (mh_fA (fun x298 => (mh_fA (fun x300 => (mh_fB (mh_Fr_pI fs292 (mh_si 1 rfl)) (fun s303 fs303 => (mh_fA (fun x305 => (mh_fA (fun x307 => (hlo_5_1 s303 x307 x305 fs303)))))))))))))))))) fs227)
theorem fr_eX10_goesThrough (s0 : mh_H) (p1 : Int32) (p2 : Int32) (hp : mh_p3 s0) : mh_Fr S_eX10_goesThrough s0 (f_eX10_goesThrough s0 p1 p2) := by
  have fs0 : mh_Fr S_eX10_goesThrough s0 s0 := ⟨mh_F_rf, hp⟩
  unfold f_eX10_goesThrough
  exact (fr_l_eX10_goesThrough_5_1 s0 hp p2 201 s0 p1 (0 : Int32) fs0)
theorem fr_l_eX10_tellsBy_2_1 (s0 : mh_H) (hp : mh_p3 s0) (p1 : Int32) (p2 : Int32) : ∀ (n : Nat) (s284 : mh_H) (x283 : Int32), mh_Fr S_eX10_tellsBy s0 s284 → mh_FrP S_eX10_tellsBy s0 (l_eX10_tellsBy_2_1 p1 p2 n s284 x283) := by
  have fs0 : mh_Fr S_eX10_tellsBy s0 s0 := ⟨mh_F_rf, hp⟩
  intro n
  induction n with
  | zero => intro s284 x283 fs284; exact fs284
  | succ n ih =>
    intro s284 x283 fs284
    have hlo_2_1 := ih
    rw [l_eX10_tellsBy_2_1_s]
    unfold ls_eX10_tellsBy_2_1
    exact (mh_fA (fun x312 => (mh_fI (mh_fA (fun x315 => (mh_fI (mh_fA (fun x318 => (mh_fA (fun x320 => (mh_fB (mh_Fr_tv fs284 (fr_eX10_goesThrough s284 x318 x320 fs284.2) (by decide +kernel)) (fun s323 fs323 => (mh_fA (fun x325 => (mh_fI (mh_fA (fun x330 => (mh_fI (mh_fA (fun x333 => (mh_fB (mh_Fr_tv fs323 (fr_eX10_goesThrough s323 x333 x318 fs323.2) (by decide +kernel)) (fun s340 fs340 => (mh_fA (fun x342 => (mh_fI (mh_fA (fun x345 => (mh_fI fs340 (mh_fI fs340 fs340)))) fs340))))))) (mh_fA (fun x351 => (hlo_2_1 s323 x351 fs323)))))) (mh_fA (fun x328 => (hlo_2_1 s323 x328 fs323)))))))))))) (mh_fA (fun x353 => (hlo_2_1 s284 x353 fs284)))))) fs284)))
theorem fr_eX10_tellsBy (s0 : mh_H) (p1 : Int32) (p2 : Int32) (hp : mh_p3 s0) : mh_FrP S_eX10_tellsBy s0 (f_eX10_tellsBy s0 p1 p2) := by
  have fs0 : mh_Fr S_eX10_tellsBy s0 s0 := ⟨mh_F_rf, hp⟩
  unfold f_eX10_tellsBy
  exact (fr_l_eX10_tellsBy_2_1 s0 hp p1 p2 15 s0 (0 : Int32) fs0)
theorem fr_eX10_byCell (s0 : mh_H) (p1 : Int32) (p2 : Int32) (p3 : Int32) (p4 : Int32) (hp : mh_p3 s0) : mh_FrP S_eX10_byCell s0 (f_eX10_byCell s0 p1 p2 p3 p4) := by
  have fs0 : mh_Fr S_eX10_byCell s0 s0 := ⟨mh_F_rf, hp⟩
  unfold f_eX10_byCell
  exact (mh_fB (mh_Fr_pI fs0 (mh_sj 0 rfl)) (fun s14 fs14 => (mh_fB (mh_Fr_pI fs14 (mh_sj 1 rfl)) (fun s16 fs16 => (mh_fB (mh_Fr_pI fs16 (mh_sj 2 rfl)) (fun s18 fs18 => (mh_fB (mh_Fr_pI fs18 (mh_sj 3 rfl)) (fun s20 fs20 => (mh_fB (mh_Fr_pI fs20 (mh_sj 4 rfl)) (fun s22 fs22 => (mh_fC (mh_Fr_tl fs22 (fr_eX10_tellsBy s22 p1 p4 fs22.2) (by decide +kernel)) (fun x24 s25 fs25 => fs25))))))))))))
theorem fr_eX10_mistAt (s0 : mh_H) (p1 : Int32) (hp : mh_p3 s0) : mh_FrP S_eX10_mistAt s0 (f_eX10_mistAt s0 p1) := by
  have fs0 : mh_Fr S_eX10_mistAt s0 s0 := ⟨mh_F_rf, hp⟩
  unfold f_eX10_mistAt
  exact (mh_fC (mh_Fr_tl fs0 (fr_eX10_byCell s0 (109 : Int32) p1 (0 : Int32) (99 : Int32) fs0.2) (by decide +kernel)) (fun x4 s5 fs5 => fs5))
theorem fr_eX10_yardsAt (s0 : mh_H) (p1 : Int32) (hp : mh_p3 s0) : mh_FrP S_eX10_yardsAt s0 (f_eX10_yardsAt s0 p1) := by
  have fs0 : mh_Fr S_eX10_yardsAt s0 s0 := ⟨mh_F_rf, hp⟩
  unfold f_eX10_yardsAt
  exact (mh_fC (mh_Fr_tl fs0 (fr_eX10_mistAt s0 p1 fs0.2) (by decide +kernel)) (fun x7 s8 fs8 => (mh_fC (mh_Fr_tl fs8 (fr_eX10_byCell s8 (121 : Int32) p1 x7 (999 : Int32) fs8.2) (by decide +kernel)) (fun x10 s11 fs11 => fs11))))
theorem fr_l_eX10_misty_4_1 (s0 : mh_H) (hp : mh_p3 s0) : ∀ (n : Nat) (s351 : mh_H) (x349 : Int32) (x350 : Int32), mh_Fr S_eX10_misty s0 s351 → mh_FrP S_eX10_misty s0 (l_eX10_misty_4_1 n s351 x349 x350) := by
  have fs0 : mh_Fr S_eX10_misty s0 s0 := ⟨mh_F_rf, hp⟩
  intro n
  induction n with
  | zero => intro s351 x349 x350 fs351; exact fs351
  | succ n ih =>
    intro s351 x349 x350 fs351
    have hlo_4_1 := ih
    rw [l_eX10_misty_4_1_s]
    unfold ls_eX10_misty_4_1
    exact (mh_fI (mh_fC (mh_Fr_tl fs351 (fr_eX10_mistAt s351 x349 fs351.2) (by decide +kernel)) (fun x369 s370 fs370 => (mh_fI (mh_fA (fun x377 => (mh_fA (fun x379 => (hlo_4_1 s370 x379 x377 fs370))))) (mh_fA (fun x373 => (mh_fA (fun x375 => (hlo_4_1 s370 x375 x373 fs370)))))))) fs351)
theorem fr_eX10_misty (s0 : mh_H) (hp : mh_p3 s0) : mh_FrP S_eX10_misty s0 (f_eX10_misty s0) := by
  have fs0 : mh_Fr S_eX10_misty s0 s0 := ⟨mh_F_rf, hp⟩
  unfold f_eX10_misty
  exact (fr_l_eX10_misty_4_1 s0 hp 145 s0 (0 : Int32) (0 : Int32) fs0)
theorem fr_l_eX10_lowestMisty_2_1 (s0 : mh_H) (hp : mh_p3 s0) : ∀ (n : Nat) (s32 : mh_H) (x31 : Int32), mh_Fr S_eX10_lowestMisty s0 s32 → mh_FrP S_eX10_lowestMisty s0 (l_eX10_lowestMisty_2_1 n s32 x31) := by
  have fs0 : mh_Fr S_eX10_lowestMisty s0 s0 := ⟨mh_F_rf, hp⟩
  intro n
  induction n with
  | zero => intro s32 x31 fs32; exact fs32
  | succ n ih =>
    intro s32 x31 fs32
    have hlo_2_1 := ih
    rw [l_eX10_lowestMisty_2_1_s]
    unfold ls_eX10_lowestMisty_2_1
    exact (mh_fC (mh_Fr_tl fs32 (fr_eX10_mistAt s32 x31 fs32.2) (by decide +kernel)) (fun x41 s42 fs42 => (mh_fI (mh_fA (fun x45 => (hlo_2_1 s42 x45 fs42))) fs42)))
theorem fr_eX10_lowestMisty (s0 : mh_H) (hp : mh_p3 s0) : mh_FrP S_eX10_lowestMisty s0 (f_eX10_lowestMisty s0) := by
  have fs0 : mh_Fr S_eX10_lowestMisty s0 s0 := ⟨mh_F_rf, hp⟩
  unfold f_eX10_lowestMisty
  exact (fr_l_eX10_lowestMisty_2_1 s0 hp 144 s0 (0 : Int32) fs0)
theorem fr_l_eX10_cools_80_2 (s0 : mh_H) (hp : mh_p3 s0) : ∀ (n : Nat) (s1817 : mh_H) (x1816 : Int32), mh_Fr S_eX10_cools s0 s1817 → mh_Fr S_eX10_cools s0 (l_eX10_cools_80_2 n s1817 x1816) := by
  have fs0 : mh_Fr S_eX10_cools s0 s0 := ⟨mh_F_rf, hp⟩
  intro n
  induction n with
  | zero => intro s1817 x1816 fs1817; exact fs1817
  | succ n ih =>
    intro s1817 x1816 fs1817
    have hlo_80_2 := ih
    rw [l_eX10_cools_80_2_s]
    unfold ls_eX10_cools_80_2
    exact (mh_fI (mh_fA (fun x1832 => (mh_fB (mh_Fr_pI fs1817 (mh_si 9 rfl)) (fun s1834 fs1834 => (mh_fA (fun x1836 => (mh_fB (mh_Fr_pI fs1834 (mh_si 10 rfl)) (fun s1838 fs1838 => (mh_fA (fun x1840 => (hlo_80_2 s1838 x1840 fs1838))))))))))) fs1817)
theorem fr_l_eX10_cools_2_1 (s0 : mh_H) (hp : mh_p3 s0) : ∀ (n : Nat) (s1548 : mh_H) (x1547 : Int32), mh_Fr S_eX10_cools s0 s1548 → mh_Fr S_eX10_cools s0 (l_eX10_cools_2_1 n s1548 x1547) := by
  have fs0 : mh_Fr S_eX10_cools s0 s0 := ⟨mh_F_rf, hp⟩
  intro n
  induction n with
  | zero => intro s1548 x1547 fs1548; exact fs1548
  | succ n ih =>
    intro s1548 x1547 fs1548
    have hlo_2_1 := ih
    rw [l_eX10_cools_2_1_s]
    unfold ls_eX10_cools_2_1
    exact (mh_fI (mh_fA (fun x1842 => (mh_fC (mh_Fr_tl fs1548 (fr_eX10_byCell s1548 (99 : Int32) x1547 (0 : Int32) (99 : Int32) fs1548.2) (by decide +kernel)) (fun x1844 s1845 fs1845 => (mh_fA (fun x1847 => (mh_fA (fun x1849 => (mh_fB (mh_Fr_pI fs1845 (mh_si 7 rfl)) (fun s1852 fs1852 => (mh_fA (fun x1854 => (mh_fC (mh_Fr_tl fs1852 (fr_eX10_byCell s1852 (119 : Int32) x1547 (0 : Int32) (99 : Int32) fs1852.2) (by decide +kernel)) (fun x1856 s1857 fs1857 => (mh_fA (fun x1859 => (mh_fC (mh_Fr_tl fs1857 (fr_eX10_byCell s1857 (115 : Int32) x1547 (0 : Int32) (99 : Int32) fs1857.2) (by decide +kernel)) (fun x1861 s1862 fs1862 => (mh_fA (fun x1864 => (mh_fA (fun x1866 => (mh_fB (mh_Fr_pI fs1862 (mh_si 8 rfl)) (fun s1869 fs1869 => (mh_fA (fun x1871 => (hlo_2_1 s1869 x1871 fs1869))))))))))))))))))))))))))) (fr_l_eX10_cools_80_2 s0 hp 145 s1548 (0 : Int32) fs1548))
theorem fr_eX10_cools (s0 : mh_H) (hp : mh_p3 s0) : mh_Fr S_eX10_cools s0 (f_eX10_cools s0) := by
  have fs0 : mh_Fr S_eX10_cools s0 s0 := ⟨mh_F_rf, hp⟩
  unfold f_eX10_cools
  exact (fr_l_eX10_cools_2_1 s0 hp 145 s0 (0 : Int32) fs0)
theorem fr_j_eX10_runsDown_201_5 (s0 : mh_H) (hp : mh_p3 s0) (lo_165_4 : mh_H → Int32 → mh_H) (s2447 : mh_H) (x2446 : Int32) (x2467 : Int32) (hlo_165_4 : ∀ (s2447 : mh_H) (x2446 : Int32), mh_Fr S_eX10_runsDown s0 s2447 → mh_Fr S_eX10_runsDown s0 (lo_165_4 s2447 x2446)) (fs2447 : mh_Fr S_eX10_runsDown s0 s2447) : mh_Fr S_eX10_runsDown s0 (j_eX10_runsDown_201_5 lo_165_4 s2447 x2446 x2467) := by
  have fs0 : mh_Fr S_eX10_runsDown s0 s0 := ⟨mh_F_rf, hp⟩
  unfold j_eX10_runsDown_201_5
  exact (mh_fB (mh_Fr_pI fs2447 (mh_si 2 rfl)) (fun s2472 fs2472 => (mh_fA (fun x2474 => (hlo_165_4 s2472 x2474 fs2472)))))
theorem fr_l_eX10_runsDown_165_4 (s0 : mh_H) (hp : mh_p3 s0) : ∀ (n : Nat) (s2447 : mh_H) (x2446 : Int32), mh_Fr S_eX10_runsDown s0 s2447 → mh_Fr S_eX10_runsDown s0 (l_eX10_runsDown_165_4 n s2447 x2446) := by
  have fs0 : mh_Fr S_eX10_runsDown s0 s0 := ⟨mh_F_rf, hp⟩
  intro n
  induction n with
  | zero => intro s2447 x2446 fs2447; exact fs2447
  | succ n ih =>
    intro s2447 x2446 fs2447
    have hlo_165_4 := ih
    rw [l_eX10_runsDown_165_4_s]
    unfold ls_eX10_runsDown_165_4
    exact (mh_fI (mh_fA (fun x2462 => (mh_fI (fr_j_eX10_runsDown_201_5 s0 hp (l_eX10_runsDown_165_4 n) s2447 x2446 (9999 : Int32) hlo_165_4 fs2447) (fr_j_eX10_runsDown_201_5 s0 hp (l_eX10_runsDown_165_4 n) s2447 x2446 x2462 hlo_165_4 fs2447)))) fs2447)
theorem fr_l_eX10_runsDown_130_3 (s0 : mh_H) (hp : mh_p3 s0) : ∀ (n : Nat) (s2262 : mh_H) (x2261 : Int32), mh_Fr S_eX10_runsDown s0 s2262 → mh_Fr S_eX10_runsDown s0 (l_eX10_runsDown_130_3 n s2262 x2261) := by
  have fs0 : mh_Fr S_eX10_runsDown s0 s0 := ⟨mh_F_rf, hp⟩
  intro n
  induction n with
  | zero => intro s2262 x2261 fs2262; exact fs2262
  | succ n ih =>
    intro s2262 x2261 fs2262
    have hlo_130_3 := ih
    rw [l_eX10_runsDown_130_3_s]
    unfold ls_eX10_runsDown_130_3
    exact (mh_fI (mh_fA (fun x2479 => (mh_fA (fun x2481 => (mh_fA (fun x2483 => (mh_fA (fun x2485 => (mh_fB (mh_Fr_pI fs2262 (mh_si 2 rfl)) (fun s2487 fs2487 => (mh_fA (fun x2489 => (hlo_130_3 s2487 x2489 fs2487))))))))))))) (fr_l_eX10_runsDown_165_4 s0 hp 145 s2262 (0 : Int32) fs2262))
theorem fr_l_eX10_runsDown_84_2 (s0 : mh_H) (hp : mh_p3 s0) : ∀ (n : Nat) (s2043 : mh_H) (x2042 : Int32), mh_Fr S_eX10_runsDown s0 s2043 → mh_Fr S_eX10_runsDown s0 (l_eX10_runsDown_84_2 n s2043 x2042) := by
  have fs0 : mh_Fr S_eX10_runsDown s0 s0 := ⟨mh_F_rf, hp⟩
  intro n
  induction n with
  | zero => intro s2043 x2042 fs2043; exact fs2043
  | succ n ih =>
    intro s2043 x2042 fs2043
    have hlo_84_2 := ih
    rw [l_eX10_runsDown_84_2_s]
    unfold ls_eX10_runsDown_84_2
    exact (mh_fI (mh_fA (fun x2491 => (mh_fA (fun x2493 => (mh_fA (fun x2495 => (mh_fB (mh_Fr_pI fs2043 (mh_si 2 rfl)) (fun s2497 fs2497 => (mh_fA (fun y2499 => (mh_fA (fun y2504 => (mh_fA (fun y2506 => (mh_fB (mh_Fr_pL fs2497 (mh_sj 3 rfl)) (fun s2508 fs2508 => (mh_fA (fun x2510 => (hlo_84_2 s2508 x2510 fs2508))))))))))))))))))) (fr_l_eX10_runsDown_130_3 s0 hp 145 s2043 (0 : Int32) fs2043))
theorem fr_j_eX10_runsDown_75_6 (s0 : mh_H) (hp : mh_p3 s0) (lo_2_1 : mh_H → Int32 → mh_H) (s2529 : mh_H) (x1708 : Int32) (x2538 : Int32) (hlo_2_1 : ∀ (s1709 : mh_H) (x1708 : Int32), mh_Fr S_eX10_runsDown s0 s1709 → mh_Fr S_eX10_runsDown s0 (lo_2_1 s1709 x1708)) (fs2529 : mh_Fr S_eX10_runsDown s0 s2529) : mh_Fr S_eX10_runsDown s0 (j_eX10_runsDown_75_6 lo_2_1 s2529 x1708 x2538) := by
  have fs0 : mh_Fr S_eX10_runsDown s0 s0 := ⟨mh_F_rf, hp⟩
  unfold j_eX10_runsDown_75_6
  exact (mh_fB (mh_Fr_pI fs2529 (mh_si 1 rfl)) (fun s2543 fs2543 => (mh_fA (fun x2545 => (hlo_2_1 s2543 x2545 fs2543)))))
theorem fr_l_eX10_runsDown_2_1 (s0 : mh_H) (hp : mh_p3 s0) : ∀ (n : Nat) (s1709 : mh_H) (x1708 : Int32), mh_Fr S_eX10_runsDown s0 s1709 → mh_Fr S_eX10_runsDown s0 (l_eX10_runsDown_2_1 n s1709 x1708) := by
  have fs0 : mh_Fr S_eX10_runsDown s0 s0 := ⟨mh_F_rf, hp⟩
  intro n
  induction n with
  | zero => intro s1709 x1708 fs1709; exact fs1709
  | succ n ih =>
    intro s1709 x1708 fs1709
    have hlo_2_1 := ih
    rw [l_eX10_runsDown_2_1_s]
    unfold ls_eX10_runsDown_2_1
    exact (mh_fI (mh_fA (fun x2512 => (mh_fA (fun x2515 => (mh_fA (fun x2518 => (mh_fA (fun x2521 => (mh_fA (fun x2523 => (mh_fA (fun x2525 => (mh_fA (fun x2527 => (mh_fB (mh_Fr_pI fs1709 (mh_si 0 rfl)) (fun s2529 fs2529 => (mh_fI (mh_fA (fun x2548 => (mh_fI (fr_j_eX10_runsDown_75_6 s0 hp (l_eX10_runsDown_2_1 n) s2529 x1708 x2527 hlo_2_1 fs2529) (fr_j_eX10_runsDown_75_6 s0 hp (l_eX10_runsDown_2_1 n) s2529 x1708 x2548 hlo_2_1 fs2529)))) (fr_j_eX10_runsDown_75_6 s0 hp (l_eX10_runsDown_2_1 n) s2529 x1708 (0 : Int32) hlo_2_1 fs2529)))))))))))))))))) (fr_l_eX10_runsDown_84_2 s0 hp 145 s1709 (0 : Int32) fs1709))
theorem fr_eX10_runsDown (s0 : mh_H) (hp : mh_p3 s0) : mh_Fr S_eX10_runsDown s0 (f_eX10_runsDown s0) := by
  have fs0 : mh_Fr S_eX10_runsDown s0 s0 := ⟨mh_F_rf, hp⟩
  unfold f_eX10_runsDown
  exact (fr_l_eX10_runsDown_2_1 s0 hp 145 s0 (0 : Int32) fs0)
theorem fr_eX10_stepOne (s0 : mh_H) (hp : mh_p3 s0) : mh_Fr S_eX10_stepOne s0 (f_eX10_stepOne s0) := by
  have fs0 : mh_Fr S_eX10_stepOne s0 s0 := ⟨mh_F_rf, hp⟩
  unfold f_eX10_stepOne
  exact (mh_fB (mh_Fr_tv fs0 (fr_eX10_cools s0 fs0.2) (by decide +kernel)) (fun s14 fs14 => (mh_fB (mh_Fr_tv fs14 (fr_eX10_runsDown s14 fs14.2) (by decide +kernel)) (fun s17 fs17 => (mh_fA (fun x19 => (mh_fA (fun x21 => (mh_fB (mh_Fr_pI fs17 (mh_sj 14 rfl)) (fun s23 fs23 => fs23))))))))))
theorem fr_eX10_ground (s0 : mh_H) (p1 : Int32) (p2 : Int32) (p3 : Int32) (p4 : Int32) (hp : mh_p3 s0) : mh_FrP S_eX10_ground s0 (f_eX10_ground s0 p1 p2 p3 p4) := by
  have fs0 : mh_Fr S_eX10_ground s0 s0 := ⟨mh_F_rf, hp⟩
  unfold f_eX10_ground
  exact (mh_fA (fun x27 => (mh_fI fs0 (mh_fA (fun y31 => (mh_fA (fun x33 => (mh_fI fs0 (mh_fA (fun y37 => (mh_fA (fun x39 => (mh_fI fs0 (mh_fA (fun x43 => (mh_fB (mh_Fr_pI fs0 (mh_si 0 rfl)) (fun s46 fs46 => (mh_fA (fun x48 => (mh_fB (mh_Fr_pI fs46 (mh_si 1 rfl)) (fun s51 fs51 => fs51)))))))))))))))))))))
theorem fr_eX10_air (s0 : mh_H) (p1 : Int32) (p2 : Int32) (p3 : Int32) (p4 : Int32) (hp : mh_p3 s0) : mh_FrP S_eX10_air s0 (f_eX10_air s0 p1 p2 p3 p4) := by
  have fs0 : mh_Fr S_eX10_air s0 s0 := ⟨mh_F_rf, hp⟩
  unfold f_eX10_air
  exact (mh_fA (fun x27 => (mh_fI fs0 (mh_fA (fun y31 => (mh_fA (fun x33 => (mh_fI fs0 (mh_fA (fun y37 => (mh_fA (fun x39 => (mh_fI fs0 (mh_fA (fun x43 => (mh_fB (mh_Fr_pI fs0 (mh_si 0 rfl)) (fun s46 fs46 => (mh_fA (fun x48 => (mh_fB (mh_Fr_pI fs46 (mh_si 1 rfl)) (fun s51 fs51 => fs51)))))))))))))))))))))
theorem fr_eX10_wind (s0 : mh_H) (p1 : Int32) (p2 : Int32) (hp : mh_p3 s0) : mh_FrP S_eX10_wind s0 (f_eX10_wind s0 p1 p2) := by
  have fs0 : mh_Fr S_eX10_wind s0 s0 := ⟨mh_F_rf, hp⟩
  unfold f_eX10_wind
  exact (mh_fA (fun y15 => (mh_fA (fun x17 => (mh_fI fs0 (mh_fA (fun y21 => (mh_fA (fun x23 => (mh_fI fs0 (mh_fB (mh_Fr_pI fs0 (mh_si 0 rfl)) (fun s27 fs27 => fs27))))))))))))
theorem fr_l_eX10_push_3_1 (s0 : mh_H) (hp : mh_p3 s0) (p1 : Int32) : ∀ (n : Nat) (s188 : mh_H) (x187 : Int32), mh_Fr S_eX10_push s0 s188 → mh_Fr S_eX10_push s0 (l_eX10_push_3_1 p1 n s188 x187) := by
  have fs0 : mh_Fr S_eX10_push s0 s0 := ⟨mh_F_rf, hp⟩
  intro n
  induction n with
  | zero => intro s188 x187 fs188; exact fs188
  | succ n ih =>
    intro s188 x187 fs188
    have hlo_3_1 := ih
    rw [l_eX10_push_3_1_s]
    unfold ls_eX10_push_3_1
    exact (mh_fI fs188 (mh_fA (fun x209 => (mh_fA (fun x211 => (mh_fA (fun x213 => (mh_fB (mh_Fr_pI fs188 (mh_si 0 rfl)) (fun s215 fs215 => (mh_fA (fun x220 => (mh_fB (mh_Fr_pI fs215 (mh_sj 1 rfl)) (fun s222 fs222 => (mh_fA (fun x224 => (hlo_3_1 s222 x224 fs222))))))))))))))))
theorem fr_eX10_push (s0 : mh_H) (p1 : Int32) (hp : mh_p3 s0) : mh_Fr S_eX10_push s0 (f_eX10_push s0 p1) := by
  have fs0 : mh_Fr S_eX10_push s0 s0 := ⟨mh_F_rf, hp⟩
  unfold f_eX10_push
  exact (fr_l_eX10_push_3_1 s0 hp p1 33 s0 (24 : Int32) fs0)
theorem fr_eX10_feed (s0 : mh_H) (p1 : Int32) (p2 : Int32) (p3 : Int32) (p4 : Int32) (p5 : Int32) (hp : mh_p3 s0) : mh_FrP S_eX10_feed s0 (f_eX10_feed s0 p1 p2 p3 p4 p5) := by
  have fs0 : mh_Fr S_eX10_feed s0 s0 := ⟨mh_F_rf, hp⟩
  unfold f_eX10_feed
  exact (mh_fA (fun x23 => (mh_fA (fun x25 => (mh_fI fs0 (mh_fB (mh_Fr_tv fs0 (fr_eX10_push s0 p1 fs0.2) (by decide +kernel)) (fun s29 fs29 => (mh_fB (mh_Fr_tv fs29 (fr_eX10_push s29 p2 fs29.2) (by decide +kernel)) (fun s32 fs32 => (mh_fB (mh_Fr_tv fs32 (fr_eX10_push s32 p3 fs32.2) (by decide +kernel)) (fun s35 fs35 => (mh_fB (mh_Fr_tv fs35 (fr_eX10_push s35 p4 fs35.2) (by decide +kernel)) (fun s38 fs38 => (mh_fB (mh_Fr_tv fs38 (fr_eX10_push s38 p5 fs38.2) (by decide +kernel)) (fun s41 fs41 => (mh_fA (fun x43 => fs41)))))))))))))))))
theorem fr_l_eX10_setsAside_2_1 (s0 : mh_H) (hp : mh_p3 s0) (p1 : Int32) : ∀ (n : Nat) (s820 : mh_H) (x819 : Int32), mh_Fr S_eX10_setsAside s0 s820 → mh_Fr S_eX10_setsAside s0 (l_eX10_setsAside_2_1 p1 n s820 x819) := by
  have fs0 : mh_Fr S_eX10_setsAside s0 s0 := ⟨mh_F_rf, hp⟩
  intro n
  induction n with
  | zero => intro s820 x819 fs820; exact fs820
  | succ n ih =>
    intro s820 x819 fs820
    have hlo_2_1 := ih
    rw [l_eX10_setsAside_2_1_s]
    unfold ls_eX10_setsAside_2_1
    exact (mh_fI (mh_fA (fun x867 => (mh_fA (fun x869 => (mh_fA (fun x871 => (mh_fB (mh_Fr_pI fs820 (mh_si 0 rfl)) (fun s873 fs873 => (mh_fA (fun x879 => (mh_fB (mh_Fr_pI fs873 (mh_si 1 rfl)) (fun s881 fs881 => (mh_fA (fun x887 => (mh_fB (mh_Fr_pI fs881 (mh_si 2 rfl)) (fun s889 fs889 => (mh_fA (fun x895 => (mh_fB (mh_Fr_pI fs889 (mh_si 3 rfl)) (fun s897 fs897 => (mh_fA (fun x899 => (hlo_2_1 s897 x899 fs897))))))))))))))))))))))) (mh_fA (fun x859 => (mh_fB (mh_Fr_pI fs820 (mh_si 4 rfl)) (fun s861 fs861 => (mh_fA (fun y863 => (mh_fB (mh_Fr_pL fs861 (mh_si 5 rfl)) (fun s865 fs865 => fs865)))))))))
theorem fr_eX10_setsAside (s0 : mh_H) (p1 : Int32) (hp : mh_p3 s0) : mh_Fr S_eX10_setsAside s0 (f_eX10_setsAside s0 p1) := by
  have fs0 : mh_Fr S_eX10_setsAside s0 s0 := ⟨mh_F_rf, hp⟩
  unfold f_eX10_setsAside
  exact (fr_l_eX10_setsAside_2_1 s0 hp p1 145 s0 (0 : Int32) fs0)
theorem fr_l_eX10_putsBack_2_1 (s0 : mh_H) (hp : mh_p3 s0) (p1 : Int32) : ∀ (n : Nat) (s820 : mh_H) (x819 : Int32), mh_Fr S_eX10_putsBack s0 s820 → mh_Fr S_eX10_putsBack s0 (l_eX10_putsBack_2_1 p1 n s820 x819) := by
  have fs0 : mh_Fr S_eX10_putsBack s0 s0 := ⟨mh_F_rf, hp⟩
  intro n
  induction n with
  | zero => intro s820 x819 fs820; exact fs820
  | succ n ih =>
    intro s820 x819 fs820
    have hlo_2_1 := ih
    rw [l_eX10_putsBack_2_1_s]
    unfold ls_eX10_putsBack_2_1
    exact (mh_fI (mh_fA (fun x867 => (mh_fA (fun x869 => (mh_fA (fun x871 => (mh_fB (mh_Fr_pI fs820 (mh_si 0 rfl)) (fun s873 fs873 => (mh_fA (fun x879 => (mh_fB (mh_Fr_pI fs873 (mh_si 1 rfl)) (fun s881 fs881 => (mh_fA (fun x887 => (mh_fB (mh_Fr_pI fs881 (mh_si 2 rfl)) (fun s889 fs889 => (mh_fA (fun x895 => (mh_fB (mh_Fr_pI fs889 (mh_si 3 rfl)) (fun s897 fs897 => (mh_fA (fun x899 => (hlo_2_1 s897 x899 fs897))))))))))))))))))))))) (mh_fA (fun x859 => (mh_fB (mh_Fr_pI fs820 (mh_sj 4 rfl)) (fun s861 fs861 => (mh_fA (fun y863 => (mh_fB (mh_Fr_pL fs861 (mh_sj 5 rfl)) (fun s865 fs865 => fs865)))))))))
theorem fr_eX10_putsBack (s0 : mh_H) (p1 : Int32) (hp : mh_p3 s0) : mh_Fr S_eX10_putsBack s0 (f_eX10_putsBack s0 p1) := by
  have fs0 : mh_Fr S_eX10_putsBack s0 s0 := ⟨mh_F_rf, hp⟩
  unfold f_eX10_putsBack
  exact (fr_l_eX10_putsBack_2_1 s0 hp p1 145 s0 (0 : Int32) fs0)
theorem fr_j_eX10_highestTop_42_2 (s0 : mh_H) (hp : mh_p3 s0) (lo_4_1 : mh_H → Int32 → Int32 → Int32 × mh_H) (s460 : mh_H) (x435 : Int32) (x472 : Int32) (hlo_4_1 : ∀ (s437 : mh_H) (x435 : Int32) (x436 : Int32), mh_Fr S_eX10_highestTop s0 s437 → mh_FrP S_eX10_highestTop s0 (lo_4_1 s437 x435 x436)) (fs460 : mh_Fr S_eX10_highestTop s0 s460) : mh_FrP S_eX10_highestTop s0 (j_eX10_highestTop_42_2 lo_4_1 s460 x435 x472) := by
  have fs0 : mh_Fr S_eX10_highestTop s0 s0 := ⟨mh_F_rf, hp⟩
  unfold j_eX10_highestTop_42_2
  exact (mh_fA (fun x475 => (hlo_4_1 s460 x475 x472 fs460)))
theorem fr_l_eX10_highestTop_4_1 (s0 : mh_H) (hp : mh_p3 s0) : ∀ (n : Nat) (s437 : mh_H) (x435 : Int32) (x436 : Int32), mh_Fr S_eX10_highestTop s0 s437 → mh_FrP S_eX10_highestTop s0 (l_eX10_highestTop_4_1 n s437 x435 x436) := by
  have fs0 : mh_Fr S_eX10_highestTop s0 s0 := ⟨mh_F_rf, hp⟩
  intro n
  induction n with
  | zero => intro s437 x435 x436 fs437; exact fs437
  | succ n ih =>
    intro s437 x435 x436 fs437
    have hlo_4_1 := ih
    rw [l_eX10_highestTop_4_1_s]
    unfold ls_eX10_highestTop_4_1
    exact (mh_fI (mh_fC (mh_Fr_tl fs437 (fr_eX10_mistAt s437 x435 fs437.2) (by decide +kernel)) (fun x459 s460 fs460 => (mh_fI (mh_fA (fun x478 => (mh_fA (fun x480 => (mh_fI (fr_j_eX10_highestTop_42_2 s0 hp (l_eX10_highestTop_4_1 n) s460 x435 x480 hlo_4_1 fs460) (fr_j_eX10_highestTop_42_2 s0 hp (l_eX10_highestTop_4_1 n) s460 x435 x436 hlo_4_1 fs460)))))) (fr_j_eX10_highestTop_42_2 s0 hp (l_eX10_highestTop_4_1 n) s460 x435 x436 hlo_4_1 fs460)))) fs437)
theorem fr_eX10_highestTop (s0 : mh_H) (hp : mh_p3 s0) : mh_FrP S_eX10_highestTop s0 (f_eX10_highestTop s0) := by
  have fs0 : mh_Fr S_eX10_highestTop s0 s0 := ⟨mh_F_rf, hp⟩
  unfold f_eX10_highestTop
  exact (fr_l_eX10_highestTop_4_1 s0 hp 145 s0 (0 : Int32) (0 : Int32) fs0)
theorem fr_j_eX10_band_86_3 (s0 : mh_H) (hp : mh_p3 s0) (lo_44_2 : Int32 → Int32 → Int32 × mh_H) (x4135 : Int32) (x4170 : Int32) (hlo_44_2 : ∀ (x4135 : Int32) (x4136 : Int32), mh_FrP S_eX10_band s0 (lo_44_2 x4135 x4136)) : mh_FrP S_eX10_band s0 (j_eX10_band_86_3 lo_44_2 x4135 x4170) := by
  have fs0 : mh_Fr S_eX10_band s0 s0 := ⟨mh_F_rf, hp⟩
  unfold j_eX10_band_86_3
  exact (mh_fA (fun x4173 => (hlo_44_2 x4173 x4170)))
theorem fr_l_eX10_band_44_2 (s0 : mh_H) (hp : mh_p3 s0) (lo_31_1 : mh_H → Int32 → Int32 → Int32 × mh_H) (s3919 : mh_H) (p2 : Int32) (x3651 : Int32) (hlo_31_1 : ∀ (s3653 : mh_H) (x3651 : Int32) (x3652 : Int32), mh_Fr S_eX10_band s0 s3653 → mh_FrP S_eX10_band s0 (lo_31_1 s3653 x3651 x3652)) (fs3919 : mh_Fr S_eX10_band s0 s3919) : ∀ (n : Nat) (x4135 : Int32) (x4136 : Int32), mh_FrP S_eX10_band s0 (l_eX10_band_44_2 lo_31_1 s3919 p2 x3651 n x4135 x4136) := by
  have fs0 : mh_Fr S_eX10_band s0 s0 := ⟨mh_F_rf, hp⟩
  intro n
  induction n with
  | zero => intro x4135 x4136; exact fs3919
  | succ n ih =>
    intro x4135 x4136
    have hlo_44_2 := ih
    rw [l_eX10_band_44_2_s]
    unfold ls_eX10_band_44_2
    exact (mh_fI (mh_fA (fun x4158 => (mh_fI (fr_j_eX10_band_86_3 s0 hp (l_eX10_band_44_2 lo_31_1 s3919 p2 x3651 n) x4135 x4136 hlo_44_2) (mh_fA (fun x4176 => (mh_fA (fun x4178 => (mh_fI (fr_j_eX10_band_86_3 s0 hp (l_eX10_band_44_2 lo_31_1 s3919 p2 x3651 n) x4135 x4178 hlo_44_2) (fr_j_eX10_band_86_3 s0 hp (l_eX10_band_44_2 lo_31_1 s3919 p2 x3651 n) x4135 x4136 hlo_44_2))))))))) (mh_fA (fun x4156 => (hlo_31_1 s3919 x4156 x4136 fs3919))))
theorem fr_l_eX10_band_31_1 (s0 : mh_H) (hp : mh_p3 s0) (p1 : Int32) (p2 : Int32) : ∀ (n : Nat) (s3653 : mh_H) (x3651 : Int32) (x3652 : Int32), mh_Fr S_eX10_band s0 s3653 → mh_FrP S_eX10_band s0 (l_eX10_band_31_1 p1 p2 n s3653 x3651 x3652) := by
  have fs0 : mh_Fr S_eX10_band s0 s0 := ⟨mh_F_rf, hp⟩
  intro n
  induction n with
  | zero => intro s3653 x3651 x3652 fs3653; exact fs3653
  | succ n ih =>
    intro s3653 x3651 x3652 fs3653
    have hlo_31_1 := ih
    rw [l_eX10_band_31_1_s]
    unfold ls_eX10_band_31_1
    exact (mh_fI (mh_fB (mh_Fr_tv fs3653 (fr_eX10_stepOne s3653 fs3653.2) (by decide +kernel)) (fun s3919 fs3919 => (fr_l_eX10_band_44_2 s0 hp (l_eX10_band_31_1 p1 p2 n) s3919 p2 x3651 hlo_31_1 fs3919 145 (0 : Int32) x3652))) (mh_fB (mh_Fr_tv fs3653 (fr_eX10_putsBack s3653 (0 : Int32) fs3653.2) (by decide +kernel)) (fun s3915 fs3915 => (mh_fI fs3915 fs3915))))
theorem fr_eX10_band (s0 : mh_H) (p1 : Int32) (p2 : Int32) (hp : mh_p3 s0) : mh_FrP S_eX10_band s0 (f_eX10_band s0 p1 p2) := by
  have fs0 : mh_Fr S_eX10_band s0 s0 := ⟨mh_F_rf, hp⟩
  unfold f_eX10_band
  exact (mh_fA (fun x2087 => (mh_fI fs0 (mh_fA (fun y2091 => (mh_fA (fun x2093 => (mh_fI fs0 (mh_fB (mh_Fr_tv fs0 (fr_eX10_setsAside s0 (0 : Int32) fs0.2) (by decide +kernel)) (fun s2098 fs2098 => (fr_l_eX10_band_31_1 s0 hp p1 p2 61 s2098 (0 : Int32) (0 : Int32) fs2098)))))))))))
theorem fr_l_eX10_laysNight_19_2 (s0 : mh_H) (hp : mh_p3 s0) (p2 : Int32) : ∀ (n : Nat) (s210 : mh_H) (x209 : Int32), mh_Fr S_eX10_laysNight s0 s210 → mh_Fr S_eX10_laysNight s0 (l_eX10_laysNight_19_2 p2 n s210 x209) := by
  have fs0 : mh_Fr S_eX10_laysNight s0 s0 := ⟨mh_F_rf, hp⟩
  intro n
  induction n with
  | zero => intro s210 x209 fs210; exact fs210
  | succ n ih =>
    intro s210 x209 fs210
    have hlo_19_2 := ih
    rw [l_eX10_laysNight_19_2_s]
    unfold ls_eX10_laysNight_19_2
    exact (mh_fI (mh_fB (mh_Fr_tv fs210 (fr_eX10_stepOne s210 fs210.2) (by decide +kernel)) (fun s221 fs221 => (mh_fA (fun x223 => (hlo_19_2 s221 x223 fs221))))) fs210)
theorem fr_j_eX10_laysNight_17_1 (s0 : mh_H) (hp : mh_p3 s0) (s84 : mh_H) (p2 : Int32) (fs84 : mh_Fr S_eX10_laysNight s0 s84) : mh_Fr S_eX10_laysNight s0 (j_eX10_laysNight_17_1 s84 p2) := by
  have fs0 : mh_Fr S_eX10_laysNight s0 s0 := ⟨mh_F_rf, hp⟩
  unfold j_eX10_laysNight_17_1
  exact (fr_l_eX10_laysNight_19_2 s0 hp p2 61 s84 (0 : Int32) fs84)
theorem fr_eX10_laysNight (s0 : mh_H) (p1 : Int32) (p2 : Int32) (hp : mh_p3 s0) : mh_Fr S_eX10_laysNight s0 (f_eX10_laysNight s0 p1 p2) := by
  have fs0 : mh_Fr S_eX10_laysNight s0 s0 := ⟨mh_F_rf, hp⟩
  unfold f_eX10_laysNight
  exact (mh_fB (mh_Fr_tv fs0 (fr_eX10_setsAside s0 (0 : Int32) fs0.2) (by decide +kernel)) (fun s79 fs79 => (mh_fI (fr_j_eX10_laysNight_17_1 s0 hp s79 p2 fs79) (mh_fB (mh_Fr_pI fs79 (mh_si 6 rfl)) (fun s226 fs226 => (fr_j_eX10_laysNight_17_1 s0 hp s226 p2 fs226))))))
theorem fr_j_eX10_works_185_5 (s0 : mh_H) (hp : mh_p3 s0) (lo_112_2 : Int32 → Int32 → Int32 → Int32 → Int32 → Int32 × mh_H) (x1335 : Int32) (x1391 : Int32) (x1402 : Int32) (x1405 : Int32) (x1406 : Int32) (hlo_112_2 : ∀ (x1335 : Int32) (x1336 : Int32) (x1337 : Int32) (x1338 : Int32) (x1339 : Int32), mh_FrP S_eX10_works s0 (lo_112_2 x1335 x1336 x1337 x1338 x1339)) : mh_FrP S_eX10_works s0 (j_eX10_works_185_5 lo_112_2 x1335 x1391 x1402 x1405 x1406) := by
  have fs0 : mh_Fr S_eX10_works s0 s0 := ⟨mh_F_rf, hp⟩
  unfold j_eX10_works_185_5
  exact (mh_fA (fun x1409 => (hlo_112_2 x1409 x1405 x1406 x1402 x1391)))
theorem fr_j_eX10_works_164_4 (s0 : mh_H) (hp : mh_p3 s0) (lo_112_2 : Int32 → Int32 → Int32 → Int32 → Int32 → Int32 × mh_H) (x1335 : Int32) (x1336 : Int32) (x1337 : Int32) (x1338 : Int32) (x1376 : Int32) (x1391 : Int32) (x1394 : Int32) (hlo_112_2 : ∀ (x1335 : Int32) (x1336 : Int32) (x1337 : Int32) (x1338 : Int32) (x1339 : Int32), mh_FrP S_eX10_works s0 (lo_112_2 x1335 x1336 x1337 x1338 x1339)) : mh_FrP S_eX10_works s0 (j_eX10_works_164_4 lo_112_2 x1335 x1336 x1337 x1338 x1376 x1391 x1394) := by
  have fs0 : mh_Fr S_eX10_works s0 s0 := ⟨mh_F_rf, hp⟩
  unfold j_eX10_works_164_4
  exact (mh_fA (fun x1402 => (mh_fI (fr_j_eX10_works_185_5 s0 hp lo_112_2 x1335 x1391 x1402 x1376 x1335 hlo_112_2) (fr_j_eX10_works_185_5 s0 hp lo_112_2 x1335 x1391 x1402 x1336 x1337 hlo_112_2))))
theorem fr_j_eX10_works_149_3 (s0 : mh_H) (hp : mh_p3 s0) (lo_112_2 : Int32 → Int32 → Int32 → Int32 → Int32 → Int32 × mh_H) (x1335 : Int32) (x1336 : Int32) (x1337 : Int32) (x1338 : Int32) (x1339 : Int32) (x1376 : Int32) (x1379 : Int32) (hlo_112_2 : ∀ (x1335 : Int32) (x1336 : Int32) (x1337 : Int32) (x1338 : Int32) (x1339 : Int32), mh_FrP S_eX10_works s0 (lo_112_2 x1335 x1336 x1337 x1338 x1339)) : mh_FrP S_eX10_works s0 (j_eX10_works_149_3 lo_112_2 x1335 x1336 x1337 x1338 x1339 x1376 x1379) := by
  have fs0 : mh_Fr S_eX10_works s0 s0 := ⟨mh_F_rf, hp⟩
  unfold j_eX10_works_149_3
  exact (mh_fA (fun x1391 => (mh_fI (fr_j_eX10_works_164_4 s0 hp lo_112_2 x1335 x1336 x1337 x1338 x1376 x1391 (1 : Int32) hlo_112_2) (fr_j_eX10_works_164_4 s0 hp lo_112_2 x1335 x1336 x1337 x1338 x1376 x1391 (0 : Int32) hlo_112_2))))
theorem fr_l_eX10_works_112_2 (s0 : mh_H) (hp : mh_p3 s0) (s838 : mh_H) (p4 : Int32) (fs838 : mh_Fr S_eX10_works s0 s838) : ∀ (n : Nat) (x1335 : Int32) (x1336 : Int32) (x1337 : Int32) (x1338 : Int32) (x1339 : Int32), mh_FrP S_eX10_works s0 (l_eX10_works_112_2 s838 p4 n x1335 x1336 x1337 x1338 x1339) := by
  have fs0 : mh_Fr S_eX10_works s0 s0 := ⟨mh_F_rf, hp⟩
  intro n
  induction n with
  | zero => intro x1335 x1336 x1337 x1338 x1339; exact fs838
  | succ n ih =>
    intro x1335 x1336 x1337 x1338 x1339
    have hlo_112_2 := ih
    rw [l_eX10_works_112_2_s]
    unfold ls_eX10_works_112_2
    exact (mh_fI (mh_fA (fun x1372 => (mh_fA (fun x1374 => (mh_fA (fun x1376 => (mh_fI (fr_j_eX10_works_149_3 s0 hp (l_eX10_works_112_2 s838 p4 n) x1335 x1336 x1337 x1338 x1339 x1376 (1 : Int32) hlo_112_2) (fr_j_eX10_works_149_3 s0 hp (l_eX10_works_112_2 s838 p4 n) x1335 x1336 x1337 x1338 x1339 x1376 (0 : Int32) hlo_112_2)))))))) (mh_fB (mh_Fr_tv fs838 (fr_eX10_putsBack s838 (0 : Int32) fs838.2) (by decide +kernel)) (fun s1367 fs1367 => (mh_fI fs1367 (mh_fI fs1367 (mh_fI fs1367 fs1367))))))
theorem fr_l_eX10_works_53_1 (s0 : mh_H) (hp : mh_p3 s0) (p1 : Int32) (p2 : Int32) (p3 : Int32) (p4 : Int32) : ∀ (n : Nat) (s820 : mh_H) (x819 : Int32), mh_Fr S_eX10_works s0 s820 → mh_FrP S_eX10_works s0 (l_eX10_works_53_1 p1 p2 p3 p4 n s820 x819) := by
  have fs0 : mh_Fr S_eX10_works s0 s0 := ⟨mh_F_rf, hp⟩
  intro n
  induction n with
  | zero => intro s820 x819 fs820; exact fs820
  | succ n ih =>
    intro s820 x819 fs820
    have hlo_53_1 := ih
    rw [l_eX10_works_53_1_s]
    unfold ls_eX10_works_53_1
    exact (mh_fI (mh_fA (fun x1414 => (mh_fB (mh_Fr_pI fs820 (mh_si 22 rfl)) (fun s1416 fs1416 => (mh_fA (fun x1418 => (hlo_53_1 s1416 x1418 fs1416))))))) (mh_fB (mh_Fr_tv fs820 (fr_eX10_putsBack s820 (0 : Int32) fs820.2) (by decide +kernel)) (fun s832 fs832 => (mh_fA (fun x834 => (mh_fB (mh_Fr_tv fs832 (fr_eX10_laysNight s832 x834 p3 fs832.2) (by decide +kernel)) (fun s838 fs838 => (fr_l_eX10_works_112_2 s0 hp s838 p4 fs838 145 (0 : Int32) (0 : Int32) (-2 : Int32) (0 : Int32) (0 : Int32)))))))))
theorem fr_eX10_works (s0 : mh_H) (p1 : Int32) (p2 : Int32) (p3 : Int32) (p4 : Int32) (hp : mh_p3 s0) : mh_FrP S_eX10_works s0 (f_eX10_works s0 p1 p2 p3 p4) := by
  have fs0 : mh_Fr S_eX10_works s0 s0 := ⟨mh_F_rf, hp⟩
  unfold f_eX10_works
  exact (mh_fA (fun x699 => (mh_fI fs0 (mh_fA (fun x703 => (mh_fI fs0 (mh_fA (fun y707 => (mh_fA (fun x709 => (mh_fI fs0 (mh_fA (fun x713 => (mh_fA (fun x716 => (mh_fI fs0 (mh_fB (mh_Fr_tv fs0 (fr_eX10_laysNight s0 (-1 : Int32) p3 fs0.2) (by decide +kernel)) (fun s720 fs720 => (fr_l_eX10_works_53_1 s0 hp p1 p2 p3 p4 145 s720 (0 : Int32) fs720)))))))))))))))))))
theorem fr_j_eX10_dam_106_2 (s0 : mh_H) (hp : mh_p3 s0) (lo_45_1 : mh_H → Int32 → Int32 → Int32 → Int32 × mh_H) (s530 : mh_H) (x490 : Int32) (x528 : Int32) (x529 : Int32) (hlo_45_1 : ∀ (s493 : mh_H) (x490 : Int32) (x491 : Int32) (x492 : Int32), mh_Fr S_eX10_dam s0 s493 → mh_FrP S_eX10_dam s0 (lo_45_1 s493 x490 x491 x492)) (fs530 : mh_Fr S_eX10_dam s0 s530) : mh_FrP S_eX10_dam s0 (j_eX10_dam_106_2 lo_45_1 s530 x490 x528 x529) := by
  have fs0 : mh_Fr S_eX10_dam s0 s0 := ⟨mh_F_rf, hp⟩
  unfold j_eX10_dam_106_2
  exact (mh_fA (fun x533 => (hlo_45_1 s530 x533 x529 x528 fs530)))
theorem fr_j_eX10_dam_98_3 (s0 : mh_H) (hp : mh_p3 s0) (lo_45_1 : mh_H → Int32 → Int32 → Int32 → Int32 × mh_H) (s542 : mh_H) (x490 : Int32) (x539 : Int32) (hlo_45_1 : ∀ (s493 : mh_H) (x490 : Int32) (x491 : Int32) (x492 : Int32), mh_Fr S_eX10_dam s0 s493 → mh_FrP S_eX10_dam s0 (lo_45_1 s493 x490 x491 x492)) (fs542 : mh_Fr S_eX10_dam s0 s542) : mh_FrP S_eX10_dam s0 (j_eX10_dam_98_3 lo_45_1 s542 x490 x539) := by
  have fs0 : mh_Fr S_eX10_dam s0 s0 := ⟨mh_F_rf, hp⟩
  unfold j_eX10_dam_98_3
  exact (fr_j_eX10_dam_106_2 s0 hp lo_45_1 s542 x490 x490 x539 hlo_45_1 fs542)
theorem fr_l_eX10_dam_45_1 (s0 : mh_H) (hp : mh_p3 s0) (p1 : Int32) (p2 : Int32) (p3 : Int32) : ∀ (n : Nat) (s493 : mh_H) (x490 : Int32) (x491 : Int32) (x492 : Int32), mh_Fr S_eX10_dam s0 s493 → mh_FrP S_eX10_dam s0 (l_eX10_dam_45_1 p1 p2 p3 n s493 x490 x491 x492) := by
  have fs0 : mh_Fr S_eX10_dam s0 s0 := ⟨mh_F_rf, hp⟩
  intro n
  induction n with
  | zero => intro s493 x490 x491 x492 fs493; exact fs493
  | succ n ih =>
    intro s493 x490 x491 x492 fs493
    have hlo_45_1 := ih
    rw [l_eX10_dam_45_1_s]
    unfold ls_eX10_dam_45_1
    exact (mh_fI (mh_fI (fr_j_eX10_dam_106_2 s0 hp (l_eX10_dam_45_1 p1 p2 p3 n) s493 x490 x492 x491 hlo_45_1 fs493) (mh_fB (mh_Fr_tv fs493 (fr_eX10_laysNight s493 x490 p2 fs493.2) (by decide +kernel)) (fun s537 fs537 => (mh_fA (fun x539 => (mh_fB (mh_Fr_tv fs537 (fr_eX10_putsBack s537 (0 : Int32) fs537.2) (by decide +kernel)) (fun s542 fs542 => (mh_fI (fr_j_eX10_dam_98_3 s0 hp (l_eX10_dam_45_1 p1 p2 p3 n) s542 x490 x539 hlo_45_1 fs542) (mh_fI (fr_j_eX10_dam_98_3 s0 hp (l_eX10_dam_45_1 p1 p2 p3 n) s542 x490 x539 hlo_45_1 fs542) (fr_j_eX10_dam_106_2 s0 hp (l_eX10_dam_45_1 p1 p2 p3 n) s542 x490 x492 x491 hlo_45_1 fs542)))))))))) (mh_fI fs493 fs493))
theorem fr_eX10_dam (s0 : mh_H) (p1 : Int32) (p2 : Int32) (p3 : Int32) (hp : mh_p3 s0) : mh_FrP S_eX10_dam s0 (f_eX10_dam s0 p1 p2 p3) := by
  have fs0 : mh_Fr S_eX10_dam s0 s0 := ⟨mh_F_rf, hp⟩
  unfold f_eX10_dam
  exact (mh_fA (fun y267 => (mh_fA (fun x269 => (mh_fI fs0 (mh_fA (fun y273 => (mh_fA (fun x275 => (mh_fI fs0 (mh_fA (fun y279 => (mh_fA (fun x281 => (mh_fI fs0 (fr_l_eX10_dam_45_1 s0 hp p1 p2 p3 145 s0 (0 : Int32) (0 : Int32) (-1 : Int32) fs0))))))))))))))))
theorem fr_eX10_road (s0 : mh_H) (p1 : Int32) (p2 : Int32) (p3 : Int32) (p4 : Int32) (p5 : Int32) (hp : mh_p3 s0) : mh_FrP S_eX10_road s0 (f_eX10_road s0 p1 p2 p3 p4 p5) := by
  have fs0 : mh_Fr S_eX10_road s0 s0 := ⟨mh_F_rf, hp⟩
  unfold f_eX10_road
  exact (mh_fA (fun y38 => (mh_fA (fun x40 => (mh_fI fs0 (mh_fA (fun x44 => (mh_fI fs0 (mh_fA (fun x48 => (mh_fI fs0 (mh_fI fs0 (mh_fA (fun y53 => (mh_fA (fun x55 => (mh_fI fs0 (mh_fA (fun y59 => (mh_fA (fun x61 => (mh_fI fs0 (mh_fB (mh_Fr_pI fs0 (mh_si 0 rfl)) (fun s65 fs65 => (mh_fB (mh_Fr_pI fs65 (mh_si 1 rfl)) (fun s67 fs67 => (mh_fB (mh_Fr_pI fs67 (mh_si 2 rfl)) (fun s69 fs69 => (mh_fB (mh_Fr_pI fs69 (mh_si 3 rfl)) (fun s71 fs71 => (mh_fB (mh_Fr_pI fs71 (mh_si 4 rfl)) (fun s73 fs73 => fs73))))))))))))))))))))))))))))))))
theorem fr_j_eX10_laysYards_54_3 (s0 : mh_H) (hp : mh_p3 s0) (lo_15_2 : mh_H → Int32 → mh_H) (s3832 : mh_H) (x3790 : Int32) (x3821 : Int32) (x3831 : Int32) (hlo_15_2 : ∀ (s3791 : mh_H) (x3790 : Int32), mh_Fr S_eX10_laysYards s0 s3791 → mh_Fr S_eX10_laysYards s0 (lo_15_2 s3791 x3790)) (fs3832 : mh_Fr S_eX10_laysYards s0 s3832) : mh_Fr S_eX10_laysYards s0 (j_eX10_laysYards_54_3 lo_15_2 s3832 x3790 x3821 x3831) := by
  have fs0 : mh_Fr S_eX10_laysYards s0 s0 := ⟨mh_F_rf, hp⟩
  unfold j_eX10_laysYards_54_3
  exact (mh_fB (mh_Fr_pI fs3832 (mh_si 13 rfl)) (fun s3837 fs3837 => (mh_fA (fun x3839 => (hlo_15_2 s3837 x3839 fs3837)))))
theorem fr_l_eX10_laysYards_15_2 (s0 : mh_H) (hp : mh_p3 s0) (lo_7_1 : mh_H → Int32 → mh_H) (x3486 : Int32) (hlo_7_1 : ∀ (s3487 : mh_H) (x3486 : Int32), mh_Fr S_eX10_laysYards s0 s3487 → mh_Fr S_eX10_laysYards s0 (lo_7_1 s3487 x3486)) : ∀ (n : Nat) (s3791 : mh_H) (x3790 : Int32), mh_Fr S_eX10_laysYards s0 s3791 → mh_Fr S_eX10_laysYards s0 (l_eX10_laysYards_15_2 lo_7_1 x3486 n s3791 x3790) := by
  have fs0 : mh_Fr S_eX10_laysYards s0 s0 := ⟨mh_F_rf, hp⟩
  intro n
  induction n with
  | zero => intro s3791 x3790 fs3791; exact fs3791
  | succ n ih =>
    intro s3791 x3790 fs3791
    have hlo_15_2 := ih
    rw [l_eX10_laysYards_15_2_s]
    unfold ls_eX10_laysYards_15_2
    exact (mh_fI (mh_fA (fun x3819 => (mh_fA (fun x3821 => (mh_fA (fun x3823 => (mh_fI (fr_j_eX10_laysYards_54_3 s0 hp (l_eX10_laysYards_15_2 lo_7_1 x3486 n) s3791 x3790 x3821 (0 : Int32) hlo_15_2 fs3791) (mh_fA (fun x3842 => (mh_fC (mh_Fr_tl fs3791 (fr_eX10_yardsAt s3791 x3842 fs3791.2) (by decide +kernel)) (fun x3844 s3845 fs3845 => (fr_j_eX10_laysYards_54_3 s0 hp (l_eX10_laysYards_15_2 lo_7_1 x3486 n) s3845 x3790 x3821 x3844 hlo_15_2 fs3845)))))))))))) (mh_fB (mh_Fr_tv fs3791 (fr_eX10_stepOne s3791 fs3791.2) (by decide +kernel)) (fun s3815 fs3815 => (mh_fA (fun x3817 => (hlo_7_1 s3815 x3817 fs3815))))))
theorem fr_l_eX10_laysYards_7_1 (s0 : mh_H) (hp : mh_p3 s0) : ∀ (n : Nat) (s3487 : mh_H) (x3486 : Int32), mh_Fr S_eX10_laysYards s0 s3487 → mh_Fr S_eX10_laysYards s0 (l_eX10_laysYards_7_1 n s3487 x3486) := by
  have fs0 : mh_Fr S_eX10_laysYards s0 s0 := ⟨mh_F_rf, hp⟩
  intro n
  induction n with
  | zero => intro s3487 x3486 fs3487; exact fs3487
  | succ n ih =>
    intro s3487 x3486 fs3487
    have hlo_7_1 := ih
    rw [l_eX10_laysYards_7_1_s]
    unfold ls_eX10_laysYards_7_1
    exact (mh_fI (fr_l_eX10_laysYards_15_2 s0 hp (l_eX10_laysYards_7_1 n) x3486 hlo_7_1 21 s3487 (0 : Int32) fs3487) (mh_fB (mh_Fr_tv fs3487 (fr_eX10_putsBack s3487 (0 : Int32) fs3487.2) (by decide +kernel)) (fun s3664 fs3664 => fs3664)))
theorem fr_eX10_laysYards (s0 : mh_H) (hp : mh_p3 s0) : mh_Fr S_eX10_laysYards s0 (f_eX10_laysYards s0) := by
  have fs0 : mh_Fr S_eX10_laysYards s0 s0 := ⟨mh_F_rf, hp⟩
  unfold f_eX10_laysYards
  exact (mh_fB (mh_Fr_tv fs0 (fr_eX10_setsAside s0 (0 : Int32) fs0.2) (by decide +kernel)) (fun s1920 fs1920 => (fr_l_eX10_laysYards_7_1 s0 hp 31 s1920 (0 : Int32) fs1920)))
theorem fr_eX10_arrives (s0 : mh_H) (p1 : Int32) (p2 : Int32) (hp : mh_p3 s0) : mh_Fr S_eX10_arrives s0 (f_eX10_arrives s0 p1 p2) := by
  have fs0 : mh_Fr S_eX10_arrives s0 s0 := ⟨mh_F_rf, hp⟩
  unfold f_eX10_arrives
  exact (mh_fI fs0 (mh_fA (fun x9 => (mh_fA (fun x11 => (mh_fB (mh_Fr_pI fs0 (mh_si 0 rfl)) (fun s13 fs13 => fs13)))))))
theorem fr_j_eX10_soonest_258_4 (s0 : mh_H) (hp : mh_p3 s0) (lo_112_3 : mh_H → Int32 → Int32 × mh_H) (s18632 : mh_H) (x17877 : Int32) (hlo_112_3 : ∀ (s17878 : mh_H) (x17877 : Int32), mh_Fr S_eX10_soonest s0 s17878 → mh_FrP S_eX10_soonest s0 (lo_112_3 s17878 x17877)) (fs18632 : mh_Fr S_eX10_soonest s0 s18632) : mh_FrP S_eX10_soonest s0 (j_eX10_soonest_258_4 lo_112_3 s18632 x17877) := by
  have fs0 : mh_Fr S_eX10_soonest s0 s0 := ⟨mh_F_rf, hp⟩
  unfold j_eX10_soonest_258_4
  exact (mh_fA (fun x18635 => (hlo_112_3 s18632 x18635 fs18632)))
theorem fr_j_eX10_soonest_252_7 (s0 : mh_H) (hp : mh_p3 s0) (lo_156_6 : mh_H → Int32 → Int32 × mh_H) (s19358 : mh_H) (x19289 : Int32) (hlo_156_6 : ∀ (s19290 : mh_H) (x19289 : Int32), mh_Fr S_eX10_soonest s0 s19290 → mh_FrP S_eX10_soonest s0 (lo_156_6 s19290 x19289)) (fs19358 : mh_Fr S_eX10_soonest s0 s19358) : mh_FrP S_eX10_soonest s0 (j_eX10_soonest_252_7 lo_156_6 s19358 x19289) := by
  have fs0 : mh_Fr S_eX10_soonest s0 s0 := ⟨mh_F_rf, hp⟩
  unfold j_eX10_soonest_252_7
  exact (mh_fA (fun x19361 => (hlo_156_6 s19358 x19361 fs19358)))
theorem fr_j_eX10_soonest_221_8 (s0 : mh_H) (hp : mh_p3 s0) (lo_156_6 : mh_H → Int32 → Int32 × mh_H) (s19379 : mh_H) (x14079 : Int32) (x17877 : Int32) (x19289 : Int32) (hlo_156_6 : ∀ (s19290 : mh_H) (x19289 : Int32), mh_Fr S_eX10_soonest s0 s19290 → mh_FrP S_eX10_soonest s0 (lo_156_6 s19290 x19289)) (fs19379 : mh_Fr S_eX10_soonest s0 s19379) : mh_FrP S_eX10_soonest s0 (j_eX10_soonest_221_8 lo_156_6 s19379 x14079 x17877 x19289) := by
  have fs0 : mh_Fr S_eX10_soonest s0 s0 := ⟨mh_F_rf, hp⟩
  unfold j_eX10_soonest_221_8
  exact (mh_fA (fun x19391 => (mh_fI (mh_fA (fun x19394 => (mh_fA (fun x19396 => (mh_fB (mh_Fr_tv fs19379 (fr_eX10_arrives s19379 x19394 x19396 fs19379.2) (by decide +kernel)) (fun s19400 fs19400 => (fr_j_eX10_soonest_252_7 s0 hp lo_156_6 s19400 x19289 hlo_156_6 fs19400))))))) (fr_j_eX10_soonest_252_7 s0 hp lo_156_6 s19379 x19289 hlo_156_6 fs19379))))
theorem fr_l_eX10_soonest_156_6 (s0 : mh_H) (hp : mh_p3 s0) (lo_112_3 : mh_H → Int32 → Int32 × mh_H) (x14079 : Int32) (x17877 : Int32) (hlo_112_3 : ∀ (s17878 : mh_H) (x17877 : Int32), mh_Fr S_eX10_soonest s0 s17878 → mh_FrP S_eX10_soonest s0 (lo_112_3 s17878 x17877)) : ∀ (n : Nat) (s19290 : mh_H) (x19289 : Int32), mh_Fr S_eX10_soonest s0 s19290 → mh_FrP S_eX10_soonest s0 (l_eX10_soonest_156_6 lo_112_3 x14079 x17877 n s19290 x19289) := by
  have fs0 : mh_Fr S_eX10_soonest s0 s0 := ⟨mh_F_rf, hp⟩
  intro n
  induction n with
  | zero => intro s19290 x19289 fs19290; exact fs19290
  | succ n ih =>
    intro s19290 x19289 fs19290
    have hlo_156_6 := ih
    rw [l_eX10_soonest_156_6_s]
    unfold ls_eX10_soonest_156_6
    exact (mh_fI (mh_fA (fun x19328 => (mh_fI (fr_j_eX10_soonest_252_7 s0 hp (l_eX10_soonest_156_6 lo_112_3 x14079 x17877 n) s19290 x19289 hlo_156_6 fs19290) (mh_fA (fun x19364 => (mh_fI (fr_j_eX10_soonest_252_7 s0 hp (l_eX10_soonest_156_6 lo_112_3 x14079 x17877 n) s19290 x19289 hlo_156_6 fs19290) (mh_fA (fun x19368 => (mh_fI (mh_fA (fun x19403 => (mh_fA (fun x19405 => (mh_fB (mh_Fr_tv fs19290 (fr_eX10_arrives s19290 x19403 x19405 fs19290.2) (by decide +kernel)) (fun s19409 fs19409 => (fr_j_eX10_soonest_221_8 s0 hp (l_eX10_soonest_156_6 lo_112_3 x14079 x17877 n) s19409 x14079 x17877 x19289 hlo_156_6 fs19409))))))) (fr_j_eX10_soonest_221_8 s0 hp (l_eX10_soonest_156_6 lo_112_3 x14079 x17877 n) s19290 x14079 x17877 x19289 hlo_156_6 fs19290)))))))))) (fr_j_eX10_soonest_258_4 s0 hp lo_112_3 s19290 x17877 hlo_112_3 fs19290))
theorem fr_j_eX10_soonest_153_5 (s0 : mh_H) (hp : mh_p3 s0) (lo_112_3 : mh_H → Int32 → Int32 × mh_H) (s18644 : mh_H) (x14079 : Int32) (x17877 : Int32) (hlo_112_3 : ∀ (s17878 : mh_H) (x17877 : Int32), mh_Fr S_eX10_soonest s0 s17878 → mh_FrP S_eX10_soonest s0 (lo_112_3 s17878 x17877)) (fs18644 : mh_Fr S_eX10_soonest s0 s18644) : mh_FrP S_eX10_soonest s0 (j_eX10_soonest_153_5 lo_112_3 s18644 x14079 x17877) := by
  have fs0 : mh_Fr S_eX10_soonest s0 s0 := ⟨mh_F_rf, hp⟩
  unfold j_eX10_soonest_153_5
  exact (fr_l_eX10_soonest_156_6 s0 hp lo_112_3 x14079 x17877 hlo_112_3 21 s18644 (0 : Int32) fs18644)
theorem fr_l_eX10_soonest_112_3 (s0 : mh_H) (hp : mh_p3 s0) (lo_83_2 : mh_H → Int32 → Int32 × mh_H) (p4 : Int32) (x14079 : Int32) (x16360 : Int32) (hlo_83_2 : ∀ (s14080 : mh_H) (x14079 : Int32), mh_Fr S_eX10_soonest s0 s14080 → mh_FrP S_eX10_soonest s0 (lo_83_2 s14080 x14079)) : ∀ (n : Nat) (s17878 : mh_H) (x17877 : Int32), mh_Fr S_eX10_soonest s0 s17878 → mh_FrP S_eX10_soonest s0 (l_eX10_soonest_112_3 lo_83_2 p4 x14079 x16360 n s17878 x17877) := by
  have fs0 : mh_Fr S_eX10_soonest s0 s0 := ⟨mh_F_rf, hp⟩
  intro n
  induction n with
  | zero => intro s17878 x17877 fs17878; exact fs17878
  | succ n ih =>
    intro s17878 x17877 fs17878
    have hlo_112_3 := ih
    rw [l_eX10_soonest_112_3_s]
    unfold ls_eX10_soonest_112_3
    exact (mh_fI (mh_fA (fun x18262 => (mh_fA (fun x18264 => (mh_fI (fr_j_eX10_soonest_258_4 s0 hp (l_eX10_soonest_112_3 lo_83_2 p4 x14079 x16360 n) s17878 x17877 hlo_112_3 fs17878) (mh_fI (mh_fA (fun x19412 => (mh_fB (mh_Fr_tv fs17878 (fr_eX10_arrives s17878 x17877 x19412 fs17878.2) (by decide +kernel)) (fun s19415 fs19415 => (fr_j_eX10_soonest_153_5 s0 hp (l_eX10_soonest_112_3 lo_83_2 p4 x14079 x16360 n) s19415 x14079 x17877 hlo_112_3 fs19415))))) (fr_j_eX10_soonest_153_5 s0 hp (l_eX10_soonest_112_3 lo_83_2 p4 x14079 x16360 n) s17878 x14079 x17877 hlo_112_3 fs17878))))))) (mh_fA (fun x18258 => (hlo_83_2 s17878 x18258 fs17878))))
theorem fr_l_eX10_soonest_83_2 (s0 : mh_H) (hp : mh_p3 s0) (p2 : Int32) (p4 : Int32) : ∀ (n : Nat) (s14080 : mh_H) (x14079 : Int32), mh_Fr S_eX10_soonest s0 s14080 → mh_FrP S_eX10_soonest s0 (l_eX10_soonest_83_2 p2 p4 n s14080 x14079) := by
  have fs0 : mh_Fr S_eX10_soonest s0 s0 := ⟨mh_F_rf, hp⟩
  intro n
  induction n with
  | zero => intro s14080 x14079 fs14080; exact fs14080
  | succ n ih =>
    intro s14080 x14079 fs14080
    have hlo_83_2 := ih
    rw [l_eX10_soonest_83_2_s]
    unfold ls_eX10_soonest_83_2
    exact (mh_fI fs14080 (mh_fA (fun x16360 => (mh_fA (fun x16362 => (mh_fA (fun x16364 => (mh_fI (fr_l_eX10_soonest_112_3 s0 hp (l_eX10_soonest_83_2 p2 p4 n) p4 x14079 x16360 hlo_83_2 11 s14080 (0 : Int32) fs14080) fs14080))))))))
theorem fr_l_eX10_soonest_46_1 (s0 : mh_H) (hp : mh_p3 s0) (p1 : Int32) (p2 : Int32) (p3 : Int32) (p4 : Int32) : ∀ (n : Nat) (s9510 : mh_H) (x9509 : Int32), mh_Fr S_eX10_soonest s0 s9510 → mh_FrP S_eX10_soonest s0 (l_eX10_soonest_46_1 p1 p2 p3 p4 n s9510 x9509) := by
  have fs0 : mh_Fr S_eX10_soonest s0 s0 := ⟨mh_F_rf, hp⟩
  intro n
  induction n with
  | zero => intro s9510 x9509 fs9510; exact fs9510
  | succ n ih =>
    intro s9510 x9509 fs9510
    have hlo_46_1 := ih
    rw [l_eX10_soonest_46_1_s]
    unfold ls_eX10_soonest_46_1
    exact (mh_fI (mh_fB (mh_Fr_pI fs9510 (mh_si 24 rfl)) (fun s19417 fs19417 => (mh_fA (fun x19419 => (hlo_46_1 s19417 x19419 fs19417))))) (mh_fA (fun x9519 => (mh_fA (fun x9521 => (mh_fB (mh_Fr_pI fs9510 (mh_si 24 rfl)) (fun s9523 fs9523 => (fr_l_eX10_soonest_83_2 s0 hp p2 p4 302 s9523 p3 fs9523))))))))
theorem fr_eX10_soonest (s0 : mh_H) (p1 : Int32) (p2 : Int32) (p3 : Int32) (p4 : Int32) (hp : mh_p3 s0) : mh_FrP S_eX10_soonest s0 (f_eX10_soonest s0 p1 p2 p3 p4) := by
  have fs0 : mh_Fr S_eX10_soonest s0 s0 := ⟨mh_F_rf, hp⟩
  unfold f_eX10_soonest
  exact (mh_fA (fun x9320 => (mh_fI fs0 (mh_fA (fun x9324 => (mh_fI fs0 (mh_fA (fun y9328 => (mh_fA (fun x9330 => (mh_fI fs0 (mh_fA (fun y9334 => (mh_fA (fun x9336 => (mh_fI fs0 (mh_fB (mh_Fr_tv fs0 (fr_eX10_laysYards s0 fs0.2) (by decide +kernel)) (fun s9341 fs9341 => (fr_l_eX10_soonest_46_1 s0 hp p1 p2 p3 p4 3011 s9341 (0 : Int32) fs9341)))))))))))))))))))
theorem fr_j_eX10_edge_141_3 (s0 : mh_H) (hp : mh_p3 s0) (lo_40_2 : mh_H → Int32 → Int32 → Int32 → Int32 → Int32 × mh_H) (s3360 : mh_H) (x3283 : Int32) (x3357 : Int32) (x3358 : Int32) (x3359 : Int32) (hlo_40_2 : ∀ (s3287 : mh_H) (x3283 : Int32) (x3284 : Int32) (x3285 : Int32) (x3286 : Int32), mh_Fr S_eX10_edge s0 s3287 → mh_FrP S_eX10_edge s0 (lo_40_2 s3287 x3283 x3284 x3285 x3286)) (fs3360 : mh_Fr S_eX10_edge s0 s3360) : mh_FrP S_eX10_edge s0 (j_eX10_edge_141_3 lo_40_2 s3360 x3283 x3357 x3358 x3359) := by
  have fs0 : mh_Fr S_eX10_edge s0 s0 := ⟨mh_F_rf, hp⟩
  unfold j_eX10_edge_141_3
  exact (mh_fA (fun x3363 => (hlo_40_2 s3360 x3363 x3357 x3358 x3359 fs3360)))
theorem fr_j_eX10_edge_119_4 (s0 : mh_H) (hp : mh_p3 s0) (lo_40_2 : mh_H → Int32 → Int32 → Int32 → Int32 → Int32 × mh_H) (s3381 : mh_H) (x3117 : Int32) (x3283 : Int32) (x3284 : Int32) (x3285 : Int32) (x3286 : Int32) (x3388 : Int32) (hlo_40_2 : ∀ (s3287 : mh_H) (x3283 : Int32) (x3284 : Int32) (x3285 : Int32) (x3286 : Int32), mh_Fr S_eX10_edge s0 s3287 → mh_FrP S_eX10_edge s0 (lo_40_2 s3287 x3283 x3284 x3285 x3286)) (fs3381 : mh_Fr S_eX10_edge s0 s3381) : mh_FrP S_eX10_edge s0 (j_eX10_edge_119_4 lo_40_2 s3381 x3117 x3283 x3284 x3285 x3286 x3388) := by
  have fs0 : mh_Fr S_eX10_edge s0 s0 := ⟨mh_F_rf, hp⟩
  unfold j_eX10_edge_119_4
  exact (mh_fI (fr_j_eX10_edge_141_3 s0 hp lo_40_2 s3381 x3283 x3117 x3283 x3388 hlo_40_2 fs3381) (fr_j_eX10_edge_141_3 s0 hp lo_40_2 s3381 x3283 x3284 x3285 x3286 hlo_40_2 fs3381))
theorem fr_l_eX10_edge_40_2 (s0 : mh_H) (hp : mh_p3 s0) (lo_27_1 : mh_H → Int32 → Int32 → Int32 → Int32 → Int32 × mh_H) (x3117 : Int32) (hlo_27_1 : ∀ (s3121 : mh_H) (x3117 : Int32) (x3118 : Int32) (x3119 : Int32) (x3120 : Int32), mh_Fr S_eX10_edge s0 s3121 → mh_FrP S_eX10_edge s0 (lo_27_1 s3121 x3117 x3118 x3119 x3120)) : ∀ (n : Nat) (s3287 : mh_H) (x3283 : Int32) (x3284 : Int32) (x3285 : Int32) (x3286 : Int32), mh_Fr S_eX10_edge s0 s3287 → mh_FrP S_eX10_edge s0 (l_eX10_edge_40_2 lo_27_1 x3117 n s3287 x3283 x3284 x3285 x3286) := by
  have fs0 : mh_Fr S_eX10_edge s0 s0 := ⟨mh_F_rf, hp⟩
  intro n
  induction n with
  | zero => intro s3287 x3283 x3284 x3285 x3286 fs3287; exact fs3287
  | succ n ih =>
    intro s3287 x3283 x3284 x3285 x3286 fs3287
    have hlo_40_2 := ih
    rw [l_eX10_edge_40_2_s]
    unfold ls_eX10_edge_40_2
    exact (mh_fI (mh_fA (fun x3330 => (mh_fI (fr_j_eX10_edge_141_3 s0 hp (l_eX10_edge_40_2 lo_27_1 x3117 n) s3287 x3283 x3284 x3285 x3286 hlo_40_2 fs3287) (mh_fA (fun x3366 => (mh_fI (fr_j_eX10_edge_141_3 s0 hp (l_eX10_edge_40_2 lo_27_1 x3117 n) s3287 x3283 x3284 x3285 x3286 hlo_40_2 fs3287) (mh_fA (fun x3369 => (mh_fI (fr_j_eX10_edge_141_3 s0 hp (l_eX10_edge_40_2 lo_27_1 x3117 n) s3287 x3283 x3284 x3285 x3286 hlo_40_2 fs3287) (mh_fA (fun x3373 => (mh_fC (mh_Fr_tl fs3287 (fr_eX10_yardsAt s3287 x3373 fs3287.2) (by decide +kernel)) (fun x3375 s3376 fs3376 => (mh_fA (fun x3378 => (mh_fC (mh_Fr_tl fs3376 (fr_eX10_yardsAt s3376 x3378 fs3376.2) (by decide +kernel)) (fun x3380 s3381 fs3381 => (mh_fA (fun x3383 => (mh_fI (mh_fA (fun x3392 => (fr_j_eX10_edge_119_4 s0 hp (l_eX10_edge_40_2 lo_27_1 x3117 n) s3381 x3117 x3283 x3284 x3285 x3286 x3392 hlo_40_2 fs3381))) (fr_j_eX10_edge_119_4 s0 hp (l_eX10_edge_40_2 lo_27_1 x3117 n) s3381 x3117 x3283 x3284 x3285 x3286 x3383 hlo_40_2 fs3381))))))))))))))))))))) (mh_fA (fun x3328 => (hlo_27_1 s3287 x3328 x3286 x3285 x3284 fs3287))))
theorem fr_l_eX10_edge_27_1 (s0 : mh_H) (hp : mh_p3 s0) (p1 : Int32) : ∀ (n : Nat) (s3121 : mh_H) (x3117 : Int32) (x3118 : Int32) (x3119 : Int32) (x3120 : Int32), mh_Fr S_eX10_edge s0 s3121 → mh_FrP S_eX10_edge s0 (l_eX10_edge_27_1 p1 n s3121 x3117 x3118 x3119 x3120) := by
  have fs0 : mh_Fr S_eX10_edge s0 s0 := ⟨mh_F_rf, hp⟩
  intro n
  induction n with
  | zero => intro s3121 x3117 x3118 x3119 x3120 fs3121; exact fs3121
  | succ n ih =>
    intro s3121 x3117 x3118 x3119 x3120 fs3121
    have hlo_27_1 := ih
    rw [l_eX10_edge_27_1_s]
    unfold ls_eX10_edge_27_1
    exact (mh_fI (mh_fA (fun x3247 => (fr_l_eX10_edge_40_2 s0 hp (l_eX10_edge_27_1 p1 n) x3117 hlo_27_1 20 s3121 x3247 x3120 x3119 x3118 fs3121))) (mh_fI fs3121 (mh_fI fs3121 fs3121)))
theorem fr_eX10_edge (s0 : mh_H) (p1 : Int32) (hp : mh_p3 s0) : mh_FrP S_eX10_edge s0 (f_eX10_edge s0 p1) := by
  have fs0 : mh_Fr S_eX10_edge s0 s0 := ⟨mh_F_rf, hp⟩
  unfold f_eX10_edge
  exact (mh_fA (fun y1682 => (mh_fA (fun x1684 => (mh_fI fs0 (fr_l_eX10_edge_27_1 s0 hp p1 21 s0 (0 : Int32) (-2 : Int32) (-2 : Int32) (-2 : Int32) fs0))))))
theorem fr_eX10_was (s0 : mh_H) (p1 : Int32) (p2 : Int32) (p3 : Int32) (p4 : Int32) (p5 : Int32) (hp : mh_p3 s0) : mh_FrP S_eX10_was s0 (f_eX10_was s0 p1 p2 p3 p4 p5) := by
  have fs0 : mh_Fr S_eX10_was s0 s0 := ⟨mh_F_rf, hp⟩
  unfold f_eX10_was
  exact (mh_fA (fun y72 => (mh_fA (fun x74 => (mh_fI fs0 (mh_fA (fun y78 => (mh_fA (fun x80 => (mh_fI fs0 (mh_fA (fun y84 => (mh_fA (fun x86 => (mh_fI fs0 (mh_fA (fun y90 => (mh_fA (fun x92 => (mh_fI fs0 (mh_fA (fun y96 => (mh_fA (fun x98 => (mh_fI fs0 (mh_fA (fun x102 => (mh_fI fs0 (mh_fA (fun x107 => (mh_fB (mh_Fr_pI fs0 (mh_si 0 rfl)) (fun s109 fs109 => (mh_fA (fun x116 => (mh_fB (mh_Fr_pI fs109 (mh_si 0 rfl)) (fun s118 fs118 => (mh_fA (fun x125 => (mh_fB (mh_Fr_pI fs118 (mh_si 0 rfl)) (fun s127 fs127 => (mh_fB (mh_Fr_pI fs127 (mh_si 1 rfl)) (fun s132 fs132 => (mh_fB (mh_Fr_pI fs132 (mh_si 2 rfl)) (fun s137 fs137 => (mh_fA (fun x142 => (mh_fB (mh_Fr_pI fs137 (mh_sj 3 rfl)) (fun s144 fs144 => fs144))))))))))))))))))))))))))))))))))))))))))))))))
theorem fr_j_eX10_held_128_4 (s0 : mh_H) (hp : mh_p3 s0) (lo_21_1 : mh_H → Int32 → Int32 → Int32 × mh_H) (s935 : mh_H) (x857 : Int32) (x968 : Int32) (hlo_21_1 : ∀ (s859 : mh_H) (x857 : Int32) (x858 : Int32), mh_Fr S_eX10_held s0 s859 → mh_FrP S_eX10_held s0 (lo_21_1 s859 x857 x858)) (fs935 : mh_Fr S_eX10_held s0 s935) : mh_FrP S_eX10_held s0 (j_eX10_held_128_4 lo_21_1 s935 x857 x968) := by
  have fs0 : mh_Fr S_eX10_held s0 s0 := ⟨mh_F_rf, hp⟩
  unfold j_eX10_held_128_4
  exact (mh_fA (fun x971 => (hlo_21_1 s935 x971 x968 fs935)))
theorem fr_j_eX10_held_126_5 (s0 : mh_H) (hp : mh_p3 s0) (lo_21_1 : mh_H → Int32 → Int32 → Int32 × mh_H) (s935 : mh_H) (x857 : Int32) (x858 : Int32) (x975 : Int32) (hlo_21_1 : ∀ (s859 : mh_H) (x857 : Int32) (x858 : Int32), mh_Fr S_eX10_held s0 s859 → mh_FrP S_eX10_held s0 (lo_21_1 s859 x857 x858)) (fs935 : mh_Fr S_eX10_held s0 s935) : mh_FrP S_eX10_held s0 (j_eX10_held_126_5 lo_21_1 s935 x857 x858 x975) := by
  have fs0 : mh_Fr S_eX10_held s0 s0 := ⟨mh_F_rf, hp⟩
  unfold j_eX10_held_126_5
  exact (mh_fA (fun x978 => (fr_j_eX10_held_128_4 s0 hp lo_21_1 s935 x857 x978 hlo_21_1 fs935)))
theorem fr_j_eX10_held_112_3 (s0 : mh_H) (hp : mh_p3 s0) (lo_21_1 : mh_H → Int32 → Int32 → Int32 × mh_H) (s935 : mh_H) (p1 : Int32) (p2 : Int32) (x857 : Int32) (x858 : Int32) (x938 : Int32) (x954 : Int32) (hlo_21_1 : ∀ (s859 : mh_H) (x857 : Int32) (x858 : Int32), mh_Fr S_eX10_held s0 s859 → mh_FrP S_eX10_held s0 (lo_21_1 s859 x857 x858)) (fs935 : mh_Fr S_eX10_held s0 s935) : mh_FrP S_eX10_held s0 (j_eX10_held_112_3 lo_21_1 s935 p1 p2 x857 x858 x938 x954) := by
  have fs0 : mh_Fr S_eX10_held s0 s0 := ⟨mh_F_rf, hp⟩
  unfold j_eX10_held_112_3
  exact (mh_fI (fr_j_eX10_held_128_4 s0 hp lo_21_1 s935 x857 x858 hlo_21_1 fs935) (mh_fI (fr_j_eX10_held_126_5 s0 hp lo_21_1 s935 x857 x858 p1 hlo_21_1 fs935) (fr_j_eX10_held_126_5 s0 hp lo_21_1 s935 x857 x858 p2 hlo_21_1 fs935)))
theorem fr_j_eX10_held_93_2 (s0 : mh_H) (hp : mh_p3 s0) (lo_21_1 : mh_H → Int32 → Int32 → Int32 × mh_H) (s935 : mh_H) (p1 : Int32) (p2 : Int32) (x857 : Int32) (x858 : Int32) (x938 : Int32) (hlo_21_1 : ∀ (s859 : mh_H) (x857 : Int32) (x858 : Int32), mh_Fr S_eX10_held s0 s859 → mh_FrP S_eX10_held s0 (lo_21_1 s859 x857 x858)) (fs935 : mh_Fr S_eX10_held s0 s935) : mh_FrP S_eX10_held s0 (j_eX10_held_93_2 lo_21_1 s935 p1 p2 x857 x858 x938) := by
  have fs0 : mh_Fr S_eX10_held s0 s0 := ⟨mh_F_rf, hp⟩
  unfold j_eX10_held_93_2
  exact (mh_fA (fun x951 => (mh_fI (fr_j_eX10_held_112_3 s0 hp lo_21_1 s935 p1 p2 x857 x858 x938 (1 : Int32) hlo_21_1 fs935) (fr_j_eX10_held_112_3 s0 hp lo_21_1 s935 p1 p2 x857 x858 x938 (0 : Int32) hlo_21_1 fs935))))
theorem fr_l_eX10_held_21_1 (s0 : mh_H) (hp : mh_p3 s0) (p1 : Int32) (p2 : Int32) : ∀ (n : Nat) (s859 : mh_H) (x857 : Int32) (x858 : Int32), mh_Fr S_eX10_held s0 s859 → mh_FrP S_eX10_held s0 (l_eX10_held_21_1 p1 p2 n s859 x857 x858) := by
  have fs0 : mh_Fr S_eX10_held s0 s0 := ⟨mh_F_rf, hp⟩
  intro n
  induction n with
  | zero => intro s859 x857 x858 fs859; exact fs859
  | succ n ih =>
    intro s859 x857 x858 fs859
    have hlo_21_1 := ih
    rw [l_eX10_held_21_1_s]
    unfold ls_eX10_held_21_1
    exact (mh_fA (fun x907 => (mh_fI (mh_fB (mh_Fr_pI fs859 (mh_sj 0 rfl)) (fun s910 fs910 => (mh_fA (fun x912 => (mh_fA (fun x914 => (mh_fB (mh_Fr_pI fs910 (mh_sj 1 rfl)) (fun s916 fs916 => (mh_fA (fun x920 => (mh_fA (fun x922 => (mh_fB (mh_Fr_pI fs916 (mh_sj 2 rfl)) (fun s924 fs924 => (mh_fA (fun x928 => (mh_fA (fun x930 => (mh_fB (mh_Fr_pI fs924 (mh_sj 3 rfl)) (fun s932 fs932 => (mh_fC (mh_Fr_tl fs932 (fr_eX10_tellsBy s932 (102 : Int32) (1 : Int32) fs932.2) (by decide +kernel)) (fun x934 s935 fs935 => (mh_fI (fr_j_eX10_held_93_2 s0 hp (l_eX10_held_21_1 p1 p2 n) s935 p1 p2 x857 x858 (1 : Int32) hlo_21_1 fs935) (fr_j_eX10_held_93_2 s0 hp (l_eX10_held_21_1 p1 p2 n) s935 p1 p2 x857 x858 (0 : Int32) hlo_21_1 fs935)))))))))))))))))))))))) fs859)))
theorem fr_eX10_held (s0 : mh_H) (p1 : Int32) (p2 : Int32) (hp : mh_p3 s0) : mh_FrP S_eX10_held s0 (f_eX10_held s0 p1 p2) := by
  have fs0 : mh_Fr S_eX10_held s0 s0 := ⟨mh_F_rf, hp⟩
  unfold f_eX10_held
  exact (mh_fA (fun x476 => (mh_fI fs0 (mh_fA (fun x480 => (mh_fI fs0 (fr_l_eX10_held_21_1 s0 hp p1 p2 61 s0 (0 : Int32) (0 : Int32) fs0)))))))
theorem fr_l_eX10_lid_213_3 (s0 : mh_H) (hp : mh_p3 s0) (s11484 : mh_H) (p4 : Int32) (y11483 : Int64) (fs11484 : mh_Fr S_eX10_lid s0 s11484) : ∀ (n : Nat) (x12615 : Int32) (y12616 : Int64), mh_FrP S_eX10_lid s0 (l_eX10_lid_213_3 s11484 p4 y11483 n x12615 y12616) := by
  have fs0 : mh_Fr S_eX10_lid s0 s0 := ⟨mh_F_rf, hp⟩
  intro n
  induction n with
  | zero => intro x12615 y12616; exact fs11484
  | succ n ih =>
    intro x12615 y12616
    have hlo_213_3 := ih
    rw [l_eX10_lid_213_3_s]
    unfold ls_eX10_lid_213_3
    exact (mh_fI (mh_fA (fun y12635 => (mh_fA (fun y12637 => (mh_fA (fun x12639 => (hlo_213_3 x12639 y12637))))))) (mh_fA (fun y12627 => (mh_fI (mh_fA (fun y12633 => fs11484)) (mh_fA (fun y12631 => fs11484))))))
theorem fr_l_eX10_lid_165_5 (s0 : mh_H) (hp : mh_p3 s0) (lo_90_2 : mh_H → Int32 → Int64 → Int64 × mh_H) (p3 : Int32) (x11482 : Int32) (y11483 : Int64) (hlo_90_2 : ∀ (s11484 : mh_H) (x11482 : Int32) (y11483 : Int64), mh_Fr S_eX10_lid s0 s11484 → mh_FrP S_eX10_lid s0 (lo_90_2 s11484 x11482 y11483)) : ∀ (n : Nat) (s13636 : mh_H) (x13635 : Int32), mh_Fr S_eX10_lid s0 s13636 → mh_FrP S_eX10_lid s0 (l_eX10_lid_165_5 lo_90_2 p3 x11482 y11483 n s13636 x13635) := by
  have fs0 : mh_Fr S_eX10_lid s0 s0 := ⟨mh_F_rf, hp⟩
  intro n
  induction n with
  | zero => intro s13636 x13635 fs13636; exact fs13636
  | succ n ih =>
    intro s13636 x13635 fs13636
    have hlo_165_5 := ih
    rw [l_eX10_lid_165_5_s]
    unfold ls_eX10_lid_165_5
    exact (mh_fI (mh_fA (fun y13655 => (mh_fB (mh_Fr_pL fs13636 (mh_si 0 rfl)) (fun s13657 fs13657 => (mh_fA (fun x13659 => (hlo_165_5 s13657 x13659 fs13657))))))) (mh_fA (fun x13647 => (mh_fA (fun y13649 => (mh_fA (fun y13651 => (mh_fA (fun x13653 => (hlo_90_2 s13636 x13653 y13651 fs13636))))))))))
theorem fr_j_eX10_lid_156_7 (s0 : mh_H) (hp : mh_p3 s0) (lo_99_4 : mh_H → Int32 → Int64 × mh_H) (s13726 : mh_H) (x13452 : Int32) (hlo_99_4 : ∀ (s13453 : mh_H) (x13452 : Int32), mh_Fr S_eX10_lid s0 s13453 → mh_FrP S_eX10_lid s0 (lo_99_4 s13453 x13452)) (fs13726 : mh_Fr S_eX10_lid s0 s13726) : mh_FrP S_eX10_lid s0 (j_eX10_lid_156_7 lo_99_4 s13726 x13452) := by
  have fs0 : mh_Fr S_eX10_lid s0 s0 := ⟨mh_F_rf, hp⟩
  unfold j_eX10_lid_156_7
  exact (mh_fA (fun x13759 => (hlo_99_4 s13726 x13759 fs13726)))
theorem fr_l_eX10_lid_117_6 (s0 : mh_H) (hp : mh_p3 s0) (lo_99_4 : mh_H → Int32 → Int64 × mh_H) (p3 : Int32) (x13452 : Int32) (hlo_99_4 : ∀ (s13453 : mh_H) (x13452 : Int32), mh_Fr S_eX10_lid s0 s13453 → mh_FrP S_eX10_lid s0 (lo_99_4 s13453 x13452)) : ∀ (n : Nat) (s13726 : mh_H) (x13725 : Int32), mh_Fr S_eX10_lid s0 s13726 → mh_FrP S_eX10_lid s0 (l_eX10_lid_117_6 lo_99_4 p3 x13452 n s13726 x13725) := by
  have fs0 : mh_Fr S_eX10_lid s0 s0 := ⟨mh_F_rf, hp⟩
  intro n
  induction n with
  | zero => intro s13726 x13725 fs13726; exact fs13726
  | succ n ih =>
    intro s13726 x13725 fs13726
    have hlo_117_6 := ih
    rw [l_eX10_lid_117_6_s]
    unfold ls_eX10_lid_117_6
    exact (mh_fI (fr_j_eX10_lid_156_7 s0 hp lo_99_4 s13726 x13452 hlo_99_4 fs13726) (mh_fI (fr_j_eX10_lid_156_7 s0 hp lo_99_4 s13726 x13452 hlo_99_4 fs13726) (mh_fA (fun y13763 => (mh_fA (fun x13765 => (mh_fA (fun y13767 => (mh_fA (fun y13769 => (mh_fB (mh_Fr_pL fs13726 (mh_si 1 rfl)) (fun s13771 fs13771 => (mh_fA (fun x13773 => (hlo_117_6 s13771 x13773 fs13771)))))))))))))))
theorem fr_l_eX10_lid_99_4 (s0 : mh_H) (hp : mh_p3 s0) (lo_90_2 : mh_H → Int32 → Int64 → Int64 × mh_H) (p3 : Int32) (x11482 : Int32) (y11483 : Int64) (hlo_90_2 : ∀ (s11484 : mh_H) (x11482 : Int32) (y11483 : Int64), mh_Fr S_eX10_lid s0 s11484 → mh_FrP S_eX10_lid s0 (lo_90_2 s11484 x11482 y11483)) : ∀ (n : Nat) (s13453 : mh_H) (x13452 : Int32), mh_Fr S_eX10_lid s0 s13453 → mh_FrP S_eX10_lid s0 (l_eX10_lid_99_4 lo_90_2 p3 x11482 y11483 n s13453 x13452) := by
  have fs0 : mh_Fr S_eX10_lid s0 s0 := ⟨mh_F_rf, hp⟩
  intro n
  induction n with
  | zero => intro s13453 x13452 fs13453; exact fs13453
  | succ n ih =>
    intro s13453 x13452 fs13453
    have hlo_99_4 := ih
    rw [l_eX10_lid_99_4_s]
    unfold ls_eX10_lid_99_4
    exact (mh_fI (mh_fB (mh_Fr_pL fs13453 (mh_si 1 rfl)) (fun s13661 fs13661 => (fr_l_eX10_lid_117_6 s0 hp (l_eX10_lid_99_4 lo_90_2 p3 x11482 y11483 n) p3 x13452 hlo_99_4 15 s13661 (0 : Int32) fs13661))) (fr_l_eX10_lid_165_5 s0 hp lo_90_2 p3 x11482 y11483 hlo_90_2 122 s13453 (0 : Int32) fs13453))
theorem fr_l_eX10_lid_90_2 (s0 : mh_H) (hp : mh_p3 s0) (p1 : Int32) (p2 : Int32) (p3 : Int32) (p4 : Int32) : ∀ (n : Nat) (s11484 : mh_H) (x11482 : Int32) (y11483 : Int64), mh_Fr S_eX10_lid s0 s11484 → mh_FrP S_eX10_lid s0 (l_eX10_lid_90_2 p1 p2 p3 p4 n s11484 x11482 y11483) := by
  have fs0 : mh_Fr S_eX10_lid s0 s0 := ⟨mh_F_rf, hp⟩
  intro n
  induction n with
  | zero => intro s11484 x11482 y11483 fs11484; exact fs11484
  | succ n ih =>
    intro s11484 x11482 y11483 fs11484
    have hlo_90_2 := ih
    rw [l_eX10_lid_90_2_s]
    unfold ls_eX10_lid_90_2
    exact (mh_fI (fr_l_eX10_lid_99_4 s0 hp (l_eX10_lid_90_2 p1 p2 p3 p4 n) p3 x11482 y11483 hlo_90_2 122 s11484 (0 : Int32) fs11484) (fr_l_eX10_lid_213_3 s0 hp s11484 p4 y11483 fs11484 200 p1 (0 : Int64)))
theorem fr_j_eX10_lid_77_8 (s0 : mh_H) (hp : mh_p3 s0) (lo_54_1 : mh_H → Int32 → Int64 × mh_H) (s6986 : mh_H) (x6985 : Int32) (y13776 : Int64) (hlo_54_1 : ∀ (s6986 : mh_H) (x6985 : Int32), mh_Fr S_eX10_lid s0 s6986 → mh_FrP S_eX10_lid s0 (lo_54_1 s6986 x6985)) (fs6986 : mh_Fr S_eX10_lid s0 s6986) : mh_FrP S_eX10_lid s0 (j_eX10_lid_77_8 lo_54_1 s6986 x6985 y13776) := by
  have fs0 : mh_Fr S_eX10_lid s0 s0 := ⟨mh_F_rf, hp⟩
  unfold j_eX10_lid_77_8
  exact (mh_fB (mh_Fr_pL fs6986 (mh_si 0 rfl)) (fun s13781 fs13781 => (mh_fA (fun x13783 => (hlo_54_1 s13781 x13783 fs13781)))))
theorem fr_l_eX10_lid_54_1 (s0 : mh_H) (hp : mh_p3 s0) (p1 : Int32) (p2 : Int32) (p3 : Int32) (p4 : Int32) : ∀ (n : Nat) (s6986 : mh_H) (x6985 : Int32), mh_Fr S_eX10_lid s0 s6986 → mh_FrP S_eX10_lid s0 (l_eX10_lid_54_1 p1 p2 p3 p4 n s6986 x6985) := by
  have fs0 : mh_Fr S_eX10_lid s0 s0 := ⟨mh_F_rf, hp⟩
  intro n
  induction n with
  | zero => intro s6986 x6985 fs6986; exact fs6986
  | succ n ih =>
    intro s6986 x6985 fs6986
    have hlo_54_1 := ih
    rw [l_eX10_lid_54_1_s]
    unfold ls_eX10_lid_54_1
    exact (mh_fI (mh_fI (fr_j_eX10_lid_77_8 s0 hp (l_eX10_lid_54_1 p1 p2 p3 p4 n) s6986 x6985 (1 : Int64) hlo_54_1 fs6986) (fr_j_eX10_lid_77_8 s0 hp (l_eX10_lid_54_1 p1 p2 p3 p4 n) s6986 x6985 (0 : Int64) hlo_54_1 fs6986)) (fr_l_eX10_lid_90_2 s0 hp p1 p2 p3 p4 15 s6986 (0 : Int32) (1 : Int64) fs6986))
theorem fr_eX10_lid (s0 : mh_H) (p1 : Int32) (p2 : Int32) (p3 : Int32) (p4 : Int32) (hp : mh_p3 s0) : mh_FrP S_eX10_lid s0 (f_eX10_lid s0 p1 p2 p3 p4) := by
  have fs0 : mh_Fr S_eX10_lid s0 s0 := ⟨mh_F_rf, hp⟩
  unfold f_eX10_lid
  exact (mh_fA (fun y6883 => (mh_fA (fun x6885 => (mh_fI fs0 (mh_fA (fun y6889 => (mh_fA (fun x6891 => (mh_fI fs0 (mh_fA (fun y6895 => (mh_fA (fun x6897 => (mh_fI fs0 (mh_fA (fun y6901 => (mh_fA (fun x6903 => (mh_fI fs0 (fr_l_eX10_lid_54_1 s0 hp p1 p2 p3 p4 122 s0 (0 : Int32) fs0)))))))))))))))))))))
theorem fr_eX10_seed (s0 : mh_H) (p1 : Int32) (hp : mh_p3 s0) : mh_FrP S_eX10_seed s0 (f_eX10_seed s0 p1) := by
  have fs0 : mh_Fr S_eX10_seed s0 s0 := ⟨mh_F_rf, hp⟩
  unfold f_eX10_seed
  exact (mh_fA (fun y9 => (mh_fA (fun x11 => (mh_fI fs0 (mh_fB (mh_Fr_pI fs0 (mh_sj 0 rfl)) (fun s15 fs15 => fs15)))))))
theorem fr_j_eX10_draw_68_2 (s0 : mh_H) (hp : mh_p3 s0) (lo_17_1 : mh_H → Int32 → Int32 × mh_H) (s655 : mh_H) (x591 : Int32) (hlo_17_1 : ∀ (s592 : mh_H) (x591 : Int32), mh_Fr S_eX10_draw s0 s592 → mh_FrP S_eX10_draw s0 (lo_17_1 s592 x591)) (fs655 : mh_Fr S_eX10_draw s0 s655) : mh_FrP S_eX10_draw s0 (j_eX10_draw_68_2 lo_17_1 s655 x591) := by
  have fs0 : mh_Fr S_eX10_draw s0 s0 := ⟨mh_F_rf, hp⟩
  unfold j_eX10_draw_68_2
  exact (mh_fB (mh_Fr_tv fs655 (fr_eX10_stepOne s655 fs655.2) (by decide +kernel)) (fun s662 fs662 => (mh_fA (fun x664 => (hlo_17_1 s662 x664 fs662)))))
theorem fr_l_eX10_draw_17_1 (s0 : mh_H) (hp : mh_p3 s0) (p1 : Int32) (y335 : Int64) : ∀ (n : Nat) (s592 : mh_H) (x591 : Int32), mh_Fr S_eX10_draw s0 s592 → mh_FrP S_eX10_draw s0 (l_eX10_draw_17_1 p1 y335 n s592 x591) := by
  have fs0 : mh_Fr S_eX10_draw s0 s0 := ⟨mh_F_rf, hp⟩
  intro n
  induction n with
  | zero => intro s592 x591 fs592; exact fs592
  | succ n ih =>
    intro s592 x591 fs592
    have hlo_17_1 := ih
    rw [l_eX10_draw_17_1_s]
    unfold ls_eX10_draw_17_1
    exact (mh_fI (mh_fA (fun x632 => (mh_fA (fun x634 => (mh_fA (fun x636 => (mh_fA (fun x638 => (mh_fB (mh_Fr_pI fs592 (mh_sj 0 rfl)) (fun s641 fs641 => (mh_fA (fun x643 => (mh_fI (mh_fA (fun x672 => (mh_fB (mh_Fr_pI fs641 (mh_si 1 rfl)) (fun s675 fs675 => (fr_j_eX10_draw_68_2 s0 hp (l_eX10_draw_17_1 p1 y335 n) s675 x591 hlo_17_1 fs675))))) (fr_j_eX10_draw_68_2 s0 hp (l_eX10_draw_17_1 p1 y335 n) s641 x591 hlo_17_1 fs641)))))))))))))) (mh_fA (fun y626 => (mh_fA (fun y628 => (mh_fA (fun x630 => fs592)))))))
theorem fr_eX10_draw (s0 : mh_H) (p1 : Int32) (hp : mh_p3 s0) : mh_FrP S_eX10_draw s0 (f_eX10_draw s0 p1) := by
  have fs0 : mh_Fr S_eX10_draw s0 s0 := ⟨mh_F_rf, hp⟩
  unfold f_eX10_draw
  exact (mh_fA (fun x331 => (mh_fI fs0 (mh_fA (fun y335 => (fr_l_eX10_draw_17_1 s0 hp p1 y335 61 s0 (0 : Int32) fs0))))))
theorem fr_l_eX10_keep_20_1 (s0 : mh_H) (hp : mh_p3 s0) : ∀ (n : Nat) (s180 : mh_H) (x179 : Int32), mh_Fr S_eX10_keep s0 s180 → mh_FrP S_eX10_keep s0 (l_eX10_keep_20_1 n s180 x179) := by
  have fs0 : mh_Fr S_eX10_keep s0 s0 := ⟨mh_F_rf, hp⟩
  intro n
  induction n with
  | zero => intro s180 x179 fs180; exact fs180
  | succ n ih =>
    intro s180 x179 fs180
    have hlo_20_1 := ih
    rw [l_eX10_keep_20_1_s]
    unfold ls_eX10_keep_20_1
    exact (mh_fI (mh_fA (fun x193 => (mh_fB (mh_Fr_pI fs180 (mh_si 8 rfl)) (fun s195 fs195 => (mh_fA (fun x197 => (hlo_20_1 s195 x197 fs195))))))) (mh_fA (fun x191 => fs180)))
theorem fr_eX10_keep (s0 : mh_H) (hp : mh_p3 s0) : mh_FrP S_eX10_keep s0 (f_eX10_keep s0) := by
  have fs0 : mh_Fr S_eX10_keep s0 s0 := ⟨mh_F_rf, hp⟩
  unfold f_eX10_keep
  exact (mh_fB (mh_Fr_pI fs0 (mh_sj 0 rfl)) (fun s100 fs100 => (mh_fB (mh_Fr_tv fs100 (fr_eX10_setsAside s100 (1 : Int32) fs100.2) (by decide +kernel)) (fun s103 fs103 => (mh_fA (fun x105 => (mh_fB (mh_Fr_pI fs103 (mh_sj 7 rfl)) (fun s107 fs107 => (fr_l_eX10_keep_20_1 s0 hp 101 s107 (0 : Int32) fs107)))))))))
theorem fr_l_eX10_undo_24_1 (s0 : mh_H) (hp : mh_p3 s0) : ∀ (n : Nat) (s180 : mh_H) (x179 : Int32), mh_Fr S_eX10_undo s0 s180 → mh_FrP S_eX10_undo s0 (l_eX10_undo_24_1 n s180 x179) := by
  have fs0 : mh_Fr S_eX10_undo s0 s0 := ⟨mh_F_rf, hp⟩
  intro n
  induction n with
  | zero => intro s180 x179 fs180; exact fs180
  | succ n ih =>
    intro s180 x179 fs180
    have hlo_24_1 := ih
    rw [l_eX10_undo_24_1_s]
    unfold ls_eX10_undo_24_1
    exact (mh_fI (mh_fA (fun x191 => (mh_fB (mh_Fr_pI fs180 (mh_si 7 rfl)) (fun s193 fs193 => (mh_fA (fun x195 => (hlo_24_1 s193 x195 fs193))))))) fs180)
theorem fr_eX10_undo (s0 : mh_H) (hp : mh_p3 s0) : mh_FrP S_eX10_undo s0 (f_eX10_undo s0) := by
  have fs0 : mh_Fr S_eX10_undo s0 s0 := ⟨mh_F_rf, hp⟩
  unfold f_eX10_undo
  exact (mh_fA (fun x99 => (mh_fI fs0 (mh_fB (mh_Fr_tv fs0 (fr_eX10_putsBack s0 (1 : Int32) fs0.2) (by decide +kernel)) (fun s103 fs103 => (mh_fA (fun x105 => (mh_fB (mh_Fr_pI fs103 (mh_sj 6 rfl)) (fun s107 fs107 => (fr_l_eX10_undo_24_1 s0 hp 101 s107 (0 : Int32) fs107))))))))))
theorem fr_l_eX10_check_39_1 (s0 : mh_H) (hp : mh_p3 s0) (s151 : mh_H) (p1 : Int32) (p2 : Int32) (fs151 : mh_Fr S_eX10_check s0 s151) : ∀ (n : Nat) (x243 : Int32), mh_FrP S_eX10_check s0 (l_eX10_check_39_1 s151 p1 p2 n x243) := by
  have fs0 : mh_Fr S_eX10_check s0 s0 := ⟨mh_F_rf, hp⟩
  intro n
  induction n with
  | zero => intro x243; exact fs151
  | succ n ih =>
    intro x243
    have hlo_39_1 := ih
    rw [l_eX10_check_39_1_s]
    unfold ls_eX10_check_39_1
    exact (mh_fI (mh_fA (fun x258 => (mh_fA (fun x261 => (mh_fA (fun x264 => (mh_fI (mh_fA (fun x267 => (hlo_39_1 x267))) fs151))))))) fs151)
theorem fr_eX10_check (s0 : mh_H) (p1 : Int32) (p2 : Int32) (hp : mh_p3 s0) : mh_FrP S_eX10_check s0 (f_eX10_check s0 p1 p2) := by
  have fs0 : mh_Fr S_eX10_check s0 s0 := ⟨mh_F_rf, hp⟩
  unfold f_eX10_check
  exact (mh_fA (fun x135 => (mh_fI fs0 (mh_fA (fun y139 => (mh_fA (fun x141 => (mh_fI fs0 (mh_fA (fun x145 => (mh_fA (fun x147 => (mh_fI fs0 (mh_fB (mh_Fr_pI fs0 (mh_sj 0 rfl)) (fun s151 fs151 => (fr_l_eX10_check_39_1 s0 hp s151 p1 p2 fs151 15 (0 : Int32)))))))))))))))))
theorem fr_eX10_cell (s0 : mh_H) (p1 : Int32) (p2 : Int32) (p3 : Int32) (hp : mh_p3 s0) : mh_FrP S_eX10_cell s0 (f_eX10_cell s0 p1 p2 p3) := by
  have fs0 : mh_Fr S_eX10_cell s0 s0 := ⟨mh_F_rf, hp⟩
  unfold f_eX10_cell
  exact (mh_fA (fun x37 => (mh_fI fs0 (mh_fA (fun x41 => (mh_fI (mh_fA (fun x45 => fs0)) (mh_fI (mh_fA (fun x47 => fs0)) (mh_fI (mh_fA (fun x49 => fs0)) (mh_fI (mh_fA (fun x51 => fs0)) (mh_fI (mh_fC (mh_Fr_tl fs0 (fr_eX10_mistAt s0 x41 fs0.2) (by decide +kernel)) (fun x53 s54 fs54 => fs54)) (mh_fI (mh_fC (mh_Fr_tl fs0 (fr_eX10_mistAt s0 x41 fs0.2) (by decide +kernel)) (fun x56 s57 fs57 => (mh_fI (mh_fA (fun x60 => (mh_fC (mh_Fr_tl fs57 (fr_eX10_mistAt s57 x41 fs57.2) (by decide +kernel)) (fun x62 s63 fs63 => (mh_fA (fun x65 => fs63)))))) fs57))) (mh_fI (mh_fC (mh_Fr_tl fs0 (fr_eX10_yardsAt s0 x41 fs0.2) (by decide +kernel)) (fun x67 s68 fs68 => fs68)) (mh_fI (mh_fA (fun x70 => fs0)) fs0)))))))))))))
theorem fr_l_eX10_sums_38_1 (s0 : mh_H) (hp : mh_p3 s0) : ∀ (n : Nat) (x313 : Int32) (x314 : Int32), mh_FrP S_eX10_sums s0 (l_eX10_sums_38_1 s0 n x313 x314) := by
  have fs0 : mh_Fr S_eX10_sums s0 s0 := ⟨mh_F_rf, hp⟩
  intro n
  induction n with
  | zero => intro x313 x314; exact fs0
  | succ n ih =>
    intro x313 x314
    have hlo_38_1 := ih
    rw [l_eX10_sums_38_1_s]
    unfold ls_eX10_sums_38_1
    exact (mh_fI (mh_fA (fun x325 => (mh_fA (fun x327 => (mh_fA (fun x329 => (hlo_38_1 x329 x327))))))) fs0)
theorem fr_l_eX10_sums_64_2 (s0 : mh_H) (hp : mh_p3 s0) : ∀ (n : Nat) (x419 : Int32) (x420 : Int32), mh_FrP S_eX10_sums s0 (l_eX10_sums_64_2 s0 n x419 x420) := by
  have fs0 : mh_Fr S_eX10_sums s0 s0 := ⟨mh_F_rf, hp⟩
  intro n
  induction n with
  | zero => intro x419 x420; exact fs0
  | succ n ih =>
    intro x419 x420
    have hlo_64_2 := ih
    rw [l_eX10_sums_64_2_s]
    unfold ls_eX10_sums_64_2
    exact (mh_fI (mh_fA (fun x431 => (mh_fA (fun x433 => (mh_fA (fun x435 => (hlo_64_2 x435 x433))))))) fs0)
theorem fr_eX10_sums (s0 : mh_H) (p1 : Int32) (hp : mh_p3 s0) : mh_FrP S_eX10_sums s0 (f_eX10_sums s0 p1) := by
  have fs0 : mh_Fr S_eX10_sums s0 s0 := ⟨mh_F_rf, hp⟩
  unfold f_eX10_sums
  exact (mh_fI (fr_l_eX10_sums_38_1 s0 hp 145 (0 : Int32) (0 : Int32)) (mh_fI (fr_l_eX10_sums_64_2 s0 hp 145 (0 : Int32) (0 : Int32)) (mh_fI (mh_fA (fun y437 => (mh_fA (fun x439 => fs0)))) (mh_fI (mh_fC (mh_Fr_tl fs0 (fr_eX10_misty s0 fs0.2) (by decide +kernel)) (fun x441 s442 fs442 => fs442)) (mh_fI (mh_fC (mh_Fr_tl fs0 (fr_eX10_highestTop s0 fs0.2) (by decide +kernel)) (fun x444 s445 fs445 => fs445)) fs0)))))
theorem fr_j_eX10_sun_103_2 (s0 : mh_H) (hp : mh_p3 s0) (lo_58_1 : mh_H → Int32 → Int32 → Int32 × mh_H) (s882 : mh_H) (x850 : Int32) (x851 : Int32) (x890 : Int32) (hlo_58_1 : ∀ (s852 : mh_H) (x850 : Int32) (x851 : Int32), mh_Fr S_eX10_sun s0 s852 → mh_FrP S_eX10_sun s0 (lo_58_1 s852 x850 x851)) (fs882 : mh_Fr S_eX10_sun s0 s882) : mh_FrP S_eX10_sun s0 (j_eX10_sun_103_2 lo_58_1 s882 x850 x851 x890) := by
  have fs0 : mh_Fr S_eX10_sun s0 s0 := ⟨mh_F_rf, hp⟩
  unfold j_eX10_sun_103_2
  exact (mh_fA (fun x895 => (mh_fA (fun x897 => (hlo_58_1 s882 x897 x895 fs882)))))
theorem fr_j_eX10_sun_98_3 (s0 : mh_H) (hp : mh_p3 s0) (lo_58_1 : mh_H → Int32 → Int32 → Int32 × mh_H) (s882 : mh_H) (x850 : Int32) (x851 : Int32) (hlo_58_1 : ∀ (s852 : mh_H) (x850 : Int32) (x851 : Int32), mh_Fr S_eX10_sun s0 s852 → mh_FrP S_eX10_sun s0 (lo_58_1 s852 x850 x851)) (fs882 : mh_Fr S_eX10_sun s0 s882) : mh_FrP S_eX10_sun s0 (j_eX10_sun_98_3 lo_58_1 s882 x850 x851) := by
  have fs0 : mh_Fr S_eX10_sun s0 s0 := ⟨mh_F_rf, hp⟩
  unfold j_eX10_sun_98_3
  exact (fr_j_eX10_sun_103_2 s0 hp lo_58_1 s882 x850 x851 (1 : Int32) hlo_58_1 fs882)
theorem fr_l_eX10_sun_58_1 (s0 : mh_H) (hp : mh_p3 s0) (p3 : Int32) (p4 : Int32) (x469 : Int32) : ∀ (n : Nat) (s852 : mh_H) (x850 : Int32) (x851 : Int32), mh_Fr S_eX10_sun s0 s852 → mh_FrP S_eX10_sun s0 (l_eX10_sun_58_1 p3 p4 x469 n s852 x850 x851) := by
  have fs0 : mh_Fr S_eX10_sun s0 s0 := ⟨mh_F_rf, hp⟩
  intro n
  induction n with
  | zero => intro s852 x850 x851 fs852; exact fs852
  | succ n ih =>
    intro s852 x850 x851 fs852
    have hlo_58_1 := ih
    rw [l_eX10_sun_58_1_s]
    unfold ls_eX10_sun_58_1
    exact (mh_fI (mh_fB (mh_Fr_tv fs852 (fr_eX10_stepOne s852 fs852.2) (by decide +kernel)) (fun s879 fs879 => (mh_fC (mh_Fr_tl fs879 (fr_eX10_mistAt s879 x469 fs879.2) (by decide +kernel)) (fun x881 s882 fs882 => (mh_fI (fr_j_eX10_sun_98_3 s0 hp (l_eX10_sun_58_1 p3 p4 x469 n) s882 x850 x851 hlo_58_1 fs882) (mh_fA (fun x900 => (mh_fA (fun x902 => (mh_fI (fr_j_eX10_sun_103_2 s0 hp (l_eX10_sun_58_1 p3 p4 x469 n) s882 x850 x851 (0 : Int32) hlo_58_1 fs882) (fr_j_eX10_sun_98_3 s0 hp (l_eX10_sun_58_1 p3 p4 x469 n) s882 x850 x851 hlo_58_1 fs882))))))))))) (mh_fB (mh_Fr_tv fs852 (fr_eX10_putsBack s852 (0 : Int32) fs852.2) (by decide +kernel)) (fun s876 fs876 => fs876)))
theorem fr_eX10_sun (s0 : mh_H) (p1 : Int32) (p2 : Int32) (p3 : Int32) (p4 : Int32) (hp : mh_p3 s0) : mh_FrP S_eX10_sun s0 (f_eX10_sun s0 p1 p2 p3 p4) := by
  have fs0 : mh_Fr S_eX10_sun s0 s0 := ⟨mh_F_rf, hp⟩
  unfold f_eX10_sun
  exact (mh_fA (fun x448 => (mh_fI fs0 (mh_fA (fun x452 => (mh_fI fs0 (mh_fA (fun y456 => (mh_fA (fun x458 => (mh_fA (fun x461 => (mh_fA (fun y463 => (mh_fA (fun x465 => (mh_fI fs0 (mh_fA (fun x469 => (mh_fB (mh_Fr_tv fs0 (fr_eX10_setsAside s0 (0 : Int32) fs0.2) (by decide +kernel)) (fun s473 fs473 => (fr_l_eX10_sun_58_1 s0 hp p3 p4 x469 61 s473 (0 : Int32) (0 : Int32) fs473))))))))))))))))))))))
end
section
theorem fr_j_eX10_night_110_2 (s0 : mh_H) (hp : mh_p3 s0) (lo_47_1 : mh_H → Int32 → Int32 → Int32 → Int32 → Int32 → Int32 → Int32 × mh_H) (s1784 : mh_H) (x1700 : Int32) (x1779 : Int32) (x1780 : Int32) (x1781 : Int32) (x1782 : Int32) (x1783 : Int32) (hlo_47_1 : ∀ (s1706 : mh_H) (x1700 : Int32) (x1701 : Int32) (x1702 : Int32) (x1703 : Int32) (x1704 : Int32) (x1705 : Int32), mh_Fr S_eX10_night s0 s1706 → mh_FrP S_eX10_night s0 (lo_47_1 s1706 x1700 x1701 x1702 x1703 x1704 x1705)) (fs1784 : mh_Fr S_eX10_night s0 s1784) : mh_FrP S_eX10_night s0 (j_eX10_night_110_2 lo_47_1 s1784 x1700 x1779 x1780 x1781 x1782 x1783) := by
  have fs0 : mh_Fr S_eX10_night s0 s0 := ⟨mh_F_rf, hp⟩
  unfold j_eX10_night_110_2
  exact (mh_fA (fun x1787 => (hlo_47_1 s1784 x1787 x1783 x1782 x1781 x1780 x1779 fs1784)))
theorem fr_j_eX10_night_95_3 (s0 : mh_H) (hp : mh_p3 s0) (lo_47_1 : mh_H → Int32 → Int32 → Int32 → Int32 → Int32 → Int32 → Int32 × mh_H) (s1800 : mh_H) (x1700 : Int32) (x1704 : Int32) (x1705 : Int32) (x1758 : Int32) (x1790 : Int32) (x1798 : Int32) (x1799 : Int32) (hlo_47_1 : ∀ (s1706 : mh_H) (x1700 : Int32) (x1701 : Int32) (x1702 : Int32) (x1703 : Int32) (x1704 : Int32) (x1705 : Int32), mh_Fr S_eX10_night s0 s1706 → mh_FrP S_eX10_night s0 (lo_47_1 s1706 x1700 x1701 x1702 x1703 x1704 x1705)) (fs1800 : mh_Fr S_eX10_night s0 s1800) : mh_FrP S_eX10_night s0 (j_eX10_night_95_3 lo_47_1 s1800 x1700 x1704 x1705 x1758 x1790 x1798 x1799) := by
  have fs0 : mh_Fr S_eX10_night s0 s0 := ⟨mh_F_rf, hp⟩
  unfold j_eX10_night_95_3
  exact (mh_fI (mh_fA (fun x1805 => (fr_j_eX10_night_110_2 s0 hp lo_47_1 s1800 x1700 x1758 x1805 x1798 x1799 x1790 hlo_47_1 fs1800))) (fr_j_eX10_night_110_2 s0 hp lo_47_1 s1800 x1700 x1705 x1704 x1798 x1799 x1790 hlo_47_1 fs1800))
theorem fr_l_eX10_night_47_1 (s0 : mh_H) (hp : mh_p3 s0) (p1 : Int32) (p2 : Int32) : ∀ (n : Nat) (s1706 : mh_H) (x1700 : Int32) (x1701 : Int32) (x1702 : Int32) (x1703 : Int32) (x1704 : Int32) (x1705 : Int32), mh_Fr S_eX10_night s0 s1706 → mh_FrP S_eX10_night s0 (l_eX10_night_47_1 p1 p2 n s1706 x1700 x1701 x1702 x1703 x1704 x1705) := by
  have fs0 : mh_Fr S_eX10_night s0 s0 := ⟨mh_F_rf, hp⟩
  intro n
  induction n with
  | zero => intro s1706 x1700 x1701 x1702 x1703 x1704 x1705 fs1706; exact fs1706
  | succ n ih =>
    intro s1706 x1700 x1701 x1702 x1703 x1704 x1705 fs1706
    have hlo_47_1 := ih
    rw [l_eX10_night_47_1_s]
    unfold ls_eX10_night_47_1
    exact (mh_fI (mh_fB (mh_Fr_tv fs1706 (fr_eX10_stepOne s1706 fs1706.2) (by decide +kernel)) (fun s1756 fs1756 => (mh_fC (mh_Fr_tl fs1756 (fr_eX10_highestTop s1756 fs1756.2) (by decide +kernel)) (fun x1758 s1759 fs1759 => (mh_fC (mh_Fr_tl fs1759 (fr_eX10_misty s1759 fs1759.2) (by decide +kernel)) (fun x1761 s1762 fs1762 => (mh_fI (fr_j_eX10_night_110_2 s0 hp (l_eX10_night_47_1 p1 p2 n) s1762 x1700 x1705 x1704 x1703 x1702 x1701 hlo_47_1 fs1762) (mh_fA (fun x1790 => (mh_fI (mh_fA (fun x1808 => (mh_fC (mh_Fr_tl fs1762 (fr_eX10_lowestMisty s1762 fs1762.2) (by decide +kernel)) (fun x1810 s1811 fs1811 => (fr_j_eX10_night_95_3 s0 hp (l_eX10_night_47_1 p1 p2 n) s1811 x1700 x1704 x1705 x1758 x1790 x1810 x1808 hlo_47_1 fs1811))))) (fr_j_eX10_night_95_3 s0 hp (l_eX10_night_47_1 p1 p2 n) s1762 x1700 x1704 x1705 x1758 x1790 x1703 x1702 hlo_47_1 fs1762))))))))))) (mh_fB (mh_Fr_tv fs1706 (fr_eX10_putsBack s1706 (0 : Int32) fs1706.2) (by decide +kernel)) (fun s1749 fs1749 => (mh_fI fs1749 (mh_fI fs1749 (mh_fI fs1749 (mh_fI fs1749 fs1749)))))))
theorem fr_eX10_night (s0 : mh_H) (p1 : Int32) (p2 : Int32) (hp : mh_p3 s0) : mh_FrP S_eX10_night s0 (f_eX10_night s0 p1 p2) := by
  have fs0 : mh_Fr S_eX10_night s0 s0 := ⟨mh_F_rf, hp⟩
  unfold f_eX10_night
  exact (mh_fA (fun x894 => (mh_fI fs0 (mh_fA (fun y898 => (mh_fA (fun x900 => (mh_fI fs0 (mh_fB (mh_Fr_tv fs0 (fr_eX10_setsAside s0 (0 : Int32) fs0.2) (by decide +kernel)) (fun s905 fs905 => (fr_l_eX10_night_47_1 s0 hp p1 p2 61 s905 (0 : Int32) (0 : Int32) (-2 : Int32) (-2 : Int32) (-2 : Int32) (-2 : Int32) fs905)))))))))))
theorem fr_l_eX10_steps_17_1 (s0 : mh_H) (hp : mh_p3 s0) (p1 : Int32) (y79 : Int64) : ∀ (n : Nat) (s128 : mh_H) (x127 : Int32), mh_Fr S_eX10_steps s0 s128 → mh_FrP S_eX10_steps s0 (l_eX10_steps_17_1 p1 y79 n s128 x127) := by
  have fs0 : mh_Fr S_eX10_steps s0 s0 := ⟨mh_F_rf, hp⟩
  intro n
  induction n with
  | zero => intro s128 x127 fs128; exact fs128
  | succ n ih =>
    intro s128 x127 fs128
    have hlo_17_1 := ih
    rw [l_eX10_steps_17_1_s]
    unfold ls_eX10_steps_17_1
    exact (mh_fI (mh_fB (mh_Fr_tv fs128 (fr_eX10_stepOne s128 fs128.2) (by decide +kernel)) (fun s145 fs145 => (mh_fA (fun x147 => (hlo_17_1 s145 x147 fs145))))) (mh_fA (fun y138 => (mh_fA (fun y140 => (mh_fA (fun x142 => fs128)))))))
theorem fr_eX10_steps (s0 : mh_H) (p1 : Int32) (hp : mh_p3 s0) : mh_FrP S_eX10_steps s0 (f_eX10_steps s0 p1) := by
  have fs0 : mh_Fr S_eX10_steps s0 s0 := ⟨mh_F_rf, hp⟩
  unfold f_eX10_steps
  exact (mh_fA (fun x75 => (mh_fI fs0 (mh_fA (fun y79 => (fr_l_eX10_steps_17_1 s0 hp p1 y79 61 s0 (0 : Int32) fs0))))))
theorem fr_eX10_wrongs (s0 : mh_H) (p1 : Int32) (p2 : Int32) (hp : mh_p3 s0) : mh_Fr S_eX10_wrongs s0 (f_eX10_wrongs s0 p1 p2) := by
  have fs0 : mh_Fr S_eX10_wrongs s0 s0 := ⟨mh_F_rf, hp⟩
  unfold f_eX10_wrongs
  exact (mh_fA (fun x14 => (mh_fI (mh_fB (mh_Fr_pI fs0 (mh_sj 0 rfl)) (fun s26 fs26 => fs26)) (mh_fA (fun x17 => (mh_fA (fun x19 => (mh_fB (mh_Fr_pI fs0 (mh_sj 0 rfl)) (fun s21 fs21 => fs21)))))))))
theorem fr_eX10_emit (s0 : mh_H) (p1 : Int32) (p2 : Int32) (hp : mh_p3 s0) : mh_Fr S_eX10_emit s0 (f_eX10_emit s0 p1 p2) := by
  have fs0 : mh_Fr S_eX10_emit s0 s0 := ⟨mh_F_rf, hp⟩
  unfold f_eX10_emit
  exact (mh_fA (fun x21 => (mh_fA (fun x24 => (mh_fI fs0 (mh_fA (fun x27 => (mh_fB (mh_Fr_pI fs0 (mh_si 0 rfl)) (fun s29 fs29 => (mh_fB (mh_Fr_pI fs29 (mh_si 1 rfl)) (fun s34 fs34 => (mh_fA (fun x39 => (mh_fB (mh_Fr_pI fs34 (mh_sj 2 rfl)) (fun s41 fs41 => fs41)))))))))))))))
theorem fr_eX10_puts (s0 : mh_H) (p1 : Int32) (hp : mh_p3 s0) : mh_Fr S_eX10_puts s0 (f_eX10_puts s0 p1) := by
  have fs0 : mh_Fr S_eX10_puts s0 s0 := ⟨mh_F_rf, hp⟩
  unfold f_eX10_puts
  exact (mh_fA (fun x17 => (mh_fB (mh_Fr_pI fs0 (mh_si 0 rfl)) (fun s19 fs19 => (mh_fA (fun x24 => (mh_fB (mh_Fr_pI fs19 (mh_sj 1 rfl)) (fun s26 fs26 => (mh_fA (fun x28 => (mh_fA (fun x30 => (mh_fB (mh_Fr_pI fs26 (mh_sj 2 rfl)) (fun s32 fs32 => fs32))))))))))))))
theorem fr_eX10_opens (s0 : mh_H) (hp : mh_p3 s0) : mh_Fr S_eX10_opens s0 (f_eX10_opens s0) := by
  have fs0 : mh_Fr S_eX10_opens s0 s0 := ⟨mh_F_rf, hp⟩
  unfold f_eX10_opens
  exact (mh_fA (fun x53 => (mh_fA (fun x55 => (mh_fA (fun x57 => (mh_fA (fun x59 => (mh_fA (fun x61 => (mh_fA (fun x63 => (mh_fI (mh_fB (mh_Fr_tv fs0 (fr_eX10_wrongs s0 (5 : Int32) x53 fs0.2) (by decide +kernel)) (fun s98 fs98 => (mh_fA (fun x100 => (mh_fA (fun x105 => (mh_fB (mh_Fr_pI fs98 (mh_sj 0 rfl)) (fun s107 fs107 => (mh_fA (fun x113 => (mh_fB (mh_Fr_tv fs107 (fr_eX10_puts s107 x113 fs107.2) (by decide +kernel)) (fun s119 fs119 => (mh_fA (fun x121 => (mh_fA (fun x123 => fs119)))))))))))))))) (mh_fA (fun x68 => (mh_fB (mh_Fr_pI fs0 (mh_sj 0 rfl)) (fun s70 fs70 => (mh_fA (fun x74 => (mh_fB (mh_Fr_tv fs70 (fr_eX10_puts s70 x74 fs70.2) (by decide +kernel)) (fun s79 fs79 => (mh_fA (fun x81 => (mh_fA (fun x83 => fs79)))))))))))))))))))))))))
theorem fr_l_eX10_reads_7_1 (s0 : mh_H) (hp : mh_p3 s0) (x311 : Int32) : ∀ (n : Nat) (s498 : mh_H) (x497 : Int32), mh_Fr S_eX10_reads s0 s498 → mh_FrP S_eX10_reads s0 (l_eX10_reads_7_1 x311 n s498 x497) := by
  have fs0 : mh_Fr S_eX10_reads s0 s0 := ⟨mh_F_rf, hp⟩
  intro n
  induction n with
  | zero => intro s498 x497 fs498; exact fs498
  | succ n ih =>
    intro s498 x497 fs498
    have hlo_7_1 := ih
    rw [l_eX10_reads_7_1_s]
    unfold ls_eX10_reads_7_1
    exact (mh_fA (fun x561 => (mh_fA (fun x563 => (mh_fA (fun x565 => (mh_fA (fun x567 => (mh_fA (fun x569 => (mh_fA (fun x571 => (mh_fI fs498 (mh_fA (fun x575 => (mh_fI fs498 (mh_fA (fun x581 => (mh_fI (mh_fB (mh_Fr_tv fs498 (fr_eX10_wrongs s498 (2 : Int32) x561 fs498.2) (by decide +kernel)) (fun s607 fs607 => (mh_fA (fun x609 => (mh_fA (fun x611 => (mh_fA (fun x615 => (mh_fA (fun x618 => (mh_fA (fun x620 => (mh_fA (fun x624 => (mh_fB (mh_Fr_pI fs607 (mh_sj 0 rfl)) (fun s626 fs626 => (hlo_7_1 s626 x620 fs626))))))))))))))))) (mh_fA (fun x584 => (mh_fA (fun x586 => (mh_fA (fun x589 => (mh_fA (fun x591 => (mh_fA (fun x595 => (mh_fB (mh_Fr_pI fs498 (mh_sj 0 rfl)) (fun s597 fs597 => (hlo_7_1 s597 x591 fs597))))))))))))))))))))))))))))))))
theorem fr_eX10_reads (s0 : mh_H) (hp : mh_p3 s0) : mh_FrP S_eX10_reads s0 (f_eX10_reads s0) := by
  have fs0 : mh_Fr S_eX10_reads s0 s0 := ⟨mh_F_rf, hp⟩
  unfold f_eX10_reads
  exact (mh_fA (fun x311 => (mh_fA (fun x313 => (mh_fA (fun x315 => (mh_fA (fun x317 => (mh_fA (fun x319 => (fr_l_eX10_reads_7_1 s0 hp x311 202 s0 (0 : Int32) fs0)))))))))))
theorem fr_l_eX10_folds_0_1 (s0 : mh_H) (hp : mh_p3 s0) (p1 : Int32) : ∀ (n : Nat) (s215 : mh_H), mh_Fr S_eX10_folds s0 s215 → mh_Fr S_eX10_folds s0 (l_eX10_folds_0_1 p1 n s215) := by
  have fs0 : mh_Fr S_eX10_folds s0 s0 := ⟨mh_F_rf, hp⟩
  intro n
  induction n with
  | zero => intro s215 fs215; exact fs215
  | succ n ih =>
    intro s215 fs215
    have hlo_0_1 := ih
    rw [l_eX10_folds_0_1_s]
    unfold ls_eX10_folds_0_1
    exact (mh_fA (fun x270 => (mh_fA (fun x272 => (mh_fA (fun x274 => (mh_fA (fun x276 => (mh_fA (fun x278 => (mh_fA (fun x280 => (mh_fA (fun x283 => (mh_fI (mh_fI fs215 (mh_fA (fun x311 => (mh_fA (fun x314 => (mh_fI fs215 (mh_fA (fun x318 => (mh_fB (mh_Fr_tv fs215 (fr_eX10_emit s215 x280 (0 : Int32) fs215.2) (by decide +kernel)) (fun s322 fs322 => (mh_fA (fun x324 => (mh_fA (fun x329 => (mh_fB (mh_Fr_pI fs322 (mh_sj 3 rfl)) (fun s331 fs331 => (hlo_0_1 s331 fs331))))))))))))))))) (mh_fA (fun x287 => (mh_fB (mh_Fr_tv fs215 (fr_eX10_emit s215 x280 (0 : Int32) fs215.2) (by decide +kernel)) (fun s291 fs291 => (mh_fA (fun x293 => (mh_fA (fun x298 => (mh_fB (mh_Fr_pI fs291 (mh_sj 3 rfl)) (fun s300 fs300 => (hlo_0_1 s300 fs300))))))))))))))))))))))))))
theorem fr_eX10_folds (s0 : mh_H) (p1 : Int32) (hp : mh_p3 s0) : mh_Fr S_eX10_folds s0 (f_eX10_folds s0 p1) := by
  have fs0 : mh_Fr S_eX10_folds s0 s0 := ⟨mh_F_rf, hp⟩
  unfold f_eX10_folds
  exact (mh_fA (fun x162 => (mh_fA (fun x164 => (mh_fA (fun x166 => (mh_fA (fun x168 => (mh_fA (fun x170 => (fr_l_eX10_folds_0_1 s0 hp p1 202 s0 fs0)))))))))))
theorem fr_l_eX10_joins_0_1 (s0 : mh_H) (hp : mh_p3 s0) (p1 : Int32) : ∀ (n : Nat) (s191 : mh_H), mh_Fr S_eX10_joins s0 s191 → mh_Fr S_eX10_joins s0 (l_eX10_joins_0_1 p1 n s191) := by
  have fs0 : mh_Fr S_eX10_joins s0 s0 := ⟨mh_F_rf, hp⟩
  intro n
  induction n with
  | zero => intro s191 fs191; exact fs191
  | succ n ih =>
    intro s191 fs191
    have hlo_0_1 := ih
    rw [l_eX10_joins_0_1_s]
    unfold ls_eX10_joins_0_1
    exact (mh_fA (fun x240 => (mh_fA (fun x242 => (mh_fA (fun x244 => (mh_fA (fun x246 => (mh_fA (fun x248 => (mh_fA (fun x250 => (mh_fI (mh_fA (fun x254 => (mh_fB (mh_Fr_tv fs191 (fr_eX10_emit s191 x250 (0 : Int32) fs191.2) (by decide +kernel)) (fun s258 fs258 => (mh_fA (fun x260 => (mh_fA (fun x265 => (mh_fB (mh_Fr_pI fs258 (mh_sj 3 rfl)) (fun s267 fs267 => (hlo_0_1 s267 fs267))))))))))) (mh_fI fs191 (mh_fA (fun x278 => (mh_fI (mh_fA (fun x282 => (mh_fB (mh_Fr_tv fs191 (fr_eX10_emit s191 x250 (0 : Int32) fs191.2) (by decide +kernel)) (fun s286 fs286 => (mh_fA (fun x288 => (mh_fA (fun x293 => (mh_fB (mh_Fr_pI fs286 (mh_sj 3 rfl)) (fun s295 fs295 => (hlo_0_1 s295 fs295))))))))))) fs191)))))))))))))))))
theorem fr_eX10_joins (s0 : mh_H) (p1 : Int32) (hp : mh_p3 s0) : mh_Fr S_eX10_joins s0 (f_eX10_joins s0 p1) := by
  have fs0 : mh_Fr S_eX10_joins s0 s0 := ⟨mh_F_rf, hp⟩
  unfold f_eX10_joins
  exact (mh_fA (fun x144 => (mh_fA (fun x146 => (mh_fA (fun x148 => (mh_fA (fun x150 => (mh_fA (fun x152 => (fr_l_eX10_joins_0_1 s0 hp p1 202 s0 fs0)))))))))))
theorem fr_l_eX10_ends_0_1 (s0 : mh_H) (hp : mh_p3 s0) : ∀ (n : Nat) (s127 : mh_H), mh_Fr S_eX10_ends s0 s127 → mh_Fr S_eX10_ends s0 (l_eX10_ends_0_1 n s127) := by
  have fs0 : mh_Fr S_eX10_ends s0 s0 := ⟨mh_F_rf, hp⟩
  intro n
  induction n with
  | zero => intro s127 fs127; exact fs127
  | succ n ih =>
    intro s127 fs127
    have hlo_0_1 := ih
    rw [l_eX10_ends_0_1_s]
    unfold ls_eX10_ends_0_1
    exact (mh_fA (fun x160 => (mh_fA (fun x162 => (mh_fA (fun x164 => (mh_fA (fun x166 => (mh_fA (fun x168 => (mh_fA (fun x170 => (mh_fI (mh_fB (mh_Fr_tv fs127 (fr_eX10_emit s127 (2 : Int32) (0 : Int32) fs127.2) (by decide +kernel)) (fun s175 fs175 => (mh_fA (fun x177 => (mh_fA (fun x182 => (mh_fB (mh_Fr_pI fs175 (mh_sj 3 rfl)) (fun s184 fs184 => (mh_fA (fun x186 => (mh_fA (fun x188 => (mh_fB (mh_Fr_pI fs184 (mh_sj 4 rfl)) (fun s190 fs190 => (hlo_0_1 s190 fs190))))))))))))))) fs127)))))))))))))
theorem fr_eX10_ends (s0 : mh_H) (hp : mh_p3 s0) : mh_Fr S_eX10_ends s0 (f_eX10_ends s0) := by
  have fs0 : mh_Fr S_eX10_ends s0 s0 := ⟨mh_F_rf, hp⟩
  unfold f_eX10_ends
  exact (mh_fA (fun x96 => (mh_fA (fun x98 => (mh_fA (fun x100 => (mh_fA (fun x102 => (mh_fA (fun x104 => (fr_l_eX10_ends_0_1 s0 hp 202 s0 fs0)))))))))))
theorem fr_l_eX10_factor_0_1 (s0 : mh_H) (hp : mh_p3 s0) : ∀ (n : Nat) (s163 : mh_H), mh_Fr S_eX10_factor s0 s163 → mh_Fr S_eX10_factor s0 (l_eX10_factor_0_1 n s163) := by
  have fs0 : mh_Fr S_eX10_factor s0 s0 := ⟨mh_F_rf, hp⟩
  intro n
  induction n with
  | zero => intro s163 fs163; exact fs163
  | succ n ih =>
    intro s163 fs163
    have hlo_0_1 := ih
    rw [l_eX10_factor_0_1_s]
    unfold ls_eX10_factor_0_1
    exact (mh_fA (fun x192 => (mh_fA (fun x194 => (mh_fA (fun x196 => (mh_fA (fun x198 => (mh_fA (fun x200 => (mh_fA (fun x202 => (mh_fI (mh_fA (fun x206 => fs163)) (mh_fA (fun x210 => (mh_fI (mh_fB (mh_Fr_tv fs163 (fr_eX10_opens s163 fs163.2) (by decide +kernel)) (fun s331 fs331 => (mh_fA (fun x333 => (mh_fA (fun x336 => (mh_fA (fun x339 => (hlo_0_1 s331 fs331))))))))) (mh_fA (fun x214 => (mh_fA (fun x218 => (mh_fI (mh_fA (fun x222 => (mh_fA (fun x225 => (mh_fI (mh_fB (mh_Fr_tv fs163 (fr_eX10_wrongs s163 (1 : Int32) x192 fs163.2) (by decide +kernel)) (fun s232 fs232 => (mh_fA (fun x234 => fs232)))) (mh_fA (fun x249 => (mh_fB (mh_Fr_tv fs163 (fr_eX10_emit s163 (1 : Int32) x210 fs163.2) (by decide +kernel)) (fun s253 fs253 => (mh_fA (fun x255 => (mh_fA (fun x260 => (mh_fB (mh_Fr_pI fs253 (mh_sj 3 rfl)) (fun s262 fs262 => fs262))))))))))))))) (mh_fC (mh_Fr_tl fs163 (fr_eX10_reads s163 fs163.2) (by decide +kernel)) (fun x298 s299 fs299 => (mh_fA (fun x301 => (mh_fA (fun x304 => (mh_fB (mh_Fr_tv fs299 (fr_eX10_emit s299 (0 : Int32) x298 fs299.2) (by decide +kernel)) (fun s309 fs309 => (mh_fA (fun x311 => fs309)))))))))))))))))))))))))))))))
theorem fr_eX10_factor (s0 : mh_H) (hp : mh_p3 s0) : mh_Fr S_eX10_factor s0 (f_eX10_factor s0) := by
  have fs0 : mh_Fr S_eX10_factor s0 s0 := ⟨mh_F_rf, hp⟩
  unfold f_eX10_factor
  exact (mh_fA (fun x136 => (mh_fA (fun x138 => (mh_fA (fun x140 => (mh_fA (fun x142 => (mh_fA (fun x144 => (fr_l_eX10_factor_0_1 s0 hp 202 s0 fs0)))))))))))
theorem fr_eX10_stays (s0 : mh_H) (hp : mh_p3 s0) : mh_FrP S_eX10_stays s0 (f_eX10_stays s0) := by
  have fs0 : mh_Fr S_eX10_stays s0 s0 := ⟨mh_F_rf, hp⟩
  unfold f_eX10_stays
  exact (mh_fA (fun x97 => (mh_fA (fun x99 => (mh_fA (fun x101 => (mh_fA (fun x103 => (mh_fA (fun x105 => (mh_fA (fun x107 => (mh_fA (fun x109 => (mh_fA (fun x112 => (mh_fI (mh_fA (fun x150 => (mh_fI (mh_fB (mh_Fr_tv fs0 (fr_eX10_folds s0 (1 : Int32) fs0.2) (by decide +kernel)) (fun s155 fs155 => (mh_fA (fun x160 => (mh_fA (fun x162 => (mh_fI (mh_fA (fun x165 => (mh_fI (mh_fA (fun x171 => (mh_fB (mh_Fr_pI fs155 (mh_sj 3 rfl)) (fun s173 fs173 => (mh_fA (fun x175 => (mh_fA (fun x177 => (mh_fB (mh_Fr_pI fs173 (mh_sj 6 rfl)) (fun s179 fs179 => (mh_fA (fun x185 => (mh_fB (mh_Fr_pI fs179 (mh_sj 5 rfl)) (fun s187 fs187 => (mh_fB (mh_Fr_pI fs187 (mh_sj 7 rfl)) (fun s189 fs189 => fs189)))))))))))))))) (mh_fB (mh_Fr_tv fs155 (fr_eX10_wrongs s155 (1 : Int32) x99 fs155.2) (by decide +kernel)) (fun s267 fs267 => (mh_fA (fun x269 => fs267))))))) fs155))))))) (mh_fA (fun x294 => (mh_fB (mh_Fr_tv fs0 (fr_eX10_folds s0 x294 fs0.2) (by decide +kernel)) (fun s298 fs298 => (mh_fA (fun x303 => (mh_fA (fun x305 => (mh_fB (mh_Fr_tv fs298 (fr_eX10_puts s298 x109 fs298.2) (by decide +kernel)) (fun s308 fs308 => (mh_fA (fun x310 => (mh_fA (fun x312 => fs308))))))))))))))))) (mh_fA (fun x116 => (mh_fB (mh_Fr_tv fs0 (fr_eX10_folds s0 x116 fs0.2) (by decide +kernel)) (fun s120 fs120 => (mh_fA (fun x125 => (mh_fA (fun x127 => (mh_fB (mh_Fr_tv fs120 (fr_eX10_puts s120 x109 fs120.2) (by decide +kernel)) (fun s130 fs130 => (mh_fA (fun x132 => (mh_fA (fun x134 => fs130)))))))))))))))))))))))))))))))
theorem fr_l_eX10_value_7_1 (s0 : mh_H) (hp : mh_p3 s0) : ∀ (n : Nat) (s275 : mh_H) (x274 : Int32), mh_Fr S_eX10_value s0 s275 → mh_Fr S_eX10_value s0 (l_eX10_value_7_1 n s275 x274) := by
  have fs0 : mh_Fr S_eX10_value s0 s0 := ⟨mh_F_rf, hp⟩
  intro n
  induction n with
  | zero => intro s275 x274 fs275; exact fs275
  | succ n ih =>
    intro s275 x274 fs275
    have hlo_7_1 := ih
    rw [l_eX10_value_7_1_s]
    unfold ls_eX10_value_7_1
    exact (mh_fA (fun x349 => (mh_fA (fun x351 => (mh_fA (fun x353 => (mh_fA (fun x355 => (mh_fA (fun x357 => (mh_fA (fun x359 => (mh_fI (mh_fA (fun x362 => (mh_fI fs275 (mh_fA (fun x366 => (mh_fI (mh_fB (mh_Fr_tv fs275 (fr_eX10_wrongs s275 (1 : Int32) x349 fs275.2) (by decide +kernel)) (fun s373 fs373 => (mh_fA (fun x375 => fs373)))) fs275)))))) (mh_fA (fun x393 => (mh_fI (mh_fA (fun x397 => fs275)) (mh_fI (mh_fB (mh_Fr_tv fs275 (fr_eX10_factor s275 fs275.2) (by decide +kernel)) (fun s432 fs432 => (mh_fA (fun x434 => (mh_fA (fun x437 => (mh_fA (fun x439 => (mh_fA (fun x441 => (mh_fB (mh_Fr_pI fs432 (mh_sj 0 rfl)) (fun s443 fs443 => (mh_fA (fun x450 => (mh_fI (hlo_7_1 s443 (0 : Int32) fs443) (mh_fC (mh_Fr_tl fs443 (fr_eX10_stays s443 fs443.2) (by decide +kernel)) (fun x455 s456 fs456 => (mh_fA (fun x458 => (mh_fA (fun x461 => (mh_fA (fun x463 => (mh_fA (fun x465 => (mh_fA (fun x467 => (mh_fI (hlo_7_1 s456 (0 : Int32) fs456) (hlo_7_1 s456 (1 : Int32) fs456))))))))))))))))))))))))))))) (mh_fB (mh_Fr_pI fs275 (mh_sj 0 rfl)) (fun s404 fs404 => (mh_fA (fun x411 => (mh_fC (mh_Fr_tl fs404 (fr_eX10_stays s404 fs404.2) (by decide +kernel)) (fun x416 s417 fs417 => (mh_fA (fun x419 => (mh_fA (fun x422 => (mh_fA (fun x424 => (mh_fA (fun x426 => (mh_fA (fun x428 => (mh_fI (hlo_7_1 s417 (0 : Int32) fs417) (hlo_7_1 s417 (1 : Int32) fs417)))))))))))))))))))))))))))))))))))
theorem fr_eX10_value (s0 : mh_H) (hp : mh_p3 s0) : mh_Fr S_eX10_value s0 (f_eX10_value s0) := by
  have fs0 : mh_Fr S_eX10_value s0 s0 := ⟨mh_F_rf, hp⟩
  unfold f_eX10_value
  exact (mh_fA (fun x220 => (mh_fA (fun x222 => (mh_fA (fun x224 => (mh_fA (fun x226 => (mh_fA (fun x228 => (mh_fA (fun x230 => (mh_fB (mh_Fr_pI fs0 (mh_sj 0 rfl)) (fun s232 fs232 => (fr_l_eX10_value_7_1 s0 hp 404 s232 (1 : Int32) fs232)))))))))))))))
theorem fr_l_eX10_pieceOfC_0_1 (s0 : mh_H) (hp : mh_p3 s0) : ∀ (n : Nat) (s247 : mh_H), mh_Fr S_eX10_pieceOfC s0 s247 → mh_Fr S_eX10_pieceOfC s0 (l_eX10_pieceOfC_0_1 n s247) := by
  have fs0 : mh_Fr S_eX10_pieceOfC s0 s0 := ⟨mh_F_rf, hp⟩
  intro n
  induction n with
  | zero => intro s247 fs247; exact fs247
  | succ n ih =>
    intro s247 fs247
    have hlo_0_1 := ih
    rw [l_eX10_pieceOfC_0_1_s]
    unfold ls_eX10_pieceOfC_0_1
    exact (mh_fA (fun x289 => (mh_fA (fun x291 => (mh_fA (fun x293 => (mh_fA (fun x295 => (mh_fA (fun x297 => (mh_fA (fun x299 => (mh_fI (mh_fA (fun x303 => (mh_fA (fun x307 => fs247)))) (mh_fA (fun x311 => (mh_fI (mh_fB (mh_Fr_tv fs247 (fr_eX10_opens s247 fs247.2) (by decide +kernel)) (fun s316 fs316 => (mh_fA (fun x318 => (mh_fA (fun x321 => (mh_fA (fun x324 => (hlo_0_1 s316 fs316))))))))) (mh_fA (fun x326 => (mh_fI (mh_fB (mh_Fr_tv fs247 (fr_eX10_opens s247 fs247.2) (by decide +kernel)) (fun s444 fs444 => (mh_fA (fun x446 => (mh_fA (fun x449 => (mh_fA (fun x452 => (hlo_0_1 s444 fs444))))))))) (mh_fA (fun x330 => (mh_fB (mh_Fr_tv fs247 (fr_eX10_value s247 fs247.2) (by decide +kernel)) (fun s335 fs335 => (mh_fA (fun x337 => (mh_fA (fun x340 => (mh_fA (fun x342 => (mh_fA (fun x344 => (mh_fA (fun x346 => (mh_fI fs335 (mh_fA (fun x350 => (mh_fA (fun x353 => (mh_fI (mh_fB (mh_Fr_tv fs335 (fr_eX10_wrongs s335 (1 : Int32) x337 fs335.2) (by decide +kernel)) (fun s419 fs419 => (mh_fA (fun x421 => fs419)))) (mh_fB (mh_Fr_tv fs335 (fr_eX10_puts s335 x350 fs335.2) (by decide +kernel)) (fun s358 fs358 => (mh_fA (fun x360 => (mh_fA (fun x362 => (mh_fB (mh_Fr_tv fs358 (fr_eX10_value s358 fs358.2) (by decide +kernel)) (fun s368 fs368 => (mh_fA (fun x370 => (mh_fA (fun x373 => (mh_fA (fun x375 => (mh_fA (fun x377 => (mh_fA (fun x379 => (mh_fI fs368 (mh_fA (fun x383 => (mh_fB (mh_Fr_tv fs368 (fr_eX10_emit s368 x383 (0 : Int32) fs368.2) (by decide +kernel)) (fun s387 fs387 => (mh_fA (fun x389 => (mh_fA (fun x394 => (mh_fB (mh_Fr_pI fs387 (mh_sj 2 rfl)) (fun s396 fs396 => (mh_fB (mh_Fr_tv fs396 (fr_eX10_ends s396 fs396.2) (by decide +kernel)) (fun s407 fs407 => (mh_fA (fun x412 => (mh_fA (fun x414 => fs407))))))))))))))))))))))))))))))))))))))))))))))))))))))))))))))))))))))))))
theorem fr_eX10_pieceOfC (s0 : mh_H) (hp : mh_p3 s0) : mh_Fr S_eX10_pieceOfC s0 (f_eX10_pieceOfC s0) := by
  have fs0 : mh_Fr S_eX10_pieceOfC s0 s0 := ⟨mh_F_rf, hp⟩
  unfold f_eX10_pieceOfC
  exact (mh_fA (fun x207 => (mh_fA (fun x209 => (mh_fA (fun x211 => (mh_fA (fun x213 => (mh_fA (fun x215 => (fr_l_eX10_pieceOfC_0_1 s0 hp 202 s0 fs0)))))))))))
theorem fr_eX10_goesBehind (s0 : mh_H) (hp : mh_p3 s0) : mh_FrP S_eX10_goesBehind s0 (f_eX10_goesBehind s0) := by
  have fs0 : mh_Fr S_eX10_goesBehind s0 s0 := ⟨mh_F_rf, hp⟩
  unfold f_eX10_goesBehind
  exact (mh_fA (fun x101 => (mh_fA (fun x103 => (mh_fA (fun x105 => (mh_fA (fun x107 => (mh_fA (fun x109 => (mh_fA (fun x111 => (mh_fA (fun x113 => (mh_fI (mh_fB (mh_Fr_tv fs0 (fr_eX10_joins s0 (0 : Int32) fs0.2) (by decide +kernel)) (fun s119 fs119 => (mh_fA (fun x124 => (mh_fA (fun x126 => (mh_fB (mh_Fr_tv fs119 (fr_eX10_puts s119 x113 fs119.2) (by decide +kernel)) (fun s129 fs129 => (mh_fA (fun x131 => (mh_fA (fun x133 => fs129)))))))))))) (mh_fI (mh_fB (mh_Fr_tv fs0 (fr_eX10_joins s0 (1 : Int32) fs0.2) (by decide +kernel)) (fun s288 fs288 => (mh_fA (fun x293 => (mh_fA (fun x295 => (mh_fB (mh_Fr_tv fs288 (fr_eX10_puts s288 x113 fs288.2) (by decide +kernel)) (fun s298 fs298 => (mh_fA (fun x300 => (mh_fA (fun x302 => fs298)))))))))))) (mh_fI (mh_fB (mh_Fr_tv fs0 (fr_eX10_joins s0 (1 : Int32) fs0.2) (by decide +kernel)) (fun s149 fs149 => (mh_fA (fun x154 => (mh_fA (fun x156 => (mh_fA (fun x160 => (mh_fB (mh_Fr_pI fs149 (mh_sj 3 rfl)) (fun s162 fs162 => (mh_fA (fun x164 => (mh_fA (fun x166 => (mh_fB (mh_Fr_pI fs162 (mh_sj 6 rfl)) (fun s168 fs168 => (mh_fA (fun x174 => (mh_fB (mh_Fr_pI fs168 (mh_sj 5 rfl)) (fun s176 fs176 => (mh_fI (mh_fB (mh_Fr_pI fs176 (mh_sj 7 rfl)) (fun s216 fs216 => fs216)) (mh_fB (mh_Fr_pI fs176 (mh_sj 7 rfl)) (fun s184 fs184 => (mh_fB (mh_Fr_tv fs184 (fr_eX10_ends s184 fs184.2) (by decide +kernel)) (fun s206 fs206 => (mh_fA (fun x211 => (mh_fA (fun x213 => fs206))))))))))))))))))))))))))))) (mh_fB (mh_Fr_tv fs0 (fr_eX10_wrongs s0 (1 : Int32) x103 fs0.2) (by decide +kernel)) (fun s270 fs270 => (mh_fA (fun x272 => fs270)))))))))))))))))))))
theorem fr_l_eX10_condition_37_1 (s0 : mh_H) (hp : mh_p3 s0) : ∀ (n : Nat) (s320 : mh_H) (x319 : Int32), mh_Fr S_eX10_condition s0 s320 → mh_Fr S_eX10_condition s0 (l_eX10_condition_37_1 n s320 x319) := by
  have fs0 : mh_Fr S_eX10_condition s0 s0 := ⟨mh_F_rf, hp⟩
  intro n
  induction n with
  | zero => intro s320 x319 fs320; exact fs320
  | succ n ih =>
    intro s320 x319 fs320
    have hlo_37_1 := ih
    rw [l_eX10_condition_37_1_s]
    unfold ls_eX10_condition_37_1
    exact (mh_fA (fun x388 => (mh_fA (fun x390 => (mh_fA (fun x392 => (mh_fA (fun x394 => (mh_fA (fun x396 => (mh_fA (fun x398 => (mh_fA (fun x400 => (mh_fI fs320 (mh_fI (mh_fI (mh_fA (fun x408 => (mh_fC (mh_Fr_tl fs320 (fr_eX10_goesBehind s320 fs320.2) (by decide +kernel)) (fun x412 s413 fs413 => (mh_fA (fun x415 => (mh_fA (fun x418 => (mh_fA (fun x420 => (mh_fA (fun x422 => (mh_fA (fun x424 => (hlo_37_1 s413 x412 fs413))))))))))))))) (mh_fB (mh_Fr_tv fs320 (fr_eX10_pieceOfC s320 fs320.2) (by decide +kernel)) (fun s427 fs427 => (mh_fA (fun x429 => (mh_fA (fun x432 => (mh_fA (fun x434 => (mh_fA (fun x436 => (mh_fA (fun x438 => (mh_fI (hlo_37_1 s427 x319 fs427) (mh_fC (mh_Fr_tl fs427 (fr_eX10_goesBehind s427 fs427.2) (by decide +kernel)) (fun x443 s444 fs444 => (mh_fA (fun x446 => (mh_fA (fun x449 => (mh_fA (fun x451 => (mh_fA (fun x453 => (mh_fA (fun x455 => (hlo_37_1 s444 x443 fs444))))))))))))))))))))))))))) fs320))))))))))))))))
theorem fr_eX10_condition (s0 : mh_H) (hp : mh_p3 s0) : mh_Fr S_eX10_condition s0 (f_eX10_condition s0) := by
  have fs0 : mh_Fr S_eX10_condition s0 s0 := ⟨mh_F_rf, hp⟩
  unfold f_eX10_condition
  exact (mh_fA (fun x229 => (mh_fA (fun x231 => (mh_fA (fun x233 => (mh_fA (fun x235 => (mh_fA (fun x237 => (mh_fB (mh_Fr_pI fs0 (mh_sj 0 rfl)) (fun s239 fs239 => (mh_fA (fun x243 => (mh_fI (mh_fA (fun x247 => (mh_fB (mh_Fr_tv fs239 (fr_eX10_opens s239 fs239.2) (by decide +kernel)) (fun s255 fs255 => (mh_fA (fun x257 => (mh_fA (fun x260 => (mh_fA (fun x263 => (fr_l_eX10_condition_37_1 s0 hp 404 s255 (1 : Int32) fs255))))))))))) (mh_fB (mh_Fr_tv fs239 (fr_eX10_wrongs s239 (1 : Int32) x229 fs239.2) (by decide +kernel)) (fun s463 fs463 => (mh_fA (fun x465 => (mh_fA (fun x467 => fs463)))))))))))))))))))))
theorem fr_eX10_clause (s0 : mh_H) (hp : mh_p3 s0) : mh_Fr S_eX10_clause s0 (f_eX10_clause s0) := by
  have fs0 : mh_Fr S_eX10_clause s0 s0 := ⟨mh_F_rf, hp⟩
  unfold f_eX10_clause
  exact (mh_fA (fun x123 => (mh_fA (fun x125 => (mh_fA (fun x127 => (mh_fA (fun x129 => (mh_fA (fun x131 => (mh_fA (fun x133 => (mh_fA (fun x136 => (mh_fI (mh_fB (mh_Fr_tv fs0 (fr_eX10_wrongs s0 (1 : Int32) x123 fs0.2) (by decide +kernel)) (fun s364 fs364 => (mh_fA (fun x366 => (mh_fA (fun x368 => fs364)))))) (mh_fI (mh_fB (mh_Fr_tv fs0 (fr_eX10_wrongs s0 (4 : Int32) x123 fs0.2) (by decide +kernel)) (fun s337 fs337 => (mh_fA (fun x339 => (mh_fA (fun x341 => fs337)))))) (mh_fA (fun x143 => (mh_fB (mh_Fr_pI fs0 (mh_si 0 rfl)) (fun s149 fs149 => (mh_fB (mh_Fr_pI fs149 (mh_si 1 rfl)) (fun s157 fs157 => (mh_fA (fun x163 => (mh_fB (mh_Fr_pI fs157 (mh_sj 2 rfl)) (fun s165 fs165 => (mh_fB (mh_Fr_pI fs165 (mh_sj 3 rfl)) (fun s167 fs167 => (mh_fB (mh_Fr_pI fs167 (mh_sj 4 rfl)) (fun s169 fs169 => (mh_fB (mh_Fr_tv fs169 (fr_eX10_value s169 fs169.2) (by decide +kernel)) (fun s191 fs191 => (mh_fA (fun x193 => (mh_fA (fun x196 => (mh_fA (fun x198 => (mh_fA (fun x200 => (mh_fB (mh_Fr_pI fs191 (mh_si 11 rfl)) (fun s211 fs211 => (mh_fA (fun x213 => (mh_fI (mh_fB (mh_Fr_pI fs211 (mh_si 12 rfl)) (fun s224 fs224 => (mh_fA (fun x229 => (mh_fB (mh_Fr_pI fs224 (mh_sj 13 rfl)) (fun s231 fs231 => fs231)))))) (mh_fB (mh_Fr_tv fs211 (fr_eX10_condition s211 fs211.2) (by decide +kernel)) (fun s277 fs277 => (mh_fA (fun x279 => (mh_fA (fun x282 => (mh_fA (fun x284 => (mh_fA (fun x286 => (mh_fB (mh_Fr_pI fs277 (mh_si 12 rfl)) (fun s294 fs294 => (mh_fA (fun x299 => (mh_fB (mh_Fr_pI fs294 (mh_sj 13 rfl)) (fun s301 fs301 => fs301)))))))))))))))))))))))))))))))))))))))))))))))))))))))))))))
theorem fr_l_eX10_law_206_3 (s0 : mh_H) (hp : mh_p3 s0) (x761 : Int32) (x763 : Int32) : ∀ (n : Nat) (s1119 : mh_H) (x1118 : Int32), mh_Fr S_eX10_law s0 s1119 → mh_FrP S_eX10_law s0 (l_eX10_law_206_3 x761 x763 n s1119 x1118) := by
  have fs0 : mh_Fr S_eX10_law s0 s0 := ⟨mh_F_rf, hp⟩
  intro n
  induction n with
  | zero => intro s1119 x1118 fs1119; exact fs1119
  | succ n ih =>
    intro s1119 x1118 fs1119
    have hlo_206_3 := ih
    rw [l_eX10_law_206_3_s]
    unfold ls_eX10_law_206_3
    exact (mh_fI (mh_fA (fun x1149 => (mh_fB (mh_Fr_pI fs1119 (mh_si 21 rfl)) (fun s1151 fs1151 => (mh_fA (fun x1153 => (mh_fB (mh_Fr_pI fs1151 (mh_si 22 rfl)) (fun s1155 fs1155 => (mh_fA (fun x1157 => (hlo_206_3 s1155 x1157 fs1155))))))))))) (mh_fB (mh_Fr_pI fs1119 (mh_sj 23 rfl)) (fun s1144 fs1144 => fs1144)))
theorem fr_l_eX10_law_142_2 (s0 : mh_H) (hp : mh_p3 s0) (x761 : Int32) (x763 : Int32) : ∀ (n : Nat) (s868 : mh_H) (x867 : Int32), mh_Fr S_eX10_law s0 s868 → mh_FrP S_eX10_law s0 (l_eX10_law_142_2 x761 x763 n s868 x867) := by
  have fs0 : mh_Fr S_eX10_law s0 s0 := ⟨mh_F_rf, hp⟩
  intro n
  induction n with
  | zero => intro s868 x867 fs868; exact fs868
  | succ n ih =>
    intro s868 x867 fs868
    have hlo_142_2 := ih
    rw [l_eX10_law_142_2_s]
    unfold ls_eX10_law_142_2
    exact (mh_fI (mh_fA (fun x1163 => (mh_fB (mh_Fr_pI fs868 (mh_si 17 rfl)) (fun s1165 fs1165 => (mh_fA (fun x1167 => (mh_fB (mh_Fr_pI fs1165 (mh_si 18 rfl)) (fun s1169 fs1169 => (mh_fA (fun x1171 => (mh_fB (mh_Fr_pI fs1169 (mh_si 19 rfl)) (fun s1173 fs1173 => (mh_fA (fun x1175 => (mh_fB (mh_Fr_pI fs1173 (mh_si 20 rfl)) (fun s1177 fs1177 => (mh_fA (fun x1179 => (hlo_142_2 s1177 x1179 fs1177))))))))))))))))))) (fr_l_eX10_law_206_3 s0 hp x761 x763 201 s868 (0 : Int32) fs868))
theorem fr_l_eX10_law_54_1 (s0 : mh_H) (hp : mh_p3 s0) : ∀ (n : Nat) (s691 : mh_H) (x690 : Int32), mh_Fr S_eX10_law s0 s691 → mh_FrP S_eX10_law s0 (l_eX10_law_54_1 n s691 x690) := by
  have fs0 : mh_Fr S_eX10_law s0 s0 := ⟨mh_F_rf, hp⟩
  intro n
  induction n with
  | zero => intro s691 x690 fs691; exact fs691
  | succ n ih =>
    intro s691 x690 fs691
    have hlo_54_1 := ih
    rw [l_eX10_law_54_1_s]
    unfold ls_eX10_law_54_1
    exact (mh_fA (fun x755 => (mh_fA (fun x757 => (mh_fA (fun x759 => (mh_fA (fun x761 => (mh_fA (fun x763 => (mh_fI (mh_fI fs691 (fr_l_eX10_law_142_2 s0 hp x761 x763 15 s691 (0 : Int32) fs691)) (mh_fA (fun x1191 => (mh_fI fs691 (mh_fB (mh_Fr_tv fs691 (fr_eX10_clause s691 fs691.2) (by decide +kernel)) (fun s1201 fs1201 => (mh_fA (fun x1203 => (mh_fA (fun x1206 => (mh_fA (fun x1208 => (mh_fA (fun x1210 => (mh_fA (fun x1212 => (mh_fI (mh_fA (fun x1217 => (hlo_54_1 s1201 (0 : Int32) fs1201))) (mh_fI (mh_fA (fun x1228 => (mh_fI (mh_fA (fun x1234 => (mh_fB (mh_Fr_pI fs1201 (mh_sj 1 rfl)) (fun s1236 fs1236 => (mh_fA (fun x1243 => (hlo_54_1 s1236 (1 : Int32) fs1236))))))) (mh_fB (mh_Fr_tv fs1201 (fr_eX10_wrongs s1201 (1 : Int32) x1203 fs1201.2) (by decide +kernel)) (fun s1248 fs1248 => (mh_fA (fun x1250 => (mh_fA (fun x1255 => (mh_fB (mh_Fr_pI fs1248 (mh_sj 1 rfl)) (fun s1257 fs1257 => (mh_fA (fun x1267 => (hlo_54_1 s1257 (1 : Int32) fs1257)))))))))))))) (mh_fA (fun x1225 => (hlo_54_1 s1201 (0 : Int32) fs1201)))))))))))))))))))))))))))))))
theorem fr_eX10_law (s0 : mh_H) (p1 : Int32) (hp : mh_p3 s0) : mh_FrP S_eX10_law s0 (f_eX10_law s0 p1) := by
  have fs0 : mh_Fr S_eX10_law s0 s0 := ⟨mh_F_rf, hp⟩
  unfold f_eX10_law
  exact (mh_fA (fun y617 => (mh_fA (fun x619 => (mh_fI fs0 (mh_fA (fun x623 => (mh_fI fs0 (mh_fB (mh_Fr_pI fs0 (mh_sj 0 rfl)) (fun s626 fs626 => (mh_fB (mh_Fr_pI fs626 (mh_sj 1 rfl)) (fun s628 fs628 => (mh_fB (mh_Fr_pI fs628 (mh_sj 2 rfl)) (fun s630 fs630 => (mh_fB (mh_Fr_pI fs630 (mh_sj 3 rfl)) (fun s632 fs632 => (mh_fB (mh_Fr_pI fs632 (mh_sj 4 rfl)) (fun s634 fs634 => (mh_fB (mh_Fr_pI fs634 (mh_sj 5 rfl)) (fun s636 fs636 => (mh_fA (fun x1284 => (fr_l_eX10_law_54_1 s0 hp 806 s636 (1 : Int32) fs636)))))))))))))))))))))))
theorem fr_eX4_fail (s0 : mh_H) (p1 : Int32) (hp : mh_p3 s0) : mh_FrP S_eX4_fail s0 (f_eX4_fail s0 p1) := by
  have fs0 : mh_Fr S_eX4_fail s0 s0 := ⟨mh_F_rf, hp⟩
  unfold f_eX4_fail
  exact (mh_fA (fun x9 => (mh_fA (fun x11 => (mh_fA (fun x13 => (mh_fB (mh_Fr_pI fs0 (mh_sj 0 rfl)) (fun s15 fs15 => fs15))))))))
theorem fr_eX4_take (s0 : mh_H) (p1 : Int32) (hp : mh_p3 s0) : mh_FrP S_eX4_take s0 (f_eX4_take s0 p1) := by
  have fs0 : mh_Fr S_eX4_take s0 s0 := ⟨mh_F_rf, hp⟩
  unfold f_eX4_take
  exact (mh_fA (fun x18 => (mh_fA (fun x20 => (mh_fA (fun x22 => (mh_fI (mh_fA (fun x28 => (mh_fB (mh_Fr_pI fs0 (mh_sj 0 rfl)) (fun s30 fs30 => fs30)))) (mh_fC (mh_Fr_tl fs0 (fr_eX4_fail s0 (1 : Int32) fs0.2) (by decide +kernel)) (fun x34 s35 fs35 => fs35)))))))))
end
section
def mh_FrR (rc : mh_Rc) : Prop := (∀ (s : mh_H) (x : Int32), mh_p3 s → mh_FrP S_eX4_rd s (rc.1 s x)) ∧ (∀ (s : mh_H) (x : Int32), mh_p3 s → mh_FrP S_eX4_rd s (rc.2.1 s x)) ∧ (∀ (s : mh_H) (x : Int32), mh_p3 s → mh_FrP S_eX4_rd s (rc.2.2 s x))
theorem fr_l_eX4_readNumber_4_1 (s0 : mh_H) (hp : mh_p3 s0) : ∀ (n : Nat) (s464 : mh_H) (x462 : Int32) (x463 : Int32), mh_Fr S_eX4_readNumber s0 s464 → mh_FrP S_eX4_readNumber s0 (l_eX4_readNumber_4_1 n s464 x462 x463) := by
  have fs0 : mh_Fr S_eX4_readNumber s0 s0 := ⟨mh_F_rf, hp⟩
  intro n
  induction n with
  | zero => intro s464 x462 x463 fs464; exact fs464
  | succ n ih =>
    intro s464 x462 x463 fs464
    have hlo_4_1 := ih
    rw [l_eX4_readNumber_4_1_s]
    unfold ls_eX4_readNumber_4_1
    exact (mh_fA (fun x502 => (mh_fA (fun x504 => (mh_fI (mh_fA (fun x525 => (mh_fA (fun x528 => (mh_fI (mh_fK (fs464.2.2.2) (fun k533 hk533 => (mh_fB (mh_Fr_tv fs464 (fr_eX1_put s464 k533 hk533 (13 : Int32) fs464.2) (by rcases hk533 with rfl | rfl <;> decide +kernel)) (fun s535 fs535 => (mh_fK (fs535.2.2.2) (fun k540 hk540 => (mh_fB (mh_Fr_tv fs535 (fr_eX1_put s535 k540 hk540 x463 fs535.2) (by rcases hk540 with rfl | rfl <;> decide +kernel)) (fun s542 fs542 => fs542)))))))) (mh_fI (mh_fA (fun x547 => (mh_fA (fun x549 => (mh_fA (fun x552 => (mh_fA (fun x554 => (mh_fA (fun x558 => (mh_fB (mh_Fr_pI fs464 (mh_sj 0 rfl)) (fun s560 fs560 => (mh_fA (fun x562 => (hlo_4_1 s560 x562 x554 fs560))))))))))))))) (mh_fC (mh_Fr_tl fs464 (fr_eX4_fail s464 (2 : Int32) fs464.2) (by decide +kernel)) (fun x566 s567 fs567 => fs567)))))))) (mh_fK (fs464.2.2.2) (fun k512 hk512 => (mh_fB (mh_Fr_tv fs464 (fr_eX1_put s464 k512 hk512 (13 : Int32) fs464.2) (by rcases hk512 with rfl | rfl <;> decide +kernel)) (fun s514 fs514 => (mh_fK (fs514.2.2.2) (fun k519 hk519 => (mh_fB (mh_Fr_tv fs514 (fr_eX1_put s514 k519 hk519 x463 fs514.2) (by rcases hk519 with rfl | rfl <;> decide +kernel)) (fun s521 fs521 => fs521)))))))))))))
theorem fr_eX4_readNumber (s0 : mh_H) (hp : mh_p3 s0) : mh_FrP S_eX4_readNumber s0 (f_eX4_readNumber s0) := by
  have fs0 : mh_Fr S_eX4_readNumber s0 s0 := ⟨mh_F_rf, hp⟩
  unfold f_eX4_readNumber
  exact (mh_fA (fun x280 => (mh_fA (fun x282 => (fr_l_eX4_readNumber_4_1 s0 hp 6 s0 (0 : Int32) (0 : Int32) fs0)))))
theorem fr_eX4_readFactor (rc : mh_Rc) (hrc : mh_FrR rc) (s0 : mh_H) (p1 : Int32) (hp : mh_p3 s0) : mh_FrP S_eX4_rd s0 (f_eX4_readFactor rc s0 p1) := by
  have fs0 : mh_Fr S_eX4_rd s0 s0 := ⟨mh_F_rf, hp⟩
  unfold f_eX4_readFactor
  exact (mh_fA (fun x80 => (mh_fA (fun x82 => (mh_fA (fun x84 => (mh_fI (mh_fI (mh_fA (fun x153 => (mh_fB (mh_Fr_pI fs0 (mh_sj 0 rfl)) (fun s155 fs155 => (mh_fA (fun x157 => (mh_fC (mh_Fr_tl fs155 (hrc.1 s155 x157 fs155.2) (by decide +kernel)) (fun x161 s162 fs162 => (mh_fA (fun x165 => (mh_fI fs162 (mh_fC (mh_Fr_tl fs162 (fr_eX4_take s162 (93 : Int32) fs162.2) (by decide +kernel)) (fun x168 s169 fs169 => (mh_fA (fun x172 => (mh_fI fs169 fs169)))))))))))))))) (mh_fC (mh_Fr_tl fs0 (fr_eX4_fail s0 (5 : Int32) fs0.2) (by decide +kernel)) (fun x175 s176 fs176 => fs176))) (mh_fA (fun x88 => (mh_fI (mh_fI (mh_fC (mh_Fr_tl fs0 (fr_eX4_fail s0 (1 : Int32) fs0.2) (by decide +kernel)) (fun x139 s140 fs140 => fs140)) (mh_fA (fun x93 => (mh_fA (fun x95 => (mh_fI (mh_fC (mh_Fr_tl fs0 (fr_eX4_fail s0 (1 : Int32) fs0.2) (by decide +kernel)) (fun x133 s134 fs134 => fs134)) (mh_fA (fun x101 => (mh_fB (mh_Fr_pI fs0 (mh_sj 0 rfl)) (fun s103 fs103 => (mh_fK (fs103.2.2.2) (fun k106 hk106 => (mh_fB (mh_Fr_tv fs103 (fr_eX1_put s103 k106 hk106 x95 fs103.2) (by rcases hk106 with rfl | rfl <;> decide +kernel)) (fun s110 fs110 => (mh_fK (fs110.2.2.2) (fun k115 hk115 => (mh_fA (fun x117 => (mh_fI (mh_fI (mh_fB (mh_Fr_pI fs110 (mh_isL_s (o := 0) hk115 (mh_sj 6 rfl) (mh_sj 7 rfl))) (fun s129 fs129 => fs129)) (mh_fB (mh_Fr_pI fs110 (mh_isL_s (o := 0) hk115 (mh_sj 6 rfl) (mh_sj 7 rfl))) (fun s125 fs125 => fs125))) (mh_fB (mh_Fr_pI fs110 (mh_isL_s (o := 0) hk115 (mh_sj 6 rfl) (mh_sj 7 rfl))) (fun s120 fs120 => fs120))))))))))))))))))))) (mh_fC (mh_Fr_tl fs0 (fr_eX4_readNumber s0 fs0.2) (by decide +kernel)) (fun x144 s145 fs145 => (mh_fA (fun x148 => fs145))))))))))))))
theorem fr_l_eX4_readTerm_10_1 (s0 : mh_H) (hp : mh_p3 s0) (rc : mh_Rc) (p1 : Int32) (hrc : mh_FrR rc) : ∀ (n : Nat) (s340 : mh_H), mh_Fr S_eX4_rd s0 s340 → mh_FrP S_eX4_rd s0 (l_eX4_readTerm_10_1 rc p1 n s340) := by
  have fs0 : mh_Fr S_eX4_rd s0 s0 := ⟨mh_F_rf, hp⟩
  intro n
  induction n with
  | zero => intro s340 fs340; exact fs340
  | succ n ih =>
    intro s340 fs340
    have hlo_10_1 := ih
    rw [l_eX4_readTerm_10_1_s]
    unfold ls_eX4_readTerm_10_1
    exact (mh_fA (fun x423 => (mh_fA (fun x425 => (mh_fI (mh_fA (fun x432 => (mh_fI (mh_fA (fun x436 => (mh_fA (fun x441 => (mh_fB (mh_Fr_pI fs340 (mh_sj 0 rfl)) (fun s443 fs443 => (mh_fC (mh_Fr_tl fs443 (fr_eX4_readFactor rc hrc s443 p1 fs443.2) (by decide +kernel)) (fun x447 s448 fs448 => (mh_fA (fun x451 => (mh_fI fs448 (mh_fK (fs448.2.2.2) (fun k455 hk455 => (mh_fB (mh_Fr_tv fs448 (fr_eX1_put s448 k455 hk455 x436 fs448.2) (by rcases hk455 with rfl | rfl <;> decide +kernel)) (fun s457 fs457 => (hlo_10_1 s457 fs457)))))))))))))))) (mh_fA (fun x461 => (mh_fI (mh_fA (fun x465 => (mh_fA (fun x470 => (mh_fB (mh_Fr_pI fs340 (mh_sj 0 rfl)) (fun s472 fs472 => (mh_fC (mh_Fr_tl fs472 (fr_eX4_readFactor rc hrc s472 p1 fs472.2) (by decide +kernel)) (fun x476 s477 fs477 => (mh_fA (fun x480 => (mh_fI fs477 (mh_fK (fs477.2.2.2) (fun k484 hk484 => (mh_fB (mh_Fr_tv fs477 (fr_eX1_put s477 k484 hk484 x465 fs477.2) (by rcases hk484 with rfl | rfl <;> decide +kernel)) (fun s486 fs486 => (hlo_10_1 s486 fs486)))))))))))))))) (mh_fA (fun x490 => (mh_fI (mh_fA (fun x494 => (mh_fA (fun x499 => (mh_fB (mh_Fr_pI fs340 (mh_sj 0 rfl)) (fun s501 fs501 => (mh_fC (mh_Fr_tl fs501 (fr_eX4_readFactor rc hrc s501 p1 fs501.2) (by decide +kernel)) (fun x505 s506 fs506 => (mh_fA (fun x509 => (mh_fI fs506 (mh_fK (fs506.2.2.2) (fun k513 hk513 => (mh_fB (mh_Fr_tv fs506 (fr_eX1_put s506 k513 hk513 x494 fs506.2) (by rcases hk513 with rfl | rfl <;> decide +kernel)) (fun s515 fs515 => (hlo_10_1 s515 fs515)))))))))))))))) fs340))))))))) fs340)))))
theorem fr_eX4_readTerm (rc : mh_Rc) (hrc : mh_FrR rc) (s0 : mh_H) (p1 : Int32) (hp : mh_p3 s0) : mh_FrP S_eX4_rd s0 (f_eX4_readTerm rc s0 p1) := by
  have fs0 : mh_Fr S_eX4_rd s0 s0 := ⟨mh_F_rf, hp⟩
  unfold f_eX4_readTerm
  exact (mh_fA (fun x252 => (mh_fA (fun x254 => (mh_fC (mh_Fr_tl fs0 (fr_eX4_readFactor rc hrc s0 p1 fs0.2) (by decide +kernel)) (fun x256 s257 fs257 => (mh_fA (fun x260 => (mh_fI fs257 (fr_l_eX4_readTerm_10_1 s0 hp rc p1 hrc 222 s257 fs257))))))))))
theorem fr_l_eX4_readSum_10_1 (s0 : mh_H) (hp : mh_p3 s0) (rc : mh_Rc) (p1 : Int32) (hrc : mh_FrR rc) : ∀ (n : Nat) (s244 : mh_H), mh_Fr S_eX4_rd s0 s244 → mh_FrP S_eX4_rd s0 (l_eX4_readSum_10_1 rc p1 n s244) := by
  have fs0 : mh_Fr S_eX4_rd s0 s0 := ⟨mh_F_rf, hp⟩
  intro n
  induction n with
  | zero => intro s244 fs244; exact fs244
  | succ n ih =>
    intro s244 fs244
    have hlo_10_1 := ih
    rw [l_eX4_readSum_10_1_s]
    unfold ls_eX4_readSum_10_1
    exact (mh_fA (fun x303 => (mh_fA (fun x305 => (mh_fI (mh_fA (fun x312 => (mh_fI (mh_fA (fun x316 => (mh_fA (fun x321 => (mh_fB (mh_Fr_pI fs244 (mh_sj 0 rfl)) (fun s323 fs323 => (mh_fC (mh_Fr_tl fs323 (fr_eX4_readTerm rc hrc s323 p1 fs323.2) (by decide +kernel)) (fun x327 s328 fs328 => (mh_fA (fun x331 => (mh_fI fs328 (mh_fK (fs328.2.2.2) (fun k335 hk335 => (mh_fB (mh_Fr_tv fs328 (fr_eX1_put s328 k335 hk335 x316 fs328.2) (by rcases hk335 with rfl | rfl <;> decide +kernel)) (fun s337 fs337 => (hlo_10_1 s337 fs337)))))))))))))))) (mh_fA (fun x341 => (mh_fI (mh_fA (fun x345 => (mh_fA (fun x350 => (mh_fB (mh_Fr_pI fs244 (mh_sj 0 rfl)) (fun s352 fs352 => (mh_fC (mh_Fr_tl fs352 (fr_eX4_readTerm rc hrc s352 p1 fs352.2) (by decide +kernel)) (fun x356 s357 fs357 => (mh_fA (fun x360 => (mh_fI fs357 (mh_fK (fs357.2.2.2) (fun k364 hk364 => (mh_fB (mh_Fr_tv fs357 (fr_eX1_put s357 k364 hk364 x345 fs357.2) (by rcases hk364 with rfl | rfl <;> decide +kernel)) (fun s366 fs366 => (hlo_10_1 s366 fs366)))))))))))))))) fs244)))))) fs244)))))
theorem fr_eX4_readSum (rc : mh_Rc) (hrc : mh_FrR rc) (s0 : mh_H) (p1 : Int32) (hp : mh_p3 s0) : mh_FrP S_eX4_rd s0 (f_eX4_readSum rc s0 p1) := by
  have fs0 : mh_Fr S_eX4_rd s0 s0 := ⟨mh_F_rf, hp⟩
  unfold f_eX4_readSum
  exact (mh_fA (fun x180 => (mh_fA (fun x182 => (mh_fC (mh_Fr_tl fs0 (fr_eX4_readTerm rc hrc s0 p1 fs0.2) (by decide +kernel)) (fun x184 s185 fs185 => (mh_fA (fun x188 => (mh_fI fs185 (fr_l_eX4_readSum_10_1 s0 hp rc p1 hrc 222 s185 fs185))))))))))
theorem fr_eX4_readCompared (rc : mh_Rc) (hrc : mh_FrR rc) (s0 : mh_H) (p1 : Int32) (hp : mh_p3 s0) : mh_FrP S_eX4_rd s0 (f_eX4_readCompared rc s0 p1) := by
  have fs0 : mh_Fr S_eX4_rd s0 s0 := ⟨mh_F_rf, hp⟩
  unfold f_eX4_readCompared
  exact (mh_fA (fun x65 => (mh_fA (fun x67 => (mh_fA (fun x69 => (mh_fI (mh_fA (fun x75 => (mh_fB (mh_Fr_pI fs0 (mh_sj 0 rfl)) (fun s77 fs77 => (mh_fC (mh_Fr_tl fs77 (fr_eX4_readSum rc hrc s77 p1 fs77.2) (by decide +kernel)) (fun x81 s82 fs82 => (mh_fA (fun x85 => (mh_fI fs82 (mh_fK (fs82.2.2.2) (fun k89 hk89 => (mh_fB (mh_Fr_tv fs82 (fr_eX1_put s82 k89 hk89 x69 fs82.2) (by rcases hk89 with rfl | rfl <;> decide +kernel)) (fun s91 fs91 => fs91))))))))))))) (mh_fI (mh_fA (fun x98 => (mh_fB (mh_Fr_pI fs0 (mh_sj 0 rfl)) (fun s100 fs100 => (mh_fC (mh_Fr_tl fs100 (fr_eX4_readSum rc hrc s100 p1 fs100.2) (by decide +kernel)) (fun x104 s105 fs105 => (mh_fA (fun x108 => (mh_fI fs105 (mh_fK (fs105.2.2.2) (fun k112 hk112 => (mh_fB (mh_Fr_tv fs105 (fr_eX1_put s105 k112 hk112 x69 fs105.2) (by rcases hk112 with rfl | rfl <;> decide +kernel)) (fun s114 fs114 => fs114))))))))))))) (mh_fI (mh_fA (fun x121 => (mh_fB (mh_Fr_pI fs0 (mh_sj 0 rfl)) (fun s123 fs123 => (mh_fC (mh_Fr_tl fs123 (fr_eX4_readSum rc hrc s123 p1 fs123.2) (by decide +kernel)) (fun x127 s128 fs128 => (mh_fA (fun x131 => (mh_fI fs128 (mh_fK (fs128.2.2.2) (fun k135 hk135 => (mh_fB (mh_Fr_tv fs128 (fr_eX1_put s128 k135 hk135 x69 fs128.2) (by rcases hk135 with rfl | rfl <;> decide +kernel)) (fun s137 fs137 => fs137))))))))))))) (mh_fC (mh_Fr_tl fs0 (fr_eX4_fail s0 (1 : Int32) fs0.2) (by decide +kernel)) (fun x141 s142 fs142 => fs142)))))))))))
theorem fr_eX4_readPiece (rc : mh_Rc) (hrc : mh_FrR rc) (s0 : mh_H) (p1 : Int32) (hp : mh_p3 s0) : mh_FrP S_eX4_rd s0 (f_eX4_readPiece rc s0 p1) := by
  have fs0 : mh_Fr S_eX4_rd s0 s0 := ⟨mh_F_rf, hp⟩
  unfold f_eX4_readPiece
  exact (mh_fA (fun x71 => (mh_fA (fun x73 => (mh_fA (fun x75 => (mh_fI (mh_fI (mh_fA (fun x82 => (mh_fB (mh_Fr_pI fs0 (mh_sj 0 rfl)) (fun s84 fs84 => (mh_fA (fun x87 => (mh_fC (mh_Fr_tl fs84 (hrc.2.2 s84 x87 fs84.2) (by decide +kernel)) (fun x91 s92 fs92 => (mh_fA (fun x95 => (mh_fI fs92 (mh_fK (fs92.2.2.2) (fun k99 hk99 => (mh_fB (mh_Fr_tv fs92 (fr_eX1_put s92 k99 hk99 (33 : Int32) fs92.2) (by rcases hk99 with rfl | rfl <;> decide +kernel)) (fun s101 fs101 => fs101))))))))))))))) (mh_fC (mh_Fr_tl fs0 (fr_eX4_fail s0 (5 : Int32) fs0.2) (by decide +kernel)) (fun x105 s106 fs106 => fs106))) (mh_fI (mh_fI (mh_fA (fun x114 => (mh_fB (mh_Fr_pI fs0 (mh_sj 0 rfl)) (fun s116 fs116 => (mh_fA (fun x119 => (mh_fC (mh_Fr_tl fs116 (hrc.2.1 s116 x119 fs116.2) (by decide +kernel)) (fun x123 s124 fs124 => (mh_fA (fun x127 => (mh_fI fs124 (mh_fC (mh_Fr_tl fs124 (fr_eX4_take s124 (41 : Int32) fs124.2) (by decide +kernel)) (fun x130 s131 fs131 => (mh_fA (fun x134 => (mh_fI fs131 fs131)))))))))))))))) (mh_fC (mh_Fr_tl fs0 (fr_eX4_fail s0 (5 : Int32) fs0.2) (by decide +kernel)) (fun x137 s138 fs138 => fs138))) (mh_fC (mh_Fr_tl fs0 (fr_eX4_readSum rc hrc s0 p1 fs0.2) (by decide +kernel)) (fun x142 s143 fs143 => (mh_fA (fun x146 => (mh_fI fs143 (mh_fC (mh_Fr_tl fs143 (fr_eX4_readCompared rc hrc s143 p1 fs143.2) (by decide +kernel)) (fun x149 s150 fs150 => (mh_fA (fun x153 => (mh_fI fs150 fs150))))))))))))))))))
theorem fr_l_eX4_readPart_10_1 (s0 : mh_H) (hp : mh_p3 s0) (rc : mh_Rc) (p1 : Int32) (hrc : mh_FrR rc) : ∀ (n : Nat) (s156 : mh_H), mh_Fr S_eX4_rd s0 s156 → mh_FrP S_eX4_rd s0 (l_eX4_readPart_10_1 rc p1 n s156) := by
  have fs0 : mh_Fr S_eX4_rd s0 s0 := ⟨mh_F_rf, hp⟩
  intro n
  induction n with
  | zero => intro s156 fs156; exact fs156
  | succ n ih =>
    intro s156 fs156
    have hlo_10_1 := ih
    rw [l_eX4_readPart_10_1_s]
    unfold ls_eX4_readPart_10_1
    exact (mh_fA (fun x193 => (mh_fA (fun x195 => (mh_fI (mh_fA (fun x202 => (mh_fI (mh_fA (fun x208 => (mh_fB (mh_Fr_pI fs156 (mh_sj 0 rfl)) (fun s210 fs210 => (mh_fK (fs210.2.2.2) (fun k213 hk213 => (mh_fC (mh_Fr_tl fs210 (fr_eX1_putJump s210 k213 hk213 (38 : Int32) fs210.2) (by rcases hk213 with rfl | rfl <;> decide +kernel)) (fun x216 s217 fs217 => (mh_fC (mh_Fr_tl fs217 (fr_eX4_readPiece rc hrc s217 p1 fs217.2) (by decide +kernel)) (fun x221 s222 fs222 => (mh_fA (fun x225 => (mh_fI fs222 (mh_fK (fs222.2.2.2) (fun k229 hk229 => (mh_fB (mh_Fr_tv fs222 (fr_eX1_land s222 k229 hk229 x216 fs222.2) (by rcases hk229 with rfl | rfl <;> decide +kernel)) (fun s231 fs231 => (hlo_10_1 s231 fs231)))))))))))))))))) fs156))) fs156)))))
theorem fr_eX4_readPart (rc : mh_Rc) (hrc : mh_FrR rc) (s0 : mh_H) (p1 : Int32) (hp : mh_p3 s0) : mh_FrP S_eX4_rd s0 (f_eX4_readPart rc s0 p1) := by
  have fs0 : mh_Fr S_eX4_rd s0 s0 := ⟨mh_F_rf, hp⟩
  unfold f_eX4_readPart
  exact (mh_fA (fun x114 => (mh_fA (fun x116 => (mh_fC (mh_Fr_tl fs0 (fr_eX4_readPiece rc hrc s0 p1 fs0.2) (by decide +kernel)) (fun x118 s119 fs119 => (mh_fA (fun x122 => (mh_fI fs119 (fr_l_eX4_readPart_10_1 s0 hp rc p1 hrc 222 s119 fs119))))))))))
theorem fr_l_eX4_readChoice_10_1 (s0 : mh_H) (hp : mh_p3 s0) (rc : mh_Rc) (p1 : Int32) (hrc : mh_FrR rc) : ∀ (n : Nat) (s156 : mh_H), mh_Fr S_eX4_rd s0 s156 → mh_FrP S_eX4_rd s0 (l_eX4_readChoice_10_1 rc p1 n s156) := by
  have fs0 : mh_Fr S_eX4_rd s0 s0 := ⟨mh_F_rf, hp⟩
  intro n
  induction n with
  | zero => intro s156 fs156; exact fs156
  | succ n ih =>
    intro s156 fs156
    have hlo_10_1 := ih
    rw [l_eX4_readChoice_10_1_s]
    unfold ls_eX4_readChoice_10_1
    exact (mh_fA (fun x193 => (mh_fA (fun x195 => (mh_fI (mh_fA (fun x202 => (mh_fI (mh_fA (fun x208 => (mh_fB (mh_Fr_pI fs156 (mh_sj 0 rfl)) (fun s210 fs210 => (mh_fK (fs210.2.2.2) (fun k213 hk213 => (mh_fC (mh_Fr_tl fs210 (fr_eX1_putJump s210 k213 hk213 (124 : Int32) fs210.2) (by rcases hk213 with rfl | rfl <;> decide +kernel)) (fun x216 s217 fs217 => (mh_fC (mh_Fr_tl fs217 (fr_eX4_readPart rc hrc s217 p1 fs217.2) (by decide +kernel)) (fun x221 s222 fs222 => (mh_fA (fun x225 => (mh_fI fs222 (mh_fK (fs222.2.2.2) (fun k229 hk229 => (mh_fB (mh_Fr_tv fs222 (fr_eX1_land s222 k229 hk229 x216 fs222.2) (by rcases hk229 with rfl | rfl <;> decide +kernel)) (fun s231 fs231 => (hlo_10_1 s231 fs231)))))))))))))))))) fs156))) fs156)))))
theorem fr_eX4_readChoice (rc : mh_Rc) (hrc : mh_FrR rc) (s0 : mh_H) (p1 : Int32) (hp : mh_p3 s0) : mh_FrP S_eX4_rd s0 (f_eX4_readChoice rc s0 p1) := by
  have fs0 : mh_Fr S_eX4_rd s0 s0 := ⟨mh_F_rf, hp⟩
  unfold f_eX4_readChoice
  exact (mh_fA (fun x114 => (mh_fA (fun x116 => (mh_fC (mh_Fr_tl fs0 (fr_eX4_readPart rc hrc s0 p1 fs0.2) (by decide +kernel)) (fun x118 s119 fs119 => (mh_fA (fun x122 => (mh_fI fs119 (fr_l_eX4_readChoice_10_1 s0 hp rc p1 hrc 222 s119 fs119))))))))))
theorem mh_FrN (n : Nat) : mh_FrR (mh_rcN n) := by
  induction n with
  | zero => exact ⟨fun s _ h => ⟨mh_F_rf, h⟩, fun s _ h => ⟨mh_F_rf, h⟩, fun s _ h => ⟨mh_F_rf, h⟩⟩
  | succ n ih =>
    rw [show mh_rcN (n + 1) = (f_eX4_readSum (mh_rcN n), f_eX4_readChoice (mh_rcN n), f_eX4_readPiece (mh_rcN n)) from rfl]
    have a1 : ∀ (s : mh_H) (x : Int32), mh_p3 s → mh_FrP S_eX4_rd s (f_eX4_readSum (mh_rcN n) s x) := fun s x h => fr_eX4_readSum (mh_rcN n) ih s x h
    have a2 : ∀ (s : mh_H) (x : Int32), mh_p3 s → mh_FrP S_eX4_rd s (f_eX4_readChoice (mh_rcN n) s x) := fun s x h => fr_eX4_readChoice (mh_rcN n) ih s x h
    have a3 : ∀ (s : mh_H) (x : Int32), mh_p3 s → mh_FrP S_eX4_rd s (f_eX4_readPiece (mh_rcN n) s x) := fun s x h => fr_eX4_readPiece (mh_rcN n) ih s x h
    generalize f_eX4_readSum (mh_rcN n) = g1 at a1 ⊢
    generalize f_eX4_readChoice (mh_rcN n) = g2 at a2 ⊢
    generalize f_eX4_readPiece (mh_rcN n) = g3 at a3 ⊢
    exact ⟨a1, a2, a3⟩
theorem fr_eX4_readClause (s0 : mh_H) (hp : mh_p3 s0) : mh_FrP S_eX4_readClause s0 (f_eX4_readClause s0) := by
  have fs0 : mh_Fr S_eX4_readClause s0 s0 := ⟨mh_F_rf, hp⟩
  unfold f_eX4_readClause
  exact (mh_fA (fun x72 => (mh_fA (fun x74 => (mh_fA (fun x76 => (mh_fI (mh_fC (mh_Fr_tl fs0 (fr_eX4_fail s0 (1 : Int32) fs0.2) (by decide +kernel)) (fun x80 s81 fs81 => fs81)) (mh_fA (fun x85 => (mh_fA (fun x87 => (mh_fI (mh_fC (mh_Fr_tl fs0 (fr_eX4_fail s0 (1 : Int32) fs0.2) (by decide +kernel)) (fun x152 s153 fs153 => fs153)) (mh_fK (fs0.2.2.2) (fun k92 hk92 => (mh_fA (fun x93 => (mh_fI (mh_fA (fun x98 => (mh_fB (mh_Fr_pI fs0 (mh_sj 1 rfl)) (fun s100 fs100 => (mh_fK (fs100.2.2.2) (fun k103 hk103 => (mh_fA (fun x104 => (mh_fC (mh_Fr_tl fs100 ((mh_FrN 7).1 s100 (0 : Int32) fs100.2) (by decide +kernel)) (fun x108 s109 fs109 => (mh_fA (fun x112 => (mh_fI fs109 (mh_fK (fs109.2.2.2) (fun k116 hk116 => (mh_fA (fun x117 => (mh_fC (mh_Fr_tl fs109 (fr_eX4_take s109 (40 : Int32) fs109.2) (by decide +kernel)) (fun x119 s120 fs120 => (mh_fA (fun x123 => (mh_fI fs120 (mh_fC (mh_Fr_tl fs120 ((mh_FrN 6).2.1 s120 (1 : Int32) fs120.2) (by decide +kernel)) (fun x126 s127 fs127 => (mh_fA (fun x130 => (mh_fI fs127 (mh_fC (mh_Fr_tl fs127 (fr_eX4_take s127 (41 : Int32) fs127.2) (by decide +kernel)) (fun x133 s134 fs134 => (mh_fA (fun x137 => (mh_fI fs134 (mh_fK (fs134.2.2.2) (fun k141 hk141 => (mh_fB (mh_Fr_tv fs134 (fr_eX1_addClause s134 k141 hk141 x76 x104 x117 fs134.2) (by rcases hk141 with rfl | rfl <;> decide +kernel)) (fun s143 fs143 => fs143)))))))))))))))))))))))))))))))))))) (mh_fC (mh_Fr_tl fs0 (fr_eX4_fail s0 (4 : Int32) fs0.2) (by decide +kernel)) (fun x147 s148 fs148 => fs148)))))))))))))))))))
theorem fr_l_eX4_read_34_1 (s0 : mh_H) (kl : Nat) (hkl : mh_isL kl) (hp : mh_p3 s0) : ∀ (n : Nat) (s284 : mh_H) (x283 : Int32), mh_Fr (S_eX4_read kl) s0 s284 → mh_FrP (S_eX4_read kl) s0 (l_eX4_read_34_1 kl n s284 x283) := by
  have fs0 : mh_Fr (S_eX4_read kl) s0 s0 := ⟨mh_F_rf, hp⟩
  intro n
  induction n with
  | zero => intro s284 x283 fs284; exact fs284
  | succ n ih =>
    intro s284 x283 fs284
    have hlo_34_1 := ih
    rw [l_eX4_read_34_1_s]
    unfold ls_eX4_read_34_1
    exact (mh_fI (mh_fA (fun x304 => fs284)) (mh_fC (mh_Fr_tl fs284 (fr_eX4_readClause s284 fs284.2) (by rcases hkl with rfl | rfl <;> decide +kernel)) (fun x306 s307 fs307 => (mh_fI (mh_fA (fun x325 => fs307)) (mh_fA (fun x310 => (mh_fA (fun x312 => (mh_fI (mh_fC (mh_Fr_tl fs307 (fr_eX4_take s307 (59 : Int32) fs307.2) (by rcases hkl with rfl | rfl <;> decide +kernel)) (fun x315 s316 fs316 => (mh_fI (mh_fA (fun x321 => fs316)) (mh_fA (fun x319 => (hlo_34_1 s316 x319 fs316)))))) (mh_fA (fun x323 => fs307)))))))))))
theorem fr_eX4_read (s0 : mh_H) (kl : Nat) (hkl : mh_isL kl) (p1 : Int32) (hp : mh_p3 s0) : mh_FrP (S_eX4_read kl) s0 (f_eX4_read s0 kl p1) := by
  have fs0 : mh_Fr (S_eX4_read kl) s0 s0 := ⟨mh_F_rf, hp⟩
  unfold f_eX4_read
  exact (mh_fB (mh_Fr_pR fs0 (mh_sj 0 rfl) hkl) (fun s164 fs164 => (mh_fA (fun x166 => (mh_fB (mh_Fr_pI fs164 (mh_sj 1 rfl)) (fun s168 fs168 => (mh_fB (mh_Fr_pI fs168 (mh_sj 2 rfl)) (fun s170 fs170 => (mh_fB (mh_Fr_pI fs170 (mh_sj 3 rfl)) (fun s172 fs172 => (mh_fB (mh_Fr_tv fs172 (fr_eX1_clear s172 kl hkl fs172.2) (by rcases hkl with rfl | rfl <;> decide +kernel)) (fun s175 fs175 => (fr_l_eX4_read_34_1 s0 kl hkl hp 16 s175 (0 : Int32) fs175)))))))))))))
theorem fr_eX9_law (s0 : mh_H) (p1 : Int32) (hp : mh_p3 s0) : mh_FrP S_eX9_law s0 (f_eX9_law s0 p1) := by
  have fs0 : mh_Fr S_eX9_law s0 s0 := ⟨mh_F_rf, hp⟩
  unfold f_eX9_law
  exact (mh_fI fs0 (mh_fI fs0 (mh_fA (fun x24 => (mh_fI fs0 (mh_fK (fs0.2.2.1) (fun k28 hk28 => (mh_fC (mh_Fr_tl fs0 (fr_eX4_read s0 k28 hk28 p1 fs0.2) (by rcases hk28 with rfl | rfl <;> decide +kernel)) (fun x29 s30 fs30 => (mh_fB (mh_Fr_pI fs30 (mh_sj 22 rfl)) (fun s32 fs32 => (mh_fI (mh_fK (fs32.2.1) (fun k36 hk36 => (mh_fK (fs32.2.2.1) (fun k38 hk38 => (mh_fB (mh_Fr_pR fs32 (mh_sj 23 rfl) hk38) (fun s39 fs39 => (mh_fB (mh_Fr_pR fs39 (mh_sj 24 rfl) hk36) (fun s41 fs41 => fs41)))))))) fs32))))))))))))
end
section
def S_lw1 : List (Nat × Nat) := [(57, 23), (57, 23), (57, 24), (57, 25), (57, 26), (57, 27), (70, 9999), (71, 9999), (57, 29), (57, 28), (57, 31), (76, 9999), (74, 9999), (75, 9999), (72, 9999), (73, 9999), (57, 30), (64, 9999), (65, 9999), (66, 9999), (67, 9999), (68, 9999), (69, 9999), (57, 10)]
theorem fq_l_eX10_law_206_3 (s0 : mh_H) (hp : mh_p3 s0) (x761 : Int32) (x763 : Int32) : ∀ (n : Nat) (s1119 : mh_H) (x1118 : Int32), mh_Fr S_lw1 s0 s1119 → mh_FrP S_lw1 s0 (l_eX10_law_206_3 x761 x763 n s1119 x1118) := by
  have fs0 : mh_Fr S_lw1 s0 s0 := ⟨mh_F_rf, hp⟩
  intro n
  induction n with
  | zero => intro s1119 x1118 fs1119; exact fs1119
  | succ n ih =>
    intro s1119 x1118 fs1119
    have hlo_206_3 := ih
    rw [l_eX10_law_206_3_s]
    unfold ls_eX10_law_206_3
    exact (mh_fI (mh_fA (fun x1149 => (mh_fB (mh_Fr_pI fs1119 (mh_si 21 rfl)) (fun s1151 fs1151 => (mh_fA (fun x1153 => (mh_fB (mh_Fr_pI fs1151 (mh_si 22 rfl)) (fun s1155 fs1155 => (mh_fA (fun x1157 => (hlo_206_3 s1155 x1157 fs1155))))))))))) (mh_fB (mh_Fr_pI fs1119 (mh_sj 23 rfl)) (fun s1144 fs1144 => fs1144)))
theorem fq_l_eX10_law_142_2 (s0 : mh_H) (hp : mh_p3 s0) (x761 : Int32) (x763 : Int32) : ∀ (n : Nat) (s868 : mh_H) (x867 : Int32), mh_Fr S_lw1 s0 s868 → mh_FrP S_lw1 s0 (l_eX10_law_142_2 x761 x763 n s868 x867) := by
  have fs0 : mh_Fr S_lw1 s0 s0 := ⟨mh_F_rf, hp⟩
  intro n
  induction n with
  | zero => intro s868 x867 fs868; exact fs868
  | succ n ih =>
    intro s868 x867 fs868
    have hlo_142_2 := ih
    rw [l_eX10_law_142_2_s]
    unfold ls_eX10_law_142_2
    exact (mh_fI (mh_fA (fun x1163 => (mh_fB (mh_Fr_pI fs868 (mh_si 17 rfl)) (fun s1165 fs1165 => (mh_fA (fun x1167 => (mh_fB (mh_Fr_pI fs1165 (mh_si 18 rfl)) (fun s1169 fs1169 => (mh_fA (fun x1171 => (mh_fB (mh_Fr_pI fs1169 (mh_si 19 rfl)) (fun s1173 fs1173 => (mh_fA (fun x1175 => (mh_fB (mh_Fr_pI fs1173 (mh_si 20 rfl)) (fun s1177 fs1177 => (mh_fA (fun x1179 => (hlo_142_2 s1177 x1179 fs1177))))))))))))))))))) (fq_l_eX10_law_206_3 s0 hp x761 x763 201 s868 (0 : Int32) fs868))
theorem fq_l_eX10_law_54_1 (s0 : mh_H) (hp : mh_p3 s0) : ∀ (n : Nat) (s691 : mh_H) (x690 : Int32), mh_Fr S_lw1 s0 s691 → mh_FrP S_lw1 s0 (l_eX10_law_54_1 n s691 x690) := by
  have fs0 : mh_Fr S_lw1 s0 s0 := ⟨mh_F_rf, hp⟩
  intro n
  induction n with
  | zero => intro s691 x690 fs691; exact fs691
  | succ n ih =>
    intro s691 x690 fs691
    have hlo_54_1 := ih
    rw [l_eX10_law_54_1_s]
    unfold ls_eX10_law_54_1
    exact (mh_fA (fun x755 => (mh_fA (fun x757 => (mh_fA (fun x759 => (mh_fA (fun x761 => (mh_fA (fun x763 => (mh_fI (mh_fI fs691 (fq_l_eX10_law_142_2 s0 hp x761 x763 15 s691 (0 : Int32) fs691)) (mh_fA (fun x1191 => (mh_fI fs691 (mh_fB (mh_Fr_tv fs691 (fr_eX10_clause s691 fs691.2) (by decide +kernel)) (fun s1201 fs1201 => (mh_fA (fun x1203 => (mh_fA (fun x1206 => (mh_fA (fun x1208 => (mh_fA (fun x1210 => (mh_fA (fun x1212 => (mh_fI (mh_fA (fun x1217 => (hlo_54_1 s1201 (0 : Int32) fs1201))) (mh_fI (mh_fA (fun x1228 => (mh_fI (mh_fA (fun x1234 => (mh_fB (mh_Fr_pI fs1201 (mh_sj 1 rfl)) (fun s1236 fs1236 => (mh_fA (fun x1243 => (hlo_54_1 s1236 (1 : Int32) fs1236))))))) (mh_fB (mh_Fr_tv fs1201 (fr_eX10_wrongs s1201 (1 : Int32) x1203 fs1201.2) (by decide +kernel)) (fun s1248 fs1248 => (mh_fA (fun x1250 => (mh_fA (fun x1255 => (mh_fB (mh_Fr_pI fs1248 (mh_sj 1 rfl)) (fun s1257 fs1257 => (mh_fA (fun x1267 => (hlo_54_1 s1257 (1 : Int32) fs1257)))))))))))))) (mh_fA (fun x1225 => (hlo_54_1 s1201 (0 : Int32) fs1201)))))))))))))))))))))))))))))))
end
section
/-- a valley, as class and reference have it: ground, sort, cold, water, winds; the step; what ran -/
abbrev mh_V : Type := (Nat → Nat → Int32) × Int32 × Int32
def mh_vn (r : Nat) : Nat := if r = 4 then 100 else 144
def mh_vc (k : Nat) (s : mh_H) : mh_V := (fun r c => if c < mh_vn r ∧ r < 5 then s.1 (k + 1 + r) c else 0, s.1 k 5, s.1 k 6)
def mh_vr (s : mh_H) : mh_V := (fun r c => if c < mh_vn r ∧ r < 5 then s.1 (59 + r) c else 0, s.1 57 2, Int64.toInt32 (s.2.1 57 4))
theorem vc_at {k r c : Nat} {s : mh_H} (hc : c < mh_vn r) (hr : r < 5) : (mh_vc k s).1 r c = s.1 (k + 1 + r) c := if_pos ⟨hc, hr⟩
theorem vr_at {r c : Nat} {s : mh_H} (hc : c < mh_vn r) (hr : r < 5) : (mh_vr s).1 r c = s.1 (59 + r) c := if_pos ⟨hc, hr⟩
theorem vc_ext {k : Nat} {s : mh_H} {v : mh_V} (h0 : ∀ r c, ¬ (c < mh_vn r ∧ r < 5) → v.1 r c = 0) (h1 : ∀ r c, c < mh_vn r → r < 5 → s.1 (k + 1 + r) c = v.1 r c) (h2 : s.1 k 5 = v.2.1) (h3 : s.1 k 6 = v.2.2) : mh_vc k s = v := by
  refine Prod.ext ?_ (Prod.ext h2 h3)
  funext r c
  show (if c < mh_vn r ∧ r < 5 then s.1 (k + 1 + r) c else 0) = v.1 r c
  split
  · rename_i h; exact h1 r c h.1 h.2
  · rename_i h; exact (h0 r c h).symm
theorem vr_ext {s : mh_H} {v : mh_V} (h0 : ∀ r c, ¬ (c < mh_vn r ∧ r < 5) → v.1 r c = 0) (h1 : ∀ r c, c < mh_vn r → r < 5 → s.1 (59 + r) c = v.1 r c) (h2 : s.1 57 2 = v.2.1) (h3 : Int64.toInt32 (s.2.1 57 4) = v.2.2) : mh_vr s = v := by
  refine Prod.ext ?_ (Prod.ext h2 h3)
  funext r c
  show (if c < mh_vn r ∧ r < 5 then s.1 (59 + r) c else 0) = v.1 r c
  split
  · rename_i h; exact h1 r c h.1 h.2
  · rename_i h; exact (h0 r c h).symm
theorem vc_0 {k : Nat} {s : mh_H} {r c : Nat} (h : ¬ (c < mh_vn r ∧ r < 5)) : (mh_vc k s).1 r c = 0 := if_neg h
theorem vr_0 {s : mh_H} {r c : Nat} (h : ¬ (c < mh_vn r ∧ r < 5)) : (mh_vr s).1 r c = 0 := if_neg h
theorem vn_r {r c : Nat} (h : c < 144) (hr : r < 4) : c < mh_vn r := by unfold mh_vn; rw [if_neg (by omega)]; exact h
theorem vn_4 {c : Nat} (h : c < 100) : c < mh_vn 4 := h
/-- what one reads of a valley -/
def mh_wnd (v : mh_V) : Int32 := if 0 ≤ v.2.1.toInt ∧ v.2.1.toInt ≤ 99 then v.1 4 v.2.1.toNatClampNeg else 0
def mh_tre (v : mh_V) (c : Nat) : Int32 :=
  let t1 : Int32 := if 12 ≤ c ∧ (v.1 1 (c - 12)).toInt = 2 then 0 + 1 else 0
  let t2 : Int32 := if 0 < c % 12 ∧ (v.1 1 (c - 1)).toInt = 2 then t1 + 1 else t1
  let t3 : Int32 := if c % 12 < 11 ∧ (v.1 1 (c + 1)).toInt = 2 then t2 + 1 else t2
  if c < 132 ∧ (v.1 1 (c + 12)).toInt = 2 then t3 + 1 else t3
def mh_lev (v : mh_V) (c : Nat) : Int32 := (10 : Int32) * v.1 0 c + v.1 2 c + (if (v.1 1 c).toInt = 2 then 30 else 0)
def mh_env (v : mh_V) (c : Nat) (d : Int32) (i : Nat) : Int32 :=
  if i = 0 then v.1 0 c else if i = 1 then v.1 1 c else if i = 2 then v.2.1 else if i = 3 then mh_wnd v else if i = 4 then v.1 2 c else if i = 5 then v.1 3 c else if i = 6 then Int32.ofNat (c % 12) else if i = 7 then Int32.ofNat (c / 12) else if i = 8 then mh_tre v c else if i = 9 then d else 0
/-- cells' numbers -/
theorem ix_n {p : Int32} {c : Nat} (hp : p.toInt = (c : Int)) : p.toNatClampNeg = c := by show p.toInt.toNat = c; omega
theorem ix_mod {p : Int32} {c : Nat} (hp : p.toInt = (c : Int)) : (p % 12).toInt = ((c % 12 : Nat) : Int) := by
  have h12 : (12 : Int32).toInt = 12 := rfl
  rw [Int32.toInt_mod, hp, h12, Int.tmod_eq_emod_of_nonneg (by omega)]
  omega
theorem ix_div {p : Int32} {c : Nat} (hp : p.toInt = (c : Int)) : (p / 12).toInt = ((c / 12 : Nat) : Int) := by
  have h12 : (12 : Int32).toInt = 12 := rfl
  rw [mh_div (by rw [h12]; decide), hp, h12, Int.tdiv_eq_ediv_of_nonneg (by omega)]
  omega
theorem i32_of {z : Int32} {n : Nat} (h : z.toInt = (n : Int)) (hn : n < 1000) : z = Int32.ofNat n := Int32.toInt_inj.mp (by rw [h, Int32.toInt_ofNat_of_lt (by omega)])
theorem ix_sub {p : Int32} {c : Nat} (hp : p.toInt = (c : Int)) (hc : c < 1000) {q : Int32} {m : Nat} (hq : q.toInt = (m : Int)) (hm : m < 1000) (h : m ≤ c) : (p - q).toInt = ((c - m : Nat) : Int) := by
  rw [mh_sub (lo := 0) (hi := 1000) (by omega) (by decide)]
  omega
theorem ix_add {p : Int32} {c : Nat} (hp : p.toInt = (c : Int)) (hc : c < 100000) {q : Int32} {m : Nat} (hq : q.toInt = (m : Int)) (hm : m < 100000) : (p + q).toInt = ((c + m : Nat) : Int) := by
  rw [mh_add (lo := 0) (hi := 1000000) (by omega) (by decide)]
  omega
theorem tre_c {k : Nat} {s : mh_H} {p : Int32} {c : Nat} (hp : p.toInt = (c : Int)) (hc : c < 144) : f_eX8_treesBeside s k p = mh_tre (mh_vc k s) c := by
  have k2 : (2 : Int32).toInt = 2 := rfl
  have k12 : (12 : Int32).toInt = ((12 : Nat) : Int) := rfl
  have k11 : (11 : Int32).toInt = 11 := rfl
  have k132 : (132 : Int32).toInt = 132 := rfl
  have k1 : (1 : Int32).toInt = ((1 : Nat) : Int) := rfl
  unfold f_eX8_treesBeside j_eX8_treesBeside_29_1 j_eX8_treesBeside_48_2 j_eX8_treesBeside_69_3
  simp only [mh_lbE, k2, k132, k11, ix_mod hp]
  have e4 : c < 132 → s.1 (k + 2) (p + 12).toNatClampNeg = (mh_vc k s).1 1 (c + 12) := fun h => by rw [vc_at (vn_r (by omega) (by decide)) (by decide), ix_n (ix_add hp (by omega) k12 (by decide))]
  have e3 : c % 12 < 11 → s.1 (k + 2) (p + 1).toNatClampNeg = (mh_vc k s).1 1 (c + 1) := fun h => by rw [vc_at (vn_r (by omega) (by decide)) (by decide), ix_n (ix_add hp (by omega) k1 (by decide))]
  have e2 : 0 < c % 12 → s.1 (k + 2) (p - 1).toNatClampNeg = (mh_vc k s).1 1 (c - 1) := fun h => by rw [vc_at (vn_r (by omega) (by decide)) (by decide), ix_n (ix_sub hp (by omega) k1 (by decide) (by omega))]
  have e1 : 12 ≤ c → s.1 (k + 2) (p - 12).toNatClampNeg = (mh_vc k s).1 1 (c - 12) := fun h => by rw [vc_at (vn_r (by omega) (by decide)) (by decide), ix_n (ix_sub hp (by omega) k12 (by decide) h)]
  unfold mh_tre
  generalize mh_vc k s = v at e1 e2 e3 e4
  have q4 : ∀ x : Int32, (if p.toInt < 132 then if (s.1 (k + 2) (p + 12).toNatClampNeg).toInt = 2 then x + 1 else x else x) = if c < 132 ∧ (v.1 1 (c + 12)).toInt = 2 then x + 1 else x := by
    intro x
    by_cases h : c < 132
    · rw [if_pos (by omega), e4 h]
      simp only [h, true_and]
    · rw [if_neg (by omega), if_neg (fun q => h q.1)]
  have q3 : ∀ (x : Int32) (f : Int32 → Int32), (if ((c % 12 : Nat) : Int) < 11 then if (s.1 (k + 2) (p + 1).toNatClampNeg).toInt = 2 then f (x + 1) else f x else f x) = f (if c % 12 < 11 ∧ (v.1 1 (c + 1)).toInt = 2 then x + 1 else x) := by
    intro x f
    by_cases h : c % 12 < 11
    · rw [if_pos (by omega), e3 h]
      simp only [h, true_and]
      split <;> rfl
    · rw [if_neg (by omega), if_neg (fun q => h q.1)]
  have q2 : ∀ (x : Int32) (f : Int32 → Int32), (if 0 < ((c % 12 : Nat) : Int) then if (s.1 (k + 2) (p - 1).toNatClampNeg).toInt = 2 then f (x + 1) else f x else f x) = f (if 0 < c % 12 ∧ (v.1 1 (c - 1)).toInt = 2 then x + 1 else x) := by
    intro x f
    by_cases h : 0 < c % 12
    · rw [if_pos (by omega), e2 h]
      simp only [h, true_and]
      split <;> rfl
    · rw [if_neg (by omega), if_neg (fun q => h q.1)]
  have q1 : ∀ (f : Int32 → Int32), (if p.toInt < ((12 : Nat) : Int) then f 0 else if (s.1 (k + 2) (p - 12).toNatClampNeg).toInt = 2 then f (0 + 1) else f 0) = f (if 12 ≤ c ∧ (v.1 1 (c - 12)).toInt = 2 then 0 + 1 else 0) := by
    intro f
    by_cases h : 12 ≤ c
    · rw [if_neg (by omega), e1 h]
      simp only [h, true_and]
      split <;> rfl
    · rw [if_pos (by omega), if_neg (fun q => h q.1)]
  simp only [q4]
  rw [k12]
  refine (q1 (fun t1 => if 0 < ((c % 12 : Nat) : Int) then if (s.1 (k + 2) (p - 1).toNatClampNeg).toInt = 2 then (if ((c % 12 : Nat) : Int) < 11 then if (s.1 (k + 2) (p + 1).toNatClampNeg).toInt = 2 then (if c < 132 ∧ (v.1 1 (c + 12)).toInt = 2 then t1 + 1 + 1 + 1 else t1 + 1 + 1) else (if c < 132 ∧ (v.1 1 (c + 12)).toInt = 2 then t1 + 1 + 1 else t1 + 1) else (if c < 132 ∧ (v.1 1 (c + 12)).toInt = 2 then t1 + 1 + 1 else t1 + 1)) else (if ((c % 12 : Nat) : Int) < 11 then if (s.1 (k + 2) (p + 1).toNatClampNeg).toInt = 2 then (if c < 132 ∧ (v.1 1 (c + 12)).toInt = 2 then t1 + 1 + 1 else t1 + 1) else (if c < 132 ∧ (v.1 1 (c + 12)).toInt = 2 then t1 + 1 else t1) else (if c < 132 ∧ (v.1 1 (c + 12)).toInt = 2 then t1 + 1 else t1)) else (if ((c % 12 : Nat) : Int) < 11 then if (s.1 (k + 2) (p + 1).toNatClampNeg).toInt = 2 then (if c < 132 ∧ (v.1 1 (c + 12)).toInt = 2 then t1 + 1 + 1 else t1 + 1) else (if c < 132 ∧ (v.1 1 (c + 12)).toInt = 2 then t1 + 1 else t1) else (if c < 132 ∧ (v.1 1 (c + 12)).toInt = 2 then t1 + 1 else t1)))).trans ?_
  generalize (if 12 ≤ c ∧ (v.1 1 (c - 12)).toInt = 2 then (0 : Int32) + 1 else 0) = t1
  refine (q2 t1 (fun t2 => if ((c % 12 : Nat) : Int) < 11 then if (s.1 (k + 2) (p + 1).toNatClampNeg).toInt = 2 then (if c < 132 ∧ (v.1 1 (c + 12)).toInt = 2 then t2 + 1 + 1 else t2 + 1) else (if c < 132 ∧ (v.1 1 (c + 12)).toInt = 2 then t2 + 1 else t2) else (if c < 132 ∧ (v.1 1 (c + 12)).toInt = 2 then t2 + 1 else t2))).trans ?_
  exact q3 _ (fun t3 => if c < 132 ∧ (v.1 1 (c + 12)).toInt = 2 then t3 + 1 else t3)
theorem lev_c {k : Nat} {s : mh_H} {p : Int32} {c : Nat} (hp : p.toInt = (c : Int)) (hc : c < 144) : f_eX8_level s k p = mh_lev (mh_vc k s) c := by
  have k2 : (2 : Int32).toInt = 2 := rfl
  unfold f_eX8_level j_eX8_level_16_1 mh_lev
  simp only [mh_lbE, k2, ix_n hp]
  rw [vc_at (vn_r hc (by decide)) (by decide), vc_at (vn_r hc (by decide)) (by decide), vc_at (vn_r hc (by decide)) (by decide)]
  show (if (s.1 (k + 2) c).toInt = 2 then (10 : Int32) * s.1 (k + 1) c + s.1 (k + 3) c + 30 else (10 : Int32) * s.1 (k + 1) c + s.1 (k + 3) c + 0) = _
  split <;> rfl
theorem lev_r {s : mh_H} {p : Int32} {c : Nat} (hp : p.toInt = (c : Int)) (hc : c < 144) : f_eX10_levelAt s p = mh_lev (mh_vr s) c := by
  have k2 : (2 : Int32).toInt = 2 := rfl
  unfold f_eX10_levelAt mh_lev
  simp only [mh_lbE, k2, ix_n hp]
  rw [vr_at (vn_r hc (by decide)) (by decide), vr_at (vn_r hc (by decide)) (by decide), vr_at (vn_r hc (by decide)) (by decide)]
  split <;> rfl
theorem wnd_c {k : Nat} {s : mh_H} : f_eX8_windOf s k (s.1 k 5) = mh_wnd (mh_vc k s) := by
  have k9 : (99 : Int32).toInt = 99 := rfl
  unfold f_eX8_windOf mh_wnd
  simp only [mh_lbE, fq_within, k9]
  show _ = if 0 ≤ (s.1 k 5).toInt ∧ (s.1 k 5).toInt ≤ 99 then (mh_vc k s).1 4 (s.1 k 5).toNatClampNeg else 0
  by_cases h : 0 ≤ (s.1 k 5).toInt ∧ (s.1 k 5).toInt ≤ 99
  · rw [if_neg (not_not_intro h), if_pos h, vc_at (vn_4 (by show (s.1 k 5).toInt.toNat < 100; omega)) (by decide)]
  · rw [if_pos h, if_neg h]
theorem wnd_r {s : mh_H} (h0 : 0 ≤ (s.1 57 2).toInt) : f_eX10_windNow s = mh_wnd (mh_vr s) := by
  have k9 : (100 : Int32).toInt = 100 := rfl
  unfold f_eX10_windNow mh_wnd
  simp only [mh_lbE, k9]
  show _ = if 0 ≤ (s.1 57 2).toInt ∧ (s.1 57 2).toInt ≤ 99 then (mh_vr s).1 4 (s.1 57 2).toNatClampNeg else 0
  by_cases h : (s.1 57 2).toInt < 100
  · rw [if_pos h, if_pos ⟨h0, by omega⟩, vr_at (vn_4 (by show (s.1 57 2).toInt.toNat < 100; omega)) (by decide)]
  · rw [if_neg h, if_neg (by omega)]
end
section
/-- a loop over 0 .. N-1 that keeps Inv and goes out at N -/
theorem mh_for {R : Type} (l : Nat → mh_H → Int32 → R) (N : Nat) (Inv : mh_H → Nat → Prop) (Post : R → Prop) (hN : N < 100000)
    (hs : ∀ (n : Nat) (s : mh_H) (x : Int32) (m : Nat), x.toInt = (m : Int) → m < N → Inv s m → ∃ s', Inv s' (m + 1) ∧ l (n + 1) s x = l n s' (x + 1))
    (he : ∀ (n : Nat) (s : mh_H) (x : Int32), x.toInt = (N : Int) → Inv s N → Post (l (n + 1) s x)) :
    ∀ (n : Nat) (s : mh_H) (x : Int32) (m : Nat), x.toInt = (m : Int) → m ≤ N → Inv s m → N < n + m → Post (l n s x) := by
  intro n
  induction n with
  | zero => intro s x m _ h1 _ h2; exfalso; omega
  | succ n ih =>
    intro s x m hx hm hi hn
    rcases Nat.lt_or_ge m N with h | h
    · obtain ⟨s', h1, h2⟩ := hs n s x m hx h hi
      rw [h2]
      have k1 : (1 : Int32).toInt = ((1 : Nat) : Int) := rfl
      exact ih s' (x + 1) (m + 1) (ix_add hx (by omega) k1 (by decide)) (by omega) h1 (by omega)
    · obtain rfl : m = N := by omega
      exact he n s x hx hi
theorem bes_0 {s : mh_H} {p : Int32} {c : Nat} (hp : p.toInt = (c : Int)) (hc : c < 144) : f_eX10_beside s p 0 = if 12 ≤ c then p - 12 else -1 := by
  unfold f_eX10_beside
  simp only [mh_lbE, ix_div hp]
  rw [if_pos (by decide)]
  by_cases h : 12 ≤ c
  · rw [if_pos (by omega), if_pos h]
  · rw [if_neg (by omega), if_neg h]
theorem bes_1 {s : mh_H} {p : Int32} {c : Nat} (hp : p.toInt = (c : Int)) (hc : c < 144) : f_eX10_beside s p 1 = if 0 < c % 12 then p - 1 else -1 := by
  unfold f_eX10_beside
  simp only [mh_lbE, ix_mod hp]
  rw [if_neg (by decide), if_pos trivial]
  by_cases h : 0 < c % 12
  · rw [if_pos (by omega), if_pos h]
  · rw [if_neg (by omega), if_neg h]
theorem bes_2 {s : mh_H} {p : Int32} {c : Nat} (hp : p.toInt = (c : Int)) (hc : c < 144) : f_eX10_beside s p 2 = if c % 12 < 11 then p + 1 else -1 := by
  have k11 : (11 : Int32).toInt = 11 := rfl
  unfold f_eX10_beside
  simp only [mh_lbE, ix_mod hp, k11]
  rw [if_neg (by decide), if_neg (by decide), if_pos trivial]
  by_cases h : c % 12 < 11
  · rw [if_pos (by omega), if_pos h]
  · rw [if_neg (by omega), if_neg h]
theorem bes_3 {s : mh_H} {p : Int32} {c : Nat} (hp : p.toInt = (c : Int)) (hc : c < 144) : f_eX10_beside s p 3 = if c < 132 then p + 12 else -1 := by
  have k11 : (11 : Int32).toInt = 11 := rfl
  unfold f_eX10_beside
  simp only [mh_lbE, ix_div hp, k11]
  rw [if_neg (by decide), if_neg (by decide), if_neg (by decide)]
  by_cases h : c < 132
  · rw [if_pos (by omega), if_pos h]
  · rw [if_neg (by omega), if_neg h]
theorem trl_st {s : mh_H} {p d a q : Int32} {n : Nat} (hd : d.toInt < (4 : Int32).toInt) {h : Prop} {j : Decidable h} (hq : f_eX10_beside s p d = if h then q else -1) (hq0 : h → 0 ≤ q.toInt) : l_eX10_treesBeside_4_1 s p (n + 1) d a = l_eX10_treesBeside_4_1 s p n (d + 1) (if h ∧ (s.1 60 q.toNatClampNeg).toInt = 2 then a + 1 else a) := by
  have k1 : (-1 : Int32).toInt = -1 := rfl
  have k2 : (2 : Int32).toInt = 2 := rfl
  rw [l_eX10_treesBeside_4_1_s]
  unfold ls_eX10_treesBeside_4_1
  rw [if_pos hd]
  simp only [mh_lbE, hq, k1, k2, Int32.add_zero]
  by_cases c : h
  · simp only [c, if_true, true_and]
    rw [if_neg (by have := hq0 c; omega)]
    split <;> rfl
  · simp only [c, if_false, false_and]
    rw [if_pos k1]
theorem tre_r {s : mh_H} {p : Int32} {c : Nat} (hp : p.toInt = (c : Int)) (hc : c < 144) : f_eX10_treesBeside s p = mh_tre (mh_vr s) c := by
  have k12 : (12 : Int32).toInt = ((12 : Nat) : Int) := rfl
  have k1 : (1 : Int32).toInt = ((1 : Nat) : Int) := rfl
  have e01 : (0 : Int32) + 1 = 1 := rfl
  have e12 : (1 : Int32) + 1 = 2 := rfl
  have e23 : (2 : Int32) + 1 = 3 := rfl
  have e34 : (3 : Int32) + 1 = 4 := rfl
  have e4 : c < 132 → s.1 60 (p + 12).toNatClampNeg = (mh_vr s).1 1 (c + 12) := fun h => by rw [vr_at (vn_r (by omega) (by decide)) (by decide), ix_n (ix_add hp (by omega) k12 (by decide))]
  have e3 : c % 12 < 11 → s.1 60 (p + 1).toNatClampNeg = (mh_vr s).1 1 (c + 1) := fun h => by rw [vr_at (vn_r (by omega) (by decide)) (by decide), ix_n (ix_add hp (by omega) k1 (by decide))]
  have e2 : 0 < c % 12 → s.1 60 (p - 1).toNatClampNeg = (mh_vr s).1 1 (c - 1) := fun h => by rw [vr_at (vn_r (by omega) (by decide)) (by decide), ix_n (ix_sub hp (by omega) k1 (by decide) (by omega))]
  have e1 : 12 ≤ c → s.1 60 (p - 12).toNatClampNeg = (mh_vr s).1 1 (c - 12) := fun h => by rw [vr_at (vn_r (by omega) (by decide)) (by decide), ix_n (ix_sub hp (by omega) k12 (by decide) h)]
  unfold f_eX10_treesBeside
  rw [show (5 : Nat) = 4 + 1 from rfl, trl_st (by decide) (bes_0 hp hc) (fun h => by rw [ix_sub hp (by omega) k12 (by decide) h]; omega), e01,
    show (4 : Nat) = 3 + 1 from rfl, trl_st (by decide) (bes_1 hp hc) (fun h => by rw [ix_sub hp (by omega) k1 (by decide) (by omega)]; omega), e12,
    show (3 : Nat) = 2 + 1 from rfl, trl_st (by decide) (bes_2 hp hc) (fun h => by rw [ix_add hp (by omega) k1 (by decide)]; omega), e23,
    show (2 : Nat) = 1 + 1 from rfl, trl_st (by decide) (bes_3 hp hc) (fun h => by rw [ix_add hp (by omega) k12 (by decide)]; omega), e34]
  rw [show (1 : Nat) = 0 + 1 from rfl, l_eX10_treesBeside_4_1_s]
  unfold ls_eX10_treesBeside_4_1
  rw [if_neg (by decide)]
  unfold mh_tre
  have cg : ∀ (h : Prop) [Decidable h] (a b x y : Int32), (h → a = b) → (if h ∧ a.toInt = 2 then x else y) = if h ∧ b.toInt = 2 then x else y := by
    intro h _ a b x y hab
    by_cases q : h
    · rw [hab q]
    · rw [if_neg (fun z => q z.1), if_neg (fun z => q z.1)]
  rw [cg _ _ _ _ _ e1, cg _ _ _ _ _ e2, cg _ _ _ _ _ e3, cg _ _ _ _ _ e4]
  simp only [e01]
/-- the lowest beside, from the cell itself on -/
def mh_lo1 (v : mh_V) (h : Prop) [Decidable h] (n low : Nat) : Nat := if h ∧ (mh_lev v n).toInt < (mh_lev v low).toInt then n else low
def mh_low (v : mh_V) (c : Nat) : Nat := mh_lo1 v (c < 132) (c + 12) (mh_lo1 v (c % 12 < 11) (c + 1) (mh_lo1 v (0 < c % 12) (c - 1) (mh_lo1 v (12 ≤ c) (c - 12) c)))
theorem low_lt {v : mh_V} {c : Nat} (hc : c < 144) : mh_low v c < 144 := by
  unfold mh_low mh_lo1
  repeat' split
  all_goals omega
theorem lo1_c {s : mh_H} {v : mh_V} (hL : ∀ x, x < 144 → s.1 20 x = mh_lev v x) {p q low : Int32} {n m : Nat} {h : Prop} [Decidable h] (hq : h → q.toInt = (n : Int)) (hn : h → n < 144) (hl : low.toInt = (m : Int)) (hm : m < 144) {α : Type} (f : Int32 → α) {g : Prop} [Decidable g] (hg : g ↔ h) :
    ∃ z : Int32, z.toInt = (mh_lo1 v h n m : Nat) ∧ (if g then if (s.1 20 q.toNatClampNeg).toInt < (s.1 20 low.toNatClampNeg).toInt then f q else f low else f low) = f z := by
  by_cases c : h
  · rw [if_pos (hg.2 c), ix_n (hq c), ix_n hl, hL _ (hn c), hL _ hm]
    unfold mh_lo1
    by_cases d : (mh_lev v n).toInt < (mh_lev v m).toInt
    · rw [if_pos d, if_pos ⟨c, d⟩]
      exact ⟨q, hq c, rfl⟩
    · rw [if_neg d, if_neg (fun z => d z.2)]
      exact ⟨low, hl, rfl⟩
  · rw [if_neg (fun z => c (hg.1 z))]
    unfold mh_lo1
    rw [if_neg (fun z => c z.1)]
    exact ⟨low, hl, rfl⟩
theorem lo1_lt {v : mh_V} {h : Prop} [Decidable h] {n m : Nat} (hn : h → n < 144) (hm : m < 144) : mh_lo1 v h n m < 144 := by
  unfold mh_lo1
  split
  · rename_i q; exact hn q.1
  · exact hm
theorem low_c {s : mh_H} {v : mh_V} (hL : ∀ x, x < 144 → s.1 20 x = mh_lev v x) {p : Int32} {c : Nat} (hp : p.toInt = (c : Int)) (hc : c < 144) : (f_eX0_lowestBeside s p).toInt = (mh_low v c : Nat) := by
  have k12 : (12 : Int32).toInt = ((12 : Nat) : Int) := rfl
  have k1 : (1 : Int32).toInt = ((1 : Nat) : Int) := rfl
  have k11 : (11 : Int32).toInt = 11 := rfl
  have k132 : (132 : Int32).toInt = 132 := rfl
  unfold f_eX0_lowestBeside j_eX0_lowestBeside_36_1 j_eX0_lowestBeside_61_2 j_eX0_lowestBeside_88_3
  simp only [mh_lbE, k132, k11, ix_mod hp]
  obtain ⟨z1, h1, q1⟩ := lo1_c hL (p := p) (q := p - 12) (low := p) (n := c - 12) (m := c) (h := 12 ≤ c) (g := ¬ p.toInt < (12 : Int32).toInt) (fun h => ix_sub hp (by omega) k12 (by decide) h) (fun h => by omega) hp hc
    (fun x47 => if 0 < ((c % 12 : Nat) : Int) then if (s.1 20 (p - 1).toNatClampNeg).toInt < (s.1 20 x47.toNatClampNeg).toInt then (if ((c % 12 : Nat) : Int) < 11 then if (s.1 20 (p + 1).toNatClampNeg).toInt < (s.1 20 (p - 1).toNatClampNeg).toInt then (if p.toInt < 132 then if (s.1 20 (p + 12).toNatClampNeg).toInt < (s.1 20 (p + 1).toNatClampNeg).toInt then p + 12 else p + 1 else p + 1) else (if p.toInt < 132 then if (s.1 20 (p + 12).toNatClampNeg).toInt < (s.1 20 (p - 1).toNatClampNeg).toInt then p + 12 else p - 1 else p - 1) else (if p.toInt < 132 then if (s.1 20 (p + 12).toNatClampNeg).toInt < (s.1 20 (p - 1).toNatClampNeg).toInt then p + 12 else p - 1 else p - 1)) else (if ((c % 12 : Nat) : Int) < 11 then if (s.1 20 (p + 1).toNatClampNeg).toInt < (s.1 20 x47.toNatClampNeg).toInt then (if p.toInt < 132 then if (s.1 20 (p + 12).toNatClampNeg).toInt < (s.1 20 (p + 1).toNatClampNeg).toInt then p + 12 else p + 1 else p + 1) else (if p.toInt < 132 then if (s.1 20 (p + 12).toNatClampNeg).toInt < (s.1 20 x47.toNatClampNeg).toInt then p + 12 else x47 else x47) else (if p.toInt < 132 then if (s.1 20 (p + 12).toNatClampNeg).toInt < (s.1 20 x47.toNatClampNeg).toInt then p + 12 else x47 else x47)) else (if ((c % 12 : Nat) : Int) < 11 then if (s.1 20 (p + 1).toNatClampNeg).toInt < (s.1 20 x47.toNatClampNeg).toInt then (if p.toInt < 132 then if (s.1 20 (p + 12).toNatClampNeg).toInt < (s.1 20 (p + 1).toNatClampNeg).toInt then p + 12 else p + 1 else p + 1) else (if p.toInt < 132 then if (s.1 20 (p + 12).toNatClampNeg).toInt < (s.1 20 x47.toNatClampNeg).toInt then p + 12 else x47 else x47) else (if p.toInt < 132 then if (s.1 20 (p + 12).toNatClampNeg).toInt < (s.1 20 x47.toNatClampNeg).toInt then p + 12 else x47 else x47))) (by omega)
  rw [ite_not] at q1
  rw [q1]
  have m1 := lo1_lt (v := v) (h := 12 ≤ c) (n := c - 12) (m := c) (fun h => by omega) hc
  obtain ⟨z2, h2, q2⟩ := lo1_c hL (p := p) (q := p - 1) (low := z1) (n := c - 1) (m := mh_lo1 v (12 ≤ c) (c - 12) c) (h := 0 < c % 12) (g := 0 < ((c % 12 : Nat) : Int)) (fun h => ix_sub hp (by omega) k1 (by decide) (by omega)) (fun h => by omega) h1 m1
    (fun x => if ((c % 12 : Nat) : Int) < 11 then if (s.1 20 (p + 1).toNatClampNeg).toInt < (s.1 20 x.toNatClampNeg).toInt then (if p.toInt < 132 then if (s.1 20 (p + 12).toNatClampNeg).toInt < (s.1 20 (p + 1).toNatClampNeg).toInt then p + 12 else p + 1 else p + 1) else (if p.toInt < 132 then if (s.1 20 (p + 12).toNatClampNeg).toInt < (s.1 20 x.toNatClampNeg).toInt then p + 12 else x else x) else (if p.toInt < 132 then if (s.1 20 (p + 12).toNatClampNeg).toInt < (s.1 20 x.toNatClampNeg).toInt then p + 12 else x else x)) (by omega)
  rw [q2]
  have m2 := lo1_lt (v := v) (h := 0 < c % 12) (n := c - 1) (fun h => by omega) m1
  obtain ⟨z3, h3, q3⟩ := lo1_c hL (p := p) (q := p + 1) (low := z2) (n := c + 1) (h := c % 12 < 11) (g := ((c % 12 : Nat) : Int) < 11) (fun h => ix_add hp (by omega) k1 (by decide)) (fun h => by omega) h2 m2
    (fun x => if p.toInt < 132 then if (s.1 20 (p + 12).toNatClampNeg).toInt < (s.1 20 x.toNatClampNeg).toInt then p + 12 else x else x) (by omega)
  rw [q3]
  have m3 := lo1_lt (v := v) (h := c % 12 < 11) (n := c + 1) (fun h => by omega) m2
  obtain ⟨z4, h4, q4⟩ := lo1_c hL (p := p) (q := p + 12) (low := z3) (n := c + 12) (h := c < 132) (g := p.toInt < 132) (fun h => ix_add hp (by omega) k12 (by decide)) (fun h => by omega) h3 m3 (fun x => x) (by omega)
  rw [q4]
  exact h4
/-- the lowest of those beside alone -/
def mh_bs1 (v : mh_V) (h : Prop) [Decidable h] (n : Nat) (o : Option Nat) : Option Nat := if h then (match o with | none => some n | some b => if (mh_lev v n).toInt < (mh_lev v b).toInt then some n else some b) else o
def mh_bst (v : mh_V) (c : Nat) : Option Nat := mh_bs1 v (c < 132) (c + 12) (mh_bs1 v (c % 12 < 11) (c + 1) (mh_bs1 v (0 < c % 12) (c - 1) (mh_bs1 v (12 ≤ c) (c - 12) none)))
def mh_bR (b : Int32) (o : Option Nat) : Prop := match o with
  | none => b.toInt = -1
  | some m => b.toInt = (m : Int) ∧ m < 144
theorem bsl_st {s : mh_H} {p d b q : Int32} {n m : Nat} {o : Option Nat} (hd : d.toInt < (4 : Int32).toInt) {h : Prop} [Decidable h] (hq : f_eX10_beside s p d = if h then q else -1) (hq0 : h → q.toInt = (m : Int)) (hm : h → m < 144) (hb : mh_bR b o) : ∃ b', mh_bR b' (mh_bs1 (mh_vr s) h m o) ∧ l_eX10_lowestBeside_4_1 s p (n + 1) d b = l_eX10_lowestBeside_4_1 s p n (d + 1) b' := by
  have k1 : (-1 : Int32).toInt = -1 := rfl
  rw [l_eX10_lowestBeside_4_1_s]
  unfold ls_eX10_lowestBeside_4_1 j_eX10_lowestBeside_41_2
  rw [if_pos hd]
  simp only [mh_lbE, hq, k1]
  unfold mh_bs1
  by_cases c : h
  · rw [if_pos c, if_pos c, if_neg (by have := hq0 c; omega)]
    cases o with
    | none =>
      rw [if_pos (show b.toInt = -1 from hb)]
      exact ⟨q, ⟨hq0 c, hm c⟩, rfl⟩
    | some a =>
      have hb1 : b.toInt = (a : Int) := hb.1
      rw [if_neg (by omega), lev_r (hq0 c) (hm c), lev_r hb1 hb.2]
      show ∃ b', mh_bR b' (if (mh_lev (mh_vr s) m).toInt < (mh_lev (mh_vr s) a).toInt then some m else some a) ∧ _
      by_cases e : (mh_lev (mh_vr s) m).toInt < (mh_lev (mh_vr s) a).toInt
      · rw [if_pos e, if_pos e]
        exact ⟨q, ⟨hq0 c, hm c⟩, rfl⟩
      · rw [if_neg e, if_neg e]
        exact ⟨b, hb, rfl⟩
  · rw [if_neg c, if_neg c, if_pos k1]
    exact ⟨b, hb, rfl⟩
theorem bst_r {s : mh_H} {p : Int32} {c : Nat} (hp : p.toInt = (c : Int)) (hc : c < 144) : mh_bR (f_eX10_lowestBeside s p) (mh_bst (mh_vr s) c) := by
  have k12 : (12 : Int32).toInt = ((12 : Nat) : Int) := rfl
  have k1 : (1 : Int32).toInt = ((1 : Nat) : Int) := rfl
  have e01 : (0 : Int32) + 1 = 1 := rfl
  have e12 : (1 : Int32) + 1 = 2 := rfl
  have e23 : (2 : Int32) + 1 = 3 := rfl
  have e34 : (3 : Int32) + 1 = 4 := rfl
  unfold f_eX10_lowestBeside
  obtain ⟨b1, h1, q1⟩ := bsl_st (s := s) (p := p) (d := 0) (b := -1) (n := 4) (o := none) (by decide) (bes_0 hp hc) (fun h => ix_sub hp (by omega) k12 (by decide) h) (fun h => by omega) (show (-1 : Int32).toInt = -1 from rfl)
  rw [show (5 : Nat) = 4 + 1 from rfl, q1, e01]
  obtain ⟨b2, h2, q2⟩ := bsl_st (s := s) (p := p) (d := 1) (n := 3) (by decide) (bes_1 hp hc) (fun h => ix_sub hp (by omega) k1 (by decide) (by omega)) (fun h => by omega) h1
  rw [show (4 : Nat) = 3 + 1 from rfl, q2, e12]
  obtain ⟨b3, h3, q3⟩ := bsl_st (s := s) (p := p) (d := 2) (n := 2) (by decide) (bes_2 hp hc) (fun h => ix_add hp (by omega) k1 (by decide)) (fun h => by omega) h2
  rw [show (3 : Nat) = 2 + 1 from rfl, q3, e23]
  obtain ⟨b4, h4, q4⟩ := bsl_st (s := s) (p := p) (d := 3) (n := 1) (by decide) (bes_3 hp hc) (fun h => ix_add hp (by omega) k12 (by decide)) (fun h => by omega) h3
  rw [show (2 : Nat) = 1 + 1 from rfl, q4, e34, show (1 : Nat) = 0 + 1 from rfl, l_eX10_lowestBeside_4_1_s]
  unfold ls_eX10_lowestBeside_4_1
  rw [if_neg (by decide)]
  exact h4
/-- both ways to the lowest -/
def mh_lbR (v : mh_V) (c : Nat) (o : Option Nat) (low : Nat) : Prop := match o with
  | none => low = c
  | some b => ((mh_lev v b).toInt < (mh_lev v c).toInt ∧ low = b) ∨ ((mh_lev v c).toInt ≤ (mh_lev v b).toInt ∧ low = c)
theorem lbR_st {v : mh_V} {c : Nat} {o : Option Nat} {low n : Nat} {h : Prop} [Decidable h] (g : mh_lbR v c o low) : mh_lbR v c (mh_bs1 v h n o) (mh_lo1 v h n low) := by
  unfold mh_bs1 mh_lo1
  by_cases q : h
  · rw [if_pos q]
    simp only [q, true_and]
    cases o with
    | none =>
      have e : low = c := g
      subst e
      show ((mh_lev v n).toInt < (mh_lev v low).toInt ∧ _ = n) ∨ ((mh_lev v low).toInt ≤ (mh_lev v n).toInt ∧ _ = low)
      by_cases z : (mh_lev v n).toInt < (mh_lev v low).toInt
      · rw [if_pos z]; exact Or.inl ⟨z, rfl⟩
      · rw [if_neg z]; exact Or.inr ⟨by omega, rfl⟩
    | some b =>
      rcases g with ⟨g1, rfl⟩ | ⟨g1, rfl⟩
      · show mh_lbR v c (if (mh_lev v n).toInt < (mh_lev v low).toInt then some n else some low) _
        by_cases z : (mh_lev v n).toInt < (mh_lev v low).toInt
        · rw [if_pos z, if_pos z]; exact Or.inl ⟨by omega, rfl⟩
        · rw [if_neg z, if_neg z]; exact Or.inl ⟨g1, rfl⟩
      · show mh_lbR v low (if (mh_lev v n).toInt < (mh_lev v b).toInt then some n else some b) _
        by_cases z : (mh_lev v n).toInt < (mh_lev v low).toInt
        · rw [if_pos z, if_pos (by omega)]; exact Or.inl ⟨z, rfl⟩
        · rw [if_neg z]
          by_cases y : (mh_lev v n).toInt < (mh_lev v b).toInt
          · rw [if_pos y]; exact Or.inr ⟨by omega, rfl⟩
          · rw [if_neg y]; exact Or.inr ⟨g1, rfl⟩
  · rw [if_neg q, if_neg (fun z => q z.1)]
    exact g
theorem low_bst (v : mh_V) (c : Nat) : mh_lbR v c (mh_bst v c) (mh_low v c) := by
  unfold mh_bst mh_low
  exact lbR_st (h := c < 132) (lbR_st (h := c % 12 < 11) (lbR_st (h := 0 < c % 12) (lbR_st (h := 12 ≤ c) (show mh_lbR v c none c from rfl))))
theorem bst_some {v : mh_V} {c : Nat} (hc : c < 144) : ∃ b, mh_bst v c = some b := by
  have key : ∀ (h : Prop) [Decidable h] (n : Nat) (o : Option Nat), (h ∨ ∃ b, o = some b) → ∃ b, mh_bs1 v h n o = some b := by
    intro h _ n o g
    unfold mh_bs1
    by_cases q : h
    · rw [if_pos q]
      cases o with
      | none => exact ⟨n, rfl⟩
      | some b => show ∃ b', (if (mh_lev v n).toInt < (mh_lev v b).toInt then some n else some b) = some b'; split <;> exact ⟨_, rfl⟩
    · rw [if_neg q]
      rcases g with g | g
      · exact absurd g q
      · exact g
  unfold mh_bst
  apply key
  by_cases q : c < 132
  · exact Or.inl q
  · right
    apply key; right
    apply key; right
    apply key; left
    omega
end
section
theorem pI_v {s : mh_H} {a j b i : Nat} {x : Int32} : (mh_pI s a j x).1 b i = if b = a ∧ i = j then x else s.1 b i := rfl
theorem pI_o {s : mh_H} {a j b i : Nat} {x : Int32} (h : b ≠ a) : (mh_pI s a j x).1 b i = s.1 b i := if_neg (fun q => h q.1)
theorem pI_j {s : mh_H} {a j b i : Nat} {x : Int32} (h : i ≠ j) : (mh_pI s a j x).1 b i = s.1 b i := if_neg (fun q => h q.2)
theorem pI_w {s : mh_H} {a j : Nat} {x : Int32} : (mh_pI s a j x).1 a j = x := if_pos ⟨rfl, rfl⟩
theorem pL_w {s : mh_H} {a j : Nat} {x : Int64} : (mh_pL s a j x).2.1 a j = x := if_pos ⟨rfl, rfl⟩
theorem pL_v {s : mh_H} {a j b i : Nat} {x : Int64} : (mh_pL s a j x).2.1 b i = if b = a ∧ i = j then x else s.2.1 b i := rfl
theorem r32_a (a b c : Int32) : a + b - c = a - c + b := by
  rw [Int32.sub_eq_add_neg, Int32.sub_eq_add_neg, Int32.add_assoc, Int32.add_comm b, Int32.add_assoc]
def mh_g (v : mh_V) (c : Nat) : Int32 := if 0 < (mh_lev v c - mh_lev v (mh_low v c)).toInt then mh_mi32 ((v.1 2 c + 3) / 4) ((mh_lev v c - mh_lev v (mh_low v c)) / 2) else 0
def mh_sm (v : mh_V) (j : Nat) : Nat → Int32
  | 0 => 0
  | m + 1 => mh_sm v j m + (if mh_low v m = j then mh_g v m else 0)
def mh_rs (v : mh_V) : Nat → Int32
  | 0 => v.2.2
  | m + 1 => mh_rs v m + mh_g v m
def mh_bh (v : mh_V) (m j : Nat) : Int32 := (if j < m then v.1 2 j - mh_g v j else v.1 2 j) + mh_sm v j m
def mh_rdn (v : mh_V) : mh_V := (fun r c => if r = 2 then (if c < 144 then mh_mi32 (mh_bh v 144 c) 9999 else 0) else v.1 r c, v.2.1, mh_rs v 144)
theorem bh_0 (v : mh_V) (j : Nat) : mh_bh v 0 j = v.1 2 j := by
  unfold mh_bh
  rw [if_neg (Nat.not_lt_zero j)]
  exact Int32.add_zero _
theorem bh_s (v : mh_V) (m j : Nat) : mh_bh v (m + 1) j = (if j = m then mh_bh v m j - mh_g v m else mh_bh v m j) + (if mh_low v m = j then mh_g v m else 0) := by
  unfold mh_bh
  show _ + (mh_sm v j m + _) = _
  rw [← Int32.add_assoc]
  congr 1
  by_cases h : j = m
  · subst h
    rw [if_pos (Nat.lt_succ_self j), if_pos rfl, if_neg (Nat.lt_irrefl j), r32_a]
  · rw [if_neg h]
    by_cases q : j < m
    · rw [if_pos q, if_pos (by omega)]
    · rw [if_neg q, if_neg (by omega)]
/-- the class's loops -/
def mh_kO (k : Nat) : Prop := 1 ≤ k ∧ k ≤ 13
theorem rd1_c {k : Nat} (hk : mh_kO k) {v : mh_V} {s : mh_H} (hv : mh_vc k s = v) (Post : mh_H → Prop)
    (kk : ∀ s', mh_vc k s' = v → (∀ c, c < 144 → s'.1 20 c = mh_lev v c) → (∀ c, c < 144 → s'.1 21 c = v.1 2 c) → Post (l_eX0_runDown_40_2 k 145 s' 0)) : Post (f_eX0_runDown s k) := by
  unfold f_eX0_runDown
  refine mh_for (l_eX0_runDown_2_1 k) 144 (fun s m => mh_vc k s = v ∧ (∀ c, c < m → s.1 20 c = mh_lev v c ∧ s.1 21 c = v.1 2 c)) Post (by decide) ?_ ?_ 145 s 0 0 rfl (by decide) ⟨hv, fun c h => absurd h (Nat.not_lt_zero c)⟩ (by decide)
  · intro n s x m hx hm ⟨h1, h2⟩
    refine ⟨mh_pI (mh_pI s 20 m (mh_lev v m)) 21 m (v.1 2 m), ⟨?_, ?_⟩, ?_⟩
    · rw [← h1]
      have := hk.2
      refine vc_ext (fun r c h => vc_0 h) (fun r c hc hr => ?_) ?_ ?_
      · rw [vc_at hc hr, pI_o (by omega), pI_o (by omega)]
      · rw [pI_o (by omega), pI_o (by omega)]; rfl
      · rw [pI_o (by omega), pI_o (by omega)]; rfl
    · intro c hc
      by_cases q : c = m
      · subst q
        rw [pI_o (by decide), pI_w, pI_w]
        exact ⟨rfl, rfl⟩
      · rw [pI_o (by decide), pI_j q, pI_j q, pI_o (by decide)]
        exact h2 c (by omega)
    · rw [l_eX0_runDown_2_1_s]
      unfold ls_eX0_runDown_2_1
      have k144 : (144 : Int32).toInt = 144 := rfl
      rw [if_pos (by omega)]
      simp only [mh_lbE]
      rw [lev_c hx hm, h1, ix_n hx, pI_o (by have := hk.2; omega), show s.1 (k + 3) m = v.1 2 m by rw [← h1]; exact (vc_at (k := k) (r := 2) (vn_r hm (by decide)) (by decide)).symm]
  · intro n s x hx ⟨h1, h2⟩
    rw [l_eX0_runDown_2_1_s]
    unfold ls_eX0_runDown_2_1
    have k144 : (144 : Int32).toInt = 144 := rfl
    rw [if_neg (by omega)]
    exact kk s h1 (fun c hc => (h2 c hc).1) (fun c hc => (h2 c hc).2)
theorem rd2_c {k : Nat} (hk : mh_kO k) {v : mh_V} {s : mh_H} (hv : mh_vc k s = v) (hL : ∀ c, c < 144 → s.1 20 c = mh_lev v c) (hb : ∀ c, c < 144 → s.1 21 c = v.1 2 c) (Post : mh_H → Prop)
    (kk : ∀ s', mh_vc k s' = (v.1, v.2.1, mh_rs v 144) → (∀ c, c < 144 → s'.1 21 c = mh_bh v 144 c) → Post (l_eX0_runDown_133_3 k 145 s' 0)) : Post (l_eX0_runDown_40_2 k 145 s 0) := by
  refine mh_for (l_eX0_runDown_40_2 k) 144 (fun s m => mh_vc k s = (v.1, v.2.1, mh_rs v m) ∧ (∀ c, c < 144 → s.1 20 c = mh_lev v c) ∧ (∀ c, c < 144 → s.1 21 c = mh_bh v m c)) Post (by decide) ?_ ?_ 145 s 0 0 rfl (by decide) ⟨hv, hL, fun c hc => by rw [bh_0]; exact hb c hc⟩ (by decide)
  · intro n s x m hx hm ⟨h1, h2, h3⟩
    have k144 : (144 : Int32).toInt = 144 := rfl
    have hlow := low_c h2 hx hm
    have hll := low_lt (v := v) hm
    have hcold : s.1 (k + 3) m = v.1 2 m := by
      have := vc_at (k := k) (r := 2) (c := m) (s := s) (vn_r hm (by decide)) (by decide)
      rw [h1] at this
      exact this.symm
    have hran : s.1 k 6 = mh_rs v m := congrArg (fun q : mh_V => q.2.2) h1
    rw [l_eX0_runDown_40_2_s]
    unfold ls_eX0_runDown_40_2 j_eX0_runDown_125_4
    rw [if_pos (by omega)]
    simp only [mh_lbE, ix_n hx, ix_n hlow]
    rw [h2 m hm, h2 _ hll, hcold]
    have hg : mh_g v m = if 0 < (mh_lev v m - mh_lev v (mh_low v m)).toInt then mh_mi32 ((v.1 2 m + 3) / 4) ((mh_lev v m - mh_lev v (mh_low v m)) / 2) else 0 := rfl
    by_cases c0 : 0 < (mh_lev v m - mh_lev v (mh_low v m)).toInt
    · rw [if_pos c0] at hg
      rw [if_pos c0, ← hg]
      refine ⟨_, ⟨?_, ?_, ?_⟩, rfl⟩
      · have := hk.2
        refine vc_ext (fun r c h => ?_) (fun r c hc hr => ?_) ?_ ?_
        · have := vc_0 (k := k) (s := s) h
          rw [h1] at this
          exact this
        · rw [pI_o (by omega), pI_o (by omega), pI_o (by omega), ← vc_at (k := k) hc hr, h1]
        · rw [pI_j (by decide), pI_o (by omega), pI_o (by omega)]
          exact congrArg (fun q : mh_V => q.2.1) h1
        · rw [pI_w, pI_o (by omega), pI_o (by omega), hran]
          rfl
      · intro c hc
        rw [pI_o (by have := hk.2; omega), pI_o (by decide), pI_o (by decide)]
        exact h2 c hc
      · intro c hc
        have := hk.2
        rw [pI_o (by omega), bh_s, pI_v, h3 m hm]
        simp only [pI_v, true_and]
        rw [← h3 c hc]
        by_cases q : mh_low v m = c
        · rw [q, if_pos rfl, if_pos rfl, h3 c hc]
          by_cases q2 : c = m
          · rw [if_pos q2, if_pos q2, q2]
          · rw [if_neg q2, if_neg q2]
        · rw [if_neg (fun z => q z.symm), if_neg q, Int32.add_zero]
          by_cases q2 : c = m
          · rw [if_pos q2, if_pos q2, q2, h3 m hm]
          · rw [if_neg q2, if_neg q2]
    · rw [if_neg c0] at hg
      rw [if_neg c0]
      refine ⟨_, ⟨?_, h2, ?_⟩, rfl⟩
      · rw [h1]
        show (v.1, v.2.1, mh_rs v m) = (v.1, v.2.1, mh_rs v m + mh_g v m)
        rw [hg, Int32.add_zero]
      · intro c hc
        rw [bh_s, hg, Int32.sub_zero, ite_self, ite_self, Int32.add_zero]
        exact h3 c hc
  · intro n s x hx ⟨h1, h2, h3⟩
    rw [l_eX0_runDown_40_2_s]
    unfold ls_eX0_runDown_40_2
    have k144 : (144 : Int32).toInt = 144 := rfl
    rw [if_neg (by omega)]
    exact kk s h1 h3
theorem rd3_c {k : Nat} (hk : mh_kO k) {v : mh_V} {s : mh_H} (hv : mh_vc k s = (v.1, v.2.1, mh_rs v 144)) (hz : ∀ r c, ¬ (c < mh_vn r ∧ r < 5) → v.1 r c = 0) (hb : ∀ c, c < 144 → s.1 21 c = mh_bh v 144 c) : mh_vc k (l_eX0_runDown_133_3 k 145 s 0) = mh_rdn v := by
  refine mh_for (l_eX0_runDown_133_3 k) 144 (fun s m => (∀ r c, c < mh_vn r → r < 5 → s.1 (k + 1 + r) c = if r = 2 ∧ c < m then mh_mi32 (mh_bh v 144 c) 9999 else v.1 r c) ∧ s.1 k 5 = v.2.1 ∧ s.1 k 6 = mh_rs v 144 ∧ (∀ c, c < 144 → s.1 21 c = mh_bh v 144 c)) (fun s => mh_vc k s = mh_rdn v) (by decide) ?_ ?_ 145 s 0 0 rfl (by decide) ⟨?_, congrArg (fun q : mh_V => q.2.1) hv, congrArg (fun q : mh_V => q.2.2) hv, hb⟩ (by decide)
  · intro n s x m hx hm ⟨h1, h2, h3, h4⟩
    have k144 : (144 : Int32).toInt = 144 := rfl
    have hk2 := hk.2
    rw [l_eX0_runDown_133_3_s]
    unfold ls_eX0_runDown_133_3
    rw [if_pos (by omega)]
    simp only [mh_lbE, ix_n hx]
    rw [h4 m hm]
    refine ⟨_, ⟨?_, ?_, ?_, ?_⟩, rfl⟩
    · intro r c hc hr
      by_cases q : r = 2 ∧ c = m
      · obtain ⟨rfl, rfl⟩ := q
        rw [show k + 1 + 2 = k + 3 from rfl, pI_w, if_pos ⟨rfl, Nat.lt_succ_self c⟩]
      · have e : (mh_pI s (k + 3) m (mh_mi32 (mh_bh v 144 m) 9999)).1 (k + 1 + r) c = s.1 (k + 1 + r) c := if_neg (fun z => q ⟨by omega, z.2⟩)
        rw [e, h1 r c hc hr]
        by_cases q2 : r = 2 ∧ c < m
        · rw [if_pos q2, if_pos ⟨q2.1, by omega⟩]
        · rw [if_neg q2, if_neg (fun z => q2 ⟨z.1, by have := z.2; rcases Nat.lt_or_ge c m with g | g; exact g; exact absurd ⟨z.1, by omega⟩ q⟩)]
    · rw [pI_o (by omega)]; exact h2
    · rw [pI_o (by omega)]; exact h3
    · intro c hc
      rw [pI_o (by omega)]; exact h4 c hc
  · intro n s x hx ⟨h1, h2, h3, h4⟩
    rw [l_eX0_runDown_133_3_s]
    unfold ls_eX0_runDown_133_3
    have k144 : (144 : Int32).toInt = 144 := rfl
    rw [if_neg (by omega)]
    refine vc_ext (fun r c h => ?_) (fun r c hc hr => ?_) h2 h3
    · show (if r = 2 then (if c < 144 then _ else 0) else v.1 r c) = 0
      by_cases q : r = 2
      · subst q
        rw [if_pos rfl, if_neg (fun z => h ⟨vn_r z (by decide), by decide⟩)]
      · rw [if_neg q]; exact hz r c h
    · rw [h1 r c hc hr]
      show _ = if r = 2 then (if c < 144 then _ else 0) else v.1 r c
      by_cases q : r = 2
      · subst q
        have hc2 : c < 144 := hc
        rw [if_pos ⟨rfl, hc2⟩, if_pos rfl, if_pos hc2]
      · rw [if_neg (fun z => q z.1), if_neg q]
  · intro r c hc hr
    rw [if_neg (fun z => absurd z.2 (Nat.not_lt_zero c)), ← vc_at (k := k) hc hr, hv]
theorem rdn_c {k : Nat} (hk : mh_kO k) {s : mh_H} : mh_vc k (f_eX0_runDown s k) = mh_rdn (mh_vc k s) :=
  rd1_c hk (v := mh_vc k s) rfl (fun s' => mh_vc k s' = mh_rdn (mh_vc k s)) (fun s1 h1 h2 h3 => rd2_c hk h1 h2 h3 (fun s' => mh_vc k s' = mh_rdn (mh_vc k s)) (fun s2 g1 g2 => rd3_c hk g1 (fun r c h => vc_0 h) g2))
end
section
def mh_rg (v : mh_V) : Prop := ∀ c, c < 144 → mh_r (v.1 0 c) 0 99 ∧ mh_r (v.1 1 c) 0 4 ∧ mh_r (v.1 2 c) 0 9999 ∧ mh_r (v.1 3 c) 0 9999
theorem lev_b {v : mh_V} (h : mh_rg v) {c : Nat} (hc : c < 144) : 0 ≤ (mh_lev v c).toInt ∧ (mh_lev v c).toInt ≤ 11019 := by
  obtain ⟨⟨a1, a2⟩, -, ⟨b1, b2⟩, -⟩ := h c hc
  have k10 : (10 : Int32).toInt = 10 := rfl
  have k30 : (30 : Int32).toInt = 30 := rfl
  have k0 := kc_0
  unfold mh_lev
  have e1 : ((10 : Int32) * v.1 0 c).toInt = 10 * (v.1 0 c).toInt := by rw [mh_mul (lo := 0) (hi := 1000) (by rw [k10]; omega) (by decide), k10]
  have e2 : ((10 : Int32) * v.1 0 c + v.1 2 c).toInt = 10 * (v.1 0 c).toInt + (v.1 2 c).toInt := by rw [mh_add (lo := 0) (hi := 20000) (by omega) (by decide), e1]
  split
  · rw [mh_add (lo := 0) (hi := 20000) (by omega) (by decide), e2, k30]; omega
  · rw [mh_add (lo := 0) (hi := 20000) (by omega) (by decide), e2, k0]; omega
theorem lev_d {v : mh_V} (h : mh_rg v) {c b : Nat} (hc : c < 144) (hb : b < 144) : (mh_lev v c - mh_lev v b).toInt = (mh_lev v c).toInt - (mh_lev v b).toInt := by
  have h1 := lev_b h hc
  have h2 := lev_b h hb
  exact mh_sub (lo := -20000) (hi := 20000) (by omega) (by decide)
theorem mi_alt (x y : Int32) : (if x.toInt < y.toInt then x else y) = mh_mi32 x y := by
  unfold mh_mi32
  by_cases h : x.toInt < y.toInt
  · rw [if_pos h, if_neg (by omega)]
  · rw [if_neg h]
    by_cases q : y.toInt < x.toInt
    · rw [if_pos q]
    · rw [if_neg q]; exact Int32.toInt_inj.mp (by omega)
theorem vr_pI {s : mh_H} {a j : Nat} {x : Int32} (h : 63 < a ∨ (a = 57 ∧ j ≠ 2)) : mh_vr (mh_pI s a j x) = mh_vr s := by
  refine vr_ext (fun r c h => vr_0 h) (fun r c hc hr => ?_) ?_ rfl
  · rw [vr_at hc hr, pI_o (by omega)]
  · show (mh_pI s a j x).1 57 2 = s.1 57 2
    exact if_neg (fun z => by omega)
/-- what the first of the reference's loops lays down -/
def mh_go81 (v : mh_V) (s : mh_H) (m : Nat) : Prop := ∀ c, c < m → s.1 81 c = mh_g v c ∧ ∃ b : Nat, (s.1 82 c).toInt = (b : Int) ∧ b < 144 ∧ (mh_g v c = 0 ∨ b = mh_low v c)
theorem rd1_r {v : mh_V} (hg : mh_rg v) {s : mh_H} (hv : mh_vr s = v) (Post : mh_H → Prop) (kk : ∀ s', mh_vr s' = v → mh_go81 v s' 144 → Post (l_eX10_runsDown_84_2 145 s' 0)) : Post (f_eX10_runsDown s) := by
  unfold f_eX10_runsDown
  refine mh_for l_eX10_runsDown_2_1 144 (fun s m => mh_vr s = v ∧ mh_go81 v s m) Post (by decide) ?_ ?_ 145 s 0 0 rfl (by decide) ⟨hv, fun c h => absurd h (Nat.not_lt_zero c)⟩ (by decide)
  · intro n s x m hx hm ⟨h1, h2⟩
    have k144 : (144 : Int32).toInt = 144 := rfl
    obtain ⟨b, hb⟩ := bst_some (v := v) hm
    have hbR := bst_r (s := s) hx hm
    rw [h1, hb] at hbR
    obtain ⟨hb1, hb2⟩ := hbR
    have hlb := low_bst v m
    rw [hb] at hlb
    have hd := lev_d hg hm hb2
    have hcold : s.1 61 m = v.1 2 m := by
      have := vr_at (r := 2) (c := m) (s := s) (vn_r hm (by decide)) (by decide)
      rw [h1] at this
      exact this.symm
    have key : ∀ y : Int32, y = mh_g v m → (mh_g v m = 0 ∨ b = mh_low v m) → ∃ s', (mh_vr s' = v ∧ mh_go81 v s' (m + 1)) ∧ l_eX10_runsDown_2_1 n (mh_pI (mh_pI s 82 m (f_eX10_lowestBeside s x)) 81 m y) (x + 1) = l_eX10_runsDown_2_1 n s' (x + 1) := by
      intro y hy hq
      refine ⟨_, ⟨?_, ?_⟩, rfl⟩
      · rw [vr_pI (Or.inl (by decide)), vr_pI (Or.inl (by decide))]; exact h1
      · intro c hc
        by_cases q : c = m
        · subst q
          rw [pI_w, pI_o (by decide), pI_w]
          exact ⟨hy, b, hb1, hb2, hq⟩
        · rw [pI_j q, pI_o (by decide), pI_o (by decide), pI_j q]
          exact h2 c (by omega)
    rw [l_eX10_runsDown_2_1_s]
    unfold ls_eX10_runsDown_2_1 j_eX10_runsDown_75_6
    rw [if_pos (by omega)]
    simp only [mh_lbE, ix_n hx]
    rw [lev_r hx hm, lev_r hb1 hb2, h1, hcold]
    rcases hlb with ⟨g1, g2⟩ | ⟨g1, g2⟩
    · rw [if_pos (by omega)]
      have hgm : mh_g v m = mh_mi32 ((v.1 2 m + 3) / 4) ((mh_lev v m - mh_lev v b) / 2) := by
        unfold mh_g
        rw [g2, if_pos (by omega)]
      have := mi_alt ((v.1 2 m + 3) / 4) ((mh_lev v m - mh_lev v b) / 2)
      by_cases q : ((v.1 2 m + 3) / 4).toInt < ((mh_lev v m - mh_lev v b) / 2).toInt
      · rw [if_pos q] at this ⊢
        exact key _ (this.trans hgm.symm) (Or.inr g2.symm)
      · rw [if_neg q] at this ⊢
        exact key _ (this.trans hgm.symm) (Or.inr g2.symm)
    · rw [if_neg (by omega)]
      have hgm : mh_g v m = 0 := by
        unfold mh_g
        rw [g2, if_neg (by have := lev_d hg hm hm; omega)]
      exact key 0 hgm.symm (Or.inl hgm)
  · intro n s x hx ⟨h1, h2⟩
    rw [l_eX10_runsDown_2_1_s]
    unfold ls_eX10_runsDown_2_1
    have k144 : (144 : Int32).toInt = 144 := rfl
    rw [if_neg (by omega)]
    exact kk s h1 h2
/-- the reference's valley with its cold apart -/
def mh_rB (v : mh_V) (s : mh_H) (cl : Nat → Int32) (rn : Int32) : Prop := (∀ r c, c < mh_vn r → r < 5 → r ≠ 2 → s.1 (59 + r) c = v.1 r c) ∧ s.1 57 2 = v.2.1 ∧ Int64.toInt32 (s.2.1 57 4) = rn ∧ (∀ c, c < 144 → s.1 61 c = cl c)
theorem rB_pI {v : mh_V} {s : mh_H} {cl cl' : Nat → Int32} {rn : Int32} (h : mh_rB v s cl rn) {j : Nat} {x : Int32} (hc : ∀ c, c < 144 → (if c = j then x else cl c) = cl' c) : mh_rB v (mh_pI s 61 j x) cl' rn := by
  refine ⟨fun r c h1 h2 h3 => ?_, ?_, h.2.2.1, fun c h1 => ?_⟩
  · rw [pI_o (by omega)]; exact h.1 r c h1 h2 h3
  · rw [pI_o (by decide)]; exact h.2.1
  · rw [pI_v, ← hc c h1]
    by_cases q : c = j
    · rw [if_pos ⟨rfl, q⟩, if_pos q]
    · rw [if_neg (fun z => q z.2), if_neg q]; exact h.2.2.2 c h1
theorem go_pI {v : mh_V} {s : mh_H} {j : Nat} {x : Int32} (h : mh_go81 v s 144) : mh_go81 v (mh_pI s 61 j x) 144 := fun c hc => by
  rw [pI_o (by decide), pI_o (by decide)]; exact h c hc
theorem rd2_r {v : mh_V} {s : mh_H} (hv : mh_vr s = v) (h81 : mh_go81 v s 144) (Post : mh_H → Prop) (kk : ∀ s', mh_rB v s' (fun c => v.1 2 c - mh_g v c) (mh_rs v 144) → mh_go81 v s' 144 → Post (l_eX10_runsDown_130_3 145 s' 0)) : Post (l_eX10_runsDown_84_2 145 s 0) := by
  refine mh_for l_eX10_runsDown_84_2 144 (fun s m => mh_rB v s (fun c => if c < m then v.1 2 c - mh_g v c else v.1 2 c) (mh_rs v m) ∧ mh_go81 v s 144) Post (by decide) ?_ ?_ 145 s 0 0 rfl (by decide) ⟨⟨?_, ?_, ?_, ?_⟩, h81⟩ (by decide)
  · intro n s x m hx hm ⟨h1, h2⟩
    have k144 : (144 : Int32).toInt = 144 := rfl
    rw [l_eX10_runsDown_84_2_s]
    unfold ls_eX10_runsDown_84_2
    rw [if_pos (by omega)]
    simp only [mh_lbE, ix_n hx]
    have hg := (h2 m hm).1
    have hm1 := h1.2.2.2 m hm
    dsimp only at hm1
    rw [if_neg (Nat.lt_irrefl m)] at hm1
    refine ⟨_, ⟨?_, ?_⟩, rfl⟩
    · have a1 := rB_pI (cl' := fun c => if c < m + 1 then v.1 2 c - mh_g v c else v.1 2 c) h1 (j := m) (x := s.1 61 m - s.1 81 m) (fun c hc => by
        by_cases q : c = m
        · rw [if_pos q, if_pos (by omega), q, hg, hm1]
        · rw [if_neg q]
          by_cases q2 : c < m
          · rw [if_pos q2, if_pos (by omega)]
          · rw [if_neg q2, if_neg (by omega)])
      refine ⟨a1.1, a1.2.1, ?_, a1.2.2.2⟩
      rw [pL_w, Int64.toInt32_add, Int32.toInt32_toInt64, hg]
      show Int64.toInt32 (s.2.1 57 4) + mh_g v m = mh_rs v m + mh_g v m
      rw [h1.2.2.1]
    · exact go_pI (s := s) (j := m) (x := s.1 61 m - s.1 81 m) h2
  · intro n s x hx ⟨h1, h2⟩
    rw [l_eX10_runsDown_84_2_s]
    unfold ls_eX10_runsDown_84_2
    have k144 : (144 : Int32).toInt = 144 := rfl
    rw [if_neg (by omega)]
    exact kk s ⟨h1.1, h1.2.1, h1.2.2.1, fun c hc => by rw [h1.2.2.2 c hc]; dsimp only; rw [if_pos hc]⟩ h2
  · intro r c hc hr _; rw [← vr_at hc hr, hv]
  · rw [← hv]; rfl
  · rw [← hv]; rfl
  · intro c hc
    dsimp only
    rw [if_neg (Nat.not_lt_zero c), ← hv]
    exact (vr_at (r := 2) (vn_r hc (by decide)) (by decide)).symm
theorem rd3_r {v : mh_V} {s : mh_H} (h1 : mh_rB v s (fun c => v.1 2 c - mh_g v c) (mh_rs v 144)) (h81 : mh_go81 v s 144) (Post : mh_H → Prop) (kk : ∀ s', mh_rB v s' (mh_bh v 144) (mh_rs v 144) → Post (l_eX10_runsDown_165_4 145 s' 0)) : Post (l_eX10_runsDown_130_3 145 s 0) := by
  refine mh_for l_eX10_runsDown_130_3 144 (fun s m => mh_rB v s (fun c => v.1 2 c - mh_g v c + mh_sm v c m) (mh_rs v 144) ∧ mh_go81 v s 144) Post (by decide) ?_ ?_ 145 s 0 0 rfl (by decide) ⟨⟨h1.1, h1.2.1, h1.2.2.1, fun c hc => by rw [h1.2.2.2 c hc]; exact (Int32.add_zero _).symm⟩, h81⟩ (by decide)
  · intro n s x m hx hm ⟨h1, h2⟩
    have k144 : (144 : Int32).toInt = 144 := rfl
    rw [l_eX10_runsDown_130_3_s]
    unfold ls_eX10_runsDown_130_3
    rw [if_pos (by omega)]
    simp only [mh_lbE, ix_n hx]
    obtain ⟨hg, b, hb1, hb2, hb3⟩ := h2 m hm
    refine ⟨_, ⟨?_, ?_⟩, rfl⟩
    · refine rB_pI h1 (fun c hc => ?_)
      show _ = v.1 2 c - mh_g v c + (mh_sm v c m + (if mh_low v m = c then mh_g v m else 0))
      rw [ix_n hb1, ← Int32.add_assoc, hg]
      by_cases q : c = b
      · rw [if_pos q, q, h1.2.2.2 b hb2]
        rcases hb3 with z | z
        · rw [z, ite_self]
        · rw [if_pos z.symm]
      · rw [if_neg q]
        rcases hb3 with z | z
        · rw [z, ite_self, Int32.add_zero]
        · rw [if_neg (fun y => q (by omega)), Int32.add_zero]
    · exact go_pI h2
  · intro n s x hx ⟨h1, h2⟩
    rw [l_eX10_runsDown_130_3_s]
    unfold ls_eX10_runsDown_130_3
    have k144 : (144 : Int32).toInt = 144 := rfl
    rw [if_neg (by omega)]
    exact kk s ⟨h1.1, h1.2.1, h1.2.2.1, fun c hc => by rw [h1.2.2.2 c hc]; unfold mh_bh; rw [if_pos hc]⟩
theorem rd4_r {v : mh_V} (hz : ∀ r c, ¬ (c < mh_vn r ∧ r < 5) → v.1 r c = 0) {s : mh_H} (h1 : mh_rB v s (mh_bh v 144) (mh_rs v 144)) : mh_vr (l_eX10_runsDown_165_4 145 s 0) = mh_rdn v := by
  refine mh_for l_eX10_runsDown_165_4 144 (fun s m => mh_rB v s (fun c => if c < m then mh_mi32 (mh_bh v 144 c) 9999 else mh_bh v 144 c) (mh_rs v 144)) (fun s => mh_vr s = mh_rdn v) (by decide) ?_ ?_ 145 s 0 0 rfl (by decide) ⟨h1.1, h1.2.1, h1.2.2.1, fun c hc => by dsimp only; rw [if_neg (Nat.not_lt_zero c)]; exact h1.2.2.2 c hc⟩ (by decide)
  · intro n s x m hx hm h1
    have k144 : (144 : Int32).toInt = 144 := rfl
    rw [l_eX10_runsDown_165_4_s]
    unfold ls_eX10_runsDown_165_4 j_eX10_runsDown_201_5
    rw [if_pos (by omega)]
    simp only [mh_lbE, ix_n hx]
    have hm1 := h1.2.2.2 m hm
    dsimp only at hm1
    rw [if_neg (Nat.lt_irrefl m)] at hm1
    have e : ∀ y : Int32, y = mh_mi32 (mh_bh v 144 m) 9999 → ∃ s', mh_rB v s' (fun c => if c < m + 1 then mh_mi32 (mh_bh v 144 c) 9999 else mh_bh v 144 c) (mh_rs v 144) ∧ l_eX10_runsDown_165_4 n (mh_pI s 61 m y) (x + 1) = l_eX10_runsDown_165_4 n s' (x + 1) := by
      intro y hy
      refine ⟨_, rB_pI h1 (fun c hc => ?_), rfl⟩
      by_cases q : c = m
      · rw [if_pos q, if_pos (by omega), hy, q]
      · rw [if_neg q]
        by_cases q2 : c < m
        · rw [if_pos q2, if_pos (by omega)]
        · rw [if_neg q2, if_neg (by omega)]
    rw [hm1]
    have hmi : mh_mi32 (mh_bh v 144 m) 9999 = if (9999 : Int32).toInt < (mh_bh v 144 m).toInt then 9999 else mh_bh v 144 m := rfl
    by_cases q : (9999 : Int32).toInt < (mh_bh v 144 m).toInt
    · rw [if_pos q] at hmi ⊢
      exact e 9999 hmi.symm
    · rw [if_neg q] at hmi ⊢
      exact e _ hmi.symm
  · intro n s x hx h1
    rw [l_eX10_runsDown_165_4_s]
    unfold ls_eX10_runsDown_165_4
    have k144 : (144 : Int32).toInt = 144 := rfl
    rw [if_neg (by omega)]
    refine vr_ext (fun r c h => ?_) (fun r c hc hr => ?_) h1.2.1 h1.2.2.1
    · show (if r = 2 then (if c < 144 then _ else 0) else v.1 r c) = 0
      by_cases q : r = 2
      · subst q
        rw [if_pos rfl, if_neg (fun z => h ⟨vn_r z (by decide), by decide⟩)]
      · rw [if_neg q]; exact hz r c h
    · show _ = if r = 2 then (if c < 144 then _ else 0) else v.1 r c
      by_cases q : r = 2
      · subst q
        have hc2 : c < 144 := hc
        rw [if_pos rfl, if_pos hc2]
        have := h1.2.2.2 c hc2
        dsimp only at this
        rw [if_pos hc2] at this
        exact this
      · rw [if_neg q]; exact h1.1 r c hc hr q
theorem rdn_r {s : mh_H} (hg : mh_rg (mh_vr s)) : mh_vr (f_eX10_runsDown s) = mh_rdn (mh_vr s) :=
  rd1_r hg (v := mh_vr s) rfl (fun s' => mh_vr s' = mh_rdn (mh_vr s)) (fun s1 h1 h2 => rd2_r h1 h2 (fun s' => mh_vr s' = mh_rdn (mh_vr s)) (fun s2 g1 g2 => rd3_r g1 g2 (fun s' => mh_vr s' = mh_rdn (mh_vr s)) (fun s3 f1 => rd4_r (fun r c h => vr_0 h) f1)))
theorem g_b {v : mh_V} (hg : mh_rg v) {c : Nat} (hc : c < 144) : 0 ≤ (mh_g v c).toInt ∧ (mh_g v c).toInt ≤ (v.1 2 c).toInt ∧ (mh_g v c).toInt ≤ 2500 := by
  obtain ⟨-, -, ⟨b1, b2⟩, -⟩ := hg c hc
  have k0 := kc_0
  have k3 : (3 : Int32).toInt = 3 := rfl
  have k4 : (4 : Int32).toInt = 4 := rfl
  have k2 : (2 : Int32).toInt = 2 := rfl
  unfold mh_g
  by_cases h : 0 < (mh_lev v c - mh_lev v (mh_low v c)).toInt
  · rw [if_pos h, mh_mi32_i]
    have e1 : (v.1 2 c + 3).toInt = (v.1 2 c).toInt + 3 := by rw [mh_add (lo := 0) (hi := 20000) (by omega) (by decide), k3]
    have e2 : ((v.1 2 c + 3) / 4).toInt = ((v.1 2 c).toInt + 3) / 4 := by rw [mh_div (by rw [k4]; decide), e1, k4, Int.tdiv_eq_ediv_of_nonneg (by omega)]
    have e3 : ((mh_lev v c - mh_lev v (mh_low v c)) / 2).toInt = (mh_lev v c - mh_lev v (mh_low v c)).toInt / 2 := by rw [mh_div (by rw [k2]; decide), k2, Int.tdiv_eq_ediv_of_nonneg (by omega)]
    rw [e2, e3]
    omega
  · rw [if_neg h]; omega
theorem sm_b {v : mh_V} (hg : mh_rg v) (j : Nat) : ∀ m, m ≤ 144 → 0 ≤ (mh_sm v j m).toInt ∧ (mh_sm v j m).toInt ≤ 2500 * (m : Int)
  | 0, _ => by show 0 ≤ (0 : Int32).toInt ∧ (0 : Int32).toInt ≤ _; have := kc_0; omega
  | m + 1, h => by
    have ih := sm_b hg j m (by omega)
    have hb := g_b hg (c := m) (by omega)
    have k0 := kc_0
    have e : 0 ≤ (if mh_low v m = j then mh_g v m else 0).toInt ∧ (if mh_low v m = j then mh_g v m else 0).toInt ≤ 2500 := by split <;> omega
    show 0 ≤ (mh_sm v j m + _).toInt ∧ (mh_sm v j m + _).toInt ≤ _
    rw [mh_add (lo := 0) (hi := 400000) (by omega) (by decide)]
    omega
theorem rdn_g {v : mh_V} (hg : mh_rg v) : mh_rg (mh_rdn v) := by
  intro c hc
  obtain ⟨a1, a2, a3, a4⟩ := hg c hc
  refine ⟨a1, a2, ?_, a4⟩
  show mh_r (if c < 144 then mh_mi32 (mh_bh v 144 c) 9999 else 0) 0 9999
  have k9 : (9999 : Int32).toInt = 9999 := rfl
  have h1 := g_b hg hc
  have h2 := sm_b hg c 144 (Nat.le_refl _)
  have h3 := a3.1; have h4 := a3.2
  have e1 : (v.1 2 c - mh_g v c).toInt = (v.1 2 c).toInt - (mh_g v c).toInt := mh_sub (lo := 0) (hi := 20000) (by omega) (by decide)
  rw [if_pos hc, mh_r, mh_mi32_i, k9]
  unfold mh_bh
  rw [if_pos hc, mh_add (lo := 0) (hi := 500000) (by omega) (by decide), e1]
  omega
end
section
def mh_bnd (z : Int32) : Int32 := if z.toInt < 0 then 0 else if (9999 : Int32).toInt < z.toInt then 9999 else z
theorem bnd_c (s : mh_H) (z : Int32) : f_eX9_bounded s z 9999 = mh_bnd z := by
  have k9 : (9999 : Int32).toInt = 9999 := rfl
  have k0 := kc_0
  unfold f_eX9_bounded mh_bnd
  simp only [mh_lbE]
  apply Int32.toInt_inj.mp
  rw [mh_ma32_i, mh_mi32_i, k0, k9]
  split
  · omega
  · split <;> omega
theorem bnd_r (s : mh_H) (z : Int32) : f_eX10_bounded s z = mh_bnd z := rfl
theorem bnd_b (z : Int32) : mh_r (mh_bnd z) 0 9999 := by
  have k9 : (9999 : Int32).toInt = 9999 := rfl
  have k0 := kc_0
  unfold mh_bnd mh_r
  split
  · omega
  · split <;> omega
theorem bnd_id {z : Int32} (h : mh_r z 0 9999) : mh_bnd z = z := by
  have k9 : (9999 : Int32).toInt = 9999 := rfl
  have h1 := h.1; have h2 := h.2
  unfold mh_bnd
  rw [if_neg (by omega), if_neg (by omega)]
/-- what a law says by a letter, over what stands for its letters -/
abbrev mh_Lw : Type := Int32 → (Nat → Int32) → Int32
def mh_cad (L : mh_Lw) (v : mh_V) : mh_V := (fun r c => if r = 2 then (if c < 144 then mh_bnd (v.1 2 c + L 99 (mh_env v c 0)) else 0) else if r = 3 then (if c < 144 then mh_bnd (v.1 3 c + (L 119 (mh_env v c 0) - L 115 (mh_env v c 0))) else 0) else v.1 r c, v.2)
def mh_inc (w : mh_V) : mh_V := (w.1, w.2.1 + 1, w.2.2)
def mh_stp (L : mh_Lw) (v : mh_V) : mh_V := mh_inc (mh_rdn (mh_cad L v))
theorem cad_2 {L : mh_Lw} {v : mh_V} {c : Nat} (hc : c < 144) : (mh_cad L v).1 2 c = mh_bnd (v.1 2 c + L 99 (mh_env v c 0)) := if_pos hc
theorem cad_3 {L : mh_Lw} {v : mh_V} {c : Nat} (hc : c < 144) : (mh_cad L v).1 3 c = mh_bnd (v.1 3 c + (L 119 (mh_env v c 0) - L 115 (mh_env v c 0))) := if_pos hc
theorem cad_o {L : mh_Lw} {v : mh_V} {r c : Nat} (h2 : r ≠ 2) (h3 : r ≠ 3) : (mh_cad L v).1 r c = v.1 r c := (if_neg h2).trans (if_neg h3)
def mh_e13 (f : Nat → Int32) (i : Nat) : Int32 := if i < 13 then f i else 0
theorem env_13 (v : mh_V) (c : Nat) (d : Int32) : mh_e13 (mh_env v c d) = mh_env v c d := by
  funext i
  unfold mh_e13
  split
  · rfl
  · unfold mh_env
    repeat rw [if_neg (by omega)]
theorem env_cg {v v' : mh_V} {m : Nat} {d : Int32} (h1 : ∀ c, v'.1 1 c = v.1 1 c) (h0 : v'.1 0 m = v.1 0 m) (h2 : v'.1 2 m = v.1 2 m) (h3 : v'.1 3 m = v.1 3 m) (h4 : ∀ c, v'.1 4 c = v.1 4 c) (hs : v'.2.1 = v.2.1) : mh_env v' m d = mh_env v m d := by
  have e1 : mh_wnd v' = mh_wnd v := by unfold mh_wnd; rw [hs, h4]
  have e2 : mh_tre v' m = mh_tre v m := by unfold mh_tre; simp only [h1]
  funext i
  unfold mh_env
  rw [h0, h1, h2, h3, hs, e1, e2]
theorem cad_g {L : mh_Lw} {v : mh_V} (hg : mh_rg v) : mh_rg (mh_cad L v) := by
  intro c hc
  obtain ⟨a1, a2, a3, a4⟩ := hg c hc
  refine ⟨a1, a2, ?_, ?_⟩
  · show mh_r (if c < 144 then mh_bnd _ else 0) 0 9999
    rw [if_pos hc]; exact bnd_b _
  · show mh_r (if c < 144 then mh_bnd _ else 0) 0 9999
    rw [if_pos hc]; exact bnd_b _
theorem stp_g {L : mh_Lw} {v : mh_V} (hg : mh_rg v) : mh_rg (mh_stp L v) := by
  have h := rdn_g (cad_g (L := L) hg)
  intro c hc
  have h1 := h c hc
  unfold mh_stp
  generalize mh_rdn (mh_cad L v) = w at h1 ⊢
  exact h1
theorem cad_z {L : mh_Lw} {v : mh_V} (hz : ∀ r c, ¬ (c < mh_vn r ∧ r < 5) → v.1 r c = 0) : ∀ r c, ¬ (c < mh_vn r ∧ r < 5) → (mh_cad L v).1 r c = 0 := by
  intro r c h
  show (if r = 2 then (if c < 144 then _ else 0) else if r = 3 then (if c < 144 then _ else 0) else v.1 r c) = 0
  by_cases q : r = 2
  · subst q; rw [if_pos rfl, if_neg (fun z => h ⟨vn_r z (by decide), by decide⟩)]
  · rw [if_neg q]
    by_cases q3 : r = 3
    · subst q3; rw [if_pos rfl, if_neg (fun z => h ⟨vn_r z (by decide), by decide⟩)]
    · rw [if_neg q3]; exact hz r c h
/-- the class's law kl in the heap s is L -/
def mh_LC (kl : Nat) (s : mh_H) (L : mh_Lw) : Prop :=
  (∀ s' : mh_H, (∀ i, 1 ≤ i → i ≤ 5 → s'.1 (kl + i) = s.1 (kl + i)) → s'.1 kl 7 = s.1 kl 7 → ∀ letter : Int32, (f_eX1_worth s' kl letter).1 = L letter (mh_e13 (s'.1 (kl + 6)))) ∧
  ((s.1 kl 9).toInt = 0 → ∀ e, L 99 e = 0 ∧ L 119 e = 0 ∧ L 115 e = 0) ∧ ((s.1 kl 10).toInt = 0 → ∀ (letter : Int32) e x, L letter (mh_u1 e 8 x) = L letter e)
theorem LC_mono {kl : Nat} {s s1 : mh_H} {L : mh_Lw} (h : mh_LC kl s L) (hr : ∀ i, 1 ≤ i → i ≤ 5 → s1.1 (kl + i) = s.1 (kl + i)) (h7 : s1.1 kl 7 = s.1 kl 7) (h9 : s1.1 kl 9 = s.1 kl 9) (h10 : s1.1 kl 10 = s.1 kl 10) : mh_LC kl s1 L :=
  ⟨fun s' g1 g2 letter => h.1 s' (fun i a b => (g1 i a b).trans (hr i a b)) (g2.trans h7) letter, fun q => h.2.1 (by rw [← h9]; exact q), fun q => h.2.2 (by rw [← h10]; exact q)⟩
/-- the reference's law in the heap s is L -/
def mh_chr (i : Nat) : Int32 := ([104, 107, 116, 118, 99, 119, 120, 121, 110, 100, 105, 106, 108] : List Int32).getD i 0
def mh_eR (s : mh_H) (i : Nat) : Int32 := if i < 13 then f_eX10_valueOf s (mh_chr i) else 0
def mh_mst (letter : Int32) : Int32 := if letter.toInt = 121 then 999 else if letter.toInt = 102 then 1 else 99
def mh_LR (s : mh_H) (L : mh_Lw) : Prop := ∀ s' : mh_H, (∀ i, 64 ≤ i → i ≤ 69 → s'.1 i = s.1 i) → s'.1 57 10 = s.1 57 10 → ∀ letter : Int32, (f_eX10_tellsBy s' letter (mh_mst letter)).1 = L letter (mh_eR s')
theorem LR_mono {s s1 : mh_H} {L : mh_Lw} (h : mh_LR s L) (hr : ∀ i, 64 ≤ i → i ≤ 69 → s1.1 i = s.1 i) (h10 : s1.1 57 10 = s.1 57 10) : mh_LR s1 L :=
  fun s' g1 g2 letter => h s' (fun i a b => (g1 i a b).trans (hr i a b)) (g2.trans h10) letter
theorem vc_pI {k : Nat} {s : mh_H} {a j : Nat} {x : Int32} (h : k + 5 < a) : mh_vc k (mh_pI s a j x) = mh_vc k s := by
  refine vc_ext (fun r c h => vc_0 h) (fun r c hc hr => ?_) ?_ ?_
  · rw [vc_at hc hr, pI_o (by omega)]
  · rw [pI_o (by omega)]; rfl
  · rw [pI_o (by omega)]; rfl
theorem F_row1 {S : List (Nat × Nat)} {s s' : mh_H} (h : mh_F S s s') {k : Nat} (hk : ∀ e ∈ S, e.1 ≠ k) : s'.1 k = s.1 k := by
  funext j
  refine (h k j ?_).1
  rintro ⟨e, h1, h2, -⟩
  exact hk e h1 h2
theorem F_at1 {S : List (Nat × Nat)} {s s' : mh_H} (h : mh_F S s s') {k j : Nat} (hk : ∀ e ∈ S, ¬ (e.1 = k ∧ (e.2 = 9999 ∨ e.2 = j))) : s'.1 k j = s.1 k j := by
  refine (h k j ?_).1
  rintro ⟨e, h1, h2, h3⟩
  exact hk e h1 ⟨h2, h3⟩
theorem see_v {k kl : Nat} (hk : mh_kO k) (hl : 40 ≤ kl) {s : mh_H} {p : Int32} {c : Nat} (hp : p.toInt = (c : Int)) (hc : c < 144) (i : Nat) (hi : i < 13) : (f_eX1_see s k kl p).1 (kl + 6) i = if i = 8 ∧ (s.1 kl 10).toInt = 0 then 0 else mh_env (mh_vc k s) c 0 i := by
  have hk2 := hk.2
  have e0 : s.1 (k + 1) c = (mh_vc k s).1 0 c := (vc_at (r := 0) (vn_r hc (by decide)) (by decide)).symm
  have e1 : s.1 (k + 2) c = (mh_vc k s).1 1 c := (vc_at (r := 1) (vn_r hc (by decide)) (by decide)).symm
  have e2 : s.1 (k + 3) c = (mh_vc k s).1 2 c := (vc_at (r := 2) (vn_r hc (by decide)) (by decide)).symm
  have e3 : s.1 (k + 4) c = (mh_vc k s).1 3 c := (vc_at (r := 3) (vn_r hc (by decide)) (by decide)).symm
  have ew : ∀ s' : mh_H, mh_vc k s' = mh_vc k s → f_eX8_windOf s' k (s.1 k 5) = mh_wnd (mh_vc k s) := fun s' h => by
    rw [← h, ← wnd_c]
    congr 1
    exact (congrArg (fun q : mh_V => q.2.1) h).symm
  have et : ∀ s' : mh_H, mh_vc k s' = mh_vc k s → f_eX8_treesBeside s' k p = mh_tre (mh_vc k s) c := fun s' h => by rw [tre_c hp hc, h]
  have em : p % 12 = Int32.ofNat (c % 12) := i32_of (ix_mod hp) (by omega)
  have ed : p / 12 = Int32.ofNat (c / 12) := i32_of (ix_div hp) (by omega)
  have a1 : ∀ {s' : mh_H} {b j : Nat} {x : Int32}, k + 5 < b → mh_vc k (mh_pI s' b j x) = mh_vc k s' := fun h => vc_pI h
  unfold f_eX1_see
  simp only [mh_lbE, ix_n hp]
  simp only [pI_o (show k + 1 ≠ kl + 6 by omega), pI_o (show k + 2 ≠ kl + 6 by omega), pI_o (show k + 3 ≠ kl + 6 by omega), pI_o (show k + 4 ≠ kl + 6 by omega), pI_o (show k ≠ kl + 6 by omega), pI_o (show kl ≠ kl + 6 by omega)]
  rw [ew _ (by repeat rw [a1 (by omega)]), et _ (by repeat rw [a1 (by omega)])]
  rw [e0, e1, e2, e3, em, ed]
  have t : ∀ (n : Int32) (m : Nat), n.toInt = (m : Int) → n.toNatClampNeg = m := fun n m h => ix_n h
  rw [t 0 0 rfl, t 1 1 rfl, t 2 2 rfl, t 3 3 rfl, t 4 4 rfl, t 5 5 rfl, t 6 6 rfl, t 7 7 rfl]
  have fin : ∀ (q : mh_H) (y : Int32), (∀ i, i < 8 → q.1 (kl + 6) i = mh_env (mh_vc k s) c 0 i) → (j_eX1_see_116_1 q kl y).1 (kl + 6) i = if i = 8 then y else mh_env (mh_vc k s) c 0 i := by
    intro q y hq
    unfold j_eX1_see_116_1
    simp only [mh_lbE]
    rw [t 8 8 rfl, t 9 9 rfl, t 10 10 rfl, t 11 11 rfl, t 12 12 rfl]
    simp only [pI_v, true_and]
    rcases (show i < 8 ∨ i = 8 ∨ i = 9 ∨ i = 10 ∨ i = 11 ∨ i = 12 by omega) with h | rfl | rfl | rfl | rfl | rfl
    · rw [if_neg (by omega), if_neg (by omega), if_neg (by omega), if_neg (by omega), if_neg (by omega), if_neg (by omega)]
      exact hq i h
    · simp
    · simp [mh_env]
    · simp [mh_env]
    · simp [mh_env]
    · simp [mh_env]
  have h8 : ∀ j, j < 8 → (mh_pI (mh_pI (mh_pI (mh_pI (mh_pI (mh_pI (mh_pI (mh_pI s (kl + 6) 0 ((mh_vc k s).1 0 c)) (kl + 6) 1 ((mh_vc k s).1 1 c)) (kl + 6) 2 (s.1 k 5)) (kl + 6) 3 (mh_wnd (mh_vc k s))) (kl + 6) 4 ((mh_vc k s).1 2 c)) (kl + 6) 5 ((mh_vc k s).1 3 c)) (kl + 6) 6 (Int32.ofNat (c % 12))) (kl + 6) 7 (Int32.ofNat (c / 12))).1 (kl + 6) j = mh_env (mh_vc k s) c 0 j := by
    intro j hj
    simp only [pI_v, true_and]
    rcases (show j = 0 ∨ j = 1 ∨ j = 2 ∨ j = 3 ∨ j = 4 ∨ j = 5 ∨ j = 6 ∨ j = 7 by omega) with rfl | rfl | rfl | rfl | rfl | rfl | rfl | rfl <;> simp [mh_env] <;> rfl
  by_cases q : (s.1 kl 10).toInt = 0
  · rw [if_pos q, fin _ 0 h8]
    simp only [q, and_true]
  · rw [if_neg q, fin _ _ h8, if_neg (show ¬ (i = 8 ∧ (s.1 kl 10).toInt = 0) from fun z => q z.2)]
    by_cases q8 : i = 8
    · subst q8; simp [mh_env]
    · rw [if_neg q8]
/-- what a law says at a cell, by the class -/
theorem see_L {k kl : Nat} (hk : mh_kO k) (hl : 40 ≤ kl) {s s' : mh_H} {L : mh_Lw} (hL : mh_LC kl s L) {p : Int32} {c : Nat} (hp : p.toInt = (c : Int)) (hc : c < 144) (hr : ∀ i, 1 ≤ i → i ≤ 5 → s'.1 (kl + i) = s.1 (kl + i)) (h7 : s'.1 kl 7 = s.1 kl 7) (h6 : s'.1 (kl + 6) = (f_eX1_see s k kl p).1 (kl + 6)) (letter : Int32) : (f_eX1_worth s' kl letter).1 = L letter (mh_env (mh_vc k s) c 0) := by
  rw [hL.1 s' hr h7 letter, h6]
  by_cases q : (s.1 kl 10).toInt = 0
  · have e : mh_e13 ((f_eX1_see s k kl p).1 (kl + 6)) = mh_u1 (mh_env (mh_vc k s) c 0) 8 0 := by
      funext i
      unfold mh_e13 mh_u1
      by_cases h : i < 13
      · rw [if_pos h, see_v hk hl hp hc i h]
        simp only [q, and_true]
      · rw [if_neg h, if_neg (by omega), ← env_13]
        unfold mh_e13
        rw [if_neg h]
    rw [e, hL.2.2 q]
  · have e : mh_e13 ((f_eX1_see s k kl p).1 (kl + 6)) = mh_env (mh_vc k s) c 0 := by
      rw [← env_13]
      funext i
      unfold mh_e13
      by_cases h : i < 13
      · rw [if_pos h, if_pos h, see_v hk hl hp hc i h, if_neg (fun z => q z.2)]
      · rw [if_neg h, if_neg h]
    rw [e]
end
section
theorem kO_V {k : Nat} (h : mh_isV k) : mh_kO k := by rcases h with rfl | rfl | rfl <;> exact ⟨by decide, by decide⟩
theorem L40 {k : Nat} (h : mh_isL k) : 40 ≤ k := by rcases h with rfl | rfl <;> decide
theorem see_row {k kl : Nat} (hk : mh_isV k) (hl : mh_isL kl) {s : mh_H} (hp : mh_p3 s) (p : Int32) {b : Nat} (hb : b ≠ kl + 6) : (f_eX1_see s k kl p).1 b = s.1 b :=
  F_row1 (fr_eX1_see s k hk kl hl p hp).1 (by intro e he; simp only [S_eX1_see, List.mem_singleton] at he; subst he; exact fun q => hb q.symm)
theorem wor_row {kl : Nat} (hl : mh_isL kl) {s : mh_H} (hp : mh_p3 s) (p : Int32) {b : Nat} (hb : b ≠ kl + 7) : (f_eX1_worth s kl p).2.1 b = s.1 b :=
  F_row1 (fr_eX1_worth s kl hl p hp).1 (by intro e he; simp only [S_eX1_worth, List.mem_singleton] at he; subst he; exact fun q => hb q.symm)
def mh_cI (k kl : Nat) (v w : mh_V) (s0 s : mh_H) (m : Nat) : Prop := (∀ r c, c < mh_vn r → r < 5 → s.1 (k + 1 + r) c = if c < m then w.1 r c else v.1 r c) ∧ s.1 k 5 = v.2.1 ∧ s.1 k 6 = v.2.2 ∧ (∀ i, 1 ≤ i → i ≤ 5 → s.1 (kl + i) = s0.1 (kl + i)) ∧ s.1 kl = s0.1 kl ∧ mh_p3 s
theorem cad_c {k kl : Nat} (hk : mh_isV k) (hl : mh_isL kl) {s : mh_H} (hp3 : mh_p3 s) {L : mh_Lw} (hL : mh_LC kl s L) : mh_vc k (f_eX0_comeAndDry s k kl) = mh_cad L (mh_vc k s) := by
  have hkO := kO_V hk
  have hk2 := hkO.2
  have hl4 := L40 hl
  have hvz : ∀ r c, ¬ (c < mh_vn r ∧ r < 5) → (mh_vc k s).1 r c = 0 := fun r c h => vc_0 h
  generalize hv : mh_vc k s = v at hvz ⊢
  unfold f_eX0_comeAndDry
  refine mh_for (l_eX0_comeAndDry_2_1 kl k) 144 (mh_cI k kl v (mh_cad L v) s) (fun s' => mh_vc k s' = mh_cad L v) (by decide) ?_ ?_ 145 s 0 0 rfl (by decide) ⟨?_, ?_, ?_, fun _ _ _ => rfl, rfl, hp3⟩ (by decide)
  · intro n s1 x m hx hm ⟨h1, h2, h3, h4, h5, h6⟩
    have k144 : (144 : Int32).toInt = 144 := rfl
    have hL1 : mh_LC kl s1 L := LC_mono hL h4 (congrFun h5 7) (congrFun h5 9) (congrFun h5 10)
    have hA := fr_eX1_see s1 k hk kl hl x h6
    have hW1 := fr_eX1_worth (f_eX1_see s1 k kl x) kl hl 99 hA.2
    have hW2 := fr_eX1_worth (f_eX1_worth (f_eX1_see s1 k kl x) kl 99).2 kl hl 119 hW1.2
    have hW3 := fr_eX1_worth (f_eX1_worth (f_eX1_worth (f_eX1_see s1 k kl x) kl 99).2 kl 119).2 kl hl 115 hW2.2
    have rA : ∀ b, b ≠ kl + 6 → (f_eX1_see s1 k kl x).1 b = s1.1 b := fun b hb => see_row hk hl h6 x hb
    have r1 : ∀ b, b ≠ kl + 7 → (f_eX1_worth (f_eX1_see s1 k kl x) kl 99).2.1 b = (f_eX1_see s1 k kl x).1 b := fun b hb => wor_row hl hA.2 99 hb
    have r2 : ∀ b, b ≠ kl + 7 → (f_eX1_worth (f_eX1_worth (f_eX1_see s1 k kl x) kl 99).2 kl 119).2.1 b = (f_eX1_worth (f_eX1_see s1 k kl x) kl 99).2.1 b := fun b hb => wor_row hl hW1.2 119 hb
    have r3 : ∀ b, b ≠ kl + 7 → (f_eX1_worth (f_eX1_worth (f_eX1_worth (f_eX1_see s1 k kl x) kl 99).2 kl 119).2 kl 115).2.1 b = (f_eX1_worth (f_eX1_worth (f_eX1_see s1 k kl x) kl 99).2 kl 119).2.1 b := fun b hb => wor_row hl hW2.2 115 hb
    have ev : mh_env (mh_vc k s1) m 0 = mh_env v m 0 := by
      have row : ∀ r, r < 5 → r ≠ 2 → r ≠ 3 → ∀ c, (mh_vc k s1).1 r c = v.1 r c := by
        intro r hr n2 n3 c
        by_cases hc : c < mh_vn r
        · rw [vc_at hc hr, h1 r c hc hr]
          split
          · exact cad_o n2 n3
          · rfl
        · rw [vc_0 (fun q => hc q.1), hvz r c (fun q => hc q.1)]
      have at_ : ∀ r, r < 4 → (mh_vc k s1).1 r m = v.1 r m := fun r hr => by rw [vc_at (vn_r hm hr) (by omega), h1 r m (vn_r hm hr) (by omega), if_neg (Nat.lt_irrefl m)]
      exact env_cg (row 1 (by decide) (by decide) (by decide)) (at_ 0 (by decide)) (at_ 2 (by decide)) (at_ 3 (by decide)) (row 4 (by decide) (by decide) (by decide)) h2
    have w1 : (f_eX1_worth (f_eX1_see s1 k kl x) kl 99).1 = L 99 (mh_env v m 0) := by
      rw [← ev]
      exact see_L hkO hl4 hL1 hx hm (fun i a b => rA _ (by omega)) (by rw [rA kl (by omega)]) rfl 99
    have w2 : (f_eX1_worth (f_eX1_worth (f_eX1_see s1 k kl x) kl 99).2 kl 119).1 = L 119 (mh_env v m 0) := by
      rw [← ev]
      exact see_L hkO hl4 hL1 hx hm (fun i a b => by rw [r1 _ (by omega), rA _ (by omega)]) (by rw [r1 kl (by omega), rA kl (by omega)]) (r1 _ (by omega)) 119
    have w3 : (f_eX1_worth (f_eX1_worth (f_eX1_worth (f_eX1_see s1 k kl x) kl 99).2 kl 119).2 kl 115).1 = L 115 (mh_env v m 0) := by
      rw [← ev]
      exact see_L hkO hl4 hL1 hx hm (fun i a b => by rw [r2 _ (by omega), r1 _ (by omega), rA _ (by omega)]) (by rw [r2 kl (by omega), r1 kl (by omega), rA kl (by omega)]) (by rw [r2 _ (by omega), r1 _ (by omega)]) 115
    rw [l_eX0_comeAndDry_2_1_s]
    unfold ls_eX0_comeAndDry_2_1
    rw [if_pos (by omega)]
    simp only [mh_lbE, mh_lb2E, ix_n hx, bnd_c, w1, w2, w3]
    have hp3b := hW3.2
    have rr : ∀ b, b ≠ kl + 6 → b ≠ kl + 7 → (f_eX1_worth (f_eX1_worth (f_eX1_worth (f_eX1_see s1 k kl x) kl 99).2 kl 119).2 kl 115).2.1 b = s1.1 b := fun b hb hb2 => by rw [r3 b hb2, r2 b hb2, r1 b hb2, rA b hb]
    generalize (f_eX1_worth (f_eX1_worth (f_eX1_worth (f_eX1_see s1 k kl x) kl 99).2 kl 119).2 kl 115).2 = q at rr hp3b
    have c3 : q.1 (k + 3) m = v.1 2 m := by
      rw [rr _ (by omega) (by omega)]
      have := h1 2 m (vn_r hm (by decide)) (by decide)
      rw [if_neg (Nat.lt_irrefl m)] at this
      exact this
    have c4 : q.1 (k + 4) m = v.1 3 m := by
      rw [rr _ (by omega) (by omega)]
      have := h1 3 m (vn_r hm (by decide)) (by decide)
      rw [if_neg (Nat.lt_irrefl m)] at this
      exact this
    rw [pI_o (show k + 4 ≠ k + 3 by omega), c3, c4]
    refine ⟨_, ⟨?_, ?_, ?_, ?_, ?_, ?_⟩, rfl⟩
    · intro r c hc hr
      by_cases q3 : r = 3 ∧ c = m
      · obtain ⟨rfl, rfl⟩ := q3
        rw [show k + 1 + 3 = k + 4 from rfl, pI_w, if_pos (Nat.lt_succ_self c)]
        rw [cad_3 hm]
      · rw [show (mh_pI _ (k + 4) m _).1 (k + 1 + r) c = _ from if_neg (fun z => q3 ⟨by omega, z.2⟩)]
        by_cases q2 : r = 2 ∧ c = m
        · obtain ⟨rfl, rfl⟩ := q2
          rw [show k + 1 + 2 = k + 3 from rfl, pI_w, if_pos (Nat.lt_succ_self c)]
          rw [cad_2 hm]
        · rw [show (mh_pI _ (k + 3) m _).1 (k + 1 + r) c = _ from if_neg (fun z => q2 ⟨by omega, z.2⟩), rr _ (by omega) (by omega), h1 r c hc hr]
          by_cases g : c < m
          · rw [if_pos g, if_pos (by omega)]
          · rw [if_neg g]
            by_cases g2 : c = m
            · rw [if_pos (by omega)]
              rw [cad_o (fun z => q2 ⟨z, g2⟩) (fun z => q3 ⟨z, g2⟩)]
            · rw [if_neg (by omega)]
    · rw [pI_o (by omega), pI_o (by omega), rr _ (by omega) (by omega)]; exact h2
    · rw [pI_o (by omega), pI_o (by omega), rr _ (by omega) (by omega)]; exact h3
    · intro i a b
      rw [← h4 i a b, ← rr (kl + i) (by omega) (by omega)]
      funext j
      rw [pI_o (by omega), pI_o (by omega)]
    · rw [← h5, ← rr kl (by omega) (by omega)]
      funext j
      rw [pI_o (by omega), pI_o (by omega)]
    · exact hp3b
  · intro n s1 x hx ⟨h1, h2, h3, h4, h5, h6⟩
    rw [l_eX0_comeAndDry_2_1_s]
    unfold ls_eX0_comeAndDry_2_1
    have k144 : (144 : Int32).toInt = 144 := rfl
    rw [if_neg (by omega)]
    refine vc_ext (cad_z hvz) (fun r c hc hr => ?_) h2 h3
    rw [h1 r c hc hr]
    split
    · rfl
    · rename_i g
      have : r = 4 ∨ 144 ≤ c := Or.inr (by omega)
      by_cases q : r = 4
      · subst q; exact absurd hc (by unfold mh_vn; rw [if_pos rfl]; omega)
      · exact absurd hc (by unfold mh_vn; rw [if_neg q]; omega)
  · intro r c hc hr
    rw [if_neg (Nat.not_lt_zero c), ← hv, vc_at hc hr]
  · rw [← hv]; rfl
  · rw [← hv]; rfl
theorem cad_0 {L : mh_Lw} {v : mh_V} (hg : mh_rg v) (hz : ∀ r c, ¬ (c < mh_vn r ∧ r < 5) → v.1 r c = 0) (h0 : ∀ e, L 99 e = 0 ∧ L 119 e = 0 ∧ L 115 e = 0) : mh_cad L v = v := by
  refine Prod.ext ?_ rfl
  funext r c
  show (if r = 2 then (if c < 144 then _ else 0) else if r = 3 then (if c < 144 then _ else 0) else v.1 r c) = v.1 r c
  by_cases q : r = 2
  · subst q
    rw [if_pos rfl]
    by_cases hc : c < 144
    · rw [if_pos hc, (h0 _).1, Int32.add_zero, bnd_id (hg c hc).2.2.1]
    · rw [if_neg hc, hz 2 c (fun z => hc z.1)]
  · rw [if_neg q]
    by_cases q3 : r = 3
    · subst q3
      rw [if_pos rfl]
      by_cases hc : c < 144
      · rw [if_pos hc, (h0 _).2.1, (h0 _).2.2, Int32.sub_self, Int32.add_zero, bnd_id (hg c hc).2.2.2]
      · rw [if_neg hc, hz 3 c (fun z => hc z.1)]
    · rw [if_neg q3]
theorem stp_c {k kl : Nat} (hk : mh_isV k) (hl : mh_isL kl) {s : mh_H} (hp3 : mh_p3 s) {L : mh_Lw} (hL : mh_LC kl s L) (hg : mh_rg (mh_vc k s)) : mh_vc k (f_eX0_pass s k kl) = mh_stp L (mh_vc k s) := by
  have hkO := kO_V hk
  have key : ∀ s' : mh_H, mh_vc k (j_eX0_pass_13_1 s' k) = mh_inc (mh_rdn (mh_vc k s')) := by
    intro s'
    have h := rdn_c hkO (s := s')
    unfold j_eX0_pass_13_1
    simp only [mh_lbE]
    rw [← h]
    generalize f_eX0_runDown s' k = q
    refine vc_ext (fun r c h => vc_0 h) (fun r c hc hr => ?_) ?_ ?_
    · rw [pI_o (by omega)]; exact (vc_at hc hr).symm
    · rw [pI_w]; rfl
    · rw [pI_j (by decide)]; rfl
  have hz : ∀ r c, ¬ (c < mh_vn r ∧ r < 5) → (mh_vc k s).1 r c = 0 := fun r c h => vc_0 h
  unfold mh_stp
  unfold f_eX0_pass
  simp only [mh_lbE]
  by_cases h0 : (s.1 kl 9).toInt = 0
  · rw [if_pos h0, key, cad_0 hg hz (hL.2.1 h0)]
  · rw [if_neg h0, key, cad_c hk hl hp3 hL]
end
section
def mh_vrS (S : List (Nat × Nat)) : Bool := S.all (fun e => !(decide (59 ≤ e.1) && decide (e.1 ≤ 63)) && !(e.1 == 57 && (e.2 == 2 || e.2 == 4 || e.2 == 9999)))
theorem vr_fr {S : List (Nat × Nat)} {s s' : mh_H} (hF : mh_F S s s') (hS : mh_vrS S = true) : mh_vr s' = mh_vr s := by
  have h0 := List.all_eq_true.mp hS
  refine vr_ext (fun r c h => vr_0 h) (fun r c hc hr => ?_) ?_ ?_
  · rw [vr_at hc hr]
    refine (hF (59 + r) c ?_).1
    rintro ⟨e, h1, h2, -⟩
    have h3 := h0 e h1
    simp only [Bool.and_eq_true, Bool.not_eq_true', Bool.and_eq_false_iff, decide_eq_false_iff_not] at h3
    rcases h3.1 with h | h <;> omega
  · refine (hF 57 2 ?_).1
    rintro ⟨e, h1, h2, h3⟩
    have h4 := h0 e h1
    rcases h3 with h3 | h3 <;> simp [h2, h3] at h4
  · refine congrArg Int64.toInt32 (hF 57 4 ?_).2.1
    rintro ⟨e, h1, h2, h3⟩
    have h4 := h0 e h1
    rcases h3 with h3 | h3 <;> simp [h2, h3] at h4
theorem val_of {s : mh_H} {x : Int32} (hc : (s.1 57 33).toInt ≠ -1) (h1 : x.toInt ≠ 105) (h2 : x.toInt ≠ 106) (h3 : x.toInt ≠ 108) : f_eX10_valueOf s x = f_eX10_ofCell s x := by
  have k1 : (105 : Int32).toInt = 105 := rfl
  have k2 : (106 : Int32).toInt = 106 := rfl
  have k3 : (108 : Int32).toInt = 108 := rfl
  have k4 : (-1 : Int32).toInt = -1 := rfl
  unfold f_eX10_valueOf
  simp only [mh_lbE, k1, k2, k3, k4]
  rw [if_neg h1, if_neg h2, if_neg h3, if_neg hc]
theorem eR_env {s : mh_H} {p : Int32} {c : Nat} (hp : p.toInt = (c : Int)) (hc : c < 144) (h33 : s.1 57 33 = p) (h35 : s.1 57 35 = 0) (h36 : s.1 57 36 = 0) (h37 : s.1 57 37 = 0) (hs : 0 ≤ (s.1 57 2).toInt) : mh_eR s = mh_env (mh_vr s) c (s.1 57 34) := by
  have hne : (s.1 57 33).toInt ≠ -1 := by rw [h33]; omega
  have e0 : s.1 59 c = (mh_vr s).1 0 c := (vr_at (r := 0) (vn_r hc (by decide)) (by decide)).symm
  have e1 : s.1 60 c = (mh_vr s).1 1 c := (vr_at (r := 1) (vn_r hc (by decide)) (by decide)).symm
  have e2 : s.1 61 c = (mh_vr s).1 2 c := (vr_at (r := 2) (vn_r hc (by decide)) (by decide)).symm
  have e3 : s.1 62 c = (mh_vr s).1 3 c := (vr_at (r := 3) (vn_r hc (by decide)) (by decide)).symm
  have em : p % 12 = Int32.ofNat (c % 12) := i32_of (ix_mod hp) (by omega)
  have ed : p / 12 = Int32.ofNat (c / 12) := i32_of (ix_div hp) (by omega)
  have oc : ∀ x : Int32, f_eX10_ofCell s x = if x.toInt = 104 then (mh_vr s).1 0 c else if x.toInt = 107 then (mh_vr s).1 1 c else if x.toInt = 116 then s.1 57 2 else if x.toInt = 118 then mh_wnd (mh_vr s) else if x.toInt = 99 then (mh_vr s).1 2 c else if x.toInt = 119 then (mh_vr s).1 3 c else if x.toInt = 120 then Int32.ofNat (c % 12) else if x.toInt = 121 then Int32.ofNat (c / 12) else if x.toInt = 110 then mh_tre (mh_vr s) c else s.1 57 34 := by
    intro x
    unfold f_eX10_ofCell
    simp only [mh_lbE, h33, ix_n hp, wnd_r hs, tre_r hp hc, e0, e1, e2, e3, em, ed]
    generalize x.toInt = y
    by_cases q1 : y = 104
    · subst q1; simp
    · by_cases q2 : y = 107
      · subst q2; simp
      · by_cases q3 : y = 116
        · subst q3; simp
        · by_cases q4 : y = 118
          · subst q4; simp
          · by_cases q5 : y = 99
            · subst q5; simp
            · by_cases q6 : y = 119
              · subst q6; simp
              · by_cases q7 : y = 120
                · subst q7; simp
                · by_cases q8 : y = 121
                  · subst q8; simp
                  · by_cases q9 : y = 110
                    · subst q9; simp
                    · simp only [q1, q2, q3, q4, q5, q6, q7, q8, q9, if_false, ite_self]
  funext i
  unfold mh_eR
  by_cases h : i < 13
  · rw [if_pos h]
    rcases (show i = 0 ∨ i = 1 ∨ i = 2 ∨ i = 3 ∨ i = 4 ∨ i = 5 ∨ i = 6 ∨ i = 7 ∨ i = 8 ∨ i = 9 ∨ i = 10 ∨ i = 11 ∨ i = 12 by omega) with rfl | rfl | rfl | rfl | rfl | rfl | rfl | rfl | rfl | rfl | rfl | rfl | rfl
    · show f_eX10_valueOf s 104 = _; rw [val_of hne (by decide) (by decide) (by decide), oc]; rfl
    · show f_eX10_valueOf s 107 = _; rw [val_of hne (by decide) (by decide) (by decide), oc]; rfl
    · show f_eX10_valueOf s 116 = _; rw [val_of hne (by decide) (by decide) (by decide), oc]; rfl
    · show f_eX10_valueOf s 118 = _; rw [val_of hne (by decide) (by decide) (by decide), oc]; rfl
    · show f_eX10_valueOf s 99 = _; rw [val_of hne (by decide) (by decide) (by decide), oc]; rfl
    · show f_eX10_valueOf s 119 = _; rw [val_of hne (by decide) (by decide) (by decide), oc]; rfl
    · show f_eX10_valueOf s 120 = _; rw [val_of hne (by decide) (by decide) (by decide), oc]; rfl
    · show f_eX10_valueOf s 121 = _; rw [val_of hne (by decide) (by decide) (by decide), oc]; rfl
    · show f_eX10_valueOf s 110 = _; rw [val_of hne (by decide) (by decide) (by decide), oc]; rfl
    · show f_eX10_valueOf s 100 = _; rw [val_of hne (by decide) (by decide) (by decide), oc]; rfl
    · show f_eX10_valueOf s 105 = 0; unfold f_eX10_valueOf; simp only [mh_lbE, h35]; rfl
    · show f_eX10_valueOf s 106 = 0; unfold f_eX10_valueOf; simp only [mh_lbE, h36]; rfl
    · show f_eX10_valueOf s 108 = 0; unfold f_eX10_valueOf; simp only [mh_lbE, h37]; rfl
  · rw [if_neg h, ← env_13]
    unfold mh_e13
    rw [if_neg h]
theorem by_L {s : mh_H} {L : mh_Lw} (hL : mh_LR s L) {p : Int32} {c : Nat} (hp : p.toInt = (c : Int)) (hc : c < 144) (hs : 0 ≤ (s.1 57 2).toInt) (letter mist : Int32) : (f_eX10_byCell s letter p mist (mh_mst letter)).1 = L letter (mh_env (mh_vr s) c mist) := by
  unfold f_eX10_byCell
  simp only [mh_lbE, mh_lb2E]
  have hr : ∀ i, 64 ≤ i → i ≤ 69 → (mh_pI (mh_pI (mh_pI (mh_pI (mh_pI s 57 33 p) 57 34 mist) 57 35 0) 57 36 0) 57 37 0).1 i = s.1 i := by
    intro i a b
    funext j
    rw [pI_o (by omega), pI_o (by omega), pI_o (by omega), pI_o (by omega), pI_o (by omega)]
  rw [hL _ hr (by rw [pI_j (by decide), pI_j (by decide), pI_j (by decide), pI_j (by decide), pI_j (by decide)]) letter]
  have hv : mh_vr (mh_pI (mh_pI (mh_pI (mh_pI (mh_pI s 57 33 p) 57 34 mist) 57 35 0) 57 36 0) 57 37 0) = mh_vr s := by
    rw [vr_pI (Or.inr ⟨rfl, by decide⟩), vr_pI (Or.inr ⟨rfl, by decide⟩), vr_pI (Or.inr ⟨rfl, by decide⟩), vr_pI (Or.inr ⟨rfl, by decide⟩), vr_pI (Or.inr ⟨rfl, by decide⟩)]
  rw [eR_env hp hc (by rw [pI_j (by decide), pI_j (by decide), pI_j (by decide), pI_j (by decide), pI_w]) (by rw [pI_j (by decide), pI_j (by decide), pI_w]) (by rw [pI_j (by decide), pI_w]) pI_w (by rw [pI_j (by decide), pI_j (by decide), pI_j (by decide), pI_j (by decide), pI_j (by decide)]; exact hs), hv]
  rw [pI_j (by decide), pI_j (by decide), pI_j (by decide), pI_w]
theorem by_row {s : mh_H} (hp : mh_p3 s) (a b c d : Int32) {k : Nat} (hk : k ≠ 57 ∧ k ≠ 77 ∧ k ≠ 78) : (f_eX10_byCell s a b c d).2.1 k = s.1 k :=
  F_row1 (fr_eX10_byCell s a b c d hp).1 (by intro e he; simp only [S_eX10_byCell, List.mem_cons, List.not_mem_nil, or_false] at he; rcases he with rfl | rfl | rfl | rfl | rfl | rfl | rfl <;> simp <;> omega)
theorem by_57 {s : mh_H} (hp : mh_p3 s) (a b c d : Int32) {j : Nat} (hj : j < 33) : (f_eX10_byCell s a b c d).2.1 57 j = s.1 57 j :=
  F_at1 (fr_eX10_byCell s a b c d hp).1 (by intro e he; simp only [S_eX10_byCell, List.mem_cons, List.not_mem_nil, or_false] at he; rcases he with rfl | rfl | rfl | rfl | rfl | rfl | rfl <;> simp <;> omega)
theorem by_vr {s : mh_H} (hp : mh_p3 s) (a b c d : Int32) : mh_vr (f_eX10_byCell s a b c d).2 = mh_vr s := vr_fr (fr_eX10_byCell s a b c d hp).1 (by decide)
/-- a heap in which the reference's law and step stand as in another -/
def mh_rL (s s' : mh_H) : Prop := (∀ i, 64 ≤ i → i ≤ 69 → s'.1 i = s.1 i) ∧ s'.1 57 10 = s.1 57 10 ∧ s'.1 57 2 = s.1 57 2 ∧ mh_p3 s'
theorem rL_by {s s' : mh_H} (h : mh_rL s s') (a b c d : Int32) : mh_rL s (f_eX10_byCell s' a b c d).2 :=
  ⟨fun i h1 h2 => by rw [by_row h.2.2.2 a b c d (by omega)]; exact h.1 i h1 h2, by rw [by_57 h.2.2.2 a b c d (by decide)]; exact h.2.1, by rw [by_57 h.2.2.2 a b c d (by decide)]; exact h.2.2.1, (fr_eX10_byCell s' a b c d h.2.2.2).2⟩
theorem rL_pI {s s' : mh_H} (h : mh_rL s s') {a j : Nat} {x : Int32} (ha : 69 < a ∨ (58 ≤ a ∧ a < 64)) : mh_rL s (mh_pI s' a j x) := by
  refine ⟨fun i h1 h2 => ?_, ?_, ?_, h.2.2.2⟩
  · rw [← h.1 i h1 h2]; funext b; rw [pI_o (by omega)]
  · rw [pI_o (by omega)]; exact h.2.1
  · rw [pI_o (by omega)]; exact h.2.2.1
theorem coo1_r {s : mh_H} (hp3 : mh_p3 s) {L : mh_Lw} (hL : mh_LR s L) (hs : 0 ≤ (s.1 57 2).toInt) {v : mh_V} (hv : mh_vr s = v) (Post : mh_H → Prop)
    (kk : ∀ s', mh_vr s' = v → mh_rL s s' → (∀ c, c < 144 → s'.1 79 c = (mh_cad L v).1 2 c ∧ s'.1 80 c = (mh_cad L v).1 3 c) → Post (l_eX10_cools_80_2 145 s' 0)) : Post (f_eX10_cools s) := by
  unfold f_eX10_cools
  refine mh_for l_eX10_cools_2_1 144 (fun s' m => mh_vr s' = v ∧ mh_rL s s' ∧ ∀ c, c < m → s'.1 79 c = (mh_cad L v).1 2 c ∧ s'.1 80 c = (mh_cad L v).1 3 c) Post (by decide) ?_ ?_ 145 s 0 0 rfl (by decide) ⟨hv, ⟨fun _ _ _ => rfl, rfl, rfl, hp3⟩, fun c h => absurd h (Nat.not_lt_zero c)⟩ (by decide)
  · intro n s1 x m hx hm ⟨h1, h2, h3⟩
    have k144 : (144 : Int32).toInt = 144 := rfl
    have hst : ∀ {q : mh_H}, mh_rL s q → 0 ≤ (q.1 57 2).toInt := fun h => by rw [h.2.2.1]; exact hs
    have hLq : ∀ {q : mh_H}, mh_rL s q → mh_LR q L := fun h => LR_mono hL h.1 h.2.1
    have m99 : mh_mst 99 = 99 := rfl
    have m119 : mh_mst 119 = 99 := rfl
    have m115 : mh_mst 115 = 99 := rfl
    have w1 := by_L (hLq h2) hx hm (hst h2) 99 0
    rw [m99, h1] at w1
    have v1 := (by_vr h2.2.2.2 99 x 0 99).trans h1
    have g1 := rL_by h2 99 x 0 99
    have c79 : ∀ b, b ≠ 57 ∧ b ≠ 77 ∧ b ≠ 78 → (f_eX10_byCell s1 99 x 0 99).2.1 b = s1.1 b := fun b hb => by_row h2.2.2.2 99 x 0 99 hb
    rw [l_eX10_cools_2_1_s]
    unfold ls_eX10_cools_2_1
    rw [if_pos (by omega)]
    simp only [mh_lbE, mh_lb2E, ix_n hx, bnd_r]
    rw [w1]
    have cold1 : s1.1 61 m = v.1 2 m := by rw [← h1]; exact (vr_at (r := 2) (vn_r hm (by decide)) (by decide)).symm
    rw [cold1]
    generalize (f_eX10_byCell s1 99 x 0 99).2 = q1 at v1 g1 c79 ⊢
    have v2 : mh_vr (mh_pI q1 79 m (mh_bnd (v.1 2 m + L 99 (mh_env v m 0)))) = v := (vr_pI (Or.inl (by decide))).trans v1
    have g2 : mh_rL s (mh_pI q1 79 m (mh_bnd (v.1 2 m + L 99 (mh_env v m 0)))) := rL_pI g1 (Or.inl (by decide))
    have d79 : ∀ b j, b ≠ 79 → (mh_pI q1 79 m (mh_bnd (v.1 2 m + L 99 (mh_env v m 0)))).1 b j = q1.1 b j := fun b j hb => pI_o hb
    have e79 : ∀ c, (mh_pI q1 79 m (mh_bnd (v.1 2 m + L 99 (mh_env v m 0)))).1 79 c = if c = m then mh_bnd (v.1 2 m + L 99 (mh_env v m 0)) else q1.1 79 c := fun c => by rw [pI_v]; simp only [true_and]
    generalize mh_pI q1 79 m (mh_bnd (v.1 2 m + L 99 (mh_env v m 0))) = q2 at v2 g2 d79 e79 ⊢
    have wat : q2.1 62 m = v.1 3 m := by rw [← v2]; exact (vr_at (r := 3) (vn_r hm (by decide)) (by decide)).symm
    have w2 := by_L (hLq g2) hx hm (hst g2) 119 0
    rw [m119, v2] at w2
    rw [wat, w2]
    have v3 := (by_vr g2.2.2.2 119 x 0 99).trans v2
    have g3 := rL_by g2 119 x 0 99
    have c3 : ∀ b, b ≠ 57 ∧ b ≠ 77 ∧ b ≠ 78 → (f_eX10_byCell q2 119 x 0 99).2.1 b = q2.1 b := fun b hb => by_row g2.2.2.2 119 x 0 99 hb
    generalize (f_eX10_byCell q2 119 x 0 99).2 = q3 at v3 g3 c3 ⊢
    have w3 := by_L (hLq g3) hx hm (hst g3) 115 0
    rw [m115, v3] at w3
    rw [w3]
    have v4 := (by_vr g3.2.2.2 115 x 0 99).trans v3
    have g4 := rL_by g3 115 x 0 99
    have c4 : ∀ b, b ≠ 57 ∧ b ≠ 77 ∧ b ≠ 78 → (f_eX10_byCell q3 115 x 0 99).2.1 b = q3.1 b := fun b hb => by_row g3.2.2.2 115 x 0 99 hb
    generalize (f_eX10_byCell q3 115 x 0 99).2 = q4 at v4 g4 c4 ⊢
    refine ⟨_, ⟨(vr_pI (Or.inl (by decide))).trans v4, rL_pI g4 (Or.inl (by decide)), ?_⟩, rfl⟩
    intro c hc
    have hc1 : c < 144 := by omega
    rw [pI_o (by decide), pI_v, c4 79 (by decide), c3 79 (by decide), e79, c4 80 (by decide), c3 80 (by decide), d79 80 c (by decide)]
    simp only [true_and]
    by_cases q : c = m
    · subst q
      rw [if_pos rfl, if_pos rfl]
      refine ⟨?_, ?_⟩
      · rw [cad_2 hc1]
      · rw [cad_3 hc1, Int32.sub_eq_add_neg, Int32.sub_eq_add_neg, Int32.add_assoc]
    · rw [if_neg q, if_neg q, c79 79 (by decide), c79 80 (by decide)]
      exact h3 c (by omega)
  · intro n s1 x hx ⟨h1, h2, h3⟩
    rw [l_eX10_cools_2_1_s]
    unfold ls_eX10_cools_2_1
    have k144 : (144 : Int32).toInt = 144 := rfl
    rw [if_neg (by omega)]
    exact kk s1 h1 h2 h3
theorem coo2_r {s s0 : mh_H} {L : mh_Lw} {v : mh_V} (hv : mh_vr s = v) (hr : mh_rL s0 s) (h79 : ∀ c, c < 144 → s.1 79 c = (mh_cad L v).1 2 c ∧ s.1 80 c = (mh_cad L v).1 3 c) : mh_vr (l_eX10_cools_80_2 145 s 0) = mh_cad L v ∧ mh_rL s0 (l_eX10_cools_80_2 145 s 0) := by
  have hvz : ∀ r c, ¬ (c < mh_vn r ∧ r < 5) → v.1 r c = 0 := fun r c h => by rw [← hv]; exact vr_0 h
  refine mh_for l_eX10_cools_80_2 144 (fun s m => (∀ r c, c < mh_vn r → r < 5 → s.1 (59 + r) c = if c < m then (mh_cad L v).1 r c else v.1 r c) ∧ Int64.toInt32 (s.2.1 57 4) = v.2.2 ∧ s.1 57 2 = v.2.1 ∧ mh_rL s0 s ∧ (∀ c, c < 144 → s.1 79 c = (mh_cad L v).1 2 c ∧ s.1 80 c = (mh_cad L v).1 3 c)) (fun s => mh_vr s = mh_cad L v ∧ mh_rL s0 s) (by decide) ?_ ?_ 145 s 0 0 rfl (by decide) ⟨?_, ?_, ?_, hr, h79⟩ (by decide)
  · intro n s1 x m hx hm ⟨h1, h2, h3, h4, h5⟩
    have k144 : (144 : Int32).toInt = 144 := rfl
    rw [l_eX10_cools_80_2_s]
    unfold ls_eX10_cools_80_2
    rw [if_pos (by omega)]
    simp only [mh_lbE, ix_n hx]
    rw [pI_o (show (80 : Nat) ≠ 61 by decide), (h5 m hm).1, (h5 m hm).2]
    refine ⟨mh_pI (mh_pI s1 61 m ((mh_cad L v).1 2 m)) 62 m ((mh_cad L v).1 3 m), ⟨?_, h2, ?_, rL_pI (rL_pI h4 (Or.inr (by decide))) (Or.inr (by decide)), ?_⟩, rfl⟩
    · intro r c hc hr
      by_cases q3 : r = 3 ∧ c = m
      · obtain ⟨rfl, rfl⟩ := q3
        rw [show 59 + 3 = 62 from rfl, pI_w, if_pos (Nat.lt_succ_self c)]
      · rw [show (mh_pI _ 62 m _).1 (59 + r) c = _ from if_neg (fun z => q3 ⟨by omega, z.2⟩)]
        by_cases q2 : r = 2 ∧ c = m
        · obtain ⟨rfl, rfl⟩ := q2
          rw [show 59 + 2 = 61 from rfl, pI_w, if_pos (Nat.lt_succ_self c)]
        · rw [show (mh_pI _ 61 m _).1 (59 + r) c = _ from if_neg (fun z => q2 ⟨by omega, z.2⟩), h1 r c hc hr]
          by_cases g : c < m
          · rw [if_pos g, if_pos (by omega)]
          · rw [if_neg g]
            by_cases g2 : c = m
            · rw [if_pos (by omega)]
              rw [cad_o (fun z => q2 ⟨z, g2⟩) (fun z => q3 ⟨z, g2⟩)]
            · rw [if_neg (by omega)]
    · rw [pI_o (by decide), pI_o (by decide)]; exact h3
    · intro c hc
      rw [pI_o (by decide), pI_o (by decide), pI_o (by decide), pI_o (by decide)]
      exact h5 c hc
  · intro n s1 x hx ⟨h1, h2, h3, h4, h5⟩
    rw [l_eX10_cools_80_2_s]
    unfold ls_eX10_cools_80_2
    have k144 : (144 : Int32).toInt = 144 := rfl
    rw [if_neg (by omega)]
    refine ⟨vr_ext (cad_z hvz) (fun r c hc hr => ?_) h3 h2, h4⟩
    rw [h1 r c hc hr]
    split
    · rfl
    · rename_i g
      by_cases q : r = 4
      · subst q; exact absurd hc (by unfold mh_vn; rw [if_pos rfl]; omega)
      · exact absurd hc (by unfold mh_vn; rw [if_neg q]; omega)
  · intro r c hc hr
    rw [if_neg (Nat.not_lt_zero c), ← hv, vr_at hc hr]
  · rw [← hv]; rfl
  · rw [← hv]; rfl
theorem coo_r {s : mh_H} (hp3 : mh_p3 s) {L : mh_Lw} (hL : mh_LR s L) (hs : 0 ≤ (s.1 57 2).toInt) : mh_vr (f_eX10_cools s) = mh_cad L (mh_vr s) ∧ mh_rL s (f_eX10_cools s) := by
  refine coo1_r hp3 hL hs (v := mh_vr s) rfl (fun s' => mh_vr s' = mh_cad L (mh_vr s) ∧ mh_rL s s') ?_
  intro s1 h1 h2 h3
  exact coo2_r h1 h2 h3
theorem inc_r (q : mh_H) : mh_vr (mh_pI q 57 2 (q.1 57 2 + 1)) = mh_inc (mh_vr q) := by
  refine vr_ext (fun r c h => vr_0 h) (fun r c hc hr => ?_) ?_ ?_
  · rw [pI_o (by omega)]; exact (vr_at hc hr).symm
  · rw [pI_w]; rfl
  · rfl
theorem one_r (s : mh_H) : f_eX10_stepOne s = mh_pI (f_eX10_runsDown (f_eX10_cools s)) 57 2 ((f_eX10_runsDown (f_eX10_cools s)).1 57 2 + 1) := by
  unfold f_eX10_stepOne
  simp only [mh_lbE]
theorem stp_r {s : mh_H} (hp3 : mh_p3 s) {L : mh_Lw} (hL : mh_LR s L) (hs : 0 ≤ (s.1 57 2).toInt) (hg : mh_rg (mh_vr s)) : mh_vr (f_eX10_stepOne s) = mh_stp L (mh_vr s) := by
  have h := (coo_r hp3 hL hs).1
  have hg2 : mh_rg (mh_vr (f_eX10_cools s)) := by rw [h]; exact cad_g hg
  have h2 := rdn_r hg2
  rw [h] at h2
  rw [one_r, inc_r, h2]
  rfl
end
section
/-- what a law says lies between 0 and its letter's bound -/
def mh_LB (L : mh_Lw) : Prop := ∀ letter e, 0 ≤ (L letter e).toInt ∧ (L letter e).toInt ≤ (mh_mst letter).toInt
/-- the class's valley k is v, its law is L -/
def mh_cN (k kl : Nat) (L : mh_Lw) (v : mh_V) (s : mh_H) : Prop := mh_vc k s = v ∧ s.2.2 0 11 = kl ∧ mh_LC kl s L ∧ mh_p3 s
theorem vc_F {S : List (Nat × Nat)} {k : Nat} {s s' : mh_H} (hF : mh_F S s s') (hS : ∀ e ∈ S, e.1 < k ∨ k + 5 < e.1) : mh_vc k s' = mh_vc k s := by
  have at_ : ∀ b j, k ≤ b → b ≤ k + 5 → s'.1 b j = s.1 b j := fun b j h1 h2 => (hF b j (by rintro ⟨e, g1, g2, -⟩; have := hS e g1; omega)).1
  refine vc_ext (fun r c h => vc_0 h) (fun r c hc hr => ?_) (at_ k 5 (by omega) (by omega)) (at_ k 6 (by omega) (by omega))
  rw [at_ _ _ (by omega) (by omega), vc_at hc hr]
theorem LC_F {S : List (Nat × Nat)} {kl : Nat} {s s' : mh_H} {L : mh_Lw} (h : mh_LC kl s L) (hF : mh_F S s s') (hS : ∀ e ∈ S, e.1 < kl ∨ kl + 5 < e.1) : mh_LC kl s' L := by
  have row : ∀ b, kl ≤ b → b ≤ kl + 5 → s'.1 b = s.1 b := fun b h1 h2 => F_row1 hF (fun e he => by have := hS e he; omega)
  exact LC_mono h (fun i a b => row _ (by omega) (by omega)) (congrFun (row kl (by omega) (by omega)) 7) (congrFun (row kl (by omega) (by omega)) 9) (congrFun (row kl (by omega) (by omega)) 10)
theorem cN_F {S : List (Nat × Nat)} {k kl : Nat} {L : mh_Lw} {v : mh_V} {s s' : mh_H} (h : mh_cN k kl L v s) (hF : mh_F S s s') (hp : mh_p3 s') (h1 : ∀ e ∈ S, e.1 < k ∨ k + 5 < e.1) (h2 : ∀ e ∈ S, e.1 < kl ∨ kl + 5 < e.1) (h3 : ∀ e ∈ S, e.1 ≠ 0) : mh_cN k kl L v s' :=
  ⟨(vc_F hF h1).trans h.1, (hF 0 11 (by rintro ⟨e, g1, g2, -⟩; exact h3 e g1 g2)).2.2.trans h.2.1, LC_F h.2.2.1 hF h2, hp⟩
theorem cN_pass {k kl : Nat} (hk : mh_isV k) (hl : mh_isL kl) {L : mh_Lw} {v : mh_V} {s : mh_H} (h : mh_cN k kl L v s) (hg : mh_rg v) : mh_cN k kl L (mh_stp L v) (f_eX0_pass s k kl) := by
  obtain ⟨rfl, h2, h3, h4⟩ := h
  have hF := fr_eX0_pass s k hk kl hl h4
  have hk2 := kO_V hk
  have hl2 := L40 hl
  refine ⟨stp_c hk hl h4 h3 hg, ?_, ?_, hF.2⟩
  · refine (hF.1 0 11 ?_).2.2.trans h2
    rintro ⟨e, g1, g2, -⟩
    simp only [S_eX0_pass, List.mem_cons, List.not_mem_nil, or_false] at g1
    have := hk2.1
    rcases g1 with rfl | rfl | rfl | rfl | rfl | rfl | rfl | rfl <;> simp at g2 <;> omega
  · refine LC_F h3 hF.1 (fun e g1 => ?_)
    have := hk2.2
    simp only [S_eX0_pass, List.mem_cons, List.not_mem_nil, or_false] at g1
    rcases g1 with rfl | rfl | rfl | rfl | rfl | rfl | rfl | rfl <;> simp <;> omega
def mh_mi (L : mh_Lw) (v : mh_V) (c : Nat) : Int32 := L 109 (mh_env v c 0)
def mh_ya (L : mh_Lw) (v : mh_V) (c : Nat) : Int32 := L 121 (mh_env v c (mh_mi L v c))
theorem env_d (v : mh_V) (c : Nat) (x : Int32) : mh_u1 (mh_env v c 0) 9 x = mh_env v c x := by
  funext i
  unfold mh_u1
  by_cases h : i = 9
  · subst h; simp [mh_env]
  · rw [if_neg h]; unfold mh_env; simp only [h, if_false]
theorem cN_lw {k kl : Nat} (hk : mh_isV k) (hl : mh_isL kl) {L : mh_Lw} {v : mh_V} {s s' : mh_H} (h : mh_cN k kl L v s) (hF : mh_F [(kl + 6, 9999), (kl + 7, 9999)] s s') (hp : mh_p3 s') : mh_cN k kl L v s' := by
  have hk2 := kO_V hk
  have a1 := hk2.1; have a2 := hk2.2
  have hl2 := L40 hl
  refine cN_F h hF hp ?_ ?_ ?_ <;> intro e he <;> simp only [List.mem_cons, List.not_mem_nil, or_false] at he <;> rcases he with rfl | rfl <;> simp <;> omega
theorem mist_c {k kl : Nat} (hk : mh_isV k) (hl : mh_isL kl) {L : mh_Lw} {v : mh_V} {s : mh_H} (h : mh_cN k kl L v s) {p : Int32} {c : Nat} (hp : p.toInt = (c : Int)) (hc : c < 144) : (f_eX1_mist s k kl p).1 = mh_mi L v c ∧ mh_cN k kl L v (f_eX1_mist s k kl p).2 := by
  have hA := fr_eX1_see s k hk kl hl p h.2.2.2
  have hW := fr_eX1_worth (f_eX1_see s k kl p) kl hl 109 hA.2
  have e : f_eX1_mist s k kl p = f_eX1_worth (f_eX1_see s k kl p) kl 109 := by
    unfold f_eX1_mist
    simp only [mh_lbE, mh_lb2E]
  rw [e]
  refine ⟨?_, ?_⟩
  · unfold mh_mi
    rw [← h.1]
    exact see_L (kO_V hk) (L40 hl) h.2.2.1 hp hc (fun i a b => see_row hk hl h.2.2.2 p (by omega)) (by rw [see_row hk hl h.2.2.2 p (by omega)]) rfl 109
  · refine cN_lw hk hl h (mh_F_tl (mh_F_tl mh_F_rf hA.1 ?_) hW.1 ?_) hW.2
    · simp [S_eX1_see, mh_lsub]
    · simp [S_eX1_worth, mh_lsub]
theorem mist_row {k kl : Nat} (hk : mh_isV k) (hl : mh_isL kl) {s : mh_H} (hp : mh_p3 s) (p : Int32) {b : Nat} (hb : b ≠ kl + 6) (hb2 : b ≠ kl + 7) : (f_eX1_mist s k kl p).2.1 b = s.1 b := by
  have hA := fr_eX1_see s k hk kl hl p hp
  have e : f_eX1_mist s k kl p = f_eX1_worth (f_eX1_see s k kl p) kl 109 := by
    unfold f_eX1_mist
    simp only [mh_lbE, mh_lb2E]
  rw [e, wor_row hl hA.2 109 hb2, see_row hk hl hp p hb]
theorem yards_c {k kl : Nat} (hk : mh_isV k) (hl : mh_isL kl) {L : mh_Lw} {v : mh_V} {s : mh_H} (h : mh_cN k kl L v s) {p : Int32} {c : Nat} (hp : p.toInt = (c : Int)) (hc : c < 144) : (f_eX1_yards s k kl p).1 = mh_ya L v c ∧ mh_cN k kl L v (f_eX1_yards s k kl p).2 := by
  have hA := fr_eX1_see s k hk kl hl p h.2.2.2
  have hm := mist_c hk hl h hp hc
  have e : f_eX1_mist s k kl p = f_eX1_worth (f_eX1_see s k kl p) kl 109 := by
    unfold f_eX1_mist
    simp only [mh_lbE, mh_lb2E]
  have h6 : (f_eX1_mist s k kl p).2.1 (kl + 6) = (f_eX1_see s k kl p).1 (kl + 6) := by rw [e]; exact wor_row hl hA.2 109 (by omega)
  have rr : ∀ b, b ≠ kl + 6 → b ≠ kl + 7 → (f_eX1_mist s k kl p).2.1 b = s.1 b := fun b h1 h2 => mist_row hk hl h.2.2.2 p h1 h2
  unfold f_eX1_yards
  simp only [mh_lbE, mh_lb2E]
  obtain ⟨hm1, hm2⟩ := hm
  rw [hm1]
  generalize (f_eX1_mist s k kl p).2 = q at hm2 h6 rr
  have t9 : (9 : Int32).toNatClampNeg = 9 := rfl
  rw [t9]
  have hp3 : mh_p3 (mh_pI q (kl + 6) 9 (mh_mi L v c)) := hm2.2.2.2
  have hW := fr_eX1_worth (mh_pI q (kl + 6) 9 (mh_mi L v c)) kl hl 121 hp3
  refine ⟨?_, ?_⟩
  · rw [h.2.2.1.1 (mh_pI q (kl + 6) 9 (mh_mi L v c)) (fun i a b => by funext j; rw [pI_o (by omega), rr _ (by omega) (by omega)]) (by rw [pI_o (by omega), rr _ (by omega) (by omega)]) 121]
    unfold mh_ya
    have row : ∀ i, i < 13 → (mh_pI q (kl + 6) 9 (mh_mi L v c)).1 (kl + 6) i = mh_u1 (fun i => if i = 8 ∧ (s.1 kl 10).toInt = 0 then 0 else mh_env v c 0 i) 9 (mh_mi L v c) i := by
      intro i hi
      rw [pI_v, h6]
      unfold mh_u1
      simp only [true_and]
      by_cases q9 : i = 9
      · rw [if_pos q9, if_pos q9]
      · rw [if_neg q9, if_neg q9, see_v (kO_V hk) (L40 hl) hp hc i hi, h.1]
    by_cases qa : (s.1 kl 10).toInt = 0
    · have ee : mh_e13 ((mh_pI q (kl + 6) 9 (mh_mi L v c)).1 (kl + 6)) = mh_u1 (mh_env v c (mh_mi L v c)) 8 0 := by
        rw [← env_d]
        funext i
        unfold mh_e13
        by_cases hi : i < 13
        · rw [if_pos hi, row i hi]
          unfold mh_u1
          simp only [qa, and_true]
          by_cases q9 : i = 9
          · rw [if_pos q9, if_neg (by omega), if_pos q9]
          · rw [if_neg q9, if_neg q9]
        · rw [if_neg hi]
          unfold mh_u1
          rw [if_neg (by omega), if_neg (by omega), ← env_13]
          unfold mh_e13
          rw [if_neg hi]
      rw [ee, h.2.2.1.2.2 qa]
    · have ee : mh_e13 ((mh_pI q (kl + 6) 9 (mh_mi L v c)).1 (kl + 6)) = mh_env v c (mh_mi L v c) := by
        rw [← env_13, ← env_d]
        funext i
        unfold mh_e13
        by_cases hi : i < 13
        · rw [if_pos hi, if_pos hi, row i hi]
          unfold mh_u1
          by_cases q9 : i = 9
          · rw [if_pos q9, if_pos q9]
          · rw [if_neg q9, if_neg q9]
            dsimp only
            rw [if_neg (fun z => qa z.2)]
        · rw [if_neg hi, if_neg hi]
      rw [ee]
  · refine cN_lw hk hl hm2 (mh_F_tl (mh_F_pI (x := mh_mi L v c) (j := 9) (k := kl + 6) mh_F_rf ⟨(kl + 6, 9999), by simp, rfl, Or.inl rfl⟩) hW.1 ?_) hW.2
    simp [S_eX1_worth, mh_lsub]
def mh_to (L : mh_Lw) (v : mh_V) (c : Nat) : Int32 := if 0 < (mh_mi L v c).toInt then v.1 0 c + mh_mi L v c else 0
theorem top_c {k kl : Nat} (hk : mh_isV k) (hl : mh_isL kl) {L : mh_Lw} {v : mh_V} {s : mh_H} (h : mh_cN k kl L v s) {p : Int32} {c : Nat} (hp : p.toInt = (c : Int)) (hc : c < 144) : (f_eX1_top s k kl p).1 = mh_to L v c ∧ mh_cN k kl L v (f_eX1_top s k kl p).2 := by
  obtain ⟨h1, h2⟩ := mist_c hk hl h hp hc
  unfold f_eX1_top mh_to
  simp only [mh_lbE, mh_lb2E, ix_n hp]
  rw [h1]
  split
  · refine ⟨?_, h2⟩
    show (f_eX1_mist s k kl p).2.1 (k + 1) c + mh_mi L v c = _
    rw [show (f_eX1_mist s k kl p).2.1 (k + 1) c = v.1 0 c by rw [← h2.1]; exact (vc_at (r := 0) (vn_r hc (by decide)) (by decide)).symm]
  · exact ⟨rfl, h2⟩
/-- the reference's valley is v, its law is L -/
def mh_rN (L : mh_Lw) (v : mh_V) (s : mh_H) : Prop := mh_vr s = v ∧ mh_LR s L ∧ mh_p3 s ∧ 0 ≤ v.2.1.toInt
theorem rN_by {L : mh_Lw} {v : mh_V} {s : mh_H} (h : mh_rN L v s) (a b c d : Int32) : mh_rN L v (f_eX10_byCell s a b c d).2 :=
  ⟨(by_vr h.2.2.1 a b c d).trans h.1, LR_mono h.2.1 (fun i h1 h2 => by_row h.2.2.1 a b c d (by omega)) (by_57 h.2.2.1 a b c d (by decide)), (fr_eX10_byCell s a b c d h.2.2.1).2, h.2.2.2⟩
theorem mist_r {L : mh_Lw} {v : mh_V} {s : mh_H} (h : mh_rN L v s) {p : Int32} {c : Nat} (hp : p.toInt = (c : Int)) (hc : c < 144) : (f_eX10_mistAt s p).1 = mh_mi L v c ∧ mh_rN L v (f_eX10_mistAt s p).2 := by
  have e : f_eX10_mistAt s p = f_eX10_byCell s 109 p 0 99 := by
    unfold f_eX10_mistAt
    simp only [mh_lb2E]
  rw [e]
  refine ⟨?_, rN_by h _ _ _ _⟩
  have h0 : 0 ≤ (s.1 57 2).toInt := by have := h.2.2.2; rw [← h.1] at this; exact this
  have := by_L h.2.1 hp hc h0 109 0
  rw [h.1] at this
  exact this
theorem yards_r {L : mh_Lw} {v : mh_V} {s : mh_H} (h : mh_rN L v s) {p : Int32} {c : Nat} (hp : p.toInt = (c : Int)) (hc : c < 144) : (f_eX10_yardsAt s p).1 = mh_ya L v c ∧ mh_rN L v (f_eX10_yardsAt s p).2 := by
  obtain ⟨h1, h2⟩ := mist_r h hp hc
  have e : f_eX10_yardsAt s p = f_eX10_byCell (f_eX10_mistAt s p).2 121 p (f_eX10_mistAt s p).1 999 := by
    unfold f_eX10_yardsAt
    simp only [mh_lb2E]
  rw [e, h1]
  refine ⟨?_, rN_by h2 _ _ _ _⟩
  have h0 : 0 ≤ ((f_eX10_mistAt s p).2.1 57 2).toInt := by have := h2.2.2.2; rw [← h2.1] at this; exact this
  have := by_L h2.2.1 hp hc h0 121 (mh_mi L v c)
  rw [h2.1] at this
  exact this
theorem rN_step {L : mh_Lw} {v : mh_V} {s : mh_H} (h : mh_rN L v s) (hg : mh_rg v) (hb : v.2.1.toInt ≤ 2000000000) : mh_rN L (mh_stp L v) (f_eX10_stepOne s) := by
  have h0 : 0 ≤ (s.1 57 2).toInt := by have := h.2.2.2; rw [← h.1] at this; exact this
  have hF := fr_eX10_stepOne s h.2.2.1
  refine ⟨?_, ?_, hF.2, ?_⟩
  · have := stp_r h.2.2.1 h.2.1 h0 (by rw [h.1]; exact hg)
    rw [h.1] at this
    exact this
  · refine LR_mono h.2.1 (fun i h1 h2 => F_row1 hF.1 (fun e he => ?_)) (F_at1 hF.1 (fun e he => ?_))
    · simp only [S_eX10_stepOne, List.mem_cons, List.not_mem_nil, or_false] at he
      rcases he with rfl | rfl | rfl | rfl | rfl | rfl | rfl | rfl | rfl | rfl | rfl | rfl | rfl | rfl | rfl <;> simp <;> omega
    · simp only [S_eX10_stepOne, List.mem_cons, List.not_mem_nil, or_false] at he
      rcases he with rfl | rfl | rfl | rfl | rfl | rfl | rfl | rfl | rfl | rfl | rfl | rfl | rfl | rfl | rfl <;> simp
  · have e : (mh_stp L v).2.1 = v.2.1 + 1 := rfl
    rw [e, nn_inc h.2.2.2 hb (by decide)]
    have := h.2.2.2
    omega
theorem stp_n {L : mh_Lw} {v : mh_V} : (mh_stp L v).2.1 = v.2.1 + 1 := rfl
end
section
theorem mh_forA {α R : Type} (l : Nat → α → Int32 → R) (N : Nat) (Inv : α → Nat → Prop) (Post : R → Prop) (hN : N < 100000)
    (hs : ∀ (n : Nat) (s : α) (x : Int32) (m : Nat), x.toInt = (m : Int) → m < N → Inv s m → ∃ s', Inv s' (m + 1) ∧ l (n + 1) s x = l n s' (x + 1))
    (he : ∀ (n : Nat) (s : α) (x : Int32), x.toInt = (N : Int) → Inv s N → Post (l (n + 1) s x)) :
    ∀ (n : Nat) (s : α) (x : Int32) (m : Nat), x.toInt = (m : Int) → m ≤ N → Inv s m → N < n + m → Post (l n s x) := by
  intro n
  induction n with
  | zero => intro s x m _ h1 _ h2; exfalso; omega
  | succ n ih =>
    intro s x m hx hm hi hn
    rcases Nat.lt_or_ge m N with h | h
    · obtain ⟨s', h1, h2⟩ := hs n s x m hx h hi
      rw [h2]
      have k1 : (1 : Int32).toInt = ((1 : Nat) : Int) := rfl
      exact ih s' (x + 1) (m + 1) (ix_add hx (by omega) k1 (by decide)) (by omega) h1 (by omega)
    · obtain rfl : m = N := by omega
      exact he n s x hx hi
def mh_cnt (L : mh_Lw) (v : mh_V) : Nat → Int32
  | 0 => 0
  | m + 1 => if 0 < (mh_mi L v m).toInt then mh_cnt L v m + 1 else mh_cnt L v m
def mh_hi (L : mh_Lw) (v : mh_V) : Nat → Int32
  | 0 => 0
  | m + 1 => if 0 < (mh_mi L v m).toInt then mh_ma32 (mh_hi L v m) (v.1 0 m + mh_mi L v m) else mh_hi L v m
def mh_fs (L : mh_Lw) (v : mh_V) : Nat → Int32
  | 0 => -2
  | m + 1 => if 0 < (mh_mi L v m).toInt ∧ (mh_cnt L v m).toInt = 0 then Int32.ofNat m else mh_fs L v m
theorem cnt_b (L : mh_Lw) (v : mh_V) : ∀ m, m ≤ 1000 → 0 ≤ (mh_cnt L v m).toInt ∧ (mh_cnt L v m).toInt ≤ (m : Int)
  | 0, _ => by show 0 ≤ (0 : Int32).toInt ∧ (0 : Int32).toInt ≤ _; have := kc_0; omega
  | m + 1, h => by
    have ih := cnt_b L v m (by omega)
    unfold mh_cnt
    split
    · rw [nn_inc ih.1 (m := 1000) (by omega) (by decide)]; omega
    · omega
theorem to_pos {L : mh_Lw} {v : mh_V} (hg : mh_rg v) (hB : mh_LB L) {c : Nat} (hc : c < 144) : (0 < (mh_to L v c).toInt) ↔ (0 < (mh_mi L v c).toInt) := by
  have h1 := hB 109 (mh_env v c 0)
  have h9 : (mh_mst 109).toInt = 99 := rfl
  have h2 := (hg c hc).1
  have h3 := h2.1; have h4 := h2.2
  have k0 := kc_0
  unfold mh_to
  split
  · rename_i h
    unfold mh_mi at h ⊢
    rw [mh_add (lo := 0) (hi := 1000) (by omega) (by decide)]
    omega
  · rename_i h
    constructor
    · intro q; omega
    · intro q; exact absurd q h
theorem cN_22 {k kl : Nat} (hk : mh_isV k) (hl : mh_isL kl) {L : mh_Lw} {v : mh_V} {s : mh_H} (h : mh_cN k kl L v s) {j : Nat} {x : Int32} : mh_cN k kl L v (mh_pI s 22 j x) := by
  have hk2 := kO_V hk
  have a1 := hk2.1; have a2 := hk2.2
  have hl2 := L40 hl
  exact cN_F (S := [(22, j)]) h (mh_F_pI mh_F_rf ⟨(22, j), by simp, rfl, Or.inr rfl⟩) h.2.2.2 (by simp; omega) (by simp; omega) (by simp)
theorem top_row {k kl : Nat} (hk : mh_isV k) (hl : mh_isL kl) {s : mh_H} (hp : mh_p3 s) (p : Int32) {b : Nat} (hb : b ≠ kl + 6) (hb2 : b ≠ kl + 7) : (f_eX1_top s k kl p).2.1 b = s.1 b := by
  refine F_row1 (fr_eX1_top s k hk kl hl p hp).1 (fun e he => ?_)
  simp only [S_eX1_top, List.mem_cons, List.not_mem_nil, or_false] at he
  rcases he with rfl | rfl
  · exact fun q => hb q.symm
  · exact fun q => hb2 q.symm
def mh_skI (L : mh_Lw) (v : mh_V) (k kl : Nat) (s : mh_H) (m : Nat) : Prop := mh_cN k kl L v s ∧ s.1 22 0 = mh_cnt L v m ∧ s.1 22 1 = mh_fs L v m ∧ s.1 22 2 = mh_hi L v m
theorem look_c {k kl : Nat} (hk : mh_isV k) (hl : mh_isL kl) {L : mh_Lw} {v : mh_V} {s : mh_H} (h : mh_cN k kl L v s) (hg : mh_rg v) (hB : mh_LB L) : mh_skI L v k kl (f_eX6_look s k kl) 144 := by
  have hl2 := L40 hl
  unfold f_eX6_look
  simp only [mh_lbE]
  refine mh_for (l_eX6_look_18_1 kl k) 144 (mh_skI L v k kl) (fun s => mh_skI L v k kl s 144) (by decide) ?_ ?_ 145 _ 0 0 rfl (by decide) ⟨cN_22 hk hl (cN_22 hk hl (cN_22 hk hl h)), ?_, ?_, ?_⟩ (by decide)
  · intro n s x m hx hm ⟨h1, h2, h3, h4⟩
    have k144 : (144 : Int32).toInt = 144 := rfl
    obtain ⟨t1, t2⟩ := top_c hk hl h1 hx hm
    have r22 : ∀ j, (f_eX1_top s k kl x).2.1 22 j = s.1 22 j := fun j => congrFun (top_row hk hl h1.2.2.2 x (by omega) (by omega)) j
    rw [l_eX6_look_18_1_s]
    unfold ls_eX6_look_18_1 j_eX6_look_65_3 j_eX6_look_81_2
    rw [if_pos (by omega)]
    simp only [mh_lbE, mh_lb2E]
    rw [t1]
    have hpos := to_pos hg hB hm (L := L)
    have hcb := cnt_b L v m (by omega)
    have k1 := kc_1
    generalize (f_eX1_top s k kl x).2 = q at t2 r22
    by_cases c0 : 0 < (mh_mi L v m).toInt
    · rw [if_pos (hpos.2 c0), r22 0, h2]
      have ec : mh_cnt L v (m + 1) = mh_cnt L v m + 1 := if_pos c0
      have hmt : mh_to L v m = v.1 0 m + mh_mi L v m := if_pos c0
      have eh : mh_hi L v (m + 1) = mh_ma32 (mh_hi L v m) (mh_to L v m) := by rw [hmt]; exact if_pos c0
      have hn := nn_inc hcb.1 (m := 1000) (by omega) (by decide)
      have key : ∀ y : Int32, y = mh_fs L v (m + 1) → ∃ s', mh_skI L v k kl s' (m + 1) ∧ l_eX6_look_18_1 kl k n (mh_pI (mh_pI (mh_pI q 22 0 (mh_cnt L v m + 1)) 22 1 y) 22 2 (mh_ma32 ((mh_pI (mh_pI q 22 0 (mh_cnt L v m + 1)) 22 1 y).1 22 2) (mh_to L v m))) (x + 1) = l_eX6_look_18_1 kl k n s' (x + 1) := by
        intro y hy
        refine ⟨_, ⟨cN_22 hk hl (cN_22 hk hl (cN_22 hk hl t2)), ?_, ?_, ?_⟩, rfl⟩
        · rw [pI_j (by decide), pI_j (by decide), pI_w, ec]
        · rw [pI_j (by decide), pI_w, hy]
        · rw [pI_w, pI_j (by decide), pI_j (by decide), r22 2, h4, eh]
      by_cases c1 : (mh_cnt L v m + 1).toInt = (1 : Int32).toInt
      · rw [if_pos c1]
        refine key x ?_
        have : (mh_cnt L v m).toInt = 0 := by omega
        rw [show mh_fs L v (m + 1) = Int32.ofNat m from if_pos ⟨c0, this⟩]
        exact i32_of hx (by omega)
      · rw [if_neg c1, pI_j (by decide), r22 1, h3]
        refine key _ ?_
        rw [show mh_fs L v (m + 1) = mh_fs L v m from if_neg (fun z => c1 (by have := z.2; omega))]
    · rw [if_neg (fun z => c0 (hpos.1 z))]
      refine ⟨q, ⟨t2, ?_, ?_, ?_⟩, rfl⟩
      · rw [r22 0, h2]; exact (if_neg c0).symm
      · rw [r22 1, h3]; exact (if_neg (fun z => c0 z.1)).symm
      · rw [r22 2, h4]; exact (if_neg c0).symm
  · intro n s x hx h1
    rw [l_eX6_look_18_1_s]
    unfold ls_eX6_look_18_1
    have k144 : (144 : Int32).toInt = 144 := rfl
    rw [if_neg (by omega)]
    exact h1
  · rw [pI_j (by decide), pI_j (by decide), pI_w]; rfl
  · rw [pI_j (by decide), pI_w]; rfl
  · rw [pI_w]; rfl
theorem misty_r {L : mh_Lw} {v : mh_V} {s : mh_H} (h : mh_rN L v s) : (f_eX10_misty s).1 = mh_cnt L v 144 ∧ mh_rN L v (f_eX10_misty s).2 := by
  unfold f_eX10_misty
  refine mh_forA (fun n (q : mh_H × Int32) x => l_eX10_misty_4_1 n q.1 x q.2) 144 (fun q m => mh_rN L v q.1 ∧ q.2 = mh_cnt L v m) (fun r => r.1 = mh_cnt L v 144 ∧ mh_rN L v r.2) (by decide) ?_ ?_ 145 (s, 0) 0 0 rfl (by decide) ⟨h, rfl⟩ (by decide)
  · intro n q x m hx hm ⟨h1, h2⟩
    have k144 : (144 : Int32).toInt = 144 := rfl
    obtain ⟨t1, t2⟩ := mist_r h1 hx hm
    rw [l_eX10_misty_4_1_s]
    unfold ls_eX10_misty_4_1
    rw [if_pos (by omega)]
    simp only [mh_lbE, mh_lb2E, Int32.add_zero]
    rw [t1, h2]
    by_cases c0 : 0 < (mh_mi L v m).toInt
    · rw [if_pos c0]
      exact ⟨((f_eX10_mistAt q.1 x).2, mh_cnt L v m + 1), ⟨t2, (if_pos c0).symm⟩, rfl⟩
    · rw [if_neg c0]
      exact ⟨((f_eX10_mistAt q.1 x).2, mh_cnt L v m), ⟨t2, (if_neg c0).symm⟩, rfl⟩
  · intro n q x hx ⟨h1, h2⟩
    rw [l_eX10_misty_4_1_s]
    unfold ls_eX10_misty_4_1
    have k144 : (144 : Int32).toInt = 144 := rfl
    rw [if_neg (by omega)]
    exact ⟨h2, h1⟩
theorem hitop_r {L : mh_Lw} {v : mh_V} {s : mh_H} (h : mh_rN L v s) : (f_eX10_highestTop s).1 = mh_hi L v 144 ∧ mh_rN L v (f_eX10_highestTop s).2 := by
  unfold f_eX10_highestTop
  refine mh_forA (fun n (q : mh_H × Int32) x => l_eX10_highestTop_4_1 n q.1 x q.2) 144 (fun q m => mh_rN L v q.1 ∧ q.2 = mh_hi L v m) (fun r => r.1 = mh_hi L v 144 ∧ mh_rN L v r.2) (by decide) ?_ ?_ 145 (s, 0) 0 0 rfl (by decide) ⟨h, rfl⟩ (by decide)
  · intro n q x m hx hm ⟨h1, h2⟩
    have k144 : (144 : Int32).toInt = 144 := rfl
    obtain ⟨t1, t2⟩ := mist_r h1 hx hm
    have g0 : (f_eX10_mistAt q.1 x).2.1 59 m = v.1 0 m := by rw [← t2.1]; exact (vr_at (r := 0) (vn_r hm (by decide)) (by decide)).symm
    rw [l_eX10_highestTop_4_1_s]
    unfold ls_eX10_highestTop_4_1 j_eX10_highestTop_42_2
    rw [if_pos (by omega)]
    simp only [mh_lbE, mh_lb2E, ix_n hx]
    rw [t1, h2, g0]
    by_cases c0 : 0 < (mh_mi L v m).toInt
    · rw [if_pos c0]
      have eh : mh_hi L v (m + 1) = if (mh_hi L v m).toInt < (v.1 0 m + mh_mi L v m).toInt then v.1 0 m + mh_mi L v m else mh_hi L v m := if_pos c0
      by_cases c1 : (mh_hi L v m).toInt < (v.1 0 m + mh_mi L v m).toInt
      · rw [if_pos c1] at eh ⊢
        exact ⟨((f_eX10_mistAt q.1 x).2, v.1 0 m + mh_mi L v m), ⟨t2, eh.symm⟩, rfl⟩
      · rw [if_neg c1] at eh ⊢
        exact ⟨((f_eX10_mistAt q.1 x).2, mh_hi L v m), ⟨t2, eh.symm⟩, rfl⟩
    · rw [if_neg c0]
      exact ⟨((f_eX10_mistAt q.1 x).2, mh_hi L v m), ⟨t2, (if_neg c0).symm⟩, rfl⟩
  · intro n q x hx ⟨h1, h2⟩
    rw [l_eX10_highestTop_4_1_s]
    unfold ls_eX10_highestTop_4_1
    have k144 : (144 : Int32).toInt = 144 := rfl
    rw [if_neg (by omega)]
    exact ⟨h2, h1⟩
theorem cnt_0 {L : mh_Lw} {v : mh_V} : ∀ {m : Nat}, m ≤ 1000 → ((mh_cnt L v m).toInt = 0 ↔ ∀ j, j < m → ¬ 0 < (mh_mi L v j).toInt)
  | 0, _ => ⟨fun _ j h => absurd h (Nat.not_lt_zero j), fun _ => kc_0⟩
  | m + 1, hm => by
    have ih := cnt_0 (L := L) (v := v) (m := m) (by omega)
    have hb := cnt_b L v m (by omega)
    unfold mh_cnt
    by_cases c : 0 < (mh_mi L v m).toInt
    · rw [if_pos c, nn_inc hb.1 (m := 1000) (by omega) (by decide)]
      exact ⟨fun h => by omega, fun h => absurd c (h m (by omega))⟩
    · rw [if_neg c, ih]
      refine ⟨fun h j hj => ?_, fun h j hj => h j (by omega)⟩
      rcases Nat.lt_or_ge j m with q | q
      · exact h j q
      · obtain rfl : j = m := by omega
        exact c
theorem fs_at {L : mh_Lw} {v : mh_V} {i : Nat} (h0 : ∀ j, j < i → ¬ 0 < (mh_mi L v j).toInt) (h1 : 0 < (mh_mi L v i).toInt) : ∀ m, m ≤ 1000 → i < m → mh_fs L v m = Int32.ofNat i
  | 0, _, h => absurd h (Nat.not_lt_zero i)
  | m + 1, hm, h => by
    unfold mh_fs
    rcases Nat.lt_or_ge i m with q | q
    · rw [if_neg (fun z => (cnt_0 (by omega)).1 z.2 i q h1)]
      exact fs_at h0 h1 m (by omega) q
    · obtain rfl : i = m := by omega
      rw [if_pos ⟨h1, (cnt_0 (by omega)).2 h0⟩]
theorem lomi_r {L : mh_Lw} (hB : mh_LB L) {v : mh_V} {s : mh_H} (h : mh_rN L v s) (hc : (mh_cnt L v 144).toInt ≠ 0) : (f_eX10_lowestMisty s).1 = mh_fs L v 144 ∧ mh_rN L v (f_eX10_lowestMisty s).2 := by
  unfold f_eX10_lowestMisty
  have key : ∀ (n : Nat) (s : mh_H) (x : Int32) (m : Nat), x.toInt = (m : Int) → mh_rN L v s → (∀ j, j < m → ¬ 0 < (mh_mi L v j).toInt) → m < 144 → 144 ≤ n + m → (l_eX10_lowestMisty_2_1 n s x).1 = mh_fs L v 144 ∧ mh_rN L v (l_eX10_lowestMisty_2_1 n s x).2 := by
    intro n
    induction n with
    | zero => intro s x m _ _ _ h1 h2; exfalso; omega
    | succ n ih =>
      intro s x m hx h1 h2 hm hn
      obtain ⟨t1, t2⟩ := mist_r h1 hx hm
      rw [l_eX10_lowestMisty_2_1_s]
      unfold ls_eX10_lowestMisty_2_1
      simp only [mh_lbE, mh_lb2E]
      rw [t1]
      have hb := hB 109 (mh_env v m 0)
      by_cases c0 : (mh_mi L v m).toInt = 0
      · rw [if_pos c0]
        have k1 : (1 : Int32).toInt = ((1 : Nat) : Int) := rfl
        have h3 : ∀ j, j < m + 1 → ¬ 0 < (mh_mi L v j).toInt := fun j hj => by
          rcases Nat.lt_or_ge j m with q | q
          · exact h2 j q
          · obtain rfl : j = m := by omega
            omega
        have hm1 : m + 1 < 144 := by
          rcases Nat.lt_or_ge (m + 1) 144 with q | q
          · exact q
          · exact absurd ((cnt_0 (by decide)).2 (fun j hj => h3 j (by omega))) hc
        exact ih _ (x + 1) (m + 1) (ix_add hx (by omega) k1 (by decide)) t2 h3 hm1 (by omega)
      · rw [if_neg c0]
        refine ⟨?_, t2⟩
        rw [fs_at h2 (by unfold mh_mi at c0 ⊢; omega) 144 (by decide) hm]
        exact i32_of hx (by omega)
  exact key 144 s 0 0 rfl h (fun j hj => absurd hj (Nat.not_lt_zero j)) (by decide) (by decide)
end
section
/-- a valley that the reference has set aside -/
def mh_sr (r : Nat) : Nat := if r = 0 then 85 else if r = 1 then 86 else if r = 2 then 83 else 84
def mh_sd (k : Nat) (s : mh_H) : mh_V := (fun r c => if c < mh_vn r ∧ r < 5 then (if r < 4 then s.1 (mh_sr r) (144 * k + c) else s.1 63 c) else 0, s.1 87 k, Int64.toInt32 (s.2.1 88 k))
theorem sd_ext {k : Nat} {s : mh_H} {v : mh_V} (h0 : ∀ r c, ¬ (c < mh_vn r ∧ r < 5) → v.1 r c = 0) (h1 : ∀ r c, c < 144 → r < 4 → s.1 (mh_sr r) (144 * k + c) = v.1 r c) (hw : ∀ c, c < 100 → s.1 63 c = v.1 4 c) (h2 : s.1 87 k = v.2.1) (h3 : Int64.toInt32 (s.2.1 88 k) = v.2.2) : mh_sd k s = v := by
  refine Prod.ext ?_ (Prod.ext h2 h3)
  funext r c
  show (if c < mh_vn r ∧ r < 5 then (if r < 4 then s.1 (mh_sr r) (144 * k + c) else s.1 63 c) else 0) = v.1 r c
  split
  · rename_i h
    split
    · rename_i hr
      refine h1 r c ?_ hr
      have := h.1
      unfold mh_vn at this
      rw [if_neg (by omega)] at this
      exact this
    · rename_i hr
      obtain rfl : r = 4 := by omega
      exact hw c h.1
  · rename_i h; exact (h0 r c h).symm
theorem sd_0 {k : Nat} {s : mh_H} {r c : Nat} (h : ¬ (c < mh_vn r ∧ r < 5)) : (mh_sd k s).1 r c = 0 := if_neg h
theorem sd_at {k r c : Nat} {s : mh_H} (hc : c < 144) (hr : r < 4) : (mh_sd k s).1 r c = s.1 (mh_sr r) (144 * k + c) := (if_pos ⟨vn_r hc hr, by omega⟩).trans (if_pos hr)
theorem sd_w {k c : Nat} {s : mh_H} (hc : c < 100) : (mh_sd k s).1 4 c = s.1 63 c := (if_pos ⟨vn_4 hc, by decide⟩).trans (if_neg (by decide))
theorem sd_F {S : List (Nat × Nat)} {k : Nat} {s s' : mh_H} (hF : mh_F S s s') (hS : ∀ e ∈ S, (e.1 < 83 ∨ 88 < e.1) ∧ e.1 ≠ 63) : mh_sd k s' = mh_sd k s := by
  have at_ : ∀ b j, (83 ≤ b ∧ b ≤ 88) ∨ b = 63 → s'.1 b j = s.1 b j ∧ s'.2.1 b j = s.2.1 b j := fun b j h => by
    have := hF b j (by rintro ⟨e, g1, g2, -⟩; have := hS e g1; omega)
    exact ⟨this.1, this.2.1⟩
  have sr : ∀ r, 83 ≤ mh_sr r ∧ mh_sr r ≤ 88 := fun r => by unfold mh_sr; by_cases a : r = 0 <;> by_cases b : r = 1 <;> by_cases c : r = 2 <;> simp [a, b, c]
  refine sd_ext (fun r c h => sd_0 h) (fun r c hc hr => ?_) (fun c hc => ?_) (at_ 87 k (Or.inl (by decide))).1 (congrArg Int64.toInt32 (at_ 88 k (Or.inl (by decide))).2)
  · rw [(at_ _ _ (Or.inl (sr r))).1, sd_at hc hr]
  · rw [(at_ 63 c (Or.inr rfl)).1, sd_w hc]
theorem sa_ix {p x : Int32} {k m : Nat} (hp : p.toInt = (k : Int)) (hk : k ≤ 1) (hx : x.toInt = (m : Int)) (hm : m < 144) : ((144 : Int32) * p + x).toNatClampNeg = 144 * k + m := by
  have k144 : (144 : Int32).toInt = 144 := rfl
  have e1 : ((144 : Int32) * p).toInt = ((144 * k : Nat) : Int) := by rw [mh_mul (lo := 0) (hi := 144) (by rw [k144]; omega) (by decide), k144, hp]; omega
  exact ix_n (ix_add e1 (by omega) hx (by omega))
def mh_saI (v : mh_V) (k : Nat) (s0 s : mh_H) (m : Nat) : Prop := (∀ b i, (b < 83 ∨ 86 < b) → s.1 b i = s0.1 b i) ∧ s.2 = s0.2 ∧ (∀ i, ¬ (144 * k ≤ i ∧ i < 144 * k + m) → ∀ b, 83 ≤ b → b ≤ 86 → s.1 b i = s0.1 b i) ∧ (∀ c, c < m → s.1 83 (144 * k + c) = v.1 2 c ∧ s.1 84 (144 * k + c) = v.1 3 c ∧ s.1 85 (144 * k + c) = v.1 0 c ∧ s.1 86 (144 * k + c) = v.1 1 c)
theorem sa_r {s : mh_H} {p : Int32} {k : Nat} (hp : p.toInt = (k : Int)) (hk : k ≤ 1) : mh_sd k (f_eX10_setsAside s p) = mh_vr s ∧ (∀ j, j ≤ 1 → j ≠ k → mh_sd j (f_eX10_setsAside s p) = mh_sd j s) := by
  have hv : ∀ r c, c < 144 → r < 4 → s.1 (59 + r) c = (mh_vr s).1 r c := fun r c hc hr => (vr_at (vn_r hc hr) (by omega)).symm
  unfold f_eX10_setsAside
  refine mh_for (l_eX10_setsAside_2_1 p) 144 (mh_saI (mh_vr s) k s) (fun s' => mh_sd k s' = mh_vr s ∧ (∀ j, j ≤ 1 → j ≠ k → mh_sd j s' = mh_sd j s)) (by decide) ?_ ?_ 145 s 0 0 rfl (by decide) ⟨fun _ _ _ => rfl, rfl, fun _ _ _ _ _ => rfl, fun c h => absurd h (Nat.not_lt_zero c)⟩ (by decide)
  · intro n s1 x m hx hm ⟨h1, h2, h3, h4⟩
    have k144 : (144 : Int32).toInt = 144 := rfl
    rw [l_eX10_setsAside_2_1_s]
    unfold ls_eX10_setsAside_2_1
    rw [if_pos (by omega)]
    simp only [mh_lbE, ix_n hx, sa_ix hp hk hx hm]
    rw [pI_o (show (62 : Nat) ≠ 83 by decide), pI_o (show (59 : Nat) ≠ 84 by decide), pI_o (show (59 : Nat) ≠ 83 by decide), pI_o (show (60 : Nat) ≠ 85 by decide), pI_o (show (60 : Nat) ≠ 84 by decide), pI_o (show (60 : Nat) ≠ 83 by decide)]
    rw [h1 61 m (Or.inl (by decide)), h1 62 m (Or.inl (by decide)), h1 59 m (Or.inl (by decide)), h1 60 m (Or.inl (by decide)), hv 2 m hm (by decide), hv 3 m hm (by decide), hv 0 m hm (by decide), hv 1 m hm (by decide)]
    refine ⟨_, ?_, rfl⟩
    refine ⟨?_, h2, ?_, ?_⟩
    · intro b i hb
      rw [pI_o (by omega), pI_o (by omega), pI_o (by omega), pI_o (by omega)]
      exact h1 b i hb
    · intro i hi b b1 b2
      have hne : i ≠ 144 * k + m := by omega
      rw [pI_j hne, pI_j hne, pI_j hne, pI_j hne]
      exact h3 i (by omega) b b1 b2
    · intro c hc
      by_cases q : c = m
      · subst q
        rw [pI_o (by decide), pI_o (by decide), pI_o (by decide), pI_w, pI_o (by decide), pI_o (by decide), pI_w, pI_o (by decide), pI_w, pI_w]
        exact ⟨rfl, rfl, rfl, rfl⟩
      · have hne : 144 * k + c ≠ 144 * k + m := by omega
        rw [pI_j hne, pI_j hne, pI_j hne, pI_j hne, pI_j hne, pI_j hne, pI_j hne, pI_j hne, pI_j hne, pI_j hne, pI_j hne, pI_j hne, pI_j hne, pI_j hne, pI_j hne, pI_j hne]
        exact h4 c (by omega)
  · intro n s1 x hx ⟨h1, h2, h3, h4⟩
    rw [l_eX10_setsAside_2_1_s]
    unfold ls_eX10_setsAside_2_1
    have k144 : (144 : Int32).toInt = 144 := rfl
    rw [if_neg (by omega)]
    simp only [mh_lbE, ix_n hp]
    have sr : ∀ r, 83 ≤ mh_sr r ∧ mh_sr r ≤ 86 := fun r => by unfold mh_sr; by_cases a : r = 0 <;> by_cases b : r = 1 <;> by_cases c : r = 2 <;> simp [a, b, c]
    refine ⟨sd_ext (fun r c h => vr_0 h) (fun r c hc hr => ?_) (fun c hc => ?_) ?_ ?_, fun j hj hjk => ?_⟩
    · show (mh_pI s1 87 k (s1.1 57 2)).1 (mh_sr r) (144 * k + c) = _
      rw [pI_o (by have := sr r; omega)]
      obtain ⟨a1, a2, a3, a4⟩ := h4 c hc
      rcases (show r = 0 ∨ r = 1 ∨ r = 2 ∨ r = 3 by omega) with rfl | rfl | rfl | rfl
      · exact a3
      · exact a4
      · exact a1
      · exact a2
    · show (mh_pI s1 87 k (s1.1 57 2)).1 63 c = _
      rw [pI_o (by decide), h1 63 c (Or.inl (by decide))]
      exact (vr_at (r := 4) (vn_4 hc) (by decide)).symm
    · show (mh_pI s1 87 k (s1.1 57 2)).1 87 k = _
      rw [pI_w, h1 57 2 (Or.inl (by decide))]
      rfl
    · rw [pL_w]
      show Int64.toInt32 (s1.2.1 57 4) = _
      rw [h2]
      rfl
    · refine sd_ext (fun r c h => sd_0 h) (fun r c hc hr => ?_) (fun c hc => ?_) ?_ ?_
      · show (mh_pI s1 87 k (s1.1 57 2)).1 (mh_sr r) (144 * j + c) = _
        rw [pI_o (by have := sr r; omega), h3 (144 * j + c) (by omega) _ (sr r).1 (sr r).2, sd_at hc hr]
      · show (mh_pI s1 87 k (s1.1 57 2)).1 63 c = _
        rw [pI_o (by decide), h1 63 c (Or.inl (by decide)), sd_w hc]
      · show (mh_pI s1 87 k (s1.1 57 2)).1 87 j = _
        rw [pI_j hjk, h1 87 j (Or.inr (by decide))]
        rfl
      · show Int64.toInt32 (if 88 = 88 ∧ j = k then _ else (mh_pI s1 87 k (s1.1 57 2)).2.1 88 j) = _
        rw [if_neg (fun z => hjk z.2)]
        show Int64.toInt32 (s1.2.1 88 j) = _
        rw [h2]
        rfl
def mh_pbI (v : mh_V) (s0 s : mh_H) (m : Nat) : Prop := (∀ b i, (b < 59 ∨ 62 < b) → s.1 b i = s0.1 b i) ∧ s.2 = s0.2 ∧ (∀ r c, c < m → r < 4 → s.1 (59 + r) c = v.1 r c)
theorem pb_r {s : mh_H} {p : Int32} {k : Nat} (hp : p.toInt = (k : Int)) (hk : k ≤ 1) : mh_vr (f_eX10_putsBack s p) = mh_sd k s := by
  have hv : ∀ r c, c < 144 → r < 4 → s.1 (mh_sr r) (144 * k + c) = (mh_sd k s).1 r c := fun r c hc hr => (sd_at hc hr).symm
  unfold f_eX10_putsBack
  refine mh_for (l_eX10_putsBack_2_1 p) 144 (mh_pbI (mh_sd k s) s) (fun s' => mh_vr s' = mh_sd k s) (by decide) ?_ ?_ 145 s 0 0 rfl (by decide) ⟨fun _ _ _ => rfl, rfl, fun r c h => absurd h (Nat.not_lt_zero c)⟩ (by decide)
  · intro n s1 x m hx hm ⟨h1, h2, h4⟩
    have k144 : (144 : Int32).toInt = 144 := rfl
    rw [l_eX10_putsBack_2_1_s]
    unfold ls_eX10_putsBack_2_1
    rw [if_pos (by omega)]
    simp only [mh_lbE, ix_n hx, sa_ix hp hk hx hm]
    rw [pI_o (show (84 : Nat) ≠ 61 by decide), pI_o (show (85 : Nat) ≠ 62 by decide), pI_o (show (85 : Nat) ≠ 61 by decide), pI_o (show (86 : Nat) ≠ 59 by decide), pI_o (show (86 : Nat) ≠ 62 by decide), pI_o (show (86 : Nat) ≠ 61 by decide)]
    rw [h1 83 _ (Or.inr (by decide)), h1 84 _ (Or.inr (by decide)), h1 85 _ (Or.inr (by decide)), h1 86 _ (Or.inr (by decide))]
    have e0 : s.1 85 (144 * k + m) = (mh_sd k s).1 0 m := hv 0 m hm (by decide)
    have e1 : s.1 86 (144 * k + m) = (mh_sd k s).1 1 m := hv 1 m hm (by decide)
    have e2 : s.1 83 (144 * k + m) = (mh_sd k s).1 2 m := hv 2 m hm (by decide)
    have e3 : s.1 84 (144 * k + m) = (mh_sd k s).1 3 m := hv 3 m hm (by decide)
    rw [e0, e1, e2, e3]
    refine ⟨_, ?_, rfl⟩
    refine ⟨?_, h2, ?_⟩
    · intro b i hb
      rw [pI_o (by omega), pI_o (by omega), pI_o (by omega), pI_o (by omega)]
      exact h1 b i hb
    · intro r c hc hr
      by_cases q : c = m
      · subst q
        rcases (show r = 0 ∨ r = 1 ∨ r = 2 ∨ r = 3 by omega) with rfl | rfl | rfl | rfl
        · rw [pI_o (by decide), show 59 + 0 = 59 from rfl, pI_w]
        · rw [show 59 + 1 = 60 from rfl, pI_w]
        · rw [pI_o (by decide), pI_o (by decide), pI_o (by decide), show 59 + 2 = 61 from rfl, pI_w]
        · rw [pI_o (by decide), pI_o (by decide), show 59 + 3 = 62 from rfl, pI_w]
      · rw [pI_j q, pI_j q, pI_j q, pI_j q]
        exact h4 r c (by omega) hr
  · intro n s1 x hx ⟨h1, h2, h4⟩
    rw [l_eX10_putsBack_2_1_s]
    unfold ls_eX10_putsBack_2_1
    have k144 : (144 : Int32).toInt = 144 := rfl
    rw [if_neg (by omega)]
    simp only [mh_lbE, ix_n hp]
    refine vr_ext (fun r c h => sd_0 h) (fun r c hc hr => ?_) ?_ ?_
    · show (mh_pI s1 57 2 (s1.1 87 k)).1 (59 + r) c = _
      rw [pI_o (by omega)]
      by_cases q : r = 4
      · subst q
        rw [show 59 + 4 = 63 from rfl, h1 63 c (Or.inr (by decide)), sd_w hc]
      · have hc2 : c < 144 := by unfold mh_vn at hc; rw [if_neg q] at hc; exact hc
        exact h4 r c hc2 (by omega)
    · show (mh_pI s1 57 2 (s1.1 87 k)).1 57 2 = _
      rw [pI_w, h1 87 k (Or.inr (by decide))]
      rfl
    · rw [pL_w]
      show Int64.toInt32 (s1.2.1 88 k) = _
      rw [h2]
      rfl
end
section
theorem fq_ni9 (s : mh_H) (p : Int32) : ((f_eX9_isNight s p).toInt = 0) ↔ ¬ (1 ≤ p.toInt ∧ p.toInt ≤ 60) := by
  unfold f_eX9_isNight
  have h0 := kc_0; have h1 := kc_1; have h6 : (60 : Int32).toInt = 60 := rfl
  split
  · omega
  · split <;> omega
theorem fq_ni10 (s : mh_H) (p : Int32) : ((f_eX10_isNight s p).toInt = 0) ↔ ¬ (1 ≤ p.toInt ∧ p.toInt ≤ 60) := by
  unfold f_eX10_isNight
  have a1 : (1 : Int64).toInt = 1 := rfl
  have a6 : (60 : Int64).toInt = 60 := rfl
  simp only [mh_lbE, fq_lies, Int32.toInt_toInt64, a1, a6]
theorem pA_v {s : mh_H} {a b i : Nat} {f : Nat → Int32} : (mh_pA s a f).1 b i = if b = a then f i else s.1 b i := rfl
theorem pA_o {s : mh_H} {a b i : Nat} {f : Nat → Int32} (h : b ≠ a) : (mh_pA s a f).1 b i = s.1 b i := if_neg h
theorem pA_w {s : mh_H} {a i : Nat} {f : Nat → Int32} : (mh_pA s a f).1 a i = f i := if_pos rfl
theorem V_ne {k u : Nat} (hk : mh_isV k) (hu : mh_isV u) (h : k ≠ u) : k + 6 ≤ u ∨ u + 6 ≤ k := by
  rcases hk with rfl | rfl | rfl <;> rcases hu with rfl | rfl | rfl <;> first | omega | exact absurd rfl h
theorem cf_c {k u : Nat} (hk : mh_isV k) (hu : mh_isV u) (hne : k ≠ u) (s : mh_H) : mh_vc k (f_eX8_copyFrom s k u) = mh_vc u s ∧ (f_eX8_copyFrom s k u).1 k 7 = s.1 u 7 := by
  have hd := V_ne hk hu hne
  have t1 : (144 : Int32).toNatClampNeg = 144 := rfl
  have t2 : (100 : Int32).toNatClampNeg = 100 := rfl
  unfold f_eX8_copyFrom
  simp only [mh_lbE, t1, t2]
  refine ⟨vc_ext (fun r c h => vc_0 h) (fun r c hc hr => ?_) ?_ ?_, ?_⟩
  · rw [vc_at hc hr, pI_o (by omega), pI_o (by omega), pI_o (by omega)]
    rcases (show r = 0 ∨ r = 1 ∨ r = 2 ∨ r = 3 ∨ r = 4 by omega) with rfl | rfl | rfl | rfl | rfl
    · have hc2 : c < 144 := hc
      rw [pA_o (by omega), pA_o (by omega), pA_o (by omega), pA_o (by omega), show k + 1 + 0 = k + 1 from rfl, pA_w, if_pos hc2]
    · have hc2 : c < 144 := hc
      rw [pA_o (by omega), pA_o (by omega), pA_o (by omega), show k + 1 + 1 = k + 2 from rfl, pA_w, if_pos hc2, pA_o (by omega)]
    · have hc2 : c < 144 := hc
      rw [pA_o (by omega), pA_o (by omega), show k + 1 + 2 = k + 3 from rfl, pA_w, if_pos hc2, pA_o (by omega), pA_o (by omega)]
    · have hc2 : c < 144 := hc
      rw [pA_o (by omega), show k + 1 + 3 = k + 4 from rfl, pA_w, if_pos hc2, pA_o (by omega), pA_o (by omega), pA_o (by omega)]
    · have hc2 : c < 100 := hc
      rw [show k + 1 + 4 = k + 5 from rfl, pA_w, if_pos hc2, pA_o (by omega), pA_o (by omega), pA_o (by omega), pA_o (by omega)]
  · rw [pI_j (by decide), pI_j (by decide), pI_w, pA_o (by omega), pA_o (by omega), pA_o (by omega), pA_o (by omega), pA_o (by omega)]; rfl
  · rw [pI_j (by decide), pI_w, pI_o (by omega), pA_o (by omega), pA_o (by omega), pA_o (by omega), pA_o (by omega), pA_o (by omega)]; rfl
  · rw [pI_w, pI_o (by omega), pI_o (by omega), pA_o (by omega), pA_o (by omega), pA_o (by omega), pA_o (by omega), pA_o (by omega)]
theorem V13 : mh_isV 13 := Or.inr (Or.inr rfl)
theorem V1 : mh_isV 1 := Or.inl rfl
theorem V7 : mh_isV 7 := Or.inr (Or.inl rfl)
theorem cN_copy {kl : Nat} (hl : mh_isL kl) {L : mh_Lw} {v : mh_V} {s : mh_H} (h : mh_cN 1 kl L v s) : mh_cN 13 kl L v (f_eX8_copyFrom s 13 1) := by
  have hF := fr_eX8_copyFrom s 13 V13 1 V1 h.2.2.2
  have hl2 := L40 hl
  refine ⟨(cf_c V13 V1 (by decide) s).1.trans h.1, ?_, ?_, hF.2⟩
  · rw [← h.2.1]
    refine (hF.1 0 11 ?_).2.2
    rintro ⟨e, g1, g2, -⟩
    simp only [S_eX8_copyFrom, List.mem_cons, List.not_mem_nil, or_false] at g1
    rcases g1 with rfl | rfl | rfl | rfl | rfl | rfl | rfl | rfl <;> simp at g2
  · refine LC_F h.2.2.1 hF.1 (fun e g1 => ?_)
    simp only [S_eX8_copyFrom, List.mem_cons, List.not_mem_nil, or_false] at g1
    rcases g1 with rfl | rfl | rfl | rfl | rfl | rfl | rfl | rfl <;> simp <;> omega
theorem rN_sa {L : mh_Lw} {v : mh_V} {s : mh_H} (h : mh_rN L v s) (p : Int32) : mh_rN L v (f_eX10_setsAside s p) := by
  have hF := fr_eX10_setsAside s p h.2.2.1
  refine ⟨(vr_fr hF.1 (by decide)).trans h.1, LR_mono h.2.1 (fun i a b => F_row1 hF.1 (fun e he => ?_)) (F_at1 hF.1 (fun e he => ?_)), hF.2, h.2.2.2⟩
  · simp only [S_eX10_setsAside, List.mem_cons, List.not_mem_nil, or_false] at he
    rcases he with rfl | rfl | rfl | rfl | rfl | rfl <;> simp <;> omega
  · simp only [S_eX10_setsAside, List.mem_cons, List.not_mem_nil, or_false] at he
    rcases he with rfl | rfl | rfl | rfl | rfl | rfl <;> simp
theorem vr_w (s : mh_H) : s.1 57 2 = (mh_vr s).2.1 := rfl
theorem vc_w (k : Nat) (s : mh_H) : s.1 k 5 = (mh_vc k s).2.1 := rfl
def mh_nI (x many fS : Int32) : Prop := 0 ≤ many.toInt ∧ many.toInt ≤ x.toInt ∧ ((many.toInt = 0 ∧ fS = -2) ∨ (1 ≤ many.toInt ∧ 0 ≤ fS.toInt))
theorem night_lp {kl : Nat} (hl : mh_isL kl) {L : mh_Lw} (hB : mh_LB L) {p1 p2 : Int32} (hp1 : p1.toInt ≤ 60) : ∀ (n : Nat) (v : mh_V) (sc sr : mh_H) (x many fS fC hS h : Int32), mh_cN 13 kl L v sc → mh_rN L v sr → mh_rg v → v.2.1.toInt + (n : Int) ≤ 2000000000 → 0 ≤ x.toInt → mh_nI x many fS → (l_eX9_night_49_1 p1 p2 n sc x many fS fC hS h).1 = (l_eX10_night_47_1 p1 p2 n sr x many fS fC hS h).1 := by
  intro n
  induction n with
  | zero => intros; rfl
  | succ n ih =>
    intro v sc sr x many fS fC hS h hc hr hg hb hx0 hn
    have k1 := kc_1
    have km2 : (-2 : Int32).toInt = -2 := rfl
    rw [l_eX9_night_49_1_s, l_eX10_night_47_1_s]
    unfold ls_eX9_night_49_1 ls_eX10_night_47_1 j_eX9_night_121_3 j_eX9_night_152_2 j_eX10_night_95_3 j_eX10_night_110_2
    by_cases hx : x.toInt < p1.toInt
    · rw [if_pos hx, if_pos hx]
      have c1 := cN_pass V13 hl hc hg
      have hg1 := stp_g (L := L) hg
      have hbn : (mh_stp L v).2.1.toInt = v.2.1.toInt + 1 := by rw [stp_n]; exact nn_inc hr.2.2.2 (m := 2000000000) (by omega) (by decide)
      obtain ⟨d0, d1, d2, d3⟩ := look_c V13 hl c1 hg1 hB
      have r1 := rN_step hr hg (by omega)
      obtain ⟨t1, r2⟩ := hitop_r r1
      obtain ⟨t2, r3⟩ := misty_r r2
      have hxn := nn_inc hx0 (m := 60) (by omega) (by decide)
      simp only [mh_lbE, mh_lb2E]
      rw [hc.2.1, c1.2.1, d1, t2, t1]
      have rest : ∀ (w : mh_V), w = mh_stp L v → w.2.1.toInt = v.2.1.toInt + 1 := fun w hw => by rw [hw]; exact hbn
      generalize hw : mh_stp L v = w at *
      generalize f_eX6_look (f_eX0_pass sc 13 kl) 13 kl = s3 at d0 d1 d2 d3 ⊢
      generalize (f_eX10_misty (f_eX10_highestTop (f_eX10_stepOne sr)).2).2 = r4 at r3 ⊢
      obtain ⟨n1, n2, n3⟩ := hn
      by_cases z : (mh_cnt L w 144).toInt = 0
      · rw [if_pos z, if_pos z]
        exact ih w s3 r4 (x + 1) many fS fC hS h d0 r3 hg1 (by omega) (by omega) ⟨n1, by omega, n3⟩
      · rw [if_neg z, if_neg z]
        have e5 : s3.1 13 5 = w.2.1 := by rw [vc_w, d0.1]
        have e2 : r4.1 57 2 = w.2.1 := by rw [vr_w, r3.1]
        have hw0 := r3.2.2.2
        have hmn := nn_inc n1 (m := 60) (by omega) (by decide)
        rw [e5, e2, d3, d2]
        rcases n3 with ⟨m0, f0⟩ | ⟨m1, f1⟩
        · obtain ⟨t3, r5⟩ := lomi_r hB r3 z
          have e2' : (f_eX10_lowestMisty r4).2.1 57 2 = w.2.1 := by rw [vr_w, r5.1]
          rw [if_pos m0, if_pos (show fS.toInt = (-2 : Int32).toInt by rw [f0]), t3, e2']
          by_cases y : h.toInt < (mh_hi L w 144).toInt
          · rw [if_pos y, if_pos y]
            exact ih w s3 _ (x + 1) (many + 1) w.2.1 _ w.2.1 _ d0 r5 hg1 (by omega) (by omega) ⟨by omega, by omega, Or.inr ⟨by omega, hw0⟩⟩
          · rw [if_neg y, if_neg y]
            exact ih w s3 _ (x + 1) (many + 1) w.2.1 _ _ _ d0 r5 hg1 (by omega) (by omega) ⟨by omega, by omega, Or.inr ⟨by omega, hw0⟩⟩
        · rw [if_neg (show ¬ many.toInt = 0 by omega), if_neg (show ¬ fS.toInt = (-2 : Int32).toInt by rw [km2]; omega)]
          by_cases y : h.toInt < (mh_hi L w 144).toInt
          · rw [if_pos y, if_pos y]
            exact ih w s3 r4 (x + 1) (many + 1) fS fC w.2.1 _ d0 r3 hg1 (by omega) (by omega) ⟨by omega, by omega, Or.inr ⟨by omega, f1⟩⟩
          · rw [if_neg y, if_neg y]
            exact ih w s3 r4 (x + 1) (many + 1) fS fC hS h d0 r3 hg1 (by omega) (by omega) ⟨by omega, by omega, Or.inr ⟨by omega, f1⟩⟩
    · rw [if_neg hx, if_neg hx]
      have k2 : (2 : Int32).toInt = 2 := rfl
      have k3 : (3 : Int32).toInt = 3 := rfl
      simp only [mh_lbE, k1, k2, k3]
      by_cases a0 : p2.toInt = 0
      · rw [if_pos a0, if_pos a0]
      · rw [if_neg a0, if_neg a0]
        by_cases a1 : p2.toInt = 1
        · rw [if_pos a1, if_pos a1]
        · rw [if_neg a1, if_neg a1]
          by_cases a2 : p2.toInt = 2
          · rw [if_pos a2, if_pos a2]
          · rw [if_neg a2, if_neg a2]
            by_cases a3 : p2.toInt = 3
            · rw [if_pos a3, if_pos a3]
            · rw [if_neg a3, if_neg a3]
theorem night_eq {kl : Nat} (hl : mh_isL kl) {L : mh_Lw} (hB : mh_LB L) {v : mh_V} {sc sr : mh_H} (hc : mh_cN 1 kl L v sc) (hr : mh_rN L v sr) (hg : mh_rg v) (hb : v.2.1.toInt ≤ 1000000000) (p1 p2 : Int32) : (f_eX9_night sc p1 p2).1 = (f_eX10_night sr p1 p2).1 := by
  have a0 : (0 : Int64).toInt = 0 := rfl
  have a4 : (4 : Int64).toInt = 4 := rfl
  have b4 : (4 : Int32).toInt = 4 := rfl
  unfold f_eX9_night f_eX10_night
  obtain ⟨m, hm⟩ : ∃ m : Nat, m = 61 := ⟨_, rfl⟩
  rw [show (61 : Nat) = m by omega]
  simp only [mh_lbE, fq_ni9, fq_ni10, fq_within, fq_lies, Int32.toInt_toInt64, a0, a4, b4]
  by_cases c1 : 1 ≤ p1.toInt ∧ p1.toInt ≤ 60
  · rw [if_neg (not_not_intro c1), if_neg (not_not_intro c1)]
    by_cases c2 : 0 ≤ p2.toInt ∧ p2.toInt ≤ 4
    · rw [if_neg (not_not_intro c2), if_neg (not_not_intro c2)]
      exact night_lp hl hB c1.2 m v _ _ 0 0 (-2) (-2) (-2) (-2) (cN_copy hl hc) (rN_sa hr 0) hg (by omega) (by decide) ⟨by decide, by decide, Or.inl ⟨by decide, rfl⟩⟩
    · rw [if_pos c2, if_pos c2]
  · rw [if_pos c1, if_pos c1]
end
section
theorem vr_g (s : mh_H) {c : Nat} (hc : c < 144) : s.1 59 c = (mh_vr s).1 0 c := (vr_at (r := 0) (vn_r hc (by decide)) (by decide)).symm
theorem fq_pl9 (s : mh_H) (x y : Int32) : ((f_eX9_isPlace s x y).toInt = 0) ↔ ¬ ((0 ≤ x.toInt ∧ x.toInt ≤ 11) ∧ (0 ≤ y.toInt ∧ y.toInt ≤ 11)) := by
  unfold f_eX9_isPlace
  have h0 := kc_0; have h1 := kc_1; have h9 : (11 : Int32).toInt = 11 := rfl
  simp only [mh_lbE, fq_within, h9]
  split
  · omega
  · split <;> omega
theorem fq_si10 (s : mh_H) (x : Int32) : ((f_eX10_isSide s x).toInt = 0) ↔ ¬ (0 ≤ x.toInt ∧ x.toInt ≤ 11) := by
  unfold f_eX10_isSide
  have a0 : (0 : Int64).toInt = 0 := rfl
  have a1 : (11 : Int64).toInt = 11 := rfl
  simp only [mh_lbE, fq_lies, Int32.toInt_toInt64, a0, a1]
theorem fq_ce10 (s : mh_H) (x y : Int32) : ((f_eX10_isCell s x y).toInt = 0) ↔ ¬ ((0 ≤ x.toInt ∧ x.toInt ≤ 11) ∧ (0 ≤ y.toInt ∧ y.toInt ≤ 11)) := by
  unfold f_eX10_isCell
  have h0 := kc_0; have h1 := kc_1
  simp only [mh_lbE, fq_si10]
  split
  · omega
  · split <;> omega
theorem ce_at (s : mh_H) (x y : Int32) : f_eX10_cellAt s x y = (12 : Int32) * y + x := by
  unfold f_eX10_cellAt
  simp only [mh_lbE]
theorem ce_ix {x y : Int32} (hx : 0 ≤ x.toInt ∧ x.toInt ≤ 11) (hy : 0 ≤ y.toInt ∧ y.toInt ≤ 11) : ∃ c : Nat, c < 144 ∧ ((12 : Int32) * y + x).toInt = (c : Int) := by
  have k12 : (12 : Int32).toInt = 12 := rfl
  have e1 : ((12 : Int32) * y).toInt = 12 * y.toInt := by rw [mh_mul (lo := 0) (hi := 132) (by rw [k12]; omega) (by decide), k12]
  refine ⟨(12 * y.toInt + x.toInt).toNat, by omega, ?_⟩
  rw [mh_add (lo := 0) (hi := 143) (by omega) (by decide), e1]
  omega
theorem sun_lp {kl : Nat} (hl : mh_isL kl) {L : mh_Lw} (hB : mh_LB L) {p3 p4 p : Int32} (hp4 : p4.toInt ≤ 60) (hp3 : 0 ≤ p3.toInt) {c : Nat} (hp : p.toInt = (c : Int)) (hc : c < 144) : ∀ (n : Nat) (v : mh_V) (sc sr : mh_H) (x a : Int32), mh_cN 13 kl L v sc → mh_rN L v sr → mh_rg v → v.2.1.toInt + (n : Int) ≤ 2000000000 → 0 ≤ x.toInt → (l_eX9_sun_66_1 p3 p4 p n sc x a).1 = (l_eX10_sun_58_1 p3 p4 p n sr x a).1 := by
  intro n
  induction n with
  | zero => intros; rfl
  | succ n ih =>
    intro v sc sr x a h1 h2 hg hb hx0
    rw [l_eX9_sun_66_1_s, l_eX10_sun_58_1_s]
    unfold ls_eX9_sun_66_1 ls_eX10_sun_58_1 j_eX9_sun_108_2 j_eX10_sun_98_3 j_eX10_sun_103_2
    by_cases hx : x.toInt < p4.toInt
    · rw [if_pos hx, if_pos hx]
      have c1 := cN_pass V13 hl h1 hg
      have hg1 := stp_g (L := L) hg
      have hbn : (mh_stp L v).2.1.toInt = v.2.1.toInt + 1 := by rw [stp_n]; exact nn_inc h2.2.2.2 (m := 2000000000) (by omega) (by decide)
      obtain ⟨t0, c2⟩ := top_c V13 hl c1 hp hc
      have r1 := rN_step h2 hg (by omega)
      obtain ⟨t1, r2⟩ := mist_r r1 hp hc
      have hxn := nn_inc hx0 (m := 60) (by omega) (by decide)
      simp only [mh_lbE, mh_lb2E, ix_n hp]
      rw [h1.2.1, c1.2.1, t0, t1]
      generalize hw : mh_stp L v = w at *
      generalize (f_eX1_top (f_eX0_pass sc 13 kl) 13 kl p).2 = s3 at c2 ⊢
      generalize (f_eX10_mistAt (f_eX10_stepOne sr) p).2 = r4 at r2 ⊢
      have g0 : r4.1 59 c = w.1 0 c := by rw [vr_g r4 hc, r2.1]
      have hbm := hB 109 (mh_env w c 0)
      have k0 := kc_0
      rw [g0]
      have goal : ∀ y, (l_eX9_sun_66_1 p3 p4 p n s3 (x + 1) y).1 = (l_eX10_sun_58_1 p3 p4 p n r4 (x + 1) y).1 := fun y => ih w s3 r4 (x + 1) y c2 r2 hg1 (by omega) (by omega)
      unfold mh_to
      by_cases z : (mh_mi L w c).toInt = 0
      · rw [if_neg (show ¬ 0 < (mh_mi L w c).toInt by omega), if_neg (by omega), if_pos z]
        exact goal _
      · rw [if_pos (show 0 < (mh_mi L w c).toInt by unfold mh_mi at z ⊢; omega), if_neg z]
        by_cases y : p3.toInt < (w.1 0 c + mh_mi L w c).toInt
        · rw [if_pos y, if_pos y, Int32.add_zero]
          exact goal _
        · rw [if_neg y, if_neg y]
          exact goal _
    · rw [if_neg hx, if_neg hx]
      simp only [mh_lbE]
theorem sun_eq {kl : Nat} (hl : mh_isL kl) {L : mh_Lw} (hB : mh_LB L) {v : mh_V} {sc sr : mh_H} (hc : mh_cN 1 kl L v sc) (hr : mh_rN L v sr) (hg : mh_rg v) (hb : v.2.1.toInt ≤ 1000000000) (p1 p2 p3 p4 : Int32) : (f_eX9_sun sc p1 p2 p3 p4).1 = (f_eX10_sun sr p1 p2 p3 p4).1 := by
  have a1 : (198 : Int64).toInt = 198 := rfl
  have b1 : (198 : Int32).toInt = 198 := rfl
  unfold f_eX9_sun f_eX10_sun
  obtain ⟨m, hm⟩ : ∃ m : Nat, m = 61 := ⟨_, rfl⟩
  rw [show (61 : Nat) = m by omega]
  simp only [mh_lbE, fq_ni9, fq_ni10, fq_pl9, fq_ce10, fq_lies, Int32.toInt_toInt64, a1, b1, ce_at]
  by_cases c1 : (0 ≤ p1.toInt ∧ p1.toInt ≤ 11) ∧ (0 ≤ p2.toInt ∧ p2.toInt ≤ 11)
  · rw [if_neg (not_not_intro c1), if_neg (not_not_intro c1)]
    obtain ⟨c, hc1, hc2⟩ := ce_ix c1.1 c1.2
    rw [ix_n hc2]
    have e1 : sc.1 2 c = v.1 0 c := by rw [← hc.1]; exact (vc_at (k := 1) (r := 0) (vn_r hc1 (by decide)) (by decide)).symm
    have e2 : sr.1 59 c = v.1 0 c := by rw [← hr.1]; exact (vr_at (r := 0) (vn_r hc1 (by decide)) (by decide)).symm
    rw [e1, e2]
    by_cases c2 : 1 ≤ p4.toInt ∧ p4.toInt ≤ 60
    · rw [if_neg (not_not_intro c2), if_neg (not_not_intro c2)]
      by_cases c3 : 198 < p3.toInt
      · rw [if_pos c3, if_pos (by omega)]
      · rw [if_neg c3]
        by_cases c4 : p3.toInt < (v.1 0 c).toInt
        · rw [if_pos c4, if_pos (by omega)]
        · rw [if_neg c4, if_neg (by omega)]
          have := (hg c hc1).1.1
          exact sun_lp hl hB c2.2 (by omega) hc2 hc1 m v _ _ 0 0 (cN_copy hl hc) (rN_sa hr 0) hg (by omega) (by decide)
    · rw [if_pos c2, if_pos c2]
  · rw [if_pos c1, if_pos c1]
/-- the least height free of frost, so far -/
def mh_hf (v : mh_V) (f : Int32) (a : Int32) : Nat → Int32
  | 0 => a
  | m + 1 => if (v.1 2 m).toInt < f.toInt then mh_hf v f a m else mh_ma32 (mh_hf v f a m) (v.1 0 m + 1)
theorem hf_max (v : mh_V) (f a : Int32) (ha : 0 ≤ a.toInt) : ∀ m, (mh_hf v f a m).toInt = max a.toInt (mh_hf v f 0 m).toInt
  | 0 => by show a.toInt = max a.toInt (0 : Int32).toInt; have := kc_0; omega
  | m + 1 => by
    have ih := hf_max v f a ha m
    unfold mh_hf
    split
    · exact ih
    · rw [mh_ma32_i, mh_ma32_i]; omega
theorem hfo_c {s : mh_H} {v : mh_V} (h : mh_vc 13 s = v) (f : Int32) : f_eX9_heightFreeOf s f = mh_hf v f 0 144 := by
  unfold f_eX9_heightFreeOf
  refine mh_forA (fun n (q : Int32) x => l_eX9_heightFreeOf_4_1 s f n x q) 144 (fun q m => q = mh_hf v f 0 m) (fun r => r = mh_hf v f 0 144) (by decide) ?_ ?_ 145 0 0 0 rfl (by decide) rfl (by decide)
  · intro n q x m hx hm hq
    have k144 : (144 : Int32).toInt = 144 := rfl
    have e1 : s.1 16 m = v.1 2 m := by rw [← h]; exact (vc_at (k := 13) (r := 2) (vn_r hm (by decide)) (by decide)).symm
    have e2 : s.1 14 m = v.1 0 m := by rw [← h]; exact (vc_at (k := 13) (r := 0) (vn_r hm (by decide)) (by decide)).symm
    rw [l_eX9_heightFreeOf_4_1_s]
    unfold ls_eX9_heightFreeOf_4_1 j_eX9_heightFreeOf_40_2
    rw [if_pos (by omega)]
    simp only [mh_lbE, ix_n hx]
    rw [e1, e2, hq]
    by_cases z : (v.1 2 m).toInt < f.toInt
    · rw [if_pos z]
      exact ⟨_, (if_pos z).symm, rfl⟩
    · rw [if_neg z]
      exact ⟨_, (if_neg z).symm, rfl⟩
  · intro n q x hx hq
    rw [l_eX9_heightFreeOf_4_1_s]
    unfold ls_eX9_heightFreeOf_4_1
    have k144 : (144 : Int32).toInt = 144 := rfl
    rw [if_neg (by omega)]
    exact hq
theorem bin_r {lo : mh_H → Int32 → Int32 → Int32 × mh_H} {s : mh_H} {v : mh_V} (h : mh_vr s = v) (f x0 a : Int32) : l_eX10_band_44_2 lo s f x0 145 0 a = lo s (x0 + 1) (mh_hf v f a 144) := by
  refine mh_forA (fun n (q : Int32) x => l_eX10_band_44_2 lo s f x0 n x q) 144 (fun q m => q = mh_hf v f a m) (fun r => r = lo s (x0 + 1) (mh_hf v f a 144)) (by decide) ?_ ?_ 145 a 0 0 rfl (by decide) rfl (by decide)
  · intro n q x m hx hm hq
    have k144 : (144 : Int32).toInt = 144 := rfl
    have e1 : s.1 61 m = v.1 2 m := by rw [← h]; exact (vr_at (r := 2) (vn_r hm (by decide)) (by decide)).symm
    have e2 : s.1 59 m = v.1 0 m := by rw [← h]; exact (vr_at (r := 0) (vn_r hm (by decide)) (by decide)).symm
    rw [l_eX10_band_44_2_s]
    unfold ls_eX10_band_44_2 j_eX10_band_86_3
    rw [if_pos (by omega)]
    simp only [mh_lbE, ix_n hx]
    rw [e1, e2, hq]
    by_cases z : (v.1 2 m).toInt < f.toInt
    · rw [if_pos z]
      exact ⟨_, (if_pos z).symm, rfl⟩
    · rw [if_neg z]
      have eh : mh_hf v f a (m + 1) = if (mh_hf v f a m).toInt < (v.1 0 m + 1).toInt then v.1 0 m + 1 else mh_hf v f a m := if_neg z
      by_cases y : (mh_hf v f a m).toInt < (v.1 0 m + 1).toInt
      · rw [if_pos y] at eh ⊢
        exact ⟨_, eh.symm, rfl⟩
      · rw [if_neg y] at eh ⊢
        exact ⟨_, eh.symm, rfl⟩
  · intro n q x hx hq
    rw [l_eX10_band_44_2_s]
    unfold ls_eX10_band_44_2
    have k144 : (144 : Int32).toInt = 144 := rfl
    rw [if_neg (by omega)]
    simp only [mh_lbE]
    rw [hq]
theorem band_lp {kl : Nat} (hl : mh_isL kl) {L : mh_Lw} {p1 p2 : Int32} (hp1 : p1.toInt ≤ 60) : ∀ (n : Nat) (v : mh_V) (sc sr : mh_H) (x a : Int32), mh_cN 13 kl L v sc → mh_rN L v sr → mh_rg v → v.2.1.toInt + (n : Int) ≤ 2000000000 → 0 ≤ x.toInt → 0 ≤ a.toInt → (l_eX9_band_37_1 p1 p2 n sc x a).1 = (l_eX10_band_31_1 p1 p2 n sr x a).1 := by
  intro n
  induction n with
  | zero => intros; rfl
  | succ n ih =>
    intro v sc sr x a h1 h2 hg hb hx0 ha
    rw [l_eX9_band_37_1_s, l_eX10_band_31_1_s]
    unfold ls_eX9_band_37_1 ls_eX10_band_31_1
    by_cases hx : x.toInt < p1.toInt
    · rw [if_pos hx, if_pos hx]
      have c1 := cN_pass V13 hl h1 hg
      have hg1 := stp_g (L := L) hg
      have hbn : (mh_stp L v).2.1.toInt = v.2.1.toInt + 1 := by rw [stp_n]; exact nn_inc h2.2.2.2 (m := 2000000000) (by omega) (by decide)
      have r1 := rN_step h2 hg (by omega)
      have hxn := nn_inc hx0 (m := 60) (by omega) (by decide)
      simp only [mh_lbE]
      rw [h1.2.1, hfo_c c1.1, bin_r r1.1]
      have e : mh_ma32 a (mh_hf (mh_stp L v) p2 0 144) = mh_hf (mh_stp L v) p2 a 144 := Int32.toInt_inj.mp (by rw [mh_ma32_i, hf_max _ _ a ha])
      rw [e]
      exact ih _ _ _ (x + 1) _ c1 r1 hg1 (by omega) (by omega) (by rw [hf_max _ _ a ha]; omega)
    · rw [if_neg hx, if_neg hx]
      simp only [mh_lbE]
      split <;> rfl
theorem band_eq {kl : Nat} (hl : mh_isL kl) {L : mh_Lw} {v : mh_V} {sc sr : mh_H} (hc : mh_cN 1 kl L v sc) (hr : mh_rN L v sr) (hg : mh_rg v) (hb : v.2.1.toInt ≤ 1000000000) (p1 p2 : Int32) : (f_eX9_band sc p1 p2).1 = (f_eX10_band sr p1 p2).1 := by
  have a0 : (1 : Int64).toInt = 1 := rfl
  have a4 : (9999 : Int64).toInt = 9999 := rfl
  have b4 : (9999 : Int32).toInt = 9999 := rfl
  have b1 := kc_1
  unfold f_eX9_band f_eX10_band
  obtain ⟨m, hm⟩ : ∃ m : Nat, m = 61 := ⟨_, rfl⟩
  rw [show (61 : Nat) = m by omega]
  simp only [mh_lbE, fq_ni9, fq_ni10, fq_lies, Int32.toInt_toInt64, a0, a4, b4, b1]
  by_cases c1 : 1 ≤ p1.toInt ∧ p1.toInt ≤ 60
  · rw [if_neg (not_not_intro c1), if_neg (not_not_intro c1)]
    by_cases c2 : p2.toInt < 1
    · rw [if_pos c2, if_pos (by omega)]
    · rw [if_neg c2]
      by_cases c3 : 9999 < p2.toInt
      · rw [if_pos c3, if_pos (by omega)]
      · rw [if_neg c3, if_neg (by omega)]
        exact band_lp hl c1.2 m v _ _ 0 0 (cN_copy hl hc) (rN_sa hr 0) hg (by omega) (by decide) (by decide)
  · rw [if_pos c1, if_pos c1]
end

/-- ways that k draws of 0 .. m sum up to x, as 64 bits -/
def wy_a (R : Nat → Int64) (x : Nat) : Nat → Int64
  | 0 => 0
  | j + 1 => wy_a R x j + R (x - j)
def wy_st (m : Nat) (R : Nat → Int64) (x : Nat) : Int64 := wy_a R x (min m x + 1)
def wy_0 (x : Nat) : Int64 := if x = 0 then 1 else 0
def wy (m : Nat) : Nat → Nat → Int64
  | 0 => wy_0
  | k + 1 => wy_st m (wy m k)
def wy_al (c : Int64) : Nat → Int64
  | 0 => 1
  | k + 1 => wy_al c k * c
def wy_sum (R : Nat → Int64) : Nat → Nat → Int64 → Int64
  | 0, _, a => a
  | n + 1, i, a => wy_sum R n (i + 1) (a + R i)
theorem wy_a1 (R : Nat → Int64) (x : Nat) : wy_a R x 1 = R x := by
  show (0 : Int64) + R (x - 0) = R x
  rw [Int64.zero_add]; rfl
theorem wy_cl {R R' : Nat → Int64} {x : Nat} (h : ∀ i, i ≤ x → R i = R' i) : ∀ j, wy_a R x j = wy_a R' x j
  | 0 => rfl
  | j + 1 => by
    show wy_a R x j + R (x - j) = wy_a R' x j + R' (x - j)
    rw [wy_cl h j, h _ (Nat.sub_le x j)]
theorem wy_z {R : Nat → Int64} {n : Nat} : ∀ {i : Nat} {a : Int64}, (∀ j, i ≤ j → R j = 0) → wy_sum R n i a = a := by
  induction n with
  | zero => intro i a _; rfl
  | succ n ih =>
    intro i a h
    show wy_sum R n (i + 1) (a + R i) = a
    rw [h i (Nat.le_refl i), Int64.add_zero]
    exact ih (fun j hj => h j (by omega))
theorem wy_cut {R : Nat → Int64} {k : Nat} : ∀ {n i : Nat} {a : Int64}, (∀ j, i + n ≤ j → R j = 0) → wy_sum R (n + k) i a = wy_sum R n i a := by
  intro n
  induction n with
  | zero => intro i a h; rw [Nat.zero_add]; exact wy_z (fun j hj => h j (by omega))
  | succ n ih =>
    intro i a h
    rw [show n + 1 + k = n + k + 1 by omega]
    show wy_sum R (n + k) (i + 1) (a + R i) = wy_sum R n (i + 1) (a + R i)
    exact ih (fun j hj => h j (by omega))
theorem wy_az {R : Nat → Int64} {x b : Nat} (h : ∀ i, b < i → R i = 0) : ∀ j, b + j ≤ x + 1 → (j = 0 ∨ b + j ≤ x) → wy_a R x j = 0
  | 0, _, _ => rfl
  | j + 1, h1, h2 => by
    show wy_a R x j + R (x - j) = 0
    rw [wy_az h j (by omega) (by omega), h (x - j) (by omega)]; rfl
theorem wy_zero (m : Nat) : ∀ k i, m * k < i → wy m k i = 0
  | 0, i, h => by
    show (if i = 0 then (1 : Int64) else 0) = 0
    exact if_neg (by omega)
  | k + 1, i, h => by
    show wy_a (wy m k) i (min m i + 1) = 0
    have e : m * (k + 1) = m * k + m := Nat.mul_succ m k
    rw [e] at h
    exact wy_az (b := m * k) (fun j hj => wy_zero m k j hj) _ (by omega) (by omega)
/-- bounds -/
theorem wy_ab {R : Nat → Int64} {x : Nat} {B : Int} (hB : 0 ≤ B) (hB2 : B ≤ 1000000000000) (h : ∀ i, 0 ≤ (R i).toInt ∧ (R i).toInt ≤ B) : ∀ j, j ≤ 10 → 0 ≤ (wy_a R x j).toInt ∧ (wy_a R x j).toInt ≤ (j : Int) * B
  | 0, _ => ⟨by show 0 ≤ (0 : Int64).toInt; decide, by show (0 : Int64).toInt ≤ ((0 : Nat) : Int) * B; rw [show (0 : Int64).toInt = 0 from rfl, show ((0 : Nat) : Int) = 0 from rfl, Int.zero_mul]; decide⟩
  | j + 1, hj => by
    have ih := wy_ab (x := x) hB hB2 h j (by omega)
    have hr := h (x - j)
    show 0 ≤ (wy_a R x j + R (x - j)).toInt ∧ (wy_a R x j + R (x - j)).toInt ≤ ((j + 1 : Nat) : Int) * B
    have e : ((j + 1 : Nat) : Int) * B = (j : Int) * B + B := by rw [Int.natCast_add, Int.add_mul]; rw [show ((1 : Nat) : Int) = 1 from rfl, Int.one_mul]
    have e2 : (j : Int) * B ≤ 10 * B := Int.mul_le_mul_of_nonneg_right (by omega) hB
    rw [e, Int64.toInt_add, Int.bmod_eq_of_le (by omega) (by omega)]
    omega
theorem wy_pw {m k : Nat} (hm : m ≤ 9) (hk : k ≤ 12) : (m + 1) ^ k ≤ 1000000000000 :=
  Nat.le_trans (Nat.pow_le_pow_left (show m + 1 ≤ 10 by omega) k) (Nat.le_trans (Nat.pow_le_pow_right (by decide) hk) (by decide))
theorem wy_b {m : Nat} (hm : m ≤ 9) : ∀ k, k ≤ 12 → ∀ x, 0 ≤ (wy m k x).toInt ∧ (wy m k x).toInt ≤ (((m + 1) ^ k : Nat) : Int)
  | 0, _, x => by
    show 0 ≤ (if x = 0 then (1 : Int64) else 0).toInt ∧ (if x = 0 then (1 : Int64) else 0).toInt ≤ _
    rw [Nat.pow_zero]
    split
    · exact ⟨by decide, by decide⟩
    · exact ⟨by decide, by decide⟩
  | k + 1, hk, x => by
    have ih := wy_b hm k (by omega)
    have hp := wy_pw hm (show k ≤ 12 by omega)
    obtain ⟨h1, h2⟩ := wy_ab (R := wy m k) (x := x) (B := (((m + 1) ^ k : Nat) : Int)) (by omega) (by omega) ih (min m x + 1) (by omega)
    refine ⟨h1, Int.le_trans h2 ?_⟩
    have e : (((m + 1) ^ (k + 1) : Nat) : Int) = ((m + 1 : Nat) : Int) * (((m + 1) ^ k : Nat) : Int) := by rw [Nat.pow_succ, Nat.mul_comm, Int.natCast_mul]
    rw [e]
    exact Int.mul_le_mul_of_nonneg_right (by omega) (by omega)
theorem wy_sb {R : Nat → Int64} (h : ∀ i, 0 ≤ (R i).toInt ∧ (R i).toInt ≤ 1000000000000) : ∀ (n i : Nat) (a : Int64), n ≤ 200 → 0 ≤ a.toInt → a.toInt + (n : Int) * 1000000000000 ≤ 200000000000000 → 0 ≤ (wy_sum R n i a).toInt ∧ (wy_sum R n i a).toInt ≤ a.toInt + (n : Int) * 1000000000000
  | 0, i, a, _, h0, h1 => ⟨h0, by show a.toInt ≤ _; omega⟩
  | n + 1, i, a, hn, h0, h1 => by
    have hr := h i
    have e : (a + R i).toInt = a.toInt + (R i).toInt := by
      rw [Int64.toInt_add, Int.bmod_eq_of_le (by omega) (by omega)]
    have ih := wy_sb h n (i + 1) (a + R i) (by omega) (by omega) (by omega)
    show 0 ≤ (wy_sum R n (i + 1) (a + R i)).toInt ∧ (wy_sum R n (i + 1) (a + R i)).toInt ≤ _
    omega
theorem wy_alb {m : Nat} (hm : m ≤ 9) {c : Int64} (hc : c.toInt = ((m + 1 : Nat) : Int)) : ∀ k, k ≤ 12 → (wy_al c k).toInt = (((m + 1) ^ k : Nat) : Int)
  | 0, _ => by rw [Nat.pow_zero]; rfl
  | k + 1, hk => by
    have ih := wy_alb hm hc k (by omega)
    have hp := wy_pw hm hk
    show (wy_al c k * c).toInt = _
    have e : (((m + 1) ^ (k + 1) : Nat) : Int) = (((m + 1) ^ k : Nat) : Int) * ((m + 1 : Nat) : Int) := by rw [Nat.pow_succ, Int.natCast_mul]
    rw [Int64.toInt_mul, ih, hc, ← e, Int.bmod_eq_of_le (by omega) (by omega)]
/-- the class: one push -/
theorem wp_in {R : Nat → Int64} {M m : Nat} (lo : mh_H → Int32 → mh_H) {p x : Int32} (hp : p.toInt = (M : Int)) (hM : M ≤ 9) (hx : x.toInt = (m : Int)) (hm2 : m ≤ 108) {s : mh_H} (hR : ∀ i, i < m → s.2.1 36 i = R i) :
    ∀ (n : Nat) (q : mh_H) (y : Int32) (j : Nat), y.toInt = (j : Int) → 1 ≤ j → j ≤ min M m + 1 → min M m + 1 < n + j → q.2.1 36 m = wy_a R m j → (∀ i, i ≠ m → q.2.1 36 i = s.2.1 36 i) →
      ∃ q' : mh_H, q'.2.1 36 m = wy_st M R m ∧ (∀ i, i ≠ m → q'.2.1 36 i = s.2.1 36 i) ∧ l_eX2_push_9_2 lo p x n q y = lo q' (x + (-1)) := by
  intro n
  induction n with
  | zero => intro q y j _ _ h2 h3; exfalso; omega
  | succ n ih =>
    intro q y j hy h1 h2 h3 h4 h5
    rw [l_eX2_push_9_2_s]
    unfold ls_eX2_push_9_2
    simp only [mh_lbE]
    have go : ∀ (_ : j = min M m + 1), ∃ q' : mh_H, q'.2.1 36 m = wy_st M R m ∧ (∀ i, i ≠ m → q'.2.1 36 i = s.2.1 36 i) ∧ j_eX2_push_42_3 lo q x = lo q' (x + (-1)) := by
      intro e
      refine ⟨q, ?_, h5, ?_⟩
      · rw [h4, e]; rfl
      · unfold j_eX2_push_42_3
        rw [mh_lbE]
    by_cases g1 : p.toInt < y.toInt
    · rw [if_pos g1]
      exact go (by omega)
    · rw [if_neg g1]
      by_cases g2 : x.toInt < y.toInt
      · rw [if_pos g2]
        exact go (by omega)
      · rw [if_neg g2]
        have ex : x.toNatClampNeg = m := ix_n hx
        have ey : (x - y).toNatClampNeg = m - j := ix_n (ix_sub hx (by omega) hy (by omega) (by omega))
        have k1 : (1 : Int32).toInt = ((1 : Nat) : Int) := rfl
        rw [ex, ey]
        have e1 : (mh_pL q 36 m (q.2.1 36 m + q.2.1 36 (m - j))).2.1 36 m = wy_a R m (j + 1) := by
          rw [pL_w, h4, h5 _ (by omega), hR _ (by omega)]; rfl
        refine ih _ (y + 1) (j + 1) (ix_add hy (by omega) k1 (by decide)) (by omega) (by omega) (by omega) e1 (fun i hi => ?_)
        rw [pL_v, if_neg (fun t => hi t.2)]
        exact h5 i hi
theorem wp_out {R : Nat → Int64} {M : Nat} {p : Int32} (hp : p.toInt = (M : Int)) (hM : M ≤ 9) : ∀ (n : Nat) (s : mh_H) (x : Int32) (m : Nat), x.toInt = (m : Int) → m ≤ 108 → m < n → (∀ i, i ≤ m → s.2.1 36 i = R i) → (∀ i, m < i → i ≤ 108 → s.2.1 36 i = wy_st M R i) → ∀ i, i ≤ 108 → (l_eX2_push_3_1 p n s x).2.1 36 i = wy_st M R i := by
  intro n
  induction n with
  | zero => intro s x m _ _ h; exfalso; omega
  | succ n ih =>
    intro s x m hx hm hn h1 h2 i hi
    rw [l_eX2_push_3_1_s]
    unfold ls_eX2_push_3_1
    rcases Nat.eq_zero_or_pos m with g | g
    · rw [if_neg (by omega)]
      rcases Nat.eq_zero_or_pos i with gi | gi
      · subst gi
        rw [h1 0 (by omega)]
        show R 0 = wy_a R 0 (min M 0 + 1)
        rw [Nat.min_zero, Nat.zero_add, wy_a1]
      · exact h2 i (by omega) hi
    · rw [if_pos (by omega)]
      obtain ⟨q', a1, a2, a3⟩ := wp_in (R := R) (l_eX2_push_3_1 p n) hp hM hx hm (s := s) (fun i hi => h1 i (by omega)) 14 s 1 1 rfl (by omega) (by omega) (by omega) (by rw [wy_a1]; exact h1 m (by omega)) (fun _ _ => rfl)
      rw [a3]
      have hx1 : (x + (-1)).toInt = ((m - 1 : Nat) : Int) := by
        have k1 : (-1 : Int32).toInt = -1 := rfl
        rw [Int32.toInt_add, k1, hx, Int.bmod_eq_of_le (by omega) (by omega)]; omega
      refine ih q' (x + (-1)) (m - 1) hx1 (by omega) (by omega) (fun i hi => ?_) (fun i hi hi2 => ?_) i hi
      · rw [a2 i (by omega)]; exact h1 i (by omega)
      · rcases Nat.lt_or_ge m i with g3 | g3
        · rw [a2 i (by omega)]; exact h2 i g3 hi2
        · obtain rfl : i = m := by omega
          exact a1
theorem wp_push {R : Nat → Int64} {M : Nat} {p : Int32} (hp : p.toInt = (M : Int)) (hM : M ≤ 9) {s : mh_H} (h : ∀ i, i ≤ 108 → s.2.1 36 i = R i) : ∀ i, i ≤ 108 → (f_eX2_push s p).2.1 36 i = wy_st M R i :=
  wp_out hp hM 109 s 108 108 rfl (by decide) (by decide) h (fun i h1 h2 => absurd h2 (by omega))
theorem wy_fill {s : mh_H} : ∀ i, i < 109 → (f_eJ7_fill_wa s 0).2.1 36 i = 0 := by
  unfold f_eJ7_fill_wa
  have a1 : (109 : Int32).toInt = 109 := rfl
  refine mh_for (l_eJ7_fill_wa_6_1 0) 109 (fun s' m => ∀ i, i < m → s'.2.1 36 i = 0) (fun s' => ∀ i, i < 109 → s'.2.1 36 i = 0) (by decide) ?_ ?_ 128 s 0 0 rfl (by decide) (fun i h => absurd h (Nat.not_lt_zero i)) (by decide)
  · intro n s' x m hx hm hi
    refine ⟨mh_pL s' 36 m 0, fun i h => ?_, ?_⟩
    · rw [pL_v]
      split
      · rfl
      · exact hi i (by omega)
    · rw [l_eJ7_fill_wa_6_1_s]
      unfold ls_eJ7_fill_wa_6_1
      rw [if_pos (by omega)]
      simp only [mh_lbE]
      rw [ix_n hx]
  · intro n s' x hx hi
    rw [l_eJ7_fill_wa_6_1_s]
    unfold ls_eJ7_fill_wa_6_1
    rw [if_neg (by omega)]
    exact hi
theorem wy_sumc {R : Nat → Int64} {s : mh_H} (h : ∀ i, i ≤ 108 → s.2.1 36 i = R i) : ∀ (n : Nat) (x : Int32) (m : Nat) (a : Int64), x.toInt = (m : Int) → m ≤ 200 → 109 < n + m → 0 < n → (l_eX2_breaking_41_2 s n x a).1 = wy_sum R (109 - m) m a := by
  intro n
  have a1 : (109 : Int32).toInt = 109 := rfl
  induction n with
  | zero => intro x m a _ _ _ h; exact absurd h (by decide)
  | succ n ih =>
    intro x m a hx hm hn _
    rw [l_eX2_breaking_41_2_s]
    unfold ls_eX2_breaking_41_2
    rcases Nat.lt_or_ge m 109 with g | g
    · rw [if_pos (by omega)]
      simp only [mh_lbE]
      have k1 : (1 : Int32).toInt = ((1 : Nat) : Int) := rfl
      rw [ih (x + 1) (m + 1) _ (ix_add hx (by omega) k1 (by decide)) (by omega) (by omega) (by omega), ix_n hx, h m (by omega)]
      rw [show 109 - m = (109 - (m + 1)) + 1 by omega]
      rfl
    · rw [if_neg (by omega), show 109 - m = 0 by omega]
      rfl
theorem wy_brk {s : mh_H} {p1 p2 p3 : Int32} {P K M : Nat} (h1 : p1.toInt = (P : Int)) (hP : P ≤ 200) (h2 : p2.toInt = (K : Int)) (hK : K ≤ 12) (h3 : p3.toInt = (M : Int)) (hM : M ≤ 9) : (f_eX2_breaking s p1 p2 p3).1 = wy_sum (wy M K) (109 - P) P 0 := by
  unfold f_eX2_breaking
  simp only [mh_lbE]
  have e0 : ∀ i, i ≤ 108 → (mh_pL (f_eJ7_fill_wa s 0) 36 (0 : Int32).toNatClampNeg 1).2.1 36 i = wy M 0 i := by
    intro i hi
    rw [show (0 : Int32).toNatClampNeg = 0 from rfl, pL_v]
    show (if 36 = 36 ∧ i = 0 then (1 : Int64) else (f_eJ7_fill_wa s 0).2.1 36 i) = if i = 0 then 1 else 0
    by_cases g : i = 0
    · rw [if_pos ⟨rfl, g⟩, if_pos g]
    · rw [if_neg (fun t => g t.2), if_neg g]; exact wy_fill i (by omega)
  generalize mh_pL (f_eJ7_fill_wa s 0) 36 (0 : Int32).toNatClampNeg 1 = q at e0
  refine mh_for (l_eX2_breaking_18_1 p1 p2 p3) K (fun s' m => ∀ i, i ≤ 108 → s'.2.1 36 i = wy M m i) (fun r => r.1 = wy_sum (wy M K) (109 - P) P 0) (by omega) ?_ ?_ 15 q 0 0 rfl (by omega) e0 (by omega)
  · intro n s' x m hx hm hi
    refine ⟨f_eX2_push s' p3, wp_push h3 hM hi, ?_⟩
    rw [l_eX2_breaking_18_1_s]
    unfold ls_eX2_breaking_18_1
    rw [if_pos (by omega)]
    simp only [mh_lbE]
  · intro n s' x hx hi
    rw [l_eX2_breaking_18_1_s]
    unfold ls_eX2_breaking_18_1
    rw [if_neg (by omega)]
    exact wy_sumc hi 200 p1 P 0 h1 hP (by omega) (by decide)
theorem wy_all {p2 p3 : Int32} {K : Nat} (h2 : p2.toInt = (K : Int)) (hK : K ≤ 12) (s : mh_H) : f_eX2_all s p2 p3 = wy_al (Int32.toInt64 (p3 + 1)) K := by
  have lp : ∀ (n : Nat) (x : Int32) (m : Nat), x.toInt = (m : Int) → m ≤ K → K < n + m → l_eX2_all_5_1 p2 p3 n x (wy_al (Int32.toInt64 (p3 + 1)) m) = wy_al (Int32.toInt64 (p3 + 1)) K := by
    intro n
    induction n with
    | zero => intro x m _ h g; exfalso; omega
    | succ n ih =>
      intro x m hx hm hn
      rw [l_eX2_all_5_1_s]
      unfold ls_eX2_all_5_1
      rcases Nat.lt_or_ge m K with g | g
      · rw [if_pos (by omega)]
        simp only [mh_lbE]
        have k1 : (1 : Int32).toInt = ((1 : Nat) : Int) := rfl
        exact ih (x + 1) (m + 1) (ix_add hx (by omega) k1 (by decide)) (by omega) (by omega)
      · obtain rfl : m = K := by omega
        rw [if_neg (by omega)]
  exact lp 15 0 0 rfl (by omega) (by omega)
/-- the reference -/
theorem wr_in {R : Nat → Int64} {M m : Nat} (lo : mh_H → Int32 → Int64 × mh_H) {p x : Int32} (hp : p.toInt = (M : Int)) (hM : M ≤ 9) (hx : x.toInt = (m : Int)) (hm2 : m ≤ 120) {s : mh_H} (hR : ∀ i, i < 121 → s.2.1 100 i = R i) :
    ∀ (n : Nat) (q : mh_H) (y : Int32) (j : Nat), y.toInt = (j : Int) → j ≤ min M m + 1 → min M m + 1 < n + j → q.2.1 101 m = wy_a R m j → (∀ i, i ≠ m → q.2.1 101 i = s.2.1 101 i) → (∀ i, q.2.1 100 i = s.2.1 100 i) →
      ∃ q' : mh_H, q'.2.1 101 m = wy_st M R m ∧ (∀ i, i ≠ m → q'.2.1 101 i = s.2.1 101 i) ∧ (∀ i, q'.2.1 100 i = s.2.1 100 i) ∧ l_eX10_lid_117_6 lo p x n q y = lo q' (x + 1) := by
  intro n
  induction n with
  | zero => intro q y j _ h2 h3; exfalso; omega
  | succ n ih =>
    intro q y j hy h2 h3 h4 h5 h6
    rw [l_eX10_lid_117_6_s]
    unfold ls_eX10_lid_117_6
    simp only [mh_lbE]
    have go : ∀ (_ : j = min M m + 1), ∃ q' : mh_H, q'.2.1 101 m = wy_st M R m ∧ (∀ i, i ≠ m → q'.2.1 101 i = s.2.1 101 i) ∧ (∀ i, q'.2.1 100 i = s.2.1 100 i) ∧ j_eX10_lid_156_7 lo q x = lo q' (x + 1) := by
      intro e
      refine ⟨q, ?_, h5, h6, ?_⟩
      · rw [h4, e]; rfl
      · unfold j_eX10_lid_156_7
        rw [mh_lbE]
    by_cases g1 : p.toInt < y.toInt
    · rw [if_pos g1]
      exact go (by omega)
    · rw [if_neg g1]
      by_cases g2 : x.toInt < y.toInt
      · rw [if_pos g2]
        exact go (by omega)
      · rw [if_neg g2]
        have ex : x.toNatClampNeg = m := ix_n hx
        have ey : (x - y).toNatClampNeg = m - j := ix_n (ix_sub hx (by omega) hy (by omega) (by omega))
        have k1 : (1 : Int32).toInt = ((1 : Nat) : Int) := rfl
        rw [ex, ey]
        have e1 : (mh_pL q 101 m (q.2.1 101 m + q.2.1 100 (m - j))).2.1 101 m = wy_a R m (j + 1) := by
          rw [pL_w, h4, h6, hR _ (by omega)]; rfl
        refine ih _ (y + 1) (j + 1) (ix_add hy (by omega) k1 (by decide)) (by omega) (by omega) e1 (fun i hi => ?_) (fun i => ?_)
        · rw [pL_v, if_neg (fun t => hi t.2)]
          exact h5 i hi
        · rw [pL_v, if_neg (fun t => absurd t.1 (by decide))]
          exact h6 i
theorem wr_copy {W : Nat → Int64} (lo : mh_H → Int32 → Int64 → Int64 × mh_H) {p x : Int32} {y : Int64} {s : mh_H} (h : ∀ i, i < 121 → s.2.1 101 i = W i) (Post : Int64 × mh_H → Prop) (kk : ∀ s', (∀ i, i < 121 → s'.2.1 100 i = W i) → Post (lo s' (x + 1) (y * Int32.toInt64 (p + 1)))) : Post (l_eX10_lid_165_5 lo p x y 122 s 0) := by
  have a1 : (121 : Int32).toInt = 121 := rfl
  refine mh_for (l_eX10_lid_165_5 lo p x y) 121 (fun s' m => (∀ i, i < 121 → s'.2.1 101 i = W i) ∧ ∀ i, i < m → s'.2.1 100 i = W i) Post (by decide) ?_ ?_ 122 s 0 0 rfl (by decide) ⟨h, fun i g => absurd g (Nat.not_lt_zero i)⟩ (by decide)
  · intro n s' z m hz hm hi
    refine ⟨mh_pL s' 100 m (W m), ⟨fun i g => ?_, fun i g => ?_⟩, ?_⟩
    · rw [pL_v, if_neg (fun t => absurd t.1 (by decide))]; exact hi.1 i g
    · rw [pL_v]
      split
      · rename_i t; rw [t.2]
      · rename_i t; exact hi.2 i (by have : i ≠ m := fun e => t ⟨rfl, e⟩; omega)
    · rw [l_eX10_lid_165_5_s]
      unfold ls_eX10_lid_165_5
      rw [if_pos (by omega)]
      simp only [mh_lbE]
      rw [ix_n hz, hi.1 m hm]
  · intro n s' z hz hi
    rw [l_eX10_lid_165_5_s]
    unfold ls_eX10_lid_165_5
    rw [if_neg (by omega)]
    simp only [mh_lbE]
    exact kk s' hi.2
theorem wr_one {R : Nat → Int64} {M : Nat} (lo : mh_H → Int32 → Int64 → Int64 × mh_H) {p x : Int32} {y : Int64} (hp : p.toInt = (M : Int)) (hM : M ≤ 9) {s : mh_H} (h : ∀ i, i < 121 → s.2.1 100 i = R i) (Post : Int64 × mh_H → Prop) (kk : ∀ s', (∀ i, i < 121 → s'.2.1 100 i = wy_st M R i) → Post (lo s' (x + 1) (y * Int32.toInt64 (p + 1)))) : Post (l_eX10_lid_99_4 lo p x y 122 s 0) := by
  have a1 : (121 : Int32).toInt = 121 := rfl
  refine mh_for (l_eX10_lid_99_4 lo p x y) 121 (fun s' m => (∀ i, i < 121 → s'.2.1 100 i = R i) ∧ ∀ i, i < m → s'.2.1 101 i = wy_st M R i) Post (by decide) ?_ ?_ 122 s 0 0 rfl (by decide) ⟨h, fun i g => absurd g (Nat.not_lt_zero i)⟩ (by decide)
  · intro n s' z m hz hm hi
    rw [l_eX10_lid_99_4_s]
    unfold ls_eX10_lid_99_4
    rw [if_pos (by omega)]
    simp only [mh_lbE]
    rw [ix_n hz]
    have e0 : ∀ i, i < 121 → (mh_pL s' 101 m 0).2.1 100 i = R i := fun i g => by
      rw [pL_v, if_neg (fun t => absurd t.1 (by decide))]; exact hi.1 i g
    obtain ⟨q', b1, b2, b3, b4⟩ := wr_in (l_eX10_lid_99_4 lo p x y n) hp hM hz (by omega) e0 15 (mh_pL s' 101 m 0) 0 0 rfl (by omega) (by omega) (by rw [pL_w]; rfl) (fun _ _ => rfl) (fun _ => rfl)
    refine ⟨q', ⟨fun i g => by rw [b3]; exact e0 i g, fun i g => ?_⟩, b4⟩
    rcases Nat.lt_or_ge i m with g1 | g1
    · rw [b2 i (by omega), pL_v, if_neg (fun t => absurd t.2 (by omega))]
      exact hi.2 i g1
    · obtain rfl : i = m := by omega
      exact b1
  · intro n s' z hz hi
    rw [l_eX10_lid_99_4_s]
    unfold ls_eX10_lid_99_4
    rw [if_neg (by omega)]
    exact wr_copy lo hi.2 Post kk
theorem wr_all {K M : Nat} {p1 p2 p3 p4 : Int32} (h2 : p2.toInt = (K : Int)) (hK : K ≤ 12) (h3 : p3.toInt = (M : Int)) (hM : M ≤ 9) (Post : Int64 × mh_H → Prop) (kk : ∀ s', (∀ i, i < 121 → s'.2.1 100 i = wy M K i) → Post (l_eX10_lid_213_3 s' p4 (wy_al (Int32.toInt64 (p3 + 1)) K) 200 p1 0)) :
    ∀ (n : Nat) (s : mh_H) (x : Int32) (m : Nat), x.toInt = (m : Int) → m ≤ K → K < n + m → (∀ i, i < 121 → s.2.1 100 i = wy M m i) → Post (l_eX10_lid_90_2 p1 p2 p3 p4 n s x (wy_al (Int32.toInt64 (p3 + 1)) m)) := by
  intro n
  induction n with
  | zero => intro s x m _ h g; exfalso; omega
  | succ n ih =>
    intro s x m hx hm hn hi
    rw [l_eX10_lid_90_2_s]
    unfold ls_eX10_lid_90_2
    rcases Nat.lt_or_ge m K with g | g
    · rw [if_pos (by omega)]
      have k1 : (1 : Int32).toInt = ((1 : Nat) : Int) := rfl
      exact wr_one (l_eX10_lid_90_2 p1 p2 p3 p4 n) h3 hM hi Post (fun s' hs' => ih s' (x + 1) (m + 1) (ix_add hx (by omega) k1 (by decide)) (by omega) (by omega) hs')
    · obtain rfl : m = K := by omega
      rw [if_neg (by omega)]
      exact kk s hi
theorem wr_sum {R : Nat → Int64} {s : mh_H} (h : ∀ i, i < 121 → s.2.1 100 i = R i) (p4 : Int32) (y : Int64) : ∀ (n : Nat) (x : Int32) (m : Nat) (a : Int64), x.toInt = (m : Int) → m ≤ 200 → 121 < n + m → 0 < n → (l_eX10_lid_213_3 s p4 y n x a).1 = if p4.toInt = 0 then wy_sum R (121 - m) m a / f_eX10_divisor s (wy_sum R (121 - m) m a) y else y / f_eX10_divisor s (wy_sum R (121 - m) m a) y := by
  intro n
  have a1 : (121 : Int32).toInt = 121 := rfl
  induction n with
  | zero => intro x m a _ _ _ h; exact absurd h (by decide)
  | succ n ih =>
    intro x m a hx hm hn _
    rw [l_eX10_lid_213_3_s]
    unfold ls_eX10_lid_213_3
    rcases Nat.lt_or_ge m 121 with g | g
    · rw [if_pos (by omega)]
      simp only [mh_lbE]
      have k1 : (1 : Int32).toInt = ((1 : Nat) : Int) := rfl
      rw [ih (x + 1) (m + 1) _ (ix_add hx (by omega) k1 (by decide)) (by omega) (by omega) (by omega), ix_n hx, h m g]
      rw [show 121 - m = (121 - (m + 1)) + 1 by omega]
      rfl
    · rw [if_neg (by omega), show 121 - m = 0 by omega]
      simp only [mh_lbE]
      show (if p4.toInt = 0 then (a / f_eX10_divisor s a y, s) else (y / f_eX10_divisor s a y, s)).1 = if p4.toInt = 0 then a / f_eX10_divisor s a y else y / f_eX10_divisor s a y
      split <;> rfl
theorem wr_lid {s : mh_H} {p1 p2 p3 p4 : Int32} {P K M : Nat} (h1 : p1.toInt = (P : Int)) (hP : P ≤ 200) (h2 : p2.toInt = (K : Int)) (hK : K ≤ 12) (h3 : p3.toInt = (M : Int)) (hM : M ≤ 9) : (l_eX10_lid_54_1 p1 p2 p3 p4 122 s 0).1 = if p4.toInt = 0 then wy_sum (wy M K) (121 - P) P 0 / f_eX10_divisor s (wy_sum (wy M K) (121 - P) P 0) (wy_al (Int32.toInt64 (p3 + 1)) K) else wy_al (Int32.toInt64 (p3 + 1)) K / f_eX10_divisor s (wy_sum (wy M K) (121 - P) P 0) (wy_al (Int32.toInt64 (p3 + 1)) K) := by
  have a1 : (121 : Int32).toInt = 121 := rfl
  refine mh_for (l_eX10_lid_54_1 p1 p2 p3 p4) 121 (fun s' m => ∀ i, i < m → s'.2.1 100 i = wy_0 i) (fun r => r.1 = if p4.toInt = 0 then wy_sum (wy M K) (121 - P) P 0 / f_eX10_divisor s (wy_sum (wy M K) (121 - P) P 0) (wy_al (Int32.toInt64 (p3 + 1)) K) else wy_al (Int32.toInt64 (p3 + 1)) K / f_eX10_divisor s (wy_sum (wy M K) (121 - P) P 0) (wy_al (Int32.toInt64 (p3 + 1)) K)) (by decide) ?_ ?_ 122 s 0 0 rfl (by decide) (fun i g => absurd g (Nat.not_lt_zero i)) (by decide)
  · intro n s' x m hx hm hi
    refine ⟨mh_pL s' 100 m (wy_0 m), fun i g => ?_, ?_⟩
    · rw [pL_v]
      split
      · rename_i t; rw [t.2]
      · rename_i t; exact hi i (by have : i ≠ m := fun e => t ⟨rfl, e⟩; omega)
    · rw [l_eX10_lid_54_1_s]
      unfold ls_eX10_lid_54_1
      rw [if_pos (by omega)]
      by_cases g : m = 0
      · rw [if_pos (by omega)]
        unfold j_eX10_lid_77_8
        simp only [mh_lbE]
        rw [ix_n hx, show wy_0 m = 1 from if_pos g]
      · rw [if_neg (by omega)]
        unfold j_eX10_lid_77_8
        simp only [mh_lbE]
        rw [ix_n hx, show wy_0 m = 0 from if_neg g]
  · intro n s' x hx hi
    rw [l_eX10_lid_54_1_s]
    unfold ls_eX10_lid_54_1
    rw [if_neg (by omega)]
    exact wr_all (p1 := p1) (p4 := p4) h2 hK h3 hM (fun r => r.1 = if p4.toInt = 0 then wy_sum (wy M K) (121 - P) P 0 / f_eX10_divisor s (wy_sum (wy M K) (121 - P) P 0) (wy_al (Int32.toInt64 (p3 + 1)) K) else wy_al (Int32.toInt64 (p3 + 1)) K / f_eX10_divisor s (wy_sum (wy M K) (121 - P) P 0) (wy_al (Int32.toInt64 (p3 + 1)) K)) (fun s2 hs2 => by
      have ed : ∀ a b : Int64, f_eX10_divisor s a b = f_eX10_divisor s2 a b := fun a b => by unfold f_eX10_divisor; rfl
      rw [ed]
      exact wr_sum hs2 p4 _ 200 p1 P 0 h1 hP (by omega) (by decide)) 15 s' 0 0 rfl (by omega) (by omega) hi
/-- the class's lowest terms, for larger numbers -/
theorem lt_eq5 (s : mh_H) {a b : Int64} (p4 : Int32) (ha : 0 ≤ a.toInt) (hb : 1 ≤ b.toInt) (hA : a.toInt ≤ 1000000000000000) (hB : b.toInt ≤ 1000000000000000) : ∃ g : Int64, g.toInt = (Nat.gcd a.toInt.toNat b.toInt.toNat : Nat) ∧ f_eX9_lowestTerm s a b p4 = if p4.toInt = 0 then a / g else b / g := by
  have fin : ∀ g : Int64, g.toInt = (Nat.gcd a.toInt.toNat b.toInt.toNat : Nat) → j_eX9_lowestTerm_45_2 a b p4 g = if p4.toInt = 0 then a / g else b / g := by
    intro g hg
    unfold j_eX9_lowestTerm_45_2
    simp only [mh_lbE]
    have hz := (mh_lc (x := g) (y := 0) rfl).1
    have a1 : (0 : Int64).toInt = 0 := rfl
    have hp := Nat.gcd_pos_of_pos_right a.toInt.toNat (show 0 < b.toInt.toNat by omega)
    rw [a1] at hz
    rw [if_neg (fun q => by have := hz.1 q; omega)]
  have hpw : ∀ x y : Nat, x ≤ 1000000000000000 → y ≤ 1000000000000000 → x * y < 2 ^ 100 := fun x y h1 h2 => Nat.lt_of_le_of_lt (Nat.mul_le_mul h1 h2) (by decide)
  unfold f_eX9_lowestTerm
  obtain ⟨m, hm⟩ : ∃ m : Nat, m = 200 := ⟨_, rfl⟩
  rw [show (201 : Nat) = m + 1 by omega]
  rcases Int.le_total a.toInt b.toInt with hc | hc
  · obtain ⟨g, g1, g2⟩ := lt_loop a b p4 100 (m + 1) 0 b a ha hc (hpw _ _ (by omega) (by omega)) (by decide) (by decide) (by omega)
    rw [Nat.gcd_comm] at g1
    exact ⟨g, g1, g2.trans (fin g g1)⟩
  · have e01 : (0 : Int32) + 1 = 1 := rfl
    rw [l_eX9_lowestTerm_9_1_s]
    unfold ls_eX9_lowestTerm_9_1
    simp only [mh_lbE]
    rw [if_pos (by decide)]
    have hz := (mh_lc (x := a) (y := 0) rfl).1
    have a1 : (0 : Int64).toInt = 0 := rfl
    rw [a1] at hz
    have hc0 : a.toInt ≠ 0 := by omega
    rw [if_neg (fun g => hc0 (hz.1 g))]
    obtain ⟨r1, r2, r3⟩ := mh_lrm2 (x := b) (y := a) rfl hc0
    rw [e01]
    generalize b - b / a * a = q at r1 r2 r3 ⊢
    have r2 := r2 (by omega)
    have e1 : q.toInt.toNat = b.toInt.toNat % a.toInt.toNat := by
      rw [show q.toInt.toNat = q.toInt.natAbs by omega, r1, show b.toInt.natAbs = b.toInt.toNat by omega, show a.toInt.natAbs = a.toInt.toNat by omega]
    obtain ⟨g, g1, g2⟩ := lt_loop a b p4 100 m 1 a q r2 (by omega) (hpw _ _ (by omega) (by rw [e1]; have := Nat.mod_le b.toInt.toNat a.toInt.toNat; omega)) (by decide) (by decide) (by omega)
    have g3 : g.toInt = (Nat.gcd a.toInt.toNat b.toInt.toNat : Nat) := by
      rw [g1, e1, Nat.gcd_comm, ← Nat.gcd_rec]
    exact ⟨g, g3, g2.trans (fin g g3)⟩
theorem lid_eq (s s' : mh_H) (p1 p2 p3 p4 : Int32) : (f_eX9_lid s p1 p2 p3 p4).1 = (f_eX10_lid s' p1 p2 p3 p4).1 := by
  unfold f_eX9_lid f_eX10_lid
  simp only [mh_lbE, mh_lb2E]
  have k1 : (1 : Int32).toInt = 1 := rfl
  have k2 : (200 : Int32).toInt = 200 := rfl
  have k3 : (12 : Int32).toInt = 12 := rfl
  have k4 : (9 : Int32).toInt = 9 := rfl
  have m1 : (1 : Int64).toInt = 1 := rfl
  have m0 : (0 : Int64).toInt = 0 := rfl
  have m2 : (200 : Int64).toInt = 200 := rfl
  have m3 : (12 : Int64).toInt = 12 := rfl
  have m4 : (9 : Int64).toInt = 9 := rfl
  have l1 := fq_lies s' (Int32.toInt64 p1) 1 200
  have l2 := fq_lies s' (Int32.toInt64 p2) 1 12
  have l3 := fq_lies s' (Int32.toInt64 p3) 1 9
  have l4 := fq_lies s' (Int32.toInt64 p4) 0 1
  have l5 := fq_within s p4 1
  rw [Int32.toInt_toInt64] at l1 l2 l3 l4
  by_cases c1 : 1 ≤ p1.toInt ∧ p1.toInt ≤ 200
  · rw [if_neg (by omega), if_neg (by omega), if_neg (fun g => l1.1 g (by omega))]
    by_cases c2 : 1 ≤ p2.toInt ∧ p2.toInt ≤ 12
    · rw [if_neg (by omega), if_neg (by omega), if_neg (fun g => l2.1 g (by omega))]
      by_cases c3 : 1 ≤ p3.toInt ∧ p3.toInt ≤ 9
      · rw [if_neg (by omega), if_neg (by omega), if_neg (fun g => l3.1 g (by omega))]
        by_cases c4 : 0 ≤ p4.toInt ∧ p4.toInt ≤ 1
        · rw [if_neg (fun g => l5.1 g (by omega)), if_neg (fun g => l4.1 g (by omega))]
          obtain ⟨P, hP⟩ : ∃ P : Nat, p1.toInt = (P : Int) := ⟨p1.toInt.toNat, by omega⟩
          obtain ⟨K, hK⟩ : ∃ K : Nat, p2.toInt = (K : Int) := ⟨p2.toInt.toNat, by omega⟩
          obtain ⟨M, hM⟩ : ∃ M : Nat, p3.toInt = (M : Int) := ⟨p3.toInt.toNat, by omega⟩
          rw [wr_lid hP (by omega) hK (by omega) hM (by omega)]
          show f_eX9_lowestTerm (f_eX2_breaking s p1 p2 p3).2 (f_eX2_breaking s p1 p2 p3).1 (f_eX2_all (f_eX2_breaking s p1 p2 p3).2 p2 p3) p4 = _
          rw [wy_brk hP (by omega) hK (by omega) hM (by omega), wy_all hK (by omega)]
          have hz := wy_zero M K
          have hmk : M * K ≤ 108 := Nat.le_trans (Nat.mul_le_mul (show M ≤ 9 by omega) (show K ≤ 12 by omega)) (by decide)
          have es : wy_sum (wy M K) (121 - P) P 0 = wy_sum (wy M K) (109 - P) P 0 := by
            rw [show 121 - P = (109 - P) + (121 - P - (109 - P)) by omega]
            exact wy_cut (fun j hj => hz j (by omega))
          rw [es]
          have hb := wy_b (show M ≤ 9 by omega) K (by omega)
          have hp := wy_pw (show M ≤ 9 by omega) (show K ≤ 12 by omega)
          have hc : (Int32.toInt64 (p3 + 1)).toInt = ((M + 1 : Nat) : Int) := by
            rw [Int32.toInt_toInt64, nn_inc (m := 9) (by omega) (by omega) (by decide)]; omega
          have ha := wy_alb (show M ≤ 9 by omega) hc K (by omega)
          have hs := wy_sb (R := wy M K) (fun i => ⟨(hb i).1, Int.le_trans (hb i).2 (by omega)⟩) (109 - P) P 0 (by omega) (by decide) (by rw [m0]; omega)
          rw [m0] at hs
          generalize wy_sum (wy M K) (109 - P) P 0 = A at hs ⊢
          generalize wy_al (Int32.toInt64 (p3 + 1)) K = Z at ha ⊢
          have hpos : 0 < (M + 1) ^ K := Nat.pow_pos (by omega)
          obtain ⟨g, g1, g2⟩ := lt_eq5 (f_eX2_breaking s p1 p2 p3).2 (a := A) (b := Z) p4 hs.1 (by omega) (by omega) (by omega)
          have g3 := dv_eq s' (a := A) (b := Z) hs.1 (by omega)
          rw [g2, Int64.toInt_inj.mp (g1.trans g3.symm)]
        · rw [if_pos (l5.2 (by omega)), if_pos (l4.2 (by omega))]
      · rw [if_pos (l3.2 (by omega))]
        rcases Int.lt_or_le p3.toInt 1 with g | g
        · rw [if_pos (by omega)]
        · rw [if_neg (by omega), if_pos (by omega)]
    · rw [if_pos (l2.2 (by omega))]
      rcases Int.lt_or_le p2.toInt 1 with g | g
      · rw [if_pos (by omega)]
      · rw [if_neg (by omega), if_pos (by omega)]
  · rw [if_pos (l1.2 (by omega))]
    rcases Int.lt_or_le p1.toInt 1 with g | g
    · rw [if_pos (by omega)]
    · rw [if_neg (by omega), if_pos (by omega)]
def rl_U (_ : mh_H) : Prop := True
theorem rl_U_keep {S : List (Nat × Nat)} {σ σ2 : mh_H} (_ : mh_F S σ σ2) (_ : S.all (fun _ => true) = true) (_ : rl_U σ) : rl_U σ2 := trivial
theorem rl_U0 : rl_U lx_s0 := trivial
theorem lid_U {s s1 s2 : mh_H} {p1 p2 p3 p4 : Int32} {z0 z1 : Int64} (E0 : f_eX9_lid s p1 p2 p3 p4 = (z0, s1)) (E1 : f_eX10_lid s1 p1 p2 p3 p4 = (z1, s2)) : z0 = z1 ∧ rl_U s2 := by
  refine ⟨?_, trivial⟩
  have h := lid_eq s s1 p1 p2 p3 p4
  rw [E0, E1] at h
  exact h

theorem fq_within (s : mh_H) (a b : Int32) : ((f_eX9_isWithin s a b).toInt = 0) ↔ ¬ (0 ≤ a.toInt ∧ a.toInt ≤ b.toInt) := by
  unfold f_eX9_isWithin
  have h0 := kc_0; have h1 := kc_1
  split
  · omega
  · split <;> omega
theorem fq_lies (s : mh_H) (a b c : Int64) : ((f_eX10_lies s a b c).toInt = 0) ↔ ¬ (b.toInt ≤ a.toInt ∧ a.toInt ≤ c.toInt) := by
  unfold f_eX10_lies
  simp only [mh_lbE]
  have h0 := kc_0; have h1 := kc_1
  obtain ⟨a1, a2, a3, a4⟩ := mh_lc (x := a) (y := b) rfl
  obtain ⟨b1, b2, b3, b4⟩ := mh_lc (x := a) (y := c) rfl
  split
  · omega
  · split <;> omega
theorem nn_inc {x : Int32} {m : Int} (h0 : 0 ≤ x.toInt) (h1 : x.toInt ≤ m) (hm : m ≤ 2147483646) : (x + 1).toInt = x.toInt + 1 := by
  have h2 := kc_1
  rw [mh_add (lo := 0) (hi := 2147483647) (by omega) (by decide), h2]
theorem dv_loop : ∀ (n : Nat) (q p : Int64), 0 ≤ p.toInt → 0 ≤ q.toInt → q.toInt < (n : Int) → (l_eX10_divisor_6_1 n q p).toInt = (Nat.gcd p.toInt.toNat q.toInt.toNat : Nat) := by
  intro n
  induction n with
  | zero => intro q p _ h1 h2; exfalso; omega
  | succ n ih =>
    intro q p h0 h1 h2
    rw [l_eX10_divisor_6_1_s]
    unfold ls_eX10_divisor_6_1
    simp only [mh_lbE]
    have hz := (mh_lc (x := q) (y := 0) rfl).1
    have a1 : (0 : Int64).toInt = 0 := rfl
    rw [a1] at hz
    by_cases hc : q.toInt = 0
    · rw [if_pos (hz.2 hc), hc]
      show p.toInt = ((Nat.gcd p.toInt.toNat 0 : Nat) : Int)
      rw [Nat.gcd_zero_right]
      omega
    · rw [if_neg (fun g => hc (hz.1 g))]
      obtain ⟨r1, r2, r3⟩ := mh_lrm2 (x := p) (y := q) rfl hc
      generalize p - p / q * q = r at r1 r2 r3 ⊢
      have r2 := r2 h0
      rw [ih r q h1 r2 (by omega)]
      have e1 : r.toInt.toNat = p.toInt.toNat % q.toInt.toNat := by
        rw [show r.toInt.toNat = r.toInt.natAbs by omega, r1, show p.toInt.natAbs = p.toInt.toNat by omega, show q.toInt.natAbs = q.toInt.toNat by omega]
      rw [e1, Nat.gcd_comm, ← Nat.gcd_rec, Nat.gcd_comm]
theorem dv_eq (s : mh_H) {a b : Int64} (ha : 0 ≤ a.toInt) (hb : 0 ≤ b.toInt) : (f_eX10_divisor s a b).toInt = (Nat.gcd a.toInt.toNat b.toInt.toNat : Nat) := by
  have h9 : b.toInt < 9223372036854775808 := Int64.toInt_lt b
  exact dv_loop _ b a ha hb (by omega)
theorem lt_st {R d m : Nat} (h1 : d ≤ R) (hd : 0 < d) (h : R * d < 2 ^ (m + 1)) : d * (R % d) < 2 ^ m := by
  have e := Nat.div_add_mod R d
  have q1 : 1 ≤ R / d := (Nat.one_le_div_iff hd).mpr h1
  have l := Nat.mod_lt R hd
  have e2 : d * 1 ≤ d * (R / d) := Nat.mul_le_mul_left d q1
  have e3 : R % d * 2 ≤ R := by omega
  have e4 : d * (R % d * 2) ≤ d * R := Nat.mul_le_mul_left d e3
  have e5 : d * (R % d * 2) = d * (R % d) * 2 := by rw [Nat.mul_assoc]
  have e6 : 2 ^ (m + 1) = 2 ^ m * 2 := Nat.pow_succ ..
  rw [Nat.mul_comm d R] at e4
  omega
theorem lt_loop (p0 p2 : Int64) (p4 : Int32) : ∀ (m n : Nat) (x : Int32) (r d : Int64), 0 ≤ d.toInt → d.toInt ≤ r.toInt → r.toInt.toNat * d.toInt.toNat < 2 ^ m → 0 ≤ x.toInt → x.toInt + m ≤ 199 → m < n → ∃ g : Int64, g.toInt = (Nat.gcd r.toInt.toNat d.toInt.toNat : Nat) ∧ l_eX9_lowestTerm_9_1 p0 p2 p4 n x r d = j_eX9_lowestTerm_45_2 p0 p2 p4 g := by
  intro m
  induction m with
  | zero =>
    intro n x r d h0 h1 h2 h3 h4 h5
    obtain ⟨n, rfl⟩ : ∃ k, n = k + 1 := ⟨n - 1, by omega⟩
    rw [l_eX9_lowestTerm_9_1_s]
    unfold ls_eX9_lowestTerm_9_1
    simp only [mh_lbE]
    have a2 : (200 : Int32).toInt = 200 := rfl
    rw [if_pos (by rw [a2]; omega)]
    have hz := (mh_lc (x := d) (y := 0) rfl).1
    have a1 : (0 : Int64).toInt = 0 := rfl
    rw [a1] at hz
    have hc : d.toInt = 0 := by
      rcases Int.lt_or_le 0 d.toInt with g | g
      · have : 0 < r.toInt.toNat * d.toInt.toNat := Nat.mul_pos (by omega) (by omega)
        rw [Nat.pow_zero] at h2
        omega
      · omega
    rw [if_pos (hz.2 hc), hc]
    exact ⟨r, by show r.toInt = ((Nat.gcd r.toInt.toNat 0 : Nat) : Int); rw [Nat.gcd_zero_right]; omega, rfl⟩
  | succ m ih =>
    intro n x r d h0 h1 h2 h3 h4 h5
    obtain ⟨n, rfl⟩ : ∃ k, n = k + 1 := ⟨n - 1, by omega⟩
    rw [l_eX9_lowestTerm_9_1_s]
    unfold ls_eX9_lowestTerm_9_1
    simp only [mh_lbE]
    have a2 : (200 : Int32).toInt = 200 := rfl
    rw [if_pos (by rw [a2]; omega)]
    have hz := (mh_lc (x := d) (y := 0) rfl).1
    have a1 : (0 : Int64).toInt = 0 := rfl
    rw [a1] at hz
    by_cases hc : d.toInt = 0
    · rw [if_pos (hz.2 hc), hc]
      exact ⟨r, by show r.toInt = ((Nat.gcd r.toInt.toNat 0 : Nat) : Int); rw [Nat.gcd_zero_right]; omega, rfl⟩
    · rw [if_neg (fun g => hc (hz.1 g))]
      obtain ⟨r1, r2, r3⟩ := mh_lrm2 (x := r) (y := d) rfl hc
      generalize r - r / d * d = q at r1 r2 r3 ⊢
      have r2 := r2 (by omega)
      have e1 : q.toInt.toNat = r.toInt.toNat % d.toInt.toNat := by
        rw [show q.toInt.toNat = q.toInt.natAbs by omega, r1, show r.toInt.natAbs = r.toInt.toNat by omega, show d.toInt.natAbs = d.toInt.toNat by omega]
      have hn := nn_inc (x := x) (m := 199) h3 (by omega) (by decide)
      obtain ⟨g, g1, g2⟩ := ih n (x + 1) d q r2 (by omega) (by rw [e1]; exact lt_st (by omega) (by omega) h2) (by omega) (by omega) (by omega)
      refine ⟨g, ?_, g2⟩
      rw [g1, e1, Nat.gcd_comm, ← Nat.gcd_rec, Nat.gcd_comm]
theorem ix_n {p : Int32} {c : Nat} (hp : p.toInt = (c : Int)) : p.toNatClampNeg = c := by show p.toInt.toNat = c; omega
theorem ix_sub {p : Int32} {c : Nat} (hp : p.toInt = (c : Int)) (hc : c < 1000) {q : Int32} {m : Nat} (hq : q.toInt = (m : Int)) (hm : m < 1000) (h : m ≤ c) : (p - q).toInt = ((c - m : Nat) : Int) := by
  rw [mh_sub (lo := 0) (hi := 1000) (by omega) (by decide)]
  omega
theorem ix_add {p : Int32} {c : Nat} (hp : p.toInt = (c : Int)) (hc : c < 100000) {q : Int32} {m : Nat} (hq : q.toInt = (m : Int)) (hm : m < 100000) : (p + q).toInt = ((c + m : Nat) : Int) := by
  rw [mh_add (lo := 0) (hi := 1000000) (by omega) (by decide)]
  omega
theorem mh_for {R : Type} (l : Nat → mh_H → Int32 → R) (N : Nat) (Inv : mh_H → Nat → Prop) (Post : R → Prop) (hN : N < 100000)
    (hs : ∀ (n : Nat) (s : mh_H) (x : Int32) (m : Nat), x.toInt = (m : Int) → m < N → Inv s m → ∃ s', Inv s' (m + 1) ∧ l (n + 1) s x = l n s' (x + 1))
    (he : ∀ (n : Nat) (s : mh_H) (x : Int32), x.toInt = (N : Int) → Inv s N → Post (l (n + 1) s x)) :
    ∀ (n : Nat) (s : mh_H) (x : Int32) (m : Nat), x.toInt = (m : Int) → m ≤ N → Inv s m → N < n + m → Post (l n s x) := by
  intro n
  induction n with
  | zero => intro s x m _ h1 _ h2; exfalso; omega
  | succ n ih =>
    intro s x m hx hm hi hn
    rcases Nat.lt_or_ge m N with h | h
    · obtain ⟨s', h1, h2⟩ := hs n s x m hx h hi
      rw [h2]
      have k1 : (1 : Int32).toInt = ((1 : Nat) : Int) := rfl
      exact ih s' (x + 1) (m + 1) (ix_add hx (by omega) k1 (by decide)) (by omega) h1 (by omega)
    · obtain rfl : m = N := by omega
      exact he n s x hx hi
theorem pL_w {s : mh_H} {a j : Nat} {x : Int64} : (mh_pL s a j x).2.1 a j = x := if_pos ⟨rfl, rfl⟩
theorem pL_v {s : mh_H} {a j b i : Nat} {x : Int64} : (mh_pL s a j x).2.1 b i = if b = a ∧ i = j then x else s.2.1 b i := rfl

theorem mh_I_step {B B' D : Int} {σ : mh_H} (h : mh_I B D σ) {x : Int32} (hx : mh_r x 0 B') : mh_I B' D (mh_pI σ 57 2 x) := by
  refine ⟨fun a b => ?_, h.2.1, mh_wfc_put h.2.2 rfl⟩
  by_cases q : a = 57 ∧ b = 2
  · rw [q.1, q.2]
    show mh_r (mh_up σ.1 57 2 x 57 2) _ _
    rw [mh_up_s]
    exact hx
  · show mh_r (mh_up σ.1 57 2 x a b) _ _
    rw [mh_up_n q]
    have h1 := h.1 a b
    unfold mh_bd at h1 ⊢
    split at h1
    · rename_i hk
      rw [if_pos hk]
      split at h1
      · rename_i hj
        exact absurd ⟨hk, hj⟩ q
      · rename_i hj
        rw [if_neg hj]
        exact h1
    · rename_i hk
      rw [if_neg hk]
      exact h1
theorem mh_I_side {B D D' : Int} {σ : mh_H} (h : mh_I B D σ) {j : Nat} {x : Int32} (hx : mh_r x 0 D') (hD : D ≤ D') : mh_I B D' (mh_pI σ 87 j x) := mh_I_put (mh_I_mono h (Int.le_refl _) hD) (show mh_r x (mh_bd B D' 87 j).1 (mh_bd B D' 87 j).2 from hx) rfl
theorem mh_lrm {x y z : Int64} (t : z = x - x / y * y) (hy : y.toInt ≠ 0) : z.toInt = x.toInt.tmod y.toInt := by
  subst t
  rw [Int64.toInt_sub, Int64.toInt_mul, Int64.toInt_div]
  have e1 : ((x.toInt.tdiv y.toInt).bmod (2 ^ 64) * y.toInt).bmod (2 ^ 64) = (x.toInt.tdiv y.toInt * y.toInt).bmod (2 ^ 64) := Int.bmod_mul_bmod
  rw [e1, Int.sub_bmod_bmod]
  have e2 : x.toInt - x.toInt.tdiv y.toInt * y.toInt = x.toInt.tmod y.toInt := by
    rw [Int.tmod_def, Int.mul_comm]
  rw [e2]
  have h1 : (x.toInt.tmod y.toInt).natAbs < y.toInt.natAbs := by
    rw [Int.natAbs_tmod]
    exact Nat.mod_lt _ (by omega)
  have h2 := Int64.le_toInt y
  have h3 := Int64.toInt_lt y
  apply Int.bmod_eq_of_le <;> omega
theorem mh_lrm2 {x y z : Int64} (t : z = x - x / y * y) (hy : y.toInt ≠ 0) : z.toInt.natAbs = x.toInt.natAbs % y.toInt.natAbs ∧ (0 ≤ x.toInt → 0 ≤ z.toInt) ∧ z.toInt.natAbs < y.toInt.natAbs := by
  have h := mh_lrm t hy
  rw [h, Int.natAbs_tmod]
  exact ⟨rfl, fun q => Int.tmod_nonneg _ q, Nat.mod_lt _ (by omega)⟩
theorem mh_gcs {p q r a b : Int64} (t : r = p - p / q * q) (hq : q.toInt ≠ 0) (h : Nat.gcd p.toInt.natAbs q.toInt.natAbs = Nat.gcd a.toInt.natAbs b.toInt.natAbs) : Nat.gcd q.toInt.natAbs r.toInt.natAbs = Nat.gcd a.toInt.natAbs b.toInt.natAbs := by
  rw [(mh_lrm2 t hq).1, ← h, Nat.gcd_comm, Nat.gcd_comm p.toInt.natAbs]
  exact (Nat.gcd_rec q.toInt.natAbs p.toInt.natAbs).symm
theorem mh_gnz {g a b : Int64} (h : g.toInt.natAbs = Nat.gcd a.toInt.natAbs b.toInt.natAbs) (hb : 1 ≤ b.toInt) : g.toInt ≠ 0 := by
  have := Nat.gcd_pos_of_pos_right a.toInt.natAbs (show 0 < b.toInt.natAbs by omega)
  omega
theorem mh_g32 {g a b : Int64} {z : Int32} {n : Int} (t : z = g.toInt32) (h : g.toInt.natAbs = Nat.gcd a.toInt.natAbs b.toInt.natAbs) (hs : 0 ≤ g.toInt) (hb : 1 ≤ b.toInt ∧ b.toInt ≤ n) (hn : n ≤ 2147483647) : mh_r z 1 n ∧ z.toInt = g.toInt := by
  have h1 := Nat.gcd_pos_of_pos_right a.toInt.natAbs (show 0 < b.toInt.natAbs by omega)
  have h2 := Nat.gcd_le_right a.toInt.natAbs (show 0 < b.toInt.natAbs by omega)
  have h3 : z.toInt = g.toInt := by
    rw [t, Int64.toInt_toInt32]
    exact mh_fit (by omega) (by omega)
  rw [mh_r, h3]
  omega
theorem mh_allst {a w y : Int64} {x s s' : Int32} (t : y = a * w) (tw : w = x.toInt64) (ha : 1 ≤ a.toInt ∧ a.toInt ≤ 10 ^ s.toInt.toNat) (hx : mh_r x 1 10) (hs : mh_r s 0 11) (h' : s'.toInt = s.toInt + 1) : 1 ≤ y.toInt ∧ y.toInt ≤ 10 ^ s'.toInt.toNat := by
  have e0 : s'.toInt.toNat = s.toInt.toNat + 1 := by have := hs.1; omega
  have e1 : (10 : Int) ^ s.toInt.toNat ≤ 10 ^ 11 := by
    have : s.toInt.toNat ≤ 11 := by have := hs.2; omega
    exact_mod_cast Nat.pow_le_pow_right (by decide : 0 < 10) this
  have e2 : (10 : Int) ^ 11 = 100000000000 := by decide
  have hx1 := hx.1
  have hx2 := hx.2
  have hw : w.toInt = x.toInt := by rw [tw, Int32.toInt_toInt64]
  have hp1 : 1 ≤ a.toInt * x.toInt := by
    have := Int.mul_le_mul ha.1 hx1 (by decide) (by omega)
    omega
  have hp2 : a.toInt * x.toInt ≤ 10 ^ s.toInt.toNat * 10 := Int.mul_le_mul ha.2 hx2 (by omega) (by omega)
  have hy : y.toInt = a.toInt * x.toInt := by
    rw [t, Int64.toInt_mul, hw]
    apply Int.bmod_eq_of_le <;> omega
  rw [hy, e0, Int.pow_succ]
  exact ⟨hp1, hp2⟩
/-- the cell beside c at the side d; -1: none -/
def mh_bes (c d : Int) : Int := if d = 0 then (if 12 ≤ c then c - 12 else -1) else if d = 1 then (if c % 12 = 0 then -1 else c - 1) else if d = 2 then (if c % 12 = 11 then -1 else c + 1) else (if c < 132 then c + 12 else -1)
theorem mh_bes_lb {c d : Int} (h : 0 ≤ c ∧ c ≤ 143) : (d = 1 → 1 ≤ c % 12 → 0 ≤ mh_bes c d) ∧ (d = 2 → c % 12 = 0 → 0 ≤ mh_bes c d) := by
  refine ⟨fun h1 h2 => ?_, fun h1 h2 => ?_⟩
  · subst h1
    unfold mh_bes
    rw [if_neg (by decide), if_pos rfl, if_neg (by omega)]
    omega
  · subst h1
    unfold mh_bes
    rw [if_neg (by decide), if_neg (by decide), if_pos rfl, if_neg (by omega)]
    omega

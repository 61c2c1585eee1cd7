/-- the sign that the reference reads now -/
def mh_hr (σ : mh_H) : Int32 := if (σ.1 57 23).toInt < (σ.1 57 24).toInt then σ.1 58 (σ.1 57 23).toNatClampNeg &&& 255 else 0
/-- what stands on top of its stack -/
def mh_tp (σ : mh_H) : Int32 := if 0 < (σ.1 57 29).toInt then σ.1 76 ((σ.1 57 29).toInt.toNat - 1) else 0
/-- how many of the first n on the stack stand between two -/
def mh_nb (f : Nat → Int32) : Nat → Nat
  | 0 => 0
  | n + 1 => mh_nb f n + (if (f n).toInt = 91 ∨ (f n).toInt = 40 ∨ (f n).toInt = 33 then 0 else 1)
abbrev mh_nbz (x : Int32) : Prop := x.toInt = 91 ∨ x.toInt = 40 ∨ x.toInt = 33
theorem mh_nb_u1 {f : Nat → Int32} {i : Nat} {x : Int32} : ∀ {n : Nat}, n ≤ i → mh_nb (mh_u1 f i x) n = mh_nb f n
  | 0, _ => rfl
  | n + 1, h => by
    simp only [mh_nb]
    rw [mh_nb_u1 (n := n) (by omega)]
    have : mh_u1 f i x n = f n := if_neg (by omega)
    rw [this]
theorem mh_nb_c {f g : Nat → Int32} : ∀ {n : Nat}, (∀ j, j < n → g j = f j) → mh_nb g n = mh_nb f n
  | 0, _ => rfl
  | n + 1, h => by
    simp only [mh_nb]
    rw [mh_nb_c (n := n) (fun j hj => h j (by omega)), h n (by omega)]
theorem mh_dps_c {f g : Nat → Int32} {a n : Nat} : ∀ {m : Nat}, (∀ j, a ≤ j → j < a + m → g j = f j) → mh_dps g m a n = mh_dps f m a n
  | 0, _ => rfl
  | m + 1, h => by
    rw [mh_dps_snoc, mh_dps_snoc, mh_dps_c (m := m) (fun j h1 h2 => h j h1 (by omega)), h (a + m) (by omega) (by omega)]
/-- the code so far from b on, and the stack: as deep as there are such signs, and one more behind a value -/
def mh_pdr (f : Nat → Int32) (c b : Int) (stk : Nat → Int32) (n δ : Nat) : Prop := mh_dps f (c - b).toNat b.toNat 0 = some (mh_nb stk n + δ)
theorem mh_emit {f : Nat → Int32} {c b : Int} {x : Int32} (hb : 0 ≤ b ∧ b ≤ c) : mh_dps (mh_u1 f c.toNat x) (c + 1 - b).toNat b.toNat 0 = (mh_dps f (c - b).toNat b.toNat 0).bind (mh_dp x) := by
  rw [show (c + 1 - b).toNat = (c - b).toNat + 1 by omega, mh_dps_snoc, mh_dps_c (f := f) (g := mh_u1 f c.toNat x) (fun j h1 h2 => if_neg (by omega))]
  have : mh_u1 f c.toNat x (b.toNat + (c - b).toNat) = x := if_pos (by omega)
  rw [this]
theorem mh_nb_p {stk : Nat → Int32} {n : Nat} (hn : 1 ≤ n) : mh_nb stk n = mh_nb stk (n - 1) + (if (stk (n - 1)).toInt = 91 ∨ (stk (n - 1)).toInt = 40 ∨ (stk (n - 1)).toInt = 33 then 0 else 1) := by
  obtain ⟨m, rfl⟩ : ∃ m, n = m + 1 := ⟨n - 1, by omega⟩
  rfl
theorem mh_pdr_bin {f stk : Nat → Int32} {c b : Int} {n : Nat} {x : Int32} (h : mh_pdr f c b stk n 1) (hb : 0 ≤ b ∧ b ≤ c) (hn : 1 ≤ n) (hx : stk (n - 1) = x) (h2 : ¬ mh_nbz x) (h3 : 2 < x.toInt) : mh_pdr (mh_u1 f c.toNat x) (c + 1) b stk (n - 1) 1 := by
  unfold mh_pdr at h ⊢
  rw [mh_emit hb, h, mh_nb_p hn, hx, if_neg h2]
  show mh_dp x _ = _
  unfold mh_dp
  rw [if_pos h3, if_pos (by omega)]
  rfl
theorem mh_pdr_not {f stk : Nat → Int32} {c b : Int} {n : Nat} {x : Int32} (h : mh_pdr f c b stk n 1) (hb : 0 ≤ b ∧ b ≤ c) (hn : 1 ≤ n) (h2 : mh_nbz (stk (n - 1))) (h3 : x.toInt = 2) : mh_pdr (mh_u1 f c.toNat x) (c + 1) b stk (n - 1) 1 := by
  unfold mh_pdr at h ⊢
  rw [mh_emit hb, h, mh_nb_p hn, if_pos h2]
  show mh_dp x _ = _
  unfold mh_dp
  rw [if_neg (by omega), if_pos h3, if_pos (by omega)]
theorem mh_pdr_opd {f stk : Nat → Int32} {c b : Int} {n : Nat} {x : Int32} (h : mh_pdr f c b stk n 0) (hb : 0 ≤ b ∧ b ≤ c) (h3 : x.toInt < 2) : mh_pdr (mh_u1 f c.toNat x) (c + 1) b stk n 1 := by
  unfold mh_pdr at h ⊢
  rw [mh_emit hb, h]
  show mh_dp x _ = _
  unfold mh_dp
  rw [if_neg (by omega), if_neg (by omega)]
theorem mh_pdr_pb {f stk : Nat → Int32} {c b : Int} {n : Nat} {x : Int32} (h : mh_pdr f c b stk n 1) (h2 : ¬ mh_nbz x) : mh_pdr f c b (mh_u1 stk n x) (n + 1) 0 := by
  unfold mh_pdr at h ⊢
  rw [h, mh_nb_p (n := n + 1) (by omega), Nat.add_sub_cancel, mh_nb_u1 (Nat.le_refl _)]
  have : mh_u1 stk n x n = x := if_pos rfl
  rw [this, if_neg h2]
theorem mh_pdr_pn {f stk : Nat → Int32} {c b : Int} {n δ : Nat} {x : Int32} (h : mh_pdr f c b stk n δ) (h2 : mh_nbz x) : mh_pdr f c b (mh_u1 stk n x) (n + 1) δ := by
  unfold mh_pdr at h ⊢
  rw [h, mh_nb_p (n := n + 1) (by omega), Nat.add_sub_cancel, mh_nb_u1 (Nat.le_refl _)]
  have : mh_u1 stk n x n = x := if_pos rfl
  rw [this, if_pos h2]
  rfl
theorem mh_pdr_qn {f stk : Nat → Int32} {c b : Int} {n δ : Nat} (h : mh_pdr f c b stk n δ) (hn : 1 ≤ n) (h2 : mh_nbz (stk (n - 1))) : mh_pdr f c b stk (n - 1) δ := by
  unfold mh_pdr at h ⊢
  rw [h, mh_nb_p hn, if_pos h2]
  rfl
/-- numbers of the reference's reader that always hold -/
def mh_pb (b : Int) (σ : mh_H) : Prop := 0 ≤ (σ.1 57 23).toInt ∧ (σ.1 57 23).toInt ≤ (σ.1 57 24).toInt ∧ (σ.1 57 24).toInt ≤ 200 ∧ 0 ≤ (σ.1 57 29).toInt ∧ 0 ≤ b ∧ b ≤ (σ.1 57 27).toInt ∧ (σ.1 57 29).toInt + (σ.1 57 27).toInt ≤ (σ.1 57 23).toInt ∧ (σ.1 57 25).toInt ≤ 0
def mh_pd (b : Int) (δ : Nat) (σ : mh_H) : Prop := (σ.1 57 25).toInt = 0 → mh_pdr (σ.1 74) (σ.1 57 27).toInt b (σ.1 76) (σ.1 57 29).toInt.toNat δ
/-- the code ahead of b is as it was -/
def mh_pk (b : Int) (σ σ' : mh_H) : Prop := ∀ j : Nat, (j : Int) < b → σ'.1 74 j = σ.1 74 j
theorem mh_pk_rf {b : Int} {σ : mh_H} : mh_pk b σ σ := fun _ _ => rfl
theorem mh_pk_tr {b : Int} {σ σ1 σ2 : mh_H} (h : mh_pk b σ σ1) (h2 : mh_pk b σ1 σ2) : mh_pk b σ σ2 := fun j hj => (h2 j hj).trans (h j hj)
theorem mh_pk_row {b : Int} {σ σ' : mh_H} (h : σ'.1 74 = σ.1 74) : mh_pk b σ σ' := fun j _ => by rw [h]
theorem mh_pk_u1 {b c : Int} {σ σ' : mh_H} {x : Int32} (h : σ'.1 74 = mh_u1 (σ.1 74) c.toNat x) (hb : 0 ≤ b ∧ b ≤ c) : mh_pk b σ σ' := fun j hj => by rw [h]; exact if_neg (by omega)
/-- signs of a sum that stand on the stack -/
def mh_vs (x : Int32) : Prop := x.toInt = 42 ∨ x.toInt = 47 ∨ x.toInt = 37 ∨ x.toInt = 43 ∨ x.toInt = 45 ∨ x.toInt = 91
def mh_cs (x : Int32) : Prop := x.toInt = 40 ∨ x.toInt = 33 ∨ x.toInt = 38 ∨ x.toInt = 124
/-- what lies under a sum on the stack -/
def mh_fl (stk : Nat → Int32) (h : Nat) : Prop := ∀ j, j + 1 = h → ¬ mh_vs (stk j)
/-- from h on the stack has signs of a sum alone -/
def mh_ab (stk : Nat → Int32) (h n : Nat) : Prop := ∀ j, h ≤ j → j < n → mh_vs (stk j)
theorem mh_hr_c {σ σ' : mh_H} (h1 : σ'.1 57 23 = σ.1 57 23) (h2 : σ'.1 57 24 = σ.1 57 24) (h3 : σ'.1 58 = σ.1 58) : mh_hr σ' = mh_hr σ := by
  unfold mh_hr
  rw [h1, h2, h3]
theorem mh_hr_lt {σ : mh_H} (h : (mh_hr σ).toInt ≠ 0) : (σ.1 57 23).toInt < (σ.1 57 24).toInt := by
  by_cases q : (σ.1 57 23).toInt < (σ.1 57 24).toInt
  · exact q
  · unfold mh_hr at h
    rw [if_neg q] at h
    exact absurd (by decide) h
theorem mh_tp_c {σ σ' : mh_H} (h1 : σ'.1 57 29 = σ.1 57 29) (h3 : σ'.1 76 = σ.1 76) : mh_tp σ' = mh_tp σ := by
  unfold mh_tp
  rw [h1, h3]
theorem mh_tp_s {σ : mh_H} (h : (mh_tp σ).toInt ≠ 0) : 0 < (σ.1 57 29).toInt ∧ σ.1 76 ((σ.1 57 29).toInt.toNat - 1) = mh_tp σ := by
  by_cases q : 0 < (σ.1 57 29).toInt
  · refine ⟨q, ?_⟩
    unfold mh_tp
    rw [if_pos q]
  · unfold mh_tp at h
    rw [if_neg q] at h
    exact absurd (by decide) h
theorem mh_pk_em {b c : Int} {σ σ' : mh_H} {x y : Int32} {P Q : Prop} (h : (y.toInt = 0 → σ'.1 74 = mh_u1 (σ.1 74) c.toNat x ∧ P) ∧ (y.toInt ≠ 0 → σ'.1 74 = σ.1 74 ∧ Q)) (hb : 0 ≤ b ∧ b ≤ c) : mh_pk b σ σ' := by
  by_cases q : y.toInt = 0
  · exact mh_pk_u1 (h.1 q).1 hb
  · exact mh_pk_row (h.2 q).1
theorem mh_fl_ge {stk : Nat → Int32} {h n0 n1 : Nat} (hfl : mh_fl stk h) (hh : h ≤ n0) (hp : ∀ j, n1 ≤ j → j < n0 → mh_vs (stk j)) : h ≤ n1 := by
  rcases Nat.lt_or_ge n1 h with q | q
  · exact absurd (hp (h - 1) (by omega) (by omega)) (hfl (h - 1) (by omega))
  · exact q
theorem mh_fl_c {stk stk' : Nat → Int32} {h : Nat} (hfl : mh_fl stk h) (hs : ∀ j, j < h → stk' j = stk j) : mh_fl stk' h := fun j hj => by
  rw [hs j (by omega)]
  exact hfl j hj
theorem mh_ab_sub {stk : Nat → Int32} {h n n' : Nat} (ha : mh_ab stk h n) (hn : n' ≤ n) : mh_ab stk h n' := fun j h1 h2 => ha j h1 (by omega)
theorem mh_ab_psh {stk : Nat → Int32} {h n : Nat} {x : Int32} (ha : mh_ab stk h n) (hx : mh_vs x) : mh_ab (mh_u1 stk n x) h (n + 1) := fun j h1 h2 => by
  by_cases q : j = n
  · have : mh_u1 stk n x j = x := if_pos q
    rw [this]; exact hx
  · have : mh_u1 stk n x j = stk j := if_neg q
    rw [this]; exact ha j h1 (by omega)
theorem mh_pd_c {b : Int} {δ : Nat} {σ σ' : mh_H} (h : mh_pd b δ σ) (e1 : σ'.1 57 25 = σ.1 57 25) (e2 : σ'.1 57 27 = σ.1 57 27) (e3 : σ'.1 57 29 = σ.1 57 29) (e4 : σ'.1 74 = σ.1 74) (e5 : σ'.1 76 = σ.1 76) : mh_pd b δ σ' := by
  unfold mh_pd
  rw [e1, e2, e3, e4, e5]
  exact h
theorem mh_u1_lt {f : Nat → Int32} {i j : Nat} {x : Int32} (h : j < i) : mh_u1 f i x j = f j := if_neg (by omega)

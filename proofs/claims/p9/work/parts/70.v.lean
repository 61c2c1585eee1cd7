/-- a valley, as class and reference have it: ground, sort, cold, water, winds; the step; what ran -/
abbrev mh_V : Type := (Nat → Nat → Int32) × Int32 × Int32
def mh_vn (r : Nat) : Nat := if r = 4 then 100 else 144
def mh_vc (k : Nat) (s : mh_H) : mh_V := (fun r c => if c < mh_vn r ∧ r < 5 then s.1 (k + 1 + r) c else 0, s.1 k 5, s.1 k 6)
def mh_vr (s : mh_H) : mh_V := (fun r c => if c < mh_vn r ∧ r < 5 then s.1 (59 + r) c else 0, s.1 57 2, Int64.toInt32 (s.2.1 57 4))
theorem vc_at {k r c : Nat} {s : mh_H} (hc : c < mh_vn r) (hr : r < 5) : (mh_vc k s).1 r c = s.1 (k + 1 + r) c := if_pos ⟨hc, hr⟩
theorem vr_at {r c : Nat} {s : mh_H} (hc : c < mh_vn r) (hr : r < 5) : (mh_vr s).1 r c = s.1 (59 + r) c := if_pos ⟨hc, hr⟩
theorem vc_ext {k : Nat} {s : mh_H} {v : mh_V} (h0 : ∀ r c, ¬ (c < mh_vn r ∧ r < 5) → v.1 r c = 0) (h1 : ∀ r c, c < mh_vn r → r < 5 → s.1 (k + 1 + r) c = v.1 r c) (h2 : s.1 k 5 = v.2.1) (h3 : s.1 k 6 = v.2.2) : mh_vc k s = v := by
  refine Prod.ext ?_ (Prod.ext h2 h3)
  funext r c
  show (if c < mh_vn r ∧ r < 5 then s.1 (k + 1 + r) c else 0) = v.1 r c
  split
  · rename_i h; exact h1 r c h.1 h.2
  · rename_i h; exact (h0 r c h).symm
theorem vr_ext {s : mh_H} {v : mh_V} (h0 : ∀ r c, ¬ (c < mh_vn r ∧ r < 5) → v.1 r c = 0) (h1 : ∀ r c, c < mh_vn r → r < 5 → s.1 (59 + r) c = v.1 r c) (h2 : s.1 57 2 = v.2.1) (h3 : Int64.toInt32 (s.2.1 57 4) = v.2.2) : mh_vr s = v := by
  refine Prod.ext ?_ (Prod.ext h2 h3)
  funext r c
  show (if c < mh_vn r ∧ r < 5 then s.1 (59 + r) c else 0) = v.1 r c
  split
  · rename_i h; exact h1 r c h.1 h.2
  · rename_i h; exact (h0 r c h).symm
theorem vc_0 {k : Nat} {s : mh_H} {r c : Nat} (h : ¬ (c < mh_vn r ∧ r < 5)) : (mh_vc k s).1 r c = 0 := if_neg h
theorem vr_0 {s : mh_H} {r c : Nat} (h : ¬ (c < mh_vn r ∧ r < 5)) : (mh_vr s).1 r c = 0 := if_neg h
theorem vn_r {r c : Nat} (h : c < 144) (hr : r < 4) : c < mh_vn r := by unfold mh_vn; rw [if_neg (by omega)]; exact h
theorem vn_4 {c : Nat} (h : c < 100) : c < mh_vn 4 := h
/-- what one reads of a valley -/
def mh_wnd (v : mh_V) : Int32 := if 0 ≤ v.2.1.toInt ∧ v.2.1.toInt ≤ 99 then v.1 4 v.2.1.toNatClampNeg else 0
def mh_tre (v : mh_V) (c : Nat) : Int32 :=
  let t1 : Int32 := if 12 ≤ c ∧ (v.1 1 (c - 12)).toInt = 2 then 0 + 1 else 0
  let t2 : Int32 := if 0 < c % 12 ∧ (v.1 1 (c - 1)).toInt = 2 then t1 + 1 else t1
  let t3 : Int32 := if c % 12 < 11 ∧ (v.1 1 (c + 1)).toInt = 2 then t2 + 1 else t2
  if c < 132 ∧ (v.1 1 (c + 12)).toInt = 2 then t3 + 1 else t3
def mh_lev (v : mh_V) (c : Nat) : Int32 := (10 : Int32) * v.1 0 c + v.1 2 c + (if (v.1 1 c).toInt = 2 then 30 else 0)
def mh_env (v : mh_V) (c : Nat) (d : Int32) (i : Nat) : Int32 :=
  if i = 0 then v.1 0 c else if i = 1 then v.1 1 c else if i = 2 then v.2.1 else if i = 3 then mh_wnd v else if i = 4 then v.1 2 c else if i = 5 then v.1 3 c else if i = 6 then Int32.ofNat (c % 12) else if i = 7 then Int32.ofNat (c / 12) else if i = 8 then mh_tre v c else if i = 9 then d else 0
/-- cells' numbers -/
theorem ix_n {p : Int32} {c : Nat} (hp : p.toInt = (c : Int)) : p.toNatClampNeg = c := by show p.toInt.toNat = c; omega
theorem ix_mod {p : Int32} {c : Nat} (hp : p.toInt = (c : Int)) : (p % 12).toInt = ((c % 12 : Nat) : Int) := by
  have h12 : (12 : Int32).toInt = 12 := rfl
  rw [Int32.toInt_mod, hp, h12, Int.tmod_eq_emod_of_nonneg (by omega)]
  omega
theorem ix_div {p : Int32} {c : Nat} (hp : p.toInt = (c : Int)) : (p / 12).toInt = ((c / 12 : Nat) : Int) := by
  have h12 : (12 : Int32).toInt = 12 := rfl
  rw [mh_div (by rw [h12]; decide), hp, h12, Int.tdiv_eq_ediv_of_nonneg (by omega)]
  omega
theorem i32_of {z : Int32} {n : Nat} (h : z.toInt = (n : Int)) (hn : n < 1000) : z = Int32.ofNat n := Int32.toInt_inj.mp (by rw [h, Int32.toInt_ofNat_of_lt (by omega)])
theorem ix_sub {p : Int32} {c : Nat} (hp : p.toInt = (c : Int)) (hc : c < 1000) {q : Int32} {m : Nat} (hq : q.toInt = (m : Int)) (hm : m < 1000) (h : m ≤ c) : (p - q).toInt = ((c - m : Nat) : Int) := by
  rw [mh_sub (lo := 0) (hi := 1000) (by omega) (by decide)]
  omega
theorem ix_add {p : Int32} {c : Nat} (hp : p.toInt = (c : Int)) (hc : c < 100000) {q : Int32} {m : Nat} (hq : q.toInt = (m : Int)) (hm : m < 100000) : (p + q).toInt = ((c + m : Nat) : Int) := by
  rw [mh_add (lo := 0) (hi := 1000000) (by omega) (by decide)]
  omega
theorem tre_c {k : Nat} {s : mh_H} {p : Int32} {c : Nat} (hp : p.toInt = (c : Int)) (hc : c < 144) : f_eX8_treesBeside s k p = mh_tre (mh_vc k s) c := by
  have k2 : (2 : Int32).toInt = 2 := rfl
  have k12 : (12 : Int32).toInt = ((12 : Nat) : Int) := rfl
  have k11 : (11 : Int32).toInt = 11 := rfl
  have k132 : (132 : Int32).toInt = 132 := rfl
  have k1 : (1 : Int32).toInt = ((1 : Nat) : Int) := rfl
  unfold f_eX8_treesBeside j_eX8_treesBeside_29_1 j_eX8_treesBeside_48_2 j_eX8_treesBeside_69_3
  simp only [mh_lbE, k2, k132, k11, ix_mod hp]
  have e4 : c < 132 → s.1 (k + 2) (p + 12).toNatClampNeg = (mh_vc k s).1 1 (c + 12) := fun h => by rw [vc_at (vn_r (by omega) (by decide)) (by decide), ix_n (ix_add hp (by omega) k12 (by decide))]
  have e3 : c % 12 < 11 → s.1 (k + 2) (p + 1).toNatClampNeg = (mh_vc k s).1 1 (c + 1) := fun h => by rw [vc_at (vn_r (by omega) (by decide)) (by decide), ix_n (ix_add hp (by omega) k1 (by decide))]
  have e2 : 0 < c % 12 → s.1 (k + 2) (p - 1).toNatClampNeg = (mh_vc k s).1 1 (c - 1) := fun h => by rw [vc_at (vn_r (by omega) (by decide)) (by decide), ix_n (ix_sub hp (by omega) k1 (by decide) (by omega))]
  have e1 : 12 ≤ c → s.1 (k + 2) (p - 12).toNatClampNeg = (mh_vc k s).1 1 (c - 12) := fun h => by rw [vc_at (vn_r (by omega) (by decide)) (by decide), ix_n (ix_sub hp (by omega) k12 (by decide) h)]
  unfold mh_tre
  generalize mh_vc k s = v at e1 e2 e3 e4
  have q4 : ∀ x : Int32, (if p.toInt < 132 then if (s.1 (k + 2) (p + 12).toNatClampNeg).toInt = 2 then x + 1 else x else x) = if c < 132 ∧ (v.1 1 (c + 12)).toInt = 2 then x + 1 else x := by
    intro x
    by_cases h : c < 132
    · rw [if_pos (by omega), e4 h]
      simp only [h, true_and]
    · rw [if_neg (by omega), if_neg (fun q => h q.1)]
  have q3 : ∀ (x : Int32) (f : Int32 → Int32), (if ((c % 12 : Nat) : Int) < 11 then if (s.1 (k + 2) (p + 1).toNatClampNeg).toInt = 2 then f (x + 1) else f x else f x) = f (if c % 12 < 11 ∧ (v.1 1 (c + 1)).toInt = 2 then x + 1 else x) := by
    intro x f
    by_cases h : c % 12 < 11
    · rw [if_pos (by omega), e3 h]
      simp only [h, true_and]
      split <;> rfl
    · rw [if_neg (by omega), if_neg (fun q => h q.1)]
  have q2 : ∀ (x : Int32) (f : Int32 → Int32), (if 0 < ((c % 12 : Nat) : Int) then if (s.1 (k + 2) (p - 1).toNatClampNeg).toInt = 2 then f (x + 1) else f x else f x) = f (if 0 < c % 12 ∧ (v.1 1 (c - 1)).toInt = 2 then x + 1 else x) := by
    intro x f
    by_cases h : 0 < c % 12
    · rw [if_pos (by omega), e2 h]
      simp only [h, true_and]
      split <;> rfl
    · rw [if_neg (by omega), if_neg (fun q => h q.1)]
  have q1 : ∀ (f : Int32 → Int32), (if p.toInt < ((12 : Nat) : Int) then f 0 else if (s.1 (k + 2) (p - 12).toNatClampNeg).toInt = 2 then f (0 + 1) else f 0) = f (if 12 ≤ c ∧ (v.1 1 (c - 12)).toInt = 2 then 0 + 1 else 0) := by
    intro f
    by_cases h : 12 ≤ c
    · rw [if_neg (by omega), e1 h]
      simp only [h, true_and]
      split <;> rfl
    · rw [if_pos (by omega), if_neg (fun q => h q.1)]
  simp only [q4]
  rw [k12]
  refine (q1 (fun t1 => if 0 < ((c % 12 : Nat) : Int) then if (s.1 (k + 2) (p - 1).toNatClampNeg).toInt = 2 then (if ((c % 12 : Nat) : Int) < 11 then if (s.1 (k + 2) (p + 1).toNatClampNeg).toInt = 2 then (if c < 132 ∧ (v.1 1 (c + 12)).toInt = 2 then t1 + 1 + 1 + 1 else t1 + 1 + 1) else (if c < 132 ∧ (v.1 1 (c + 12)).toInt = 2 then t1 + 1 + 1 else t1 + 1) else (if c < 132 ∧ (v.1 1 (c + 12)).toInt = 2 then t1 + 1 + 1 else t1 + 1)) else (if ((c % 12 : Nat) : Int) < 11 then if (s.1 (k + 2) (p + 1).toNatClampNeg).toInt = 2 then (if c < 132 ∧ (v.1 1 (c + 12)).toInt = 2 then t1 + 1 + 1 else t1 + 1) else (if c < 132 ∧ (v.1 1 (c + 12)).toInt = 2 then t1 + 1 else t1) else (if c < 132 ∧ (v.1 1 (c + 12)).toInt = 2 then t1 + 1 else t1)) else (if ((c % 12 : Nat) : Int) < 11 then if (s.1 (k + 2) (p + 1).toNatClampNeg).toInt = 2 then (if c < 132 ∧ (v.1 1 (c + 12)).toInt = 2 then t1 + 1 + 1 else t1 + 1) else (if c < 132 ∧ (v.1 1 (c + 12)).toInt = 2 then t1 + 1 else t1) else (if c < 132 ∧ (v.1 1 (c + 12)).toInt = 2 then t1 + 1 else t1)))).trans ?_
  generalize (if 12 ≤ c ∧ (v.1 1 (c - 12)).toInt = 2 then (0 : Int32) + 1 else 0) = t1
  refine (q2 t1 (fun t2 => if ((c % 12 : Nat) : Int) < 11 then if (s.1 (k + 2) (p + 1).toNatClampNeg).toInt = 2 then (if c < 132 ∧ (v.1 1 (c + 12)).toInt = 2 then t2 + 1 + 1 else t2 + 1) else (if c < 132 ∧ (v.1 1 (c + 12)).toInt = 2 then t2 + 1 else t2) else (if c < 132 ∧ (v.1 1 (c + 12)).toInt = 2 then t2 + 1 else t2))).trans ?_
  exact q3 _ (fun t3 => if c < 132 ∧ (v.1 1 (c + 12)).toInt = 2 then t3 + 1 else t3)
theorem lev_c {k : Nat} {s : mh_H} {p : Int32} {c : Nat} (hp : p.toInt = (c : Int)) (hc : c < 144) : f_eX8_level s k p = mh_lev (mh_vc k s) c := by
  have k2 : (2 : Int32).toInt = 2 := rfl
  unfold f_eX8_level j_eX8_level_16_1 mh_lev
  simp only [mh_lbE, k2, ix_n hp]
  rw [vc_at (vn_r hc (by decide)) (by decide), vc_at (vn_r hc (by decide)) (by decide), vc_at (vn_r hc (by decide)) (by decide)]
  show (if (s.1 (k + 2) c).toInt = 2 then (10 : Int32) * s.1 (k + 1) c + s.1 (k + 3) c + 30 else (10 : Int32) * s.1 (k + 1) c + s.1 (k + 3) c + 0) = _
  split <;> rfl
theorem lev_r {s : mh_H} {p : Int32} {c : Nat} (hp : p.toInt = (c : Int)) (hc : c < 144) : f_eX10_levelAt s p = mh_lev (mh_vr s) c := by
  have k2 : (2 : Int32).toInt = 2 := rfl
  unfold f_eX10_levelAt mh_lev
  simp only [mh_lbE, k2, ix_n hp]
  rw [vr_at (vn_r hc (by decide)) (by decide), vr_at (vn_r hc (by decide)) (by decide), vr_at (vn_r hc (by decide)) (by decide)]
  split <;> rfl
theorem wnd_c {k : Nat} {s : mh_H} : f_eX8_windOf s k (s.1 k 5) = mh_wnd (mh_vc k s) := by
  have k9 : (99 : Int32).toInt = 99 := rfl
  unfold f_eX8_windOf mh_wnd
  simp only [mh_lbE, fq_within, k9]
  show _ = if 0 ≤ (s.1 k 5).toInt ∧ (s.1 k 5).toInt ≤ 99 then (mh_vc k s).1 4 (s.1 k 5).toNatClampNeg else 0
  by_cases h : 0 ≤ (s.1 k 5).toInt ∧ (s.1 k 5).toInt ≤ 99
  · rw [if_neg (not_not_intro h), if_pos h, vc_at (vn_4 (by show (s.1 k 5).toInt.toNat < 100; omega)) (by decide)]
  · rw [if_pos h, if_neg h]
theorem wnd_r {s : mh_H} (h0 : 0 ≤ (s.1 57 2).toInt) : f_eX10_windNow s = mh_wnd (mh_vr s) := by
  have k9 : (100 : Int32).toInt = 100 := rfl
  unfold f_eX10_windNow mh_wnd
  simp only [mh_lbE, k9]
  show _ = if 0 ≤ (s.1 57 2).toInt ∧ (s.1 57 2).toInt ≤ 99 then (mh_vr s).1 4 (s.1 57 2).toNatClampNeg else 0
  by_cases h : (s.1 57 2).toInt < 100
  · rw [if_pos h, if_pos ⟨h0, by omega⟩, vr_at (vn_4 (by show (s.1 57 2).toInt.toNat < 100; omega)) (by decide)]
  · rw [if_neg h, if_neg (by omega)]

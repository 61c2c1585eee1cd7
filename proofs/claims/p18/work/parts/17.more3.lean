def mh_u1 (f : Nat → Int32) (i : Nat) (v : Int32) : Nat → Int32 := fun b => if b = i then v else f b
theorem mh_row_s {σ : mh_H} {k j : Nat} {x : Int32} : (mh_pI σ k j x).1 k = mh_u1 (σ.1 k) j x := by
  funext b
  show mh_up σ.1 k j x k b = _
  simp [mh_up, mh_u1]
theorem mh_row_n {σ : mh_H} {a k j : Nat} {x : Int32} (h : a ≠ k) : (mh_pI σ k j x).1 a = σ.1 a := mh_up_row h
theorem mh_F_row {S : List (Nat × Nat)} {σ σ' : mh_H} (h : mh_F S σ σ') (k : Nat) (hs : S.any (fun e => e.1 == k) = false) : σ'.1 k = σ.1 k := by
  funext b
  refine (h k b ?_).1
  rintro ⟨e, he, h1, h2⟩
  have h3 := List.any_eq_false.mp hs e he
  rw [h1] at h3
  simp at h3
/-- what an operator makes of two numbers -/
def mh_wk (c a b : Int32) : Int32 := if c.toInt = 37 then (if b.toInt = 0 then 0 else a - a / b * b) else if c.toInt = 42 then a * b else if c.toInt = 43 then a + b else if c.toInt = 45 then a - b else if c.toInt = 47 then (if b.toInt = 0 then 0 else a / b) else if c.toInt = 60 then (if a.toInt < b.toInt then 1 else 0) else if c.toInt = 62 then (if b.toInt < a.toInt then 1 else 0) else (if a.toInt = b.toInt then 1 else 0)
/-- how many of the first d sides have trees -/
def mh_tr (σ : mh_H) (c : Int) : Nat → Int
  | 0 => 0
  | d + 1 => mh_tr σ c d + (if mh_bes c d = -1 then 0 else if (σ.1 60 (mh_bes c d).toNat).toInt = 2 then 1 else 0)
def mh_wn (σ : mh_H) : Int32 := if (σ.1 57 2).toInt < 100 then σ.1 63 (σ.1 57 2).toNatClampNeg else 0
def mh_oc (σ : mh_H) (cell mist c : Int32) : Int32 := if c.toInt = 99 then σ.1 61 cell.toNatClampNeg else if c.toInt = 104 then σ.1 59 cell.toNatClampNeg else if c.toInt = 107 then σ.1 60 cell.toNatClampNeg else if c.toInt = 110 then Int32.ofInt (mh_tr σ cell.toInt 4) else if c.toInt = 116 then σ.1 57 2 else if c.toInt = 118 then mh_wn σ else if c.toInt = 119 then σ.1 62 cell.toNatClampNeg else if c.toInt = 120 then Int32.ofInt (cell.toInt % 12) else if c.toInt = 121 then Int32.ofInt (cell.toInt / 12) else mist
def mh_vo (σ : mh_H) (cell mist i j l c : Int32) : Int32 := if c.toInt = 105 then i else if c.toInt = 106 then j else if c.toInt = 108 then l else if cell.toInt = -1 then 0 else mh_oc σ cell mist c
theorem mh_ofI {z : Int32} {n : Int} (h : z.toInt = n) : z = Int32.ofInt n := by rw [← h, Int32.ofInt_toInt]
def mh_dw (c : Int32) (a : Nat) (w r : Nat → Int32) : Nat → Int32 := if c.toInt = 38 ∨ c.toInt = 124 then (if (r a).toInt ≠ 0 ∨ (c.toInt = 38 ∧ (w a).toInt ≠ 1) ∨ (c.toInt ≠ 38 ∧ (w a).toInt ≠ 0) then w else mh_u1 w a (w (a + 1))) else mh_u1 w a (mh_wk c (w a) (w (a + 1)))
def mh_dr (c : Int32) (a : Nat) (w r : Nat → Int32) : Nat → Int32 := if c.toInt = 38 ∨ c.toInt = 124 then (if (r a).toInt ≠ 0 ∨ (c.toInt = 38 ∧ (w a).toInt ≠ 1) ∨ (c.toInt ≠ 38 ∧ (w a).toInt ≠ 0) then r else mh_u1 r a (r (a + 1))) else mh_u1 r a (if (r a).toInt ≠ 0 ∨ (r (a + 1)).toInt ≠ 0 ∨ ((c.toInt = 47 ∨ c.toInt = 37) ∧ (w (a + 1)).toInt = 0) then 1 else 0)
abbrev mh_Qs : Type := Nat × (Nat → Int32) × (Nat → Int32)
def mh_gs (val : Int32 → Int32) (c av : Int32) (q : mh_Qs) : mh_Qs :=
  if 2 < c.toInt then (q.1 - 1, mh_dw c (q.1 - 2) q.2.1 q.2.2, mh_dr c (q.1 - 2) q.2.1 q.2.2)
  else if c.toInt = 2 then (q.1, mh_u1 q.2.1 (q.1 - 1) (1 - q.2.1 (q.1 - 1)), q.2.2)
  else (q.1 + 1, mh_u1 q.2.1 q.1 (if c.toInt = 0 then av else val av), mh_u1 q.2.2 q.1 0)
def mh_gr (f g : Nat → Int32) (val : Int32 → Int32) (a : Nat) : Nat → mh_Qs
  | 0 => (0, fun _ => 0, fun _ => 0)
  | m + 1 => mh_gs val (f (a + m)) (g (a + m)) (mh_gr f g val a m)
theorem mh_dps_snoc (f : Nat → Int32) : ∀ (m i n : Nat), mh_dps f (m + 1) i n = (mh_dps f m i n).bind (mh_dp (f (i + m)))
  | 0, i, n => by
    simp only [mh_dps, Nat.add_zero, Option.bind_some]
    cases mh_dp (f i) n <;> rfl
  | m + 1, i, n => by
    have ih := fun q => mh_dps_snoc f m (i + 1) q
    show (mh_dp (f i) n).bind (mh_dps f (m + 1) (i + 1)) = ((mh_dp (f i) n).bind (mh_dps f m (i + 1))).bind (mh_dp (f (i + (m + 1))))
    cases mh_dp (f i) n with
    | none => rfl
    | some q =>
      show mh_dps f (m + 1) (i + 1) q = (mh_dps f m (i + 1) q).bind _
      rw [ih q, show i + 1 + m = i + (m + 1) by omega]
theorem mh_dps_pre (f : Nat → Int32) (i n : Nat) : ∀ (k m : Nat) {q : Nat}, mh_dps f (m + k) i n = some q → ∃ p, mh_dps f m i n = some p
  | 0, m, q, h => ⟨q, h⟩
  | k + 1, m, q, h => by
    rw [show m + (k + 1) = (m + k) + 1 by omega, mh_dps_snoc] at h
    cases h1 : mh_dps f (m + k) i n with
    | none => rw [h1] at h; cases h
    | some p => exact mh_dps_pre f i n k m h1
theorem mh_dps_le (f : Nat → Int32) (i : Nat) : ∀ (m : Nat) {n : Nat}, mh_dps f m i 0 = some n → n ≤ m
  | 0, n, h => by cases h; exact Nat.le_refl _
  | m + 1, n, h => by
    rw [mh_dps_snoc] at h
    cases h1 : mh_dps f m i 0 with
    | none => rw [h1] at h; cases h
    | some p =>
      rw [h1] at h
      have ih := mh_dps_le f i m h1
      have h2 : mh_dp (f (i + m)) p = some n := h
      unfold mh_dp at h2
      split at h2
      · split at h2
        · cases h2; omega
        · cases h2
      · split at h2
        · split at h2
          · cases h2; omega
          · cases h2
        · cases h2; omega
theorem mh_seg_st {f : Nat → Int32} {a k m n : Nat} (hs : mh_dps f k a 0 = some 1) (hm : m < k) (hn : mh_dps f m a 0 = some n) : (2 < (f (a + m)).toInt → 2 ≤ n) ∧ ((f (a + m)).toInt = 2 → 1 ≤ n) ∧ n ≤ m := by
  have h1 : ∃ p, mh_dps f (m + 1) a 0 = some p := mh_dps_pre f a 0 (k - (m + 1)) (m + 1) (q := 1) (by rw [show m + 1 + (k - (m + 1)) = k by omega]; exact hs)
  obtain ⟨p, h1⟩ := h1
  rw [mh_dps_snoc, hn] at h1
  have h2 : mh_dp (f (a + m)) n = some p := h1
  refine ⟨fun q => ?_, fun q => ?_, mh_dps_le f a m hn⟩
  · unfold mh_dp at h2
    rw [if_pos q] at h2
    split at h2
    · assumption
    · cases h2
  · unfold mh_dp at h2
    rw [if_neg (by omega), if_pos q] at h2
    split at h2
    · assumption
    · cases h2
/-- the run of a code through its stack, so far: how deep it is, and its numbers are those of the pure run -/
def mh_gI (f g : Nat → Int32) (val : Int32 → Int32) (a m n : Nat) (w r : Nat → Int32) : Prop := mh_dps f m a 0 = some n ∧ (mh_gr f g val a m).1 = n ∧ ∀ j, j < n → w j = (mh_gr f g val a m).2.1 j ∧ r j = (mh_gr f g val a m).2.2 j
theorem mh_gI_0 {f g : Nat → Int32} {val : Int32 → Int32} {a : Nat} {w r : Nat → Int32} : mh_gI f g val a 0 0 w r := ⟨rfl, rfl, fun j h => absurd h (Nat.not_lt_zero j)⟩
theorem mh_u1_c {w w' : Nat → Int32} {n k i : Nat} {x x' : Int32} (h : ∀ j, j < n → w j = w' j) (hx : x = x') (hi : k ≤ n ∨ (k = n + 1 ∧ i = n)) : ∀ j, j < k → mh_u1 w i x j = mh_u1 w' i x' j := by
  intro j hj
  unfold mh_u1
  by_cases q : j = i
  · rw [if_pos q, if_pos q, hx]
  · rw [if_neg q, if_neg q]
    exact h j (by omega)
theorem mh_gI_bin {f g : Nat → Int32} {val : Int32 → Int32} {a m n : Nat} {w r : Nat → Int32} {c : Int32} (h : mh_gI f g val a m n w r) (hc : f (a + m) = c) (h2 : 2 < c.toInt) (hn : 2 ≤ n) : mh_gI f g val a (m + 1) (n - 1) (mh_dw c (n - 2) w r) (mh_dr c (n - 2) w r) := by
  obtain ⟨h1, hq, ha⟩ := h
  refine ⟨?_, ?_, ?_⟩
  · rw [mh_dps_snoc, h1, hc]
    show mh_dp c n = _
    unfold mh_dp
    rw [if_pos h2, if_pos hn]
  · simp only [mh_gr, mh_gs, hc, if_pos h2, hq]
  · have hw : ∀ j, j < n → w j = (mh_gr f g val a m).2.1 j := fun j hj => (ha j hj).1
    have hr : ∀ j, j < n → r j = (mh_gr f g val a m).2.2 j := fun j hj => (ha j hj).2
    have e1 := hw (n - 2) (by omega)
    have e2 := hw (n - 2 + 1) (by omega)
    have e3 := hr (n - 2) (by omega)
    have e4 := hr (n - 2 + 1) (by omega)
    intro j hj
    simp only [mh_gr, mh_gs, hc, if_pos h2, hq]
    constructor
    · unfold mh_dw
      rw [← e1, ← e2, ← e3]
      split
      · split
        · exact hw j (by omega)
        · exact mh_u1_c hw rfl (Or.inl (Nat.sub_le n 1)) j hj
      · exact mh_u1_c hw rfl (Or.inl (Nat.sub_le n 1)) j hj
    · unfold mh_dr
      rw [← e1, ← e2, ← e3, ← e4]
      split
      · split
        · exact hr j (by omega)
        · exact mh_u1_c hr rfl (Or.inl (Nat.sub_le n 1)) j hj
      · exact mh_u1_c hr rfl (Or.inl (Nat.sub_le n 1)) j hj
theorem mh_gI_not {f g : Nat → Int32} {val : Int32 → Int32} {a m n : Nat} {w r : Nat → Int32} {c : Int32} (h : mh_gI f g val a m n w r) (hc : f (a + m) = c) (h2 : c.toInt = 2) (hn : 1 ≤ n) : mh_gI f g val a (m + 1) n (mh_u1 w (n - 1) (1 - w (n - 1))) r := by
  obtain ⟨h1, hq, ha⟩ := h
  have h3 : ¬ 2 < c.toInt := by omega
  refine ⟨?_, ?_, ?_⟩
  · rw [mh_dps_snoc, h1, hc]
    show mh_dp c n = _
    unfold mh_dp
    rw [if_neg h3, if_pos h2, if_pos hn]
  · simp only [mh_gr, mh_gs, hc, if_neg h3, if_pos h2, hq]
  · have hw : ∀ j, j < n → w j = (mh_gr f g val a m).2.1 j := fun j hj => (ha j hj).1
    intro j hj
    simp only [mh_gr, mh_gs, hc, if_neg h3, if_pos h2, hq]
    exact ⟨mh_u1_c hw (by rw [hw (n - 1) (by omega)]) (Or.inl (Nat.le_refl _)) j hj, (ha j hj).2⟩
theorem mh_gI_psh {f g : Nat → Int32} {val : Int32 → Int32} {a m n : Nat} {w r : Nat → Int32} {c av x : Int32} (h : mh_gI f g val a m n w r) (hc : f (a + m) = c) (hg : g (a + m) = av) (h2 : ¬ 2 < c.toInt) (h3 : ¬ c.toInt = 2) (hx : x = if c.toInt = 0 then av else val av) : mh_gI f g val a (m + 1) (n + 1) (mh_u1 w n x) (mh_u1 r n 0) := by
  obtain ⟨h1, hq, ha⟩ := h
  refine ⟨?_, ?_, ?_⟩
  · rw [mh_dps_snoc, h1, hc]
    show mh_dp c n = _
    unfold mh_dp
    rw [if_neg h2, if_neg h3]
  · simp only [mh_gr, mh_gs, hc, if_neg h2, if_neg h3, hq]
  · have hw : ∀ j, j < n → w j = (mh_gr f g val a m).2.1 j := fun j hj => (ha j hj).1
    have hr : ∀ j, j < n → r j = (mh_gr f g val a m).2.2 j := fun j hj => (ha j hj).2
    intro j hj
    simp only [mh_gr, mh_gs, hc, hg, if_neg h2, if_neg h3, hq]
    exact ⟨mh_u1_c hw hx (Or.inr ⟨rfl, rfl⟩) j hj, mh_u1_c hr rfl (Or.inr ⟨rfl, rfl⟩) j hj⟩
theorem mh_gI_end {f g : Nat → Int32} {val : Int32 → Int32} {a m n : Nat} {w r : Nat → Int32} (h : mh_gI f g val a m n w r) (hs : mh_dps f m a 0 = some 1) : w 0 = (mh_gr f g val a m).2.1 0 ∧ r 0 = (mh_gr f g val a m).2.2 0 := by
  have h1 := h.1
  rw [hs] at h1
  cases h1
  exact h.2.2 0 (by decide)
/-- two worlds in which the reference reads the same ground, air, winds, step and law -/
def mh_ev (σ σ' : mh_H) : Prop := (∀ k, 59 ≤ k → k ≤ 69 → σ'.1 k = σ.1 k) ∧ σ'.1 57 2 = σ.1 57 2 ∧ σ'.1 57 10 = σ.1 57 10
theorem mh_F_ev {S : List (Nat × Nat)} {σ σ' : mh_H} (h : mh_F S σ σ') (hs : S.all (fun e => !(decide (59 ≤ e.1) && decide (e.1 ≤ 69)) && !(e.1 == 57 && (e.2 == 9999 || e.2 == 2 || e.2 == 10))) = true) : mh_ev σ σ' := by
  have h0 := List.all_eq_true.mp hs
  refine ⟨fun k h1 h2 => ?_, ?_, ?_⟩
  · funext b
    refine (h k b ?_).1
    rintro ⟨e, he, h3, h4⟩
    have h5 := h0 e he
    rw [h3] at h5
    simp [h1, h2] at h5
  · refine (h 57 2 ?_).1
    rintro ⟨e, he, h3, h4⟩
    have h5 := h0 e he
    rw [h3] at h5
    rcases h4 with h4 | h4 <;> rw [h4] at h5 <;> simp at h5
  · refine (h 57 10 ?_).1
    rintro ⟨e, he, h3, h4⟩
    have h5 := h0 e he
    rw [h3] at h5
    rcases h4 with h4 | h4 <;> rw [h4] at h5 <;> simp at h5
theorem mh_ev_tr {σ σ' : mh_H} (h : mh_ev σ σ') (c : Int) : ∀ d, mh_tr σ' c d = mh_tr σ c d
  | 0 => rfl
  | d + 1 => by
    simp only [mh_tr]
    rw [mh_ev_tr h c d, h.1 60 (by decide) (by decide)]
theorem mh_ev_wn {σ σ' : mh_H} (h : mh_ev σ σ') : mh_wn σ' = mh_wn σ := by
  unfold mh_wn
  rw [h.2.1, h.1 63 (by decide) (by decide)]
theorem mh_ev_oc {σ σ' : mh_H} (h : mh_ev σ σ') (cell mist c : Int32) : mh_oc σ' cell mist c = mh_oc σ cell mist c := by
  unfold mh_oc
  rw [h.2.1, h.1 61 (by decide) (by decide), h.1 59 (by decide) (by decide), h.1 60 (by decide) (by decide), h.1 62 (by decide) (by decide), mh_ev_wn h, mh_ev_tr h]
theorem mh_ev_vo {σ σ' : mh_H} (h : mh_ev σ σ') (cell mist i j l : Int32) : mh_vo σ' cell mist i j l = mh_vo σ cell mist i j l := by
  funext c
  unfold mh_vo
  rw [mh_ev_oc h]
/-- the reference's law, by a letter, from clause k on -/
def mh_hs (σ : mh_H) (val : Int32 → Int32) (k : Nat) : Prop := ((mh_gr (σ.1 68) (σ.1 69) val (σ.1 66 k).toNatClampNeg ((σ.1 67 k).toNatClampNeg - (σ.1 66 k).toNatClampNeg)).2.2 0).toInt = 0 ∧ ((mh_gr (σ.1 68) (σ.1 69) val (σ.1 66 k).toNatClampNeg ((σ.1 67 k).toNatClampNeg - (σ.1 66 k).toNatClampNeg)).2.1 0).toInt = 1
def mh_wv (σ : mh_H) (val : Int32 → Int32) (k : Nat) : Int32 := if ((mh_gr (σ.1 68) (σ.1 69) val (σ.1 65 k).toNatClampNeg ((σ.1 66 k).toNatClampNeg - (σ.1 65 k).toNatClampNeg)).2.2 0).toInt = 0 then (mh_gr (σ.1 68) (σ.1 69) val (σ.1 65 k).toNatClampNeg ((σ.1 66 k).toNatClampNeg - (σ.1 65 k).toNatClampNeg)).2.1 0 else 0
def mh_cl (v most : Int32) : Int32 := if v.toInt < 0 then 0 else if most.toInt < v.toInt then most else v
noncomputable def mh_tc (σ : mh_H) (val : Int32 → Int32) (letter most : Int32) : Nat → Nat → Int32
  | 0, _ => 0
  | m + 1, k => haveI := Classical.propDecidable (mh_hs σ val k); if (σ.1 64 k).toInt = letter.toInt then (if mh_hs σ val k then mh_cl (mh_wv σ val k) most else mh_tc σ val letter most m (k + 1)) else mh_tc σ val letter most m (k + 1)
theorem mh_ev_hs {σ σ' : mh_H} (h : mh_ev σ σ') (val : Int32 → Int32) (k : Nat) : mh_hs σ' val k = mh_hs σ val k := by
  unfold mh_hs
  rw [h.1 68 (by decide) (by decide), h.1 69 (by decide) (by decide), h.1 66 (by decide) (by decide), h.1 67 (by decide) (by decide)]
theorem mh_ev_wv {σ σ' : mh_H} (h : mh_ev σ σ') (val : Int32 → Int32) (k : Nat) : mh_wv σ' val k = mh_wv σ val k := by
  unfold mh_wv
  rw [h.1 68 (by decide) (by decide), h.1 69 (by decide) (by decide), h.1 66 (by decide) (by decide), h.1 65 (by decide) (by decide)]
theorem mh_tc_0 {σ : mh_H} {val : Int32 → Int32} {letter most : Int32} {k : Nat} : mh_tc σ val letter most 0 k = 0 := rfl
theorem mh_tc_n {σ : mh_H} {val : Int32 → Int32} {letter most : Int32} {m k : Nat} (h : ¬ ((σ.1 64 k).toInt = letter.toInt ∧ mh_hs σ val k)) : mh_tc σ val letter most (m + 1) k = mh_tc σ val letter most m (k + 1) := by
  simp only [mh_tc]
  by_cases h1 : (σ.1 64 k).toInt = letter.toInt
  · rw [if_pos h1, if_neg (fun q => h ⟨h1, q⟩)]
  · rw [if_neg h1]
theorem mh_tc_y {σ : mh_H} {val : Int32 → Int32} {letter most : Int32} {m k : Nat} (h1 : (σ.1 64 k).toInt = letter.toInt) (h2 : mh_hs σ val k) : mh_tc σ val letter most (m + 1) k = mh_cl (mh_wv σ val k) most := by
  simp only [mh_tc]
  rw [if_pos h1, if_pos h2]
theorem mh_ev_tc {σ σ' : mh_H} (h : mh_ev σ σ') (val : Int32 → Int32) (letter most : Int32) : ∀ m k, mh_tc σ' val letter most m k = mh_tc σ val letter most m k
  | 0, _ => rfl
  | m + 1, k => by
    have e1 : σ'.1 64 = σ.1 64 := h.1 64 (by decide) (by decide)
    by_cases h1 : (σ.1 64 k).toInt = letter.toInt ∧ mh_hs σ val k
    · rw [mh_tc_y h1.1 h1.2, mh_tc_y (by rw [e1]; exact h1.1) (by rw [mh_ev_hs h]; exact h1.2), mh_ev_wv h]
    · rw [mh_tc_n h1, mh_tc_n (by rw [e1, mh_ev_hs h]; exact h1), mh_ev_tc h val letter most m (k + 1)]
/-- what the reference's law says by a letter at a cell -/
noncomputable def mh_by (σ : mh_H) (letter cell mist most : Int32) : Int32 := mh_tc σ (mh_vo σ cell mist 0 0 0) letter most (σ.1 57 10).toNatClampNeg 0
theorem mh_ev_by {σ σ' : mh_H} (h : mh_ev σ σ') (letter cell mist most : Int32) : mh_by σ' letter cell mist most = mh_by σ letter cell mist most := by
  unfold mh_by
  rw [mh_ev_vo h, mh_ev_tc h, h.2.2]

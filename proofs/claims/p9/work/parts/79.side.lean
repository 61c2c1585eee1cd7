/-- a valley that the reference has set aside -/
def mh_sr (r : Nat) : Nat := if r = 0 then 85 else if r = 1 then 86 else if r = 2 then 83 else 84
def mh_sd (k : Nat) (s : mh_H) : mh_V := (fun r c => if c < mh_vn r ∧ r < 5 then (if r < 4 then s.1 (mh_sr r) (144 * k + c) else s.1 63 c) else 0, s.1 87 k, Int64.toInt32 (s.2.1 88 k))
theorem sd_ext {k : Nat} {s : mh_H} {v : mh_V} (h0 : ∀ r c, ¬ (c < mh_vn r ∧ r < 5) → v.1 r c = 0) (h1 : ∀ r c, c < 144 → r < 4 → s.1 (mh_sr r) (144 * k + c) = v.1 r c) (hw : ∀ c, c < 100 → s.1 63 c = v.1 4 c) (h2 : s.1 87 k = v.2.1) (h3 : Int64.toInt32 (s.2.1 88 k) = v.2.2) : mh_sd k s = v := by
  refine Prod.ext ?_ (Prod.ext h2 h3)
  funext r c
  show (if c < mh_vn r ∧ r < 5 then (if r < 4 then s.1 (mh_sr r) (144 * k + c) else s.1 63 c) else 0) = v.1 r c
  split
  · rename_i h
    split
    · rename_i hr
      refine h1 r c ?_ hr
      have := h.1
      unfold mh_vn at this
      rw [if_neg (by omega)] at this
      exact this
    · rename_i hr
      obtain rfl : r = 4 := by omega
      exact hw c h.1
  · rename_i h; exact (h0 r c h).symm
theorem sd_0 {k : Nat} {s : mh_H} {r c : Nat} (h : ¬ (c < mh_vn r ∧ r < 5)) : (mh_sd k s).1 r c = 0 := if_neg h
theorem sd_at {k r c : Nat} {s : mh_H} (hc : c < 144) (hr : r < 4) : (mh_sd k s).1 r c = s.1 (mh_sr r) (144 * k + c) := (if_pos ⟨vn_r hc hr, by omega⟩).trans (if_pos hr)
theorem sd_w {k c : Nat} {s : mh_H} (hc : c < 100) : (mh_sd k s).1 4 c = s.1 63 c := (if_pos ⟨vn_4 hc, by decide⟩).trans (if_neg (by decide))
theorem sd_F {S : List (Nat × Nat)} {k : Nat} {s s' : mh_H} (hF : mh_F S s s') (hS : ∀ e ∈ S, (e.1 < 83 ∨ 88 < e.1) ∧ e.1 ≠ 63) : mh_sd k s' = mh_sd k s := by
  have at_ : ∀ b j, (83 ≤ b ∧ b ≤ 88) ∨ b = 63 → s'.1 b j = s.1 b j ∧ s'.2.1 b j = s.2.1 b j := fun b j h => by
    have := hF b j (by rintro ⟨e, g1, g2, -⟩; have := hS e g1; omega)
    exact ⟨this.1, this.2.1⟩
  have sr : ∀ r, 83 ≤ mh_sr r ∧ mh_sr r ≤ 88 := fun r => by unfold mh_sr; by_cases a : r = 0 <;> by_cases b : r = 1 <;> by_cases c : r = 2 <;> simp [a, b, c]
  refine sd_ext (fun r c h => sd_0 h) (fun r c hc hr => ?_) (fun c hc => ?_) (at_ 87 k (Or.inl (by decide))).1 (congrArg Int64.toInt32 (at_ 88 k (Or.inl (by decide))).2)
  · rw [(at_ _ _ (Or.inl (sr r))).1, sd_at hc hr]
  · rw [(at_ 63 c (Or.inr rfl)).1, sd_w hc]
theorem sa_ix {p x : Int32} {k m : Nat} (hp : p.toInt = (k : Int)) (hk : k ≤ 1) (hx : x.toInt = (m : Int)) (hm : m < 144) : ((144 : Int32) * p + x).toNatClampNeg = 144 * k + m := by
  have k144 : (144 : Int32).toInt = 144 := rfl
  have e1 : ((144 : Int32) * p).toInt = ((144 * k : Nat) : Int) := by rw [mh_mul (lo := 0) (hi := 144) (by rw [k144]; omega) (by decide), k144, hp]; omega
  exact ix_n (ix_add e1 (by omega) hx (by omega))
def mh_saI (v : mh_V) (k : Nat) (s0 s : mh_H) (m : Nat) : Prop := (∀ b i, (b < 83 ∨ 86 < b) → s.1 b i = s0.1 b i) ∧ s.2 = s0.2 ∧ (∀ i, ¬ (144 * k ≤ i ∧ i < 144 * k + m) → ∀ b, 83 ≤ b → b ≤ 86 → s.1 b i = s0.1 b i) ∧ (∀ c, c < m → s.1 83 (144 * k + c) = v.1 2 c ∧ s.1 84 (144 * k + c) = v.1 3 c ∧ s.1 85 (144 * k + c) = v.1 0 c ∧ s.1 86 (144 * k + c) = v.1 1 c)
theorem sa_r {s : mh_H} {p : Int32} {k : Nat} (hp : p.toInt = (k : Int)) (hk : k ≤ 1) : mh_sd k (f_eX10_setsAside s p) = mh_vr s ∧ (∀ j, j ≤ 1 → j ≠ k → mh_sd j (f_eX10_setsAside s p) = mh_sd j s) := by
  have hv : ∀ r c, c < 144 → r < 4 → s.1 (59 + r) c = (mh_vr s).1 r c := fun r c hc hr => (vr_at (vn_r hc hr) (by omega)).symm
  unfold f_eX10_setsAside
  refine mh_for (l_eX10_setsAside_2_1 p) 144 (mh_saI (mh_vr s) k s) (fun s' => mh_sd k s' = mh_vr s ∧ (∀ j, j ≤ 1 → j ≠ k → mh_sd j s' = mh_sd j s)) (by decide) ?_ ?_ 145 s 0 0 rfl (by decide) ⟨fun _ _ _ => rfl, rfl, fun _ _ _ _ _ => rfl, fun c h => absurd h (Nat.not_lt_zero c)⟩ (by decide)
  · intro n s1 x m hx hm ⟨h1, h2, h3, h4⟩
    have k144 : (144 : Int32).toInt = 144 := rfl
    rw [l_eX10_setsAside_2_1_s]
    unfold ls_eX10_setsAside_2_1
    rw [if_pos (by omega)]
    simp only [mh_lbE, ix_n hx, sa_ix hp hk hx hm]
    rw [pI_o (show (62 : Nat) ≠ 83 by decide), pI_o (show (59 : Nat) ≠ 84 by decide), pI_o (show (59 : Nat) ≠ 83 by decide), pI_o (show (60 : Nat) ≠ 85 by decide), pI_o (show (60 : Nat) ≠ 84 by decide), pI_o (show (60 : Nat) ≠ 83 by decide)]
    rw [h1 61 m (Or.inl (by decide)), h1 62 m (Or.inl (by decide)), h1 59 m (Or.inl (by decide)), h1 60 m (Or.inl (by decide)), hv 2 m hm (by decide), hv 3 m hm (by decide), hv 0 m hm (by decide), hv 1 m hm (by decide)]
    refine ⟨_, ?_, rfl⟩
    refine ⟨?_, h2, ?_, ?_⟩
    · intro b i hb
      rw [pI_o (by omega), pI_o (by omega), pI_o (by omega), pI_o (by omega)]
      exact h1 b i hb
    · intro i hi b b1 b2
      have hne : i ≠ 144 * k + m := by omega
      rw [pI_j hne, pI_j hne, pI_j hne, pI_j hne]
      exact h3 i (by omega) b b1 b2
    · intro c hc
      by_cases q : c = m
      · subst q
        rw [pI_o (by decide), pI_o (by decide), pI_o (by decide), pI_w, pI_o (by decide), pI_o (by decide), pI_w, pI_o (by decide), pI_w, pI_w]
        exact ⟨rfl, rfl, rfl, rfl⟩
      · have hne : 144 * k + c ≠ 144 * k + m := by omega
        rw [pI_j hne, pI_j hne, pI_j hne, pI_j hne, pI_j hne, pI_j hne, pI_j hne, pI_j hne, pI_j hne, pI_j hne, pI_j hne, pI_j hne, pI_j hne, pI_j hne, pI_j hne, pI_j hne]
        exact h4 c (by omega)
  · intro n s1 x hx ⟨h1, h2, h3, h4⟩
    rw [l_eX10_setsAside_2_1_s]
    unfold ls_eX10_setsAside_2_1
    have k144 : (144 : Int32).toInt = 144 := rfl
    rw [if_neg (by omega)]
    simp only [mh_lbE, ix_n hp]
    have sr : ∀ r, 83 ≤ mh_sr r ∧ mh_sr r ≤ 86 := fun r => by unfold mh_sr; by_cases a : r = 0 <;> by_cases b : r = 1 <;> by_cases c : r = 2 <;> simp [a, b, c]
    refine ⟨sd_ext (fun r c h => vr_0 h) (fun r c hc hr => ?_) (fun c hc => ?_) ?_ ?_, fun j hj hjk => ?_⟩
    · show (mh_pI s1 87 k (s1.1 57 2)).1 (mh_sr r) (144 * k + c) = _
      rw [pI_o (by have := sr r; omega)]
      obtain ⟨a1, a2, a3, a4⟩ := h4 c hc
      rcases (show r = 0 ∨ r = 1 ∨ r = 2 ∨ r = 3 by omega) with rfl | rfl | rfl | rfl
      · exact a3
      · exact a4
      · exact a1
      · exact a2
    · show (mh_pI s1 87 k (s1.1 57 2)).1 63 c = _
      rw [pI_o (by decide), h1 63 c (Or.inl (by decide))]
      exact (vr_at (r := 4) (vn_4 hc) (by decide)).symm
    · show (mh_pI s1 87 k (s1.1 57 2)).1 87 k = _
      rw [pI_w, h1 57 2 (Or.inl (by decide))]
      rfl
    · rw [pL_w]
      show Int64.toInt32 (s1.2.1 57 4) = _
      rw [h2]
      rfl
    · refine sd_ext (fun r c h => sd_0 h) (fun r c hc hr => ?_) (fun c hc => ?_) ?_ ?_
      · show (mh_pI s1 87 k (s1.1 57 2)).1 (mh_sr r) (144 * j + c) = _
        rw [pI_o (by have := sr r; omega), h3 (144 * j + c) (by omega) _ (sr r).1 (sr r).2, sd_at hc hr]
      · show (mh_pI s1 87 k (s1.1 57 2)).1 63 c = _
        rw [pI_o (by decide), h1 63 c (Or.inl (by decide)), sd_w hc]
      · show (mh_pI s1 87 k (s1.1 57 2)).1 87 j = _
        rw [pI_j hjk, h1 87 j (Or.inr (by decide))]
        rfl
      · show Int64.toInt32 (if 88 = 88 ∧ j = k then _ else (mh_pI s1 87 k (s1.1 57 2)).2.1 88 j) = _
        rw [if_neg (fun z => hjk z.2)]
        show Int64.toInt32 (s1.2.1 88 j) = _
        rw [h2]
        rfl
def mh_pbI (v : mh_V) (s0 s : mh_H) (m : Nat) : Prop := (∀ b i, (b < 59 ∨ 62 < b) → s.1 b i = s0.1 b i) ∧ s.2 = s0.2 ∧ (∀ r c, c < m → r < 4 → s.1 (59 + r) c = v.1 r c)
theorem pb_r {s : mh_H} {p : Int32} {k : Nat} (hp : p.toInt = (k : Int)) (hk : k ≤ 1) : mh_vr (f_eX10_putsBack s p) = mh_sd k s := by
  have hv : ∀ r c, c < 144 → r < 4 → s.1 (mh_sr r) (144 * k + c) = (mh_sd k s).1 r c := fun r c hc hr => (sd_at hc hr).symm
  unfold f_eX10_putsBack
  refine mh_for (l_eX10_putsBack_2_1 p) 144 (mh_pbI (mh_sd k s) s) (fun s' => mh_vr s' = mh_sd k s) (by decide) ?_ ?_ 145 s 0 0 rfl (by decide) ⟨fun _ _ _ => rfl, rfl, fun r c h => absurd h (Nat.not_lt_zero c)⟩ (by decide)
  · intro n s1 x m hx hm ⟨h1, h2, h4⟩
    have k144 : (144 : Int32).toInt = 144 := rfl
    rw [l_eX10_putsBack_2_1_s]
    unfold ls_eX10_putsBack_2_1
    rw [if_pos (by omega)]
    simp only [mh_lbE, ix_n hx, sa_ix hp hk hx hm]
    rw [pI_o (show (84 : Nat) ≠ 61 by decide), pI_o (show (85 : Nat) ≠ 62 by decide), pI_o (show (85 : Nat) ≠ 61 by decide), pI_o (show (86 : Nat) ≠ 59 by decide), pI_o (show (86 : Nat) ≠ 62 by decide), pI_o (show (86 : Nat) ≠ 61 by decide)]
    rw [h1 83 _ (Or.inr (by decide)), h1 84 _ (Or.inr (by decide)), h1 85 _ (Or.inr (by decide)), h1 86 _ (Or.inr (by decide))]
    have e0 : s.1 85 (144 * k + m) = (mh_sd k s).1 0 m := hv 0 m hm (by decide)
    have e1 : s.1 86 (144 * k + m) = (mh_sd k s).1 1 m := hv 1 m hm (by decide)
    have e2 : s.1 83 (144 * k + m) = (mh_sd k s).1 2 m := hv 2 m hm (by decide)
    have e3 : s.1 84 (144 * k + m) = (mh_sd k s).1 3 m := hv 3 m hm (by decide)
    rw [e0, e1, e2, e3]
    refine ⟨_, ?_, rfl⟩
    refine ⟨?_, h2, ?_⟩
    · intro b i hb
      rw [pI_o (by omega), pI_o (by omega), pI_o (by omega), pI_o (by omega)]
      exact h1 b i hb
    · intro r c hc hr
      by_cases q : c = m
      · subst q
        rcases (show r = 0 ∨ r = 1 ∨ r = 2 ∨ r = 3 by omega) with rfl | rfl | rfl | rfl
        · rw [pI_o (by decide), show 59 + 0 = 59 from rfl, pI_w]
        · rw [show 59 + 1 = 60 from rfl, pI_w]
        · rw [pI_o (by decide), pI_o (by decide), pI_o (by decide), show 59 + 2 = 61 from rfl, pI_w]
        · rw [pI_o (by decide), pI_o (by decide), show 59 + 3 = 62 from rfl, pI_w]
      · rw [pI_j q, pI_j q, pI_j q, pI_j q]
        exact h4 r c (by omega) hr
  · intro n s1 x hx ⟨h1, h2, h4⟩
    rw [l_eX10_putsBack_2_1_s]
    unfold ls_eX10_putsBack_2_1
    have k144 : (144 : Int32).toInt = 144 := rfl
    rw [if_neg (by omega)]
    simp only [mh_lbE, ix_n hp]
    refine vr_ext (fun r c h => sd_0 h) (fun r c hc hr => ?_) ?_ ?_
    · show (mh_pI s1 57 2 (s1.1 87 k)).1 (59 + r) c = _
      rw [pI_o (by omega)]
      by_cases q : r = 4
      · subst q
        rw [show 59 + 4 = 63 from rfl, h1 63 c (Or.inr (by decide)), sd_w hc]
      · have hc2 : c < 144 := by unfold mh_vn at hc; rw [if_neg q] at hc; exact hc
        exact h4 r c hc2 (by omega)
    · show (mh_pI s1 57 2 (s1.1 87 k)).1 57 2 = _
      rw [pI_w, h1 87 k (Or.inr (by decide))]
      rfl
    · rw [pL_w]
      show Int64.toInt32 (s1.2.1 88 k) = _
      rw [h2]
      rfl

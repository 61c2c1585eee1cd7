section
/-- the reference's parser: its state at place p, signs st on the stack (the top first), k pieces of code, d open -/
def mh_sk (row : Nat → Int32) : List Int32 → Prop
  | [] => True
  | x :: r => row r.length = x ∧ mh_sk row r
theorem sk_cg {row row' : Nat → Int32} : ∀ {st : List Int32}, mh_sk row st → (∀ i, i < st.length → row' i = row i) → mh_sk row' st
  | [], _, _ => trivial
  | x :: r, h, he => ⟨(he r.length (by rw [List.length_cons]; omega)).trans h.1, sk_cg h.2 (fun i hi => he i (by rw [List.length_cons]; omega))⟩
def rd_hr (T : Nat → Int32) (N p : Nat) : Int32 := if p < N then T p else 0
def mh_rP (N : Nat) (T : Nat → Int32) (p : Nat) (st : List Int32) (k d : Nat) (s : mh_H) : Prop := (s.1 57 23).toInt = (p : Int) ∧ (s.1 57 24).toInt = (N : Int) ∧ s.1 57 25 = 0 ∧ (s.1 57 27).toInt = (k : Int) ∧ (s.1 57 28).toInt = (d : Int) ∧ (s.1 57 29).toInt = (st.length : Int) ∧ mh_sk (s.1 76) st ∧ (∀ i, s.1 58 i &&& 255 = T i) ∧ p ≤ N
def mh_rk (k : Nat) (s s' : mh_H) : Prop := (∀ i, i < k → s'.1 74 i = s.1 74 i ∧ s'.1 75 i = s.1 75 i) ∧ (∀ r, 70 ≤ r → r ≤ 73 → s'.1 r = s.1 r) ∧ s'.1 57 26 = s.1 57 26
def mh_rff (s s' : mh_H) : Prop := s'.1 57 30 = s.1 57 30 ∧ s'.1 57 31 = s.1 57 31
def mh_bfl (f q : Nat) (s : mh_H) : Prop := (s.1 57 25).toInt = -1000 * (f : Int) - (q : Int)
theorem rk_rf {k : Nat} {s : mh_H} : mh_rk k s s := ⟨fun _ _ => ⟨rfl, rfl⟩, fun _ _ _ => rfl, rfl⟩
theorem rk_tr {k k' : Nat} {s s1 s2 : mh_H} (h : mh_rk k s s1) (h2 : mh_rk k' s1 s2) (hk : k ≤ k') : mh_rk k s s2 := ⟨fun i hi => ⟨(h2.1 i (by omega)).1.trans (h.1 i hi).1, (h2.1 i (by omega)).2.trans (h.1 i hi).2⟩, fun r a b => (h2.2.1 r a b).trans (h.2.1 r a b), h2.2.2.trans h.2.2⟩
theorem rf_rf {s : mh_H} : mh_rff s s := ⟨rfl, rfl⟩
theorem rf_tr {s s1 s2 : mh_H} (h : mh_rff s s1) (h2 : mh_rff s1 s2) : mh_rff s s2 := ⟨h2.1.trans h.1, h2.2.trans h.2⟩
theorem rk_57 {k j : Nat} {s : mh_H} {x : Int32} (hj : j ≠ 26) : mh_rk k s (mh_pI s 57 j x) := ⟨fun i _ => ⟨pI_o (by decide), pI_o (by decide)⟩, fun r a b => pI_row (by omega), pI_j (fun q => hj q.symm)⟩
theorem rf_57 {j : Nat} {s : mh_H} {x : Int32} (h0 : j ≠ 30) (h1 : j ≠ 31) : mh_rff s (mh_pI s 57 j x) := ⟨pI_j (fun q => h0 q.symm), pI_j (fun q => h1 q.symm)⟩
theorem rP_o {N : Nat} {T : Nat → Int32} {p k d a j : Nat} {st : List Int32} {s : mh_H} {x : Int32} (h : mh_rP N T p st k d s) (ha : a ≠ 57) (hb : a ≠ 58) (hc : a ≠ 76) : mh_rP N T p st k d (mh_pI s a j x) := by
  have e57 : (mh_pI s a j x).1 57 = s.1 57 := pI_row (fun q => ha q.symm)
  have e58 : (mh_pI s a j x).1 58 = s.1 58 := pI_row (fun q => hb q.symm)
  have e76 : (mh_pI s a j x).1 76 = s.1 76 := pI_row (fun q => hc q.symm)
  unfold mh_rP
  rw [e57, e58, e76]
  exact h
theorem rP_j {N : Nat} {T : Nat → Int32} {p k d j : Nat} {st : List Int32} {s : mh_H} {x : Int32} (h : mh_rP N T p st k d s) (hj : j ≠ 23 ∧ j ≠ 24 ∧ j ≠ 25 ∧ j ≠ 27 ∧ j ≠ 28 ∧ j ≠ 29) : mh_rP N T p st k d (mh_pI s 57 j x) :=
  ⟨by rw [pI_j (by omega)]; exact h.1, by rw [pI_j (by omega)]; exact h.2.1, by rw [pI_j (by omega)]; exact h.2.2.1, by rw [pI_j (by omega)]; exact h.2.2.2.1, by rw [pI_j (by omega)]; exact h.2.2.2.2.1, by rw [pI_j (by omega)]; exact h.2.2.2.2.2.1, by rw [pI_row (by decide)]; exact h.2.2.2.2.2.2.1, fun i => by rw [pI_o (by decide)]; exact h.2.2.2.2.2.2.2.1 i, h.2.2.2.2.2.2.2.2⟩
theorem rP_23 {N : Nat} {T : Nat → Int32} {p p' k d : Nat} {st : List Int32} {s : mh_H} {x : Int32} (h : mh_rP N T p st k d s) (hx : x.toInt = (p' : Int)) (hp : p' ≤ N) : mh_rP N T p' st k d (mh_pI s 57 23 x) :=
  ⟨by rw [pI_w]; exact hx, by rw [pI_j (by decide)]; exact h.2.1, by rw [pI_j (by decide)]; exact h.2.2.1, by rw [pI_j (by decide)]; exact h.2.2.2.1, by rw [pI_j (by decide)]; exact h.2.2.2.2.1, by rw [pI_j (by decide)]; exact h.2.2.2.2.2.1, by rw [pI_row (by decide)]; exact h.2.2.2.2.2.2.1, fun i => by rw [pI_o (by decide)]; exact h.2.2.2.2.2.2.2.1 i, hp⟩
theorem rP_27 {N : Nat} {T : Nat → Int32} {p k k' d : Nat} {st : List Int32} {s : mh_H} {x : Int32} (h : mh_rP N T p st k d s) (hx : x.toInt = (k' : Int)) : mh_rP N T p st k' d (mh_pI s 57 27 x) :=
  ⟨by rw [pI_j (by decide)]; exact h.1, by rw [pI_j (by decide)]; exact h.2.1, by rw [pI_j (by decide)]; exact h.2.2.1, by rw [pI_w]; exact hx, by rw [pI_j (by decide)]; exact h.2.2.2.2.1, by rw [pI_j (by decide)]; exact h.2.2.2.2.2.1, by rw [pI_row (by decide)]; exact h.2.2.2.2.2.2.1, fun i => by rw [pI_o (by decide)]; exact h.2.2.2.2.2.2.2.1 i, h.2.2.2.2.2.2.2.2⟩
theorem rP_28 {N : Nat} {T : Nat → Int32} {p k d d' : Nat} {st : List Int32} {s : mh_H} {x : Int32} (h : mh_rP N T p st k d s) (hx : x.toInt = (d' : Int)) : mh_rP N T p st k d' (mh_pI s 57 28 x) :=
  ⟨by rw [pI_j (by decide)]; exact h.1, by rw [pI_j (by decide)]; exact h.2.1, by rw [pI_j (by decide)]; exact h.2.2.1, by rw [pI_j (by decide)]; exact h.2.2.2.1, by rw [pI_w]; exact hx, by rw [pI_j (by decide)]; exact h.2.2.2.2.2.1, by rw [pI_row (by decide)]; exact h.2.2.2.2.2.2.1, fun i => by rw [pI_o (by decide)]; exact h.2.2.2.2.2.2.2.1 i, h.2.2.2.2.2.2.2.2⟩
theorem rP_29 {N : Nat} {T : Nat → Int32} {p k d : Nat} {y : Int32} {st : List Int32} {s : mh_H} {x : Int32} (h : mh_rP N T p (y :: st) k d s) (hx : x.toInt = (st.length : Int)) : mh_rP N T p st k d (mh_pI s 57 29 x) :=
  ⟨by rw [pI_j (by decide)]; exact h.1, by rw [pI_j (by decide)]; exact h.2.1, by rw [pI_j (by decide)]; exact h.2.2.1, by rw [pI_j (by decide)]; exact h.2.2.2.1, by rw [pI_j (by decide)]; exact h.2.2.2.2.1, by rw [pI_w]; exact hx, by rw [pI_row (by decide)]; exact h.2.2.2.2.2.2.1.2, fun i => by rw [pI_o (by decide)]; exact h.2.2.2.2.2.2.2.1 i, h.2.2.2.2.2.2.2.2⟩
theorem r_here {N : Nat} {T : Nat → Int32} {p k d : Nat} {st : List Int32} {s : mh_H} (h : mh_rP N T p st k d s) : f_eX10_here s = rd_hr T N p := by
  have h1 := h.1
  have h2 := h.2.1
  unfold f_eX10_here rd_hr
  simp only [mh_lbE]
  by_cases g : p < N
  · rw [if_pos (by omega), if_pos g, ix_n h1]
    exact h.2.2.2.2.2.2.2.1 p
  · rw [if_neg (by omega), if_neg g]
theorem hr_eq {T : Nat → Int32} {N p : Nat} {c : Int} (hc : 0 < c) : (rd_hr T N p).toInt = c ↔ (rd_sg T N p).toInt = c := by
  unfold rd_hr rd_sg
  have k0 := kc_0
  have km : (-1 : Int32).toInt = -1 := rfl
  by_cases g : p < N
  · rw [if_pos g, if_pos g]
  · rw [if_neg g, if_neg g]; omega
theorem hr_lt {T : Nat → Int32} {N p : Nat} (h : p < N) : rd_hr T N p = rd_sg T N p := by
  unfold rd_hr rd_sg
  rw [if_pos h, if_pos h]
theorem fq_good (s : mh_H) : ((f_eX10_isGood s).toInt = 0) ↔ ¬ (s.1 57 25).toInt = 0 := by
  have k0 := kc_0
  have c1 : (1 : Int32).toInt = 1 := rfl
  unfold f_eX10_isGood
  simp only [mh_lbE]
  split <;> omega
theorem rP_good {N : Nat} {T : Nat → Int32} {p k d : Nat} {st : List Int32} {s : mh_H} (h : mh_rP N T p st k d s) : ¬ (f_eX10_isGood s).toInt = 0 := fun q => (fq_good s).1 q (by rw [h.2.2.1]; rfl)
theorem bf_bad {f q : Nat} {s : mh_H} (h : mh_bfl f q s) (hf : 0 < f) : (f_eX10_isGood s).toInt = 0 := (fq_good s).2 (by unfold mh_bfl at h; omega)
theorem fq_seed {N : Nat} {T : Nat → Int32} {p k d : Nat} {st : List Int32} {s : mh_H} (h : mh_rP N T p st k d s) : ((f_eX10_seesDigit s).toInt = 0) ↔ ¬ (48 ≤ (rd_sg T N p).toInt ∧ (rd_sg T N p).toInt ≤ 57) := by
  unfold f_eX10_seesDigit
  simp only [mh_lbE]
  rw [r_here h]
  have l := fq_lies s (Int32.toInt64 (rd_hr T N p)) 48 57
  rw [Int32.toInt_toInt64, show (48 : Int64).toInt = 48 from rfl, show (57 : Int64).toInt = 57 from rfl] at l
  refine l.trans (not_congr ?_)
  unfold rd_hr rd_sg
  have k0 := kc_0
  have km : (-1 : Int32).toInt = -1 := rfl
  by_cases g : p < N
  · rw [if_pos g, if_pos g]
  · rw [if_neg g, if_neg g]; omega
theorem r_wr {N : Nat} {T : Nat → Int32} {p k d : Nat} {st : List Int32} {s : mh_H} (h : mh_rP N T p st k d s) {F P : Int32} {f q : Nat} (hF : F.toInt = (f : Int)) (hf : f ≤ 9) (hP : P.toInt = (q : Int)) (hq : q ≤ 300) : mh_bfl f q (f_eX10_wrongs s F P) := by
  have km : (-1000 : Int32).toInt = -1000 := rfl
  unfold f_eX10_wrongs mh_bfl
  simp only [mh_lbE]
  rw [if_neg (by rw [h.2.2.1]; decide), pI_w]
  have e1 : ((-1000 : Int32) * F).toInt = -1000 * (f : Int) := by
    rw [Int32.toInt_mul, km, hF, Int.bmod_eq_of_le (by omega) (by omega)]
  rw [Int32.toInt_sub, e1, hP, Int.bmod_eq_of_le (by omega) (by omega)]
/-- what stands on top -/
def mh_tp1 (st : List Int32) : Int32 := match st with
  | [] => 0
  | x :: _ => x
theorem r_top {N : Nat} {T : Nat → Int32} {p k d : Nat} {st : List Int32} {s : mh_H} (h : mh_rP N T p st k d s) (hl : st.length ≤ 400) : f_eX10_top s = mh_tp1 st := by
  have h6 := h.2.2.2.2.2.1
  unfold f_eX10_top
  simp only [mh_lbE]
  cases st with
  | nil =>
    rw [List.length_nil] at h6
    rw [if_neg (by omega)]
    rfl
  | cons x r =>
    rw [List.length_cons] at h6 hl
    have k1 : (1 : Int32).toInt = ((1 : Nat) : Int) := rfl
    have e1 : (s.1 57 29 - 1).toInt = ((r.length : Nat) : Int) := by
      have := ix_sub h6 (by omega) k1 (by decide) (by omega)
      rw [this]; omega
    rw [if_pos (by omega), ix_n e1]
    exact h.2.2.2.2.2.2.1.1
theorem r_emit {N : Nat} {T : Nat → Int32} {p k d : Nat} {st : List Int32} {s : mh_H} (h : mh_rP N T p st k d s) (hk : k ≤ 400) (a b : Int32) : ∃ s', f_eX10_emit s a b = s' ∧ mh_rP N T p st (k + 1) d s' ∧ mh_rk k s s' ∧ mh_rff s s' ∧ s'.1 74 k = a ∧ s'.1 75 k = b := by
  have k1 : (1 : Int32).toInt = ((1 : Nat) : Int) := rfl
  have h4 := h.2.2.2.1
  refine ⟨_, rfl, ?_⟩
  unfold f_eX10_emit
  simp only [mh_lbE]
  rw [if_neg (rP_good h), ix_n h4]
  refine ⟨rP_27 (rP_o (rP_o h (by decide) (by decide) (by decide)) (by decide) (by decide) (by decide)) (ix_add h4 (by omega) k1 (by decide)), ⟨fun i hi => ⟨?_, ?_⟩, fun r a b => ?_, ?_⟩, ⟨?_, ?_⟩, ?_, ?_⟩
  · rw [pI_o (by decide), pI_o (by decide), pI_j (by omega)]
  · rw [pI_o (by decide), pI_j (by omega), pI_o (by decide)]
  · rw [pI_row (by omega), pI_row (by omega), pI_row (by omega)]
  · rw [pI_j (by decide), pI_o (by decide), pI_o (by decide)]
  · rw [pI_j (by decide), pI_o (by decide), pI_o (by decide)]
  · rw [pI_j (by decide), pI_o (by decide), pI_o (by decide)]
  · rw [pI_o (by decide), pI_o (by decide), pI_w]
  · rw [pI_o (by decide), pI_w]
theorem r_puts {N : Nat} {T : Nat → Int32} {p k d : Nat} {st : List Int32} {s : mh_H} (h : mh_rP N T p st k d s) (hl : st.length ≤ 400) (hp : p < N) (hN : N ≤ 200) (x : Int32) : ∃ s', f_eX10_puts s x = s' ∧ mh_rP N T (p + 1) (x :: st) k d s' ∧ (∀ k, mh_rk k s s') ∧ mh_rff s s' ∧ s'.1 74 = s.1 74 ∧ s'.1 75 = s.1 75 := by
  have k1 : (1 : Int32).toInt = ((1 : Nat) : Int) := rfl
  have h6 := h.2.2.2.2.2.1
  have h1 := h.1
  refine ⟨_, rfl, ?_⟩
  unfold f_eX10_puts
  simp only [mh_lbE]
  rw [ix_n h6]
  have e23 : (mh_pI (mh_pI s 76 st.length x) 57 29 (s.1 57 29 + 1)).1 57 23 = s.1 57 23 := by rw [pI_j (by decide), pI_o (by decide)]
  rw [e23]
  refine ⟨rP_23 (p := p) ⟨?_, ?_, ?_, ?_, ?_, ?_, ⟨?_, ?_⟩, fun i => ?_, h.2.2.2.2.2.2.2.2⟩ (ix_add h1 (by omega) k1 (by decide)) (by omega), fun k => ⟨fun i _ => ⟨?_, ?_⟩, fun r a b => ?_, ?_⟩, ⟨?_, ?_⟩, ?_, ?_⟩
  · rw [pI_j (by decide), pI_o (by decide)]; exact h.1
  · rw [pI_j (by decide), pI_o (by decide)]; exact h.2.1
  · rw [pI_j (by decide), pI_o (by decide)]; exact h.2.2.1
  · rw [pI_j (by decide), pI_o (by decide)]; exact h.2.2.2.1
  · rw [pI_j (by decide), pI_o (by decide)]; exact h.2.2.2.2.1
  · rw [pI_w, List.length_cons]; exact ix_add h6 (by omega) k1 (by decide)
  · rw [pI_o (by decide), pI_w]
  · rw [pI_row (by decide)]
    exact sk_cg h.2.2.2.2.2.2.1 (fun i hi => pI_j (by omega))
  · rw [pI_o (by decide), pI_o (by decide)]; exact h.2.2.2.2.2.2.2.1 i
  · rw [pI_o (by decide), pI_o (by decide), pI_o (by decide)]
  · rw [pI_o (by decide), pI_o (by decide), pI_o (by decide)]
  · rw [pI_row (by omega), pI_row (by omega), pI_row (by omega)]
  · rw [pI_j (by decide), pI_j (by decide), pI_o (by decide)]
  · rw [pI_j (by decide), pI_j (by decide), pI_o (by decide)]
  · rw [pI_j (by decide), pI_j (by decide), pI_o (by decide)]
  · rw [pI_row (by decide), pI_row (by decide), pI_row (by decide)]
  · rw [pI_row (by decide), pI_row (by decide), pI_row (by decide)]
theorem bf_puts {f q : Nat} {s : mh_H} (h : mh_bfl f q s) (x : Int32) : mh_bfl f q (f_eX10_puts s x) := by
  unfold f_eX10_puts mh_bfl
  simp only [mh_lbE]
  rw [pI_j (by decide), pI_j (by decide), pI_o (by decide)]
  exact h
/-- a [ ( or ! is opened -/
theorem r_open {N : Nat} {T : Nat → Int32} {p k d : Nat} {st : List Int32} {s : mh_H} (h : mh_rP N T p st k d s) (hl : st.length ≤ 400) (hp : p < N) (hN : N ≤ 200) (hd : d ≤ 6) : if d = 6 then mh_bfl 5 p (f_eX10_opens s) else ∃ s', f_eX10_opens s = s' ∧ mh_rP N T (p + 1) (rd_sg T N p :: st) k (d + 1) s' ∧ (∀ k, mh_rk k s s') ∧ mh_rff s s' ∧ s'.1 74 = s.1 74 ∧ s'.1 75 = s.1 75 := by
  have k1 : (1 : Int32).toInt = ((1 : Nat) : Int) := rfl
  have k6 : (6 : Int32).toInt = 6 := rfl
  have h5 := h.2.2.2.2.1
  unfold f_eX10_opens
  simp only [mh_lbE]
  by_cases g : d = 6
  · rw [if_pos g, if_pos (by omega)]
    refine bf_puts ?_ _
    have := r_wr h (F := 5) (P := s.1 57 23) (f := 5) (q := p) rfl (by decide) h.1 (by omega)
    unfold mh_bfl at this ⊢
    rw [pI_j (by decide)]
    exact this
  · rw [if_neg g, if_neg (by omega)]
    have h2 := rP_28 (d' := d + 1) (x := s.1 57 28 + 1) h (ix_add h5 (by omega) k1 (by decide))
    rw [r_here h2, hr_lt hp]
    obtain ⟨s', e, a1, a2, a3, a4, a5⟩ := r_puts h2 hl hp hN (rd_sg T N p)
    exact ⟨s', e, a1, fun k => rk_tr (rk_57 (by decide)) (a2 k) (Nat.le_refl _), rf_tr (rf_57 (by decide) (by decide)) a3, a4.trans (pI_row (by decide)), a5.trans (pI_row (by decide))⟩
/-- signs that are folded -/
def mh_fo (b : Int32) (x : Int32) : Prop := (x.toInt = 42 ∨ x.toInt = 47 ∨ x.toInt = 37) ∨ (b.toInt ≠ 0 ∧ (x.toInt = 43 ∨ x.toInt = 45))
theorem fq_tim (s : mh_H) (x : Int32) : ((f_eX10_isTimes s x).toInt = 0) ↔ ¬ (x.toInt = 42 ∨ x.toInt = 47 ∨ x.toInt = 37) := by
  have k1 : (42 : Int32).toInt = 42 := rfl
  have k2 : (47 : Int32).toInt = 47 := rfl
  have k3 : (37 : Int32).toInt = 37 := rfl
  have k0 := kc_0
  have c1 : (1 : Int32).toInt = 1 := rfl
  unfold f_eX10_isTimes
  split
  · omega
  · split
    · omega
    · split <;> omega
theorem fq_plu (s : mh_H) (x : Int32) : ((f_eX10_isPlus s x).toInt = 0) ↔ ¬ (x.toInt = 43 ∨ x.toInt = 45) := by
  have k1 : (43 : Int32).toInt = 43 := rfl
  have k2 : (45 : Int32).toInt = 45 := rfl
  have k0 := kc_0
  have c1 : (1 : Int32).toInt = 1 := rfl
  unfold f_eX10_isPlus
  split
  · omega
  · split <;> omega
theorem fq_sgn (s : mh_H) (x : Int32) : ((f_eX10_isSign s x).toInt = 0) ↔ ¬ (x.toInt = 60 ∨ x.toInt = 62 ∨ x.toInt = 61) := by
  have k1 : (60 : Int32).toInt = 60 := rfl
  have k2 : (62 : Int32).toInt = 62 := rfl
  have k3 : (61 : Int32).toInt = 61 := rfl
  have k0 := kc_0
  have c1 : (1 : Int32).toInt = 1 := rfl
  unfold f_eX10_isSign
  split
  · omega
  · split
    · omega
    · split <;> omega
/-- pieces of code that stand at k .. -/
def mh_pe (kr : Nat → Int32) : Nat → List Int32 → Prop
  | _, [] => True
  | k, x :: P => kr k = x ∧ mh_pe kr (k + 1) P
theorem pe_ap {kr : Nat → Int32} {y : Int32} : ∀ {k : Nat} {P : List Int32}, mh_pe kr k (P ++ [y]) → mh_pe kr k P ∧ kr (k + P.length) = y
  | k, [], h => ⟨trivial, h.1⟩
  | k, x :: P, h => by
    obtain ⟨a, b⟩ := pe_ap (k := k + 1) (P := P) h.2
    refine ⟨⟨h.1, a⟩, ?_⟩
    rw [List.length_cons, show k + (P.length + 1) = k + 1 + P.length by omega]
    exact b
theorem pop_i {N : Nat} {T : Nat → Int32} {p k d : Nat} {y : Int32} {st : List Int32} {s : mh_H} (h : mh_rP N T p (y :: st) k d s) (hl : st.length ≤ 400) : (s.1 57 29 - 1).toInt = (st.length : Int) := by
  have k1 : (1 : Int32).toInt = ((1 : Nat) : Int) := rfl
  have h6 := h.2.2.2.2.2.1
  rw [List.length_cons] at h6
  have := ix_sub h6 (by omega) k1 (by decide) (by omega)
  rw [this]; omega
theorem r_fold {N : Nat} {T : Nat → Int32} {p d : Nat} {b : Int32} {st : List Int32} (hb : ¬ mh_fo b (mh_tp1 st)) : ∀ (P : List Int32) (k : Nat) (s : mh_H) (n : Nat), (∀ x ∈ P, mh_fo b x) → P.length < n → k + P.length + st.length ≤ 400 → mh_rP N T p (P ++ st) k d s → ∃ s', l_eX10_folds_0_1 b n s = s' ∧ mh_rP N T p st (k + P.length) d s' ∧ mh_rk k s s' ∧ mh_rff s s' ∧ mh_pe (s'.1 74) k P
  | [], k, s, n, _, hn, hl, h => by
    obtain ⟨n, rfl⟩ : ∃ m, n = m + 1 := ⟨n - 1, by omega⟩
    rw [List.length_nil] at hl
    refine ⟨s, ?_, h, rk_rf, rf_rf, trivial⟩
    rw [l_eX10_folds_0_1_s]
    unfold ls_eX10_folds_0_1
    simp only [mh_lbE]
    rw [r_top (st := st) h (by omega)]
    unfold mh_fo at hb
    rw [if_pos ((fq_tim s _).2 (fun q => hb (Or.inl q)))]
    by_cases g : b.toInt = 0
    · rw [if_pos g]
    · rw [if_neg g, if_pos ((fq_plu s _).2 (fun q => hb (Or.inr ⟨g, q⟩)))]
  | x :: P, k, s, n, hP, hn, hl, h => by
    rw [List.length_cons] at hn hl
    obtain ⟨n, rfl⟩ : ∃ m, n = m + 1 := ⟨n - 1, by omega⟩
    have hlen : (P ++ st).length = P.length + st.length := List.length_append
    have h' : mh_rP N T p (x :: (P ++ st)) k d s := h
    have ht : f_eX10_top s = x := r_top h' (by rw [List.length_cons]; omega)
    have hx := hP x (List.mem_cons_self ..)
    obtain ⟨s1, e1, a1, a2, a3, a4, a5⟩ := r_emit h' (by omega) x 0
    have a6 := rP_29 a1 (x := s.1 57 29 - 1) (pop_i h' (by omega))
    obtain ⟨s2, e2, b1, b2, b3, b4⟩ := r_fold hb P (k + 1) (mh_pI s1 57 29 (s.1 57 29 - 1)) n (fun y hy => hP y (List.mem_cons_of_mem _ hy)) (by omega) (by omega) a6
    refine ⟨s2, ?_, by rw [List.length_cons, show k + (P.length + 1) = k + 1 + P.length by omega]; exact b1, rk_tr (rk_tr a2 (rk_57 (by decide)) (Nat.le_refl _)) b2 (by omega), rf_tr (rf_tr a3 (rf_57 (by decide) (by decide))) b3, ⟨?_, b4⟩⟩
    · rw [l_eX10_folds_0_1_s]
      unfold ls_eX10_folds_0_1
      simp only [mh_lbE]
      rw [ht, e1]
      by_cases g : x.toInt = 42 ∨ x.toInt = 47 ∨ x.toInt = 37
      · rw [if_neg (fun q => (fq_tim s _).1 q g)]
        exact e2
      · rw [if_pos ((fq_tim s _).2 g)]
        have g2 : b.toInt ≠ 0 ∧ (x.toInt = 43 ∨ x.toInt = 45) := by
          rcases hx with q | q
          · exact absurd q g
          · exact q
        rw [if_neg g2.1, if_neg (fun q => (fq_plu s _).1 q g2.2)]
        exact e2
    · have := (b2.1 k (by omega)).1
      rw [this, pI_o (by decide)]; exact a4
/-- what code at k0 .. k and the signs P, still on the stack, say -/
def mh_pnd (kr wr : Nat → Int32) (D : mh_Dn) (k0 k : Nat) (P : List Int32) : Prop := ∀ kr' wr' : Nat → Int32, (∀ i, i < k → kr' i = kr i ∧ wr' i = wr i) → mh_pe kr' k P → sg_P kr' wr' D k0 (k + P.length)
theorem pd_0 {kr wr : Nat → Int32} {D : mh_Dn} {k0 k : Nat} (h : sg_P kr wr D k0 k) : mh_pnd kr wr D k0 k [] := fun kr' wr' h1 _ => sP_cg h (fun i _ b => h1 i b)
theorem pd_cg {kr wr kr' wr' : Nat → Int32} {D : mh_Dn} {k0 k : Nat} {P : List Int32} (h : mh_pnd kr wr D k0 k P) (he : ∀ i, i < k → kr' i = kr i ∧ wr' i = wr i) : mh_pnd kr' wr' D k0 k P := fun kr2 wr2 h1 h2 => h kr2 wr2 (fun i hi => ⟨(h1 i hi).1.trans (he i hi).1, (h1 i hi).2.trans (he i hi).2⟩) h2
theorem pd_op {kr wr : Nat → Int32} {A B : mh_Dn} {k0 k k2 : Nat} {P : List Int32} {op : Int32} (hA : sg_P kr wr A k0 k) (hk : k ≤ k2) (hB : mh_pnd kr wr B k k2 P) (h2 : mh_op2 op) : mh_pnd kr wr (rd_bo op A B) k0 k2 (P ++ [op]) := by
  intro kr' wr' h1 hp
  obtain ⟨p1, p2⟩ := pe_ap hp
  have hlen : (P ++ [op]).length = P.length + 1 := List.length_append
  rw [hlen, show k2 + (P.length + 1) = k2 + P.length + 1 by omega]
  exact sP_bin (sP_cg hA (fun i _ b => h1 i (by omega))) (hB kr' wr' h1 p1) p2 h2
theorem r_folds {N : Nat} {T : Nat → Int32} {p k0 k d : Nat} {b : Int32} {st P : List Int32} {s : mh_H} {D : mh_Dn} (hb : ¬ mh_fo b (mh_tp1 st)) (hP : ∀ x ∈ P, mh_fo b x) (hl : k + P.length + st.length ≤ 200) (h : mh_rP N T p (P ++ st) k d s) (hD : mh_pnd (s.1 74) (s.1 75) D k0 k P) : ∃ s', f_eX10_folds s b = s' ∧ mh_rP N T p st (k + P.length) d s' ∧ mh_rk k s s' ∧ mh_rff s s' ∧ sg_P (s'.1 74) (s'.1 75) D k0 (k + P.length) := by
  unfold f_eX10_folds
  simp only [mh_lbE]
  obtain ⟨s', e, a1, a2, a3, a4⟩ := r_fold hb P k s 202 hP (by omega) (by omega) h
  exact ⟨s', e, a1, a2, a3, hD _ _ (fun i hi => a2.1 i hi) a4⟩
end
section
/-- the reference's values: behind an operand, and at a factor -/
def vl_C (n : Nat) (s : mh_H) : mh_H := if (f_eX10_stays s).1.toInt = 0 then l_eX10_value_7_1 n (f_eX10_stays s).2 0 else l_eX10_value_7_1 n (f_eX10_stays s).2 1
def vl_F (j n : Nat) (s : mh_H) : mh_H := if (f_eX10_isGood (mh_pI (l_eX10_factor_0_1 j s) 57 31 0)).toInt = 0 then l_eX10_value_7_1 n (mh_pI (l_eX10_factor_0_1 j s) 57 31 0) 0 else vl_C n (mh_pI (l_eX10_factor_0_1 j s) 57 31 0)
theorem vl_0 {N : Nat} {T : Nat → Int32} {p k d : Nat} {st : List Int32} {s : mh_H} (h : mh_rP N T p st k d s) (h31 : s.1 57 31 = 0) (n : Nat) : l_eX10_value_7_1 (n + 1) s 1 = vl_F 202 n s := by
  rw [l_eX10_value_7_1_s]
  unfold ls_eX10_value_7_1 vl_F vl_C f_eX10_factor
  generalize (202 : Nat) = j
  simp only [mh_lbE, mh_lb2E]
  rw [if_neg (by decide), if_neg (rP_good h), if_pos (by rw [h31]; rfl)]
theorem vl_1 {N : Nat} {T : Nat → Int32} {p k d : Nat} {st : List Int32} {s : mh_H} (h : mh_rP N T p st k d s) (h31 : ¬ (s.1 57 31).toInt = 0) (n : Nat) : l_eX10_value_7_1 (n + 1) s 1 = vl_C n (mh_pI s 57 31 0) := by
  rw [l_eX10_value_7_1_s]
  unfold ls_eX10_value_7_1 vl_C
  simp only [mh_lbE, mh_lb2E]
  rw [if_neg (by decide), if_neg (rP_good h), if_neg h31]
theorem vl_e {N : Nat} {T : Nat → Int32} {p k d : Nat} {st : List Int32} {s : mh_H} (h : mh_rP N T p st k d s) (hl : st.length ≤ 400) (n : Nat) : l_eX10_value_7_1 (n + 1) s 0 = if (mh_tp1 st).toInt = 91 then f_eX10_wrongs s 1 (s.1 57 23) else s := by
  have k91 : (91 : Int32).toInt = 91 := rfl
  rw [l_eX10_value_7_1_s]
  unfold ls_eX10_value_7_1
  simp only [mh_lbE, mh_lb2E]
  rw [if_pos (by decide), if_neg (rP_good h), r_top h hl, k91]
theorem vl_b {s : mh_H} (h : (f_eX10_isGood s).toInt = 0) : ∀ (n : Nat) (x : Int32), l_eX10_value_7_1 n s x = s
  | 0, x => rfl
  | n + 1, x => by
    rw [l_eX10_value_7_1_s]
    unfold ls_eX10_value_7_1
    simp only [mh_lbE, mh_lb2E]
    by_cases g : x.toInt = 0
    · rw [if_pos g, if_pos h]
    · rw [if_neg g, if_pos h]
theorem fc_b {s : mh_H} (h : (f_eX10_isGood s).toInt = 0) : ∀ (n : Nat), l_eX10_factor_0_1 n s = s
  | 0 => rfl
  | n + 1 => by
    rw [l_eX10_factor_0_1_s]
    unfold ls_eX10_factor_0_1
    simp only [mh_lbE, mh_lb2E]
    rw [if_pos h]
theorem bf_31 {f q j : Nat} {s : mh_H} {x : Int32} (h : mh_bfl f q s) (hj : j ≠ 25) : mh_bfl f q (mh_pI s 57 j x) := by
  unfold mh_bfl
  rw [pI_j (fun e => hj e.symm)]
  exact h
theorem vf_bad {f q j m : Nat} {s : mh_H} (h : mh_bfl f q (l_eX10_factor_0_1 j s)) (hf : 0 < f) : mh_bfl f q (vl_F j m s) := by
  unfold vl_F
  have h2 : mh_bfl f q (mh_pI (l_eX10_factor_0_1 j s) 57 31 0) := bf_31 h (by decide)
  generalize mh_pI (l_eX10_factor_0_1 j s) 57 31 0 = t at h2 ⊢
  rw [if_pos (bf_bad h2 hf), vl_b (bf_bad h2 hf)]
  exact h2
theorem vf_ok {N : Nat} {T : Nat → Int32} {p k d j m : Nat} {st : List Int32} {s : mh_H} (h : mh_rP N T p st k d (l_eX10_factor_0_1 j s)) : vl_F j m s = vl_C m (mh_pI (l_eX10_factor_0_1 j s) 57 31 0) := by
  unfold vl_F
  have h2 := rP_j (j := 31) (x := 0) h (by decide)
  rw [if_neg (rP_good h2)]
/-- numbers -/
theorem r_num {N : Nat} {T : Nat → Int32} (hN : N ≤ 200) (ht : mh_tx (rd_sg T N) N) {k d p0 : Nat} {st : List Int32} {X : Int32} (hX : X.toInt = (p0 : Int)) : ∀ (n cnt : Nat) (V : Int32) (p : Nat) (s : mh_H) (m : Nat), p = p0 + cnt → cnt ≤ 5 → 5 < n + cnt → N < m + p → mh_rP N T p st k d s → (match rd_num (rd_sg T N) n cnt V p with
    | .inl f => mh_bfl f.1 f.2 (l_eX10_reads_7_1 X m s V).2 ∧ 0 < f.1
    | .inr x => ∃ (v : Int32) (s' : mh_H), l_eX10_reads_7_1 X m s V = (v, s') ∧ x.1 = (fun _ => some v) ∧ mh_rP N T x.2 st k d s' ∧ mh_rk k s s' ∧ mh_rff s s' ∧ s'.1 74 = s.1 74 ∧ s'.1 75 = s.1 75) := by
  intro n
  induction n with
  | zero => intro cnt V p s m _ h1 h2; exfalso; omega
  | succ n ih =>
    intro cnt V p s m hp h1 h2 hm h
    have hpN := h.2.2.2.2.2.2.2.2
    have hpp := h.1
    obtain ⟨m, rfl⟩ : ∃ k, m = k + 1 := ⟨m - 1, by omega⟩
    rw [rd_num_s, l_eX10_reads_7_1_s]
    unfold ls_eX10_reads_7_1
    simp only [mh_lbE, mh_lb2E]
    rw [if_neg (rP_good h)]
    have k5 : (5 : Int32).toInt = ((5 : Nat) : Int) := rfl
    have k1 : (1 : Int32).toInt = ((1 : Nat) : Int) := rfl
    have e5 : (X + 5).toInt = ((p0 + 5 : Nat) : Int) := ix_add hX (by omega) k5 (by decide)
    by_cases g : 48 ≤ (rd_sg T N p).toInt ∧ (rd_sg T N p).toInt ≤ 57
    · have hlt := tx_lt ht (show 0 ≤ (rd_sg T N p).toInt by omega)
      rw [if_neg (fun q => (fq_seed h).1 q g), if_pos g]
      by_cases g5 : cnt < 5
      · rw [if_pos g5, if_neg (by omega), r_here h, hr_lt hlt]
        have a1 := rP_23 (p' := p + 1) (x := s.1 57 23 + 1) h (ix_add hpp (by omega) k1 (by decide)) (by omega)
        have := ih (cnt + 1) ((10 : Int32) * V + rd_sg T N p - 48) (p + 1) _ m (by omega) (by omega) (by omega) (by omega) a1
        cases e : rd_num (rd_sg T N) n (cnt + 1) ((10 : Int32) * V + rd_sg T N p - 48) (p + 1) with
        | inl f => rw [e] at this; exact this
        | inr x =>
          rw [e] at this
          obtain ⟨v, s', b1, b2, b3, b4, b5, b6, b7⟩ := this
          exact ⟨v, s', b1, b2, b3, rk_tr (rk_57 (by decide)) b4 (Nat.le_refl _), rf_tr (rf_57 (by decide) (by decide)) b5, b6.trans (pI_row (by decide)), b7.trans (pI_row (by decide))⟩
      · rw [if_neg g5, if_pos (by omega)]
        have b := r_wr h (F := 2) (P := s.1 57 23) (f := 2) (q := p) rfl (by decide) hpp (by omega)
        have b2 : mh_bfl 2 p (mh_pI (f_eX10_wrongs s 2 (s.1 57 23)) 57 23 (s.1 57 23 + 1)) := bf_31 b (by decide)
        generalize mh_pI (f_eX10_wrongs s 2 (s.1 57 23)) 57 23 (s.1 57 23 + 1) = t at b2 ⊢
        generalize (10 : Int32) * V + f_eX10_here (f_eX10_wrongs s 2 (s.1 57 23)) - 48 = W
        refine ⟨?_, show 0 < 2 by decide⟩
        show mh_bfl 2 p (l_eX10_reads_7_1 X m t W).2
        cases m with
        | zero => exact b2
        | succ m =>
          rw [l_eX10_reads_7_1_s]
          unfold ls_eX10_reads_7_1
          simp only [mh_lbE, mh_lb2E]
          rw [if_pos (bf_bad b2 (by decide))]
          exact b2
    · rw [if_pos ((fq_seed h).2 g), if_neg g]
      exact ⟨V, s, rfl, rfl, h, rk_rf, rf_rf, rfl, rfl⟩
/-- behind an operand -/
theorem st_tim {N : Nat} {T : Nat → Int32} (hN : N ≤ 200) (ht : mh_tx (rd_sg T N) N) {q k0 k d : Nat} {st P : List Int32} {s : mh_H} {D : mh_Dn} (hg : (rd_sg T N q).toInt = 42 ∨ (rd_sg T N q).toInt = 47 ∨ (rd_sg T N q).toInt = 37) (hb : ¬ mh_fo 0 (mh_tp1 st)) (hP : ∀ x ∈ P, mh_fo 0 x) (hl : k + P.length + st.length ≤ q) (h : mh_rP N T q (P ++ st) k d s) (hD : mh_pnd (s.1 74) (s.1 75) D k0 k P) (m : Nat) : ∃ s', vl_C m s = l_eX10_value_7_1 m s' 1 ∧ mh_rP N T (q + 1) (rd_sg T N q :: st) (k + P.length) d s' ∧ mh_rk k s s' ∧ mh_rff s s' ∧ sg_P (s'.1 74) (s'.1 75) D k0 (k + P.length) := by
  have hlt := tx_lt ht (show 0 ≤ (rd_sg T N q).toInt by omega)
  have k0' : (0 : Int32).toInt = 0 := rfl
  unfold vl_C f_eX10_stays
  simp only [mh_lbE, mh_lb2E]
  rw [r_here h, hr_lt hlt, if_neg (fun z => (fq_tim s _).1 z hg)]
  have eb : (f_eX10_isPlus s (rd_sg T N q)).toInt = 0 := (fq_plu s _).2 (by omega)
  generalize f_eX10_isPlus s (rd_sg T N q) = b at eb ⊢
  have hb' : ¬ mh_fo b (mh_tp1 st) := fun z => hb (by unfold mh_fo at z ⊢; omega)
  have hP' : ∀ x ∈ P, mh_fo b x := fun x hx => by have := hP x hx; unfold mh_fo at this ⊢; omega
  obtain ⟨s1, e1, a1, a2, a3, a4⟩ := r_folds hb' hP' (by omega) h hD
  rw [e1]
  obtain ⟨s2, e2, b1, b2, b3, b4, b5⟩ := r_puts a1 (by omega) hlt hN (rd_sg T N q)
  rw [e2]
  refine ⟨s2, if_neg (show ¬ (1 : Int32).toInt = 0 by decide), b1, rk_tr a2 (b2 k) (Nat.le_refl _), rf_tr a3 b3, ?_⟩
  rw [b4, b5]; exact a4
theorem st_plu {N : Nat} {T : Nat → Int32} (hN : N ≤ 200) (ht : mh_tx (rd_sg T N) N) {q k0 k d : Nat} {st P : List Int32} {s : mh_H} {D : mh_Dn} (hg : (rd_sg T N q).toInt = 43 ∨ (rd_sg T N q).toInt = 45) (hb : ¬ mh_fo 1 (mh_tp1 st)) (hP : ∀ x ∈ P, mh_fo 1 x) (hl : k + P.length + st.length ≤ q) (h : mh_rP N T q (P ++ st) k d s) (hD : mh_pnd (s.1 74) (s.1 75) D k0 k P) (m : Nat) : ∃ s', vl_C m s = l_eX10_value_7_1 m s' 1 ∧ mh_rP N T (q + 1) (rd_sg T N q :: st) (k + P.length) d s' ∧ mh_rk k s s' ∧ mh_rff s s' ∧ sg_P (s'.1 74) (s'.1 75) D k0 (k + P.length) := by
  have hlt := tx_lt ht (show 0 ≤ (rd_sg T N q).toInt by omega)
  have k1' : (1 : Int32).toInt = 1 := rfl
  unfold vl_C f_eX10_stays
  simp only [mh_lbE, mh_lb2E]
  rw [r_here h, hr_lt hlt, if_pos ((fq_tim s _).2 (by omega)), if_neg (fun z => (fq_plu s _).1 z hg)]
  have eb : ¬ (f_eX10_isPlus s (rd_sg T N q)).toInt = 0 := fun z => (fq_plu s _).1 z hg
  generalize f_eX10_isPlus s (rd_sg T N q) = b at eb ⊢
  have hb' : ¬ mh_fo b (mh_tp1 st) := fun z => hb (by unfold mh_fo at z ⊢; omega)
  have hP' : ∀ x ∈ P, mh_fo b x := fun x hx => by have := hP x hx; unfold mh_fo at this ⊢; omega
  obtain ⟨s1, e1, a1, a2, a3, a4⟩ := r_folds hb' hP' (by omega) h hD
  rw [e1]
  obtain ⟨s2, e2, b1, b2, b3, b4, b5⟩ := r_puts a1 (by omega) hlt hN (rd_sg T N q)
  rw [e2]
  refine ⟨s2, if_neg (show ¬ (1 : Int32).toInt = 0 by decide), b1, rk_tr a2 (b2 k) (Nat.le_refl _), rf_tr a3 b3, ?_⟩
  rw [b4, b5]; exact a4
theorem st_els {N : Nat} {T : Nat → Int32} (hN : N ≤ 200) {q k0 k d : Nat} {st P : List Int32} {s : mh_H} {D : mh_Dn} (hg : ¬ mh_fo 1 (rd_sg T N q)) (hb : ¬ mh_fo 1 (mh_tp1 st)) (hP : ∀ x ∈ P, mh_fo 1 x) (hl : k + P.length + st.length ≤ q) (h : mh_rP N T q (P ++ st) k d s) (hD : mh_pnd (s.1 74) (s.1 75) D k0 k P) : ∃ s', mh_rP N T q st (k + P.length) d s' ∧ mh_rk k s s' ∧ mh_rff s s' ∧ sg_P (s'.1 74) (s'.1 75) D k0 (k + P.length) ∧ f_eX10_stays s = if (rd_sg T N q).toInt = 93 then (if (mh_tp1 st).toInt = 91 then (1, mh_pI (mh_pI (mh_pI (mh_pI s' 57 29 (s'.1 57 29 - 1)) 57 28 (s'.1 57 28 - 1)) 57 23 (s.1 57 23 + 1)) 57 31 1) else (0, f_eX10_wrongs s' 1 (s.1 57 23))) else (0, s') := by
  have k1' : (1 : Int32).toInt = 1 := rfl
  have k91 : (91 : Int32).toInt = 91 := rfl
  have k93 : (93 : Int32).toInt = 93 := rfl
  have hqN := h.2.2.2.2.2.2.2.2
  have c1 := hr_eq (T := T) (N := N) (p := q) (c := 42) (by decide)
  have c2 := hr_eq (T := T) (N := N) (p := q) (c := 47) (by decide)
  have c3 := hr_eq (T := T) (N := N) (p := q) (c := 37) (by decide)
  have c4 := hr_eq (T := T) (N := N) (p := q) (c := 43) (by decide)
  have c5 := hr_eq (T := T) (N := N) (p := q) (c := 45) (by decide)
  have c6 := hr_eq (T := T) (N := N) (p := q) (c := 93) (by decide)
  obtain ⟨s1, e1, a1, a2, a3, a4⟩ := r_folds hb hP (by omega) h hD
  refine ⟨s1, a1, a2, a3, a4, ?_⟩
  unfold mh_fo at hg
  unfold f_eX10_stays
  simp only [mh_lbE, mh_lb2E]
  rw [r_here h, if_pos ((fq_tim s _).2 (by omega)), if_pos ((fq_plu s _).2 (by omega)), e1, r_top a1 (by omega), k91, k93]
  have e28 : ∀ x : Int32, (mh_pI s1 57 29 x).1 57 28 = s1.1 57 28 := fun x => pI_j (by decide)
  rw [e28]
  by_cases g : (rd_sg T N q).toInt = 93
  · rw [if_pos g, if_pos (c6.2 g)]
  · rw [if_neg g, if_neg (fun z => g (c6.1 z))]
/-- what reading a piece of a value comes to -/
def vl_R (N : Nat) (T : Nat → Int32) (d : Nat) (st : List Int32) (k : Nat) (s : mh_H) (C : List Int32 → Nat → Prop) (r : mh_Qn) (z : mh_H) : Prop := match r with
  | .inl f => mh_bfl f.1 f.2 z ∧ 0 < f.1
  | .inr x => ∃ (P : List Int32) (m' : Nat) (s' : mh_H) (k' : Nat), z = vl_C m' s' ∧ mh_rP N T x.2 (P ++ st) k' d s' ∧ N < m' + x.2 ∧ mh_rk k s s' ∧ s'.1 57 30 = s.1 57 30 ∧ s'.1 57 31 = 0 ∧ mh_pnd (s'.1 74) (s'.1 75) x.1 k k' P ∧ k ≤ k' ∧ k' + P.length + st.length ≤ x.2 ∧ C P x.2
def vl_Cf (P : List Int32) (_ : Nat) : Prop := P = []
def vl_Ct (T : Nat → Int32) (N : Nat) (P : List Int32) (q : Nat) : Prop := (∀ x ∈ P, mh_fo 0 x) ∧ ¬ mh_fo 0 (rd_sg T N q)
def vl_Cs (T : Nat → Int32) (N : Nat) (P : List Int32) (q : Nat) : Prop := (∀ x ∈ P, mh_fo 1 x) ∧ ¬ mh_fo 1 (rd_sg T N q)
theorem v_fac {N : Nat} {T : Nat → Int32} (hN : N ≤ 200) (ht : mh_tx (rd_sg T N) N) {n d : Nat} (hd : n + d = 6) (ih : n ≠ 0 → ∀ (p : Nat) (st : List Int32) (k : Nat) (s : mh_H) (j m : Nat), ¬ mh_fo 1 (mh_tp1 st) → mh_rP N T p st k (d + 1) s → s.1 57 31 = 0 → N < j + p → N ≤ m + p → k + st.length ≤ p → vl_R N T (d + 1) st k s (vl_Cs T N) (rd_S (rd_sg T N) n p) (vl_F j m s)) (p : Nat) (st : List Int32) (k : Nat) (s : mh_H) (j m : Nat) (h : mh_rP N T p st k d s) (h31 : s.1 57 31 = 0) (hj : N < j + p) (hm : N ≤ m + p) (hl : k + st.length ≤ p) : vl_R N T d st k s vl_Cf (rd_fac (rd_sg T N) n (rd_S (rd_sg T N) n) p) (vl_F j m s) := by
  have hpN := h.2.2.2.2.2.2.2.2
  have hpp := h.1
  have k1 : (1 : Int32).toInt = ((1 : Nat) : Int) := rfl
  have k91 : (91 : Int32).toInt = 91 := rfl
  have c91 := hr_eq (T := T) (N := N) (p := p) (c := 91) (by decide)
  obtain ⟨j, rfl⟩ : ∃ i, j = i + 1 := ⟨j - 1, by omega⟩
  have st1 : l_eX10_factor_0_1 (j + 1) s = if (rd_sg T N p).toInt = 91 then l_eX10_factor_0_1 j (f_eX10_opens s) else if 48 ≤ (rd_sg T N p).toInt ∧ (rd_sg T N p).toInt ≤ 57 then f_eX10_emit (f_eX10_reads s).2 0 (f_eX10_reads s).1 else if (f_eX10_isValue s (rd_hr T N p)).toInt = 0 then f_eX10_wrongs s 1 (s.1 57 23) else mh_pI (f_eX10_emit s 1 (rd_hr T N p)) 57 23 (s.1 57 23 + 1) := by
    rw [l_eX10_factor_0_1_s]
    unfold ls_eX10_factor_0_1
    simp only [mh_lbE, mh_lb2E]
    rw [if_neg (rP_good h), r_here h]
    by_cases g : (rd_sg T N p).toInt = 91
    · rw [if_pos g, if_pos (by omega)]
    · rw [if_neg g, if_neg (by omega)]
      by_cases g2 : 48 ≤ (rd_sg T N p).toInt ∧ (rd_sg T N p).toInt ≤ 57
      · rw [if_pos g2, if_neg (fun z => (fq_seed h).1 z g2)]
      · rw [if_neg g2, if_pos ((fq_seed h).2 g2)]
  unfold rd_fac
  by_cases g : (rd_sg T N p).toInt = 91
  · rw [if_pos g]
    rw [if_pos g] at st1
    have hlt := tx_lt ht (show 0 ≤ (rd_sg T N p).toInt by omega)
    have op := r_open h (by omega) hlt hN (by omega)
    by_cases g2 : n = 0
    · rw [if_pos g2]
      rw [if_pos (by omega)] at op
      refine ⟨vf_bad ?_ (show 0 < 5 by decide), show 0 < 5 by decide⟩
      rw [st1, fc_b (bf_bad op (by decide))]
      exact op
    · rw [if_neg g2]
      rw [if_neg (by omega)] at op
      obtain ⟨s1, e1, a1, a2, a3, a4, a5⟩ := op
      rw [e1] at st1
      have evl : vl_F (j + 1) m s = vl_F j m s1 := by unfold vl_F; rw [st1]
      rw [evl]
      have nf : ¬ mh_fo 1 (mh_tp1 (rd_sg T N p :: st)) := by
        show ¬ mh_fo 1 (rd_sg T N p)
        unfold mh_fo; omega
      have r1 := ih g2 (p + 1) (rd_sg T N p :: st) k s1 j m nf a1 (a3.2.trans h31) (by omega) (by omega) (by rw [List.length_cons]; omega)
      cases e : rd_S (rd_sg T N) n (p + 1) with
      | inl f => rw [e] at r1; exact r1
      | inr x =>
        rw [e] at r1
        obtain ⟨P, m', s', k', b1, b2, b3, b4, b5, b6, b7, b8, b9, b10, b11⟩ := r1
        rw [List.length_cons] at b9
        have hxN := b2.2.2.2.2.2.2.2.2
        obtain ⟨s2, d1, d2, d3, d4, d5⟩ := st_els hN b11 nf b10 (by rw [List.length_cons]; omega) b2 b7
        show vl_R N T d st k s vl_Cf (if (rd_sg T N x.2).toInt = 93 then .inr (x.1, x.2 + 1) else .inl (1, x.2)) _
        have ktop : (mh_tp1 (rd_sg T N p :: st)).toInt = 91 := g
        obtain ⟨m', rfl⟩ : ∃ i, m' = i + 1 := ⟨m' - 1, by omega⟩
        by_cases g3 : (rd_sg T N x.2).toInt = 93
        · rw [if_pos g3]
          rw [if_pos g3, if_pos ktop] at d5
          have hlt2 := tx_lt ht (show 0 ≤ (rd_sg T N x.2).toInt by omega)
          have hd2 := d1.2.2.2.2.1
          have e28 : (s2.1 57 28 - 1).toInt = ((d : Nat) : Int) := by
            have := ix_sub hd2 (by omega) k1 (by decide) (by omega)
            rw [this]; omega
          have f1 := rP_29 (x := s2.1 57 29 - 1) d1 (pop_i d1 (by omega))
          have f2 := rP_28 (d' := d) (x := s2.1 57 28 - 1) f1 e28
          have f3 := rP_23 (p' := x.2 + 1) (x := s'.1 57 23 + 1) f2 (ix_add b2.1 (by omega) k1 (by decide)) (by omega)
          have f4 := rP_j (j := 31) (x := 1) f3 (by decide)
          have f5 := rP_j (j := 31) (x := 0) f4 (by decide)
          have ez : vl_C (m' + 1) s' = vl_C m' (mh_pI (mh_pI (mh_pI (mh_pI (mh_pI s2 57 29 (s2.1 57 29 - 1)) 57 28 (s2.1 57 28 - 1)) 57 23 (s'.1 57 23 + 1)) 57 31 1) 57 31 0) := by
            rw [show vl_C (m' + 1) s' = if (f_eX10_stays s').1.toInt = 0 then l_eX10_value_7_1 (m' + 1) (f_eX10_stays s').2 0 else l_eX10_value_7_1 (m' + 1) (f_eX10_stays s').2 1 from rfl, d5, if_neg (show ¬ (1 : Int32).toInt = 0 by decide)]
            exact vl_1 f4 (by rw [pI_w]; decide) m'
          refine ⟨[], m', _, k' + P.length, b1.trans ez, f5, by show N < m' + (x.2 + 1); omega, ?_, ?_, pI_w, pd_0 ?_, by omega, by show k' + P.length + 0 + st.length ≤ x.2 + 1; omega, rfl⟩
          · exact rk_tr (rk_tr (rk_tr (rk_tr (rk_tr (rk_tr (rk_tr (a2 k) b4 (Nat.le_refl _)) d2 b8) (rk_57 (by decide)) (Nat.le_refl k)) (rk_57 (by decide)) (Nat.le_refl k)) (rk_57 (by decide)) (Nat.le_refl k)) (rk_57 (by decide)) (Nat.le_refl k)) (rk_57 (by decide)) (Nat.le_refl k)
          · rw [pI_j (by decide), pI_j (by decide), pI_j (by decide), pI_j (by decide), pI_j (by decide), d3.1, b5, a3.1]
          · rw [pI_row (by decide), pI_row (by decide), pI_row (by decide), pI_row (by decide), pI_row (by decide), pI_row (by decide), pI_row (by decide), pI_row (by decide), pI_row (by decide), pI_row (by decide)]
            exact d4
        · rw [if_neg g3]
          rw [if_neg g3] at d5
          refine ⟨?_, show 0 < 1 by decide⟩
          rw [b1, show vl_C (m' + 1) s' = if (f_eX10_stays s').1.toInt = 0 then l_eX10_value_7_1 (m' + 1) (f_eX10_stays s').2 0 else l_eX10_value_7_1 (m' + 1) (f_eX10_stays s').2 1 from rfl, d5, if_pos (show (0 : Int32).toInt = 0 from kc_0)]
          show mh_bfl 1 x.2 (l_eX10_value_7_1 (m' + 1) s2 0)
          rw [vl_e d1 (by rw [List.length_cons]; omega), if_pos ktop]
          exact r_wr (f := 1) (q := x.2) d1 rfl (by decide) d1.1 (by omega)
  · rw [if_neg g]
    rw [if_neg g] at st1
    by_cases g2 : 48 ≤ (rd_sg T N p).toInt ∧ (rd_sg T N p).toInt ≤ 57
    · rw [if_pos g2]
      rw [if_pos g2] at st1
      have r1 := r_num hN ht (X := s.1 57 23) (p0 := p) hpp 6 0 0 p s 202 (by omega) (by decide) (by decide) (by omega) h
      have er : f_eX10_reads s = l_eX10_reads_7_1 (s.1 57 23) 202 s 0 := by
        unfold f_eX10_reads
        simp only [mh_lbE]
      rw [er] at st1
      generalize l_eX10_reads_7_1 (s.1 57 23) 202 s 0 = z at r1 st1
      have mo := num_mo ht 6 0 0 p
      cases e : rd_num (rd_sg T N) 6 0 0 p with
      | inl f =>
        rw [e] at r1
        refine ⟨vf_bad ?_ r1.2, r1.2⟩
        rw [st1]
        unfold f_eX10_emit
        simp only [mh_lbE]
        rw [if_pos (bf_bad r1.1 r1.2)]
        exact r1.1
      | inr x =>
        rw [e] at r1
        obtain ⟨v, s', b1, b2, b3, b4, b5, b6, b7⟩ := r1
        have hx := (mo x.1 x.2 e).2 g2
        rw [b1] at st1
        obtain ⟨s2, e2, c1, c2, c3, c4, c5⟩ := r_emit b3 (by omega) 0 v
        have st2 : l_eX10_factor_0_1 (j + 1) s = s2 := st1.trans e2
        have ok := vf_ok (j := j + 1) (m := m) (s := s) (by rw [st2]; exact c1)
        rw [st2] at ok
        refine ⟨[], m, _, k + 1, ok, rP_j c1 (by decide), by omega, rk_tr (rk_tr b4 c2 (Nat.le_refl _)) (rk_57 (by decide)) (Nat.le_refl _), ?_, pI_w, pd_0 ?_, by omega, by show k + 1 + 0 + st.length ≤ x.2; omega, rfl⟩
        · rw [pI_j (by decide), c3.1, b5.1]
        · rw [b2]
          exact sP_num (by rw [pI_o (by decide)]; exact c4) (by rw [pI_o (by decide)]; exact c5)
    · rw [if_neg g2]
      rw [if_neg g2] at st1
      by_cases g3 : p < N
      · have hb := ht.2 p g3
        rw [hr_lt g3] at st1
        have iv := ix_val hb.1 hb.2
        have es : f_eX10_isValue s (rd_sg T N p) = f_eX10_isValue lx_s0 (rd_sg T N p) := rfl
        rw [es] at st1
        by_cases g4 : (mh_ixf 0 (rd_sg T N p)).toInt < 0
        · rw [if_pos g4]
          rw [if_pos (iv.1.1 g4)] at st1
          refine ⟨vf_bad ?_ (show 0 < 1 by decide), show 0 < 1 by decide⟩
          rw [st1]
          exact r_wr (f := 1) (q := p) h rfl (by decide) hpp (by omega)
        · rw [if_neg g4]
          rw [if_neg (fun z => g4 (iv.1.2 z))] at st1
          obtain ⟨s2, e2, c1, c2, c3, c4, c5⟩ := r_emit h (by omega) 1 (rd_sg T N p)
          rw [e2] at st1
          have c6 := rP_23 (p' := p + 1) (x := s.1 57 23 + 1) c1 (ix_add hpp (by omega) k1 (by decide)) (by omega)
          have ok := vf_ok (j := j + 1) (m := m) (s := s) (by rw [st1]; exact c6)
          rw [st1] at ok
          refine ⟨[], m, _, k + 1, ok, rP_j c6 (by decide), by show N < m + (p + 1); omega, rk_tr (rk_tr c2 (rk_57 (by decide)) (Nat.le_refl _)) (rk_57 (by decide)) (Nat.le_refl _), ?_, pI_w, pd_0 ?_, by omega, by show k + 1 + 0 + st.length ≤ p + 1; omega, rfl⟩
          · rw [pI_j (by decide), pI_j (by decide), c3.1]
          · refine sP_var (by rw [pI_o (by decide), pI_o (by decide)]; exact c4) (by rw [pI_o (by decide), pI_o (by decide), c5]; exact (iv.2 g4).2.symm) ?_
            have := (iv.2 g4).1
            show (mh_ixf 0 (rd_sg T N p)).toInt.toNat < 13
            omega
      · rw [if_pos (by rw [ht.1 p (by omega)]; decide)]
        rw [if_pos (by unfold rd_hr; rw [if_neg g3]; rfl)] at st1
        refine ⟨vf_bad ?_ (show 0 < 1 by decide), show 0 < 1 by decide⟩
        rw [st1]
        exact r_wr (f := 1) (q := p) h rfl (by decide) hpp (by omega)
end
section
theorem vl_go {N : Nat} {T : Nat → Int32} {p k d m : Nat} {st : List Int32} {s : mh_H} (h : mh_rP N T p st k d s) (h31 : s.1 57 31 = 0) (hm : 0 < m) : l_eX10_value_7_1 m s 1 = vl_F 202 (m - 1) s := by
  obtain ⟨m, rfl⟩ : ∃ i, m = i + 1 := ⟨m - 1, by omega⟩
  exact vl_0 h h31 m
theorem v_tml {N : Nat} {T : Nat → Int32} (hN : N ≤ 200) (ht : mh_tx (rd_sg T N) N) {d : Nat} {fac : Nat → mh_Qn} (hf : ∀ (p : Nat) (st : List Int32) (k : Nat) (s : mh_H) (j m : Nat), mh_rP N T p st k d s → s.1 57 31 = 0 → N < j + p → N ≤ m + p → k + st.length ≤ p → vl_R N T d st k s vl_Cf (fac p) (vl_F j m s)) (mo : mh_mo N fac) {st : List Int32} {k : Nat} {s0 : mh_H} (hb : ¬ mh_fo 0 (mh_tp1 st)) : ∀ (n : Nat) (D : mh_Dn) (p : Nat) (P : List Int32) (m : Nat) (s : mh_H) (k1 : Nat), N < n + p → mh_rP N T p (P ++ st) k1 d s → N < m + p → mh_rk k s0 s → s.1 57 30 = s0.1 57 30 → s.1 57 31 = 0 → mh_pnd (s.1 74) (s.1 75) D k k1 P → k ≤ k1 → k1 + P.length + st.length ≤ p → (∀ x ∈ P, mh_fo 0 x) → vl_R N T d st k s0 (vl_Ct T N) (rd_tml (rd_sg T N) fac n D p) (vl_C m s) := by
  have k0 := kc_0
  intro n
  induction n with
  | zero => intro D p P m s k1 hn h; exfalso; have := h.2.2.2.2.2.2.2.2; omega
  | succ n ih =>
    intro D p P m s k1 hn h hm hk h30 h31 hD hkk hl hP
    have hpN := h.2.2.2.2.2.2.2.2
    rw [rd_tml_s]
    by_cases g : (rd_sg T N p).toInt = 42 ∨ (rd_sg T N p).toInt = 47 ∨ (rd_sg T N p).toInt = 37
    · rw [if_pos g]
      have hlt := tx_lt ht (show 0 ≤ (rd_sg T N p).toInt by omega)
      obtain ⟨s1, e1, a1, a2, a3, a4⟩ := st_tim hN ht g hb hP hl h hD m
      rw [e1, vl_go a1 (a3.2.trans h31) (by omega)]
      have r1 := hf (p + 1) (rd_sg T N p :: st) (k1 + P.length) s1 202 (m - 1) a1 (a3.2.trans h31) (by omega) (by omega) (by rw [List.length_cons]; omega)
      generalize vl_F 202 (m - 1) s1 = z at r1 ⊢
      cases e : fac (p + 1) with
      | inl f => rw [e] at r1; exact r1
      | inr x =>
        rw [e] at r1
        obtain ⟨P', m2, s2, k2, b1, b2, b3, b4, b5, b6, b7, b8, b9, b10⟩ := r1
        have b10 : P' = [] := b10
        subst b10
        rw [List.length_cons, List.length_nil] at b9
        have hx := mo _ _ _ e
        rw [b1]
        show vl_R N T d st k s0 (vl_Ct T N) (rd_tml (rd_sg T N) fac n (rd_bo (rd_sg T N p) D x.1) x.2) (vl_C m2 s2)
        refine ih (rd_bo (rd_sg T N p) D x.1) x.2 [rd_sg T N p] m2 s2 k2 (by omega) b2 b3 (rk_tr (rk_tr hk a2 hkk) b4 (by omega)) (b5.trans (a3.1.trans h30)) b6 ?_ (by omega) (by show k2 + 1 + st.length ≤ x.2; omega) ?_
        · exact pd_op (P := []) (sP_cg a4 (fun i _ hi => b4.1 i hi)) b8 b7 (by unfold mh_op2; omega)
        · intro y hy
          rw [List.mem_singleton.mp hy]
          exact Or.inl g
    · rw [if_neg g]
      exact ⟨P, m, s, k1, rfl, h, hm, hk, h30, h31, hD, hkk, hl, hP, fun z => by have z : mh_fo 0 (rd_sg T N p) := z; unfold mh_fo at z; omega⟩
theorem v_trm {N : Nat} {T : Nat → Int32} (hN : N ≤ 200) (ht : mh_tx (rd_sg T N) N) {d : Nat} {fac : Nat → mh_Qn} (hf : ∀ (p : Nat) (st : List Int32) (k : Nat) (s : mh_H) (j m : Nat), mh_rP N T p st k d s → s.1 57 31 = 0 → N < j + p → N ≤ m + p → k + st.length ≤ p → vl_R N T d st k s vl_Cf (fac p) (vl_F j m s)) (mo : mh_mo N fac) (p : Nat) (st : List Int32) (k : Nat) (s : mh_H) (j m : Nat) (hb : ¬ mh_fo 0 (mh_tp1 st)) (h : mh_rP N T p st k d s) (h31 : s.1 57 31 = 0) (hj : N < j + p) (hm : N ≤ m + p) (hl : k + st.length ≤ p) : vl_R N T d st k s (vl_Ct T N) (rd_trm (rd_sg T N) fac p) (vl_F j m s) := by
  have r1 := hf p st k s j m h h31 hj hm hl
  unfold rd_trm
  generalize vl_F j m s = z at r1 ⊢
  cases e : fac p with
  | inl f => rw [e] at r1; exact r1
  | inr x =>
    rw [e] at r1
    obtain ⟨P', m2, s2, k2, b1, b2, b3, b4, b5, b6, b7, b8, b9, b10⟩ := r1
    have b10 : P' = [] := b10
    subst b10
    have hx := mo _ _ _ e
    rw [b1]
    show vl_R N T d st k s (vl_Ct T N) (rd_tml (rd_sg T N) fac 222 x.1 x.2) (vl_C m2 s2)
    exact v_tml hN ht hf mo hb 222 x.1 x.2 [] m2 s2 k2 (by omega) b2 b3 b4 b5 b6 b7 b8 b9 (fun y hy => absurd hy (by simp))
theorem v_sml {N : Nat} {T : Nat → Int32} (hN : N ≤ 200) (ht : mh_tx (rd_sg T N) N) {d : Nat} {trm : Nat → mh_Qn} (hf : ∀ (p : Nat) (st : List Int32) (k : Nat) (s : mh_H) (j m : Nat), ¬ mh_fo 0 (mh_tp1 st) → mh_rP N T p st k d s → s.1 57 31 = 0 → N < j + p → N ≤ m + p → k + st.length ≤ p → vl_R N T d st k s (vl_Ct T N) (trm p) (vl_F j m s)) (mo : mh_mo N trm) {st : List Int32} {k : Nat} {s0 : mh_H} (hb : ¬ mh_fo 1 (mh_tp1 st)) : ∀ (n : Nat) (D : mh_Dn) (p : Nat) (P : List Int32) (m : Nat) (s : mh_H) (k1 : Nat), N < n + p → mh_rP N T p (P ++ st) k1 d s → N < m + p → mh_rk k s0 s → s.1 57 30 = s0.1 57 30 → s.1 57 31 = 0 → mh_pnd (s.1 74) (s.1 75) D k k1 P → k ≤ k1 → k1 + P.length + st.length ≤ p → (∀ x ∈ P, mh_fo 1 x) → ¬ mh_fo 0 (rd_sg T N p) → vl_R N T d st k s0 (vl_Cs T N) (rd_sml (rd_sg T N) trm n D p) (vl_C m s) := by
  have k0 := kc_0
  have k1' : (1 : Int32).toInt = 1 := rfl
  intro n
  induction n with
  | zero => intro D p P m s k1 hn h; exfalso; have := h.2.2.2.2.2.2.2.2; omega
  | succ n ih =>
    intro D p P m s k1 hn h hm hk h30 h31 hD hkk hl hP hnt
    have hpN := h.2.2.2.2.2.2.2.2
    rw [rd_sml_s]
    by_cases g : (rd_sg T N p).toInt = 43 ∨ (rd_sg T N p).toInt = 45
    · rw [if_pos g]
      have hlt := tx_lt ht (show 0 ≤ (rd_sg T N p).toInt by omega)
      obtain ⟨s1, e1, a1, a2, a3, a4⟩ := st_plu hN ht g hb hP hl h hD m
      rw [e1, vl_go a1 (a3.2.trans h31) (by omega)]
      have nf : ¬ mh_fo 0 (mh_tp1 (rd_sg T N p :: st)) := by
        show ¬ mh_fo 0 (rd_sg T N p)
        exact hnt
      have r1 := hf (p + 1) (rd_sg T N p :: st) (k1 + P.length) s1 202 (m - 1) nf a1 (a3.2.trans h31) (by omega) (by omega) (by rw [List.length_cons]; omega)
      generalize vl_F 202 (m - 1) s1 = z at r1 ⊢
      cases e : trm (p + 1) with
      | inl f => rw [e] at r1; exact r1
      | inr x =>
        rw [e] at r1
        obtain ⟨P', m2, s2, k2, b1, b2, b3, b4, b5, b6, b7, b8, b9, b10, b11⟩ := r1
        rw [List.length_cons] at b9
        have hx := mo _ _ _ e
        have hlen : (P' ++ [rd_sg T N p]).length = P'.length + 1 := List.length_append
        rw [b1]
        show vl_R N T d st k s0 (vl_Cs T N) (rd_sml (rd_sg T N) trm n (rd_bo (rd_sg T N p) D x.1) x.2) (vl_C m2 s2)
        refine ih (rd_bo (rd_sg T N p) D x.1) x.2 (P' ++ [rd_sg T N p]) m2 s2 k2 (by omega) ?_ b3 (rk_tr (rk_tr hk a2 hkk) b4 (by omega)) (b5.trans (a3.1.trans h30)) b6 ?_ (by omega) (by rw [hlen]; omega) ?_ b11
        · rw [List.append_assoc]; exact b2
        · exact pd_op (sP_cg a4 (fun i _ hi => b4.1 i hi)) b8 b7 (by unfold mh_op2; omega)
        · intro y hy
          rcases List.mem_append.mp hy with q | q
          · have := b10 y q
            unfold mh_fo at this ⊢
            omega
          · rw [List.mem_singleton.mp q]
            exact Or.inr ⟨by decide, g⟩
    · rw [if_neg g]
      exact ⟨P, m, s, k1, rfl, h, hm, hk, h30, h31, hD, hkk, hl, hP, fun z => by have z : mh_fo 1 (rd_sg T N p) := z; unfold mh_fo at z hnt; omega⟩
theorem v_sum {N : Nat} {T : Nat → Int32} (hN : N ≤ 200) (ht : mh_tx (rd_sg T N) N) {d : Nat} {trm : Nat → mh_Qn} (hf : ∀ (p : Nat) (st : List Int32) (k : Nat) (s : mh_H) (j m : Nat), ¬ mh_fo 0 (mh_tp1 st) → mh_rP N T p st k d s → s.1 57 31 = 0 → N < j + p → N ≤ m + p → k + st.length ≤ p → vl_R N T d st k s (vl_Ct T N) (trm p) (vl_F j m s)) (mo : mh_mo N trm) (p : Nat) (st : List Int32) (k : Nat) (s : mh_H) (j m : Nat) (hb : ¬ mh_fo 1 (mh_tp1 st)) (h : mh_rP N T p st k d s) (h31 : s.1 57 31 = 0) (hj : N < j + p) (hm : N ≤ m + p) (hl : k + st.length ≤ p) : vl_R N T d st k s (vl_Cs T N) (rd_sum (rd_sg T N) trm p) (vl_F j m s) := by
  have k0 := kc_0
  have k1' : (1 : Int32).toInt = 1 := rfl
  have r1 := hf p st k s j m (fun z => hb (by unfold mh_fo at z ⊢; omega)) h h31 hj hm hl
  unfold rd_sum
  generalize vl_F j m s = z at r1 ⊢
  cases e : trm p with
  | inl f => rw [e] at r1; exact r1
  | inr x =>
    rw [e] at r1
    obtain ⟨P', m2, s2, k2, b1, b2, b3, b4, b5, b6, b7, b8, b9, b10, b11⟩ := r1
    have hx := mo _ _ _ e
    rw [b1]
    show vl_R N T d st k s (vl_Cs T N) (rd_sml (rd_sg T N) trm 222 x.1 x.2) (vl_C m2 s2)
    exact v_sml hN ht hf mo hb 222 x.1 x.2 P' m2 s2 k2 (by omega) b2 b3 b4 b5 b6 b7 b8 b9 (fun y hy => by have := b10 y hy; unfold mh_fo at this ⊢; omega) b11
theorem v_S {N : Nat} {T : Nat → Int32} (hN : N ≤ 200) (ht : mh_tx (rd_sg T N) N) : ∀ (n d : Nat), n + d = 6 → ∀ (p : Nat) (st : List Int32) (k : Nat) (s : mh_H) (j m : Nat), ¬ mh_fo 1 (mh_tp1 st) → mh_rP N T p st k d s → s.1 57 31 = 0 → N < j + p → N ≤ m + p → k + st.length ≤ p → vl_R N T d st k s (vl_Cs T N) (rd_S (rd_sg T N) (n + 1) p) (vl_F j m s) := by
  intro n
  induction n with
  | zero =>
    intro d hd p st k s j m hb h h31 hj hm hl
    rw [rd_S_s]
    have mo := fac_mo ht (n := 0) (fun _ => S_mo ht 0)
    exact v_sum hN ht (fun p st k s j m hb h h31 hj hm hl => v_trm hN ht (fun p st k s j m h h31 hj hm hl => v_fac hN ht hd (fun q => absurd rfl q) p st k s j m h h31 hj hm hl) mo p st k s j m hb h h31 hj hm hl) (trm_mo mo) p st k s j m hb h h31 hj hm hl
  | succ n ih =>
    intro d hd p st k s j m hb h h31 hj hm hl
    rw [rd_S_s]
    have mo := fac_mo ht (n := n + 1) (fun _ => S_mo ht (n + 1))
    exact v_sum hN ht (fun p st k s j m hb h h31 hj hm hl => v_trm hN ht (fun p st k s j m h h31 hj hm hl => v_fac hN ht hd (fun _ => ih (d + 1) (by omega)) p st k s j m h h31 hj hm hl) mo p st k s j m hb h h31 hj hm hl) (trm_mo mo) p st k s j m hb h h31 hj hm hl
/-- a whole value -/
def vl_V (N : Nat) (T : Nat → Int32) (d : Nat) (st : List Int32) (k : Nat) (s : mh_H) (r : mh_Qn) (z : mh_H) : Prop := match r with
  | .inl f => mh_bfl f.1 f.2 z ∧ 0 < f.1
  | .inr x => if (rd_sg T N x.2).toInt = 93 then mh_bfl 1 x.2 z else ∃ k' : Nat, mh_rP N T x.2 st k' d z ∧ mh_rk k s z ∧ z.1 57 30 = s.1 57 30 ∧ sg_P (z.1 74) (z.1 75) x.1 k k' ∧ k ≤ k' ∧ k' + st.length ≤ x.2
theorem v_val {N : Nat} {T : Nat → Int32} (hN : N ≤ 200) (ht : mh_tx (rd_sg T N) N) {n d : Nat} (hd : n + d = 6) {p : Nat} {st : List Int32} {k : Nat} {s : mh_H} (hb : ¬ mh_fo 1 (mh_tp1 st)) (hb2 : (mh_tp1 st).toInt ≠ 91) (h : mh_rP N T p st k d s) (hl : k + st.length ≤ p) : vl_V N T d st k s (rd_S (rd_sg T N) (n + 1) p) (f_eX10_value s) := by
  unfold f_eX10_value
  simp only [mh_lbE]
  have h1 := rP_j (j := 31) (x := 0) h (by decide)
  have hpN := h.2.2.2.2.2.2.2.2
  obtain ⟨w, hw⟩ : ∃ w : Nat, w = 404 := ⟨_, rfl⟩
  rw [show (404 : Nat) = w by omega, vl_go h1 pI_w (by omega)]
  have r1 := v_S hN ht n d hd p st k _ 202 (w - 1) hb h1 pI_w (by omega) (by omega) hl
  generalize vl_F 202 (w - 1) (mh_pI s 57 31 0) = z at r1 ⊢
  have mo := S_mo ht (n + 1) p
  cases e : rd_S (rd_sg T N) (n + 1) p with
  | inl f => rw [e] at r1; exact r1
  | inr x =>
    rw [e] at r1
    obtain ⟨P, m2, s2, k2, b1, b2, b3, b4, b5, b6, b7, b8, b9, b10, b11⟩ := r1
    have hx := mo x.1 x.2 e
    obtain ⟨s3, d1, d2, d3, d4, d5⟩ := st_els hN b11 hb b10 b9 b2 b7
    obtain ⟨m2, rfl⟩ : ∃ i, m2 = i + 1 := ⟨m2 - 1, by omega⟩
    have ez : vl_C (m2 + 1) s2 = if (f_eX10_stays s2).1.toInt = 0 then l_eX10_value_7_1 (m2 + 1) (f_eX10_stays s2).2 0 else l_eX10_value_7_1 (m2 + 1) (f_eX10_stays s2).2 1 := rfl
    rw [b1, ez]
    show if (rd_sg T N x.2).toInt = 93 then _ else _
    by_cases g : (rd_sg T N x.2).toInt = 93
    · rw [if_pos g]
      rw [if_pos g, if_neg hb2] at d5
      rw [d5, if_pos (show (0 : Int32).toInt = 0 from kc_0)]
      have bw := r_wr d1 (F := 1) (P := s2.1 57 23) (f := 1) (q := x.2) rfl (by decide) b2.1 (by omega)
      show mh_bfl 1 x.2 (l_eX10_value_7_1 (m2 + 1) (f_eX10_wrongs s3 1 (s2.1 57 23)) 0)
      rw [vl_b (bf_bad bw (by decide))]
      exact bw
    · rw [if_neg g]
      rw [if_neg g] at d5
      rw [d5, if_pos (show (0 : Int32).toInt = 0 from kc_0)]
      have e3 : l_eX10_value_7_1 (m2 + 1) s3 0 = s3 := by
        rw [vl_e d1 (by omega), if_neg hb2]
      show ∃ k' : Nat, mh_rP N T x.2 st k' d (l_eX10_value_7_1 (m2 + 1) s3 0) ∧ mh_rk k s (l_eX10_value_7_1 (m2 + 1) s3 0) ∧ (l_eX10_value_7_1 (m2 + 1) s3 0).1 57 30 = s.1 57 30 ∧ sg_P ((l_eX10_value_7_1 (m2 + 1) s3 0).1 74) ((l_eX10_value_7_1 (m2 + 1) s3 0).1 75) x.1 k k' ∧ k ≤ k' ∧ k' + st.length ≤ x.2
      rw [e3]
      refine ⟨k2 + P.length, d1, rk_tr (rk_tr (rk_57 (by decide)) b4 (Nat.le_refl k)) d2 b8, ?_, d4, by omega, by omega⟩
      rw [d3.1, b5, pI_j (by decide)]
end
section
/-- the reference's conditions: behind a piece, and at a piece -/
def cd_B (n : Nat) (s : mh_H) : mh_H := l_eX10_condition_37_1 n (f_eX10_goesBehind s).2 (f_eX10_goesBehind s).1
def cd_P (j n : Nat) (s : mh_H) : mh_H := if (f_eX10_isGood (l_eX10_pieceOfC_0_1 j s)).toInt = 0 then l_eX10_condition_37_1 n (l_eX10_pieceOfC_0_1 j s) 1 else cd_B n (l_eX10_pieceOfC_0_1 j s)
theorem cd_1 {N : Nat} {T : Nat → Int32} {p k d : Nat} {st : List Int32} {s : mh_H} (h : mh_rP N T p st k d s) (h30 : s.1 57 30 = 0) (n : Nat) : l_eX10_condition_37_1 (n + 1) s 1 = cd_P 202 n s := by
  rw [l_eX10_condition_37_1_s]
  unfold ls_eX10_condition_37_1 cd_P cd_B f_eX10_pieceOfC
  generalize (202 : Nat) = j
  simp only [mh_lbE, mh_lb2E]
  rw [if_neg (rP_good h), if_pos (show (s.1 57 30).toInt = 0 by rw [h30]; rfl), if_neg (show ¬ (1 : Int32).toInt = 0 by decide)]
theorem cd_0 {N : Nat} {T : Nat → Int32} {p k d : Nat} {st : List Int32} {s : mh_H} (h : mh_rP N T p st k d s) (h30 : s.1 57 30 = 0) (n : Nat) : l_eX10_condition_37_1 (n + 1) s 0 = cd_B n s := by
  rw [l_eX10_condition_37_1_s]
  unfold ls_eX10_condition_37_1 cd_B
  simp only [mh_lbE, mh_lb2E]
  rw [if_neg (rP_good h), if_pos (show (s.1 57 30).toInt = 0 by rw [h30]; rfl), if_pos (show (0 : Int32).toInt = 0 from kc_0)]
theorem cd_b {s : mh_H} (h : (f_eX10_isGood s).toInt = 0) : ∀ (n : Nat) (x : Int32), l_eX10_condition_37_1 n s x = s
  | 0, x => rfl
  | n + 1, x => by
    rw [l_eX10_condition_37_1_s]
    unfold ls_eX10_condition_37_1
    simp only [mh_lbE, mh_lb2E]
    rw [if_pos h]
theorem cd_e {s : mh_H} (h : ¬ (f_eX10_isGood s).toInt = 0) (h30 : ¬ (s.1 57 30).toInt = 0) (n : Nat) (x : Int32) : l_eX10_condition_37_1 (n + 1) s x = s := by
  rw [l_eX10_condition_37_1_s]
  unfold ls_eX10_condition_37_1
  simp only [mh_lbE, mh_lb2E]
  rw [if_neg h, if_neg h30]
theorem pc_b {s : mh_H} (h : (f_eX10_isGood s).toInt = 0) : ∀ (n : Nat), l_eX10_pieceOfC_0_1 n s = s
  | 0 => rfl
  | n + 1 => by
    rw [l_eX10_pieceOfC_0_1_s]
    unfold ls_eX10_pieceOfC_0_1
    simp only [mh_lbE, mh_lb2E]
    rw [if_pos h]
theorem cp_bad {f q j m : Nat} {s : mh_H} (h : mh_bfl f q (l_eX10_pieceOfC_0_1 j s)) (hf : 0 < f) : mh_bfl f q (cd_P j m s) := by
  unfold cd_P
  rw [if_pos (bf_bad h hf), cd_b (bf_bad h hf)]
  exact h
theorem cp_ok {N : Nat} {T : Nat → Int32} {p k d j m : Nat} {st : List Int32} {s : mh_H} (h : mh_rP N T p st k d (l_eX10_pieceOfC_0_1 j s)) : cd_P j m s = cd_B m (l_eX10_pieceOfC_0_1 j s) := by
  unfold cd_P
  rw [if_neg (rP_good h)]
theorem cd_go {N : Nat} {T : Nat → Int32} {p k d m : Nat} {st : List Int32} {s : mh_H} (h : mh_rP N T p st k d s) (h30 : s.1 57 30 = 0) (hm : 0 < m) : l_eX10_condition_37_1 m s 1 = cd_P 202 (m - 1) s := by
  obtain ⟨m, rfl⟩ : ∃ i, m = i + 1 := ⟨m - 1, by omega⟩
  exact cd_1 h h30 m
/-- a piece ends: the ! ahead of it -/
def rd_ngs : Nat → mh_Dn → mh_Dn
  | 0, D => D
  | n + 1, D => rd_ngs n (rd_ng D)
theorem r_end {N : Nat} {T : Nat → Int32} {p e k0 : Nat} {st : List Int32} (hb : (mh_tp1 st).toInt ≠ 33) : ∀ (B : List Int32) (k : Nat) (s : mh_H) (n : Nat) (D : mh_Dn), (∀ x ∈ B, x.toInt = 33) → B.length < n → k + B.length + st.length ≤ 400 → e + B.length ≤ 6 → mh_rP N T p (B ++ st) k (e + B.length) s → sg_P (s.1 74) (s.1 75) D k0 k → mh_b01 D → ∃ s', l_eX10_ends_0_1 n s = s' ∧ mh_rP N T p st (k + B.length) e s' ∧ mh_rk k s s' ∧ mh_rff s s' ∧ sg_P (s'.1 74) (s'.1 75) (rd_ngs B.length D) k0 (k + B.length)
  | [], k, s, n, D, _, hn, hl, _, h, hD, _ => by
    obtain ⟨n, rfl⟩ : ∃ m, n = m + 1 := ⟨n - 1, by omega⟩
    rw [List.length_nil] at hl
    have k33 : (33 : Int32).toInt = 33 := rfl
    refine ⟨s, ?_, h, rk_rf, rf_rf, hD⟩
    rw [l_eX10_ends_0_1_s]
    unfold ls_eX10_ends_0_1
    simp only [mh_lbE]
    rw [r_top (st := st) h (by omega), if_neg (show ¬ (mh_tp1 st).toInt = (33 : Int32).toInt by omega)]
  | x :: B, k, s, n, D, hB, hn, hl, he, h, hD, h01 => by
    rw [List.length_cons] at hn hl he
    obtain ⟨n, rfl⟩ : ∃ m, n = m + 1 := ⟨n - 1, by omega⟩
    have k1 : (1 : Int32).toInt = ((1 : Nat) : Int) := rfl
    have k33 : (33 : Int32).toInt = 33 := rfl
    have hlen : (B ++ st).length = B.length + st.length := List.length_append
    have h' : mh_rP N T p (x :: (B ++ st)) k (e + (B.length + 1)) s := h
    have ht : f_eX10_top s = x := r_top h' (by rw [List.length_cons]; omega)
    have hx := hB x (List.mem_cons_self ..)
    obtain ⟨s1, e1, a1, a2, a3, a4, a5⟩ := r_emit h' (by omega) 2 0
    have a6 := rP_29 a1 (x := s.1 57 29 - 1) (pop_i h' (by omega))
    have e28 : (mh_pI s1 57 29 (s.1 57 29 - 1)).1 57 28 = s1.1 57 28 := pI_j (by decide)
    have h28 : (s1.1 57 28 - 1).toInt = ((e + B.length : Nat) : Int) := by
      have := ix_sub a1.2.2.2.2.1 (by omega) k1 (by decide) (by omega)
      rw [this]; omega
    have a7 := rP_28 (d' := e + B.length) (x := s1.1 57 28 - 1) a6 h28
    obtain ⟨s2, e2, b1, b2, b3, b4⟩ := r_end hb B (k + 1) _ n (rd_ng D) (fun y hy => hB y (List.mem_cons_of_mem _ hy)) (by omega) (by omega) (by omega) a7 (by
      rw [pI_row (by decide), pI_row (by decide), pI_row (by decide), pI_row (by decide)]
      exact sP_not (sP_cg hD (fun i _ hi => a2.1 i hi)) h01 a4) (ng_b D)
    refine ⟨s2, ?_, by rw [List.length_cons, show k + (B.length + 1) = k + 1 + B.length by omega]; exact b1, rk_tr (rk_tr (rk_tr a2 (rk_57 (by decide)) (Nat.le_refl _)) (rk_57 (by decide)) (Nat.le_refl k)) b2 (by omega), rf_tr (rf_tr (rf_tr a3 (rf_57 (by decide) (by decide))) (rf_57 (by decide) (by decide))) b3, by rw [List.length_cons, show k + (B.length + 1) = k + 1 + B.length by omega]; exact b4⟩
    rw [l_eX10_ends_0_1_s]
    unfold ls_eX10_ends_0_1
    simp only [mh_lbE]
    rw [ht, if_pos (show x.toInt = (33 : Int32).toInt by omega), e1, e28]
    exact e2
theorem r_ends {N : Nat} {T : Nat → Int32} {p e k0 k : Nat} {st B : List Int32} {s : mh_H} {D : mh_Dn} (hb : (mh_tp1 st).toInt ≠ 33) (hB : ∀ x ∈ B, x.toInt = 33) (hl : k + B.length + st.length ≤ 200) (he : e + B.length ≤ 6) (h : mh_rP N T p (B ++ st) k (e + B.length) s) (hD : sg_P (s.1 74) (s.1 75) D k0 k) (h01 : mh_b01 D) : ∃ s', f_eX10_ends s = s' ∧ mh_rP N T p st (k + B.length) e s' ∧ mh_rk k s s' ∧ mh_rff s s' ∧ sg_P (s'.1 74) (s'.1 75) (rd_ngs B.length D) k0 (k + B.length) := by
  unfold f_eX10_ends
  simp only [mh_lbE]
  exact r_end hb B k s 202 D hB (by omega) (by omega) he h hD h01
/-- signs between pieces -/
def mh_jo (b : Int32) (x : Int32) : Prop := x.toInt = 38 ∨ (b.toInt ≠ 0 ∧ x.toInt = 124)
theorem r_join {N : Nat} {T : Nat → Int32} {p d : Nat} {b : Int32} {st : List Int32} (hb : ¬ mh_jo b (mh_tp1 st)) : ∀ (P : List Int32) (k : Nat) (s : mh_H) (n : Nat), (∀ x ∈ P, mh_jo b x) → P.length < n → k + P.length + st.length ≤ 400 → mh_rP N T p (P ++ st) k d s → ∃ s', l_eX10_joins_0_1 b n s = s' ∧ mh_rP N T p st (k + P.length) d s' ∧ mh_rk k s s' ∧ mh_rff s s' ∧ mh_pe (s'.1 74) k P
  | [], k, s, n, _, hn, hl, h => by
    obtain ⟨n, rfl⟩ : ∃ m, n = m + 1 := ⟨n - 1, by omega⟩
    rw [List.length_nil] at hl
    have k38 : (38 : Int32).toInt = 38 := rfl
    have k124 : (124 : Int32).toInt = 124 := rfl
    refine ⟨s, ?_, h, rk_rf, rf_rf, trivial⟩
    rw [l_eX10_joins_0_1_s]
    unfold ls_eX10_joins_0_1
    simp only [mh_lbE]
    rw [r_top (st := st) h (by omega)]
    unfold mh_jo at hb
    rw [if_neg (show ¬ (mh_tp1 st).toInt = (38 : Int32).toInt by omega)]
    by_cases g : b.toInt = 0
    · rw [if_pos g]
    · rw [if_neg g, if_neg (show ¬ (mh_tp1 st).toInt = (124 : Int32).toInt by omega)]
  | x :: P, k, s, n, hP, hn, hl, h => by
    rw [List.length_cons] at hn hl
    obtain ⟨n, rfl⟩ : ∃ m, n = m + 1 := ⟨n - 1, by omega⟩
    have k38 : (38 : Int32).toInt = 38 := rfl
    have k124 : (124 : Int32).toInt = 124 := rfl
    have hlen : (P ++ st).length = P.length + st.length := List.length_append
    have h' : mh_rP N T p (x :: (P ++ st)) k d s := h
    have ht : f_eX10_top s = x := r_top h' (by rw [List.length_cons]; omega)
    have hx := hP x (List.mem_cons_self ..)
    obtain ⟨s1, e1, a1, a2, a3, a4, a5⟩ := r_emit h' (by omega) x 0
    have a6 := rP_29 a1 (x := s.1 57 29 - 1) (pop_i h' (by omega))
    obtain ⟨s2, e2, b1, b2, b3, b4⟩ := r_join hb P (k + 1) (mh_pI s1 57 29 (s.1 57 29 - 1)) n (fun y hy => hP y (List.mem_cons_of_mem _ hy)) (by omega) (by omega) a6
    refine ⟨s2, ?_, by rw [List.length_cons, show k + (P.length + 1) = k + 1 + P.length by omega]; exact b1, rk_tr (rk_tr a2 (rk_57 (by decide)) (Nat.le_refl _)) b2 (by omega), rf_tr (rf_tr a3 (rf_57 (by decide) (by decide))) b3, ⟨?_, b4⟩⟩
    · rw [l_eX10_joins_0_1_s]
      unfold ls_eX10_joins_0_1
      simp only [mh_lbE]
      rw [ht, e1]
      unfold mh_jo at hx
      by_cases g : x.toInt = 38
      · rw [if_pos (show x.toInt = (38 : Int32).toInt by omega)]
        exact e2
      · rw [if_neg (show ¬ x.toInt = (38 : Int32).toInt by omega), if_neg (show ¬ b.toInt = 0 by omega), if_pos (show x.toInt = (124 : Int32).toInt by omega)]
        exact e2
    · have := (b2.1 k (by omega)).1
      rw [this, pI_o (by decide)]; exact a4
theorem r_joins {N : Nat} {T : Nat → Int32} {p k0 k d : Nat} {b : Int32} {st P : List Int32} {s : mh_H} {D : mh_Dn} (hb : ¬ mh_jo b (mh_tp1 st)) (hP : ∀ x ∈ P, mh_jo b x) (hl : k + P.length + st.length ≤ 200) (h : mh_rP N T p (P ++ st) k d s) (hD : mh_pnd (s.1 74) (s.1 75) D k0 k P) : ∃ s', f_eX10_joins s b = s' ∧ mh_rP N T p st (k + P.length) d s' ∧ mh_rk k s s' ∧ mh_rff s s' ∧ sg_P (s'.1 74) (s'.1 75) D k0 (k + P.length) := by
  unfold f_eX10_joins
  simp only [mh_lbE]
  obtain ⟨s', e, a1, a2, a3, a4⟩ := r_join hb P k s 202 hP (by omega) (by omega) h
  exact ⟨s', e, a1, a2, a3, hD _ _ (fun i hi => a2.1 i hi) a4⟩
theorem pd_an {kr wr : Nat → Int32} {A B : mh_Dn} {k0 k k2 : Nat} {P : List Int32} {op : Int32} (hA : sg_P kr wr A k0 k) (h01 : mh_b01 A) (hk : k ≤ k2) (hB : mh_pnd kr wr B k k2 P) (h2 : op = 38) : mh_pnd kr wr (rd_an A B) k0 k2 (P ++ [op]) := by
  intro kr' wr' h1 hp
  obtain ⟨p1, p2⟩ := pe_ap hp
  have hlen : (P ++ [op]).length = P.length + 1 := List.length_append
  rw [hlen, show k2 + (P.length + 1) = k2 + P.length + 1 by omega]
  exact sP_and (sP_cg hA (fun i _ b => h1 i (by omega))) h01 (hB kr' wr' h1 p1) (p2.trans h2)
theorem pd_or {kr wr : Nat → Int32} {A B : mh_Dn} {k0 k k2 : Nat} {P : List Int32} {op : Int32} (hA : sg_P kr wr A k0 k) (h01 : mh_b01 A) (hk : k ≤ k2) (hB : mh_pnd kr wr B k k2 P) (h2 : op = 124) : mh_pnd kr wr (rd_or A B) k0 k2 (P ++ [op]) := by
  intro kr' wr' h1 hp
  obtain ⟨p1, p2⟩ := pe_ap hp
  have hlen : (P ++ [op]).length = P.length + 1 := List.length_append
  rw [hlen, show k2 + (P.length + 1) = k2 + P.length + 1 by omega]
  exact sP_or (sP_cg hA (fun i _ b => h1 i (by omega))) h01 (hB kr' wr' h1 p1) (p2.trans h2)
/-- behind a piece: & or | -/
theorem gb_and {N : Nat} {T : Nat → Int32} (hN : N ≤ 200) (ht : mh_tx (rd_sg T N) N) {q k0 k d : Nat} {st P : List Int32} {s : mh_H} {D : mh_Dn} (hg : (rd_sg T N q).toInt = 38) (hb : ¬ mh_jo 0 (mh_tp1 st)) (hP : ∀ x ∈ P, mh_jo 0 x) (hl : k + P.length + st.length ≤ q) (h : mh_rP N T q (P ++ st) k d s) (hD : mh_pnd (s.1 74) (s.1 75) D k0 k P) (m : Nat) : ∃ s', cd_B m s = l_eX10_condition_37_1 m s' 1 ∧ mh_rP N T (q + 1) (rd_sg T N q :: st) (k + P.length) d s' ∧ mh_rk k s s' ∧ mh_rff s s' ∧ sg_P (s'.1 74) (s'.1 75) D k0 (k + P.length) := by
  have hlt := tx_lt ht (show 0 ≤ (rd_sg T N q).toInt by omega)
  have k38 : (38 : Int32).toInt = 38 := rfl
  unfold cd_B f_eX10_goesBehind
  simp only [mh_lbE, mh_lb2E]
  rw [r_here h, hr_lt hlt, if_pos (show (rd_sg T N q).toInt = (38 : Int32).toInt by omega)]
  obtain ⟨s1, e1, a1, a2, a3, a4⟩ := r_joins hb hP (by omega) h hD
  rw [e1]
  obtain ⟨s2, e2, b1, b2, b3, b4, b5⟩ := r_puts a1 (by omega) hlt hN (rd_sg T N q)
  rw [e2]
  refine ⟨s2, rfl, b1, rk_tr a2 (b2 k) (Nat.le_refl _), rf_tr a3 b3, ?_⟩
  rw [b4, b5]; exact a4
theorem gb_or {N : Nat} {T : Nat → Int32} (hN : N ≤ 200) (ht : mh_tx (rd_sg T N) N) {q k0 k d : Nat} {st P : List Int32} {s : mh_H} {D : mh_Dn} (hg : (rd_sg T N q).toInt = 124) (hb : ¬ mh_jo 1 (mh_tp1 st)) (hP : ∀ x ∈ P, mh_jo 1 x) (hl : k + P.length + st.length ≤ q) (h : mh_rP N T q (P ++ st) k d s) (hD : mh_pnd (s.1 74) (s.1 75) D k0 k P) (m : Nat) : ∃ s', cd_B m s = l_eX10_condition_37_1 m s' 1 ∧ mh_rP N T (q + 1) (rd_sg T N q :: st) (k + P.length) d s' ∧ mh_rk k s s' ∧ mh_rff s s' ∧ sg_P (s'.1 74) (s'.1 75) D k0 (k + P.length) := by
  have hlt := tx_lt ht (show 0 ≤ (rd_sg T N q).toInt by omega)
  have k38 : (38 : Int32).toInt = 38 := rfl
  have k124 : (124 : Int32).toInt = 124 := rfl
  unfold cd_B f_eX10_goesBehind
  simp only [mh_lbE, mh_lb2E]
  rw [r_here h, hr_lt hlt, if_neg (show ¬ (rd_sg T N q).toInt = (38 : Int32).toInt by omega), if_pos (show (rd_sg T N q).toInt = (124 : Int32).toInt by omega)]
  obtain ⟨s1, e1, a1, a2, a3, a4⟩ := r_joins hb hP (by omega) h hD
  rw [e1]
  obtain ⟨s2, e2, b1, b2, b3, b4, b5⟩ := r_puts a1 (by omega) hlt hN (rd_sg T N q)
  rw [e2]
  refine ⟨s2, rfl, b1, rk_tr a2 (b2 k) (Nat.le_refl _), rf_tr a3 b3, ?_⟩
  rw [b4, b5]; exact a4
/-- behind a piece: ) or what can't stand there -/
theorem gb_els {N : Nat} {T : Nat → Int32} (hN : N ≤ 200) (ht : mh_tx (rd_sg T N) N) {q k0 k d : Nat} {y : Int32} {st P : List Int32} {s : mh_H} {D : mh_Dn} (hg : ¬ mh_jo 1 (rd_sg T N q)) (hb : ¬ mh_jo 1 y) (hP : ∀ x ∈ P, mh_jo 1 x) (hl : k + P.length + (st.length + 1) ≤ q) (hd : 0 < d ∧ d ≤ 6) (h : mh_rP N T q (P ++ (y :: st)) k d s) (hD : mh_pnd (s.1 74) (s.1 75) D k0 k P) : if (rd_sg T N q).toInt = 41 then ∃ s', mh_rP N T (q + 1) st (k + P.length) (d - 1) s' ∧ mh_rk k s s' ∧ mh_rff s s' ∧ sg_P (s'.1 74) (s'.1 75) D k0 (k + P.length) ∧ f_eX10_goesBehind s = (if st.length = 0 then (0, mh_pI s' 57 30 1) else (0, f_eX10_ends (mh_pI s' 57 30 0))) else ∃ s', f_eX10_goesBehind s = (0, s') ∧ mh_bfl 1 q s' := by
  have k1 : (1 : Int32).toInt = ((1 : Nat) : Int) := rfl
  have k38 : (38 : Int32).toInt = 38 := rfl
  have k124 : (124 : Int32).toInt = 124 := rfl
  have k41 : (41 : Int32).toInt = 41 := rfl
  have o1 : (1 : Int32).toInt = 1 := rfl
  have hqN := h.2.2.2.2.2.2.2.2
  have c1 := hr_eq (T := T) (N := N) (p := q) (c := 38) (by decide)
  have c2 := hr_eq (T := T) (N := N) (p := q) (c := 124) (by decide)
  have c3 := hr_eq (T := T) (N := N) (p := q) (c := 41) (by decide)
  unfold mh_jo at hg
  unfold f_eX10_goesBehind
  simp only [mh_lbE, mh_lb2E]
  rw [r_here h, if_neg (show ¬ (rd_hr T N q).toInt = (38 : Int32).toInt by omega), if_neg (show ¬ (rd_hr T N q).toInt = (124 : Int32).toInt by omega)]
  by_cases g : (rd_sg T N q).toInt = 41
  · rw [if_pos g, if_pos (show (rd_hr T N q).toInt = (41 : Int32).toInt by omega)]
    have hlt := tx_lt ht (show 0 ≤ (rd_sg T N q).toInt by omega)
    obtain ⟨s1, e1, a1, a2, a3, a4⟩ := r_joins (st := y :: st) (show ¬ mh_jo 1 (mh_tp1 (y :: st)) from hb) hP (by rw [List.length_cons]; omega) h hD
    have hp := pop_i a1 (by omega)
    have b1 := rP_29 (x := s1.1 57 29 - 1) a1 hp
    have e28 : (mh_pI s1 57 29 (s1.1 57 29 - 1)).1 57 28 = s1.1 57 28 := pI_j (by decide)
    have h28 : (s1.1 57 28 - 1).toInt = ((d - 1 : Nat) : Int) := ix_sub a1.2.2.2.2.1 (by omega) k1 (by decide) (by omega)
    have b2 := rP_28 (d' := d - 1) (x := s1.1 57 28 - 1) b1 h28
    have b3 := rP_23 (p' := q + 1) (x := s.1 57 23 + 1) b2 (ix_add h.1 (by omega) k1 (by decide)) (by omega)
    refine ⟨_, b3, rk_tr (rk_tr (rk_tr a2 (rk_57 (by decide)) (Nat.le_refl k)) (rk_57 (by decide)) (Nat.le_refl k)) (rk_57 (by decide)) (Nat.le_refl k), rf_tr (rf_tr (rf_tr a3 (rf_57 (by decide) (by decide))) (rf_57 (by decide) (by decide))) (rf_57 (by decide) (by decide)), ?_, ?_⟩
    · rw [pI_row (by decide), pI_row (by decide), pI_row (by decide), pI_row (by decide), pI_row (by decide), pI_row (by decide)]
      exact a4
    · rw [e1, e28]
      by_cases z : st.length = 0
      · rw [if_pos z, if_pos (show (s1.1 57 29 - 1).toInt = 0 by omega)]
      · rw [if_neg z, if_neg (show ¬ (s1.1 57 29 - 1).toInt = 0 by omega)]
  · rw [if_neg g, if_neg (show ¬ (rd_hr T N q).toInt = (41 : Int32).toInt by omega)]
    exact ⟨_, rfl, r_wr h rfl (by decide) h.1 (by omega)⟩
end
section
/-- what reading a piece of a condition comes to -/
def cd_R (N : Nat) (T : Nat → Int32) (d : Nat) (st : List Int32) (k : Nat) (s : mh_H) (C : List Int32 → Nat → Prop) (r : mh_Qn) (z : mh_H) : Prop := match r with
  | .inl f => mh_bfl f.1 f.2 z ∧ 0 < f.1
  | .inr x => ∃ (P : List Int32) (m' : Nat) (s' : mh_H) (k' : Nat), z = cd_B m' s' ∧ mh_rP N T x.2 (P ++ st) k' d s' ∧ N < m' + x.2 ∧ mh_rk k s s' ∧ s'.1 57 30 = 0 ∧ mh_pnd (s'.1 74) (s'.1 75) x.1 k k' P ∧ k ≤ k' ∧ k' + P.length + st.length ≤ x.2 ∧ C P x.2
def cd_Cp (T : Nat → Int32) (N : Nat) (P : List Int32) (q : Nat) : Prop := (∀ x ∈ P, mh_jo 0 x) ∧ ¬ mh_jo 0 (rd_sg T N q)
def cd_Cc (T : Nat → Int32) (N : Nat) (P : List Int32) (q : Nat) : Prop := (∀ x ∈ P, mh_jo 1 x) ∧ ¬ mh_jo 1 (rd_sg T N q)
def cd_W (N : Nat) (T : Nat → Int32) (e b : Nat) (st : List Int32) (k : Nat) (s : mh_H) (r : mh_Qn) (z : mh_H) : Prop := match r with
  | .inl f => mh_bfl f.1 f.2 z ∧ 0 < f.1
  | .inr x => ∃ (m' : Nat) (s' : mh_H) (k' : Nat), z = cd_B m' s' ∧ mh_rP N T x.2 st k' e s' ∧ N < m' + x.2 ∧ mh_rk k s s' ∧ s'.1 57 30 = 0 ∧ sg_P (s'.1 74) (s'.1 75) (rd_ngs b x.1) k k' ∧ k ≤ k' ∧ k' + st.length ≤ x.2
def mh_PW (N : Nat) (T : Nat → Int32) (d : Nat) (pie : Nat → mh_Qn) : Prop := ∀ (e p : Nat) (B st : List Int32) (k : Nat) (s : mh_H) (j m : Nat), e + B.length = d → (∀ x ∈ B, x.toInt = 33) → ((mh_tp1 st).toInt = 40 ∨ (mh_tp1 st).toInt = 38 ∨ (mh_tp1 st).toInt = 124) → mh_rP N T p (B ++ st) k d s → s.1 57 30 = 0 → N < j + p → N ≤ m + p → k + B.length + st.length ≤ p → cd_W N T e B.length st k s (pie p) (cd_P j m s)
def mh_AW (N : Nat) (T : Nat → Int32) (d : Nat) (prt : Nat → mh_Qn) : Prop := ∀ (p : Nat) (st : List Int32) (k : Nat) (s : mh_H) (j m : Nat), ((mh_tp1 st).toInt = 40 ∨ (mh_tp1 st).toInt = 124) → mh_rP N T p st k d s → s.1 57 30 = 0 → N < j + p → N ≤ m + p → k + st.length ≤ p → cd_R N T d st k s (cd_Cp T N) (prt p) (cd_P j m s)
def mh_CW (N : Nat) (T : Nat → Int32) (d : Nat) (chc : Nat → mh_Qn) : Prop := ∀ (p : Nat) (st : List Int32) (k : Nat) (s : mh_H) (j m : Nat), (mh_tp1 st).toInt = 40 → mh_rP N T p st k d s → s.1 57 30 = 0 → N < j + p → N ≤ m + p → k + st.length ≤ p → cd_R N T d st k s (cd_Cc T N) (chc p) (cd_P j m s)
theorem tp_ap {B st : List Int32} (hB : ∀ x ∈ B, x.toInt = 33) (hs : (mh_tp1 st).toInt = 40 ∨ (mh_tp1 st).toInt = 38 ∨ (mh_tp1 st).toInt = 124) : ¬ mh_fo 1 (mh_tp1 (B ++ st)) ∧ (mh_tp1 (B ++ st)).toInt ≠ 91 := by
  cases B with
  | nil =>
    show ¬ mh_fo 1 (mh_tp1 st) ∧ (mh_tp1 st).toInt ≠ 91
    unfold mh_fo
    omega
  | cons x B =>
    have := hB x (List.mem_cons_self ..)
    show ¬ mh_fo 1 x ∧ x.toInt ≠ 91
    unfold mh_fo
    omega
theorem tp_ne {st : List Int32} (hs : (mh_tp1 st).toInt = 40 ∨ (mh_tp1 st).toInt = 38 ∨ (mh_tp1 st).toInt = 124) : 0 < st.length := by
  cases st with
  | nil =>
    have e : (mh_tp1 []).toInt = 0 := kc_0
    omega
  | cons x r => rw [List.length_cons]; omega
theorem q_pie {N : Nat} {T : Nat → Int32} (hN : N ≤ 200) (ht : mh_tx (rd_sg T N) N) {n d : Nat} (hd : n + d = 6) {rch rpi : Nat → mh_Qn} (ihc : n ≠ 0 → mh_CW N T (d + 1) rch) (ihp : n ≠ 0 → mh_PW N T (d + 1) rpi) (mbc : mh_mb rch) : mh_PW N T d (rd_pie (rd_sg T N) n (rd_S (rd_sg T N) (n + 1)) rch rpi) := by
  intro e p B st k s j m he hB hs h h30 hj hm hl
  have hpN := h.2.2.2.2.2.2.2.2
  have hpp := h.1
  have k1 : (1 : Int32).toInt = ((1 : Nat) : Int) := rfl
  have k33 : (33 : Int32).toInt = 33 := rfl
  have k40 : (40 : Int32).toInt = 40 := rfl
  have c33 := hr_eq (T := T) (N := N) (p := p) (c := 33) (by decide)
  have c40 := hr_eq (T := T) (N := N) (p := p) (c := 40) (by decide)
  have hlen : (B ++ st).length = B.length + st.length := List.length_append
  have hst := tp_ne hs
  obtain ⟨j, rfl⟩ : ∃ i, j = i + 1 := ⟨j - 1, by omega⟩
  have st1 : l_eX10_pieceOfC_0_1 (j + 1) s = if (rd_sg T N p).toInt = 33 ∨ (rd_sg T N p).toInt = 40 then l_eX10_pieceOfC_0_1 j (f_eX10_opens s) else if (f_eX10_isGood (f_eX10_value s)).toInt = 0 then f_eX10_value s else if (f_eX10_isSign (f_eX10_value s) (f_eX10_here (f_eX10_value s))).toInt = 0 then f_eX10_wrongs (f_eX10_value s) 1 ((f_eX10_value s).1 57 23) else if (f_eX10_isGood (f_eX10_value (f_eX10_puts (f_eX10_value s) (f_eX10_here (f_eX10_value s))))).toInt = 0 then f_eX10_value (f_eX10_puts (f_eX10_value s) (f_eX10_here (f_eX10_value s))) else f_eX10_ends (mh_pI (f_eX10_emit (f_eX10_value (f_eX10_puts (f_eX10_value s) (f_eX10_here (f_eX10_value s)))) (f_eX10_top (f_eX10_value (f_eX10_puts (f_eX10_value s) (f_eX10_here (f_eX10_value s))))) 0) 57 29 ((f_eX10_value (f_eX10_puts (f_eX10_value s) (f_eX10_here (f_eX10_value s)))).1 57 29 - 1)) := by
    rw [l_eX10_pieceOfC_0_1_s]
    unfold ls_eX10_pieceOfC_0_1
    simp only [mh_lbE, mh_lb2E]
    rw [if_neg (rP_good h), r_here h]
    by_cases g : (rd_sg T N p).toInt = 33
    · rw [if_pos (Or.inl g), if_pos (show (rd_hr T N p).toInt = (33 : Int32).toInt by omega)]
    · rw [if_neg (show ¬ (rd_hr T N p).toInt = (33 : Int32).toInt by omega)]
      by_cases g2 : (rd_sg T N p).toInt = 40
      · rw [if_pos (Or.inr g2), if_pos (show (rd_hr T N p).toInt = (40 : Int32).toInt by omega)]
      · rw [if_neg (show ¬ (rd_hr T N p).toInt = (40 : Int32).toInt by omega), if_neg (show ¬ ((rd_sg T N p).toInt = 33 ∨ (rd_sg T N p).toInt = 40) by omega)]
  unfold rd_pie
  have op : 0 ≤ (rd_sg T N p).toInt → _ := fun q => r_open h (by omega) (tx_lt ht q) hN (by omega)
  by_cases g : (rd_sg T N p).toInt = 33
  · rw [if_pos g]
    rw [if_pos (Or.inl g)] at st1
    have op := op (by omega)
    by_cases g2 : n = 0
    · rw [if_pos g2]
      rw [if_pos (by omega)] at op
      refine ⟨cp_bad ?_ (show 0 < 5 by decide), show 0 < 5 by decide⟩
      rw [st1, pc_b (bf_bad op (by decide))]
      exact op
    · rw [if_neg g2]
      rw [if_neg (by omega)] at op
      obtain ⟨s1, e1, a1, a2, a3, a4, a5⟩ := op
      rw [e1] at st1
      have evl : cd_P (j + 1) m s = cd_P j m s1 := by unfold cd_P; rw [st1]
      rw [evl]
      have r1 := ihp g2 e (p + 1) (rd_sg T N p :: B) st k s1 j m (by rw [List.length_cons]; omega) (fun x hx => by
        rcases List.mem_cons.mp hx with q | q
        · rw [q]; exact g
        · exact hB x q) hs a1 (a3.1.trans h30) (by omega) (by omega) (by rw [List.length_cons]; omega)
      generalize cd_P j m s1 = z at r1 ⊢
      cases e2 : rpi (p + 1) with
      | inl f => rw [e2] at r1; exact r1
      | inr x =>
        rw [e2] at r1
        obtain ⟨m', s', k', b1, b2, b3, b4, b5, b6, b7, b8⟩ := r1
        exact ⟨m', s', k', b1, b2, b3, rk_tr (a2 k) b4 (Nat.le_refl _), b5, b6, b7, b8⟩
  · rw [if_neg g]
    by_cases g3 : (rd_sg T N p).toInt = 40
    · rw [if_pos g3]
      rw [if_pos (Or.inr g3)] at st1
      have op := op (by omega)
      by_cases g2 : n = 0
      · rw [if_pos g2]
        rw [if_pos (by omega)] at op
        refine ⟨cp_bad ?_ (show 0 < 5 by decide), show 0 < 5 by decide⟩
        rw [st1, pc_b (bf_bad op (by decide))]
        exact op
      · rw [if_neg g2]
        rw [if_neg (by omega)] at op
        obtain ⟨s1, e1, a1, a2, a3, a4, a5⟩ := op
        rw [e1] at st1
        have evl : cd_P (j + 1) m s = cd_P j m s1 := by unfold cd_P; rw [st1]
        rw [evl]
        have r1 := ihc g2 (p + 1) (rd_sg T N p :: (B ++ st)) k s1 j m g3 a1 (a3.1.trans h30) (by omega) (by omega) (by rw [List.length_cons]; omega)
        generalize cd_P j m s1 = z at r1 ⊢
        cases e2 : rch (p + 1) with
        | inl f => rw [e2] at r1; exact r1
        | inr x =>
          rw [e2] at r1
          obtain ⟨P, m', s', k', b1, b2, b3, b4, b5, b6, b7, b8, b9, b10⟩ := r1
          rw [List.length_cons] at b8
          have hxN := b2.2.2.2.2.2.2.2.2
          have ge := gb_els hN ht b10 (show ¬ mh_jo 1 (rd_sg T N p) by unfold mh_jo; omega) b9 (by omega) (by omega) b2 b6
          show cd_W N T e B.length st k s (if (rd_sg T N x.2).toInt = 41 then .inr (x.1, x.2 + 1) else .inl (1, x.2)) z
          obtain ⟨m', rfl⟩ : ∃ i, m' = i + 1 := ⟨m' - 1, by omega⟩
          have ez : cd_B (m' + 1) s' = l_eX10_condition_37_1 (m' + 1) (f_eX10_goesBehind s').2 (f_eX10_goesBehind s').1 := rfl
          by_cases g4 : (rd_sg T N x.2).toInt = 41
          · rw [if_pos g4] at ge ⊢
            obtain ⟨s2, d1, d2, d3, d4, d5⟩ := ge
            rw [if_neg (by omega)] at d5
            have d6 := rP_j (j := 30) (x := 0) d1 (by decide)
            rw [show d + 1 - 1 = e + B.length by omega] at d6
            obtain ⟨s3, f1, f2, f3, f4, f5⟩ := r_ends (k0 := k) (D := x.1) (show (mh_tp1 st).toInt ≠ 33 by omega) hB (by omega) (by omega) d6 (by rw [pI_row (by decide), pI_row (by decide)]; exact d4) (mbc _ _ _ e2)
            rw [f1] at d5
            rw [d5] at ez
            have f6 : s3.1 57 30 = 0 := f4.1.trans pI_w
            refine ⟨m', s3, k' + P.length + B.length, b1.trans (ez.trans (cd_0 f2 f6 m')), f2, by show N < m' + (x.2 + 1); omega, ?_, f6, f5, by omega, by show k' + P.length + B.length + st.length ≤ x.2 + 1; omega⟩
            exact rk_tr (rk_tr (rk_tr (rk_tr (a2 k) b4 (Nat.le_refl _)) d2 b7) (rk_57 (by decide)) (Nat.le_refl k)) f3 (by omega)
          · rw [if_neg g4] at ge ⊢
            obtain ⟨s2, d1, d2⟩ := ge
            rw [d1] at ez
            refine ⟨?_, show 0 < 1 by decide⟩
            rw [b1, ez]
            show mh_bfl 1 x.2 (l_eX10_condition_37_1 (m' + 1) s2 0)
            rw [cd_b (bf_bad d2 (by decide))]
            exact d2
    · rw [if_neg g3]
      rw [if_neg (by omega)] at st1
      unfold rd_cmp
      have tp := tp_ap hB hs
      have v1 := v_val hN ht hd tp.1 tp.2 h (by omega)
      generalize f_eX10_value s = v at v1 st1
      cases e1 : rd_S (rd_sg T N) (n + 1) p with
      | inl f =>
        rw [e1] at v1
        rw [if_pos (bf_bad v1.1 v1.2)] at st1
        refine ⟨cp_bad ?_ v1.2, v1.2⟩
        rw [st1]; exact v1.1
      | inr x =>
        rw [e1] at v1
        have v1 : if (rd_sg T N x.2).toInt = 93 then mh_bfl 1 x.2 v else ∃ k' : Nat, mh_rP N T x.2 (B ++ st) k' d v ∧ mh_rk k s v ∧ v.1 57 30 = s.1 57 30 ∧ sg_P (v.1 74) (v.1 75) x.1 k k' ∧ k ≤ k' ∧ k' + (B ++ st).length ≤ x.2 := v1
        show cd_W N T e B.length st k s (if (rd_sg T N x.2).toInt = 60 ∨ (rd_sg T N x.2).toInt = 62 ∨ (rd_sg T N x.2).toInt = 61 then rd_b (rd_S (rd_sg T N) (n + 1) (x.2 + 1)) (fun E r => if (rd_sg T N r).toInt = 93 then .inl (1, r) else .inr (rd_bo (rd_sg T N x.2) x.1 E, r)) else .inl (1, x.2)) _
        by_cases g4 : (rd_sg T N x.2).toInt = 93
        · rw [if_pos g4] at v1
          rw [if_neg (show ¬ ((rd_sg T N x.2).toInt = 60 ∨ (rd_sg T N x.2).toInt = 62 ∨ (rd_sg T N x.2).toInt = 61) by omega)]
          rw [if_pos (bf_bad v1 (by decide))] at st1
          refine ⟨cp_bad ?_ (show 0 < 1 by decide), show 0 < 1 by decide⟩
          rw [st1]; exact v1
        · rw [if_neg g4] at v1
          obtain ⟨kk, a1, a2, a3, a4, a5, a6⟩ := v1
          have hxN := a1.2.2.2.2.2.2.2.2
          rw [if_neg (rP_good a1), r_here a1] at st1
          have c60 := hr_eq (T := T) (N := N) (p := x.2) (c := 60) (by decide)
          have c62 := hr_eq (T := T) (N := N) (p := x.2) (c := 62) (by decide)
          have c61 := hr_eq (T := T) (N := N) (p := x.2) (c := 61) (by decide)
          by_cases g5 : (rd_sg T N x.2).toInt = 60 ∨ (rd_sg T N x.2).toInt = 62 ∨ (rd_sg T N x.2).toInt = 61
          · rw [if_pos g5]
            rw [if_neg (fun z => (fq_sgn v _).1 z (by omega))] at st1
            have hlt := tx_lt ht (show 0 ≤ (rd_sg T N x.2).toInt by omega)
            rw [hr_lt hlt] at st1
            obtain ⟨s2, f1, f2, f3, f4, f5, f6⟩ := r_puts a1 (by omega) hlt hN (rd_sg T N x.2)
            rw [f1] at st1
            have tpx : ¬ mh_fo 1 (mh_tp1 (rd_sg T N x.2 :: (B ++ st))) ∧ (mh_tp1 (rd_sg T N x.2 :: (B ++ st))).toInt ≠ 91 := by
              show ¬ mh_fo 1 (rd_sg T N x.2) ∧ (rd_sg T N x.2).toInt ≠ 91
              unfold mh_fo
              omega
            have v2 := v_val hN ht hd tpx.1 tpx.2 f2 (by rw [List.length_cons]; omega)
            generalize f_eX10_value s2 = w at v2 st1
            cases e3 : rd_S (rd_sg T N) (n + 1) (x.2 + 1) with
            | inl f =>
              rw [e3] at v2
              rw [if_pos (bf_bad v2.1 v2.2)] at st1
              refine ⟨cp_bad ?_ v2.2, v2.2⟩
              rw [st1]; exact v2.1
            | inr y =>
              rw [e3] at v2
              have v2 : if (rd_sg T N y.2).toInt = 93 then mh_bfl 1 y.2 w else ∃ k' : Nat, mh_rP N T y.2 (rd_sg T N x.2 :: (B ++ st)) k' d w ∧ mh_rk kk s2 w ∧ w.1 57 30 = s2.1 57 30 ∧ sg_P (w.1 74) (w.1 75) y.1 kk k' ∧ kk ≤ k' ∧ k' + (rd_sg T N x.2 :: (B ++ st)).length ≤ y.2 := v2
              show cd_W N T e B.length st k s (if (rd_sg T N y.2).toInt = 93 then .inl (1, y.2) else .inr (rd_bo (rd_sg T N x.2) x.1 y.1, y.2)) _
              by_cases g6 : (rd_sg T N y.2).toInt = 93
              · rw [if_pos g6] at v2 ⊢
                rw [if_pos (bf_bad v2 (by decide))] at st1
                refine ⟨cp_bad ?_ (show 0 < 1 by decide), show 0 < 1 by decide⟩
                rw [st1]; exact v2
              · rw [if_neg g6] at v2 ⊢
                obtain ⟨k2, p1, p2, p3, p4, p5, p6⟩ := v2
                rw [List.length_cons] at p6
                have hyN := p1.2.2.2.2.2.2.2.2
                have mo := S_mo ht (n + 1) (x.2 + 1) y.1 y.2 e3
                have mo1 := S_mo ht (n + 1) p x.1 x.2 e1
                rw [if_neg (rP_good p1), r_top p1 (by rw [List.length_cons]; omega)] at st1
                have st1 : l_eX10_pieceOfC_0_1 (j + 1) s = f_eX10_ends (mh_pI (f_eX10_emit w (rd_sg T N x.2) 0) 57 29 (w.1 57 29 - 1)) := st1
                obtain ⟨s4, q1, q2, q3, q4, q5, q6⟩ := r_emit p1 (by omega) (rd_sg T N x.2) 0
                rw [q1] at st1
                have q7 := rP_29 (x := w.1 57 29 - 1) q2 (pop_i p1 (by omega))
                have sgp : sg_P (s4.1 74) (s4.1 75) (rd_bo (rd_sg T N x.2) x.1 y.1) k (k2 + 1) := by
                  refine sP_bin (m := kk) (m' := k2) (sP_cg a4 (fun i _ hi => ?_)) (sP_cg p4 (fun i _ hi => q3.1 i hi)) q5 (by unfold mh_op2; omega)
                  have t1 := q3.1 i (by omega)
                  have t2 := p2.1 i hi
                  refine ⟨t1.1.trans (t2.1.trans ?_), t1.2.trans (t2.2.trans ?_)⟩
                  · rw [f5]
                  · rw [f6]
                obtain ⟨s5, r1, r2, r3, r4, r5⟩ := r_ends (k0 := k) (k := k2 + 1) (e := e) (D := rd_bo (rd_sg T N x.2) x.1 y.1) (show (mh_tp1 st).toInt ≠ 33 by omega) hB (by omega) (by omega) (by rw [he]; exact q7) (by rw [pI_row (by decide), pI_row (by decide)]; exact sgp) (cm_b g5 _ _)
                have st2 : l_eX10_pieceOfC_0_1 (j + 1) s = s5 := st1.trans r1
                have ok := cp_ok (j := j + 1) (m := m) (s := s) (by rw [st2]; exact r2)
                rw [st2] at ok
                refine ⟨m, s5, k2 + 1 + B.length, ok, r2, by show N < m + y.2; omega, ?_, ?_, r5, by omega, by show k2 + 1 + B.length + st.length ≤ y.2; omega⟩
                · exact rk_tr (rk_tr (rk_tr (rk_tr (rk_tr a2 (f3 k) (Nat.le_refl _)) p2 (by omega)) q3 (by omega)) (rk_57 (by decide)) (Nat.le_refl k)) r3 (by omega)
                · rw [r4.1, pI_j (by decide), q4.1, p3, f4.1, a3]; exact h30
          · rw [if_neg g5]
            rw [if_pos ((fq_sgn v _).2 (by omega))] at st1
            refine ⟨cp_bad ?_ (show 0 < 1 by decide), show 0 < 1 by decide⟩
            rw [st1]
            exact r_wr (f := 1) (q := x.2) a1 rfl (by decide) a1.1 (by omega)
end
section
theorem q_ptl {N : Nat} {T : Nat → Int32} (hN : N ≤ 200) (ht : mh_tx (rd_sg T N) N) {d : Nat} {pie : Nat → mh_Qn} (hf : mh_PW N T d pie) (mo : mh_mo N pie) (mb : mh_mb pie) {st : List Int32} {k : Nat} {s0 : mh_H} (hb : (mh_tp1 st).toInt = 40 ∨ (mh_tp1 st).toInt = 124) : ∀ (n : Nat) (D : mh_Dn) (p : Nat) (P : List Int32) (m : Nat) (s : mh_H) (k1 : Nat), N < n + p → mh_rP N T p (P ++ st) k1 d s → N < m + p → mh_rk k s0 s → s.1 57 30 = 0 → mh_pnd (s.1 74) (s.1 75) D k k1 P → mh_b01 D → k ≤ k1 → k1 + P.length + st.length ≤ p → (∀ x ∈ P, mh_jo 0 x) → cd_R N T d st k s0 (cd_Cp T N) (rd_ptl (rd_sg T N) pie n D p) (cd_B m s) := by
  have k0 := kc_0
  have o1 : (1 : Int32).toInt = 1 := rfl
  have nb : ¬ mh_jo 0 (mh_tp1 st) := by unfold mh_jo; omega
  intro n
  induction n with
  | zero => intro D p P m s k1 hn h; exfalso; have := h.2.2.2.2.2.2.2.2; omega
  | succ n ih =>
    intro D p P m s k1 hn h hm hk h30 hD h01 hkk hl hP
    have hpN := h.2.2.2.2.2.2.2.2
    rw [rd_ptl_s]
    by_cases g : (rd_sg T N p).toInt = 38
    · rw [if_pos g]
      have hlt := tx_lt ht (show 0 ≤ (rd_sg T N p).toInt by omega)
      obtain ⟨s1, e1, a1, a2, a3, a4⟩ := gb_and hN ht g nb hP hl h hD m
      have h31 := a3.1.trans h30
      rw [e1, cd_go a1 h31 (by omega)]
      have r1 := hf d (p + 1) [] (rd_sg T N p :: st) (k1 + P.length) s1 202 (m - 1) rfl (fun y hy => absurd hy (by simp)) (Or.inr (Or.inl g)) a1 h31 (by omega) (by omega) (by show k1 + P.length + 0 + (st.length + 1) ≤ p + 1; omega)
      generalize cd_P 202 (m - 1) s1 = z at r1 ⊢
      cases e : pie (p + 1) with
      | inl f => rw [e] at r1; exact r1
      | inr x =>
        rw [e] at r1
        have hx := mo _ _ _ e
        have hbx := mb _ _ _ e
        obtain ⟨m2, s2, k2, b1, b2, b3, b4, b5, b6, b7, b8⟩ := r1
        rw [List.length_cons] at b8
        rw [b1]
        show cd_R N T d st k s0 (cd_Cp T N) (rd_ptl (rd_sg T N) pie n (rd_an D x.1) x.2) (cd_B m2 s2)
        refine ih (rd_an D x.1) x.2 [rd_sg T N p] m2 s2 k2 (by omega) b2 b3 (rk_tr (rk_tr hk a2 hkk) b4 (by omega)) b5 ?_ (an_b h01 hbx) (by omega) (by show k2 + 1 + st.length ≤ x.2; omega) ?_
        · exact pd_an (P := []) (sP_cg a4 (fun i _ hi => b4.1 i hi)) h01 b7 (pd_0 b6) (Int32.toInt_inj.mp g)
        · intro y hy
          rw [List.mem_singleton.mp hy]
          exact Or.inl g
    · rw [if_neg g]
      exact ⟨P, m, s, k1, rfl, h, hm, hk, h30, hD, hkk, hl, hP, fun z => by have z : mh_jo 0 (rd_sg T N p) := z; unfold mh_jo at z; omega⟩
theorem q_prt {N : Nat} {T : Nat → Int32} (hN : N ≤ 200) (ht : mh_tx (rd_sg T N) N) {d : Nat} {pie : Nat → mh_Qn} (hf : mh_PW N T d pie) (mo : mh_mo N pie) (mb : mh_mb pie) : mh_AW N T d (rd_prt (rd_sg T N) pie) := by
  have k0 := kc_0
  have o1 : (1 : Int32).toInt = 1 := rfl
  intro p st k s j m hb h h30 hj hm hl
  have r1 := hf d p [] st k s j m rfl (fun y hy => absurd hy (by simp)) (by omega) h h30 hj hm (by show k + 0 + st.length ≤ p; omega)
  unfold rd_prt
  generalize cd_P j m s = z at r1 ⊢
  cases e : pie p with
  | inl f => rw [e] at r1; exact r1
  | inr x =>
    rw [e] at r1
    have hx := mo _ _ _ e
    have hbx := mb _ _ _ e
    obtain ⟨m2, s2, k2, b1, b2, b3, b4, b5, b6, b7, b8⟩ := r1
    rw [b1]
    show cd_R N T d st k s (cd_Cp T N) (rd_ptl (rd_sg T N) pie 222 x.1 x.2) (cd_B m2 s2)
    exact q_ptl hN ht hf mo mb hb 222 x.1 x.2 [] m2 s2 k2 (by omega) b2 b3 b4 b5 (pd_0 b6) hbx b7 (by show k2 + 0 + st.length ≤ x.2; omega) (fun y hy => absurd hy (by simp))
theorem q_chl {N : Nat} {T : Nat → Int32} (hN : N ≤ 200) (ht : mh_tx (rd_sg T N) N) {d : Nat} {pie : Nat → mh_Qn} (hf : mh_AW N T d pie) (mo : mh_mo N pie) (mb : mh_mb pie) {st : List Int32} {k : Nat} {s0 : mh_H} (hb : (mh_tp1 st).toInt = 40) : ∀ (n : Nat) (D : mh_Dn) (p : Nat) (P : List Int32) (m : Nat) (s : mh_H) (k1 : Nat), N < n + p → mh_rP N T p (P ++ st) k1 d s → N < m + p → mh_rk k s0 s → s.1 57 30 = 0 → mh_pnd (s.1 74) (s.1 75) D k k1 P → mh_b01 D → k ≤ k1 → k1 + P.length + st.length ≤ p → (∀ x ∈ P, mh_jo 1 x) → ¬ mh_jo 0 (rd_sg T N p) → cd_R N T d st k s0 (cd_Cc T N) (rd_chl (rd_sg T N) pie n D p) (cd_B m s) := by
  have k0 := kc_0
  have o1 : (1 : Int32).toInt = 1 := rfl
  have nb : ¬ mh_jo 1 (mh_tp1 st) := by unfold mh_jo; omega
  intro n
  induction n with
  | zero => intro D p P m s k1 hn h; exfalso; have := h.2.2.2.2.2.2.2.2; omega
  | succ n ih =>
    intro D p P m s k1 hn h hm hk h30 hD h01 hkk hl hP hnt
    have hpN := h.2.2.2.2.2.2.2.2
    rw [rd_chl_s]
    by_cases g : (rd_sg T N p).toInt = 124
    · rw [if_pos g]
      have hlt := tx_lt ht (show 0 ≤ (rd_sg T N p).toInt by omega)
      obtain ⟨s1, e1, a1, a2, a3, a4⟩ := gb_or hN ht g nb hP hl h hD m
      have h31 := a3.1.trans h30
      rw [e1, cd_go a1 h31 (by omega)]
      have r1 := hf (p + 1) (rd_sg T N p :: st) (k1 + P.length) s1 202 (m - 1) (Or.inr g) a1 h31 (by omega) (by omega) (by rw [List.length_cons]; omega)
      generalize cd_P 202 (m - 1) s1 = z at r1 ⊢
      cases e : pie (p + 1) with
      | inl f => rw [e] at r1; exact r1
      | inr x =>
        rw [e] at r1
        have hx := mo _ _ _ e
        have hbx := mb _ _ _ e
        obtain ⟨P', m2, s2, k2, b1, b2, b3, b4, b5, b6, b7, b8, b9, b10⟩ := r1
        rw [List.length_cons] at b8
        have hlen : (P' ++ [rd_sg T N p]).length = P'.length + 1 := List.length_append
        rw [b1]
        show cd_R N T d st k s0 (cd_Cc T N) (rd_chl (rd_sg T N) pie n (rd_or D x.1) x.2) (cd_B m2 s2)
        refine ih (rd_or D x.1) x.2 (P' ++ [rd_sg T N p]) m2 s2 k2 (by omega) ?_ b3 (rk_tr (rk_tr hk a2 hkk) b4 (by omega)) b5 ?_ (or_b h01 hbx) (by omega) (by rw [hlen]; omega) ?_ b10
        · rw [List.append_assoc]; exact b2
        · exact pd_or (sP_cg a4 (fun i _ hi => b4.1 i hi)) h01 b7 b6 (Int32.toInt_inj.mp g)
        · intro y hy
          rcases List.mem_append.mp hy with q | q
          · have := b9 y q
            unfold mh_jo at this ⊢
            omega
          · rw [List.mem_singleton.mp q]
            exact Or.inr ⟨by decide, g⟩
    · rw [if_neg g]
      exact ⟨P, m, s, k1, rfl, h, hm, hk, h30, hD, hkk, hl, hP, fun z => by have z : mh_jo 1 (rd_sg T N p) := z; unfold mh_jo at z hnt; omega⟩
theorem q_chc {N : Nat} {T : Nat → Int32} (hN : N ≤ 200) (ht : mh_tx (rd_sg T N) N) {d : Nat} {pie : Nat → mh_Qn} (hf : mh_AW N T d pie) (mo : mh_mo N pie) (mb : mh_mb pie) : mh_CW N T d (rd_chc (rd_sg T N) pie) := by
  have k0 := kc_0
  have o1 : (1 : Int32).toInt = 1 := rfl
  intro p st k s j m hb h h30 hj hm hl
  have r1 := hf p st k s j m (Or.inl hb) h h30 hj hm hl
  unfold rd_chc
  generalize cd_P j m s = z at r1 ⊢
  cases e : pie p with
  | inl f => rw [e] at r1; exact r1
  | inr x =>
    rw [e] at r1
    have hx := mo _ _ _ e
    have hbx := mb _ _ _ e
    obtain ⟨P', m2, s2, k2, b1, b2, b3, b4, b5, b6, b7, b8, b9, b10⟩ := r1
    rw [b1]
    show cd_R N T d st k s (cd_Cc T N) (rd_chl (rd_sg T N) pie 222 x.1 x.2) (cd_B m2 s2)
    exact q_chl hN ht hf mo mb hb 222 x.1 x.2 P' m2 s2 k2 (by omega) b2 b3 b4 b5 b6 hbx b7 b8 (fun y hy => by have := b9 y hy; unfold mh_jo at this ⊢; omega) b10
theorem q_CP {N : Nat} {T : Nat → Int32} (hN : N ≤ 200) (ht : mh_tx (rd_sg T N) N) : ∀ n d : Nat, n + d = 6 → mh_CW N T d (rd_CP (rd_sg T N) (n + 1)).1 ∧ mh_PW N T d (rd_CP (rd_sg T N) (n + 1)).2 := by
  intro n
  induction n with
  | zero =>
    intro d hd
    rw [rd_CP_s]
    have m0 := CP_mo ht 0
    have mb0 := CP_mb (g := rd_sg T N) 0
    have mo := pie_mo ht (n := 0) (S_mo ht 1) m0.1 m0.2
    have mb := pie_mb (g := rd_sg T N) (n := 0) (sum := rd_S (rd_sg T N) 1) (rpi := (rd_CP (rd_sg T N) 0).2) mb0.1
    have hp := q_pie hN ht hd (rpi := (rd_CP (rd_sg T N) 0).2) (fun q => absurd rfl q) (fun q => absurd rfl q) mb0.1
    exact ⟨q_chc hN ht (q_prt hN ht hp mo mb) (prt_mo mo) (prt_mb mb), hp⟩
  | succ n ih =>
    intro d hd
    rw [rd_CP_s]
    have m0 := CP_mo ht (n + 1)
    have mb0 := CP_mb (g := rd_sg T N) (n + 1)
    have mo := pie_mo ht (n := n + 1) (S_mo ht (n + 1 + 1)) m0.1 m0.2
    have mb := pie_mb (g := rd_sg T N) (n := n + 1) (sum := rd_S (rd_sg T N) (n + 1 + 1)) (rpi := (rd_CP (rd_sg T N) (n + 1)).2) mb0.1
    have i1 := ih (d + 1) (by omega)
    have hp := q_pie hN ht hd (rch := (rd_CP (rd_sg T N) (n + 1)).1) (rpi := (rd_CP (rd_sg T N) (n + 1)).2) (fun _ => i1.1) (fun _ => i1.2) mb0.1
    exact ⟨q_chc hN ht (q_prt hN ht hp mo mb) (prt_mo mo) (prt_mb mb), hp⟩
/-- the condition of a clause -/
def cd_V (N : Nat) (T : Nat → Int32) (k : Nat) (s : mh_H) (r : mh_Qn) (z : mh_H) : Prop := match r with
  | .inl f => mh_bfl f.1 f.2 z ∧ 0 < f.1
  | .inr x => if (rd_sg T N x.2).toInt = 41 then ∃ k' : Nat, mh_rP N T (x.2 + 1) [] k' 0 z ∧ mh_rk k s z ∧ sg_P (z.1 74) (z.1 75) x.1 k k' ∧ k ≤ k' ∧ k' ≤ x.2 + 1 else mh_bfl 1 x.2 z
theorem q_con {N : Nat} {T : Nat → Int32} (hN : N ≤ 200) (ht : mh_tx (rd_sg T N) N) {p k : Nat} {s : mh_H} (h : mh_rP N T p [] k 0 s) (hl : k ≤ p) : if (rd_sg T N p).toInt = 40 then cd_V N T k s ((rd_CP (rd_sg T N) 6).1 (p + 1)) (f_eX10_condition s) else mh_bfl 1 p (f_eX10_condition s) := by
  have k40 : (40 : Int32).toInt = 40 := rfl
  have o1 : (1 : Int32).toInt = 1 := rfl
  have hpN := h.2.2.2.2.2.2.2.2
  have c40 := hr_eq (T := T) (N := N) (p := p) (c := 40) (by decide)
  unfold f_eX10_condition
  simp only [mh_lbE, mh_lb2E]
  have h1 := rP_j (j := 30) (x := 0) h (by decide)
  rw [r_here h1]
  obtain ⟨w, hw⟩ : ∃ w : Nat, w = 404 := ⟨_, rfl⟩
  rw [show (404 : Nat) = w by omega]
  by_cases g : (rd_sg T N p).toInt = 40
  · rw [if_pos g, if_pos (show (rd_hr T N p).toInt = (40 : Int32).toInt by omega)]
    have hlt := tx_lt ht (show 0 ≤ (rd_sg T N p).toInt by omega)
    have op := r_open h1 (by decide) hlt hN (by decide)
    rw [if_neg (by decide)] at op
    obtain ⟨s1, e1, a1, a2, a3, a4, a5⟩ := op
    rw [e1]
    have h30 : s1.1 57 30 = 0 := a3.1.trans pI_w
    rw [cd_go a1 h30 (by omega)]
    have r1 := (q_CP hN ht 5 1 rfl).1 (p + 1) [rd_sg T N p] k s1 202 (w - 1) g a1 h30 (by omega) (by omega) (by show k + 1 ≤ p + 1; omega)
    generalize cd_P 202 (w - 1) s1 = z at r1 ⊢
    cases e : (rd_CP (rd_sg T N) 6).1 (p + 1) with
    | inl f => rw [e] at r1; exact r1
    | inr x =>
      rw [e] at r1
      obtain ⟨P, m', s', k', b1, b2, b3, b4, b5, b6, b7, b8, b9, b10⟩ := r1
      have b8 : k' + P.length + (0 + 1) ≤ x.2 := b8
      have hxN := b2.2.2.2.2.2.2.2.2
      have ge := gb_els (st := []) hN ht b10 (show ¬ mh_jo 1 (rd_sg T N p) by unfold mh_jo; omega) b9 b8 (by decide) b2 b6
      obtain ⟨m', rfl⟩ : ∃ i, m' = i + 1 := ⟨m' - 1, by omega⟩
      have ez : cd_B (m' + 1) s' = l_eX10_condition_37_1 (m' + 1) (f_eX10_goesBehind s').2 (f_eX10_goesBehind s').1 := rfl
      show if (rd_sg T N x.2).toInt = 41 then _ else _
      by_cases g4 : (rd_sg T N x.2).toInt = 41
      · rw [if_pos g4] at ge ⊢
        obtain ⟨s2, d1, d2, d3, d4, d5⟩ := ge
        rw [if_pos (show ([] : List Int32).length = 0 from rfl)] at d5
        rw [d5] at ez
        have d6 := rP_j (j := 30) (x := 1) d1 (by decide)
        have ez2 : z = mh_pI s2 57 30 1 := b1.trans (ez.trans (cd_e (rP_good d6) (by rw [pI_w]; decide) m' 0))
        rw [ez2]
        refine ⟨k' + P.length, d6, ?_, ?_, by omega, by omega⟩
        · exact rk_tr (rk_tr (rk_tr (rk_tr (rk_57 (by decide)) (a2 k) (Nat.le_refl _)) b4 (Nat.le_refl _)) d2 b7) (rk_57 (by decide)) (Nat.le_refl k)
        · rw [pI_row (by decide), pI_row (by decide)]; exact d4
      · rw [if_neg g4] at ge ⊢
        obtain ⟨s2, d1, d2⟩ := ge
        rw [d1] at ez
        have ez2 : z = s2 := b1.trans (ez.trans (cd_b (bf_bad d2 (by decide)) (m' + 1) 0))
        rw [ez2]; exact d2
  · rw [if_neg g, if_neg (show ¬ (rd_hr T N p).toInt = (40 : Int32).toInt by omega)]
    exact r_wr (f := 1) (q := p) h1 rfl (by decide) h.1 (by omega)
end
section
/-- the reference's clauses -/
def mh_rz0 (N : Nat) (T : Nat → Int32) (p k : Nat) (s : mh_H) : Prop := (s.1 57 23).toInt = (p : Int) ∧ (s.1 57 24).toInt = (N : Int) ∧ s.1 57 25 = 0 ∧ (s.1 57 27).toInt = (k : Int) ∧ (∀ i, s.1 58 i &&& 255 = T i) ∧ p ≤ N
def mh_rK (s : mh_H) (k : Nat) (Ls : List mh_Cl) : Prop := cl_R 70 s (s.1 74) (s.1 75) k 0 Ls ∧ (s.1 57 26).toInt = (Ls.length : Int)
theorem r0_P {N : Nat} {T : Nat → Int32} {p k d : Nat} {st : List Int32} {s : mh_H} (h : mh_rP N T p st k d s) : mh_rz0 N T p k s := ⟨h.1, h.2.1, h.2.2.1, h.2.2.2.1, h.2.2.2.2.2.2.2.1, h.2.2.2.2.2.2.2.2⟩
theorem P_r0 {N : Nat} {T : Nat → Int32} {p k : Nat} {s : mh_H} (h : mh_rz0 N T p k s) : mh_rP N T p [] k 0 (mh_pI (mh_pI s 57 29 0) 57 28 0) :=
  ⟨by rw [pI_j (by decide), pI_j (by decide)]; exact h.1, by rw [pI_j (by decide), pI_j (by decide)]; exact h.2.1, by rw [pI_j (by decide), pI_j (by decide)]; exact h.2.2.1, by rw [pI_j (by decide), pI_j (by decide)]; exact h.2.2.2.1, by rw [pI_w]; rfl, by rw [pI_j (by decide), pI_w]; rfl, trivial, fun i => by rw [pI_o (by decide), pI_o (by decide)]; exact h.2.2.2.2.1 i, h.2.2.2.2.2⟩
theorem r0_23 {N : Nat} {T : Nat → Int32} {p p' k : Nat} {s : mh_H} {x : Int32} (h : mh_rz0 N T p k s) (hx : x.toInt = (p' : Int)) (hp : p' ≤ N) : mh_rz0 N T p' k (mh_pI s 57 23 x) :=
  ⟨by rw [pI_w]; exact hx, by rw [pI_j (by decide)]; exact h.2.1, by rw [pI_j (by decide)]; exact h.2.2.1, by rw [pI_j (by decide)]; exact h.2.2.2.1, fun i => by rw [pI_o (by decide)]; exact h.2.2.2.2.1 i, hp⟩
theorem r0_o {N : Nat} {T : Nat → Int32} {p k a j : Nat} {s : mh_H} {x : Int32} (h : mh_rz0 N T p k s) (ha : a ≠ 57) (hb : a ≠ 58) : mh_rz0 N T p k (mh_pI s a j x) := by
  have e57 : (mh_pI s a j x).1 57 = s.1 57 := pI_row (fun q => ha q.symm)
  have e58 : (mh_pI s a j x).1 58 = s.1 58 := pI_row (fun q => hb q.symm)
  unfold mh_rz0
  rw [e57, e58]
  exact h
theorem r0_here {N : Nat} {T : Nat → Int32} {p k : Nat} {s : mh_H} (h : mh_rz0 N T p k s) : f_eX10_here s = rd_hr T N p := by
  have h1 := h.1
  have h2 := h.2.1
  unfold f_eX10_here rd_hr
  simp only [mh_lbE]
  by_cases g : p < N
  · rw [if_pos (by omega), if_pos g, ix_n h1]
    exact h.2.2.2.2.1 p
  · rw [if_neg (by omega), if_neg g]
theorem r0_wr {N : Nat} {T : Nat → Int32} {p k : Nat} {s : mh_H} (h : mh_rz0 N T p k s) {F P : Int32} {f q : Nat} (hF : F.toInt = (f : Int)) (hf : f ≤ 9) (hP : P.toInt = (q : Int)) (hq : q ≤ 300) : mh_bfl f q (f_eX10_wrongs s F P) := by
  have km : (-1000 : Int32).toInt = -1000 := rfl
  unfold f_eX10_wrongs mh_bfl
  simp only [mh_lbE]
  rw [if_neg (by rw [h.2.2.1]; decide), pI_w]
  have e1 : ((-1000 : Int32) * F).toInt = -1000 * (f : Int) := by
    rw [Int32.toInt_mul, km, hF, Int.bmod_eq_of_le (by omega) (by omega)]
  rw [Int32.toInt_sub, e1, hP, Int.bmod_eq_of_le (by omega) (by omega)]
theorem r0_good {N : Nat} {T : Nat → Int32} {p k : Nat} {s : mh_H} (h : mh_rz0 N T p k s) : ¬ (f_eX10_isGood s).toInt = 0 := fun q => (fq_good s).1 q (by rw [h.2.2.1]; rfl)
theorem bf_o {f q a j : Nat} {s : mh_H} {x : Int32} (h : mh_bfl f q s) (ha : a ≠ 57) : mh_bfl f q (mh_pI s a j x) := by
  unfold mh_bfl
  rw [pI_o (fun e => ha e.symm)]
  exact h
def mh_rQ (N : Nat) (T : Nat → Int32) (Ls : List mh_Cl) (r : mh_QC) (z : mh_H) : Prop := match r with
  | .inl f => mh_bfl f.1 f.2 z ∧ 0 < f.1
  | .inr x => Ls.length < 14 ∧ ∃ k' : Nat, mh_rz0 N T x.2 k' z ∧ mh_rK z k' (Ls ++ [x.1]) ∧ k' ≤ x.2
theorem q_cla {N : Nat} {T : Nat → Int32} (hN : N ≤ 200) (ht : mh_tx (rd_sg T N) N) {p k : Nat} {s : mh_H} {Ls : List mh_Cl} (h : mh_rz0 N T p k s) (hk : k ≤ p) (hK : mh_rK s k Ls) (hn : Ls.length ≤ 14) : mh_rQ N T Ls (rd_cla (rd_sg T N) Ls.length p) (f_eX10_clause s) := by
  have k1 : (1 : Int32).toInt = ((1 : Nat) : Int) := rfl
  have k14 : (14 : Int32).toInt = 14 := rfl
  have hpN := h.2.2.2.2.2
  have h26 := hK.2
  unfold f_eX10_clause rd_cla
  simp only [mh_lbE, mh_lb2E]
  rw [r0_here h]
  have es : f_eX10_isClause s (rd_hr T N p) = f_eX10_isClause lx_s0 (rd_hr T N p) := rfl
  rw [es]
  have ic : (mh_ixf 1 (rd_sg T N p)).toInt < 0 ↔ (f_eX10_isClause lx_s0 (rd_hr T N p)).toInt = 0 := by
    by_cases g : p < N
    · rw [hr_lt g]
      exact ix_cla (ht.2 p g).1 (ht.2 p g).2
    · rw [ht.1 p (by omega), show rd_hr T N p = 0 from if_neg g]
      exact ⟨fun _ => by decide, fun _ => by decide⟩
  by_cases g1 : (mh_ixf 1 (rd_sg T N p)).toInt < 0
  · rw [if_pos g1, if_pos (ic.1 g1)]
    exact ⟨r0_wr (f := 1) (q := p) h rfl (by decide) h.1 (by omega), show 0 < 1 by decide⟩
  · rw [if_neg g1, if_neg (fun z => g1 (ic.2 z))]
    have hlt : p < N := by
      rcases Nat.lt_or_ge p N with q | q
      · exact q
      · rw [ht.1 p q] at g1; exact absurd (show (mh_ixf 1 (-1)).toInt < 0 by decide) g1
    by_cases g2 : 14 ≤ Ls.length
    · rw [if_pos g2, if_pos (show (s.1 57 26).toInt = (14 : Int32).toInt by omega)]
      exact ⟨r0_wr (f := 4) (q := p) h rfl (by decide) h.1 (by omega), show 0 < 4 by decide⟩
    · rw [if_neg g2, if_neg (show ¬ (s.1 57 26).toInt = (14 : Int32).toInt by omega), hr_lt hlt, ix_n h26]
      have a1 : mh_rz0 N T (p + 1) k (mh_pI (mh_pI (mh_pI s 70 Ls.length (rd_sg T N p)) 71 Ls.length (s.1 57 27)) 57 23 (s.1 57 23 + 1)) := r0_23 (r0_o (r0_o h (by decide) (by decide)) (by decide) (by decide)) (ix_add h.1 (by omega) k1 (by decide)) (by omega)
      have q70 : ∀ i, i < Ls.length → (mh_pI (mh_pI (mh_pI s 70 Ls.length (rd_sg T N p)) 71 Ls.length (s.1 57 27)) 57 23 (s.1 57 23 + 1)).1 70 i = s.1 70 i ∧ (mh_pI (mh_pI (mh_pI s 70 Ls.length (rd_sg T N p)) 71 Ls.length (s.1 57 27)) 57 23 (s.1 57 23 + 1)).1 71 i = s.1 71 i := fun i hi => ⟨by rw [pI_o (by decide), pI_o (by decide), pI_j (by omega)], by rw [pI_o (by decide), pI_j (by omega), pI_o (by decide)]⟩
      have q72 : (mh_pI (mh_pI (mh_pI s 70 Ls.length (rd_sg T N p)) 71 Ls.length (s.1 57 27)) 57 23 (s.1 57 23 + 1)).1 72 = s.1 72 := by rw [pI_row (by decide), pI_row (by decide), pI_row (by decide)]
      have q73 : (mh_pI (mh_pI (mh_pI s 70 Ls.length (rd_sg T N p)) 71 Ls.length (s.1 57 27)) 57 23 (s.1 57 23 + 1)).1 73 = s.1 73 := by rw [pI_row (by decide), pI_row (by decide), pI_row (by decide)]
      have q74 : (mh_pI (mh_pI (mh_pI s 70 Ls.length (rd_sg T N p)) 71 Ls.length (s.1 57 27)) 57 23 (s.1 57 23 + 1)).1 74 = s.1 74 := by rw [pI_row (by decide), pI_row (by decide), pI_row (by decide)]
      have q75 : (mh_pI (mh_pI (mh_pI s 70 Ls.length (rd_sg T N p)) 71 Ls.length (s.1 57 27)) 57 23 (s.1 57 23 + 1)).1 75 = s.1 75 := by rw [pI_row (by decide), pI_row (by decide), pI_row (by decide)]
      have w70 : (mh_pI (mh_pI (mh_pI s 70 Ls.length (rd_sg T N p)) 71 Ls.length (s.1 57 27)) 57 23 (s.1 57 23 + 1)).1 70 Ls.length = rd_sg T N p := by rw [pI_o (by decide), pI_o (by decide), pI_w]
      have w71 : (mh_pI (mh_pI (mh_pI s 70 Ls.length (rd_sg T N p)) 71 Ls.length (s.1 57 27)) 57 23 (s.1 57 23 + 1)).1 71 Ls.length = s.1 57 27 := by rw [pI_o (by decide), pI_w]
      have w26 : (mh_pI (mh_pI (mh_pI s 70 Ls.length (rd_sg T N p)) 71 Ls.length (s.1 57 27)) 57 23 (s.1 57 23 + 1)).1 57 26 = s.1 57 26 := by rw [pI_j (by decide), pI_o (by decide), pI_o (by decide)]
      generalize mh_pI (mh_pI (mh_pI s 70 Ls.length (rd_sg T N p)) 71 Ls.length (s.1 57 27)) 57 23 (s.1 57 23 + 1) = t at a1 q70 q72 q73 q74 q75 w70 w71 w26 ⊢
      have a2 := P_r0 a1
      have kp : mh_rk k t (mh_pI (mh_pI t 57 29 0) 57 28 0) := rk_tr (rk_57 (by decide)) (rk_57 (by decide)) (Nat.le_refl k)
      generalize mh_pI (mh_pI t 57 29 0) 57 28 0 = u at a2 kp ⊢
      have k0 := kc_0
      have nf : ¬ mh_fo 1 (mh_tp1 []) := by
        show ¬ mh_fo 1 0
        unfold mh_fo
        omega
      have v1 := v_val hN ht (n := 6) (d := 0) rfl nf (show (0 : Int32).toInt ≠ 91 by decide) a2 (by show k + 0 ≤ p + 1; omega)
      generalize f_eX10_value u = v at v1 ⊢
      cases e1 : rd_S (rd_sg T N) 7 (p + 1) with
      | inl f =>
        rw [e1] at v1
        have hb2 : mh_bfl f.1 f.2 (mh_pI v 72 Ls.length (v.1 57 27)) := bf_o v1.1 (by decide)
        rw [if_pos (bf_bad hb2 v1.2)]
        exact ⟨bf_31 (bf_o hb2 (by decide)) (by decide), v1.2⟩
      | inr x =>
        rw [e1] at v1
        have v1 : if (rd_sg T N x.2).toInt = 93 then mh_bfl 1 x.2 v else ∃ k' : Nat, mh_rP N T x.2 [] k' 0 v ∧ mh_rk k u v ∧ v.1 57 30 = u.1 57 30 ∧ sg_P (v.1 74) (v.1 75) x.1 k k' ∧ k ≤ k' ∧ k' + 0 ≤ x.2 := v1
        show mh_rQ N T Ls (if (rd_sg T N x.2).toInt = 40 then rd_cl2 (rd_sg T N) (rd_sg T N p) x.1 ((rd_CP (rd_sg T N) 6).1 (x.2 + 1)) else .inl (1, x.2)) _
        by_cases g3 : (rd_sg T N x.2).toInt = 93
        · rw [if_pos g3] at v1
          rw [if_neg (show ¬ (rd_sg T N x.2).toInt = 40 by omega)]
          have hb2 : mh_bfl 1 x.2 (mh_pI v 72 Ls.length (v.1 57 27)) := bf_o v1 (by decide)
          rw [if_pos (bf_bad hb2 (by decide))]
          exact ⟨bf_31 (bf_o hb2 (by decide)) (by decide), show 0 < 1 by decide⟩
        · rw [if_neg g3] at v1
          obtain ⟨k2, b1, b2, b3, b4, b5, b6⟩ := v1
          have b7 := rP_o (a := 72) (j := Ls.length) (x := v.1 57 27) b1 (by decide) (by decide) (by decide)
          rw [if_neg (rP_good b7)]
          have qc := q_con hN ht b7 (by omega)
          have c74 : (mh_pI v 72 Ls.length (v.1 57 27)).1 74 = v.1 74 := pI_row (by decide)
          have c75 : (mh_pI v 72 Ls.length (v.1 57 27)).1 75 = v.1 75 := pI_row (by decide)
          have c70 : (mh_pI v 72 Ls.length (v.1 57 27)).1 70 = v.1 70 := pI_row (by decide)
          have c71 : (mh_pI v 72 Ls.length (v.1 57 27)).1 71 = v.1 71 := pI_row (by decide)
          have c73 : (mh_pI v 72 Ls.length (v.1 57 27)).1 73 = v.1 73 := pI_row (by decide)
          have c72 : ∀ i, i < Ls.length → (mh_pI v 72 Ls.length (v.1 57 27)).1 72 i = v.1 72 i := fun i hi => pI_j (by omega)
          have w72 : (mh_pI v 72 Ls.length (v.1 57 27)).1 72 Ls.length = v.1 57 27 := pI_w
          have c26 : (mh_pI v 72 Ls.length (v.1 57 27)).1 57 26 = v.1 57 26 := pI_o (by decide)
          generalize mh_pI v 72 Ls.length (v.1 57 27) = v' at qc b7 c74 c75 c70 c71 c72 c73 w72 c26 ⊢
          generalize f_eX10_condition v' = w at qc ⊢
          by_cases g4 : (rd_sg T N x.2).toInt = 40
          · rw [if_pos g4] at qc ⊢
            have hmx := S_mo ht 7 (p + 1) x.1 x.2 e1
            cases e2 : (rd_CP (rd_sg T N) 6).1 (x.2 + 1) with
            | inl f =>
              rw [e2] at qc
              exact ⟨bf_31 (bf_o qc.1 (by decide)) (by decide), qc.2⟩
            | inr y =>
              rw [e2] at qc
              have qc : if (rd_sg T N y.2).toInt = 41 then ∃ k' : Nat, mh_rP N T (y.2 + 1) [] k' 0 w ∧ mh_rk k2 v' w ∧ sg_P (w.1 74) (w.1 75) y.1 k2 k' ∧ k2 ≤ k' ∧ k' ≤ y.2 + 1 else mh_bfl 1 y.2 w := qc
              show mh_rQ N T Ls (if (rd_sg T N y.2).toInt = 41 then .inr ((rd_sg T N p, x.1, y.1), y.2 + 1) else .inl (1, y.2)) _
              by_cases g5 : (rd_sg T N y.2).toInt = 41
              · rw [if_pos g5] at qc ⊢
                obtain ⟨k3, d1, d2, d3, d4, d5⟩ := qc
                have mby := (CP_mb (g := rd_sg T N) 6).1 _ _ _ e2
                refine ⟨by omega, k3, r0_P (rP_j (rP_o d1 (by decide) (by decide) (by decide)) (by decide)), ⟨?_, ?_⟩, d5⟩
                · have z74 : (mh_pI (mh_pI w 73 Ls.length (w.1 57 27)) 57 26 (s.1 57 26 + 1)).1 74 = w.1 74 := by rw [pI_row (by decide), pI_row (by decide)]
                  have z75 : (mh_pI (mh_pI w 73 Ls.length (w.1 57 27)) 57 26 (s.1 57 26 + 1)).1 75 = w.1 75 := by rw [pI_row (by decide), pI_row (by decide)]
                  have z70 : (mh_pI (mh_pI w 73 Ls.length (w.1 57 27)) 57 26 (s.1 57 26 + 1)).1 70 = w.1 70 := by rw [pI_row (by decide), pI_row (by decide)]
                  have z71 : (mh_pI (mh_pI w 73 Ls.length (w.1 57 27)) 57 26 (s.1 57 26 + 1)).1 71 = w.1 71 := by rw [pI_row (by decide), pI_row (by decide)]
                  have z72 : (mh_pI (mh_pI w 73 Ls.length (w.1 57 27)) 57 26 (s.1 57 26 + 1)).1 72 = w.1 72 := by rw [pI_row (by decide), pI_row (by decide)]
                  have z73 : ∀ i, i < Ls.length → (mh_pI (mh_pI w 73 Ls.length (w.1 57 27)) 57 26 (s.1 57 26 + 1)).1 73 i = w.1 73 i := fun i hi => by rw [pI_o (by decide), pI_j (by omega)]
                  have y73 : (mh_pI (mh_pI w 73 Ls.length (w.1 57 27)) 57 26 (s.1 57 26 + 1)).1 73 Ls.length = w.1 57 27 := by rw [pI_o (by decide), pI_w]
                  have r70 : w.1 70 = t.1 70 := (d2.2.1 70 (by decide) (by decide)).trans (c70.trans ((b2.2.1 70 (by decide) (by decide)).trans (kp.2.1 70 (by decide) (by decide))))
                  have r71 : w.1 71 = t.1 71 := (d2.2.1 71 (by decide) (by decide)).trans (c71.trans ((b2.2.1 71 (by decide) (by decide)).trans (kp.2.1 71 (by decide) (by decide))))
                  have r72 : ∀ i, i < Ls.length → w.1 72 i = s.1 72 i := fun i hi => by
                    rw [d2.2.1 72 (by decide) (by decide), c72 i hi, b2.2.1 72 (by decide) (by decide), kp.2.1 72 (by decide) (by decide), q72]
                  have r73 : w.1 73 = s.1 73 := (d2.2.1 73 (by decide) (by decide)).trans (c73.trans ((b2.2.1 73 (by decide) (by decide)).trans ((kp.2.1 73 (by decide) (by decide)).trans q73)))
                  have cod : ∀ i, i < k → w.1 74 i = s.1 74 i ∧ w.1 75 i = s.1 75 i := fun i hi => by
                    have t1 := d2.1 i (by omega)
                    have t2 := b2.1 i hi
                    have t3 := kp.1 i hi
                    rw [t1.1, t1.2, c74, c75, t2.1, t2.2, t3.1, t3.2, q74, q75]
                    exact ⟨rfl, rfl⟩
                  have cod2 : ∀ i, i < k2 → w.1 74 i = v.1 74 i ∧ w.1 75 i = v.1 75 i := fun i hi => by
                    have t1 := d2.1 i hi
                    rw [t1.1, t1.2, c74, c75]
                    exact ⟨rfl, rfl⟩
                  rw [z74, z75]
                  refine clR_ap (k0 := 70) (s := s) (kr := s.1 74) (wr := s.1 75) cod (by omega) [(rd_sg T N p, x.1, y.1)] Ls 0 (fun kk j hkk hj => ?_) hK.1 ⟨⟨k, k2, k3, ?_, ?_, ?_, ?_, Nat.le_refl _, mby, ?_, ?_⟩, trivial⟩
                  · have hj : j < Ls.length := by omega
                    have : kk = 0 ∨ kk = 1 ∨ kk = 2 ∨ kk = 3 := by omega
                    rcases this with rfl | rfl | rfl | rfl
                    · exact (congrFun z70 j).trans ((congrFun r70 j).trans (q70 j hj).1)
                    · exact (congrFun z71 j).trans ((congrFun r71 j).trans (q70 j hj).2)
                    · exact (congrFun z72 j).trans (r72 j hj)
                    · exact (z73 j hj).trans (congrFun r73 j)
                  · rw [Nat.zero_add]; exact (congrFun z70 _).trans ((congrFun r70 _).trans w70)
                  · rw [Nat.zero_add]
                    have : (mh_pI (mh_pI w 73 Ls.length (w.1 57 27)) 57 26 (s.1 57 26 + 1)).1 71 Ls.length = s.1 57 27 := (congrFun z71 _).trans ((congrFun r71 _).trans w71)
                    exact (congrArg Int32.toInt this).trans h.2.2.2.1
                  · rw [Nat.zero_add]
                    have : (mh_pI (mh_pI w 73 Ls.length (w.1 57 27)) 57 26 (s.1 57 26 + 1)).1 72 Ls.length = v.1 57 27 := (congrFun z72 _).trans ((congrFun (d2.2.1 72 (by decide) (by decide)) _).trans w72)
                    exact (congrArg Int32.toInt this).trans b1.2.2.2.1
                  · rw [Nat.zero_add]
                    exact (congrArg Int32.toInt y73).trans d1.2.2.2.1
                  · exact sP_cg b4 (fun i _ hi => cod2 i hi)
                  · exact d3
                · rw [pI_w, List.length_append]
                  show (s.1 57 26 + 1).toInt = ((Ls.length + 1 : Nat) : Int)
                  exact ix_add h26 (by omega) k1 (by decide)
              · rw [if_neg g5] at qc ⊢
                exact ⟨bf_31 (bf_o qc (by decide)) (by decide), show 0 < 1 by decide⟩
          · rw [if_neg g4] at qc ⊢
            exact ⟨bf_31 (bf_o qc (by decide)) (by decide), show 0 < 1 by decide⟩
end
section
/-- a law that is good is taken over -/
theorem q_cp2 {k : Nat} {K C : Int32} {s : mh_H} (hK : K.toInt = (k : Int)) (hk : k ≤ 200) : (l_eX10_law_206_3 K C 201 s 0).1 = C ∧ (l_eX10_law_206_3 K C 201 s 0).2.1 57 10 = C ∧ (∀ i, i < k → (l_eX10_law_206_3 K C 201 s 0).2.1 68 i = s.1 74 i ∧ (l_eX10_law_206_3 K C 201 s 0).2.1 69 i = s.1 75 i) ∧ ∀ r, 64 ≤ r → r ≤ 67 → (l_eX10_law_206_3 K C 201 s 0).2.1 r = s.1 r := by
  refine mh_for (l_eX10_law_206_3 K C) k (fun s' m => (∀ i, i < m → s'.1 68 i = s.1 74 i ∧ s'.1 69 i = s.1 75 i) ∧ s'.1 74 = s.1 74 ∧ s'.1 75 = s.1 75 ∧ ∀ r, 64 ≤ r → r ≤ 67 → s'.1 r = s.1 r) (fun z => z.1 = C ∧ z.2.1 57 10 = C ∧ (∀ i, i < k → z.2.1 68 i = s.1 74 i ∧ z.2.1 69 i = s.1 75 i) ∧ ∀ r, 64 ≤ r → r ≤ 67 → z.2.1 r = s.1 r) (by omega) ?_ ?_ 201 s 0 0 rfl (by omega) ⟨fun i h => absurd h (Nat.not_lt_zero i), rfl, rfl, fun _ _ _ => rfl⟩ (by omega)
  · intro n s' x m hx hm ⟨h1, h2, h3, h4⟩
    refine ⟨mh_pI (mh_pI s' 68 m (s.1 74 m)) 69 m (s.1 75 m), ⟨fun i hi => ⟨?_, ?_⟩, ?_, ?_, fun r a b => ?_⟩, ?_⟩
    · rw [pI_o (by decide), pI_v]
      split
      · rename_i t; rw [t.2]
      · rename_i t; exact (h1 i (by have : i ≠ m := fun e => t ⟨rfl, e⟩; omega)).1
    · rw [pI_v]
      split
      · rename_i t; rw [t.2]
      · rename_i t; rw [pI_o (by decide)]; exact (h1 i (by have : i ≠ m := fun e => t ⟨rfl, e⟩; omega)).2
    · rw [pI_row (by decide), pI_row (by decide)]; exact h2
    · rw [pI_row (by decide), pI_row (by decide)]; exact h3
    · rw [pI_row (by omega), pI_row (by omega)]; exact h4 r a b
    · rw [l_eX10_law_206_3_s]
      unfold ls_eX10_law_206_3
      simp only [mh_lbE]
      have e75 : ∀ v : Int32, (mh_pI s' 68 m v).1 75 m = s.1 75 m := fun v => by rw [pI_o (by decide), h3]
      rw [if_pos (by omega), ix_n hx, h2, e75]
  · intro n s' x hx ⟨h1, h2, h3, h4⟩
    rw [l_eX10_law_206_3_s]
    unfold ls_eX10_law_206_3
    simp only [mh_lbE]
    rw [if_neg (by omega)]
    exact ⟨rfl, pI_w, fun i hi => ⟨by rw [pI_o (by decide)]; exact (h1 i hi).1, by rw [pI_o (by decide)]; exact (h1 i hi).2⟩, fun r a b => by rw [pI_row (by omega)]; exact h4 r a b⟩
theorem q_fin {k : Nat} {s : mh_H} {Ls : List mh_Cl} (hK : mh_rK s k Ls) (h27 : (s.1 57 27).toInt = (k : Int)) (hk : k ≤ 200) (hn : Ls.length ≤ 14) : (l_eX10_law_142_2 (s.1 57 27) (s.1 57 26) 15 s 0).1 = s.1 57 26 ∧ mh_LR (l_eX10_law_142_2 (s.1 57 27) (s.1 57 26) 15 s 0).2 (mh_lw Ls) := by
  have h26 := hK.2
  generalize s.1 57 27 = K at h27 ⊢
  generalize s.1 57 26 = C at h26 ⊢
  refine mh_for (l_eX10_law_142_2 K C) Ls.length (fun s' m => (∀ i, i < m → s'.1 64 i = s.1 70 i ∧ s'.1 65 i = s.1 71 i ∧ s'.1 66 i = s.1 72 i ∧ s'.1 67 i = s.1 73 i) ∧ ∀ r, 70 ≤ r → r ≤ 75 → s'.1 r = s.1 r) (fun z => z.1 = C ∧ mh_LR z.2 (mh_lw Ls)) (by omega) ?_ ?_ 15 s 0 0 rfl (by omega) ⟨fun i h => absurd h (Nat.not_lt_zero i), fun _ _ _ => rfl⟩ (by omega)
  · intro n s' x m hx hm ⟨h1, h2⟩
    refine ⟨mh_pI (mh_pI (mh_pI (mh_pI s' 64 m (s.1 70 m)) 65 m (s.1 71 m)) 66 m (s.1 72 m)) 67 m (s.1 73 m), ⟨fun i hi => ⟨?_, ?_, ?_, ?_⟩, fun r a b => ?_⟩, ?_⟩
    · rw [pI_o (by decide), pI_o (by decide), pI_o (by decide), pI_v]
      split
      · rename_i t; rw [t.2]
      · rename_i t; exact (h1 i (by have : i ≠ m := fun e => t ⟨rfl, e⟩; omega)).1
    · rw [pI_o (by decide), pI_o (by decide), pI_v]
      split
      · rename_i t; rw [t.2]
      · rename_i t; rw [pI_o (by decide)]; exact (h1 i (by have : i ≠ m := fun e => t ⟨rfl, e⟩; omega)).2.1
    · rw [pI_o (by decide), pI_v]
      split
      · rename_i t; rw [t.2]
      · rename_i t; rw [pI_o (by decide), pI_o (by decide)]; exact (h1 i (by have : i ≠ m := fun e => t ⟨rfl, e⟩; omega)).2.2.1
    · rw [pI_v]
      split
      · rename_i t; rw [t.2]
      · rename_i t; rw [pI_o (by decide), pI_o (by decide), pI_o (by decide)]; exact (h1 i (by have : i ≠ m := fun e => t ⟨rfl, e⟩; omega)).2.2.2
    · rw [pI_row (by omega), pI_row (by omega), pI_row (by omega), pI_row (by omega)]; exact h2 r a b
    · have e70 : s'.1 70 m = s.1 70 m := congrFun (h2 70 (by decide) (by decide)) m
      have e71 : ∀ v : Int32, (mh_pI s' 64 m v).1 71 m = s.1 71 m := fun v => by rw [pI_o (by decide)]; exact congrFun (h2 71 (by decide) (by decide)) m
      have e72 : ∀ v w : Int32, (mh_pI (mh_pI s' 64 m v) 65 m w).1 72 m = s.1 72 m := fun v w => by rw [pI_o (by decide), pI_o (by decide)]; exact congrFun (h2 72 (by decide) (by decide)) m
      have e73 : ∀ v w y : Int32, (mh_pI (mh_pI (mh_pI s' 64 m v) 65 m w) 66 m y).1 73 m = s.1 73 m := fun v w y => by rw [pI_o (by decide), pI_o (by decide), pI_o (by decide)]; exact congrFun (h2 73 (by decide) (by decide)) m
      rw [l_eX10_law_142_2_s]
      unfold ls_eX10_law_142_2
      simp only [mh_lbE]
      rw [if_pos (by omega), ix_n hx, e70, e71, e72, e73]
  · intro n s' x hx ⟨h1, h2⟩
    rw [l_eX10_law_142_2_s]
    unfold ls_eX10_law_142_2
    simp only [mh_lbE]
    rw [if_neg (by omega)]
    obtain ⟨c1, c2, c3, c4⟩ := q_cp2 (K := K) (C := C) (s := s') h27 hk
    generalize l_eX10_law_206_3 K C 201 s' 0 = z at c1 c2 c3 c4 ⊢
    refine ⟨c1, LR_of (B := k) hk ?_ (by rw [c2]; exact h26) hn⟩
    have := clR_ap (k0 := 70) (k1 := 64) (s := s) (s' := z.2) (kr := s.1 74) (wr := s.1 75) (kr' := z.2.1 68) (wr' := z.2.1 69) (B := k) (B' := k) (fun i hi => ⟨(c3 i hi).1.trans (congrFun (h2 74 (by decide) (by decide)) i), (c3 i hi).2.trans (congrFun (h2 75 (by decide) (by decide)) i)⟩) (Nat.le_refl k) [] Ls 0 (fun kk j hkk hj => by
      have hj : j < Ls.length := by omega
      have : kk = 0 ∨ kk = 1 ∨ kk = 2 ∨ kk = 3 := by omega
      rcases this with rfl | rfl | rfl | rfl
      · exact (congrFun (c4 64 (by decide) (by decide)) j).trans (h1 j hj).1
      · exact (congrFun (c4 65 (by decide) (by decide)) j).trans (h1 j hj).2.1
      · exact (congrFun (c4 66 (by decide) (by decide)) j).trans (h1 j hj).2.2.1
      · exact (congrFun (c4 67 (by decide) (by decide)) j).trans (h1 j hj).2.2.2) hK.1 trivial
    rw [List.append_nil] at this
    exact this
/-- a whole law of the reference -/
def mh_ro (s s' : mh_H) : Prop := (∀ i, 64 ≤ i → i ≤ 69 → s'.1 i = s.1 i) ∧ s'.1 57 10 = s.1 57 10
def mh_rR (s : mh_H) (r : Sum (Nat × Nat) (List mh_Cl)) (z : Int32 × mh_H) : Prop := match r with
  | .inl f => z.1.toInt = -1000 * (f.1 : Int) - (f.2 : Int) ∧ 0 < f.1 ∧ mh_ro s z.2
  | .inr Ls => z.1.toInt = (Ls.length : Int) ∧ mh_LR z.2 (mh_lw Ls)
theorem lw_b0 {f q : Nat} {s : mh_H} (h : mh_bfl f q s) (hf : 0 < f) (m : Nat) : l_eX10_law_54_1 (m + 1) s 0 = (s.1 57 25, s) := by
  unfold mh_bfl at h
  rw [l_eX10_law_54_1_s]
  unfold ls_eX10_law_54_1
  simp only [mh_lbE]
  rw [if_pos (show (0 : Int32).toInt = 0 from kc_0), if_pos (show (s.1 57 25).toInt < 0 by omega)]
theorem lw_b1 {f q : Nat} {s : mh_H} (h : mh_bfl f q s) (hf : 0 < f) (m : Nat) : l_eX10_law_54_1 (m + 1) s 1 = (s.1 57 25, s) := by
  rw [l_eX10_law_54_1_s]
  unfold ls_eX10_law_54_1
  simp only [mh_lbE]
  rw [if_neg (show ¬ (1 : Int32).toInt = 0 by decide), if_pos (bf_bad h hf)]
theorem q_law {N : Nat} {T : Nat → Int32} (hN : N ≤ 200) (ht : mh_tx (rd_sg T N) N) {s0 : mh_H} : ∀ (n : Nat) (s : mh_H) (Ls : List mh_Cl) (p k m : Nat), Ls.length ≤ 14 → 15 < n + Ls.length → n + 2 ≤ m → mh_rz0 N T p k s → k ≤ p → mh_rK s k Ls → mh_p3 s → mh_ro s0 s → mh_rR s0 (rd_law (rd_sg T N) N n Ls p) (l_eX10_law_54_1 m s 1) := by
  intro n
  induction n with
  | zero => intro s Ls p k m h1 h2; exfalso; omega
  | succ n ih =>
    intro s Ls p k m h1 h2 hm h hk hK hp3 hro
    have k59 : (59 : Int32).toInt = 59 := rfl
    have k1 : (1 : Int32).toInt = ((1 : Nat) : Int) := rfl
    obtain ⟨m, rfl⟩ : ∃ i, m = i + 1 := ⟨m - 1, by omega⟩
    obtain ⟨m, rfl⟩ : ∃ i, m = i + 1 := ⟨m - 1, by omega⟩
    rw [rd_law_s, l_eX10_law_54_1_s]
    unfold ls_eX10_law_54_1
    simp only [mh_lbE]
    rw [if_neg (show ¬ (1 : Int32).toInt = 0 by decide), if_neg (r0_good h)]
    have r1 := q_cla hN ht h hk hK h1
    have fr := fr_eX10_clause s hp3
    have hro1 : mh_ro s0 (f_eX10_clause s) := ⟨fun i a b => (F_row1 fr.1 (by
      intro e he
      have : ∀ e ∈ S_eX10_clause, e.1 < 64 ∨ 69 < e.1 := by decide
      have := this e he
      omega)).trans (hro.1 i a b), (F_at1 fr.1 (by decide)).trans hro.2⟩
    have hp31 := fr.2
    have h24 := h.2.1
    generalize f_eX10_clause s = z at r1 hro1 hp31 ⊢
    cases e : rd_cla (rd_sg T N) Ls.length p with
    | inl f =>
      rw [e] at r1
      rw [if_pos (bf_bad r1.1 r1.2), lw_b0 r1.1 r1.2]
      exact ⟨r1.1, r1.2, hro1⟩
    | inr x =>
      rw [e] at r1
      obtain ⟨q1, k', q2, q3, q4⟩ := r1
      have hx1 := q2.1
      have hxN := q2.2.2.2.2.2
      have hlen : (Ls ++ [x.1]).length = Ls.length + 1 := List.length_append
      rw [if_neg (r0_good q2)]
      show mh_rR s0 (if x.2 < N then (if (rd_sg T N x.2).toInt = 59 then rd_law (rd_sg T N) N n (Ls ++ [x.1]) (x.2 + 1) else .inl (1, x.2)) else .inr (Ls ++ [x.1])) _
      by_cases g : x.2 < N
      · rw [if_pos g, if_pos (show (z.1 57 23).toInt < (s.1 57 24).toInt by omega), r0_here q2, hr_lt g]
        by_cases g2 : (rd_sg T N x.2).toInt = 59
        · rw [if_pos g2, if_pos (show (rd_sg T N x.2).toInt = (59 : Int32).toInt by omega)]
          refine ih _ (Ls ++ [x.1]) (x.2 + 1) k' (m + 1) (by omega) (by omega) (by omega) (r0_23 q2 (ix_add hx1 (by omega) k1 (by decide)) (by omega)) (by omega) ⟨?_, ?_⟩ hp31 ⟨fun i a b => (pI_row (by omega)).trans (hro1.1 i a b), (pI_j (by decide)).trans hro1.2⟩
          · have := clR_ap (k0 := 70) (k1 := 70) (s := z) (s' := mh_pI z 57 23 (z.1 57 23 + 1)) (kr := z.1 74) (wr := z.1 75) (kr' := (mh_pI z 57 23 (z.1 57 23 + 1)).1 74) (wr' := (mh_pI z 57 23 (z.1 57 23 + 1)).1 75) (B := k') (B' := k') (fun i _ => ⟨pI_o (by decide), pI_o (by decide)⟩) (Nat.le_refl _) [] (Ls ++ [x.1]) 0 (fun kk j hkk _ => pI_o (by omega)) q3.1 trivial
            rw [List.append_nil] at this
            exact this
          · rw [pI_j (by decide)]; exact q3.2
        · rw [if_neg g2, if_neg (show ¬ (rd_sg T N x.2).toInt = (59 : Int32).toInt by omega)]
          have b := r0_wr q2 (F := 1) (P := z.1 57 23) (f := 1) (q := x.2) rfl (by decide) hx1 (by omega)
          have b2 : mh_bfl 1 x.2 (mh_pI (f_eX10_wrongs z 1 (z.1 57 23)) 57 23 (z.1 57 23 + 1)) := bf_31 b (by decide)
          have ro2 : mh_ro s0 (mh_pI (f_eX10_wrongs z 1 (z.1 57 23)) 57 23 (z.1 57 23 + 1)) := by
            unfold f_eX10_wrongs
            simp only [mh_lbE]
            split
            · exact ⟨fun i a b => by rw [pI_row (by omega), pI_row (by omega)]; exact hro1.1 i a b, by rw [pI_j (by decide), pI_j (by decide)]; exact hro1.2⟩
            · exact ⟨fun i a b => by rw [pI_row (by omega), pI_row (by omega)]; exact hro1.1 i a b, by rw [pI_j (by decide), pI_j (by decide)]; exact hro1.2⟩
          generalize mh_pI (f_eX10_wrongs z 1 (z.1 57 23)) 57 23 (z.1 57 23 + 1) = t at b2 ro2 ⊢
          rw [lw_b1 b2 (by decide)]
          exact ⟨b2, show 0 < 1 by decide, ro2⟩
      · rw [if_neg g, if_neg (show ¬ (z.1 57 23).toInt < (s.1 57 24).toInt by omega)]
        rw [l_eX10_law_54_1_s]
        unfold ls_eX10_law_54_1
        simp only [mh_lbE]
        have h25 : ¬ (z.1 57 25).toInt < 0 := by rw [q2.2.2.1]; decide
        rw [if_pos (show (0 : Int32).toInt = 0 from kc_0), if_neg h25]
        obtain ⟨c1, c2⟩ := q_fin q3 q2.2.2.2.1 (by omega) (by omega)
        refine ⟨?_, c2⟩
        rw [c1]; exact q3.2
end

/-- the reference's parser: its state at place p, signs st on the stack (the top first), k pieces of code, d open -/
def mh_sk (row : Nat → Int32) : List Int32 → Prop
  | [] => True
  | x :: r => row r.length = x ∧ mh_sk row r
theorem sk_cg {row row' : Nat → Int32} : ∀ {st : List Int32}, mh_sk row st → (∀ i, i < st.length → row' i = row i) → mh_sk row' st
  | [], _, _ => trivial
  | x :: r, h, he => ⟨(he r.length (by rw [List.length_cons]; omega)).trans h.1, sk_cg h.2 (fun i hi => he i (by rw [List.length_cons]; omega))⟩
def rd_hr (T : Nat → Int32) (N p : Nat) : Int32 := if p < N then T p else 0
def mh_rP (N : Nat) (T : Nat → Int32) (p : Nat) (st : List Int32) (k d : Nat) (s : mh_H) : Prop := (s.1 57 23).toInt = (p : Int) ∧ (s.1 57 24).toInt = (N : Int) ∧ s.1 57 25 = 0 ∧ (s.1 57 27).toInt = (k : Int) ∧ (s.1 57 28).toInt = (d : Int) ∧ (s.1 57 29).toInt = (st.length : Int) ∧ mh_sk (s.1 76) st ∧ (∀ i, s.1 58 i &&& 255 = T i) ∧ p ≤ N
def mh_rk (k : Nat) (s s' : mh_H) : Prop := (∀ i, i < k → s'.1 74 i = s.1 74 i ∧ s'.1 75 i = s.1 75 i) ∧ (∀ r, 70 ≤ r → r ≤ 73 → s'.1 r = s.1 r) ∧ s'.1 57 26 = s.1 57 26
def mh_rff (s s' : mh_H) : Prop := s'.1 57 30 = s.1 57 30 ∧ s'.1 57 31 = s.1 57 31
def mh_bfl (f q : Nat) (s : mh_H) : Prop := (s.1 57 25).toInt = -1000 * (f : Int) - (q : Int)
theorem rk_rf {k : Nat} {s : mh_H} : mh_rk k s s := ⟨fun _ _ => ⟨rfl, rfl⟩, fun _ _ _ => rfl, rfl⟩
theorem rk_tr {k k' : Nat} {s s1 s2 : mh_H} (h : mh_rk k s s1) (h2 : mh_rk k' s1 s2) (hk : k ≤ k') : mh_rk k s s2 := ⟨fun i hi => ⟨(h2.1 i (by omega)).1.trans (h.1 i hi).1, (h2.1 i (by omega)).2.trans (h.1 i hi).2⟩, fun r a b => (h2.2.1 r a b).trans (h.2.1 r a b), h2.2.2.trans h.2.2⟩
theorem rf_rf {s : mh_H} : mh_rff s s := ⟨rfl, rfl⟩
theorem rf_tr {s s1 s2 : mh_H} (h : mh_rff s s1) (h2 : mh_rff s1 s2) : mh_rff s s2 := ⟨h2.1.trans h.1, h2.2.trans h.2⟩
theorem rk_57 {k j : Nat} {s : mh_H} {x : Int32} (hj : j ≠ 26) : mh_rk k s (mh_pI s 57 j x) := ⟨fun i _ => ⟨pI_o (by decide), pI_o (by decide)⟩, fun r a b => pI_row (by omega), pI_j (fun q => hj q.symm)⟩
theorem rf_57 {j : Nat} {s : mh_H} {x : Int32} (h0 : j ≠ 30) (h1 : j ≠ 31) : mh_rff s (mh_pI s 57 j x) := ⟨pI_j (fun q => h0 q.symm), pI_j (fun q => h1 q.symm)⟩
theorem rP_o {N : Nat} {T : Nat → Int32} {p k d a j : Nat} {st : List Int32} {s : mh_H} {x : Int32} (h : mh_rP N T p st k d s) (ha : a ≠ 57) (hb : a ≠ 58) (hc : a ≠ 76) : mh_rP N T p st k d (mh_pI s a j x) := by
  have e57 : (mh_pI s a j x).1 57 = s.1 57 := pI_row (fun q => ha q.symm)
  have e58 : (mh_pI s a j x).1 58 = s.1 58 := pI_row (fun q => hb q.symm)
  have e76 : (mh_pI s a j x).1 76 = s.1 76 := pI_row (fun q => hc q.symm)
  unfold mh_rP
  rw [e57, e58, e76]
  exact h
theorem rP_j {N : Nat} {T : Nat → Int32} {p k d j : Nat} {st : List Int32} {s : mh_H} {x : Int32} (h : mh_rP N T p st k d s) (hj : j ≠ 23 ∧ j ≠ 24 ∧ j ≠ 25 ∧ j ≠ 27 ∧ j ≠ 28 ∧ j ≠ 29) : mh_rP N T p st k d (mh_pI s 57 j x) :=
  ⟨by rw [pI_j (by omega)]; exact h.1, by rw [pI_j (by omega)]; exact h.2.1, by rw [pI_j (by omega)]; exact h.2.2.1, by rw [pI_j (by omega)]; exact h.2.2.2.1, by rw [pI_j (by omega)]; exact h.2.2.2.2.1, by rw [pI_j (by omega)]; exact h.2.2.2.2.2.1, by rw [pI_row (by decide)]; exact h.2.2.2.2.2.2.1, fun i => by rw [pI_o (by decide)]; exact h.2.2.2.2.2.2.2.1 i, h.2.2.2.2.2.2.2.2⟩
theorem rP_23 {N : Nat} {T : Nat → Int32} {p p' k d : Nat} {st : List Int32} {s : mh_H} {x : Int32} (h : mh_rP N T p st k d s) (hx : x.toInt = (p' : Int)) (hp : p' ≤ N) : mh_rP N T p' st k d (mh_pI s 57 23 x) :=
  ⟨by rw [pI_w]; exact hx, by rw [pI_j (by decide)]; exact h.2.1, by rw [pI_j (by decide)]; exact h.2.2.1, by rw [pI_j (by decide)]; exact h.2.2.2.1, by rw [pI_j (by decide)]; exact h.2.2.2.2.1, by rw [pI_j (by decide)]; exact h.2.2.2.2.2.1, by rw [pI_row (by decide)]; exact h.2.2.2.2.2.2.1, fun i => by rw [pI_o (by decide)]; exact h.2.2.2.2.2.2.2.1 i, hp⟩
theorem rP_27 {N : Nat} {T : Nat → Int32} {p k k' d : Nat} {st : List Int32} {s : mh_H} {x : Int32} (h : mh_rP N T p st k d s) (hx : x.toInt = (k' : Int)) : mh_rP N T p st k' d (mh_pI s 57 27 x) :=
  ⟨by rw [pI_j (by decide)]; exact h.1, by rw [pI_j (by decide)]; exact h.2.1, by rw [pI_j (by decide)]; exact h.2.2.1, by rw [pI_w]; exact hx, by rw [pI_j (by decide)]; exact h.2.2.2.2.1, by rw [pI_j (by decide)]; exact h.2.2.2.2.2.1, by rw [pI_row (by decide)]; exact h.2.2.2.2.2.2.1, fun i => by rw [pI_o (by decide)]; exact h.2.2.2.2.2.2.2.1 i, h.2.2.2.2.2.2.2.2⟩
theorem rP_28 {N : Nat} {T : Nat → Int32} {p k d d' : Nat} {st : List Int32} {s : mh_H} {x : Int32} (h : mh_rP N T p st k d s) (hx : x.toInt = (d' : Int)) : mh_rP N T p st k d' (mh_pI s 57 28 x) :=
  ⟨by rw [pI_j (by decide)]; exact h.1, by rw [pI_j (by decide)]; exact h.2.1, by rw [pI_j (by decide)]; exact h.2.2.1, by rw [pI_j (by decide)]; exact h.2.2.2.1, by rw [pI_w]; exact hx, by rw [pI_j (by decide)]; exact h.2.2.2.2.2.1, by rw [pI_row (by decide)]; exact h.2.2.2.2.2.2.1, fun i => by rw [pI_o (by decide)]; exact h.2.2.2.2.2.2.2.1 i, h.2.2.2.2.2.2.2.2⟩
theorem rP_29 {N : Nat} {T : Nat → Int32} {p k d : Nat} {y : Int32} {st : List Int32} {s : mh_H} {x : Int32} (h : mh_rP N T p (y :: st) k d s) (hx : x.toInt = (st.length : Int)) : mh_rP N T p st k d (mh_pI s 57 29 x) :=
  ⟨by rw [pI_j (by decide)]; exact h.1, by rw [pI_j (by decide)]; exact h.2.1, by rw [pI_j (by decide)]; exact h.2.2.1, by rw [pI_j (by decide)]; exact h.2.2.2.1, by rw [pI_j (by decide)]; exact h.2.2.2.2.1, by rw [pI_w]; exact hx, by rw [pI_row (by decide)]; exact h.2.2.2.2.2.2.1.2, fun i => by rw [pI_o (by decide)]; exact h.2.2.2.2.2.2.2.1 i, h.2.2.2.2.2.2.2.2⟩
theorem r_here {N : Nat} {T : Nat → Int32} {p k d : Nat} {st : List Int32} {s : mh_H} (h : mh_rP N T p st k d s) : f_eX10_here s = rd_hr T N p := by
  have h1 := h.1
  have h2 := h.2.1
  unfold f_eX10_here rd_hr
  simp only [mh_lbE]
  by_cases g : p < N
  · rw [if_pos (by omega), if_pos g, ix_n h1]
    exact h.2.2.2.2.2.2.2.1 p
  · rw [if_neg (by omega), if_neg g]
theorem hr_eq {T : Nat → Int32} {N p : Nat} {c : Int} (hc : 0 < c) : (rd_hr T N p).toInt = c ↔ (rd_sg T N p).toInt = c := by
  unfold rd_hr rd_sg
  have k0 := kc_0
  have km : (-1 : Int32).toInt = -1 := rfl
  by_cases g : p < N
  · rw [if_pos g, if_pos g]
  · rw [if_neg g, if_neg g]; omega
theorem hr_lt {T : Nat → Int32} {N p : Nat} (h : p < N) : rd_hr T N p = rd_sg T N p := by
  unfold rd_hr rd_sg
  rw [if_pos h, if_pos h]
theorem fq_good (s : mh_H) : ((f_eX10_isGood s).toInt = 0) ↔ ¬ (s.1 57 25).toInt = 0 := by
  have k0 := kc_0
  have c1 : (1 : Int32).toInt = 1 := rfl
  unfold f_eX10_isGood
  simp only [mh_lbE]
  split <;> omega
theorem rP_good {N : Nat} {T : Nat → Int32} {p k d : Nat} {st : List Int32} {s : mh_H} (h : mh_rP N T p st k d s) : ¬ (f_eX10_isGood s).toInt = 0 := fun q => (fq_good s).1 q (by rw [h.2.2.1]; rfl)
theorem bf_bad {f q : Nat} {s : mh_H} (h : mh_bfl f q s) (hf : 0 < f) : (f_eX10_isGood s).toInt = 0 := (fq_good s).2 (by unfold mh_bfl at h; omega)
theorem fq_seed {N : Nat} {T : Nat → Int32} {p k d : Nat} {st : List Int32} {s : mh_H} (h : mh_rP N T p st k d s) : ((f_eX10_seesDigit s).toInt = 0) ↔ ¬ (48 ≤ (rd_sg T N p).toInt ∧ (rd_sg T N p).toInt ≤ 57) := by
  unfold f_eX10_seesDigit
  simp only [mh_lbE]
  rw [r_here h]
  have l := fq_lies s (Int32.toInt64 (rd_hr T N p)) 48 57
  rw [Int32.toInt_toInt64, show (48 : Int64).toInt = 48 from rfl, show (57 : Int64).toInt = 57 from rfl] at l
  refine l.trans (not_congr ?_)
  unfold rd_hr rd_sg
  have k0 := kc_0
  have km : (-1 : Int32).toInt = -1 := rfl
  by_cases g : p < N
  · rw [if_pos g, if_pos g]
  · rw [if_neg g, if_neg g]; omega
theorem r_wr {N : Nat} {T : Nat → Int32} {p k d : Nat} {st : List Int32} {s : mh_H} (h : mh_rP N T p st k d s) {F P : Int32} {f q : Nat} (hF : F.toInt = (f : Int)) (hf : f ≤ 9) (hP : P.toInt = (q : Int)) (hq : q ≤ 300) : mh_bfl f q (f_eX10_wrongs s F P) := by
  have km : (-1000 : Int32).toInt = -1000 := rfl
  unfold f_eX10_wrongs mh_bfl
  simp only [mh_lbE]
  rw [if_neg (by rw [h.2.2.1]; decide), pI_w]
  have e1 : ((-1000 : Int32) * F).toInt = -1000 * (f : Int) := by
    rw [Int32.toInt_mul, km, hF, Int.bmod_eq_of_le (by omega) (by omega)]
  rw [Int32.toInt_sub, e1, hP, Int.bmod_eq_of_le (by omega) (by omega)]
/-- what stands on top -/
def mh_tp1 (st : List Int32) : Int32 := match st with
  | [] => 0
  | x :: _ => x
theorem r_top {N : Nat} {T : Nat → Int32} {p k d : Nat} {st : List Int32} {s : mh_H} (h : mh_rP N T p st k d s) (hl : st.length ≤ 400) : f_eX10_top s = mh_tp1 st := by
  have h6 := h.2.2.2.2.2.1
  unfold f_eX10_top
  simp only [mh_lbE]
  cases st with
  | nil =>
    rw [List.length_nil] at h6
    rw [if_neg (by omega)]
    rfl
  | cons x r =>
    rw [List.length_cons] at h6 hl
    have k1 : (1 : Int32).toInt = ((1 : Nat) : Int) := rfl
    have e1 : (s.1 57 29 - 1).toInt = ((r.length : Nat) : Int) := by
      have := ix_sub h6 (by omega) k1 (by decide) (by omega)
      rw [this]; omega
    rw [if_pos (by omega), ix_n e1]
    exact h.2.2.2.2.2.2.1.1
theorem r_emit {N : Nat} {T : Nat → Int32} {p k d : Nat} {st : List Int32} {s : mh_H} (h : mh_rP N T p st k d s) (hk : k ≤ 400) (a b : Int32) : ∃ s', f_eX10_emit s a b = s' ∧ mh_rP N T p st (k + 1) d s' ∧ mh_rk k s s' ∧ mh_rff s s' ∧ s'.1 74 k = a ∧ s'.1 75 k = b := by
  have k1 : (1 : Int32).toInt = ((1 : Nat) : Int) := rfl
  have h4 := h.2.2.2.1
  refine ⟨_, rfl, ?_⟩
  unfold f_eX10_emit
  simp only [mh_lbE]
  rw [if_neg (rP_good h), ix_n h4]
  refine ⟨rP_27 (rP_o (rP_o h (by decide) (by decide) (by decide)) (by decide) (by decide) (by decide)) (ix_add h4 (by omega) k1 (by decide)), ⟨fun i hi => ⟨?_, ?_⟩, fun r a b => ?_, ?_⟩, ⟨?_, ?_⟩, ?_, ?_⟩
  · rw [pI_o (by decide), pI_o (by decide), pI_j (by omega)]
  · rw [pI_o (by decide), pI_j (by omega), pI_o (by decide)]
  · rw [pI_row (by omega), pI_row (by omega), pI_row (by omega)]
  · rw [pI_j (by decide), pI_o (by decide), pI_o (by decide)]
  · rw [pI_j (by decide), pI_o (by decide), pI_o (by decide)]
  · rw [pI_j (by decide), pI_o (by decide), pI_o (by decide)]
  · rw [pI_o (by decide), pI_o (by decide), pI_w]
  · rw [pI_o (by decide), pI_w]
theorem r_puts {N : Nat} {T : Nat → Int32} {p k d : Nat} {st : List Int32} {s : mh_H} (h : mh_rP N T p st k d s) (hl : st.length ≤ 400) (hp : p < N) (hN : N ≤ 200) (x : Int32) : ∃ s', f_eX10_puts s x = s' ∧ mh_rP N T (p + 1) (x :: st) k d s' ∧ (∀ k, mh_rk k s s') ∧ mh_rff s s' ∧ s'.1 74 = s.1 74 ∧ s'.1 75 = s.1 75 := by
  have k1 : (1 : Int32).toInt = ((1 : Nat) : Int) := rfl
  have h6 := h.2.2.2.2.2.1
  have h1 := h.1
  refine ⟨_, rfl, ?_⟩
  unfold f_eX10_puts
  simp only [mh_lbE]
  rw [ix_n h6]
  have e23 : (mh_pI (mh_pI s 76 st.length x) 57 29 (s.1 57 29 + 1)).1 57 23 = s.1 57 23 := by rw [pI_j (by decide), pI_o (by decide)]
  rw [e23]
  refine ⟨rP_23 (p := p) ⟨?_, ?_, ?_, ?_, ?_, ?_, ⟨?_, ?_⟩, fun i => ?_, h.2.2.2.2.2.2.2.2⟩ (ix_add h1 (by omega) k1 (by decide)) (by omega), fun k => ⟨fun i _ => ⟨?_, ?_⟩, fun r a b => ?_, ?_⟩, ⟨?_, ?_⟩, ?_, ?_⟩
  · rw [pI_j (by decide), pI_o (by decide)]; exact h.1
  · rw [pI_j (by decide), pI_o (by decide)]; exact h.2.1
  · rw [pI_j (by decide), pI_o (by decide)]; exact h.2.2.1
  · rw [pI_j (by decide), pI_o (by decide)]; exact h.2.2.2.1
  · rw [pI_j (by decide), pI_o (by decide)]; exact h.2.2.2.2.1
  · rw [pI_w, List.length_cons]; exact ix_add h6 (by omega) k1 (by decide)
  · rw [pI_o (by decide), pI_w]
  · rw [pI_row (by decide)]
    exact sk_cg h.2.2.2.2.2.2.1 (fun i hi => pI_j (by omega))
  · rw [pI_o (by decide), pI_o (by decide)]; exact h.2.2.2.2.2.2.2.1 i
  · rw [pI_o (by decide), pI_o (by decide), pI_o (by decide)]
  · rw [pI_o (by decide), pI_o (by decide), pI_o (by decide)]
  · rw [pI_row (by omega), pI_row (by omega), pI_row (by omega)]
  · rw [pI_j (by decide), pI_j (by decide), pI_o (by decide)]
  · rw [pI_j (by decide), pI_j (by decide), pI_o (by decide)]
  · rw [pI_j (by decide), pI_j (by decide), pI_o (by decide)]
  · rw [pI_row (by decide), pI_row (by decide), pI_row (by decide)]
  · rw [pI_row (by decide), pI_row (by decide), pI_row (by decide)]
theorem bf_puts {f q : Nat} {s : mh_H} (h : mh_bfl f q s) (x : Int32) : mh_bfl f q (f_eX10_puts s x) := by
  unfold f_eX10_puts mh_bfl
  simp only [mh_lbE]
  rw [pI_j (by decide), pI_j (by decide), pI_o (by decide)]
  exact h
/-- a [ ( or ! is opened -/
theorem r_open {N : Nat} {T : Nat → Int32} {p k d : Nat} {st : List Int32} {s : mh_H} (h : mh_rP N T p st k d s) (hl : st.length ≤ 400) (hp : p < N) (hN : N ≤ 200) (hd : d ≤ 6) : if d = 6 then mh_bfl 5 p (f_eX10_opens s) else ∃ s', f_eX10_opens s = s' ∧ mh_rP N T (p + 1) (rd_sg T N p :: st) k (d + 1) s' ∧ (∀ k, mh_rk k s s') ∧ mh_rff s s' ∧ s'.1 74 = s.1 74 ∧ s'.1 75 = s.1 75 := by
  have k1 : (1 : Int32).toInt = ((1 : Nat) : Int) := rfl
  have k6 : (6 : Int32).toInt = 6 := rfl
  have h5 := h.2.2.2.2.1
  unfold f_eX10_opens
  simp only [mh_lbE]
  by_cases g : d = 6
  · rw [if_pos g, if_pos (by omega)]
    refine bf_puts ?_ _
    have := r_wr h (F := 5) (P := s.1 57 23) (f := 5) (q := p) rfl (by decide) h.1 (by omega)
    unfold mh_bfl at this ⊢
    rw [pI_j (by decide)]
    exact this
  · rw [if_neg g, if_neg (by omega)]
    have h2 := rP_28 (d' := d + 1) (x := s.1 57 28 + 1) h (ix_add h5 (by omega) k1 (by decide))
    rw [r_here h2, hr_lt hp]
    obtain ⟨s', e, a1, a2, a3, a4, a5⟩ := r_puts h2 hl hp hN (rd_sg T N p)
    exact ⟨s', e, a1, fun k => rk_tr (rk_57 (by decide)) (a2 k) (Nat.le_refl _), rf_tr (rf_57 (by decide) (by decide)) a3, a4.trans (pI_row (by decide)), a5.trans (pI_row (by decide))⟩
/-- signs that are folded -/
def mh_fo (b : Int32) (x : Int32) : Prop := (x.toInt = 42 ∨ x.toInt = 47 ∨ x.toInt = 37) ∨ (b.toInt ≠ 0 ∧ (x.toInt = 43 ∨ x.toInt = 45))
theorem fq_tim (s : mh_H) (x : Int32) : ((f_eX10_isTimes s x).toInt = 0) ↔ ¬ (x.toInt = 42 ∨ x.toInt = 47 ∨ x.toInt = 37) := by
  have k1 : (42 : Int32).toInt = 42 := rfl
  have k2 : (47 : Int32).toInt = 47 := rfl
  have k3 : (37 : Int32).toInt = 37 := rfl
  have k0 := kc_0
  have c1 : (1 : Int32).toInt = 1 := rfl
  unfold f_eX10_isTimes
  split
  · omega
  · split
    · omega
    · split <;> omega
theorem fq_plu (s : mh_H) (x : Int32) : ((f_eX10_isPlus s x).toInt = 0) ↔ ¬ (x.toInt = 43 ∨ x.toInt = 45) := by
  have k1 : (43 : Int32).toInt = 43 := rfl
  have k2 : (45 : Int32).toInt = 45 := rfl
  have k0 := kc_0
  have c1 : (1 : Int32).toInt = 1 := rfl
  unfold f_eX10_isPlus
  split
  · omega
  · split <;> omega
theorem fq_sgn (s : mh_H) (x : Int32) : ((f_eX10_isSign s x).toInt = 0) ↔ ¬ (x.toInt = 60 ∨ x.toInt = 62 ∨ x.toInt = 61) := by
  have k1 : (60 : Int32).toInt = 60 := rfl
  have k2 : (62 : Int32).toInt = 62 := rfl
  have k3 : (61 : Int32).toInt = 61 := rfl
  have k0 := kc_0
  have c1 : (1 : Int32).toInt = 1 := rfl
  unfold f_eX10_isSign
  split
  · omega
  · split
    · omega
    · split <;> omega
/-- pieces of code that stand at k .. -/
def mh_pe (kr : Nat → Int32) : Nat → List Int32 → Prop
  | _, [] => True
  | k, x :: P => kr k = x ∧ mh_pe kr (k + 1) P
theorem pe_ap {kr : Nat → Int32} {y : Int32} : ∀ {k : Nat} {P : List Int32}, mh_pe kr k (P ++ [y]) → mh_pe kr k P ∧ kr (k + P.length) = y
  | k, [], h => ⟨trivial, h.1⟩
  | k, x :: P, h => by
    obtain ⟨a, b⟩ := pe_ap (k := k + 1) (P := P) h.2
    refine ⟨⟨h.1, a⟩, ?_⟩
    rw [List.length_cons, show k + (P.length + 1) = k + 1 + P.length by omega]
    exact b
theorem pop_i {N : Nat} {T : Nat → Int32} {p k d : Nat} {y : Int32} {st : List Int32} {s : mh_H} (h : mh_rP N T p (y :: st) k d s) (hl : st.length ≤ 400) : (s.1 57 29 - 1).toInt = (st.length : Int) := by
  have k1 : (1 : Int32).toInt = ((1 : Nat) : Int) := rfl
  have h6 := h.2.2.2.2.2.1
  rw [List.length_cons] at h6
  have := ix_sub h6 (by omega) k1 (by decide) (by omega)
  rw [this]; omega
theorem r_fold {N : Nat} {T : Nat → Int32} {p d : Nat} {b : Int32} {st : List Int32} (hb : ¬ mh_fo b (mh_tp1 st)) : ∀ (P : List Int32) (k : Nat) (s : mh_H) (n : Nat), (∀ x ∈ P, mh_fo b x) → P.length < n → k + P.length + st.length ≤ 400 → mh_rP N T p (P ++ st) k d s → ∃ s', l_eX10_folds_0_1 b n s = s' ∧ mh_rP N T p st (k + P.length) d s' ∧ mh_rk k s s' ∧ mh_rff s s' ∧ mh_pe (s'.1 74) k P
  | [], k, s, n, _, hn, hl, h => by
    obtain ⟨n, rfl⟩ : ∃ m, n = m + 1 := ⟨n - 1, by omega⟩
    rw [List.length_nil] at hl
    refine ⟨s, ?_, h, rk_rf, rf_rf, trivial⟩
    rw [l_eX10_folds_0_1_s]
    unfold ls_eX10_folds_0_1
    simp only [mh_lbE]
    rw [r_top (st := st) h (by omega)]
    unfold mh_fo at hb
    rw [if_pos ((fq_tim s _).2 (fun q => hb (Or.inl q)))]
    by_cases g : b.toInt = 0
    · rw [if_pos g]
    · rw [if_neg g, if_pos ((fq_plu s _).2 (fun q => hb (Or.inr ⟨g, q⟩)))]
  | x :: P, k, s, n, hP, hn, hl, h => by
    rw [List.length_cons] at hn hl
    obtain ⟨n, rfl⟩ : ∃ m, n = m + 1 := ⟨n - 1, by omega⟩
    have hlen : (P ++ st).length = P.length + st.length := List.length_append
    have h' : mh_rP N T p (x :: (P ++ st)) k d s := h
    have ht : f_eX10_top s = x := r_top h' (by rw [List.length_cons]; omega)
    have hx := hP x (List.mem_cons_self ..)
    obtain ⟨s1, e1, a1, a2, a3, a4, a5⟩ := r_emit h' (by omega) x 0
    have a6 := rP_29 a1 (x := s.1 57 29 - 1) (pop_i h' (by omega))
    obtain ⟨s2, e2, b1, b2, b3, b4⟩ := r_fold hb P (k + 1) (mh_pI s1 57 29 (s.1 57 29 - 1)) n (fun y hy => hP y (List.mem_cons_of_mem _ hy)) (by omega) (by omega) a6
    refine ⟨s2, ?_, by rw [List.length_cons, show k + (P.length + 1) = k + 1 + P.length by omega]; exact b1, rk_tr (rk_tr a2 (rk_57 (by decide)) (Nat.le_refl _)) b2 (by omega), rf_tr (rf_tr a3 (rf_57 (by decide) (by decide))) b3, ⟨?_, b4⟩⟩
    · rw [l_eX10_folds_0_1_s]
      unfold ls_eX10_folds_0_1
      simp only [mh_lbE]
      rw [ht, e1]
      by_cases g : x.toInt = 42 ∨ x.toInt = 47 ∨ x.toInt = 37
      · rw [if_neg (fun q => (fq_tim s _).1 q g)]
        exact e2
      · rw [if_pos ((fq_tim s _).2 g)]
        have g2 : b.toInt ≠ 0 ∧ (x.toInt = 43 ∨ x.toInt = 45) := by
          rcases hx with q | q
          · exact absurd q g
          · exact q
        rw [if_neg g2.1, if_neg (fun q => (fq_plu s _).1 q g2.2)]
        exact e2
    · have := (b2.1 k (by omega)).1
      rw [this, pI_o (by decide)]; exact a4
/-- what code at k0 .. k and the signs P, still on the stack, say -/
def mh_pnd (kr wr : Nat → Int32) (D : mh_Dn) (k0 k : Nat) (P : List Int32) : Prop := ∀ kr' wr' : Nat → Int32, (∀ i, i < k → kr' i = kr i ∧ wr' i = wr i) → mh_pe kr' k P → sg_P kr' wr' D k0 (k + P.length)
theorem pd_0 {kr wr : Nat → Int32} {D : mh_Dn} {k0 k : Nat} (h : sg_P kr wr D k0 k) : mh_pnd kr wr D k0 k [] := fun kr' wr' h1 _ => sP_cg h (fun i _ b => h1 i b)
theorem pd_cg {kr wr kr' wr' : Nat → Int32} {D : mh_Dn} {k0 k : Nat} {P : List Int32} (h : mh_pnd kr wr D k0 k P) (he : ∀ i, i < k → kr' i = kr i ∧ wr' i = wr i) : mh_pnd kr' wr' D k0 k P := fun kr2 wr2 h1 h2 => h kr2 wr2 (fun i hi => ⟨(h1 i hi).1.trans (he i hi).1, (h1 i hi).2.trans (he i hi).2⟩) h2
theorem pd_op {kr wr : Nat → Int32} {A B : mh_Dn} {k0 k k2 : Nat} {P : List Int32} {op : Int32} (hA : sg_P kr wr A k0 k) (hk : k ≤ k2) (hB : mh_pnd kr wr B k k2 P) (h2 : mh_op2 op) : mh_pnd kr wr (rd_bo op A B) k0 k2 (P ++ [op]) := by
  intro kr' wr' h1 hp
  obtain ⟨p1, p2⟩ := pe_ap hp
  have hlen : (P ++ [op]).length = P.length + 1 := List.length_append
  rw [hlen, show k2 + (P.length + 1) = k2 + P.length + 1 by omega]
  exact sP_bin (sP_cg hA (fun i _ b => h1 i (by omega))) (hB kr' wr' h1 p1) p2 h2
theorem r_folds {N : Nat} {T : Nat → Int32} {p k0 k d : Nat} {b : Int32} {st P : List Int32} {s : mh_H} {D : mh_Dn} (hb : ¬ mh_fo b (mh_tp1 st)) (hP : ∀ x ∈ P, mh_fo b x) (hl : k + P.length + st.length ≤ 200) (h : mh_rP N T p (P ++ st) k d s) (hD : mh_pnd (s.1 74) (s.1 75) D k0 k P) : ∃ s', f_eX10_folds s b = s' ∧ mh_rP N T p st (k + P.length) d s' ∧ mh_rk k s s' ∧ mh_rff s s' ∧ sg_P (s'.1 74) (s'.1 75) D k0 (k + P.length) := by
  unfold f_eX10_folds
  simp only [mh_lbE]
  obtain ⟨s', e, a1, a2, a3, a4⟩ := r_fold hb P k s 202 hP (by omega) (by omega) h
  exact ⟨s', e, a1, a2, a3, hD _ _ (fun i hi => a2.1 i hi) a4⟩

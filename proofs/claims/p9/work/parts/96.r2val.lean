/-- the reference's values: behind an operand, and at a factor -/
def vl_C (n : Nat) (s : mh_H) : mh_H := if (f_eX10_stays s).1.toInt = 0 then l_eX10_value_7_1 n (f_eX10_stays s).2 0 else l_eX10_value_7_1 n (f_eX10_stays s).2 1
def vl_F (j n : Nat) (s : mh_H) : mh_H := if (f_eX10_isGood (mh_pI (l_eX10_factor_0_1 j s) 57 31 0)).toInt = 0 then l_eX10_value_7_1 n (mh_pI (l_eX10_factor_0_1 j s) 57 31 0) 0 else vl_C n (mh_pI (l_eX10_factor_0_1 j s) 57 31 0)
theorem vl_0 {N : Nat} {T : Nat → Int32} {p k d : Nat} {st : List Int32} {s : mh_H} (h : mh_rP N T p st k d s) (h31 : s.1 57 31 = 0) (n : Nat) : l_eX10_value_7_1 (n + 1) s 1 = vl_F 202 n s := by
  rw [l_eX10_value_7_1_s]
  unfold ls_eX10_value_7_1 vl_F vl_C f_eX10_factor
  generalize (202 : Nat) = j
  simp only [mh_lbE, mh_lb2E]
  rw [if_neg (by decide), if_neg (rP_good h), if_pos (by rw [h31]; rfl)]
theorem vl_1 {N : Nat} {T : Nat → Int32} {p k d : Nat} {st : List Int32} {s : mh_H} (h : mh_rP N T p st k d s) (h31 : ¬ (s.1 57 31).toInt = 0) (n : Nat) : l_eX10_value_7_1 (n + 1) s 1 = vl_C n (mh_pI s 57 31 0) := by
  rw [l_eX10_value_7_1_s]
  unfold ls_eX10_value_7_1 vl_C
  simp only [mh_lbE, mh_lb2E]
  rw [if_neg (by decide), if_neg (rP_good h), if_neg h31]
theorem vl_e {N : Nat} {T : Nat → Int32} {p k d : Nat} {st : List Int32} {s : mh_H} (h : mh_rP N T p st k d s) (hl : st.length ≤ 400) (n : Nat) : l_eX10_value_7_1 (n + 1) s 0 = if (mh_tp1 st).toInt = 91 then f_eX10_wrongs s 1 (s.1 57 23) else s := by
  have k91 : (91 : Int32).toInt = 91 := rfl
  rw [l_eX10_value_7_1_s]
  unfold ls_eX10_value_7_1
  simp only [mh_lbE, mh_lb2E]
  rw [if_pos (by decide), if_neg (rP_good h), r_top h hl, k91]
theorem vl_b {s : mh_H} (h : (f_eX10_isGood s).toInt = 0) : ∀ (n : Nat) (x : Int32), l_eX10_value_7_1 n s x = s
  | 0, x => rfl
  | n + 1, x => by
    rw [l_eX10_value_7_1_s]
    unfold ls_eX10_value_7_1
    simp only [mh_lbE, mh_lb2E]
    by_cases g : x.toInt = 0
    · rw [if_pos g, if_pos h]
    · rw [if_neg g, if_pos h]
theorem fc_b {s : mh_H} (h : (f_eX10_isGood s).toInt = 0) : ∀ (n : Nat), l_eX10_factor_0_1 n s = s
  | 0 => rfl
  | n + 1 => by
    rw [l_eX10_factor_0_1_s]
    unfold ls_eX10_factor_0_1
    simp only [mh_lbE, mh_lb2E]
    rw [if_pos h]
theorem bf_31 {f q j : Nat} {s : mh_H} {x : Int32} (h : mh_bfl f q s) (hj : j ≠ 25) : mh_bfl f q (mh_pI s 57 j x) := by
  unfold mh_bfl
  rw [pI_j (fun e => hj e.symm)]
  exact h
theorem vf_bad {f q j m : Nat} {s : mh_H} (h : mh_bfl f q (l_eX10_factor_0_1 j s)) (hf : 0 < f) : mh_bfl f q (vl_F j m s) := by
  unfold vl_F
  have h2 : mh_bfl f q (mh_pI (l_eX10_factor_0_1 j s) 57 31 0) := bf_31 h (by decide)
  generalize mh_pI (l_eX10_factor_0_1 j s) 57 31 0 = t at h2 ⊢
  rw [if_pos (bf_bad h2 hf), vl_b (bf_bad h2 hf)]
  exact h2
theorem vf_ok {N : Nat} {T : Nat → Int32} {p k d j m : Nat} {st : List Int32} {s : mh_H} (h : mh_rP N T p st k d (l_eX10_factor_0_1 j s)) : vl_F j m s = vl_C m (mh_pI (l_eX10_factor_0_1 j s) 57 31 0) := by
  unfold vl_F
  have h2 := rP_j (j := 31) (x := 0) h (by decide)
  rw [if_neg (rP_good h2)]
/-- numbers -/
theorem r_num {N : Nat} {T : Nat → Int32} (hN : N ≤ 200) (ht : mh_tx (rd_sg T N) N) {k d p0 : Nat} {st : List Int32} {X : Int32} (hX : X.toInt = (p0 : Int)) : ∀ (n cnt : Nat) (V : Int32) (p : Nat) (s : mh_H) (m : Nat), p = p0 + cnt → cnt ≤ 5 → 5 < n + cnt → N < m + p → mh_rP N T p st k d s → (match rd_num (rd_sg T N) n cnt V p with
    | .inl f => mh_bfl f.1 f.2 (l_eX10_reads_7_1 X m s V).2 ∧ 0 < f.1
    | .inr x => ∃ (v : Int32) (s' : mh_H), l_eX10_reads_7_1 X m s V = (v, s') ∧ x.1 = (fun _ => some v) ∧ mh_rP N T x.2 st k d s' ∧ mh_rk k s s' ∧ mh_rff s s' ∧ s'.1 74 = s.1 74 ∧ s'.1 75 = s.1 75) := by
  intro n
  induction n with
  | zero => intro cnt V p s m _ h1 h2; exfalso; omega
  | succ n ih =>
    intro cnt V p s m hp h1 h2 hm h
    have hpN := h.2.2.2.2.2.2.2.2
    have hpp := h.1
    obtain ⟨m, rfl⟩ : ∃ k, m = k + 1 := ⟨m - 1, by omega⟩
    rw [rd_num_s, l_eX10_reads_7_1_s]
    unfold ls_eX10_reads_7_1
    simp only [mh_lbE, mh_lb2E]
    rw [if_neg (rP_good h)]
    have k5 : (5 : Int32).toInt = ((5 : Nat) : Int) := rfl
    have k1 : (1 : Int32).toInt = ((1 : Nat) : Int) := rfl
    have e5 : (X + 5).toInt = ((p0 + 5 : Nat) : Int) := ix_add hX (by omega) k5 (by decide)
    by_cases g : 48 ≤ (rd_sg T N p).toInt ∧ (rd_sg T N p).toInt ≤ 57
    · have hlt := tx_lt ht (show 0 ≤ (rd_sg T N p).toInt by omega)
      rw [if_neg (fun q => (fq_seed h).1 q g), if_pos g]
      by_cases g5 : cnt < 5
      · rw [if_pos g5, if_neg (by omega), r_here h, hr_lt hlt]
        have a1 := rP_23 (p' := p + 1) (x := s.1 57 23 + 1) h (ix_add hpp (by omega) k1 (by decide)) (by omega)
        have := ih (cnt + 1) ((10 : Int32) * V + rd_sg T N p - 48) (p + 1) _ m (by omega) (by omega) (by omega) (by omega) a1
        cases e : rd_num (rd_sg T N) n (cnt + 1) ((10 : Int32) * V + rd_sg T N p - 48) (p + 1) with
        | inl f => rw [e] at this; exact this
        | inr x =>
          rw [e] at this
          obtain ⟨v, s', b1, b2, b3, b4, b5, b6, b7⟩ := this
          exact ⟨v, s', b1, b2, b3, rk_tr (rk_57 (by decide)) b4 (Nat.le_refl _), rf_tr (rf_57 (by decide) (by decide)) b5, b6.trans (pI_row (by decide)), b7.trans (pI_row (by decide))⟩
      · rw [if_neg g5, if_pos (by omega)]
        have b := r_wr h (F := 2) (P := s.1 57 23) (f := 2) (q := p) rfl (by decide) hpp (by omega)
        have b2 : mh_bfl 2 p (mh_pI (f_eX10_wrongs s 2 (s.1 57 23)) 57 23 (s.1 57 23 + 1)) := bf_31 b (by decide)
        generalize mh_pI (f_eX10_wrongs s 2 (s.1 57 23)) 57 23 (s.1 57 23 + 1) = t at b2 ⊢
        generalize (10 : Int32) * V + f_eX10_here (f_eX10_wrongs s 2 (s.1 57 23)) - 48 = W
        refine ⟨?_, show 0 < 2 by decide⟩
        show mh_bfl 2 p (l_eX10_reads_7_1 X m t W).2
        cases m with
        | zero => exact b2
        | succ m =>
          rw [l_eX10_reads_7_1_s]
          unfold ls_eX10_reads_7_1
          simp only [mh_lbE, mh_lb2E]
          rw [if_pos (bf_bad b2 (by decide))]
          exact b2
    · rw [if_pos ((fq_seed h).2 g), if_neg g]
      exact ⟨V, s, rfl, rfl, h, rk_rf, rf_rf, rfl, rfl⟩
/-- behind an operand -/
theorem st_tim {N : Nat} {T : Nat → Int32} (hN : N ≤ 200) (ht : mh_tx (rd_sg T N) N) {q k0 k d : Nat} {st P : List Int32} {s : mh_H} {D : mh_Dn} (hg : (rd_sg T N q).toInt = 42 ∨ (rd_sg T N q).toInt = 47 ∨ (rd_sg T N q).toInt = 37) (hb : ¬ mh_fo 0 (mh_tp1 st)) (hP : ∀ x ∈ P, mh_fo 0 x) (hl : k + P.length + st.length ≤ q) (h : mh_rP N T q (P ++ st) k d s) (hD : mh_pnd (s.1 74) (s.1 75) D k0 k P) (m : Nat) : ∃ s', vl_C m s = l_eX10_value_7_1 m s' 1 ∧ mh_rP N T (q + 1) (rd_sg T N q :: st) (k + P.length) d s' ∧ mh_rk k s s' ∧ mh_rff s s' ∧ sg_P (s'.1 74) (s'.1 75) D k0 (k + P.length) := by
  have hlt := tx_lt ht (show 0 ≤ (rd_sg T N q).toInt by omega)
  have k0' : (0 : Int32).toInt = 0 := rfl
  unfold vl_C f_eX10_stays
  simp only [mh_lbE, mh_lb2E]
  rw [r_here h, hr_lt hlt, if_neg (fun z => (fq_tim s _).1 z hg)]
  have eb : (f_eX10_isPlus s (rd_sg T N q)).toInt = 0 := (fq_plu s _).2 (by omega)
  generalize f_eX10_isPlus s (rd_sg T N q) = b at eb ⊢
  have hb' : ¬ mh_fo b (mh_tp1 st) := fun z => hb (by unfold mh_fo at z ⊢; omega)
  have hP' : ∀ x ∈ P, mh_fo b x := fun x hx => by have := hP x hx; unfold mh_fo at this ⊢; omega
  obtain ⟨s1, e1, a1, a2, a3, a4⟩ := r_folds hb' hP' (by omega) h hD
  rw [e1]
  obtain ⟨s2, e2, b1, b2, b3, b4, b5⟩ := r_puts a1 (by omega) hlt hN (rd_sg T N q)
  rw [e2]
  refine ⟨s2, if_neg (show ¬ (1 : Int32).toInt = 0 by decide), b1, rk_tr a2 (b2 k) (Nat.le_refl _), rf_tr a3 b3, ?_⟩
  rw [b4, b5]; exact a4
theorem st_plu {N : Nat} {T : Nat → Int32} (hN : N ≤ 200) (ht : mh_tx (rd_sg T N) N) {q k0 k d : Nat} {st P : List Int32} {s : mh_H} {D : mh_Dn} (hg : (rd_sg T N q).toInt = 43 ∨ (rd_sg T N q).toInt = 45) (hb : ¬ mh_fo 1 (mh_tp1 st)) (hP : ∀ x ∈ P, mh_fo 1 x) (hl : k + P.length + st.length ≤ q) (h : mh_rP N T q (P ++ st) k d s) (hD : mh_pnd (s.1 74) (s.1 75) D k0 k P) (m : Nat) : ∃ s', vl_C m s = l_eX10_value_7_1 m s' 1 ∧ mh_rP N T (q + 1) (rd_sg T N q :: st) (k + P.length) d s' ∧ mh_rk k s s' ∧ mh_rff s s' ∧ sg_P (s'.1 74) (s'.1 75) D k0 (k + P.length) := by
  have hlt := tx_lt ht (show 0 ≤ (rd_sg T N q).toInt by omega)
  have k1' : (1 : Int32).toInt = 1 := rfl
  unfold vl_C f_eX10_stays
  simp only [mh_lbE, mh_lb2E]
  rw [r_here h, hr_lt hlt, if_pos ((fq_tim s _).2 (by omega)), if_neg (fun z => (fq_plu s _).1 z hg)]
  have eb : ¬ (f_eX10_isPlus s (rd_sg T N q)).toInt = 0 := fun z => (fq_plu s _).1 z hg
  generalize f_eX10_isPlus s (rd_sg T N q) = b at eb ⊢
  have hb' : ¬ mh_fo b (mh_tp1 st) := fun z => hb (by unfold mh_fo at z ⊢; omega)
  have hP' : ∀ x ∈ P, mh_fo b x := fun x hx => by have := hP x hx; unfold mh_fo at this ⊢; omega
  obtain ⟨s1, e1, a1, a2, a3, a4⟩ := r_folds hb' hP' (by omega) h hD
  rw [e1]
  obtain ⟨s2, e2, b1, b2, b3, b4, b5⟩ := r_puts a1 (by omega) hlt hN (rd_sg T N q)
  rw [e2]
  refine ⟨s2, if_neg (show ¬ (1 : Int32).toInt = 0 by decide), b1, rk_tr a2 (b2 k) (Nat.le_refl _), rf_tr a3 b3, ?_⟩
  rw [b4, b5]; exact a4
theorem st_els {N : Nat} {T : Nat → Int32} (hN : N ≤ 200) {q k0 k d : Nat} {st P : List Int32} {s : mh_H} {D : mh_Dn} (hg : ¬ mh_fo 1 (rd_sg T N q)) (hb : ¬ mh_fo 1 (mh_tp1 st)) (hP : ∀ x ∈ P, mh_fo 1 x) (hl : k + P.length + st.length ≤ q) (h : mh_rP N T q (P ++ st) k d s) (hD : mh_pnd (s.1 74) (s.1 75) D k0 k P) : ∃ s', mh_rP N T q st (k + P.length) d s' ∧ mh_rk k s s' ∧ mh_rff s s' ∧ sg_P (s'.1 74) (s'.1 75) D k0 (k + P.length) ∧ f_eX10_stays s = if (rd_sg T N q).toInt = 93 then (if (mh_tp1 st).toInt = 91 then (1, mh_pI (mh_pI (mh_pI (mh_pI s' 57 29 (s'.1 57 29 - 1)) 57 28 (s'.1 57 28 - 1)) 57 23 (s.1 57 23 + 1)) 57 31 1) else (0, f_eX10_wrongs s' 1 (s.1 57 23))) else (0, s') := by
  have k1' : (1 : Int32).toInt = 1 := rfl
  have k91 : (91 : Int32).toInt = 91 := rfl
  have k93 : (93 : Int32).toInt = 93 := rfl
  have hqN := h.2.2.2.2.2.2.2.2
  have c1 := hr_eq (T := T) (N := N) (p := q) (c := 42) (by decide)
  have c2 := hr_eq (T := T) (N := N) (p := q) (c := 47) (by decide)
  have c3 := hr_eq (T := T) (N := N) (p := q) (c := 37) (by decide)
  have c4 := hr_eq (T := T) (N := N) (p := q) (c := 43) (by decide)
  have c5 := hr_eq (T := T) (N := N) (p := q) (c := 45) (by decide)
  have c6 := hr_eq (T := T) (N := N) (p := q) (c := 93) (by decide)
  obtain ⟨s1, e1, a1, a2, a3, a4⟩ := r_folds hb hP (by omega) h hD
  refine ⟨s1, a1, a2, a3, a4, ?_⟩
  unfold mh_fo at hg
  unfold f_eX10_stays
  simp only [mh_lbE, mh_lb2E]
  rw [r_here h, if_pos ((fq_tim s _).2 (by omega)), if_pos ((fq_plu s _).2 (by omega)), e1, r_top a1 (by omega), k91, k93]
  have e28 : ∀ x : Int32, (mh_pI s1 57 29 x).1 57 28 = s1.1 57 28 := fun x => pI_j (by decide)
  rw [e28]
  by_cases g : (rd_sg T N q).toInt = 93
  · rw [if_pos g, if_pos (c6.2 g)]
  · rw [if_neg g, if_neg (fun z => g (c6.1 z))]
/-- what reading a piece of a value comes to -/
def vl_R (N : Nat) (T : Nat → Int32) (d : Nat) (st : List Int32) (k : Nat) (s : mh_H) (C : List Int32 → Nat → Prop) (r : mh_Qn) (z : mh_H) : Prop := match r with
  | .inl f => mh_bfl f.1 f.2 z ∧ 0 < f.1
  | .inr x => ∃ (P : List Int32) (m' : Nat) (s' : mh_H) (k' : Nat), z = vl_C m' s' ∧ mh_rP N T x.2 (P ++ st) k' d s' ∧ N < m' + x.2 ∧ mh_rk k s s' ∧ s'.1 57 30 = s.1 57 30 ∧ s'.1 57 31 = 0 ∧ mh_pnd (s'.1 74) (s'.1 75) x.1 k k' P ∧ k ≤ k' ∧ k' + P.length + st.length ≤ x.2 ∧ C P x.2
def vl_Cf (P : List Int32) (_ : Nat) : Prop := P = []
def vl_Ct (T : Nat → Int32) (N : Nat) (P : List Int32) (q : Nat) : Prop := (∀ x ∈ P, mh_fo 0 x) ∧ ¬ mh_fo 0 (rd_sg T N q)
def vl_Cs (T : Nat → Int32) (N : Nat) (P : List Int32) (q : Nat) : Prop := (∀ x ∈ P, mh_fo 1 x) ∧ ¬ mh_fo 1 (rd_sg T N q)
theorem v_fac {N : Nat} {T : Nat → Int32} (hN : N ≤ 200) (ht : mh_tx (rd_sg T N) N) {n d : Nat} (hd : n + d = 6) (ih : n ≠ 0 → ∀ (p : Nat) (st : List Int32) (k : Nat) (s : mh_H) (j m : Nat), ¬ mh_fo 1 (mh_tp1 st) → mh_rP N T p st k (d + 1) s → s.1 57 31 = 0 → N < j + p → N ≤ m + p → k + st.length ≤ p → vl_R N T (d + 1) st k s (vl_Cs T N) (rd_S (rd_sg T N) n p) (vl_F j m s)) (p : Nat) (st : List Int32) (k : Nat) (s : mh_H) (j m : Nat) (h : mh_rP N T p st k d s) (h31 : s.1 57 31 = 0) (hj : N < j + p) (hm : N ≤ m + p) (hl : k + st.length ≤ p) : vl_R N T d st k s vl_Cf (rd_fac (rd_sg T N) n (rd_S (rd_sg T N) n) p) (vl_F j m s) := by
  have hpN := h.2.2.2.2.2.2.2.2
  have hpp := h.1
  have k1 : (1 : Int32).toInt = ((1 : Nat) : Int) := rfl
  have k91 : (91 : Int32).toInt = 91 := rfl
  have c91 := hr_eq (T := T) (N := N) (p := p) (c := 91) (by decide)
  obtain ⟨j, rfl⟩ : ∃ i, j = i + 1 := ⟨j - 1, by omega⟩
  have st1 : l_eX10_factor_0_1 (j + 1) s = if (rd_sg T N p).toInt = 91 then l_eX10_factor_0_1 j (f_eX10_opens s) else if 48 ≤ (rd_sg T N p).toInt ∧ (rd_sg T N p).toInt ≤ 57 then f_eX10_emit (f_eX10_reads s).2 0 (f_eX10_reads s).1 else if (f_eX10_isValue s (rd_hr T N p)).toInt = 0 then f_eX10_wrongs s 1 (s.1 57 23) else mh_pI (f_eX10_emit s 1 (rd_hr T N p)) 57 23 (s.1 57 23 + 1) := by
    rw [l_eX10_factor_0_1_s]
    unfold ls_eX10_factor_0_1
    simp only [mh_lbE, mh_lb2E]
    rw [if_neg (rP_good h), r_here h]
    by_cases g : (rd_sg T N p).toInt = 91
    · rw [if_pos g, if_pos (by omega)]
    · rw [if_neg g, if_neg (by omega)]
      by_cases g2 : 48 ≤ (rd_sg T N p).toInt ∧ (rd_sg T N p).toInt ≤ 57
      · rw [if_pos g2, if_neg (fun z => (fq_seed h).1 z g2)]
      · rw [if_neg g2, if_pos ((fq_seed h).2 g2)]
  unfold rd_fac
  by_cases g : (rd_sg T N p).toInt = 91
  · rw [if_pos g]
    rw [if_pos g] at st1
    have hlt := tx_lt ht (show 0 ≤ (rd_sg T N p).toInt by omega)
    have op := r_open h (by omega) hlt hN (by omega)
    by_cases g2 : n = 0
    · rw [if_pos g2]
      rw [if_pos (by omega)] at op
      refine ⟨vf_bad ?_ (show 0 < 5 by decide), show 0 < 5 by decide⟩
      rw [st1, fc_b (bf_bad op (by decide))]
      exact op
    · rw [if_neg g2]
      rw [if_neg (by omega)] at op
      obtain ⟨s1, e1, a1, a2, a3, a4, a5⟩ := op
      rw [e1] at st1
      have evl : vl_F (j + 1) m s = vl_F j m s1 := by unfold vl_F; rw [st1]
      rw [evl]
      have nf : ¬ mh_fo 1 (mh_tp1 (rd_sg T N p :: st)) := by
        show ¬ mh_fo 1 (rd_sg T N p)
        unfold mh_fo; omega
      have r1 := ih g2 (p + 1) (rd_sg T N p :: st) k s1 j m nf a1 (a3.2.trans h31) (by omega) (by omega) (by rw [List.length_cons]; omega)
      cases e : rd_S (rd_sg T N) n (p + 1) with
      | inl f => rw [e] at r1; exact r1
      | inr x =>
        rw [e] at r1
        obtain ⟨P, m', s', k', b1, b2, b3, b4, b5, b6, b7, b8, b9, b10, b11⟩ := r1
        rw [List.length_cons] at b9
        have hxN := b2.2.2.2.2.2.2.2.2
        obtain ⟨s2, d1, d2, d3, d4, d5⟩ := st_els hN b11 nf b10 (by rw [List.length_cons]; omega) b2 b7
        show vl_R N T d st k s vl_Cf (if (rd_sg T N x.2).toInt = 93 then .inr (x.1, x.2 + 1) else .inl (1, x.2)) _
        have ktop : (mh_tp1 (rd_sg T N p :: st)).toInt = 91 := g
        obtain ⟨m', rfl⟩ : ∃ i, m' = i + 1 := ⟨m' - 1, by omega⟩
        by_cases g3 : (rd_sg T N x.2).toInt = 93
        · rw [if_pos g3]
          rw [if_pos g3, if_pos ktop] at d5
          have hlt2 := tx_lt ht (show 0 ≤ (rd_sg T N x.2).toInt by omega)
          have hd2 := d1.2.2.2.2.1
          have e28 : (s2.1 57 28 - 1).toInt = ((d : Nat) : Int) := by
            have := ix_sub hd2 (by omega) k1 (by decide) (by omega)
            rw [this]; omega
          have f1 := rP_29 (x := s2.1 57 29 - 1) d1 (pop_i d1 (by omega))
          have f2 := rP_28 (d' := d) (x := s2.1 57 28 - 1) f1 e28
          have f3 := rP_23 (p' := x.2 + 1) (x := s'.1 57 23 + 1) f2 (ix_add b2.1 (by omega) k1 (by decide)) (by omega)
          have f4 := rP_j (j := 31) (x := 1) f3 (by decide)
          have f5 := rP_j (j := 31) (x := 0) f4 (by decide)
          have ez : vl_C (m' + 1) s' = vl_C m' (mh_pI (mh_pI (mh_pI (mh_pI (mh_pI s2 57 29 (s2.1 57 29 - 1)) 57 28 (s2.1 57 28 - 1)) 57 23 (s'.1 57 23 + 1)) 57 31 1) 57 31 0) := by
            rw [show vl_C (m' + 1) s' = if (f_eX10_stays s').1.toInt = 0 then l_eX10_value_7_1 (m' + 1) (f_eX10_stays s').2 0 else l_eX10_value_7_1 (m' + 1) (f_eX10_stays s').2 1 from rfl, d5, if_neg (show ¬ (1 : Int32).toInt = 0 by decide)]
            exact vl_1 f4 (by rw [pI_w]; decide) m'
          refine ⟨[], m', _, k' + P.length, b1.trans ez, f5, by show N < m' + (x.2 + 1); omega, ?_, ?_, pI_w, pd_0 ?_, by omega, by show k' + P.length + 0 + st.length ≤ x.2 + 1; omega, rfl⟩
          · exact rk_tr (rk_tr (rk_tr (rk_tr (rk_tr (rk_tr (rk_tr (a2 k) b4 (Nat.le_refl _)) d2 b8) (rk_57 (by decide)) (Nat.le_refl k)) (rk_57 (by decide)) (Nat.le_refl k)) (rk_57 (by decide)) (Nat.le_refl k)) (rk_57 (by decide)) (Nat.le_refl k)) (rk_57 (by decide)) (Nat.le_refl k)
          · rw [pI_j (by decide), pI_j (by decide), pI_j (by decide), pI_j (by decide), pI_j (by decide), d3.1, b5, a3.1]
          · rw [pI_row (by decide), pI_row (by decide), pI_row (by decide), pI_row (by decide), pI_row (by decide), pI_row (by decide), pI_row (by decide), pI_row (by decide), pI_row (by decide), pI_row (by decide)]
            exact d4
        · rw [if_neg g3]
          rw [if_neg g3] at d5
          refine ⟨?_, show 0 < 1 by decide⟩
          rw [b1, show vl_C (m' + 1) s' = if (f_eX10_stays s').1.toInt = 0 then l_eX10_value_7_1 (m' + 1) (f_eX10_stays s').2 0 else l_eX10_value_7_1 (m' + 1) (f_eX10_stays s').2 1 from rfl, d5, if_pos (show (0 : Int32).toInt = 0 from kc_0)]
          show mh_bfl 1 x.2 (l_eX10_value_7_1 (m' + 1) s2 0)
          rw [vl_e d1 (by rw [List.length_cons]; omega), if_pos ktop]
          exact r_wr (f := 1) (q := x.2) d1 rfl (by decide) d1.1 (by omega)
  · rw [if_neg g]
    rw [if_neg g] at st1
    by_cases g2 : 48 ≤ (rd_sg T N p).toInt ∧ (rd_sg T N p).toInt ≤ 57
    · rw [if_pos g2]
      rw [if_pos g2] at st1
      have r1 := r_num hN ht (X := s.1 57 23) (p0 := p) hpp 6 0 0 p s 202 (by omega) (by decide) (by decide) (by omega) h
      have er : f_eX10_reads s = l_eX10_reads_7_1 (s.1 57 23) 202 s 0 := by
        unfold f_eX10_reads
        simp only [mh_lbE]
      rw [er] at st1
      generalize l_eX10_reads_7_1 (s.1 57 23) 202 s 0 = z at r1 st1
      have mo := num_mo ht 6 0 0 p
      cases e : rd_num (rd_sg T N) 6 0 0 p with
      | inl f =>
        rw [e] at r1
        refine ⟨vf_bad ?_ r1.2, r1.2⟩
        rw [st1]
        unfold f_eX10_emit
        simp only [mh_lbE]
        rw [if_pos (bf_bad r1.1 r1.2)]
        exact r1.1
      | inr x =>
        rw [e] at r1
        obtain ⟨v, s', b1, b2, b3, b4, b5, b6, b7⟩ := r1
        have hx := (mo x.1 x.2 e).2 g2
        rw [b1] at st1
        obtain ⟨s2, e2, c1, c2, c3, c4, c5⟩ := r_emit b3 (by omega) 0 v
        have st2 : l_eX10_factor_0_1 (j + 1) s = s2 := st1.trans e2
        have ok := vf_ok (j := j + 1) (m := m) (s := s) (by rw [st2]; exact c1)
        rw [st2] at ok
        refine ⟨[], m, _, k + 1, ok, rP_j c1 (by decide), by omega, rk_tr (rk_tr b4 c2 (Nat.le_refl _)) (rk_57 (by decide)) (Nat.le_refl _), ?_, pI_w, pd_0 ?_, by omega, by show k + 1 + 0 + st.length ≤ x.2; omega, rfl⟩
        · rw [pI_j (by decide), c3.1, b5.1]
        · rw [b2]
          exact sP_num (by rw [pI_o (by decide)]; exact c4) (by rw [pI_o (by decide)]; exact c5)
    · rw [if_neg g2]
      rw [if_neg g2] at st1
      by_cases g3 : p < N
      · have hb := ht.2 p g3
        rw [hr_lt g3] at st1
        have iv := ix_val hb.1 hb.2
        have es : f_eX10_isValue s (rd_sg T N p) = f_eX10_isValue lx_s0 (rd_sg T N p) := rfl
        rw [es] at st1
        by_cases g4 : (mh_ixf 0 (rd_sg T N p)).toInt < 0
        · rw [if_pos g4]
          rw [if_pos (iv.1.1 g4)] at st1
          refine ⟨vf_bad ?_ (show 0 < 1 by decide), show 0 < 1 by decide⟩
          rw [st1]
          exact r_wr (f := 1) (q := p) h rfl (by decide) hpp (by omega)
        · rw [if_neg g4]
          rw [if_neg (fun z => g4 (iv.1.2 z))] at st1
          obtain ⟨s2, e2, c1, c2, c3, c4, c5⟩ := r_emit h (by omega) 1 (rd_sg T N p)
          rw [e2] at st1
          have c6 := rP_23 (p' := p + 1) (x := s.1 57 23 + 1) c1 (ix_add hpp (by omega) k1 (by decide)) (by omega)
          have ok := vf_ok (j := j + 1) (m := m) (s := s) (by rw [st1]; exact c6)
          rw [st1] at ok
          refine ⟨[], m, _, k + 1, ok, rP_j c6 (by decide), by show N < m + (p + 1); omega, rk_tr (rk_tr c2 (rk_57 (by decide)) (Nat.le_refl _)) (rk_57 (by decide)) (Nat.le_refl _), ?_, pI_w, pd_0 ?_, by omega, by show k + 1 + 0 + st.length ≤ p + 1; omega, rfl⟩
          · rw [pI_j (by decide), pI_j (by decide), c3.1]
          · refine sP_var (by rw [pI_o (by decide), pI_o (by decide)]; exact c4) (by rw [pI_o (by decide), pI_o (by decide), c5]; exact (iv.2 g4).2.symm) ?_
            have := (iv.2 g4).1
            show (mh_ixf 0 (rd_sg T N p)).toInt.toNat < 13
            omega
      · rw [if_pos (by rw [ht.1 p (by omega)]; decide)]
        rw [if_pos (by unfold rd_hr; rw [if_neg g3]; rfl)] at st1
        refine ⟨vf_bad ?_ (show 0 < 1 by decide), show 0 < 1 by decide⟩
        rw [st1]
        exact r_wr (f := 1) (q := p) h rfl (by decide) hpp (by omega)

/-- the reference's conditions: behind a piece, and at a piece -/
def cd_B (n : Nat) (s : mh_H) : mh_H := l_eX10_condition_37_1 n (f_eX10_goesBehind s).2 (f_eX10_goesBehind s).1
def cd_P (j n : Nat) (s : mh_H) : mh_H := if (f_eX10_isGood (l_eX10_pieceOfC_0_1 j s)).toInt = 0 then l_eX10_condition_37_1 n (l_eX10_pieceOfC_0_1 j s) 1 else cd_B n (l_eX10_pieceOfC_0_1 j s)
theorem cd_1 {N : Nat} {T : Nat → Int32} {p k d : Nat} {st : List Int32} {s : mh_H} (h : mh_rP N T p st k d s) (h30 : s.1 57 30 = 0) (n : Nat) : l_eX10_condition_37_1 (n + 1) s 1 = cd_P 202 n s := by
  rw [l_eX10_condition_37_1_s]
  unfold ls_eX10_condition_37_1 cd_P cd_B f_eX10_pieceOfC
  generalize (202 : Nat) = j
  simp only [mh_lbE, mh_lb2E]
  rw [if_neg (rP_good h), if_pos (show (s.1 57 30).toInt = 0 by rw [h30]; rfl), if_neg (show ¬ (1 : Int32).toInt = 0 by decide)]
theorem cd_0 {N : Nat} {T : Nat → Int32} {p k d : Nat} {st : List Int32} {s : mh_H} (h : mh_rP N T p st k d s) (h30 : s.1 57 30 = 0) (n : Nat) : l_eX10_condition_37_1 (n + 1) s 0 = cd_B n s := by
  rw [l_eX10_condition_37_1_s]
  unfold ls_eX10_condition_37_1 cd_B
  simp only [mh_lbE, mh_lb2E]
  rw [if_neg (rP_good h), if_pos (show (s.1 57 30).toInt = 0 by rw [h30]; rfl), if_pos (show (0 : Int32).toInt = 0 from kc_0)]
theorem cd_b {s : mh_H} (h : (f_eX10_isGood s).toInt = 0) : ∀ (n : Nat) (x : Int32), l_eX10_condition_37_1 n s x = s
  | 0, x => rfl
  | n + 1, x => by
    rw [l_eX10_condition_37_1_s]
    unfold ls_eX10_condition_37_1
    simp only [mh_lbE, mh_lb2E]
    rw [if_pos h]
theorem cd_e {s : mh_H} (h : ¬ (f_eX10_isGood s).toInt = 0) (h30 : ¬ (s.1 57 30).toInt = 0) (n : Nat) (x : Int32) : l_eX10_condition_37_1 (n + 1) s x = s := by
  rw [l_eX10_condition_37_1_s]
  unfold ls_eX10_condition_37_1
  simp only [mh_lbE, mh_lb2E]
  rw [if_neg h, if_neg h30]
theorem pc_b {s : mh_H} (h : (f_eX10_isGood s).toInt = 0) : ∀ (n : Nat), l_eX10_pieceOfC_0_1 n s = s
  | 0 => rfl
  | n + 1 => by
    rw [l_eX10_pieceOfC_0_1_s]
    unfold ls_eX10_pieceOfC_0_1
    simp only [mh_lbE, mh_lb2E]
    rw [if_pos h]
theorem cp_bad {f q j m : Nat} {s : mh_H} (h : mh_bfl f q (l_eX10_pieceOfC_0_1 j s)) (hf : 0 < f) : mh_bfl f q (cd_P j m s) := by
  unfold cd_P
  rw [if_pos (bf_bad h hf), cd_b (bf_bad h hf)]
  exact h
theorem cp_ok {N : Nat} {T : Nat → Int32} {p k d j m : Nat} {st : List Int32} {s : mh_H} (h : mh_rP N T p st k d (l_eX10_pieceOfC_0_1 j s)) : cd_P j m s = cd_B m (l_eX10_pieceOfC_0_1 j s) := by
  unfold cd_P
  rw [if_neg (rP_good h)]
theorem cd_go {N : Nat} {T : Nat → Int32} {p k d m : Nat} {st : List Int32} {s : mh_H} (h : mh_rP N T p st k d s) (h30 : s.1 57 30 = 0) (hm : 0 < m) : l_eX10_condition_37_1 m s 1 = cd_P 202 (m - 1) s := by
  obtain ⟨m, rfl⟩ : ∃ i, m = i + 1 := ⟨m - 1, by omega⟩
  exact cd_1 h h30 m
/-- a piece ends: the ! ahead of it -/
def rd_ngs : Nat → mh_Dn → mh_Dn
  | 0, D => D
  | n + 1, D => rd_ngs n (rd_ng D)
theorem r_end {N : Nat} {T : Nat → Int32} {p e k0 : Nat} {st : List Int32} (hb : (mh_tp1 st).toInt ≠ 33) : ∀ (B : List Int32) (k : Nat) (s : mh_H) (n : Nat) (D : mh_Dn), (∀ x ∈ B, x.toInt = 33) → B.length < n → k + B.length + st.length ≤ 400 → e + B.length ≤ 6 → mh_rP N T p (B ++ st) k (e + B.length) s → sg_P (s.1 74) (s.1 75) D k0 k → mh_b01 D → ∃ s', l_eX10_ends_0_1 n s = s' ∧ mh_rP N T p st (k + B.length) e s' ∧ mh_rk k s s' ∧ mh_rff s s' ∧ sg_P (s'.1 74) (s'.1 75) (rd_ngs B.length D) k0 (k + B.length)
  | [], k, s, n, D, _, hn, hl, _, h, hD, _ => by
    obtain ⟨n, rfl⟩ : ∃ m, n = m + 1 := ⟨n - 1, by omega⟩
    rw [List.length_nil] at hl
    have k33 : (33 : Int32).toInt = 33 := rfl
    refine ⟨s, ?_, h, rk_rf, rf_rf, hD⟩
    rw [l_eX10_ends_0_1_s]
    unfold ls_eX10_ends_0_1
    simp only [mh_lbE]
    rw [r_top (st := st) h (by omega), if_neg (show ¬ (mh_tp1 st).toInt = (33 : Int32).toInt by omega)]
  | x :: B, k, s, n, D, hB, hn, hl, he, h, hD, h01 => by
    rw [List.length_cons] at hn hl he
    obtain ⟨n, rfl⟩ : ∃ m, n = m + 1 := ⟨n - 1, by omega⟩
    have k1 : (1 : Int32).toInt = ((1 : Nat) : Int) := rfl
    have k33 : (33 : Int32).toInt = 33 := rfl
    have hlen : (B ++ st).length = B.length + st.length := List.length_append
    have h' : mh_rP N T p (x :: (B ++ st)) k (e + (B.length + 1)) s := h
    have ht : f_eX10_top s = x := r_top h' (by rw [List.length_cons]; omega)
    have hx := hB x (List.mem_cons_self ..)
    obtain ⟨s1, e1, a1, a2, a3, a4, a5⟩ := r_emit h' (by omega) 2 0
    have a6 := rP_29 a1 (x := s.1 57 29 - 1) (pop_i h' (by omega))
    have e28 : (mh_pI s1 57 29 (s.1 57 29 - 1)).1 57 28 = s1.1 57 28 := pI_j (by decide)
    have h28 : (s1.1 57 28 - 1).toInt = ((e + B.length : Nat) : Int) := by
      have := ix_sub a1.2.2.2.2.1 (by omega) k1 (by decide) (by omega)
      rw [this]; omega
    have a7 := rP_28 (d' := e + B.length) (x := s1.1 57 28 - 1) a6 h28
    obtain ⟨s2, e2, b1, b2, b3, b4⟩ := r_end hb B (k + 1) _ n (rd_ng D) (fun y hy => hB y (List.mem_cons_of_mem _ hy)) (by omega) (by omega) (by omega) a7 (by
      rw [pI_row (by decide), pI_row (by decide), pI_row (by decide), pI_row (by decide)]
      exact sP_not (sP_cg hD (fun i _ hi => a2.1 i hi)) h01 a4) (ng_b D)
    refine ⟨s2, ?_, by rw [List.length_cons, show k + (B.length + 1) = k + 1 + B.length by omega]; exact b1, rk_tr (rk_tr (rk_tr a2 (rk_57 (by decide)) (Nat.le_refl _)) (rk_57 (by decide)) (Nat.le_refl k)) b2 (by omega), rf_tr (rf_tr (rf_tr a3 (rf_57 (by decide) (by decide))) (rf_57 (by decide) (by decide))) b3, by rw [List.length_cons, show k + (B.length + 1) = k + 1 + B.length by omega]; exact b4⟩
    rw [l_eX10_ends_0_1_s]
    unfold ls_eX10_ends_0_1
    simp only [mh_lbE]
    rw [ht, if_pos (show x.toInt = (33 : Int32).toInt by omega), e1, e28]
    exact e2
theorem r_ends {N : Nat} {T : Nat → Int32} {p e k0 k : Nat} {st B : List Int32} {s : mh_H} {D : mh_Dn} (hb : (mh_tp1 st).toInt ≠ 33) (hB : ∀ x ∈ B, x.toInt = 33) (hl : k + B.length + st.length ≤ 200) (he : e + B.length ≤ 6) (h : mh_rP N T p (B ++ st) k (e + B.length) s) (hD : sg_P (s.1 74) (s.1 75) D k0 k) (h01 : mh_b01 D) : ∃ s', f_eX10_ends s = s' ∧ mh_rP N T p st (k + B.length) e s' ∧ mh_rk k s s' ∧ mh_rff s s' ∧ sg_P (s'.1 74) (s'.1 75) (rd_ngs B.length D) k0 (k + B.length) := by
  unfold f_eX10_ends
  simp only [mh_lbE]
  exact r_end hb B k s 202 D hB (by omega) (by omega) he h hD h01
/-- signs between pieces -/
def mh_jo (b : Int32) (x : Int32) : Prop := x.toInt = 38 ∨ (b.toInt ≠ 0 ∧ x.toInt = 124)
theorem r_join {N : Nat} {T : Nat → Int32} {p d : Nat} {b : Int32} {st : List Int32} (hb : ¬ mh_jo b (mh_tp1 st)) : ∀ (P : List Int32) (k : Nat) (s : mh_H) (n : Nat), (∀ x ∈ P, mh_jo b x) → P.length < n → k + P.length + st.length ≤ 400 → mh_rP N T p (P ++ st) k d s → ∃ s', l_eX10_joins_0_1 b n s = s' ∧ mh_rP N T p st (k + P.length) d s' ∧ mh_rk k s s' ∧ mh_rff s s' ∧ mh_pe (s'.1 74) k P
  | [], k, s, n, _, hn, hl, h => by
    obtain ⟨n, rfl⟩ : ∃ m, n = m + 1 := ⟨n - 1, by omega⟩
    rw [List.length_nil] at hl
    have k38 : (38 : Int32).toInt = 38 := rfl
    have k124 : (124 : Int32).toInt = 124 := rfl
    refine ⟨s, ?_, h, rk_rf, rf_rf, trivial⟩
    rw [l_eX10_joins_0_1_s]
    unfold ls_eX10_joins_0_1
    simp only [mh_lbE]
    rw [r_top (st := st) h (by omega)]
    unfold mh_jo at hb
    rw [if_neg (show ¬ (mh_tp1 st).toInt = (38 : Int32).toInt by omega)]
    by_cases g : b.toInt = 0
    · rw [if_pos g]
    · rw [if_neg g, if_neg (show ¬ (mh_tp1 st).toInt = (124 : Int32).toInt by omega)]
  | x :: P, k, s, n, hP, hn, hl, h => by
    rw [List.length_cons] at hn hl
    obtain ⟨n, rfl⟩ : ∃ m, n = m + 1 := ⟨n - 1, by omega⟩
    have k38 : (38 : Int32).toInt = 38 := rfl
    have k124 : (124 : Int32).toInt = 124 := rfl
    have hlen : (P ++ st).length = P.length + st.length := List.length_append
    have h' : mh_rP N T p (x :: (P ++ st)) k d s := h
    have ht : f_eX10_top s = x := r_top h' (by rw [List.length_cons]; omega)
    have hx := hP x (List.mem_cons_self ..)
    obtain ⟨s1, e1, a1, a2, a3, a4, a5⟩ := r_emit h' (by omega) x 0
    have a6 := rP_29 a1 (x := s.1 57 29 - 1) (pop_i h' (by omega))
    obtain ⟨s2, e2, b1, b2, b3, b4⟩ := r_join hb P (k + 1) (mh_pI s1 57 29 (s.1 57 29 - 1)) n (fun y hy => hP y (List.mem_cons_of_mem _ hy)) (by omega) (by omega) a6
    refine ⟨s2, ?_, by rw [List.length_cons, show k + (P.length + 1) = k + 1 + P.length by omega]; exact b1, rk_tr (rk_tr a2 (rk_57 (by decide)) (Nat.le_refl _)) b2 (by omega), rf_tr (rf_tr a3 (rf_57 (by decide) (by decide))) b3, ⟨?_, b4⟩⟩
    · rw [l_eX10_joins_0_1_s]
      unfold ls_eX10_joins_0_1
      simp only [mh_lbE]
      rw [ht, e1]
      unfold mh_jo at hx
      by_cases g : x.toInt = 38
      · rw [if_pos (show x.toInt = (38 : Int32).toInt by omega)]
        exact e2
      · rw [if_neg (show ¬ x.toInt = (38 : Int32).toInt by omega), if_neg (show ¬ b.toInt = 0 by omega), if_pos (show x.toInt = (124 : Int32).toInt by omega)]
        exact e2
    · have := (b2.1 k (by omega)).1
      rw [this, pI_o (by decide)]; exact a4
theorem r_joins {N : Nat} {T : Nat → Int32} {p k0 k d : Nat} {b : Int32} {st P : List Int32} {s : mh_H} {D : mh_Dn} (hb : ¬ mh_jo b (mh_tp1 st)) (hP : ∀ x ∈ P, mh_jo b x) (hl : k + P.length + st.length ≤ 200) (h : mh_rP N T p (P ++ st) k d s) (hD : mh_pnd (s.1 74) (s.1 75) D k0 k P) : ∃ s', f_eX10_joins s b = s' ∧ mh_rP N T p st (k + P.length) d s' ∧ mh_rk k s s' ∧ mh_rff s s' ∧ sg_P (s'.1 74) (s'.1 75) D k0 (k + P.length) := by
  unfold f_eX10_joins
  simp only [mh_lbE]
  obtain ⟨s', e, a1, a2, a3, a4⟩ := r_join hb P k s 202 hP (by omega) (by omega) h
  exact ⟨s', e, a1, a2, a3, hD _ _ (fun i hi => a2.1 i hi) a4⟩
theorem pd_an {kr wr : Nat → Int32} {A B : mh_Dn} {k0 k k2 : Nat} {P : List Int32} {op : Int32} (hA : sg_P kr wr A k0 k) (h01 : mh_b01 A) (hk : k ≤ k2) (hB : mh_pnd kr wr B k k2 P) (h2 : op = 38) : mh_pnd kr wr (rd_an A B) k0 k2 (P ++ [op]) := by
  intro kr' wr' h1 hp
  obtain ⟨p1, p2⟩ := pe_ap hp
  have hlen : (P ++ [op]).length = P.length + 1 := List.length_append
  rw [hlen, show k2 + (P.length + 1) = k2 + P.length + 1 by omega]
  exact sP_and (sP_cg hA (fun i _ b => h1 i (by omega))) h01 (hB kr' wr' h1 p1) (p2.trans h2)
theorem pd_or {kr wr : Nat → Int32} {A B : mh_Dn} {k0 k k2 : Nat} {P : List Int32} {op : Int32} (hA : sg_P kr wr A k0 k) (h01 : mh_b01 A) (hk : k ≤ k2) (hB : mh_pnd kr wr B k k2 P) (h2 : op = 124) : mh_pnd kr wr (rd_or A B) k0 k2 (P ++ [op]) := by
  intro kr' wr' h1 hp
  obtain ⟨p1, p2⟩ := pe_ap hp
  have hlen : (P ++ [op]).length = P.length + 1 := List.length_append
  rw [hlen, show k2 + (P.length + 1) = k2 + P.length + 1 by omega]
  exact sP_or (sP_cg hA (fun i _ b => h1 i (by omega))) h01 (hB kr' wr' h1 p1) (p2.trans h2)
/-- behind a piece: & or | -/
theorem gb_and {N : Nat} {T : Nat → Int32} (hN : N ≤ 200) (ht : mh_tx (rd_sg T N) N) {q k0 k d : Nat} {st P : List Int32} {s : mh_H} {D : mh_Dn} (hg : (rd_sg T N q).toInt = 38) (hb : ¬ mh_jo 0 (mh_tp1 st)) (hP : ∀ x ∈ P, mh_jo 0 x) (hl : k + P.length + st.length ≤ q) (h : mh_rP N T q (P ++ st) k d s) (hD : mh_pnd (s.1 74) (s.1 75) D k0 k P) (m : Nat) : ∃ s', cd_B m s = l_eX10_condition_37_1 m s' 1 ∧ mh_rP N T (q + 1) (rd_sg T N q :: st) (k + P.length) d s' ∧ mh_rk k s s' ∧ mh_rff s s' ∧ sg_P (s'.1 74) (s'.1 75) D k0 (k + P.length) := by
  have hlt := tx_lt ht (show 0 ≤ (rd_sg T N q).toInt by omega)
  have k38 : (38 : Int32).toInt = 38 := rfl
  unfold cd_B f_eX10_goesBehind
  simp only [mh_lbE, mh_lb2E]
  rw [r_here h, hr_lt hlt, if_pos (show (rd_sg T N q).toInt = (38 : Int32).toInt by omega)]
  obtain ⟨s1, e1, a1, a2, a3, a4⟩ := r_joins hb hP (by omega) h hD
  rw [e1]
  obtain ⟨s2, e2, b1, b2, b3, b4, b5⟩ := r_puts a1 (by omega) hlt hN (rd_sg T N q)
  rw [e2]
  refine ⟨s2, rfl, b1, rk_tr a2 (b2 k) (Nat.le_refl _), rf_tr a3 b3, ?_⟩
  rw [b4, b5]; exact a4
theorem gb_or {N : Nat} {T : Nat → Int32} (hN : N ≤ 200) (ht : mh_tx (rd_sg T N) N) {q k0 k d : Nat} {st P : List Int32} {s : mh_H} {D : mh_Dn} (hg : (rd_sg T N q).toInt = 124) (hb : ¬ mh_jo 1 (mh_tp1 st)) (hP : ∀ x ∈ P, mh_jo 1 x) (hl : k + P.length + st.length ≤ q) (h : mh_rP N T q (P ++ st) k d s) (hD : mh_pnd (s.1 74) (s.1 75) D k0 k P) (m : Nat) : ∃ s', cd_B m s = l_eX10_condition_37_1 m s' 1 ∧ mh_rP N T (q + 1) (rd_sg T N q :: st) (k + P.length) d s' ∧ mh_rk k s s' ∧ mh_rff s s' ∧ sg_P (s'.1 74) (s'.1 75) D k0 (k + P.length) := by
  have hlt := tx_lt ht (show 0 ≤ (rd_sg T N q).toInt by omega)
  have k38 : (38 : Int32).toInt = 38 := rfl
  have k124 : (124 : Int32).toInt = 124 := rfl
  unfold cd_B f_eX10_goesBehind
  simp only [mh_lbE, mh_lb2E]
  rw [r_here h, hr_lt hlt, if_neg (show ¬ (rd_sg T N q).toInt = (38 : Int32).toInt by omega), if_pos (show (rd_sg T N q).toInt = (124 : Int32).toInt by omega)]
  obtain ⟨s1, e1, a1, a2, a3, a4⟩ := r_joins hb hP (by omega) h hD
  rw [e1]
  obtain ⟨s2, e2, b1, b2, b3, b4, b5⟩ := r_puts a1 (by omega) hlt hN (rd_sg T N q)
  rw [e2]
  refine ⟨s2, rfl, b1, rk_tr a2 (b2 k) (Nat.le_refl _), rf_tr a3 b3, ?_⟩
  rw [b4, b5]; exact a4
/-- behind a piece: ) or what can't stand there -/
theorem gb_els {N : Nat} {T : Nat → Int32} (hN : N ≤ 200) (ht : mh_tx (rd_sg T N) N) {q k0 k d : Nat} {y : Int32} {st P : List Int32} {s : mh_H} {D : mh_Dn} (hg : ¬ mh_jo 1 (rd_sg T N q)) (hb : ¬ mh_jo 1 y) (hP : ∀ x ∈ P, mh_jo 1 x) (hl : k + P.length + (st.length + 1) ≤ q) (hd : 0 < d ∧ d ≤ 6) (h : mh_rP N T q (P ++ (y :: st)) k d s) (hD : mh_pnd (s.1 74) (s.1 75) D k0 k P) : if (rd_sg T N q).toInt = 41 then ∃ s', mh_rP N T (q + 1) st (k + P.length) (d - 1) s' ∧ mh_rk k s s' ∧ mh_rff s s' ∧ sg_P (s'.1 74) (s'.1 75) D k0 (k + P.length) ∧ f_eX10_goesBehind s = (if st.length = 0 then (0, mh_pI s' 57 30 1) else (0, f_eX10_ends (mh_pI s' 57 30 0))) else ∃ s', f_eX10_goesBehind s = (0, s') ∧ mh_bfl 1 q s' := by
  have k1 : (1 : Int32).toInt = ((1 : Nat) : Int) := rfl
  have k38 : (38 : Int32).toInt = 38 := rfl
  have k124 : (124 : Int32).toInt = 124 := rfl
  have k41 : (41 : Int32).toInt = 41 := rfl
  have o1 : (1 : Int32).toInt = 1 := rfl
  have hqN := h.2.2.2.2.2.2.2.2
  have c1 := hr_eq (T := T) (N := N) (p := q) (c := 38) (by decide)
  have c2 := hr_eq (T := T) (N := N) (p := q) (c := 124) (by decide)
  have c3 := hr_eq (T := T) (N := N) (p := q) (c := 41) (by decide)
  unfold mh_jo at hg
  unfold f_eX10_goesBehind
  simp only [mh_lbE, mh_lb2E]
  rw [r_here h, if_neg (show ¬ (rd_hr T N q).toInt = (38 : Int32).toInt by omega), if_neg (show ¬ (rd_hr T N q).toInt = (124 : Int32).toInt by omega)]
  by_cases g : (rd_sg T N q).toInt = 41
  · rw [if_pos g, if_pos (show (rd_hr T N q).toInt = (41 : Int32).toInt by omega)]
    have hlt := tx_lt ht (show 0 ≤ (rd_sg T N q).toInt by omega)
    obtain ⟨s1, e1, a1, a2, a3, a4⟩ := r_joins (st := y :: st) (show ¬ mh_jo 1 (mh_tp1 (y :: st)) from hb) hP (by rw [List.length_cons]; omega) h hD
    have hp := pop_i a1 (by omega)
    have b1 := rP_29 (x := s1.1 57 29 - 1) a1 hp
    have e28 : (mh_pI s1 57 29 (s1.1 57 29 - 1)).1 57 28 = s1.1 57 28 := pI_j (by decide)
    have h28 : (s1.1 57 28 - 1).toInt = ((d - 1 : Nat) : Int) := ix_sub a1.2.2.2.2.1 (by omega) k1 (by decide) (by omega)
    have b2 := rP_28 (d' := d - 1) (x := s1.1 57 28 - 1) b1 h28
    have b3 := rP_23 (p' := q + 1) (x := s.1 57 23 + 1) b2 (ix_add h.1 (by omega) k1 (by decide)) (by omega)
    refine ⟨_, b3, rk_tr (rk_tr (rk_tr a2 (rk_57 (by decide)) (Nat.le_refl k)) (rk_57 (by decide)) (Nat.le_refl k)) (rk_57 (by decide)) (Nat.le_refl k), rf_tr (rf_tr (rf_tr a3 (rf_57 (by decide) (by decide))) (rf_57 (by decide) (by decide))) (rf_57 (by decide) (by decide)), ?_, ?_⟩
    · rw [pI_row (by decide), pI_row (by decide), pI_row (by decide), pI_row (by decide), pI_row (by decide), pI_row (by decide)]
      exact a4
    · rw [e1, e28]
      by_cases z : st.length = 0
      · rw [if_pos z, if_pos (show (s1.1 57 29 - 1).toInt = 0 by omega)]
      · rw [if_neg z, if_neg (show ¬ (s1.1 57 29 - 1).toInt = 0 by omega)]
  · rw [if_neg g, if_neg (show ¬ (rd_hr T N q).toInt = (41 : Int32).toInt by omega)]
    exact ⟨_, rfl, r_wr h rfl (by decide) h.1 (by omega)⟩

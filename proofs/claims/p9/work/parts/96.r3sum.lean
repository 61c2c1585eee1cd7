theorem vl_go {N : Nat} {T : Nat → Int32} {p k d m : Nat} {st : List Int32} {s : mh_H} (h : mh_rP N T p st k d s) (h31 : s.1 57 31 = 0) (hm : 0 < m) : l_eX10_value_7_1 m s 1 = vl_F 202 (m - 1) s := by
  obtain ⟨m, rfl⟩ : ∃ i, m = i + 1 := ⟨m - 1, by omega⟩
  exact vl_0 h h31 m
theorem v_tml {N : Nat} {T : Nat → Int32} (hN : N ≤ 200) (ht : mh_tx (rd_sg T N) N) {d : Nat} {fac : Nat → mh_Qn} (hf : ∀ (p : Nat) (st : List Int32) (k : Nat) (s : mh_H) (j m : Nat), mh_rP N T p st k d s → s.1 57 31 = 0 → N < j + p → N ≤ m + p → k + st.length ≤ p → vl_R N T d st k s vl_Cf (fac p) (vl_F j m s)) (mo : mh_mo N fac) {st : List Int32} {k : Nat} {s0 : mh_H} (hb : ¬ mh_fo 0 (mh_tp1 st)) : ∀ (n : Nat) (D : mh_Dn) (p : Nat) (P : List Int32) (m : Nat) (s : mh_H) (k1 : Nat), N < n + p → mh_rP N T p (P ++ st) k1 d s → N < m + p → mh_rk k s0 s → s.1 57 30 = s0.1 57 30 → s.1 57 31 = 0 → mh_pnd (s.1 74) (s.1 75) D k k1 P → k ≤ k1 → k1 + P.length + st.length ≤ p → (∀ x ∈ P, mh_fo 0 x) → vl_R N T d st k s0 (vl_Ct T N) (rd_tml (rd_sg T N) fac n D p) (vl_C m s) := by
  have k0 := kc_0
  intro n
  induction n with
  | zero => intro D p P m s k1 hn h; exfalso; have := h.2.2.2.2.2.2.2.2; omega
  | succ n ih =>
    intro D p P m s k1 hn h hm hk h30 h31 hD hkk hl hP
    have hpN := h.2.2.2.2.2.2.2.2
    rw [rd_tml_s]
    by_cases g : (rd_sg T N p).toInt = 42 ∨ (rd_sg T N p).toInt = 47 ∨ (rd_sg T N p).toInt = 37
    · rw [if_pos g]
      have hlt := tx_lt ht (show 0 ≤ (rd_sg T N p).toInt by omega)
      obtain ⟨s1, e1, a1, a2, a3, a4⟩ := st_tim hN ht g hb hP hl h hD m
      rw [e1, vl_go a1 (a3.2.trans h31) (by omega)]
      have r1 := hf (p + 1) (rd_sg T N p :: st) (k1 + P.length) s1 202 (m - 1) a1 (a3.2.trans h31) (by omega) (by omega) (by rw [List.length_cons]; omega)
      generalize vl_F 202 (m - 1) s1 = z at r1 ⊢
      cases e : fac (p + 1) with
      | inl f => rw [e] at r1; exact r1
      | inr x =>
        rw [e] at r1
        obtain ⟨P', m2, s2, k2, b1, b2, b3, b4, b5, b6, b7, b8, b9, b10⟩ := r1
        have b10 : P' = [] := b10
        subst b10
        rw [List.length_cons, List.length_nil] at b9
        have hx := mo _ _ _ e
        rw [b1]
        show vl_R N T d st k s0 (vl_Ct T N) (rd_tml (rd_sg T N) fac n (rd_bo (rd_sg T N p) D x.1) x.2) (vl_C m2 s2)
        refine ih (rd_bo (rd_sg T N p) D x.1) x.2 [rd_sg T N p] m2 s2 k2 (by omega) b2 b3 (rk_tr (rk_tr hk a2 hkk) b4 (by omega)) (b5.trans (a3.1.trans h30)) b6 ?_ (by omega) (by show k2 + 1 + st.length ≤ x.2; omega) ?_
        · exact pd_op (P := []) (sP_cg a4 (fun i _ hi => b4.1 i hi)) b8 b7 (by unfold mh_op2; omega)
        · intro y hy
          rw [List.mem_singleton.mp hy]
          exact Or.inl g
    · rw [if_neg g]
      exact ⟨P, m, s, k1, rfl, h, hm, hk, h30, h31, hD, hkk, hl, hP, fun z => by have z : mh_fo 0 (rd_sg T N p) := z; unfold mh_fo at z; omega⟩
theorem v_trm {N : Nat} {T : Nat → Int32} (hN : N ≤ 200) (ht : mh_tx (rd_sg T N) N) {d : Nat} {fac : Nat → mh_Qn} (hf : ∀ (p : Nat) (st : List Int32) (k : Nat) (s : mh_H) (j m : Nat), mh_rP N T p st k d s → s.1 57 31 = 0 → N < j + p → N ≤ m + p → k + st.length ≤ p → vl_R N T d st k s vl_Cf (fac p) (vl_F j m s)) (mo : mh_mo N fac) (p : Nat) (st : List Int32) (k : Nat) (s : mh_H) (j m : Nat) (hb : ¬ mh_fo 0 (mh_tp1 st)) (h : mh_rP N T p st k d s) (h31 : s.1 57 31 = 0) (hj : N < j + p) (hm : N ≤ m + p) (hl : k + st.length ≤ p) : vl_R N T d st k s (vl_Ct T N) (rd_trm (rd_sg T N) fac p) (vl_F j m s) := by
  have r1 := hf p st k s j m h h31 hj hm hl
  unfold rd_trm
  generalize vl_F j m s = z at r1 ⊢
  cases e : fac p with
  | inl f => rw [e] at r1; exact r1
  | inr x =>
    rw [e] at r1
    obtain ⟨P', m2, s2, k2, b1, b2, b3, b4, b5, b6, b7, b8, b9, b10⟩ := r1
    have b10 : P' = [] := b10
    subst b10
    have hx := mo _ _ _ e
    rw [b1]
    show vl_R N T d st k s (vl_Ct T N) (rd_tml (rd_sg T N) fac 222 x.1 x.2) (vl_C m2 s2)
    exact v_tml hN ht hf mo hb 222 x.1 x.2 [] m2 s2 k2 (by omega) b2 b3 b4 b5 b6 b7 b8 b9 (fun y hy => absurd hy (by simp))
theorem v_sml {N : Nat} {T : Nat → Int32} (hN : N ≤ 200) (ht : mh_tx (rd_sg T N) N) {d : Nat} {trm : Nat → mh_Qn} (hf : ∀ (p : Nat) (st : List Int32) (k : Nat) (s : mh_H) (j m : Nat), ¬ mh_fo 0 (mh_tp1 st) → mh_rP N T p st k d s → s.1 57 31 = 0 → N < j + p → N ≤ m + p → k + st.length ≤ p → vl_R N T d st k s (vl_Ct T N) (trm p) (vl_F j m s)) (mo : mh_mo N trm) {st : List Int32} {k : Nat} {s0 : mh_H} (hb : ¬ mh_fo 1 (mh_tp1 st)) : ∀ (n : Nat) (D : mh_Dn) (p : Nat) (P : List Int32) (m : Nat) (s : mh_H) (k1 : Nat), N < n + p → mh_rP N T p (P ++ st) k1 d s → N < m + p → mh_rk k s0 s → s.1 57 30 = s0.1 57 30 → s.1 57 31 = 0 → mh_pnd (s.1 74) (s.1 75) D k k1 P → k ≤ k1 → k1 + P.length + st.length ≤ p → (∀ x ∈ P, mh_fo 1 x) → ¬ mh_fo 0 (rd_sg T N p) → vl_R N T d st k s0 (vl_Cs T N) (rd_sml (rd_sg T N) trm n D p) (vl_C m s) := by
  have k0 := kc_0
  have k1' : (1 : Int32).toInt = 1 := rfl
  intro n
  induction n with
  | zero => intro D p P m s k1 hn h; exfalso; have := h.2.2.2.2.2.2.2.2; omega
  | succ n ih =>
    intro D p P m s k1 hn h hm hk h30 h31 hD hkk hl hP hnt
    have hpN := h.2.2.2.2.2.2.2.2
    rw [rd_sml_s]
    by_cases g : (rd_sg T N p).toInt = 43 ∨ (rd_sg T N p).toInt = 45
    · rw [if_pos g]
      have hlt := tx_lt ht (show 0 ≤ (rd_sg T N p).toInt by omega)
      obtain ⟨s1, e1, a1, a2, a3, a4⟩ := st_plu hN ht g hb hP hl h hD m
      rw [e1, vl_go a1 (a3.2.trans h31) (by omega)]
      have nf : ¬ mh_fo 0 (mh_tp1 (rd_sg T N p :: st)) := by
        show ¬ mh_fo 0 (rd_sg T N p)
        exact hnt
      have r1 := hf (p + 1) (rd_sg T N p :: st) (k1 + P.length) s1 202 (m - 1) nf a1 (a3.2.trans h31) (by omega) (by omega) (by rw [List.length_cons]; omega)
      generalize vl_F 202 (m - 1) s1 = z at r1 ⊢
      cases e : trm (p + 1) with
      | inl f => rw [e] at r1; exact r1
      | inr x =>
        rw [e] at r1
        obtain ⟨P', m2, s2, k2, b1, b2, b3, b4, b5, b6, b7, b8, b9, b10, b11⟩ := r1
        rw [List.length_cons] at b9
        have hx := mo _ _ _ e
        have hlen : (P' ++ [rd_sg T N p]).length = P'.length + 1 := List.length_append
        rw [b1]
        show vl_R N T d st k s0 (vl_Cs T N) (rd_sml (rd_sg T N) trm n (rd_bo (rd_sg T N p) D x.1) x.2) (vl_C m2 s2)
        refine ih (rd_bo (rd_sg T N p) D x.1) x.2 (P' ++ [rd_sg T N p]) m2 s2 k2 (by omega) ?_ b3 (rk_tr (rk_tr hk a2 hkk) b4 (by omega)) (b5.trans (a3.1.trans h30)) b6 ?_ (by omega) (by rw [hlen]; omega) ?_ b11
        · rw [List.append_assoc]; exact b2
        · exact pd_op (sP_cg a4 (fun i _ hi => b4.1 i hi)) b8 b7 (by unfold mh_op2; omega)
        · intro y hy
          rcases List.mem_append.mp hy with q | q
          · have := b10 y q
            unfold mh_fo at this ⊢
            omega
          · rw [List.mem_singleton.mp q]
            exact Or.inr ⟨by decide, g⟩
    · rw [if_neg g]
      exact ⟨P, m, s, k1, rfl, h, hm, hk, h30, h31, hD, hkk, hl, hP, fun z => by have z : mh_fo 1 (rd_sg T N p) := z; unfold mh_fo at z hnt; omega⟩
theorem v_sum {N : Nat} {T : Nat → Int32} (hN : N ≤ 200) (ht : mh_tx (rd_sg T N) N) {d : Nat} {trm : Nat → mh_Qn} (hf : ∀ (p : Nat) (st : List Int32) (k : Nat) (s : mh_H) (j m : Nat), ¬ mh_fo 0 (mh_tp1 st) → mh_rP N T p st k d s → s.1 57 31 = 0 → N < j + p → N ≤ m + p → k + st.length ≤ p → vl_R N T d st k s (vl_Ct T N) (trm p) (vl_F j m s)) (mo : mh_mo N trm) (p : Nat) (st : List Int32) (k : Nat) (s : mh_H) (j m : Nat) (hb : ¬ mh_fo 1 (mh_tp1 st)) (h : mh_rP N T p st k d s) (h31 : s.1 57 31 = 0) (hj : N < j + p) (hm : N ≤ m + p) (hl : k + st.length ≤ p) : vl_R N T d st k s (vl_Cs T N) (rd_sum (rd_sg T N) trm p) (vl_F j m s) := by
  have k0 := kc_0
  have k1' : (1 : Int32).toInt = 1 := rfl
  have r1 := hf p st k s j m (fun z => hb (by unfold mh_fo at z ⊢; omega)) h h31 hj hm hl
  unfold rd_sum
  generalize vl_F j m s = z at r1 ⊢
  cases e : trm p with
  | inl f => rw [e] at r1; exact r1
  | inr x =>
    rw [e] at r1
    obtain ⟨P', m2, s2, k2, b1, b2, b3, b4, b5, b6, b7, b8, b9, b10, b11⟩ := r1
    have hx := mo _ _ _ e
    rw [b1]
    show vl_R N T d st k s (vl_Cs T N) (rd_sml (rd_sg T N) trm 222 x.1 x.2) (vl_C m2 s2)
    exact v_sml hN ht hf mo hb 222 x.1 x.2 P' m2 s2 k2 (by omega) b2 b3 b4 b5 b6 b7 b8 b9 (fun y hy => by have := b10 y hy; unfold mh_fo at this ⊢; omega) b11
theorem v_S {N : Nat} {T : Nat → Int32} (hN : N ≤ 200) (ht : mh_tx (rd_sg T N) N) : ∀ (n d : Nat), n + d = 6 → ∀ (p : Nat) (st : List Int32) (k : Nat) (s : mh_H) (j m : Nat), ¬ mh_fo 1 (mh_tp1 st) → mh_rP N T p st k d s → s.1 57 31 = 0 → N < j + p → N ≤ m + p → k + st.length ≤ p → vl_R N T d st k s (vl_Cs T N) (rd_S (rd_sg T N) (n + 1) p) (vl_F j m s) := by
  intro n
  induction n with
  | zero =>
    intro d hd p st k s j m hb h h31 hj hm hl
    rw [rd_S_s]
    have mo := fac_mo ht (n := 0) (fun _ => S_mo ht 0)
    exact v_sum hN ht (fun p st k s j m hb h h31 hj hm hl => v_trm hN ht (fun p st k s j m h h31 hj hm hl => v_fac hN ht hd (fun q => absurd rfl q) p st k s j m h h31 hj hm hl) mo p st k s j m hb h h31 hj hm hl) (trm_mo mo) p st k s j m hb h h31 hj hm hl
  | succ n ih =>
    intro d hd p st k s j m hb h h31 hj hm hl
    rw [rd_S_s]
    have mo := fac_mo ht (n := n + 1) (fun _ => S_mo ht (n + 1))
    exact v_sum hN ht (fun p st k s j m hb h h31 hj hm hl => v_trm hN ht (fun p st k s j m h h31 hj hm hl => v_fac hN ht hd (fun _ => ih (d + 1) (by omega)) p st k s j m h h31 hj hm hl) mo p st k s j m hb h h31 hj hm hl) (trm_mo mo) p st k s j m hb h h31 hj hm hl
/-- a whole value -/
def vl_V (N : Nat) (T : Nat → Int32) (d : Nat) (st : List Int32) (k : Nat) (s : mh_H) (r : mh_Qn) (z : mh_H) : Prop := match r with
  | .inl f => mh_bfl f.1 f.2 z ∧ 0 < f.1
  | .inr x => if (rd_sg T N x.2).toInt = 93 then mh_bfl 1 x.2 z else ∃ k' : Nat, mh_rP N T x.2 st k' d z ∧ mh_rk k s z ∧ z.1 57 30 = s.1 57 30 ∧ sg_P (z.1 74) (z.1 75) x.1 k k' ∧ k ≤ k' ∧ k' + st.length ≤ x.2
theorem v_val {N : Nat} {T : Nat → Int32} (hN : N ≤ 200) (ht : mh_tx (rd_sg T N) N) {n d : Nat} (hd : n + d = 6) {p : Nat} {st : List Int32} {k : Nat} {s : mh_H} (hb : ¬ mh_fo 1 (mh_tp1 st)) (hb2 : (mh_tp1 st).toInt ≠ 91) (h : mh_rP N T p st k d s) (hl : k + st.length ≤ p) : vl_V N T d st k s (rd_S (rd_sg T N) (n + 1) p) (f_eX10_value s) := by
  unfold f_eX10_value
  simp only [mh_lbE]
  have h1 := rP_j (j := 31) (x := 0) h (by decide)
  have hpN := h.2.2.2.2.2.2.2.2
  obtain ⟨w, hw⟩ : ∃ w : Nat, w = 404 := ⟨_, rfl⟩
  rw [show (404 : Nat) = w by omega, vl_go h1 pI_w (by omega)]
  have r1 := v_S hN ht n d hd p st k _ 202 (w - 1) hb h1 pI_w (by omega) (by omega) hl
  generalize vl_F 202 (w - 1) (mh_pI s 57 31 0) = z at r1 ⊢
  have mo := S_mo ht (n + 1) p
  cases e : rd_S (rd_sg T N) (n + 1) p with
  | inl f => rw [e] at r1; exact r1
  | inr x =>
    rw [e] at r1
    obtain ⟨P, m2, s2, k2, b1, b2, b3, b4, b5, b6, b7, b8, b9, b10, b11⟩ := r1
    have hx := mo x.1 x.2 e
    obtain ⟨s3, d1, d2, d3, d4, d5⟩ := st_els hN b11 hb b10 b9 b2 b7
    obtain ⟨m2, rfl⟩ : ∃ i, m2 = i + 1 := ⟨m2 - 1, by omega⟩
    have ez : vl_C (m2 + 1) s2 = if (f_eX10_stays s2).1.toInt = 0 then l_eX10_value_7_1 (m2 + 1) (f_eX10_stays s2).2 0 else l_eX10_value_7_1 (m2 + 1) (f_eX10_stays s2).2 1 := rfl
    rw [b1, ez]
    show if (rd_sg T N x.2).toInt = 93 then _ else _
    by_cases g : (rd_sg T N x.2).toInt = 93
    · rw [if_pos g]
      rw [if_pos g, if_neg hb2] at d5
      rw [d5, if_pos (show (0 : Int32).toInt = 0 from kc_0)]
      have bw := r_wr d1 (F := 1) (P := s2.1 57 23) (f := 1) (q := x.2) rfl (by decide) b2.1 (by omega)
      show mh_bfl 1 x.2 (l_eX10_value_7_1 (m2 + 1) (f_eX10_wrongs s3 1 (s2.1 57 23)) 0)
      rw [vl_b (bf_bad bw (by decide))]
      exact bw
    · rw [if_neg g]
      rw [if_neg g] at d5
      rw [d5, if_pos (show (0 : Int32).toInt = 0 from kc_0)]
      have e3 : l_eX10_value_7_1 (m2 + 1) s3 0 = s3 := by
        rw [vl_e d1 (by omega), if_neg hb2]
      show ∃ k' : Nat, mh_rP N T x.2 st k' d (l_eX10_value_7_1 (m2 + 1) s3 0) ∧ mh_rk k s (l_eX10_value_7_1 (m2 + 1) s3 0) ∧ (l_eX10_value_7_1 (m2 + 1) s3 0).1 57 30 = s.1 57 30 ∧ sg_P ((l_eX10_value_7_1 (m2 + 1) s3 0).1 74) ((l_eX10_value_7_1 (m2 + 1) s3 0).1 75) x.1 k k' ∧ k ≤ k' ∧ k' + st.length ≤ x.2
      rw [e3]
      refine ⟨k2 + P.length, d1, rk_tr (rk_tr (rk_57 (by decide)) b4 (Nat.le_refl k)) d2 b8, ?_, d4, by omega, by omega⟩
      rw [d3.1, b5, pI_j (by decide)]

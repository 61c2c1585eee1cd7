/-- the class's reader of conditions; a fault that shows at the next sign only -/
def mh_cL (kl N : Nat) (T : Nat → Int32) (c p : Nat) (s : mh_H) (r : mh_Qn) (z : Int32 × mh_H) : Prop := mh_cM kl N T 32 c p s r z ∨ ∃ f : Nat, r = .inl (1, f) ∧ z.1.toInt ≠ 0 ∧ (rd_sg T N f).toInt = 93 ∧ mh_c0 kl N T f z.2
theorem c0_put {kl N : Nat} {T : Nat → Int32} {p : Nat} {s : mh_H} (hl : mh_isL kl) (h : mh_c0 kl N T p s) (w : Int32) : mh_c0 kl N T p (f_eX1_put s kl w) := by
  have hk : 40 ≤ kl ∧ kl + 5 < 56 := by rcases hl with rfl | rfl <;> decide
  unfold f_eX1_put
  simp only [mh_lbE]
  split
  · exact c0_pI (c0_pI h (by omega) (by omega)) (by omega) (by omega)
  · exact h
theorem c_cpd {kl N : Nat} {T : Nat → Int32} (hl : mh_isL kl) (hN : N ≤ 200) (ht : mh_tx (rd_sg T N) N) {w : Nat} (hw : w ≤ 31) {rc : mh_Rc} {x : Int32} {sum : Nat → mh_Qn} (hf : ∀ (p c : Nat) (s : mh_H), mh_cS kl N T p c s → c ≤ 2 * p → mh_cM kl N T w c p s (sum p) (f_eX4_readSum rc s x)) {c p0 : Nat} {s0 : mh_H} (hc0 : c ≤ 2 * p0) {A : mh_Dn} {p c1 : Nat} {s : mh_H} (h0 : p0 < p) (h2 : mh_cS kl N T p c1 s) (h3 : mh_kk kl c s0 s) (h4 : sg_C kl (s.1 (kl + 1)) A 32 c c1) (h5 : c1 ≤ c + 2 * (p - p0)) (h6 : (s.1 kl 10).toInt = 0 → mh_n8 A) : mh_cL kl N T c p0 s0 (if (rd_sg T N p).toInt = 60 ∨ (rd_sg T N p).toInt = 62 ∨ (rd_sg T N p).toInt = 61 then rd_b (sum (p + 1)) (fun E r => if (rd_sg T N r).toInt = 93 then .inl (1, r) else .inr (rd_bo (rd_sg T N p) A E, r)) else .inl (1, p)) (f_eX4_readCompared rc s x) := by
  have k60 : (60 : Int32).toInt = 60 := rfl
  have k62 : (62 : Int32).toInt = 62 := rfl
  have k61 : (61 : Int32).toInt = 61 := rfl
  have z1 : (1 : Int32).toInt ≠ 0 := by decide
  have hkl : kl + 5 < 56 := by rcases hl with rfl | rfl <;> decide
  unfold f_eX4_readCompared
  simp only [mh_lbE, mh_lb2E]
  rw [c_sg h2.1]
  have go : (rd_sg T N p).toInt = 60 ∨ (rd_sg T N p).toInt = 62 ∨ (rd_sg T N p).toInt = 61 → mh_cL kl N T c p0 s0 (rd_b (sum (p + 1)) (fun E r => if (rd_sg T N r).toInt = 93 then .inl (1, r) else .inr (rd_bo (rd_sg T N p) A E, r))) (if (f_eX4_readSum rc (mh_pI s 56 3 (s.1 56 3 + 1)) x).1.toInt = 0 then (0, (f_eX4_readSum rc (mh_pI s 56 3 (s.1 56 3 + 1)) x).2) else (1, f_eX1_put (f_eX4_readSum rc (mh_pI s 56 3 (s.1 56 3 + 1)) x).2 ((f_eX4_readSum rc (mh_pI s 56 3 (s.1 56 3 + 1)) x).2.2.2 56 1) (rd_sg T N p))) := by
    intro ho
    have g := tx_lt ht (show 0 ≤ (rd_sg T N p).toInt by omega)
    have r1 := hf (p + 1) c1 _ (cS_adv hl h2 g (c_nx h2.1 hN)) (by omega)
    have hkp : mh_kk kl c s0 (mh_pI s 56 3 (s.1 56 3 + 1)) := kk_tr h3 (kk_56 hl) (Nat.le_refl _)
    have hAp : sg_C kl ((mh_pI s 56 3 (s.1 56 3 + 1)).1 (kl + 1)) A 32 c c1 := sC_cg h4 (fun i _ _ => pI_o (by omega))
    have h6p : ((mh_pI s 56 3 (s.1 56 3 + 1)).1 kl 10).toInt = 0 → mh_n8 A := fun q => h6 (by rw [pI_o (by omega)] at q; exact q)
    generalize mh_pI s 56 3 (s.1 56 3 + 1) = sp at r1 hkp hAp h6p ⊢
    generalize f_eX4_readSum rc sp x = z at r1 ⊢
    cases e : sum (p + 1) with
    | inl f =>
      rw [e] at r1
      rw [rb_l, if_pos r1.1]
      exact Or.inl ⟨kc_0, r1.2⟩
    | inr y =>
      rw [e] at r1
      obtain ⟨q1, s2, q2, q3, c2, q4, q5, q6, q7, q8⟩ := c_op hl hN (op := rd_sg T N p) (by unfold mh_op2; omega) hAp (show w + 1 ≤ 32 by omega) (by omega) hkp hc0 h5 h0 h6p r1
      rw [if_neg q1, q2]
      show mh_cL kl N T c p0 s0 (if (rd_sg T N y.2).toInt = 93 then .inl (1, y.2) else .inr (rd_bo (rd_sg T N p) A y.1, y.2)) _
      by_cases g9 : (rd_sg T N y.2).toInt = 93
      · rw [if_pos g9]
        exact Or.inr ⟨y.2, rfl, z1, g9, q4.1⟩
      · rw [if_neg g9]
        exact Or.inl ⟨z1, by show p0 < y.2; omega, c2, q4, q5, q6, q7, q8⟩
  by_cases g1 : (rd_sg T N p).toInt = 60
  · rw [if_pos (show (rd_sg T N p).toInt = (60 : Int32).toInt by omega), if_pos (Or.inl g1)]
    exact go (Or.inl g1)
  · rw [if_neg (show ¬ (rd_sg T N p).toInt = (60 : Int32).toInt by omega)]
    by_cases g2 : (rd_sg T N p).toInt = 62
    · rw [if_pos (show (rd_sg T N p).toInt = (62 : Int32).toInt by omega), if_pos (Or.inr (Or.inl g2))]
      exact go (Or.inr (Or.inl g2))
    · rw [if_neg (show ¬ (rd_sg T N p).toInt = (62 : Int32).toInt by omega)]
      by_cases g3 : (rd_sg T N p).toInt = 61
      · rw [if_pos (show (rd_sg T N p).toInt = (61 : Int32).toInt by omega), if_pos (Or.inr (Or.inr g3))]
        exact go (Or.inr (Or.inr g3))
      · rw [if_neg (show ¬ (rd_sg T N p).toInt = (61 : Int32).toInt by omega), if_neg (by omega)]
        exact Or.inl (c_fail (f := 1) h2.1 hN rfl (by decide))
theorem cL_if {kl N : Nat} {T : Nat → Int32} {c p : Nat} {s : mh_H} {r : mh_Qn} {z : Int32 × mh_H} (h : mh_cL kl N T c p s r z) : mh_cL kl N T c p s r (if z.1.toInt = 0 then (0, z.2) else (1, z.2)) := by
  have z1 : (1 : Int32).toInt ≠ 0 := by decide
  by_cases g : z.1.toInt = 0
  · rw [if_pos g]
    rcases h with h | ⟨f, e, h2, h3, h4⟩
    · left
      cases r with
      | inl f => exact ⟨kc_0, h.2⟩
      | inr y => exact absurd g h.1
    · exact absurd g h2
  · rw [if_neg g]
    rcases h with h | ⟨f, e, h2, h3, h4⟩
    · left
      cases r with
      | inl f => exact absurd h.1 g
      | inr y => exact ⟨z1, h.2⟩
    · exact Or.inr ⟨f, e, z1, h3, h4⟩
theorem c_pie {kl N : Nat} {T : Nat → Int32} (hl : mh_isL kl) (hN : N ≤ 200) (ht : mh_tx (rd_sg T N) N) {n : Nat} {rc : mh_Rc} {x : Int32} (hn : n ≤ 6) (hx : x.toInt = 6 - (n : Int)) {w : Nat} (hw : w ≤ 31) {sum rch rpi : Nat → mh_Qn} (hf : ∀ (p c : Nat) (s : mh_H), mh_cS kl N T p c s → c ≤ 2 * p → mh_cM kl N T w c p s (sum p) (f_eX4_readSum rc s x)) (ihc : n ≠ 0 → ∀ (x : Int32) (p c : Nat) (s : mh_H), x.toInt = 7 - (n : Int) → mh_cS kl N T p c s → c ≤ 2 * p → mh_cL kl N T c p s (rch p) (rc.2.1 s x)) (ihp : n ≠ 0 → ∀ (x : Int32) (p c : Nat) (s : mh_H), x.toInt = 7 - (n : Int) → mh_cS kl N T p c s → c ≤ 2 * p → mh_cL kl N T c p s (rpi p) (rc.2.2 s x)) (p c : Nat) (s : mh_H) (h : mh_cS kl N T p c s) (hc : c ≤ 2 * p) : mh_cL kl N T c p s (rd_pie (rd_sg T N) n sum rch rpi p) (f_eX4_readPiece rc s x) := by
  have k33 : (33 : Int32).toInt = 33 := rfl
  have k40 : (40 : Int32).toInt = 40 := rfl
  have k41 : (41 : Int32).toInt = 41 := rfl
  have k6 : (6 : Int32).toInt = 6 := rfl
  have z1' : (1 : Int32).toInt ≠ 0 := by decide
  have hkl : 40 ≤ kl ∧ kl + 5 < 56 := by rcases hl with rfl | rfl <;> decide
  have hpN := h.1.2.2.2.2
  have hx1 : n ≠ 0 → (x + 1).toInt = 7 - (n : Int) := fun _ => by
    have k1 : (1 : Int32).toInt = 1 := rfl
    rw [Int32.toInt_add, k1, hx, Int.bmod_eq_of_le (by omega) (by omega)]; omega
  unfold f_eX4_readPiece rd_pie
  simp only [mh_lbE, mh_lb2E]
  rw [c_sg h.1]
  by_cases g1 : (rd_sg T N p).toInt = 33
  · rw [if_pos (show (rd_sg T N p).toInt = (33 : Int32).toInt by omega), if_pos g1]
    have hlt := tx_lt ht (show 0 ≤ (rd_sg T N p).toInt by omega)
    by_cases g2 : n = 0
    · rw [if_neg (show ¬ x.toInt < (6 : Int32).toInt by omega), if_pos g2]
      exact Or.inl (c_fail (f := 5) h.1 hN rfl (by decide))
    · rw [if_pos (show x.toInt < (6 : Int32).toInt by omega), if_neg g2]
      have r1 := ihp g2 (x + 1) (p + 1) c _ (hx1 g2) (cS_adv hl h hlt (c_nx h.1 hN)) (by omega)
      generalize rc.2.2 (mh_pI s 56 3 (s.1 56 3 + 1)) (x + 1) = z at r1 ⊢
      rcases r1 with r1 | ⟨f, e, h2, h3, h4⟩
      · cases e : rpi (p + 1) with
        | inl f =>
          rw [e] at r1
          rw [rb_l, if_pos r1.1]
          exact Or.inl ⟨kc_0, r1.2⟩
        | inr y =>
          rw [e] at r1
          obtain ⟨q1, q2, c', q3, q4, q5, q6, q7⟩ := r1
          have hq := q3.1.2.2.2.2
          rw [if_neg q1, q3.1.2.2.1]
          obtain ⟨s2, e2, b1, b2, b3, b4⟩ := c_put hl q3 (by omega) 33
          rw [e2]
          refine Or.inl ⟨z1', by show p < y.2; omega, c' + 1, b1, kk_tr (kk_tr (kk_56 hl) q4 (Nat.le_refl _)) b2 q5.1, ?_, by show c' + 1 ≤ c + 2 * (y.2 - p); omega, fun q => ?_⟩
          · exact sC_not (sC_cg q5 (fun i a b => b2.1 i b)) b3 (by decide)
          · rw [b4] at q; exact n8_ng (q7 q)
      · rw [e, rb_l, if_neg h2, h4.2.2.1]
        exact Or.inr ⟨f, rfl, z1', h3, c0_put hl h4 33⟩
  · rw [if_neg (show ¬ (rd_sg T N p).toInt = (33 : Int32).toInt by omega), if_neg g1]
    by_cases g3 : (rd_sg T N p).toInt = 40
    · rw [if_pos (show (rd_sg T N p).toInt = (40 : Int32).toInt by omega), if_pos g3]
      have hlt := tx_lt ht (show 0 ≤ (rd_sg T N p).toInt by omega)
      by_cases g2 : n = 0
      · rw [if_neg (show ¬ x.toInt < (6 : Int32).toInt by omega), if_pos g2]
        exact Or.inl (c_fail (f := 5) h.1 hN rfl (by decide))
      · rw [if_pos (show x.toInt < (6 : Int32).toInt by omega), if_neg g2]
        have r1 := ihc g2 (x + 1) (p + 1) c _ (hx1 g2) (cS_adv hl h hlt (c_nx h.1 hN)) (by omega)
        generalize rc.2.1 (mh_pI s 56 3 (s.1 56 3 + 1)) (x + 1) = z at r1 ⊢
        rcases r1 with r1 | ⟨f, e, h2, h3, h4⟩
        · cases e : rch (p + 1) with
          | inl f =>
            rw [e] at r1
            rw [rb_l, if_pos r1.1]
            exact Or.inl ⟨kc_0, r1.2⟩
          | inr y =>
            rw [e] at r1
            obtain ⟨q1, q2, c', q3, q4, q5, q6, q7⟩ := r1
            rw [if_neg q1]
            have tk := c_take q3.1 hN ht 41 (by decide)
            rw [k41] at tk
            generalize f_eX4_take z.2 41 = t at tk ⊢
            show mh_cL kl N T c p s (if (rd_sg T N y.2).toInt = 41 then .inr (y.1, y.2 + 1) else .inl (1, y.2)) _
            by_cases g4 : (rd_sg T N y.2).toInt = 41
            · rw [if_pos g4] at tk ⊢
              obtain ⟨t1, t2, v, t3, t4⟩ := tk
              rw [if_neg t1, t4]
              refine Or.inl ⟨z1', by show p < y.2 + 1; omega, c', cS_adv hl q3 t2 t3, kk_tr (kk_tr (kk_56 hl) q4 (Nat.le_refl _)) (kk_56 hl) (Nat.le_refl _), ?_, by show c' ≤ c + 2 * (y.2 + 1 - p); omega, fun q => q7 ?_⟩
              · exact sC_cg q5 (fun i _ _ => pI_o (by omega))
              · rw [pI_o (by omega)] at q; exact q
            · rw [if_neg g4] at tk ⊢
              rw [if_pos tk.1]
              exact Or.inl ⟨kc_0, tk.2⟩
        · rw [e, rb_l, if_neg h2]
          have tk := c_take h4 hN ht 41 (by decide)
          rw [if_neg (by omega)] at tk
          rw [if_pos tk.1]
          exact Or.inl ⟨kc_0, tk.2⟩
    · rw [if_neg (show ¬ (rd_sg T N p).toInt = (40 : Int32).toInt by omega), if_neg g3]
      unfold rd_cmp
      have r1 := hf p c s h hc
      generalize f_eX4_readSum rc s x = z at r1 ⊢
      cases e : sum p with
      | inl f =>
        rw [e] at r1
        rw [rb_l, if_pos r1.1]
        exact Or.inl ⟨kc_0, r1.2⟩
      | inr y =>
        rw [e] at r1
        obtain ⟨q1, q2, c', q3, q4, q5, q6, q7⟩ := r1
        rw [if_neg q1]
        exact cL_if (c_cpd hl hN ht hw hf hc q2 q3 q4 (sC_w q5 (by omega)) q6 q7)
theorem c_ptl {kl N : Nat} {T : Nat → Int32} (hl : mh_isL kl) (hN : N ≤ 200) (ht : mh_tx (rd_sg T N) N) {rc : mh_Rc} {x : Int32} {pie : Nat → mh_Qn} (hf : ∀ (p c : Nat) (s : mh_H), mh_cS kl N T p c s → c ≤ 2 * p → mh_cL kl N T c p s (pie p) (f_eX4_readPiece rc s x)) {c p0 : Nat} {s0 : mh_H} (hc0 : c ≤ 2 * p0) : ∀ (m : Nat) (A : mh_Dn) (p c1 : Nat) (s : mh_H), p0 < p → N < m + p → mh_cS kl N T p c1 s → mh_kk kl c s0 s → sg_C kl (s.1 (kl + 1)) A 32 c c1 → c1 ≤ c + 2 * (p - p0) → ((s.1 kl 10).toInt = 0 → mh_n8 A) → mh_cL kl N T c p0 s0 (rd_ptl (rd_sg T N) pie m A p) (l_eX4_readPart_10_1 rc x m s) := by
  have k38 : (38 : Int32).toInt = 38 := rfl
  have hkl : 40 ≤ kl ∧ kl + 5 < 56 := by rcases hl with rfl | rfl <;> decide
  have z1 : (1 : Int32).toInt ≠ 0 := by decide
  intro m
  induction m with
  | zero => intro A p c1 s h0 h1 h2; exfalso; have := h2.1.2.2.2.2; omega
  | succ m ih =>
    intro A p c1 s h0 h1 h2 h3 h4 h5 h6
    have hN1 := h2.1.1
    have hp1 := h2.1.2.1
    have hpN := h2.1.2.2.2.2
    rw [l_eX4_readPart_10_1_s, rd_ptl_s]
    unfold ls_eX4_readPart_10_1
    simp only [mh_lbE, mh_lb2E]
    rw [c_sg h2.1]
    by_cases g : p < N
    · rw [if_pos (show (s.1 56 3).toInt < (s.1 56 2).toInt by omega)]
      by_cases g1 : (rd_sg T N p).toInt = 38
      · rw [if_pos (show (rd_sg T N p).toInt = (38 : Int32).toInt by omega), if_pos g1]
        have hS := cS_adv hl h2 g (c_nx h2.1 hN)
        have hkp : mh_kk kl c s0 (mh_pI s 56 3 (s.1 56 3 + 1)) := kk_tr h3 (kk_56 hl) (Nat.le_refl _)
        have hAp : sg_C kl ((mh_pI s 56 3 (s.1 56 3 + 1)).1 (kl + 1)) A 32 c c1 := sC_cg h4 (fun i _ _ => pI_o (by omega))
        have h6p : ((mh_pI s 56 3 (s.1 56 3 + 1)).1 kl 10).toInt = 0 → mh_n8 A := fun q => h6 (by rw [pI_o (by omega)] at q; exact q)
        generalize mh_pI s 56 3 (s.1 56 3 + 1) = sp at hS hkp hAp h6p ⊢
        rw [hS.1.2.2.1]
        unfold f_eX1_putJump
        simp only [mh_lbE]
        obtain ⟨s1, e1, a1, a2, a3, a4⟩ := c_put hl hS (by omega) 38
        rw [e1]
        obtain ⟨s2, e2, b1, b2, b3, b4⟩ := c_put hl a1 (by omega) 0
        rw [e2]
        have hX : (s2.1 kl 8 - 1).toInt = ((c1 + 1 : Nat) : Int) := by
          have k1 : (1 : Int32).toInt = 1 := rfl
          have := b1.2
          rw [Int32.toInt_sub, this, k1, Int.bmod_eq_of_le (by omega) (by omega)]; omega
        generalize s2.1 kl 8 - 1 = X at hX ⊢
        have r1 := hf (p + 1) (c1 + 1 + 1) s2 b1 (by omega)
        generalize f_eX4_readPiece rc s2 x = z at r1 ⊢
        have w3 : ∀ q : mh_H, ¬ (f_eX9_isWithin q X 399).toInt = 0 := fun q z => (fq_within q X 399).1 z (by have k3 : (399 : Int32).toInt = 399 := rfl; omega)
        rcases r1 with r1 | ⟨f, e, v2, v3, v4⟩
        · cases e : pie (p + 1) with
          | inl f =>
            rw [e] at r1
            rw [rb_l, if_pos r1.1]
            exact Or.inl ⟨kc_0, r1.2⟩
          | inr y =>
            rw [e] at r1
            obtain ⟨q1, q2, c', q3, q4, q5, q6, q7⟩ := r1
            have q2 : p + 1 < y.2 := q2
            have q6 : c' ≤ c1 + 1 + 1 + 2 * (y.2 - (p + 1)) := q6
            have hA1 := hAp.1
            have hB1 := q5.1
            rw [if_neg q1, q3.1.2.2.1]
            show mh_cL kl N T c p0 s0 (rd_ptl (rd_sg T N) pie m (rd_an A y.1) y.2) _
            unfold f_eX1_land
            simp only [mh_lbE]
            rw [if_neg (w3 _), ix_n hX]
            refine ih _ y.2 c' _ (by omega) (by omega) ⟨c0_pI q3.1 (by omega) (by omega), ?_⟩ ?_ ?_ (by omega) (fun q => ?_)
            · rw [pI_o (by omega)]; exact q3.2
            · refine kk_tr (kk_tr (kk_tr (kk_tr hkp a2 (by omega)) b2 (by omega)) q4 (by omega)) (c' := c) ⟨fun i hi => ?_, fun i a b => pI_row (by omega), pI_o (by omega), pI_o (by omega), fun q => ?_⟩ (Nat.le_refl _)
              · rw [pI_j (by omega)]
              · rw [pI_o (by omega)] at q; exact q
            · refine sC_and (m := c1) (sC_cg hAp (fun i a b => ?_)) ?_ ?_ (sC_cg q5 (fun i a b => ?_)) (by decide)
              · rw [pI_j (by omega), q4.1 i (by omega), b2.1 i (by omega), a2.1 i (by omega)]
              · rw [pI_j (by omega), q4.1 c1 (by omega), b2.1 c1 (by omega), a3]
              · rw [pI_w]; exact q3.2
              · rw [pI_j (by omega)]
            · rw [pI_o (by omega)] at q
              have q8 := q4.2.2.2.2 q
              rw [b4, a4] at q8
              exact n8_an (h6p q8) (q7 q)
        · rw [e, rb_l, if_neg v2, v4.2.2.1]
          unfold f_eX1_land
          simp only [mh_lbE]
          rw [if_neg (w3 _)]
          have v5 : mh_c0 kl N T f (mh_pI z.2 (kl + 1) X.toNatClampNeg (z.2.1 kl 8)) := c0_pI v4 (by omega) (by omega)
          generalize mh_pI z.2 (kl + 1) X.toNatClampNeg (z.2.1 kl 8) = q at v5 ⊢
          have hN2 := v5.1
          have hp2 := v5.2.1
          obtain ⟨m, rfl⟩ : ∃ k, m = k + 1 := ⟨m - 1, by omega⟩
          rw [l_eX4_readPart_10_1_s]
          unfold ls_eX4_readPart_10_1
          simp only [mh_lbE, mh_lb2E]
          rw [c_sg v5]
          have hlt := tx_lt ht (show 0 ≤ (rd_sg T N f).toInt by omega)
          rw [if_pos (show (q.1 56 3).toInt < (q.1 56 2).toInt by omega), if_neg (show ¬ (rd_sg T N f).toInt = (38 : Int32).toInt by omega)]
          exact Or.inr ⟨f, rfl, z1, v3, v5⟩
      · rw [if_neg (show ¬ (rd_sg T N p).toInt = (38 : Int32).toInt by omega), if_neg g1]
        exact Or.inl ⟨z1, h0, c1, h2, h3, h4, h5, h6⟩
    · have hm1 : (rd_sg T N p).toInt = -1 := by rw [ht.1 p (by omega)]; rfl
      rw [if_neg (show ¬ (s.1 56 3).toInt < (s.1 56 2).toInt by omega), if_neg (by omega)]
      exact Or.inl ⟨z1, h0, c1, h2, h3, h4, h5, h6⟩
theorem c_prt {kl N : Nat} {T : Nat → Int32} (hl : mh_isL kl) (hN : N ≤ 200) (ht : mh_tx (rd_sg T N) N) {rc : mh_Rc} {x : Int32} {pie : Nat → mh_Qn} (hf : ∀ (p c : Nat) (s : mh_H), mh_cS kl N T p c s → c ≤ 2 * p → mh_cL kl N T c p s (pie p) (f_eX4_readPiece rc s x)) (p c : Nat) (s : mh_H) (h : mh_cS kl N T p c s) (hc : c ≤ 2 * p) : mh_cL kl N T c p s (rd_prt (rd_sg T N) pie p) (f_eX4_readPart rc s x) := by
  have k38 : (38 : Int32).toInt = 38 := rfl
  have z1 : (1 : Int32).toInt ≠ 0 := by decide
  unfold f_eX4_readPart rd_prt
  simp only [mh_lbE, mh_lb2E]
  have r1 := hf p c s h hc
  generalize f_eX4_readPiece rc s x = z at r1 ⊢
  obtain ⟨m, hm⟩ : ∃ m : Nat, m = 221 := ⟨_, rfl⟩
  rw [show (222 : Nat) = m + 1 by omega]
  rcases r1 with r1 | ⟨f, e, v2, v3, v4⟩
  · cases e : pie p with
    | inl f =>
      rw [e] at r1
      rw [rb_l, if_pos r1.1]
      exact Or.inl ⟨kc_0, r1.2⟩
    | inr y =>
      rw [e] at r1
      obtain ⟨q1, q2, c', q3, q4, q5, q6, q7⟩ := r1
      have := q3.1.2.2.2.2
      rw [if_neg q1]
      exact c_ptl hl hN ht hf hc (m + 1) y.1 y.2 c' z.2 q2 (by omega) q3 q4 q5 q6 q7
  · rw [e, rb_l, if_neg v2]
    have hN2 := v4.1
    have hp2 := v4.2.1
    rw [l_eX4_readPart_10_1_s]
    unfold ls_eX4_readPart_10_1
    simp only [mh_lbE, mh_lb2E]
    rw [c_sg v4]
    have hlt := tx_lt ht (show 0 ≤ (rd_sg T N f).toInt by omega)
    rw [if_pos (show (z.2.1 56 3).toInt < (z.2.1 56 2).toInt by omega), if_neg (show ¬ (rd_sg T N f).toInt = (38 : Int32).toInt by omega)]
    exact Or.inr ⟨f, rfl, z1, v3, v4⟩
theorem c_chl {kl N : Nat} {T : Nat → Int32} (hl : mh_isL kl) (hN : N ≤ 200) (ht : mh_tx (rd_sg T N) N) {rc : mh_Rc} {x : Int32} {pie : Nat → mh_Qn} (hf : ∀ (p c : Nat) (s : mh_H), mh_cS kl N T p c s → c ≤ 2 * p → mh_cL kl N T c p s (pie p) (f_eX4_readPart rc s x)) {c p0 : Nat} {s0 : mh_H} (hc0 : c ≤ 2 * p0) : ∀ (m : Nat) (A : mh_Dn) (p c1 : Nat) (s : mh_H), p0 < p → N < m + p → mh_cS kl N T p c1 s → mh_kk kl c s0 s → sg_C kl (s.1 (kl + 1)) A 32 c c1 → c1 ≤ c + 2 * (p - p0) → ((s.1 kl 10).toInt = 0 → mh_n8 A) → mh_cL kl N T c p0 s0 (rd_chl (rd_sg T N) pie m A p) (l_eX4_readChoice_10_1 rc x m s) := by
  have k38 : (124 : Int32).toInt = 124 := rfl
  have hkl : 40 ≤ kl ∧ kl + 5 < 56 := by rcases hl with rfl | rfl <;> decide
  have z1 : (1 : Int32).toInt ≠ 0 := by decide
  intro m
  induction m with
  | zero => intro A p c1 s h0 h1 h2; exfalso; have := h2.1.2.2.2.2; omega
  | succ m ih =>
    intro A p c1 s h0 h1 h2 h3 h4 h5 h6
    have hN1 := h2.1.1
    have hp1 := h2.1.2.1
    have hpN := h2.1.2.2.2.2
    rw [l_eX4_readChoice_10_1_s, rd_chl_s]
    unfold ls_eX4_readChoice_10_1
    simp only [mh_lbE, mh_lb2E]
    rw [c_sg h2.1]
    by_cases g : p < N
    · rw [if_pos (show (s.1 56 3).toInt < (s.1 56 2).toInt by omega)]
      by_cases g1 : (rd_sg T N p).toInt = 124
      · rw [if_pos (show (rd_sg T N p).toInt = (124 : Int32).toInt by omega), if_pos g1]
        have hS := cS_adv hl h2 g (c_nx h2.1 hN)
        have hkp : mh_kk kl c s0 (mh_pI s 56 3 (s.1 56 3 + 1)) := kk_tr h3 (kk_56 hl) (Nat.le_refl _)
        have hAp : sg_C kl ((mh_pI s 56 3 (s.1 56 3 + 1)).1 (kl + 1)) A 32 c c1 := sC_cg h4 (fun i _ _ => pI_o (by omega))
        have h6p : ((mh_pI s 56 3 (s.1 56 3 + 1)).1 kl 10).toInt = 0 → mh_n8 A := fun q => h6 (by rw [pI_o (by omega)] at q; exact q)
        generalize mh_pI s 56 3 (s.1 56 3 + 1) = sp at hS hkp hAp h6p ⊢
        rw [hS.1.2.2.1]
        unfold f_eX1_putJump
        simp only [mh_lbE]
        obtain ⟨s1, e1, a1, a2, a3, a4⟩ := c_put hl hS (by omega) 124
        rw [e1]
        obtain ⟨s2, e2, b1, b2, b3, b4⟩ := c_put hl a1 (by omega) 0
        rw [e2]
        have hX : (s2.1 kl 8 - 1).toInt = ((c1 + 1 : Nat) : Int) := by
          have k1 : (1 : Int32).toInt = 1 := rfl
          have := b1.2
          rw [Int32.toInt_sub, this, k1, Int.bmod_eq_of_le (by omega) (by omega)]; omega
        generalize s2.1 kl 8 - 1 = X at hX ⊢
        have r1 := hf (p + 1) (c1 + 1 + 1) s2 b1 (by omega)
        generalize f_eX4_readPart rc s2 x = z at r1 ⊢
        have w3 : ∀ q : mh_H, ¬ (f_eX9_isWithin q X 399).toInt = 0 := fun q z => (fq_within q X 399).1 z (by have k3 : (399 : Int32).toInt = 399 := rfl; omega)
        rcases r1 with r1 | ⟨f, e, v2, v3, v4⟩
        · cases e : pie (p + 1) with
          | inl f =>
            rw [e] at r1
            rw [rb_l, if_pos r1.1]
            exact Or.inl ⟨kc_0, r1.2⟩
          | inr y =>
            rw [e] at r1
            obtain ⟨q1, q2, c', q3, q4, q5, q6, q7⟩ := r1
            have q2 : p + 1 < y.2 := q2
            have q6 : c' ≤ c1 + 1 + 1 + 2 * (y.2 - (p + 1)) := q6
            have hA1 := hAp.1
            have hB1 := q5.1
            rw [if_neg q1, q3.1.2.2.1]
            show mh_cL kl N T c p0 s0 (rd_chl (rd_sg T N) pie m (rd_or A y.1) y.2) _
            unfold f_eX1_land
            simp only [mh_lbE]
            rw [if_neg (w3 _), ix_n hX]
            refine ih _ y.2 c' _ (by omega) (by omega) ⟨c0_pI q3.1 (by omega) (by omega), ?_⟩ ?_ ?_ (by omega) (fun q => ?_)
            · rw [pI_o (by omega)]; exact q3.2
            · refine kk_tr (kk_tr (kk_tr (kk_tr hkp a2 (by omega)) b2 (by omega)) q4 (by omega)) (c' := c) ⟨fun i hi => ?_, fun i a b => pI_row (by omega), pI_o (by omega), pI_o (by omega), fun q => ?_⟩ (Nat.le_refl _)
              · rw [pI_j (by omega)]
              · rw [pI_o (by omega)] at q; exact q
            · refine sC_or (m := c1) (sC_cg hAp (fun i a b => ?_)) ?_ ?_ (sC_cg q5 (fun i a b => ?_)) (by decide)
              · rw [pI_j (by omega), q4.1 i (by omega), b2.1 i (by omega), a2.1 i (by omega)]
              · rw [pI_j (by omega), q4.1 c1 (by omega), b2.1 c1 (by omega), a3]
              · rw [pI_w]; exact q3.2
              · rw [pI_j (by omega)]
            · rw [pI_o (by omega)] at q
              have q8 := q4.2.2.2.2 q
              rw [b4, a4] at q8
              exact n8_or (h6p q8) (q7 q)
        · rw [e, rb_l, if_neg v2, v4.2.2.1]
          unfold f_eX1_land
          simp only [mh_lbE]
          rw [if_neg (w3 _)]
          have v5 : mh_c0 kl N T f (mh_pI z.2 (kl + 1) X.toNatClampNeg (z.2.1 kl 8)) := c0_pI v4 (by omega) (by omega)
          generalize mh_pI z.2 (kl + 1) X.toNatClampNeg (z.2.1 kl 8) = q at v5 ⊢
          have hN2 := v5.1
          have hp2 := v5.2.1
          obtain ⟨m, rfl⟩ : ∃ k, m = k + 1 := ⟨m - 1, by omega⟩
          rw [l_eX4_readChoice_10_1_s]
          unfold ls_eX4_readChoice_10_1
          simp only [mh_lbE, mh_lb2E]
          rw [c_sg v5]
          have hlt := tx_lt ht (show 0 ≤ (rd_sg T N f).toInt by omega)
          rw [if_pos (show (q.1 56 3).toInt < (q.1 56 2).toInt by omega), if_neg (show ¬ (rd_sg T N f).toInt = (124 : Int32).toInt by omega)]
          exact Or.inr ⟨f, rfl, z1, v3, v5⟩
      · rw [if_neg (show ¬ (rd_sg T N p).toInt = (124 : Int32).toInt by omega), if_neg g1]
        exact Or.inl ⟨z1, h0, c1, h2, h3, h4, h5, h6⟩
    · have hm1 : (rd_sg T N p).toInt = -1 := by rw [ht.1 p (by omega)]; rfl
      rw [if_neg (show ¬ (s.1 56 3).toInt < (s.1 56 2).toInt by omega), if_neg (by omega)]
      exact Or.inl ⟨z1, h0, c1, h2, h3, h4, h5, h6⟩
theorem c_chc {kl N : Nat} {T : Nat → Int32} (hl : mh_isL kl) (hN : N ≤ 200) (ht : mh_tx (rd_sg T N) N) {rc : mh_Rc} {x : Int32} {pie : Nat → mh_Qn} (hf : ∀ (p c : Nat) (s : mh_H), mh_cS kl N T p c s → c ≤ 2 * p → mh_cL kl N T c p s (pie p) (f_eX4_readPart rc s x)) (p c : Nat) (s : mh_H) (h : mh_cS kl N T p c s) (hc : c ≤ 2 * p) : mh_cL kl N T c p s (rd_chc (rd_sg T N) pie p) (f_eX4_readChoice rc s x) := by
  have k38 : (124 : Int32).toInt = 124 := rfl
  have z1 : (1 : Int32).toInt ≠ 0 := by decide
  unfold f_eX4_readChoice rd_chc
  simp only [mh_lbE, mh_lb2E]
  have r1 := hf p c s h hc
  generalize f_eX4_readPart rc s x = z at r1 ⊢
  obtain ⟨m, hm⟩ : ∃ m : Nat, m = 221 := ⟨_, rfl⟩
  rw [show (222 : Nat) = m + 1 by omega]
  rcases r1 with r1 | ⟨f, e, v2, v3, v4⟩
  · cases e : pie p with
    | inl f =>
      rw [e] at r1
      rw [rb_l, if_pos r1.1]
      exact Or.inl ⟨kc_0, r1.2⟩
    | inr y =>
      rw [e] at r1
      obtain ⟨q1, q2, c', q3, q4, q5, q6, q7⟩ := r1
      have := q3.1.2.2.2.2
      rw [if_neg q1]
      exact c_chl hl hN ht hf hc (m + 1) y.1 y.2 c' z.2 q2 (by omega) q3 q4 q5 q6 q7
  · rw [e, rb_l, if_neg v2]
    have hN2 := v4.1
    have hp2 := v4.2.1
    rw [l_eX4_readChoice_10_1_s]
    unfold ls_eX4_readChoice_10_1
    simp only [mh_lbE, mh_lb2E]
    rw [c_sg v4]
    have hlt := tx_lt ht (show 0 ≤ (rd_sg T N f).toInt by omega)
    rw [if_pos (show (z.2.1 56 3).toInt < (z.2.1 56 2).toInt by omega), if_neg (show ¬ (rd_sg T N f).toInt = (124 : Int32).toInt by omega)]
    exact Or.inr ⟨f, rfl, z1, v3, v4⟩
/-- the class's conditions, at any depth -/
theorem c_CP {kl N : Nat} {T : Nat → Int32} (hl : mh_isL kl) (hN : N ≤ 200) (ht : mh_tx (rd_sg T N) N) : ∀ n : Nat, n ≤ 6 → ∀ (x : Int32) (p c : Nat) (s : mh_H), x.toInt = 6 - (n : Int) → mh_cS kl N T p c s → c ≤ 2 * p → mh_cL kl N T c p s ((rd_CP (rd_sg T N) (n + 1)).1 p) (f_eX4_readChoice (mh_rcN n) s x) ∧ mh_cL kl N T c p s ((rd_CP (rd_sg T N) (n + 1)).2 p) (f_eX4_readPiece (mh_rcN n) s x) := by
  intro n
  induction n with
  | zero =>
    intro hn x p c s hx h hc
    have hp : ∀ (p c : Nat) (s : mh_H), mh_cS kl N T p c s → c ≤ 2 * p → mh_cL kl N T c p s ((rd_CP (rd_sg T N) 1).2 p) (f_eX4_readPiece (mh_rcN 0) s x) := fun p c s h hc =>
      c_pie hl hN ht hn hx (w := 3) (by decide) (fun p c s h hc => c_S hl hN ht 0 (by decide) x p c s hx h hc) (fun q => absurd rfl q) (fun q => absurd rfl q) p c s h hc
    exact ⟨c_chc hl hN ht (c_prt hl hN ht hp) p c s h hc, hp p c s h hc⟩
  | succ n ih =>
    intro hn x p c s hx h hc
    have e : mh_rcN (n + 1) = (f_eX4_readSum (mh_rcN n), f_eX4_readChoice (mh_rcN n), f_eX4_readPiece (mh_rcN n)) := rfl
    have hS : ∀ (p c : Nat) (s : mh_H), mh_cS kl N T p c s → c ≤ 2 * p → mh_cM kl N T (2 * (n + 1) + 3) c p s (rd_S (rd_sg T N) (n + 1 + 1) p) (f_eX4_readSum (mh_rcN (n + 1)) s x) := fun p c s h hc => c_S hl hN ht (n + 1) hn x p c s hx h hc
    have h1 : n + 1 ≠ 0 → ∀ (x : Int32) (p c : Nat) (s : mh_H), x.toInt = 7 - ((n + 1 : Nat) : Int) → mh_cS kl N T p c s → c ≤ 2 * p → mh_cL kl N T c p s ((rd_CP (rd_sg T N) (n + 1)).1 p) ((mh_rcN (n + 1)).2.1 s x) := fun _ x p c s hx h hc => by
      rw [e]; exact (ih (by omega) x p c s (by omega) h hc).1
    have h2 : n + 1 ≠ 0 → ∀ (x : Int32) (p c : Nat) (s : mh_H), x.toInt = 7 - ((n + 1 : Nat) : Int) → mh_cS kl N T p c s → c ≤ 2 * p → mh_cL kl N T c p s ((rd_CP (rd_sg T N) (n + 1)).2 p) ((mh_rcN (n + 1)).2.2 s x) := fun _ x p c s hx h hc => by
      rw [e]; exact (ih (by omega) x p c s (by omega) h hc).2
    generalize mh_rcN (n + 1) = rc at hS h1 h2 ⊢
    have hp : ∀ (p c : Nat) (s : mh_H), mh_cS kl N T p c s → c ≤ 2 * p → mh_cL kl N T c p s ((rd_CP (rd_sg T N) (n + 1 + 1)).2 p) (f_eX4_readPiece rc s x) := fun p c s h hc => by
      rw [rd_CP_s]
      exact c_pie hl hN ht hn hx (w := 2 * (n + 1) + 3) (by omega) hS h1 h2 p c s h hc
    refine ⟨?_, hp p c s h hc⟩
    rw [rd_CP_s] at hp ⊢
    exact c_chc hl hN ht (c_prt hl hN ht hp) p c s h hc

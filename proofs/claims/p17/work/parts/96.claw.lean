/-- clauses and a whole law, read from the left -/
abbrev mh_QC : Type := Sum (Nat × Nat) (mh_Cl × Nat)
def rd_cl2 (g : Nat → Int32) (ch : Int32) (D : mh_Dn) (r : mh_Qn) : mh_QC := match r with
  | .inl f => .inl f
  | .inr y => if (g y.2).toInt = 41 then .inr ((ch, D, y.1), y.2 + 1) else .inl (1, y.2)
def rd_cl1 (g : Nat → Int32) (ch : Int32) (r : mh_Qn) : mh_QC := match r with
  | .inl f => .inl f
  | .inr x => if (g x.2).toInt = 40 then rd_cl2 g ch x.1 ((rd_CP g 6).1 (x.2 + 1)) else .inl (1, x.2)
def rd_cla (g : Nat → Int32) (cnt p : Nat) : mh_QC :=
  if (mh_ixf 1 (g p)).toInt < 0 then .inl (1, p) else if 14 ≤ cnt then .inl (4, p) else rd_cl1 g (g p) (rd_S g 7 (p + 1))
def rd_law (g : Nat → Int32) (N : Nat) : Nat → List mh_Cl → Nat → Sum (Nat × Nat) (List mh_Cl)
  | 0, _, p => .inl (9, p)
  | n + 1, Ls, p => match rd_cla g Ls.length p with
    | .inl f => .inl f
    | .inr x => if x.2 < N then (if (g x.2).toInt = 59 then rd_law g N n (Ls ++ [x.1]) (x.2 + 1) else .inl (1, x.2)) else .inr (Ls ++ [x.1])
theorem rd_law_s (g : Nat → Int32) (N n : Nat) (Ls : List mh_Cl) (p : Nat) : rd_law g N (n + 1) Ls p = match rd_cla g Ls.length p with
    | .inl f => .inl f
    | .inr x => if x.2 < N then (if (g x.2).toInt = 59 then rd_law g N n (Ls ++ [x.1]) (x.2 + 1) else .inl (1, x.2)) else .inr (Ls ++ [x.1]) := rfl
/-- the class's law kl, as far as it is read: its clauses -/
def mh_cK (kl : Nat) (s : mh_H) (c : Nat) (Ls : List mh_Cl) : Prop := cl_C kl s c 0 Ls ∧ (s.1 kl 7).toInt = (Ls.length : Int) ∧ ((s.1 kl 9).toInt = 0 → ∀ q ∈ Ls, q.1.toInt ≠ 99 ∧ q.1.toInt ≠ 119 ∧ q.1.toInt ≠ 115) ∧ ((s.1 kl 10).toInt = 0 → ∀ q ∈ Ls, mh_n8 q.2.1 ∧ mh_n8 q.2.2)
theorem cK_kk {kl c : Nat} {s s' : mh_H} {Ls : List mh_Cl} (h : mh_cK kl s c Ls) (hk : mh_kk kl c s s') : mh_cK kl s' c Ls := by
  refine ⟨?_, by rw [hk.2.2.1]; exact h.2.1, fun q => h.2.2.1 (by rw [← hk.2.2.2.1]; exact q), fun q => h.2.2.2 (hk.2.2.2.2 q)⟩
  have := clC_ap (s := s) (s' := s') (fun i hi => hk.1 i hi) (Nat.le_refl c) [] Ls 0 (fun k j a b _ => congrFun (hk.2.1 k a b) j) h.1 trivial
  rw [List.append_nil] at this
  exact this
/-- a clause is added -/
theorem c_add {kl N : Nat} {T : Nat → Int32} (hl : mh_isL kl) {p c a b : Nat} {s : mh_H} {ch A B : Int32} {D C : mh_Dn} {Ls : List mh_Cl} (h : mh_cS kl N T p c s) (hn : Ls.length < 14) (hA : A.toInt = (a : Int)) (hB : B.toInt = (b : Int)) (hK : mh_cK kl s a Ls) (h1 : sg_C kl (s.1 (kl + 1)) D 32 a b) (h2 : sg_C kl (s.1 (kl + 1)) C 32 b c) (h8 : (s.1 kl 10).toInt = 0 → mh_n8 D ∧ mh_n8 C) : mh_cS kl N T p c (f_eX1_addClause s kl ch A B) ∧ mh_cK kl (f_eX1_addClause s kl ch A B) c (Ls ++ [(ch, D, C)]) := by
  have hkl : 40 ≤ kl ∧ kl + 5 < 56 := by rcases hl with rfl | rfl <;> decide
  have k14 : (14 : Int32).toInt = 14 := rfl
  have k1 : (1 : Int32).toInt = ((1 : Nat) : Int) := rfl
  have z1 : (1 : Int32).toInt ≠ 0 := by decide
  have c99 : (99 : Int32).toInt = 99 := rfl
  have c119 : (119 : Int32).toInt = 119 := rfl
  have c115 : (115 : Int32).toInt = 115 := rfl
  have h7 := hK.2.1
  have l1 := h1.1
  have l2 := h2.1
  have hadd : (s.1 kl 7 + 1).toInt = ((Ls.length + 1 : Nat) : Int) := ix_add h7 (by omega) k1 (by decide)
  have core : ∀ x9 : Int32, (x9.toInt = 0 → (s.1 kl 9).toInt = 0 ∧ ch.toInt ≠ 99 ∧ ch.toInt ≠ 119 ∧ ch.toInt ≠ 115) → mh_cS kl N T p c (mh_pI (mh_pI (mh_pI (mh_pI (mh_pI (mh_pI s (kl + 2) Ls.length ch) (kl + 3) Ls.length A) (kl + 4) Ls.length B) (kl + 5) Ls.length (s.1 kl 8)) kl 7 (s.1 kl 7 + 1)) kl 9 x9) ∧ mh_cK kl (mh_pI (mh_pI (mh_pI (mh_pI (mh_pI (mh_pI s (kl + 2) Ls.length ch) (kl + 3) Ls.length A) (kl + 4) Ls.length B) (kl + 5) Ls.length (s.1 kl 8)) kl 7 (s.1 kl 7 + 1)) kl 9 x9) c (Ls ++ [(ch, D, C)]) := by
    intro x9 hx9
    have r1 : (mh_pI (mh_pI (mh_pI (mh_pI (mh_pI (mh_pI s (kl + 2) Ls.length ch) (kl + 3) Ls.length A) (kl + 4) Ls.length B) (kl + 5) Ls.length (s.1 kl 8)) kl 7 (s.1 kl 7 + 1)) kl 9 x9).1 (kl + 1) = s.1 (kl + 1) := by
      rw [pI_row (by omega), pI_row (by omega), pI_row (by omega), pI_row (by omega), pI_row (by omega), pI_row (by omega)]
    have rk : ∀ k, 2 ≤ k → k ≤ 5 → (mh_pI (mh_pI (mh_pI (mh_pI (mh_pI (mh_pI s (kl + 2) Ls.length ch) (kl + 3) Ls.length A) (kl + 4) Ls.length B) (kl + 5) Ls.length (s.1 kl 8)) kl 7 (s.1 kl 7 + 1)) kl 9 x9).1 (kl + k) = (mh_pI (mh_pI (mh_pI (mh_pI s (kl + 2) Ls.length ch) (kl + 3) Ls.length A) (kl + 4) Ls.length B) (kl + 5) Ls.length (s.1 kl 8)).1 (kl + k) := fun k _ _ => by
      rw [pI_row (by omega), pI_row (by omega)]
    refine ⟨⟨c0_pI (c0_pI (c0_pI (c0_pI (c0_pI (c0_pI h.1 (by omega) (by omega)) (by omega) (by omega)) (by omega) (by omega)) (by omega) (by omega)) (by omega) (by omega)) (by omega) (by omega), ?_⟩, ?_, ?_, fun q => ?_, fun q => ?_⟩
    · rw [pI_j (by decide), pI_j (by decide), pI_o (by omega), pI_o (by omega), pI_o (by omega), pI_o (by omega)]; exact h.2
    · refine clC_ap (s := s) (fun i _ => congrFun r1 i) (by omega) [(ch, D, C)] Ls 0 (fun k j hk1 hk2 hj => ?_) hK.1 ⟨⟨a, b, c, ?_, ?_, ?_, ?_, Nat.le_refl _, ?_, ?_⟩, trivial⟩
      · rw [rk k hk1 hk2, pI_j (by omega), pI_j (by omega), pI_j (by omega), pI_j (by omega)]
      · rw [rk 2 (by decide) (by decide), Nat.zero_add, pI_o (by omega), pI_o (by omega), pI_o (by omega), pI_w]
      · rw [rk 3 (by decide) (by decide), Nat.zero_add, pI_o (by omega), pI_o (by omega), pI_w]; exact hA
      · rw [rk 4 (by decide) (by decide), Nat.zero_add, pI_o (by omega), pI_w]; exact hB
      · rw [rk 5 (by decide) (by decide), Nat.zero_add, pI_w]; exact h.2
      · rw [r1]; exact h1
      · rw [r1]; exact h2
    · rw [pI_j (by decide), pI_w, List.length_append]; exact hadd
    · rw [pI_w] at q
      have q2 := hx9 q
      intro e he
      rcases List.mem_append.mp he with m | m
      · exact hK.2.2.1 q2.1 e m
      · rw [List.mem_singleton.mp m]; exact q2.2
    · rw [pI_j (by decide), pI_j (by decide), pI_o (by omega), pI_o (by omega), pI_o (by omega), pI_o (by omega)] at q
      intro e he
      rcases List.mem_append.mp he with m | m
      · exact hK.2.2.2 q e m
      · rw [List.mem_singleton.mp m]; exact h8 q
  unfold f_eX1_addClause
  simp only [mh_lbE]
  rw [if_pos (by omega), ix_n h7]
  have e8 : (mh_pI (mh_pI (mh_pI s (kl + 2) Ls.length ch) (kl + 3) Ls.length A) (kl + 4) Ls.length B).1 kl 8 = s.1 kl 8 := by
    rw [pI_o (by omega), pI_o (by omega), pI_o (by omega)]
  rw [e8]
  unfold j_eX1_addClause_62_1
  simp only [mh_lbE]
  have e9 : (mh_pI (mh_pI (mh_pI (mh_pI (mh_pI s (kl + 2) Ls.length ch) (kl + 3) Ls.length A) (kl + 4) Ls.length B) (kl + 5) Ls.length (s.1 kl 8)) kl 7 (s.1 kl 7 + 1)).1 kl 9 = s.1 kl 9 := by
    rw [pI_j (by decide), pI_o (by omega), pI_o (by omega), pI_o (by omega), pI_o (by omega)]
  rw [e9]
  by_cases g : (s.1 kl 9).toInt = 0
  · rw [if_pos g]
    by_cases g1 : ch.toInt = 99
    · rw [if_pos (by omega)]; exact core 1 (fun q => absurd q z1)
    · rw [if_neg (by omega)]
      by_cases g2 : ch.toInt = 119
      · rw [if_pos (by omega)]; exact core 1 (fun q => absurd q z1)
      · rw [if_neg (by omega)]
        by_cases g3 : ch.toInt = 115
        · rw [if_pos (by omega)]; exact core 1 (fun q => absurd q z1)
        · rw [if_neg (by omega)]; exact core 0 (fun _ => ⟨g, g1, g2, g3⟩)
  · rw [if_neg g]; exact core 1 (fun q => absurd q z1)
def mh_cQ (kl N : Nat) (T : Nat → Int32) (p : Nat) (Ls : List mh_Cl) (r : mh_QC) (z : Int32 × mh_H) : Prop := match r with
  | .inl f => z.1.toInt = 0 ∧ (z.2.1 56 4).toInt = -1000 * (f.1 : Int) - (f.2 : Int)
  | .inr x => z.1.toInt ≠ 0 ∧ p < x.2 ∧ Ls.length < 14 ∧ ∃ c' : Nat, mh_cS kl N T x.2 c' z.2 ∧ c' ≤ 2 * x.2 ∧ mh_cK kl z.2 c' (Ls ++ [x.1])
theorem c_cla {kl N : Nat} {T : Nat → Int32} (hl : mh_isL kl) (hN : N ≤ 200) (ht : mh_tx (rd_sg T N) N) {p c : Nat} {s : mh_H} {Ls : List mh_Cl} (h : mh_cS kl N T p c s) (hc : c ≤ 2 * p) (hK : mh_cK kl s c Ls) (hn : Ls.length ≤ 14) : mh_cQ kl N T p Ls (rd_cla (rd_sg T N) Ls.length p) (f_eX4_readClause s) := by
  have hkl : 40 ≤ kl ∧ kl + 5 < 56 := by rcases hl with rfl | rfl <;> decide
  have k14 : (14 : Int32).toInt = 14 := rfl
  have k40 : (40 : Int32).toInt = 40 := rfl
  have k41 : (41 : Int32).toInt = 41 := rfl
  have z1 : (1 : Int32).toInt ≠ 0 := by decide
  have h7 := hK.2.1
  have en : ∀ n, mh_rcN (n + 1) = (f_eX4_readSum (mh_rcN n), f_eX4_readChoice (mh_rcN n), f_eX4_readPiece (mh_rcN n)) := fun _ => rfl
  have e7 : (mh_rcN 7).1 = f_eX4_readSum (mh_rcN 6) := by rw [en 6]
  have e6 : (mh_rcN 6).2.1 = f_eX4_readChoice (mh_rcN 5) := by rw [en 5]
  unfold f_eX4_readClause rd_cla
  rw [e7, e6]
  generalize hr6 : mh_rcN 6 = r6
  generalize hr5 : mh_rcN 5 = r5
  simp only [mh_lbE, mh_lb2E]
  rw [c_sg h.1]
  by_cases g0 : (rd_sg T N p).toInt < 0
  · have hge : N ≤ p := by
      rcases Nat.lt_or_ge p N with q | q
      · have := (ht.2 p q).1; omega
      · exact q
    rw [if_pos g0, if_pos (by rw [ht.1 p hge]; decide)]
    exact c_fail (f := 1) h.1 hN rfl (by decide)
  · rw [if_neg g0]
    have hlt := tx_lt ht (show 0 ≤ (rd_sg T N p).toInt by omega)
    have hb := ht.2 p hlt
    rw [u16_id hb.1 hb.2]
    by_cases g1 : (mh_ixf 1 (rd_sg T N p)).toInt < 0
    · rw [if_pos g1, if_pos g1]
      exact c_fail (f := 1) h.1 hN rfl (by decide)
    · rw [if_neg g1, if_neg g1, h.1.2.2.1]
      by_cases g2 : 14 ≤ Ls.length
      · rw [if_neg (show ¬ (s.1 kl 7).toInt < (14 : Int32).toInt by omega), if_pos g2]
        exact c_fail (f := 4) h.1 hN rfl (by decide)
      · rw [if_pos (show (s.1 kl 7).toInt < (14 : Int32).toInt by omega), if_neg g2]
        have hS := cS_adv hl h hlt (c_nx h.1 hN)
        have hkp : mh_kk kl c s (mh_pI s 56 3 (s.1 56 3 + 1)) := kk_56 hl
        generalize mh_pI s 56 3 (s.1 56 3 + 1) = sp at hS hkp ⊢
        rw [hS.1.2.2.1]
        have r1 := c_S hl hN ht 6 (by decide) 0 (p + 1) c sp rfl hS (by omega)
        rw [hr6] at r1
        generalize f_eX4_readSum r6 sp 0 = z at r1 ⊢
        cases e : rd_S (rd_sg T N) 7 (p + 1) with
        | inl f =>
          rw [e] at r1
          rw [if_pos r1.1]
          exact ⟨kc_0, r1.2⟩
        | inr y =>
          rw [e] at r1
          obtain ⟨q1, q2, c1, q3, q4, q5, q6, q7⟩ := r1
          have q2 : p + 1 < y.2 := q2
          have q6 : c1 ≤ c + 2 * (y.2 - (p + 1)) := q6
          rw [if_neg q1, q3.1.2.2.1]
          have tk := c_take q3.1 hN ht 40 (by decide)
          rw [k40] at tk
          generalize f_eX4_take z.2 40 = t at tk ⊢
          show mh_cQ kl N T p Ls (if (rd_sg T N y.2).toInt = 40 then rd_cl2 (rd_sg T N) (rd_sg T N p) y.1 ((rd_CP (rd_sg T N) 6).1 (y.2 + 1)) else .inl (1, y.2)) _
          by_cases g4 : (rd_sg T N y.2).toInt = 40
          · rw [if_pos g4] at tk ⊢
            obtain ⟨t1, t2, v, t3, t4⟩ := tk
            rw [if_neg t1]
            have hS2 : mh_cS kl N T (y.2 + 1) c1 t.2 := by rw [t4]; exact cS_adv hl q3 t2 t3
            have hk2 : mh_kk kl c1 z.2 t.2 := by rw [t4]; exact kk_56 hl
            have r2 := (c_CP hl hN ht 5 (by decide) 1 (y.2 + 1) c1 t.2 rfl hS2 (by omega)).1
            rw [hr5] at r2
            generalize f_eX4_readChoice r5 t.2 1 = z2 at r2 ⊢
            rcases r2 with r2 | ⟨f, e2, v2, v3, v4⟩
            · cases e2 : (rd_CP (rd_sg T N) 6).1 (y.2 + 1) with
              | inl f =>
                rw [e2] at r2
                rw [if_pos r2.1]
                exact ⟨kc_0, r2.2⟩
              | inr u =>
                rw [e2] at r2
                obtain ⟨p1, p2, c2, p3, p4, p5, p6, p7⟩ := r2
                have p2 : y.2 + 1 < u.2 := p2
                have p6 : c2 ≤ c1 + 2 * (u.2 - (y.2 + 1)) := p6
                rw [if_neg p1]
                have tk2 := c_take p3.1 hN ht 41 (by decide)
                rw [k41] at tk2
                generalize f_eX4_take z2.2 41 = t2' at tk2 ⊢
                show mh_cQ kl N T p Ls (if (rd_sg T N u.2).toInt = 41 then .inr ((rd_sg T N p, y.1, u.1), u.2 + 1) else .inl (1, u.2)) _
                by_cases g5 : (rd_sg T N u.2).toInt = 41
                · rw [if_pos g5] at tk2 ⊢
                  obtain ⟨w1, w2, v', w3, w4⟩ := tk2
                  rw [if_neg w1]
                  have hS3 : mh_cS kl N T (u.2 + 1) c2 t2'.2 := by rw [w4]; exact cS_adv hl p3 w2 w3
                  have hk3 : mh_kk kl c2 z2.2 t2'.2 := by rw [w4]; exact kk_56 hl
                  rw [hS3.1.2.2.1]
                  have l1 := q5.1
                  have l2 := p5.1
                  have f1 : mh_kk kl c s t2'.2 := kk_tr (kk_tr (kk_tr (kk_tr hkp q4 (by omega)) hk2 (by omega)) p4 (by omega)) hk3 (by omega)
                  have f2 : ∀ i, i < c1 → t2'.2.1 (kl + 1) i = z.2.1 (kl + 1) i := fun i hi => (hk3.1 i (by omega)).trans ((p4.1 i hi).trans (hk2.1 i hi))
                  obtain ⟨b1, b2⟩ := c_add (ch := rd_sg T N p) (D := y.1) (C := u.1) hl hS3 (by omega) hS.2 q3.2 (cK_kk hK f1) (sC_w (sC_cg q5 (fun i _ hi => f2 i hi)) (by decide)) (sC_cg p5 (fun i _ hi => hk3.1 i hi)) (fun q => ⟨q7 (hk2.2.2.2.2 (p4.2.2.2.2 (hk3.2.2.2.2 q))), p7 (hk3.2.2.2.2 q)⟩)
                  exact ⟨z1, by show p < u.2 + 1; omega, by omega, c2, b1, by show c2 ≤ 2 * (u.2 + 1); omega, b2⟩
                · rw [if_neg g5] at tk2 ⊢
                  rw [if_pos tk2.1]
                  exact ⟨kc_0, tk2.2⟩
            · rw [e2, if_neg v2]
              have tk2 := c_take v4 hN ht 41 (by decide)
              rw [if_neg (by omega)] at tk2
              rw [if_pos tk2.1]
              exact ⟨kc_0, tk2.2⟩
          · rw [if_neg g4] at tk ⊢
            rw [if_pos tk.1]
            exact ⟨kc_0, tk.2⟩
def mh_cR (kl : Nat) (r : Sum (Nat × Nat) (List mh_Cl)) (z : Int32 × mh_H) : Prop := match r with
  | .inl f => z.1.toInt = -1000 * (f.1 : Int) - (f.2 : Int)
  | .inr Ls => z.1.toInt = (Ls.length : Int) ∧ 0 < Ls.length ∧ mh_LC kl z.2 (mh_lw Ls)
theorem c_rdl {kl N : Nat} {T : Nat → Int32} (hl : mh_isL kl) (hN : N ≤ 200) (ht : mh_tx (rd_sg T N) N) : ∀ (n : Nat) (s : mh_H) (X : Int32) (Ls : List mh_Cl) (p c : Nat), X.toInt = (Ls.length : Int) → Ls.length ≤ 14 → 15 < n + Ls.length → mh_cS kl N T p c s → c ≤ 2 * p → mh_cK kl s c Ls → mh_cR kl (rd_law (rd_sg T N) N n Ls p) (l_eX4_read_34_1 kl n s X) := by
  intro n
  induction n with
  | zero => intro s X Ls p c _ h1 h2; exfalso; omega
  | succ n ih =>
    intro s X Ls p c hX h1 h2 h hc hK
    have k14 : (14 : Int32).toInt = 14 := rfl
    have k59 : (59 : Int32).toInt = 59 := rfl
    rw [l_eX4_read_34_1_s, rd_law_s]
    unfold ls_eX4_read_34_1
    simp only [mh_lbE, mh_lb2E]
    rw [if_neg (by omega)]
    have r1 := c_cla hl hN ht h hc hK h1
    generalize f_eX4_readClause s = z at r1 ⊢
    cases e : rd_cla (rd_sg T N) Ls.length p with
    | inl f =>
      rw [e] at r1
      rw [if_pos r1.1]
      exact r1.2
    | inr x =>
      rw [e] at r1
      obtain ⟨q1, q2, q3, c', q4, q5, q6⟩ := r1
      have hpx := q4.1.2.1
      have hNx := q4.1.1
      rw [if_neg q1]
      show mh_cR kl (if x.2 < N then (if (rd_sg T N x.2).toInt = 59 then rd_law (rd_sg T N) N n (Ls ++ [x.1]) (x.2 + 1) else .inl (1, x.2)) else .inr (Ls ++ [x.1])) _
      by_cases g : x.2 < N
      · rw [if_pos g, if_pos (show (z.2.1 56 3).toInt < (z.2.1 56 2).toInt by omega)]
        have tk := c_take q4.1 hN ht 59 (by decide)
        rw [k59] at tk
        generalize f_eX4_take z.2 59 = t at tk ⊢
        by_cases g4 : (rd_sg T N x.2).toInt = 59
        · rw [if_pos g4] at tk ⊢
          obtain ⟨t1, t2, v, t3, t4⟩ := tk
          rw [if_neg t1]
          have k1 : (1 : Int32).toInt = ((1 : Nat) : Int) := rfl
          have hlen : (Ls ++ [x.1]).length = Ls.length + 1 := List.length_append
          refine ih t.2 (X + 1) (Ls ++ [x.1]) (x.2 + 1) c' ?_ (by omega) (by omega) (by rw [t4]; exact cS_adv hl q4 t2 t3) (by omega) (cK_kk q6 (by rw [t4]; exact kk_56 hl))
          rw [hlen]
          exact ix_add hX (by omega) k1 (by decide)
        · rw [if_neg g4] at tk ⊢
          rw [if_pos tk.1]
          exact tk.2
      · rw [if_neg g, if_neg (show ¬ (z.2.1 56 3).toInt < (z.2.1 56 2).toInt by omega)]
        have hlen : (Ls ++ [x.1]).length = Ls.length + 1 := List.length_append
        have hx4 := q4.1.2.2.2.2
        refine ⟨q6.2.1, by omega, LC_of (B := c') (by omega) q6.1 q6.2.1 (by omega) q6.2.2.1 q6.2.2.2⟩
theorem c_read {kl N : Nat} (hl : mh_isL kl) (hN : N ≤ 200) {s : mh_H} {p : Int32} (hp : p.toInt = (N : Int)) (ht : mh_tx (rd_sg (s.1 38) N) N) : mh_cR kl (rd_law (rd_sg (s.1 38) N) N 16 [] 0) (f_eX4_read s kl p) := by
  have hkl : 40 ≤ kl ∧ kl + 5 < 56 := by rcases hl with rfl | rfl <;> decide
  have k220 : (220 : Int32).toInt = 220 := rfl
  unfold f_eX4_read f_eX1_clear
  simp only [mh_lbE]
  obtain ⟨n, hn⟩ : ∃ n : Nat, n = 16 := ⟨_, rfl⟩
  rw [show (16 : Nat) = n by omega]
  refine c_rdl hl hN ht n _ 0 [] 0 0 rfl (by decide) (by rw [List.length_nil]; omega) ⟨⟨?_, ?_, ?_, ?_, Nat.zero_le _⟩, ?_⟩ (Nat.le_refl _) ⟨trivial, ?_, fun _ q hq => absurd hq (by simp), fun _ q hq => absurd hq (by simp)⟩
  · rw [pI_o (by omega), pI_o (by omega), pI_o (by omega), pI_o (by omega), pI_j (by decide), pI_j (by decide), pI_w, mh_mi32_i]; omega
  · rw [pI_o (by omega), pI_o (by omega), pI_o (by omega), pI_o (by omega), pI_j (by decide), pI_w]; rfl
  · show (mh_pR s 56 1 kl).2.2 56 1 = kl
    rfl
  · rw [pI_row (by omega), pI_row (by omega), pI_row (by omega), pI_row (by omega), pI_row (by decide), pI_row (by decide), pI_row (by decide)]; rfl
  · rw [pI_j (by decide), pI_j (by decide), pI_w]; rfl
  · rw [pI_j (by decide), pI_j (by decide), pI_j (by decide), pI_w]; rfl

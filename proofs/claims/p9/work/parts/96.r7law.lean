/-- the reference's clauses -/
def mh_rz0 (N : Nat) (T : Nat → Int32) (p k : Nat) (s : mh_H) : Prop := (s.1 57 23).toInt = (p : Int) ∧ (s.1 57 24).toInt = (N : Int) ∧ s.1 57 25 = 0 ∧ (s.1 57 27).toInt = (k : Int) ∧ (∀ i, s.1 58 i &&& 255 = T i) ∧ p ≤ N
def mh_rK (s : mh_H) (k : Nat) (Ls : List mh_Cl) : Prop := cl_R 70 s (s.1 74) (s.1 75) k 0 Ls ∧ (s.1 57 26).toInt = (Ls.length : Int)
theorem r0_P {N : Nat} {T : Nat → Int32} {p k d : Nat} {st : List Int32} {s : mh_H} (h : mh_rP N T p st k d s) : mh_rz0 N T p k s := ⟨h.1, h.2.1, h.2.2.1, h.2.2.2.1, h.2.2.2.2.2.2.2.1, h.2.2.2.2.2.2.2.2⟩
theorem P_r0 {N : Nat} {T : Nat → Int32} {p k : Nat} {s : mh_H} (h : mh_rz0 N T p k s) : mh_rP N T p [] k 0 (mh_pI (mh_pI s 57 29 0) 57 28 0) :=
  ⟨by rw [pI_j (by decide), pI_j (by decide)]; exact h.1, by rw [pI_j (by decide), pI_j (by decide)]; exact h.2.1, by rw [pI_j (by decide), pI_j (by decide)]; exact h.2.2.1, by rw [pI_j (by decide), pI_j (by decide)]; exact h.2.2.2.1, by rw [pI_w]; rfl, by rw [pI_j (by decide), pI_w]; rfl, trivial, fun i => by rw [pI_o (by decide), pI_o (by decide)]; exact h.2.2.2.2.1 i, h.2.2.2.2.2⟩
theorem r0_23 {N : Nat} {T : Nat → Int32} {p p' k : Nat} {s : mh_H} {x : Int32} (h : mh_rz0 N T p k s) (hx : x.toInt = (p' : Int)) (hp : p' ≤ N) : mh_rz0 N T p' k (mh_pI s 57 23 x) :=
  ⟨by rw [pI_w]; exact hx, by rw [pI_j (by decide)]; exact h.2.1, by rw [pI_j (by decide)]; exact h.2.2.1, by rw [pI_j (by decide)]; exact h.2.2.2.1, fun i => by rw [pI_o (by decide)]; exact h.2.2.2.2.1 i, hp⟩
theorem r0_o {N : Nat} {T : Nat → Int32} {p k a j : Nat} {s : mh_H} {x : Int32} (h : mh_rz0 N T p k s) (ha : a ≠ 57) (hb : a ≠ 58) : mh_rz0 N T p k (mh_pI s a j x) := by
  have e57 : (mh_pI s a j x).1 57 = s.1 57 := pI_row (fun q => ha q.symm)
  have e58 : (mh_pI s a j x).1 58 = s.1 58 := pI_row (fun q => hb q.symm)
  unfold mh_rz0
  rw [e57, e58]
  exact h
theorem r0_here {N : Nat} {T : Nat → Int32} {p k : Nat} {s : mh_H} (h : mh_rz0 N T p k s) : f_eX10_here s = rd_hr T N p := by
  have h1 := h.1
  have h2 := h.2.1
  unfold f_eX10_here rd_hr
  simp only [mh_lbE]
  by_cases g : p < N
  · rw [if_pos (by omega), if_pos g, ix_n h1]
    exact h.2.2.2.2.1 p
  · rw [if_neg (by omega), if_neg g]
theorem r0_wr {N : Nat} {T : Nat → Int32} {p k : Nat} {s : mh_H} (h : mh_rz0 N T p k s) {F P : Int32} {f q : Nat} (hF : F.toInt = (f : Int)) (hf : f ≤ 9) (hP : P.toInt = (q : Int)) (hq : q ≤ 300) : mh_bfl f q (f_eX10_wrongs s F P) := by
  have km : (-1000 : Int32).toInt = -1000 := rfl
  unfold f_eX10_wrongs mh_bfl
  simp only [mh_lbE]
  rw [if_neg (by rw [h.2.2.1]; decide), pI_w]
  have e1 : ((-1000 : Int32) * F).toInt = -1000 * (f : Int) := by
    rw [Int32.toInt_mul, km, hF, Int.bmod_eq_of_le (by omega) (by omega)]
  rw [Int32.toInt_sub, e1, hP, Int.bmod_eq_of_le (by omega) (by omega)]
theorem r0_good {N : Nat} {T : Nat → Int32} {p k : Nat} {s : mh_H} (h : mh_rz0 N T p k s) : ¬ (f_eX10_isGood s).toInt = 0 := fun q => (fq_good s).1 q (by rw [h.2.2.1]; rfl)
theorem bf_o {f q a j : Nat} {s : mh_H} {x : Int32} (h : mh_bfl f q s) (ha : a ≠ 57) : mh_bfl f q (mh_pI s a j x) := by
  unfold mh_bfl
  rw [pI_o (fun e => ha e.symm)]
  exact h
def mh_rQ (N : Nat) (T : Nat → Int32) (Ls : List mh_Cl) (r : mh_QC) (z : mh_H) : Prop := match r with
  | .inl f => mh_bfl f.1 f.2 z ∧ 0 < f.1
  | .inr x => Ls.length < 14 ∧ ∃ k' : Nat, mh_rz0 N T x.2 k' z ∧ mh_rK z k' (Ls ++ [x.1]) ∧ k' ≤ x.2
theorem q_cla {N : Nat} {T : Nat → Int32} (hN : N ≤ 200) (ht : mh_tx (rd_sg T N) N) {p k : Nat} {s : mh_H} {Ls : List mh_Cl} (h : mh_rz0 N T p k s) (hk : k ≤ p) (hK : mh_rK s k Ls) (hn : Ls.length ≤ 14) : mh_rQ N T Ls (rd_cla (rd_sg T N) Ls.length p) (f_eX10_clause s) := by
  have k1 : (1 : Int32).toInt = ((1 : Nat) : Int) := rfl
  have k14 : (14 : Int32).toInt = 14 := rfl
  have hpN := h.2.2.2.2.2
  have h26 := hK.2
  unfold f_eX10_clause rd_cla
  simp only [mh_lbE, mh_lb2E]
  rw [r0_here h]
  have es : f_eX10_isClause s (rd_hr T N p) = f_eX10_isClause lx_s0 (rd_hr T N p) := rfl
  rw [es]
  have ic : (mh_ixf 1 (rd_sg T N p)).toInt < 0 ↔ (f_eX10_isClause lx_s0 (rd_hr T N p)).toInt = 0 := by
    by_cases g : p < N
    · rw [hr_lt g]
      exact ix_cla (ht.2 p g).1 (ht.2 p g).2
    · rw [ht.1 p (by omega), show rd_hr T N p = 0 from if_neg g]
      exact ⟨fun _ => by decide, fun _ => by decide⟩
  by_cases g1 : (mh_ixf 1 (rd_sg T N p)).toInt < 0
  · rw [if_pos g1, if_pos (ic.1 g1)]
    exact ⟨r0_wr (f := 1) (q := p) h rfl (by decide) h.1 (by omega), show 0 < 1 by decide⟩
  · rw [if_neg g1, if_neg (fun z => g1 (ic.2 z))]
    have hlt : p < N := by
      rcases Nat.lt_or_ge p N with q | q
      · exact q
      · rw [ht.1 p q] at g1; exact absurd (show (mh_ixf 1 (-1)).toInt < 0 by decide) g1
    by_cases g2 : 14 ≤ Ls.length
    · rw [if_pos g2, if_pos (show (s.1 57 26).toInt = (14 : Int32).toInt by omega)]
      exact ⟨r0_wr (f := 4) (q := p) h rfl (by decide) h.1 (by omega), show 0 < 4 by decide⟩
    · rw [if_neg g2, if_neg (show ¬ (s.1 57 26).toInt = (14 : Int32).toInt by omega), hr_lt hlt, ix_n h26]
      have a1 : mh_rz0 N T (p + 1) k (mh_pI (mh_pI (mh_pI s 70 Ls.length (rd_sg T N p)) 71 Ls.length (s.1 57 27)) 57 23 (s.1 57 23 + 1)) := r0_23 (r0_o (r0_o h (by decide) (by decide)) (by decide) (by decide)) (ix_add h.1 (by omega) k1 (by decide)) (by omega)
      have q70 : ∀ i, i < Ls.length → (mh_pI (mh_pI (mh_pI s 70 Ls.length (rd_sg T N p)) 71 Ls.length (s.1 57 27)) 57 23 (s.1 57 23 + 1)).1 70 i = s.1 70 i ∧ (mh_pI (mh_pI (mh_pI s 70 Ls.length (rd_sg T N p)) 71 Ls.length (s.1 57 27)) 57 23 (s.1 57 23 + 1)).1 71 i = s.1 71 i := fun i hi => ⟨by rw [pI_o (by decide), pI_o (by decide), pI_j (by omega)], by rw [pI_o (by decide), pI_j (by omega), pI_o (by decide)]⟩
      have q72 : (mh_pI (mh_pI (mh_pI s 70 Ls.length (rd_sg T N p)) 71 Ls.length (s.1 57 27)) 57 23 (s.1 57 23 + 1)).1 72 = s.1 72 := by rw [pI_row (by decide), pI_row (by decide), pI_row (by decide)]
      have q73 : (mh_pI (mh_pI (mh_pI s 70 Ls.length (rd_sg T N p)) 71 Ls.length (s.1 57 27)) 57 23 (s.1 57 23 + 1)).1 73 = s.1 73 := by rw [pI_row (by decide), pI_row (by decide), pI_row (by decide)]
      have q74 : (mh_pI (mh_pI (mh_pI s 70 Ls.length (rd_sg T N p)) 71 Ls.length (s.1 57 27)) 57 23 (s.1 57 23 + 1)).1 74 = s.1 74 := by rw [pI_row (by decide), pI_row (by decide), pI_row (by decide)]
      have q75 : (mh_pI (mh_pI (mh_pI s 70 Ls.length (rd_sg T N p)) 71 Ls.length (s.1 57 27)) 57 23 (s.1 57 23 + 1)).1 75 = s.1 75 := by rw [pI_row (by decide), pI_row (by decide), pI_row (by decide)]
      have w70 : (mh_pI (mh_pI (mh_pI s 70 Ls.length (rd_sg T N p)) 71 Ls.length (s.1 57 27)) 57 23 (s.1 57 23 + 1)).1 70 Ls.length = rd_sg T N p := by rw [pI_o (by decide), pI_o (by decide), pI_w]
      have w71 : (mh_pI (mh_pI (mh_pI s 70 Ls.length (rd_sg T N p)) 71 Ls.length (s.1 57 27)) 57 23 (s.1 57 23 + 1)).1 71 Ls.length = s.1 57 27 := by rw [pI_o (by decide), pI_w]
      have w26 : (mh_pI (mh_pI (mh_pI s 70 Ls.length (rd_sg T N p)) 71 Ls.length (s.1 57 27)) 57 23 (s.1 57 23 + 1)).1 57 26 = s.1 57 26 := by rw [pI_j (by decide), pI_o (by decide), pI_o (by decide)]
      generalize mh_pI (mh_pI (mh_pI s 70 Ls.length (rd_sg T N p)) 71 Ls.length (s.1 57 27)) 57 23 (s.1 57 23 + 1) = t at a1 q70 q72 q73 q74 q75 w70 w71 w26 ⊢
      have a2 := P_r0 a1
      have kp : mh_rk k t (mh_pI (mh_pI t 57 29 0) 57 28 0) := rk_tr (rk_57 (by decide)) (rk_57 (by decide)) (Nat.le_refl k)
      generalize mh_pI (mh_pI t 57 29 0) 57 28 0 = u at a2 kp ⊢
      have k0 := kc_0
      have nf : ¬ mh_fo 1 (mh_tp1 []) := by
        show ¬ mh_fo 1 0
        unfold mh_fo
        omega
      have v1 := v_val hN ht (n := 6) (d := 0) rfl nf (show (0 : Int32).toInt ≠ 91 by decide) a2 (by show k + 0 ≤ p + 1; omega)
      generalize f_eX10_value u = v at v1 ⊢
      cases e1 : rd_S (rd_sg T N) 7 (p + 1) with
      | inl f =>
        rw [e1] at v1
        have hb2 : mh_bfl f.1 f.2 (mh_pI v 72 Ls.length (v.1 57 27)) := bf_o v1.1 (by decide)
        rw [if_pos (bf_bad hb2 v1.2)]
        exact ⟨bf_31 (bf_o hb2 (by decide)) (by decide), v1.2⟩
      | inr x =>
        rw [e1] at v1
        have v1 : if (rd_sg T N x.2).toInt = 93 then mh_bfl 1 x.2 v else ∃ k' : Nat, mh_rP N T x.2 [] k' 0 v ∧ mh_rk k u v ∧ v.1 57 30 = u.1 57 30 ∧ sg_P (v.1 74) (v.1 75) x.1 k k' ∧ k ≤ k' ∧ k' + 0 ≤ x.2 := v1
        show mh_rQ N T Ls (if (rd_sg T N x.2).toInt = 40 then rd_cl2 (rd_sg T N) (rd_sg T N p) x.1 ((rd_CP (rd_sg T N) 6).1 (x.2 + 1)) else .inl (1, x.2)) _
        by_cases g3 : (rd_sg T N x.2).toInt = 93
        · rw [if_pos g3] at v1
          rw [if_neg (show ¬ (rd_sg T N x.2).toInt = 40 by omega)]
          have hb2 : mh_bfl 1 x.2 (mh_pI v 72 Ls.length (v.1 57 27)) := bf_o v1 (by decide)
          rw [if_pos (bf_bad hb2 (by decide))]
          exact ⟨bf_31 (bf_o hb2 (by decide)) (by decide), show 0 < 1 by decide⟩
        · rw [if_neg g3] at v1
          obtain ⟨k2, b1, b2, b3, b4, b5, b6⟩ := v1
          have b7 := rP_o (a := 72) (j := Ls.length) (x := v.1 57 27) b1 (by decide) (by decide) (by decide)
          rw [if_neg (rP_good b7)]
          have qc := q_con hN ht b7 (by omega)
          have c74 : (mh_pI v 72 Ls.length (v.1 57 27)).1 74 = v.1 74 := pI_row (by decide)
          have c75 : (mh_pI v 72 Ls.length (v.1 57 27)).1 75 = v.1 75 := pI_row (by decide)
          have c70 : (mh_pI v 72 Ls.length (v.1 57 27)).1 70 = v.1 70 := pI_row (by decide)
          have c71 : (mh_pI v 72 Ls.length (v.1 57 27)).1 71 = v.1 71 := pI_row (by decide)
          have c73 : (mh_pI v 72 Ls.length (v.1 57 27)).1 73 = v.1 73 := pI_row (by decide)
          have c72 : ∀ i, i < Ls.length → (mh_pI v 72 Ls.length (v.1 57 27)).1 72 i = v.1 72 i := fun i hi => pI_j (by omega)
          have w72 : (mh_pI v 72 Ls.length (v.1 57 27)).1 72 Ls.length = v.1 57 27 := pI_w
          have c26 : (mh_pI v 72 Ls.length (v.1 57 27)).1 57 26 = v.1 57 26 := pI_o (by decide)
          generalize mh_pI v 72 Ls.length (v.1 57 27) = v' at qc b7 c74 c75 c70 c71 c72 c73 w72 c26 ⊢
          generalize f_eX10_condition v' = w at qc ⊢
          by_cases g4 : (rd_sg T N x.2).toInt = 40
          · rw [if_pos g4] at qc ⊢
            have hmx := S_mo ht 7 (p + 1) x.1 x.2 e1
            cases e2 : (rd_CP (rd_sg T N) 6).1 (x.2 + 1) with
            | inl f =>
              rw [e2] at qc
              exact ⟨bf_31 (bf_o qc.1 (by decide)) (by decide), qc.2⟩
            | inr y =>
              rw [e2] at qc
              have qc : if (rd_sg T N y.2).toInt = 41 then ∃ k' : Nat, mh_rP N T (y.2 + 1) [] k' 0 w ∧ mh_rk k2 v' w ∧ sg_P (w.1 74) (w.1 75) y.1 k2 k' ∧ k2 ≤ k' ∧ k' ≤ y.2 + 1 else mh_bfl 1 y.2 w := qc
              show mh_rQ N T Ls (if (rd_sg T N y.2).toInt = 41 then .inr ((rd_sg T N p, x.1, y.1), y.2 + 1) else .inl (1, y.2)) _
              by_cases g5 : (rd_sg T N y.2).toInt = 41
              · rw [if_pos g5] at qc ⊢
                obtain ⟨k3, d1, d2, d3, d4, d5⟩ := qc
                have mby := (CP_mb (g := rd_sg T N) 6).1 _ _ _ e2
                refine ⟨by omega, k3, r0_P (rP_j (rP_o d1 (by decide) (by decide) (by decide)) (by decide)), ⟨?_, ?_⟩, d5⟩
                · have z74 : (mh_pI (mh_pI w 73 Ls.length (w.1 57 27)) 57 26 (s.1 57 26 + 1)).1 74 = w.1 74 := by rw [pI_row (by decide), pI_row (by decide)]
                  have z75 : (mh_pI (mh_pI w 73 Ls.length (w.1 57 27)) 57 26 (s.1 57 26 + 1)).1 75 = w.1 75 := by rw [pI_row (by decide), pI_row (by decide)]
                  have z70 : (mh_pI (mh_pI w 73 Ls.length (w.1 57 27)) 57 26 (s.1 57 26 + 1)).1 70 = w.1 70 := by rw [pI_row (by decide), pI_row (by decide)]
                  have z71 : (mh_pI (mh_pI w 73 Ls.length (w.1 57 27)) 57 26 (s.1 57 26 + 1)).1 71 = w.1 71 := by rw [pI_row (by decide), pI_row (by decide)]
                  have z72 : (mh_pI (mh_pI w 73 Ls.length (w.1 57 27)) 57 26 (s.1 57 26 + 1)).1 72 = w.1 72 := by rw [pI_row (by decide), pI_row (by decide)]
                  have z73 : ∀ i, i < Ls.length → (mh_pI (mh_pI w 73 Ls.length (w.1 57 27)) 57 26 (s.1 57 26 + 1)).1 73 i = w.1 73 i := fun i hi => by rw [pI_o (by decide), pI_j (by omega)]
                  have y73 : (mh_pI (mh_pI w 73 Ls.length (w.1 57 27)) 57 26 (s.1 57 26 + 1)).1 73 Ls.length = w.1 57 27 := by rw [pI_o (by decide), pI_w]
                  have r70 : w.1 70 = t.1 70 := (d2.2.1 70 (by decide) (by decide)).trans (c70.trans ((b2.2.1 70 (by decide) (by decide)).trans (kp.2.1 70 (by decide) (by decide))))
                  have r71 : w.1 71 = t.1 71 := (d2.2.1 71 (by decide) (by decide)).trans (c71.trans ((b2.2.1 71 (by decide) (by decide)).trans (kp.2.1 71 (by decide) (by decide))))
                  have r72 : ∀ i, i < Ls.length → w.1 72 i = s.1 72 i := fun i hi => by
                    rw [d2.2.1 72 (by decide) (by decide), c72 i hi, b2.2.1 72 (by decide) (by decide), kp.2.1 72 (by decide) (by decide), q72]
                  have r73 : w.1 73 = s.1 73 := (d2.2.1 73 (by decide) (by decide)).trans (c73.trans ((b2.2.1 73 (by decide) (by decide)).trans ((kp.2.1 73 (by decide) (by decide)).trans q73)))
                  have cod : ∀ i, i < k → w.1 74 i = s.1 74 i ∧ w.1 75 i = s.1 75 i := fun i hi => by
                    have t1 := d2.1 i (by omega)
                    have t2 := b2.1 i hi
                    have t3 := kp.1 i hi
                    rw [t1.1, t1.2, c74, c75, t2.1, t2.2, t3.1, t3.2, q74, q75]
                    exact ⟨rfl, rfl⟩
                  have cod2 : ∀ i, i < k2 → w.1 74 i = v.1 74 i ∧ w.1 75 i = v.1 75 i := fun i hi => by
                    have t1 := d2.1 i hi
                    rw [t1.1, t1.2, c74, c75]
                    exact ⟨rfl, rfl⟩
                  rw [z74, z75]
                  refine clR_ap (k0 := 70) (s := s) (kr := s.1 74) (wr := s.1 75) cod (by omega) [(rd_sg T N p, x.1, y.1)] Ls 0 (fun kk j hkk hj => ?_) hK.1 ⟨⟨k, k2, k3, ?_, ?_, ?_, ?_, Nat.le_refl _, mby, ?_, ?_⟩, trivial⟩
                  · have hj : j < Ls.length := by omega
                    have : kk = 0 ∨ kk = 1 ∨ kk = 2 ∨ kk = 3 := by omega
                    rcases this with rfl | rfl | rfl | rfl
                    · exact (congrFun z70 j).trans ((congrFun r70 j).trans (q70 j hj).1)
                    · exact (congrFun z71 j).trans ((congrFun r71 j).trans (q70 j hj).2)
                    · exact (congrFun z72 j).trans (r72 j hj)
                    · exact (z73 j hj).trans (congrFun r73 j)
                  · rw [Nat.zero_add]; exact (congrFun z70 _).trans ((congrFun r70 _).trans w70)
                  · rw [Nat.zero_add]
                    have : (mh_pI (mh_pI w 73 Ls.length (w.1 57 27)) 57 26 (s.1 57 26 + 1)).1 71 Ls.length = s.1 57 27 := (congrFun z71 _).trans ((congrFun r71 _).trans w71)
                    exact (congrArg Int32.toInt this).trans h.2.2.2.1
                  · rw [Nat.zero_add]
                    have : (mh_pI (mh_pI w 73 Ls.length (w.1 57 27)) 57 26 (s.1 57 26 + 1)).1 72 Ls.length = v.1 57 27 := (congrFun z72 _).trans ((congrFun (d2.2.1 72 (by decide) (by decide)) _).trans w72)
                    exact (congrArg Int32.toInt this).trans b1.2.2.2.1
                  · rw [Nat.zero_add]
                    exact (congrArg Int32.toInt y73).trans d1.2.2.2.1
                  · exact sP_cg b4 (fun i _ hi => cod2 i hi)
                  · exact d3
                · rw [pI_w, List.length_append]
                  show (s.1 57 26 + 1).toInt = ((Ls.length + 1 : Nat) : Int)
                  exact ix_add h26 (by omega) k1 (by decide)
              · rw [if_neg g5] at qc ⊢
                exact ⟨bf_31 (bf_o qc (by decide)) (by decide), show 0 < 1 by decide⟩
          · rw [if_neg g4] at qc ⊢
            exact ⟨bf_31 (bf_o qc (by decide)) (by decide), show 0 < 1 by decide⟩

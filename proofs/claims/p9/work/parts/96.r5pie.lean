/-- what reading a piece of a condition comes to -/
def cd_R (N : Nat) (T : Nat → Int32) (d : Nat) (st : List Int32) (k : Nat) (s : mh_H) (C : List Int32 → Nat → Prop) (r : mh_Qn) (z : mh_H) : Prop := match r with
  | .inl f => mh_bfl f.1 f.2 z ∧ 0 < f.1
  | .inr x => ∃ (P : List Int32) (m' : Nat) (s' : mh_H) (k' : Nat), z = cd_B m' s' ∧ mh_rP N T x.2 (P ++ st) k' d s' ∧ N < m' + x.2 ∧ mh_rk k s s' ∧ s'.1 57 30 = 0 ∧ mh_pnd (s'.1 74) (s'.1 75) x.1 k k' P ∧ k ≤ k' ∧ k' + P.length + st.length ≤ x.2 ∧ C P x.2
def cd_Cp (T : Nat → Int32) (N : Nat) (P : List Int32) (q : Nat) : Prop := (∀ x ∈ P, mh_jo 0 x) ∧ ¬ mh_jo 0 (rd_sg T N q)
def cd_Cc (T : Nat → Int32) (N : Nat) (P : List Int32) (q : Nat) : Prop := (∀ x ∈ P, mh_jo 1 x) ∧ ¬ mh_jo 1 (rd_sg T N q)
def cd_W (N : Nat) (T : Nat → Int32) (e b : Nat) (st : List Int32) (k : Nat) (s : mh_H) (r : mh_Qn) (z : mh_H) : Prop := match r with
  | .inl f => mh_bfl f.1 f.2 z ∧ 0 < f.1
  | .inr x => ∃ (m' : Nat) (s' : mh_H) (k' : Nat), z = cd_B m' s' ∧ mh_rP N T x.2 st k' e s' ∧ N < m' + x.2 ∧ mh_rk k s s' ∧ s'.1 57 30 = 0 ∧ sg_P (s'.1 74) (s'.1 75) (rd_ngs b x.1) k k' ∧ k ≤ k' ∧ k' + st.length ≤ x.2
def mh_PW (N : Nat) (T : Nat → Int32) (d : Nat) (pie : Nat → mh_Qn) : Prop := ∀ (e p : Nat) (B st : List Int32) (k : Nat) (s : mh_H) (j m : Nat), e + B.length = d → (∀ x ∈ B, x.toInt = 33) → ((mh_tp1 st).toInt = 40 ∨ (mh_tp1 st).toInt = 38 ∨ (mh_tp1 st).toInt = 124) → mh_rP N T p (B ++ st) k d s → s.1 57 30 = 0 → N < j + p → N ≤ m + p → k + B.length + st.length ≤ p → cd_W N T e B.length st k s (pie p) (cd_P j m s)
def mh_AW (N : Nat) (T : Nat → Int32) (d : Nat) (prt : Nat → mh_Qn) : Prop := ∀ (p : Nat) (st : List Int32) (k : Nat) (s : mh_H) (j m : Nat), ((mh_tp1 st).toInt = 40 ∨ (mh_tp1 st).toInt = 124) → mh_rP N T p st k d s → s.1 57 30 = 0 → N < j + p → N ≤ m + p → k + st.length ≤ p → cd_R N T d st k s (cd_Cp T N) (prt p) (cd_P j m s)
def mh_CW (N : Nat) (T : Nat → Int32) (d : Nat) (chc : Nat → mh_Qn) : Prop := ∀ (p : Nat) (st : List Int32) (k : Nat) (s : mh_H) (j m : Nat), (mh_tp1 st).toInt = 40 → mh_rP N T p st k d s → s.1 57 30 = 0 → N < j + p → N ≤ m + p → k + st.length ≤ p → cd_R N T d st k s (cd_Cc T N) (chc p) (cd_P j m s)
theorem tp_ap {B st : List Int32} (hB : ∀ x ∈ B, x.toInt = 33) (hs : (mh_tp1 st).toInt = 40 ∨ (mh_tp1 st).toInt = 38 ∨ (mh_tp1 st).toInt = 124) : ¬ mh_fo 1 (mh_tp1 (B ++ st)) ∧ (mh_tp1 (B ++ st)).toInt ≠ 91 := by
  cases B with
  | nil =>
    show ¬ mh_fo 1 (mh_tp1 st) ∧ (mh_tp1 st).toInt ≠ 91
    unfold mh_fo
    omega
  | cons x B =>
    have := hB x (List.mem_cons_self ..)
    show ¬ mh_fo 1 x ∧ x.toInt ≠ 91
    unfold mh_fo
    omega
theorem tp_ne {st : List Int32} (hs : (mh_tp1 st).toInt = 40 ∨ (mh_tp1 st).toInt = 38 ∨ (mh_tp1 st).toInt = 124) : 0 < st.length := by
  cases st with
  | nil =>
    have e : (mh_tp1 []).toInt = 0 := kc_0
    omega
  | cons x r => rw [List.length_cons]; omega
theorem q_pie {N : Nat} {T : Nat → Int32} (hN : N ≤ 200) (ht : mh_tx (rd_sg T N) N) {n d : Nat} (hd : n + d = 6) {rch rpi : Nat → mh_Qn} (ihc : n ≠ 0 → mh_CW N T (d + 1) rch) (ihp : n ≠ 0 → mh_PW N T (d + 1) rpi) (mbc : mh_mb rch) : mh_PW N T d (rd_pie (rd_sg T N) n (rd_S (rd_sg T N) (n + 1)) rch rpi) := by
  intro e p B st k s j m he hB hs h h30 hj hm hl
  have hpN := h.2.2.2.2.2.2.2.2
  have hpp := h.1
  have k1 : (1 : Int32).toInt = ((1 : Nat) : Int) := rfl
  have k33 : (33 : Int32).toInt = 33 := rfl
  have k40 : (40 : Int32).toInt = 40 := rfl
  have c33 := hr_eq (T := T) (N := N) (p := p) (c := 33) (by decide)
  have c40 := hr_eq (T := T) (N := N) (p := p) (c := 40) (by decide)
  have hlen : (B ++ st).length = B.length + st.length := List.length_append
  have hst := tp_ne hs
  obtain ⟨j, rfl⟩ : ∃ i, j = i + 1 := ⟨j - 1, by omega⟩
  have st1 : l_eX10_pieceOfC_0_1 (j + 1) s = if (rd_sg T N p).toInt = 33 ∨ (rd_sg T N p).toInt = 40 then l_eX10_pieceOfC_0_1 j (f_eX10_opens s) else if (f_eX10_isGood (f_eX10_value s)).toInt = 0 then f_eX10_value s else if (f_eX10_isSign (f_eX10_value s) (f_eX10_here (f_eX10_value s))).toInt = 0 then f_eX10_wrongs (f_eX10_value s) 1 ((f_eX10_value s).1 57 23) else if (f_eX10_isGood (f_eX10_value (f_eX10_puts (f_eX10_value s) (f_eX10_here (f_eX10_value s))))).toInt = 0 then f_eX10_value (f_eX10_puts (f_eX10_value s) (f_eX10_here (f_eX10_value s))) else f_eX10_ends (mh_pI (f_eX10_emit (f_eX10_value (f_eX10_puts (f_eX10_value s) (f_eX10_here (f_eX10_value s)))) (f_eX10_top (f_eX10_value (f_eX10_puts (f_eX10_value s) (f_eX10_here (f_eX10_value s))))) 0) 57 29 ((f_eX10_value (f_eX10_puts (f_eX10_value s) (f_eX10_here (f_eX10_value s)))).1 57 29 - 1)) := by
    rw [l_eX10_pieceOfC_0_1_s]
    unfold ls_eX10_pieceOfC_0_1
    simp only [mh_lbE, mh_lb2E]
    rw [if_neg (rP_good h), r_here h]
    by_cases g : (rd_sg T N p).toInt = 33
    · rw [if_pos (Or.inl g), if_pos (show (rd_hr T N p).toInt = (33 : Int32).toInt by omega)]
    · rw [if_neg (show ¬ (rd_hr T N p).toInt = (33 : Int32).toInt by omega)]
      by_cases g2 : (rd_sg T N p).toInt = 40
      · rw [if_pos (Or.inr g2), if_pos (show (rd_hr T N p).toInt = (40 : Int32).toInt by omega)]
      · rw [if_neg (show ¬ (rd_hr T N p).toInt = (40 : Int32).toInt by omega), if_neg (show ¬ ((rd_sg T N p).toInt = 33 ∨ (rd_sg T N p).toInt = 40) by omega)]
  unfold rd_pie
  have op : 0 ≤ (rd_sg T N p).toInt → _ := fun q => r_open h (by omega) (tx_lt ht q) hN (by omega)
  by_cases g : (rd_sg T N p).toInt = 33
  · rw [if_pos g]
    rw [if_pos (Or.inl g)] at st1
    have op := op (by omega)
    by_cases g2 : n = 0
    · rw [if_pos g2]
      rw [if_pos (by omega)] at op
      refine ⟨cp_bad ?_ (show 0 < 5 by decide), show 0 < 5 by decide⟩
      rw [st1, pc_b (bf_bad op (by decide))]
      exact op
    · rw [if_neg g2]
      rw [if_neg (by omega)] at op
      obtain ⟨s1, e1, a1, a2, a3, a4, a5⟩ := op
      rw [e1] at st1
      have evl : cd_P (j + 1) m s = cd_P j m s1 := by unfold cd_P; rw [st1]
      rw [evl]
      have r1 := ihp g2 e (p + 1) (rd_sg T N p :: B) st k s1 j m (by rw [List.length_cons]; omega) (fun x hx => by
        rcases List.mem_cons.mp hx with q | q
        · rw [q]; exact g
        · exact hB x q) hs a1 (a3.1.trans h30) (by omega) (by omega) (by rw [List.length_cons]; omega)
      generalize cd_P j m s1 = z at r1 ⊢
      cases e2 : rpi (p + 1) with
      | inl f => rw [e2] at r1; exact r1
      | inr x =>
        rw [e2] at r1
        obtain ⟨m', s', k', b1, b2, b3, b4, b5, b6, b7, b8⟩ := r1
        exact ⟨m', s', k', b1, b2, b3, rk_tr (a2 k) b4 (Nat.le_refl _), b5, b6, b7, b8⟩
  · rw [if_neg g]
    by_cases g3 : (rd_sg T N p).toInt = 40
    · rw [if_pos g3]
      rw [if_pos (Or.inr g3)] at st1
      have op := op (by omega)
      by_cases g2 : n = 0
      · rw [if_pos g2]
        rw [if_pos (by omega)] at op
        refine ⟨cp_bad ?_ (show 0 < 5 by decide), show 0 < 5 by decide⟩
        rw [st1, pc_b (bf_bad op (by decide))]
        exact op
      · rw [if_neg g2]
        rw [if_neg (by omega)] at op
        obtain ⟨s1, e1, a1, a2, a3, a4, a5⟩ := op
        rw [e1] at st1
        have evl : cd_P (j + 1) m s = cd_P j m s1 := by unfold cd_P; rw [st1]
        rw [evl]
        have r1 := ihc g2 (p + 1) (rd_sg T N p :: (B ++ st)) k s1 j m g3 a1 (a3.1.trans h30) (by omega) (by omega) (by rw [List.length_cons]; omega)
        generalize cd_P j m s1 = z at r1 ⊢
        cases e2 : rch (p + 1) with
        | inl f => rw [e2] at r1; exact r1
        | inr x =>
          rw [e2] at r1
          obtain ⟨P, m', s', k', b1, b2, b3, b4, b5, b6, b7, b8, b9, b10⟩ := r1
          rw [List.length_cons] at b8
          have hxN := b2.2.2.2.2.2.2.2.2
          have ge := gb_els hN ht b10 (show ¬ mh_jo 1 (rd_sg T N p) by unfold mh_jo; omega) b9 (by omega) (by omega) b2 b6
          show cd_W N T e B.length st k s (if (rd_sg T N x.2).toInt = 41 then .inr (x.1, x.2 + 1) else .inl (1, x.2)) z
          obtain ⟨m', rfl⟩ : ∃ i, m' = i + 1 := ⟨m' - 1, by omega⟩
          have ez : cd_B (m' + 1) s' = l_eX10_condition_37_1 (m' + 1) (f_eX10_goesBehind s').2 (f_eX10_goesBehind s').1 := rfl
          by_cases g4 : (rd_sg T N x.2).toInt = 41
          · rw [if_pos g4] at ge ⊢
            obtain ⟨s2, d1, d2, d3, d4, d5⟩ := ge
            rw [if_neg (by omega)] at d5
            have d6 := rP_j (j := 30) (x := 0) d1 (by decide)
            rw [show d + 1 - 1 = e + B.length by omega] at d6
            obtain ⟨s3, f1, f2, f3, f4, f5⟩ := r_ends (k0 := k) (D := x.1) (show (mh_tp1 st).toInt ≠ 33 by omega) hB (by omega) (by omega) d6 (by rw [pI_row (by decide), pI_row (by decide)]; exact d4) (mbc _ _ _ e2)
            rw [f1] at d5
            rw [d5] at ez
            have f6 : s3.1 57 30 = 0 := f4.1.trans pI_w
            refine ⟨m', s3, k' + P.length + B.length, b1.trans (ez.trans (cd_0 f2 f6 m')), f2, by show N < m' + (x.2 + 1); omega, ?_, f6, f5, by omega, by show k' + P.length + B.length + st.length ≤ x.2 + 1; omega⟩
            exact rk_tr (rk_tr (rk_tr (rk_tr (a2 k) b4 (Nat.le_refl _)) d2 b7) (rk_57 (by decide)) (Nat.le_refl k)) f3 (by omega)
          · rw [if_neg g4] at ge ⊢
            obtain ⟨s2, d1, d2⟩ := ge
            rw [d1] at ez
            refine ⟨?_, show 0 < 1 by decide⟩
            rw [b1, ez]
            show mh_bfl 1 x.2 (l_eX10_condition_37_1 (m' + 1) s2 0)
            rw [cd_b (bf_bad d2 (by decide))]
            exact d2
    · rw [if_neg g3]
      rw [if_neg (by omega)] at st1
      unfold rd_cmp
      have tp := tp_ap hB hs
      have v1 := v_val hN ht hd tp.1 tp.2 h (by omega)
      generalize f_eX10_value s = v at v1 st1
      cases e1 : rd_S (rd_sg T N) (n + 1) p with
      | inl f =>
        rw [e1] at v1
        rw [if_pos (bf_bad v1.1 v1.2)] at st1
        refine ⟨cp_bad ?_ v1.2, v1.2⟩
        rw [st1]; exact v1.1
      | inr x =>
        rw [e1] at v1
        have v1 : if (rd_sg T N x.2).toInt = 93 then mh_bfl 1 x.2 v else ∃ k' : Nat, mh_rP N T x.2 (B ++ st) k' d v ∧ mh_rk k s v ∧ v.1 57 30 = s.1 57 30 ∧ sg_P (v.1 74) (v.1 75) x.1 k k' ∧ k ≤ k' ∧ k' + (B ++ st).length ≤ x.2 := v1
        show cd_W N T e B.length st k s (if (rd_sg T N x.2).toInt = 60 ∨ (rd_sg T N x.2).toInt = 62 ∨ (rd_sg T N x.2).toInt = 61 then rd_b (rd_S (rd_sg T N) (n + 1) (x.2 + 1)) (fun E r => if (rd_sg T N r).toInt = 93 then .inl (1, r) else .inr (rd_bo (rd_sg T N x.2) x.1 E, r)) else .inl (1, x.2)) _
        by_cases g4 : (rd_sg T N x.2).toInt = 93
        · rw [if_pos g4] at v1
          rw [if_neg (show ¬ ((rd_sg T N x.2).toInt = 60 ∨ (rd_sg T N x.2).toInt = 62 ∨ (rd_sg T N x.2).toInt = 61) by omega)]
          rw [if_pos (bf_bad v1 (by decide))] at st1
          refine ⟨cp_bad ?_ (show 0 < 1 by decide), show 0 < 1 by decide⟩
          rw [st1]; exact v1
        · rw [if_neg g4] at v1
          obtain ⟨kk, a1, a2, a3, a4, a5, a6⟩ := v1
          have hxN := a1.2.2.2.2.2.2.2.2
          rw [if_neg (rP_good a1), r_here a1] at st1
          have c60 := hr_eq (T := T) (N := N) (p := x.2) (c := 60) (by decide)
          have c62 := hr_eq (T := T) (N := N) (p := x.2) (c := 62) (by decide)
          have c61 := hr_eq (T := T) (N := N) (p := x.2) (c := 61) (by decide)
          by_cases g5 : (rd_sg T N x.2).toInt = 60 ∨ (rd_sg T N x.2).toInt = 62 ∨ (rd_sg T N x.2).toInt = 61
          · rw [if_pos g5]
            rw [if_neg (fun z => (fq_sgn v _).1 z (by omega))] at st1
            have hlt := tx_lt ht (show 0 ≤ (rd_sg T N x.2).toInt by omega)
            rw [hr_lt hlt] at st1
            obtain ⟨s2, f1, f2, f3, f4, f5, f6⟩ := r_puts a1 (by omega) hlt hN (rd_sg T N x.2)
            rw [f1] at st1
            have tpx : ¬ mh_fo 1 (mh_tp1 (rd_sg T N x.2 :: (B ++ st))) ∧ (mh_tp1 (rd_sg T N x.2 :: (B ++ st))).toInt ≠ 91 := by
              show ¬ mh_fo 1 (rd_sg T N x.2) ∧ (rd_sg T N x.2).toInt ≠ 91
              unfold mh_fo
              omega
            have v2 := v_val hN ht hd tpx.1 tpx.2 f2 (by rw [List.length_cons]; omega)
            generalize f_eX10_value s2 = w at v2 st1
            cases e3 : rd_S (rd_sg T N) (n + 1) (x.2 + 1) with
            | inl f =>
              rw [e3] at v2
              rw [if_pos (bf_bad v2.1 v2.2)] at st1
              refine ⟨cp_bad ?_ v2.2, v2.2⟩
              rw [st1]; exact v2.1
            | inr y =>
              rw [e3] at v2
              have v2 : if (rd_sg T N y.2).toInt = 93 then mh_bfl 1 y.2 w else ∃ k' : Nat, mh_rP N T y.2 (rd_sg T N x.2 :: (B ++ st)) k' d w ∧ mh_rk kk s2 w ∧ w.1 57 30 = s2.1 57 30 ∧ sg_P (w.1 74) (w.1 75) y.1 kk k' ∧ kk ≤ k' ∧ k' + (rd_sg T N x.2 :: (B ++ st)).length ≤ y.2 := v2
              show cd_W N T e B.length st k s (if (rd_sg T N y.2).toInt = 93 then .inl (1, y.2) else .inr (rd_bo (rd_sg T N x.2) x.1 y.1, y.2)) _
              by_cases g6 : (rd_sg T N y.2).toInt = 93
              · rw [if_pos g6] at v2 ⊢
                rw [if_pos (bf_bad v2 (by decide))] at st1
                refine ⟨cp_bad ?_ (show 0 < 1 by decide), show 0 < 1 by decide⟩
                rw [st1]; exact v2
              · rw [if_neg g6] at v2 ⊢
                obtain ⟨k2, p1, p2, p3, p4, p5, p6⟩ := v2
                rw [List.length_cons] at p6
                have hyN := p1.2.2.2.2.2.2.2.2
                have mo := S_mo ht (n + 1) (x.2 + 1) y.1 y.2 e3
                have mo1 := S_mo ht (n + 1) p x.1 x.2 e1
                rw [if_neg (rP_good p1), r_top p1 (by rw [List.length_cons]; omega)] at st1
                have st1 : l_eX10_pieceOfC_0_1 (j + 1) s = f_eX10_ends (mh_pI (f_eX10_emit w (rd_sg T N x.2) 0) 57 29 (w.1 57 29 - 1)) := st1
                obtain ⟨s4, q1, q2, q3, q4, q5, q6⟩ := r_emit p1 (by omega) (rd_sg T N x.2) 0
                rw [q1] at st1
                have q7 := rP_29 (x := w.1 57 29 - 1) q2 (pop_i p1 (by omega))
                have sgp : sg_P (s4.1 74) (s4.1 75) (rd_bo (rd_sg T N x.2) x.1 y.1) k (k2 + 1) := by
                  refine sP_bin (m := kk) (m' := k2) (sP_cg a4 (fun i _ hi => ?_)) (sP_cg p4 (fun i _ hi => q3.1 i hi)) q5 (by unfold mh_op2; omega)
                  have t1 := q3.1 i (by omega)
                  have t2 := p2.1 i hi
                  refine ⟨t1.1.trans (t2.1.trans ?_), t1.2.trans (t2.2.trans ?_)⟩
                  · rw [f5]
                  · rw [f6]
                obtain ⟨s5, r1, r2, r3, r4, r5⟩ := r_ends (k0 := k) (k := k2 + 1) (e := e) (D := rd_bo (rd_sg T N x.2) x.1 y.1) (show (mh_tp1 st).toInt ≠ 33 by omega) hB (by omega) (by omega) (by rw [he]; exact q7) (by rw [pI_row (by decide), pI_row (by decide)]; exact sgp) (cm_b g5 _ _)
                have st2 : l_eX10_pieceOfC_0_1 (j + 1) s = s5 := st1.trans r1
                have ok := cp_ok (j := j + 1) (m := m) (s := s) (by rw [st2]; exact r2)
                rw [st2] at ok
                refine ⟨m, s5, k2 + 1 + B.length, ok, r2, by show N < m + y.2; omega, ?_, ?_, r5, by omega, by show k2 + 1 + B.length + st.length ≤ y.2; omega⟩
                · exact rk_tr (rk_tr (rk_tr (rk_tr (rk_tr a2 (f3 k) (Nat.le_refl _)) p2 (by omega)) q3 (by omega)) (rk_57 (by decide)) (Nat.le_refl k)) r3 (by omega)
                · rw [r4.1, pI_j (by decide), q4.1, p3, f4.1, a3]; exact h30
          · rw [if_neg g5]
            rw [if_pos ((fq_sgn v _).2 (by omega))] at st1
            refine ⟨cp_bad ?_ (show 0 < 1 by decide), show 0 < 1 by decide⟩
            rw [st1]
            exact r_wr (f := 1) (q := x.2) a1 rfl (by decide) a1.1 (by omega)

/-- frames but for the tape -/
def mh_okC2 (S : List (Nat × Nat)) : Bool := S.all (fun e => decide (12 < e.1) && !(decide (40 ≤ e.1) && decide (e.1 ≤ 45)) && !(decide (48 ≤ e.1) && decide (e.1 ≤ 53)))
def mh_okR2 (S : List (Nat × Nat)) : Bool := mh_rnS S && S.all (fun e => !(decide (83 ≤ e.1) && decide (e.1 ≤ 88)) && !(e.1 == 102) && !(e.1 == 57 && (e.2 == 3 || e.2 == 64 || e.2 == 65 || e.2 == 9999)))
theorem CA_t {S : List (Nat × Nat)} {kl : Nat} {L : mh_Lw} {v : mh_V} {ch fl : Int32} {w : mh_V} {cw : Int32} {m m' : Nat} {r r' : Nat → Int32} {s s' : mh_H} (hl : mh_isL kl) (h : mh_CA kl L v ch fl w cw m r s) (hF : mh_F S s s') (hp : mh_p3 s') (hS : mh_okC2 S = true) (ht : mh_cT m' r' s') : mh_CA kl L v ch fl w cw m' r' s' := by
  have h0 := List.all_eq_true.mp hS
  have g12 : ∀ e ∈ S, 12 < e.1 := fun e he => by have := h0 e he; simp at this; omega
  have gl : ∀ e ∈ S, e.1 < kl ∨ kl + 5 < e.1 := fun e he => by
    have h3 := h0 e he
    simp at h3
    rcases hl with rfl | rfl <;> omega
  obtain ⟨c1, c2, c3, c4, c5, c6⟩ := h
  refine ⟨cN_F c1 hF hp (fun e he => by have := g12 e he; omega) gl (fun e he => by have := g12 e he; omega), ?_, ?_, ?_, fun q => ⟨?_, ?_⟩, ht⟩
  · rw [(hF 0 12 (fun ⟨e, e1, e2, _⟩ => by have := g12 e e1; omega)).2.2]; exact c2
  · rw [F_row1 hF (k := 1) (fun e he => by have := g12 e he; omega)]; exact c3
  · rw [F_row1 hF (k := 0) (fun e he => by have := g12 e he; omega)]; exact c4
  · rw [vc_F hF (fun e he => by have := g12 e he; omega)]; exact (c5 q).1
  · rw [F_row1 hF (k := 7) (fun e he => by have := g12 e he; omega)]; exact (c5 q).2
theorem RA_t {S : List (Nat × Nat)} {L : mh_Lw} {v : mh_V} {ch fl : Int32} {w : mh_V} {cw : Int32} {m m' : Nat} {r r' : Nat → Int32} {s s' : mh_H} (h : mh_RA L v ch fl w cw m r s) (hF : mh_F S s s') (hp : mh_p3 s') (hS : mh_okR2 S = true) (ht : mh_rT m' r' s') : mh_RA L v ch fl w cw m' r' s' := by
  obtain ⟨h1, h2⟩ := Bool.and_eq_true_iff.mp hS
  have h0 := List.all_eq_true.mp h2
  obtain ⟨c1, c2, c3, c4, c5⟩ := h
  have at' : ∀ j, (j = 3 ∨ j = 64 ∨ j = 65) → s'.1 57 j = s.1 57 j := fun j hj => F_at1 hF (fun e he q => by
    have h3 := h0 e he
    rcases q.2 with g | g
    · simp [q.1, g] at h3
    · rcases hj with rfl | rfl | rfl <;> simp [q.1, g] at h3)
  have ek : mh_kv s' = mh_kv s := kv_F hF (fun e he => by
    have t1 := h0 e he
    simp at t1
    omega)
  exact ⟨rN_F c1 hF hp h1, by rw [at' 3 (by decide)]; exact c2, by rw [at' 64 (by decide)]; exact c3, fun q => ⟨by rw [ek]; exact (c4 q).1, by rw [at' 65 (by decide)]; exact (c4 q).2⟩, ht⟩
theorem RV_Z {σ : mh_H} (h : mh_RV σ) : rl_Z σ := by
  obtain ⟨kl, Ls, v, ch, fl, w, cw, m, r, a1, a2, a3, a4, a5, a6⟩ := h
  exact ⟨m, r, a4, a5.2.2.2.2.2, a6.2.2.2.2⟩
theorem RV_tp {S : List (Nat × Nat)} {σ s2 : mh_H} (h : mh_RV σ) (hF : mh_F S σ s2) (hp : mh_p3 s2) (h1 : mh_okC2 S = true) (h2 : mh_okR2 S = true) (hz : rl_Z s2) : mh_RV s2 := by
  obtain ⟨kl, Ls, v, ch, fl, w, cw, m, r, a1, a2, a3, a4, a5, a6⟩ := h
  obtain ⟨m', r', b1, b2, b3⟩ := hz
  exact ⟨kl, Ls, v, ch, fl, w, cw, m', r', a1, a2, a3, b1, CA_t a1 a5 hF hp h1 b2, RA_t a6 hF hp h2 b3⟩
theorem feed_T {B D B' D' : Int} {σ s1 s2 : mh_H} (h : mh_RV σ) (hI0 : mh_I B D s1) (hI1 : mh_I B' D' s2) (F0 : mh_F S_eX9_feed σ s1) (F1 : mh_F S_eX10_feed s1 s2) {p1 p2 p3 p4 p5 z0 z1 : Int32} (E0 : f_eX9_feed σ p1 p2 p3 p4 p5 = (z0, s1)) (E1 : f_eX10_feed s1 p1 p2 p3 p4 p5 = (z1, s2)) : z0 = z1 ∧ mh_RV s2 := by
  obtain ⟨q1, q2⟩ := feed_Z (RV_Z h) F0 F1 rfl rfl E0 E1
  have F : mh_F [(38, 9999), (37, 1), (58, 9999), (57, 1)] σ s2 := mh_F_tl (mh_F_tl mh_F_rf F0 (by decide)) F1 (by decide)
  exact ⟨q1, RV_tp h F (mh_I_p3 hI1) (by decide) (by decide) q2⟩
/-- check -/
theorem nu_eq {m : Nat} {r : Nat → Int32} {sc sr : mh_H} (hc : ∀ i, sc.1 38 i = r i) (hr : ∀ i, sr.1 58 i &&& 255 = r i) {x : Int32} (hx : 0 ≤ x.toInt ∧ x.toInt ≤ 12) : f_eX7_number sc x = f_eX10_numberAt sr x := by
  unfold f_eX7_number f_eX10_numberAt
  have lp : ∀ (n : Nat) (i v : Int32), 0 ≤ i.toInt → l_eX7_number_4_1 sc x n i v = l_eX10_numberAt_4_1 sr x n i v := by
    intro n
    have k4 : (4 : Int32).toInt = 4 := rfl
    induction n with
    | zero => intro i v _; rfl
    | succ n ih =>
      intro i v hi
      rw [l_eX7_number_4_1_s, l_eX10_numberAt_4_1_s]
      unfold ls_eX7_number_4_1 ls_eX10_numberAt_4_1
      simp only [mh_lbE]
      by_cases g : i.toInt < 4
      · rw [if_pos (show i.toInt < (4 : Int32).toInt by omega), if_pos (show i.toInt < (4 : Int32).toInt by omega)]
        have e1 : ((4 : Int32) * x).toInt = 4 * x.toInt := by
          rw [Int32.toInt_mul, k4, Int.bmod_eq_of_le (by omega) (by omega)]
        have e2 : ((4 : Int32) * x + i).toInt = 4 * x.toInt + i.toInt := by
          rw [Int32.toInt_add, e1, Int.bmod_eq_of_le (by omega) (by omega)]
        have es : f_eX7_sign sc ((4 : Int32) * x + i) = sr.1 58 ((4 : Int32) * x + i).toNatClampNeg &&& 255 := by
          unfold f_eX7_sign
          simp only [mh_lbE]
          rw [if_neg (fun z => (fq_within sc _ 219).1 z (by have k219 : (219 : Int32).toInt = 219 := rfl; omega)), hc, hr]
        rw [es]
        exact ih (i + 1) _ (by have := nn_inc hi (m := 100) (by omega) (by decide); omega)
      · rw [if_neg (show ¬ i.toInt < (4 : Int32).toInt by omega), if_neg (show ¬ i.toInt < (4 : Int32).toInt by omega)]
  exact lp 5 0 0 (by decide)
theorem ck_lp {r : Nat → Int32} {sc sr : mh_H} (hc : ∀ i, sc.1 38 i = r i) (hr : ∀ i, sr.1 58 i &&& 255 = r i) (hv : ∀ c, c < 144 → sc.1 4 c = sr.1 61 c) {p1 p2 : Int32} (h1 : 0 ≤ p1.toInt ∧ p1.toInt ≤ 11) (h2 : 0 ≤ p2.toInt ∧ p2.toInt ≤ 12) : ∀ (n k : Nat) (x : Int32), 0 ≤ x.toInt → x.toInt ≤ p2.toInt → 12 < x.toInt + (n : Int) → 12 < x.toInt + (k : Int) → (l_eX9_check_44_1 sc p1 p2 n x).1 = (l_eX10_check_39_1 sr p1 p2 k x).1 := by
  intro n
  induction n with
  | zero => intro k x h0 h3 h4 h5; exfalso; omega
  | succ n ih =>
    intro k x h0 h3 h4 h5
    obtain ⟨k, rfl⟩ : ∃ i, k = i + 1 := ⟨k - 1, by omega⟩
    rw [l_eX9_check_44_1_s, l_eX10_check_39_1_s]
    unfold ls_eX9_check_44_1 ls_eX10_check_39_1
    simp only [mh_lbE, ce_at]
    by_cases g : x.toInt < p2.toInt
    · rw [if_pos g, if_pos g, nu_eq (m := 0) hc hr (x := x) (by omega)]
      have hxn := nn_inc h0 (m := 100) (by omega) (by decide)
      obtain ⟨c, hc1, hc2⟩ := ce_ix (x := x) (y := p1) ⟨h0, by omega⟩ h1
      rw [ix_n hc2, hv c hc1]
      split
      · exact ih k (x + 1) (by omega) (by omega) (by omega) (by omega)
      · rfl
    · rw [if_neg g, if_neg g]
theorem check_T {B D B' D' : Int} {σ s1 s2 : mh_H} (h : mh_RV σ) (hI0 : mh_I B D s1) (hI1 : mh_I B' D' s2) (F0 : mh_F S_eX9_check σ s1) (F1 : mh_F S_eX10_check s1 s2) {p1 p2 z0 z1 : Int32} (E0 : f_eX9_check σ p1 p2 = (z0, s1)) (E1 : f_eX10_check s1 p1 p2 = (z1, s2)) : z0 = z1 ∧ mh_RV s2 := by
  have hz := (check_Z (RV_Z h) E0 E1).2
  have F : mh_F [(37, 1), (57, 1)] σ s2 := mh_F_tl (mh_F_tl mh_F_rf F0 (by decide)) F1 (by decide)
  refine ⟨?_, RV_tp h F (mh_I_p3 hI1) (by decide) (by decide) hz⟩
  obtain ⟨kl, Ls, v, ch, fl, w, cw, m, r, a1, a2, a3, a4, a5, a6⟩ := h
  have hc := a5.2.2.2.2.2
  have hr1 : mh_rT m r s1 := rT_c a6.2.2.2.2 (F_at1 F0 (by decide)) (F_row1 F0 (by decide))
  rw [ck_9 hc a4] at E0
  rw [ck_10 hr1 a4] at E1
  by_cases g : (0 ≤ p1.toInt ∧ p1.toInt ≤ 11) ∧ (0 ≤ p2.toInt ∧ p2.toInt ≤ 12) ∧ 4 * p2.toInt ≤ (m : Int)
  · rw [if_pos g] at E0 E1
    have hv : ∀ c, c < 144 → (mh_pI σ 37 1 0).1 4 c = (mh_pI s1 57 1 0).1 61 c := by
      intro c hc4
      rw [pI_o (by decide), pI_o (by decide), F_row1 F0 (k := 61) (by decide)]
      have e1 := vc_at (k := 1) (r := 2) (c := c) (s := σ) (vn_r hc4 (by decide)) (by decide)
      have e2 := vr_at (r := 2) (c := c) (s := σ) (vn_r hc4 (by decide)) (by decide)
      rw [a5.1.1] at e1
      rw [a6.1.1] at e2
      exact e1.symm.trans e2
    have := ck_lp (r := r) (sc := mh_pI σ 37 1 0) (sr := mh_pI s1 57 1 0) (fun i => by rw [pI_o (by decide)]; exact hc.2 i) (fun i => by rw [pI_o (by decide)]; exact hr1.2 i) hv g.1 g.2.1 13 15 0 (by decide) (by rw [kc_0]; exact g.2.1.1) (by decide) (by decide)
    rw [E0, E1] at this
    exact this
  · rw [if_neg g] at E0 E1
    exact (Prod.mk.inj E0).1.symm.trans (Prod.mk.inj E1).1
/-- law -/
theorem RV_law {σ s1 s2 : mh_H} {kl kl' : Nat} {Ls Ls' : List mh_Cl} {v : mh_V} {ch fl : Int32} {w : mh_V} {cw : Int32} {m : Nat} {r : Nat → Int32} (hs2 : mh_p3 s2) (F0 : mh_F S_eX9_law σ s1) (F1 : mh_F S_eX10_law s1 s2) (a2 : mh_rg v) (a3 : ¬ fl.toInt = 0 → mh_rg w ∧ 0 ≤ w.2.1.toInt) (a5 : mh_CA kl (mh_lw Ls) v ch fl w cw m r σ) (a6 : mh_RA (mh_lw Ls) v ch fl w cw m r σ) (hz : rl_Z s2) (hl : mh_isL kl') (h11 : s2.2.2 0 11 = kl') (h12 : s2.2.2 0 12 ≠ kl') (hC : mh_LC kl' s2 (mh_lw Ls')) (hR : mh_LR s2 (mh_lw Ls')) : mh_RV s2 := by
  obtain ⟨m', r', b1, b2, b3⟩ := hz
  refine ⟨kl', Ls', v, ch, fl, w, cw, m', r', hl, a2, a3, b1, ⟨⟨?_, h11, hC, hs2⟩, h12, ?_, ?_, fun q => ⟨?_, ?_⟩, b2⟩, ⟨⟨?_, hR, hs2, a6.1.2.2.2⟩, ?_, ?_, fun q => ⟨?_, ?_⟩, b3⟩⟩
  · exact (vc_F F1 (by decide)).trans ((vc_F F0 (by decide)).trans a5.1.1)
  · rw [F_row1 F1 (k := 1) (by decide), F_row1 F0 (k := 1) (by decide)]; exact a5.2.2.1
  · rw [F_at1 F1 (k := 0) (j := 13) (by decide), F_at1 F0 (k := 0) (j := 13) (by decide)]; exact a5.2.2.2.1
  · rw [vc_F F1 (by decide), vc_F F0 (by decide)]; exact (a5.2.2.2.2.1 q).1
  · rw [F_row1 F1 (k := 7) (by decide), F_row1 F0 (k := 7) (by decide)]; exact (a5.2.2.2.2.1 q).2
  · exact (vr_fr F1 (by decide)).trans ((vr_fr F0 (by decide)).trans a6.1.1)
  · rw [F_at1 F1 (k := 57) (j := 3) (by decide), F_at1 F0 (k := 57) (j := 3) (by decide)]; exact a6.2.1
  · rw [F_at1 F1 (k := 57) (j := 64) (by decide), F_at1 F0 (k := 57) (j := 64) (by decide)]; exact a6.2.2.1
  · rw [kv_F F1 (by decide), kv_F F0 (by decide)]; exact (a6.2.2.2.1 q).1
  · rw [F_at1 F1 (k := 57) (j := 65) (by decide), F_at1 F0 (k := 57) (j := 65) (by decide)]; exact (a6.2.2.2.1 q).2
theorem law_T {B D B' D' B2 D2 : Int} {σ s1 s2 : mh_H} (h : mh_RV σ) (hI : mh_I B D σ) (hI0 : mh_I B' D' s1) (hI1 : mh_I B2 D2 s2) (F0 : mh_F S_eX9_law σ s1) (F1 : mh_F S_eX10_law s1 s2) {p z0 z1 : Int32} (E0 : f_eX9_law σ p = (z0, s1)) (E1 : f_eX10_law s1 p = (z1, s2)) : z0 = z1 ∧ mh_RV s2 := by
  have hz := (law_Z (RV_Z h) hI0 F0 F1 E0 E1).2
  obtain ⟨kl, Ls, v, ch, fl, w, cw, m, r, a1, a2, a3, a4, a5, a6⟩ := h
  have hs2 := mh_I_p3 hI1
  have hr1 : mh_rT m r s1 := rT_c a6.2.2.2.2 (F_at1 F0 (by decide)) (F_row1 F0 (by decide))
  have h12 := (mh_I_p3 hI).2.1
  obtain ⟨q1, q2⟩ := law_eq a5.2.2.2.2.2 hr1 (mh_I_p3 hI0) h12 E0 E1
  have t11 : s2.2.2 0 11 = s1.2.2 0 11 := F_at3 F1 (by decide)
  have t12 : s2.2.2 0 12 = s1.2.2 0 12 := F_at3 F1 (by decide)
  refine ⟨q1, ?_⟩
  rcases q2 with ⟨Ls', b1, b2, b3, b4⟩ | ⟨b1, b2, b3⟩
  · refine RV_law hs2 F0 F1 a2 a3 a5 a6 hz h12 (t11.trans b1) ?_ (LC_F b3 F1 (by generalize σ.2.2 0 12 = x at h12 ⊢; rcases h12 with rfl | rfl <;> decide)) b4
    rw [t12, b2, a5.1.2.1]
    exact fun z => a5.2.1 z.symm
  · have hk := b3 kl a1 (fun z => a5.2.1 z.symm)
    refine RV_law (Ls' := Ls) hs2 F0 F1 a2 a3 a5 a6 hz a1 (t11.trans ((congrFun b1 11).trans a5.1.2.1)) ?_ ?_ ?_
    · rw [t12, congrFun b1 12]; exact a5.2.1
    · refine LC_F (s := s1) (LC_mono a5.1.2.2.1 (fun i x y => hk i (by omega)) (congrFun (hk 0 (by decide)) 7) (congrFun (hk 0 (by decide)) 9) (congrFun (hk 0 (by decide)) 10)) F1 (by rcases a1 with rfl | rfl <;> decide)
    · refine LR_mono (s := s1) (LR_mono a6.1.2.1 (fun i x y => F_row1 F0 (fun e he => ?_)) (F_at1 F0 (by decide))) b2.1 b2.2
      have : ∀ e ∈ S_eX9_law, e.1 < 64 ∨ 69 < e.1 := by decide
      have := this e he
      omega
/-- the methods that change or ask the valley -/
theorem RV_b {B D : Int} {σ : mh_H} {v : mh_V} (hv : mh_vr σ = v) (hI : mh_I B D σ) (hB : B ≤ 1000000000) : v.2.1.toInt ≤ 1000000000 := by
  have := (rd_57_2 hI).2
  rw [← hv, ← vr_w]
  omega
theorem steps_T {B D B1 D1 B2 D2 : Int} {σ s1 s2 : mh_H} (h : mh_RV σ) (hI : mh_I B D σ) (hB : B ≤ 1000000000) (hI0 : mh_I B1 D1 s1) (hI1 : mh_I B2 D2 s2) (F0 : mh_F S_eX9_steps σ s1) (F1 : mh_F S_eX10_steps s1 s2) {p1 z0 z1 : Int32} (E0 : f_eX9_steps σ p1 = (z0, s1)) (E1 : f_eX10_steps s1 p1 = (z1, s2)) : z0 = z1 ∧ mh_RV s2 := by
  have hs1 := mh_I_p3 hI0
  have hs2 := mh_I_p3 hI1
  obtain ⟨kl, Ls, v, ch, fl, w, cw, m, r, a1, a2, a3, a4, a5, a6⟩ := h
  have hr1 := RA_F a6 F0 hs1 (by decide)
  have hb := RV_b a6.1.1 hI hB
  have q := steps_eq a1 a5.1 hr1.1 a2 hb p1
  rw [E0, E1] at q
  obtain ⟨q1, v', q2, q3, q4⟩ := q
  have hc1 : mh_CA kl (mh_lw Ls) v' ch fl w cw m r s1 := CA_v a5 q2 (by rw [F_at1 F0 (by decide)]; exact a5.2.2.1) F0 (by decide)
  exact ⟨q1, kl, Ls, v', ch, fl, w, cw, m, r, a1, q4, a3, a4, CA_F a1 hc1 F1 hs2 (by decide), RA_v hr1 q3 (by rw [F_at1 F1 (by decide)]; exact hr1.2.1) F1 (by decide)⟩
theorem draw_T {B D B1 D1 B2 D2 : Int} {σ s1 s2 : mh_H} (h : mh_RV σ) (hI : mh_I B D σ) (hB : B ≤ 1000000000) (hI0 : mh_I B1 D1 s1) (hI1 : mh_I B2 D2 s2) (F0 : mh_F S_eX9_draw σ s1) (F1 : mh_F S_eX10_draw s1 s2) {p1 z0 z1 : Int32} (E0 : f_eX9_draw σ p1 = (z0, s1)) (E1 : f_eX10_draw s1 p1 = (z1, s2)) : z0 = z1 ∧ mh_RV s2 := by
  have hs1 := mh_I_p3 hI0
  have hs2 := mh_I_p3 hI1
  obtain ⟨kl, Ls, v, ch, fl, w, cw, m, r, a1, a2, a3, a4, a5, a6⟩ := h
  have hr1 := RA_F a6 F0 hs1 (by decide)
  have hb := RV_b a6.1.1 hI hB
  have q := draw_eq a1 a5.1 hr1.1 a2 (a5.2.2.1.trans hr1.2.1.symm) hb p1
  rw [E0, E1] at q
  obtain ⟨q1, v', q2, q3, q4, q5⟩ := q
  have hc1 : mh_CA kl (mh_lw Ls) v' (s1.1 1 7) fl w cw m r s1 := CA_v a5 q2 rfl F0 (by decide)
  exact ⟨q1, kl, Ls, v', s1.1 1 7, fl, w, cw, m, r, a1, q4, a3, a4, CA_F a1 hc1 F1 hs2 (by decide), RA_v hr1 q3 q5.symm F1 (by decide)⟩
theorem night_T {B D B1 D1 B2 D2 : Int} {σ s1 s2 : mh_H} (h : mh_RV σ) (hI : mh_I B D σ) (hB : B ≤ 1000000000) (hI0 : mh_I B1 D1 s1) (hI1 : mh_I B2 D2 s2) (F0 : mh_F S_eX9_night σ s1) (F1 : mh_F S_eX10_night s1 s2) {p1 p2 z0 z1 : Int32} (E0 : f_eX9_night σ p1 p2 = (z0, s1)) (E1 : f_eX10_night s1 p1 p2 = (z1, s2)) : z0 = z1 ∧ mh_RV s2 := by
  have hs1 := mh_I_p3 hI0
  have hs2 := mh_I_p3 hI1
  obtain ⟨kl, Ls, v, ch, fl, w, cw, m, r, a1, a2, a3, a4, a5, a6⟩ := h
  have hr1 := RA_F a6 F0 hs1 (by decide)
  have hb := RV_b a6.1.1 hI hB
  have q := night_eq a1 (lw_B Ls) a5.1 hr1.1 a2 hb p1 p2
  have bk := night_back hr1.1 a2 hb p1 p2
  rw [E0, E1] at q
  rw [E1] at bk
  exact ⟨q, kl, Ls, v, ch, fl, w, cw, m, r, a1, a2, a3, a4, CA_F a1 (CA_F a1 a5 F0 hs1 (by decide)) F1 hs2 (by decide), RA_bk hr1 bk.1 bk.2 F1 (by decide)⟩
theorem sun_T {B D B1 D1 B2 D2 : Int} {σ s1 s2 : mh_H} (h : mh_RV σ) (hI : mh_I B D σ) (hB : B ≤ 1000000000) (hI0 : mh_I B1 D1 s1) (hI1 : mh_I B2 D2 s2) (F0 : mh_F S_eX9_sun σ s1) (F1 : mh_F S_eX10_sun s1 s2) {p1 p2 p3 p4 z0 z1 : Int32} (E0 : f_eX9_sun σ p1 p2 p3 p4 = (z0, s1)) (E1 : f_eX10_sun s1 p1 p2 p3 p4 = (z1, s2)) : z0 = z1 ∧ mh_RV s2 := by
  have hs1 := mh_I_p3 hI0
  have hs2 := mh_I_p3 hI1
  obtain ⟨kl, Ls, v, ch, fl, w, cw, m, r, a1, a2, a3, a4, a5, a6⟩ := h
  have hr1 := RA_F a6 F0 hs1 (by decide)
  have hb := RV_b a6.1.1 hI hB
  have q := sun_eq a1 (lw_B Ls) a5.1 hr1.1 a2 hb p1 p2 p3 p4
  have bk := sun_back hr1.1 a2 hb p1 p2 p3 p4
  rw [E0, E1] at q
  rw [E1] at bk
  exact ⟨q, kl, Ls, v, ch, fl, w, cw, m, r, a1, a2, a3, a4, CA_F a1 (CA_F a1 a5 F0 hs1 (by decide)) F1 hs2 (by decide), RA_bk hr1 bk.1 bk.2 F1 (by decide)⟩
theorem band_T {B D B1 D1 B2 D2 : Int} {σ s1 s2 : mh_H} (h : mh_RV σ) (hI : mh_I B D σ) (hB : B ≤ 1000000000) (hI0 : mh_I B1 D1 s1) (hI1 : mh_I B2 D2 s2) (F0 : mh_F S_eX9_band σ s1) (F1 : mh_F S_eX10_band s1 s2) {p1 p2 z0 z1 : Int32} (E0 : f_eX9_band σ p1 p2 = (z0, s1)) (E1 : f_eX10_band s1 p1 p2 = (z1, s2)) : z0 = z1 ∧ mh_RV s2 := by
  have hs1 := mh_I_p3 hI0
  have hs2 := mh_I_p3 hI1
  obtain ⟨kl, Ls, v, ch, fl, w, cw, m, r, a1, a2, a3, a4, a5, a6⟩ := h
  have hr1 := RA_F a6 F0 hs1 (by decide)
  have hb := RV_b a6.1.1 hI hB
  have q := band_eq a1 a5.1 hr1.1 a2 hb p1 p2
  have bk := band_back hr1.1 a2 hb p1 p2
  rw [E0, E1] at q
  rw [E1] at bk
  exact ⟨q, kl, Ls, v, ch, fl, w, cw, m, r, a1, a2, a3, a4, CA_F a1 (CA_F a1 a5 F0 hs1 (by decide)) F1 hs2 (by decide), RA_bk hr1 bk.1 bk.2 F1 (by decide)⟩
theorem works_T {B D B1 D1 B2 D2 : Int} {σ s1 s2 : mh_H} (h : mh_RV σ) (hI : mh_I B D σ) (hB : B ≤ 1000000000) (hI0 : mh_I B1 D1 s1) (hI1 : mh_I B2 D2 s2) (F0 : mh_F S_eX9_works σ s1) (F1 : mh_F S_eX10_works s1 s2) {p1 p2 p3 p4 z0 z1 : Int32} (E0 : f_eX9_works σ p1 p2 p3 p4 = (z0, s1)) (E1 : f_eX10_works s1 p1 p2 p3 p4 = (z1, s2)) : z0 = z1 ∧ mh_RV s2 := by
  have hs1 := mh_I_p3 hI0
  have hs2 := mh_I_p3 hI1
  obtain ⟨kl, Ls, v, ch, fl, w, cw, m, r, a1, a2, a3, a4, a5, a6⟩ := h
  have hr1 := RA_F a6 F0 hs1 (by decide)
  have hb := RV_b a6.1.1 hI hB
  have q := works_eq a1 a5.1 hr1.1 a2 hb p1 p2 p3 p4
  rw [E0, E1] at q
  obtain ⟨q1, q2, q3⟩ := q
  exact ⟨q1, kl, Ls, v, ch, fl, w, cw, m, r, a1, a2, a3, a4, CA_F a1 (CA_F a1 a5 F0 hs1 (by decide)) F1 hs2 (by decide), RA_bk hr1 q2 q3 F1 (by decide)⟩
theorem dam_T {B D B1 D1 B2 D2 : Int} {σ s1 s2 : mh_H} (h : mh_RV σ) (hI : mh_I B D σ) (hB : B ≤ 1000000000) (hI0 : mh_I B1 D1 s1) (hI1 : mh_I B2 D2 s2) (F0 : mh_F S_eX9_dam σ s1) (F1 : mh_F S_eX10_dam s1 s2) {p1 p2 p3 z0 z1 : Int32} (E0 : f_eX9_dam σ p1 p2 p3 = (z0, s1)) (E1 : f_eX10_dam s1 p1 p2 p3 = (z1, s2)) : z0 = z1 ∧ mh_RV s2 := by
  have hs1 := mh_I_p3 hI0
  have hs2 := mh_I_p3 hI1
  obtain ⟨kl, Ls, v, ch, fl, w, cw, m, r, a1, a2, a3, a4, a5, a6⟩ := h
  have hr1 := RA_F a6 F0 hs1 (by decide)
  have hb := RV_b a6.1.1 hI hB
  have q := dam_eq a1 a5.1 hr1.1 a2 hb p1 p2 p3
  rw [E0, E1] at q
  obtain ⟨q1, q2, q3⟩ := q
  exact ⟨q1, kl, Ls, v, ch, fl, w, cw, m, r, a1, a2, a3, a4, CA_F a1 (CA_F a1 a5 F0 hs1 (by decide)) F1 hs2 (by decide), RA_bk hr1 q2 q3 F1 (by decide)⟩
theorem cell_T {B D B1 D1 B2 D2 : Int} {σ s1 s2 : mh_H} (h : mh_RV σ) (hI : mh_I B D σ) (hB : B ≤ 1000000000) (hI0 : mh_I B1 D1 s1) (hI1 : mh_I B2 D2 s2) (F0 : mh_F S_eX9_cell σ s1) (F1 : mh_F S_eX10_cell s1 s2) {p1 p2 p3 z0 z1 : Int32} (E0 : f_eX9_cell σ p1 p2 p3 = (z0, s1)) (E1 : f_eX10_cell s1 p1 p2 p3 = (z1, s2)) : z0 = z1 ∧ mh_RV s2 := by
  have hs1 := mh_I_p3 hI0
  have hs2 := mh_I_p3 hI1
  obtain ⟨kl, Ls, v, ch, fl, w, cw, m, r, a1, a2, a3, a4, a5, a6⟩ := h
  have hr1 := RA_F a6 F0 hs1 (by decide)
  have hb := RV_b a6.1.1 hI hB
  have q := cell_eq a1 (lw_B Ls) a5.1 hr1.1 a2 p1 p2 p3
  rw [E0, E1] at q
  exact ⟨q, kl, Ls, v, ch, fl, w, cw, m, r, a1, a2, a3, a4, CA_F a1 (CA_F a1 a5 F0 hs1 (by decide)) F1 hs2 (by decide), RA_F hr1 F1 hs2 (by decide)⟩
theorem sums_T {B D B1 D1 B2 D2 : Int} {σ s1 s2 : mh_H} (h : mh_RV σ) (hI : mh_I B D σ) (hB : B ≤ 1000000000) (hI0 : mh_I B1 D1 s1) (hI1 : mh_I B2 D2 s2) (F0 : mh_F S_eX9_sums σ s1) (F1 : mh_F S_eX10_sums s1 s2) {p1 z0 z1 : Int32} (E0 : f_eX9_sums σ p1 = (z0, s1)) (E1 : f_eX10_sums s1 p1 = (z1, s2)) : z0 = z1 ∧ mh_RV s2 := by
  have hs1 := mh_I_p3 hI0
  have hs2 := mh_I_p3 hI1
  obtain ⟨kl, Ls, v, ch, fl, w, cw, m, r, a1, a2, a3, a4, a5, a6⟩ := h
  have hr1 := RA_F a6 F0 hs1 (by decide)
  have hb := RV_b a6.1.1 hI hB
  have q := sums_eq a1 (lw_B Ls) a5.1 hr1.1 a2 p1
  rw [E0, E1] at q
  exact ⟨q, kl, Ls, v, ch, fl, w, cw, m, r, a1, a2, a3, a4, CA_F a1 (CA_F a1 a5 F0 hs1 (by decide)) F1 hs2 (by decide), RA_F hr1 F1 hs2 (by decide)⟩
theorem soonest_T {B D B1 D1 B2 D2 : Int} {σ s1 s2 : mh_H} (h : mh_RV σ) (hI : mh_I B D σ) (hB : B ≤ 1000000000) (hI0 : mh_I B1 D1 s1) (hI1 : mh_I B2 D2 s2) (F0 : mh_F S_eX9_soonest σ s1) (F1 : mh_F S_eX10_soonest s1 s2) {p1 p2 p3 p4 z0 z1 : Int32} (E0 : f_eX9_soonest σ p1 p2 p3 p4 = (z0, s1)) (E1 : f_eX10_soonest s1 p1 p2 p3 p4 = (z1, s2)) : True ∧ mh_RV s2 := by
  have hs1 := mh_I_p3 hI0
  have hs2 := mh_I_p3 hI1
  obtain ⟨kl, Ls, v, ch, fl, w, cw, m, r, a1, a2, a3, a4, a5, a6⟩ := h
  have hr1 := RA_F a6 F0 hs1 (by decide)
  have hb := RV_b a6.1.1 hI hB
  have bk := soonest_back hr1.1 a2 hb p1 p2 p3 p4
  rw [E1] at bk
  exact ⟨trivial, kl, Ls, v, ch, fl, w, cw, m, r, a1, a2, a3, a4, CA_F a1 (CA_F a1 a5 F0 hs1 (by decide)) F1 hs2 (by decide), RA_bk hr1 bk.1 bk.2 F1 (by decide)⟩
/-- the world as it is made -/
theorem mh_RV0 : mh_RV lx_s0 := by
  have z : ∀ k j, k ≠ 22 → k ≠ 57 → k ≠ 1 → k ≠ 7 → k ≠ 13 → lx_s0.1 k j = 0 := fun k j h1 h2 h3 h4 h5 => by
    show lx_s1 k j = 0
    unfold lx_s1
    rw [if_neg h1, if_neg h2, if_neg (by omega)]
  have e1 : mh_vc 1 lx_s0 = ((fun _ _ => 0, 0, 0) : mh_V) := vc_ext (fun _ _ _ => rfl) (fun r c hc hr => z _ _ (by omega) (by omega) (by omega) (by omega) (by omega)) rfl rfl
  have e2 : mh_vr lx_s0 = ((fun _ _ => 0, 0, 0) : mh_V) := vr_ext (fun _ _ _ => rfl) (fun r c hc hr => z _ _ (by omega) (by omega) (by omega) (by omega) (by omega)) rfl rfl
  obtain ⟨m, r, b1, b2, b3⟩ := rl_Z0
  have p3 := mh_I_p3 lx_I0
  refine ⟨40, [], (fun _ _ => 0, 0, 0), 1, 0, (fun _ _ => 0, 0, 0), 0, m, r, Or.inl rfl, ?_, fun q => absurd kc_0 q, b1, ⟨⟨e1, rfl, lw_nil (by decide) _ (by decide), p3⟩, by decide, rfl, rfl, fun q => absurd kc_0 q, b2⟩, ⟨⟨e2, LR_of (B := 0) (by decide) trivial (by decide) (by decide), p3, by decide⟩, rfl, rfl, fun q => absurd kc_0 q, b3⟩⟩
  intro c _
  refine ⟨⟨?_, ?_⟩, ⟨?_, ?_⟩, ⟨?_, ?_⟩, ⟨?_, ?_⟩⟩ <;> first | (show _ ≤ (0 : Int32).toInt; decide) | (show (0 : Int32).toInt ≤ _; decide)

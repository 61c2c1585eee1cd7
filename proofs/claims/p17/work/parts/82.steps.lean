theorem steps_lp {kl : Nat} (hl : mh_isL kl) {L : mh_Lw} {p1 b : Int32} {y : Int64} (hp1 : p1.toInt ≤ 60) (hby : b = Int64.toInt32 y) : ∀ (n : Nat) (v : mh_V) (sc sr : mh_H) (x : Int32), mh_cN 1 kl L v sc → mh_rN L v sr → mh_rg v → v.2.1.toInt + (n : Int) ≤ 2000000000 → 0 ≤ x.toInt →
    (l_eX9_steps_19_1 p1 b n sc x).1 = (l_eX10_steps_17_1 p1 y n sr x).1 ∧ ∃ v', mh_cN 1 kl L v' (l_eX9_steps_19_1 p1 b n sc x).2 ∧ mh_rN L v' (l_eX10_steps_17_1 p1 y n sr x).2 ∧ mh_rg v' := by
  intro n
  induction n with
  | zero => intro v sc sr x h1 h2 hg _ _; exact ⟨rfl, v, h1, h2, hg⟩
  | succ n ih =>
    intro v sc sr x h1 h2 hg hb hx0
    rw [l_eX9_steps_19_1_s, l_eX10_steps_17_1_s]
    unfold ls_eX9_steps_19_1 ls_eX10_steps_17_1
    by_cases hx : x.toInt < p1.toInt
    · rw [if_pos hx, if_pos hx]
      have c1 := cN_pass V1 hl h1 hg
      have hg1 := stp_g (L := L) hg
      have hbn : (mh_stp L v).2.1.toInt = v.2.1.toInt + 1 := by rw [stp_n]; exact nn_inc h2.2.2.2 (m := 2000000000) (by omega) (by decide)
      have r1 := rN_step h2 hg (by omega)
      have hxn := nn_inc hx0 (m := 60) (by omega) (by decide)
      simp only [mh_lbE]
      rw [h1.2.1]
      exact ih _ _ _ (x + 1) c1 r1 hg1 (by omega) (by omega)
    · rw [if_neg hx, if_neg hx]
      simp only [mh_lbE]
      refine ⟨?_, v, h1, h2, hg⟩
      have e1 : sc.1 1 6 = v.2.2 := by rw [← h1.1]; rfl
      have e2 : Int64.toInt32 (sr.2.1 57 4) = v.2.2 := by rw [← h2.1]; rfl
      rw [Int64.toInt32_sub, e1, e2, hby]
theorem steps_eq {kl : Nat} (hl : mh_isL kl) {L : mh_Lw} {v : mh_V} {sc sr : mh_H} (hc : mh_cN 1 kl L v sc) (hr : mh_rN L v sr) (hg : mh_rg v) (hb : v.2.1.toInt ≤ 1000000000) (p1 : Int32) : (f_eX9_steps sc p1).1 = (f_eX10_steps sr p1).1 ∧ ∃ v', mh_cN 1 kl L v' (f_eX9_steps sc p1).2 ∧ mh_rN L v' (f_eX10_steps sr p1).2 ∧ mh_rg v' := by
  unfold f_eX9_steps f_eX10_steps
  obtain ⟨m, hm⟩ : ∃ m : Nat, m = 61 := ⟨_, rfl⟩
  rw [show (61 : Nat) = m by omega]
  simp only [mh_lbE, fq_ni9, fq_ni10]
  by_cases c1 : 1 ≤ p1.toInt ∧ p1.toInt ≤ 60
  · rw [if_neg (not_not_intro c1), if_neg (not_not_intro c1)]
    have e1 : sc.1 1 6 = v.2.2 := by rw [← hc.1]; rfl
    have e2 : Int64.toInt32 (sr.2.1 57 4) = v.2.2 := by rw [← hr.1]; rfl
    exact steps_lp hl c1.2 (e1.trans e2.symm) m v sc sr 0 hc hr hg (by omega) (by decide)
  · rw [if_pos c1, if_pos c1]
    exact ⟨rfl, v, hc, hr, hg⟩
theorem cell_eq {kl : Nat} (hl : mh_isL kl) {L : mh_Lw} (hB : mh_LB L) {v : mh_V} {sc sr : mh_H} (hc : mh_cN 1 kl L v sc) (hr : mh_rN L v sr) (hg : mh_rg v) (p1 p2 p3 : Int32) : (f_eX9_cell sc p1 p2 p3).1 = (f_eX10_cell sr p1 p2 p3).1 := by
  unfold f_eX9_cell f_eX10_cell
  simp only [mh_lbE, mh_lb2E, fq_pl9, fq_ce10, ce_at]
  by_cases c1 : (0 ≤ p1.toInt ∧ p1.toInt ≤ 11) ∧ (0 ≤ p2.toInt ∧ p2.toInt ≤ 11)
  · rw [if_neg (not_not_intro c1), if_neg (not_not_intro c1)]
    obtain ⟨c, hc1, hc2⟩ := ce_ix c1.1 c1.2
    generalize (12 : Int32) * p2 + p1 = p at hc2 ⊢
    rw [ix_n hc2, hc.2.1]
    have e : ∀ r, r < 4 → sc.1 (1 + 1 + r) c = sr.1 (59 + r) c := fun r h => by
      rw [← vc_at (k := 1) (vn_r hc1 h) (by omega), ← vr_at (vn_r hc1 h) (by omega), hc.1, hr.1]
    obtain ⟨m1, m2⟩ := mist_c V1 hl hc hc2 hc1
    obtain ⟨m3, m4⟩ := mist_r hr hc2 hc1
    obtain ⟨m5, m6⟩ := top_c V1 hl hc hc2 hc1
    obtain ⟨m7, m8⟩ := yards_c V1 hl hc hc2 hc1
    obtain ⟨m9, m10⟩ := yards_r hr hc2 hc1
    by_cases q0 : p3.toInt = 0
    · rw [if_pos q0, if_pos q0]; exact e 0 (by decide)
    · rw [if_neg q0, if_neg q0]
      by_cases q1 : p3.toInt = 1
      · rw [if_pos q1, if_pos q1]; exact e 1 (by decide)
      · rw [if_neg q1, if_neg q1]
        by_cases q2 : p3.toInt = 2
        · rw [if_pos q2, if_pos q2]; exact e 2 (by decide)
        · rw [if_neg q2, if_neg q2]
          by_cases q3 : p3.toInt = 3
          · rw [if_pos q3, if_pos q3]; exact e 3 (by decide)
          · rw [if_neg q3, if_neg q3]
            by_cases q4 : p3.toInt = 4
            · rw [if_pos q4, if_pos q4]; dsimp only; exact m1.trans m3.symm
            · rw [if_neg q4, if_neg q4]
              by_cases q5 : p3.toInt = 5
              · rw [if_pos q5, if_pos q5, m3]
                dsimp only
                rw [m5]
                unfold f_eX9_orNothing
                have hpos := to_pos hg hB hc1 (L := L)
                obtain ⟨m11, -⟩ := mist_r m4 hc2 hc1
                have g0 : (f_eX10_mistAt sr p).2.1 59 c = v.1 0 c := by rw [← m4.1]; exact (vr_at (r := 0) (vn_r hc1 (by decide)) (by decide)).symm
                by_cases z : 0 < (mh_mi L v c).toInt
                · rw [if_pos (hpos.2 z), if_pos z]
                  dsimp only
                  rw [m11, g0]
                  exact if_pos z
                · rw [if_neg (fun y => z (hpos.1 y)), if_neg z]
              · rw [if_neg q5, if_neg q5]
                by_cases q6 : p3.toInt = 6
                · rw [if_pos q6, if_pos q6]; dsimp only; exact m7.trans m9.symm
                · rw [if_neg q6, if_neg q6]
                  by_cases q7 : p3.toInt = 7
                  · rw [if_pos q7, if_pos q7]
                    dsimp only
                    rw [lev_c hc2 hc1, lev_r hc2 hc1, hc.1, hr.1]
                  · rw [if_neg q7, if_neg q7]
  · rw [if_pos c1, if_pos c1]
def mh_sum (v : mh_V) (r : Nat) : Nat → Int32
  | 0 => 0
  | m + 1 => mh_sum v r m + v.1 r m
theorem sumc_c {s : mh_H} {v : mh_V} (h : mh_vc 1 s = v) : f_eX9_sumOf_c s = mh_sum v 2 144 := by
  unfold f_eX9_sumOf_c
  refine mh_forA (fun n (q : Int32) x => l_eX9_sumOf_c_10_1 s n x q) 144 (fun q m => q = mh_sum v 2 m) (fun r => r = mh_sum v 2 144) (by decide) ?_ ?_ 145 0 0 0 rfl (by decide) rfl (by decide)
  · intro n q x m hx hm hq
    have k144 : (144 : Int32).toInt = 144 := rfl
    have e1 : s.1 4 m = v.1 2 m := by rw [← h]; exact (vc_at (k := 1) (r := 2) (vn_r hm (by decide)) (by decide)).symm
    rw [l_eX9_sumOf_c_10_1_s]
    unfold ls_eX9_sumOf_c_10_1
    rw [if_pos (by omega)]
    simp only [mh_lbE, ix_n hx]
    rw [e1, hq]
    exact ⟨_, rfl, rfl⟩
  · intro n q x hx hq
    rw [l_eX9_sumOf_c_10_1_s]
    unfold ls_eX9_sumOf_c_10_1
    have k144 : (144 : Int32).toInt = 144 := rfl
    rw [if_neg (by omega)]
    exact hq
theorem sumc_w {s : mh_H} {v : mh_V} (h : mh_vc 1 s = v) : f_eX9_sumOf_w s = mh_sum v 3 144 := by
  unfold f_eX9_sumOf_w
  refine mh_forA (fun n (q : Int32) x => l_eX9_sumOf_w_10_1 s n x q) 144 (fun q m => q = mh_sum v 3 m) (fun r => r = mh_sum v 3 144) (by decide) ?_ ?_ 145 0 0 0 rfl (by decide) rfl (by decide)
  · intro n q x m hx hm hq
    have k144 : (144 : Int32).toInt = 144 := rfl
    have e1 : s.1 5 m = v.1 3 m := by rw [← h]; exact (vc_at (k := 1) (r := 3) (vn_r hm (by decide)) (by decide)).symm
    rw [l_eX9_sumOf_w_10_1_s]
    unfold ls_eX9_sumOf_w_10_1
    rw [if_pos (by omega)]
    simp only [mh_lbE, ix_n hx]
    rw [e1, hq]
    exact ⟨_, rfl, rfl⟩
  · intro n q x hx hq
    rw [l_eX9_sumOf_w_10_1_s]
    unfold ls_eX9_sumOf_w_10_1
    have k144 : (144 : Int32).toInt = 144 := rfl
    rw [if_neg (by omega)]
    exact hq
theorem sumr_c {s : mh_H} {v : mh_V} (h : mh_vr s = v) : (l_eX10_sums_38_1 s 145 0 0).1 = mh_sum v 2 144 := by
  refine mh_forA (fun n (q : Int32) x => l_eX10_sums_38_1 s n x q) 144 (fun q m => q = mh_sum v 2 m) (fun r => r.1 = mh_sum v 2 144) (by decide) ?_ ?_ 145 0 0 0 rfl (by decide) rfl (by decide)
  · intro n q x m hx hm hq
    have k144 : (144 : Int32).toInt = 144 := rfl
    have e1 : s.1 61 m = v.1 2 m := by rw [← h]; exact (vr_at (r := 2) (vn_r hm (by decide)) (by decide)).symm
    rw [l_eX10_sums_38_1_s]
    unfold ls_eX10_sums_38_1
    rw [if_pos (by omega)]
    simp only [mh_lbE, ix_n hx]
    rw [e1, hq]
    exact ⟨_, rfl, rfl⟩
  · intro n q x hx hq
    rw [l_eX10_sums_38_1_s]
    unfold ls_eX10_sums_38_1
    have k144 : (144 : Int32).toInt = 144 := rfl
    rw [if_neg (by omega)]
    exact hq
theorem sumr_w {s : mh_H} {v : mh_V} (h : mh_vr s = v) : (l_eX10_sums_64_2 s 145 0 0).1 = mh_sum v 3 144 := by
  refine mh_forA (fun n (q : Int32) x => l_eX10_sums_64_2 s n x q) 144 (fun q m => q = mh_sum v 3 m) (fun r => r.1 = mh_sum v 3 144) (by decide) ?_ ?_ 145 0 0 0 rfl (by decide) rfl (by decide)
  · intro n q x m hx hm hq
    have k144 : (144 : Int32).toInt = 144 := rfl
    have e1 : s.1 62 m = v.1 3 m := by rw [← h]; exact (vr_at (r := 3) (vn_r hm (by decide)) (by decide)).symm
    rw [l_eX10_sums_64_2_s]
    unfold ls_eX10_sums_64_2
    rw [if_pos (by omega)]
    simp only [mh_lbE, ix_n hx]
    rw [e1, hq]
    exact ⟨_, rfl, rfl⟩
  · intro n q x hx hq
    rw [l_eX10_sums_64_2_s]
    unfold ls_eX10_sums_64_2
    have k144 : (144 : Int32).toInt = 144 := rfl
    rw [if_neg (by omega)]
    exact hq
theorem sums_eq {kl : Nat} (hl : mh_isL kl) {L : mh_Lw} (hB : mh_LB L) {v : mh_V} {sc sr : mh_H} (hc : mh_cN 1 kl L v sc) (hr : mh_rN L v sr) (hg : mh_rg v) (p1 : Int32) : (f_eX9_sums sc p1).1 = (f_eX10_sums sr p1).1 := by
  obtain ⟨d0, d1, d2, d3⟩ := look_c V1 hl hc hg hB
  unfold f_eX9_sums f_eX10_sums
  simp only [mh_lbE, mh_lb2E]
  rw [hc.2.1]
  by_cases q0 : p1.toInt = 0
  · rw [if_pos q0, if_pos q0]; rw [sumr_c hr.1, sumc_c hc.1]
  · rw [if_neg q0, if_neg q0]
    by_cases q1 : p1.toInt = 1
    · rw [if_pos q1, if_pos q1]; rw [sumr_w hr.1, sumc_w hc.1]
    · rw [if_neg q1, if_neg q1]
      by_cases q2 : p1.toInt = 2
      · rw [if_pos q2, if_pos q2]
        show sc.1 1 6 = Int64.toInt32 (sr.2.1 57 4)
        have e1 : sc.1 1 6 = v.2.2 := by rw [← hc.1]; rfl
        have e2 : Int64.toInt32 (sr.2.1 57 4) = v.2.2 := by rw [← hr.1]; rfl
        rw [e1, e2]
      · rw [if_neg q2, if_neg q2]
        by_cases q3 : p1.toInt = 3
        · rw [if_pos q3, if_pos q3]; dsimp only; exact d1.trans (misty_r hr).1.symm
        · rw [if_neg q3, if_neg q3]
          by_cases q4 : p1.toInt = 4
          · rw [if_pos q4, if_pos q4]; dsimp only; exact d3.trans (hitop_r hr).1.symm
          · rw [if_neg q4, if_neg q4]

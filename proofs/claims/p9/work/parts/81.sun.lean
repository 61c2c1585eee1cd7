theorem vr_g (s : mh_H) {c : Nat} (hc : c < 144) : s.1 59 c = (mh_vr s).1 0 c := (vr_at (r := 0) (vn_r hc (by decide)) (by decide)).symm
theorem fq_pl9 (s : mh_H) (x y : Int32) : ((f_eX9_isPlace s x y).toInt = 0) ↔ ¬ ((0 ≤ x.toInt ∧ x.toInt ≤ 11) ∧ (0 ≤ y.toInt ∧ y.toInt ≤ 11)) := by
  unfold f_eX9_isPlace
  have h0 := kc_0; have h1 := kc_1; have h9 : (11 : Int32).toInt = 11 := rfl
  simp only [mh_lbE, fq_within, h9]
  split
  · omega
  · split <;> omega
theorem fq_si10 (s : mh_H) (x : Int32) : ((f_eX10_isSide s x).toInt = 0) ↔ ¬ (0 ≤ x.toInt ∧ x.toInt ≤ 11) := by
  unfold f_eX10_isSide
  have a0 : (0 : Int64).toInt = 0 := rfl
  have a1 : (11 : Int64).toInt = 11 := rfl
  simp only [mh_lbE, fq_lies, Int32.toInt_toInt64, a0, a1]
theorem fq_ce10 (s : mh_H) (x y : Int32) : ((f_eX10_isCell s x y).toInt = 0) ↔ ¬ ((0 ≤ x.toInt ∧ x.toInt ≤ 11) ∧ (0 ≤ y.toInt ∧ y.toInt ≤ 11)) := by
  unfold f_eX10_isCell
  have h0 := kc_0; have h1 := kc_1
  simp only [mh_lbE, fq_si10]
  split
  · omega
  · split <;> omega
theorem ce_at (s : mh_H) (x y : Int32) : f_eX10_cellAt s x y = (12 : Int32) * y + x := by
  unfold f_eX10_cellAt
  simp only [mh_lbE]
theorem ce_ix {x y : Int32} (hx : 0 ≤ x.toInt ∧ x.toInt ≤ 11) (hy : 0 ≤ y.toInt ∧ y.toInt ≤ 11) : ∃ c : Nat, c < 144 ∧ ((12 : Int32) * y + x).toInt = (c : Int) := by
  have k12 : (12 : Int32).toInt = 12 := rfl
  have e1 : ((12 : Int32) * y).toInt = 12 * y.toInt := by rw [mh_mul (lo := 0) (hi := 132) (by rw [k12]; omega) (by decide), k12]
  refine ⟨(12 * y.toInt + x.toInt).toNat, by omega, ?_⟩
  rw [mh_add (lo := 0) (hi := 143) (by omega) (by decide), e1]
  omega
theorem sun_lp {kl : Nat} (hl : mh_isL kl) {L : mh_Lw} (hB : mh_LB L) {p3 p4 p : Int32} (hp4 : p4.toInt ≤ 60) (hp3 : 0 ≤ p3.toInt) {c : Nat} (hp : p.toInt = (c : Int)) (hc : c < 144) : ∀ (n : Nat) (v : mh_V) (sc sr : mh_H) (x a : Int32), mh_cN 13 kl L v sc → mh_rN L v sr → mh_rg v → v.2.1.toInt + (n : Int) ≤ 2000000000 → 0 ≤ x.toInt → (l_eX9_sun_66_1 p3 p4 p n sc x a).1 = (l_eX10_sun_58_1 p3 p4 p n sr x a).1 := by
  intro n
  induction n with
  | zero => intros; rfl
  | succ n ih =>
    intro v sc sr x a h1 h2 hg hb hx0
    rw [l_eX9_sun_66_1_s, l_eX10_sun_58_1_s]
    unfold ls_eX9_sun_66_1 ls_eX10_sun_58_1 j_eX9_sun_108_2 j_eX10_sun_98_3 j_eX10_sun_103_2
    by_cases hx : x.toInt < p4.toInt
    · rw [if_pos hx, if_pos hx]
      have c1 := cN_pass V13 hl h1 hg
      have hg1 := stp_g (L := L) hg
      have hbn : (mh_stp L v).2.1.toInt = v.2.1.toInt + 1 := by rw [stp_n]; exact nn_inc h2.2.2.2 (m := 2000000000) (by omega) (by decide)
      obtain ⟨t0, c2⟩ := top_c V13 hl c1 hp hc
      have r1 := rN_step h2 hg (by omega)
      obtain ⟨t1, r2⟩ := mist_r r1 hp hc
      have hxn := nn_inc hx0 (m := 60) (by omega) (by decide)
      simp only [mh_lbE, mh_lb2E, ix_n hp]
      rw [h1.2.1, c1.2.1, t0, t1]
      generalize hw : mh_stp L v = w at *
      generalize (f_eX1_top (f_eX0_pass sc 13 kl) 13 kl p).2 = s3 at c2 ⊢
      generalize (f_eX10_mistAt (f_eX10_stepOne sr) p).2 = r4 at r2 ⊢
      have g0 : r4.1 59 c = w.1 0 c := by rw [vr_g r4 hc, r2.1]
      have hbm := hB 109 (mh_env w c 0)
      have k0 := kc_0
      rw [g0]
      have goal : ∀ y, (l_eX9_sun_66_1 p3 p4 p n s3 (x + 1) y).1 = (l_eX10_sun_58_1 p3 p4 p n r4 (x + 1) y).1 := fun y => ih w s3 r4 (x + 1) y c2 r2 hg1 (by omega) (by omega)
      unfold mh_to
      by_cases z : (mh_mi L w c).toInt = 0
      · rw [if_neg (show ¬ 0 < (mh_mi L w c).toInt by omega), if_neg (by omega), if_pos z]
        exact goal _
      · rw [if_pos (show 0 < (mh_mi L w c).toInt by unfold mh_mi at z ⊢; omega), if_neg z]
        by_cases y : p3.toInt < (w.1 0 c + mh_mi L w c).toInt
        · rw [if_pos y, if_pos y, Int32.add_zero]
          exact goal _
        · rw [if_neg y, if_neg y]
          exact goal _
    · rw [if_neg hx, if_neg hx]
      simp only [mh_lbE]
theorem sun_eq {kl : Nat} (hl : mh_isL kl) {L : mh_Lw} (hB : mh_LB L) {v : mh_V} {sc sr : mh_H} (hc : mh_cN 1 kl L v sc) (hr : mh_rN L v sr) (hg : mh_rg v) (hb : v.2.1.toInt ≤ 1000000000) (p1 p2 p3 p4 : Int32) : (f_eX9_sun sc p1 p2 p3 p4).1 = (f_eX10_sun sr p1 p2 p3 p4).1 := by
  have a1 : (198 : Int64).toInt = 198 := rfl
  have b1 : (198 : Int32).toInt = 198 := rfl
  unfold f_eX9_sun f_eX10_sun
  obtain ⟨m, hm⟩ : ∃ m : Nat, m = 61 := ⟨_, rfl⟩
  rw [show (61 : Nat) = m by omega]
  simp only [mh_lbE, fq_ni9, fq_ni10, fq_pl9, fq_ce10, fq_lies, Int32.toInt_toInt64, a1, b1, ce_at]
  by_cases c1 : (0 ≤ p1.toInt ∧ p1.toInt ≤ 11) ∧ (0 ≤ p2.toInt ∧ p2.toInt ≤ 11)
  · rw [if_neg (not_not_intro c1), if_neg (not_not_intro c1)]
    obtain ⟨c, hc1, hc2⟩ := ce_ix c1.1 c1.2
    rw [ix_n hc2]
    have e1 : sc.1 2 c = v.1 0 c := by rw [← hc.1]; exact (vc_at (k := 1) (r := 0) (vn_r hc1 (by decide)) (by decide)).symm
    have e2 : sr.1 59 c = v.1 0 c := by rw [← hr.1]; exact (vr_at (r := 0) (vn_r hc1 (by decide)) (by decide)).symm
    rw [e1, e2]
    by_cases c2 : 1 ≤ p4.toInt ∧ p4.toInt ≤ 60
    · rw [if_neg (not_not_intro c2), if_neg (not_not_intro c2)]
      by_cases c3 : 198 < p3.toInt
      · rw [if_pos c3, if_pos (by omega)]
      · rw [if_neg c3]
        by_cases c4 : p3.toInt < (v.1 0 c).toInt
        · rw [if_pos c4, if_pos (by omega)]
        · rw [if_neg c4, if_neg (by omega)]
          have := (hg c hc1).1.1
          exact sun_lp hl hB c2.2 (by omega) hc2 hc1 m v _ _ 0 0 (cN_copy hl hc) (rN_sa hr 0) hg (by omega) (by decide)
    · rw [if_pos c2, if_pos c2]
  · rw [if_pos c1, if_pos c1]
/-- the least height free of frost, so far -/
def mh_hf (v : mh_V) (f : Int32) (a : Int32) : Nat → Int32
  | 0 => a
  | m + 1 => if (v.1 2 m).toInt < f.toInt then mh_hf v f a m else mh_ma32 (mh_hf v f a m) (v.1 0 m + 1)
theorem hf_max (v : mh_V) (f a : Int32) (ha : 0 ≤ a.toInt) : ∀ m, (mh_hf v f a m).toInt = max a.toInt (mh_hf v f 0 m).toInt
  | 0 => by show a.toInt = max a.toInt (0 : Int32).toInt; have := kc_0; omega
  | m + 1 => by
    have ih := hf_max v f a ha m
    unfold mh_hf
    split
    · exact ih
    · rw [mh_ma32_i, mh_ma32_i]; omega
theorem hfo_c {s : mh_H} {v : mh_V} (h : mh_vc 13 s = v) (f : Int32) : f_eX9_heightFreeOf s f = mh_hf v f 0 144 := by
  unfold f_eX9_heightFreeOf
  refine mh_forA (fun n (q : Int32) x => l_eX9_heightFreeOf_4_1 s f n x q) 144 (fun q m => q = mh_hf v f 0 m) (fun r => r = mh_hf v f 0 144) (by decide) ?_ ?_ 145 0 0 0 rfl (by decide) rfl (by decide)
  · intro n q x m hx hm hq
    have k144 : (144 : Int32).toInt = 144 := rfl
    have e1 : s.1 16 m = v.1 2 m := by rw [← h]; exact (vc_at (k := 13) (r := 2) (vn_r hm (by decide)) (by decide)).symm
    have e2 : s.1 14 m = v.1 0 m := by rw [← h]; exact (vc_at (k := 13) (r := 0) (vn_r hm (by decide)) (by decide)).symm
    rw [l_eX9_heightFreeOf_4_1_s]
    unfold ls_eX9_heightFreeOf_4_1 j_eX9_heightFreeOf_40_2
    rw [if_pos (by omega)]
    simp only [mh_lbE, ix_n hx]
    rw [e1, e2, hq]
    by_cases z : (v.1 2 m).toInt < f.toInt
    · rw [if_pos z]
      exact ⟨_, (if_pos z).symm, rfl⟩
    · rw [if_neg z]
      exact ⟨_, (if_neg z).symm, rfl⟩
  · intro n q x hx hq
    rw [l_eX9_heightFreeOf_4_1_s]
    unfold ls_eX9_heightFreeOf_4_1
    have k144 : (144 : Int32).toInt = 144 := rfl
    rw [if_neg (by omega)]
    exact hq
theorem bin_r {lo : mh_H → Int32 → Int32 → Int32 × mh_H} {s : mh_H} {v : mh_V} (h : mh_vr s = v) (f x0 a : Int32) : l_eX10_band_44_2 lo s f x0 145 0 a = lo s (x0 + 1) (mh_hf v f a 144) := by
  refine mh_forA (fun n (q : Int32) x => l_eX10_band_44_2 lo s f x0 n x q) 144 (fun q m => q = mh_hf v f a m) (fun r => r = lo s (x0 + 1) (mh_hf v f a 144)) (by decide) ?_ ?_ 145 a 0 0 rfl (by decide) rfl (by decide)
  · intro n q x m hx hm hq
    have k144 : (144 : Int32).toInt = 144 := rfl
    have e1 : s.1 61 m = v.1 2 m := by rw [← h]; exact (vr_at (r := 2) (vn_r hm (by decide)) (by decide)).symm
    have e2 : s.1 59 m = v.1 0 m := by rw [← h]; exact (vr_at (r := 0) (vn_r hm (by decide)) (by decide)).symm
    rw [l_eX10_band_44_2_s]
    unfold ls_eX10_band_44_2 j_eX10_band_86_3
    rw [if_pos (by omega)]
    simp only [mh_lbE, ix_n hx]
    rw [e1, e2, hq]
    by_cases z : (v.1 2 m).toInt < f.toInt
    · rw [if_pos z]
      exact ⟨_, (if_pos z).symm, rfl⟩
    · rw [if_neg z]
      have eh : mh_hf v f a (m + 1) = if (mh_hf v f a m).toInt < (v.1 0 m + 1).toInt then v.1 0 m + 1 else mh_hf v f a m := if_neg z
      by_cases y : (mh_hf v f a m).toInt < (v.1 0 m + 1).toInt
      · rw [if_pos y] at eh ⊢
        exact ⟨_, eh.symm, rfl⟩
      · rw [if_neg y] at eh ⊢
        exact ⟨_, eh.symm, rfl⟩
  · intro n q x hx hq
    rw [l_eX10_band_44_2_s]
    unfold ls_eX10_band_44_2
    have k144 : (144 : Int32).toInt = 144 := rfl
    rw [if_neg (by omega)]
    simp only [mh_lbE]
    rw [hq]
theorem band_lp {kl : Nat} (hl : mh_isL kl) {L : mh_Lw} {p1 p2 : Int32} (hp1 : p1.toInt ≤ 60) : ∀ (n : Nat) (v : mh_V) (sc sr : mh_H) (x a : Int32), mh_cN 13 kl L v sc → mh_rN L v sr → mh_rg v → v.2.1.toInt + (n : Int) ≤ 2000000000 → 0 ≤ x.toInt → 0 ≤ a.toInt → (l_eX9_band_37_1 p1 p2 n sc x a).1 = (l_eX10_band_31_1 p1 p2 n sr x a).1 := by
  intro n
  induction n with
  | zero => intros; rfl
  | succ n ih =>
    intro v sc sr x a h1 h2 hg hb hx0 ha
    rw [l_eX9_band_37_1_s, l_eX10_band_31_1_s]
    unfold ls_eX9_band_37_1 ls_eX10_band_31_1
    by_cases hx : x.toInt < p1.toInt
    · rw [if_pos hx, if_pos hx]
      have c1 := cN_pass V13 hl h1 hg
      have hg1 := stp_g (L := L) hg
      have hbn : (mh_stp L v).2.1.toInt = v.2.1.toInt + 1 := by rw [stp_n]; exact nn_inc h2.2.2.2 (m := 2000000000) (by omega) (by decide)
      have r1 := rN_step h2 hg (by omega)
      have hxn := nn_inc hx0 (m := 60) (by omega) (by decide)
      simp only [mh_lbE]
      rw [h1.2.1, hfo_c c1.1, bin_r r1.1]
      have e : mh_ma32 a (mh_hf (mh_stp L v) p2 0 144) = mh_hf (mh_stp L v) p2 a 144 := Int32.toInt_inj.mp (by rw [mh_ma32_i, hf_max _ _ a ha])
      rw [e]
      exact ih _ _ _ (x + 1) _ c1 r1 hg1 (by omega) (by omega) (by rw [hf_max _ _ a ha]; omega)
    · rw [if_neg hx, if_neg hx]
      simp only [mh_lbE]
      split <;> rfl
theorem band_eq {kl : Nat} (hl : mh_isL kl) {L : mh_Lw} {v : mh_V} {sc sr : mh_H} (hc : mh_cN 1 kl L v sc) (hr : mh_rN L v sr) (hg : mh_rg v) (hb : v.2.1.toInt ≤ 1000000000) (p1 p2 : Int32) : (f_eX9_band sc p1 p2).1 = (f_eX10_band sr p1 p2).1 := by
  have a0 : (1 : Int64).toInt = 1 := rfl
  have a4 : (9999 : Int64).toInt = 9999 := rfl
  have b4 : (9999 : Int32).toInt = 9999 := rfl
  have b1 := kc_1
  unfold f_eX9_band f_eX10_band
  obtain ⟨m, hm⟩ : ∃ m : Nat, m = 61 := ⟨_, rfl⟩
  rw [show (61 : Nat) = m by omega]
  simp only [mh_lbE, fq_ni9, fq_ni10, fq_lies, Int32.toInt_toInt64, a0, a4, b4, b1]
  by_cases c1 : 1 ≤ p1.toInt ∧ p1.toInt ≤ 60
  · rw [if_neg (not_not_intro c1), if_neg (not_not_intro c1)]
    by_cases c2 : p2.toInt < 1
    · rw [if_pos c2, if_pos (by omega)]
    · rw [if_neg c2]
      by_cases c3 : 9999 < p2.toInt
      · rw [if_pos c3, if_pos (by omega)]
      · rw [if_neg c3, if_neg (by omega)]
        exact band_lp hl c1.2 m v _ _ 0 0 (cN_copy hl hc) (rN_sa hr 0) hg (by omega) (by decide) (by decide)
  · rw [if_pos c1, if_pos c1]

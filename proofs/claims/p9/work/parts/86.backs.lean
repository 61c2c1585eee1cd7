theorem night_h {L : mh_Lw} {v d1 : mh_V} (h0 : 0 ≤ v.2.1.toInt) {p1 p2 : Int32} (hp1 : p1.toInt ≤ 60) : ∀ (n : Nat) (b : Int) (s : mh_H) (x a c d e f : Int32), mh_rA L v d1 b s → b + (n : Int) ≤ 2000000000 → 0 ≤ x.toInt → x.toInt ≤ p1.toInt → p1.toInt < x.toInt + (n : Int) → mh_rN L v (l_eX10_night_47_1 p1 p2 n s x a c d e f).2 ∧ mh_sd 1 (l_eX10_night_47_1 p1 p2 n s x a c d e f).2 = d1 := by
  intro n
  induction n with
  | zero =>
    intro b s x a c d e f h hb hx0 hx1 hf
    -- no turn is left: x is at p1 or behind it only if n > 0
    exfalso
    omega
  | succ n ih =>
    intro b s x a c d e f h hb hx0 hx1 hf
    rw [l_eX10_night_47_1_s]
    unfold ls_eX10_night_47_1 j_eX10_night_95_3 j_eX10_night_110_2
    by_cases hx : x.toInt < p1.toInt
    · rw [if_pos hx]
      have hxn := nn_inc hx0 (m := 60) (by omega) (by decide)
      simp only [mh_lbE, mh_lb2E]
      have r1 := rA_step h (by omega)
      have r3 := rA_mi (rA_hi r1)
      have r4 := rA_lo r3
      generalize (f_eX10_misty (f_eX10_highestTop (f_eX10_stepOne s)).2).2 = q at r3 r4 ⊢
      generalize (f_eX10_lowestMisty q).2 = q2 at r4 ⊢
      repeat' split
      all_goals first
        | exact ih _ _ (x + 1) _ _ _ _ _ r3 (by omega) (by omega) (by omega) (by omega)
        | exact ih _ _ (x + 1) _ _ _ _ _ r4 (by omega) (by omega) (by omega) (by omega)
    · rw [if_neg hx]
      simp only [mh_lbE]
      have re := rA_end h h0
      generalize f_eX10_putsBack s 0 = q at re ⊢
      repeat' split
      all_goals exact re
theorem night_back {L : mh_Lw} {v : mh_V} {sr : mh_H} (hr : mh_rN L v sr) (hg : mh_rg v) (hb : v.2.1.toInt ≤ 1000000000) (p1 p2 : Int32) : mh_rN L v (f_eX10_night sr p1 p2).2 ∧ mh_sd 1 (f_eX10_night sr p1 p2).2 = mh_sd 1 sr := by
  unfold f_eX10_night
  obtain ⟨m, hm⟩ : ∃ m : Nat, m = 61 := ⟨_, rfl⟩
  rw [show (61 : Nat) = m by omega]
  have ra := rA_sa hr hg
  simp only [mh_lbE, fq_ni10]
  by_cases c1 : 1 ≤ p1.toInt ∧ p1.toInt ≤ 60
  · rw [if_neg (not_not_intro c1)]
    split
    · exact ⟨hr, rfl⟩
    · exact night_h hr.2.2.2 c1.2 m _ _ 0 _ _ _ _ _ ra (by omega) (by decide) (by have := kc_0; omega) (by have := kc_0; omega)
  · rw [if_pos c1]; exact ⟨hr, rfl⟩
theorem sun_h {L : mh_Lw} {v d1 : mh_V} (h0 : 0 ≤ v.2.1.toInt) {p3 p4 p : Int32} (hp4 : p4.toInt ≤ 60) : ∀ (n : Nat) (b : Int) (s : mh_H) (x a : Int32), mh_rA L v d1 b s → b + (n : Int) ≤ 2000000000 → 0 ≤ x.toInt → x.toInt ≤ p4.toInt → p4.toInt < x.toInt + (n : Int) → mh_rN L v (l_eX10_sun_58_1 p3 p4 p n s x a).2 ∧ mh_sd 1 (l_eX10_sun_58_1 p3 p4 p n s x a).2 = d1 := by
  intro n
  induction n with
  | zero =>
    intro b s x a h hb hx0 hx1 hf
    by_cases hx : x.toInt < p4.toInt
    · exfalso; omega
    · exfalso; omega
  | succ n ih =>
    intro b s x a h hb hx0 hx1 hf
    rw [l_eX10_sun_58_1_s]
    unfold ls_eX10_sun_58_1 j_eX10_sun_98_3 j_eX10_sun_103_2
    by_cases hx : x.toInt < p4.toInt
    · rw [if_pos hx]
      have hxn := nn_inc hx0 (m := 60) (by omega) (by decide)
      simp only [mh_lbE, mh_lb2E]
      have r1 := rA_ma (rA_step h (by omega)) p
      generalize (f_eX10_mistAt (f_eX10_stepOne s) p).2 = q at r1 ⊢
      repeat' split
      all_goals exact ih _ _ (x + 1) _ r1 (by omega) (by omega) (by omega) (by omega)
    · rw [if_neg hx]
      simp only [mh_lbE]
      exact rA_end h h0
theorem sun_back {L : mh_Lw} {v : mh_V} {sr : mh_H} (hr : mh_rN L v sr) (hg : mh_rg v) (hb : v.2.1.toInt ≤ 1000000000) (p1 p2 p3 p4 : Int32) : mh_rN L v (f_eX10_sun sr p1 p2 p3 p4).2 ∧ mh_sd 1 (f_eX10_sun sr p1 p2 p3 p4).2 = mh_sd 1 sr := by
  unfold f_eX10_sun
  obtain ⟨m, hm⟩ : ∃ m : Nat, m = 61 := ⟨_, rfl⟩
  rw [show (61 : Nat) = m by omega]
  have ra := rA_sa hr hg
  simp only [mh_lbE, fq_ni10, fq_ce10]
  split
  · exact ⟨hr, rfl⟩
  · by_cases c1 : 1 ≤ p4.toInt ∧ p4.toInt ≤ 60
    · rw [if_neg (not_not_intro c1)]
      split
      · exact ⟨hr, rfl⟩
      · exact sun_h hr.2.2.2 c1.2 m _ _ 0 _ ra (by omega) (by decide) (by have := kc_0; omega) (by have := kc_0; omega)
    · rw [if_pos c1]; exact ⟨hr, rfl⟩
theorem band_h {L : mh_Lw} {v d1 : mh_V} (h0 : 0 ≤ v.2.1.toInt) {p1 p2 : Int32} (hp1 : p1.toInt ≤ 60) : ∀ (n : Nat) (b : Int) (s : mh_H) (x a : Int32), mh_rA L v d1 b s → b + (n : Int) ≤ 2000000000 → 0 ≤ x.toInt → x.toInt ≤ p1.toInt → p1.toInt < x.toInt + (n : Int) → mh_rN L v (l_eX10_band_31_1 p1 p2 n s x a).2 ∧ mh_sd 1 (l_eX10_band_31_1 p1 p2 n s x a).2 = d1 := by
  intro n
  induction n with
  | zero => intro b s x a h hb hx0 hx1 hf; exfalso; omega
  | succ n ih =>
    intro b s x a h hb hx0 hx1 hf
    rw [l_eX10_band_31_1_s]
    unfold ls_eX10_band_31_1
    by_cases hx : x.toInt < p1.toInt
    · rw [if_pos hx]
      have hxn := nn_inc hx0 (m := 60) (by omega) (by decide)
      simp only [mh_lbE]
      have r1 := rA_step h (by omega)
      obtain ⟨w, hw⟩ : ∃ w, mh_vr (f_eX10_stepOne s) = w := ⟨_, rfl⟩
      rw [bin_r hw]
      exact ih _ _ (x + 1) _ r1 (by omega) (by omega) (by omega) (by omega)
    · rw [if_neg hx]
      simp only [mh_lbE]
      have re := rA_end h h0
      generalize f_eX10_putsBack s 0 = q at re ⊢
      repeat' split
      all_goals exact re
theorem band_back {L : mh_Lw} {v : mh_V} {sr : mh_H} (hr : mh_rN L v sr) (hg : mh_rg v) (hb : v.2.1.toInt ≤ 1000000000) (p1 p2 : Int32) : mh_rN L v (f_eX10_band sr p1 p2).2 ∧ mh_sd 1 (f_eX10_band sr p1 p2).2 = mh_sd 1 sr := by
  unfold f_eX10_band
  obtain ⟨m, hm⟩ : ∃ m : Nat, m = 61 := ⟨_, rfl⟩
  rw [show (61 : Nat) = m by omega]
  have ra := rA_sa hr hg
  simp only [mh_lbE, fq_ni10]
  by_cases c1 : 1 ≤ p1.toInt ∧ p1.toInt ≤ 60
  · rw [if_neg (not_not_intro c1)]
    split
    · exact ⟨hr, rfl⟩
    · exact band_h hr.2.2.2 c1.2 m _ _ 0 _ ra (by omega) (by decide) (by have := kc_0; omega) (by have := kc_0; omega)
  · rw [if_pos c1]; exact ⟨hr, rfl⟩

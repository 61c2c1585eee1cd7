def mh_rnS (S : List (Nat × Nat)) : Bool := mh_vrS S && S.all (fun e => !(decide (64 ≤ e.1) && decide (e.1 ≤ 69)) && !(e.1 == 57 && (e.2 == 10 || e.2 == 9999)))
theorem rN_F {S : List (Nat × Nat)} {L : mh_Lw} {v : mh_V} {s s' : mh_H} (h : mh_rN L v s) (hF : mh_F S s s') (hp : mh_p3 s') (hS : mh_rnS S = true) : mh_rN L v s' := by
  obtain ⟨h1, h2⟩ := Bool.and_eq_true_iff.mp hS
  have h0 := List.all_eq_true.mp h2
  refine ⟨(vr_fr hF h1).trans h.1, LR_mono h.2.1 (fun i a b => F_row1 hF (fun e he q => ?_)) (F_at1 hF (fun e he q => ?_)), hp, h.2.2.2⟩
  · have h3 := h0 e he
    rw [q] at h3
    simp [a, b] at h3
  · have h3 := h0 e he
    rcases q.2 with g | g <;> simp [q.1, g] at h3
def mh_sdS (S : List (Nat × Nat)) : Bool := S.all (fun e => (decide (e.1 < 83) || decide (88 < e.1)) && !(e.1 == 63))
theorem sd_FS {S : List (Nat × Nat)} (k : Nat) {s s' : mh_H} (hF : mh_F S s s') (hS : mh_sdS S = true) : mh_sd k s' = mh_sd k s := by
  refine sd_F hF (fun e he => ?_)
  have := List.all_eq_true.mp hS e he
  simp at this
  omega
/-- the reference in a night: some valley now, the one before set aside -/
def mh_rA (L : mh_Lw) (v d1 : mh_V) (b : Int) (s : mh_H) : Prop := (∃ w, mh_rN L w s ∧ mh_rg w ∧ w.2.1.toInt ≤ b) ∧ mh_sd 0 s = v ∧ mh_sd 1 s = d1
theorem rA_F {S : List (Nat × Nat)} {L : mh_Lw} {v d1 : mh_V} {b : Int} {s s' : mh_H} (h : mh_rA L v d1 b s) (hF : mh_F S s s') (hp : mh_p3 s') (hS : mh_rnS S = true) (hS2 : mh_sdS S = true) : mh_rA L v d1 b s' := by
  obtain ⟨⟨w, h1, h2, h3⟩, h4, h5⟩ := h
  exact ⟨⟨w, rN_F h1 hF hp hS, h2, h3⟩, (sd_FS 0 hF hS2).trans h4, (sd_FS 1 hF hS2).trans h5⟩
theorem rA_p3 {L : mh_Lw} {v d1 : mh_V} {b : Int} {s : mh_H} (h : mh_rA L v d1 b s) : mh_p3 s := by
  obtain ⟨⟨w, h1, -⟩, -⟩ := h
  exact h1.2.2.1
theorem rA_step {L : mh_Lw} {v d1 : mh_V} {b : Int} {s : mh_H} (h : mh_rA L v d1 b s) (hb : b ≤ 2000000000) : mh_rA L v d1 (b + 1) (f_eX10_stepOne s) := by
  obtain ⟨⟨w, h1, h2, h3⟩, h4, h5⟩ := h
  refine ⟨⟨_, rN_step h1 h2 (by omega), stp_g h2, ?_⟩, (sd_st 0 h1.2.2.1).trans h4, (sd_st 1 h1.2.2.1).trans h5⟩
  rw [stp_n, nn_inc h1.2.2.2 (m := 2000000000) (by omega) (by decide)]
  omega
theorem rA_mono {L : mh_Lw} {v d1 : mh_V} {b b' : Int} {s : mh_H} (h : mh_rA L v d1 b s) (hb : b ≤ b') : mh_rA L v d1 b' s := by
  obtain ⟨⟨w, h1, h2, h3⟩, h4, h5⟩ := h
  exact ⟨⟨w, h1, h2, by omega⟩, h4, h5⟩
theorem rA_end {L : mh_Lw} {v d1 : mh_V} {b : Int} {s : mh_H} (h : mh_rA L v d1 b s) (h0 : 0 ≤ v.2.1.toInt) : mh_rN L v (f_eX10_putsBack s 0) ∧ mh_sd 1 (f_eX10_putsBack s 0) = d1 := by
  obtain ⟨⟨w, h1, h2, h3⟩, h4, h5⟩ := h
  exact ⟨rN_pb h1 h4 h0, (sd_pb 1 h1.2.2.1 0).trans h5⟩
theorem rA_sa {L : mh_Lw} {v : mh_V} {s : mh_H} (h : mh_rN L v s) (hg : mh_rg v) : mh_rA L v (mh_sd 1 s) v.2.1.toInt (f_eX10_setsAside s 0) := by
  obtain ⟨s0, s1⟩ := sa_r (s := s) (p := 0) (k := 0) rfl (by decide)
  exact ⟨⟨v, rN_sa h 0, hg, Int.le_refl _⟩, s0.trans h.1, s1 1 (by decide) (by decide)⟩
theorem rA_hi {L : mh_Lw} {v d1 : mh_V} {b : Int} {s : mh_H} (h : mh_rA L v d1 b s) : mh_rA L v d1 b (f_eX10_highestTop s).2 := rA_F h (fr_eX10_highestTop s (rA_p3 h)).1 (fr_eX10_highestTop s (rA_p3 h)).2 (by decide) (by decide)
theorem rA_mi {L : mh_Lw} {v d1 : mh_V} {b : Int} {s : mh_H} (h : mh_rA L v d1 b s) : mh_rA L v d1 b (f_eX10_misty s).2 := rA_F h (fr_eX10_misty s (rA_p3 h)).1 (fr_eX10_misty s (rA_p3 h)).2 (by decide) (by decide)
theorem rA_lo {L : mh_Lw} {v d1 : mh_V} {b : Int} {s : mh_H} (h : mh_rA L v d1 b s) : mh_rA L v d1 b (f_eX10_lowestMisty s).2 := rA_F h (fr_eX10_lowestMisty s (rA_p3 h)).1 (fr_eX10_lowestMisty s (rA_p3 h)).2 (by decide) (by decide)
theorem rA_ma {L : mh_Lw} {v d1 : mh_V} {b : Int} {s : mh_H} (h : mh_rA L v d1 b s) (p : Int32) : mh_rA L v d1 b (f_eX10_mistAt s p).2 := rA_F h (fr_eX10_mistAt s p (rA_p3 h)).1 (fr_eX10_mistAt s p (rA_p3 h)).2 (by decide) (by decide)

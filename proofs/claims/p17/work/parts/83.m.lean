section
def mh_stN (L : mh_Lw) (v : mh_V) : Nat → mh_V
  | 0 => v
  | m + 1 => mh_stp L (mh_stN L v m)
theorem stN_0 {L : mh_Lw} {v : mh_V} : mh_stN L v 0 = v := by rw [mh_stN]
theorem stN_s {L : mh_Lw} {v : mh_V} {m : Nat} : mh_stN L v (m + 1) = mh_stp L (mh_stN L v m) := by rw [mh_stN]
def mh_trV (v : mh_V) (c : Nat) : mh_V := (fun r i => if r = 1 ∧ i = c then 2 else v.1 r i, v.2)
theorem trV_g {v : mh_V} (hg : mh_rg v) (c : Nat) : mh_rg (mh_trV v c) := by
  intro i hi
  obtain ⟨a1, a2, a3, a4⟩ := hg i hi
  refine ⟨a1, ?_, a3, a4⟩
  show mh_r (if (1 : Nat) = 1 ∧ i = c then 2 else v.1 1 i) 0 4
  split
  · exact ⟨by decide, by decide⟩
  · exact a2
theorem stN_g {L : mh_Lw} {v : mh_V} (hg : mh_rg v) : ∀ m, mh_rg (mh_stN L v m)
  | 0 => by rw [stN_0]; exact hg
  | m + 1 => by rw [stN_s]; exact stp_g (stN_g hg m)
theorem stN_n {L : mh_Lw} {v : mh_V} (h0 : 0 ≤ v.2.1.toInt) : ∀ m : Nat, v.2.1.toInt + (m : Int) ≤ 2000000000 → (mh_stN L v m).2.1.toInt = v.2.1.toInt + (m : Int)
  | 0, _ => by rw [stN_0]; omega
  | m + 1, h => by
    have ih := stN_n (L := L) h0 m (by omega)
    rw [stN_s, stp_n, nn_inc (m := 2000000000) (by omega) (by omega) (by decide), ih]
    omega
def mh_cc (v : mh_V) (o : Option Nat) : mh_V := match o with
  | none => v
  | some c => mh_trV v c
theorem cc_g {v : mh_V} (hg : mh_rg v) : ∀ o, mh_rg (mh_cc v o)
  | none => hg
  | some c => trV_g hg c
theorem cc_n {v : mh_V} : ∀ o, (mh_cc v o).2 = v.2
  | none => rfl
  | some c => rfl
/-- an int that tells a cell or none -/
def mh_oc1 (p : Int32) (o : Option Nat) : Prop := match o with
  | none => p.toInt = -1
  | some c => p.toInt = (c : Int) ∧ c < 144
theorem cN_keep1 {kl : Nat} (hl : mh_isL kl) {L : mh_Lw} {v : mh_V} {s s' : mh_H} (h : mh_cN 1 kl L v s) (hF : mh_F S_eX9_passTrial s s') (hp : mh_p3 s') : mh_cN 1 kl L v s' := by
  refine cN_F h hF hp ?_ ?_ ?_
  · decide
  · rcases hl with rfl | rfl <;> decide
  · decide
theorem pt_c {kl : Nat} (hl : mh_isL kl) {L : mh_Lw} {v : mh_V} {s : mh_H} (h : mh_cN 1 kl L v s) (hg : mh_rg v) {p1 p2 : Int32} {n : Nat} (hp1 : p1.toInt = (n : Int)) (hn : n ≤ 60) {o : Option Nat} (hp2 : mh_oc1 p2 o) : mh_cN 13 kl L (mh_stN L (mh_cc v o) n) (f_eX9_passTrial s p1 p2) ∧ mh_cN 1 kl L v (f_eX9_passTrial s p1 p2) := by
  have hF := fr_eX9_passTrial s p1 p2 h.2.2.2
  refine ⟨?_, cN_keep1 hl h hF.1 hF.2⟩
  have hc := cN_copy hl h
  have loop : ∀ s1, mh_cN 13 kl L (mh_cc v o) s1 → mh_cN 13 kl L (mh_stN L (mh_cc v o) n) (j_eX9_passTrial_31_1 s1 p1) := by
    intro s1 h1
    unfold j_eX9_passTrial_31_1
    refine mh_for (l_eX9_passTrial_33_2 p1) n (fun s m => mh_cN 13 kl L (mh_stN L (mh_cc v o) m) s) (fun s => mh_cN 13 kl L (mh_stN L (mh_cc v o) n) s) (by omega) ?_ ?_ 61 s1 0 0 rfl (by omega) (by rw [stN_0]; exact h1) (by omega)
    · intro k s x m hx hm hi
      rw [l_eX9_passTrial_33_2_s]
      unfold ls_eX9_passTrial_33_2
      rw [if_pos (by omega)]
      simp only [mh_lbE]
      rw [hi.2.1]
      refine ⟨f_eX0_pass s 13 kl, ?_, rfl⟩
      rw [stN_s]
      exact cN_pass V13 hl hi (stN_g (cc_g hg o) m)
    · intro k s x hx hi
      rw [l_eX9_passTrial_33_2_s]
      unfold ls_eX9_passTrial_33_2
      rw [if_neg (by omega)]
      exact hi
  have k143 : (143 : Int32).toInt = 143 := rfl
  unfold f_eX9_passTrial
  simp only [mh_lbE, fq_within, k143]
  cases o with
  | none =>
    have hp : p2.toInt = -1 := hp2
    rw [if_pos (by omega)]
    exact loop _ hc
  | some c =>
    obtain ⟨hp, hc1⟩ := hp2
    rw [if_neg (by omega), ix_n hp]
    refine loop _ ⟨?_, hc.2.1, ?_, hc.2.2.2⟩
    · show mh_vc 13 _ = mh_trV v c
      rw [← hc.1]
      generalize f_eX8_copyFrom s 13 1 = q
      refine vc_ext (fun r i hz => ?_) (fun r i hi hr => ?_) ?_ ?_
      · show (if r = 1 ∧ i = c then 2 else (mh_vc 13 q).1 r i) = 0
        rw [if_neg (fun z => hz ⟨by rw [z.1, z.2]; exact vn_r hc1 (by decide), by omega⟩)]
        exact vc_0 hz
      · show _ = if r = 1 ∧ i = c then 2 else (mh_vc 13 q).1 r i
        rw [pI_v, vc_at hi hr]
        by_cases z : r = 1 ∧ i = c
        · rw [if_pos z, if_pos ⟨by omega, z.2⟩]
        · rw [if_neg z, if_neg (fun y => z ⟨by omega, y.2⟩)]
      · rw [pI_o (by decide)]; rfl
      · rw [pI_o (by decide)]; rfl
    · refine LC_F hc.2.2.1 (S := [(15, 9999)]) (mh_F_pI mh_F_rf ⟨(15, 9999), by simp, rfl, Or.inl rfl⟩) ?_
      have := L40 hl
      simp; omega
theorem rN_pb {L : mh_Lw} {v w : mh_V} {s : mh_H} (h : mh_rN L w s) (hs : mh_sd 0 s = v) (h0 : 0 ≤ v.2.1.toInt) : mh_rN L v (f_eX10_putsBack s 0) := by
  have hF := fr_eX10_putsBack s 0 h.2.2.1
  refine ⟨(pb_r (k := 0) rfl (by decide)).trans hs, LR_mono h.2.1 (fun i a b => F_row1 hF.1 (fun e he => ?_)) (F_at1 hF.1 (fun e he => ?_)), hF.2, h0⟩
  · simp only [S_eX10_putsBack, List.mem_cons, List.not_mem_nil, or_false] at he
    rcases he with rfl | rfl | rfl | rfl | rfl | rfl <;> simp <;> omega
  · simp only [S_eX10_putsBack, List.mem_cons, List.not_mem_nil, or_false] at he
    rcases he with rfl | rfl | rfl | rfl | rfl | rfl <;> simp
theorem sd_pb (k : Nat) {s : mh_H} (hp : mh_p3 s) (p : Int32) : mh_sd k (f_eX10_putsBack s p) = mh_sd k s := by
  refine sd_F (fr_eX10_putsBack s p hp).1 (fun e he => ?_)
  simp only [S_eX10_putsBack, List.mem_cons, List.not_mem_nil, or_false] at he
  rcases he with rfl | rfl | rfl | rfl | rfl | rfl <;> simp
theorem sd_st (k : Nat) {s : mh_H} (hp : mh_p3 s) : mh_sd k (f_eX10_stepOne s) = mh_sd k s := by
  refine sd_F (fr_eX10_stepOne s hp).1 (fun e he => ?_)
  simp only [S_eX10_stepOne, List.mem_cons, List.not_mem_nil, or_false] at he
  rcases he with rfl | rfl | rfl | rfl | rfl | rfl | rfl | rfl | rfl | rfl | rfl | rfl | rfl | rfl | rfl <;> simp
theorem p3_pI {s : mh_H} {k j : Nat} {x : Int32} (h : mh_p3 s) : mh_p3 (mh_pI s k j x) := h
theorem vr_x (s : mh_H) : Int64.toInt32 (s.2.1 57 4) = (mh_vr s).2.2 := by unfold mh_vr; rfl
theorem trV_2 (v : mh_V) (c : Nat) : (mh_trV v c).2 = v.2 := rfl
theorem ln_r {L : mh_Lw} {v : mh_V} {s : mh_H} (h : mh_rN L v s) (hg : mh_rg v) (hb : v.2.1.toInt ≤ 1000000000) {p1 p2 : Int32} {n : Nat} (hp2 : p2.toInt = (n : Int)) (hn : n ≤ 60) {o : Option Nat} (hp1 : mh_oc1 p1 o) : mh_rN L (mh_stN L (mh_cc v o) n) (f_eX10_laysNight s p1 p2) ∧ mh_sd 0 (f_eX10_laysNight s p1 p2) = v ∧ mh_sd 1 (f_eX10_laysNight s p1 p2) = mh_sd 1 s := by
  have hsa := rN_sa h 0
  obtain ⟨s0, s1⟩ := sa_r (s := s) (p := 0) (k := 0) rfl (by decide)
  have s1 := s1 1 (by decide) (by decide)
  rw [h.1] at s0
  have loop : ∀ q, mh_rN L (mh_cc v o) q → mh_sd 0 q = v → mh_sd 1 q = mh_sd 1 s → mh_rN L (mh_stN L (mh_cc v o) n) (j_eX10_laysNight_17_1 q p2) ∧ mh_sd 0 (j_eX10_laysNight_17_1 q p2) = v ∧ mh_sd 1 (j_eX10_laysNight_17_1 q p2) = mh_sd 1 s := by
    intro q h1 h2 h3
    unfold j_eX10_laysNight_17_1
    refine mh_for (l_eX10_laysNight_19_2 p2) n (fun q m => mh_rN L (mh_stN L (mh_cc v o) m) q ∧ mh_sd 0 q = v ∧ mh_sd 1 q = mh_sd 1 s) (fun q => mh_rN L (mh_stN L (mh_cc v o) n) q ∧ mh_sd 0 q = v ∧ mh_sd 1 q = mh_sd 1 s) (by omega) ?_ ?_ 61 q 0 0 rfl (by omega) (by rw [stN_0]; exact ⟨h1, h2, h3⟩) (by omega)
    · intro k q x m hx hm ⟨i1, i2, i3⟩
      rw [l_eX10_laysNight_19_2_s]
      unfold ls_eX10_laysNight_19_2
      rw [if_pos (by omega)]
      simp only [mh_lbE]
      have hv0 : 0 ≤ (mh_cc v o).2.1.toInt := by rw [cc_n]; exact h.2.2.2
      have hvb : (mh_cc v o).2.1.toInt ≤ 1000000000 := by rw [cc_n]; exact hb
      refine ⟨f_eX10_stepOne q, ?_, rfl⟩
      rw [stN_s]
      refine ⟨rN_step i1 (stN_g (cc_g hg o) m) (by rw [stN_n hv0 m (by omega)]; omega), ?_, ?_⟩
      · rw [sd_st 0 i1.2.2.1]; exact i2
      · rw [sd_st 1 i1.2.2.1]; exact i3
    · intro k q x hx hi
      rw [l_eX10_laysNight_19_2_s]
      unfold ls_eX10_laysNight_19_2
      rw [if_neg (by omega)]
      exact hi
  have km : (-1 : Int32).toInt = -1 := rfl
  unfold f_eX10_laysNight
  simp only [mh_lbE, km]
  generalize f_eX10_setsAside s 0 = q at hsa s0 s1
  cases o with
  | none =>
    have hp : p1.toInt = -1 := hp1
    rw [if_pos hp]
    exact loop q hsa s0 s1
  | some c =>
    obtain ⟨hp, hc1⟩ := hp1
    rw [if_neg (by omega), ix_n hp]
    have hF : mh_F [(60, 9999)] q (mh_pI q 60 c 2) := mh_F_pI mh_F_rf ⟨(60, 9999), by simp, rfl, Or.inl rfl⟩
    refine loop (mh_pI q 60 c 2) ⟨?_, ?_, p3_pI hsa.2.2.1, by rw [cc_n]; exact hsa.2.2.2⟩ ?_ ?_
    · show mh_vr _ = mh_trV v c
      rw [← hsa.1]
      refine vr_ext (fun r i hz => ?_) (fun r i hi hr => ?_) ?_ (by rw [trV_2, ← vr_x]; rfl)
      · show (if r = 1 ∧ i = c then 2 else (mh_vr q).1 r i) = 0
        rw [if_neg (fun z => hz ⟨by rw [z.1, z.2]; exact vn_r hc1 (by decide), by omega⟩)]
        exact vr_0 hz
      · show _ = if r = 1 ∧ i = c then 2 else (mh_vr q).1 r i
        rw [pI_v, vr_at hi hr]
        by_cases z : r = 1 ∧ i = c
        · rw [if_pos z, if_pos ⟨by omega, z.2⟩]
        · rw [if_neg z, if_neg (fun y => z ⟨by omega, y.2⟩)]
      · rw [pI_o (by decide)]; rfl
    · exact LR_mono hsa.2.1 (fun i a b => F_row1 hF (by simp; omega)) (F_at1 hF (by simp))
    · rw [sd_F hF (by simp)]; exact s0
    · rw [sd_F hF (by simp)]; exact s1
theorem tw_lp {p4 : Int32} {sc sr : mh_H} (h1 : ∀ c, c < 144 → sc.1 16 c = sr.1 61 c) (h2 : ∀ c, c < 144 → sc.1 39 c = sr.1 89 c) : ∀ (n : Nat) (x a g l m : Int32), 0 ≤ x.toInt → x.toInt ≤ 144 → l_eX9_tellWorks_14_1 sc p4 n x a g l m = (l_eX10_works_112_2 sr p4 n x a g l m).1 := by
  intro n
  induction n with
  | zero => intros; rfl
  | succ n ih =>
    intro x a g l m hx0 hx1
    have k1 := kc_1
    have k2 : (2 : Int32).toInt = 2 := rfl
    have k144 : (144 : Int32).toInt = 144 := rfl
    rw [l_eX9_tellWorks_14_1_s, l_eX10_works_112_2_s]
    unfold ls_eX9_tellWorks_14_1 ls_eX10_works_112_2 j_eX9_tellWorks_50_2 j_eX9_tellWorks_58_3 j_eX9_tellWorks_73_4 j_eX10_works_149_3 j_eX10_works_164_4 j_eX10_works_185_5
    by_cases hx : x.toInt < (144 : Int32).toInt
    · rw [if_pos hx, if_pos hx]
      have hxn := nn_inc hx0 (m := 144) (by omega) (by decide)
      simp only [mh_lbE, Int32.add_zero]
      rw [h1 x.toNatClampNeg (by show x.toInt.toNat < 144; omega), h2 x.toNatClampNeg (by show x.toInt.toNat < 144; omega)]
      generalize sr.1 61 x.toNatClampNeg - sr.1 89 x.toNatClampNeg = d
      have goal : ∀ a g l m, l_eX9_tellWorks_14_1 sc p4 n (x + 1) a g l m = (l_eX10_works_112_2 sr p4 n (x + 1) a g l m).1 := fun a g l m => ih (x + 1) a g l m (by omega) (by omega)
      by_cases c1 : 0 < d.toInt <;> by_cases c2 : d.toInt < 0 <;> by_cases c3 : a.toInt < d.toInt <;> simp only [c1, c2, c3, if_true, if_false] <;> exact goal _ _ _ _
    · rw [if_neg hx, if_neg hx]
      simp only [mh_lbE, k1, k2]
      by_cases a0 : p4.toInt = 0
      · rw [if_pos a0, if_pos a0]
      · rw [if_neg a0, if_neg a0]
        by_cases a1 : p4.toInt = 1
        · rw [if_pos a1, if_pos a1]
        · rw [if_neg a1, if_neg a1]
          by_cases a2 : p4.toInt = 2
          · rw [if_pos a2, if_pos a2]
          · rw [if_neg a2, if_neg a2]
end
section
theorem w112_h {p4 : Int32} {s : mh_H} : ∀ (n : Nat) (x a g l m : Int32), 0 ≤ x.toInt → x.toInt ≤ 144 → 144 < x.toInt + (n : Int) → (l_eX10_works_112_2 s p4 n x a g l m).2 = f_eX10_putsBack s 0 := by
  intro n
  induction n with
  | zero => intro x a g l m h0 h1 h2; exfalso; omega
  | succ n ih =>
    intro x a g l m h0 h1 h2
    have k144 : (144 : Int32).toInt = 144 := rfl
    rw [l_eX10_works_112_2_s]
    unfold ls_eX10_works_112_2 j_eX10_works_149_3 j_eX10_works_164_4 j_eX10_works_185_5
    by_cases hx : x.toInt < (144 : Int32).toInt
    · rw [if_pos hx]
      have hxn := nn_inc h0 (m := 144) (by omega) (by decide)
      have goal : ∀ a g l m, (l_eX10_works_112_2 s p4 n (x + 1) a g l m).2 = f_eX10_putsBack s 0 := fun a g l m => ih (x + 1) a g l m (by omega) (by omega) (by omega)
      simp only [mh_lbE]
      generalize f_eX10_putsBack s 0 = Q at goal ⊢
      generalize s.1 61 x.toNatClampNeg - s.1 89 x.toNatClampNeg = d
      by_cases c1 : 0 < d.toInt <;> by_cases c2 : d.toInt < 0 <;> by_cases c3 : a.toInt < d.toInt <;> simp only [c1, c2, c3, if_true, if_false] <;> exact goal _ _ _ _
    · rw [if_neg hx]
      simp only [mh_lbE]
      generalize f_eX10_putsBack s 0 = Q
      by_cases a0 : p4.toInt = 0
      · rw [if_pos a0]
      · rw [if_neg a0]
        by_cases a1 : p4.toInt = (1 : Int32).toInt
        · rw [if_pos a1]
        · rw [if_neg a1]
          by_cases a2 : p4.toInt = (2 : Int32).toInt
          · rw [if_pos a2]
          · rw [if_neg a2]
theorem works_eq {kl : Nat} (hl : mh_isL kl) {L : mh_Lw} {v : mh_V} {sc sr : mh_H} (hc : mh_cN 1 kl L v sc) (hr : mh_rN L v sr) (hg : mh_rg v) (hb : v.2.1.toInt ≤ 1000000000) (p1 p2 p3 p4 : Int32) : (f_eX9_works sc p1 p2 p3 p4).1 = (f_eX10_works sr p1 p2 p3 p4).1 ∧ mh_rN L v (f_eX10_works sr p1 p2 p3 p4).2 ∧ mh_sd 1 (f_eX10_works sr p1 p2 p3 p4).2 = mh_sd 1 sr := by
  have a0 : (0 : Int64).toInt = 0 := rfl
  have a3 : (3 : Int64).toInt = 3 := rfl
  have b3 : (3 : Int32).toInt = 3 := rfl
  have b2 : (2 : Int32).toInt = 2 := rfl
  unfold f_eX9_works f_eX10_works
  simp only [mh_lbE, fq_ni9, fq_ni10, fq_pl9, fq_ce10, fq_within, fq_lies, Int32.toInt_toInt64, a0, a3, b3, b2, ce_at]
  by_cases c1 : (0 ≤ p1.toInt ∧ p1.toInt ≤ 11) ∧ (0 ≤ p2.toInt ∧ p2.toInt ≤ 11)
  · rw [if_neg (not_not_intro c1), if_neg (not_not_intro c1)]
    obtain ⟨c, hc1, hc2⟩ := ce_ix c1.1 c1.2
    by_cases c2 : 1 ≤ p3.toInt ∧ p3.toInt ≤ 60
    · rw [if_neg (not_not_intro c2), if_neg (not_not_intro c2)]
      by_cases c3 : 0 ≤ p4.toInt ∧ p4.toInt ≤ 3
      · rw [if_neg (not_not_intro c3), if_neg (not_not_intro c3), ix_n hc2]
        have e1 : sc.1 3 c = v.1 1 c := by rw [← hc.1]; exact (vc_at (k := 1) (r := 1) (vn_r hc1 (by decide)) (by decide)).symm
        have e2 : sr.1 60 c = v.1 1 c := by rw [← hr.1]; exact (vr_at (r := 1) (vn_r hc1 (by decide)) (by decide)).symm
        rw [e1, e2]
        by_cases c4 : (v.1 1 c).toInt = 2
        · rw [if_pos c4, if_pos c4]; exact ⟨rfl, hr, rfl⟩
        · rw [if_neg c4, if_neg c4]
          obtain ⟨n, hn⟩ : ∃ n : Nat, p3.toInt = (n : Int) := ⟨p3.toInt.toNat, by omega⟩
          -- the class
          have hm1 : mh_oc1 (-1) none := rfl
          obtain ⟨x1, x2⟩ := pt_c hl hc hg hn (by omega) hm1
          have t1 : (144 : Int32).toNatClampNeg = 144 := rfl
          rw [t1]
          generalize f_eX9_passTrial sc p3 (-1) = s51 at x1 x2 ⊢
          have y39 : ∀ i, i < 144 → (mh_pA s51 39 (fun j => if j < 144 then s51.1 16 j else s51.1 39 j)).1 39 i = (mh_stN L v n).1 2 i := fun i hi => by
            rw [pA_w, if_pos hi]
            have := vc_at (k := 13) (r := 2) (c := i) (s := s51) (vn_r hi (by decide)) (by decide)
            rw [x1.1] at this
            exact this.symm
          have x3 : mh_cN 1 kl L v (mh_pA s51 39 (fun j => if j < 144 then s51.1 16 j else s51.1 39 j)) := by
            refine cN_F (S := [(39, 9999)]) x2 (mh_F_pA mh_F_rf (by simp)) x2.2.2.2 (by simp) ?_ (by simp)
            have := L40 hl
            simp; omega
          generalize mh_pA s51 39 (fun j => if j < 144 then s51.1 16 j else s51.1 39 j) = s53 at x3 y39 ⊢
          obtain ⟨x4, x5⟩ := pt_c hl x3 hg hn (by omega) (o := some c) (p2 := (12 : Int32) * p2 + p1) ⟨hc2, hc1⟩
          have z39 : ∀ i, i < 144 → (f_eX9_passTrial s53 p3 ((12 : Int32) * p2 + p1)).1 39 i = (mh_stN L v n).1 2 i := fun i hi => by
            rw [F_row1 (fr_eX9_passTrial s53 p3 ((12 : Int32) * p2 + p1) x3.2.2.2).1 (by decide)]
            exact y39 i hi
          generalize f_eX9_passTrial s53 p3 ((12 : Int32) * p2 + p1) = s56 at x4 z39 ⊢
          have z16 : ∀ i, i < 144 → s56.1 16 i = (mh_stN L (mh_trV v c) n).1 2 i := fun i hi => by
            have := vc_at (k := 13) (r := 2) (c := i) (s := s56) (vn_r hi (by decide)) (by decide)
            rw [x4.1] at this
            exact this.symm
          -- the reference
          obtain ⟨w1, w2, w3⟩ := ln_r hr hg hb hn (by omega) hm1
          generalize f_eX10_laysNight sr (-1) p3 = q0 at w1 w2 w3 ⊢
          refine mh_for (l_eX10_works_53_1 p1 p2 p3 p4) 144 (fun q m => mh_rN L (mh_stN L v n) q ∧ mh_sd 0 q = v ∧ mh_sd 1 q = mh_sd 1 sr ∧ ∀ i, i < m → q.1 89 i = (mh_stN L v n).1 2 i) (fun r => (f_eX9_tellWorks s56 p4) = r.1 ∧ mh_rN L v r.2 ∧ mh_sd 1 r.2 = mh_sd 1 sr) (by decide) ?_ ?_ 145 q0 0 0 rfl (by decide) ⟨w1, w2, w3, fun i hi => absurd hi (Nat.not_lt_zero i)⟩ (by decide)
          · intro k q x m hx hm ⟨i1, i2, i3, i4⟩
            have k144 : (144 : Int32).toInt = 144 := rfl
            rw [l_eX10_works_53_1_s]
            unfold ls_eX10_works_53_1
            rw [if_pos (by omega)]
            simp only [mh_lbE, ix_n hx]
            have e61 : q.1 61 m = (mh_stN L v n).1 2 m := by
              have := vr_at (r := 2) (c := m) (s := q) (vn_r hm (by decide)) (by decide)
              rw [i1.1] at this
              exact this.symm
            rw [e61]
            have hF : mh_F [(89, 9999)] q (mh_pI q 89 m ((mh_stN L v n).1 2 m)) := mh_F_pI mh_F_rf ⟨(89, 9999), by simp, rfl, Or.inl rfl⟩
            refine ⟨_, ⟨⟨(vr_fr hF (by decide)).trans i1.1, LR_mono i1.2.1 (fun i a b => F_row1 hF (by simp; omega)) (F_at1 hF (by simp)), p3_pI i1.2.2.1, i1.2.2.2⟩, ?_, ?_, ?_⟩, rfl⟩
            · rw [sd_F hF (by simp)]; exact i2
            · rw [sd_F hF (by simp)]; exact i3
            · intro i hi
              by_cases y : i = m
              · subst y; rw [pI_w]
              · rw [pI_j y]; exact i4 i (by omega)
          · intro k q x hx ⟨i1, i2, i3, i4⟩
            have k144 : (144 : Int32).toInt = 144 := rfl
            rw [l_eX10_works_53_1_s]
            unfold ls_eX10_works_53_1
            rw [if_neg (by omega)]
            simp only [mh_lbE, ce_at]
            have r1 := rN_pb i1 i2 hr.2.2.2
            have r2 : mh_sd 1 (f_eX10_putsBack q 0) = mh_sd 1 sr := by rw [sd_pb 1 i1.2.2.1]; exact i3
            have r3 : ∀ i, i < 144 → (f_eX10_putsBack q 0).1 89 i = (mh_stN L v n).1 2 i := fun i hi => by
              rw [F_row1 (fr_eX10_putsBack q 0 i1.2.2.1).1 (by decide)]
              exact i4 i hi
            generalize f_eX10_putsBack q 0 = q1 at r1 r2 r3 ⊢
            obtain ⟨u1, u2, u3⟩ := ln_r r1 hg hb hn (by omega) (o := some c) (p1 := (12 : Int32) * p2 + p1) ⟨hc2, hc1⟩
            have u4 : ∀ i, i < 144 → (f_eX10_laysNight q1 ((12 : Int32) * p2 + p1) p3).1 89 i = (mh_stN L v n).1 2 i := fun i hi => by
              rw [F_row1 (fr_eX10_laysNight q1 ((12 : Int32) * p2 + p1) p3 r1.2.2.1).1 (by decide)]
              exact r3 i hi
            generalize f_eX10_laysNight q1 ((12 : Int32) * p2 + p1) p3 = q2 at u1 u2 u3 u4 ⊢
            have u5 : ∀ i, i < 144 → q2.1 61 i = (mh_stN L (mh_trV v c) n).1 2 i := fun i hi => by
              have := vr_at (r := 2) (c := i) (s := q2) (vn_r hi (by decide)) (by decide)
              rw [u1.1] at this
              exact this.symm
            refine ⟨?_, ?_⟩
            · exact tw_lp (fun i hi => (z16 i hi).trans (u5 i hi).symm) (fun i hi => (z39 i hi).trans (u4 i hi).symm) 145 0 0 (-2) 0 0 (by decide) (by decide)
            · rw [w112_h 145 0 0 (-2) 0 0 (by decide) (by decide) (by decide)]
              exact ⟨rN_pb u1 u2 hr.2.2.2, by rw [sd_pb 1 u1.2.2.1]; rw [u3]; exact r2⟩
      · rw [if_pos c3, if_pos c3]; exact ⟨rfl, hr, rfl⟩
    · rw [if_pos c2, if_pos c2]; exact ⟨rfl, hr, rfl⟩
  · rw [if_pos c1, if_pos c1]; exact ⟨rfl, hr, rfl⟩
def mh_dI (p1 x lc bc lr br : Int32) : Prop := (bc = -2 ∧ lc = 10000 ∧ br = -1 ∧ (x.toInt = 0 ∨ (x.toInt = 1 ∧ p1.toInt = 0))) ∨ (0 ≤ bc.toInt ∧ bc = br ∧ lc = lr ∧ 0 ≤ lc.toInt)
theorem dam_stay {L : mh_Lw} {v : mh_V} (hg : mh_rg v) (hb : v.2.1.toInt ≤ 1000000000) {p1 p2 p3 : Int32} {d k2 : Nat} (hp1 : p1.toInt = (d : Int)) (hd : d < 144) (hp2 : p2.toInt = (k2 : Int)) (hk2 : k2 ≤ 60) (d1 : mh_V) : ∀ (n : Nat) (s : mh_H) (x br lr : Int32) (m : Nat), x.toInt = (m : Int) → m ≤ 144 → mh_rN L v s → mh_sd 1 s = d1 → 0 ≤ br.toInt → lr.toInt = 0 → 144 < n + m → (l_eX10_dam_45_1 p1 p2 p3 n s x lr br).1 = (if p3.toInt = 0 then br else lr) ∧ mh_rN L v (l_eX10_dam_45_1 p1 p2 p3 n s x lr br).2 ∧ mh_sd 1 (l_eX10_dam_45_1 p1 p2 p3 n s x lr br).2 = d1 := by
  intro n
  induction n with
  | zero => intro s x br lr m _ h1 _ _ _ _ h2; exfalso; omega
  | succ n ih =>
    intro s x br lr m hx hm h1 h2 h3 h4 h5
    have k144 : (144 : Int32).toInt = 144 := rfl
    have km : (-1 : Int32).toInt = -1 := rfl
    have k1 : (1 : Int32).toInt = ((1 : Nat) : Int) := rfl
    rw [l_eX10_dam_45_1_s]
    unfold ls_eX10_dam_45_1 j_eX10_dam_106_2 j_eX10_dam_98_3
    by_cases hlt : m < 144
    · rw [if_pos (by omega)]
      have hxn := ix_add hx (by omega) k1 (by decide)
      simp only [mh_lbE]
      by_cases e : x.toInt = p1.toInt
      · rw [if_pos e]
        exact ih s (x + 1) br lr (m + 1) hxn (by omega) h1 h2 h3 h4 (by omega)
      · rw [if_neg e, if_neg (by omega)]
        obtain ⟨w1, w2, w3⟩ := ln_r h1 hg hb hp2 hk2 (o := some m) ⟨hx, hlt⟩
        have cold : (f_eX10_laysNight s x p2).1 61 p1.toNatClampNeg = (mh_stN L (mh_trV v m) k2).1 2 d := by
          rw [ix_n hp1]
          have := vr_at (r := 2) (c := d) (s := f_eX10_laysNight s x p2) (vn_r hd (by decide)) (by decide)
          rw [w1.1] at this
          exact this.symm
        have cb := (stN_g (L := L) (trV_g hg m) k2 d hd).2.2.1.1
        rw [if_neg (by rw [cold]; omega)]
        exact ih _ (x + 1) br lr (m + 1) hxn (by omega) (rN_pb w1 w2 h1.2.2.2) (by rw [sd_pb 1 w1.2.2.1, w3]; exact h2) h3 h4 (by omega)
    · rw [if_neg (by omega)]
      by_cases a0 : p3.toInt = 0
      · rw [if_pos a0, if_pos a0]; exact ⟨rfl, h1, h2⟩
      · rw [if_neg a0, if_neg a0]; exact ⟨rfl, h1, h2⟩
theorem dam_lp {kl : Nat} (hl : mh_isL kl) {L : mh_Lw} {v : mh_V} (hg : mh_rg v) (hb : v.2.1.toInt ≤ 1000000000) {p1 p2 p3 : Int32} {d k2 : Nat} (hp1 : p1.toInt = (d : Int)) (hd : d < 144) (hp2 : p2.toInt = (k2 : Int)) (hk2 : k2 ≤ 60) (d1 : mh_V) : ∀ (n : Nat) (sc sr : mh_H) (x lc bc lr br : Int32) (m : Nat), x.toInt = (m : Int) → m ≤ 144 → mh_cN 1 kl L v sc → mh_rN L v sr → mh_sd 1 sr = d1 → mh_dI p1 x lc bc lr br → 144 < n + m → (l_eX9_dam_43_1 p1 p2 p3 n sc x lc bc).1 = (l_eX10_dam_45_1 p1 p2 p3 n sr x lr br).1 ∧ mh_rN L v (l_eX10_dam_45_1 p1 p2 p3 n sr x lr br).2 ∧ mh_sd 1 (l_eX10_dam_45_1 p1 p2 p3 n sr x lr br).2 = d1 := by
  intro n
  induction n with
  | zero => intro sc sr x lc bc lr br m _ h1 _ _ _ _ h2; exfalso; omega
  | succ n ih =>
    intro sc sr x lc bc lr br m hx hm h1 h2 h3 hD h5
    have k144 : (144 : Int32).toInt = 144 := rfl
    have km : (-1 : Int32).toInt = -1 := rfl
    have k1 : (1 : Int32).toInt = ((1 : Nat) : Int) := rfl
    have k10 : (10000 : Int32).toInt = 10000 := rfl
    by_cases hz : 0 < lc.toInt
    · rw [l_eX9_dam_43_1_s, l_eX10_dam_45_1_s]
      unfold ls_eX9_dam_43_1 ls_eX10_dam_45_1 j_eX9_dam_101_2 j_eX10_dam_106_2 j_eX10_dam_98_3
      by_cases hlt : m < 144
      · have hxl : x.toInt < (144 : Int32).toInt := by omega
        rw [if_pos hxl, if_pos hxl, if_pos hz]
        have hxn := ix_add hx (by omega) k1 (by decide)
        simp only [mh_lbE]
        by_cases e : x.toInt = p1.toInt
        · rw [if_pos e, if_pos e]
          refine ih sc sr (x + 1) lc bc lr br (m + 1) hxn (by omega) h1 h2 h3 ?_ (by omega)
          rcases hD with ⟨q1, q2, q3, q4⟩ | q
          · exact Or.inl ⟨q1, q2, q3, Or.inr ⟨by omega, by omega⟩⟩
          · exact Or.inr q
        · rw [if_neg e, if_neg e]
          obtain ⟨u1, u2⟩ := pt_c hl h1 hg hp2 hk2 (o := some m) (p2 := x) ⟨hx, hlt⟩
          obtain ⟨w1, w2, w3⟩ := ln_r h2 hg hb hp2 hk2 (o := some m) ⟨hx, hlt⟩
          have cold1 : (f_eX9_passTrial sc p2 x).1 16 p1.toNatClampNeg = (mh_stN L (mh_trV v m) k2).1 2 d := by
            rw [ix_n hp1]
            have := vc_at (k := 13) (r := 2) (c := d) (s := f_eX9_passTrial sc p2 x) (vn_r hd (by decide)) (by decide)
            rw [u1.1] at this
            exact this.symm
          have cold2 : (f_eX10_laysNight sr x p2).1 61 p1.toNatClampNeg = (mh_stN L (mh_trV v m) k2).1 2 d := by
            rw [ix_n hp1]
            have := vr_at (r := 2) (c := d) (s := f_eX10_laysNight sr x p2) (vn_r hd (by decide)) (by decide)
            rw [w1.1] at this
            exact this.symm
          have cb := (stN_g (L := L) (trV_g hg m) k2 d hd).2.2.1
          have cb1 := cb.1; have cb2 := cb.2
          rw [cold1, cold2]
          have r4 := rN_pb w1 w2 h2.2.2.2
          have r5 : mh_sd 1 (f_eX10_putsBack (f_eX10_laysNight sr x p2) 0) = d1 := by rw [sd_pb 1 w1.2.2.1, w3]; exact h3
          rcases hD with ⟨q1, q2, q3, q4⟩ | ⟨q1, q2, q3, q4⟩
          · rw [if_pos (by rw [q2, k10]; omega), if_pos (by rw [q3])]
            exact ih _ _ (x + 1) _ x _ x (m + 1) hxn (by omega) u2 r4 r5 (Or.inr ⟨by omega, rfl, rfl, by omega⟩) (by omega)
          · rw [if_neg (show ¬ br.toInt = (-1 : Int32).toInt by rw [← q2]; omega)]
            by_cases y : ((mh_stN L (mh_trV v m) k2).1 2 d).toInt < lc.toInt
            · rw [if_pos y, if_pos (by rw [← q3]; exact y)]
              exact ih _ _ (x + 1) _ x _ x (m + 1) hxn (by omega) u2 r4 r5 (Or.inr ⟨by omega, rfl, rfl, by omega⟩) (by omega)
            · rw [if_neg y, if_neg (by rw [← q3]; exact y)]
              exact ih _ _ (x + 1) lc bc lr br (m + 1) hxn (by omega) u2 r4 r5 (Or.inr ⟨q1, q2, q3, q4⟩) (by omega)
      · have hxl : ¬ x.toInt < (144 : Int32).toInt := by omega
        rw [if_neg hxl, if_neg hxl]
        rcases hD with ⟨q1, q2, q3, q4⟩ | ⟨q1, q2, q3, q4⟩
        · exfalso; omega
        · rw [q2, q3]
          by_cases a0 : p3.toInt = 0
          · rw [if_pos a0, if_pos a0]; exact ⟨rfl, h2, h3⟩
          · rw [if_neg a0, if_neg a0]; exact ⟨rfl, h2, h3⟩
    · rcases hD with ⟨q1, q2, q3, q4⟩ | ⟨q1, q2, q3, q4⟩
      · exfalso; rw [q2, k10] at hz; omega
      · have st := dam_stay (L := L) hg hb (p3 := p3) hp1 hd hp2 hk2 d1 (n + 1) sr x br lr m hx hm h2 h3 (by rw [← q2]; exact q1) (by rw [← q3]; omega) h5
        refine ⟨?_, st.2⟩
        rw [st.1, l_eX9_dam_43_1_s]
        unfold ls_eX9_dam_43_1
        rw [if_neg hz, q2, q3, ite_self]
        by_cases a0 : p3.toInt = 0
        · rw [if_pos a0, if_pos a0]
        · rw [if_neg a0, if_neg a0]
theorem dam_eq {kl : Nat} (hl : mh_isL kl) {L : mh_Lw} {v : mh_V} {sc sr : mh_H} (hc : mh_cN 1 kl L v sc) (hr : mh_rN L v sr) (hg : mh_rg v) (hb : v.2.1.toInt ≤ 1000000000) (p1 p2 p3 : Int32) : (f_eX9_dam sc p1 p2 p3).1 = (f_eX10_dam sr p1 p2 p3).1 ∧ mh_rN L v (f_eX10_dam sr p1 p2 p3).2 ∧ mh_sd 1 (f_eX10_dam sr p1 p2 p3).2 = mh_sd 1 sr := by
  have a0 : (0 : Int64).toInt = 0 := rfl
  have a1 : (1 : Int64).toInt = 1 := rfl
  have a20 : (20 : Int64).toInt = 20 := rfl
  have a143 : (143 : Int64).toInt = 143 := rfl
  have b1 := kc_1
  have b20 : (20 : Int32).toInt = 20 := rfl
  have b143 : (143 : Int32).toInt = 143 := rfl
  unfold f_eX9_dam f_eX10_dam
  obtain ⟨m, hm⟩ : ∃ m : Nat, m = 145 := ⟨_, rfl⟩
  rw [show (145 : Nat) = m by omega]
  simp only [mh_lbE, fq_within, fq_lies, Int32.toInt_toInt64, a0, a1, a20, a143, b1, b20, b143]
  by_cases c1 : 0 ≤ p1.toInt ∧ p1.toInt ≤ 143
  · rw [if_neg (not_not_intro c1), if_neg (not_not_intro c1)]
    by_cases c2 : 1 ≤ p2.toInt ∧ p2.toInt ≤ 20
    · rw [if_neg (show ¬ p2.toInt < 1 by omega), if_neg (show ¬ 20 < p2.toInt by omega), if_neg (not_not_intro c2)]
      by_cases c3 : 0 ≤ p3.toInt ∧ p3.toInt ≤ 1
      · rw [if_neg (not_not_intro c3), if_neg (not_not_intro c3)]
        exact dam_lp hl hg hb (d := p1.toInt.toNat) (by omega) (by omega) (k2 := p2.toInt.toNat) (by omega) (by omega) _ m sc sr 0 10000 (-2) 0 (-1) 0 rfl (by decide) hc hr rfl (Or.inl ⟨rfl, rfl, rfl, Or.inl (by decide)⟩) (by omega)
      · rw [if_pos c3, if_pos c3]; exact ⟨rfl, hr, rfl⟩
    · by_cases c4 : p2.toInt < 1
      · rw [if_pos c4, if_pos (by omega)]; exact ⟨rfl, hr, rfl⟩
      · rw [if_neg c4, if_pos (by omega), if_pos (by omega)]; exact ⟨rfl, hr, rfl⟩
  · rw [if_pos c1, if_pos c1]; exact ⟨rfl, hr, rfl⟩
end
section
def mh_rnS (S : List (Nat × Nat)) : Bool := mh_vrS S && S.all (fun e => !(decide (64 ≤ e.1) && decide (e.1 ≤ 69)) && !(e.1 == 57 && (e.2 == 10 || e.2 == 9999)))
theorem rN_F {S : List (Nat × Nat)} {L : mh_Lw} {v : mh_V} {s s' : mh_H} (h : mh_rN L v s) (hF : mh_F S s s') (hp : mh_p3 s') (hS : mh_rnS S = true) : mh_rN L v s' := by
  obtain ⟨h1, h2⟩ := Bool.and_eq_true_iff.mp hS
  have h0 := List.all_eq_true.mp h2
  refine ⟨(vr_fr hF h1).trans h.1, LR_mono h.2.1 (fun i a b => F_row1 hF (fun e he q => ?_)) (F_at1 hF (fun e he q => ?_)), hp, h.2.2.2⟩
  · have h3 := h0 e he
    rw [q] at h3
    simp [a, b] at h3
  · have h3 := h0 e he
    rcases q.2 with g | g <;> simp [q.1, g] at h3
def mh_sdS (S : List (Nat × Nat)) : Bool := S.all (fun e => (decide (e.1 < 83) || decide (88 < e.1)) && !(e.1 == 63))
theorem sd_FS {S : List (Nat × Nat)} (k : Nat) {s s' : mh_H} (hF : mh_F S s s') (hS : mh_sdS S = true) : mh_sd k s' = mh_sd k s := by
  refine sd_F hF (fun e he => ?_)
  have := List.all_eq_true.mp hS e he
  simp at this
  omega
/-- the reference in a night: some valley now, the one before set aside -/
def mh_rA (L : mh_Lw) (v d1 : mh_V) (b : Int) (s : mh_H) : Prop := (∃ w, mh_rN L w s ∧ mh_rg w ∧ w.2.1.toInt ≤ b) ∧ mh_sd 0 s = v ∧ mh_sd 1 s = d1
theorem rA_F {S : List (Nat × Nat)} {L : mh_Lw} {v d1 : mh_V} {b : Int} {s s' : mh_H} (h : mh_rA L v d1 b s) (hF : mh_F S s s') (hp : mh_p3 s') (hS : mh_rnS S = true) (hS2 : mh_sdS S = true) : mh_rA L v d1 b s' := by
  obtain ⟨⟨w, h1, h2, h3⟩, h4, h5⟩ := h
  exact ⟨⟨w, rN_F h1 hF hp hS, h2, h3⟩, (sd_FS 0 hF hS2).trans h4, (sd_FS 1 hF hS2).trans h5⟩
theorem rA_p3 {L : mh_Lw} {v d1 : mh_V} {b : Int} {s : mh_H} (h : mh_rA L v d1 b s) : mh_p3 s := by
  obtain ⟨⟨w, h1, -⟩, -⟩ := h
  exact h1.2.2.1
theorem rA_step {L : mh_Lw} {v d1 : mh_V} {b : Int} {s : mh_H} (h : mh_rA L v d1 b s) (hb : b ≤ 2000000000) : mh_rA L v d1 (b + 1) (f_eX10_stepOne s) := by
  obtain ⟨⟨w, h1, h2, h3⟩, h4, h5⟩ := h
  refine ⟨⟨_, rN_step h1 h2 (by omega), stp_g h2, ?_⟩, (sd_st 0 h1.2.2.1).trans h4, (sd_st 1 h1.2.2.1).trans h5⟩
  rw [stp_n, nn_inc h1.2.2.2 (m := 2000000000) (by omega) (by decide)]
  omega
theorem rA_mono {L : mh_Lw} {v d1 : mh_V} {b b' : Int} {s : mh_H} (h : mh_rA L v d1 b s) (hb : b ≤ b') : mh_rA L v d1 b' s := by
  obtain ⟨⟨w, h1, h2, h3⟩, h4, h5⟩ := h
  exact ⟨⟨w, h1, h2, by omega⟩, h4, h5⟩
theorem rA_end {L : mh_Lw} {v d1 : mh_V} {b : Int} {s : mh_H} (h : mh_rA L v d1 b s) (h0 : 0 ≤ v.2.1.toInt) : mh_rN L v (f_eX10_putsBack s 0) ∧ mh_sd 1 (f_eX10_putsBack s 0) = d1 := by
  obtain ⟨⟨w, h1, h2, h3⟩, h4, h5⟩ := h
  exact ⟨rN_pb h1 h4 h0, (sd_pb 1 h1.2.2.1 0).trans h5⟩
theorem rA_sa {L : mh_Lw} {v : mh_V} {s : mh_H} (h : mh_rN L v s) (hg : mh_rg v) : mh_rA L v (mh_sd 1 s) v.2.1.toInt (f_eX10_setsAside s 0) := by
  obtain ⟨s0, s1⟩ := sa_r (s := s) (p := 0) (k := 0) rfl (by decide)
  exact ⟨⟨v, rN_sa h 0, hg, Int.le_refl _⟩, s0.trans h.1, s1 1 (by decide) (by decide)⟩
theorem rA_hi {L : mh_Lw} {v d1 : mh_V} {b : Int} {s : mh_H} (h : mh_rA L v d1 b s) : mh_rA L v d1 b (f_eX10_highestTop s).2 := rA_F h (fr_eX10_highestTop s (rA_p3 h)).1 (fr_eX10_highestTop s (rA_p3 h)).2 (by decide) (by decide)
theorem rA_mi {L : mh_Lw} {v d1 : mh_V} {b : Int} {s : mh_H} (h : mh_rA L v d1 b s) : mh_rA L v d1 b (f_eX10_misty s).2 := rA_F h (fr_eX10_misty s (rA_p3 h)).1 (fr_eX10_misty s (rA_p3 h)).2 (by decide) (by decide)
theorem rA_lo {L : mh_Lw} {v d1 : mh_V} {b : Int} {s : mh_H} (h : mh_rA L v d1 b s) : mh_rA L v d1 b (f_eX10_lowestMisty s).2 := rA_F h (fr_eX10_lowestMisty s (rA_p3 h)).1 (fr_eX10_lowestMisty s (rA_p3 h)).2 (by decide) (by decide)
theorem rA_ma {L : mh_Lw} {v d1 : mh_V} {b : Int} {s : mh_H} (h : mh_rA L v d1 b s) (p : Int32) : mh_rA L v d1 b (f_eX10_mistAt s p).2 := rA_F h (fr_eX10_mistAt s p (rA_p3 h)).1 (fr_eX10_mistAt s p (rA_p3 h)).2 (by decide) (by decide)
end
section
theorem night_h {L : mh_Lw} {v d1 : mh_V} (h0 : 0 ≤ v.2.1.toInt) {p1 p2 : Int32} (hp1 : p1.toInt ≤ 60) : ∀ (n : Nat) (b : Int) (s : mh_H) (x a c d e f : Int32), mh_rA L v d1 b s → b + (n : Int) ≤ 2000000000 → 0 ≤ x.toInt → x.toInt ≤ p1.toInt → p1.toInt < x.toInt + (n : Int) → mh_rN L v (l_eX10_night_47_1 p1 p2 n s x a c d e f).2 ∧ mh_sd 1 (l_eX10_night_47_1 p1 p2 n s x a c d e f).2 = d1 := by
  intro n
  induction n with
  | zero =>
    intro b s x a c d e f h hb hx0 hx1 hf
    -- no turn is left: x is at p1 or behind it only if n > 0
    exfalso
    omega
  | succ n ih =>
    intro b s x a c d e f h hb hx0 hx1 hf
    rw [l_eX10_night_47_1_s]
    unfold ls_eX10_night_47_1 j_eX10_night_95_3 j_eX10_night_110_2
    by_cases hx : x.toInt < p1.toInt
    · rw [if_pos hx]
      have hxn := nn_inc hx0 (m := 60) (by omega) (by decide)
      simp only [mh_lbE, mh_lb2E]
      have r1 := rA_step h (by omega)
      have r3 := rA_mi (rA_hi r1)
      have r4 := rA_lo r3
      generalize (f_eX10_misty (f_eX10_highestTop (f_eX10_stepOne s)).2).2 = q at r3 r4 ⊢
      generalize (f_eX10_lowestMisty q).2 = q2 at r4 ⊢
      repeat' split
      all_goals first
        | exact ih _ _ (x + 1) _ _ _ _ _ r3 (by omega) (by omega) (by omega) (by omega)
        | exact ih _ _ (x + 1) _ _ _ _ _ r4 (by omega) (by omega) (by omega) (by omega)
    · rw [if_neg hx]
      simp only [mh_lbE]
      have re := rA_end h h0
      generalize f_eX10_putsBack s 0 = q at re ⊢
      repeat' split
      all_goals exact re
theorem night_back {L : mh_Lw} {v : mh_V} {sr : mh_H} (hr : mh_rN L v sr) (hg : mh_rg v) (hb : v.2.1.toInt ≤ 1000000000) (p1 p2 : Int32) : mh_rN L v (f_eX10_night sr p1 p2).2 ∧ mh_sd 1 (f_eX10_night sr p1 p2).2 = mh_sd 1 sr := by
  unfold f_eX10_night
  obtain ⟨m, hm⟩ : ∃ m : Nat, m = 61 := ⟨_, rfl⟩
  rw [show (61 : Nat) = m by omega]
  have ra := rA_sa hr hg
  simp only [mh_lbE, fq_ni10]
  by_cases c1 : 1 ≤ p1.toInt ∧ p1.toInt ≤ 60
  · rw [if_neg (not_not_intro c1)]
    split
    · exact ⟨hr, rfl⟩
    · exact night_h hr.2.2.2 c1.2 m _ _ 0 _ _ _ _ _ ra (by omega) (by decide) (by have := kc_0; omega) (by have := kc_0; omega)
  · rw [if_pos c1]; exact ⟨hr, rfl⟩
theorem sun_h {L : mh_Lw} {v d1 : mh_V} (h0 : 0 ≤ v.2.1.toInt) {p3 p4 p : Int32} (hp4 : p4.toInt ≤ 60) : ∀ (n : Nat) (b : Int) (s : mh_H) (x a : Int32), mh_rA L v d1 b s → b + (n : Int) ≤ 2000000000 → 0 ≤ x.toInt → x.toInt ≤ p4.toInt → p4.toInt < x.toInt + (n : Int) → mh_rN L v (l_eX10_sun_58_1 p3 p4 p n s x a).2 ∧ mh_sd 1 (l_eX10_sun_58_1 p3 p4 p n s x a).2 = d1 := by
  intro n
  induction n with
  | zero =>
    intro b s x a h hb hx0 hx1 hf
    by_cases hx : x.toInt < p4.toInt
    · exfalso; omega
    · exfalso; omega
  | succ n ih =>
    intro b s x a h hb hx0 hx1 hf
    rw [l_eX10_sun_58_1_s]
    unfold ls_eX10_sun_58_1 j_eX10_sun_98_3 j_eX10_sun_103_2
    by_cases hx : x.toInt < p4.toInt
    · rw [if_pos hx]
      have hxn := nn_inc hx0 (m := 60) (by omega) (by decide)
      simp only [mh_lbE, mh_lb2E]
      have r1 := rA_ma (rA_step h (by omega)) p
      generalize (f_eX10_mistAt (f_eX10_stepOne s) p).2 = q at r1 ⊢
      repeat' split
      all_goals exact ih _ _ (x + 1) _ r1 (by omega) (by omega) (by omega) (by omega)
    · rw [if_neg hx]
      simp only [mh_lbE]
      exact rA_end h h0
theorem sun_back {L : mh_Lw} {v : mh_V} {sr : mh_H} (hr : mh_rN L v sr) (hg : mh_rg v) (hb : v.2.1.toInt ≤ 1000000000) (p1 p2 p3 p4 : Int32) : mh_rN L v (f_eX10_sun sr p1 p2 p3 p4).2 ∧ mh_sd 1 (f_eX10_sun sr p1 p2 p3 p4).2 = mh_sd 1 sr := by
  unfold f_eX10_sun
  obtain ⟨m, hm⟩ : ∃ m : Nat, m = 61 := ⟨_, rfl⟩
  rw [show (61 : Nat) = m by omega]
  have ra := rA_sa hr hg
  simp only [mh_lbE, fq_ni10, fq_ce10]
  split
  · exact ⟨hr, rfl⟩
  · by_cases c1 : 1 ≤ p4.toInt ∧ p4.toInt ≤ 60
    · rw [if_neg (not_not_intro c1)]
      split
      · exact ⟨hr, rfl⟩
      · exact sun_h hr.2.2.2 c1.2 m _ _ 0 _ ra (by omega) (by decide) (by have := kc_0; omega) (by have := kc_0; omega)
    · rw [if_pos c1]; exact ⟨hr, rfl⟩
theorem band_h {L : mh_Lw} {v d1 : mh_V} (h0 : 0 ≤ v.2.1.toInt) {p1 p2 : Int32} (hp1 : p1.toInt ≤ 60) : ∀ (n : Nat) (b : Int) (s : mh_H) (x a : Int32), mh_rA L v d1 b s → b + (n : Int) ≤ 2000000000 → 0 ≤ x.toInt → x.toInt ≤ p1.toInt → p1.toInt < x.toInt + (n : Int) → mh_rN L v (l_eX10_band_31_1 p1 p2 n s x a).2 ∧ mh_sd 1 (l_eX10_band_31_1 p1 p2 n s x a).2 = d1 := by
  intro n
  induction n with
  | zero => intro b s x a h hb hx0 hx1 hf; exfalso; omega
  | succ n ih =>
    intro b s x a h hb hx0 hx1 hf
    rw [l_eX10_band_31_1_s]
    unfold ls_eX10_band_31_1
    by_cases hx : x.toInt < p1.toInt
    · rw [if_pos hx]
      have hxn := nn_inc hx0 (m := 60) (by omega) (by decide)
      simp only [mh_lbE]
      have r1 := rA_step h (by omega)
      obtain ⟨w, hw⟩ : ∃ w, mh_vr (f_eX10_stepOne s) = w := ⟨_, rfl⟩
      rw [bin_r hw]
      exact ih _ _ (x + 1) _ r1 (by omega) (by omega) (by omega) (by omega)
    · rw [if_neg hx]
      simp only [mh_lbE]
      have re := rA_end h h0
      generalize f_eX10_putsBack s 0 = q at re ⊢
      repeat' split
      all_goals exact re
theorem band_back {L : mh_Lw} {v : mh_V} {sr : mh_H} (hr : mh_rN L v sr) (hg : mh_rg v) (hb : v.2.1.toInt ≤ 1000000000) (p1 p2 : Int32) : mh_rN L v (f_eX10_band sr p1 p2).2 ∧ mh_sd 1 (f_eX10_band sr p1 p2).2 = mh_sd 1 sr := by
  unfold f_eX10_band
  obtain ⟨m, hm⟩ : ∃ m : Nat, m = 61 := ⟨_, rfl⟩
  rw [show (61 : Nat) = m by omega]
  have ra := rA_sa hr hg
  simp only [mh_lbE, fq_ni10]
  by_cases c1 : 1 ≤ p1.toInt ∧ p1.toInt ≤ 60
  · rw [if_neg (not_not_intro c1)]
    split
    · exact ⟨hr, rfl⟩
    · exact band_h hr.2.2.2 c1.2 m _ _ 0 _ ra (by omega) (by decide) (by have := kc_0; omega) (by have := kc_0; omega)
  · rw [if_pos c1]; exact ⟨hr, rfl⟩
end
section
def mh_wvd (v : mh_V) (y : Int32) : mh_V := (fun r c => if r = 4 ∧ c = v.2.1.toNatClampNeg ∧ v.2.1.toInt < 100 then y else v.1 r c, v.2)
theorem wvd_2 (v : mh_V) (y : Int32) : (mh_wvd v y).2 = v.2 := rfl
theorem wv_g {v : mh_V} (hg : mh_rg v) (y : Int32) : mh_rg (mh_wvd v y) := by
  intro c hc
  obtain ⟨a1, a2, a3, a4⟩ := hg c hc
  have e : ∀ r, r < 4 → (mh_wvd v y).1 r c = v.1 r c := fun r hr => if_neg (fun z => by omega)
  rw [e 0 (by decide), e 1 (by decide), e 2 (by decide), e 3 (by decide)]
  exact ⟨a1, a2, a3, a4⟩
def mh_nxt (x : Int32) : Int32 := ((25173 : Int32) * x + 13849) % 65536
theorem dw_c {kl : Nat} (hl : mh_isL kl) {L : mh_Lw} {v : mh_V} {s : mh_H} (h : mh_cN 1 kl L v s) (h0 : 0 ≤ v.2.1.toInt) : mh_cN 1 kl L (mh_wvd v (mh_nxt (s.1 1 7) % 10)) (f_eX8_drawWind s 1) ∧ (f_eX8_drawWind s 1).1 1 7 = mh_nxt (s.1 1 7) := by
  have hF := fr_eX8_drawWind s 1 V1 h.2.2.2
  have k99 : (99 : Int32).toInt = 99 := rfl
  have e5 : s.1 1 5 = v.2.1 := by rw [← h.1]; rfl
  have hl2 := L40 hl
  have e : f_eX8_drawWind s 1 = if v.2.1.toInt ≤ 99 then mh_pI (mh_pI s 1 7 (mh_nxt (s.1 1 7))) 6 v.2.1.toNatClampNeg (mh_nxt (s.1 1 7) % 10) else mh_pI s 1 7 (mh_nxt (s.1 1 7)) := by
    unfold f_eX8_drawWind
    simp only [mh_lbE, fq_within, k99]
    rw [show (mh_pI s 1 7 (((25173 : Int32) * s.1 1 7 + 13849) % 65536)).1 1 5 = v.2.1 by rw [pI_j (by decide)]; exact e5]
    by_cases z : v.2.1.toInt ≤ 99
    · rw [if_neg (not_not_intro ⟨h0, z⟩), if_pos z]; rfl
    · rw [if_pos (fun q => z q.2), if_neg z]; rfl
  refine ⟨⟨?_, ?_, ?_, hF.2⟩, ?_⟩
  · rw [e, ← h.1]
    have e51 : (mh_vc 1 s).2.1 = v.2.1 := by rw [h.1]
    refine vc_ext (fun r c hz => ?_) (fun r c hc hr => ?_) ?_ ?_
    · show (if r = 4 ∧ c = (mh_vc 1 s).2.1.toNatClampNeg ∧ (mh_vc 1 s).2.1.toInt < 100 then _ else (mh_vc 1 s).1 r c) = 0
      rw [if_neg ?_]
      · exact vc_0 hz
      · rintro ⟨q1, q2, q3⟩
        refine hz ⟨?_, by omega⟩
        rw [q1, q2]
        refine vn_4 ?_
        show (mh_vc 1 s).2.1.toInt.toNat < 100
        omega
    · show _ = if r = 4 ∧ c = (mh_vc 1 s).2.1.toNatClampNeg ∧ (mh_vc 1 s).2.1.toInt < 100 then _ else (mh_vc 1 s).1 r c
      rw [e51, vc_at hc hr]
      by_cases z : v.2.1.toInt ≤ 99
      · rw [if_pos z, pI_v, pI_o (show 1 + 1 + r ≠ 1 by omega)]
        by_cases q : r = 4 ∧ c = v.2.1.toNatClampNeg
        · rw [if_pos ⟨by omega, q.2⟩, if_pos ⟨q.1, q.2, by omega⟩]
        · rw [if_neg (fun y => q ⟨by omega, y.2⟩), if_neg (fun y => q ⟨y.1, y.2.1⟩)]
      · rw [if_neg z, pI_o (show 1 + 1 + r ≠ 1 by omega), if_neg (fun y => by have := y.2.2; omega)]
    · split
      · rw [pI_o (by decide), pI_j (by decide)]; rfl
      · rw [pI_j (by decide)]; rfl
    · split
      · rw [pI_o (by decide), pI_j (by decide)]; rfl
      · rw [pI_j (by decide)]; rfl
  · rw [← h.2.1, e]
    split <;> rfl
  · refine LC_F h.2.2.1 hF.1 (fun e he => ?_)
    simp only [S_eX8_drawWind, List.mem_cons, List.not_mem_nil, or_false] at he
    rcases he with rfl | rfl <;> simp <;> omega
  · rw [e]
    split
    · rw [pI_o (by decide), pI_w]
    · rw [pI_w]
theorem draw_lp {kl : Nat} (hl : mh_isL kl) {L : mh_Lw} {p1 b : Int32} {y : Int64} (hp1 : p1.toInt ≤ 60) (hby : b = Int64.toInt32 y) : ∀ (n : Nat) (v : mh_V) (sc sr : mh_H) (x : Int32), mh_cN 1 kl L v sc → mh_rN L v sr → mh_rg v → sc.1 1 7 = sr.1 57 3 → v.2.1.toInt + (n : Int) ≤ 2000000000 → 0 ≤ x.toInt →
    (l_eX9_draw_19_1 p1 b n sc x).1 = (l_eX10_draw_17_1 p1 y n sr x).1 ∧ ∃ v', mh_cN 1 kl L v' (l_eX9_draw_19_1 p1 b n sc x).2 ∧ mh_rN L v' (l_eX10_draw_17_1 p1 y n sr x).2 ∧ mh_rg v' ∧ (l_eX9_draw_19_1 p1 b n sc x).2.1 1 7 = (l_eX10_draw_17_1 p1 y n sr x).2.1 57 3 := by
  intro n
  induction n with
  | zero => intro v sc sr x h1 h2 hg h7 _ _; exact ⟨rfl, v, h1, h2, hg, h7⟩
  | succ n ih =>
    intro v sc sr x h1 h2 hg h7 hb hx0
    have k100 : (100 : Int32).toInt = 100 := rfl
    rw [l_eX9_draw_19_1_s, l_eX10_draw_17_1_s]
    unfold ls_eX9_draw_19_1 ls_eX10_draw_17_1 j_eX10_draw_68_2
    by_cases hx : x.toInt < p1.toInt
    · rw [if_pos hx, if_pos hx]
      have hxn := nn_inc hx0 (m := 60) (by omega) (by decide)
      obtain ⟨w1, w2⟩ := dw_c hl h1 h2.2.2.2
      have wg := wv_g hg (mh_nxt (sc.1 1 7) % 10)
      have c1 := cN_pass V1 hl w1 wg
      have hg1 := stp_g (L := L) wg
      have hbn : (mh_stp L (mh_wvd v (mh_nxt (sc.1 1 7) % 10))).2.1.toInt = v.2.1.toInt + 1 := by rw [stp_n, wvd_2]; exact nn_inc h2.2.2.2 (m := 2000000000) (by omega) (by decide)
      have e2 : sr.1 57 2 = v.2.1 := by rw [← h2.1]; rfl
      have c7 : (f_eX0_pass (f_eX8_drawWind sc 1) 1 kl).1 1 7 = mh_nxt (sc.1 1 7) := by
        rw [F_at1 (fr_eX0_pass (f_eX8_drawWind sc 1) 1 V1 kl hl w1.2.2.2).1 (fun e he => ?_)]
        · exact w2
        · have hl2 := L40 hl
          simp only [S_eX0_pass, List.mem_cons, List.not_mem_nil, or_false] at he
          rcases he with rfl | rfl | rfl | rfl | rfl | rfl | rfl | rfl <;> simp <;> omega
      simp only [mh_lbE]
      rw [w1.2.1]
      have key : ∀ q : mh_H, mh_vr q = mh_wvd v (mh_nxt (sc.1 1 7) % 10) → mh_LR q L → mh_p3 q → q.1 57 3 = mh_nxt (sc.1 1 7) → (l_eX9_draw_19_1 p1 b n (f_eX0_pass (f_eX8_drawWind sc 1) 1 kl) (x + 1)).1 = (l_eX10_draw_17_1 p1 y n (f_eX10_stepOne q) (x + 1)).1 ∧ ∃ v', mh_cN 1 kl L v' (l_eX9_draw_19_1 p1 b n (f_eX0_pass (f_eX8_drawWind sc 1) 1 kl) (x + 1)).2 ∧ mh_rN L v' (l_eX10_draw_17_1 p1 y n (f_eX10_stepOne q) (x + 1)).2 ∧ mh_rg v' ∧ (l_eX9_draw_19_1 p1 b n (f_eX0_pass (f_eX8_drawWind sc 1) 1 kl) (x + 1)).2.1 1 7 = (l_eX10_draw_17_1 p1 y n (f_eX10_stepOne q) (x + 1)).2.1 57 3 := by
        intro q q1 q2 q3 q4
        have r0 : mh_rN L (mh_wvd v (mh_nxt (sc.1 1 7) % 10)) q := ⟨q1, q2, q3, h2.2.2.2⟩
        have r1 := rN_step r0 wg (by show v.2.1.toInt ≤ _; omega)
        have r7 : (f_eX10_stepOne q).1 57 3 = mh_nxt (sc.1 1 7) := by rw [F_at1 (fr_eX10_stepOne q q3).1 (by decide)]; exact q4
        exact ih _ _ _ (x + 1) c1 r1 hg1 (c7.trans r7.symm) (by omega) (by omega)
      have e3 : ((25173 : Int32) * sr.1 57 3 + 13849) % 65536 = mh_nxt (sc.1 1 7) := by rw [h7]; rfl
      rw [e3, show (mh_pI sr 57 3 (mh_nxt (sc.1 1 7))).1 57 2 = v.2.1 by rw [pI_j (by decide)]; exact e2, k100]
      have hLR : ∀ q : mh_H, (∀ b j, b ≠ 57 → b ≠ 63 → q.1 b j = sr.1 b j) → q.1 57 10 = sr.1 57 10 → mh_LR q L := fun q hq hq2 => LR_mono h2.2.1 (fun i a c => by funext j; exact hq i j (by omega) (by omega)) hq2
      by_cases z : v.2.1.toInt < 100
      · rw [if_pos z]
        refine key _ ?_ (hLR _ (fun b j h1 h2 => by rw [pI_o h2, pI_o h1]) (by rw [pI_o (by decide), pI_j (by decide)])) h2.2.2.1 (by rw [pI_o (by decide), pI_w])
        rw [← h2.1]
        have e51 : (mh_vr sr).2.1 = v.2.1 := by rw [h2.1]
        refine vr_ext (fun r c hz => ?_) (fun r c hc hr => ?_) ?_ rfl
        · show (if r = 4 ∧ c = (mh_vr sr).2.1.toNatClampNeg ∧ (mh_vr sr).2.1.toInt < 100 then _ else (mh_vr sr).1 r c) = 0
          rw [if_neg ?_]
          · exact vr_0 hz
          · rintro ⟨q1, q2, q3⟩
            refine hz ⟨?_, by omega⟩
            rw [q1, q2]
            refine vn_4 ?_
            show (mh_vr sr).2.1.toInt.toNat < 100
            omega
        · show _ = if r = 4 ∧ c = (mh_vr sr).2.1.toNatClampNeg ∧ (mh_vr sr).2.1.toInt < 100 then _ else (mh_vr sr).1 r c
          rw [e51, vr_at hc hr, pI_v, pI_o (show 59 + r ≠ 57 by omega)]
          by_cases q : r = 4 ∧ c = v.2.1.toNatClampNeg
          · rw [if_pos ⟨by omega, q.2⟩, if_pos ⟨q.1, q.2, z⟩]
          · rw [if_neg (fun y => q ⟨by omega, y.2⟩), if_neg (fun y => q ⟨y.1, y.2.1⟩)]
        · rw [pI_o (by decide), pI_j (by decide)]; rfl
      · rw [if_neg z]
        refine key _ ?_ (hLR _ (fun b j h1 h2 => by rw [pI_o h1]) (by rw [pI_j (by decide)])) h2.2.2.1 (by rw [pI_w])
        rw [vr_pI (Or.inr ⟨rfl, by decide⟩), h2.1]
        refine Prod.ext ?_ rfl
        funext r c
        exact (if_neg (fun y => z y.2.2)).symm
    · rw [if_neg hx, if_neg hx]
      simp only [mh_lbE]
      refine ⟨?_, v, h1, h2, hg, h7⟩
      have e1 : sc.1 1 6 = v.2.2 := by rw [← h1.1]; rfl
      have e2 : Int64.toInt32 (sr.2.1 57 4) = v.2.2 := by rw [← h2.1]; rfl
      rw [Int64.toInt32_sub, e1, e2, hby]
theorem draw_eq {kl : Nat} (hl : mh_isL kl) {L : mh_Lw} {v : mh_V} {sc sr : mh_H} (hc : mh_cN 1 kl L v sc) (hr : mh_rN L v sr) (hg : mh_rg v) (h7 : sc.1 1 7 = sr.1 57 3) (hb : v.2.1.toInt ≤ 1000000000) (p1 : Int32) : (f_eX9_draw sc p1).1 = (f_eX10_draw sr p1).1 ∧ ∃ v', mh_cN 1 kl L v' (f_eX9_draw sc p1).2 ∧ mh_rN L v' (f_eX10_draw sr p1).2 ∧ mh_rg v' ∧ (f_eX9_draw sc p1).2.1 1 7 = (f_eX10_draw sr p1).2.1 57 3 := by
  unfold f_eX9_draw f_eX10_draw
  obtain ⟨m, hm⟩ : ∃ m : Nat, m = 61 := ⟨_, rfl⟩
  rw [show (61 : Nat) = m by omega]
  simp only [mh_lbE, fq_ni9, fq_ni10]
  by_cases c1 : 1 ≤ p1.toInt ∧ p1.toInt ≤ 60
  · rw [if_neg (not_not_intro c1), if_neg (not_not_intro c1)]
    have e1 : sc.1 1 6 = v.2.2 := by rw [← hc.1]; rfl
    have e2 : Int64.toInt32 (sr.2.1 57 4) = v.2.2 := by rw [← hr.1]; rfl
    exact draw_lp hl c1.2 (e1.trans e2.symm) m v sc sr 0 hc hr hg h7 (by omega) (by decide)
  · rw [if_pos c1, if_pos c1]
    exact ⟨rfl, v, hc, hr, hg, h7⟩
end
section
/-- the tape: a byte of a number -/
def mh_byt (p k : Int32) : Int32 := (Int32.toUInt32 p >>> (Int32.toUInt32 k &&& Int32.toUInt32 31)).toInt32 &&& (255 : Int32)
theorem by_nar (x : Int32) : vp_nar .byte x = Int8.toInt32 (Int32.toInt8 x) := rfl
theorem by_eq (p k : Int32) (hk : k = 24 ∨ k = 16 ∨ k = 8 ∨ k = 0) : (vp_nar .byte (Int8.toInt32 (Int32.toInt8 (p >>> (k &&& 31))))) &&& 255 = mh_byt p k := by
  unfold mh_byt
  rw [by_nar]
  apply Int32.toBitVec_inj.mp
  rcases hk with rfl | rfl | rfl | rfl
  all_goals
    apply BitVec.eq_of_getLsbD_eq
    intro i hi
    simp only [Int32.toBitVec_and, Int32.toBitVec_shiftRight, Int8.toBitVec_toInt32, Int32.toBitVec_toInt8, UInt32.toBitVec_toInt32, UInt32.toBitVec_shiftRight, Int32.toBitVec_toUInt32, UInt32.toBitVec_and]
    rcases Nat.lt_or_ge i 8 with g | g
    · have : i = 0 ∨ i = 1 ∨ i = 2 ∨ i = 3 ∨ i = 4 ∨ i = 5 ∨ i = 6 ∨ i = 7 := by omega
      rcases this with rfl | rfl | rfl | rfl | rfl | rfl | rfl | rfl <;> simp [BitVec.getElem_signExtend, BitVec.getElem_sshiftRight, BitVec.getLsbD_signExtend, BitVec.getLsbD_sshiftRight, BitVec.getLsbD_setWidth, BitVec.getLsbD_ushiftRight]
    · have : (255#32).getLsbD i = false := by
        have h2 : i < 32 := hi
        have h3 : i = 8 ∨ i = 9 ∨ i = 10 ∨ i = 11 ∨ i = 12 ∨ i = 13 ∨ i = 14 ∨ i = 15 ∨ i = 16 ∨ i = 17 ∨ i = 18 ∨ i = 19 ∨ i = 20 ∨ i = 21 ∨ i = 22 ∨ i = 23 ∨ i = 24 ∨ i = 25 ∨ i = 26 ∨ i = 27 ∨ i = 28 ∨ i = 29 ∨ i = 30 ∨ i = 31 := by omega
        rcases h3 with rfl | rfl | rfl | rfl | rfl | rfl | rfl | rfl | rfl | rfl | rfl | rfl | rfl | rfl | rfl | rfl | rfl | rfl | rfl | rfl | rfl | rfl | rfl | rfl <;> rfl
      rw [BitVec.getLsbD_and, BitVec.getLsbD_and]
      have e : (Int32.toBitVec 255) = 255#32 := rfl
      rw [e, this, Bool.and_false, Bool.and_false]
def mh_tu (r : Nat → Int32) (m : Nat) (x : Int32) (i : Nat) : Int32 := if i = m then x else r i
def mh_tpe (r : Nat → Int32) (m : Nat) (p : Int32) : Nat → Int32 := mh_tu (mh_tu (mh_tu (mh_tu r m (mh_byt p 24)) (m + 1) (mh_byt p 16)) (m + 2) (mh_byt p 8)) (m + 3) (mh_byt p 0)
def mh_cT (m : Nat) (r : Nat → Int32) (s : mh_H) : Prop := (s.1 37 1).toInt = (m : Int) ∧ ∀ i, s.1 38 i = r i
def mh_rT (m : Nat) (r : Nat → Int32) (s : mh_H) : Prop := (s.1 57 1).toInt = (m : Int) ∧ ∀ i, s.1 58 i &&& 255 = r i
theorem cT_1 {m : Nat} {r : Nat → Int32} {s : mh_H} {p x : Int32} (h : mh_cT m r s) (hm : m < 220) (hx : 0 ≤ x.toInt) (n : Nat) : ∃ s', mh_cT (m + 1) (mh_tu r m (mh_byt p x)) s' ∧ l_eX7_put_3_1 p (n + 1) s x = l_eX7_put_3_1 p n s' (x + (-8)) := by
  have k1 : (1 : Int32).toInt = ((1 : Nat) : Int) := rfl
  have k2 : (220 : Int32).toInt = 220 := rfl
  refine ⟨mh_pI (mh_pI s 38 m (mh_byt p x)) 37 1 (s.1 37 1 + 1), ⟨?_, fun i => ?_⟩, ?_⟩
  · rw [pI_w]; exact ix_add h.1 (by omega) k1 (by decide)
  · rw [pI_o (by decide), pI_v]
    show (if 38 = 38 ∧ i = m then mh_byt p x else s.1 38 i) = if i = m then mh_byt p x else r i
    by_cases g : i = m
    · rw [if_pos ⟨rfl, g⟩, if_pos g]
    · rw [if_neg (fun t => g t.2), if_neg g]; exact h.2 i
  · rw [l_eX7_put_3_1_s]
    unfold ls_eX7_put_3_1
    rw [if_neg (by omega)]
    simp only [mh_lbE]
    have h1 := h.1
    rw [if_pos (by omega), ix_n h.1]
    rfl
theorem cT_0 {p x : Int32} {s : mh_H} (hx : x.toInt < 0) (n : Nat) : l_eX7_put_3_1 p (n + 1) s x = s := by
  rw [l_eX7_put_3_1_s]
  unfold ls_eX7_put_3_1
  rw [if_pos hx]
theorem cT_p {m : Nat} {r : Nat → Int32} {s : mh_H} (p : Int32) (h : mh_cT m r s) (hm : m ≤ 216) : mh_cT (m + 4) (mh_tpe r m p) (f_eX7_put s p) := by
  unfold f_eX7_put
  obtain ⟨n, hn⟩ : ∃ n : Nat, n = 28 := ⟨_, rfl⟩
  rw [show (33 : Nat) = n + 1 + 1 + 1 + 1 + 1 by omega]
  obtain ⟨s1, a1, b1⟩ := cT_1 (p := p) (x := 24) h (by omega) (by decide) (n + 1 + 1 + 1 + 1)
  rw [b1, show (24 : Int32) + (-8) = 16 from rfl]
  obtain ⟨s2, a2, b2⟩ := cT_1 (p := p) (x := 16) a1 (by omega) (by decide) (n + 1 + 1 + 1)
  rw [b2, show (16 : Int32) + (-8) = 8 from rfl]
  obtain ⟨s3, a3, b3⟩ := cT_1 (p := p) (x := 8) a2 (by omega) (by decide) (n + 1 + 1)
  rw [b3, show (8 : Int32) + (-8) = 0 from rfl]
  obtain ⟨s4, a4, b4⟩ := cT_1 (p := p) (x := 0) a3 (by omega) (by decide) (n + 1)
  rw [b4, show (0 : Int32) + (-8) = -8 from rfl, cT_0 (by decide)]
  exact a4
theorem rT_1 {m : Nat} {r : Nat → Int32} {s : mh_H} {p x : Int32} (h : mh_rT m r s) (hm : m < 220) (hx : x = 24 ∨ x = 16 ∨ x = 8 ∨ x = 0) (n : Nat) : ∃ s', mh_rT (m + 1) (mh_tu r m (mh_byt p x)) s' ∧ l_eX10_push_3_1 p (n + 1) s x = l_eX10_push_3_1 p n s' (x + (-8)) := by
  have k1 : (1 : Int32).toInt = ((1 : Nat) : Int) := rfl
  have hx0 : ¬ x.toInt < 0 := by rcases hx with rfl | rfl | rfl | rfl <;> decide
  refine ⟨mh_pI (mh_pI s 58 m (vp_nar .byte (Int8.toInt32 (Int32.toInt8 (p >>> (x &&& 31)))))) 57 1 (s.1 57 1 + 1), ⟨?_, fun i => ?_⟩, ?_⟩
  · rw [pI_w]; exact ix_add h.1 (by omega) k1 (by decide)
  · rw [pI_o (by decide), pI_v]
    by_cases g : i = m
    · rw [if_pos ⟨rfl, g⟩, by_eq p x hx]
      exact (if_pos g).symm
    · rw [if_neg (fun t => g t.2)]
      exact (h.2 i).trans (if_neg g).symm
  · rw [l_eX10_push_3_1_s]
    unfold ls_eX10_push_3_1
    rw [if_neg hx0]
    simp only [mh_lbE]
    rw [ix_n h.1]
theorem rT_0 {p x : Int32} {s : mh_H} (hx : x.toInt < 0) (n : Nat) : l_eX10_push_3_1 p (n + 1) s x = s := by
  rw [l_eX10_push_3_1_s]
  unfold ls_eX10_push_3_1
  rw [if_pos hx]
theorem rT_p {m : Nat} {r : Nat → Int32} {s : mh_H} (p : Int32) (h : mh_rT m r s) (hm : m ≤ 216) : mh_rT (m + 4) (mh_tpe r m p) (f_eX10_push s p) := by
  unfold f_eX10_push
  obtain ⟨n, hn⟩ : ∃ n : Nat, n = 28 := ⟨_, rfl⟩
  rw [show (33 : Nat) = n + 1 + 1 + 1 + 1 + 1 by omega]
  obtain ⟨s1, a1, b1⟩ := rT_1 (p := p) (x := 24) h (by omega) (by decide) (n + 1 + 1 + 1 + 1)
  rw [b1, show (24 : Int32) + (-8) = 16 from rfl]
  obtain ⟨s2, a2, b2⟩ := rT_1 (p := p) (x := 16) a1 (by omega) (by decide) (n + 1 + 1 + 1)
  rw [b2, show (16 : Int32) + (-8) = 8 from rfl]
  obtain ⟨s3, a3, b3⟩ := rT_1 (p := p) (x := 8) a2 (by omega) (by decide) (n + 1 + 1)
  rw [b3, show (8 : Int32) + (-8) = 0 from rfl]
  obtain ⟨s4, a4, b4⟩ := rT_1 (p := p) (x := 0) a3 (by omega) (by decide) (n + 1)
  rw [b4, show (0 : Int32) + (-8) = -8 from rfl, rT_0 (by decide)]
  exact a4
def rl_Z (σ : mh_H) : Prop := ∃ m r, m ≤ 220 ∧ mh_cT m r σ ∧ mh_rT m r σ
theorem cT_c {m : Nat} {r : Nat → Int32} {s s' : mh_H} (h : mh_cT m r s) (h1 : s'.1 37 1 = s.1 37 1) (h2 : s'.1 38 = s.1 38) : mh_cT m r s' := ⟨by rw [h1]; exact h.1, fun i => by rw [h2]; exact h.2 i⟩
theorem rT_c {m : Nat} {r : Nat → Int32} {s s' : mh_H} (h : mh_rT m r s) (h1 : s'.1 57 1 = s.1 57 1) (h2 : s'.1 58 = s.1 58) : mh_rT m r s' := ⟨by rw [h1]; exact h.1, fun i => by rw [h2]; exact h.2 i⟩
theorem feed_Z {σ s1 s2 : mh_H} {S0 S1 : List (Nat × Nat)} (h : rl_Z σ) (F0 : mh_F S0 σ s1) (F1 : mh_F S1 s1 s2) (e0 : S0 = [(38, 9999), (37, 1)]) (e1 : S1 = [(58, 9999), (57, 1)]) {p1 p2 p3 p4 p5 z0 z1 : Int32} (E0 : f_eX9_feed σ p1 p2 p3 p4 p5 = (z0, s1)) (E1 : f_eX10_feed s1 p1 p2 p3 p4 p5 = (z1, s2)) : z0 = z1 ∧ rl_Z s2 := by
  subst e0; subst e1
  obtain ⟨m, r, hm, hc, hr⟩ := h
  have hr1 : mh_rT m r s1 := rT_c hr (F_at1 F0 (by decide)) (F_row1 F0 (by decide))
  have k200 : (200 : Int32).toInt = 200 := rfl
  have k220 : (220 : Int32).toInt = 220 := rfl
  have k20 : (20 : Int32).toInt = ((20 : Nat) : Int) := rfl
  have hc1 := hc.1
  have hr11 := ix_add hr1.1 (by omega) k20 (by decide)
  unfold f_eX9_feed at E0
  unfold f_eX10_feed at E1
  simp only [mh_lbE] at E0 E1
  by_cases g : m ≤ 200
  · rw [if_neg (by omega)] at E0
    rw [if_neg (by omega)] at E1
    have c5 := cT_p p5 (cT_p p4 (cT_p p3 (cT_p p2 (cT_p p1 hc (by omega)) (by omega)) (by omega)) (by omega)) (by omega)
    have r5 := rT_p p5 (rT_p p4 (rT_p p3 (rT_p p2 (rT_p p1 hr1 (by omega)) (by omega)) (by omega)) (by omega)) (by omega)
    obtain ⟨rfl, rfl⟩ := Prod.mk.inj E0
    obtain ⟨rfl, rfl⟩ := Prod.mk.inj E1
    refine ⟨Int32.toInt_inj.mp (c5.1.trans r5.1.symm), _, _, ?_, cT_c c5 (F_at1 F1 (by decide)) (F_row1 F1 (by decide)), r5⟩
    omega
  · rw [if_pos (by omega)] at E0
    rw [if_pos (by omega)] at E1
    obtain ⟨rfl, rfl⟩ := Prod.mk.inj E0
    obtain ⟨rfl, rfl⟩ := Prod.mk.inj E1
    exact ⟨rfl, m, r, hm, hc, hr1⟩
theorem ck_s9 (s : mh_H) (p1 p2 : Int32) : ∀ (n : Nat) (x : Int32), (l_eX9_check_44_1 s p1 p2 n x).2 = s := by
  intro n
  induction n with
  | zero => intro x; rfl
  | succ n ih =>
    intro x
    rw [l_eX9_check_44_1_s]
    unfold ls_eX9_check_44_1
    simp only [mh_lbE]
    split
    · split
      · exact ih _
      · rfl
    · rfl
theorem ck_s10 (s : mh_H) (p1 p2 : Int32) : ∀ (n : Nat) (x : Int32), (l_eX10_check_39_1 s p1 p2 n x).2 = s := by
  intro n
  induction n with
  | zero => intro x; rfl
  | succ n ih =>
    intro x
    rw [l_eX10_check_39_1_s]
    unfold ls_eX10_check_39_1
    simp only [mh_lbE]
    split
    · split
      · exact ih _
      · rfl
    · rfl
theorem zp_clr {m : Nat} {r : Nat → Int32} {s : mh_H} (h : mh_cT m r s) : mh_cT 0 r (mh_pI s 37 1 0) := ⟨by rw [pI_w]; rfl, fun i => by rw [pI_o (by decide)]; exact h.2 i⟩
theorem zp_clrR {m : Nat} {r : Nat → Int32} {s : mh_H} (h : mh_rT m r s) : mh_rT 0 r (mh_pI s 57 1 0) := ⟨by rw [pI_w]; rfl, fun i => by rw [pI_o (by decide)]; exact h.2 i⟩
theorem fq_side (s : mh_H) (a : Int32) : ((f_eX10_isSide s a).toInt = 0) ↔ ¬ (0 ≤ a.toInt ∧ a.toInt ≤ 11) := by
  unfold f_eX10_isSide
  simp only [mh_lbE]
  have h := fq_lies s (Int32.toInt64 a) 0 11
  rw [Int32.toInt_toInt64, show (0 : Int64).toInt = 0 from rfl, show (11 : Int64).toInt = 11 from rfl] at h
  exact h
/-- check, both sides: when it reads the tape, and what it leaves -/
theorem ck_9 {m : Nat} {r : Nat → Int32} {s : mh_H} (h : mh_cT m r s) (hm : m ≤ 220) (p1 p2 : Int32) : f_eX9_check s p1 p2 = if (0 ≤ p1.toInt ∧ p1.toInt ≤ 11) ∧ (0 ≤ p2.toInt ∧ p2.toInt ≤ 12) ∧ 4 * p2.toInt ≤ (m : Int) then l_eX9_check_44_1 (mh_pI s 37 1 0) p1 p2 13 0 else (-2, s) := by
  unfold f_eX9_check
  simp only [mh_lbE]
  obtain ⟨n, hn⟩ : ∃ n : Nat, n = 13 := ⟨_, rfl⟩
  rw [show (13 : Nat) = n by omega]
  have w1 := fq_within s p1 11
  have w2 := fq_within s p2 12
  have k11 : (11 : Int32).toInt = 11 := rfl
  have k12 : (12 : Int32).toInt = 12 := rfl
  have h1 := h.1
  by_cases c1 : 0 ≤ p1.toInt ∧ p1.toInt ≤ 11
  · rw [if_neg (fun g => w1.1 g (by omega))]
    by_cases c2 : 0 ≤ p2.toInt ∧ p2.toInt ≤ 12
    · rw [if_neg (fun g => w2.1 g (by omega))]
      have e4 : ((4 : Int32) * p2).toInt = 4 * p2.toInt := by
        have k4 : (4 : Int32).toInt = 4 := rfl
        rw [Int32.toInt_mul, k4, Int.bmod_eq_of_le (by omega) (by omega)]
      by_cases c3 : 4 * p2.toInt ≤ (m : Int)
      · rw [if_neg (by omega), if_pos ⟨c1, c2, c3⟩]
      · rw [if_pos (by omega), if_neg (fun g => c3 g.2.2)]
    · rw [if_pos (w2.2 (by omega)), if_neg (fun g => c2 g.2.1)]
  · rw [if_pos (w1.2 (by omega)), if_neg (fun g => c1 g.1)]
theorem ck_10 {m : Nat} {r : Nat → Int32} {s : mh_H} (h : mh_rT m r s) (hm : m ≤ 220) (p1 p2 : Int32) : f_eX10_check s p1 p2 = if (0 ≤ p1.toInt ∧ p1.toInt ≤ 11) ∧ (0 ≤ p2.toInt ∧ p2.toInt ≤ 12) ∧ 4 * p2.toInt ≤ (m : Int) then l_eX10_check_39_1 (mh_pI s 57 1 0) p1 p2 15 0 else (-2, s) := by
  unfold f_eX10_check
  simp only [mh_lbE]
  obtain ⟨n, hn⟩ : ∃ n : Nat, n = 15 := ⟨_, rfl⟩
  rw [show (15 : Nat) = n by omega]
  have w1 := fq_side s p1
  have w2 := fq_lies s (Int32.toInt64 p2) 0 12
  rw [Int32.toInt_toInt64, show (0 : Int64).toInt = 0 from rfl, show (12 : Int64).toInt = 12 from rfl] at w2
  have h1 := h.1
  by_cases c1 : 0 ≤ p1.toInt ∧ p1.toInt ≤ 11
  · rw [if_neg (fun g => w1.1 g c1)]
    by_cases c2 : 0 ≤ p2.toInt ∧ p2.toInt ≤ 12
    · rw [if_neg (fun g => w2.1 g c2)]
      have e4 : (s.1 57 1 / 4).toInt = (m : Int) / 4 := by
        have k4 : (4 : Int32).toInt = 4 := rfl
        rw [Int32.toInt_div, k4, h1, Int.tdiv_eq_ediv_of_nonneg (by omega), Int.bmod_eq_of_le (by omega) (by omega)]
      by_cases c3 : 4 * p2.toInt ≤ (m : Int)
      · rw [if_neg (by omega), if_pos ⟨c1, c2, c3⟩]
      · rw [if_pos (by omega), if_neg (fun g => c3 g.2.2)]
    · rw [if_pos (w2.2 c2), if_neg (fun g => c2 g.2.1)]
  · rw [if_pos (w1.2 c1), if_neg (fun g => c1 g.1)]
theorem check_Z {σ s1 s2 : mh_H} (h : rl_Z σ) {p1 p2 z0 z1 : Int32} (E0 : f_eX9_check σ p1 p2 = (z0, s1)) (E1 : f_eX10_check s1 p1 p2 = (z1, s2)) : True ∧ rl_Z s2 := by
  refine ⟨trivial, ?_⟩
  obtain ⟨m, r, hm, hc, hr⟩ := h
  rw [ck_9 hc hm] at E0
  by_cases g : (0 ≤ p1.toInt ∧ p1.toInt ≤ 11) ∧ (0 ≤ p2.toInt ∧ p2.toInt ≤ 12) ∧ 4 * p2.toInt ≤ (m : Int)
  · rw [if_pos g] at E0
    have q0 := ck_s9 (mh_pI σ 37 1 0) p1 p2 13 0
    rw [E0] at q0
    have q0 : s1 = mh_pI σ 37 1 0 := q0
    have hr1 : mh_rT m r s1 := rT_c hr (by rw [q0, pI_o (by decide)]) (by rw [q0]; funext i; rw [pI_o (by decide)])
    have hc1 : mh_cT 0 r s1 := by rw [q0]; exact zp_clr hc
    rw [ck_10 hr1 hm, if_pos g] at E1
    have q1 := ck_s10 (mh_pI s1 57 1 0) p1 p2 15 0
    rw [E1] at q1
    have q1 : s2 = mh_pI s1 57 1 0 := q1
    refine ⟨0, r, by decide, ?_, ?_⟩
    · exact cT_c hc1 (by rw [q1, pI_o (by decide)]) (by rw [q1]; funext i; rw [pI_o (by decide)])
    · rw [q1]; exact zp_clrR hr1
  · rw [if_neg g] at E0
    obtain ⟨-, rfl⟩ := Prod.mk.inj E0
    rw [ck_10 hr hm, if_neg g] at E1
    obtain ⟨-, rfl⟩ := Prod.mk.inj E1
    exact ⟨m, r, hm, hc, hr⟩
/-- law: when it takes the tape -/
theorem lw_9 {m : Nat} {r : Nat → Int32} {s : mh_H} (h : mh_cT m r s) (p : Int32) {z : Int32} {s1 : mh_H} (E : f_eX9_law s p = (z, s1)) : if 1 ≤ p.toInt ∧ p.toInt ≤ 200 ∧ p.toInt ≤ (m : Int) then s1.1 37 1 = 0 else s1 = s := by
  unfold f_eX9_law at E
  simp only [mh_lbE, mh_lb2E] at E
  have k1 : (1 : Int32).toInt = 1 := rfl
  have k2 : (200 : Int32).toInt = 200 := rfl
  have h1 := h.1
  by_cases c1 : p.toInt < 1
  · rw [if_pos (by omega)] at E
    rw [if_neg (by omega)]
    exact (Prod.mk.inj E).2.symm
  · rw [if_neg (by omega)] at E
    by_cases c2 : 200 < p.toInt
    · rw [if_pos (by omega)] at E
      rw [if_neg (by omega)]
      exact (Prod.mk.inj E).2.symm
    · rw [if_neg (by omega)] at E
      by_cases c3 : (m : Int) < p.toInt
      · rw [if_pos (by omega)] at E
        rw [if_neg (by omega)]
        exact (Prod.mk.inj E).2.symm
      · rw [if_neg (by omega)] at E
        rw [if_pos (by omega)]
        generalize f_eX4_read s (s.2.2 0 12) p = q at E
        split at E
        · rw [← (Prod.mk.inj E).2]
          show (mh_pI q.2 37 1 0).1 37 1 = 0
          rw [pI_w]
        · rw [← (Prod.mk.inj E).2]
          show (mh_pI q.2 37 1 0).1 37 1 = 0
          rw [pI_w]
theorem lw_10 {m : Nat} {r : Nat → Int32} {s : mh_H} (h : mh_rT m r s) (hp3 : mh_p3 s) (p : Int32) {z : Int32} {s1 : mh_H} (E : f_eX10_law s p = (z, s1)) : if 1 ≤ p.toInt ∧ p.toInt ≤ 200 ∧ p.toInt ≤ (m : Int) then s1.1 57 1 = 0 else s1 = s := by
  unfold f_eX10_law at E
  simp only [mh_lbE] at E
  have w1 := fq_lies s (Int32.toInt64 p) 1 200
  rw [Int32.toInt_toInt64, show (1 : Int64).toInt = 1 from rfl, show (200 : Int64).toInt = 200 from rfl] at w1
  have h1 := h.1
  by_cases c1 : 1 ≤ p.toInt ∧ p.toInt ≤ 200
  · rw [if_neg (fun g => w1.1 g c1)] at E
    by_cases c3 : (m : Int) < p.toInt
    · rw [if_pos (by omega)] at E
      rw [if_neg (by omega)]
      exact (Prod.mk.inj E).2.symm
    · rw [if_neg (by omega)] at E
      rw [if_pos (by omega)]
      have e0 : (mh_pI (mh_pI (mh_pI (mh_pI (mh_pI (mh_pI s 57 1 0) 57 23 0) 57 24 p) 57 25 0) 57 26 0) 57 27 0).1 57 1 = 0 := by
        rw [pI_j (by decide), pI_j (by decide), pI_j (by decide), pI_j (by decide), pI_j (by decide), pI_w]
      have e3 : mh_p3 (mh_pI (mh_pI (mh_pI (mh_pI (mh_pI (mh_pI s 57 1 0) 57 23 0) 57 24 p) 57 25 0) 57 26 0) 57 27 0) := hp3
      generalize mh_pI (mh_pI (mh_pI (mh_pI (mh_pI (mh_pI s 57 1 0) 57 23 0) 57 24 p) 57 25 0) 57 26 0) 57 27 0 = q at E e0 e3
      obtain ⟨n, hn⟩ : ∃ n : Nat, n = 806 := ⟨_, rfl⟩
      rw [show (806 : Nat) = n by omega] at E
      have f := fq_l_eX10_law_54_1 q e3 n q 1 ⟨mh_F_rf, e3⟩
      rw [E] at f
      rw [F_at1 f.1 (by decide)]
      exact e0
  · rw [if_pos (w1.2 c1)] at E
    rw [if_neg (fun g => c1 ⟨g.1, g.2.1⟩)]
    exact (Prod.mk.inj E).2.symm
theorem law_Z {B D : Int} {σ s1 s2 : mh_H} (h : rl_Z σ) (hI : mh_I B D s1) (F0 : mh_F S_eX9_law σ s1) (F1 : mh_F S_eX10_law s1 s2) {p z0 z1 : Int32} (E0 : f_eX9_law σ p = (z0, s1)) (E1 : f_eX10_law s1 p = (z1, s2)) : True ∧ rl_Z s2 := by
  refine ⟨trivial, ?_⟩
  obtain ⟨m, r, hm, hc, hr⟩ := h
  have hr1 : mh_rT m r s1 := rT_c hr (F_at1 F0 (by decide)) (F_row1 F0 (by decide))
  have q0 := lw_9 hc p E0
  have q1 := lw_10 hr1 (mh_I_p3 hI) p E1
  have e38 : s1.1 38 = σ.1 38 := F_row1 F0 (by decide)
  have e38' : s2.1 38 = s1.1 38 := F_row1 F1 (by decide)
  have e37' : s2.1 37 1 = s1.1 37 1 := F_at1 F1 (by decide)
  have e58 : s2.1 58 = s1.1 58 := F_row1 F1 (by decide)
  by_cases g : 1 ≤ p.toInt ∧ p.toInt ≤ 200 ∧ p.toInt ≤ (m : Int)
  · rw [if_pos g] at q0 q1
    refine ⟨0, r, by decide, ⟨?_, fun i => ?_⟩, ⟨?_, fun i => ?_⟩⟩
    · rw [e37', q0]; rfl
    · rw [e38', e38]; exact hc.2 i
    · rw [q1]; rfl
    · rw [e58]; exact hr1.2 i
  · rw [if_neg g] at q0 q1
    subst q1
    subst q0
    exact ⟨m, r, hm, hc, hr⟩
def rl_cellZ (e : Nat × Nat) : Bool := e.1 == 38 || e.1 == 58 || (e.1 == 37 && (e.2 == 1 || e.2 == 9999)) || (e.1 == 57 && (e.2 == 1 || e.2 == 9999))
theorem rl_Z_keep {S : List (Nat × Nat)} {σ σ2 : mh_H} (hF : mh_F S σ σ2) (hS : S.all (fun e => !(rl_cellZ e)) = true) (h : rl_Z σ) : rl_Z σ2 := by
  obtain ⟨m, r, hm, hc, hr⟩ := h
  have no : ∀ e ∈ S, rl_cellZ e = false := fun e he => by
    have h4 := List.all_eq_true.mp hS e he
    cases g : rl_cellZ e
    · rfl
    · rw [g] at h4; exact absurd h4 (by decide)
  have row : ∀ k, (k = 38 ∨ k = 58) → σ2.1 k = σ.1 k := fun k hk => F_row1 hF (fun e he g => by
    have := no e he
    unfold rl_cellZ at this
    rcases hk with rfl | rfl <;> simp [g] at this)
  have at1 : ∀ k, (k = 37 ∨ k = 57) → σ2.1 k 1 = σ.1 k 1 := fun k hk => F_at1 hF (fun e he g => by
    have := no e he
    unfold rl_cellZ at this
    rcases hk with rfl | rfl <;> rcases g with ⟨g1, g2 | g2⟩ <;> simp [g1, g2] at this)
  exact ⟨m, r, hm, cT_c hc (at1 37 (Or.inl rfl)) (row 38 (Or.inl rfl)), rT_c hr (at1 57 (Or.inr rfl)) (row 58 (Or.inr rfl))⟩
theorem rl_Z0 : rl_Z lx_s0 := ⟨0, fun _ => 0, by decide, ⟨rfl, fun _ => rfl⟩, ⟨rfl, fun _ => (show (0 : Int32) &&& 255 = 0 by decide)⟩⟩
end
section
/-- what a piece of code says over the letters -/
abbrev mh_Dn : Type := (Nat → Int32) → Option Int32
def mh_wrk (p0 p1 p2 : Int32) : Int32 := if p0.toInt = 37 then (if p2.toInt = 0 then 0 else p1 % p2) else if p0.toInt = 42 then p1 * p2 else if p0.toInt = 43 then p1 + p2 else if p0.toInt = 45 then p1 - p2 else if p0.toInt = 47 then (if p2.toInt = 0 then 0 else p1 / p2) else if p0.toInt = 60 then (if p1.toInt < p2.toInt then 1 else 0) else if p0.toInt = 62 then (if p2.toInt < p1.toInt then 1 else 0) else if p1.toInt = p2.toInt then 1 else 0
def mh_dz (op y : Int32) : Prop := (op.toInt = 47 ∨ op.toInt = 37) ∧ y.toInt = 0
theorem dz_dec (op y : Int32) : mh_dz op y ∨ ¬ mh_dz op y := Classical.em _
def rd_bo (op : Int32) (a b : mh_Dn) : mh_Dn := fun e => match a e with
  | none => none
  | some x => match b e with
    | none => none
    | some y => if (op.toInt = 47 ∨ op.toInt = 37) ∧ y.toInt = 0 then none else some (mh_wrk op x y)
def rd_ng (a : mh_Dn) : mh_Dn := fun e => match a e with
  | none => none
  | some x => some (if x.toInt = 0 then 1 else 0)
def rd_an (a b : mh_Dn) : mh_Dn := fun e => match a e with
  | none => none
  | some x => if x.toInt = 0 then some x else b e
def rd_or (a b : mh_Dn) : mh_Dn := fun e => match a e with
  | none => none
  | some x => if x.toInt = 0 then b e else some x
theorem bo_n1 {op : Int32} {a b : mh_Dn} {e : Nat → Int32} (h : a e = none) : rd_bo op a b e = none := by unfold rd_bo; rw [h]
theorem bo_n2 {op x : Int32} {a b : mh_Dn} {e : Nat → Int32} (h : a e = some x) (h2 : b e = none) : rd_bo op a b e = none := by unfold rd_bo; rw [h, h2]
theorem bo_s {op x y : Int32} {a b : mh_Dn} {e : Nat → Int32} (h : a e = some x) (h2 : b e = some y) : rd_bo op a b e = if (op.toInt = 47 ∨ op.toInt = 37) ∧ y.toInt = 0 then none else some (mh_wrk op x y) := by unfold rd_bo; rw [h, h2]
theorem ng_n {a : mh_Dn} {e : Nat → Int32} (h : a e = none) : rd_ng a e = none := by unfold rd_ng; rw [h]
theorem ng_s {a : mh_Dn} {e : Nat → Int32} {x : Int32} (h : a e = some x) : rd_ng a e = some (if x.toInt = 0 then 1 else 0) := by unfold rd_ng; rw [h]
theorem an_n {a b : mh_Dn} {e : Nat → Int32} (h : a e = none) : rd_an a b e = none := by unfold rd_an; rw [h]
theorem an_s {a b : mh_Dn} {e : Nat → Int32} {x : Int32} (h : a e = some x) : rd_an a b e = if x.toInt = 0 then some x else b e := by unfold rd_an; rw [h]
theorem or_n {a b : mh_Dn} {e : Nat → Int32} (h : a e = none) : rd_or a b e = none := by unfold rd_or; rw [h]
theorem or_s {a b : mh_Dn} {e : Nat → Int32} {x : Int32} (h : a e = some x) : rd_or a b e = if x.toInt = 0 then b e else some x := by unfold rd_or; rw [h]
theorem wk_c (s : mh_H) (a b c : Int32) : f_eX1_combine s a b c = mh_wrk a b c := by
  unfold f_eX1_combine mh_wrk
  simp only [mh_lbE]
theorem wk_r (s : mh_H) (a b c : Int32) : f_eX10_worked s a b c = mh_wrk a b c := by
  unfold f_eX10_worked mh_wrk
  simp only [mh_lbE]
/-- a sign between two: of sums, terms, comparisons -/
def mh_op2 (op : Int32) : Prop := op.toInt = 42 ∨ op.toInt = 47 ∨ op.toInt = 37 ∨ op.toInt = 43 ∨ op.toInt = 45 ∨ op.toInt = 60 ∨ op.toInt = 62 ∨ op.toInt = 61
def mh_us {α : Type} (st : Nat → α) (sp : Nat) (v : α) (j : Nat) : α := if j = sp then v else st j
theorem us_w {α : Type} {st : Nat → α} {sp : Nat} {v : α} : mh_us st sp v sp = v := if_pos rfl
theorem us_o {α : Type} {st : Nat → α} {sp j : Nat} {v : α} (h : j ≠ sp) : mh_us st sp v j = st j := if_neg h
theorem pI_row {s : mh_H} {a j b : Nat} {x : Int32} (h : b ≠ a) : (mh_pI s a j x).1 b = s.1 b := by funext i; exact pI_o h
/-- the class's run from (c, sp, st) on answers R -/
def sg_R (kl : Nat) (s0 : mh_H) (HI : Int32) (hi c sp : Nat) (st : Nat → Int32) (R : Int32) : Prop :=
  ∀ (n : Nat) (s : mh_H) (T X Y : Int32) (t : Nat), X.toInt = (c : Int) → Y.toInt = (sp : Int) → T.toInt = (t : Int) → (∀ k, k ≠ kl + 7 → s.1 k = s0.1 k) → (∀ j, j < sp → s.1 (kl + 7) j = st j) → t + (hi - c) ≤ 400 → hi - c < n → (l_eX1_run_21_1 kl HI n s T X Y).1 = R ∧ ∀ k, k ≠ kl + 7 → (l_eX1_run_21_1 kl HI n s T X Y).2.1 k = s0.1 k
theorem rn_ext {kl : Nat} {s0 : mh_H} {HI : Int32} {hi c sp : Nat} {st st' : Nat → Int32} {R : Int32} (h : sg_R kl s0 HI hi c sp st R) (he : ∀ j, j < sp → st j = st' j) : sg_R kl s0 HI hi c sp st' R :=
  fun n s T X Y t hX hY hT hs hst ht hn => h n s T X Y t hX hY hT hs (fun j hj => (hst j hj).trans (he j hj).symm) ht hn
theorem rn_step {kl n t c hi : Nat} {s : mh_H} {T X Y HI : Int32} (hT : T.toInt = (t : Int)) (ht : t < 400) (hX : X.toInt = (c : Int)) (hH : HI.toInt = (hi : Int)) (hc : c < hi) (hh : hi ≤ 400) : l_eX1_run_21_1 kl HI (n + 1) s T X Y = j_eX1_run_67_3 (l_eX1_run_21_1 kl HI n) s kl T X Y (s.1 (kl + 1) c) (if c + 1 < hi then s.1 (kl + 1) (c + 1) else 0) := by
  have k4 : (400 : Int32).toInt = 400 := rfl
  have k1 : (1 : Int32).toInt = ((1 : Nat) : Int) := rfl
  have e1 : (X + 1).toInt = ((c + 1 : Nat) : Int) := ix_add hX (by omega) k1 (by decide)
  rw [l_eX1_run_21_1_s]
  unfold ls_eX1_run_21_1
  rw [if_pos (by omega), if_pos (by omega)]
  simp only [mh_lbE]
  rw [ix_n hX]
  by_cases g : c + 1 < hi
  · rw [if_pos (by omega), if_pos g, ix_n e1]
  · rw [if_neg (by omega), if_neg g]
theorem rn_push {kl : Nat} {s0 : mh_H} {HI : Int32} {hi c d sp : Nat} {st : Nat → Int32} {R v : Int32} (hH : HI.toInt = (hi : Int)) (hh : hi ≤ 400) (hsp : sp < 32) (hv : (∃ i : Nat, i < 13 ∧ (s0.1 (kl + 1) c).toInt = (i : Int) ∧ d = c + 1 ∧ v = s0.1 (kl + 6) i) ∨ ((s0.1 (kl + 1) c).toInt = 13 ∧ d = c + 2 ∧ v = s0.1 (kl + 1) (c + 1))) (hd : d ≤ hi) (h : sg_R kl s0 HI hi d (sp + 1) (mh_us st sp v) R) : sg_R kl s0 HI hi c sp st R := by
  intro n s T X Y t hX hY hT hs hst ht hn
  obtain ⟨n, rfl⟩ : ∃ m, n = m + 1 := ⟨n - 1, by omega⟩
  have k1 : (1 : Int32).toInt = ((1 : Nat) : Int) := rfl
  have k2 : (2 : Int32).toInt = ((2 : Nat) : Int) := rfl
  have k13 : (13 : Int32).toInt = 13 := rfl
  have k32 : (32 : Int32).toInt = 32 := rfl
  have hc : c < hi := by rcases hv with ⟨i, -, -, e, -⟩ | ⟨-, e, -⟩ <;> omega
  rw [rn_step hT (by omega) hX hH hc hh]
  have hw : s.1 (kl + 1) c = s0.1 (kl + 1) c := congrFun (hs (kl + 1) (by omega)) c
  have hw1 : s.1 (kl + 1) (c + 1) = s0.1 (kl + 1) (c + 1) := congrFun (hs (kl + 1) (by omega)) (c + 1)
  have h6 : s.1 (kl + 6) = s0.1 (kl + 6) := hs (kl + 6) (by omega)
  unfold j_eX1_run_67_3
  simp only [mh_lbE]
  rw [hw, hw1]
  have hwi := fq_within s (s0.1 (kl + 1) c) 13
  have hin : ¬ (f_eX9_isWithin s (s0.1 (kl + 1) c) 13).toInt = 0 := fun g => hwi.1 g (by rcases hv with ⟨i, g1, g2, -, -⟩ | ⟨g2, -, -⟩ <;> omega)
  rw [if_neg hin, if_pos (by omega)]
  have eY : (Y + 1).toInt = ((sp + 1 : Nat) : Int) := ix_add hY (by omega) k1 (by decide)
  have eT : (T + 1).toInt = ((t + 1 : Nat) : Int) := ix_add hT (by omega) k1 (by decide)
  have fin : ∀ (X' : Int32), X'.toInt = (d : Int) → (l_eX1_run_21_1 kl HI n (mh_pI s (kl + 7) sp v) (T + 1) X' (Y + 1)).1 = R ∧ ∀ k, k ≠ kl + 7 → (l_eX1_run_21_1 kl HI n (mh_pI s (kl + 7) sp v) (T + 1) X' (Y + 1)).2.1 k = s0.1 k := by
    intro X' hX'
    have hdc : c + 1 ≤ d := by rcases hv with ⟨i, -, -, e, -⟩ | ⟨-, e, -⟩ <;> omega
    refine h n _ (T + 1) X' (Y + 1) (t + 1) hX' eY eT (fun k hk => (pI_row hk).trans (hs k hk)) (fun j hj => ?_) (by omega) (by omega)
    rw [pI_v]
    by_cases g : j = sp
    · rw [if_pos ⟨rfl, g⟩, g, us_w]
    · rw [if_neg (fun q => g q.2), us_o g]; exact hst j (by omega)
  rcases hv with ⟨i, g1, g2, g3, g4⟩ | ⟨g2, g3, g4⟩
  · rw [if_neg (by omega)]
    unfold j_eX1_run_111_13
    simp only [mh_lbE]
    rw [if_neg (by omega)]
    unfold j_eX1_run_129_14 j_eX1_run_337_4
    simp only [mh_lbE]
    rw [ix_n hY, ix_n g2, h6, ← g4]
    exact fin _ (by rw [g3]; exact ix_add hX (by omega) k1 (by decide))
  · rw [if_pos (by omega)]
    unfold j_eX1_run_111_13
    simp only [mh_lbE]
    rw [if_pos (by omega)]
    unfold j_eX1_run_129_14 j_eX1_run_337_4
    simp only [mh_lbE]
    rw [if_pos (show c + 1 < hi by omega), ix_n hY, ← g4]
    exact fin _ (by rw [g3]; exact ix_add hX (by omega) k2 (by decide))
theorem ix_m1 {Y : Int32} {m : Nat} (hY : Y.toInt = ((m + 1 : Nat) : Int)) (hm : m < 100000) : (Y + (-1)).toInt = (m : Int) := by
  have km : (-1 : Int32).toInt = -1 := rfl
  rw [Int32.toInt_add, km, hY, Int.bmod_eq_of_le (by omega) (by omega)]; omega
theorem rn_bin {kl : Nat} {s0 : mh_H} {HI : Int32} {hi c m : Nat} {st : Nat → Int32} {R op : Int32} (hH : HI.toInt = (hi : Int)) (hh : hi ≤ 400) (hc : c < hi) (hm : m < 40) (ho : s0.1 (kl + 1) c = op) (h2 : mh_op2 op) (h : if (op.toInt = 47 ∨ op.toInt = 37) ∧ (st (m + 1)).toInt = 0 then R = 0 else sg_R kl s0 HI hi (c + 1) (m + 1) (mh_us st m (mh_wrk op (st m) (st (m + 1)))) R) : sg_R kl s0 HI hi c (m + 2) st R := by
  intro n s T X Y t hX hY hT hs hst ht hn
  obtain ⟨n, rfl⟩ : ∃ m, n = m + 1 := ⟨n - 1, by omega⟩
  have k1 : (1 : Int32).toInt = ((1 : Nat) : Int) := rfl
  have k2 : (2 : Int32).toInt = ((2 : Nat) : Int) := rfl
  have c13 : (13 : Int32).toInt = 13 := rfl
  have c33 : (33 : Int32).toInt = 33 := rfl
  have c37 : (37 : Int32).toInt = 37 := rfl
  have c38 : (38 : Int32).toInt = 38 := rfl
  have c47 : (47 : Int32).toInt = 47 := rfl
  have c124 : (124 : Int32).toInt = 124 := rfl
  rw [rn_step hT (by omega) hX hH hc hh]
  have hw : s.1 (kl + 1) c = op := (congrFun (hs (kl + 1) (by omega)) c).trans ho
  unfold j_eX1_run_67_3
  simp only [mh_lbE]
  rw [hw]
  have hwi := fq_within s op 13
  have hop : op.toInt ≠ 38 ∧ op.toInt ≠ 124 ∧ op.toInt ≠ 33 ∧ 13 < op.toInt := by unfold mh_op2 at h2; omega
  clear h2
  rw [if_pos (hwi.2 (by omega)), if_neg (by omega), if_neg (by omega), if_neg (by omega), if_neg (by omega), if_neg (by omega)]
  have eY1 : (Y - 1).toInt = ((m + 1 : Nat) : Int) := by
    have := ix_sub hY (by omega) k1 (by decide) (by omega)
    rw [this]; omega
  have eY2 : (Y - 2).toInt = ((m : Nat) : Int) := by
    have := ix_sub hY (by omega) k2 (by decide) (by omega)
    rw [this]; omega
  have eYm : (Y + (-1)).toInt = ((m + 1 : Nat) : Int) := ix_m1 (m := m + 1) hY (by omega)
  rw [ix_n eY1, hst (m + 1) (by omega)]
  have nx : ¬ ((op.toInt = 47 ∨ op.toInt = 37) ∧ (st (m + 1)).toInt = 0) → (j_eX1_run_302_11 (l_eX1_run_21_1 kl HI n) s kl T X Y op (st (m + 1))).1 = R ∧ ∀ k, k ≠ kl + 7 → (j_eX1_run_302_11 (l_eX1_run_21_1 kl HI n) s kl T X Y op (st (m + 1))).2.1 k = s0.1 k := by
    intro g
    rw [if_neg g] at h
    unfold j_eX1_run_302_11 j_eX1_run_337_4
    simp only [mh_lbE]
    rw [ix_n eY2, hst m (by omega), wk_c]
    refine h n _ (T + 1) (X + 1) (Y + (-1)) (t + 1) (ix_add hX (by omega) k1 (by decide)) eYm (ix_add hT (by omega) k1 (by decide)) (fun k hk => (pI_row hk).trans (hs k hk)) (fun j hj => ?_) (by omega) (by omega)
    rw [pI_v]
    by_cases g : j = m
    · rw [if_pos ⟨rfl, g⟩, g, us_w]
    · rw [if_neg (fun q => g q.2), us_o g]; exact hst j (Nat.lt_succ_of_lt hj)
  by_cases g0 : (st (m + 1)).toInt = 0
  · rw [if_pos g0]
    by_cases g1 : op.toInt = 47
    · rw [if_pos (by omega)]
      rw [if_pos ⟨Or.inl g1, g0⟩] at h
      exact ⟨h.symm, hs⟩
    · rw [if_neg (by omega)]
      by_cases g2 : op.toInt = 37
      · rw [if_pos (by omega)]
        rw [if_pos ⟨Or.inr g2, g0⟩] at h
        exact ⟨h.symm, hs⟩
      · rw [if_neg (by omega)]
        exact nx (fun q => by omega)
  · rw [if_neg g0]
    exact nx (fun q => g0 q.2)
end
section
theorem rn_not {kl : Nat} {s0 : mh_H} {HI : Int32} {hi c m : Nat} {st : Nat → Int32} {R : Int32} (hH : HI.toInt = (hi : Int)) (hh : hi ≤ 400) (hc : c < hi) (hm : m < 40) (ho : s0.1 (kl + 1) c = 33) (h : sg_R kl s0 HI hi (c + 1) (m + 1) (mh_us st m (if (st m).toInt = 0 then 1 else 0)) R) : sg_R kl s0 HI hi c (m + 1) st R := by
  intro n s T X Y t hX hY hT hs hst ht hn
  obtain ⟨n, rfl⟩ : ∃ m, n = m + 1 := ⟨n - 1, by omega⟩
  have k1 : (1 : Int32).toInt = ((1 : Nat) : Int) := rfl
  have c13 : (13 : Int32).toInt = 13 := rfl
  have c33 : (33 : Int32).toInt = 33 := rfl
  have c38 : (38 : Int32).toInt = 38 := rfl
  have c124 : (124 : Int32).toInt = 124 := rfl
  rw [rn_step hT (by omega) hX hH hc hh]
  have hw : s.1 (kl + 1) c = 33 := (congrFun (hs (kl + 1) (by omega)) c).trans ho
  unfold j_eX1_run_67_3
  simp only [mh_lbE]
  rw [hw]
  have hwi := fq_within s 33 13
  rw [if_pos (hwi.2 (by omega)), if_neg (by omega), if_neg (by decide), if_neg (by decide), if_pos (by decide)]
  have eY1 : (Y - 1).toInt = ((m : Nat) : Int) := by
    have := ix_sub hY (by omega) k1 (by decide) (by omega)
    rw [this]; omega
  rw [ix_n eY1, hst m (by omega)]
  have nx : ∀ v : Int32, v = (if (st m).toInt = 0 then 1 else 0) → (j_eX1_run_263_12 (l_eX1_run_21_1 kl HI n) s kl T X Y (Y - 1) v).1 = R ∧ ∀ k, k ≠ kl + 7 → (j_eX1_run_263_12 (l_eX1_run_21_1 kl HI n) s kl T X Y (Y - 1) v).2.1 k = s0.1 k := by
    intro v hv
    unfold j_eX1_run_263_12 j_eX1_run_337_4
    simp only [mh_lbE]
    rw [ix_n eY1, hv]
    refine h n _ (T + 1) (X + 1) Y (t + 1) (ix_add hX (by omega) k1 (by decide)) hY (ix_add hT (by omega) k1 (by decide)) (fun k hk => (pI_row hk).trans (hs k hk)) (fun j hj => ?_) (by omega) (by omega)
    rw [pI_v]
    by_cases g : j = m
    · rw [if_pos ⟨rfl, g⟩, g, us_w]
    · rw [if_neg (fun q => g q.2), us_o g]; exact hst j hj
  by_cases g0 : (st m).toInt = 0
  · rw [if_pos g0]; exact nx 1 (if_pos g0).symm
  · rw [if_neg g0]; exact nx 0 (if_neg g0).symm
theorem rn_jmp {kl : Nat} {s0 : mh_H} {HI : Int32} {hi c c2 m : Nat} {st : Nat → Int32} {R op : Int32} (hH : HI.toInt = (hi : Int)) (hh : hi ≤ 400) (hc : c + 2 ≤ c2) (hc2 : c2 ≤ hi) (hm : m < 40) (ho : s0.1 (kl + 1) c = op) (h2 : op.toInt = 38 ∨ op.toInt = 124) (ht2 : (s0.1 (kl + 1) (c + 1)).toInt = (c2 : Int)) (h : if (op.toInt = 38 ↔ (st m).toInt = 0) then sg_R kl s0 HI hi c2 (m + 1) st R else sg_R kl s0 HI hi (c + 2) m st R) : sg_R kl s0 HI hi c (m + 1) st R := by
  intro n s T X Y t hX hY hT hs hst ht hn
  obtain ⟨n, rfl⟩ : ∃ m, n = m + 1 := ⟨n - 1, by omega⟩
  have k1 : (1 : Int32).toInt = ((1 : Nat) : Int) := rfl
  have k0 : (0 : Int32).toInt = ((0 : Nat) : Int) := rfl
  have k2 : (2 : Int32).toInt = ((2 : Nat) : Int) := rfl
  have c0 : (0 : Int32).toInt = 0 := rfl
  have c1 : (1 : Int32).toInt = 1 := rfl
  have c13 : (13 : Int32).toInt = 13 := rfl
  have c38 : (38 : Int32).toInt = 38 := rfl
  have c124 : (124 : Int32).toInt = 124 := rfl
  rw [rn_step hT (by omega) hX hH (by omega) hh]
  have hw : s.1 (kl + 1) c = op := (congrFun (hs (kl + 1) (by omega)) c).trans ho
  have hw1 : s.1 (kl + 1) (c + 1) = s0.1 (kl + 1) (c + 1) := congrFun (hs (kl + 1) (by omega)) (c + 1)
  unfold j_eX1_run_67_3
  simp only [mh_lbE]
  rw [hw, hw1, if_pos (show c + 1 < hi by omega)]
  have hwi := fq_within s op 13
  rw [if_pos (hwi.2 (by omega)), if_neg (by omega)]
  have eY1 : (Y - 1).toInt = ((m : Nat) : Int) := by
    have := ix_sub hY (by omega) k1 (by decide) (by omega)
    rw [this]; omega
  have eY0 : (Y - 0).toInt = ((m + 1 : Nat) : Int) := by
    have := ix_sub hY (by omega) k0 (by decide) (by omega)
    rw [this]; omega
  have eX2 : (X + 2).toInt = ((c + 2 : Nat) : Int) := ix_add hX (by omega) k2 (by decide)
  have eT : (T + 1).toInt = ((t + 1 : Nat) : Int) := ix_add hT (by omega) k1 (by decide)
  generalize s0.1 (kl + 1) (c + 1) = w at ht2
  have take : (op.toInt = 38 ↔ (st m).toInt = 0) → (j_eX1_run_192_8 (l_eX1_run_21_1 kl HI n) s T X Y w 1).1 = R ∧ ∀ k, k ≠ kl + 7 → (j_eX1_run_192_8 (l_eX1_run_21_1 kl HI n) s T X Y w 1).2.1 k = s0.1 k := by
    intro g
    rw [if_pos g] at h
    unfold j_eX1_run_192_8 j_eX1_run_215_9 j_eX1_run_228_10 j_eX1_run_337_4
    simp only [mh_lbE]
    rw [if_neg (by decide), if_neg (by decide)]
    refine h n s (T + 1) (mh_ma32 (X + 2) w) (Y - 0) (t + 1) ?_ eY0 eT hs hst (by omega) (by omega)
    rw [mh_ma32_i]; omega
  have pass : ¬ (op.toInt = 38 ↔ (st m).toInt = 0) → (j_eX1_run_192_8 (l_eX1_run_21_1 kl HI n) s T X Y w 0).1 = R ∧ ∀ k, k ≠ kl + 7 → (j_eX1_run_192_8 (l_eX1_run_21_1 kl HI n) s T X Y w 0).2.1 k = s0.1 k := by
    intro g
    rw [if_neg g] at h
    unfold j_eX1_run_192_8 j_eX1_run_215_9 j_eX1_run_228_10 j_eX1_run_337_4
    simp only [mh_lbE]
    rw [if_pos (by decide), if_pos (by decide)]
    exact h n s (T + 1) (X + 2) (Y - 1) (t + 1) eX2 eY1 eT hs (fun j hj => hst j (by omega)) (by omega) (by omega)
  have mid : (j_eX1_run_156_5 (l_eX1_run_21_1 kl HI n) s kl T X Y op w).1 = R ∧ ∀ k, k ≠ kl + 7 → (j_eX1_run_156_5 (l_eX1_run_21_1 kl HI n) s kl T X Y op w).2.1 k = s0.1 k := by
    unfold j_eX1_run_156_5
    simp only [mh_lbE]
    rw [ix_n eY1, hst m (by omega)]
    by_cases g0 : (st m).toInt = 0
    · rw [if_pos g0]
      unfold j_eX1_run_172_6
      by_cases g1 : op.toInt = 124
      · rw [if_pos (by omega)]
        unfold j_eX1_run_184_7
        rw [if_neg (by decide)]
        exact pass (fun q => by omega)
      · rw [if_neg (by omega)]
        unfold j_eX1_run_184_7
        rw [if_pos (by decide)]
        exact take (by omega)
    · rw [if_neg g0]
      unfold j_eX1_run_172_6
      by_cases g1 : op.toInt = 124
      · rw [if_pos (by omega)]
        unfold j_eX1_run_184_7
        rw [if_pos (by decide)]
        exact take (by omega)
      · rw [if_neg (by omega)]
        unfold j_eX1_run_184_7
        rw [if_neg (by decide)]
        exact pass (fun q => by omega)
  by_cases g38 : op.toInt = 38
  · rw [if_pos (by omega)]; exact mid
  · rw [if_neg (by omega), if_pos (by omega)]; exact mid
theorem rn_end {kl : Nat} {s0 : mh_H} {HI : Int32} {hi m : Nat} {st : Nat → Int32} (hH : HI.toInt = (hi : Int)) (hm : m < 40) : sg_R kl s0 HI hi hi (m + 1) st (st m) := by
  intro n s T X Y t hX hY hT hs hst ht hn
  obtain ⟨n, rfl⟩ : ∃ m, n = m + 1 := ⟨n - 1, by omega⟩
  have k1 : (1 : Int32).toInt = ((1 : Nat) : Int) := rfl
  have c1 : (1 : Int32).toInt = 1 := rfl
  have eY1 : (Y - 1).toInt = ((m : Nat) : Int) := by
    have := ix_sub hY (by omega) k1 (by decide) (by omega)
    rw [this]; omega
  have fin : (j_eX1_run_343_2 s kl Y).1 = st m ∧ ∀ k, k ≠ kl + 7 → (j_eX1_run_343_2 s kl Y).2.1 k = s0.1 k := by
    unfold j_eX1_run_343_2
    simp only [mh_lbE]
    rw [if_neg (by omega), ix_n eY1]
    exact ⟨hst m (by omega), hs⟩
  rw [l_eX1_run_21_1_s]
  unfold ls_eX1_run_21_1
  split
  · rw [if_neg (by omega)]; exact fin
  · exact fin
end
section
/-- a piece of the class's code: c .. c' pushes D, with at most w places of the stack -/
def sg_C (kl : Nat) (row : Nat → Int32) (D : mh_Dn) (w c c' : Nat) : Prop := c ≤ c' ∧ ∀ (s0 : mh_H) (HI : Int32) (hi sp : Nat) (st : Nat → Int32), (∀ i, c ≤ i → i < c' → s0.1 (kl + 1) i = row i) → HI.toInt = (hi : Int) → c' ≤ hi → hi ≤ 400 → sp + w ≤ 32 →
  (∀ v, D (mh_e13 (s0.1 (kl + 6))) = some v → ∀ R, sg_R kl s0 HI hi c' (sp + 1) (mh_us st sp v) R → sg_R kl s0 HI hi c sp st R) ∧ (D (mh_e13 (s0.1 (kl + 6))) = none → sg_R kl s0 HI hi c sp st 0)
theorem sC_cg {kl : Nat} {row row' : Nat → Int32} {D : mh_Dn} {w c c' : Nat} (h : sg_C kl row D w c c') (he : ∀ i, c ≤ i → i < c' → row' i = row i) : sg_C kl row' D w c c' :=
  ⟨h.1, fun s0 HI hi sp st h1 h2 h3 h4 h5 => h.2 s0 HI hi sp st (fun i a b => (h1 i a b).trans (he i a b)) h2 h3 h4 h5⟩
theorem sC_w {kl : Nat} {row : Nat → Int32} {D : mh_Dn} {w w' c c' : Nat} (h : sg_C kl row D w c c') (hw : w ≤ w') : sg_C kl row D w' c c' :=
  ⟨h.1, fun s0 HI hi sp st h1 h2 h3 h4 h5 => h.2 s0 HI hi sp st h1 h2 h3 h4 (by omega)⟩
theorem sC_num {kl : Nat} {row : Nat → Int32} {c : Nat} {v : Int32} (h1 : row c = 13) (h2 : row (c + 1) = v) : sg_C kl row (fun _ => some v) 1 c (c + 2) :=
  ⟨by omega, fun s0 HI hi sp st g1 g2 g3 g4 g5 => ⟨fun v' hv R hR => rn_push g2 g4 (by omega) (Or.inr ⟨by rw [g1 c (by omega) (by omega), h1]; rfl, rfl, by rw [g1 (c + 1) (by omega) (by omega), h2]; exact (Option.some.inj hv).symm⟩) g3 hR, fun hn => absurd hn (by simp)⟩⟩
theorem sC_var {kl : Nat} {row : Nat → Int32} {c i : Nat} (h1 : (row c).toInt = (i : Int)) (hi13 : i < 13) : sg_C kl row (fun e => some (e i)) 1 c (c + 1) :=
  ⟨by omega, fun s0 HI hi sp st g1 g2 g3 g4 g5 => ⟨fun v' hv R hR => rn_push g2 g4 (by omega) (Or.inl ⟨i, hi13, by rw [g1 c (by omega) (by omega)]; exact h1, rfl, ((Option.some.inj hv).symm.trans (if_pos hi13))⟩) g3 hR, fun hn => absurd hn (by simp)⟩⟩
theorem sC_bin {kl : Nat} {row : Nat → Int32} {A B : mh_Dn} {w1 w2 w c m m' : Nat} {op : Int32} (hA : sg_C kl row A w1 c m) (hB : sg_C kl row B w2 m m') (h1 : row m' = op) (h2 : mh_op2 op) (hw1 : w1 ≤ w) (hw2 : w2 + 1 ≤ w) (hw : w ≤ 32) : sg_C kl row (rd_bo op A B) w c (m' + 1) := by
  have q1 := hA.1
  have q2 := hB.1
  refine ⟨by omega, fun s0 HI hi sp st g1 g2 g3 g4 g5 => ?_⟩
  obtain ⟨a1, a2⟩ := hA.2 s0 HI hi sp st (fun i x y => g1 i x (by omega)) g2 (by omega) g4 (by omega)
  have ho : s0.1 (kl + 1) m' = op := (g1 m' (by omega) (by omega)).trans h1
  cases eA : A (mh_e13 (s0.1 (kl + 6))) with
  | none => exact ⟨fun v hv => absurd (hv.symm.trans (bo_n1 eA)) (by simp), fun _ => a2 eA⟩
  | some x =>
    obtain ⟨b1, b2⟩ := hB.2 s0 HI hi (sp + 1) (mh_us st sp x) (fun i x y => g1 i (by omega) (by omega)) g2 (by omega) g4 (by omega)
    cases eB : B (mh_e13 (s0.1 (kl + 6))) with
    | none => exact ⟨fun v hv => absurd (hv.symm.trans (bo_n2 eA eB)) (by simp), fun _ => a1 x eA 0 (b2 eB)⟩
    | some y =>
      have e1 : mh_us (mh_us st sp x) (sp + 1) y sp = x := by rw [us_o (by omega), us_w]
      have e2 : mh_us (mh_us st sp x) (sp + 1) y (sp + 1) = y := us_w
      have hbs := bo_s (op := op) eA eB
      refine ⟨fun v hv R hR => a1 x eA R (b1 y eB R (rn_bin g2 g4 (by omega) (by omega) ho h2 ?_)), fun hn => a1 x eA 0 (b1 y eB 0 (rn_bin g2 g4 (by omega) (by omega) ho h2 ?_))⟩
      · rw [e1, e2]
        rw [hbs] at hv
        by_cases g : (op.toInt = 47 ∨ op.toInt = 37) ∧ y.toInt = 0
        · rw [if_pos g] at hv; exact absurd hv (by simp)
        · rw [if_neg g] at hv ⊢
          rw [Option.some.inj hv]
          exact rn_ext hR (fun j hj => by
            by_cases q : j = sp
            · rw [q, us_w, us_w]
            · rw [us_o q, us_o q, us_o (by omega), us_o q])
      · rw [e2]
        rw [hbs] at hn
        by_cases g : (op.toInt = 47 ∨ op.toInt = 37) ∧ y.toInt = 0
        · rw [if_pos g]
        · rw [if_neg g] at hn; exact absurd hn (by simp)
theorem sC_not {kl : Nat} {row : Nat → Int32} {A : mh_Dn} {w c m : Nat} (hA : sg_C kl row A w c m) (h1 : row m = 33) (hw : 1 ≤ w) : sg_C kl row (rd_ng A) w c (m + 1) := by
  have q1 := hA.1
  refine ⟨by omega, fun s0 HI hi sp st g1 g2 g3 g4 g5 => ?_⟩
  obtain ⟨a1, a2⟩ := hA.2 s0 HI hi sp st (fun i x y => g1 i x (by omega)) g2 (by omega) g4 (by omega)
  have ho : s0.1 (kl + 1) m = 33 := (g1 m (by omega) (by omega)).trans h1
  cases eA : A (mh_e13 (s0.1 (kl + 6))) with
  | none => exact ⟨fun v hv => absurd (hv.symm.trans (ng_n eA)) (by simp), fun _ => a2 eA⟩
  | some x =>
    refine ⟨fun v hv R hR => a1 x eA R (rn_not g2 g4 (by omega) (by omega) ho ?_), fun hn => absurd (hn.symm.trans (ng_s eA)) (by simp)⟩
    rw [ng_s eA] at hv
    rw [us_w, Option.some.inj hv]
    exact rn_ext hR (fun j hj => by
      by_cases q : j = sp
      · rw [q, us_w, us_w]
      · rw [us_o q, us_o q, us_o q])
theorem sC_and {kl : Nat} {row : Nat → Int32} {A B : mh_Dn} {w c m c' : Nat} (hA : sg_C kl row A w c m) (h1 : row m = 38) (h2 : (row (m + 1)).toInt = (c' : Int)) (hB : sg_C kl row B w (m + 2) c') (hw : 1 ≤ w) : sg_C kl row (rd_an A B) w c c' := by
  have q1 := hA.1
  have q2 := hB.1
  refine ⟨by omega, fun s0 HI hi sp st g1 g2 g3 g4 g5 => ?_⟩
  obtain ⟨a1, a2⟩ := hA.2 s0 HI hi sp st (fun i x y => g1 i x (by omega)) g2 (by omega) g4 (by omega)
  obtain ⟨b1, b2⟩ := hB.2 s0 HI hi sp st (fun i x y => g1 i (by omega) y) g2 g3 g4 (by omega)
  have ho : s0.1 (kl + 1) m = 38 := (g1 m (by omega) (by omega)).trans h1
  have ht : (s0.1 (kl + 1) (m + 1)).toInt = (c' : Int) := by rw [g1 (m + 1) (by omega) (by omega)]; exact h2
  have k38 : (38 : Int32).toInt = 38 := rfl
  cases eA : A (mh_e13 (s0.1 (kl + 6))) with
  | none => exact ⟨fun v hv => absurd (hv.symm.trans (an_n eA)) (by simp), fun _ => a2 eA⟩
  | some x =>
    have ea := an_s (b := B) eA
    by_cases g : x.toInt = 0
    · rw [if_pos g] at ea
      refine ⟨fun v hv R hR => a1 x eA R (rn_jmp g2 g4 q2 g3 (by omega) ho (Or.inl rfl) ht ?_), fun hn => absurd (hn.symm.trans ea) (by simp)⟩
      rw [us_w, if_pos ⟨fun _ => g, fun _ => rfl⟩]
      rw [ea] at hv
      rw [Option.some.inj hv]; exact hR
    · rw [if_neg g] at ea
      have hj : ∀ R, sg_R kl s0 HI hi (m + 2) sp st R → sg_R kl s0 HI hi c sp st R := fun R hR => a1 x eA R (rn_jmp g2 g4 q2 g3 (by omega) ho (Or.inl rfl) ht (by
        rw [us_w, if_neg (fun q => g (q.1 rfl))]
        exact rn_ext hR (fun j hj => (us_o (by omega)).symm)))
      exact ⟨fun v hv R hR => hj R (b1 v (ea ▸ hv) R hR), fun hn => hj 0 (b2 (ea ▸ hn))⟩
theorem sC_or {kl : Nat} {row : Nat → Int32} {A B : mh_Dn} {w c m c' : Nat} (hA : sg_C kl row A w c m) (h1 : row m = 124) (h2 : (row (m + 1)).toInt = (c' : Int)) (hB : sg_C kl row B w (m + 2) c') (hw : 1 ≤ w) : sg_C kl row (rd_or A B) w c c' := by
  have q1 := hA.1
  have q2 := hB.1
  refine ⟨by omega, fun s0 HI hi sp st g1 g2 g3 g4 g5 => ?_⟩
  obtain ⟨a1, a2⟩ := hA.2 s0 HI hi sp st (fun i x y => g1 i x (by omega)) g2 (by omega) g4 (by omega)
  obtain ⟨b1, b2⟩ := hB.2 s0 HI hi sp st (fun i x y => g1 i (by omega) y) g2 g3 g4 (by omega)
  have ho : s0.1 (kl + 1) m = 124 := (g1 m (by omega) (by omega)).trans h1
  have ht : (s0.1 (kl + 1) (m + 1)).toInt = (c' : Int) := by rw [g1 (m + 1) (by omega) (by omega)]; exact h2
  have k124 : (124 : Int32).toInt = 124 := rfl
  cases eA : A (mh_e13 (s0.1 (kl + 6))) with
  | none => exact ⟨fun v hv => absurd (hv.symm.trans (or_n eA)) (by simp), fun _ => a2 eA⟩
  | some x =>
    have ea := or_s (b := B) eA
    by_cases g : x.toInt = 0
    · rw [if_pos g] at ea
      have hj : ∀ R, sg_R kl s0 HI hi (m + 2) sp st R → sg_R kl s0 HI hi c sp st R := fun R hR => a1 x eA R (rn_jmp g2 g4 q2 g3 (by omega) ho (Or.inr rfl) ht (by
        rw [us_w, if_neg (fun q => absurd (q.2 g) (by decide))]
        exact rn_ext hR (fun j hj => (us_o (by omega)).symm)))
      exact ⟨fun v hv R hR => hj R (b1 v (ea ▸ hv) R hR), fun hn => hj 0 (b2 (ea ▸ hn))⟩
    · rw [if_neg g] at ea
      refine ⟨fun v hv R hR => a1 x eA R (rn_jmp g2 g4 q2 g3 (by omega) ho (Or.inr rfl) ht ?_), fun hn => absurd (hn.symm.trans ea) (by simp)⟩
      rw [us_w, if_pos ⟨fun q => absurd q (by decide), fun q => absurd q g⟩]
      rw [ea] at hv
      rw [Option.some.inj hv]; exact hR
/-- a whole run -/
theorem sC_run {kl : Nat} {D : mh_Dn} {w c c' : Nat} {s : mh_H} {a b : Int32} (h : sg_C kl (s.1 (kl + 1)) D w c c') (ha : a.toInt = (c : Int)) (hb : b.toInt = (c' : Int)) (hc : c' ≤ 400) (hw : w ≤ 32) : (f_eX1_run s kl a b).1 = (D (mh_e13 (s.1 (kl + 6)))).getD 0 ∧ ∀ k, k ≠ kl + 7 → (f_eX1_run s kl a b).2.1 k = s.1 k := by
  unfold f_eX1_run
  simp only [mh_lbE]
  have k0 : (0 : Int32).toInt = 0 := rfl
  have k4 : (400 : Int32).toInt = 400 := rfl
  have h0 := h.1
  have e1 : (mh_ma32 0 a).toInt = (c : Int) := by rw [mh_ma32_i]; omega
  have e2 : (mh_mi32 b 400).toInt = (c' : Int) := by rw [mh_mi32_i]; omega
  generalize mh_ma32 0 a = X at e1
  generalize mh_mi32 b 400 = HI at e2
  obtain ⟨n, hn⟩ : ∃ n : Nat, n = 401 := ⟨_, rfl⟩
  rw [show (401 : Nat) = n by omega]
  obtain ⟨g1, g2⟩ := h.2 s HI c' 0 (fun _ => 0) (fun _ _ _ => rfl) e2 (Nat.le_refl _) hc (by omega)
  cases eD : D (mh_e13 (s.1 (kl + 6))) with
  | none => exact g2 eD n s 0 X 0 0 e1 rfl rfl (fun _ _ => rfl) (fun j hj => absurd hj (Nat.not_lt_zero j)) (by omega) (by omega)
  | some v =>
    have := g1 v eD v (by
      have := rn_end (kl := kl) (s0 := s) (st := mh_us (fun _ => 0) 0 v) (m := 0) e2 (by decide)
      rw [us_w] at this
      exact this)
    exact this n s 0 X 0 0 e1 rfl rfl (fun _ _ => rfl) (fun j hj => absurd hj (Nat.not_lt_zero j)) (by omega) (by omega)
end
section
/-- the reference's evaluation -/
theorem bes_cg (s s0 : mh_H) (p d : Int32) : f_eX10_beside s p d = f_eX10_beside s0 p d := rfl
theorem tb_cg {s s0 : mh_H} (h : ∀ j, s.1 60 j = s0.1 60 j) (p : Int32) : ∀ (n : Nat) (a b : Int32), l_eX10_treesBeside_4_1 s p n a b = l_eX10_treesBeside_4_1 s0 p n a b := by
  intro n
  induction n with
  | zero => intro a b; rfl
  | succ n ih =>
    intro a b
    rw [l_eX10_treesBeside_4_1_s, l_eX10_treesBeside_4_1_s]
    unfold ls_eX10_treesBeside_4_1
    simp only [mh_lbE, bes_cg s s0, h, ih]
theorem vo_cg {s s0 : mh_H} (h : ∀ k, k ≠ 77 → k ≠ 78 → s.1 k = s0.1 k) (x : Int32) : f_eX10_valueOf s x = f_eX10_valueOf s0 x := by
  have h57 : ∀ j, s.1 57 j = s0.1 57 j := fun j => congrFun (h 57 (by decide) (by decide)) j
  have h59 : ∀ j, s.1 59 j = s0.1 59 j := fun j => congrFun (h 59 (by decide) (by decide)) j
  have h60 : ∀ j, s.1 60 j = s0.1 60 j := fun j => congrFun (h 60 (by decide) (by decide)) j
  have h61 : ∀ j, s.1 61 j = s0.1 61 j := fun j => congrFun (h 61 (by decide) (by decide)) j
  have h62 : ∀ j, s.1 62 j = s0.1 62 j := fun j => congrFun (h 62 (by decide) (by decide)) j
  have h63 : ∀ j, s.1 63 j = s0.1 63 j := fun j => congrFun (h 63 (by decide) (by decide)) j
  unfold f_eX10_valueOf f_eX10_ofCell f_eX10_treesBeside f_eX10_windNow
  simp only [mh_lbE, h57, h59, h60, h61, h62, h63, tb_cg h60]
def go_p (o : Option Int32) (v f : Int32) : Prop := match o with
  | none => f.toInt ≠ 0
  | some x => v = x ∧ f.toInt = 0
def go_ng (o : Option Int32) : Option Int32 := match o with
  | none => none
  | some x => some (if x.toInt = 0 then 1 else 0)
def go_bo (op : Int32) (a b : Option Int32) : Option Int32 := match a with
  | none => none
  | some x => match b with
    | none => none
    | some y => if (op.toInt = 47 ∨ op.toInt = 37) ∧ y.toInt = 0 then none else some (mh_wrk op x y)
def go_R (s0 : mh_H) (HI : Int32) (hi c sp : Nat) (st : Nat → Option Int32) (Post : mh_H → Prop) : Prop :=
  ∀ (n : Nat) (s : mh_H) (X Y : Int32), X.toInt = (c : Int) → Y.toInt = (sp : Int) → (∀ k, k ≠ 77 → k ≠ 78 → s.1 k = s0.1 k) → (∀ j, j < sp → go_p (st j) (s.1 77 j) (s.1 78 j)) → sp + (hi - c) ≤ 900 → hi - c < n → Post (l_eX10_goesThrough_5_1 HI n s X Y)
theorem go_ext {s0 : mh_H} {HI : Int32} {hi c sp : Nat} {st st' : Nat → Option Int32} {Post : mh_H → Prop} (h : go_R s0 HI hi c sp st Post) (he : ∀ j, j < sp → st j = st' j) : go_R s0 HI hi c sp st' Post :=
  fun n s X Y hX hY hs hst ht hn => h n s X Y hX hY hs (fun j hj => by rw [he j hj]; exact hst j hj) ht hn
theorem go_push {s0 : mh_H} {HI : Int32} {hi c sp : Nat} {st : Nat → Option Int32} {Post : mh_H → Prop} {v : Int32} (hH : HI.toInt = (hi : Int)) (hh : hi ≤ 400) (hc : c < hi) (hv : (s0.1 68 c = 0 ∧ v = s0.1 69 c) ∨ (s0.1 68 c = 1 ∧ v = f_eX10_valueOf s0 (s0.1 69 c))) (h : go_R s0 HI hi (c + 1) (sp + 1) (mh_us st sp (some v)) Post) : go_R s0 HI hi c sp st Post := by
  intro n s X Y hX hY hs hst ht hn
  obtain ⟨n, rfl⟩ : ∃ m, n = m + 1 := ⟨n - 1, by omega⟩
  have k1 : (1 : Int32).toInt = ((1 : Nat) : Int) := rfl
  have hw : s.1 68 c = s0.1 68 c := congrFun (hs 68 (by decide) (by decide)) c
  have hw1 : s.1 69 c = s0.1 69 c := congrFun (hs 69 (by decide) (by decide)) c
  rw [l_eX10_goesThrough_5_1_s]
  unfold ls_eX10_goesThrough_5_1
  rw [if_pos (by omega)]
  simp only [mh_lbE]
  rw [ix_n hX, ix_n hY, hw, pI_o (show 69 ≠ 78 by decide), hw1]
  have fin : ∀ v' : Int32, v' = v → Post (l_eX10_goesThrough_5_1 HI n (mh_pI (mh_pI s 78 sp 0) 77 sp v') (X + 1) (Y + 1)) := by
    intro v' e
    refine h n _ (X + 1) (Y + 1) (ix_add hX (by omega) k1 (by decide)) (ix_add hY (by omega) k1 (by decide)) (fun k h7 h8 => ((pI_row h7).trans (pI_row h8)).trans (hs k h7 h8)) (fun j hj => ?_) (by omega) (by omega)
    by_cases g : j = sp
    · subst g
      rw [us_w, pI_w, pI_o (show 78 ≠ 77 by decide), pI_w]
      exact ⟨e, rfl⟩
    · rw [us_o g, pI_j g, pI_o (show 77 ≠ 78 by decide), pI_o (show 78 ≠ 77 by decide), pI_j g]
      exact hst j (by omega)
  rcases hv with ⟨g1, g2⟩ | ⟨g1, g2⟩
  · rw [g1, if_neg (by decide), if_neg (by decide), if_pos (by decide)]
    exact fin _ g2.symm
  · rw [g1, if_neg (by decide), if_neg (by decide), if_neg (by decide)]
    refine fin _ (Eq.trans ?_ g2.symm)
    exact vo_cg (fun k h7 h8 => (pI_row h8).trans (hs k h7 h8)) _
theorem go_not {s0 : mh_H} {HI : Int32} {hi c m : Nat} {st : Nat → Option Int32} {Post : mh_H → Prop} (hH : HI.toInt = (hi : Int)) (hh : hi ≤ 400) (hc : c < hi) (hk : s0.1 68 c = 2) (hb : ∀ x, st m = some x → x = 0 ∨ x = 1) (h : go_R s0 HI hi (c + 1) (m + 1) (mh_us st m (go_ng (st m))) Post) : go_R s0 HI hi c (m + 1) st Post := by
  intro n s X Y hX hY hs hst ht hn
  obtain ⟨n, rfl⟩ : ∃ m, n = m + 1 := ⟨n - 1, by omega⟩
  have k1 : (1 : Int32).toInt = ((1 : Nat) : Int) := rfl
  have hw : s.1 68 c = 2 := (congrFun (hs 68 (by decide) (by decide)) c).trans hk
  have eY1 : (Y - 1).toInt = ((m : Nat) : Int) := by
    have := ix_sub hY (by omega) k1 (by decide) (by omega)
    rw [this]; omega
  rw [l_eX10_goesThrough_5_1_s]
  unfold ls_eX10_goesThrough_5_1
  rw [if_pos (by omega)]
  simp only [mh_lbE]
  rw [ix_n hX, hw, if_neg (by decide), if_pos (by decide), ix_n eY1]
  refine h n _ (X + 1) Y (ix_add hX (by omega) k1 (by decide)) hY (fun k h7 h8 => (pI_row h7).trans (hs k h7 h8)) (fun j hj => ?_) (by omega) (by omega)
  by_cases g : j = m
  · subst g
    rw [us_w, pI_w, pI_o (show 78 ≠ 77 by decide)]
    have hp := hst j (by omega)
    cases e : st j with
    | none => rw [e] at hp; exact hp
    | some x =>
      rw [e] at hp
      refine ⟨?_, hp.2⟩
      rw [hp.1]
      rcases hb x e with rfl | rfl <;> rfl
  · rw [us_o g, pI_j g, pI_o (show 78 ≠ 77 by decide)]
    exact hst j (by omega)
theorem does_2 {s : mh_H} {op P : Int32} {m : Nat} (hP : P.toInt = (m : Int)) (hm : m < 1000) (h2 : mh_op2 op) : ∃ f : Int32, f_eX10_does s op P = mh_pI (mh_pI s 78 m f) 77 m (mh_wrk op (s.1 77 m) (s.1 77 (m + 1))) ∧ (f.toInt = 0 ↔ ((s.1 78 m).toInt = 0 ∧ (s.1 78 (m + 1)).toInt = 0 ∧ ¬ ((op.toInt = 47 ∨ op.toInt = 37) ∧ (s.1 77 (m + 1)).toInt = 0))) := by
  have k1 : (1 : Int32).toInt = ((1 : Nat) : Int) := rfl
  have c37 : (37 : Int32).toInt = 37 := rfl
  have c38 : (38 : Int32).toInt = 38 := rfl
  have c47 : (47 : Int32).toInt = 47 := rfl
  have c124 : (124 : Int32).toInt = 124 := rfl
  have e1 : (P + 1).toInt = ((m + 1 : Nat) : Int) := ix_add hP (by omega) k1 (by decide)
  have r1 : ∀ (f : Int32) (j : Nat), (mh_pI s 78 m f).1 77 j = s.1 77 j := fun f j => pI_o (by decide)
  have hop : op.toInt ≠ 38 ∧ op.toInt ≠ 124 := by unfold mh_op2 at h2; omega
  clear h2
  unfold f_eX10_does
  rw [mh_lbE]
  rw [if_neg (by omega), if_neg (by omega)]
  simp only [mh_lbE, wk_r]
  rw [ix_n hP, ix_n e1]
  simp only [r1]
  have z1 : (1 : Int32).toInt ≠ 0 := by decide
  by_cases a : (s.1 78 m).toInt = 0
  · rw [if_pos a]
    by_cases b : (s.1 78 (m + 1)).toInt = 0
    · rw [if_pos b]
      by_cases c : op.toInt = 47
      · rw [if_pos (by omega)]
        by_cases d : (s.1 77 (m + 1)).toInt = 0
        · rw [if_pos d]
          exact ⟨1, rfl, ⟨fun g => absurd g z1, fun g => absurd ⟨Or.inl c, d⟩ g.2.2⟩⟩
        · rw [if_neg d]
          exact ⟨0, rfl, ⟨fun _ => ⟨a, b, fun g => d g.2⟩, fun _ => rfl⟩⟩
      · rw [if_neg (by omega)]
        by_cases c' : op.toInt = 37
        · rw [if_pos (by omega)]
          by_cases d : (s.1 77 (m + 1)).toInt = 0
          · rw [if_pos d]
            exact ⟨1, rfl, ⟨fun g => absurd g z1, fun g => absurd ⟨Or.inr c', d⟩ g.2.2⟩⟩
          · rw [if_neg d]
            exact ⟨0, rfl, ⟨fun _ => ⟨a, b, fun g => d g.2⟩, fun _ => rfl⟩⟩
        · rw [if_neg (by omega)]
          exact ⟨0, rfl, ⟨fun _ => ⟨a, b, fun g => by omega⟩, fun _ => rfl⟩⟩
    · rw [if_neg b]
      exact ⟨1, rfl, ⟨fun g => absurd g z1, fun g => absurd g.2.1 b⟩⟩
  · rw [if_neg a]
    exact ⟨1, rfl, ⟨fun g => absurd g z1, fun g => absurd g.1 a⟩⟩
end
section
theorem go_st {s0 s : mh_H} {HI X Y : Int32} {hi c m n : Nat} (hH : HI.toInt = (hi : Int)) (hh : hi ≤ 400) (hc : c < hi) (hX : X.toInt = (c : Int)) (hY : Y.toInt = ((m + 2 : Nat) : Int)) (hm : m < 990) {op : Int32} (hw : s.1 68 c = op) (ho : 2 < op.toInt) : ∃ P X' Y' : Int32, P.toInt = (m : Int) ∧ X'.toInt = ((c + 1 : Nat) : Int) ∧ Y'.toInt = ((m + 1 : Nat) : Int) ∧ l_eX10_goesThrough_5_1 HI (n + 1) s X Y = l_eX10_goesThrough_5_1 HI n (f_eX10_does s op P) X' Y' := by
  have k1 : (1 : Int32).toInt = ((1 : Nat) : Int) := rfl
  have k2 : (2 : Int32).toInt = 2 := rfl
  have eYm : (Y + (-1)).toInt = ((m + 1 : Nat) : Int) := ix_m1 (m := m + 1) hY (by omega)
  have eP : (Y + (-1) - 1).toInt = ((m : Nat) : Int) := by
    have := ix_sub eYm (by omega) k1 (by decide) (by omega)
    rw [this]; rfl
  have eX : (X + 1).toInt = ((c + 1 : Nat) : Int) := ix_add hX (by omega) k1 (by decide)
  refine ⟨_, _, _, eP, eX, eYm, ?_⟩
  rw [l_eX10_goesThrough_5_1_s]
  unfold ls_eX10_goesThrough_5_1
  rw [if_pos (by omega)]
  simp only [mh_lbE]
  rw [ix_n hX, hw, if_pos (by omega)]
theorem go_bin {s0 : mh_H} {HI : Int32} {hi c m : Nat} {st : Nat → Option Int32} {Post : mh_H → Prop} {op : Int32} (hH : HI.toInt = (hi : Int)) (hh : hi ≤ 400) (hc : c < hi) (hk : s0.1 68 c = op) (h2 : mh_op2 op) (h : go_R s0 HI hi (c + 1) (m + 1) (mh_us st m (go_bo op (st m) (st (m + 1)))) Post) : go_R s0 HI hi c (m + 2) st Post := by
  intro n s X Y hX hY hs hst ht hn
  obtain ⟨n, rfl⟩ : ∃ m, n = m + 1 := ⟨n - 1, by omega⟩
  have hw : s.1 68 c = op := (congrFun (hs 68 (by decide) (by decide)) c).trans hk
  obtain ⟨P, X', Y', eP, eX, eY, e⟩ := go_st (s0 := s0) (n := n) hH hh hc hX hY (by omega) hw (by unfold mh_op2 at h2; omega)
  obtain ⟨f, e2, e3⟩ := does_2 (s := s) (op := op) eP (by omega) h2
  rw [e, e2]
  refine h n _ X' Y' eX eY (fun k h7 h8 => ((pI_row h7).trans (pI_row h8)).trans (hs k h7 h8)) (fun j hj => ?_) (by omega) (by omega)
  by_cases g : j = m
  · subst g
    rw [us_w, pI_w, pI_o (show 78 ≠ 77 by decide), pI_w]
    have p1 := hst j (by omega)
    have p2 := hst (j + 1) (by omega)
    cases a : st j with
    | none => rw [a] at p1; exact fun q => p1 (e3.1 q).1
    | some x =>
      cases b : st (j + 1) with
      | none => rw [b] at p2; exact fun q => p2 (e3.1 q).2.1
      | some y =>
        rw [a] at p1
        rw [b] at p2
        show go_p (if (op.toInt = 47 ∨ op.toInt = 37) ∧ y.toInt = 0 then none else some (mh_wrk op x y)) _ _
        have y2 : s.1 77 (j + 1) = y := p2.1
        have x2 : s.1 77 j = x := p1.1
        rw [y2] at e3
        rw [x2, y2]
        by_cases d : (op.toInt = 47 ∨ op.toInt = 37) ∧ y.toInt = 0
        · rw [if_pos d]
          exact fun q => (e3.1 q).2.2 d
        · rw [if_neg d]
          exact ⟨rfl, e3.2 ⟨p1.2, p2.2, d⟩⟩
  · rw [us_o g, pI_j g, pI_o (show 77 ≠ 78 by decide), pI_o (show 78 ≠ 77 by decide), pI_j g]
    exact hst j (by omega)
def go_an (a b : Option Int32) : Option Int32 := match a with
  | none => none
  | some x => if x.toInt = 0 then some x else b
def go_or (a b : Option Int32) : Option Int32 := match a with
  | none => none
  | some x => if x.toInt = 0 then b else some x
theorem does_j {s : mh_H} {op P : Int32} {m : Nat} (hP : P.toInt = (m : Int)) (hm : m < 1000) (h2 : op.toInt = 38 ∨ op.toInt = 124) (hb : (s.1 78 m).toInt = 0 → s.1 77 m = 0 ∨ s.1 77 m = 1) : f_eX10_does s op P = if (s.1 78 m).toInt = 0 ∧ ((op.toInt = 38 ∧ (s.1 77 m).toInt ≠ 0) ∨ (op.toInt = 124 ∧ (s.1 77 m).toInt = 0)) then mh_pI (mh_pI s 77 m (s.1 77 (m + 1))) 78 m (s.1 78 (m + 1)) else s := by
  have k1 : (1 : Int32).toInt = ((1 : Nat) : Int) := rfl
  have c1 : (1 : Int32).toInt = 1 := rfl
  have c0 : (0 : Int32).toInt = 0 := rfl
  have c38 : (38 : Int32).toInt = 38 := rfl
  have c124 : (124 : Int32).toInt = 124 := rfl
  have e1 : (P + 1).toInt = ((m + 1 : Nat) : Int) := ix_add hP (by omega) k1 (by decide)
  have r1 : ∀ (f : Int32) (j : Nat), (mh_pI s 77 m f).1 78 j = s.1 78 j := fun f j => pI_o (by decide)
  unfold f_eX10_does
  rw [mh_lbE]
  by_cases g : op.toInt = 38
  · rw [if_pos (show op.toInt = (38 : Int32).toInt by omega)]
    simp only [mh_lbE]
    rw [ix_n hP, ix_n e1]
    simp only [r1]
    by_cases a : (s.1 78 m).toInt = 0
    · rw [if_pos a]
      rcases hb a with q | q
      · have q0 : (s.1 77 m).toInt = 0 := by rw [q]; exact c0
        rw [if_neg (by omega), if_neg (fun z => by omega)]
      · have q0 : (s.1 77 m).toInt = 1 := by rw [q]; exact c1
        rw [if_pos (by omega), if_pos ⟨a, Or.inl ⟨g, by omega⟩⟩]
    · rw [if_neg a, if_neg (fun z => a z.1)]
  · rw [if_neg (show ¬ op.toInt = (38 : Int32).toInt by omega), if_pos (show op.toInt = (124 : Int32).toInt by omega)]
    simp only [mh_lbE]
    rw [ix_n hP, ix_n e1]
    simp only [r1]
    by_cases a : (s.1 78 m).toInt = 0
    · rw [if_pos a]
      rcases hb a with q | q
      · have q0 : (s.1 77 m).toInt = 0 := by rw [q]; exact c0
        rw [if_pos (show (s.1 77 m).toInt = (0 : Int32).toInt from q0), if_pos ⟨a, Or.inr ⟨by omega, q0⟩⟩]
      · have q0 : (s.1 77 m).toInt = 1 := by rw [q]; exact c1
        rw [if_neg (by omega), if_neg (fun z => by omega)]
    · rw [if_neg a, if_neg (fun z => a z.1)]
theorem go_jn {s0 : mh_H} {HI : Int32} {hi c m : Nat} {st : Nat → Option Int32} {Post : mh_H → Prop} {op : Int32} (hH : HI.toInt = (hi : Int)) (hh : hi ≤ 400) (hc : c < hi) (hk : s0.1 68 c = op) (h2 : op.toInt = 38 ∨ op.toInt = 124) (hb : ∀ x, st m = some x → x = 0 ∨ x = 1) (h : go_R s0 HI hi (c + 1) (m + 1) (mh_us st m (if op.toInt = 38 then go_an (st m) (st (m + 1)) else go_or (st m) (st (m + 1)))) Post) : go_R s0 HI hi c (m + 2) st Post := by
  intro n s X Y hX hY hs hst ht hn
  obtain ⟨n, rfl⟩ : ∃ m, n = m + 1 := ⟨n - 1, by omega⟩
  have hw : s.1 68 c = op := (congrFun (hs 68 (by decide) (by decide)) c).trans hk
  obtain ⟨P, X', Y', eP, eX, eY, e⟩ := go_st (s0 := s0) (n := n) hH hh hc hX hY (by omega) hw (by omega)
  have p1 := hst m (by omega)
  have p2 := hst (m + 1) (by omega)
  have hb' : (s.1 78 m).toInt = 0 → s.1 77 m = 0 ∨ s.1 77 m = 1 := by
    intro q
    cases a : st m with
    | none => rw [a] at p1; exact absurd q p1
    | some x => rw [a] at p1; rw [p1.1]; exact hb x a
  rw [e, does_j eP (by omega) h2 hb']
  have cp : ∀ j, j < m + 1 → j ≠ m → go_p (st j) (s.1 77 j) (s.1 78 j) := fun j hj _ => hst j (by omega)
  by_cases d : (s.1 78 m).toInt = 0 ∧ ((op.toInt = 38 ∧ (s.1 77 m).toInt ≠ 0) ∨ (op.toInt = 124 ∧ (s.1 77 m).toInt = 0))
  · rw [if_pos d]
    refine h n _ X' Y' eX eY (fun k h7 h8 => ((pI_row h8).trans (pI_row h7)).trans (hs k h7 h8)) (fun j hj => ?_) (by omega) (by omega)
    by_cases g : j = m
    · subst g
      rw [us_w, pI_o (show 77 ≠ 78 by decide), pI_w, pI_w]
      cases a : st j with
      | none => rw [a] at p1; exact absurd d.1 p1
      | some x =>
        rw [a] at p1
        have x2 : s.1 77 j = x := p1.1
        rw [x2] at d
        rcases d.2 with q | q
        · rw [if_pos q.1]
          show go_p (if x.toInt = 0 then some x else st (j + 1)) _ _
          rw [if_neg q.2]; exact p2
        · rw [if_neg (by omega)]
          show go_p (if x.toInt = 0 then st (j + 1) else some x) _ _
          rw [if_pos q.2]; exact p2
    · rw [us_o g, pI_o (show 77 ≠ 78 by decide), pI_j g, pI_j g, pI_o (show 78 ≠ 77 by decide)]
      exact hst j (by omega)
  · rw [if_neg d]
    refine h n _ X' Y' eX eY hs (fun j hj => ?_) (by omega) (by omega)
    by_cases g : j = m
    · subst g
      rw [us_w]
      cases a : st j with
      | none =>
        rw [a] at p1
        split
        · exact p1
        · exact p1
      | some x =>
        rw [a] at p1
        have x2 : s.1 77 j = x := p1.1
        rw [x2] at d
        have d1 := p1.2
        split
        · rename_i q
          show go_p (if x.toInt = 0 then some x else st (j + 1)) _ _
          rw [if_pos (by omega)]; exact p1
        · rename_i q
          show go_p (if x.toInt = 0 then st (j + 1) else some x) _ _
          rw [if_neg (by omega)]; exact p1
    · rw [us_o g]
      exact hst j (by omega)
/-- a piece of the reference's code: c .. c' pushes D -/
def sg_P (kr wr : Nat → Int32) (D : mh_Dn) (c c' : Nat) : Prop := c ≤ c' ∧ ∀ (s0 : mh_H) (HI : Int32) (hi sp : Nat) (st : Nat → Option Int32) (Post : mh_H → Prop), (∀ i, c ≤ i → i < c' → s0.1 68 i = kr i ∧ s0.1 69 i = wr i) → HI.toInt = (hi : Int) → c' ≤ hi → hi ≤ 400 → go_R s0 HI hi c' (sp + 1) (mh_us st sp (D (mh_eR s0))) Post → go_R s0 HI hi c sp st Post
theorem sP_cg {kr wr kr' wr' : Nat → Int32} {D : mh_Dn} {c c' : Nat} (h : sg_P kr wr D c c') (he : ∀ i, c ≤ i → i < c' → kr' i = kr i ∧ wr' i = wr i) : sg_P kr' wr' D c c' :=
  ⟨h.1, fun s0 HI hi sp st Post h1 => h.2 s0 HI hi sp st Post (fun i a b => ⟨(h1 i a b).1.trans (he i a b).1, (h1 i a b).2.trans (he i a b).2⟩)⟩
theorem sP_num {kr wr : Nat → Int32} {c : Nat} {v : Int32} (h1 : kr c = 0) (h2 : wr c = v) : sg_P kr wr (fun _ => some v) c (c + 1) :=
  ⟨by omega, fun s0 HI hi sp st Post g1 g2 g3 g4 hR => go_push g2 g4 (by omega) (Or.inl ⟨(g1 c (by omega) (by omega)).1.trans h1, ((g1 c (by omega) (by omega)).2.trans h2).symm⟩) hR⟩
theorem sP_var {kr wr : Nat → Int32} {c i : Nat} (h1 : kr c = 1) (h2 : wr c = mh_chr i) (hi13 : i < 13) : sg_P kr wr (fun e => some (e i)) c (c + 1) :=
  ⟨by omega, fun s0 HI hi sp st Post g1 g2 g3 g4 hR => go_push g2 g4 (by omega) (Or.inr ⟨(g1 c (by omega) (by omega)).1.trans h1, by rw [(g1 c (by omega) (by omega)).2, h2]; exact if_pos hi13⟩) hR⟩
theorem sP_bin {kr wr : Nat → Int32} {A B : mh_Dn} {c m m' : Nat} {op : Int32} (hA : sg_P kr wr A c m) (hB : sg_P kr wr B m m') (h1 : kr m' = op) (h2 : mh_op2 op) : sg_P kr wr (rd_bo op A B) c (m' + 1) := by
  have q1 := hA.1
  have q2 := hB.1
  refine ⟨by omega, fun s0 HI hi sp st Post g1 g2 g3 g4 hR => ?_⟩
  refine hA.2 s0 HI hi sp st Post (fun i x y => g1 i x (by omega)) g2 (by omega) g4 (hB.2 s0 HI hi (sp + 1) _ Post (fun i x y => g1 i (by omega) (by omega)) g2 (by omega) g4 (go_bin g2 g4 (by omega) ((g1 m' (by omega) (by omega)).1.trans h1) h2 (go_ext hR (fun j hj => ?_))))
  by_cases q : j = sp
  · subst q
    rw [us_w, us_w, us_w, us_o (by omega), us_w]
    rfl
  · rw [us_o q, us_o q, us_o (by omega), us_o q]
def mh_b01 (A : mh_Dn) : Prop := ∀ e x, A e = some x → x = 0 ∨ x = 1
theorem sP_not {kr wr : Nat → Int32} {A : mh_Dn} {c m : Nat} (hA : sg_P kr wr A c m) (hb : mh_b01 A) (h1 : kr m = 2) : sg_P kr wr (rd_ng A) c (m + 1) := by
  have q1 := hA.1
  refine ⟨by omega, fun s0 HI hi sp st Post g1 g2 g3 g4 hR => ?_⟩
  refine hA.2 s0 HI hi sp st Post (fun i x y => g1 i x (by omega)) g2 (by omega) g4 (go_not g2 g4 (by omega) ((g1 m (by omega) (by omega)).1.trans h1) (fun x hx => ?_) (go_ext hR (fun j hj => ?_)))
  · rw [us_w] at hx; exact hb _ x hx
  by_cases q : j = sp
  · subst q
    rw [us_w, us_w, us_w]
    rfl
  · rw [us_o q, us_o q, us_o q]
theorem sP_and {kr wr : Nat → Int32} {A B : mh_Dn} {c m m' : Nat} (hA : sg_P kr wr A c m) (hb : mh_b01 A) (hB : sg_P kr wr B m m') (h1 : kr m' = 38) : sg_P kr wr (rd_an A B) c (m' + 1) := by
  have q1 := hA.1
  have q2 := hB.1
  refine ⟨by omega, fun s0 HI hi sp st Post g1 g2 g3 g4 hR => ?_⟩
  refine hA.2 s0 HI hi sp st Post (fun i x y => g1 i x (by omega)) g2 (by omega) g4 (hB.2 s0 HI hi (sp + 1) _ Post (fun i x y => g1 i (by omega) (by omega)) g2 (by omega) g4 (go_jn g2 g4 (by omega) ((g1 m' (by omega) (by omega)).1.trans h1) (Or.inl rfl) (fun x hx => ?_) (go_ext hR (fun j hj => ?_))))
  · rw [us_o (by omega), us_w] at hx; exact hb _ x hx
  rw [if_pos (by decide)]
  by_cases q : j = sp
  · subst q
    rw [us_w, us_w, us_w, us_o (by omega), us_w]
    rfl
  · rw [us_o q, us_o q, us_o (by omega), us_o q]
theorem sP_or {kr wr : Nat → Int32} {A B : mh_Dn} {c m m' : Nat} (hA : sg_P kr wr A c m) (hb : mh_b01 A) (hB : sg_P kr wr B m m') (h1 : kr m' = 124) : sg_P kr wr (rd_or A B) c (m' + 1) := by
  have q1 := hA.1
  have q2 := hB.1
  refine ⟨by omega, fun s0 HI hi sp st Post g1 g2 g3 g4 hR => ?_⟩
  refine hA.2 s0 HI hi sp st Post (fun i x y => g1 i x (by omega)) g2 (by omega) g4 (hB.2 s0 HI hi (sp + 1) _ Post (fun i x y => g1 i (by omega) (by omega)) g2 (by omega) g4 (go_jn g2 g4 (by omega) ((g1 m' (by omega) (by omega)).1.trans h1) (Or.inr rfl) (fun x hx => ?_) (go_ext hR (fun j hj => ?_))))
  · rw [us_o (by omega), us_w] at hx; exact hb _ x hx
  rw [if_neg (by decide)]
  by_cases q : j = sp
  · subst q
    rw [us_w, us_w, us_w, us_o (by omega), us_w]
    rfl
  · rw [us_o q, us_o q, us_o (by omega), us_o q]
theorem sP_run {D : mh_Dn} {c c' : Nat} {s : mh_H} {a b : Int32} (h : sg_P (s.1 68) (s.1 69) D c c') (ha : a.toInt = (c : Int)) (hb : b.toInt = (c' : Int)) (hc : c' ≤ 200) : go_p (D (mh_eR s)) ((f_eX10_goesThrough s a b).1 77 0) ((f_eX10_goesThrough s a b).1 78 0) ∧ ∀ k, k ≠ 77 → k ≠ 78 → (f_eX10_goesThrough s a b).1 k = s.1 k := by
  unfold f_eX10_goesThrough
  have h0 := h.1
  obtain ⟨n, hn⟩ : ∃ n : Nat, n = 201 := ⟨_, rfl⟩
  rw [show (201 : Nat) = n by omega]
  refine h.2 s b c' 0 (fun _ => none) (fun q => go_p (D (mh_eR s)) (q.1 77 0) (q.1 78 0) ∧ ∀ k, k ≠ 77 → k ≠ 78 → q.1 k = s.1 k) (fun _ _ _ => ⟨rfl, rfl⟩) hb (Nat.le_refl _) (by omega) ?_ n s a 0 ha rfl (fun _ _ _ => rfl) (fun j hj => absurd hj (Nat.not_lt_zero j)) (by omega) (by omega)
  intro n s' X Y hX hY hs hst ht hn
  obtain ⟨n, rfl⟩ : ∃ m, n = m + 1 := ⟨n - 1, by omega⟩
  rw [l_eX10_goesThrough_5_1_s]
  unfold ls_eX10_goesThrough_5_1
  rw [if_neg (by omega)]
  have := hst 0 (by omega)
  rw [us_w] at this
  exact ⟨this, hs⟩
end
section
/-- a law: its clauses; letter, value, condition -/
abbrev mh_Cl : Type := Int32 × mh_Dn × mh_Dn
def mh_bdd (l x : Int32) : Int32 := if x.toInt < 0 then 0 else if (mh_mst l).toInt < x.toInt then mh_mst l else x
def mh_lw : List mh_Cl → mh_Lw
  | [], _, _ => 0
  | q :: r, l, e => if q.1.toInt = l.toInt ∧ ((q.2.2 e).getD 0).toInt ≠ 0 then mh_bdd l ((q.2.1 e).getD 0) else mh_lw r l e
theorem mst_b (l : Int32) : 0 ≤ (mh_mst l).toInt ∧ (mh_mst l).toInt ≤ 999 := by
  unfold mh_mst
  split
  · decide
  · split <;> decide
theorem bd_b (l x : Int32) : 0 ≤ (mh_bdd l x).toInt ∧ (mh_bdd l x).toInt ≤ (mh_mst l).toInt := by
  have h := mst_b l
  have k0 := kc_0
  unfold mh_bdd
  split
  · omega
  · split <;> omega
theorem lw_B : ∀ Ls : List mh_Cl, mh_LB (mh_lw Ls)
  | [] => fun l e => by
    have h := mst_b l
    have k0 := kc_0
    show 0 ≤ (0 : Int32).toInt ∧ (0 : Int32).toInt ≤ _
    omega
  | q :: r => fun l e => by
    show 0 ≤ (if q.1.toInt = l.toInt ∧ ((q.2.2 e).getD 0).toInt ≠ 0 then mh_bdd l ((q.2.1 e).getD 0) else mh_lw r l e).toInt ∧ (if q.1.toInt = l.toInt ∧ ((q.2.2 e).getD 0).toInt ≠ 0 then mh_bdd l ((q.2.1 e).getD 0) else mh_lw r l e).toInt ≤ _
    split
    · exact bd_b l _
    · exact lw_B r l e
theorem most_c (s : mh_H) (l : Int32) : f_eX1_most s l = mh_mst l := by
  have k1 : (121 : Int32).toInt = 121 := rfl
  have k2 : (102 : Int32).toInt = 102 := rfl
  unfold f_eX1_most mh_mst
  simp only [k1, k2]
theorem bd_c (s : mh_H) (l x : Int32) : f_eX9_bounded s x (mh_mst l) = mh_bdd l x := by
  have k0 := kc_0
  have h := mst_b l
  unfold f_eX9_bounded mh_bdd
  simp only [mh_lbE]
  apply Int32.toInt_inj.mp
  rw [mh_ma32_i, mh_mi32_i, k0]
  split
  · omega
  · split <;> omega
def en_C (kl : Nat) (s : mh_H) (B i : Nat) (q : mh_Cl) : Prop := ∃ a b d : Nat, s.1 (kl + 2) i = q.1 ∧ (s.1 (kl + 3) i).toInt = (a : Int) ∧ (s.1 (kl + 4) i).toInt = (b : Int) ∧ (s.1 (kl + 5) i).toInt = (d : Int) ∧ d ≤ B ∧ sg_C kl (s.1 (kl + 1)) q.2.1 32 a b ∧ sg_C kl (s.1 (kl + 1)) q.2.2 32 b d
def cl_C (kl : Nat) (s : mh_H) (B : Nat) : Nat → List mh_Cl → Prop
  | _, [] => True
  | i, q :: r => en_C kl s B i q ∧ cl_C kl s B (i + 1) r
def en_R (k0 : Nat) (s : mh_H) (kr wr : Nat → Int32) (B i : Nat) (q : mh_Cl) : Prop := ∃ a b d : Nat, s.1 k0 i = q.1 ∧ (s.1 (k0 + 1) i).toInt = (a : Int) ∧ (s.1 (k0 + 2) i).toInt = (b : Int) ∧ (s.1 (k0 + 3) i).toInt = (d : Int) ∧ d ≤ B ∧ mh_b01 q.2.2 ∧ sg_P kr wr q.2.1 a b ∧ sg_P kr wr q.2.2 b d
def cl_R (k0 : Nat) (s : mh_H) (kr wr : Nat → Int32) (B : Nat) : Nat → List mh_Cl → Prop
  | _, [] => True
  | i, q :: r => en_R k0 s kr wr B i q ∧ cl_R k0 s kr wr B (i + 1) r
theorem clC_ap {kl B B' : Nat} {s s' : mh_H} (hr : ∀ i, i < B → s'.1 (kl + 1) i = s.1 (kl + 1) i) (hB : B ≤ B') (E : List mh_Cl) : ∀ (Ls : List mh_Cl) (i : Nat), (∀ k j, 2 ≤ k → k ≤ 5 → j < i + Ls.length → s'.1 (kl + k) j = s.1 (kl + k) j) → cl_C kl s B i Ls → cl_C kl s' B' (i + Ls.length) E → cl_C kl s' B' i (Ls ++ E) := by
  intro Ls
  induction Ls with
  | nil => intro i _ _ hE; exact hE
  | cons q r ih =>
    intro i hj hc hE
    rw [List.length_cons] at hj hE
    obtain ⟨⟨a, b, d, h1, h2, h3, h4, h5, h6, h7⟩, hc2⟩ := hc
    have l1 := h6.1
    have l2 := h7.1
    refine ⟨⟨a, b, d, ?_, ?_, ?_, ?_, by omega, ?_, ?_⟩, ih (i + 1) (fun k j a b c => hj k j a b (by omega)) hc2 (by rw [show i + 1 + r.length = i + (r.length + 1) by omega]; exact hE)⟩
    · rw [hj 2 i (by decide) (by decide) (by omega)]; exact h1
    · rw [hj 3 i (by decide) (by decide) (by omega)]; exact h2
    · rw [hj 4 i (by decide) (by decide) (by omega)]; exact h3
    · rw [hj 5 i (by decide) (by decide) (by omega)]; exact h4
    · exact sC_cg h6 (fun j a b => hr j (by omega))
    · exact sC_cg h7 (fun j a b => hr j (by omega))
theorem clC_cg {kl B : Nat} {s s' : mh_H} (h : ∀ i, 1 ≤ i → i ≤ 5 → s'.1 (kl + i) = s.1 (kl + i)) (Ls : List mh_Cl) (hc : cl_C kl s B 0 Ls) : cl_C kl s' B 0 Ls := by
  have := clC_ap (s := s) (s' := s') (fun i _ => congrFun (h 1 (by decide) (by decide)) i) (Nat.le_refl B) [] Ls 0 (fun k j a b _ => congrFun (h k (by omega) b) j) hc trivial
  rw [List.append_nil] at this
  exact this
theorem clR_ap {k0 k1 B B' : Nat} {s s' : mh_H} {kr wr kr' wr' : Nat → Int32} (hr : ∀ i, i < B → kr' i = kr i ∧ wr' i = wr i) (hB : B ≤ B') (E : List mh_Cl) : ∀ (Ls : List mh_Cl) (i : Nat), (∀ k j, k ≤ 3 → j < i + Ls.length → s'.1 (k1 + k) j = s.1 (k0 + k) j) → cl_R k0 s kr wr B i Ls → cl_R k1 s' kr' wr' B' (i + Ls.length) E → cl_R k1 s' kr' wr' B' i (Ls ++ E) := by
  intro Ls
  induction Ls with
  | nil => intro i _ _ hE; exact hE
  | cons q r ih =>
    intro i hj hc hE
    rw [List.length_cons] at hj hE
    obtain ⟨⟨a, b, d, h1, h2, h3, h4, h5, h8, h6, h7⟩, hc2⟩ := hc
    have l1 := h6.1
    have l2 := h7.1
    refine ⟨⟨a, b, d, ?_, ?_, ?_, ?_, by omega, h8, ?_, ?_⟩, ih (i + 1) (fun k j a c => hj k j a (by omega)) hc2 (by rw [show i + 1 + r.length = i + (r.length + 1) by omega]; exact hE)⟩
    · exact (hj 0 i (by decide) (by omega)).trans h1
    · rw [hj 1 i (by decide) (by omega)]; exact h2
    · rw [hj 2 i (by decide) (by omega)]; exact h3
    · rw [hj 3 i (by decide) (by omega)]; exact h4
    · exact sP_cg h6 (fun j a b => hr j (by omega))
    · exact sP_cg h7 (fun j a b => hr j (by omega))
theorem clR_cg {B : Nat} {s s' : mh_H} (h : ∀ i, 64 ≤ i → i ≤ 69 → s'.1 i = s.1 i) (Ls : List mh_Cl) (hc : cl_R 64 s (s.1 68) (s.1 69) B 0 Ls) : cl_R 64 s' (s'.1 68) (s'.1 69) B 0 Ls := by
  have := clR_ap (k0 := 64) (k1 := 64) (s := s) (s' := s') (kr' := s'.1 68) (wr' := s'.1 69) (fun i _ => ⟨congrFun (h 68 (by decide) (by decide)) i, congrFun (h 69 (by decide) (by decide)) i⟩) (Nat.le_refl B) [] Ls 0 (fun k j a _ => congrFun (h (64 + k) (by omega) (by omega)) j) hc trivial
  rw [List.append_nil] at this
  exact this
theorem wo_lp {kl B : Nat} (hB : B ≤ 400) {s0 : mh_H} (letter : Int32) : ∀ (r : List mh_Cl) (i n : Nat) (s : mh_H) (X : Int32), X.toInt = (i : Int) → (∀ k, k ≠ kl + 7 → s.1 k = s0.1 k) → cl_C kl s0 B i r → (s0.1 kl 7).toInt = ((i + r.length : Nat) : Int) → i + r.length ≤ 14 → r.length < n → (l_eX1_worth_2_1 kl letter n s X).1 = mh_lw r letter (mh_e13 (s0.1 (kl + 6))) := by
  intro r
  induction r with
  | nil =>
    intro i n s X hX hs hc h7 h14 hn
    obtain ⟨n, rfl⟩ : ∃ m, n = m + 1 := ⟨n - 1, by omega⟩
    have e7 : s.1 kl 7 = s0.1 kl 7 := congrFun (hs kl (by omega)) 7
    rw [List.length_nil] at h7
    rw [l_eX1_worth_2_1_s]
    unfold ls_eX1_worth_2_1
    simp only [mh_lbE]
    rw [e7, if_neg (by omega)]
    rfl
  | cons q r ih =>
    intro i n s X hX hs hc h7 h14 hn
    rw [List.length_cons] at h7 h14 hn
    obtain ⟨n, rfl⟩ : ∃ m, n = m + 1 := ⟨n - 1, by omega⟩
    obtain ⟨⟨a, b, d, h1, h2, h3, h4, h5, h6, h8⟩, hr⟩ := hc
    have k1 : (1 : Int32).toInt = ((1 : Nat) : Int) := rfl
    have e7 : s.1 kl 7 = s0.1 kl 7 := congrFun (hs kl (by omega)) 7
    have r1 : s.1 (kl + 1) = s0.1 (kl + 1) := hs (kl + 1) (by omega)
    have r2 : s.1 (kl + 2) = s0.1 (kl + 2) := hs (kl + 2) (by omega)
    have r4 : s.1 (kl + 4) = s0.1 (kl + 4) := hs (kl + 4) (by omega)
    have r5 : s.1 (kl + 5) = s0.1 (kl + 5) := hs (kl + 5) (by omega)
    have r6 : s.1 (kl + 6) = s0.1 (kl + 6) := hs (kl + 6) (by omega)
    have nx : ∀ s2 : mh_H, (∀ k, k ≠ kl + 7 → s2.1 k = s0.1 k) → (j_eX1_worth_63_2 (l_eX1_worth_2_1 kl letter n) s2 X).1 = mh_lw r letter (mh_e13 (s0.1 (kl + 6))) := by
      intro s2 hs2
      unfold j_eX1_worth_63_2
      rw [mh_lbE]
      exact ih (i + 1) n s2 (X + 1) (ix_add hX (by omega) k1 (by decide)) hs2 hr (by rw [h7]; omega) (by omega) (by omega)
    rw [l_eX1_worth_2_1_s]
    unfold ls_eX1_worth_2_1
    simp only [mh_lbE, mh_lb2E, most_c, bd_c]
    rw [e7, if_pos (by omega), ix_n hX, r2, h1]
    show _ = if q.1.toInt = letter.toInt ∧ ((q.2.2 (mh_e13 (s0.1 (kl + 6)))).getD 0).toInt ≠ 0 then mh_bdd letter ((q.2.1 (mh_e13 (s0.1 (kl + 6)))).getD 0) else mh_lw r letter (mh_e13 (s0.1 (kl + 6)))
    by_cases g : q.1.toInt = letter.toInt
    · rw [if_pos g, r4, r5]
      obtain ⟨c1, c2⟩ := sC_run (s := s) (a := s0.1 (kl + 4) i) (b := s0.1 (kl + 5) i) (by rw [r1]; exact h8) h3 h4 (by omega) (Nat.le_refl 32)
      rw [r6] at c1
      generalize f_eX1_run s kl (s0.1 (kl + 4) i) (s0.1 (kl + 5) i) = R at c1 c2 ⊢
      have c3 : ∀ k, k ≠ kl + 7 → R.2.1 k = s0.1 k := fun k hk => (c2 k hk).trans (hs k hk)
      rw [c1]
      by_cases g2 : ((q.2.2 (mh_e13 (s0.1 (kl + 6)))).getD 0).toInt = 0
      · rw [if_pos g2, if_neg (fun z => z.2 g2)]
        exact nx R.2 c3
      · rw [if_neg g2, if_pos ⟨g, g2⟩]
        have t1 : R.2.1 (kl + 1) = s0.1 (kl + 1) := c3 _ (by omega)
        have t3 : R.2.1 (kl + 3) = s0.1 (kl + 3) := c3 _ (by omega)
        have t6 : R.2.1 (kl + 6) = s0.1 (kl + 6) := c3 _ (by omega)
        have hb := h6.1
        have hd := h8.1
        rw [t3]
        obtain ⟨d1, -⟩ := sC_run (s := R.2) (a := s0.1 (kl + 3) i) (b := s0.1 (kl + 4) i) (by rw [t1]; exact h6) h2 h3 (by omega) (Nat.le_refl 32)
        rw [t6] at d1
        show mh_bdd letter (f_eX1_run R.2 kl (s0.1 (kl + 3) i) (s0.1 (kl + 4) i)).1 = _
        rw [d1]
    · rw [if_neg g, if_neg (fun z => g z.1)]
      exact nx s hs
def mh_n8 (D : mh_Dn) : Prop := ∀ e x, D (mh_u1 e 8 x) = D e
theorem lw_n : ∀ (Ls : List mh_Cl) (l : Int32), (∀ q ∈ Ls, q.1.toInt ≠ l.toInt) → ∀ e, mh_lw Ls l e = 0
  | [], _, _, _ => rfl
  | q :: r, l, h, e => by
    show (if q.1.toInt = l.toInt ∧ ((q.2.2 e).getD 0).toInt ≠ 0 then mh_bdd l ((q.2.1 e).getD 0) else mh_lw r l e) = 0
    rw [if_neg (fun z => h q (List.mem_cons_self ..) z.1)]
    exact lw_n r l (fun x hx => h x (List.mem_cons_of_mem _ hx)) e
theorem lw_8 : ∀ (Ls : List mh_Cl), (∀ q ∈ Ls, mh_n8 q.2.1 ∧ mh_n8 q.2.2) → ∀ (l : Int32) e x, mh_lw Ls l (mh_u1 e 8 x) = mh_lw Ls l e
  | [], _, _, _, _ => rfl
  | q :: r, h, l, e, x => by
    have h1 := h q (List.mem_cons_self ..)
    show (if q.1.toInt = l.toInt ∧ ((q.2.2 (mh_u1 e 8 x)).getD 0).toInt ≠ 0 then mh_bdd l ((q.2.1 (mh_u1 e 8 x)).getD 0) else mh_lw r l (mh_u1 e 8 x)) = if q.1.toInt = l.toInt ∧ ((q.2.2 e).getD 0).toInt ≠ 0 then mh_bdd l ((q.2.1 e).getD 0) else mh_lw r l e
    rw [h1.1 e x, h1.2 e x, lw_8 r (fun y hy => h y (List.mem_cons_of_mem _ hy)) l e x]
theorem LC_of {kl B : Nat} (hB : B ≤ 400) {s : mh_H} {Ls : List mh_Cl} (h : cl_C kl s B 0 Ls) (h7 : (s.1 kl 7).toInt = (Ls.length : Int)) (hn : Ls.length ≤ 14) (h9 : (s.1 kl 9).toInt = 0 → ∀ q ∈ Ls, q.1.toInt ≠ 99 ∧ q.1.toInt ≠ 119 ∧ q.1.toInt ≠ 115) (h10 : (s.1 kl 10).toInt = 0 → ∀ q ∈ Ls, mh_n8 q.2.1 ∧ mh_n8 q.2.2) : mh_LC kl s (mh_lw Ls) := by
  refine ⟨fun s' g1 g2 letter => ?_, fun g e => ⟨?_, ?_, ?_⟩, fun g => lw_8 Ls (h10 g)⟩
  · unfold f_eX1_worth
    exact wo_lp hB (s0 := s') letter Ls 0 15 s' 0 rfl (fun _ _ => rfl) (clC_cg g1 Ls h) (by rw [g2, h7]; omega) (by omega) (by omega)
  · exact lw_n Ls 99 (fun q hq => (h9 g q hq).1) e
  · exact lw_n Ls 119 (fun q hq => (h9 g q hq).2.1) e
  · exact lw_n Ls 115 (fun q hq => (h9 g q hq).2.2) e
theorem eR_cg {s s0 : mh_H} (h : ∀ k, k ≠ 77 → k ≠ 78 → s.1 k = s0.1 k) : mh_eR s = mh_eR s0 := by
  funext i
  unfold mh_eR
  rw [vo_cg h]
theorem te_lp {B : Nat} (hB : B ≤ 200) {s0 : mh_H} (letter : Int32) : ∀ (r : List mh_Cl) (i n : Nat) (s : mh_H) (X : Int32), X.toInt = (i : Int) → (∀ k, k ≠ 77 → k ≠ 78 → s.1 k = s0.1 k) → cl_R 64 s0 (s0.1 68) (s0.1 69) B i r → (s0.1 57 10).toInt = ((i + r.length : Nat) : Int) → i + r.length ≤ 14 → r.length < n → (l_eX10_tellsBy_2_1 letter (mh_mst letter) n s X).1 = mh_lw r letter (mh_eR s0) := by
  intro r
  induction r with
  | nil =>
    intro i n s X hX hs hc h7 h14 hn
    obtain ⟨n, rfl⟩ : ∃ m, n = m + 1 := ⟨n - 1, by omega⟩
    have e7 : s.1 57 10 = s0.1 57 10 := congrFun (hs 57 (by decide) (by decide)) 10
    rw [List.length_nil] at h7
    rw [l_eX10_tellsBy_2_1_s]
    unfold ls_eX10_tellsBy_2_1
    simp only [mh_lbE]
    rw [e7, if_neg (by omega)]
    rfl
  | cons q r ih =>
    intro i n s X hX hs hc h7 h14 hn
    rw [List.length_cons] at h7 h14 hn
    obtain ⟨n, rfl⟩ : ∃ m, n = m + 1 := ⟨n - 1, by omega⟩
    obtain ⟨⟨a, b, d, h1, h2, h3, h4, h5, h9, h6, h8⟩, hr⟩ := hc
    have k1 : (1 : Int32).toInt = ((1 : Nat) : Int) := rfl
    have c1' : (1 : Int32).toInt = 1 := rfl
    have z0 : (0 : Int32).toNatClampNeg = 0 := rfl
    have e7 : s.1 57 10 = s0.1 57 10 := congrFun (hs 57 (by decide) (by decide)) 10
    have r64 : s.1 64 = s0.1 64 := hs 64 (by decide) (by decide)
    have r66 : s.1 66 = s0.1 66 := hs 66 (by decide) (by decide)
    have r67 : s.1 67 = s0.1 67 := hs 67 (by decide) (by decide)
    have r68 : s.1 68 = s0.1 68 := hs 68 (by decide) (by decide)
    have r69 : s.1 69 = s0.1 69 := hs 69 (by decide) (by decide)
    have eR := eR_cg hs
    have nx : ∀ s2 : mh_H, (∀ k, k ≠ 77 → k ≠ 78 → s2.1 k = s0.1 k) → (l_eX10_tellsBy_2_1 letter (mh_mst letter) n s2 (X + 1)).1 = mh_lw r letter (mh_eR s0) := fun s2 hs2 =>
      ih (i + 1) n s2 (X + 1) (ix_add hX (by omega) k1 (by decide)) hs2 hr (by rw [h7]; omega) (by omega) (by omega)
    rw [l_eX10_tellsBy_2_1_s]
    unfold ls_eX10_tellsBy_2_1
    simp only [mh_lbE]
    rw [e7, if_pos (by omega), ix_n hX, r64, h1]
    show _ = if q.1.toInt = letter.toInt ∧ ((q.2.2 (mh_eR s0)).getD 0).toInt ≠ 0 then mh_bdd letter ((q.2.1 (mh_eR s0)).getD 0) else mh_lw r letter (mh_eR s0)
    by_cases g : q.1.toInt = letter.toInt
    · rw [if_pos g, r66, r67, z0]
      obtain ⟨c1, c2⟩ := sP_run (s := s) (a := s0.1 66 i) (b := s0.1 67 i) (by rw [r68, r69]; exact h8) h3 h4 (by omega)
      rw [eR] at c1
      generalize f_eX10_goesThrough s (s0.1 66 i) (s0.1 67 i) = R at c1 c2 ⊢
      have c3 : ∀ k, k ≠ 77 → k ≠ 78 → R.1 k = s0.1 k := fun k ha hb => (c2 k ha hb).trans (hs k ha hb)
      cases eC : q.2.2 (mh_eR s0) with
      | none =>
        rw [eC] at c1
        rw [if_neg c1, if_neg (fun z => z.2 rfl)]
        exact nx R c3
      | some x =>
        rw [eC] at c1
        have cx : R.1 77 0 = x := c1.1
        rw [if_pos c1.2, cx]
        rcases h9 _ x eC with rfl | rfl
        · rw [if_neg (by decide), if_neg (fun z => z.2 rfl)]
          exact nx R c3
        · rw [if_pos (show (1 : Int32).toInt = (1 : Int32).toInt from rfl), if_pos (show q.1.toInt = letter.toInt ∧ ((some (1 : Int32)).getD 0).toInt ≠ 0 from ⟨g, by show (1 : Int32).toInt ≠ 0; decide⟩)]
          have t65 : R.1 65 = s0.1 65 := c3 65 (by decide) (by decide)
          have t68 : R.1 68 = s0.1 68 := c3 68 (by decide) (by decide)
          have t69 : R.1 69 = s0.1 69 := c3 69 (by decide) (by decide)
          have hd := h8.1
          rw [t65]
          obtain ⟨d1, -⟩ := sP_run (s := R) (a := s0.1 65 i) (b := s0.1 66 i) (by rw [t68, t69]; exact h6) h2 h3 (by omega)
          rw [eR_cg c3] at d1
          generalize f_eX10_goesThrough R (s0.1 65 i) (s0.1 66 i) = Q at d1 ⊢
          cases eE : q.2.1 (mh_eR s0) with
          | none =>
            rw [eE] at d1
            rw [if_neg d1]
            show (0 : Int32) = mh_bdd letter 0
            unfold mh_bdd
            have := mst_b letter
            rw [if_neg (by decide), if_neg (by rw [kc_0]; omega)]
          | some y =>
            rw [eE] at d1
            have dx : Q.1 77 0 = y := d1.1
            rw [if_pos d1.2, dx]
            show _ = mh_bdd letter y
            unfold mh_bdd
            split
            · rfl
            · split <;> rfl
    · rw [if_neg g, if_neg (fun z => g z.1)]
      exact nx s hs
theorem LR_of {B : Nat} (hB : B ≤ 200) {s : mh_H} {Ls : List mh_Cl} (h : cl_R 64 s (s.1 68) (s.1 69) B 0 Ls) (h10 : (s.1 57 10).toInt = (Ls.length : Int)) (hn : Ls.length ≤ 14) : mh_LR s (mh_lw Ls) := by
  intro s' g1 g2 letter
  unfold f_eX10_tellsBy
  exact te_lp hB (s0 := s') letter Ls 0 15 s' 0 rfl (fun _ _ _ => rfl) (clR_cg g1 Ls h) (by rw [g2, h10]; omega) (by omega) (by omega)
end
section
/-- a law's text, read from the left: a fault (its number, its place), or what was read and the place behind it -/
abbrev mh_Qn : Type := Sum (Nat × Nat) (mh_Dn × Nat)
def rd_b (r : mh_Qn) (k : mh_Dn → Nat → mh_Qn) : mh_Qn := match r with
  | .inl f => .inl f
  | .inr x => k x.1 x.2
def rd_sg (T : Nat → Int32) (N p : Nat) : Int32 := if p < N then T p else -1
def rd_num (g : Nat → Int32) : Nat → Nat → Int32 → Nat → mh_Qn
  | 0, _, _, p => .inl (9, p)
  | n + 1, c, v, p => if 48 ≤ (g p).toInt ∧ (g p).toInt ≤ 57 then (if c < 5 then rd_num g n (c + 1) ((10 : Int32) * v + g p - 48) (p + 1) else .inl (2, p)) else .inr (fun _ => some v, p)
def rd_fac (g : Nat → Int32) (n : Nat) (rs : Nat → mh_Qn) (p : Nat) : mh_Qn :=
  if (g p).toInt = 91 then (if n = 0 then .inl (5, p) else rd_b (rs (p + 1)) (fun D q => if (g q).toInt = 93 then .inr (D, q + 1) else .inl (1, q)))
  else if 48 ≤ (g p).toInt ∧ (g p).toInt ≤ 57 then rd_num g 6 0 0 p
  else if (mh_ixf 0 (g p)).toInt < 0 then .inl (1, p)
  else .inr (fun e => some (e (mh_ixf 0 (g p)).toNatClampNeg), p + 1)
def rd_tml (g : Nat → Int32) (fac : Nat → mh_Qn) : Nat → mh_Dn → Nat → mh_Qn
  | 0, _, p => .inl (9, p)
  | n + 1, D, p => if (g p).toInt = 42 ∨ (g p).toInt = 47 ∨ (g p).toInt = 37 then rd_b (fac (p + 1)) (fun E q => rd_tml g fac n (rd_bo (g p) D E) q) else .inr (D, p)
def rd_trm (g : Nat → Int32) (fac : Nat → mh_Qn) (p : Nat) : mh_Qn := rd_b (fac p) (rd_tml g fac 222)
def rd_sml (g : Nat → Int32) (trm : Nat → mh_Qn) : Nat → mh_Dn → Nat → mh_Qn
  | 0, _, p => .inl (9, p)
  | n + 1, D, p => if (g p).toInt = 43 ∨ (g p).toInt = 45 then rd_b (trm (p + 1)) (fun E q => rd_sml g trm n (rd_bo (g p) D E) q) else .inr (D, p)
def rd_sum (g : Nat → Int32) (trm : Nat → mh_Qn) (p : Nat) : mh_Qn := rd_b (trm p) (rd_sml g trm 222)
def rd_S (g : Nat → Int32) : Nat → Nat → mh_Qn
  | 0 => fun p => .inl (9, p)
  | n + 1 => rd_sum g (rd_trm g (rd_fac g n (rd_S g n)))
def rd_cmp (g : Nat → Int32) (sum : Nat → mh_Qn) (p : Nat) : mh_Qn :=
  rd_b (sum p) (fun D q => if (g q).toInt = 60 ∨ (g q).toInt = 62 ∨ (g q).toInt = 61 then rd_b (sum (q + 1)) (fun E r => if (g r).toInt = 93 then .inl (1, r) else .inr (rd_bo (g q) D E, r)) else .inl (1, q))
def rd_pie (g : Nat → Int32) (n : Nat) (sum rch rpi : Nat → mh_Qn) (p : Nat) : mh_Qn :=
  if (g p).toInt = 33 then (if n = 0 then .inl (5, p) else rd_b (rpi (p + 1)) (fun D q => .inr (rd_ng D, q)))
  else if (g p).toInt = 40 then (if n = 0 then .inl (5, p) else rd_b (rch (p + 1)) (fun D q => if (g q).toInt = 41 then .inr (D, q + 1) else .inl (1, q)))
  else rd_cmp g sum p
def rd_ptl (g : Nat → Int32) (pie : Nat → mh_Qn) : Nat → mh_Dn → Nat → mh_Qn
  | 0, _, p => .inl (9, p)
  | n + 1, D, p => if (g p).toInt = 38 then rd_b (pie (p + 1)) (fun E q => rd_ptl g pie n (rd_an D E) q) else .inr (D, p)
def rd_prt (g : Nat → Int32) (pie : Nat → mh_Qn) (p : Nat) : mh_Qn := rd_b (pie p) (rd_ptl g pie 222)
def rd_chl (g : Nat → Int32) (prt : Nat → mh_Qn) : Nat → mh_Dn → Nat → mh_Qn
  | 0, _, p => .inl (9, p)
  | n + 1, D, p => if (g p).toInt = 124 then rd_b (prt (p + 1)) (fun E q => rd_chl g prt n (rd_or D E) q) else .inr (D, p)
def rd_chc (g : Nat → Int32) (prt : Nat → mh_Qn) (p : Nat) : mh_Qn := rd_b (prt p) (rd_chl g prt 222)
def rd_CP (g : Nat → Int32) : Nat → (Nat → mh_Qn) × (Nat → mh_Qn)
  | 0 => (fun p => .inl (9, p), fun p => .inl (9, p))
  | n + 1 => (rd_chc g (rd_prt g (rd_pie g n (rd_S g (n + 1)) (rd_CP g n).1 (rd_CP g n).2)), rd_pie g n (rd_S g (n + 1)) (rd_CP g n).1 (rd_CP g n).2)
theorem rb_l {f : Nat × Nat} {k : mh_Dn → Nat → mh_Qn} : rd_b (.inl f) k = .inl f := rfl
theorem rb_r {D : mh_Dn} {q : Nat} {k : mh_Dn → Nat → mh_Qn} : rd_b (.inr (D, q)) k = k D q := rfl
theorem rd_S_s (g : Nat → Int32) (n : Nat) : rd_S g (n + 1) = rd_sum g (rd_trm g (rd_fac g n (rd_S g n))) := rfl
theorem rd_CP_s (g : Nat → Int32) (n : Nat) : rd_CP g (n + 1) = (rd_chc g (rd_prt g (rd_pie g n (rd_S g (n + 1)) (rd_CP g n).1 (rd_CP g n).2)), rd_pie g n (rd_S g (n + 1)) (rd_CP g n).1 (rd_CP g n).2) := rfl
theorem rd_tml_s (g : Nat → Int32) (fac : Nat → mh_Qn) (n : Nat) (D : mh_Dn) (p : Nat) : rd_tml g fac (n + 1) D p = if (g p).toInt = 42 ∨ (g p).toInt = 47 ∨ (g p).toInt = 37 then rd_b (fac (p + 1)) (fun E q => rd_tml g fac n (rd_bo (g p) D E) q) else .inr (D, p) := rfl
theorem rd_sml_s (g : Nat → Int32) (trm : Nat → mh_Qn) (n : Nat) (D : mh_Dn) (p : Nat) : rd_sml g trm (n + 1) D p = if (g p).toInt = 43 ∨ (g p).toInt = 45 then rd_b (trm (p + 1)) (fun E q => rd_sml g trm n (rd_bo (g p) D E) q) else .inr (D, p) := rfl
theorem rd_ptl_s (g : Nat → Int32) (pie : Nat → mh_Qn) (n : Nat) (D : mh_Dn) (p : Nat) : rd_ptl g pie (n + 1) D p = if (g p).toInt = 38 then rd_b (pie (p + 1)) (fun E q => rd_ptl g pie n (rd_an D E) q) else .inr (D, p) := rfl
theorem rd_chl_s (g : Nat → Int32) (prt : Nat → mh_Qn) (n : Nat) (D : mh_Dn) (p : Nat) : rd_chl g prt (n + 1) D p = if (g p).toInt = 124 then rd_b (prt (p + 1)) (fun E q => rd_chl g prt n (rd_or D E) q) else .inr (D, p) := rfl
theorem rd_num_s (g : Nat → Int32) (n c : Nat) (v : Int32) (p : Nat) : rd_num g (n + 1) c v p = if 48 ≤ (g p).toInt ∧ (g p).toInt ≤ 57 then (if c < 5 then rd_num g n (c + 1) ((10 : Int32) * v + g p - 48) (p + 1) else .inl (2, p)) else .inr (fun _ => some v, p) := rfl
/-- the text: its signs -/
def mh_tx (g : Nat → Int32) (N : Nat) : Prop := (∀ p, N ≤ p → g p = -1) ∧ ∀ p, p < N → 0 ≤ (g p).toInt ∧ (g p).toInt ≤ 255
theorem sg_tx {T : Nat → Int32} {N : Nat} (h : ∀ p, p < N → 0 ≤ (T p).toInt ∧ (T p).toInt ≤ 255) : mh_tx (rd_sg T N) N :=
  ⟨fun p hp => if_neg (by omega), fun p hp => by rw [show rd_sg T N p = T p from if_pos hp]; exact h p hp⟩
theorem tx_lt {g : Nat → Int32} {N p : Nat} (h : mh_tx g N) (hp : 0 ≤ (g p).toInt) : p < N := by
  rcases Nat.lt_or_ge p N with q | q
  · exact q
  · rw [h.1 p q] at hp; exact absurd hp (by decide)
/-- what is read ok ends behind its begin, in the text -/
def mh_mo (N : Nat) (f : Nat → mh_Qn) : Prop := ∀ p D q, f p = .inr (D, q) → p < q ∧ q ≤ N
theorem b_inr {r : mh_Qn} {k : mh_Dn → Nat → mh_Qn} {x : mh_Dn × Nat} (h : rd_b r k = .inr x) : ∃ D q, r = .inr (D, q) ∧ k D q = .inr x := by
  cases r with
  | inl f => exact absurd h (by simp [rd_b])
  | inr y => exact ⟨y.1, y.2, rfl, h⟩
theorem num_mo {g : Nat → Int32} {N : Nat} (ht : mh_tx g N) : ∀ (n c : Nat) (v : Int32) (p : Nat) (D : mh_Dn) (q : Nat), rd_num g n c v p = .inr (D, q) → p ≤ q ∧ ((48 ≤ (g p).toInt ∧ (g p).toInt ≤ 57) → p < q ∧ q ≤ N)
  | 0, c, v, p, D, q, h => by exact absurd h (by simp [rd_num])
  | n + 1, c, v, p, D, q, h => by
    rw [rd_num_s] at h
    by_cases g1 : 48 ≤ (g p).toInt ∧ (g p).toInt ≤ 57
    · rw [if_pos g1] at h
      by_cases g2 : c < 5
      · rw [if_pos g2] at h
        obtain ⟨i1, i2⟩ := num_mo ht n (c + 1) _ (p + 1) D q h
        have hp := tx_lt ht (show 0 ≤ (g p).toInt by omega)
        refine ⟨by omega, fun _ => ⟨by omega, ?_⟩⟩
        by_cases g3 : 48 ≤ (g (p + 1)).toInt ∧ (g (p + 1)).toInt ≤ 57
        · exact (i2 g3).2
        · cases n with
          | zero => exact absurd h (by simp [rd_num])
          | succ n =>
            rw [rd_num_s, if_neg g3] at h
            have := (Prod.mk.inj (Sum.inr.inj h)).2
            omega
      · rw [if_neg g2] at h; exact absurd h (by simp)
    · rw [if_neg g1] at h
      have := (Prod.mk.inj (Sum.inr.inj h)).2
      exact ⟨by omega, fun q => absurd q g1⟩
theorem fac_mo {g : Nat → Int32} {N : Nat} (ht : mh_tx g N) {n : Nat} {rs : Nat → mh_Qn} (hs : n ≠ 0 → mh_mo N rs) : mh_mo N (rd_fac g n rs) := by
  intro p D q h
  unfold rd_fac at h
  by_cases g1 : (g p).toInt = 91
  · rw [if_pos g1] at h
    by_cases g2 : n = 0
    · rw [if_pos g2] at h; exact absurd h (by simp)
    · rw [if_neg g2] at h
      obtain ⟨D', q', e1, e2⟩ := b_inr h
      have := hs g2 _ _ _ e1
      by_cases g3 : (g q').toInt = 93
      · rw [if_pos g3] at e2
        have e3 := (Prod.mk.inj (Sum.inr.inj e2)).2
        have := tx_lt ht (show 0 ≤ (g q').toInt by omega)
        omega
      · rw [if_neg g3] at e2; exact absurd e2 (by simp)
  · rw [if_neg g1] at h
    by_cases g2 : 48 ≤ (g p).toInt ∧ (g p).toInt ≤ 57
    · rw [if_pos g2] at h
      exact (num_mo ht 6 0 0 p D q h).2 g2
    · rw [if_neg g2] at h
      by_cases g3 : (mh_ixf 0 (g p)).toInt < 0
      · rw [if_pos g3] at h; exact absurd h (by simp)
      · rw [if_neg g3] at h
        have e3 := (Prod.mk.inj (Sum.inr.inj h)).2
        have hp : p < N := by
          rcases Nat.lt_or_ge p N with q | q
          · exact q
          · rw [ht.1 p q] at g3; exact absurd (show (mh_ixf 0 (-1)).toInt < 0 by decide) g3
        omega
theorem tml_mo {g : Nat → Int32} {N : Nat} {fac : Nat → mh_Qn} (hf : mh_mo N fac) : ∀ (n : Nat) (D : mh_Dn) (p : Nat) (E : mh_Dn) (q : Nat), p ≤ N → rd_tml g fac n D p = .inr (E, q) → p ≤ q ∧ q ≤ N
  | 0, D, p, E, q, _, h => by exact absurd h (by simp [rd_tml])
  | n + 1, D, p, E, q, hp, h => by
    rw [rd_tml_s] at h
    split at h
    · obtain ⟨D', q', e1, e2⟩ := b_inr h
      have m1 := hf _ _ _ e1
      have := tml_mo hf n _ q' E q m1.2 e2
      omega
    · have := (Prod.mk.inj (Sum.inr.inj h)).2
      omega
theorem trm_mo {g : Nat → Int32} {N : Nat} {fac : Nat → mh_Qn} (hf : mh_mo N fac) : mh_mo N (rd_trm g fac) := by
  intro p D q h
  obtain ⟨D', q', e1, e2⟩ := b_inr h
  have m1 := hf _ _ _ e1
  have := tml_mo hf _ _ q' D q m1.2 e2
  omega
theorem sml_mo {g : Nat → Int32} {N : Nat} {trm : Nat → mh_Qn} (hf : mh_mo N trm) : ∀ (n : Nat) (D : mh_Dn) (p : Nat) (E : mh_Dn) (q : Nat), p ≤ N → rd_sml g trm n D p = .inr (E, q) → p ≤ q ∧ q ≤ N
  | 0, D, p, E, q, _, h => by exact absurd h (by simp [rd_sml])
  | n + 1, D, p, E, q, hp, h => by
    rw [rd_sml_s] at h
    split at h
    · obtain ⟨D', q', e1, e2⟩ := b_inr h
      have m1 := hf _ _ _ e1
      have := sml_mo hf n _ q' E q m1.2 e2
      omega
    · have := (Prod.mk.inj (Sum.inr.inj h)).2
      omega
theorem sum_mo {g : Nat → Int32} {N : Nat} {trm : Nat → mh_Qn} (hf : mh_mo N trm) : mh_mo N (rd_sum g trm) := by
  intro p D q h
  obtain ⟨D', q', e1, e2⟩ := b_inr h
  have m1 := hf _ _ _ e1
  have := sml_mo hf _ _ q' D q m1.2 e2
  omega
theorem S_mo {g : Nat → Int32} {N : Nat} (ht : mh_tx g N) : ∀ n, mh_mo N (rd_S g n)
  | 0 => fun p D q h => by exact absurd h (by simp [rd_S])
  | n + 1 => by
    rw [rd_S_s]
    exact sum_mo (trm_mo (fac_mo ht (fun _ => S_mo ht n)))
theorem cmp_mo {g : Nat → Int32} {N : Nat} {sum : Nat → mh_Qn} (hf : mh_mo N sum) : mh_mo N (rd_cmp g sum) := by
  intro p D q h
  obtain ⟨D', q', e1, e2⟩ := b_inr h
  have m1 := hf _ _ _ e1
  split at e2
  · obtain ⟨D2, q2, e3, e4⟩ := b_inr e2
    have m2 := hf _ _ _ e3
    split at e4
    · exact absurd e4 (by simp)
    · have := (Prod.mk.inj (Sum.inr.inj e4)).2
      omega
  · exact absurd e2 (by simp)
theorem pie_mo {g : Nat → Int32} {N : Nat} (ht : mh_tx g N) {n : Nat} {sum rch rpi : Nat → mh_Qn} (hf : mh_mo N sum) (hc : mh_mo N rch) (hp : mh_mo N rpi) : mh_mo N (rd_pie g n sum rch rpi) := by
  intro p D q h
  unfold rd_pie at h
  by_cases g1 : (g p).toInt = 33
  · rw [if_pos g1] at h
    by_cases g2 : n = 0
    · rw [if_pos g2] at h; exact absurd h (by simp)
    · rw [if_neg g2] at h
      obtain ⟨D', q', e1, e2⟩ := b_inr h
      have m1 := hp _ _ _ e1
      have := (Prod.mk.inj (Sum.inr.inj e2)).2
      omega
  · rw [if_neg g1] at h
    by_cases g3 : (g p).toInt = 40
    · rw [if_pos g3] at h
      by_cases g2 : n = 0
      · rw [if_pos g2] at h; exact absurd h (by simp)
      · rw [if_neg g2] at h
        obtain ⟨D', q', e1, e2⟩ := b_inr h
        have m1 := hc _ _ _ e1
        by_cases g4 : (g q').toInt = 41
        · rw [if_pos g4] at e2
          have e3 := (Prod.mk.inj (Sum.inr.inj e2)).2
          have := tx_lt ht (show 0 ≤ (g q').toInt by omega)
          omega
        · rw [if_neg g4] at e2; exact absurd e2 (by simp)
    · rw [if_neg g3] at h
      exact cmp_mo hf p D q h
theorem ptl_mo {g : Nat → Int32} {N : Nat} {fac : Nat → mh_Qn} (hf : mh_mo N fac) : ∀ (n : Nat) (D : mh_Dn) (p : Nat) (E : mh_Dn) (q : Nat), p ≤ N → rd_ptl g fac n D p = .inr (E, q) → p ≤ q ∧ q ≤ N
  | 0, D, p, E, q, _, h => by exact absurd h (by simp [rd_ptl])
  | n + 1, D, p, E, q, hp, h => by
    rw [rd_ptl_s] at h
    split at h
    · obtain ⟨D', q', e1, e2⟩ := b_inr h
      have m1 := hf _ _ _ e1
      have := ptl_mo hf n _ q' E q m1.2 e2
      omega
    · have := (Prod.mk.inj (Sum.inr.inj h)).2
      omega
theorem prt_mo {g : Nat → Int32} {N : Nat} {fac : Nat → mh_Qn} (hf : mh_mo N fac) : mh_mo N (rd_prt g fac) := by
  intro p D q h
  obtain ⟨D', q', e1, e2⟩ := b_inr h
  have m1 := hf _ _ _ e1
  have := ptl_mo hf _ _ q' D q m1.2 e2
  omega
theorem chl_mo {g : Nat → Int32} {N : Nat} {fac : Nat → mh_Qn} (hf : mh_mo N fac) : ∀ (n : Nat) (D : mh_Dn) (p : Nat) (E : mh_Dn) (q : Nat), p ≤ N → rd_chl g fac n D p = .inr (E, q) → p ≤ q ∧ q ≤ N
  | 0, D, p, E, q, _, h => by exact absurd h (by simp [rd_chl])
  | n + 1, D, p, E, q, hp, h => by
    rw [rd_chl_s] at h
    split at h
    · obtain ⟨D', q', e1, e2⟩ := b_inr h
      have m1 := hf _ _ _ e1
      have := chl_mo hf n _ q' E q m1.2 e2
      omega
    · have := (Prod.mk.inj (Sum.inr.inj h)).2
      omega
theorem chc_mo {g : Nat → Int32} {N : Nat} {fac : Nat → mh_Qn} (hf : mh_mo N fac) : mh_mo N (rd_chc g fac) := by
  intro p D q h
  obtain ⟨D', q', e1, e2⟩ := b_inr h
  have m1 := hf _ _ _ e1
  have := chl_mo hf _ _ q' D q m1.2 e2
  omega
theorem CP_mo {g : Nat → Int32} {N : Nat} (ht : mh_tx g N) : ∀ n, mh_mo N (rd_CP g n).1 ∧ mh_mo N (rd_CP g n).2
  | 0 => ⟨fun p D q h => by exact absurd h (by simp [rd_CP]), fun p D q h => by exact absurd h (by simp [rd_CP])⟩
  | n + 1 => by
    rw [rd_CP_s]
    have ih := CP_mo ht n
    have hp := pie_mo ht (n := n) (S_mo ht (n + 1)) ih.1 ih.2
    exact ⟨chc_mo (prt_mo hp), hp⟩
/-- what a condition says is 0 or 1 -/
def mh_mb (f : Nat → mh_Qn) : Prop := ∀ p D q, f p = .inr (D, q) → mh_b01 D
theorem cm_b {op : Int32} (h : op.toInt = 60 ∨ op.toInt = 62 ∨ op.toInt = 61) (A B : mh_Dn) : mh_b01 (rd_bo op A B) := by
  intro e x hx
  cases a : A e with
  | none => rw [bo_n1 a] at hx; exact absurd hx (by simp)
  | some y =>
    cases b : B e with
    | none => rw [bo_n2 a b] at hx; exact absurd hx (by simp)
    | some z =>
      rw [bo_s a b, if_neg (by omega)] at hx
      rw [← Option.some.inj hx]
      unfold mh_wrk
      rw [if_neg (by omega), if_neg (by omega), if_neg (by omega), if_neg (by omega), if_neg (by omega)]
      split
      · split <;> simp
      · split
        · split <;> simp
        · split <;> simp
theorem ng_b (A : mh_Dn) : mh_b01 (rd_ng A) := by
  intro e x hx
  cases a : A e with
  | none => rw [ng_n a] at hx; exact absurd hx (by simp)
  | some y =>
    rw [ng_s a] at hx
    rw [← Option.some.inj hx]
    split <;> simp
theorem an_b {A B : mh_Dn} (hA : mh_b01 A) (hB : mh_b01 B) : mh_b01 (rd_an A B) := by
  intro e x hx
  cases a : A e with
  | none => rw [an_n a] at hx; exact absurd hx (by simp)
  | some y =>
    rw [an_s a] at hx
    split at hx
    · rw [← Option.some.inj hx]; exact hA e y a
    · exact hB e x hx
theorem or_b {A B : mh_Dn} (hA : mh_b01 A) (hB : mh_b01 B) : mh_b01 (rd_or A B) := by
  intro e x hx
  cases a : A e with
  | none => rw [or_n a] at hx; exact absurd hx (by simp)
  | some y =>
    rw [or_s a] at hx
    split at hx
    · exact hB e x hx
    · rw [← Option.some.inj hx]; exact hA e y a
theorem cmp_mb {g : Nat → Int32} {sum : Nat → mh_Qn} : mh_mb (rd_cmp g sum) := by
  intro p D q h
  obtain ⟨D', q', e1, e2⟩ := b_inr h
  split at e2
  · rename_i ho
    obtain ⟨D2, q2, e3, e4⟩ := b_inr e2
    split at e4
    · exact absurd e4 (by simp)
    · rw [← (Prod.mk.inj (Sum.inr.inj e4)).1]
      exact cm_b ho _ _
  · exact absurd e2 (by simp)
theorem pie_mb {g : Nat → Int32} {n : Nat} {sum rch rpi : Nat → mh_Qn} (hc : mh_mb rch) : mh_mb (rd_pie g n sum rch rpi) := by
  intro p D q h
  unfold rd_pie at h
  by_cases g1 : (g p).toInt = 33
  · rw [if_pos g1] at h
    by_cases g2 : n = 0
    · rw [if_pos g2] at h; exact absurd h (by simp)
    · rw [if_neg g2] at h
      obtain ⟨D', q', e1, e2⟩ := b_inr h
      rw [← (Prod.mk.inj (Sum.inr.inj e2)).1]
      exact ng_b _
  · rw [if_neg g1] at h
    by_cases g3 : (g p).toInt = 40
    · rw [if_pos g3] at h
      by_cases g2 : n = 0
      · rw [if_pos g2] at h; exact absurd h (by simp)
      · rw [if_neg g2] at h
        obtain ⟨D', q', e1, e2⟩ := b_inr h
        by_cases g4 : (g q').toInt = 41
        · rw [if_pos g4] at e2
          rw [← (Prod.mk.inj (Sum.inr.inj e2)).1]
          exact hc _ _ _ e1
        · rw [if_neg g4] at e2; exact absurd e2 (by simp)
    · rw [if_neg g3] at h
      exact cmp_mb p D q h
theorem ptl_mb {g : Nat → Int32} {fac : Nat → mh_Qn} (hf : mh_mb fac) : ∀ (n : Nat) (D : mh_Dn) (p : Nat) (E : mh_Dn) (q : Nat), mh_b01 D → rd_ptl g fac n D p = .inr (E, q) → mh_b01 E
  | 0, D, p, E, q, _, h => by exact absurd h (by simp [rd_ptl])
  | n + 1, D, p, E, q, hD, h => by
    rw [rd_ptl_s] at h
    split at h
    · obtain ⟨D', q', e1, e2⟩ := b_inr h
      exact ptl_mb hf n _ q' E q (an_b hD (hf _ _ _ e1)) e2
    · rw [← (Prod.mk.inj (Sum.inr.inj h)).1]; exact hD
theorem prt_mb {g : Nat → Int32} {fac : Nat → mh_Qn} (hf : mh_mb fac) : mh_mb (rd_prt g fac) := by
  intro p D q h
  obtain ⟨D', q', e1, e2⟩ := b_inr h
  exact ptl_mb hf _ _ q' D q (hf _ _ _ e1) e2
theorem chl_mb {g : Nat → Int32} {fac : Nat → mh_Qn} (hf : mh_mb fac) : ∀ (n : Nat) (D : mh_Dn) (p : Nat) (E : mh_Dn) (q : Nat), mh_b01 D → rd_chl g fac n D p = .inr (E, q) → mh_b01 E
  | 0, D, p, E, q, _, h => by exact absurd h (by simp [rd_chl])
  | n + 1, D, p, E, q, hD, h => by
    rw [rd_chl_s] at h
    split at h
    · obtain ⟨D', q', e1, e2⟩ := b_inr h
      exact chl_mb hf n _ q' E q (or_b hD (hf _ _ _ e1)) e2
    · rw [← (Prod.mk.inj (Sum.inr.inj h)).1]; exact hD
theorem chc_mb {g : Nat → Int32} {fac : Nat → mh_Qn} (hf : mh_mb fac) : mh_mb (rd_chc g fac) := by
  intro p D q h
  obtain ⟨D', q', e1, e2⟩ := b_inr h
  exact chl_mb hf _ _ q' D q (hf _ _ _ e1) e2
theorem CP_mb {g : Nat → Int32} : ∀ n, mh_mb (rd_CP g n).1 ∧ mh_mb (rd_CP g n).2
  | 0 => ⟨fun p D q h => by exact absurd h (by simp [rd_CP]), fun p D q h => by exact absurd h (by simp [rd_CP])⟩
  | n + 1 => by
    rw [rd_CP_s]
    have hp := pie_mb (g := g) (n := n) (sum := rd_S g (n + 1)) (rch := (rd_CP g n).1) (rpi := (rd_CP g n).2) (CP_mb (g := g) n).1
    exact ⟨chc_mb (prt_mb hp), hp⟩
end

def mh_stN (L : mh_Lw) (v : mh_V) : Nat → mh_V
  | 0 => v
  | m + 1 => mh_stp L (mh_stN L v m)
theorem stN_0 {L : mh_Lw} {v : mh_V} : mh_stN L v 0 = v := by rw [mh_stN]
theorem stN_s {L : mh_Lw} {v : mh_V} {m : Nat} : mh_stN L v (m + 1) = mh_stp L (mh_stN L v m) := by rw [mh_stN]
def mh_trV (v : mh_V) (c : Nat) : mh_V := (fun r i => if r = 1 ∧ i = c then 2 else v.1 r i, v.2)
theorem trV_g {v : mh_V} (hg : mh_rg v) (c : Nat) : mh_rg (mh_trV v c) := by
  intro i hi
  obtain ⟨a1, a2, a3, a4⟩ := hg i hi
  refine ⟨a1, ?_, a3, a4⟩
  show mh_r (if (1 : Nat) = 1 ∧ i = c then 2 else v.1 1 i) 0 4
  split
  · exact ⟨by decide, by decide⟩
  · exact a2
theorem stN_g {L : mh_Lw} {v : mh_V} (hg : mh_rg v) : ∀ m, mh_rg (mh_stN L v m)
  | 0 => by rw [stN_0]; exact hg
  | m + 1 => by rw [stN_s]; exact stp_g (stN_g hg m)
theorem stN_n {L : mh_Lw} {v : mh_V} (h0 : 0 ≤ v.2.1.toInt) : ∀ m : Nat, v.2.1.toInt + (m : Int) ≤ 2000000000 → (mh_stN L v m).2.1.toInt = v.2.1.toInt + (m : Int)
  | 0, _ => by rw [stN_0]; omega
  | m + 1, h => by
    have ih := stN_n (L := L) h0 m (by omega)
    rw [stN_s, stp_n, nn_inc (m := 2000000000) (by omega) (by omega) (by decide), ih]
    omega
def mh_cc (v : mh_V) (o : Option Nat) : mh_V := match o with
  | none => v
  | some c => mh_trV v c
theorem cc_g {v : mh_V} (hg : mh_rg v) : ∀ o, mh_rg (mh_cc v o)
  | none => hg
  | some c => trV_g hg c
theorem cc_n {v : mh_V} : ∀ o, (mh_cc v o).2 = v.2
  | none => rfl
  | some c => rfl
/-- an int that tells a cell or none -/
def mh_oc1 (p : Int32) (o : Option Nat) : Prop := match o with
  | none => p.toInt = -1
  | some c => p.toInt = (c : Int) ∧ c < 144
theorem cN_keep1 {kl : Nat} (hl : mh_isL kl) {L : mh_Lw} {v : mh_V} {s s' : mh_H} (h : mh_cN 1 kl L v s) (hF : mh_F S_eX9_passTrial s s') (hp : mh_p3 s') : mh_cN 1 kl L v s' := by
  refine cN_F h hF hp ?_ ?_ ?_
  · decide
  · rcases hl with rfl | rfl <;> decide
  · decide
theorem pt_c {kl : Nat} (hl : mh_isL kl) {L : mh_Lw} {v : mh_V} {s : mh_H} (h : mh_cN 1 kl L v s) (hg : mh_rg v) {p1 p2 : Int32} {n : Nat} (hp1 : p1.toInt = (n : Int)) (hn : n ≤ 60) {o : Option Nat} (hp2 : mh_oc1 p2 o) : mh_cN 13 kl L (mh_stN L (mh_cc v o) n) (f_eX9_passTrial s p1 p2) ∧ mh_cN 1 kl L v (f_eX9_passTrial s p1 p2) := by
  have hF := fr_eX9_passTrial s p1 p2 h.2.2.2
  refine ⟨?_, cN_keep1 hl h hF.1 hF.2⟩
  have hc := cN_copy hl h
  have loop : ∀ s1, mh_cN 13 kl L (mh_cc v o) s1 → mh_cN 13 kl L (mh_stN L (mh_cc v o) n) (j_eX9_passTrial_31_1 s1 p1) := by
    intro s1 h1
    unfold j_eX9_passTrial_31_1
    refine mh_for (l_eX9_passTrial_33_2 p1) n (fun s m => mh_cN 13 kl L (mh_stN L (mh_cc v o) m) s) (fun s => mh_cN 13 kl L (mh_stN L (mh_cc v o) n) s) (by omega) ?_ ?_ 61 s1 0 0 rfl (by omega) (by rw [stN_0]; exact h1) (by omega)
    · intro k s x m hx hm hi
      rw [l_eX9_passTrial_33_2_s]
      unfold ls_eX9_passTrial_33_2
      rw [if_pos (by omega)]
      simp only [mh_lbE]
      rw [hi.2.1]
      refine ⟨f_eX0_pass s 13 kl, ?_, rfl⟩
      rw [stN_s]
      exact cN_pass V13 hl hi (stN_g (cc_g hg o) m)
    · intro k s x hx hi
      rw [l_eX9_passTrial_33_2_s]
      unfold ls_eX9_passTrial_33_2
      rw [if_neg (by omega)]
      exact hi
  have k143 : (143 : Int32).toInt = 143 := rfl
  unfold f_eX9_passTrial
  simp only [mh_lbE, fq_within, k143]
  cases o with
  | none =>
    have hp : p2.toInt = -1 := hp2
    rw [if_pos (by omega)]
    exact loop _ hc
  | some c =>
    obtain ⟨hp, hc1⟩ := hp2
    rw [if_neg (by omega), ix_n hp]
    refine loop _ ⟨?_, hc.2.1, ?_, hc.2.2.2⟩
    · show mh_vc 13 _ = mh_trV v c
      rw [← hc.1]
      generalize f_eX8_copyFrom s 13 1 = q
      refine vc_ext (fun r i hz => ?_) (fun r i hi hr => ?_) ?_ ?_
      · show (if r = 1 ∧ i = c then 2 else (mh_vc 13 q).1 r i) = 0
        rw [if_neg (fun z => hz ⟨by rw [z.1, z.2]; exact vn_r hc1 (by decide), by omega⟩)]
        exact vc_0 hz
      · show _ = if r = 1 ∧ i = c then 2 else (mh_vc 13 q).1 r i
        rw [pI_v, vc_at hi hr]
        by_cases z : r = 1 ∧ i = c
        · rw [if_pos z, if_pos ⟨by omega, z.2⟩]
        · rw [if_neg z, if_neg (fun y => z ⟨by omega, y.2⟩)]
      · rw [pI_o (by decide)]; rfl
      · rw [pI_o (by decide)]; rfl
    · refine LC_F hc.2.2.1 (S := [(15, 9999)]) (mh_F_pI mh_F_rf ⟨(15, 9999), by simp, rfl, Or.inl rfl⟩) ?_
      have := L40 hl
      simp; omega
theorem rN_pb {L : mh_Lw} {v w : mh_V} {s : mh_H} (h : mh_rN L w s) (hs : mh_sd 0 s = v) (h0 : 0 ≤ v.2.1.toInt) : mh_rN L v (f_eX10_putsBack s 0) := by
  have hF := fr_eX10_putsBack s 0 h.2.2.1
  refine ⟨(pb_r (k := 0) rfl (by decide)).trans hs, LR_mono h.2.1 (fun i a b => F_row1 hF.1 (fun e he => ?_)) (F_at1 hF.1 (fun e he => ?_)), hF.2, h0⟩
  · simp only [S_eX10_putsBack, List.mem_cons, List.not_mem_nil, or_false] at he
    rcases he with rfl | rfl | rfl | rfl | rfl | rfl <;> simp <;> omega
  · simp only [S_eX10_putsBack, List.mem_cons, List.not_mem_nil, or_false] at he
    rcases he with rfl | rfl | rfl | rfl | rfl | rfl <;> simp
theorem sd_pb (k : Nat) {s : mh_H} (hp : mh_p3 s) (p : Int32) : mh_sd k (f_eX10_putsBack s p) = mh_sd k s := by
  refine sd_F (fr_eX10_putsBack s p hp).1 (fun e he => ?_)
  simp only [S_eX10_putsBack, List.mem_cons, List.not_mem_nil, or_false] at he
  rcases he with rfl | rfl | rfl | rfl | rfl | rfl <;> simp
theorem sd_st (k : Nat) {s : mh_H} (hp : mh_p3 s) : mh_sd k (f_eX10_stepOne s) = mh_sd k s := by
  refine sd_F (fr_eX10_stepOne s hp).1 (fun e he => ?_)
  simp only [S_eX10_stepOne, List.mem_cons, List.not_mem_nil, or_false] at he
  rcases he with rfl | rfl | rfl | rfl | rfl | rfl | rfl | rfl | rfl | rfl | rfl | rfl | rfl | rfl | rfl <;> simp
theorem p3_pI {s : mh_H} {k j : Nat} {x : Int32} (h : mh_p3 s) : mh_p3 (mh_pI s k j x) := h
theorem vr_x (s : mh_H) : Int64.toInt32 (s.2.1 57 4) = (mh_vr s).2.2 := by unfold mh_vr; rfl
theorem trV_2 (v : mh_V) (c : Nat) : (mh_trV v c).2 = v.2 := rfl
theorem ln_r {L : mh_Lw} {v : mh_V} {s : mh_H} (h : mh_rN L v s) (hg : mh_rg v) (hb : v.2.1.toInt ≤ 1000000000) {p1 p2 : Int32} {n : Nat} (hp2 : p2.toInt = (n : Int)) (hn : n ≤ 60) {o : Option Nat} (hp1 : mh_oc1 p1 o) : mh_rN L (mh_stN L (mh_cc v o) n) (f_eX10_laysNight s p1 p2) ∧ mh_sd 0 (f_eX10_laysNight s p1 p2) = v ∧ mh_sd 1 (f_eX10_laysNight s p1 p2) = mh_sd 1 s := by
  have hsa := rN_sa h 0
  obtain ⟨s0, s1⟩ := sa_r (s := s) (p := 0) (k := 0) rfl (by decide)
  have s1 := s1 1 (by decide) (by decide)
  rw [h.1] at s0
  have loop : ∀ q, mh_rN L (mh_cc v o) q → mh_sd 0 q = v → mh_sd 1 q = mh_sd 1 s → mh_rN L (mh_stN L (mh_cc v o) n) (j_eX10_laysNight_17_1 q p2) ∧ mh_sd 0 (j_eX10_laysNight_17_1 q p2) = v ∧ mh_sd 1 (j_eX10_laysNight_17_1 q p2) = mh_sd 1 s := by
    intro q h1 h2 h3
    unfold j_eX10_laysNight_17_1
    refine mh_for (l_eX10_laysNight_19_2 p2) n (fun q m => mh_rN L (mh_stN L (mh_cc v o) m) q ∧ mh_sd 0 q = v ∧ mh_sd 1 q = mh_sd 1 s) (fun q => mh_rN L (mh_stN L (mh_cc v o) n) q ∧ mh_sd 0 q = v ∧ mh_sd 1 q = mh_sd 1 s) (by omega) ?_ ?_ 61 q 0 0 rfl (by omega) (by rw [stN_0]; exact ⟨h1, h2, h3⟩) (by omega)
    · intro k q x m hx hm ⟨i1, i2, i3⟩
      rw [l_eX10_laysNight_19_2_s]
      unfold ls_eX10_laysNight_19_2
      rw [if_pos (by omega)]
      simp only [mh_lbE]
      have hv0 : 0 ≤ (mh_cc v o).2.1.toInt := by rw [cc_n]; exact h.2.2.2
      have hvb : (mh_cc v o).2.1.toInt ≤ 1000000000 := by rw [cc_n]; exact hb
      refine ⟨f_eX10_stepOne q, ?_, rfl⟩
      rw [stN_s]
      refine ⟨rN_step i1 (stN_g (cc_g hg o) m) (by rw [stN_n hv0 m (by omega)]; omega), ?_, ?_⟩
      · rw [sd_st 0 i1.2.2.1]; exact i2
      · rw [sd_st 1 i1.2.2.1]; exact i3
    · intro k q x hx hi
      rw [l_eX10_laysNight_19_2_s]
      unfold ls_eX10_laysNight_19_2
      rw [if_neg (by omega)]
      exact hi
  have km : (-1 : Int32).toInt = -1 := rfl
  unfold f_eX10_laysNight
  simp only [mh_lbE, km]
  generalize f_eX10_setsAside s 0 = q at hsa s0 s1
  cases o with
  | none =>
    have hp : p1.toInt = -1 := hp1
    rw [if_pos hp]
    exact loop q hsa s0 s1
  | some c =>
    obtain ⟨hp, hc1⟩ := hp1
    rw [if_neg (by omega), ix_n hp]
    have hF : mh_F [(60, 9999)] q (mh_pI q 60 c 2) := mh_F_pI mh_F_rf ⟨(60, 9999), by simp, rfl, Or.inl rfl⟩
    refine loop (mh_pI q 60 c 2) ⟨?_, ?_, p3_pI hsa.2.2.1, by rw [cc_n]; exact hsa.2.2.2⟩ ?_ ?_
    · show mh_vr _ = mh_trV v c
      rw [← hsa.1]
      refine vr_ext (fun r i hz => ?_) (fun r i hi hr => ?_) ?_ (by rw [trV_2, ← vr_x]; rfl)
      · show (if r = 1 ∧ i = c then 2 else (mh_vr q).1 r i) = 0
        rw [if_neg (fun z => hz ⟨by rw [z.1, z.2]; exact vn_r hc1 (by decide), by omega⟩)]
        exact vr_0 hz
      · show _ = if r = 1 ∧ i = c then 2 else (mh_vr q).1 r i
        rw [pI_v, vr_at hi hr]
        by_cases z : r = 1 ∧ i = c
        · rw [if_pos z, if_pos ⟨by omega, z.2⟩]
        · rw [if_neg z, if_neg (fun y => z ⟨by omega, y.2⟩)]
      · rw [pI_o (by decide)]; rfl
    · exact LR_mono hsa.2.1 (fun i a b => F_row1 hF (by simp; omega)) (F_at1 hF (by simp))
    · rw [sd_F hF (by simp)]; exact s0
    · rw [sd_F hF (by simp)]; exact s1
theorem tw_lp {p4 : Int32} {sc sr : mh_H} (h1 : ∀ c, c < 144 → sc.1 16 c = sr.1 61 c) (h2 : ∀ c, c < 144 → sc.1 39 c = sr.1 89 c) : ∀ (n : Nat) (x a g l m : Int32), 0 ≤ x.toInt → x.toInt ≤ 144 → l_eX9_tellWorks_14_1 sc p4 n x a g l m = (l_eX10_works_112_2 sr p4 n x a g l m).1 := by
  intro n
  induction n with
  | zero => intros; rfl
  | succ n ih =>
    intro x a g l m hx0 hx1
    have k1 := kc_1
    have k2 : (2 : Int32).toInt = 2 := rfl
    have k144 : (144 : Int32).toInt = 144 := rfl
    rw [l_eX9_tellWorks_14_1_s, l_eX10_works_112_2_s]
    unfold ls_eX9_tellWorks_14_1 ls_eX10_works_112_2 j_eX9_tellWorks_50_2 j_eX9_tellWorks_58_3 j_eX9_tellWorks_73_4 j_eX10_works_149_3 j_eX10_works_164_4 j_eX10_works_185_5
    by_cases hx : x.toInt < (144 : Int32).toInt
    · rw [if_pos hx, if_pos hx]
      have hxn := nn_inc hx0 (m := 144) (by omega) (by decide)
      simp only [mh_lbE, Int32.add_zero]
      rw [h1 x.toNatClampNeg (by show x.toInt.toNat < 144; omega), h2 x.toNatClampNeg (by show x.toInt.toNat < 144; omega)]
      generalize sr.1 61 x.toNatClampNeg - sr.1 89 x.toNatClampNeg = d
      have goal : ∀ a g l m, l_eX9_tellWorks_14_1 sc p4 n (x + 1) a g l m = (l_eX10_works_112_2 sr p4 n (x + 1) a g l m).1 := fun a g l m => ih (x + 1) a g l m (by omega) (by omega)
      by_cases c1 : 0 < d.toInt <;> by_cases c2 : d.toInt < 0 <;> by_cases c3 : a.toInt < d.toInt <;> simp only [c1, c2, c3, if_true, if_false] <;> exact goal _ _ _ _
    · rw [if_neg hx, if_neg hx]
      simp only [mh_lbE, k1, k2]
      by_cases a0 : p4.toInt = 0
      · rw [if_pos a0, if_pos a0]
      · rw [if_neg a0, if_neg a0]
        by_cases a1 : p4.toInt = 1
        · rw [if_pos a1, if_pos a1]
        · rw [if_neg a1, if_neg a1]
          by_cases a2 : p4.toInt = 2
          · rw [if_pos a2, if_pos a2]
          · rw [if_neg a2, if_neg a2]

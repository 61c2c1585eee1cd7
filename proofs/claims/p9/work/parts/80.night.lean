theorem fq_ni9 (s : mh_H) (p : Int32) : ((f_eX9_isNight s p).toInt = 0) ↔ ¬ (1 ≤ p.toInt ∧ p.toInt ≤ 60) := by
  unfold f_eX9_isNight
  have h0 := kc_0; have h1 := kc_1; have h6 : (60 : Int32).toInt = 60 := rfl
  split
  · omega
  · split <;> omega
theorem fq_ni10 (s : mh_H) (p : Int32) : ((f_eX10_isNight s p).toInt = 0) ↔ ¬ (1 ≤ p.toInt ∧ p.toInt ≤ 60) := by
  unfold f_eX10_isNight
  have a1 : (1 : Int64).toInt = 1 := rfl
  have a6 : (60 : Int64).toInt = 60 := rfl
  simp only [mh_lbE, fq_lies, Int32.toInt_toInt64, a1, a6]
theorem pA_v {s : mh_H} {a b i : Nat} {f : Nat → Int32} : (mh_pA s a f).1 b i = if b = a then f i else s.1 b i := rfl
theorem pA_o {s : mh_H} {a b i : Nat} {f : Nat → Int32} (h : b ≠ a) : (mh_pA s a f).1 b i = s.1 b i := if_neg h
theorem pA_w {s : mh_H} {a i : Nat} {f : Nat → Int32} : (mh_pA s a f).1 a i = f i := if_pos rfl
theorem V_ne {k u : Nat} (hk : mh_isV k) (hu : mh_isV u) (h : k ≠ u) : k + 6 ≤ u ∨ u + 6 ≤ k := by
  rcases hk with rfl | rfl | rfl <;> rcases hu with rfl | rfl | rfl <;> first | omega | exact absurd rfl h
theorem cf_c {k u : Nat} (hk : mh_isV k) (hu : mh_isV u) (hne : k ≠ u) (s : mh_H) : mh_vc k (f_eX8_copyFrom s k u) = mh_vc u s ∧ (f_eX8_copyFrom s k u).1 k 7 = s.1 u 7 := by
  have hd := V_ne hk hu hne
  have t1 : (144 : Int32).toNatClampNeg = 144 := rfl
  have t2 : (100 : Int32).toNatClampNeg = 100 := rfl
  unfold f_eX8_copyFrom
  simp only [mh_lbE, t1, t2]
  refine ⟨vc_ext (fun r c h => vc_0 h) (fun r c hc hr => ?_) ?_ ?_, ?_⟩
  · rw [vc_at hc hr, pI_o (by omega), pI_o (by omega), pI_o (by omega)]
    rcases (show r = 0 ∨ r = 1 ∨ r = 2 ∨ r = 3 ∨ r = 4 by omega) with rfl | rfl | rfl | rfl | rfl
    · have hc2 : c < 144 := hc
      rw [pA_o (by omega), pA_o (by omega), pA_o (by omega), pA_o (by omega), show k + 1 + 0 = k + 1 from rfl, pA_w, if_pos hc2]
    · have hc2 : c < 144 := hc
      rw [pA_o (by omega), pA_o (by omega), pA_o (by omega), show k + 1 + 1 = k + 2 from rfl, pA_w, if_pos hc2, pA_o (by omega)]
    · have hc2 : c < 144 := hc
      rw [pA_o (by omega), pA_o (by omega), show k + 1 + 2 = k + 3 from rfl, pA_w, if_pos hc2, pA_o (by omega), pA_o (by omega)]
    · have hc2 : c < 144 := hc
      rw [pA_o (by omega), show k + 1 + 3 = k + 4 from rfl, pA_w, if_pos hc2, pA_o (by omega), pA_o (by omega), pA_o (by omega)]
    · have hc2 : c < 100 := hc
      rw [show k + 1 + 4 = k + 5 from rfl, pA_w, if_pos hc2, pA_o (by omega), pA_o (by omega), pA_o (by omega), pA_o (by omega)]
  · rw [pI_j (by decide), pI_j (by decide), pI_w, pA_o (by omega), pA_o (by omega), pA_o (by omega), pA_o (by omega), pA_o (by omega)]; rfl
  · rw [pI_j (by decide), pI_w, pI_o (by omega), pA_o (by omega), pA_o (by omega), pA_o (by omega), pA_o (by omega), pA_o (by omega)]; rfl
  · rw [pI_w, pI_o (by omega), pI_o (by omega), pA_o (by omega), pA_o (by omega), pA_o (by omega), pA_o (by omega), pA_o (by omega)]
theorem V13 : mh_isV 13 := Or.inr (Or.inr rfl)
theorem V1 : mh_isV 1 := Or.inl rfl
theorem V7 : mh_isV 7 := Or.inr (Or.inl rfl)
theorem cN_copy {kl : Nat} (hl : mh_isL kl) {L : mh_Lw} {v : mh_V} {s : mh_H} (h : mh_cN 1 kl L v s) : mh_cN 13 kl L v (f_eX8_copyFrom s 13 1) := by
  have hF := fr_eX8_copyFrom s 13 V13 1 V1 h.2.2.2
  have hl2 := L40 hl
  refine ⟨(cf_c V13 V1 (by decide) s).1.trans h.1, ?_, ?_, hF.2⟩
  · rw [← h.2.1]
    refine (hF.1 0 11 ?_).2.2
    rintro ⟨e, g1, g2, -⟩
    simp only [S_eX8_copyFrom, List.mem_cons, List.not_mem_nil, or_false] at g1
    rcases g1 with rfl | rfl | rfl | rfl | rfl | rfl | rfl | rfl <;> simp at g2
  · refine LC_F h.2.2.1 hF.1 (fun e g1 => ?_)
    simp only [S_eX8_copyFrom, List.mem_cons, List.not_mem_nil, or_false] at g1
    rcases g1 with rfl | rfl | rfl | rfl | rfl | rfl | rfl | rfl <;> simp <;> omega
theorem rN_sa {L : mh_Lw} {v : mh_V} {s : mh_H} (h : mh_rN L v s) (p : Int32) : mh_rN L v (f_eX10_setsAside s p) := by
  have hF := fr_eX10_setsAside s p h.2.2.1
  refine ⟨(vr_fr hF.1 (by decide)).trans h.1, LR_mono h.2.1 (fun i a b => F_row1 hF.1 (fun e he => ?_)) (F_at1 hF.1 (fun e he => ?_)), hF.2, h.2.2.2⟩
  · simp only [S_eX10_setsAside, List.mem_cons, List.not_mem_nil, or_false] at he
    rcases he with rfl | rfl | rfl | rfl | rfl | rfl <;> simp <;> omega
  · simp only [S_eX10_setsAside, List.mem_cons, List.not_mem_nil, or_false] at he
    rcases he with rfl | rfl | rfl | rfl | rfl | rfl <;> simp
theorem vr_w (s : mh_H) : s.1 57 2 = (mh_vr s).2.1 := rfl
theorem vc_w (k : Nat) (s : mh_H) : s.1 k 5 = (mh_vc k s).2.1 := rfl
def mh_nI (x many fS : Int32) : Prop := 0 ≤ many.toInt ∧ many.toInt ≤ x.toInt ∧ ((many.toInt = 0 ∧ fS = -2) ∨ (1 ≤ many.toInt ∧ 0 ≤ fS.toInt))
theorem night_lp {kl : Nat} (hl : mh_isL kl) {L : mh_Lw} (hB : mh_LB L) {p1 p2 : Int32} (hp1 : p1.toInt ≤ 60) : ∀ (n : Nat) (v : mh_V) (sc sr : mh_H) (x many fS fC hS h : Int32), mh_cN 13 kl L v sc → mh_rN L v sr → mh_rg v → v.2.1.toInt + (n : Int) ≤ 2000000000 → 0 ≤ x.toInt → mh_nI x many fS → (l_eX9_night_49_1 p1 p2 n sc x many fS fC hS h).1 = (l_eX10_night_47_1 p1 p2 n sr x many fS fC hS h).1 := by
  intro n
  induction n with
  | zero => intros; rfl
  | succ n ih =>
    intro v sc sr x many fS fC hS h hc hr hg hb hx0 hn
    have k1 := kc_1
    have km2 : (-2 : Int32).toInt = -2 := rfl
    rw [l_eX9_night_49_1_s, l_eX10_night_47_1_s]
    unfold ls_eX9_night_49_1 ls_eX10_night_47_1 j_eX9_night_121_3 j_eX9_night_152_2 j_eX10_night_95_3 j_eX10_night_110_2
    by_cases hx : x.toInt < p1.toInt
    · rw [if_pos hx, if_pos hx]
      have c1 := cN_pass V13 hl hc hg
      have hg1 := stp_g (L := L) hg
      have hbn : (mh_stp L v).2.1.toInt = v.2.1.toInt + 1 := by rw [stp_n]; exact nn_inc hr.2.2.2 (m := 2000000000) (by omega) (by decide)
      obtain ⟨d0, d1, d2, d3⟩ := look_c V13 hl c1 hg1 hB
      have r1 := rN_step hr hg (by omega)
      obtain ⟨t1, r2⟩ := hitop_r r1
      obtain ⟨t2, r3⟩ := misty_r r2
      have hxn := nn_inc hx0 (m := 60) (by omega) (by decide)
      simp only [mh_lbE, mh_lb2E]
      rw [hc.2.1, c1.2.1, d1, t2, t1]
      have rest : ∀ (w : mh_V), w = mh_stp L v → w.2.1.toInt = v.2.1.toInt + 1 := fun w hw => by rw [hw]; exact hbn
      generalize hw : mh_stp L v = w at *
      generalize f_eX6_look (f_eX0_pass sc 13 kl) 13 kl = s3 at d0 d1 d2 d3 ⊢
      generalize (f_eX10_misty (f_eX10_highestTop (f_eX10_stepOne sr)).2).2 = r4 at r3 ⊢
      obtain ⟨n1, n2, n3⟩ := hn
      by_cases z : (mh_cnt L w 144).toInt = 0
      · rw [if_pos z, if_pos z]
        exact ih w s3 r4 (x + 1) many fS fC hS h d0 r3 hg1 (by omega) (by omega) ⟨n1, by omega, n3⟩
      · rw [if_neg z, if_neg z]
        have e5 : s3.1 13 5 = w.2.1 := by rw [vc_w, d0.1]
        have e2 : r4.1 57 2 = w.2.1 := by rw [vr_w, r3.1]
        have hw0 := r3.2.2.2
        have hmn := nn_inc n1 (m := 60) (by omega) (by decide)
        rw [e5, e2, d3, d2]
        rcases n3 with ⟨m0, f0⟩ | ⟨m1, f1⟩
        · obtain ⟨t3, r5⟩ := lomi_r hB r3 z
          have e2' : (f_eX10_lowestMisty r4).2.1 57 2 = w.2.1 := by rw [vr_w, r5.1]
          rw [if_pos m0, if_pos (show fS.toInt = (-2 : Int32).toInt by rw [f0]), t3, e2']
          by_cases y : h.toInt < (mh_hi L w 144).toInt
          · rw [if_pos y, if_pos y]
            exact ih w s3 _ (x + 1) (many + 1) w.2.1 _ w.2.1 _ d0 r5 hg1 (by omega) (by omega) ⟨by omega, by omega, Or.inr ⟨by omega, hw0⟩⟩
          · rw [if_neg y, if_neg y]
            exact ih w s3 _ (x + 1) (many + 1) w.2.1 _ _ _ d0 r5 hg1 (by omega) (by omega) ⟨by omega, by omega, Or.inr ⟨by omega, hw0⟩⟩
        · rw [if_neg (show ¬ many.toInt = 0 by omega), if_neg (show ¬ fS.toInt = (-2 : Int32).toInt by rw [km2]; omega)]
          by_cases y : h.toInt < (mh_hi L w 144).toInt
          · rw [if_pos y, if_pos y]
            exact ih w s3 r4 (x + 1) (many + 1) fS fC w.2.1 _ d0 r3 hg1 (by omega) (by omega) ⟨by omega, by omega, Or.inr ⟨by omega, f1⟩⟩
          · rw [if_neg y, if_neg y]
            exact ih w s3 r4 (x + 1) (many + 1) fS fC hS h d0 r3 hg1 (by omega) (by omega) ⟨by omega, by omega, Or.inr ⟨by omega, f1⟩⟩
    · rw [if_neg hx, if_neg hx]
      have k2 : (2 : Int32).toInt = 2 := rfl
      have k3 : (3 : Int32).toInt = 3 := rfl
      simp only [mh_lbE, k1, k2, k3]
      by_cases a0 : p2.toInt = 0
      · rw [if_pos a0, if_pos a0]
      · rw [if_neg a0, if_neg a0]
        by_cases a1 : p2.toInt = 1
        · rw [if_pos a1, if_pos a1]
        · rw [if_neg a1, if_neg a1]
          by_cases a2 : p2.toInt = 2
          · rw [if_pos a2, if_pos a2]
          · rw [if_neg a2, if_neg a2]
            by_cases a3 : p2.toInt = 3
            · rw [if_pos a3, if_pos a3]
            · rw [if_neg a3, if_neg a3]
theorem night_eq {kl : Nat} (hl : mh_isL kl) {L : mh_Lw} (hB : mh_LB L) {v : mh_V} {sc sr : mh_H} (hc : mh_cN 1 kl L v sc) (hr : mh_rN L v sr) (hg : mh_rg v) (hb : v.2.1.toInt ≤ 1000000000) (p1 p2 : Int32) : (f_eX9_night sc p1 p2).1 = (f_eX10_night sr p1 p2).1 := by
  have a0 : (0 : Int64).toInt = 0 := rfl
  have a4 : (4 : Int64).toInt = 4 := rfl
  have b4 : (4 : Int32).toInt = 4 := rfl
  unfold f_eX9_night f_eX10_night
  obtain ⟨m, hm⟩ : ∃ m : Nat, m = 61 := ⟨_, rfl⟩
  rw [show (61 : Nat) = m by omega]
  simp only [mh_lbE, fq_ni9, fq_ni10, fq_within, fq_lies, Int32.toInt_toInt64, a0, a4, b4]
  by_cases c1 : 1 ≤ p1.toInt ∧ p1.toInt ≤ 60
  · rw [if_neg (not_not_intro c1), if_neg (not_not_intro c1)]
    by_cases c2 : 0 ≤ p2.toInt ∧ p2.toInt ≤ 4
    · rw [if_neg (not_not_intro c2), if_neg (not_not_intro c2)]
      exact night_lp hl hB c1.2 m v _ _ 0 0 (-2) (-2) (-2) (-2) (cN_copy hl hc) (rN_sa hr 0) hg (by omega) (by decide) ⟨by decide, by decide, Or.inl ⟨by decide, rfl⟩⟩
    · rw [if_pos c2, if_pos c2]
  · rw [if_pos c1, if_pos c1]

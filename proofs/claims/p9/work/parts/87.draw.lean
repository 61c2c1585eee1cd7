def mh_wvd (v : mh_V) (y : Int32) : mh_V := (fun r c => if r = 4 ∧ c = v.2.1.toNatClampNeg ∧ v.2.1.toInt < 100 then y else v.1 r c, v.2)
theorem wvd_2 (v : mh_V) (y : Int32) : (mh_wvd v y).2 = v.2 := rfl
theorem wv_g {v : mh_V} (hg : mh_rg v) (y : Int32) : mh_rg (mh_wvd v y) := by
  intro c hc
  obtain ⟨a1, a2, a3, a4⟩ := hg c hc
  have e : ∀ r, r < 4 → (mh_wvd v y).1 r c = v.1 r c := fun r hr => if_neg (fun z => by omega)
  rw [e 0 (by decide), e 1 (by decide), e 2 (by decide), e 3 (by decide)]
  exact ⟨a1, a2, a3, a4⟩
def mh_nxt (x : Int32) : Int32 := ((25173 : Int32) * x + 13849) % 65536
theorem dw_c {kl : Nat} (hl : mh_isL kl) {L : mh_Lw} {v : mh_V} {s : mh_H} (h : mh_cN 1 kl L v s) (h0 : 0 ≤ v.2.1.toInt) : mh_cN 1 kl L (mh_wvd v (mh_nxt (s.1 1 7) % 10)) (f_eX8_drawWind s 1) ∧ (f_eX8_drawWind s 1).1 1 7 = mh_nxt (s.1 1 7) := by
  have hF := fr_eX8_drawWind s 1 V1 h.2.2.2
  have k99 : (99 : Int32).toInt = 99 := rfl
  have e5 : s.1 1 5 = v.2.1 := by rw [← h.1]; rfl
  have hl2 := L40 hl
  have e : f_eX8_drawWind s 1 = if v.2.1.toInt ≤ 99 then mh_pI (mh_pI s 1 7 (mh_nxt (s.1 1 7))) 6 v.2.1.toNatClampNeg (mh_nxt (s.1 1 7) % 10) else mh_pI s 1 7 (mh_nxt (s.1 1 7)) := by
    unfold f_eX8_drawWind
    simp only [mh_lbE, fq_within, k99]
    rw [show (mh_pI s 1 7 (((25173 : Int32) * s.1 1 7 + 13849) % 65536)).1 1 5 = v.2.1 by rw [pI_j (by decide)]; exact e5]
    by_cases z : v.2.1.toInt ≤ 99
    · rw [if_neg (not_not_intro ⟨h0, z⟩), if_pos z]; rfl
    · rw [if_pos (fun q => z q.2), if_neg z]; rfl
  refine ⟨⟨?_, ?_, ?_, hF.2⟩, ?_⟩
  · rw [e, ← h.1]
    have e51 : (mh_vc 1 s).2.1 = v.2.1 := by rw [h.1]
    refine vc_ext (fun r c hz => ?_) (fun r c hc hr => ?_) ?_ ?_
    · show (if r = 4 ∧ c = (mh_vc 1 s).2.1.toNatClampNeg ∧ (mh_vc 1 s).2.1.toInt < 100 then _ else (mh_vc 1 s).1 r c) = 0
      rw [if_neg ?_]
      · exact vc_0 hz
      · rintro ⟨q1, q2, q3⟩
        refine hz ⟨?_, by omega⟩
        rw [q1, q2]
        refine vn_4 ?_
        show (mh_vc 1 s).2.1.toInt.toNat < 100
        omega
    · show _ = if r = 4 ∧ c = (mh_vc 1 s).2.1.toNatClampNeg ∧ (mh_vc 1 s).2.1.toInt < 100 then _ else (mh_vc 1 s).1 r c
      rw [e51, vc_at hc hr]
      by_cases z : v.2.1.toInt ≤ 99
      · rw [if_pos z, pI_v, pI_o (show 1 + 1 + r ≠ 1 by omega)]
        by_cases q : r = 4 ∧ c = v.2.1.toNatClampNeg
        · rw [if_pos ⟨by omega, q.2⟩, if_pos ⟨q.1, q.2, by omega⟩]
        · rw [if_neg (fun y => q ⟨by omega, y.2⟩), if_neg (fun y => q ⟨y.1, y.2.1⟩)]
      · rw [if_neg z, pI_o (show 1 + 1 + r ≠ 1 by omega), if_neg (fun y => by have := y.2.2; omega)]
    · split
      · rw [pI_o (by decide), pI_j (by decide)]; rfl
      · rw [pI_j (by decide)]; rfl
    · split
      · rw [pI_o (by decide), pI_j (by decide)]; rfl
      · rw [pI_j (by decide)]; rfl
  · rw [← h.2.1, e]
    split <;> rfl
  · refine LC_F h.2.2.1 hF.1 (fun e he => ?_)
    simp only [S_eX8_drawWind, List.mem_cons, List.not_mem_nil, or_false] at he
    rcases he with rfl | rfl <;> simp <;> omega
  · rw [e]
    split
    · rw [pI_o (by decide), pI_w]
    · rw [pI_w]
theorem draw_lp {kl : Nat} (hl : mh_isL kl) {L : mh_Lw} {p1 b : Int32} {y : Int64} (hp1 : p1.toInt ≤ 60) (hby : b = Int64.toInt32 y) : ∀ (n : Nat) (v : mh_V) (sc sr : mh_H) (x : Int32), mh_cN 1 kl L v sc → mh_rN L v sr → mh_rg v → sc.1 1 7 = sr.1 57 3 → v.2.1.toInt + (n : Int) ≤ 2000000000 → 0 ≤ x.toInt →
    (l_eX9_draw_19_1 p1 b n sc x).1 = (l_eX10_draw_17_1 p1 y n sr x).1 ∧ ∃ v', mh_cN 1 kl L v' (l_eX9_draw_19_1 p1 b n sc x).2 ∧ mh_rN L v' (l_eX10_draw_17_1 p1 y n sr x).2 ∧ mh_rg v' ∧ (l_eX9_draw_19_1 p1 b n sc x).2.1 1 7 = (l_eX10_draw_17_1 p1 y n sr x).2.1 57 3 := by
  intro n
  induction n with
  | zero => intro v sc sr x h1 h2 hg h7 _ _; exact ⟨rfl, v, h1, h2, hg, h7⟩
  | succ n ih =>
    intro v sc sr x h1 h2 hg h7 hb hx0
    have k100 : (100 : Int32).toInt = 100 := rfl
    rw [l_eX9_draw_19_1_s, l_eX10_draw_17_1_s]
    unfold ls_eX9_draw_19_1 ls_eX10_draw_17_1 j_eX10_draw_68_2
    by_cases hx : x.toInt < p1.toInt
    · rw [if_pos hx, if_pos hx]
      have hxn := nn_inc hx0 (m := 60) (by omega) (by decide)
      obtain ⟨w1, w2⟩ := dw_c hl h1 h2.2.2.2
      have wg := wv_g hg (mh_nxt (sc.1 1 7) % 10)
      have c1 := cN_pass V1 hl w1 wg
      have hg1 := stp_g (L := L) wg
      have hbn : (mh_stp L (mh_wvd v (mh_nxt (sc.1 1 7) % 10))).2.1.toInt = v.2.1.toInt + 1 := by rw [stp_n, wvd_2]; exact nn_inc h2.2.2.2 (m := 2000000000) (by omega) (by decide)
      have e2 : sr.1 57 2 = v.2.1 := by rw [← h2.1]; rfl
      have c7 : (f_eX0_pass (f_eX8_drawWind sc 1) 1 kl).1 1 7 = mh_nxt (sc.1 1 7) := by
        rw [F_at1 (fr_eX0_pass (f_eX8_drawWind sc 1) 1 V1 kl hl w1.2.2.2).1 (fun e he => ?_)]
        · exact w2
        · have hl2 := L40 hl
          simp only [S_eX0_pass, List.mem_cons, List.not_mem_nil, or_false] at he
          rcases he with rfl | rfl | rfl | rfl | rfl | rfl | rfl | rfl <;> simp <;> omega
      simp only [mh_lbE]
      rw [w1.2.1]
      have key : ∀ q : mh_H, mh_vr q = mh_wvd v (mh_nxt (sc.1 1 7) % 10) → mh_LR q L → mh_p3 q → q.1 57 3 = mh_nxt (sc.1 1 7) → (l_eX9_draw_19_1 p1 b n (f_eX0_pass (f_eX8_drawWind sc 1) 1 kl) (x + 1)).1 = (l_eX10_draw_17_1 p1 y n (f_eX10_stepOne q) (x + 1)).1 ∧ ∃ v', mh_cN 1 kl L v' (l_eX9_draw_19_1 p1 b n (f_eX0_pass (f_eX8_drawWind sc 1) 1 kl) (x + 1)).2 ∧ mh_rN L v' (l_eX10_draw_17_1 p1 y n (f_eX10_stepOne q) (x + 1)).2 ∧ mh_rg v' ∧ (l_eX9_draw_19_1 p1 b n (f_eX0_pass (f_eX8_drawWind sc 1) 1 kl) (x + 1)).2.1 1 7 = (l_eX10_draw_17_1 p1 y n (f_eX10_stepOne q) (x + 1)).2.1 57 3 := by
        intro q q1 q2 q3 q4
        have r0 : mh_rN L (mh_wvd v (mh_nxt (sc.1 1 7) % 10)) q := ⟨q1, q2, q3, h2.2.2.2⟩
        have r1 := rN_step r0 wg (by show v.2.1.toInt ≤ _; omega)
        have r7 : (f_eX10_stepOne q).1 57 3 = mh_nxt (sc.1 1 7) := by rw [F_at1 (fr_eX10_stepOne q q3).1 (by decide)]; exact q4
        exact ih _ _ _ (x + 1) c1 r1 hg1 (c7.trans r7.symm) (by omega) (by omega)
      have e3 : ((25173 : Int32) * sr.1 57 3 + 13849) % 65536 = mh_nxt (sc.1 1 7) := by rw [h7]; rfl
      rw [e3, show (mh_pI sr 57 3 (mh_nxt (sc.1 1 7))).1 57 2 = v.2.1 by rw [pI_j (by decide)]; exact e2, k100]
      have hLR : ∀ q : mh_H, (∀ b j, b ≠ 57 → b ≠ 63 → q.1 b j = sr.1 b j) → q.1 57 10 = sr.1 57 10 → mh_LR q L := fun q hq hq2 => LR_mono h2.2.1 (fun i a c => by funext j; exact hq i j (by omega) (by omega)) hq2
      by_cases z : v.2.1.toInt < 100
      · rw [if_pos z]
        refine key _ ?_ (hLR _ (fun b j h1 h2 => by rw [pI_o h2, pI_o h1]) (by rw [pI_o (by decide), pI_j (by decide)])) h2.2.2.1 (by rw [pI_o (by decide), pI_w])
        rw [← h2.1]
        have e51 : (mh_vr sr).2.1 = v.2.1 := by rw [h2.1]
        refine vr_ext (fun r c hz => ?_) (fun r c hc hr => ?_) ?_ rfl
        · show (if r = 4 ∧ c = (mh_vr sr).2.1.toNatClampNeg ∧ (mh_vr sr).2.1.toInt < 100 then _ else (mh_vr sr).1 r c) = 0
          rw [if_neg ?_]
          · exact vr_0 hz
          · rintro ⟨q1, q2, q3⟩
            refine hz ⟨?_, by omega⟩
            rw [q1, q2]
            refine vn_4 ?_
            show (mh_vr sr).2.1.toInt.toNat < 100
            omega
        · show _ = if r = 4 ∧ c = (mh_vr sr).2.1.toNatClampNeg ∧ (mh_vr sr).2.1.toInt < 100 then _ else (mh_vr sr).1 r c
          rw [e51, vr_at hc hr, pI_v, pI_o (show 59 + r ≠ 57 by omega)]
          by_cases q : r = 4 ∧ c = v.2.1.toNatClampNeg
          · rw [if_pos ⟨by omega, q.2⟩, if_pos ⟨q.1, q.2, z⟩]
          · rw [if_neg (fun y => q ⟨by omega, y.2⟩), if_neg (fun y => q ⟨y.1, y.2.1⟩)]
        · rw [pI_o (by decide), pI_j (by decide)]; rfl
      · rw [if_neg z]
        refine key _ ?_ (hLR _ (fun b j h1 h2 => by rw [pI_o h1]) (by rw [pI_j (by decide)])) h2.2.2.1 (by rw [pI_w])
        rw [vr_pI (Or.inr ⟨rfl, by decide⟩), h2.1]
        refine Prod.ext ?_ rfl
        funext r c
        exact (if_neg (fun y => z y.2.2)).symm
    · rw [if_neg hx, if_neg hx]
      simp only [mh_lbE]
      refine ⟨?_, v, h1, h2, hg, h7⟩
      have e1 : sc.1 1 6 = v.2.2 := by rw [← h1.1]; rfl
      have e2 : Int64.toInt32 (sr.2.1 57 4) = v.2.2 := by rw [← h2.1]; rfl
      rw [Int64.toInt32_sub, e1, e2, hby]
theorem draw_eq {kl : Nat} (hl : mh_isL kl) {L : mh_Lw} {v : mh_V} {sc sr : mh_H} (hc : mh_cN 1 kl L v sc) (hr : mh_rN L v sr) (hg : mh_rg v) (h7 : sc.1 1 7 = sr.1 57 3) (hb : v.2.1.toInt ≤ 1000000000) (p1 : Int32) : (f_eX9_draw sc p1).1 = (f_eX10_draw sr p1).1 ∧ ∃ v', mh_cN 1 kl L v' (f_eX9_draw sc p1).2 ∧ mh_rN L v' (f_eX10_draw sr p1).2 ∧ mh_rg v' ∧ (f_eX9_draw sc p1).2.1 1 7 = (f_eX10_draw sr p1).2.1 57 3 := by
  unfold f_eX9_draw f_eX10_draw
  obtain ⟨m, hm⟩ : ∃ m : Nat, m = 61 := ⟨_, rfl⟩
  rw [show (61 : Nat) = m by omega]
  simp only [mh_lbE, fq_ni9, fq_ni10]
  by_cases c1 : 1 ≤ p1.toInt ∧ p1.toInt ≤ 60
  · rw [if_neg (not_not_intro c1), if_neg (not_not_intro c1)]
    have e1 : sc.1 1 6 = v.2.2 := by rw [← hc.1]; rfl
    have e2 : Int64.toInt32 (sr.2.1 57 4) = v.2.2 := by rw [← hr.1]; rfl
    exact draw_lp hl c1.2 (e1.trans e2.symm) m v sc sr 0 hc hr hg h7 (by omega) (by decide)
  · rw [if_pos c1, if_pos c1]
    exact ⟨rfl, v, hc, hr, hg, h7⟩

theorem F_at3 {S : List (Nat × Nat)} {s s' : mh_H} (h : mh_F S s s') {k j : Nat} (hk : ∀ e ∈ S, ¬ (e.1 = k ∧ (e.2 = 9999 ∨ e.2 = j))) : s'.2.2 k j = s.2.2 k j := by
  refine (h k j ?_).2.2
  rintro ⟨e, h1, h2, h3⟩
  exact hk e h1 ⟨h2, h3⟩
theorem k_lp (s : mh_H) : (l_eX10_keep_20_1 101 s 0).1 = s.1 57 2 ∧ (∀ c, c < 100 → (l_eX10_keep_20_1 101 s 0).2.1 102 c = s.1 63 c) ∧ (∀ b, b ≠ 102 → (l_eX10_keep_20_1 101 s 0).2.1 b = s.1 b) ∧ (l_eX10_keep_20_1 101 s 0).2.2 = s.2 := by
  have k100 : (100 : Int32).toInt = 100 := rfl
  refine mh_for l_eX10_keep_20_1 100 (fun s' m => (∀ c, c < m → s'.1 102 c = s.1 63 c) ∧ (∀ b, b ≠ 102 → s'.1 b = s.1 b) ∧ s'.2 = s.2) (fun z => z.1 = s.1 57 2 ∧ (∀ c, c < 100 → z.2.1 102 c = s.1 63 c) ∧ (∀ b, b ≠ 102 → z.2.1 b = s.1 b) ∧ z.2.2 = s.2) (by decide) ?_ ?_ 101 s 0 0 rfl (by decide) ⟨fun c h => absurd h (Nat.not_lt_zero c), fun _ _ => rfl, rfl⟩ (by decide)
  · intro n s' x m hx hm ⟨h1, h2, h3⟩
    refine ⟨mh_pI s' 102 m (s.1 63 m), ⟨fun c hc => ?_, fun b hb => (pI_row hb).trans (h2 b hb), h3⟩, ?_⟩
    · rw [pI_v]
      split
      · rename_i t; rw [t.2]
      · rename_i t; exact h1 c (by have : c ≠ m := fun e => t ⟨rfl, e⟩; omega)
    · rw [l_eX10_keep_20_1_s]
      unfold ls_eX10_keep_20_1
      simp only [mh_lbE]
      rw [if_pos (by omega), ix_n hx, h2 63 (by decide)]
  · intro n s' x hx ⟨h1, h2, h3⟩
    rw [l_eX10_keep_20_1_s]
    unfold ls_eX10_keep_20_1
    simp only [mh_lbE]
    rw [if_neg (by omega)]
    exact ⟨congrFun (h2 57 (by decide)) 2, h1, h2, h3⟩
theorem u_lp (s : mh_H) : (l_eX10_undo_24_1 101 s 0).1 = 1 ∧ (∀ c, c < 100 → (l_eX10_undo_24_1 101 s 0).2.1 63 c = s.1 102 c) ∧ (∀ b, b ≠ 63 → (l_eX10_undo_24_1 101 s 0).2.1 b = s.1 b) ∧ (l_eX10_undo_24_1 101 s 0).2.2 = s.2 := by
  have k100 : (100 : Int32).toInt = 100 := rfl
  refine mh_for l_eX10_undo_24_1 100 (fun s' m => (∀ c, c < m → s'.1 63 c = s.1 102 c) ∧ (∀ b, b ≠ 63 → s'.1 b = s.1 b) ∧ s'.2 = s.2) (fun z => z.1 = 1 ∧ (∀ c, c < 100 → z.2.1 63 c = s.1 102 c) ∧ (∀ b, b ≠ 63 → z.2.1 b = s.1 b) ∧ z.2.2 = s.2) (by decide) ?_ ?_ 101 s 0 0 rfl (by decide) ⟨fun c h => absurd h (Nat.not_lt_zero c), fun _ _ => rfl, rfl⟩ (by decide)
  · intro n s' x m hx hm ⟨h1, h2, h3⟩
    refine ⟨mh_pI s' 63 m (s.1 102 m), ⟨fun c hc => ?_, fun b hb => (pI_row hb).trans (h2 b hb), h3⟩, ?_⟩
    · rw [pI_v]
      split
      · rename_i t; rw [t.2]
      · rename_i t; exact h1 c (by have : c ≠ m := fun e => t ⟨rfl, e⟩; omega)
    · rw [l_eX10_undo_24_1_s]
      unfold ls_eX10_undo_24_1
      simp only [mh_lbE]
      rw [if_pos (by omega), ix_n hx, h2 102 (by decide)]
  · intro n s' x hx ⟨h1, h2, h3⟩
    rw [l_eX10_undo_24_1_s]
    unfold ls_eX10_undo_24_1
    rw [if_neg (by omega)]
    exact ⟨rfl, h1, h2, h3⟩
theorem kv_at {s : mh_H} {r c : Nat} (hc : c < 144) (hr : r < 4) : (mh_kv s).1 r c = s.1 (mh_sr r) (144 + c) := (if_pos ⟨vn_r hc hr, by omega⟩).trans (if_pos hr)
theorem kv_w {s : mh_H} {c : Nat} (hc : c < 100) : (mh_kv s).1 4 c = s.1 102 c := (if_pos ⟨vn_4 hc, by decide⟩).trans (if_neg (by decide))
theorem kv_0 {s : mh_H} {r c : Nat} (h : ¬ (c < mh_vn r ∧ r < 5)) : (mh_kv s).1 r c = 0 := if_neg h
theorem kv_mk {s : mh_H} {v : mh_V} (h : mh_sd 1 s = v) (hw : ∀ c, c < 100 → s.1 102 c = s.1 63 c) : mh_kv s = v := by
  subst h
  unfold mh_kv mh_sd
  refine Prod.ext ?_ rfl
  funext r c
  show (if c < mh_vn r ∧ r < 5 then (if r < 4 then s.1 (mh_sr r) (144 + c) else s.1 102 c) else 0) = if c < mh_vn r ∧ r < 5 then (if r < 4 then s.1 (mh_sr r) (144 * 1 + c) else s.1 63 c) else 0
  by_cases g : c < mh_vn r ∧ r < 5
  · rw [if_pos g, if_pos g]
    by_cases g2 : r < 4
    · rw [if_pos g2, if_pos g2]
    · rw [if_neg g2, if_neg g2]
      refine hw c ?_
      have h4 : r = 4 := by omega
      have := g.1
      rw [h4] at this
      exact this
  · rw [if_neg g, if_neg g]
theorem keep_T {B D B' D' : Int} {σ s1 s2 : mh_H} (h : mh_RV σ) (hI0 : mh_I B D s1) (hI1 : mh_I B' D' s2) (F0 : mh_F S_eX9_keep σ s1) (F1 : mh_F S_eX10_keep s1 s2) {z0 z1 : Int32} (E0 : f_eX9_keep σ = (z0, s1)) (E1 : f_eX10_keep s1 = (z1, s2)) : z0 = z1 ∧ mh_RV s2 := by
  have hs1 := mh_I_p3 hI0
  have hs2 := mh_I_p3 hI1
  obtain ⟨kl, Ls, v, ch, fl, w, cw, m, r, a1, a2, a3, a4, a5, a6⟩ := h
  unfold f_eX9_keep at E0
  unfold f_eX10_keep at E1
  simp only [mh_lbE] at E0 E1
  obtain ⟨d1, d2⟩ := Prod.mk.inj E0
  obtain ⟨cf1, cf2⟩ := cf_c V7 V1 (by decide) σ
  have v7 : mh_vc 7 s1 = v := by
    rw [← d2, ← a5.1.1, ← cf1]
    refine vc_ext (fun r c h => vc_0 h) (fun r c hc hr => ?_) ?_ ?_
    · rw [vc_at hc hr, pI_o (by omega)]
    · rw [pI_o (by decide)]; rfl
    · rw [pI_o (by decide)]; rfl
  have c77 : s1.1 7 7 = ch := by rw [← d2, pI_o (by decide), cf2]; exact a5.2.2.1
  have c013 : s1.1 0 13 = 1 := by rw [← d2, pI_w]
  have hc1 : mh_CA kl (mh_lw Ls) v ch 1 v ch m r s1 := by
    refine ⟨⟨(vc_F F0 (by decide)).trans a5.1.1, (F_at3 F0 (by decide)).trans a5.1.2.1, LC_F a5.1.2.2.1 F0 (by rcases a1 with rfl | rfl <;> decide), hs1⟩, by rw [F_at3 F0 (by decide)]; exact a5.2.1, by rw [F_row1 F0 (k := 1) (by decide)]; exact a5.2.2.1, c013, fun _ => ⟨v7, c77⟩, cT_c a5.2.2.2.2.2 (F_at1 F0 (by decide)) (F_row1 F0 (by decide))⟩
  have hr1 := RA_F a6 F0 hs1 (by decide)
  -- the reference
  have fs := fr_eX10_setsAside (mh_pI s1 57 64 1) 1 hs1
  obtain ⟨sa1, sa2⟩ := sa_r (s := mh_pI s1 57 64 1) (p := 1) (k := 1) rfl (by decide)
  have evr : mh_vr (mh_pI s1 57 64 1) = v := (vr_pI (Or.inr ⟨rfl, by decide⟩)).trans hr1.1.1
  have e64 : (f_eX10_setsAside (mh_pI s1 57 64 1) 1).1 57 64 = 1 := by rw [F_at1 fs.1 (by decide), pI_w]
  have e3 : (f_eX10_setsAside (mh_pI s1 57 64 1) 1).1 57 3 = ch := by rw [F_at1 fs.1 (by decide), pI_j (by decide)]; exact hr1.2.1
  have e2 : (f_eX10_setsAside (mh_pI s1 57 64 1) 1).1 57 2 = v.2.1 := by
    rw [F_at1 fs.1 (by decide), pI_j (by decide), vr_w, hr1.1.1]
  rw [evr] at sa1
  generalize f_eX10_setsAside (mh_pI s1 57 64 1) 1 = q at E1 sa1 sa2 e64 e3 e2
  obtain ⟨k1, k2, k3, k4⟩ := k_lp (mh_pI q 57 65 (q.1 57 3))
  rw [E1] at k1 k2 k3 k4
  have k1 : z1 = (mh_pI q 57 65 (q.1 57 3)).1 57 2 := k1
  have k2 : ∀ c, c < 100 → s2.1 102 c = (mh_pI q 57 65 (q.1 57 3)).1 63 c := k2
  have k3 : ∀ b, b ≠ 102 → s2.1 b = (mh_pI q 57 65 (q.1 57 3)).1 b := k3
  have k4 : s2.2 = q.2 := k4
  have r57 : ∀ j, j ≠ 65 → s2.1 57 j = q.1 57 j := fun j hj => (congrFun (k3 57 (by decide)) j).trans (pI_j hj)
  have rb : ∀ b, b ≠ 102 → b ≠ 57 → s2.1 b = q.1 b := fun b h1 h2 => (k3 b h1).trans (pI_row h2)
  have hsd : mh_sd 1 s2 = v := by
    rw [← sa1]
    refine sd_ext (fun r c h => sd_0 h) (fun r c hc hr => ?_) (fun c hc => ?_) ?_ ?_
    · have : mh_sr r ≠ 102 ∧ mh_sr r ≠ 57 := by unfold mh_sr; split; decide; split; decide; split <;> decide
      rw [rb _ this.1 this.2, sd_at hc hr]
    · rw [rb 63 (by decide) (by decide), sd_w hc]
    · rw [rb 87 (by decide) (by decide)]; rfl
    · rw [k4]; rfl
  have hkv : mh_kv s2 = v := kv_mk hsd (fun c hc => by rw [k2 c hc, pI_o (by decide), rb 63 (by decide) (by decide)])
  refine ⟨?_, kl, Ls, v, ch, 1, v, ch, m, r, a1, a2, fun _ => ⟨a2, a6.1.2.2.2⟩, a4, CA_F a1 hc1 F1 hs2 (by decide), ⟨rN_F hr1.1 F1 hs2 (by decide), ?_, ?_, fun _ => ⟨hkv, ?_⟩, rT_c hr1.2.2.2.2 (F_at1 F1 (by decide)) (F_row1 F1 (by decide))⟩⟩
  · rw [k1, pI_j (by decide), e2, ← d1, pI_o (by decide)]
    have : (f_eX8_copyFrom σ 7 1).1 1 5 = s1.1 1 5 := by rw [← d2, pI_o (by decide)]
    rw [this, F_row1 F0 (k := 1) (by decide), vc_w, a5.1.1]
  · rw [F_at1 F1 (by decide)]; exact hr1.2.1
  · rw [r57 64 (by decide)]; exact e64
  · rw [congrFun (k3 57 (by decide)) 65, pI_w]; exact e3
theorem undo_T {B D B' D' : Int} {σ s1 s2 : mh_H} (h : mh_RV σ) (hI0 : mh_I B D s1) (hI1 : mh_I B' D' s2) (F0 : mh_F S_eX9_undo σ s1) (F1 : mh_F S_eX10_undo s1 s2) {z0 z1 : Int32} (E0 : f_eX9_undo σ = (z0, s1)) (E1 : f_eX10_undo s1 = (z1, s2)) : z0 = z1 ∧ mh_RV s2 := by
  have hs1 := mh_I_p3 hI0
  have hs2 := mh_I_p3 hI1
  have hR := h
  obtain ⟨kl, Ls, v, ch, fl, w, cw, m, r, a1, a2, a3, a4, a5, a6⟩ := h
  have hr1 := RA_F a6 F0 hs1 (by decide)
  unfold f_eX9_undo at E0
  unfold f_eX10_undo at E1
  simp only [mh_lbE] at E0 E1
  by_cases g : fl.toInt = 0
  · rw [if_pos (by rw [a5.2.2.2.1]; exact g)] at E0
    rw [if_pos (by rw [hr1.2.2.1]; exact g)] at E1
    obtain ⟨d1, d2⟩ := Prod.mk.inj E0
    obtain ⟨e1, e2⟩ := Prod.mk.inj E1
    exact ⟨d1.symm.trans e1, by rw [← e2, ← d2]; exact hR⟩
  · rw [if_neg (by rw [a5.2.2.2.1]; exact g)] at E0
    rw [if_neg (by rw [hr1.2.2.1]; exact g)] at E1
    obtain ⟨d1, d2⟩ := Prod.mk.inj E0
    obtain ⟨w1, w2⟩ := a5.2.2.2.2.1 g
    obtain ⟨x1, x2⟩ := hr1.2.2.2.1 g
    obtain ⟨y1, y2⟩ := a3 g
    obtain ⟨cf1, cf2⟩ := cf_c V1 V7 (by decide) σ
    have hc1 : mh_CA kl (mh_lw Ls) w cw fl w cw m r s1 := CA_v a5 (cN_v a1 a5.1 (by rw [← d2, cf1]; exact w1) F0 hs1 (by decide)) (by rw [← d2, cf2]; exact w2) F0 (by decide)
    have fp := fr_eX10_putsBack s1 1 hs1
    have pb := pb_r (s := s1) (p := 1) (k := 1) rfl (by decide)
    have e65 : (f_eX10_putsBack s1 1).1 57 65 = cw := by rw [F_at1 fp.1 (by decide)]; exact x2
    have e102 : (f_eX10_putsBack s1 1).1 102 = s1.1 102 := F_row1 fp.1 (by decide)
    generalize f_eX10_putsBack s1 1 = q at E1 pb e65 e102
    obtain ⟨k1, k2, k3, k4⟩ := u_lp (mh_pI q 57 3 (q.1 57 65))
    rw [E1] at k1 k2 k3 k4
    have k1 : z1 = 1 := k1
    have k2 : ∀ c, c < 100 → s2.1 63 c = (mh_pI q 57 3 (q.1 57 65)).1 102 c := k2
    have k3 : ∀ b, b ≠ 63 → s2.1 b = (mh_pI q 57 3 (q.1 57 65)).1 b := k3
    have k4 : s2.2 = q.2 := k4
    have hv : mh_vr s2 = w := by
      rw [← x1]
      refine vr_ext (fun r c h => kv_0 h) (fun r c hc hr => ?_) ?_ ?_
      · by_cases g4 : r < 4
        · have hc2 : c < 144 := by
            unfold mh_vn at hc
            rw [if_neg (by omega)] at hc
            exact hc
          rw [k3 _ (by omega), pI_o (by omega), kv_at hc2 g4]
          have := congrFun (congrFun (congrArg Prod.fst pb) r) c
          rw [vr_at hc hr, sd_at hc2 g4] at this
          exact this
        · have h4 : r = 4 := by omega
          subst h4
          have hc2 : c < 100 := hc
          rw [show 59 + 4 = 63 from rfl, k2 c hc2, pI_o (by decide), e102, kv_w hc2]
      · rw [k3 57 (by decide), pI_j (by decide)]
        exact congrArg (fun z => z.2.1) pb
      · rw [k4]
        exact congrArg (fun z => z.2.2) pb
    refine ⟨d1.symm.trans k1.symm, kl, Ls, w, cw, fl, w, cw, m, r, a1, y1, a3, a4, CA_F a1 hc1 F1 hs2 (by decide), RA_v hr1 (rN_v hr1.1 hv y2 F1 hs2 (by decide)) ?_ F1 (by decide)⟩
    rw [k3 57 (by decide), pI_w]; exact e65
/-- soonest: what the reference puts back -/
theorem ly_in {L : mh_Lw} {v d1 : mh_V} {b : Int} (lo : mh_H → Int32 → mh_H) (X : Int32) : ∀ (n : Nat) (s : mh_H) (x : Int32), mh_rA L v d1 b s → 0 ≤ x.toInt → x.toInt ≤ 20 → 20 < x.toInt + (n : Int) → ∃ q, mh_rA L v d1 b q ∧ l_eX10_laysYards_15_2 lo X n s x = lo (f_eX10_stepOne q) (X + 1) := by
  intro n
  have k20 : (20 : Int32).toInt = 20 := rfl
  induction n with
  | zero => intro s x h h0 h1 h2; exfalso; omega
  | succ n ih =>
    intro s x h h0 h1 h2
    rw [l_eX10_laysYards_15_2_s]
    unfold ls_eX10_laysYards_15_2
    simp only [mh_lbE, mh_lb2E]
    by_cases g : x.toInt < 20
    · rw [if_pos (show x.toInt < (20 : Int32).toInt by omega)]
      have hxn := nn_inc h0 (m := 60) (by omega) (by decide)
      have st : ∀ (t : mh_H) (i : Nat) (y : Int32), mh_rA L v d1 b t → mh_rA L v d1 b (mh_pI t 95 i y) := fun t i y ht => rA_F ht (S := [(95, 9999)]) (mh_F_pI mh_F_rf ⟨(95, 9999), by simp, rfl, Or.inl rfl⟩) (p3_pI (rA_p3 ht)) (by decide) (by decide)
      by_cases g9 : (s.1 90 x.toNatClampNeg).toInt = 0
      · rw [if_pos g9]
        unfold j_eX10_laysYards_54_3
        simp only [mh_lbE]
        exact ih _ (x + 1) (st _ _ _ h) (by omega) (by omega) (by omega)
      · rw [if_neg g9]
        unfold j_eX10_laysYards_54_3
        simp only [mh_lbE]
        have fy := fr_eX10_yardsAt s (s.1 94 x.toNatClampNeg) (rA_p3 h)
        exact ih _ (x + 1) (st _ _ _ (rA_F h fy.1 fy.2 (by decide) (by decide))) (by omega) (by omega) (by omega)
    · rw [if_neg (show ¬ x.toInt < (20 : Int32).toInt by omega)]
      exact ⟨s, h, rfl⟩
theorem ly_out {L : mh_Lw} {v d1 : mh_V} (h0 : 0 ≤ v.2.1.toInt) : ∀ (n : Nat) (b : Int) (s : mh_H) (x : Int32), mh_rA L v d1 b s → b + (n : Int) ≤ 2000000000 → 0 ≤ x.toInt → x.toInt ≤ 30 → 30 < x.toInt + (n : Int) → mh_rN L v (l_eX10_laysYards_7_1 n s x) ∧ mh_sd 1 (l_eX10_laysYards_7_1 n s x) = d1 := by
  intro n
  have k30 : (30 : Int32).toInt = 30 := rfl
  induction n with
  | zero => intro b s x h hb hx0 hx1 hf; exfalso; omega
  | succ n ih =>
    intro b s x h hb hx0 hx1 hf
    rw [l_eX10_laysYards_7_1_s]
    unfold ls_eX10_laysYards_7_1
    by_cases g : x.toInt < 30
    · rw [if_pos (show x.toInt < (30 : Int32).toInt by omega)]
      obtain ⟨q, q1, q2⟩ := ly_in (l_eX10_laysYards_7_1 n) x 21 s 0 h (by decide) (by decide) (by decide)
      rw [q2]
      have hxn := nn_inc hx0 (m := 60) (by omega) (by decide)
      exact ih (b + 1) _ (x + 1) (rA_step q1 (by omega)) (by omega) (by omega) (by omega) (by omega)
    · rw [if_neg (show ¬ x.toInt < (30 : Int32).toInt by omega)]
      simp only [mh_lbE]
      exact rA_end h h0
theorem soonest_back {L : mh_Lw} {v : mh_V} {sr : mh_H} (hr : mh_rN L v sr) (hg : mh_rg v) (hb : v.2.1.toInt ≤ 1000000000) (p1 p2 p3 p4 : Int32) : mh_rN L v (f_eX10_soonest sr p1 p2 p3 p4).2 ∧ mh_sd 1 (f_eX10_soonest sr p1 p2 p3 p4).2 = mh_sd 1 sr := by
  unfold f_eX10_soonest
  obtain ⟨nn, hnn⟩ : ∃ m : Nat, m = 3011 := ⟨_, rfl⟩
  rw [show (3011 : Nat) = nn by omega]
  simp only [mh_lbE]
  split
  · exact ⟨hr, rfl⟩
  · split
    · exact ⟨hr, rfl⟩
    · split
      · exact ⟨hr, rfl⟩
      · split
        · exact ⟨hr, rfl⟩
        · have h1 : mh_rN L v (f_eX10_laysYards sr) ∧ mh_sd 1 (f_eX10_laysYards sr) = mh_sd 1 sr := by
            unfold f_eX10_laysYards
            obtain ⟨n, hn⟩ : ∃ m : Nat, m = 31 := ⟨_, rfl⟩
            rw [show (31 : Nat) = n by omega]
            simp only [mh_lbE]
            exact ly_out hr.2.2.2 n v.2.1.toInt _ 0 (rA_sa hr hg) (by omega) (by decide) (by decide) (by rw [kc_0]; omega)
          generalize f_eX10_laysYards sr = q at h1 ⊢
          have f := fs_l_eX10_soonest_46_1 q h1.1.2.2.1 p1 p2 p3 p4 nn q 0 ⟨mh_F_rf, h1.1.2.2.1⟩
          exact ⟨rN_F h1.1 f.1 f.2 (by decide), (sd_FS 1 f.1 (by decide)).trans h1.2⟩

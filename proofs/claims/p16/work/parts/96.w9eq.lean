/-- soonest: both sides -/
theorem fill_c (s : mh_H) : (∀ j, j ≤ 300 → (f_eJ7_fill_re s 0).1 28 j = 0) ∧ (∀ b, b ≠ 28 → (f_eJ7_fill_re s 0).1 b = s.1 b) ∧ (f_eJ7_fill_re s 0).2 = s.2 := by
  have k301 : (301 : Int32).toInt = 301 := rfl
  unfold f_eJ7_fill_re
  obtain ⟨nn, hnn⟩ : ∃ n : Nat, n = 401 := ⟨_, rfl⟩
  rw [show (401 : Nat) = nn by omega]
  refine mh_for (l_eJ7_fill_re_5_1 0) 301 (fun s' m => (∀ j, j < m → s'.1 28 j = 0) ∧ (∀ b, b ≠ 28 → s'.1 b = s.1 b) ∧ s'.2 = s.2) (fun s' => (∀ j, j ≤ 300 → s'.1 28 j = 0) ∧ (∀ b, b ≠ 28 → s'.1 b = s.1 b) ∧ s'.2 = s.2) (by decide) ?_ ?_ nn s 0 0 rfl (by decide) ⟨fun j h => absurd h (Nat.not_lt_zero j), fun _ _ => rfl, rfl⟩ (by omega)
  · intro n s' x m hx hm ⟨h1, h2, h3⟩
    rw [l_eJ7_fill_re_5_1_s]
    unfold ls_eJ7_fill_re_5_1
    simp only [mh_lbE]
    rw [if_pos (by omega), ix_n hx]
    refine ⟨_, ⟨fun j hj => ?_, fun b hb => (pI_row hb).trans (h2 b hb), h3⟩, rfl⟩
    by_cases g : j = m
    · rw [g, pI_w]
    · rw [pI_j g]; exact h1 j (by omega)
  · intro n s' x hx ⟨h1, h2, h3⟩
    rw [l_eJ7_fill_re_5_1_s]
    unfold ls_eJ7_fill_re_5_1
    rw [if_neg (by omega)]
    exact ⟨fun j hj => h1 j (by omega), h2, h3⟩
theorem leave_c (s : mh_H) {p1 p3 : Int32} {a st : Nat} (h1 : p1.toInt = (a : Int)) (ha : a < 10) (h3 : p3.toInt = (st : Int)) : (∀ t' n', t' ≤ 300 → n' < 10 → (mh_tb ((f_eX5_leave s p1 p3).1 28 t') n' = 1 ↔ (t' = st ∧ n' = a))) ∧ (∀ b, b ≠ 28 → (f_eX5_leave s p1 p3).1 b = s.1 b) ∧ (f_eX5_leave s p1 p3).2 = s.2 := by
  obtain ⟨f1, f2, f3⟩ := fill_c s
  unfold f_eX5_leave
  simp only [mh_lbE]
  rw [ix_n h3, i32_of h1 (by omega)]
  generalize f_eJ7_fill_re s 0 = q at f1 f2 f3 ⊢
  refine ⟨fun t' n' x1 x2 => ?_, fun b hb => (pI_row hb).trans (f2 b hb), f3⟩
  have z0 : ∀ i : Fin 10, mh_tb 0 i.val = 0 := by decide +kernel
  by_cases g : t' = st
  · rw [g, pI_w]
    show mh_tb (mh_pwr a) n' = 1 ↔ _
    rw [tb_pw ⟨a, ha⟩ ⟨n', x2⟩]
    show (if n' = a then (1 : Int32) else 0) = 1 ↔ _
    by_cases y : n' = a
    · rw [if_pos y]; exact ⟨fun _ => ⟨rfl, y⟩, fun _ => rfl⟩
    · rw [if_neg y]; exact ⟨fun z => absurd z (by decide), fun z => absurd z.2 y⟩
  · rw [pI_j g, f1 t' x1, z0 ⟨n', x2⟩]
    exact ⟨fun z => absurd z (by decide), fun z => absurd z.1 g⟩
/-- the reference clears its table and sets the beginning -/
theorem clr_r {p1 p2 p3 p4 : Int32} {a st : Nat} (h1 : p1.toInt = (a : Int)) (ha : a < 10) (h3 : p3.toInt = (st : Int)) (hst : st ≤ 300) (q : mh_H) (nn : Nat) (hn : 3010 < nn) (Post : Int32 × mh_H → Prop) (kk : ∀ s' : mh_H, (∀ t' n', t' ≤ 300 → n' < 10 → (s'.1 96 (10 * t' + n') = 1 ↔ (t' = st ∧ n' = a))) → mh_t01 s' → (∀ b, b ≠ 96 → s'.1 b = q.1 b) → s'.2 = q.2 → Post (l_eX10_soonest_83_2 p2 p4 302 s' p3)) : Post (l_eX10_soonest_46_1 p1 p2 p3 p4 nn q 0) := by
  have k3010 : (3010 : Int32).toInt = 3010 := rfl
  have k10 : (10 : Int32).toInt = 10 := rfl
  obtain ⟨mm, hmm⟩ : ∃ m : Nat, m = 302 := ⟨_, rfl⟩
  rw [show (302 : Nat) = mm by omega] at kk
  refine mh_for (l_eX10_soonest_46_1 p1 p2 p3 p4) 3010 (fun s' m => (∀ j, j < m → s'.1 96 j = 0) ∧ (∀ b, b ≠ 96 → s'.1 b = q.1 b) ∧ s'.2 = q.2) Post (by decide) ?_ ?_ nn q 0 0 rfl (by decide) ⟨fun j h => absurd h (Nat.not_lt_zero j), fun _ _ => rfl, rfl⟩ (by omega)
  · intro n s' x m hx hm ⟨g1, g2, g3⟩
    rw [l_eX10_soonest_46_1_s]
    unfold ls_eX10_soonest_46_1
    simp only [mh_lbE]
    rw [if_pos (show x.toInt < (3010 : Int32).toInt by omega), ix_n hx]
    refine ⟨_, ⟨fun j hj => ?_, fun b hb => (pI_row hb).trans (g2 b hb), g3⟩, rfl⟩
    by_cases g : j = m
    · rw [g, pI_w]
    · rw [pI_j g]; exact g1 j (by omega)
  · intro n s' x hx ⟨g1, g2, g3⟩
    rw [l_eX10_soonest_46_1_s]
    unfold ls_eX10_soonest_46_1
    rw [show (302 : Nat) = mm by omega]
    simp only [mh_lbE]
    have e1 : ((10 : Int32) * p3).toInt = 10 * p3.toInt := by rw [Int32.toInt_mul, k10, Int.bmod_eq_of_le (by omega) (by omega)]
    have e2 : ((10 : Int32) * p3 + p1).toInt = ((10 * st + a : Nat) : Int) := by rw [Int32.toInt_add, e1, Int.bmod_eq_of_le (by omega) (by omega)]; omega
    rw [if_neg (show ¬ x.toInt < (3010 : Int32).toInt by omega), ix_n e2]
    refine kk _ (fun t' n' x1 x2 => ?_) (fun j hj => ?_) (fun b hb => (pI_row hb).trans (g2 b hb)) g3
    · by_cases g : 10 * t' + n' = 10 * st + a
      · rw [g, pI_w]
        exact ⟨fun _ => by omega, fun _ => rfl⟩
      · rw [pI_j g, g1 _ (by omega)]
        exact ⟨fun z => absurd z (by decide), fun z => absurd (by omega) g⟩
    · by_cases g : j = 10 * st + a
      · right; rw [g, pI_w]
      · left; rw [pI_j g]; exact g1 j hj
theorem soonest_eq {kl : Nat} (hl : mh_isL kl) {L : mh_Lw} (hB : mh_LB L) {v : mh_V} (hg : mh_rg v) (hb : v.2.1.toInt ≤ 1000000000) {sc sr : mh_H} (hQ : rl_Q sc) (hc : mh_cN 1 kl L v sc) (hr : mh_rN L v sr) (h90 : ∀ k, 90 ≤ k → k ≤ 94 → sr.1 k = sc.1 k) (p1 p2 p3 p4 : Int32) : (f_eX9_soonest sc p1 p2 p3 p4).1 = (f_eX10_soonest sr p1 p2 p3 p4).1 := by
  unfold f_eX9_soonest f_eX10_soonest
  obtain ⟨n, hn⟩ : ∃ n : Nat, n = 31 := ⟨_, rfl⟩
  obtain ⟨nn, hnn⟩ : ∃ n : Nat, n = 3011 := ⟨_, rfl⟩
  rw [show (31 : Nat) = n by omega, show (3011 : Nat) = nn by omega]
  simp only [mh_lbE]
  have k9 : (9 : Int32).toInt = 9 := rfl
  have k299 : (299 : Int32).toInt = 299 := rfl
  have k1 : (1 : Int32).toInt = 1 := rfl
  have w1 := fq_within sc p1 9
  have w2 := fq_within sc p2 9
  have w3 := fq_within sc p3 299
  have w4 := fq_within sc p4 1
  have l1 : ((f_eX10_isNode sr p1).toInt = 0) ↔ ¬ (0 ≤ p1.toInt ∧ p1.toInt ≤ 9) := by
    unfold f_eX10_isNode
    simp only [mh_lbE]
    have := fq_lies sr (Int32.toInt64 p1) 0 9
    rw [Int32.toInt_toInt64, show (0 : Int64).toInt = 0 from rfl, show (9 : Int64).toInt = 9 from rfl] at this
    exact this
  have l2 : ((f_eX10_isNode sr p2).toInt = 0) ↔ ¬ (0 ≤ p2.toInt ∧ p2.toInt ≤ 9) := by
    unfold f_eX10_isNode
    simp only [mh_lbE]
    have := fq_lies sr (Int32.toInt64 p2) 0 9
    rw [Int32.toInt_toInt64, show (0 : Int64).toInt = 0 from rfl, show (9 : Int64).toInt = 9 from rfl] at this
    exact this
  have l3 := fq_lies sr (Int32.toInt64 p3) 0 299
  have l4 := fq_lies sr (Int32.toInt64 p4) 0 1
  rw [Int32.toInt_toInt64, show (0 : Int64).toInt = 0 from rfl, show (299 : Int64).toInt = 299 from rfl] at l3
  rw [Int32.toInt_toInt64, show (0 : Int64).toInt = 0 from rfl, show (1 : Int64).toInt = 1 from rfl] at l4
  by_cases c1 : 0 ≤ p1.toInt ∧ p1.toInt ≤ 9
  · rw [if_neg (fun z => w1.1 z (by omega)), if_neg (fun z => l1.1 z c1)]
    by_cases c2 : 0 ≤ p2.toInt ∧ p2.toInt ≤ 9
    · rw [if_neg (fun z => w2.1 z (by omega)), if_neg (fun z => l2.1 z c2)]
      by_cases c3 : 0 ≤ p3.toInt ∧ p3.toInt ≤ 299
      · rw [if_neg (fun z => w3.1 z (by omega)), if_neg (fun z => l3.1 z c3)]
        by_cases c4 : 0 ≤ p4.toInt ∧ p4.toInt ≤ 1
        · rw [if_neg (fun z => w4.1 z (by omega)), if_neg (fun z => l4.1 z c4)]
          obtain ⟨a, ha⟩ : ∃ q : Nat, p1.toInt = (q : Int) := ⟨p1.toInt.toNat, by omega⟩
          obtain ⟨pn, hpn⟩ : ∃ q : Nat, p2.toInt = (q : Int) := ⟨p2.toInt.toNat, by omega⟩
          obtain ⟨st, hst⟩ : ∃ q : Nat, p3.toInt = (q : Int) := ⟨p3.toInt.toNat, by omega⟩
          -- the class's start
          obtain ⟨v1, v2, v3⟩ := leave_c sc ha (by omega) hst
          generalize f_eX5_leave sc p1 p3 = q0 at v1 v2 v3 ⊢
          have hc0 : mh_cN 1 kl L v q0 := by
            have hF : mh_F [(28, 9999)] sc q0 := fun k j hn => by
              have hk : k ≠ 28 := fun e => hn ⟨(28, 9999), by simp, e.symm, Or.inl rfl⟩
              exact ⟨congrFun (v2 k hk) j, by rw [v3], by rw [v3]⟩
            refine cN_F hc hF (by unfold mh_p3; rw [v3]; exact hc.2.2.2) (by decide) (fun e he => ?_) (by decide)
            rw [List.mem_singleton.mp he]
            show 28 < kl ∨ kl + 5 < 28
            rcases hl with rfl | rfl <;> decide
          have hc1 := cN_copy hl hc0
          have fc := fr_eX8_copyFrom q0 13 V13 1 V1 hc0.2.2.2
          have rc : ∀ b, 23 ≤ b → b ≤ 28 → (f_eX8_copyFrom q0 13 1).1 b = q0.1 b := fun b x1 x2 => F_row1 fc.1 (fun e he => by
            have t : ∀ e ∈ S_eX8_copyFrom 13 1, e.1 < 23 := by decide
            have := t e he
            omega)
          generalize f_eX8_copyFrom q0 13 1 = q1 at hc1 rc ⊢
          -- the reference's yards
          have hyd : ∀ i, i < 20 → (sc.1 90 i).toInt = 0 ∨ ∃ c : Nat, c < 144 ∧ (sc.1 94 i).toInt = (c : Int) := fun i hi => by
            rcases hQ i hi with ⟨b1, b2, -, -, -, b6, c, b7, b8⟩ | ⟨b1, b2⟩
            · exact Or.inr ⟨c, b7, by rw [← b6]; exact b8⟩
            · exact Or.inl (by rw [b2]; rfl)
          have hly : (∀ i, i < 20 → ∀ τ', τ' < 30 → (f_eX10_laysYards sr).1 95 (30 * i + τ') = mh_Y L v sc i τ') ∧ ∀ k, 90 ≤ k → k ≤ 94 → (f_eX10_laysYards sr).1 k = sc.1 k := by
            unfold f_eX10_laysYards
            obtain ⟨m, hm⟩ : ∃ m : Nat, m = 31 := ⟨_, rfl⟩
            rw [show (31 : Nat) = m by omega]
            simp only [mh_lbE]
            have fs := fr_eX10_setsAside sr 0 hr.2.2.1
            refine ly2_out hg hr.2.2.2 hb hyd m _ 0 0 rfl (by decide) (by omega) ⟨by rw [stN_0]; exact rN_sa hr 0, fun k x1 x2 => (F_row1 fs.1 (fun e he => ?_)).trans (h90 k x1 x2), fun _ _ τ' z => absurd z (Nat.not_lt_zero τ'), fun i z => absurd z (Nat.not_lt_zero i)⟩
            have t : ∀ e ∈ S_eX10_setsAside, e.1 < 90 ∨ 94 < e.1 := by decide
            have := t e he
            omega
          generalize f_eX10_laysYards sr = y at hly ⊢
          refine clr_r ha (by omega) hst (by omega) y nn (by omega) (fun r => (l_eX9_soonest_62_1 p2 p4 n q1 0).1 = r.1) (fun s' d1 d2 d3 d4 => ?_)
          have hYb : ∀ i τ', mh_r (mh_Y L v sc i τ') 0 999 := fun i τ' => by
            unfold mh_Y
            split
            · exact ⟨by decide, by decide⟩
            · exact ya_b hB _ _
          have hyy : ∀ i, i < 20 → ∀ τ', τ' < 30 → s'.1 95 (30 * i + τ') = mh_Y L v sc i τ' := fun i x1 τ' x2 => by rw [d3 95 (by decide)]; exact hly.1 i x1 τ' x2
          have h9 : ∀ k, 90 ≤ k → k ≤ 94 → s'.1 k = sc.1 k := fun k x1 x2 => (d3 k (by omega)).trans (hly.2 k x1 x2)
          have rQ : mh_rQr s' := by
            refine ⟨fun i hi => ?_, fun j hj => ?_⟩
            · rw [h9 90 (by decide) (by decide), h9 91 (by decide) (by decide), h9 92 (by decide) (by decide), h9 93 (by decide) (by decide)]
              rcases hQ i hi with ⟨b1, b2, ⟨x, z, c1, c2, -, c4, c5, -⟩, b4, b5, -⟩ | ⟨b1, b2⟩
              · exact Or.inr ⟨⟨x, c1, c4⟩, ⟨z, c2, c5⟩, by rw [← b4]; exact b5⟩
              · exact Or.inl (by rw [b2]; rfl)
            · have e : j = 30 * (j / 30) + j % 30 := by omega
              rw [e, hyy (j / 30) (by omega) (j % 30) (by omega)]
              exact hYb _ _
          have rk : mh_rk0 sc s' (mh_Y L v sc) := ⟨h9, hyy, d2, rQ⟩
          refine so_lp hl hB hg hQ hpn (by omega) (st := st) (by omega) n 0 302 q1 s' 0 p3 rfl (by decide) (by omega) (by decide) (by rw [stN_0]; exact hc1) ⟨by rw [rc 23 (by decide) (by decide), v2 23 (by decide)], by rw [rc 24 (by decide) (by decide), v2 24 (by decide)], by rw [rc 25 (by decide) (by decide), v2 25 (by decide)], by rw [rc 26 (by decide) (by decide), v2 26 (by decide)]⟩ rk (fun t' n' x1 x2 => ?_) (fun t' n' x1 x2 _ => ?_) (by rw [hst] <;> (congr 1 <;> omega))
          · rw [rc 28 (by decide) (by decide), v1 t' n' x1 x2, d1 t' n' x1 x2]
          · rw [rc 28 (by decide) (by decide), v1 t' n' (by omega) x2]
            omega
        · rw [if_pos (w4.2 (by omega)), if_pos (l4.2 c4)]
      · rw [if_pos (w3.2 (by omega)), if_pos (l3.2 c3)]
    · rw [if_pos (w2.2 (by omega)), if_pos (l2.2 c2)]
  · rw [if_pos (w1.2 (by omega)), if_pos (l1.2 c1)]
theorem soonest_RQ {B D B1 D1 B2 D2 : Int} {σ s1 s2 : mh_H} (h : mh_RQ σ) (hI : mh_I B D σ) (hB : B ≤ 1000000000) (hI0 : mh_I B1 D1 s1) (hI1 : mh_I B2 D2 s2) (F0 : mh_F S_eX9_soonest σ s1) (F1 : mh_F S_eX10_soonest s1 s2) {p1 p2 p3 p4 z0 z1 : Int32} (E0 : f_eX9_soonest σ p1 p2 p3 p4 = (z0, s1)) (E1 : f_eX10_soonest s1 p1 p2 p3 p4 = (z1, s2)) : z0 = z1 ∧ mh_RQ s2 := by
  have k := soonest_T h.1 hI hB hI0 hI1 F0 F1 E0 E1
  refine ⟨?_, k.2, rl_Q_keep F1 (by decide) (rl_Q_keep F0 (by decide) h.2)⟩
  obtain ⟨kl, Ls, v, ch, fl, w, cw, m, r, a1, a2, a3, a4, a5, a6⟩ := h.1
  have hr1 := RA_F a6 F0 (mh_I_p3 hI0) (by decide)
  have q := soonest_eq a1 (lw_B Ls) a2 (RV_b a6.1.1 hI hB) h.2 a5.1 hr1.1 (fun k h1 h2 => F_row1 F0 (fun e he => by
    have t : ∀ e ∈ S_eX9_soonest, e.1 < 90 := by decide
    have := t e he
    omega)) p1 p2 p3 p4
  rw [E0, E1] at q
  exact q

/-- soonest, round by round -/
theorem cN_28 {kl : Nat} (hl : mh_isL kl) {L : mh_Lw} {v : mh_V} {s s' : mh_H} (h : mh_cN 13 kl L v s) (h1 : ∀ b, b ≠ 28 → s'.1 b = s.1 b) (h2 : s'.2 = s.2) : mh_cN 13 kl L v s' := by
  have hF : mh_F [(28, 9999)] s s' := fun k j hn => by
    have hk : k ≠ 28 := fun e => hn ⟨(28, 9999), by simp, e.symm, Or.inl rfl⟩
    exact ⟨congrFun (h1 k hk) j, by rw [h2], by rw [h2]⟩
  refine cN_F h hF (by unfold mh_p3; rw [h2]; exact h.2.2.2) (by decide) (fun e he => ?_) (by decide)
  rw [List.mem_singleton.mp he]
  show 28 < kl ∨ kl + 5 < 28
  rcases hl with rfl | rfl <;> decide
theorem so_lp {kl : Nat} (hl : mh_isL kl) {L : mh_Lw} (hB : mh_LB L) {v : mh_V} (hg : mh_rg v) {σ : mh_H} (hQ : rl_Q σ) {P p4 : Int32} {pn st : Nat} (hP : P.toInt = (pn : Int)) (hp : pn < 10) (hst : st ≤ 300) : ∀ (n τ m : Nat) (s sr : mh_H) (x Tm : Int32), x.toInt = (τ : Int) → τ ≤ 30 → 30 < τ + n → 301 < m + 10 * τ → mh_cN 13 kl L (mh_stN L v τ) s → (s.1 23 5 = σ.1 23 5 ∧ s.1 24 = σ.1 24 ∧ s.1 25 = σ.1 25 ∧ s.1 26 = σ.1 26) → mh_rk0 σ sr (mh_Y L v σ) → mh_gR s sr → (∀ t' n', t' < st → n' < 10 → 10 * τ ≤ st → ¬ mh_tb (s.1 28 t') n' = 1) → Tm.toInt = ((max (10 * τ) st : Nat) : Int) → (l_eX9_soonest_62_1 P p4 n s x).1 = (l_eX10_soonest_83_2 P p4 m sr Tm).1 := by
  have k30 : (30 : Int32).toInt = 30 := rfl
  have k10 : (10 : Int32).toInt = ((10 : Nat) : Int) := rfl
  have c10 : (10 : Int32).toInt = 10 := rfl
  have k1 : (1 : Int32).toInt = ((1 : Nat) : Int) := rfl
  have k300 : (300 : Int32).toInt = 300 := rfl
  intro n
  induction n with
  | zero => intro τ m s sr x Tm _ h1 h2; exfalso; omega
  | succ n ih =>
    intro τ m s sr x Tm hx h1 h2 hm hc hs hr hR hA hTm
    rw [l_eX9_soonest_62_1_s]
    unfold ls_eX9_soonest_62_1
    simp only [mh_lbE]
    by_cases g : τ < 30
    · rw [if_pos (show x.toInt < (30 : Int32).toInt by omega), hc.2.1]
      obtain ⟨l1, l2, l3⟩ := look5 V13 hl hc (fun i hi => by
        rw [hs.1, hs.2.2.2]
        rcases hQ i hi with a | a
        · exact Or.inl ⟨a.1, a.2.2.2.2.2.2⟩
        · exact Or.inr a.1)
      generalize f_eX5_look s 13 kl = q at l1 l2 l3 ⊢
      have e10 : ((10 : Int32) * x).toInt = ((10 * τ : Nat) : Int) := by rw [Int32.toInt_mul, c10, hx, Int.bmod_eq_of_le (by omega) (by omega)]; omega
      generalize (10 : Int32) * x = T0 at e10 ⊢
      have eB : (T0 + 10).toInt = ((10 * τ + 10 : Nat) : Int) := ix_add e10 (by omega) k10 (by decide)
      have sk : mh_sk0 σ q (fun i => mh_Y L v σ i τ) := by
        refine ⟨⟨(congrFun (l3 23 (by decide) (by decide) (by decide)) 5).trans hs.1, (l3 24 (by decide) (by decide) (by decide)).trans hs.2.1, (l3 25 (by decide) (by decide) (by decide)).trans hs.2.2.1, (l3 26 (by decide) (by decide) (by decide)).trans hs.2.2.2⟩, fun i hi => ?_⟩
        show q.1 27 i = mh_Y L v σ i τ
        unfold mh_Y
        rcases hQ i hi with ⟨b1, b2, -, -, -, b6, c, b7, b8⟩ | ⟨b1, b2⟩
        · rw [b2, if_neg (by decide), ← b6, ix_n b8]
          exact (l2 i hi).2 c b7 (by rw [hs.2.2.2]; exact b8) (by rw [hs.1]; exact b1)
        · rw [b2, if_pos (by decide)]
          exact (l2 i hi).1 (by rw [hs.1]; exact b1)
      have hYb : ∀ i, i < 20 → ∀ τ', τ' < 30 → mh_r (mh_Y L v σ i τ') 0 999 := fun i _ τ' _ => by
        unfold mh_Y
        split
        · exact ⟨by decide, by decide⟩
        · exact ya_b hB _ _
      have gR : mh_gR q sr := fun t' n' x1 x2 => by rw [l3 28 (by decide) (by decide) (by decide)]; exact hR t' n' x1 x2
      have go : ∀ W : Int32, (¬ W.toInt = 0 ↔ p4.toInt = 0) → (j_eX9_soonest_104_2 (l_eX9_soonest_62_1 P p4 n) q P x T0 W).1 = (l_eX10_soonest_83_2 P p4 m sr Tm).1 := by
        intro W hw
        have r := go_rd hQ hYb hP hp hst g eB hw 10 (10 * τ) 301 m q sr T0 Tm rfl (Nat.le_refl _) e10 (by decide) (by omega) sk hr gR (fun t' n' x1 x2 x3 => by rw [l3 28 (by decide) (by decide) (by decide)]; exact hA t' n' x1 x2 x3) hTm
        unfold j_eX9_soonest_104_2 f_eX5_go
        simp only [mh_lbE, mh_lb2E]
        rcases r with ⟨z, s1, r1, r2, r3⟩ | ⟨sc', sr', m', Tm', r1, r2, r3, r4, r5, r6, r7, r8, r9⟩
        · rw [r1]
          show (if z.toInt = (-2 : Int32).toInt then _ else (z, s1)).1 = _
          rw [if_neg r2]
          exact r3.symm
        · rw [r1]
          show (if (-2 : Int32).toInt = (-2 : Int32).toInt then l_eX9_soonest_62_1 P p4 n (f_eX0_pass sc' 13 (sc'.2.2 0 11)) (x + 1) else (-2, sc')).1 = _
          rw [if_pos rfl, r9]
          have hc' := cN_28 hl l1 r2 r3
          rw [hc'.2.1]
          have hp' := cN_pass V13 hl hc' (stN_g hg τ)
          have fp := fr_eX0_pass sc' 13 V13 kl hl hc'.2.2.2
          have fr : ∀ b, 23 ≤ b → b ≤ 28 → (f_eX0_pass sc' 13 kl).1 b = sc'.1 b := fun b x1 x2 => F_row1 fp.1 (fun e he => by
            unfold S_eX0_pass at he
            have hk : 40 ≤ kl := by rcases hl with rfl | rfl <;> decide
            simp only [List.mem_cons, List.not_mem_nil, or_false] at he
            rcases he with rfl | rfl | rfl | rfl | rfl | rfl | rfl | rfl <;> simp only [] <;> omega)
          have sb : ∀ b, 23 ≤ b → b ≤ 26 → (f_eX0_pass sc' 13 kl).1 b = q.1 b := fun b x1 x2 => (fr b x1 (by omega)).trans (r2 b (by omega))
          refine ih (τ + 1) m' _ sr' (x + 1) Tm' (ix_add hx (by omega) k1 (by decide)) (by omega) (by omega) (by omega) (by rw [stN_s]; exact hp') ⟨by rw [sb 23 (by decide) (by decide)]; exact sk.1.1, by rw [sb 24 (by decide) (by decide)]; exact sk.1.2.1, by rw [sb 25 (by decide) (by decide)]; exact sk.1.2.2.1, by rw [sb 26 (by decide) (by decide)]; exact sk.1.2.2.2⟩ r4 (fun t' n' x1 x2 => by rw [fr 28 (by decide) (by decide)]; exact r5 t' n' x1 x2) (fun t' n' x1 x2 x3 => by rw [fr 28 (by decide) (by decide)]; exact r6 t' n' x1 x2 (by omega)) (by rw [r8]; congr 1)
      by_cases gw : p4.toInt = 0
      · rw [if_pos gw]
        exact go 1 ⟨fun _ => gw, fun _ => by decide⟩
      · rw [if_neg gw]
        exact go 0 ⟨fun z => absurd rfl z, fun z => absurd z gw⟩
    · obtain rfl : τ = 30 := by omega
      rw [if_neg (show ¬ x.toInt < (30 : Int32).toInt by omega)]
      have hT3 : Tm.toInt = ((300 : Nat) : Int) := by rw [hTm]; omega
      have e300 : Tm = 300 := Int32.toInt_inj.mp (by rw [hT3]; rfl)
      obtain ⟨m, rfl⟩ : ∃ i, m = i + 1 := ⟨m - 1, by omega⟩
      obtain ⟨m, rfl⟩ : ∃ i, m = i + 1 := ⟨m - 1, by omega⟩
      obtain ⟨Z, hZ, rs⟩ := rs_st (s := sr) (p4 := p4) hP hp hT3 (Nat.le_refl 300) hr.2.2.1 (m + 1)
      rw [rs, at_c (t := 300) hP hp rfl]
      by_cases gf : mh_tb (s.1 28 300) pn = 1
      · rw [if_pos ((hR 300 pn (Nat.le_refl _) hp).1 gf), gf, if_neg (by decide)]
        exact e300.symm
      · have z0 : mh_tb (s.1 28 300) pn = 0 := by
          rcases tb_b (s.1 28 300) pn with z | z
          · exact z
          · exact absurd z gf
        rw [if_neg (fun z => gf ((hR 300 pn (Nat.le_refl _) hp).2 z)), z0, if_pos (by decide)]
        refine rm_lp hr.2.2.2 hr.2.2.1 (l_eX10_soonest_83_2 P p4 (m + 1)) hT3 (Nat.le_refl 300) hZ (fun r => (-2 : Int32) = r.1) (fun s' _ _ _ _ => ?_)
        rw [l_eX10_soonest_83_2_s]
        unfold ls_eX10_soonest_83_2
        simp only [mh_lbE]
        have e1 : (Tm + 1).toInt = ((301 : Nat) : Int) := ix_add hT3 (by decide) k1 (by decide)
        rw [if_pos (show (300 : Int32).toInt < (Tm + 1).toInt by omega)]

/-- soonest: ten minutes on both sides -/
theorem at_c {s : mh_H} {P T : Int32} {pn t : Nat} (hP : P.toInt = (pn : Int)) (hp : pn < 10) (hT : T.toInt = (t : Int)) : f_eX5_isAt s P T = mh_tb (s.1 28 t) pn := by
  rw [i32_of hP (by omega)]
  unfold f_eX5_isAt
  simp only [mh_lbE]
  rw [ix_n hT]
  show (if (mh_tb (s.1 28 t) pn).toInt = (1 : Int32).toInt then (1 : Int32) else 0) = mh_tb (s.1 28 t) pn
  rcases tb_b (s.1 28 t) pn with h | h <;> rw [h] <;> rfl
theorem rs_st {s : mh_H} {P p4 T : Int32} {pn t : Nat} (hP : P.toInt = (pn : Int)) (hp : pn < 10) (hT : T.toInt = (t : Int)) (ht : t ≤ 300) (h01 : mh_t01 s) (n : Nat) : ∃ Z : Int32, Z.toInt = ((10 * t : Nat) : Int) ∧ l_eX10_soonest_83_2 P p4 (n + 1) s T = if s.1 96 (10 * t + pn) = 1 then (T, s) else l_eX10_soonest_112_3 (l_eX10_soonest_83_2 P p4 n) p4 T Z 11 s 0 := by
  have k300 : (300 : Int32).toInt = 300 := rfl
  have k10 : (10 : Int32).toInt = 10 := rfl
  have e1 : ((10 : Int32) * T).toInt = ((10 * t : Nat) : Int) := by rw [Int32.toInt_mul, k10, hT, Int.bmod_eq_of_le (by omega) (by omega)]; omega
  have e2 : ((10 : Int32) * T + P).toInt = ((10 * t + pn : Nat) : Int) := by rw [Int32.toInt_add, e1, hP, Int.bmod_eq_of_le (by omega) (by omega)]; omega
  refine ⟨_, e1, ?_⟩
  rw [l_eX10_soonest_83_2_s]
  unfold ls_eX10_soonest_83_2
  simp only [mh_lbE]
  rw [if_neg (show ¬ (300 : Int32).toInt < T.toInt by omega), ix_n e2]
  rcases h01 (10 * t + pn) (by omega) with z | z
  · rw [z, if_pos (by decide), if_neg (by decide)]
  · rw [z, if_neg (by decide), if_pos rfl]
/-- what stays while both sides go on: the roads, the yards -/
def mh_sk0 (σ sc : mh_H) (Y : Nat → Int32) : Prop := (sc.1 23 5 = σ.1 23 5 ∧ sc.1 24 = σ.1 24 ∧ sc.1 25 = σ.1 25 ∧ sc.1 26 = σ.1 26) ∧ ∀ i, i < 20 → sc.1 27 i = Y i
def mh_rk0 (σ sr : mh_H) (Y : Nat → Nat → Int32) : Prop := (∀ k, 90 ≤ k → k ≤ 94 → sr.1 k = σ.1 k) ∧ (∀ i, i < 20 → ∀ τ, τ < 30 → sr.1 95 (30 * i + τ) = Y i τ) ∧ mh_t01 sr ∧ mh_rQr sr
theorem gD_of {σ sc sr : mh_H} {Y : Nat → Nat → Int32} (hQ : rl_Q σ) {t : Nat} (ht : t < 300) (h1 : mh_sk0 σ sc (fun i => Y i (t / 10))) (h2 : mh_rk0 σ sr Y) : mh_gD sc sr t := by
  intro i hi
  obtain ⟨⟨a1, a2, a3, a4⟩, a5⟩ := h1
  rw [a1, a2, a3, a5 i hi, h2.1 90 (by decide) (by decide), h2.1 91 (by decide) (by decide), h2.1 92 (by decide) (by decide), h2.1 93 (by decide) (by decide), h2.2.1 i hi (t / 10) (by omega)]
  rcases hQ i hi with ⟨b1, b2, b3, b4, b5, -⟩ | ⟨b1, b2⟩
  · exact Or.inl ⟨b1, by rw [b2]; decide, b3, b4, b5, rfl⟩
  · exact Or.inr ⟨b1, by rw [b2]; rfl⟩
theorem gQ_of {σ sc : mh_H} {Y : Nat → Int32} (hQ : rl_Q σ) (hY : ∀ i, i < 20 → mh_r (Y i) 0 999) (h1 : mh_sk0 σ sc Y) : mh_gQ sc := by
  intro i hi
  obtain ⟨⟨a1, a2, a3, a4⟩, a5⟩ := h1
  rw [a1, a2, a3, a5 i hi]
  refine ⟨?_, hY i hi⟩
  rcases hQ i hi with ⟨b1, b2, ⟨a, b, c1, c2, c3, c4, c5, c6⟩, b4, b5, -⟩ | ⟨b1, b2⟩
  · exact Or.inl ⟨b1, ⟨a, b, c1, c2, c3, c6⟩, b5⟩
  · exact Or.inr b1
theorem go_rd {σ : mh_H} (hQ : rl_Q σ) {Y : Nat → Nat → Int32} (hY : ∀ i, i < 20 → ∀ τ, τ < 30 → mh_r (Y i τ) 0 999) {P B W p4 : Int32} {pn st τ : Nat} (hP : P.toInt = (pn : Int)) (hp : pn < 10) (hst : st ≤ 300) (hτ : τ < 30) (hB : (B + 10).toInt = ((10 * τ + 10 : Nat) : Int)) (hw : ¬ W.toInt = 0 ↔ p4.toInt = 0) : ∀ (k t n m : Nat) (sc sr : mh_H) (T Tm : Int32), t + k = 10 * τ + 10 → 10 * τ ≤ t → T.toInt = (t : Int) → k < n → 301 < m + t → mh_sk0 σ sc (fun i => Y i τ) → mh_rk0 σ sr Y → mh_gR sc sr → (∀ t' n', t' < st → n' < 10 → t ≤ st → ¬ mh_tb (sc.1 28 t') n' = 1) → Tm.toInt = ((max t st : Nat) : Int) →
    (∃ z s1, l_eX5_go_3_1 P B W n sc T = (z, s1) ∧ ¬ z.toInt = (-2 : Int32).toInt ∧ (l_eX10_soonest_83_2 P p4 m sr Tm).1 = z) ∨ (∃ (sc' sr' : mh_H) (m' : Nat) (Tm' : Int32), l_eX5_go_3_1 P B W n sc T = (-2, sc') ∧ (∀ b, b ≠ 28 → sc'.1 b = sc.1 b) ∧ sc'.2 = sc.2 ∧ mh_rk0 σ sr' Y ∧ mh_gR sc' sr' ∧ (∀ t' n', t' < st → n' < 10 → 10 * τ + 10 ≤ st → ¬ mh_tb (sc'.1 28 t') n' = 1) ∧ 301 < m' + (10 * τ + 10) ∧ Tm'.toInt = ((max (10 * τ + 10) st : Nat) : Int) ∧ (l_eX10_soonest_83_2 P p4 m sr Tm).1 = (l_eX10_soonest_83_2 P p4 m' sr' Tm').1) := by
  have k300 : (300 : Int32).toInt = 300 := rfl
  have k1 : (1 : Int32).toInt = ((1 : Nat) : Int) := rfl
  intro k
  induction k with
  | zero =>
    intro t n m sc sr T Tm ht0 ht1 hT hn hm h1 h2 h3 h4 hTm
    obtain ⟨n, rfl⟩ : ∃ i, n = i + 1 := ⟨n - 1, by omega⟩
    refine Or.inr ⟨sc, sr, m, Tm, ?_, fun _ _ => rfl, rfl, h2, h3, fun t' n' x1 x2 x3 => h4 t' n' x1 x2 (by omega), by omega, by rw [hTm]; congr 1; omega, rfl⟩
    rw [l_eX5_go_3_1_s]
    unfold ls_eX5_go_3_1
    simp only [mh_lbE]
    rw [if_neg (show ¬ T.toInt < (mh_mi32 (B + 10) 300).toInt by rw [mh_mi32_i]; omega)]
  | succ k ih =>
    intro t n m sc sr T Tm ht0 ht1 hT hn hm h1 h2 h3 h4 hTm
    obtain ⟨n, rfl⟩ : ∃ i, n = i + 1 := ⟨n - 1, by omega⟩
    have ht : t < 300 := by omega
    have hdiv : t / 10 = τ := by omega
    have gQ := gQ_of hQ (fun i hi => hY i hi τ hτ) h1
    have gD := gD_of hQ ht (Y := Y) (sc := sc) (by rw [hdiv]; exact h1) h2
    have eT1 : (T + 1).toInt = ((t + 1 : Nat) : Int) := ix_add hT (by omega) k1 (by decide)
    have hy : ∀ i, i < 20 → mh_r (sc.1 27 i) 0 999 := fun i hi => (gQ i hi).2
    have step : (f_eX5_isAt sc P T).toInt = 0 → ∃ s', (∀ t' n', t' ≤ 300 → n' < 10 → (mh_tb (s'.1 28 t') n' = 1 ↔ (mh_tb (sc.1 28 t') n' = 1 ∨ mh_cEm sc W T t t' n'))) ∧ (∀ b, b ≠ 28 → s'.1 b = sc.1 b) ∧ s'.2 = sc.2 ∧ l_eX5_go_3_1 P B W (n + 1) sc T = l_eX5_go_3_1 P B W n s' (T + 1) := fun q => gm_c gQ hT ht (by omega) n q
    have fixc : ∀ s' : mh_H, (∀ b, b ≠ 28 → s'.1 b = sc.1 b) → mh_sk0 σ s' (fun i => Y i τ) := fun s' q => by
      unfold mh_sk0
      rw [q 23 (by decide), q 24 (by decide), q 25 (by decide), q 26 (by decide), q 27 (by decide)]
      exact h1
    by_cases ga : t < st
    · -- ahead of the beginning: nobody is anywhere
      have em : ∀ n', n' < 10 → ¬ mh_tb (sc.1 28 t) n' = 1 := fun n' hn' => h4 t n' ga hn' (by omega)
      have noE : ∀ t' n', n' < 10 → ¬ mh_cEm sc W T t t' n' := by
        rintro t' n' hn' (⟨-, -, z⟩ | ⟨i, -, -, -, -, a, b, z1, z2, -, -, z3⟩)
        · exact em n' hn' z
        · rcases z3 with z3 | z3
          · exact em a z1 z3.1
          · exact em b z2 z3.1
      obtain ⟨s', q1, q2, q3, q4⟩ := step (by
        rw [at_c hP hp hT]
        rcases tb_b (sc.1 28 t) pn with z | z
        · rw [z]; rfl
        · exact absurd z (em pn hp))
      have q1' : ∀ t' n', t' ≤ 300 → n' < 10 → (mh_tb (s'.1 28 t') n' = 1 ↔ mh_tb (sc.1 28 t') n' = 1) := fun t' n' x1 x2 => (q1 t' n' x1 x2).trans ⟨fun w => by
        rcases w with w | w
        · exact w
        · exact absurd w (noE t' n' x2), fun w => Or.inl w⟩
      rw [q4]
      have := ih (t + 1) n m s' sr (T + 1) Tm (by omega) (by omega) eT1 (by omega) (by omega) (fixc s' q2) h2 (fun t' n' x1 x2 => (q1' t' n' x1 x2).trans (h3 t' n' x1 x2)) (fun t' n' x1 x2 x3 => fun w => h4 t' n' x1 x2 (by omega) ((q1' t' n' (by omega) x2).1 w)) (by rw [hTm]; congr 1; omega)
      rcases this with w | ⟨sc', sr', m', Tm', w1, w2, w3, w4⟩
      · exact Or.inl w
      · exact Or.inr ⟨sc', sr', m', Tm', w1, fun b hb => (w2 b hb).trans (q2 b hb), w3.trans q3, w4⟩
    · have hTm2 : Tm.toInt = (t : Int) := by rw [hTm]; omega
      have eTT : T = Tm := Int32.toInt_inj.mp (by rw [hT, hTm2])
      obtain ⟨m, rfl⟩ : ∃ i, m = i + 1 := ⟨m - 1, by omega⟩
      obtain ⟨Z, hZ, rs⟩ := rs_st (s := sr) (p4 := p4) hP hp hTm2 (by omega) h2.2.2.1 m
      rw [rs]
      by_cases gf : mh_tb (sc.1 28 t) pn = 1
      · rw [if_pos ((h3 t pn (by omega) hp).1 gf)]
        left
        refine ⟨T, sc, ?_, ?_, eTT.symm⟩
        · rw [l_eX5_go_3_1_s]
          unfold ls_eX5_go_3_1
          simp only [mh_lbE]
          rw [if_pos (show T.toInt < (mh_mi32 (B + 10) 300).toInt by rw [mh_mi32_i]; omega), at_c hP hp hT, gf, if_neg (by decide)]
        · intro z
          have km : (-2 : Int32).toInt < 0 := by decide
          omega
      · rw [if_neg (fun z => gf ((h3 t pn (by omega) hp).2 z))]
        obtain ⟨s', q1, q2, q3, q4⟩ := step (by
          rw [at_c hP hp hT]
          rcases tb_b (sc.1 28 t) pn with z | z
          · rw [z]; rfl
          · exact absurd z gf)
        rw [q4]
        refine rm_lp h2.2.2.2 h2.2.2.1 (l_eX10_soonest_83_2 P p4 m) hTm2 (by omega) hZ (fun r => (∃ z s1, l_eX5_go_3_1 P B W n s' (T + 1) = (z, s1) ∧ ¬ z.toInt = (-2 : Int32).toInt ∧ r.1 = z) ∨ (∃ (sc' sr' : mh_H) (m' : Nat) (Tm' : Int32), l_eX5_go_3_1 P B W n s' (T + 1) = (-2, sc') ∧ (∀ b, b ≠ 28 → sc'.1 b = sc.1 b) ∧ sc'.2 = sc.2 ∧ mh_rk0 σ sr' Y ∧ mh_gR sc' sr' ∧ (∀ t' n', t' < st → n' < 10 → 10 * τ + 10 ≤ st → ¬ mh_tb (sc'.1 28 t') n' = 1) ∧ 301 < m' + (10 * τ + 10) ∧ Tm'.toInt = ((max (10 * τ + 10) st : Nat) : Int) ∧ r.1 = (l_eX10_soonest_83_2 P p4 m' sr' Tm').1)) (fun sr2 d1 d2 d3 d4 => ?_)
        have hgR : mh_gR s' sr2 := fun t' n' x1 x2 => by
          rw [q1 t' n' x1 x2, d1 t' n' x1 x2, h3 t' n' x1 x2, gE_eq ht h3 gD hy hw x2, eTT]
        have hrk : mh_rk0 σ sr2 Y := ⟨fun k x1 x2 => (d2 k (by omega)).trans (h2.1 k x1 x2), fun i x1 τ' x2 => by rw [d2 95 (by decide)]; exact h2.2.1 i x1 τ' x2, d4, rQr_cg d2 h2.2.2.2⟩
        have eTm1 : (Tm + 1).toInt = ((t + 1 : Nat) : Int) := ix_add hTm2 (by omega) k1 (by decide)
        have := ih (t + 1) n m s' sr2 (T + 1) (Tm + 1) (by omega) (by omega) eT1 (by omega) (by omega) (fixc s' q2) hrk hgR (fun t' n' x1 x2 x3 => absurd x3 (by omega)) (by rw [eTm1]; congr 1; omega)
        rcases this with w | ⟨sc', sr', m', Tm', w1, w2, w3, w4⟩
        · exact Or.inl w
        · exact Or.inr ⟨sc', sr', m', Tm', w1, fun b hb => (w2 b hb).trans (q2 b hb), w3.trans q3, w4⟩

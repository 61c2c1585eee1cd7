/-- one minute of the reference -/
theorem rt1_cg {s s' : mh_H} (h : ∀ b, b ≠ 96 → s'.1 b = s.1 b) {T : Int32} {t i nn t' n' : Nat} : mh_rt1 s' T t i nn t' n' ↔ mh_rt1 s T t i nn t' n' := by
  unfold mh_rt1
  rw [h 90 (by decide), h 91 (by decide), h 92 (by decide), h 93 (by decide), h 95 (by decide)]
theorem rQr_cg {s s' : mh_H} (h : ∀ b, b ≠ 96 → s'.1 b = s.1 b) (hQ : mh_rQr s) : mh_rQr s' := by
  unfold mh_rQr at hQ ⊢
  rw [h 90 (by decide), h 91 (by decide), h 92 (by decide), h 93 (by decide), h 95 (by decide)]
  exact hQ
theorem rt1_lt {s : mh_H} (hQ : mh_rQr s) {T : Int32} {t i nn t' n' : Nat} (hi : i < 20) (hT : T.toInt = (t : Int)) (h : mh_rt1 s T t i nn t' n') : t < t' := by
  obtain ⟨h1, h2, h3, h4, -⟩ := h
  obtain ⟨-, -, hl⟩ := (hQ.1 i hi).resolve_left h1
  have yb := hQ.2 (30 * i + t / 10) (by omega)
  have ar := ar_i (t := t) hl (y := s.1 95 (30 * i + t / 10)) ⟨by have := yb.1; omega, yb.2⟩ hT (by omega)
  omega
def mh_rE (s : mh_H) (p4 T : Int32) (t k t' n' : Nat) : Prop := ∃ nn, nn < k ∧ s.1 96 (10 * t + nn) = 1 ∧ ((p4.toInt = 0 ∧ t' = t + 1 ∧ n' = nn) ∨ ∃ i, i < 20 ∧ mh_rt1 s T t i nn t' n')
theorem rE_lt {s : mh_H} (hQ : mh_rQr s) {p4 T : Int32} {t k t' n' : Nat} (hT : T.toInt = (t : Int)) (h : mh_rE s p4 T t k t' n') : t < t' := by
  obtain ⟨nn, h1, h2, h3 | ⟨i, h3, h4⟩⟩ := h
  · omega
  · exact rt1_lt hQ h3 hT h4
theorem rm_lp {s : mh_H} (hQ : mh_rQr s) (h01 : mh_t01 s) (lo : mh_H → Int32 → Int32 × mh_H) {p4 T Z : Int32} {t : Nat} (hT : T.toInt = (t : Int)) (ht : t ≤ 300) (hZ : Z.toInt = ((10 * t : Nat) : Int)) (Post : Int32 × mh_H → Prop) (kk : ∀ s' : mh_H, (∀ t' n', t' ≤ 300 → n' < 10 → (s'.1 96 (10 * t' + n') = 1 ↔ (s.1 96 (10 * t' + n') = 1 ∨ mh_rE s p4 T t 10 t' n'))) → (∀ b, b ≠ 96 → s'.1 b = s.1 b) → s'.2 = s.2 → mh_t01 s' → Post (lo s' (T + 1))) : Post (l_eX10_soonest_112_3 lo p4 T Z 11 s 0) := by
  have k10 : (10 : Int32).toInt = 10 := rfl
  have k1 : (1 : Int32).toInt = ((1 : Nat) : Int) := rfl
  have eT1 : (T + 1).toInt = ((t + 1 : Nat) : Int) := ix_add hT (by omega) k1 (by decide)
  refine mh_for (l_eX10_soonest_112_3 lo p4 T Z) 10 (fun s' k => (∀ t' n', t' ≤ 300 → n' < 10 → (s'.1 96 (10 * t' + n') = 1 ↔ (s.1 96 (10 * t' + n') = 1 ∨ mh_rE s p4 T t k t' n'))) ∧ (∀ b, b ≠ 96 → s'.1 b = s.1 b) ∧ s'.2 = s.2 ∧ mh_t01 s') Post (by decide) ?_ ?_ 11 s 0 0 rfl (by decide) ⟨fun t' n' _ _ => ⟨fun h => Or.inl h, fun h => by
    rcases h with h | ⟨i, h, _⟩
    · exact h
    · exact absurd h (Nat.not_lt_zero i)⟩, fun _ _ => rfl, rfl, h01⟩ (by decide)
  · intro n s' x m hx hm ⟨h1, h2, h3, h4⟩
    -- minute t itself stays
    have row : s'.1 96 (10 * t + m) = s.1 96 (10 * t + m) := by
      have e := h1 t m ht hm
      have no : ¬ mh_rE s p4 T t m t m := fun z => by have := rE_lt hQ hT z; omega
      rcases h4 (10 * t + m) (by omega) with z | z <;> rcases h01 (10 * t + m) (by omega) with y | y
      · rw [z, y]
      · exact absurd (e.2 (Or.inl y)) (by rw [z]; decide)
      · rcases e.1 z with w | w
        · rw [y] at w; exact absurd w (by decide)
        · exact absurd w no
      · rw [z, y]
    have eI : (Z + x).toInt = ((10 * t + m : Nat) : Int) := by
      rw [Int32.toInt_add, hZ, hx, Int.bmod_eq_of_le (by omega) (by omega)]; omega
    rw [l_eX10_soonest_112_3_s]
    unfold ls_eX10_soonest_112_3
    simp only [mh_lbE]
    rw [if_pos (by omega), ix_n eI, row]
    rcases h01 (10 * t + m) (by omega) with z | z
    · rw [z, if_pos (by decide)]
      refine ⟨s', ⟨fun t' n' ht' hn' => (h1 t' n' ht' hn').trans ⟨fun q => ?_, fun q => ?_⟩, h2, h3, h4⟩, ?_⟩
      · rcases q with q | ⟨nn, q1, q2⟩
        · exact Or.inl q
        · exact Or.inr ⟨nn, by omega, q2⟩
      · rcases q with q | ⟨nn, q1, q2, q3⟩
        · exact Or.inl q
        · refine Or.inr ⟨nn, ?_, q2, q3⟩
          have : nn ≠ m := fun e => by rw [e, z] at q2; exact absurd q2 (by decide)
          omega
      · unfold j_eX10_soonest_258_4
        rw [mh_lbE]
    · rw [z, if_neg (by decide)]
      have go : ∀ q : mh_H, (∀ t' n', t' ≤ 300 → n' < 10 → (q.1 96 (10 * t' + n') = 1 ↔ (s'.1 96 (10 * t' + n') = 1 ∨ (p4.toInt = 0 ∧ t' = t + 1 ∧ n' = m)))) → (∀ b, b ≠ 96 → q.1 b = s.1 b) → q.2 = s.2 → mh_t01 q → ∃ s2 : mh_H, ((∀ t' n', t' ≤ 300 → n' < 10 → (s2.1 96 (10 * t' + n') = 1 ↔ (s.1 96 (10 * t' + n') = 1 ∨ mh_rE s p4 T t (m + 1) t' n'))) ∧ (∀ b, b ≠ 96 → s2.1 b = s.1 b) ∧ s2.2 = s.2 ∧ mh_t01 s2) ∧ j_eX10_soonest_153_5 (l_eX10_soonest_112_3 lo p4 T Z n) q T x = l_eX10_soonest_112_3 lo p4 T Z n s2 (x + 1) := by
        intro q c1 c2 c3 c4
        unfold j_eX10_soonest_153_5
        refine ri_lp (rQr_cg c2 hQ) c4 (l_eX10_soonest_112_3 lo p4 T Z n) hT ht hx (fun r => ∃ s2 : mh_H, ((∀ t' n', t' ≤ 300 → n' < 10 → (s2.1 96 (10 * t' + n') = 1 ↔ (s.1 96 (10 * t' + n') = 1 ∨ mh_rE s p4 T t (m + 1) t' n'))) ∧ (∀ b, b ≠ 96 → s2.1 b = s.1 b) ∧ s2.2 = s.2 ∧ mh_t01 s2) ∧ r = l_eX10_soonest_112_3 lo p4 T Z n s2 (x + 1)) (fun s2 d1 d2 d3 d4 => ⟨s2, ⟨fun t' n' ht' hn' => ?_, fun b hb => (d2 b hb).trans (c2 b hb), d3.trans c3, d4⟩, rfl⟩)
        rw [d1 t' n' ht' hn', c1 t' n' ht' hn', h1 t' n' ht' hn']
        constructor
        · rintro (((w | ⟨nn, w1, w2⟩) | w) | ⟨i, w1, w2⟩)
          · exact Or.inl w
          · exact Or.inr ⟨nn, by omega, w2⟩
          · exact Or.inr ⟨m, by omega, z, Or.inl w⟩
          · exact Or.inr ⟨m, by omega, z, Or.inr ⟨i, w1, (rt1_cg c2).1 w2⟩⟩
        · rintro (w | ⟨nn, w1, w2, w3⟩)
          · exact Or.inl (Or.inl (Or.inl w))
          · by_cases y : nn = m
            · subst y
              rcases w3 with w3 | ⟨i, w3, w4⟩
              · exact Or.inl (Or.inr w3)
              · exact Or.inr ⟨i, w3, (rt1_cg c2).2 w4⟩
            · exact Or.inl (Or.inl (Or.inr ⟨nn, by omega, w2, w3⟩))
      by_cases gw : p4.toInt = 0
      · rw [if_pos gw]
        obtain ⟨p1, p2, p3, p4'⟩ := ar_put (s := s') (A := T + 1) hx hm ⟨by omega, by omega⟩ h4
        refine go _ (fun t' n' ht' hn' => (p1 t' n' ht' hn').trans ⟨fun w => ?_, fun w => ?_⟩) (fun b hb => (p2 b hb).trans (h2 b hb)) (p3.trans h3) p4'
        · rcases w with w | w
          · exact Or.inl w
          · exact Or.inr ⟨gw, by omega, by omega⟩
        · rcases w with w | w
          · exact Or.inl w
          · exact Or.inr ⟨by omega, by omega⟩
      · rw [if_neg gw]
        exact go s' (fun t' n' _ _ => ⟨fun w => Or.inl w, fun w => by
          rcases w with w | w
          · exact w
          · exact absurd w.1 gw⟩) h2 h3 h4
  · intro n s' x hx ⟨h1, h2, h3, h4⟩
    rw [l_eX10_soonest_112_3_s]
    unfold ls_eX10_soonest_112_3
    simp only [mh_lbE]
    rw [if_neg (by omega)]
    exact kk s' h1 h2 h3 h4
/-- one minute of the class -/
def mh_cEm (s : mh_H) (W T : Int32) (t t' n' : Nat) : Prop := (¬ W.toInt = 0 ∧ t' = t + 1 ∧ mh_tb (s.1 28 t) n' = 1) ∨ ∃ i, i < 20 ∧ mh_gi s T t i (fun n => mh_tb (s.1 28 t) n = 1) t' n'
theorem gm_c {s : mh_H} (hQ : mh_gQ s) {P B W T : Int32} {t : Nat} (hT : T.toInt = (t : Int)) (ht : t < 300) (hB : T.toInt < (B + 10).toInt) (n : Nat) (hno : (f_eX5_isAt s P T).toInt = 0) : ∃ s', (∀ t' n', t' ≤ 300 → n' < 10 → (mh_tb (s'.1 28 t') n' = 1 ↔ (mh_tb (s.1 28 t') n' = 1 ∨ mh_cEm s W T t t' n'))) ∧ (∀ b, b ≠ 28 → s'.1 b = s.1 b) ∧ s'.2 = s.2 ∧ l_eX5_go_3_1 P B W (n + 1) s T = l_eX5_go_3_1 P B W n s' (T + 1) := by
  have k300 : (300 : Int32).toInt = 300 := rfl
  have k1 : (1 : Int32).toInt = ((1 : Nat) : Int) := rfl
  have eT1 : (T + 1).toInt = ((t + 1 : Nat) : Int) := ix_add hT (by omega) k1 (by decide)
  rw [l_eX5_go_3_1_s]
  unfold ls_eX5_go_3_1
  simp only [mh_lbE]
  have hmi : T.toInt < (mh_mi32 (B + 10) 300).toInt := by rw [mh_mi32_i]; omega
  rw [if_pos hmi, if_pos hno, ix_n hT]
  -- behind those who go in
  have wt : ∀ q : mh_H, (∀ t' n', t' ≤ 300 → n' < 10 → (mh_tb (q.1 28 t') n' = 1 ↔ (mh_tb (s.1 28 t') n' = 1 ∨ ∃ i, i < 20 ∧ mh_gi s T t i (fun n => mh_tb (s.1 28 t) n = 1) t' n'))) → (∀ n', n' < 10 → (mh_tb (q.1 28 t) n' = 1 ↔ mh_tb (s.1 28 t) n' = 1)) → (∀ b, b ≠ 28 → q.1 b = s.1 b) → q.2 = s.2 → ∃ s', (∀ t' n', t' ≤ 300 → n' < 10 → (mh_tb (s'.1 28 t') n' = 1 ↔ (mh_tb (s.1 28 t') n' = 1 ∨ mh_cEm s W T t t' n'))) ∧ (∀ b, b ≠ 28 → s'.1 b = s.1 b) ∧ s'.2 = s.2 ∧ j_eX5_go_47_2 (l_eX5_go_3_1 P B W n) q W T = l_eX5_go_3_1 P B W n s' (T + 1) := by
    intro q c1 c0 c2 c3
    unfold j_eX5_go_47_2 j_eX5_go_70_3
    simp only [mh_lbE]
    by_cases gw : W.toInt = 0
    · rw [if_pos gw]
      refine ⟨q, fun t' n' ht' hn' => (c1 t' n' ht' hn').trans ⟨fun w => ?_, fun w => ?_⟩, c2, c3, rfl⟩
      · rcases w with w | w
        · exact Or.inl w
        · exact Or.inr (Or.inr w)
      · rcases w with w | w | w
        · exact Or.inl w
        · exact absurd gw w.1
        · exact Or.inr w
    · rw [if_neg gw, ix_n eT1, ix_n hT]
      refine ⟨mh_pI q 28 (t + 1) (q.1 28 (t + 1) ||| q.1 28 t), fun t' n' ht' hn' => ?_, fun b hb => (pI_row hb).trans (c2 b hb), c3, rfl⟩
      by_cases g : t' = t + 1
      · subst g
        rw [pI_w, tb_or]
        have orr : mh_tb (q.1 28 (t + 1)) n' ||| mh_tb (q.1 28 t) n' = 1 ↔ (mh_tb (q.1 28 (t + 1)) n' = 1 ∨ mh_tb (q.1 28 t) n' = 1) := by
          rcases tb_b (q.1 28 (t + 1)) n' with z | z <;> rcases tb_b (q.1 28 t) n' with y | y <;> rw [z, y] <;> decide
        rw [orr, c1 (t + 1) n' ht' hn', c0 n' hn']
        constructor
        · rintro ((w | w) | w)
          · exact Or.inl w
          · exact Or.inr (Or.inr w)
          · exact Or.inr (Or.inl ⟨gw, rfl, w⟩)
        · rintro (w | w | w)
          · exact Or.inl (Or.inl w)
          · exact Or.inr w.2.2
          · exact Or.inl (Or.inr w)
      · rw [pI_j g]
        refine (c1 t' n' ht' hn').trans ⟨fun w => ?_, fun w => ?_⟩
        · rcases w with w | w
          · exact Or.inl w
          · exact Or.inr (Or.inr w)
        · rcases w with w | w | w
          · exact Or.inl w
          · exact absurd w.2.1 g
          · exact Or.inr w
  by_cases g0 : (s.1 28 t).toInt = 0
  · rw [if_pos g0]
    have e0 : s.1 28 t = 0 := Int32.toInt_inj.mp (by rw [g0]; rfl)
    have z0 : ∀ i : Fin 10, mh_tb 0 i.val = 0 := by decide +kernel
    refine wt s (fun t' n' ht' hn' => ⟨fun w => Or.inl w, fun w => ?_⟩) (fun n' _ => Iff.rfl) (fun _ _ => rfl) rfl
    rcases w with w | ⟨i, w1, -, -, -, a, b, w2, w3, -, -, w4⟩
    · exact w
    · rcases w4 with w4 | w4
      · have this : mh_tb (s.1 28 t) a = 1 := w4.1
        rw [show mh_tb (s.1 28 t) a = 0 by rw [e0]; exact z0 ⟨a, w2⟩] at this
        exact absurd this (by decide)
      · have this : mh_tb (s.1 28 t) b = 1 := w4.1
        rw [show mh_tb (s.1 28 t) b = 0 by rw [e0]; exact z0 ⟨b, w3⟩] at this
        exact absurd this (by decide)
  · rw [if_neg g0]
    obtain ⟨c1, c2, c3⟩ := gi_c hQ hT ht
    refine wt _ c1 (fun n' hn' => (c1 t n' (by omega) hn').trans ⟨fun w => ?_, fun w => Or.inl w⟩) c2 c3
    rcases w with w | ⟨i, w1, w2, w3, w4, -⟩
    · exact w
    · exfalso
      rcases (hQ i w1).1 with ⟨-, -, z⟩ | z
      · have ar := ar_i (t := t) z (y := s.1 27 i) ⟨by omega, (hQ i w1).2.2⟩ hT (by omega)
        omega
      · rw [z] at w2
        exact absurd w2 (by decide)

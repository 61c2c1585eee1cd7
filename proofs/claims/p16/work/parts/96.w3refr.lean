/-- the reference on the roads -/
def mh_t01 (s : mh_H) : Prop := ∀ j, j < 3010 → s.1 96 j = 0 ∨ s.1 96 j = 1
theorem ar_put {s : mh_H} {P A : Int32} {node : Nat} (hP : P.toInt = (node : Int)) (hn : node < 10) (hA : 0 ≤ A.toInt ∧ A.toInt ≤ 20000) (h01 : mh_t01 s) : (∀ t' n', t' ≤ 300 → n' < 10 → ((f_eX10_arrives s P A).1 96 (10 * t' + n') = 1 ↔ (s.1 96 (10 * t' + n') = 1 ∨ (A.toInt = (t' : Int) ∧ node = n')))) ∧ (∀ b, b ≠ 96 → (f_eX10_arrives s P A).1 b = s.1 b) ∧ (f_eX10_arrives s P A).2 = s.2 ∧ mh_t01 (f_eX10_arrives s P A) := by
  have k300 : (300 : Int32).toInt = 300 := rfl
  have k10 : (10 : Int32).toInt = 10 := rfl
  unfold f_eX10_arrives
  simp only [mh_lbE]
  by_cases g : 300 < A.toInt
  · rw [if_pos (show (300 : Int32).toInt < A.toInt by omega)]
    exact ⟨fun t' n' ht' _ => ⟨fun q => Or.inl q, fun q => by
      rcases q with q | q
      · exact q
      · have := q.1; omega⟩, fun _ _ => rfl, rfl, h01⟩
  · rw [if_neg (show ¬ (300 : Int32).toInt < A.toInt by omega)]
    obtain ⟨tA, htA⟩ : ∃ q : Nat, A.toInt = (q : Int) := ⟨A.toInt.toNat, by omega⟩
    have e1 : ((10 : Int32) * A).toInt = 10 * A.toInt := by rw [Int32.toInt_mul, k10, Int.bmod_eq_of_le (by omega) (by omega)]
    have e2 : ((10 : Int32) * A + P).toInt = ((10 * tA + node : Nat) : Int) := by rw [Int32.toInt_add, e1, Int.bmod_eq_of_le (by omega) (by omega)]; omega
    rw [ix_n e2]
    refine ⟨fun t' n' ht' hn' => ?_, fun b hb => pI_row hb, rfl, fun j hj => ?_⟩
    · rw [pI_v]
      by_cases y : 10 * t' + n' = 10 * tA + node
      · rw [if_pos ⟨rfl, y⟩]
        exact ⟨fun _ => Or.inr (by omega), fun _ => rfl⟩
      · rw [if_neg (fun z => y z.2)]
        refine ⟨fun q => Or.inl q, fun q => ?_⟩
        rcases q with q | q
        · exact q
        · exact absurd (by omega) y
    · rw [pI_v]
      split
      · exact Or.inr rfl
      · exact h01 j hj
theorem out_eq {s : mh_H} {P T : Int32} {i t : Nat} (hP : P.toInt = (i : Int)) (hi : i < 20) (hT : T.toInt = (t : Int)) (ht : t ≤ 300) : f_eX10_outOf s P T = if t < 300 ∧ ¬ (s.1 95 (30 * i + t / 10)).toInt = 0 then mh_ar (s.1 93 i) (s.1 95 (30 * i + t / 10)) T else 1000000000 := by
  have k300 : (300 : Int32).toInt = 300 := rfl
  have k30 : (30 : Int32).toInt = 30 := rfl
  have k10 : (10 : Int32).toInt = 10 := rfl
  unfold f_eX10_outOf
  simp only [mh_lbE]
  by_cases g : t < 300
  · rw [if_pos (show T.toInt < (300 : Int32).toInt by omega)]
    have e1 : ((30 : Int32) * P).toInt = 30 * P.toInt := by rw [Int32.toInt_mul, k30, Int.bmod_eq_of_le (by omega) (by omega)]
    have e2 : (T / 10).toInt = ((t / 10 : Nat) : Int) := by rw [Int32.toInt_div, k10, hT, Int.tdiv_eq_ediv_of_nonneg (by omega), Int.bmod_eq_of_le (by omega) (by omega)]; omega
    have e3 : ((30 : Int32) * P + T / 10).toInt = ((30 * i + t / 10 : Nat) : Int) := by rw [Int32.toInt_add, e1, e2, Int.bmod_eq_of_le (by omega) (by omega)]; omega
    rw [ix_n e3]
    unfold j_eX10_outOf_25_1
    simp only [mh_lbE]
    rw [ix_n hP]
    by_cases y : (s.1 95 (30 * i + t / 10)).toInt = 0
    · rw [if_pos y, if_neg (fun z => z.2 y)]
    · rw [if_neg y, if_pos ⟨g, y⟩]
      rfl
  · rw [if_neg (show ¬ T.toInt < (300 : Int32).toInt by omega), if_neg (fun z => g z.1)]
    unfold j_eX10_outOf_25_1
    rw [if_pos (by decide)]
def mh_rt1 (s : mh_H) (T : Int32) (t i nn t' n' : Nat) : Prop := ¬ (s.1 90 i).toInt = 0 ∧ t < 300 ∧ ¬ (s.1 95 (30 * i + t / 10)).toInt = 0 ∧ (mh_ar (s.1 93 i) (s.1 95 (30 * i + t / 10)) T).toInt = (t' : Int) ∧ (((s.1 91 i).toInt = (nn : Int) ∧ (s.1 92 i).toInt = (n' : Int)) ∨ ((s.1 92 i).toInt = (nn : Int) ∧ (s.1 91 i).toInt = (n' : Int)))
def mh_rQr (s : mh_H) : Prop := (∀ i, i < 20 → (s.1 90 i).toInt = 0 ∨ ((∃ a : Nat, a < 10 ∧ (s.1 91 i).toInt = (a : Int)) ∧ (∃ b : Nat, b < 10 ∧ (s.1 92 i).toInt = (b : Int)) ∧ mh_r (s.1 93 i) 1 99)) ∧ ∀ j, j < 600 → mh_r (s.1 95 j) 0 999
theorem ri_lp {s : mh_H} (hQ : mh_rQr s) (h01 : mh_t01 s) (lo : mh_H → Int32 → Int32 × mh_H) {T X : Int32} {t nn : Nat} (hT : T.toInt = (t : Int)) (ht : t ≤ 300) (hX : X.toInt = (nn : Int)) (Post : Int32 × mh_H → Prop) (kk : ∀ s' : mh_H, (∀ t' n', t' ≤ 300 → n' < 10 → (s'.1 96 (10 * t' + n') = 1 ↔ (s.1 96 (10 * t' + n') = 1 ∨ ∃ i, i < 20 ∧ mh_rt1 s T t i nn t' n'))) → (∀ b, b ≠ 96 → s'.1 b = s.1 b) → s'.2 = s.2 → mh_t01 s' → Post (lo s' (X + 1))) : Post (l_eX10_soonest_156_6 lo T X 21 s 0) := by
  have k20 : (20 : Int32).toInt = 20 := rfl
  refine mh_for (l_eX10_soonest_156_6 lo T X) 20 (fun s' k => (∀ t' n', t' ≤ 300 → n' < 10 → (s'.1 96 (10 * t' + n') = 1 ↔ (s.1 96 (10 * t' + n') = 1 ∨ ∃ i, i < k ∧ mh_rt1 s T t i nn t' n'))) ∧ (∀ b, b ≠ 96 → s'.1 b = s.1 b) ∧ s'.2 = s.2 ∧ mh_t01 s') Post (by decide) ?_ ?_ 21 s 0 0 rfl (by decide) ⟨fun t' n' _ _ => ⟨fun h => Or.inl h, fun h => by
    rcases h with h | ⟨i, h, _⟩
    · exact h
    · exact absurd h (Nat.not_lt_zero i)⟩, fun _ _ => rfl, rfl, h01⟩ (by decide)
  · intro n s' x m hx hm ⟨h1, h2, h3, h4⟩
    have e90 : s'.1 90 m = s.1 90 m := congrFun (h2 90 (by decide)) m
    have nx : ∀ q : mh_H, j_eX10_soonest_252_7 (l_eX10_soonest_156_6 lo T X n) q x = l_eX10_soonest_156_6 lo T X n q (x + 1) := fun q => by
      unfold j_eX10_soonest_252_7
      rw [mh_lbE]
    have skip : (∀ t' n', t' ≤ 300 → n' < 10 → ¬ mh_rt1 s T t m nn t' n') → ((∀ t' n', t' ≤ 300 → n' < 10 → (s'.1 96 (10 * t' + n') = 1 ↔ (s.1 96 (10 * t' + n') = 1 ∨ ∃ i, i < m + 1 ∧ mh_rt1 s T t i nn t' n'))) ∧ (∀ b, b ≠ 96 → s'.1 b = s.1 b) ∧ s'.2 = s.2 ∧ mh_t01 s') := by
      intro no
      refine ⟨fun t' n' ht' hn' => (h1 t' n' ht' hn').trans ⟨fun q => ?_, fun q => ?_⟩, h2, h3, h4⟩
      · rcases q with q | ⟨i, q1, q2⟩
        · exact Or.inl q
        · exact Or.inr ⟨i, by omega, q2⟩
      · rcases q with q | ⟨i, q1, q2⟩
        · exact Or.inl q
        · refine Or.inr ⟨i, ?_, q2⟩
          have : i ≠ m := fun e => no t' n' ht' hn' (e ▸ q2)
          omega
    rw [l_eX10_soonest_156_6_s]
    unfold ls_eX10_soonest_156_6
    simp only [mh_lbE]
    rw [if_pos (by omega), ix_n hx, e90]
    by_cases g90 : (s.1 90 m).toInt = 0
    · rw [if_pos g90]
      exact ⟨s', skip (fun t' n' _ _ z => z.1 g90), nx s'⟩
    · rw [if_neg g90]
      obtain ⟨⟨a, ha1, ha2⟩, ⟨b, hb1, hb2⟩, hlen⟩ := (hQ.1 m hm).resolve_left g90
      have oe : ∀ q : mh_H, (∀ b, b ≠ 96 → q.1 b = s.1 b) → f_eX10_outOf q x T = if t < 300 ∧ ¬ (s.1 95 (30 * m + t / 10)).toInt = 0 then mh_ar (s.1 93 m) (s.1 95 (30 * m + t / 10)) T else 1000000000 := fun q hq => by
        rw [out_eq hx hm hT ht, hq 95 (by decide), hq 93 (by decide)]
      rw [oe s' h2, h2 91 (by decide)]
      by_cases gy : t < 300 ∧ ¬ (s.1 95 (30 * m + t / 10)).toInt = 0
      · rw [if_pos gy]
        have yb := hQ.2 (30 * m + t / 10) (by omega)
        have ar := ar_i (t := t) hlen (y := s.1 95 (30 * m + t / 10)) ⟨by have := yb.1; omega, yb.2⟩ hT (by omega)
        have kM : (1000000000 : Int32).toInt = 1000000000 := rfl
        rw [if_neg (show ¬ (mh_ar (s.1 93 m) (s.1 95 (30 * m + t / 10)) T).toInt = (1000000000 : Int32).toInt by omega)]
        -- the first end
        have one : ∀ q : mh_H, (∀ b, b ≠ 96 → q.1 b = s.1 b) → mh_t01 q → ∃ q2 : mh_H, (∀ t' n', t' ≤ 300 → n' < 10 → (q2.1 96 (10 * t' + n') = 1 ↔ (q.1 96 (10 * t' + n') = 1 ∨ ((s.1 92 m).toInt = (nn : Int) ∧ (mh_ar (s.1 93 m) (s.1 95 (30 * m + t / 10)) T).toInt = (t' : Int) ∧ a = n')))) ∧ (∀ b, b ≠ 96 → q2.1 b = s.1 b) ∧ q2.2 = q.2 ∧ mh_t01 q2 ∧ j_eX10_soonest_221_8 (l_eX10_soonest_156_6 lo T X n) q T X x = l_eX10_soonest_156_6 lo T X n q2 (x + 1) := by
          intro q hq hq01
          unfold j_eX10_soonest_221_8
          simp only [mh_lbE]
          rw [ix_n hx, hq 92 (by decide), hq 91 (by decide), oe q hq, if_pos gy]
          by_cases gb : (s.1 92 m).toInt = X.toInt
          · rw [if_pos gb]
            obtain ⟨p1, p2, p3, p4⟩ := ar_put (s := q) ha2 ha1 ⟨by omega, ar.2⟩ hq01
            exact ⟨_, fun t' n' ht' hn' => (p1 t' n' ht' hn').trans ⟨fun z => by
              rcases z with z | z
              · exact Or.inl z
              · exact Or.inr ⟨by omega, z⟩, fun z => by
              rcases z with z | z
              · exact Or.inl z
              · exact Or.inr z.2⟩, fun b hb => (p2 b hb).trans (hq b hb), p3, p4, nx _⟩
          · rw [if_neg gb]
            exact ⟨q, fun t' n' _ _ => ⟨fun z => Or.inl z, fun z => by
              rcases z with z | z
              · exact z
              · exact absurd (by omega) gb⟩, hq, rfl, hq01, nx q⟩
        have fin : ∀ (q q2 : mh_H), (∀ t' n', t' ≤ 300 → n' < 10 → (q.1 96 (10 * t' + n') = 1 ↔ (s'.1 96 (10 * t' + n') = 1 ∨ ((s.1 91 m).toInt = (nn : Int) ∧ (mh_ar (s.1 93 m) (s.1 95 (30 * m + t / 10)) T).toInt = (t' : Int) ∧ b = n')))) → (∀ t' n', t' ≤ 300 → n' < 10 → (q2.1 96 (10 * t' + n') = 1 ↔ (q.1 96 (10 * t' + n') = 1 ∨ ((s.1 92 m).toInt = (nn : Int) ∧ (mh_ar (s.1 93 m) (s.1 95 (30 * m + t / 10)) T).toInt = (t' : Int) ∧ a = n')))) → ∀ t' n', t' ≤ 300 → n' < 10 → (q2.1 96 (10 * t' + n') = 1 ↔ (s.1 96 (10 * t' + n') = 1 ∨ ∃ i, i < m + 1 ∧ mh_rt1 s T t i nn t' n')) := by
          intro q q2 c1 c2 t' n' ht' hn'
          rw [c2 t' n' ht' hn', c1 t' n' ht' hn', h1 t' n' ht' hn']
          constructor
          · rintro (((z | ⟨i, z1, z2⟩) | ⟨z1, z2, z3⟩) | ⟨z1, z2, z3⟩)
            · exact Or.inl z
            · exact Or.inr ⟨i, by omega, z2⟩
            · exact Or.inr ⟨m, by omega, g90, gy.1, gy.2, z2, Or.inl ⟨z1, by rw [hb2, z3]⟩⟩
            · exact Or.inr ⟨m, by omega, g90, gy.1, gy.2, z2, Or.inr ⟨z1, by rw [ha2, z3]⟩⟩
          · rintro (z | ⟨i, z1, z2⟩)
            · exact Or.inl (Or.inl (Or.inl z))
            · by_cases y : i = m
              · rw [y] at z2
                obtain ⟨-, -, -, w1, w2⟩ := z2
                rcases w2 with ⟨w2, w3⟩ | ⟨w2, w3⟩
                · exact Or.inl (Or.inr ⟨w2, w1, by omega⟩)
                · exact Or.inr ⟨w2, w1, by omega⟩
              · exact Or.inl (Or.inl (Or.inr ⟨i, by omega, z2⟩))
        by_cases ga : (s.1 91 m).toInt = X.toInt
        · rw [if_pos ga, h2 92 (by decide)]
          obtain ⟨p1, p2, p3, p4⟩ := ar_put (s := s') hb2 hb1 ⟨by omega, ar.2⟩ h4
          have p2' : ∀ b, b ≠ 96 → (f_eX10_arrives s' (s.1 92 m) (mh_ar (s.1 93 m) (s.1 95 (30 * m + t / 10)) T)).1 b = s.1 b := fun b hb => (p2 b hb).trans (h2 b hb)
          generalize f_eX10_arrives s' (s.1 92 m) (mh_ar (s.1 93 m) (s.1 95 (30 * m + t / 10)) T) = q at p1 p2' p3 p4 ⊢
          obtain ⟨q2, r1, r2, r3, r4, r5⟩ := one q p2' p4
          refine ⟨q2, ⟨fin q q2 (fun t' n' ht' hn' => (p1 t' n' ht' hn').trans ⟨fun z => ?_, fun z => ?_⟩) r1, r2, r3.trans (p3.trans h3), r4⟩, r5⟩
          · rcases z with z | z
            · exact Or.inl z
            · exact Or.inr ⟨by omega, z⟩
          · rcases z with z | z
            · exact Or.inl z
            · exact Or.inr z.2
        · rw [if_neg ga]
          obtain ⟨q2, r1, r2, r3, r4, r5⟩ := one s' h2 h4
          refine ⟨q2, ⟨fin s' q2 (fun t' n' ht' hn' => ⟨fun z => Or.inl z, fun z => ?_⟩) r1, r2, r3.trans h3, r4⟩, r5⟩
          rcases z with z | z
          · exact z
          · exact absurd (by omega) ga
      · rw [if_neg gy, if_pos rfl]
        exact ⟨s', skip (fun t' n' _ _ z => gy ⟨z.2.1, z.2.2.1⟩), nx s'⟩
  · intro n s' x hx ⟨h1, h2, h3, h4⟩
    rw [l_eX10_soonest_156_6_s]
    unfold ls_eX10_soonest_156_6
    rw [if_neg (by omega)]
    unfold j_eX10_soonest_258_4
    rw [mh_lbE]
    exact kk s' h1 h2 h3 h4

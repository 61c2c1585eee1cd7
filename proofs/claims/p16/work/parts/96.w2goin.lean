/-- one minute on the roads: who goes in at minute t comes out when -/
def mh_ar (len y T : Int32) : Int32 := T + ((100 : Int32) * len + y - 1) / y
theorem ar_i {len y T : Int32} {t : Nat} (hl : mh_r len 1 99) (hy : 1 ≤ y.toInt ∧ y.toInt ≤ 999) (hT : T.toInt = (t : Int)) (ht : t ≤ 300) : (t : Int) < (mh_ar len y T).toInt ∧ (mh_ar len y T).toInt ≤ 20000 := by
  have k100 : (100 : Int32).toInt = 100 := rfl
  have k1 : (1 : Int32).toInt = 1 := rfl
  have h1 := hl.1
  have h2 := hl.2
  have e1 : ((100 : Int32) * len).toInt = 100 * len.toInt := by rw [Int32.toInt_mul, k100, Int.bmod_eq_of_le (by omega) (by omega)]
  have e2 : ((100 : Int32) * len + y).toInt = 100 * len.toInt + y.toInt := by rw [Int32.toInt_add, e1, Int.bmod_eq_of_le (by omega) (by omega)]
  have e3 : ((100 : Int32) * len + y - 1).toInt = 100 * len.toInt + y.toInt - 1 := by rw [Int32.toInt_sub, e2, k1, Int.bmod_eq_of_le (by omega) (by omega)]
  have d1 : 1 ≤ (100 * len.toInt + y.toInt - 1) / y.toInt := by
    have : y.toInt * 1 ≤ 100 * len.toInt + y.toInt - 1 := by omega
    exact (Int.le_ediv_iff_mul_le (by omega)).mpr (by omega)
  have d2 : (100 * len.toInt + y.toInt - 1) / y.toInt ≤ 100 * len.toInt + y.toInt - 1 := Int.ediv_le_self _ (by omega)
  have e4 : (((100 : Int32) * len + y - 1) / y).toInt = (100 * len.toInt + y.toInt - 1) / y.toInt := by
    rw [Int32.toInt_div, e3, Int.tdiv_eq_ediv_of_nonneg (by omega), Int.bmod_eq_of_le (by omega) (by omega)]
  unfold mh_ar
  rw [Int32.toInt_add, hT, e4, Int.bmod_eq_of_le (by omega) (by omega)]
  omega
/-- the roads' data of the class, and what goes in at minute t -/
def mh_gi (s : mh_H) (T : Int32) (t i : Nat) (S : Nat → Prop) (t' n' : Nat) : Prop := mh_tb (s.1 23 5) i = 1 ∧ 0 < (s.1 27 i).toInt ∧ (mh_ar (s.1 25 i) (s.1 27 i) T).toInt = (t' : Int) ∧ ∃ a b : Nat, a < 10 ∧ b < 10 ∧ s.1 24 i = mh_mk a b ∧ a ≠ b ∧ ((S a ∧ n' = b) ∨ (S b ∧ n' = a))
def mh_gQ (s : mh_H) : Prop := ∀ i, i < 20 → ((mh_tb (s.1 23 5) i = 1 ∧ (∃ a b : Nat, a < 10 ∧ b < 10 ∧ a ≠ b ∧ s.1 24 i = mh_mk a b) ∧ mh_r (s.1 25 i) 1 99) ∨ mh_tb (s.1 23 5) i = 0) ∧ mh_r (s.1 27 i) 0 999
theorem mk_inj (a b c d : Fin 10) : mh_mk a.val b.val = mh_mk c.val d.val → a.val ≠ b.val → c.val ≠ d.val → (a.val = c.val ∧ b.val = d.val) ∨ (a.val = d.val ∧ b.val = c.val) := by
  revert a b c d
  decide +kernel
theorem gi_c {s : mh_H} (hQ : mh_gQ s) {T : Int32} {t : Nat} (hT : T.toInt = (t : Int)) (ht : t < 300) : (∀ t' n', t' ≤ 300 → n' < 10 → (mh_tb ((f_eX5_goIn s T).1 28 t') n' = 1 ↔ (mh_tb (s.1 28 t') n' = 1 ∨ ∃ i, i < 20 ∧ mh_gi s T t i (fun n => mh_tb (s.1 28 t) n = 1) t' n'))) ∧ (∀ b, b ≠ 28 → (f_eX5_goIn s T).1 b = s.1 b) ∧ (f_eX5_goIn s T).2 = s.2 := by
  have k20 : (20 : Int32).toInt = 20 := rfl
  have k300 : (300 : Int32).toInt = 300 := rfl
  unfold f_eX5_goIn
  refine mh_for (l_eX5_goIn_2_1 T) 20 (fun s' k => (∀ t' n', t' ≤ 300 → n' < 10 → (mh_tb (s'.1 28 t') n' = 1 ↔ (mh_tb (s.1 28 t') n' = 1 ∨ ∃ i, i < k ∧ mh_gi s T t i (fun n => mh_tb (s.1 28 t) n = 1) t' n'))) ∧ s'.1 28 t = s.1 28 t ∧ (∀ b, b ≠ 28 → s'.1 b = s.1 b) ∧ s'.2 = s.2) (fun s' => (∀ t' n', t' ≤ 300 → n' < 10 → (mh_tb (s'.1 28 t') n' = 1 ↔ (mh_tb (s.1 28 t') n' = 1 ∨ ∃ i, i < 20 ∧ mh_gi s T t i (fun n => mh_tb (s.1 28 t) n = 1) t' n'))) ∧ (∀ b, b ≠ 28 → s'.1 b = s.1 b) ∧ s'.2 = s.2) (by decide) ?_ ?_ 21 s 0 0 rfl (by decide) ⟨fun t' n' _ _ => ⟨fun h => Or.inl h, fun h => by
    rcases h with h | ⟨i, h, _⟩
    · exact h
    · exact absurd h (Nat.not_lt_zero i)⟩, rfl, fun _ _ => rfl, rfl⟩ (by decide)
  · intro n s' x m hx hm ⟨h1, h2, h3, h4⟩
    have e23 : s'.1 23 5 = s.1 23 5 := congrFun (h3 23 (by decide)) 5
    have e24 : s'.1 24 m = s.1 24 m := congrFun (h3 24 (by decide)) m
    have e25 : s'.1 25 m = s.1 25 m := congrFun (h3 25 (by decide)) m
    have e27 : s'.1 27 m = s.1 27 m := congrFun (h3 27 (by decide)) m
    -- a road on which nothing goes
    have skip : (∀ t' n', t' ≤ 300 → n' < 10 → ¬ mh_gi s T t m (fun n => mh_tb (s.1 28 t) n = 1) t' n') → ((∀ t' n', t' ≤ 300 → n' < 10 → (mh_tb (s'.1 28 t') n' = 1 ↔ (mh_tb (s.1 28 t') n' = 1 ∨ ∃ i, i < m + 1 ∧ mh_gi s T t i (fun n => mh_tb (s.1 28 t) n = 1) t' n'))) ∧ s'.1 28 t = s.1 28 t ∧ (∀ b, b ≠ 28 → s'.1 b = s.1 b) ∧ s'.2 = s.2) := by
      intro no
      refine ⟨fun t' n' ht' hn' => (h1 t' n' ht' hn').trans ⟨fun q => ?_, fun q => ?_⟩, h2, h3, h4⟩
      · rcases q with q | ⟨i, q1, q2⟩
        · exact Or.inl q
        · exact Or.inr ⟨i, by omega, q2⟩
      · rcases q with q | ⟨i, q1, q2⟩
        · exact Or.inl q
        · refine Or.inr ⟨i, ?_, q2⟩
          have : i ≠ m := fun e => no t' n' ht' hn' (e ▸ q2)
          omega
    rw [l_eX5_goIn_2_1_s]
    unfold ls_eX5_goIn_2_1
    simp only [mh_lbE]
    rw [if_pos (by omega), told_c hx hm, e23, ix_n hx, ix_n hT, h2, e24, e25, e27]
    have jk : ∀ q : mh_H, j_eX5_goIn_117_2 (l_eX5_goIn_2_1 T n) q x = l_eX5_goIn_2_1 T n q (x + 1) := fun q => by
      unfold j_eX5_goIn_117_2
      rw [mh_lbE]
    rcases (hQ m hm).1 with ⟨q1, ⟨a, b, q2, q3, q4, q5⟩, q6⟩ | q1
    · rw [q1, if_neg (by decide)]
      by_cases gy : 0 < (s.1 27 m).toInt
      · rw [if_pos gy, q5, and_mk _ q2 q3]
        have ar := ar_i (t := t) q6 ⟨by omega, (hQ m hm).2.2⟩ hT (by omega)
        have eA : T + ((100 : Int32) * s.1 25 m + s.1 27 m - 1) / s.1 27 m = mh_ar (s.1 25 m) (s.1 27 m) T := rfl
        rw [eA]
        generalize hA : mh_ar (s.1 25 m) (s.1 27 m) T = A at ar ⊢
        have gm := go_mk ⟨a, q2⟩ ⟨b, q3⟩ q4
        -- what comes out
        have put : ∀ w : Int32, (∀ n', n' < 10 → (mh_tb w n' = 1 ↔ ((mh_tb (s.1 28 t) a = 1 ∧ n' = b) ∨ (mh_tb (s.1 28 t) b = 1 ∧ n' = a)))) → A.toInt ≤ 300 → ∃ q : mh_H, ((∀ t' n', t' ≤ 300 → n' < 10 → (mh_tb (q.1 28 t') n' = 1 ↔ (mh_tb (s.1 28 t') n' = 1 ∨ ∃ i, i < m + 1 ∧ mh_gi s T t i (fun n => mh_tb (s.1 28 t) n = 1) t' n'))) ∧ q.1 28 t = s.1 28 t ∧ (∀ b, b ≠ 28 → q.1 b = s.1 b) ∧ q.2 = s.2) ∧ j_eX5_goIn_115_3 (l_eX5_goIn_2_1 T n) s' x A (s'.1 28 A.toNatClampNeg) w = l_eX5_goIn_2_1 T n q (x + 1) := by
          intro w hw hle
          obtain ⟨tA, htA⟩ : ∃ q : Nat, A.toInt = (q : Int) := ⟨A.toInt.toNat, by omega⟩
          refine ⟨mh_pI s' 28 tA (s'.1 28 tA ||| w), ⟨fun t' n' ht' hn' => ?_, ?_, fun b hb => (pI_row hb).trans (h3 b hb), h4⟩, ?_⟩
          · have hgi : mh_gi s T t m (fun n => mh_tb (s.1 28 t) n = 1) t' n' ↔ (t' = tA ∧ mh_tb w n' = 1) := by
              unfold mh_gi
              rw [hw n' hn', hA]
              constructor
              · rintro ⟨-, -, z3, c, d, z4, z5, z6, z7, z8⟩
                refine ⟨by omega, ?_⟩
                rw [q5] at z6
                rcases mk_inj ⟨a, q2⟩ ⟨b, q3⟩ ⟨c, z4⟩ ⟨d, z5⟩ z6 q4 z7 with ⟨y1, y2⟩ | ⟨y1, y2⟩
                · have y1 : a = c := y1
                  have y2 : b = d := y2
                  rw [y1, y2]; exact z8
                · have y1 : a = d := y1
                  have y2 : b = c := y2
                  rw [y1, y2]; exact z8.symm
              · rintro ⟨z1, z2⟩
                exact ⟨q1, gy, by omega, a, b, q2, q3, q5, q4, z2⟩
            by_cases g : t' = tA
            · rw [g, pI_w, tb_or]
              have e1 := h1 tA n' (by omega) hn'
              rw [g] at hgi
              have orr : mh_tb (s'.1 28 tA) n' ||| mh_tb w n' = 1 ↔ (mh_tb (s'.1 28 tA) n' = 1 ∨ mh_tb w n' = 1) := by
                rcases tb_b (s'.1 28 tA) n' with z | z <;> rcases tb_b w n' with y | y <;> rw [z, y] <;> decide
              rw [orr, e1]
              constructor
              · rintro ((z | ⟨i, z1, z2⟩) | z)
                · exact Or.inl z
                · exact Or.inr ⟨i, by omega, z2⟩
                · exact Or.inr ⟨m, by omega, hgi.2 ⟨rfl, z⟩⟩
              · rintro (z | ⟨i, z1, z2⟩)
                · exact Or.inl (Or.inl z)
                · by_cases y : i = m
                  · rw [y] at z2
                    exact Or.inr (hgi.1 z2).2
                  · exact Or.inl (Or.inr ⟨i, by omega, z2⟩)
            · rw [pI_j g]
              refine (h1 t' n' ht' hn').trans ⟨fun z => ?_, fun z => ?_⟩
              · rcases z with z | ⟨i, z1, z2⟩
                · exact Or.inl z
                · exact Or.inr ⟨i, by omega, z2⟩
              · rcases z with z | ⟨i, z1, z2⟩
                · exact Or.inl z
                · refine Or.inr ⟨i, ?_, z2⟩
                  have : i ≠ m := fun y => by
                    rw [y] at z2
                    exact g (hgi.1 z2).1
                  omega
          · rw [pI_j (by omega)]; exact h2
          · unfold j_eX5_goIn_115_3
            simp only [mh_lbE]
            rw [jk, ix_n htA]
        by_cases g3 : A.toInt ≤ 300
        · have n01 : ¬ (0 : Int32) = 1 := by decide
          have y11 : (1 : Int32) = 1 := rfl
          rcases tb_b (s.1 28 t) a with za | za <;> rcases tb_b (s.1 28 t) b with zb | zb
          · rw [za, zb, if_neg n01, if_neg n01, if_pos gm.2.2.2]
            exact ⟨s', skip (fun t' n' _ _ => by
              rintro ⟨-, -, -, c, d, z4, z5, z6, z7, z8⟩
              rw [q5] at z6
              have z9 : ∀ e, (e = a ∨ e = b) → ¬ mh_tb (s.1 28 t) e = 1 := fun e he => by
                rcases he with rfl | rfl
                · rw [za]; decide
                · rw [zb]; decide
              rcases mk_inj ⟨a, q2⟩ ⟨b, q3⟩ ⟨c, z4⟩ ⟨d, z5⟩ z6 q4 z7 with ⟨y1, y2⟩ | ⟨y1, y2⟩
              · have y1 : a = c := y1
                have y2 : b = d := y2
                rcases z8 with z8 | z8
                · exact z9 c (Or.inl y1.symm) z8.1
                · exact z9 d (Or.inr y2.symm) z8.1
              · have y1 : a = d := y1
                have y2 : b = c := y2
                rcases z8 with z8 | z8
                · exact z9 c (Or.inr y2.symm) z8.1
                · exact z9 d (Or.inl y1.symm) z8.1), jk s'⟩
          · rw [za, zb, if_neg n01, if_pos y11, if_neg gm.2.2.1.1, if_neg (show ¬ (300 : Int32).toInt < A.toInt by omega), if_neg gm.2.2.1.2.1, gm.2.2.1.2.2]
            exact put _ (fun n' hn' => by
              rw [tb_pw ⟨a, q2⟩ ⟨n', hn'⟩, za, zb]
              show (if n' = a then (1 : Int32) else 0) = 1 ↔ _
              by_cases y : n' = a
              · rw [if_pos y]; exact ⟨fun _ => Or.inr ⟨rfl, y⟩, fun _ => rfl⟩
              · rw [if_neg y]
                exact ⟨fun z => absurd z (by decide), fun z => by
                  rcases z with z | z
                  · exact absurd z.1 (by decide)
                  · exact absurd z.2 y⟩) g3
          · rw [za, zb, if_pos y11, if_neg n01, if_neg gm.2.1.1, if_neg (show ¬ (300 : Int32).toInt < A.toInt by omega), if_neg gm.2.1.2.1, gm.2.1.2.2]
            exact put _ (fun n' hn' => by
              rw [tb_pw ⟨b, q3⟩ ⟨n', hn'⟩, za, zb]
              show (if n' = b then (1 : Int32) else 0) = 1 ↔ _
              by_cases y : n' = b
              · rw [if_pos y]; exact ⟨fun _ => Or.inl ⟨rfl, y⟩, fun _ => rfl⟩
              · rw [if_neg y]
                exact ⟨fun z => absurd z (by decide), fun z => by
                  rcases z with z | z
                  · exact absurd z.2 y
                  · exact absurd z.1 (by decide)⟩) g3
          · rw [za, zb, if_pos y11, if_pos y11, if_neg gm.1.1, if_neg (show ¬ (300 : Int32).toInt < A.toInt by omega), gm.1.2, if_pos rfl]
            exact put _ (fun n' hn' => by
              show mh_tb (mh_pwr a ||| mh_pwr b) n' = 1 ↔ _
              rw [tb_or, tb_pw ⟨a, q2⟩ ⟨n', hn'⟩, tb_pw ⟨b, q3⟩ ⟨n', hn'⟩, za, zb]
              show ((if n' = a then (1 : Int32) else 0) ||| (if n' = b then (1 : Int32) else 0)) = 1 ↔ _
              by_cases y : n' = a
              · rw [if_pos y, if_neg (by omega)]
                exact ⟨fun _ => Or.inr ⟨rfl, y⟩, fun _ => by decide⟩
              · rw [if_neg y]
                by_cases y2 : n' = b
                · rw [if_pos y2]
                  exact ⟨fun _ => Or.inl ⟨rfl, y2⟩, fun _ => by decide⟩
                · rw [if_neg y2]
                  exact ⟨fun z => absurd z (by decide), fun z => by
                    rcases z with z | z
                    · exact absurd z.2 y2
                    · exact absurd z.2 y⟩) g3
        · have far : ∀ t' n', t' ≤ 300 → n' < 10 → ¬ mh_gi s T t m (fun n => mh_tb (s.1 28 t) n = 1) t' n' := fun t' n' ht' _ => by
            rintro ⟨-, -, z3, -⟩
            rw [hA] at z3
            omega
          refine ⟨s', skip far, ?_⟩
          generalize ((if mh_tb (s.1 28 t) a = 1 then mh_pwr a else 0) ||| (if mh_tb (s.1 28 t) b = 1 then mh_pwr b else 0)) = W
          split
          · exact jk s'
          · rw [if_pos (show (300 : Int32).toInt < A.toInt by omega)]
            exact jk s'
      · rw [if_neg gy]
        exact ⟨s', skip (fun t' n' _ _ => by rintro ⟨-, z2, -⟩; exact gy z2), jk s'⟩
    · rw [q1, if_pos (by decide)]
      exact ⟨s', skip (fun t' n' _ _ => by rintro ⟨z1, -⟩; rw [q1] at z1; exact absurd z1 (by decide)), jk s'⟩
  · intro n s' x hx ⟨h1, h2, h3, h4⟩
    rw [l_eX5_goIn_2_1_s]
    unfold ls_eX5_goIn_2_1
    rw [if_neg (by omega)]
    exact ⟨h1, h3, h4⟩

/-- the class looks along its roads -/
theorem look5 {k kl : Nat} (hk : mh_isV k) (hl : mh_isL kl) {L : mh_Lw} {v : mh_V} {s : mh_H} (h : mh_cN k kl L v s) (hQ : ∀ i, i < 20 → (mh_tb (s.1 23 5) i = 1 ∧ ∃ c : Nat, c < 144 ∧ (s.1 26 i).toInt = (c : Int)) ∨ mh_tb (s.1 23 5) i = 0) : mh_cN k kl L v (f_eX5_look s k kl) ∧ (∀ i, i < 20 → (mh_tb (s.1 23 5) i = 0 → (f_eX5_look s k kl).1 27 i = 0) ∧ (∀ c : Nat, c < 144 → (s.1 26 i).toInt = (c : Int) → mh_tb (s.1 23 5) i = 1 → (f_eX5_look s k kl).1 27 i = mh_ya L v c)) ∧ (∀ b, 23 ≤ b → b ≤ 28 → b ≠ 27 → (f_eX5_look s k kl).1 b = s.1 b) := by
  have k20 : (20 : Int32).toInt = 20 := rfl
  have hk2 : 1 ≤ k ∧ k ≤ 13 := by rcases hk with rfl | rfl | rfl <;> decide
  have hl2 : 40 ≤ kl ∧ kl ≤ 48 := by rcases hl with rfl | rfl <;> decide
  unfold f_eX5_look
  refine mh_for (l_eX5_look_2_1 kl k) 20 (fun s' m => mh_cN k kl L v s' ∧ (∀ i, i < m → (mh_tb (s.1 23 5) i = 0 → s'.1 27 i = 0) ∧ (∀ c : Nat, c < 144 → (s.1 26 i).toInt = (c : Int) → mh_tb (s.1 23 5) i = 1 → s'.1 27 i = mh_ya L v c)) ∧ (∀ b, 23 ≤ b → b ≤ 28 → b ≠ 27 → s'.1 b = s.1 b)) (fun s' => mh_cN k kl L v s' ∧ (∀ i, i < 20 → (mh_tb (s.1 23 5) i = 0 → s'.1 27 i = 0) ∧ (∀ c : Nat, c < 144 → (s.1 26 i).toInt = (c : Int) → mh_tb (s.1 23 5) i = 1 → s'.1 27 i = mh_ya L v c)) ∧ (∀ b, 23 ≤ b → b ≤ 28 → b ≠ 27 → s'.1 b = s.1 b)) (by decide) ?_ ?_ 21 s 0 0 rfl (by decide) ⟨h, fun i hi => absurd hi (Nat.not_lt_zero i), fun _ _ _ _ => rfl⟩ (by decide)
  · intro n s' x m hx hm ⟨h1, h2, h3⟩
    have e23 : s'.1 23 5 = s.1 23 5 := congrFun (h3 23 (by decide) (by decide) (by decide)) 5
    have e26 : s'.1 26 m = s.1 26 m := congrFun (h3 26 (by decide) (by decide) (by decide)) m
    have put : ∀ (t : mh_H) (y : Int32), mh_cN k kl L v t → mh_cN k kl L v (mh_pI t 27 m y) := fun t y ht => cN_F ht (S := [(27, 9999)]) (mh_F_pI mh_F_rf ⟨(27, 9999), by simp, rfl, Or.inl rfl⟩) (p3_pI ht.2.2.2) (fun e he => by rw [List.mem_singleton.mp he]; show 27 < k ∨ k + 5 < 27; omega) (fun e he => by rw [List.mem_singleton.mp he]; show 27 < kl ∨ kl + 5 < 27; omega) (fun e he => by rw [List.mem_singleton.mp he]; decide)
    rw [l_eX5_look_2_1_s]
    unfold ls_eX5_look_2_1
    simp only [mh_lbE, mh_lb2E]
    rw [if_pos (by omega), told_c hx hm, e23, ix_n hx]
    rcases hQ m hm with ⟨q1, c, q2, q3⟩ | q1
    · rw [q1, if_neg (by decide)]
      obtain ⟨y1, y2⟩ := yards_c hk hl h1 (p := s'.1 26 m) (c := c) (by rw [e26]; exact q3) q2
      have fy := fr_eX1_yards s' k hk kl hl (s'.1 26 m) h1.2.2.2
      have yr : ∀ b, 23 ≤ b → b ≤ 28 → (f_eX1_yards s' k kl (s'.1 26 m)).2.1 b = s'.1 b := fun b x1 x2 => F_row1 fy.1 (fun e he => by
        have t : e.1 = kl + 6 ∨ e.1 = kl + 7 := by
          unfold S_eX1_yards at he
          simp only [List.mem_cons, List.not_mem_nil, or_false] at he
          rcases he with rfl | rfl
          · exact Or.inl rfl
          · exact Or.inr rfl
        omega)
      generalize f_eX1_yards s' k kl (s'.1 26 m) = z at y1 y2 yr ⊢
      unfold j_eX5_look_36_2
      simp only [mh_lbE]
      rw [ix_n hx]
      refine ⟨mh_pI z.2 27 m z.1, ⟨put _ _ y2, fun i hi => ?_, fun b x1 x2 x3 => (pI_row x3).trans ((yr b x1 x2).trans (h3 b x1 x2 x3))⟩, rfl⟩
      by_cases g : i = m
      · subst g
        refine ⟨fun q => absurd (q1.symm.trans q) (by decide), fun c' x1 x2 _ => ?_⟩
        have : c' = c := by omega
        rw [pI_w, y1, this]
      · rw [pI_j g, yr 27 (by decide) (by decide)]
        exact h2 i (by omega)
    · rw [q1, if_pos (by decide)]
      unfold j_eX5_look_36_2
      simp only [mh_lbE]
      rw [ix_n hx]
      refine ⟨mh_pI s' 27 m 0, ⟨put _ _ h1, fun i hi => ?_, fun b x1 x2 x3 => (pI_row x3).trans (h3 b x1 x2 x3)⟩, rfl⟩
      by_cases g : i = m
      · subst g
        exact ⟨fun _ => pI_w, fun c' _ _ q => absurd (q1.symm.trans q) (by decide)⟩
      · rw [pI_j g]
        exact h2 i (by omega)
  · intro n s' x hx hi
    rw [l_eX5_look_2_1_s]
    unfold ls_eX5_look_2_1
    rw [if_neg (by omega)]
    exact hi
theorem ya_b {L : mh_Lw} (hB : mh_LB L) (v : mh_V) (c : Nat) : 0 ≤ (mh_ya L v c).toInt ∧ (mh_ya L v c).toInt ≤ 999 := hB 121 _
theorem ab_eq {x y : Int32} (hx : 0 ≤ x.toInt ∧ x.toInt ≤ 999) (hy : 0 ≤ y.toInt ∧ y.toInt ≤ 999) : (if (x - y).toInt < 0 then -(x - y) else x - y) = mh_ab32 (x - y) := by
  have e : (x - y).toInt = x.toInt - y.toInt := by rw [Int32.toInt_sub, Int.bmod_eq_of_le (by omega) (by omega)]
  unfold mh_ab32
  by_cases g : (x - y).toInt < 0
  · rw [if_pos g, if_neg (fun z => by
      have := Int32.le_iff_toInt_le.mp z
      rw [kc_0] at this
      omega)]
    exact (Int32.zero_sub _).symm
  · rw [if_neg g, if_pos (Int32.le_iff_toInt_le.mpr (by rw [kc_0]; omega))]
/-- the reference between two roads -/
def mh_erR (L : mh_Lw) (v : mh_V) (σ sr : mh_H) : Prop := mh_rN L v sr ∧ ∀ k, 90 ≤ k → k ≤ 94 → sr.1 k = σ.1 k
theorem erR_y {L : mh_Lw} {v : mh_V} {σ sr : mh_H} (h : mh_erR L v σ sr) {p : Int32} {c : Nat} (hp : p.toInt = (c : Int)) (hc : c < 144) : (f_eX10_yardsAt sr p).1 = mh_ya L v c ∧ mh_erR L v σ (f_eX10_yardsAt sr p).2 := by
  obtain ⟨y1, y2⟩ := yards_r h.1 hp hc
  have fy := fr_eX10_yardsAt sr p h.1.2.2.1
  refine ⟨y1, y2, fun k a b => (F_row1 fy.1 (fun e he => ?_)).trans (h.2 k a b)⟩
  have t : ∀ e ∈ S_eX10_yardsAt, e.1 < 90 := by decide
  have := t e he
  omega
theorem meet_eq {σ sr s : mh_H} (hQ : rl_Q σ) (h23 : s.1 23 5 = σ.1 23 5) (h24 : s.1 24 = σ.1 24) (hr : ∀ k, 90 ≤ k → k ≤ 94 → sr.1 k = σ.1 k) {p q : Int32} {i j : Nat} (hp : p.toInt = (i : Int)) (hi : i < 20) (hq : q.toInt = (j : Int)) (hj : j < 20) : ((f_eX5_meet s p q).toInt = 0) ↔ ((sr.1 90 i).toInt = 0 ∨ (sr.1 90 j).toInt = 0 ∨ (f_eX10_meet sr p q).toInt = 0) := by
  unfold f_eX5_meet
  simp only [mh_lbE]
  rw [told_c hp hi, told_c hq hj, h23, h24, ix_n hp, ix_n hq, hr 90 (by decide) (by decide)]
  rcases hQ i hi with a | ⟨a1, a2⟩
  · obtain ⟨a1, a2, ⟨x, y, a3, a4, -, a5, a6, a7⟩, -⟩ := a
    rw [a1, a2, if_neg (by decide)]
    rcases hQ j hj with b | ⟨b1, b2⟩
    · obtain ⟨b1, b2, ⟨z, w, b3, b4, -, b5, b6, b7⟩, -⟩ := b
      rw [b1, b2, if_neg (by decide), a7, b7]
      have mm := mk_meet ⟨x, a3⟩ ⟨y, a4⟩ ⟨z, b3⟩ ⟨w, b4⟩
      have mr : ((f_eX10_meet sr p q).toInt = 0) ↔ ¬ (x = z ∨ x = w ∨ y = z ∨ y = w) := by
        unfold f_eX10_meet
        simp only [mh_lbE]
        rw [ix_n hp, ix_n hq, hr 91 (by decide) (by decide), hr 92 (by decide) (by decide), a5, a6, b5, b6]
        have k0 := kc_0
        have o1 : (1 : Int32).toInt = 1 := rfl
        split
        · omega
        · split
          · omega
          · split
            · omega
            · split <;> omega
      have o1 : ¬ (1 : Int32).toInt = 0 := by decide
      by_cases g : (mh_mk x y &&& mh_mk z w).toInt = 0
      · rw [if_pos g]
        exact ⟨fun _ => Or.inr (Or.inr (mr.2 (mm.1 g))), fun _ => kc_0⟩
      · rw [if_neg g]
        refine ⟨fun q => absurd q o1, fun q => ?_⟩
        rcases q with q | q | q
        · exact absurd q o1
        · exact absurd q o1
        · exact absurd (mm.2 (mr.1 q)) g
    · rw [b1, b2, if_pos (by decide)]
      exact ⟨fun _ => Or.inr (Or.inl kc_0), fun _ => kc_0⟩
  · rw [a1, a2, if_pos (by decide)]
    exact ⟨fun _ => Or.inl kc_0, fun _ => kc_0⟩
theorem edge_in {L : mh_Lw} (hB : mh_LB L) {v : mh_V} {σ s : mh_H} (hQ : rl_Q σ) (h23 : s.1 23 5 = σ.1 23 5) (h24 : s.1 24 = σ.1 24) (h27 : ∀ i, i < 20 → ∀ c : Nat, c < 144 → (σ.1 26 i).toInt = (c : Int) → mh_tb (σ.1 23 5) i = 1 → s.1 27 i = mh_ya L v c) (lo : Int32 → Int32 → Int32 → Int32 → Int32 × mh_H) (lo' : mh_H → Int32 → Int32 → Int32 → Int32 → Int32 × mh_H) {X : Int32} {i : Nat} (hX : X.toInt = (i : Int)) (hi : i < 20) (hlo : ∀ (sr : mh_H) (a b c : Int32), mh_erR L v σ sr → (lo (X + 1) a b c).1 = (lo' sr (X + 1) a b c).1) : ∀ (n : Nat) (x a b c : Int32) (sr : mh_H), mh_erR L v σ sr → 0 ≤ x.toInt → x.toInt ≤ 20 → 20 < x.toInt + (n : Int) → (l_eX9_edge_51_2 lo s X n x a b c).1 = (l_eX10_edge_40_2 lo' X n sr x a b c).1 := by
  intro n
  have k20 : (20 : Int32).toInt = 20 := rfl
  induction n with
  | zero => intro x a b c sr _ _ h1 h2; exfalso; omega
  | succ n ih =>
    intro x a b c sr hr h0 h1 h2
    rw [l_eX9_edge_51_2_s, l_eX10_edge_40_2_s]
    unfold ls_eX9_edge_51_2 ls_eX10_edge_40_2
    simp only [mh_lbE, mh_lb2E]
    by_cases g : x.toInt < 20
    · rw [if_pos (show x.toInt < (20 : Int32).toInt by omega), if_pos (show x.toInt < (20 : Int32).toInt by omega)]
      obtain ⟨j, hj⟩ : ∃ j : Nat, x.toInt = (j : Int) := ⟨x.toInt.toNat, by omega⟩
      have hj2 : j < 20 := by omega
      have hxn := nn_inc h0 (m := 60) (by omega) (by decide)
      have nx : ∀ (q : mh_H) (a b c : Int32), mh_erR L v σ q → (l_eX9_edge_51_2 lo s X n (x + 1) a b c).1 = (l_eX10_edge_40_2 lo' X n q (x + 1) a b c).1 := fun q a b c hq => ih (x + 1) a b c q hq (by omega) (by omega) (by omega)
      have me := meet_eq hQ h23 h24 hr.2 hX hi hj hj2
      rw [ix_n hX, ix_n hj]
      unfold j_eX9_edge_133_3 j_eX10_edge_119_4 j_eX10_edge_141_3
      simp only [mh_lbE]
      by_cases m0 : (f_eX5_meet s X x).toInt = 0
      · rw [if_pos m0]
        rcases me.1 m0 with q | q | q
        · rw [if_pos q]; exact nx sr a b c hr
        · by_cases q2 : (sr.1 90 i).toInt = 0
          · rw [if_pos q2]; exact nx sr a b c hr
          · rw [if_neg q2, if_pos q]; exact nx sr a b c hr
        · by_cases q2 : (sr.1 90 i).toInt = 0
          · rw [if_pos q2]; exact nx sr a b c hr
          · rw [if_neg q2]
            by_cases q3 : (sr.1 90 j).toInt = 0
            · rw [if_pos q3]; exact nx sr a b c hr
            · rw [if_neg q3, if_pos q]; exact nx sr a b c hr
      · rw [if_neg m0, if_neg (fun q => m0 (me.2 (Or.inl q))), if_neg (fun q => m0 (me.2 (Or.inr (Or.inl q)))), if_neg (fun q => m0 (me.2 (Or.inr (Or.inr q))))]
        have n90i : ¬ (sr.1 90 i).toInt = 0 := fun q => m0 (me.2 (Or.inl q))
        have n90j : ¬ (sr.1 90 j).toInt = 0 := fun q => m0 (me.2 (Or.inr (Or.inl q)))
        rw [hr.2 90 (by decide) (by decide)] at n90i n90j
        have ri : mh_rdq σ i := by
          rcases hQ i hi with q | q
          · exact q
          · exact absurd (by rw [q.2]; rfl) n90i
        have rj : mh_rdq σ j := by
          rcases hQ j hj2 with q | q
          · exact q
          · exact absurd (by rw [q.2]; rfl) n90j
        obtain ⟨ti, -, -, -, -, ui, ci, vi, wi⟩ := ri
        obtain ⟨tj, -, -, -, -, uj, cj, vj, wj⟩ := rj
        have e94i : (sr.1 94 i).toInt = (ci : Int) := by rw [hr.2 94 (by decide) (by decide), ← ui]; exact wi
        obtain ⟨y1, y2⟩ := erR_y hr e94i vi
        generalize f_eX10_yardsAt sr (sr.1 94 i) = Z at y1 y2 ⊢
        have e94j : (Z.2.1 94 j).toInt = (cj : Int) := by rw [y2.2 94 (by decide) (by decide), ← uj]; exact wj
        obtain ⟨y3, y4⟩ := erR_y y2 e94j vj
        generalize f_eX10_yardsAt Z.2 (Z.2.1 94 j) = W at y3 y4 ⊢
        rw [y1, y3, h27 i hi ci vi wi ti, h27 j hj2 cj vj wj tj]
        have bi := ya_b hB v ci
        have bj := ya_b hB v cj
        have ab := ab_eq bi bj
        generalize mh_ya L v ci = A at bi ab ⊢
        generalize mh_ya L v cj = E at bj ab ⊢
        have fin : ∀ d : Int32, d = mh_ab32 (A - E) → (if c.toInt < (mh_ab32 (A - E)).toInt then l_eX9_edge_51_2 lo s X n (x + 1) X x (mh_ab32 (A - E)) else l_eX9_edge_51_2 lo s X n (x + 1) a b c).1 = (if c.toInt < d.toInt then l_eX10_edge_40_2 lo' X n W.2 (x + 1) X x d else l_eX10_edge_40_2 lo' X n W.2 (x + 1) a b c).1 := by
          intro d hd
          rw [hd]
          split
          · exact nx W.2 _ _ _ y4
          · exact nx W.2 _ _ _ y4
        by_cases gd : (A - E).toInt < 0
        · rw [if_pos gd]
          rw [if_pos gd] at ab
          exact fin _ ab
        · rw [if_neg gd]
          rw [if_neg gd] at ab
          exact fin _ ab
    · rw [if_neg (show ¬ x.toInt < (20 : Int32).toInt by omega), if_neg (show ¬ x.toInt < (20 : Int32).toInt by omega)]
      exact hlo sr c b a hr
theorem edge_out {L : mh_Lw} (hB : mh_LB L) {v : mh_V} {σ s : mh_H} (hQ : rl_Q σ) (h23 : s.1 23 5 = σ.1 23 5) (h24 : s.1 24 = σ.1 24) (h27 : ∀ i, i < 20 → ∀ c : Nat, c < 144 → (σ.1 26 i).toInt = (c : Int) → mh_tb (σ.1 23 5) i = 1 → s.1 27 i = mh_ya L v c) {p1 : Int32} : ∀ (n : Nat) (x a b c : Int32) (sr : mh_H), mh_erR L v σ sr → 0 ≤ x.toInt → x.toInt ≤ 20 → 20 < x.toInt + (n : Int) → (l_eX9_edge_38_1 s p1 n x a b c).1 = (l_eX10_edge_27_1 p1 n sr x a b c).1 := by
  intro n
  have k20 : (20 : Int32).toInt = 20 := rfl
  induction n with
  | zero => intro x a b c sr _ _ h1 h2; exfalso; omega
  | succ n ih =>
    intro x a b c sr hr h0 h1 h2
    rw [l_eX9_edge_38_1_s, l_eX10_edge_27_1_s]
    unfold ls_eX9_edge_38_1 ls_eX10_edge_27_1
    simp only [mh_lbE]
    by_cases g : x.toInt < 20
    · rw [if_pos (show x.toInt < (20 : Int32).toInt by omega), if_pos (show x.toInt < (20 : Int32).toInt by omega)]
      obtain ⟨i, hi⟩ : ∃ j : Nat, x.toInt = (j : Int) := ⟨x.toInt.toNat, by omega⟩
      have hxn := nn_inc h0 (m := 60) (by omega) (by decide)
      exact edge_in hB hQ h23 h24 h27 _ _ hi (by omega) (fun q a b c hq => ih (x + 1) a b c q hq (by omega) (by omega) (by omega)) 20 (x + 1) c b a sr hr (by omega) (by omega) (by omega)
    · rw [if_neg (show ¬ x.toInt < (20 : Int32).toInt by omega), if_neg (show ¬ x.toInt < (20 : Int32).toInt by omega)]
      split
      · rfl
      · split <;> rfl
theorem edge_eq {kl : Nat} (hl : mh_isL kl) {L : mh_Lw} (hB : mh_LB L) {v : mh_V} {sc sr : mh_H} (hQ : rl_Q sc) (hc : mh_cN 1 kl L v sc) (hr : mh_rN L v sr) (h90 : ∀ k, 90 ≤ k → k ≤ 94 → sr.1 k = sc.1 k) (p1 : Int32) : (f_eX9_edge sc p1).1 = (f_eX10_edge sr p1).1 := by
  unfold f_eX9_edge f_eX10_edge
  obtain ⟨n, hn⟩ : ∃ n : Nat, n = 21 := ⟨_, rfl⟩
  rw [show (21 : Nat) = n by omega]
  simp only [mh_lbE]
  have k2 : (2 : Int32).toInt = 2 := rfl
  have w := fq_within sc p1 2
  have q := fq_lies sr (Int32.toInt64 p1) 0 2
  rw [Int32.toInt_toInt64, show (0 : Int64).toInt = 0 from rfl, show (2 : Int64).toInt = 2 from rfl] at q
  by_cases c1 : 0 ≤ p1.toInt ∧ p1.toInt ≤ 2
  · rw [if_neg (fun z => w.1 z (by omega)), if_neg (fun z => q.1 z c1), hc.2.1]
    obtain ⟨l1, l2, l3⟩ := look5 V1 hl hc (fun i hi => by
      rcases hQ i hi with a | a
      · exact Or.inl ⟨a.1, a.2.2.2.2.2.2⟩
      · exact Or.inr a.1)
    generalize f_eX5_look sc 1 kl = t at l1 l2 l3 ⊢
    exact edge_out hB hQ (congrFun (l3 23 (by decide) (by decide) (by decide)) 5) (l3 24 (by decide) (by decide) (by decide)) (fun i hi c x1 x2 x3 => (l2 i hi).2 c x1 x2 x3) n 0 (-2) (-2) (-2) sr ⟨hr, h90⟩ (by decide) (by decide) (by rw [kc_0]; omega)
  · rw [if_pos (w.2 (by omega)), if_pos (q.2 c1)]
/-- the relation with the roads -/
def mh_RQ (σ : mh_H) : Prop := mh_RV σ ∧ rl_Q σ
theorem RQ_of {P : Prop} {S0 S1 : List (Nat × Nat)} {σ s1 s2 : mh_H} (q : P ∧ mh_RV s2) (hN : rl_Q σ) (F0 : mh_F S0 σ s1) (F1 : mh_F S1 s1 s2) (h0 : S0.all (fun e => !(rl_cellQ e)) = true) (h1 : S1.all (fun e => !(rl_cellQ e)) = true) : P ∧ mh_RQ s2 := ⟨q.1, q.2, rl_Q_keep F1 h1 (rl_Q_keep F0 h0 hN)⟩
theorem mh_RQ_keep {S : List (Nat × Nat)} {B D : Int} {σ σ2 : mh_H} (hF : mh_F S σ σ2) (hI : mh_I B D σ2) (hS : ((mh_okC S && mh_okR S) && S.all (fun e => !(rl_cellQ e))) = true) (h : mh_RQ σ) : mh_RQ σ2 := by
  obtain ⟨a, b⟩ := Bool.and_eq_true_iff.mp hS
  exact ⟨mh_RV_keep hF hI a h.1, rl_Q_keep hF b h.2⟩
theorem mh_RQ0 : mh_RQ lx_s0 := ⟨mh_RV0, rl_Q0⟩
theorem road_RQ {B D B' D' : Int} {σ s1 s2 : mh_H} (h : mh_RQ σ) (hI0 : mh_I B D s1) (hI1 : mh_I B' D' s2) (F0 : mh_F S_eX9_road σ s1) (F1 : mh_F S_eX10_road s1 s2) {p1 p2 p3 p4 p5 z0 z1 : Int32} (E0 : f_eX9_road σ p1 p2 p3 p4 p5 = (z0, s1)) (E1 : f_eX10_road s1 p1 p2 p3 p4 p5 = (z1, s2)) : z0 = z1 ∧ mh_RQ s2 := by
  obtain ⟨q1, q2⟩ := road_Q h.2 F0 F1 E0 E1
  exact ⟨q1, mh_RV_keep F1 hI1 (by decide) (mh_RV_keep F0 hI0 (by decide) h.1), q2⟩
theorem edge_RQ {B D B' D' : Int} {σ s1 s2 : mh_H} (h : mh_RQ σ) (hI0 : mh_I B D s1) (hI1 : mh_I B' D' s2) (F0 : mh_F S_eX9_edge σ s1) (F1 : mh_F S_eX10_edge s1 s2) {p1 z0 z1 : Int32} (E0 : f_eX9_edge σ p1 = (z0, s1)) (E1 : f_eX10_edge s1 p1 = (z1, s2)) : z0 = z1 ∧ mh_RQ s2 := by
  refine ⟨?_, mh_RQ_keep F1 hI1 (by decide) (mh_RQ_keep F0 hI0 (by decide) h)⟩
  obtain ⟨kl, Ls, v, ch, fl, w, cw, m, r, a1, a2, a3, a4, a5, a6⟩ := h.1
  have hr1 := RA_F a6 F0 (mh_I_p3 hI0) (by decide)
  have q := edge_eq a1 (lw_B Ls) h.2 a5.1 hr1.1 (fun k h1 h2 => F_row1 F0 (fun e he => by
    have t : ∀ e ∈ S_eX9_edge, e.1 < 90 := by decide
    have := t e he
    omega)) p1
  rw [E0, E1] at q
  exact q

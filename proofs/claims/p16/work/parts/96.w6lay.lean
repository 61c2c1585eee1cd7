/-- the yards of all roads at all steps, as the reference lays them -/
def mh_Y (L : mh_Lw) (v : mh_V) (σ : mh_H) (i τ : Nat) : Int32 := if (σ.1 90 i).toInt = 0 then 0 else mh_ya L (mh_stN L v τ) (σ.1 94 i).toNatClampNeg
def mh_lyS (L : mh_Lw) (v : mh_V) (σ : mh_H) (τ m : Nat) (s : mh_H) : Prop := mh_rN L (mh_stN L v τ) s ∧ (∀ k, 90 ≤ k → k ≤ 94 → s.1 k = σ.1 k) ∧ (∀ i, i < 20 → ∀ τ', τ' < τ → s.1 95 (30 * i + τ') = mh_Y L v σ i τ') ∧ ∀ i, i < m → s.1 95 (30 * i + τ) = mh_Y L v σ i τ
theorem ly2_in {L : mh_Lw} {v : mh_V} {σ : mh_H} (hQ : ∀ i, i < 20 → (σ.1 90 i).toInt = 0 ∨ ∃ c : Nat, c < 144 ∧ (σ.1 94 i).toInt = (c : Int)) (lo : mh_H → Int32 → mh_H) {X : Int32} {τ : Nat} (hX : X.toInt = (τ : Int)) (hτ : τ < 30) : ∀ (n : Nat) (s : mh_H) (x : Int32) (m : Nat), x.toInt = (m : Int) → m ≤ 20 → 20 < m + n → mh_lyS L v σ τ m s → ∃ q, mh_lyS L v σ τ 20 q ∧ l_eX10_laysYards_15_2 lo X n s x = lo (f_eX10_stepOne q) (X + 1) := by
  intro n
  have k20 : (20 : Int32).toInt = 20 := rfl
  have k30 : (30 : Int32).toInt = 30 := rfl
  have k1 : (1 : Int32).toInt = ((1 : Nat) : Int) := rfl
  induction n with
  | zero => intro s x m _ h1 h2; exfalso; omega
  | succ n ih =>
    intro s x m hx h1 h2 h
    rw [l_eX10_laysYards_15_2_s]
    unfold ls_eX10_laysYards_15_2
    simp only [mh_lbE, mh_lb2E]
    by_cases g : m < 20
    · rw [if_pos (show x.toInt < (20 : Int32).toInt by omega), ix_n hx, h.2.1 90 (by decide) (by decide), h.2.1 94 (by decide) (by decide)]
      have e1 : ((30 : Int32) * x).toInt = 30 * x.toInt := by rw [Int32.toInt_mul, k30, Int.bmod_eq_of_le (by omega) (by omega)]
      have e2 : ((30 : Int32) * x + X).toInt = ((30 * m + τ : Nat) : Int) := by rw [Int32.toInt_add, e1, hX, Int.bmod_eq_of_le (by omega) (by omega)]; omega
      have put : ∀ (t : mh_H) (y : Int32), mh_rN L (mh_stN L v τ) t → (∀ k, 90 ≤ k → k ≤ 95 → t.1 k = s.1 k) → y = mh_Y L v σ m τ → mh_lyS L v σ τ (m + 1) (mh_pI t 95 (30 * m + τ) y) := by
        intro t y ht hr hy
        refine ⟨rN_F ht (S := [(95, 9999)]) (mh_F_pI mh_F_rf ⟨(95, 9999), by simp, rfl, Or.inl rfl⟩) (p3_pI ht.2.2.1) (by decide), fun k a b => (pI_row (by omega)).trans ((hr k a (by omega)).trans (h.2.1 k a b)), fun i hi τ' hτ' => ?_, fun i hi => ?_⟩
        · rw [pI_j (by omega), hr 95 (by decide) (by decide)]
          exact h.2.2.1 i hi τ' hτ'
        · by_cases gi : i = m
          · rw [gi, pI_w]; exact hy
          · rw [pI_j (by omega), hr 95 (by decide) (by decide)]
            exact h.2.2.2 i (by omega)
      have nx := ix_add hx (by omega) k1 (by decide)
      unfold j_eX10_laysYards_54_3
      simp only [mh_lbE]
      rw [ix_n e2]
      by_cases g9 : (σ.1 90 m).toInt = 0
      · rw [if_pos g9]
        exact ih _ (x + 1) (m + 1) nx (by omega) (by omega) (put s 0 h.1 (fun _ _ _ => rfl) (if_pos g9).symm)
      · rw [if_neg g9]
        obtain ⟨c, hc1, hc2⟩ := (hQ m g).resolve_left g9
        obtain ⟨y1, y2⟩ := yards_r h.1 hc2 hc1
        have fy := fr_eX10_yardsAt s (σ.1 94 m) h.1.2.2.1
        refine ih _ (x + 1) (m + 1) nx (by omega) (by omega) (put _ _ y2 (fun k a b => F_row1 fy.1 (fun e he => ?_)) ?_)
        · have t : ∀ e ∈ S_eX10_yardsAt, e.1 < 90 := by decide
          have := t e he
          omega
        · rw [y1]
          unfold mh_Y
          rw [if_neg g9, ix_n hc2]
    · obtain rfl : m = 20 := by omega
      rw [if_neg (show ¬ x.toInt < (20 : Int32).toInt by omega)]
      exact ⟨s, h, rfl⟩
theorem ly2_out {L : mh_Lw} {v : mh_V} (hg : mh_rg v) (h0 : 0 ≤ v.2.1.toInt) (hb : v.2.1.toInt ≤ 1000000000) {σ : mh_H} (hQ : ∀ i, i < 20 → (σ.1 90 i).toInt = 0 ∨ ∃ c : Nat, c < 144 ∧ (σ.1 94 i).toInt = (c : Int)) : ∀ (n : Nat) (s : mh_H) (x : Int32) (τ : Nat), x.toInt = (τ : Int) → τ ≤ 30 → 30 < τ + n → mh_lyS L v σ τ 0 s → (∀ i, i < 20 → ∀ τ', τ' < 30 → (l_eX10_laysYards_7_1 n s x).1 95 (30 * i + τ') = mh_Y L v σ i τ') ∧ ∀ k, 90 ≤ k → k ≤ 94 → (l_eX10_laysYards_7_1 n s x).1 k = σ.1 k := by
  intro n
  have k30 : (30 : Int32).toInt = 30 := rfl
  have k1 : (1 : Int32).toInt = ((1 : Nat) : Int) := rfl
  induction n with
  | zero => intro s x τ _ h1 h2; exfalso; omega
  | succ n ih =>
    intro s x τ hx h1 h2 h
    rw [l_eX10_laysYards_7_1_s]
    unfold ls_eX10_laysYards_7_1
    by_cases g : τ < 30
    · rw [if_pos (show x.toInt < (30 : Int32).toInt by omega)]
      obtain ⟨q, q1, q2⟩ := ly2_in hQ (l_eX10_laysYards_7_1 n) hx g 21 s 0 0 rfl (by decide) (by decide) h
      rw [q2]
      have sn := stN_n (L := L) h0 τ (by omega)
      have fs := fr_eX10_stepOne q q1.1.2.2.1
      have fr : ∀ k, 90 ≤ k → k ≤ 95 → (f_eX10_stepOne q).1 k = q.1 k := fun k a b => F_row1 fs.1 (fun e he => by
        have t : ∀ e ∈ S_eX10_stepOne, e.1 < 90 := by decide
        have := t e he
        omega)
      refine ih _ (x + 1) (τ + 1) (ix_add hx (by omega) k1 (by decide)) (by omega) (by omega) ⟨by rw [stN_s]; exact rN_step q1.1 (stN_g hg τ) (by omega), fun k a b => (fr k a (by omega)).trans (q1.2.1 k a b), fun i hi τ' hτ' => ?_, fun i hi => absurd hi (Nat.not_lt_zero i)⟩
      rw [fr 95 (by decide) (by decide)]
      by_cases y : τ' = τ
      · rw [y]; exact q1.2.2.2 i hi
      · exact q1.2.2.1 i hi τ' (by omega)
    · obtain rfl : τ = 30 := by omega
      rw [if_neg (show ¬ x.toInt < (30 : Int32).toInt by omega)]
      simp only [mh_lbE]
      have fp := fr_eX10_putsBack s 0 h.1.2.2.1
      have fr : ∀ k, 90 ≤ k → k ≤ 95 → (f_eX10_putsBack s 0).1 k = s.1 k := fun k a b => F_row1 fp.1 (fun e he => by
        have t : ∀ e ∈ S_eX10_putsBack, e.1 < 90 := by decide
        have := t e he
        omega)
      exact ⟨fun i hi τ' hτ' => by rw [fr 95 (by decide) (by decide)]; exact h.2.2.1 i hi τ' hτ', fun k a b => (fr k a (by omega)).trans (h.2.1 k a b)⟩

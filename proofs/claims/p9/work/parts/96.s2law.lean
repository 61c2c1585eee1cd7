/-- both laws of one text: the same answer, the same law -/
theorem law_eq {σ s1 s2 : mh_H} {m : Nat} {r : Nat → Int32} (hc : mh_cT m r σ) (hr : mh_rT m r s1) (hp3 : mh_p3 s1) (h12 : mh_isL (σ.2.2 0 12)) {p z0 z1 : Int32} (E0 : f_eX9_law σ p = (z0, s1)) (E1 : f_eX10_law s1 p = (z1, s2)) : z0 = z1 ∧ ((∃ Ls, s1.2.2 0 11 = σ.2.2 0 12 ∧ s1.2.2 0 12 = σ.2.2 0 11 ∧ mh_LC (σ.2.2 0 12) s1 (mh_lw Ls) ∧ mh_LR s2 (mh_lw Ls)) ∨ (s1.2.2 0 = σ.2.2 0 ∧ mh_ro s1 s2 ∧ ∀ kl, mh_isL kl → kl ≠ σ.2.2 0 12 → ∀ i, i ≤ 7 → s1.1 (kl + i) = σ.1 (kl + i))) := by
  have k1 : (1 : Int32).toInt = 1 := rfl
  have k200 : (200 : Int32).toInt = 200 := rfl
  have hc1 := hc.1
  have hr1 := hr.1
  have w1 := fq_lies s1 (Int32.toInt64 p) 1 200
  rw [Int32.toInt_toInt64, show (1 : Int64).toInt = 1 from rfl, show (200 : Int64).toInt = 200 from rfl] at w1
  unfold f_eX9_law at E0
  unfold f_eX10_law at E1
  simp only [mh_lbE, mh_lb2E] at E0 E1
  have refuse : z0 = -1 → s1 = σ → z1 = -1 → s2 = s1 → z0 = z1 ∧ ((∃ Ls, s1.2.2 0 11 = σ.2.2 0 12 ∧ s1.2.2 0 12 = σ.2.2 0 11 ∧ mh_LC (σ.2.2 0 12) s1 (mh_lw Ls) ∧ mh_LR s2 (mh_lw Ls)) ∨ (s1.2.2 0 = σ.2.2 0 ∧ mh_ro s1 s2 ∧ ∀ kl, mh_isL kl → kl ≠ σ.2.2 0 12 → ∀ i, i ≤ 7 → s1.1 (kl + i) = σ.1 (kl + i))) := by
    intro a b c d
    subst d
    subst b
    exact ⟨a.trans c.symm, Or.inr ⟨rfl, ⟨fun _ _ _ => rfl, rfl⟩, fun _ _ _ _ _ => rfl⟩⟩
  by_cases c1 : 1 ≤ p.toInt ∧ p.toInt ≤ 200
  · rw [if_neg (show ¬ p.toInt < (1 : Int32).toInt by omega), if_neg (show ¬ (200 : Int32).toInt < p.toInt by omega)] at E0
    rw [if_neg (fun g => w1.1 g c1)] at E1
    by_cases c3 : (m : Int) < p.toInt
    · rw [if_pos (show (σ.1 37 1).toInt < p.toInt by omega)] at E0
      rw [if_pos (show (s1.1 57 1).toInt < p.toInt by omega)] at E1
      exact refuse (Prod.mk.inj E0).1.symm (Prod.mk.inj E0).2.symm (Prod.mk.inj E1).1.symm (Prod.mk.inj E1).2.symm
    · rw [if_neg (show ¬ (σ.1 37 1).toInt < p.toInt by omega)] at E0
      rw [if_neg (show ¬ (s1.1 57 1).toInt < p.toInt by omega)] at E1
      obtain ⟨N, hN⟩ : ∃ N : Nat, p.toInt = (N : Int) := ⟨p.toInt.toNat, by omega⟩
      have e38 : σ.1 38 = r := funext hc.2
      have hby : ∀ q, q < N → 0 ≤ (r q).toInt ∧ (r q).toInt ≤ 255 := fun q _ => by
        rw [← hr.2 q]; exact mh_and255
      have ht := sg_tx hby
      -- the class
      have rc := c_read h12 (show N ≤ 200 by omega) hN (s := σ) (by rw [e38]; exact ht)
      rw [e38] at rc
      have fo := o_read (kl := σ.2.2 0 12) (s := σ) (p := p)
      generalize f_eX4_read σ (σ.2.2 0 12) p = z at rc fo E0
      -- the reference
      have a0 : mh_rz0 N r 0 0 (mh_pI (mh_pI (mh_pI (mh_pI (mh_pI (mh_pI s1 57 1 0) 57 23 0) 57 24 p) 57 25 0) 57 26 0) 57 27 0) := by
        refine ⟨?_, ?_, ?_, ?_, fun i => ?_, Nat.zero_le _⟩
        · rw [pI_j (by decide), pI_j (by decide), pI_j (by decide), pI_j (by decide), pI_w]; rfl
        · rw [pI_j (by decide), pI_j (by decide), pI_j (by decide), pI_w]; exact hN
        · rw [pI_j (by decide), pI_j (by decide), pI_w]
        · rw [pI_w]; rfl
        · rw [pI_o (by decide), pI_o (by decide), pI_o (by decide), pI_o (by decide), pI_o (by decide), pI_o (by decide)]; exact hr.2 i
      have aK : mh_rK (mh_pI (mh_pI (mh_pI (mh_pI (mh_pI (mh_pI s1 57 1 0) 57 23 0) 57 24 p) 57 25 0) 57 26 0) 57 27 0) 0 [] := ⟨trivial, by rw [pI_j (by decide), pI_w]; rfl⟩
      have ap : mh_p3 (mh_pI (mh_pI (mh_pI (mh_pI (mh_pI (mh_pI s1 57 1 0) 57 23 0) 57 24 p) 57 25 0) 57 26 0) 57 27 0) := hp3
      have ar : mh_ro s1 (mh_pI (mh_pI (mh_pI (mh_pI (mh_pI (mh_pI s1 57 1 0) 57 23 0) 57 24 p) 57 25 0) 57 26 0) 57 27 0) := by
        refine ⟨fun i a b => ?_, ?_⟩
        · rw [pI_row (by omega), pI_row (by omega), pI_row (by omega), pI_row (by omega), pI_row (by omega), pI_row (by omega)]
        · rw [pI_j (by decide), pI_j (by decide), pI_j (by decide), pI_j (by decide), pI_j (by decide), pI_j (by decide)]
      obtain ⟨w, hw⟩ : ∃ w : Nat, w = 806 := ⟨_, rfl⟩
      rw [show (806 : Nat) = w by omega] at E1
      have rr := q_law (show N ≤ 200 by omega) ht (s0 := s1) 16 _ [] 0 0 w (by decide) (by decide) (by omega) a0 (Nat.le_refl _) aK ap ar
      rw [E1] at rr
      cases e : rd_law (rd_sg r N) N 16 [] 0 with
      | inl f =>
        rw [e] at rc rr
        obtain ⟨b1, b2, b3⟩ := rr
        have b1 : z1.toInt = -1000 * (f.1 : Int) - (f.2 : Int) := b1
        have rc : z.1.toInt = -1000 * (f.1 : Int) - (f.2 : Int) := rc
        rw [if_neg (show ¬ 0 < z.1.toInt by omega)] at E0
        obtain ⟨d1, d2⟩ := Prod.mk.inj E0
        refine ⟨Int32.toInt_inj.mp (by rw [← d1, rc, b1]), Or.inr ⟨?_, b3, fun kl hkl hne i hi => ?_⟩⟩
        · rw [← d2]; exact fo.2.2
        · rw [← d2]
          have hk2 : 40 ≤ σ.2.2 0 12 ∧ σ.2.2 0 12 ≤ 48 := by rcases h12 with q | q <;> omega
          have hk3 : kl + 7 < σ.2.2 0 12 ∨ σ.2.2 0 12 + 7 < kl := by
            unfold mh_isL at hkl h12
            omega
          have hk4 : kl ≤ 48 := by unfold mh_isL at hkl; omega
          rw [pI_row (by unfold mh_isL at hkl; omega)]
          exact fo.2.1 (kl + i) (by omega) (by omega)
      | inr Ls =>
        rw [e] at rc rr
        obtain ⟨b1, b2⟩ := rr
        have b1 : z1.toInt = (Ls.length : Int) := b1
        obtain ⟨d1, d2, d3⟩ := rc
        rw [if_pos (show 0 < z.1.toInt by omega)] at E0
        obtain ⟨g1, g2⟩ := Prod.mk.inj E0
        have r11 : (mh_pI z.2 37 1 0).2.2 0 11 = σ.2.2 0 11 := congrFun fo.2.2 11
        have r12 : (mh_pI z.2 37 1 0).2.2 0 12 = σ.2.2 0 12 := congrFun fo.2.2 12
        rw [r11, r12] at g2
        refine ⟨Int32.toInt_inj.mp (by rw [← g1, d1, b1]), Or.inl ⟨Ls, ?_, ?_, ?_, b2⟩⟩
        · rw [← g2]; rfl
        · rw [← g2]; rfl
        · rw [← g2]
          have hk4 : 37 < σ.2.2 0 12 := by unfold mh_isL at h12; omega
          have q : ∀ b, b ≠ 37 → (mh_pR (mh_pR (mh_pI z.2 37 1 0) 0 11 (σ.2.2 0 12)) 0 12 (σ.2.2 0 11)).1 b = z.2.1 b := fun b hb => pI_row hb
          exact LC_mono d3 (fun i _ _ => q _ (by omega)) (congrFun (q _ (by omega)) 7) (congrFun (q _ (by omega)) 9) (congrFun (q _ (by omega)) 10)
  · rw [if_pos (w1.2 c1)] at E1
    rcases Int.lt_or_le p.toInt 1 with g | g
    · rw [if_pos (show p.toInt < (1 : Int32).toInt by omega)] at E0
      exact refuse (Prod.mk.inj E0).1.symm (Prod.mk.inj E0).2.symm (Prod.mk.inj E1).1.symm (Prod.mk.inj E1).2.symm
    · rw [if_neg (show ¬ p.toInt < (1 : Int32).toInt by omega), if_pos (show (200 : Int32).toInt < p.toInt by omega)] at E0
      exact refuse (Prod.mk.inj E0).1.symm (Prod.mk.inj E0).2.symm (Prod.mk.inj E1).1.symm (Prod.mk.inj E1).2.symm

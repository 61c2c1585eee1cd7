section
/-- both laws of one text: the same answer, the same law -/
theorem law_eq {σ s1 s2 : mh_H} {m : Nat} {r : Nat → Int32} (hc : mh_cT m r σ) (hr : mh_rT m r s1) (hp3 : mh_p3 s1) (h12 : mh_isL (σ.2.2 0 12)) {p z0 z1 : Int32} (E0 : f_eX9_law σ p = (z0, s1)) (E1 : f_eX10_law s1 p = (z1, s2)) : z0 = z1 ∧ ((∃ Ls, s1.2.2 0 11 = σ.2.2 0 12 ∧ s1.2.2 0 12 = σ.2.2 0 11 ∧ mh_LC (σ.2.2 0 12) s1 (mh_lw Ls) ∧ mh_LR s2 (mh_lw Ls)) ∨ (s1.2.2 0 = σ.2.2 0 ∧ mh_ro s1 s2 ∧ ∀ kl, mh_isL kl → kl ≠ σ.2.2 0 12 → ∀ i, i ≤ 7 → s1.1 (kl + i) = σ.1 (kl + i))) := by
  have k1 : (1 : Int32).toInt = 1 := rfl
  have k200 : (200 : Int32).toInt = 200 := rfl
  have hc1 := hc.1
  have hr1 := hr.1
  have w1 := fq_lies s1 (Int32.toInt64 p) 1 200
  rw [Int32.toInt_toInt64, show (1 : Int64).toInt = 1 from rfl, show (200 : Int64).toInt = 200 from rfl] at w1
  unfold f_eX9_law at E0
  unfold f_eX10_law at E1
  simp only [mh_lbE, mh_lb2E] at E0 E1
  have refuse : z0 = -1 → s1 = σ → z1 = -1 → s2 = s1 → z0 = z1 ∧ ((∃ Ls, s1.2.2 0 11 = σ.2.2 0 12 ∧ s1.2.2 0 12 = σ.2.2 0 11 ∧ mh_LC (σ.2.2 0 12) s1 (mh_lw Ls) ∧ mh_LR s2 (mh_lw Ls)) ∨ (s1.2.2 0 = σ.2.2 0 ∧ mh_ro s1 s2 ∧ ∀ kl, mh_isL kl → kl ≠ σ.2.2 0 12 → ∀ i, i ≤ 7 → s1.1 (kl + i) = σ.1 (kl + i))) := by
    intro a b c d
    subst d
    subst b
    exact ⟨a.trans c.symm, Or.inr ⟨rfl, ⟨fun _ _ _ => rfl, rfl⟩, fun _ _ _ _ _ => rfl⟩⟩
  by_cases c1 : 1 ≤ p.toInt ∧ p.toInt ≤ 200
  · rw [if_neg (show ¬ p.toInt < (1 : Int32).toInt by omega), if_neg (show ¬ (200 : Int32).toInt < p.toInt by omega)] at E0
    rw [if_neg (fun g => w1.1 g c1)] at E1
    by_cases c3 : (m : Int) < p.toInt
    · rw [if_pos (show (σ.1 37 1).toInt < p.toInt by omega)] at E0
      rw [if_pos (show (s1.1 57 1).toInt < p.toInt by omega)] at E1
      exact refuse (Prod.mk.inj E0).1.symm (Prod.mk.inj E0).2.symm (Prod.mk.inj E1).1.symm (Prod.mk.inj E1).2.symm
    · rw [if_neg (show ¬ (σ.1 37 1).toInt < p.toInt by omega)] at E0
      rw [if_neg (show ¬ (s1.1 57 1).toInt < p.toInt by omega)] at E1
      obtain ⟨N, hN⟩ : ∃ N : Nat, p.toInt = (N : Int) := ⟨p.toInt.toNat, by omega⟩
      have e38 : σ.1 38 = r := funext hc.2
      have hby : ∀ q, q < N → 0 ≤ (r q).toInt ∧ (r q).toInt ≤ 255 := fun q _ => by
        rw [← hr.2 q]; exact mh_and255
      have ht := sg_tx hby
      -- the class
      have rc := c_read h12 (show N ≤ 200 by omega) hN (s := σ) (by rw [e38]; exact ht)
      rw [e38] at rc
      have fo := o_read (kl := σ.2.2 0 12) (s := σ) (p := p)
      generalize f_eX4_read σ (σ.2.2 0 12) p = z at rc fo E0
      -- the reference
      have a0 : mh_rz0 N r 0 0 (mh_pI (mh_pI (mh_pI (mh_pI (mh_pI (mh_pI s1 57 1 0) 57 23 0) 57 24 p) 57 25 0) 57 26 0) 57 27 0) := by
        refine ⟨?_, ?_, ?_, ?_, fun i => ?_, Nat.zero_le _⟩
        · rw [pI_j (by decide), pI_j (by decide), pI_j (by decide), pI_j (by decide), pI_w]; rfl
        · rw [pI_j (by decide), pI_j (by decide), pI_j (by decide), pI_w]; exact hN
        · rw [pI_j (by decide), pI_j (by decide), pI_w]
        · rw [pI_w]; rfl
        · rw [pI_o (by decide), pI_o (by decide), pI_o (by decide), pI_o (by decide), pI_o (by decide), pI_o (by decide)]; exact hr.2 i
      have aK : mh_rK (mh_pI (mh_pI (mh_pI (mh_pI (mh_pI (mh_pI s1 57 1 0) 57 23 0) 57 24 p) 57 25 0) 57 26 0) 57 27 0) 0 [] := ⟨trivial, by rw [pI_j (by decide), pI_w]; rfl⟩
      have ap : mh_p3 (mh_pI (mh_pI (mh_pI (mh_pI (mh_pI (mh_pI s1 57 1 0) 57 23 0) 57 24 p) 57 25 0) 57 26 0) 57 27 0) := hp3
      have ar : mh_ro s1 (mh_pI (mh_pI (mh_pI (mh_pI (mh_pI (mh_pI s1 57 1 0) 57 23 0) 57 24 p) 57 25 0) 57 26 0) 57 27 0) := by
        refine ⟨fun i a b => ?_, ?_⟩
        · rw [pI_row (by omega), pI_row (by omega), pI_row (by omega), pI_row (by omega), pI_row (by omega), pI_row (by omega)]
        · rw [pI_j (by decide), pI_j (by decide), pI_j (by decide), pI_j (by decide), pI_j (by decide), pI_j (by decide)]
      obtain ⟨w, hw⟩ : ∃ w : Nat, w = 806 := ⟨_, rfl⟩
      rw [show (806 : Nat) = w by omega] at E1
      have rr := q_law (show N ≤ 200 by omega) ht (s0 := s1) 16 _ [] 0 0 w (by decide) (by decide) (by omega) a0 (Nat.le_refl _) aK ap ar
      rw [E1] at rr
      cases e : rd_law (rd_sg r N) N 16 [] 0 with
      | inl f =>
        rw [e] at rc rr
        obtain ⟨b1, b2, b3⟩ := rr
        have b1 : z1.toInt = -1000 * (f.1 : Int) - (f.2 : Int) := b1
        have rc : z.1.toInt = -1000 * (f.1 : Int) - (f.2 : Int) := rc
        rw [if_neg (show ¬ 0 < z.1.toInt by omega)] at E0
        obtain ⟨d1, d2⟩ := Prod.mk.inj E0
        refine ⟨Int32.toInt_inj.mp (by rw [← d1, rc, b1]), Or.inr ⟨?_, b3, fun kl hkl hne i hi => ?_⟩⟩
        · rw [← d2]; exact fo.2.2
        · rw [← d2]
          have hk2 : 40 ≤ σ.2.2 0 12 ∧ σ.2.2 0 12 ≤ 48 := by rcases h12 with q | q <;> omega
          have hk3 : kl + 7 < σ.2.2 0 12 ∨ σ.2.2 0 12 + 7 < kl := by
            unfold mh_isL at hkl h12
            omega
          have hk4 : kl ≤ 48 := by unfold mh_isL at hkl; omega
          rw [pI_row (by unfold mh_isL at hkl; omega)]
          exact fo.2.1 (kl + i) (by omega) (by omega)
      | inr Ls =>
        rw [e] at rc rr
        obtain ⟨b1, b2⟩ := rr
        have b1 : z1.toInt = (Ls.length : Int) := b1
        obtain ⟨d1, d2, d3⟩ := rc
        rw [if_pos (show 0 < z.1.toInt by omega)] at E0
        obtain ⟨g1, g2⟩ := Prod.mk.inj E0
        have r11 : (mh_pI z.2 37 1 0).2.2 0 11 = σ.2.2 0 11 := congrFun fo.2.2 11
        have r12 : (mh_pI z.2 37 1 0).2.2 0 12 = σ.2.2 0 12 := congrFun fo.2.2 12
        rw [r11, r12] at g2
        refine ⟨Int32.toInt_inj.mp (by rw [← g1, d1, b1]), Or.inl ⟨Ls, ?_, ?_, ?_, b2⟩⟩
        · rw [← g2]; rfl
        · rw [← g2]; rfl
        · rw [← g2]
          have hk4 : 37 < σ.2.2 0 12 := by unfold mh_isL at h12; omega
          have q : ∀ b, b ≠ 37 → (mh_pR (mh_pR (mh_pI z.2 37 1 0) 0 11 (σ.2.2 0 12)) 0 12 (σ.2.2 0 11)).1 b = z.2.1 b := fun b hb => pI_row hb
          exact LC_mono d3 (fun i _ _ => q _ (by omega)) (congrFun (q _ (by omega)) 7) (congrFun (q _ (by omega)) 9) (congrFun (q _ (by omega)) 10)
  · rw [if_pos (w1.2 c1)] at E1
    rcases Int.lt_or_le p.toInt 1 with g | g
    · rw [if_pos (show p.toInt < (1 : Int32).toInt by omega)] at E0
      exact refuse (Prod.mk.inj E0).1.symm (Prod.mk.inj E0).2.symm (Prod.mk.inj E1).1.symm (Prod.mk.inj E1).2.symm
    · rw [if_neg (show ¬ p.toInt < (1 : Int32).toInt by omega), if_pos (show (200 : Int32).toInt < p.toInt by omega)] at E0
      exact refuse (Prod.mk.inj E0).1.symm (Prod.mk.inj E0).2.symm (Prod.mk.inj E1).1.symm (Prod.mk.inj E1).2.symm
end
section
def S_so1 : List (Nat × Nat) := [(96, 9999), (96, 9999), (96, 9999), (96, 9999), (96, 9999), (96, 9999), (96, 9999), (96, 9999), (96, 9999), (96, 9999), (96, 9999), (96, 9999), (96, 9999), (96, 9999), (96, 9999), (96, 9999), (96, 9999), (96, 9999), (96, 9999), (96, 9999), (96, 9999), (96, 9999), (96, 9999), (96, 9999), (96, 9999)]
theorem fs_j_eX10_soonest_258_4 (s0 : mh_H) (hp : mh_p3 s0) (lo_112_3 : mh_H → Int32 → Int32 × mh_H) (s18632 : mh_H) (x17877 : Int32) (hlo_112_3 : ∀ (s17878 : mh_H) (x17877 : Int32), mh_Fr S_so1 s0 s17878 → mh_FrP S_so1 s0 (lo_112_3 s17878 x17877)) (fs18632 : mh_Fr S_so1 s0 s18632) : mh_FrP S_so1 s0 (j_eX10_soonest_258_4 lo_112_3 s18632 x17877) := by
  have fs0 : mh_Fr S_so1 s0 s0 := ⟨mh_F_rf, hp⟩
  unfold j_eX10_soonest_258_4
  exact (mh_fA (fun x18635 => (hlo_112_3 s18632 x18635 fs18632)))
theorem fs_j_eX10_soonest_252_7 (s0 : mh_H) (hp : mh_p3 s0) (lo_156_6 : mh_H → Int32 → Int32 × mh_H) (s19358 : mh_H) (x19289 : Int32) (hlo_156_6 : ∀ (s19290 : mh_H) (x19289 : Int32), mh_Fr S_so1 s0 s19290 → mh_FrP S_so1 s0 (lo_156_6 s19290 x19289)) (fs19358 : mh_Fr S_so1 s0 s19358) : mh_FrP S_so1 s0 (j_eX10_soonest_252_7 lo_156_6 s19358 x19289) := by
  have fs0 : mh_Fr S_so1 s0 s0 := ⟨mh_F_rf, hp⟩
  unfold j_eX10_soonest_252_7
  exact (mh_fA (fun x19361 => (hlo_156_6 s19358 x19361 fs19358)))
theorem fs_j_eX10_soonest_221_8 (s0 : mh_H) (hp : mh_p3 s0) (lo_156_6 : mh_H → Int32 → Int32 × mh_H) (s19379 : mh_H) (x14079 : Int32) (x17877 : Int32) (x19289 : Int32) (hlo_156_6 : ∀ (s19290 : mh_H) (x19289 : Int32), mh_Fr S_so1 s0 s19290 → mh_FrP S_so1 s0 (lo_156_6 s19290 x19289)) (fs19379 : mh_Fr S_so1 s0 s19379) : mh_FrP S_so1 s0 (j_eX10_soonest_221_8 lo_156_6 s19379 x14079 x17877 x19289) := by
  have fs0 : mh_Fr S_so1 s0 s0 := ⟨mh_F_rf, hp⟩
  unfold j_eX10_soonest_221_8
  exact (mh_fA (fun x19391 => (mh_fI (mh_fA (fun x19394 => (mh_fA (fun x19396 => (mh_fB (mh_Fr_tv fs19379 (fr_eX10_arrives s19379 x19394 x19396 fs19379.2) (by decide +kernel)) (fun s19400 fs19400 => (fs_j_eX10_soonest_252_7 s0 hp lo_156_6 s19400 x19289 hlo_156_6 fs19400))))))) (fs_j_eX10_soonest_252_7 s0 hp lo_156_6 s19379 x19289 hlo_156_6 fs19379))))
theorem fs_l_eX10_soonest_156_6 (s0 : mh_H) (hp : mh_p3 s0) (lo_112_3 : mh_H → Int32 → Int32 × mh_H) (x14079 : Int32) (x17877 : Int32) (hlo_112_3 : ∀ (s17878 : mh_H) (x17877 : Int32), mh_Fr S_so1 s0 s17878 → mh_FrP S_so1 s0 (lo_112_3 s17878 x17877)) : ∀ (n : Nat) (s19290 : mh_H) (x19289 : Int32), mh_Fr S_so1 s0 s19290 → mh_FrP S_so1 s0 (l_eX10_soonest_156_6 lo_112_3 x14079 x17877 n s19290 x19289) := by
  have fs0 : mh_Fr S_so1 s0 s0 := ⟨mh_F_rf, hp⟩
  intro n
  induction n with
  | zero => intro s19290 x19289 fs19290; exact fs19290
  | succ n ih =>
    intro s19290 x19289 fs19290
    have hlo_156_6 := ih
    rw [l_eX10_soonest_156_6_s]
    unfold ls_eX10_soonest_156_6
    exact (mh_fI (mh_fA (fun x19328 => (mh_fI (fs_j_eX10_soonest_252_7 s0 hp (l_eX10_soonest_156_6 lo_112_3 x14079 x17877 n) s19290 x19289 hlo_156_6 fs19290) (mh_fA (fun x19364 => (mh_fI (fs_j_eX10_soonest_252_7 s0 hp (l_eX10_soonest_156_6 lo_112_3 x14079 x17877 n) s19290 x19289 hlo_156_6 fs19290) (mh_fA (fun x19368 => (mh_fI (mh_fA (fun x19403 => (mh_fA (fun x19405 => (mh_fB (mh_Fr_tv fs19290 (fr_eX10_arrives s19290 x19403 x19405 fs19290.2) (by decide +kernel)) (fun s19409 fs19409 => (fs_j_eX10_soonest_221_8 s0 hp (l_eX10_soonest_156_6 lo_112_3 x14079 x17877 n) s19409 x14079 x17877 x19289 hlo_156_6 fs19409))))))) (fs_j_eX10_soonest_221_8 s0 hp (l_eX10_soonest_156_6 lo_112_3 x14079 x17877 n) s19290 x14079 x17877 x19289 hlo_156_6 fs19290)))))))))) (fs_j_eX10_soonest_258_4 s0 hp lo_112_3 s19290 x17877 hlo_112_3 fs19290))
theorem fs_j_eX10_soonest_153_5 (s0 : mh_H) (hp : mh_p3 s0) (lo_112_3 : mh_H → Int32 → Int32 × mh_H) (s18644 : mh_H) (x14079 : Int32) (x17877 : Int32) (hlo_112_3 : ∀ (s17878 : mh_H) (x17877 : Int32), mh_Fr S_so1 s0 s17878 → mh_FrP S_so1 s0 (lo_112_3 s17878 x17877)) (fs18644 : mh_Fr S_so1 s0 s18644) : mh_FrP S_so1 s0 (j_eX10_soonest_153_5 lo_112_3 s18644 x14079 x17877) := by
  have fs0 : mh_Fr S_so1 s0 s0 := ⟨mh_F_rf, hp⟩
  unfold j_eX10_soonest_153_5
  exact (fs_l_eX10_soonest_156_6 s0 hp lo_112_3 x14079 x17877 hlo_112_3 21 s18644 (0 : Int32) fs18644)
theorem fs_l_eX10_soonest_112_3 (s0 : mh_H) (hp : mh_p3 s0) (lo_83_2 : mh_H → Int32 → Int32 × mh_H) (p4 : Int32) (x14079 : Int32) (x16360 : Int32) (hlo_83_2 : ∀ (s14080 : mh_H) (x14079 : Int32), mh_Fr S_so1 s0 s14080 → mh_FrP S_so1 s0 (lo_83_2 s14080 x14079)) : ∀ (n : Nat) (s17878 : mh_H) (x17877 : Int32), mh_Fr S_so1 s0 s17878 → mh_FrP S_so1 s0 (l_eX10_soonest_112_3 lo_83_2 p4 x14079 x16360 n s17878 x17877) := by
  have fs0 : mh_Fr S_so1 s0 s0 := ⟨mh_F_rf, hp⟩
  intro n
  induction n with
  | zero => intro s17878 x17877 fs17878; exact fs17878
  | succ n ih =>
    intro s17878 x17877 fs17878
    have hlo_112_3 := ih
    rw [l_eX10_soonest_112_3_s]
    unfold ls_eX10_soonest_112_3
    exact (mh_fI (mh_fA (fun x18262 => (mh_fA (fun x18264 => (mh_fI (fs_j_eX10_soonest_258_4 s0 hp (l_eX10_soonest_112_3 lo_83_2 p4 x14079 x16360 n) s17878 x17877 hlo_112_3 fs17878) (mh_fI (mh_fA (fun x19412 => (mh_fB (mh_Fr_tv fs17878 (fr_eX10_arrives s17878 x17877 x19412 fs17878.2) (by decide +kernel)) (fun s19415 fs19415 => (fs_j_eX10_soonest_153_5 s0 hp (l_eX10_soonest_112_3 lo_83_2 p4 x14079 x16360 n) s19415 x14079 x17877 hlo_112_3 fs19415))))) (fs_j_eX10_soonest_153_5 s0 hp (l_eX10_soonest_112_3 lo_83_2 p4 x14079 x16360 n) s17878 x14079 x17877 hlo_112_3 fs17878))))))) (mh_fA (fun x18258 => (hlo_83_2 s17878 x18258 fs17878))))
theorem fs_l_eX10_soonest_83_2 (s0 : mh_H) (hp : mh_p3 s0) (p2 : Int32) (p4 : Int32) : ∀ (n : Nat) (s14080 : mh_H) (x14079 : Int32), mh_Fr S_so1 s0 s14080 → mh_FrP S_so1 s0 (l_eX10_soonest_83_2 p2 p4 n s14080 x14079) := by
  have fs0 : mh_Fr S_so1 s0 s0 := ⟨mh_F_rf, hp⟩
  intro n
  induction n with
  | zero => intro s14080 x14079 fs14080; exact fs14080
  | succ n ih =>
    intro s14080 x14079 fs14080
    have hlo_83_2 := ih
    rw [l_eX10_soonest_83_2_s]
    unfold ls_eX10_soonest_83_2
    exact (mh_fI fs14080 (mh_fA (fun x16360 => (mh_fA (fun x16362 => (mh_fA (fun x16364 => (mh_fI (fs_l_eX10_soonest_112_3 s0 hp (l_eX10_soonest_83_2 p2 p4 n) p4 x14079 x16360 hlo_83_2 11 s14080 (0 : Int32) fs14080) fs14080))))))))
theorem fs_l_eX10_soonest_46_1 (s0 : mh_H) (hp : mh_p3 s0) (p1 : Int32) (p2 : Int32) (p3 : Int32) (p4 : Int32) : ∀ (n : Nat) (s9510 : mh_H) (x9509 : Int32), mh_Fr S_so1 s0 s9510 → mh_FrP S_so1 s0 (l_eX10_soonest_46_1 p1 p2 p3 p4 n s9510 x9509) := by
  have fs0 : mh_Fr S_so1 s0 s0 := ⟨mh_F_rf, hp⟩
  intro n
  induction n with
  | zero => intro s9510 x9509 fs9510; exact fs9510
  | succ n ih =>
    intro s9510 x9509 fs9510
    have hlo_46_1 := ih
    rw [l_eX10_soonest_46_1_s]
    unfold ls_eX10_soonest_46_1
    exact (mh_fI (mh_fB (mh_Fr_pI fs9510 (mh_si 24 rfl)) (fun s19417 fs19417 => (mh_fA (fun x19419 => (hlo_46_1 s19417 x19419 fs19417))))) (mh_fA (fun x9519 => (mh_fA (fun x9521 => (mh_fB (mh_Fr_pI fs9510 (mh_si 24 rfl)) (fun s9523 fs9523 => (fs_l_eX10_soonest_83_2 s0 hp p2 p4 302 s9523 p3 fs9523))))))))
end
section
/-- the kept valley of the reference -/
def mh_kv (s : mh_H) : mh_V := (fun r c => if c < mh_vn r ∧ r < 5 then (if r < 4 then s.1 (mh_sr r) (144 + c) else s.1 102 c) else 0, s.1 87 1, Int64.toInt32 (s.2.1 88 1))
theorem kv_cg {s s' : mh_H} (h : ∀ r c, c < 144 → r < 4 → s'.1 (mh_sr r) (144 + c) = s.1 (mh_sr r) (144 + c)) (hw : ∀ c, c < 100 → s'.1 102 c = s.1 102 c) (h2 : s'.1 87 1 = s.1 87 1) (h3 : s'.2.1 88 1 = s.2.1 88 1) : mh_kv s' = mh_kv s := by
  unfold mh_kv
  rw [h2, h3]
  refine Prod.ext ?_ rfl
  funext r c
  show (if c < mh_vn r ∧ r < 5 then (if r < 4 then s'.1 (mh_sr r) (144 + c) else s'.1 102 c) else 0) = if c < mh_vn r ∧ r < 5 then (if r < 4 then s.1 (mh_sr r) (144 + c) else s.1 102 c) else 0
  by_cases g : c < mh_vn r ∧ r < 5
  · rw [if_pos g, if_pos g]
    by_cases g2 : r < 4
    · rw [if_pos g2, if_pos g2]
      refine h r c ?_ g2
      have := g.1
      unfold mh_vn at this
      rw [if_neg (by omega)] at this
      exact this
    · rw [if_neg g2, if_neg g2]
      refine hw c ?_
      have h4 : r = 4 := by omega
      have := g.1
      rw [h4] at this
      exact this
  · rw [if_neg g, if_neg g]
theorem kv_sd {s s' : mh_H} (h : mh_sd 1 s' = mh_sd 1 s) (hw : s'.1 102 = s.1 102) : mh_kv s' = mh_kv s := by
  unfold mh_kv
  have e2 : (s'.1 87 1, Int64.toInt32 (s'.2.1 88 1)) = (s.1 87 1, Int64.toInt32 (s.2.1 88 1)) := congrArg Prod.snd h
  refine Prod.ext ?_ e2
  funext r c
  show (if c < mh_vn r ∧ r < 5 then (if r < 4 then s'.1 (mh_sr r) (144 + c) else s'.1 102 c) else 0) = if c < mh_vn r ∧ r < 5 then (if r < 4 then s.1 (mh_sr r) (144 + c) else s.1 102 c) else 0
  by_cases g : c < mh_vn r ∧ r < 5
  · rw [if_pos g, if_pos g]
    by_cases g2 : r < 4
    · rw [if_pos g2, if_pos g2]
      have hc : c < 144 := by
        have := g.1
        unfold mh_vn at this
        rw [if_neg (by omega)] at this
        exact this
      have := congrFun (congrFun (congrArg Prod.fst h) r) c
      rw [sd_at hc g2, sd_at hc g2] at this
      exact this
    · rw [if_neg g2, if_neg g2, hw]
  · rw [if_neg g, if_neg g]
/-- the class's side and the reference's side of one state -/
def mh_CA (kl : Nat) (L : mh_Lw) (v : mh_V) (ch fl : Int32) (w : mh_V) (cw : Int32) (m : Nat) (r : Nat → Int32) (s : mh_H) : Prop := mh_cN 1 kl L v s ∧ s.2.2 0 12 ≠ kl ∧ s.1 1 7 = ch ∧ s.1 0 13 = fl ∧ (¬ fl.toInt = 0 → mh_vc 7 s = w ∧ s.1 7 7 = cw) ∧ mh_cT m r s
def mh_RA (L : mh_Lw) (v : mh_V) (ch fl : Int32) (w : mh_V) (cw : Int32) (m : Nat) (r : Nat → Int32) (s : mh_H) : Prop := mh_rN L v s ∧ s.1 57 3 = ch ∧ s.1 57 64 = fl ∧ (¬ fl.toInt = 0 → mh_kv s = w ∧ s.1 57 65 = cw) ∧ mh_rT m r s
def mh_RV (σ : mh_H) : Prop := ∃ (kl : Nat) (Ls : List mh_Cl) (v : mh_V) (ch fl : Int32) (w : mh_V) (cw : Int32) (m : Nat) (r : Nat → Int32), mh_isL kl ∧ mh_rg v ∧ (¬ fl.toInt = 0 → mh_rg w ∧ 0 ≤ w.2.1.toInt) ∧ m ≤ 220 ∧ mh_CA kl (mh_lw Ls) v ch fl w cw m r σ ∧ mh_RA (mh_lw Ls) v ch fl w cw m r σ
def mh_okC (S : List (Nat × Nat)) : Bool := S.all (fun e => decide (12 < e.1) && !(e.1 == 37 && (e.2 == 1 || e.2 == 9999)) && !(e.1 == 38) && !(decide (40 ≤ e.1) && decide (e.1 ≤ 45)) && !(decide (48 ≤ e.1) && decide (e.1 ≤ 53)))
def mh_okB (S : List (Nat × Nat)) : Bool := S.all (fun e => !(e.1 == 102) && !(e.1 == 58) && !(e.1 == 57 && (e.2 == 1 || e.2 == 3 || e.2 == 64 || e.2 == 65 || e.2 == 9999)))
def mh_okR (S : List (Nat × Nat)) : Bool := mh_rnS S && mh_okB S && S.all (fun e => !(decide (83 ≤ e.1) && decide (e.1 ≤ 88)))
theorem CA_F {S : List (Nat × Nat)} {kl : Nat} {L : mh_Lw} {v : mh_V} {ch fl : Int32} {w : mh_V} {cw : Int32} {m : Nat} {r : Nat → Int32} {s s' : mh_H} (hl : mh_isL kl) (h : mh_CA kl L v ch fl w cw m r s) (hF : mh_F S s s') (hp : mh_p3 s') (hS : mh_okC S = true) : mh_CA kl L v ch fl w cw m r s' := by
  have h0 := List.all_eq_true.mp hS
  have g12 : ∀ e ∈ S, 12 < e.1 := fun e he => by have := h0 e he; simp at this; omega
  have g37 : ∀ e ∈ S, ¬ (e.1 = 37 ∧ (e.2 = 9999 ∨ e.2 = 1)) := fun e he q => by
    have h3 := h0 e he
    rcases q.2 with g | g <;> simp [q.1, g] at h3
  have g38 : ∀ e ∈ S, e.1 ≠ 38 := fun e he q => by have h3 := h0 e he; simp [q] at h3
  have gl : ∀ e ∈ S, e.1 < kl ∨ kl + 5 < e.1 := fun e he => by
    have h3 := h0 e he
    simp at h3
    rcases hl with rfl | rfl <;> omega
  obtain ⟨c1, c2, c3, c4, c5, c6⟩ := h
  refine ⟨cN_F c1 hF hp (fun e he => by have := g12 e he; omega) gl (fun e he => by have := g12 e he; omega), ?_, ?_, ?_, fun q => ⟨?_, ?_⟩, cT_c c6 (F_at1 hF g37) (F_row1 hF g38)⟩
  · rw [(hF 0 12 (fun ⟨e, e1, e2, _⟩ => by have := g12 e e1; omega)).2.2]; exact c2
  · rw [F_row1 hF (k := 1) (fun e he => by have := g12 e he; omega)]; exact c3
  · rw [F_row1 hF (k := 0) (fun e he => by have := g12 e he; omega)]; exact c4
  · rw [vc_F hF (fun e he => by have := g12 e he; omega)]; exact (c5 q).1
  · rw [F_row1 hF (k := 7) (fun e he => by have := g12 e he; omega)]; exact (c5 q).2
theorem okB_at {S : List (Nat × Nat)} {s s' : mh_H} (hF : mh_F S s s') (hS : mh_okB S = true) : s'.1 102 = s.1 102 ∧ s'.1 58 = s.1 58 ∧ s'.1 57 1 = s.1 57 1 ∧ s'.1 57 3 = s.1 57 3 ∧ s'.1 57 64 = s.1 57 64 ∧ s'.1 57 65 = s.1 57 65 := by
  have h0 := List.all_eq_true.mp hS
  refine ⟨F_row1 hF (fun e he q => ?_), F_row1 hF (fun e he q => ?_), F_at1 hF (fun e he q => ?_), F_at1 hF (fun e he q => ?_), F_at1 hF (fun e he q => ?_), F_at1 hF (fun e he q => ?_)⟩
  · have h3 := h0 e he; simp [q] at h3
  · have h3 := h0 e he; simp [q] at h3
  · have h3 := h0 e he
    rcases q.2 with g | g <;> simp [q.1, g] at h3
  · have h3 := h0 e he
    rcases q.2 with g | g <;> simp [q.1, g] at h3
  · have h3 := h0 e he
    rcases q.2 with g | g <;> simp [q.1, g] at h3
  · have h3 := h0 e he
    rcases q.2 with g | g <;> simp [q.1, g] at h3
/-- the reference went through a night and came back -/
theorem RA_bk {S : List (Nat × Nat)} {L : mh_Lw} {v v' : mh_V} {ch fl : Int32} {w : mh_V} {cw : Int32} {m : Nat} {r : Nat → Int32} {s s' : mh_H} (h : mh_RA L v ch fl w cw m r s) (hn : mh_rN L v' s') (hd : mh_sd 1 s' = mh_sd 1 s) (hF : mh_F S s s') (hS : mh_okB S = true) : mh_RA L v' ch fl w cw m r s' := by
  obtain ⟨b1, b2, b3, b4, b5, b6⟩ := okB_at hF hS
  obtain ⟨c1, c2, c3, c4, c5⟩ := h
  refine ⟨hn, by rw [b4]; exact c2, by rw [b5]; exact c3, fun q => ⟨by rw [kv_sd hd b1]; exact (c4 q).1, by rw [b6]; exact (c4 q).2⟩, rT_c c5 b3 b2⟩
theorem kv_F {S : List (Nat × Nat)} {s s' : mh_H} (hF : mh_F S s s') (h0 : ∀ e ∈ S, (e.1 < 83 ∨ 88 < e.1) ∧ e.1 ≠ 102) : mh_kv s' = mh_kv s := by
  have rw1 : ∀ k, 83 ≤ k → k ≤ 88 → s'.1 k = s.1 k := fun k a b => F_row1 hF (fun e he => by have := h0 e he; omega)
  refine kv_cg (fun r c hc hr => ?_) (fun c hc => ?_) ?_ ?_
  · have : 83 ≤ mh_sr r ∧ mh_sr r ≤ 88 := by unfold mh_sr; split; omega; split; omega; split <;> omega
    rw [rw1 _ this.1 this.2]
  · rw [F_row1 hF (k := 102) (fun e he => (h0 e he).2)]
  · rw [rw1 87 (by decide) (by decide)]
  · exact (hF 88 1 (fun ⟨e, e1, e2, _⟩ => by have := h0 e e1; omega)).2.1
theorem RA_F {S : List (Nat × Nat)} {L : mh_Lw} {v : mh_V} {ch fl : Int32} {w : mh_V} {cw : Int32} {m : Nat} {r : Nat → Int32} {s s' : mh_H} (h : mh_RA L v ch fl w cw m r s) (hF : mh_F S s s') (hp : mh_p3 s') (hS : mh_okR S = true) : mh_RA L v ch fl w cw m r s' := by
  obtain ⟨h1, h2⟩ := Bool.and_eq_true_iff.mp hS
  obtain ⟨h3, h4⟩ := Bool.and_eq_true_iff.mp h1
  obtain ⟨b1, b2, b3, b4, b5, b6⟩ := okB_at hF h4
  have h0 := List.all_eq_true.mp h2
  have h5 := List.all_eq_true.mp h4
  obtain ⟨c1, c2, c3, c4, c5⟩ := h
  have ek : mh_kv s' = mh_kv s := kv_F hF (fun e he => by
    have t1 := h0 e he
    have t2 := h5 e he
    simp at t1 t2
    omega)
  exact ⟨rN_F c1 hF hp h3, by rw [b4]; exact c2, by rw [b5]; exact c3, fun q => ⟨by rw [ek]; exact (c4 q).1, by rw [b6]; exact (c4 q).2⟩, rT_c c5 b3 b2⟩
/-- what neither side's cells are in leaves the relation -/
theorem mh_RV_keep {S : List (Nat × Nat)} {B D : Int} {σ σ2 : mh_H} (hF : mh_F S σ σ2) (hI : mh_I B D σ2) (hS : (mh_okC S && mh_okR S) = true) (h : mh_RV σ) : mh_RV σ2 := by
  obtain ⟨hc, hr⟩ := Bool.and_eq_true_iff.mp hS
  obtain ⟨kl, Ls, v, ch, fl, w, cw, m, r, a1, a2, a3, a4, a5, a6⟩ := h
  exact ⟨kl, Ls, v, ch, fl, w, cw, m, r, a1, a2, a3, a4, CA_F a1 a5 hF (mh_I_p3 hI) hc, RA_F a6 hF (mh_I_p3 hI) hr⟩
theorem lw_nil {kl : Nat} (hl : 40 ≤ kl) : ∀ s : mh_H, (s.1 kl 7).toInt = 0 → mh_LC kl s (mh_lw []) := fun s h7 =>
  LC_of (B := 0) (by decide) trivial (by rw [h7]; rfl) (by decide) (fun _ q hq => absurd hq (by simp)) (fun _ q hq => absurd hq (by simp))
end
section
/-- a change of the valley on the class's side, and on the reference's -/
def mh_okV (S : List (Nat × Nat)) : Bool := S.all (fun e => !(e.1 == 0) && !(decide (7 ≤ e.1) && decide (e.1 ≤ 12)) && !(e.1 == 37 && (e.2 == 1 || e.2 == 9999)) && !(e.1 == 38))
def mh_okW (S : List (Nat × Nat)) : Bool := S.all (fun e => !(decide (83 ≤ e.1) && decide (e.1 ≤ 88)) && !(e.1 == 102) && !(e.1 == 58) && !(e.1 == 57 && (e.2 == 1 || e.2 == 64 || e.2 == 65 || e.2 == 9999)))
theorem CA_v {S : List (Nat × Nat)} {kl : Nat} {L L' : mh_Lw} {v v' : mh_V} {ch ch' fl : Int32} {w : mh_V} {cw : Int32} {m : Nat} {r : Nat → Int32} {s s' : mh_H} (h : mh_CA kl L v ch fl w cw m r s) (hn : mh_cN 1 kl L' v' s') (hch : s'.1 1 7 = ch') (hF : mh_F S s s') (hS : mh_okV S = true) : mh_CA kl L' v' ch' fl w cw m r s' := by
  have h0 := List.all_eq_true.mp hS
  have g0 : ∀ e ∈ S, e.1 ≠ 0 ∧ (e.1 < 7 ∨ 12 < e.1) := fun e he => by have := h0 e he; simp at this; omega
  have g37 : ∀ e ∈ S, ¬ (e.1 = 37 ∧ (e.2 = 9999 ∨ e.2 = 1)) := fun e he q => by
    have h3 := h0 e he
    rcases q.2 with g | g <;> simp [q.1, g] at h3
  have g38 : ∀ e ∈ S, e.1 ≠ 38 := fun e he q => by have h3 := h0 e he; simp [q] at h3
  obtain ⟨c1, c2, c3, c4, c5, c6⟩ := h
  refine ⟨hn, ?_, hch, ?_, fun q => ⟨?_, ?_⟩, cT_c c6 (F_at1 hF g37) (F_row1 hF g38)⟩
  · rw [(hF 0 12 (fun ⟨e, e1, e2, _⟩ => (g0 e e1).1 e2)).2.2]; exact c2
  · rw [F_row1 hF (k := 0) (fun e he => (g0 e he).1)]; exact c4
  · rw [vc_F hF (fun e he => (g0 e he).2)]; exact (c5 q).1
  · rw [F_row1 hF (k := 7) (fun e he => by have := (g0 e he).2; omega)]; exact (c5 q).2
theorem RA_v {S : List (Nat × Nat)} {L L' : mh_Lw} {v v' : mh_V} {ch ch' fl : Int32} {w : mh_V} {cw : Int32} {m : Nat} {r : Nat → Int32} {s s' : mh_H} (h : mh_RA L v ch fl w cw m r s) (hn : mh_rN L' v' s') (hch : s'.1 57 3 = ch') (hF : mh_F S s s') (hS : mh_okW S = true) : mh_RA L' v' ch' fl w cw m r s' := by
  have h0 := List.all_eq_true.mp hS
  obtain ⟨c1, c2, c3, c4, c5⟩ := h
  have at' : ∀ j, (j = 1 ∨ j = 64 ∨ j = 65) → s'.1 57 j = s.1 57 j := fun j hj => F_at1 hF (fun e he q => by
    have h3 := h0 e he
    rcases q.2 with g | g
    · simp [q.1, g] at h3
    · rcases hj with rfl | rfl | rfl <;> simp [q.1, g] at h3)
  have ek : mh_kv s' = mh_kv s := kv_F hF (fun e he => by
    have t1 := h0 e he
    simp at t1
    omega)
  refine ⟨hn, hch, by rw [at' 64 (by decide)]; exact c3, fun q => ⟨by rw [ek]; exact (c4 q).1, by rw [at' 65 (by decide)]; exact (c4 q).2⟩, rT_c c5 (at' 1 (by decide)) (F_row1 hF (fun e he q => ?_))⟩
  have h3 := h0 e he
  simp [q] at h3
def mh_u2 (v : mh_V) (q c : Nat) (a b : Int32) : mh_V := (fun r i => if i = c ∧ r = q then a else if i = c ∧ r = q + 1 then b else v.1 r i, v.2)
theorem vc_u2 {s : mh_H} {q c : Nat} {a b : Int32} (hq : q ≤ 2) (hc : c < 144) : mh_vc 1 (mh_pI (mh_pI s (q + 2) c a) (q + 3) c b) = mh_u2 (mh_vc 1 s) q c a b := by
  refine vc_ext (fun r i h => ?_) (fun r i hi hr => ?_) ?_ ?_
  · show (if i = c ∧ r = q then a else if i = c ∧ r = q + 1 then b else (mh_vc 1 s).1 r i) = 0
    rw [if_neg (fun z => h ⟨by rw [z.1, z.2]; exact vn_r hc (by omega), by omega⟩), if_neg (fun z => h ⟨by rw [z.1, z.2]; exact vn_r hc (by omega), by omega⟩)]
    exact vc_0 h
  · show (mh_pI (mh_pI s (q + 2) c a) (q + 3) c b).1 (1 + 1 + r) i = if i = c ∧ r = q then a else if i = c ∧ r = q + 1 then b else (mh_vc 1 s).1 r i
    by_cases g1 : i = c ∧ r = q
    · rw [if_pos g1, pI_o (by omega), pI_v, if_pos (by omega)]
    · rw [if_neg g1]
      by_cases g2 : i = c ∧ r = q + 1
      · rw [if_pos g2, pI_v, if_pos (by omega)]
      · rw [if_neg g2, pI_v, if_neg (by omega), pI_v, if_neg (by omega), vc_at hi hr]
  · rw [pI_o (by omega), pI_o (by omega)]; rfl
  · rw [pI_o (by omega), pI_o (by omega)]; rfl
theorem vr_u2 {s : mh_H} {q c : Nat} {a b : Int32} (hq : q ≤ 2) (hc : c < 144) : mh_vr (mh_pI (mh_pI s (q + 59) c a) (q + 60) c b) = mh_u2 (mh_vr s) q c a b := by
  refine vr_ext (fun r i h => ?_) (fun r i hi hr => ?_) ?_ ?_
  · show (if i = c ∧ r = q then a else if i = c ∧ r = q + 1 then b else (mh_vr s).1 r i) = 0
    rw [if_neg (fun z => h ⟨by rw [z.1, z.2]; exact vn_r hc (by omega), by omega⟩), if_neg (fun z => h ⟨by rw [z.1, z.2]; exact vn_r hc (by omega), by omega⟩)]
    exact vr_0 h
  · show (mh_pI (mh_pI s (q + 59) c a) (q + 60) c b).1 (59 + r) i = if i = c ∧ r = q then a else if i = c ∧ r = q + 1 then b else (mh_vr s).1 r i
    by_cases g1 : i = c ∧ r = q
    · rw [if_pos g1, pI_o (by omega), pI_v, if_pos (by omega)]
    · rw [if_neg g1]
      by_cases g2 : i = c ∧ r = q + 1
      · rw [if_pos g2, pI_v, if_pos (by omega)]
      · rw [if_neg g2, pI_v, if_neg (by omega), pI_v, if_neg (by omega), vr_at hi hr]
  · rw [pI_o (by omega), pI_o (by omega)]; rfl
  · rfl
def mh_u4 (v : mh_V) (c : Nat) (a : Int32) : mh_V := (fun r i => if i = c ∧ r = 4 then a else v.1 r i, v.2)
theorem vc_u4 {s : mh_H} {c : Nat} {a : Int32} (hc : c < 100) : mh_vc 1 (mh_pI s 6 c a) = mh_u4 (mh_vc 1 s) c a := by
  refine vc_ext (fun r i h => ?_) (fun r i hi hr => ?_) ?_ ?_
  · show (if i = c ∧ r = 4 then a else (mh_vc 1 s).1 r i) = 0
    rw [if_neg (fun z => h ⟨by rw [z.1, z.2]; exact vn_4 hc, by omega⟩)]
    exact vc_0 h
  · show (mh_pI s 6 c a).1 (1 + 1 + r) i = if i = c ∧ r = 4 then a else (mh_vc 1 s).1 r i
    by_cases g1 : i = c ∧ r = 4
    · rw [if_pos g1, pI_v, if_pos (by omega)]
    · rw [if_neg g1, pI_v, if_neg (by omega), vc_at hi hr]
  · rw [pI_o (by omega)]; rfl
  · rw [pI_o (by omega)]; rfl
theorem vr_u4 {s : mh_H} {c : Nat} {a : Int32} (hc : c < 100) : mh_vr (mh_pI s 63 c a) = mh_u4 (mh_vr s) c a := by
  refine vr_ext (fun r i h => ?_) (fun r i hi hr => ?_) ?_ ?_
  · show (if i = c ∧ r = 4 then a else (mh_vr s).1 r i) = 0
    rw [if_neg (fun z => h ⟨by rw [z.1, z.2]; exact vn_4 hc, by omega⟩)]
    exact vr_0 h
  · show (mh_pI s 63 c a).1 (59 + r) i = if i = c ∧ r = 4 then a else (mh_vr s).1 r i
    by_cases g1 : i = c ∧ r = 4
    · rw [if_pos g1, pI_v, if_pos (by omega)]
    · rw [if_neg g1, pI_v, if_neg (by omega), vr_at hi hr]
  · rw [pI_o (by omega)]; rfl
  · rfl
theorem cN_v {S : List (Nat × Nat)} {kl : Nat} (hl : mh_isL kl) {L : mh_Lw} {v v' : mh_V} {s s' : mh_H} (h : mh_cN 1 kl L v s) (hv : mh_vc 1 s' = v') (hF : mh_F S s s') (hp : mh_p3 s') (hS : S.all (fun e => decide (1 ≤ e.1) && decide (e.1 ≤ 12)) = true) : mh_cN 1 kl L v' s' := by
  have h0 := List.all_eq_true.mp hS
  have g : ∀ e ∈ S, 1 ≤ e.1 ∧ e.1 ≤ 12 := fun e he => by have := h0 e he; simp at this; omega
  refine ⟨hv, ?_, LC_F h.2.2.1 hF (fun e he => by have := g e he; rcases hl with rfl | rfl <;> omega), hp⟩
  rw [(hF 0 11 (fun ⟨e, e1, e2, _⟩ => by have := g e e1; omega)).2.2]; exact h.2.1
theorem rN_v {S : List (Nat × Nat)} {L : mh_Lw} {v v' : mh_V} {s s' : mh_H} (h : mh_rN L v s) (hv : mh_vr s' = v') (h0 : 0 ≤ v'.2.1.toInt) (hF : mh_F S s s') (hp : mh_p3 s') (hS : S.all (fun e => decide (59 ≤ e.1) && decide (e.1 ≤ 63) || (e.1 == 57 && (e.2 == 2 || e.2 == 3 || e.2 == 4))) = true) : mh_rN L v' s' := by
  have h1 := List.all_eq_true.mp hS
  refine ⟨hv, LR_mono h.2.1 (fun i a b => F_row1 hF (fun e he q => ?_)) (F_at1 hF (fun e he q => ?_)), hp, h0⟩
  · have h3 := h1 e he
    simp at h3
    omega
  · have h3 := h1 e he
    rcases q.2 with g | g <;> simp [q.1, g] at h3
theorem ground_T {B D B' D' : Int} {σ s1 s2 : mh_H} (h : mh_RV σ) (hI0 : mh_I B D s1) (hI1 : mh_I B' D' s2) (F0 : mh_F S_eX9_ground σ s1) (F1 : mh_F S_eX10_ground s1 s2) {p1 p2 p3 p4 z0 z1 : Int32} (E0 : f_eX9_ground σ p1 p2 p3 p4 = (z0, s1)) (E1 : f_eX10_ground s1 p1 p2 p3 p4 = (z1, s2)) : z0 = z1 ∧ mh_RV s2 := by
  have hs1 := mh_I_p3 hI0
  have hs2 := mh_I_p3 hI1
  have hR := h
  obtain ⟨kl, Ls, v, ch, fl, w, cw, m, r, a1, a2, a3, a4, a5, a6⟩ := h
  unfold f_eX9_ground at E0
  unfold f_eX10_ground at E1
  simp only [mh_lbE, ce_at] at E0 E1
  have ka : (99 : Int32).toInt = 99 := rfl
  have kb : (4 : Int32).toInt = 4 := rfl
  have w3 := fq_within σ p3 99
  have w4 := fq_within σ p4 4
  have l3 := fq_lies s1 (Int32.toInt64 p3) 0 99
  have l4 := fq_lies s1 (Int32.toInt64 p4) 0 4
  rw [Int32.toInt_toInt64, show (0 : Int64).toInt = 0 from rfl, show (99 : Int64).toInt = 99 from rfl] at l3
  rw [Int32.toInt_toInt64, show (0 : Int64).toInt = 0 from rfl, show (4 : Int64).toInt = 4 from rfl] at l4
  have no : z0 = 0 → s1 = σ → z1 = 0 → s2 = s1 → z0 = z1 ∧ mh_RV s2 := fun a b c d => ⟨a.trans c.symm, by rw [d, b]; exact hR⟩
  by_cases c1 : (0 ≤ p1.toInt ∧ p1.toInt ≤ 11) ∧ (0 ≤ p2.toInt ∧ p2.toInt ≤ 11)
  · rw [if_neg (fun g => (fq_pl9 σ p1 p2).1 g c1)] at E0
    rw [if_neg (fun g => (fq_ce10 s1 p1 p2).1 g c1)] at E1
    by_cases c3 : 0 ≤ p3.toInt ∧ p3.toInt ≤ 99
    · rw [if_neg (fun g => w3.1 g (by omega))] at E0
      rw [if_neg (fun g => l3.1 g c3)] at E1
      by_cases c4 : 0 ≤ p4.toInt ∧ p4.toInt ≤ 4
      · rw [if_neg (fun g => w4.1 g (by omega))] at E0
        rw [if_neg (fun g => l4.1 g c4)] at E1
        obtain ⟨c, hc, hx⟩ := ce_ix c1.1 c1.2
        rw [ix_n hx] at E0 E1
        obtain ⟨d1, d2⟩ := Prod.mk.inj E0
        obtain ⟨e1, e2⟩ := Prod.mk.inj E1
        refine ⟨d1.symm.trans e1, kl, Ls, mh_u2 v 0 c p3 p4, ch, fl, w, cw, m, r, a1, ?_, a3, a4, ?_, ?_⟩
        · intro i hi
          obtain ⟨g0, g1, g2, g3⟩ := a2 i hi
          have t0 : (mh_u2 v 0 c p3 p4).1 0 i = if i = c ∧ 0 = 0 then p3 else if i = c ∧ 0 = 0 + 1 then p4 else v.1 0 i := rfl
          have t1 : (mh_u2 v 0 c p3 p4).1 1 i = if i = c ∧ 1 = 0 then p3 else if i = c ∧ 1 = 0 + 1 then p4 else v.1 1 i := rfl
          have t2 : (mh_u2 v 0 c p3 p4).1 2 i = if i = c ∧ 2 = 0 then p3 else if i = c ∧ 2 = 0 + 1 then p4 else v.1 2 i := rfl
          have t3 : (mh_u2 v 0 c p3 p4).1 3 i = if i = c ∧ 3 = 0 then p3 else if i = c ∧ 3 = 0 + 1 then p4 else v.1 3 i := rfl
          rw [t0, t1, t2, t3]
          by_cases gi : i = c
          · rw [if_pos (show i = c ∧ 0 = 0 from ⟨gi, rfl⟩), if_neg (show ¬ (i = c ∧ 1 = 0) by omega), if_pos (show i = c ∧ 1 = 0 + 1 from ⟨gi, rfl⟩), if_neg (show ¬ (i = c ∧ 2 = 0) by omega), if_neg (show ¬ (i = c ∧ 2 = 0 + 1) by omega), if_neg (show ¬ (i = c ∧ 3 = 0) by omega), if_neg (show ¬ (i = c ∧ 3 = 0 + 1) by omega)]
            exact ⟨c3, c4, g2, g3⟩
          · rw [if_neg (show ¬ (i = c ∧ 0 = 0) from fun z => gi z.1), if_neg (show ¬ (i = c ∧ 0 = 0 + 1) from fun z => gi z.1), if_neg (show ¬ (i = c ∧ 1 = 0) from fun z => gi z.1), if_neg (show ¬ (i = c ∧ 1 = 0 + 1) from fun z => gi z.1), if_neg (show ¬ (i = c ∧ 2 = 0) from fun z => gi z.1), if_neg (show ¬ (i = c ∧ 2 = 0 + 1) from fun z => gi z.1), if_neg (show ¬ (i = c ∧ 3 = 0) from fun z => gi z.1), if_neg (show ¬ (i = c ∧ 3 = 0 + 1) from fun z => gi z.1)]
            exact ⟨g0, g1, g2, g3⟩
        · have hc1 : mh_CA kl (mh_lw Ls) (mh_u2 v 0 c p3 p4) ch fl w cw m r s1 := CA_v a5 (cN_v a1 a5.1 (by rw [← d2, ← a5.1.1]; exact vc_u2 (q := 0) (by decide) hc) F0 hs1 (by decide)) (by rw [F_at1 F0 (by decide)]; exact a5.2.2.1) F0 (by decide)
          exact CA_F a1 hc1 F1 hs2 (by decide)
        · have hr1 := RA_F a6 F0 hs1 (by decide)
          exact RA_v hr1 (rN_v hr1.1 (by rw [← e2, ← hr1.1.1]; exact vr_u2 (q := 0) (by decide) hc) hr1.1.2.2.2 F1 hs2 (by decide)) (by rw [F_at1 F1 (by decide)]; exact hr1.2.1) F1 (by decide)
      · rw [if_pos (w4.2 (by omega))] at E0
        rw [if_pos (l4.2 c4)] at E1
        exact no (Prod.mk.inj E0).1.symm (Prod.mk.inj E0).2.symm (Prod.mk.inj E1).1.symm (Prod.mk.inj E1).2.symm
    · rw [if_pos (w3.2 (by omega))] at E0
      rw [if_pos (l3.2 c3)] at E1
      exact no (Prod.mk.inj E0).1.symm (Prod.mk.inj E0).2.symm (Prod.mk.inj E1).1.symm (Prod.mk.inj E1).2.symm
  · rw [if_pos ((fq_pl9 σ p1 p2).2 c1)] at E0
    rw [if_pos ((fq_ce10 s1 p1 p2).2 c1)] at E1
    exact no (Prod.mk.inj E0).1.symm (Prod.mk.inj E0).2.symm (Prod.mk.inj E1).1.symm (Prod.mk.inj E1).2.symm
theorem air_T {B D B' D' : Int} {σ s1 s2 : mh_H} (h : mh_RV σ) (hI0 : mh_I B D s1) (hI1 : mh_I B' D' s2) (F0 : mh_F S_eX9_air σ s1) (F1 : mh_F S_eX10_air s1 s2) {p1 p2 p3 p4 z0 z1 : Int32} (E0 : f_eX9_air σ p1 p2 p3 p4 = (z0, s1)) (E1 : f_eX10_air s1 p1 p2 p3 p4 = (z1, s2)) : z0 = z1 ∧ mh_RV s2 := by
  have hs1 := mh_I_p3 hI0
  have hs2 := mh_I_p3 hI1
  have hR := h
  obtain ⟨kl, Ls, v, ch, fl, w, cw, m, r, a1, a2, a3, a4, a5, a6⟩ := h
  unfold f_eX9_air at E0
  unfold f_eX10_air at E1
  simp only [mh_lbE, ce_at] at E0 E1
  have ka : (9999 : Int32).toInt = 9999 := rfl
  have kb : (9999 : Int32).toInt = 9999 := rfl
  have w3 := fq_within σ p3 9999
  have w4 := fq_within σ p4 9999
  have l3 := fq_lies s1 (Int32.toInt64 p3) 0 9999
  have l4 := fq_lies s1 (Int32.toInt64 p4) 0 9999
  rw [Int32.toInt_toInt64, show (0 : Int64).toInt = 0 from rfl, show (9999 : Int64).toInt = 9999 from rfl] at l3
  rw [Int32.toInt_toInt64, show (0 : Int64).toInt = 0 from rfl, show (9999 : Int64).toInt = 9999 from rfl] at l4
  have no : z0 = 0 → s1 = σ → z1 = 0 → s2 = s1 → z0 = z1 ∧ mh_RV s2 := fun a b c d => ⟨a.trans c.symm, by rw [d, b]; exact hR⟩
  by_cases c1 : (0 ≤ p1.toInt ∧ p1.toInt ≤ 11) ∧ (0 ≤ p2.toInt ∧ p2.toInt ≤ 11)
  · rw [if_neg (fun g => (fq_pl9 σ p1 p2).1 g c1)] at E0
    rw [if_neg (fun g => (fq_ce10 s1 p1 p2).1 g c1)] at E1
    by_cases c3 : 0 ≤ p3.toInt ∧ p3.toInt ≤ 9999
    · rw [if_neg (fun g => w3.1 g (by omega))] at E0
      rw [if_neg (fun g => l3.1 g c3)] at E1
      by_cases c4 : 0 ≤ p4.toInt ∧ p4.toInt ≤ 9999
      · rw [if_neg (fun g => w4.1 g (by omega))] at E0
        rw [if_neg (fun g => l4.1 g c4)] at E1
        obtain ⟨c, hc, hx⟩ := ce_ix c1.1 c1.2
        rw [ix_n hx] at E0 E1
        obtain ⟨d1, d2⟩ := Prod.mk.inj E0
        obtain ⟨e1, e2⟩ := Prod.mk.inj E1
        refine ⟨d1.symm.trans e1, kl, Ls, mh_u2 v 2 c p3 p4, ch, fl, w, cw, m, r, a1, ?_, a3, a4, ?_, ?_⟩
        · intro i hi
          obtain ⟨g0, g1, g2, g3⟩ := a2 i hi
          have t0 : (mh_u2 v 2 c p3 p4).1 0 i = if i = c ∧ 0 = 2 then p3 else if i = c ∧ 0 = 2 + 1 then p4 else v.1 0 i := rfl
          have t1 : (mh_u2 v 2 c p3 p4).1 1 i = if i = c ∧ 1 = 2 then p3 else if i = c ∧ 1 = 2 + 1 then p4 else v.1 1 i := rfl
          have t2 : (mh_u2 v 2 c p3 p4).1 2 i = if i = c ∧ 2 = 2 then p3 else if i = c ∧ 2 = 2 + 1 then p4 else v.1 2 i := rfl
          have t3 : (mh_u2 v 2 c p3 p4).1 3 i = if i = c ∧ 3 = 2 then p3 else if i = c ∧ 3 = 2 + 1 then p4 else v.1 3 i := rfl
          rw [t0, t1, t2, t3]
          by_cases gi : i = c
          · rw [if_neg (show ¬ (i = c ∧ 0 = 2) by omega), if_neg (show ¬ (i = c ∧ 0 = 2 + 1) by omega), if_neg (show ¬ (i = c ∧ 1 = 2) by omega), if_neg (show ¬ (i = c ∧ 1 = 2 + 1) by omega), if_pos (show i = c ∧ 2 = 2 from ⟨gi, rfl⟩), if_neg (show ¬ (i = c ∧ 3 = 2) by omega), if_pos (show i = c ∧ 3 = 2 + 1 from ⟨gi, rfl⟩)]
            exact ⟨g0, g1, c3, c4⟩
          · rw [if_neg (show ¬ (i = c ∧ 0 = 2) from fun z => gi z.1), if_neg (show ¬ (i = c ∧ 0 = 2 + 1) from fun z => gi z.1), if_neg (show ¬ (i = c ∧ 1 = 2) from fun z => gi z.1), if_neg (show ¬ (i = c ∧ 1 = 2 + 1) from fun z => gi z.1), if_neg (show ¬ (i = c ∧ 2 = 2) from fun z => gi z.1), if_neg (show ¬ (i = c ∧ 2 = 2 + 1) from fun z => gi z.1), if_neg (show ¬ (i = c ∧ 3 = 2) from fun z => gi z.1), if_neg (show ¬ (i = c ∧ 3 = 2 + 1) from fun z => gi z.1)]
            exact ⟨g0, g1, g2, g3⟩
        · have hc1 : mh_CA kl (mh_lw Ls) (mh_u2 v 2 c p3 p4) ch fl w cw m r s1 := CA_v a5 (cN_v a1 a5.1 (by rw [← d2, ← a5.1.1]; exact vc_u2 (q := 2) (by decide) hc) F0 hs1 (by decide)) (by rw [F_at1 F0 (by decide)]; exact a5.2.2.1) F0 (by decide)
          exact CA_F a1 hc1 F1 hs2 (by decide)
        · have hr1 := RA_F a6 F0 hs1 (by decide)
          exact RA_v hr1 (rN_v hr1.1 (by rw [← e2, ← hr1.1.1]; exact vr_u2 (q := 2) (by decide) hc) hr1.1.2.2.2 F1 hs2 (by decide)) (by rw [F_at1 F1 (by decide)]; exact hr1.2.1) F1 (by decide)
      · rw [if_pos (w4.2 (by omega))] at E0
        rw [if_pos (l4.2 c4)] at E1
        exact no (Prod.mk.inj E0).1.symm (Prod.mk.inj E0).2.symm (Prod.mk.inj E1).1.symm (Prod.mk.inj E1).2.symm
    · rw [if_pos (w3.2 (by omega))] at E0
      rw [if_pos (l3.2 c3)] at E1
      exact no (Prod.mk.inj E0).1.symm (Prod.mk.inj E0).2.symm (Prod.mk.inj E1).1.symm (Prod.mk.inj E1).2.symm
  · rw [if_pos ((fq_pl9 σ p1 p2).2 c1)] at E0
    rw [if_pos ((fq_ce10 s1 p1 p2).2 c1)] at E1
    exact no (Prod.mk.inj E0).1.symm (Prod.mk.inj E0).2.symm (Prod.mk.inj E1).1.symm (Prod.mk.inj E1).2.symm
theorem wind_T {B D B' D' : Int} {σ s1 s2 : mh_H} (h : mh_RV σ) (hI0 : mh_I B D s1) (hI1 : mh_I B' D' s2) (F0 : mh_F S_eX9_wind σ s1) (F1 : mh_F S_eX10_wind s1 s2) {p1 p2 z0 z1 : Int32} (E0 : f_eX9_wind σ p1 p2 = (z0, s1)) (E1 : f_eX10_wind s1 p1 p2 = (z1, s2)) : z0 = z1 ∧ mh_RV s2 := by
  have hs1 := mh_I_p3 hI0
  have hs2 := mh_I_p3 hI1
  have hR := h
  obtain ⟨kl, Ls, v, ch, fl, w, cw, m, r, a1, a2, a3, a4, a5, a6⟩ := h
  unfold f_eX9_wind at E0
  unfold f_eX10_wind at E1
  simp only [mh_lbE] at E0 E1
  have ka : (99 : Int32).toInt = 99 := rfl
  have kb : (9 : Int32).toInt = 9 := rfl
  have w3 := fq_within σ p1 99
  have w4 := fq_within σ p2 9
  have l3 := fq_lies s1 (Int32.toInt64 p1) 0 99
  have l4 := fq_lies s1 (Int32.toInt64 p2) 0 9
  rw [Int32.toInt_toInt64, show (0 : Int64).toInt = 0 from rfl, show (99 : Int64).toInt = 99 from rfl] at l3
  rw [Int32.toInt_toInt64, show (0 : Int64).toInt = 0 from rfl, show (9 : Int64).toInt = 9 from rfl] at l4
  have no : z0 = 0 → s1 = σ → z1 = 0 → s2 = s1 → z0 = z1 ∧ mh_RV s2 := fun a b c d => ⟨a.trans c.symm, by rw [d, b]; exact hR⟩
  by_cases c3 : 0 ≤ p1.toInt ∧ p1.toInt ≤ 99
  · rw [if_neg (fun g => w3.1 g (by omega))] at E0
    rw [if_neg (fun g => l3.1 g c3)] at E1
    by_cases c4 : 0 ≤ p2.toInt ∧ p2.toInt ≤ 9
    · rw [if_neg (fun g => w4.1 g (by omega))] at E0
      rw [if_neg (fun g => l4.1 g c4)] at E1
      obtain ⟨c, hx⟩ : ∃ c : Nat, p1.toInt = (c : Int) := ⟨p1.toInt.toNat, by omega⟩
      have hc : c < 100 := by omega
      rw [ix_n hx] at E0 E1
      obtain ⟨d1, d2⟩ := Prod.mk.inj E0
      obtain ⟨e1, e2⟩ := Prod.mk.inj E1
      refine ⟨d1.symm.trans e1, kl, Ls, mh_u4 v c p2, ch, fl, w, cw, m, r, a1, ?_, a3, a4, ?_, ?_⟩
      · intro i hi
        have t : ∀ q, q < 4 → (mh_u4 v c p2).1 q i = v.1 q i := fun q hq => if_neg (fun z => by omega)
        rw [t 0 (by decide), t 1 (by decide), t 2 (by decide), t 3 (by decide)]
        exact a2 i hi
      · have hc1 : mh_CA kl (mh_lw Ls) (mh_u4 v c p2) ch fl w cw m r s1 := CA_v a5 (cN_v a1 a5.1 (by rw [← d2, ← a5.1.1]; exact vc_u4 hc) F0 hs1 (by decide)) (by rw [F_at1 F0 (by decide)]; exact a5.2.2.1) F0 (by decide)
        exact CA_F a1 hc1 F1 hs2 (by decide)
      · have hr1 := RA_F a6 F0 hs1 (by decide)
        exact RA_v hr1 (rN_v hr1.1 (by rw [← e2, ← hr1.1.1]; exact vr_u4 hc) hr1.1.2.2.2 F1 hs2 (by decide)) (by rw [F_at1 F1 (by decide)]; exact hr1.2.1) F1 (by decide)
    · rw [if_pos (w4.2 (by omega))] at E0
      rw [if_pos (l4.2 c4)] at E1
      exact no (Prod.mk.inj E0).1.symm (Prod.mk.inj E0).2.symm (Prod.mk.inj E1).1.symm (Prod.mk.inj E1).2.symm
  · rw [if_pos (w3.2 (by omega))] at E0
    rw [if_pos (l3.2 c3)] at E1
    exact no (Prod.mk.inj E0).1.symm (Prod.mk.inj E0).2.symm (Prod.mk.inj E1).1.symm (Prod.mk.inj E1).2.symm
theorem seed_T {B D B' D' : Int} {σ s1 s2 : mh_H} (h : mh_RV σ) (hI0 : mh_I B D s1) (hI1 : mh_I B' D' s2) (F0 : mh_F S_eX9_seed σ s1) (F1 : mh_F S_eX10_seed s1 s2) {p1 z0 z1 : Int32} (E0 : f_eX9_seed σ p1 = (z0, s1)) (E1 : f_eX10_seed s1 p1 = (z1, s2)) : z0 = z1 ∧ mh_RV s2 := by
  have hs1 := mh_I_p3 hI0
  have hs2 := mh_I_p3 hI1
  have hR := h
  obtain ⟨kl, Ls, v, ch, fl, w, cw, m, r, a1, a2, a3, a4, a5, a6⟩ := h
  unfold f_eX9_seed at E0
  unfold f_eX10_seed at E1
  simp only [mh_lbE] at E0 E1
  have ka : (65535 : Int32).toInt = 65535 := rfl
  have w3 := fq_within σ p1 65535
  have l3 := fq_lies s1 (Int32.toInt64 p1) 0 65535
  rw [Int32.toInt_toInt64, show (0 : Int64).toInt = 0 from rfl, show (65535 : Int64).toInt = 65535 from rfl] at l3
  have no : z0 = 0 → s1 = σ → z1 = 0 → s2 = s1 → z0 = z1 ∧ mh_RV s2 := fun a b c d => ⟨a.trans c.symm, by rw [d, b]; exact hR⟩
  by_cases c3 : 0 ≤ p1.toInt ∧ p1.toInt ≤ 65535
  · rw [if_neg (fun g => w3.1 g (by omega))] at E0
    rw [if_neg (fun g => l3.1 g c3)] at E1
    obtain ⟨d1, d2⟩ := Prod.mk.inj E0
    obtain ⟨e1, e2⟩ := Prod.mk.inj E1
    have t1 : mh_vc 1 s1 = v := by
      rw [← d2, ← a5.1.1]
      refine vc_ext (fun r c h => vc_0 h) (fun r c hc hr => ?_) ?_ ?_
      · rw [vc_at hc hr, pI_o (by omega)]
      · rw [pI_j (by decide)]; rfl
      · rw [pI_j (by decide)]; rfl
    have hr1 : mh_RA (mh_lw Ls) v ch fl w cw m r s1 := RA_F a6 F0 hs1 (by decide)
    have t2 : mh_vr s2 = v := by
      rw [← e2, ← hr1.1.1]
      refine vr_ext (fun r c h => vr_0 h) (fun r c hc hr => ?_) ?_ ?_
      · rw [vr_at hc hr, pI_o (by omega)]
      · rw [pI_j (by decide)]; rfl
      · rfl
    refine ⟨d1.symm.trans e1, kl, Ls, v, p1, fl, w, cw, m, r, a1, a2, a3, a4, ?_, ?_⟩
    · have hc1 : mh_CA kl (mh_lw Ls) v p1 fl w cw m r s1 := CA_v a5 (cN_v a1 a5.1 t1 F0 hs1 (by decide)) (by rw [← d2, pI_w]) F0 (by decide)
      exact CA_F a1 hc1 F1 hs2 (by decide)
    · exact RA_v hr1 (rN_v hr1.1 t2 hr1.1.2.2.2 F1 hs2 (by decide)) (by rw [← e2, pI_w]) F1 (by decide)
  · rw [if_pos (w3.2 (by omega))] at E0
    rw [if_pos (l3.2 c3)] at E1
    exact no (Prod.mk.inj E0).1.symm (Prod.mk.inj E0).2.symm (Prod.mk.inj E1).1.symm (Prod.mk.inj E1).2.symm
end
section
theorem F_at3 {S : List (Nat × Nat)} {s s' : mh_H} (h : mh_F S s s') {k j : Nat} (hk : ∀ e ∈ S, ¬ (e.1 = k ∧ (e.2 = 9999 ∨ e.2 = j))) : s'.2.2 k j = s.2.2 k j := by
  refine (h k j ?_).2.2
  rintro ⟨e, h1, h2, h3⟩
  exact hk e h1 ⟨h2, h3⟩
theorem k_lp (s : mh_H) : (l_eX10_keep_20_1 101 s 0).1 = s.1 57 2 ∧ (∀ c, c < 100 → (l_eX10_keep_20_1 101 s 0).2.1 102 c = s.1 63 c) ∧ (∀ b, b ≠ 102 → (l_eX10_keep_20_1 101 s 0).2.1 b = s.1 b) ∧ (l_eX10_keep_20_1 101 s 0).2.2 = s.2 := by
  have k100 : (100 : Int32).toInt = 100 := rfl
  refine mh_for l_eX10_keep_20_1 100 (fun s' m => (∀ c, c < m → s'.1 102 c = s.1 63 c) ∧ (∀ b, b ≠ 102 → s'.1 b = s.1 b) ∧ s'.2 = s.2) (fun z => z.1 = s.1 57 2 ∧ (∀ c, c < 100 → z.2.1 102 c = s.1 63 c) ∧ (∀ b, b ≠ 102 → z.2.1 b = s.1 b) ∧ z.2.2 = s.2) (by decide) ?_ ?_ 101 s 0 0 rfl (by decide) ⟨fun c h => absurd h (Nat.not_lt_zero c), fun _ _ => rfl, rfl⟩ (by decide)
  · intro n s' x m hx hm ⟨h1, h2, h3⟩
    refine ⟨mh_pI s' 102 m (s.1 63 m), ⟨fun c hc => ?_, fun b hb => (pI_row hb).trans (h2 b hb), h3⟩, ?_⟩
    · rw [pI_v]
      split
      · rename_i t; rw [t.2]
      · rename_i t; exact h1 c (by have : c ≠ m := fun e => t ⟨rfl, e⟩; omega)
    · rw [l_eX10_keep_20_1_s]
      unfold ls_eX10_keep_20_1
      simp only [mh_lbE]
      rw [if_pos (by omega), ix_n hx, h2 63 (by decide)]
  · intro n s' x hx ⟨h1, h2, h3⟩
    rw [l_eX10_keep_20_1_s]
    unfold ls_eX10_keep_20_1
    simp only [mh_lbE]
    rw [if_neg (by omega)]
    exact ⟨congrFun (h2 57 (by decide)) 2, h1, h2, h3⟩
theorem u_lp (s : mh_H) : (l_eX10_undo_24_1 101 s 0).1 = 1 ∧ (∀ c, c < 100 → (l_eX10_undo_24_1 101 s 0).2.1 63 c = s.1 102 c) ∧ (∀ b, b ≠ 63 → (l_eX10_undo_24_1 101 s 0).2.1 b = s.1 b) ∧ (l_eX10_undo_24_1 101 s 0).2.2 = s.2 := by
  have k100 : (100 : Int32).toInt = 100 := rfl
  refine mh_for l_eX10_undo_24_1 100 (fun s' m => (∀ c, c < m → s'.1 63 c = s.1 102 c) ∧ (∀ b, b ≠ 63 → s'.1 b = s.1 b) ∧ s'.2 = s.2) (fun z => z.1 = 1 ∧ (∀ c, c < 100 → z.2.1 63 c = s.1 102 c) ∧ (∀ b, b ≠ 63 → z.2.1 b = s.1 b) ∧ z.2.2 = s.2) (by decide) ?_ ?_ 101 s 0 0 rfl (by decide) ⟨fun c h => absurd h (Nat.not_lt_zero c), fun _ _ => rfl, rfl⟩ (by decide)
  · intro n s' x m hx hm ⟨h1, h2, h3⟩
    refine ⟨mh_pI s' 63 m (s.1 102 m), ⟨fun c hc => ?_, fun b hb => (pI_row hb).trans (h2 b hb), h3⟩, ?_⟩
    · rw [pI_v]
      split
      · rename_i t; rw [t.2]
      · rename_i t; exact h1 c (by have : c ≠ m := fun e => t ⟨rfl, e⟩; omega)
    · rw [l_eX10_undo_24_1_s]
      unfold ls_eX10_undo_24_1
      simp only [mh_lbE]
      rw [if_pos (by omega), ix_n hx, h2 102 (by decide)]
  · intro n s' x hx ⟨h1, h2, h3⟩
    rw [l_eX10_undo_24_1_s]
    unfold ls_eX10_undo_24_1
    rw [if_neg (by omega)]
    exact ⟨rfl, h1, h2, h3⟩
theorem kv_at {s : mh_H} {r c : Nat} (hc : c < 144) (hr : r < 4) : (mh_kv s).1 r c = s.1 (mh_sr r) (144 + c) := (if_pos ⟨vn_r hc hr, by omega⟩).trans (if_pos hr)
theorem kv_w {s : mh_H} {c : Nat} (hc : c < 100) : (mh_kv s).1 4 c = s.1 102 c := (if_pos ⟨vn_4 hc, by decide⟩).trans (if_neg (by decide))
theorem kv_0 {s : mh_H} {r c : Nat} (h : ¬ (c < mh_vn r ∧ r < 5)) : (mh_kv s).1 r c = 0 := if_neg h
theorem kv_mk {s : mh_H} {v : mh_V} (h : mh_sd 1 s = v) (hw : ∀ c, c < 100 → s.1 102 c = s.1 63 c) : mh_kv s = v := by
  subst h
  unfold mh_kv mh_sd
  refine Prod.ext ?_ rfl
  funext r c
  show (if c < mh_vn r ∧ r < 5 then (if r < 4 then s.1 (mh_sr r) (144 + c) else s.1 102 c) else 0) = if c < mh_vn r ∧ r < 5 then (if r < 4 then s.1 (mh_sr r) (144 * 1 + c) else s.1 63 c) else 0
  by_cases g : c < mh_vn r ∧ r < 5
  · rw [if_pos g, if_pos g]
    by_cases g2 : r < 4
    · rw [if_pos g2, if_pos g2]
    · rw [if_neg g2, if_neg g2]
      refine hw c ?_
      have h4 : r = 4 := by omega
      have := g.1
      rw [h4] at this
      exact this
  · rw [if_neg g, if_neg g]
theorem keep_T {B D B' D' : Int} {σ s1 s2 : mh_H} (h : mh_RV σ) (hI0 : mh_I B D s1) (hI1 : mh_I B' D' s2) (F0 : mh_F S_eX9_keep σ s1) (F1 : mh_F S_eX10_keep s1 s2) {z0 z1 : Int32} (E0 : f_eX9_keep σ = (z0, s1)) (E1 : f_eX10_keep s1 = (z1, s2)) : z0 = z1 ∧ mh_RV s2 := by
  have hs1 := mh_I_p3 hI0
  have hs2 := mh_I_p3 hI1
  obtain ⟨kl, Ls, v, ch, fl, w, cw, m, r, a1, a2, a3, a4, a5, a6⟩ := h
  unfold f_eX9_keep at E0
  unfold f_eX10_keep at E1
  simp only [mh_lbE] at E0 E1
  obtain ⟨d1, d2⟩ := Prod.mk.inj E0
  obtain ⟨cf1, cf2⟩ := cf_c V7 V1 (by decide) σ
  have v7 : mh_vc 7 s1 = v := by
    rw [← d2, ← a5.1.1, ← cf1]
    refine vc_ext (fun r c h => vc_0 h) (fun r c hc hr => ?_) ?_ ?_
    · rw [vc_at hc hr, pI_o (by omega)]
    · rw [pI_o (by decide)]; rfl
    · rw [pI_o (by decide)]; rfl
  have c77 : s1.1 7 7 = ch := by rw [← d2, pI_o (by decide), cf2]; exact a5.2.2.1
  have c013 : s1.1 0 13 = 1 := by rw [← d2, pI_w]
  have hc1 : mh_CA kl (mh_lw Ls) v ch 1 v ch m r s1 := by
    refine ⟨⟨(vc_F F0 (by decide)).trans a5.1.1, (F_at3 F0 (by decide)).trans a5.1.2.1, LC_F a5.1.2.2.1 F0 (by rcases a1 with rfl | rfl <;> decide), hs1⟩, by rw [F_at3 F0 (by decide)]; exact a5.2.1, by rw [F_row1 F0 (k := 1) (by decide)]; exact a5.2.2.1, c013, fun _ => ⟨v7, c77⟩, cT_c a5.2.2.2.2.2 (F_at1 F0 (by decide)) (F_row1 F0 (by decide))⟩
  have hr1 := RA_F a6 F0 hs1 (by decide)
  -- the reference
  have fs := fr_eX10_setsAside (mh_pI s1 57 64 1) 1 hs1
  obtain ⟨sa1, sa2⟩ := sa_r (s := mh_pI s1 57 64 1) (p := 1) (k := 1) rfl (by decide)
  have evr : mh_vr (mh_pI s1 57 64 1) = v := (vr_pI (Or.inr ⟨rfl, by decide⟩)).trans hr1.1.1
  have e64 : (f_eX10_setsAside (mh_pI s1 57 64 1) 1).1 57 64 = 1 := by rw [F_at1 fs.1 (by decide), pI_w]
  have e3 : (f_eX10_setsAside (mh_pI s1 57 64 1) 1).1 57 3 = ch := by rw [F_at1 fs.1 (by decide), pI_j (by decide)]; exact hr1.2.1
  have e2 : (f_eX10_setsAside (mh_pI s1 57 64 1) 1).1 57 2 = v.2.1 := by
    rw [F_at1 fs.1 (by decide), pI_j (by decide), vr_w, hr1.1.1]
  rw [evr] at sa1
  generalize f_eX10_setsAside (mh_pI s1 57 64 1) 1 = q at E1 sa1 sa2 e64 e3 e2
  obtain ⟨k1, k2, k3, k4⟩ := k_lp (mh_pI q 57 65 (q.1 57 3))
  rw [E1] at k1 k2 k3 k4
  have k1 : z1 = (mh_pI q 57 65 (q.1 57 3)).1 57 2 := k1
  have k2 : ∀ c, c < 100 → s2.1 102 c = (mh_pI q 57 65 (q.1 57 3)).1 63 c := k2
  have k3 : ∀ b, b ≠ 102 → s2.1 b = (mh_pI q 57 65 (q.1 57 3)).1 b := k3
  have k4 : s2.2 = q.2 := k4
  have r57 : ∀ j, j ≠ 65 → s2.1 57 j = q.1 57 j := fun j hj => (congrFun (k3 57 (by decide)) j).trans (pI_j hj)
  have rb : ∀ b, b ≠ 102 → b ≠ 57 → s2.1 b = q.1 b := fun b h1 h2 => (k3 b h1).trans (pI_row h2)
  have hsd : mh_sd 1 s2 = v := by
    rw [← sa1]
    refine sd_ext (fun r c h => sd_0 h) (fun r c hc hr => ?_) (fun c hc => ?_) ?_ ?_
    · have : mh_sr r ≠ 102 ∧ mh_sr r ≠ 57 := by unfold mh_sr; split; decide; split; decide; split <;> decide
      rw [rb _ this.1 this.2, sd_at hc hr]
    · rw [rb 63 (by decide) (by decide), sd_w hc]
    · rw [rb 87 (by decide) (by decide)]; rfl
    · rw [k4]; rfl
  have hkv : mh_kv s2 = v := kv_mk hsd (fun c hc => by rw [k2 c hc, pI_o (by decide), rb 63 (by decide) (by decide)])
  refine ⟨?_, kl, Ls, v, ch, 1, v, ch, m, r, a1, a2, fun _ => ⟨a2, a6.1.2.2.2⟩, a4, CA_F a1 hc1 F1 hs2 (by decide), ⟨rN_F hr1.1 F1 hs2 (by decide), ?_, ?_, fun _ => ⟨hkv, ?_⟩, rT_c hr1.2.2.2.2 (F_at1 F1 (by decide)) (F_row1 F1 (by decide))⟩⟩
  · rw [k1, pI_j (by decide), e2, ← d1, pI_o (by decide)]
    have : (f_eX8_copyFrom σ 7 1).1 1 5 = s1.1 1 5 := by rw [← d2, pI_o (by decide)]
    rw [this, F_row1 F0 (k := 1) (by decide), vc_w, a5.1.1]
  · rw [F_at1 F1 (by decide)]; exact hr1.2.1
  · rw [r57 64 (by decide)]; exact e64
  · rw [congrFun (k3 57 (by decide)) 65, pI_w]; exact e3
theorem undo_T {B D B' D' : Int} {σ s1 s2 : mh_H} (h : mh_RV σ) (hI0 : mh_I B D s1) (hI1 : mh_I B' D' s2) (F0 : mh_F S_eX9_undo σ s1) (F1 : mh_F S_eX10_undo s1 s2) {z0 z1 : Int32} (E0 : f_eX9_undo σ = (z0, s1)) (E1 : f_eX10_undo s1 = (z1, s2)) : z0 = z1 ∧ mh_RV s2 := by
  have hs1 := mh_I_p3 hI0
  have hs2 := mh_I_p3 hI1
  have hR := h
  obtain ⟨kl, Ls, v, ch, fl, w, cw, m, r, a1, a2, a3, a4, a5, a6⟩ := h
  have hr1 := RA_F a6 F0 hs1 (by decide)
  unfold f_eX9_undo at E0
  unfold f_eX10_undo at E1
  simp only [mh_lbE] at E0 E1
  by_cases g : fl.toInt = 0
  · rw [if_pos (by rw [a5.2.2.2.1]; exact g)] at E0
    rw [if_pos (by rw [hr1.2.2.1]; exact g)] at E1
    obtain ⟨d1, d2⟩ := Prod.mk.inj E0
    obtain ⟨e1, e2⟩ := Prod.mk.inj E1
    exact ⟨d1.symm.trans e1, by rw [← e2, ← d2]; exact hR⟩
  · rw [if_neg (by rw [a5.2.2.2.1]; exact g)] at E0
    rw [if_neg (by rw [hr1.2.2.1]; exact g)] at E1
    obtain ⟨d1, d2⟩ := Prod.mk.inj E0
    obtain ⟨w1, w2⟩ := a5.2.2.2.2.1 g
    obtain ⟨x1, x2⟩ := hr1.2.2.2.1 g
    obtain ⟨y1, y2⟩ := a3 g
    obtain ⟨cf1, cf2⟩ := cf_c V1 V7 (by decide) σ
    have hc1 : mh_CA kl (mh_lw Ls) w cw fl w cw m r s1 := CA_v a5 (cN_v a1 a5.1 (by rw [← d2, cf1]; exact w1) F0 hs1 (by decide)) (by rw [← d2, cf2]; exact w2) F0 (by decide)
    have fp := fr_eX10_putsBack s1 1 hs1
    have pb := pb_r (s := s1) (p := 1) (k := 1) rfl (by decide)
    have e65 : (f_eX10_putsBack s1 1).1 57 65 = cw := by rw [F_at1 fp.1 (by decide)]; exact x2
    have e102 : (f_eX10_putsBack s1 1).1 102 = s1.1 102 := F_row1 fp.1 (by decide)
    generalize f_eX10_putsBack s1 1 = q at E1 pb e65 e102
    obtain ⟨k1, k2, k3, k4⟩ := u_lp (mh_pI q 57 3 (q.1 57 65))
    rw [E1] at k1 k2 k3 k4
    have k1 : z1 = 1 := k1
    have k2 : ∀ c, c < 100 → s2.1 63 c = (mh_pI q 57 3 (q.1 57 65)).1 102 c := k2
    have k3 : ∀ b, b ≠ 63 → s2.1 b = (mh_pI q 57 3 (q.1 57 65)).1 b := k3
    have k4 : s2.2 = q.2 := k4
    have hv : mh_vr s2 = w := by
      rw [← x1]
      refine vr_ext (fun r c h => kv_0 h) (fun r c hc hr => ?_) ?_ ?_
      · by_cases g4 : r < 4
        · have hc2 : c < 144 := by
            unfold mh_vn at hc
            rw [if_neg (by omega)] at hc
            exact hc
          rw [k3 _ (by omega), pI_o (by omega), kv_at hc2 g4]
          have := congrFun (congrFun (congrArg Prod.fst pb) r) c
          rw [vr_at hc hr, sd_at hc2 g4] at this
          exact this
        · have h4 : r = 4 := by omega
          subst h4
          have hc2 : c < 100 := hc
          rw [show 59 + 4 = 63 from rfl, k2 c hc2, pI_o (by decide), e102, kv_w hc2]
      · rw [k3 57 (by decide), pI_j (by decide)]
        exact congrArg (fun z => z.2.1) pb
      · rw [k4]
        exact congrArg (fun z => z.2.2) pb
    refine ⟨d1.symm.trans k1.symm, kl, Ls, w, cw, fl, w, cw, m, r, a1, y1, a3, a4, CA_F a1 hc1 F1 hs2 (by decide), RA_v hr1 (rN_v hr1.1 hv y2 F1 hs2 (by decide)) ?_ F1 (by decide)⟩
    rw [k3 57 (by decide), pI_w]; exact e65
/-- soonest: what the reference puts back -/
theorem ly_in {L : mh_Lw} {v d1 : mh_V} {b : Int} (lo : mh_H → Int32 → mh_H) (X : Int32) : ∀ (n : Nat) (s : mh_H) (x : Int32), mh_rA L v d1 b s → 0 ≤ x.toInt → x.toInt ≤ 20 → 20 < x.toInt + (n : Int) → ∃ q, mh_rA L v d1 b q ∧ l_eX10_laysYards_15_2 lo X n s x = lo (f_eX10_stepOne q) (X + 1) := by
  intro n
  have k20 : (20 : Int32).toInt = 20 := rfl
  induction n with
  | zero => intro s x h h0 h1 h2; exfalso; omega
  | succ n ih =>
    intro s x h h0 h1 h2
    rw [l_eX10_laysYards_15_2_s]
    unfold ls_eX10_laysYards_15_2
    simp only [mh_lbE, mh_lb2E]
    by_cases g : x.toInt < 20
    · rw [if_pos (show x.toInt < (20 : Int32).toInt by omega)]
      have hxn := nn_inc h0 (m := 60) (by omega) (by decide)
      have st : ∀ (t : mh_H) (i : Nat) (y : Int32), mh_rA L v d1 b t → mh_rA L v d1 b (mh_pI t 95 i y) := fun t i y ht => rA_F ht (S := [(95, 9999)]) (mh_F_pI mh_F_rf ⟨(95, 9999), by simp, rfl, Or.inl rfl⟩) (p3_pI (rA_p3 ht)) (by decide) (by decide)
      by_cases g9 : (s.1 90 x.toNatClampNeg).toInt = 0
      · rw [if_pos g9]
        unfold j_eX10_laysYards_54_3
        simp only [mh_lbE]
        exact ih _ (x + 1) (st _ _ _ h) (by omega) (by omega) (by omega)
      · rw [if_neg g9]
        unfold j_eX10_laysYards_54_3
        simp only [mh_lbE]
        have fy := fr_eX10_yardsAt s (s.1 94 x.toNatClampNeg) (rA_p3 h)
        exact ih _ (x + 1) (st _ _ _ (rA_F h fy.1 fy.2 (by decide) (by decide))) (by omega) (by omega) (by omega)
    · rw [if_neg (show ¬ x.toInt < (20 : Int32).toInt by omega)]
      exact ⟨s, h, rfl⟩
theorem ly_out {L : mh_Lw} {v d1 : mh_V} (h0 : 0 ≤ v.2.1.toInt) : ∀ (n : Nat) (b : Int) (s : mh_H) (x : Int32), mh_rA L v d1 b s → b + (n : Int) ≤ 2000000000 → 0 ≤ x.toInt → x.toInt ≤ 30 → 30 < x.toInt + (n : Int) → mh_rN L v (l_eX10_laysYards_7_1 n s x) ∧ mh_sd 1 (l_eX10_laysYards_7_1 n s x) = d1 := by
  intro n
  have k30 : (30 : Int32).toInt = 30 := rfl
  induction n with
  | zero => intro b s x h hb hx0 hx1 hf; exfalso; omega
  | succ n ih =>
    intro b s x h hb hx0 hx1 hf
    rw [l_eX10_laysYards_7_1_s]
    unfold ls_eX10_laysYards_7_1
    by_cases g : x.toInt < 30
    · rw [if_pos (show x.toInt < (30 : Int32).toInt by omega)]
      obtain ⟨q, q1, q2⟩ := ly_in (l_eX10_laysYards_7_1 n) x 21 s 0 h (by decide) (by decide) (by decide)
      rw [q2]
      have hxn := nn_inc hx0 (m := 60) (by omega) (by decide)
      exact ih (b + 1) _ (x + 1) (rA_step q1 (by omega)) (by omega) (by omega) (by omega) (by omega)
    · rw [if_neg (show ¬ x.toInt < (30 : Int32).toInt by omega)]
      simp only [mh_lbE]
      exact rA_end h h0
theorem soonest_back {L : mh_Lw} {v : mh_V} {sr : mh_H} (hr : mh_rN L v sr) (hg : mh_rg v) (hb : v.2.1.toInt ≤ 1000000000) (p1 p2 p3 p4 : Int32) : mh_rN L v (f_eX10_soonest sr p1 p2 p3 p4).2 ∧ mh_sd 1 (f_eX10_soonest sr p1 p2 p3 p4).2 = mh_sd 1 sr := by
  unfold f_eX10_soonest
  obtain ⟨nn, hnn⟩ : ∃ m : Nat, m = 3011 := ⟨_, rfl⟩
  rw [show (3011 : Nat) = nn by omega]
  simp only [mh_lbE]
  split
  · exact ⟨hr, rfl⟩
  · split
    · exact ⟨hr, rfl⟩
    · split
      · exact ⟨hr, rfl⟩
      · split
        · exact ⟨hr, rfl⟩
        · have h1 : mh_rN L v (f_eX10_laysYards sr) ∧ mh_sd 1 (f_eX10_laysYards sr) = mh_sd 1 sr := by
            unfold f_eX10_laysYards
            obtain ⟨n, hn⟩ : ∃ m : Nat, m = 31 := ⟨_, rfl⟩
            rw [show (31 : Nat) = n by omega]
            simp only [mh_lbE]
            exact ly_out hr.2.2.2 n v.2.1.toInt _ 0 (rA_sa hr hg) (by omega) (by decide) (by decide) (by rw [kc_0]; omega)
          generalize f_eX10_laysYards sr = q at h1 ⊢
          have f := fs_l_eX10_soonest_46_1 q h1.1.2.2.1 p1 p2 p3 p4 nn q 0 ⟨mh_F_rf, h1.1.2.2.1⟩
          exact ⟨rN_F h1.1 f.1 f.2 (by decide), (sd_FS 1 f.1 (by decide)).trans h1.2⟩
end
section
/-- frames but for the tape -/
def mh_okC2 (S : List (Nat × Nat)) : Bool := S.all (fun e => decide (12 < e.1) && !(decide (40 ≤ e.1) && decide (e.1 ≤ 45)) && !(decide (48 ≤ e.1) && decide (e.1 ≤ 53)))
def mh_okR2 (S : List (Nat × Nat)) : Bool := mh_rnS S && S.all (fun e => !(decide (83 ≤ e.1) && decide (e.1 ≤ 88)) && !(e.1 == 102) && !(e.1 == 57 && (e.2 == 3 || e.2 == 64 || e.2 == 65 || e.2 == 9999)))
theorem CA_t {S : List (Nat × Nat)} {kl : Nat} {L : mh_Lw} {v : mh_V} {ch fl : Int32} {w : mh_V} {cw : Int32} {m m' : Nat} {r r' : Nat → Int32} {s s' : mh_H} (hl : mh_isL kl) (h : mh_CA kl L v ch fl w cw m r s) (hF : mh_F S s s') (hp : mh_p3 s') (hS : mh_okC2 S = true) (ht : mh_cT m' r' s') : mh_CA kl L v ch fl w cw m' r' s' := by
  have h0 := List.all_eq_true.mp hS
  have g12 : ∀ e ∈ S, 12 < e.1 := fun e he => by have := h0 e he; simp at this; omega
  have gl : ∀ e ∈ S, e.1 < kl ∨ kl + 5 < e.1 := fun e he => by
    have h3 := h0 e he
    simp at h3
    rcases hl with rfl | rfl <;> omega
  obtain ⟨c1, c2, c3, c4, c5, c6⟩ := h
  refine ⟨cN_F c1 hF hp (fun e he => by have := g12 e he; omega) gl (fun e he => by have := g12 e he; omega), ?_, ?_, ?_, fun q => ⟨?_, ?_⟩, ht⟩
  · rw [(hF 0 12 (fun ⟨e, e1, e2, _⟩ => by have := g12 e e1; omega)).2.2]; exact c2
  · rw [F_row1 hF (k := 1) (fun e he => by have := g12 e he; omega)]; exact c3
  · rw [F_row1 hF (k := 0) (fun e he => by have := g12 e he; omega)]; exact c4
  · rw [vc_F hF (fun e he => by have := g12 e he; omega)]; exact (c5 q).1
  · rw [F_row1 hF (k := 7) (fun e he => by have := g12 e he; omega)]; exact (c5 q).2
theorem RA_t {S : List (Nat × Nat)} {L : mh_Lw} {v : mh_V} {ch fl : Int32} {w : mh_V} {cw : Int32} {m m' : Nat} {r r' : Nat → Int32} {s s' : mh_H} (h : mh_RA L v ch fl w cw m r s) (hF : mh_F S s s') (hp : mh_p3 s') (hS : mh_okR2 S = true) (ht : mh_rT m' r' s') : mh_RA L v ch fl w cw m' r' s' := by
  obtain ⟨h1, h2⟩ := Bool.and_eq_true_iff.mp hS
  have h0 := List.all_eq_true.mp h2
  obtain ⟨c1, c2, c3, c4, c5⟩ := h
  have at' : ∀ j, (j = 3 ∨ j = 64 ∨ j = 65) → s'.1 57 j = s.1 57 j := fun j hj => F_at1 hF (fun e he q => by
    have h3 := h0 e he
    rcases q.2 with g | g
    · simp [q.1, g] at h3
    · rcases hj with rfl | rfl | rfl <;> simp [q.1, g] at h3)
  have ek : mh_kv s' = mh_kv s := kv_F hF (fun e he => by
    have t1 := h0 e he
    simp at t1
    omega)
  exact ⟨rN_F c1 hF hp h1, by rw [at' 3 (by decide)]; exact c2, by rw [at' 64 (by decide)]; exact c3, fun q => ⟨by rw [ek]; exact (c4 q).1, by rw [at' 65 (by decide)]; exact (c4 q).2⟩, ht⟩
theorem RV_Z {σ : mh_H} (h : mh_RV σ) : rl_Z σ := by
  obtain ⟨kl, Ls, v, ch, fl, w, cw, m, r, a1, a2, a3, a4, a5, a6⟩ := h
  exact ⟨m, r, a4, a5.2.2.2.2.2, a6.2.2.2.2⟩
theorem RV_tp {S : List (Nat × Nat)} {σ s2 : mh_H} (h : mh_RV σ) (hF : mh_F S σ s2) (hp : mh_p3 s2) (h1 : mh_okC2 S = true) (h2 : mh_okR2 S = true) (hz : rl_Z s2) : mh_RV s2 := by
  obtain ⟨kl, Ls, v, ch, fl, w, cw, m, r, a1, a2, a3, a4, a5, a6⟩ := h
  obtain ⟨m', r', b1, b2, b3⟩ := hz
  exact ⟨kl, Ls, v, ch, fl, w, cw, m', r', a1, a2, a3, b1, CA_t a1 a5 hF hp h1 b2, RA_t a6 hF hp h2 b3⟩
theorem feed_T {B D B' D' : Int} {σ s1 s2 : mh_H} (h : mh_RV σ) (hI0 : mh_I B D s1) (hI1 : mh_I B' D' s2) (F0 : mh_F S_eX9_feed σ s1) (F1 : mh_F S_eX10_feed s1 s2) {p1 p2 p3 p4 p5 z0 z1 : Int32} (E0 : f_eX9_feed σ p1 p2 p3 p4 p5 = (z0, s1)) (E1 : f_eX10_feed s1 p1 p2 p3 p4 p5 = (z1, s2)) : z0 = z1 ∧ mh_RV s2 := by
  obtain ⟨q1, q2⟩ := feed_Z (RV_Z h) F0 F1 rfl rfl E0 E1
  have F : mh_F [(38, 9999), (37, 1), (58, 9999), (57, 1)] σ s2 := mh_F_tl (mh_F_tl mh_F_rf F0 (by decide)) F1 (by decide)
  exact ⟨q1, RV_tp h F (mh_I_p3 hI1) (by decide) (by decide) q2⟩
/-- check -/
theorem nu_eq {m : Nat} {r : Nat → Int32} {sc sr : mh_H} (hc : ∀ i, sc.1 38 i = r i) (hr : ∀ i, sr.1 58 i &&& 255 = r i) {x : Int32} (hx : 0 ≤ x.toInt ∧ x.toInt ≤ 12) : f_eX7_number sc x = f_eX10_numberAt sr x := by
  unfold f_eX7_number f_eX10_numberAt
  have lp : ∀ (n : Nat) (i v : Int32), 0 ≤ i.toInt → l_eX7_number_4_1 sc x n i v = l_eX10_numberAt_4_1 sr x n i v := by
    intro n
    have k4 : (4 : Int32).toInt = 4 := rfl
    induction n with
    | zero => intro i v _; rfl
    | succ n ih =>
      intro i v hi
      rw [l_eX7_number_4_1_s, l_eX10_numberAt_4_1_s]
      unfold ls_eX7_number_4_1 ls_eX10_numberAt_4_1
      simp only [mh_lbE]
      by_cases g : i.toInt < 4
      · rw [if_pos (show i.toInt < (4 : Int32).toInt by omega), if_pos (show i.toInt < (4 : Int32).toInt by omega)]
        have e1 : ((4 : Int32) * x).toInt = 4 * x.toInt := by
          rw [Int32.toInt_mul, k4, Int.bmod_eq_of_le (by omega) (by omega)]
        have e2 : ((4 : Int32) * x + i).toInt = 4 * x.toInt + i.toInt := by
          rw [Int32.toInt_add, e1, Int.bmod_eq_of_le (by omega) (by omega)]
        have es : f_eX7_sign sc ((4 : Int32) * x + i) = sr.1 58 ((4 : Int32) * x + i).toNatClampNeg &&& 255 := by
          unfold f_eX7_sign
          simp only [mh_lbE]
          rw [if_neg (fun z => (fq_within sc _ 219).1 z (by have k219 : (219 : Int32).toInt = 219 := rfl; omega)), hc, hr]
        rw [es]
        exact ih (i + 1) _ (by have := nn_inc hi (m := 100) (by omega) (by decide); omega)
      · rw [if_neg (show ¬ i.toInt < (4 : Int32).toInt by omega), if_neg (show ¬ i.toInt < (4 : Int32).toInt by omega)]
  exact lp 5 0 0 (by decide)
theorem ck_lp {r : Nat → Int32} {sc sr : mh_H} (hc : ∀ i, sc.1 38 i = r i) (hr : ∀ i, sr.1 58 i &&& 255 = r i) (hv : ∀ c, c < 144 → sc.1 4 c = sr.1 61 c) {p1 p2 : Int32} (h1 : 0 ≤ p1.toInt ∧ p1.toInt ≤ 11) (h2 : 0 ≤ p2.toInt ∧ p2.toInt ≤ 12) : ∀ (n k : Nat) (x : Int32), 0 ≤ x.toInt → x.toInt ≤ p2.toInt → 12 < x.toInt + (n : Int) → 12 < x.toInt + (k : Int) → (l_eX9_check_44_1 sc p1 p2 n x).1 = (l_eX10_check_39_1 sr p1 p2 k x).1 := by
  intro n
  induction n with
  | zero => intro k x h0 h3 h4 h5; exfalso; omega
  | succ n ih =>
    intro k x h0 h3 h4 h5
    obtain ⟨k, rfl⟩ : ∃ i, k = i + 1 := ⟨k - 1, by omega⟩
    rw [l_eX9_check_44_1_s, l_eX10_check_39_1_s]
    unfold ls_eX9_check_44_1 ls_eX10_check_39_1
    simp only [mh_lbE, ce_at]
    by_cases g : x.toInt < p2.toInt
    · rw [if_pos g, if_pos g, nu_eq (m := 0) hc hr (x := x) (by omega)]
      have hxn := nn_inc h0 (m := 100) (by omega) (by decide)
      obtain ⟨c, hc1, hc2⟩ := ce_ix (x := x) (y := p1) ⟨h0, by omega⟩ h1
      rw [ix_n hc2, hv c hc1]
      split
      · exact ih k (x + 1) (by omega) (by omega) (by omega) (by omega)
      · rfl
    · rw [if_neg g, if_neg g]
theorem check_T {B D B' D' : Int} {σ s1 s2 : mh_H} (h : mh_RV σ) (hI0 : mh_I B D s1) (hI1 : mh_I B' D' s2) (F0 : mh_F S_eX9_check σ s1) (F1 : mh_F S_eX10_check s1 s2) {p1 p2 z0 z1 : Int32} (E0 : f_eX9_check σ p1 p2 = (z0, s1)) (E1 : f_eX10_check s1 p1 p2 = (z1, s2)) : z0 = z1 ∧ mh_RV s2 := by
  have hz := (check_Z (RV_Z h) E0 E1).2
  have F : mh_F [(37, 1), (57, 1)] σ s2 := mh_F_tl (mh_F_tl mh_F_rf F0 (by decide)) F1 (by decide)
  refine ⟨?_, RV_tp h F (mh_I_p3 hI1) (by decide) (by decide) hz⟩
  obtain ⟨kl, Ls, v, ch, fl, w, cw, m, r, a1, a2, a3, a4, a5, a6⟩ := h
  have hc := a5.2.2.2.2.2
  have hr1 : mh_rT m r s1 := rT_c a6.2.2.2.2 (F_at1 F0 (by decide)) (F_row1 F0 (by decide))
  rw [ck_9 hc a4] at E0
  rw [ck_10 hr1 a4] at E1
  by_cases g : (0 ≤ p1.toInt ∧ p1.toInt ≤ 11) ∧ (0 ≤ p2.toInt ∧ p2.toInt ≤ 12) ∧ 4 * p2.toInt ≤ (m : Int)
  · rw [if_pos g] at E0 E1
    have hv : ∀ c, c < 144 → (mh_pI σ 37 1 0).1 4 c = (mh_pI s1 57 1 0).1 61 c := by
      intro c hc4
      rw [pI_o (by decide), pI_o (by decide), F_row1 F0 (k := 61) (by decide)]
      have e1 := vc_at (k := 1) (r := 2) (c := c) (s := σ) (vn_r hc4 (by decide)) (by decide)
      have e2 := vr_at (r := 2) (c := c) (s := σ) (vn_r hc4 (by decide)) (by decide)
      rw [a5.1.1] at e1
      rw [a6.1.1] at e2
      exact e1.symm.trans e2
    have := ck_lp (r := r) (sc := mh_pI σ 37 1 0) (sr := mh_pI s1 57 1 0) (fun i => by rw [pI_o (by decide)]; exact hc.2 i) (fun i => by rw [pI_o (by decide)]; exact hr1.2 i) hv g.1 g.2.1 13 15 0 (by decide) (by rw [kc_0]; exact g.2.1.1) (by decide) (by decide)
    rw [E0, E1] at this
    exact this
  · rw [if_neg g] at E0 E1
    exact (Prod.mk.inj E0).1.symm.trans (Prod.mk.inj E1).1
/-- law -/
theorem RV_law {σ s1 s2 : mh_H} {kl kl' : Nat} {Ls Ls' : List mh_Cl} {v : mh_V} {ch fl : Int32} {w : mh_V} {cw : Int32} {m : Nat} {r : Nat → Int32} (hs2 : mh_p3 s2) (F0 : mh_F S_eX9_law σ s1) (F1 : mh_F S_eX10_law s1 s2) (a2 : mh_rg v) (a3 : ¬ fl.toInt = 0 → mh_rg w ∧ 0 ≤ w.2.1.toInt) (a5 : mh_CA kl (mh_lw Ls) v ch fl w cw m r σ) (a6 : mh_RA (mh_lw Ls) v ch fl w cw m r σ) (hz : rl_Z s2) (hl : mh_isL kl') (h11 : s2.2.2 0 11 = kl') (h12 : s2.2.2 0 12 ≠ kl') (hC : mh_LC kl' s2 (mh_lw Ls')) (hR : mh_LR s2 (mh_lw Ls')) : mh_RV s2 := by
  obtain ⟨m', r', b1, b2, b3⟩ := hz
  refine ⟨kl', Ls', v, ch, fl, w, cw, m', r', hl, a2, a3, b1, ⟨⟨?_, h11, hC, hs2⟩, h12, ?_, ?_, fun q => ⟨?_, ?_⟩, b2⟩, ⟨⟨?_, hR, hs2, a6.1.2.2.2⟩, ?_, ?_, fun q => ⟨?_, ?_⟩, b3⟩⟩
  · exact (vc_F F1 (by decide)).trans ((vc_F F0 (by decide)).trans a5.1.1)
  · rw [F_row1 F1 (k := 1) (by decide), F_row1 F0 (k := 1) (by decide)]; exact a5.2.2.1
  · rw [F_at1 F1 (k := 0) (j := 13) (by decide), F_at1 F0 (k := 0) (j := 13) (by decide)]; exact a5.2.2.2.1
  · rw [vc_F F1 (by decide), vc_F F0 (by decide)]; exact (a5.2.2.2.2.1 q).1
  · rw [F_row1 F1 (k := 7) (by decide), F_row1 F0 (k := 7) (by decide)]; exact (a5.2.2.2.2.1 q).2
  · exact (vr_fr F1 (by decide)).trans ((vr_fr F0 (by decide)).trans a6.1.1)
  · rw [F_at1 F1 (k := 57) (j := 3) (by decide), F_at1 F0 (k := 57) (j := 3) (by decide)]; exact a6.2.1
  · rw [F_at1 F1 (k := 57) (j := 64) (by decide), F_at1 F0 (k := 57) (j := 64) (by decide)]; exact a6.2.2.1
  · rw [kv_F F1 (by decide), kv_F F0 (by decide)]; exact (a6.2.2.2.1 q).1
  · rw [F_at1 F1 (k := 57) (j := 65) (by decide), F_at1 F0 (k := 57) (j := 65) (by decide)]; exact (a6.2.2.2.1 q).2
theorem law_T {B D B' D' B2 D2 : Int} {σ s1 s2 : mh_H} (h : mh_RV σ) (hI : mh_I B D σ) (hI0 : mh_I B' D' s1) (hI1 : mh_I B2 D2 s2) (F0 : mh_F S_eX9_law σ s1) (F1 : mh_F S_eX10_law s1 s2) {p z0 z1 : Int32} (E0 : f_eX9_law σ p = (z0, s1)) (E1 : f_eX10_law s1 p = (z1, s2)) : z0 = z1 ∧ mh_RV s2 := by
  have hz := (law_Z (RV_Z h) hI0 F0 F1 E0 E1).2
  obtain ⟨kl, Ls, v, ch, fl, w, cw, m, r, a1, a2, a3, a4, a5, a6⟩ := h
  have hs2 := mh_I_p3 hI1
  have hr1 : mh_rT m r s1 := rT_c a6.2.2.2.2 (F_at1 F0 (by decide)) (F_row1 F0 (by decide))
  have h12 := (mh_I_p3 hI).2.1
  obtain ⟨q1, q2⟩ := law_eq a5.2.2.2.2.2 hr1 (mh_I_p3 hI0) h12 E0 E1
  have t11 : s2.2.2 0 11 = s1.2.2 0 11 := F_at3 F1 (by decide)
  have t12 : s2.2.2 0 12 = s1.2.2 0 12 := F_at3 F1 (by decide)
  refine ⟨q1, ?_⟩
  rcases q2 with ⟨Ls', b1, b2, b3, b4⟩ | ⟨b1, b2, b3⟩
  · refine RV_law hs2 F0 F1 a2 a3 a5 a6 hz h12 (t11.trans b1) ?_ (LC_F b3 F1 (by generalize σ.2.2 0 12 = x at h12 ⊢; rcases h12 with rfl | rfl <;> decide)) b4
    rw [t12, b2, a5.1.2.1]
    exact fun z => a5.2.1 z.symm
  · have hk := b3 kl a1 (fun z => a5.2.1 z.symm)
    refine RV_law (Ls' := Ls) hs2 F0 F1 a2 a3 a5 a6 hz a1 (t11.trans ((congrFun b1 11).trans a5.1.2.1)) ?_ ?_ ?_
    · rw [t12, congrFun b1 12]; exact a5.2.1
    · refine LC_F (s := s1) (LC_mono a5.1.2.2.1 (fun i x y => hk i (by omega)) (congrFun (hk 0 (by decide)) 7) (congrFun (hk 0 (by decide)) 9) (congrFun (hk 0 (by decide)) 10)) F1 (by rcases a1 with rfl | rfl <;> decide)
    · refine LR_mono (s := s1) (LR_mono a6.1.2.1 (fun i x y => F_row1 F0 (fun e he => ?_)) (F_at1 F0 (by decide))) b2.1 b2.2
      have : ∀ e ∈ S_eX9_law, e.1 < 64 ∨ 69 < e.1 := by decide
      have := this e he
      omega
/-- the methods that change or ask the valley -/
theorem RV_b {B D : Int} {σ : mh_H} {v : mh_V} (hv : mh_vr σ = v) (hI : mh_I B D σ) (hB : B ≤ 1000000000) : v.2.1.toInt ≤ 1000000000 := by
  have := (rd_57_2 hI).2
  rw [← hv, ← vr_w]
  omega
theorem steps_T {B D B1 D1 B2 D2 : Int} {σ s1 s2 : mh_H} (h : mh_RV σ) (hI : mh_I B D σ) (hB : B ≤ 1000000000) (hI0 : mh_I B1 D1 s1) (hI1 : mh_I B2 D2 s2) (F0 : mh_F S_eX9_steps σ s1) (F1 : mh_F S_eX10_steps s1 s2) {p1 z0 z1 : Int32} (E0 : f_eX9_steps σ p1 = (z0, s1)) (E1 : f_eX10_steps s1 p1 = (z1, s2)) : z0 = z1 ∧ mh_RV s2 := by
  have hs1 := mh_I_p3 hI0
  have hs2 := mh_I_p3 hI1
  obtain ⟨kl, Ls, v, ch, fl, w, cw, m, r, a1, a2, a3, a4, a5, a6⟩ := h
  have hr1 := RA_F a6 F0 hs1 (by decide)
  have hb := RV_b a6.1.1 hI hB
  have q := steps_eq a1 a5.1 hr1.1 a2 hb p1
  rw [E0, E1] at q
  obtain ⟨q1, v', q2, q3, q4⟩ := q
  have hc1 : mh_CA kl (mh_lw Ls) v' ch fl w cw m r s1 := CA_v a5 q2 (by rw [F_at1 F0 (by decide)]; exact a5.2.2.1) F0 (by decide)
  exact ⟨q1, kl, Ls, v', ch, fl, w, cw, m, r, a1, q4, a3, a4, CA_F a1 hc1 F1 hs2 (by decide), RA_v hr1 q3 (by rw [F_at1 F1 (by decide)]; exact hr1.2.1) F1 (by decide)⟩
theorem draw_T {B D B1 D1 B2 D2 : Int} {σ s1 s2 : mh_H} (h : mh_RV σ) (hI : mh_I B D σ) (hB : B ≤ 1000000000) (hI0 : mh_I B1 D1 s1) (hI1 : mh_I B2 D2 s2) (F0 : mh_F S_eX9_draw σ s1) (F1 : mh_F S_eX10_draw s1 s2) {p1 z0 z1 : Int32} (E0 : f_eX9_draw σ p1 = (z0, s1)) (E1 : f_eX10_draw s1 p1 = (z1, s2)) : z0 = z1 ∧ mh_RV s2 := by
  have hs1 := mh_I_p3 hI0
  have hs2 := mh_I_p3 hI1
  obtain ⟨kl, Ls, v, ch, fl, w, cw, m, r, a1, a2, a3, a4, a5, a6⟩ := h
  have hr1 := RA_F a6 F0 hs1 (by decide)
  have hb := RV_b a6.1.1 hI hB
  have q := draw_eq a1 a5.1 hr1.1 a2 (a5.2.2.1.trans hr1.2.1.symm) hb p1
  rw [E0, E1] at q
  obtain ⟨q1, v', q2, q3, q4, q5⟩ := q
  have hc1 : mh_CA kl (mh_lw Ls) v' (s1.1 1 7) fl w cw m r s1 := CA_v a5 q2 rfl F0 (by decide)
  exact ⟨q1, kl, Ls, v', s1.1 1 7, fl, w, cw, m, r, a1, q4, a3, a4, CA_F a1 hc1 F1 hs2 (by decide), RA_v hr1 q3 q5.symm F1 (by decide)⟩
theorem night_T {B D B1 D1 B2 D2 : Int} {σ s1 s2 : mh_H} (h : mh_RV σ) (hI : mh_I B D σ) (hB : B ≤ 1000000000) (hI0 : mh_I B1 D1 s1) (hI1 : mh_I B2 D2 s2) (F0 : mh_F S_eX9_night σ s1) (F1 : mh_F S_eX10_night s1 s2) {p1 p2 z0 z1 : Int32} (E0 : f_eX9_night σ p1 p2 = (z0, s1)) (E1 : f_eX10_night s1 p1 p2 = (z1, s2)) : z0 = z1 ∧ mh_RV s2 := by
  have hs1 := mh_I_p3 hI0
  have hs2 := mh_I_p3 hI1
  obtain ⟨kl, Ls, v, ch, fl, w, cw, m, r, a1, a2, a3, a4, a5, a6⟩ := h
  have hr1 := RA_F a6 F0 hs1 (by decide)
  have hb := RV_b a6.1.1 hI hB
  have q := night_eq a1 (lw_B Ls) a5.1 hr1.1 a2 hb p1 p2
  have bk := night_back hr1.1 a2 hb p1 p2
  rw [E0, E1] at q
  rw [E1] at bk
  exact ⟨q, kl, Ls, v, ch, fl, w, cw, m, r, a1, a2, a3, a4, CA_F a1 (CA_F a1 a5 F0 hs1 (by decide)) F1 hs2 (by decide), RA_bk hr1 bk.1 bk.2 F1 (by decide)⟩
theorem sun_T {B D B1 D1 B2 D2 : Int} {σ s1 s2 : mh_H} (h : mh_RV σ) (hI : mh_I B D σ) (hB : B ≤ 1000000000) (hI0 : mh_I B1 D1 s1) (hI1 : mh_I B2 D2 s2) (F0 : mh_F S_eX9_sun σ s1) (F1 : mh_F S_eX10_sun s1 s2) {p1 p2 p3 p4 z0 z1 : Int32} (E0 : f_eX9_sun σ p1 p2 p3 p4 = (z0, s1)) (E1 : f_eX10_sun s1 p1 p2 p3 p4 = (z1, s2)) : z0 = z1 ∧ mh_RV s2 := by
  have hs1 := mh_I_p3 hI0
  have hs2 := mh_I_p3 hI1
  obtain ⟨kl, Ls, v, ch, fl, w, cw, m, r, a1, a2, a3, a4, a5, a6⟩ := h
  have hr1 := RA_F a6 F0 hs1 (by decide)
  have hb := RV_b a6.1.1 hI hB
  have q := sun_eq a1 (lw_B Ls) a5.1 hr1.1 a2 hb p1 p2 p3 p4
  have bk := sun_back hr1.1 a2 hb p1 p2 p3 p4
  rw [E0, E1] at q
  rw [E1] at bk
  exact ⟨q, kl, Ls, v, ch, fl, w, cw, m, r, a1, a2, a3, a4, CA_F a1 (CA_F a1 a5 F0 hs1 (by decide)) F1 hs2 (by decide), RA_bk hr1 bk.1 bk.2 F1 (by decide)⟩
theorem band_T {B D B1 D1 B2 D2 : Int} {σ s1 s2 : mh_H} (h : mh_RV σ) (hI : mh_I B D σ) (hB : B ≤ 1000000000) (hI0 : mh_I B1 D1 s1) (hI1 : mh_I B2 D2 s2) (F0 : mh_F S_eX9_band σ s1) (F1 : mh_F S_eX10_band s1 s2) {p1 p2 z0 z1 : Int32} (E0 : f_eX9_band σ p1 p2 = (z0, s1)) (E1 : f_eX10_band s1 p1 p2 = (z1, s2)) : z0 = z1 ∧ mh_RV s2 := by
  have hs1 := mh_I_p3 hI0
  have hs2 := mh_I_p3 hI1
  obtain ⟨kl, Ls, v, ch, fl, w, cw, m, r, a1, a2, a3, a4, a5, a6⟩ := h
  have hr1 := RA_F a6 F0 hs1 (by decide)
  have hb := RV_b a6.1.1 hI hB
  have q := band_eq a1 a5.1 hr1.1 a2 hb p1 p2
  have bk := band_back hr1.1 a2 hb p1 p2
  rw [E0, E1] at q
  rw [E1] at bk
  exact ⟨q, kl, Ls, v, ch, fl, w, cw, m, r, a1, a2, a3, a4, CA_F a1 (CA_F a1 a5 F0 hs1 (by decide)) F1 hs2 (by decide), RA_bk hr1 bk.1 bk.2 F1 (by decide)⟩
theorem works_T {B D B1 D1 B2 D2 : Int} {σ s1 s2 : mh_H} (h : mh_RV σ) (hI : mh_I B D σ) (hB : B ≤ 1000000000) (hI0 : mh_I B1 D1 s1) (hI1 : mh_I B2 D2 s2) (F0 : mh_F S_eX9_works σ s1) (F1 : mh_F S_eX10_works s1 s2) {p1 p2 p3 p4 z0 z1 : Int32} (E0 : f_eX9_works σ p1 p2 p3 p4 = (z0, s1)) (E1 : f_eX10_works s1 p1 p2 p3 p4 = (z1, s2)) : z0 = z1 ∧ mh_RV s2 := by
  have hs1 := mh_I_p3 hI0
  have hs2 := mh_I_p3 hI1
  obtain ⟨kl, Ls, v, ch, fl, w, cw, m, r, a1, a2, a3, a4, a5, a6⟩ := h
  have hr1 := RA_F a6 F0 hs1 (by decide)
  have hb := RV_b a6.1.1 hI hB
  have q := works_eq a1 a5.1 hr1.1 a2 hb p1 p2 p3 p4
  rw [E0, E1] at q
  obtain ⟨q1, q2, q3⟩ := q
  exact ⟨q1, kl, Ls, v, ch, fl, w, cw, m, r, a1, a2, a3, a4, CA_F a1 (CA_F a1 a5 F0 hs1 (by decide)) F1 hs2 (by decide), RA_bk hr1 q2 q3 F1 (by decide)⟩
theorem dam_T {B D B1 D1 B2 D2 : Int} {σ s1 s2 : mh_H} (h : mh_RV σ) (hI : mh_I B D σ) (hB : B ≤ 1000000000) (hI0 : mh_I B1 D1 s1) (hI1 : mh_I B2 D2 s2) (F0 : mh_F S_eX9_dam σ s1) (F1 : mh_F S_eX10_dam s1 s2) {p1 p2 p3 z0 z1 : Int32} (E0 : f_eX9_dam σ p1 p2 p3 = (z0, s1)) (E1 : f_eX10_dam s1 p1 p2 p3 = (z1, s2)) : z0 = z1 ∧ mh_RV s2 := by
  have hs1 := mh_I_p3 hI0
  have hs2 := mh_I_p3 hI1
  obtain ⟨kl, Ls, v, ch, fl, w, cw, m, r, a1, a2, a3, a4, a5, a6⟩ := h
  have hr1 := RA_F a6 F0 hs1 (by decide)
  have hb := RV_b a6.1.1 hI hB
  have q := dam_eq a1 a5.1 hr1.1 a2 hb p1 p2 p3
  rw [E0, E1] at q
  obtain ⟨q1, q2, q3⟩ := q
  exact ⟨q1, kl, Ls, v, ch, fl, w, cw, m, r, a1, a2, a3, a4, CA_F a1 (CA_F a1 a5 F0 hs1 (by decide)) F1 hs2 (by decide), RA_bk hr1 q2 q3 F1 (by decide)⟩
theorem cell_T {B D B1 D1 B2 D2 : Int} {σ s1 s2 : mh_H} (h : mh_RV σ) (hI : mh_I B D σ) (hB : B ≤ 1000000000) (hI0 : mh_I B1 D1 s1) (hI1 : mh_I B2 D2 s2) (F0 : mh_F S_eX9_cell σ s1) (F1 : mh_F S_eX10_cell s1 s2) {p1 p2 p3 z0 z1 : Int32} (E0 : f_eX9_cell σ p1 p2 p3 = (z0, s1)) (E1 : f_eX10_cell s1 p1 p2 p3 = (z1, s2)) : z0 = z1 ∧ mh_RV s2 := by
  have hs1 := mh_I_p3 hI0
  have hs2 := mh_I_p3 hI1
  obtain ⟨kl, Ls, v, ch, fl, w, cw, m, r, a1, a2, a3, a4, a5, a6⟩ := h
  have hr1 := RA_F a6 F0 hs1 (by decide)
  have hb := RV_b a6.1.1 hI hB
  have q := cell_eq a1 (lw_B Ls) a5.1 hr1.1 a2 p1 p2 p3
  rw [E0, E1] at q
  exact ⟨q, kl, Ls, v, ch, fl, w, cw, m, r, a1, a2, a3, a4, CA_F a1 (CA_F a1 a5 F0 hs1 (by decide)) F1 hs2 (by decide), RA_F hr1 F1 hs2 (by decide)⟩
theorem sums_T {B D B1 D1 B2 D2 : Int} {σ s1 s2 : mh_H} (h : mh_RV σ) (hI : mh_I B D σ) (hB : B ≤ 1000000000) (hI0 : mh_I B1 D1 s1) (hI1 : mh_I B2 D2 s2) (F0 : mh_F S_eX9_sums σ s1) (F1 : mh_F S_eX10_sums s1 s2) {p1 z0 z1 : Int32} (E0 : f_eX9_sums σ p1 = (z0, s1)) (E1 : f_eX10_sums s1 p1 = (z1, s2)) : z0 = z1 ∧ mh_RV s2 := by
  have hs1 := mh_I_p3 hI0
  have hs2 := mh_I_p3 hI1
  obtain ⟨kl, Ls, v, ch, fl, w, cw, m, r, a1, a2, a3, a4, a5, a6⟩ := h
  have hr1 := RA_F a6 F0 hs1 (by decide)
  have hb := RV_b a6.1.1 hI hB
  have q := sums_eq a1 (lw_B Ls) a5.1 hr1.1 a2 p1
  rw [E0, E1] at q
  exact ⟨q, kl, Ls, v, ch, fl, w, cw, m, r, a1, a2, a3, a4, CA_F a1 (CA_F a1 a5 F0 hs1 (by decide)) F1 hs2 (by decide), RA_F hr1 F1 hs2 (by decide)⟩
theorem soonest_T {B D B1 D1 B2 D2 : Int} {σ s1 s2 : mh_H} (h : mh_RV σ) (hI : mh_I B D σ) (hB : B ≤ 1000000000) (hI0 : mh_I B1 D1 s1) (hI1 : mh_I B2 D2 s2) (F0 : mh_F S_eX9_soonest σ s1) (F1 : mh_F S_eX10_soonest s1 s2) {p1 p2 p3 p4 z0 z1 : Int32} (E0 : f_eX9_soonest σ p1 p2 p3 p4 = (z0, s1)) (E1 : f_eX10_soonest s1 p1 p2 p3 p4 = (z1, s2)) : True ∧ mh_RV s2 := by
  have hs1 := mh_I_p3 hI0
  have hs2 := mh_I_p3 hI1
  obtain ⟨kl, Ls, v, ch, fl, w, cw, m, r, a1, a2, a3, a4, a5, a6⟩ := h
  have hr1 := RA_F a6 F0 hs1 (by decide)
  have hb := RV_b a6.1.1 hI hB
  have bk := soonest_back hr1.1 a2 hb p1 p2 p3 p4
  rw [E1] at bk
  exact ⟨trivial, kl, Ls, v, ch, fl, w, cw, m, r, a1, a2, a3, a4, CA_F a1 (CA_F a1 a5 F0 hs1 (by decide)) F1 hs2 (by decide), RA_bk hr1 bk.1 bk.2 F1 (by decide)⟩
/-- the world as it is made -/
theorem mh_RV0 : mh_RV lx_s0 := by
  have z : ∀ k j, k ≠ 22 → k ≠ 57 → k ≠ 1 → k ≠ 7 → k ≠ 13 → lx_s0.1 k j = 0 := fun k j h1 h2 h3 h4 h5 => by
    show lx_s1 k j = 0
    unfold lx_s1
    rw [if_neg h1, if_neg h2, if_neg (by omega)]
  have e1 : mh_vc 1 lx_s0 = ((fun _ _ => 0, 0, 0) : mh_V) := vc_ext (fun _ _ _ => rfl) (fun r c hc hr => z _ _ (by omega) (by omega) (by omega) (by omega) (by omega)) rfl rfl
  have e2 : mh_vr lx_s0 = ((fun _ _ => 0, 0, 0) : mh_V) := vr_ext (fun _ _ _ => rfl) (fun r c hc hr => z _ _ (by omega) (by omega) (by omega) (by omega) (by omega)) rfl rfl
  obtain ⟨m, r, b1, b2, b3⟩ := rl_Z0
  have p3 := mh_I_p3 lx_I0
  refine ⟨40, [], (fun _ _ => 0, 0, 0), 1, 0, (fun _ _ => 0, 0, 0), 0, m, r, Or.inl rfl, ?_, fun q => absurd kc_0 q, b1, ⟨⟨e1, rfl, lw_nil (by decide) _ (by decide), p3⟩, by decide, rfl, rfl, fun q => absurd kc_0 q, b2⟩, ⟨⟨e2, LR_of (B := 0) (by decide) trivial (by decide) (by decide), p3, by decide⟩, rfl, rfl, fun q => absurd kc_0 q, b3⟩⟩
  intro c _
  refine ⟨⟨?_, ?_⟩, ⟨?_, ?_⟩, ⟨?_, ?_⟩, ⟨?_, ?_⟩⟩ <;> first | (show _ ≤ (0 : Int32).toInt; decide) | (show (0 : Int32).toInt ≤ _; decide)
end

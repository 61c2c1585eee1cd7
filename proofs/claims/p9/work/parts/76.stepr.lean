def mh_vrS (S : List (Nat × Nat)) : Bool := S.all (fun e => !(decide (59 ≤ e.1) && decide (e.1 ≤ 63)) && !(e.1 == 57 && (e.2 == 2 || e.2 == 4 || e.2 == 9999)))
theorem vr_fr {S : List (Nat × Nat)} {s s' : mh_H} (hF : mh_F S s s') (hS : mh_vrS S = true) : mh_vr s' = mh_vr s := by
  have h0 := List.all_eq_true.mp hS
  refine vr_ext (fun r c h => vr_0 h) (fun r c hc hr => ?_) ?_ ?_
  · rw [vr_at hc hr]
    refine (hF (59 + r) c ?_).1
    rintro ⟨e, h1, h2, -⟩
    have h3 := h0 e h1
    simp only [Bool.and_eq_true, Bool.not_eq_true', Bool.and_eq_false_iff, decide_eq_false_iff_not] at h3
    rcases h3.1 with h | h <;> omega
  · refine (hF 57 2 ?_).1
    rintro ⟨e, h1, h2, h3⟩
    have h4 := h0 e h1
    rcases h3 with h3 | h3 <;> simp [h2, h3] at h4
  · refine congrArg Int64.toInt32 (hF 57 4 ?_).2.1
    rintro ⟨e, h1, h2, h3⟩
    have h4 := h0 e h1
    rcases h3 with h3 | h3 <;> simp [h2, h3] at h4
theorem val_of {s : mh_H} {x : Int32} (hc : (s.1 57 33).toInt ≠ -1) (h1 : x.toInt ≠ 105) (h2 : x.toInt ≠ 106) (h3 : x.toInt ≠ 108) : f_eX10_valueOf s x = f_eX10_ofCell s x := by
  have k1 : (105 : Int32).toInt = 105 := rfl
  have k2 : (106 : Int32).toInt = 106 := rfl
  have k3 : (108 : Int32).toInt = 108 := rfl
  have k4 : (-1 : Int32).toInt = -1 := rfl
  unfold f_eX10_valueOf
  simp only [mh_lbE, k1, k2, k3, k4]
  rw [if_neg h1, if_neg h2, if_neg h3, if_neg hc]
theorem eR_env {s : mh_H} {p : Int32} {c : Nat} (hp : p.toInt = (c : Int)) (hc : c < 144) (h33 : s.1 57 33 = p) (h35 : s.1 57 35 = 0) (h36 : s.1 57 36 = 0) (h37 : s.1 57 37 = 0) (hs : 0 ≤ (s.1 57 2).toInt) : mh_eR s = mh_env (mh_vr s) c (s.1 57 34) := by
  have hne : (s.1 57 33).toInt ≠ -1 := by rw [h33]; omega
  have e0 : s.1 59 c = (mh_vr s).1 0 c := (vr_at (r := 0) (vn_r hc (by decide)) (by decide)).symm
  have e1 : s.1 60 c = (mh_vr s).1 1 c := (vr_at (r := 1) (vn_r hc (by decide)) (by decide)).symm
  have e2 : s.1 61 c = (mh_vr s).1 2 c := (vr_at (r := 2) (vn_r hc (by decide)) (by decide)).symm
  have e3 : s.1 62 c = (mh_vr s).1 3 c := (vr_at (r := 3) (vn_r hc (by decide)) (by decide)).symm
  have em : p % 12 = Int32.ofNat (c % 12) := i32_of (ix_mod hp) (by omega)
  have ed : p / 12 = Int32.ofNat (c / 12) := i32_of (ix_div hp) (by omega)
  have oc : ∀ x : Int32, f_eX10_ofCell s x = if x.toInt = 104 then (mh_vr s).1 0 c else if x.toInt = 107 then (mh_vr s).1 1 c else if x.toInt = 116 then s.1 57 2 else if x.toInt = 118 then mh_wnd (mh_vr s) else if x.toInt = 99 then (mh_vr s).1 2 c else if x.toInt = 119 then (mh_vr s).1 3 c else if x.toInt = 120 then Int32.ofNat (c % 12) else if x.toInt = 121 then Int32.ofNat (c / 12) else if x.toInt = 110 then mh_tre (mh_vr s) c else s.1 57 34 := by
    intro x
    unfold f_eX10_ofCell
    simp only [mh_lbE, h33, ix_n hp, wnd_r hs, tre_r hp hc, e0, e1, e2, e3, em, ed]
    generalize x.toInt = y
    by_cases q1 : y = 104
    · subst q1; simp
    · by_cases q2 : y = 107
      · subst q2; simp
      · by_cases q3 : y = 116
        · subst q3; simp
        · by_cases q4 : y = 118
          · subst q4; simp
          · by_cases q5 : y = 99
            · subst q5; simp
            · by_cases q6 : y = 119
              · subst q6; simp
              · by_cases q7 : y = 120
                · subst q7; simp
                · by_cases q8 : y = 121
                  · subst q8; simp
                  · by_cases q9 : y = 110
                    · subst q9; simp
                    · simp only [q1, q2, q3, q4, q5, q6, q7, q8, q9, if_false, ite_self]
  funext i
  unfold mh_eR
  by_cases h : i < 13
  · rw [if_pos h]
    rcases (show i = 0 ∨ i = 1 ∨ i = 2 ∨ i = 3 ∨ i = 4 ∨ i = 5 ∨ i = 6 ∨ i = 7 ∨ i = 8 ∨ i = 9 ∨ i = 10 ∨ i = 11 ∨ i = 12 by omega) with rfl | rfl | rfl | rfl | rfl | rfl | rfl | rfl | rfl | rfl | rfl | rfl | rfl
    · show f_eX10_valueOf s 104 = _; rw [val_of hne (by decide) (by decide) (by decide), oc]; rfl
    · show f_eX10_valueOf s 107 = _; rw [val_of hne (by decide) (by decide) (by decide), oc]; rfl
    · show f_eX10_valueOf s 116 = _; rw [val_of hne (by decide) (by decide) (by decide), oc]; rfl
    · show f_eX10_valueOf s 118 = _; rw [val_of hne (by decide) (by decide) (by decide), oc]; rfl
    · show f_eX10_valueOf s 99 = _; rw [val_of hne (by decide) (by decide) (by decide), oc]; rfl
    · show f_eX10_valueOf s 119 = _; rw [val_of hne (by decide) (by decide) (by decide), oc]; rfl
    · show f_eX10_valueOf s 120 = _; rw [val_of hne (by decide) (by decide) (by decide), oc]; rfl
    · show f_eX10_valueOf s 121 = _; rw [val_of hne (by decide) (by decide) (by decide), oc]; rfl
    · show f_eX10_valueOf s 110 = _; rw [val_of hne (by decide) (by decide) (by decide), oc]; rfl
    · show f_eX10_valueOf s 100 = _; rw [val_of hne (by decide) (by decide) (by decide), oc]; rfl
    · show f_eX10_valueOf s 105 = 0; unfold f_eX10_valueOf; simp only [mh_lbE, h35]; rfl
    · show f_eX10_valueOf s 106 = 0; unfold f_eX10_valueOf; simp only [mh_lbE, h36]; rfl
    · show f_eX10_valueOf s 108 = 0; unfold f_eX10_valueOf; simp only [mh_lbE, h37]; rfl
  · rw [if_neg h, ← env_13]
    unfold mh_e13
    rw [if_neg h]
theorem by_L {s : mh_H} {L : mh_Lw} (hL : mh_LR s L) {p : Int32} {c : Nat} (hp : p.toInt = (c : Int)) (hc : c < 144) (hs : 0 ≤ (s.1 57 2).toInt) (letter mist : Int32) : (f_eX10_byCell s letter p mist (mh_mst letter)).1 = L letter (mh_env (mh_vr s) c mist) := by
  unfold f_eX10_byCell
  simp only [mh_lbE, mh_lb2E]
  have hr : ∀ i, 64 ≤ i → i ≤ 69 → (mh_pI (mh_pI (mh_pI (mh_pI (mh_pI s 57 33 p) 57 34 mist) 57 35 0) 57 36 0) 57 37 0).1 i = s.1 i := by
    intro i a b
    funext j
    rw [pI_o (by omega), pI_o (by omega), pI_o (by omega), pI_o (by omega), pI_o (by omega)]
  rw [hL _ hr (by rw [pI_j (by decide), pI_j (by decide), pI_j (by decide), pI_j (by decide), pI_j (by decide)]) letter]
  have hv : mh_vr (mh_pI (mh_pI (mh_pI (mh_pI (mh_pI s 57 33 p) 57 34 mist) 57 35 0) 57 36 0) 57 37 0) = mh_vr s := by
    rw [vr_pI (Or.inr ⟨rfl, by decide⟩), vr_pI (Or.inr ⟨rfl, by decide⟩), vr_pI (Or.inr ⟨rfl, by decide⟩), vr_pI (Or.inr ⟨rfl, by decide⟩), vr_pI (Or.inr ⟨rfl, by decide⟩)]
  rw [eR_env hp hc (by rw [pI_j (by decide), pI_j (by decide), pI_j (by decide), pI_j (by decide), pI_w]) (by rw [pI_j (by decide), pI_j (by decide), pI_w]) (by rw [pI_j (by decide), pI_w]) pI_w (by rw [pI_j (by decide), pI_j (by decide), pI_j (by decide), pI_j (by decide), pI_j (by decide)]; exact hs), hv]
  rw [pI_j (by decide), pI_j (by decide), pI_j (by decide), pI_w]
theorem by_row {s : mh_H} (hp : mh_p3 s) (a b c d : Int32) {k : Nat} (hk : k ≠ 57 ∧ k ≠ 77 ∧ k ≠ 78) : (f_eX10_byCell s a b c d).2.1 k = s.1 k :=
  F_row1 (fr_eX10_byCell s a b c d hp).1 (by intro e he; simp only [S_eX10_byCell, List.mem_cons, List.not_mem_nil, or_false] at he; rcases he with rfl | rfl | rfl | rfl | rfl | rfl | rfl <;> simp <;> omega)
theorem by_57 {s : mh_H} (hp : mh_p3 s) (a b c d : Int32) {j : Nat} (hj : j < 33) : (f_eX10_byCell s a b c d).2.1 57 j = s.1 57 j :=
  F_at1 (fr_eX10_byCell s a b c d hp).1 (by intro e he; simp only [S_eX10_byCell, List.mem_cons, List.not_mem_nil, or_false] at he; rcases he with rfl | rfl | rfl | rfl | rfl | rfl | rfl <;> simp <;> omega)
theorem by_vr {s : mh_H} (hp : mh_p3 s) (a b c d : Int32) : mh_vr (f_eX10_byCell s a b c d).2 = mh_vr s := vr_fr (fr_eX10_byCell s a b c d hp).1 (by decide)
/-- a heap in which the reference's law and step stand as in another -/
def mh_rL (s s' : mh_H) : Prop := (∀ i, 64 ≤ i → i ≤ 69 → s'.1 i = s.1 i) ∧ s'.1 57 10 = s.1 57 10 ∧ s'.1 57 2 = s.1 57 2 ∧ mh_p3 s'
theorem rL_by {s s' : mh_H} (h : mh_rL s s') (a b c d : Int32) : mh_rL s (f_eX10_byCell s' a b c d).2 :=
  ⟨fun i h1 h2 => by rw [by_row h.2.2.2 a b c d (by omega)]; exact h.1 i h1 h2, by rw [by_57 h.2.2.2 a b c d (by decide)]; exact h.2.1, by rw [by_57 h.2.2.2 a b c d (by decide)]; exact h.2.2.1, (fr_eX10_byCell s' a b c d h.2.2.2).2⟩
theorem rL_pI {s s' : mh_H} (h : mh_rL s s') {a j : Nat} {x : Int32} (ha : 69 < a ∨ (58 ≤ a ∧ a < 64)) : mh_rL s (mh_pI s' a j x) := by
  refine ⟨fun i h1 h2 => ?_, ?_, ?_, h.2.2.2⟩
  · rw [← h.1 i h1 h2]; funext b; rw [pI_o (by omega)]
  · rw [pI_o (by omega)]; exact h.2.1
  · rw [pI_o (by omega)]; exact h.2.2.1
theorem coo1_r {s : mh_H} (hp3 : mh_p3 s) {L : mh_Lw} (hL : mh_LR s L) (hs : 0 ≤ (s.1 57 2).toInt) {v : mh_V} (hv : mh_vr s = v) (Post : mh_H → Prop)
    (kk : ∀ s', mh_vr s' = v → mh_rL s s' → (∀ c, c < 144 → s'.1 79 c = (mh_cad L v).1 2 c ∧ s'.1 80 c = (mh_cad L v).1 3 c) → Post (l_eX10_cools_80_2 145 s' 0)) : Post (f_eX10_cools s) := by
  unfold f_eX10_cools
  refine mh_for l_eX10_cools_2_1 144 (fun s' m => mh_vr s' = v ∧ mh_rL s s' ∧ ∀ c, c < m → s'.1 79 c = (mh_cad L v).1 2 c ∧ s'.1 80 c = (mh_cad L v).1 3 c) Post (by decide) ?_ ?_ 145 s 0 0 rfl (by decide) ⟨hv, ⟨fun _ _ _ => rfl, rfl, rfl, hp3⟩, fun c h => absurd h (Nat.not_lt_zero c)⟩ (by decide)
  · intro n s1 x m hx hm ⟨h1, h2, h3⟩
    have k144 : (144 : Int32).toInt = 144 := rfl
    have hst : ∀ {q : mh_H}, mh_rL s q → 0 ≤ (q.1 57 2).toInt := fun h => by rw [h.2.2.1]; exact hs
    have hLq : ∀ {q : mh_H}, mh_rL s q → mh_LR q L := fun h => LR_mono hL h.1 h.2.1
    have m99 : mh_mst 99 = 99 := rfl
    have m119 : mh_mst 119 = 99 := rfl
    have m115 : mh_mst 115 = 99 := rfl
    have w1 := by_L (hLq h2) hx hm (hst h2) 99 0
    rw [m99, h1] at w1
    have v1 := (by_vr h2.2.2.2 99 x 0 99).trans h1
    have g1 := rL_by h2 99 x 0 99
    have c79 : ∀ b, b ≠ 57 ∧ b ≠ 77 ∧ b ≠ 78 → (f_eX10_byCell s1 99 x 0 99).2.1 b = s1.1 b := fun b hb => by_row h2.2.2.2 99 x 0 99 hb
    rw [l_eX10_cools_2_1_s]
    unfold ls_eX10_cools_2_1
    rw [if_pos (by omega)]
    simp only [mh_lbE, mh_lb2E, ix_n hx, bnd_r]
    rw [w1]
    have cold1 : s1.1 61 m = v.1 2 m := by rw [← h1]; exact (vr_at (r := 2) (vn_r hm (by decide)) (by decide)).symm
    rw [cold1]
    generalize (f_eX10_byCell s1 99 x 0 99).2 = q1 at v1 g1 c79 ⊢
    have v2 : mh_vr (mh_pI q1 79 m (mh_bnd (v.1 2 m + L 99 (mh_env v m 0)))) = v := (vr_pI (Or.inl (by decide))).trans v1
    have g2 : mh_rL s (mh_pI q1 79 m (mh_bnd (v.1 2 m + L 99 (mh_env v m 0)))) := rL_pI g1 (Or.inl (by decide))
    have d79 : ∀ b j, b ≠ 79 → (mh_pI q1 79 m (mh_bnd (v.1 2 m + L 99 (mh_env v m 0)))).1 b j = q1.1 b j := fun b j hb => pI_o hb
    have e79 : ∀ c, (mh_pI q1 79 m (mh_bnd (v.1 2 m + L 99 (mh_env v m 0)))).1 79 c = if c = m then mh_bnd (v.1 2 m + L 99 (mh_env v m 0)) else q1.1 79 c := fun c => by rw [pI_v]; simp only [true_and]
    generalize mh_pI q1 79 m (mh_bnd (v.1 2 m + L 99 (mh_env v m 0))) = q2 at v2 g2 d79 e79 ⊢
    have wat : q2.1 62 m = v.1 3 m := by rw [← v2]; exact (vr_at (r := 3) (vn_r hm (by decide)) (by decide)).symm
    have w2 := by_L (hLq g2) hx hm (hst g2) 119 0
    rw [m119, v2] at w2
    rw [wat, w2]
    have v3 := (by_vr g2.2.2.2 119 x 0 99).trans v2
    have g3 := rL_by g2 119 x 0 99
    have c3 : ∀ b, b ≠ 57 ∧ b ≠ 77 ∧ b ≠ 78 → (f_eX10_byCell q2 119 x 0 99).2.1 b = q2.1 b := fun b hb => by_row g2.2.2.2 119 x 0 99 hb
    generalize (f_eX10_byCell q2 119 x 0 99).2 = q3 at v3 g3 c3 ⊢
    have w3 := by_L (hLq g3) hx hm (hst g3) 115 0
    rw [m115, v3] at w3
    rw [w3]
    have v4 := (by_vr g3.2.2.2 115 x 0 99).trans v3
    have g4 := rL_by g3 115 x 0 99
    have c4 : ∀ b, b ≠ 57 ∧ b ≠ 77 ∧ b ≠ 78 → (f_eX10_byCell q3 115 x 0 99).2.1 b = q3.1 b := fun b hb => by_row g3.2.2.2 115 x 0 99 hb
    generalize (f_eX10_byCell q3 115 x 0 99).2 = q4 at v4 g4 c4 ⊢
    refine ⟨_, ⟨(vr_pI (Or.inl (by decide))).trans v4, rL_pI g4 (Or.inl (by decide)), ?_⟩, rfl⟩
    intro c hc
    have hc1 : c < 144 := by omega
    rw [pI_o (by decide), pI_v, c4 79 (by decide), c3 79 (by decide), e79, c4 80 (by decide), c3 80 (by decide), d79 80 c (by decide)]
    simp only [true_and]
    by_cases q : c = m
    · subst q
      rw [if_pos rfl, if_pos rfl]
      refine ⟨?_, ?_⟩
      · rw [cad_2 hc1]
      · rw [cad_3 hc1, Int32.sub_eq_add_neg, Int32.sub_eq_add_neg, Int32.add_assoc]
    · rw [if_neg q, if_neg q, c79 79 (by decide), c79 80 (by decide)]
      exact h3 c (by omega)
  · intro n s1 x hx ⟨h1, h2, h3⟩
    rw [l_eX10_cools_2_1_s]
    unfold ls_eX10_cools_2_1
    have k144 : (144 : Int32).toInt = 144 := rfl
    rw [if_neg (by omega)]
    exact kk s1 h1 h2 h3
theorem coo2_r {s s0 : mh_H} {L : mh_Lw} {v : mh_V} (hv : mh_vr s = v) (hr : mh_rL s0 s) (h79 : ∀ c, c < 144 → s.1 79 c = (mh_cad L v).1 2 c ∧ s.1 80 c = (mh_cad L v).1 3 c) : mh_vr (l_eX10_cools_80_2 145 s 0) = mh_cad L v ∧ mh_rL s0 (l_eX10_cools_80_2 145 s 0) := by
  have hvz : ∀ r c, ¬ (c < mh_vn r ∧ r < 5) → v.1 r c = 0 := fun r c h => by rw [← hv]; exact vr_0 h
  refine mh_for l_eX10_cools_80_2 144 (fun s m => (∀ r c, c < mh_vn r → r < 5 → s.1 (59 + r) c = if c < m then (mh_cad L v).1 r c else v.1 r c) ∧ Int64.toInt32 (s.2.1 57 4) = v.2.2 ∧ s.1 57 2 = v.2.1 ∧ mh_rL s0 s ∧ (∀ c, c < 144 → s.1 79 c = (mh_cad L v).1 2 c ∧ s.1 80 c = (mh_cad L v).1 3 c)) (fun s => mh_vr s = mh_cad L v ∧ mh_rL s0 s) (by decide) ?_ ?_ 145 s 0 0 rfl (by decide) ⟨?_, ?_, ?_, hr, h79⟩ (by decide)
  · intro n s1 x m hx hm ⟨h1, h2, h3, h4, h5⟩
    have k144 : (144 : Int32).toInt = 144 := rfl
    rw [l_eX10_cools_80_2_s]
    unfold ls_eX10_cools_80_2
    rw [if_pos (by omega)]
    simp only [mh_lbE, ix_n hx]
    rw [pI_o (show (80 : Nat) ≠ 61 by decide), (h5 m hm).1, (h5 m hm).2]
    refine ⟨mh_pI (mh_pI s1 61 m ((mh_cad L v).1 2 m)) 62 m ((mh_cad L v).1 3 m), ⟨?_, h2, ?_, rL_pI (rL_pI h4 (Or.inr (by decide))) (Or.inr (by decide)), ?_⟩, rfl⟩
    · intro r c hc hr
      by_cases q3 : r = 3 ∧ c = m
      · obtain ⟨rfl, rfl⟩ := q3
        rw [show 59 + 3 = 62 from rfl, pI_w, if_pos (Nat.lt_succ_self c)]
      · rw [show (mh_pI _ 62 m _).1 (59 + r) c = _ from if_neg (fun z => q3 ⟨by omega, z.2⟩)]
        by_cases q2 : r = 2 ∧ c = m
        · obtain ⟨rfl, rfl⟩ := q2
          rw [show 59 + 2 = 61 from rfl, pI_w, if_pos (Nat.lt_succ_self c)]
        · rw [show (mh_pI _ 61 m _).1 (59 + r) c = _ from if_neg (fun z => q2 ⟨by omega, z.2⟩), h1 r c hc hr]
          by_cases g : c < m
          · rw [if_pos g, if_pos (by omega)]
          · rw [if_neg g]
            by_cases g2 : c = m
            · rw [if_pos (by omega)]
              rw [cad_o (fun z => q2 ⟨z, g2⟩) (fun z => q3 ⟨z, g2⟩)]
            · rw [if_neg (by omega)]
    · rw [pI_o (by decide), pI_o (by decide)]; exact h3
    · intro c hc
      rw [pI_o (by decide), pI_o (by decide), pI_o (by decide), pI_o (by decide)]
      exact h5 c hc
  · intro n s1 x hx ⟨h1, h2, h3, h4, h5⟩
    rw [l_eX10_cools_80_2_s]
    unfold ls_eX10_cools_80_2
    have k144 : (144 : Int32).toInt = 144 := rfl
    rw [if_neg (by omega)]
    refine ⟨vr_ext (cad_z hvz) (fun r c hc hr => ?_) h3 h2, h4⟩
    rw [h1 r c hc hr]
    split
    · rfl
    · rename_i g
      by_cases q : r = 4
      · subst q; exact absurd hc (by unfold mh_vn; rw [if_pos rfl]; omega)
      · exact absurd hc (by unfold mh_vn; rw [if_neg q]; omega)
  · intro r c hc hr
    rw [if_neg (Nat.not_lt_zero c), ← hv, vr_at hc hr]
  · rw [← hv]; rfl
  · rw [← hv]; rfl
theorem coo_r {s : mh_H} (hp3 : mh_p3 s) {L : mh_Lw} (hL : mh_LR s L) (hs : 0 ≤ (s.1 57 2).toInt) : mh_vr (f_eX10_cools s) = mh_cad L (mh_vr s) ∧ mh_rL s (f_eX10_cools s) := by
  refine coo1_r hp3 hL hs (v := mh_vr s) rfl (fun s' => mh_vr s' = mh_cad L (mh_vr s) ∧ mh_rL s s') ?_
  intro s1 h1 h2 h3
  exact coo2_r h1 h2 h3
theorem inc_r (q : mh_H) : mh_vr (mh_pI q 57 2 (q.1 57 2 + 1)) = mh_inc (mh_vr q) := by
  refine vr_ext (fun r c h => vr_0 h) (fun r c hc hr => ?_) ?_ ?_
  · rw [pI_o (by omega)]; exact (vr_at hc hr).symm
  · rw [pI_w]; rfl
  · rfl
theorem one_r (s : mh_H) : f_eX10_stepOne s = mh_pI (f_eX10_runsDown (f_eX10_cools s)) 57 2 ((f_eX10_runsDown (f_eX10_cools s)).1 57 2 + 1) := by
  unfold f_eX10_stepOne
  simp only [mh_lbE]
theorem stp_r {s : mh_H} (hp3 : mh_p3 s) {L : mh_Lw} (hL : mh_LR s L) (hs : 0 ≤ (s.1 57 2).toInt) (hg : mh_rg (mh_vr s)) : mh_vr (f_eX10_stepOne s) = mh_stp L (mh_vr s) := by
  have h := (coo_r hp3 hL hs).1
  have hg2 : mh_rg (mh_vr (f_eX10_cools s)) := by rw [h]; exact cad_g hg
  have h2 := rdn_r hg2
  rw [h] at h2
  rw [one_r, inc_r, h2]
  rfl

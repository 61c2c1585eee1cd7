/-- a law that is good is taken over -/
theorem q_cp2 {k : Nat} {K C : Int32} {s : mh_H} (hK : K.toInt = (k : Int)) (hk : k ≤ 200) : (l_eX10_law_206_3 K C 201 s 0).1 = C ∧ (l_eX10_law_206_3 K C 201 s 0).2.1 57 10 = C ∧ (∀ i, i < k → (l_eX10_law_206_3 K C 201 s 0).2.1 68 i = s.1 74 i ∧ (l_eX10_law_206_3 K C 201 s 0).2.1 69 i = s.1 75 i) ∧ ∀ r, 64 ≤ r → r ≤ 67 → (l_eX10_law_206_3 K C 201 s 0).2.1 r = s.1 r := by
  refine mh_for (l_eX10_law_206_3 K C) k (fun s' m => (∀ i, i < m → s'.1 68 i = s.1 74 i ∧ s'.1 69 i = s.1 75 i) ∧ s'.1 74 = s.1 74 ∧ s'.1 75 = s.1 75 ∧ ∀ r, 64 ≤ r → r ≤ 67 → s'.1 r = s.1 r) (fun z => z.1 = C ∧ z.2.1 57 10 = C ∧ (∀ i, i < k → z.2.1 68 i = s.1 74 i ∧ z.2.1 69 i = s.1 75 i) ∧ ∀ r, 64 ≤ r → r ≤ 67 → z.2.1 r = s.1 r) (by omega) ?_ ?_ 201 s 0 0 rfl (by omega) ⟨fun i h => absurd h (Nat.not_lt_zero i), rfl, rfl, fun _ _ _ => rfl⟩ (by omega)
  · intro n s' x m hx hm ⟨h1, h2, h3, h4⟩
    refine ⟨mh_pI (mh_pI s' 68 m (s.1 74 m)) 69 m (s.1 75 m), ⟨fun i hi => ⟨?_, ?_⟩, ?_, ?_, fun r a b => ?_⟩, ?_⟩
    · rw [pI_o (by decide), pI_v]
      split
      · rename_i t; rw [t.2]
      · rename_i t; exact (h1 i (by have : i ≠ m := fun e => t ⟨rfl, e⟩; omega)).1
    · rw [pI_v]
      split
      · rename_i t; rw [t.2]
      · rename_i t; rw [pI_o (by decide)]; exact (h1 i (by have : i ≠ m := fun e => t ⟨rfl, e⟩; omega)).2
    · rw [pI_row (by decide), pI_row (by decide)]; exact h2
    · rw [pI_row (by decide), pI_row (by decide)]; exact h3
    · rw [pI_row (by omega), pI_row (by omega)]; exact h4 r a b
    · rw [l_eX10_law_206_3_s]
      unfold ls_eX10_law_206_3
      simp only [mh_lbE]
      have e75 : ∀ v : Int32, (mh_pI s' 68 m v).1 75 m = s.1 75 m := fun v => by rw [pI_o (by decide), h3]
      rw [if_pos (by omega), ix_n hx, h2, e75]
  · intro n s' x hx ⟨h1, h2, h3, h4⟩
    rw [l_eX10_law_206_3_s]
    unfold ls_eX10_law_206_3
    simp only [mh_lbE]
    rw [if_neg (by omega)]
    exact ⟨rfl, pI_w, fun i hi => ⟨by rw [pI_o (by decide)]; exact (h1 i hi).1, by rw [pI_o (by decide)]; exact (h1 i hi).2⟩, fun r a b => by rw [pI_row (by omega)]; exact h4 r a b⟩
theorem q_fin {k : Nat} {s : mh_H} {Ls : List mh_Cl} (hK : mh_rK s k Ls) (h27 : (s.1 57 27).toInt = (k : Int)) (hk : k ≤ 200) (hn : Ls.length ≤ 14) : (l_eX10_law_142_2 (s.1 57 27) (s.1 57 26) 15 s 0).1 = s.1 57 26 ∧ mh_LR (l_eX10_law_142_2 (s.1 57 27) (s.1 57 26) 15 s 0).2 (mh_lw Ls) := by
  have h26 := hK.2
  generalize s.1 57 27 = K at h27 ⊢
  generalize s.1 57 26 = C at h26 ⊢
  refine mh_for (l_eX10_law_142_2 K C) Ls.length (fun s' m => (∀ i, i < m → s'.1 64 i = s.1 70 i ∧ s'.1 65 i = s.1 71 i ∧ s'.1 66 i = s.1 72 i ∧ s'.1 67 i = s.1 73 i) ∧ ∀ r, 70 ≤ r → r ≤ 75 → s'.1 r = s.1 r) (fun z => z.1 = C ∧ mh_LR z.2 (mh_lw Ls)) (by omega) ?_ ?_ 15 s 0 0 rfl (by omega) ⟨fun i h => absurd h (Nat.not_lt_zero i), fun _ _ _ => rfl⟩ (by omega)
  · intro n s' x m hx hm ⟨h1, h2⟩
    refine ⟨mh_pI (mh_pI (mh_pI (mh_pI s' 64 m (s.1 70 m)) 65 m (s.1 71 m)) 66 m (s.1 72 m)) 67 m (s.1 73 m), ⟨fun i hi => ⟨?_, ?_, ?_, ?_⟩, fun r a b => ?_⟩, ?_⟩
    · rw [pI_o (by decide), pI_o (by decide), pI_o (by decide), pI_v]
      split
      · rename_i t; rw [t.2]
      · rename_i t; exact (h1 i (by have : i ≠ m := fun e => t ⟨rfl, e⟩; omega)).1
    · rw [pI_o (by decide), pI_o (by decide), pI_v]
      split
      · rename_i t; rw [t.2]
      · rename_i t; rw [pI_o (by decide)]; exact (h1 i (by have : i ≠ m := fun e => t ⟨rfl, e⟩; omega)).2.1
    · rw [pI_o (by decide), pI_v]
      split
      · rename_i t; rw [t.2]
      · rename_i t; rw [pI_o (by decide), pI_o (by decide)]; exact (h1 i (by have : i ≠ m := fun e => t ⟨rfl, e⟩; omega)).2.2.1
    · rw [pI_v]
      split
      · rename_i t; rw [t.2]
      · rename_i t; rw [pI_o (by decide), pI_o (by decide), pI_o (by decide)]; exact (h1 i (by have : i ≠ m := fun e => t ⟨rfl, e⟩; omega)).2.2.2
    · rw [pI_row (by omega), pI_row (by omega), pI_row (by omega), pI_row (by omega)]; exact h2 r a b
    · have e70 : s'.1 70 m = s.1 70 m := congrFun (h2 70 (by decide) (by decide)) m
      have e71 : ∀ v : Int32, (mh_pI s' 64 m v).1 71 m = s.1 71 m := fun v => by rw [pI_o (by decide)]; exact congrFun (h2 71 (by decide) (by decide)) m
      have e72 : ∀ v w : Int32, (mh_pI (mh_pI s' 64 m v) 65 m w).1 72 m = s.1 72 m := fun v w => by rw [pI_o (by decide), pI_o (by decide)]; exact congrFun (h2 72 (by decide) (by decide)) m
      have e73 : ∀ v w y : Int32, (mh_pI (mh_pI (mh_pI s' 64 m v) 65 m w) 66 m y).1 73 m = s.1 73 m := fun v w y => by rw [pI_o (by decide), pI_o (by decide), pI_o (by decide)]; exact congrFun (h2 73 (by decide) (by decide)) m
      rw [l_eX10_law_142_2_s]
      unfold ls_eX10_law_142_2
      simp only [mh_lbE]
      rw [if_pos (by omega), ix_n hx, e70, e71, e72, e73]
  · intro n s' x hx ⟨h1, h2⟩
    rw [l_eX10_law_142_2_s]
    unfold ls_eX10_law_142_2
    simp only [mh_lbE]
    rw [if_neg (by omega)]
    obtain ⟨c1, c2, c3, c4⟩ := q_cp2 (K := K) (C := C) (s := s') h27 hk
    generalize l_eX10_law_206_3 K C 201 s' 0 = z at c1 c2 c3 c4 ⊢
    refine ⟨c1, LR_of (B := k) hk ?_ (by rw [c2]; exact h26) hn⟩
    have := clR_ap (k0 := 70) (k1 := 64) (s := s) (s' := z.2) (kr := s.1 74) (wr := s.1 75) (kr' := z.2.1 68) (wr' := z.2.1 69) (B := k) (B' := k) (fun i hi => ⟨(c3 i hi).1.trans (congrFun (h2 74 (by decide) (by decide)) i), (c3 i hi).2.trans (congrFun (h2 75 (by decide) (by decide)) i)⟩) (Nat.le_refl k) [] Ls 0 (fun kk j hkk hj => by
      have hj : j < Ls.length := by omega
      have : kk = 0 ∨ kk = 1 ∨ kk = 2 ∨ kk = 3 := by omega
      rcases this with rfl | rfl | rfl | rfl
      · exact (congrFun (c4 64 (by decide) (by decide)) j).trans (h1 j hj).1
      · exact (congrFun (c4 65 (by decide) (by decide)) j).trans (h1 j hj).2.1
      · exact (congrFun (c4 66 (by decide) (by decide)) j).trans (h1 j hj).2.2.1
      · exact (congrFun (c4 67 (by decide) (by decide)) j).trans (h1 j hj).2.2.2) hK.1 trivial
    rw [List.append_nil] at this
    exact this
/-- a whole law of the reference -/
def mh_ro (s s' : mh_H) : Prop := (∀ i, 64 ≤ i → i ≤ 69 → s'.1 i = s.1 i) ∧ s'.1 57 10 = s.1 57 10
def mh_rR (s : mh_H) (r : Sum (Nat × Nat) (List mh_Cl)) (z : Int32 × mh_H) : Prop := match r with
  | .inl f => z.1.toInt = -1000 * (f.1 : Int) - (f.2 : Int) ∧ 0 < f.1 ∧ mh_ro s z.2
  | .inr Ls => z.1.toInt = (Ls.length : Int) ∧ mh_LR z.2 (mh_lw Ls)
theorem lw_b0 {f q : Nat} {s : mh_H} (h : mh_bfl f q s) (hf : 0 < f) (m : Nat) : l_eX10_law_54_1 (m + 1) s 0 = (s.1 57 25, s) := by
  unfold mh_bfl at h
  rw [l_eX10_law_54_1_s]
  unfold ls_eX10_law_54_1
  simp only [mh_lbE]
  rw [if_pos (show (0 : Int32).toInt = 0 from kc_0), if_pos (show (s.1 57 25).toInt < 0 by omega)]
theorem lw_b1 {f q : Nat} {s : mh_H} (h : mh_bfl f q s) (hf : 0 < f) (m : Nat) : l_eX10_law_54_1 (m + 1) s 1 = (s.1 57 25, s) := by
  rw [l_eX10_law_54_1_s]
  unfold ls_eX10_law_54_1
  simp only [mh_lbE]
  rw [if_neg (show ¬ (1 : Int32).toInt = 0 by decide), if_pos (bf_bad h hf)]
theorem q_law {N : Nat} {T : Nat → Int32} (hN : N ≤ 200) (ht : mh_tx (rd_sg T N) N) {s0 : mh_H} : ∀ (n : Nat) (s : mh_H) (Ls : List mh_Cl) (p k m : Nat), Ls.length ≤ 14 → 15 < n + Ls.length → n + 2 ≤ m → mh_rz0 N T p k s → k ≤ p → mh_rK s k Ls → mh_p3 s → mh_ro s0 s → mh_rR s0 (rd_law (rd_sg T N) N n Ls p) (l_eX10_law_54_1 m s 1) := by
  intro n
  induction n with
  | zero => intro s Ls p k m h1 h2; exfalso; omega
  | succ n ih =>
    intro s Ls p k m h1 h2 hm h hk hK hp3 hro
    have k59 : (59 : Int32).toInt = 59 := rfl
    have k1 : (1 : Int32).toInt = ((1 : Nat) : Int) := rfl
    obtain ⟨m, rfl⟩ : ∃ i, m = i + 1 := ⟨m - 1, by omega⟩
    obtain ⟨m, rfl⟩ : ∃ i, m = i + 1 := ⟨m - 1, by omega⟩
    rw [rd_law_s, l_eX10_law_54_1_s]
    unfold ls_eX10_law_54_1
    simp only [mh_lbE]
    rw [if_neg (show ¬ (1 : Int32).toInt = 0 by decide), if_neg (r0_good h)]
    have r1 := q_cla hN ht h hk hK h1
    have fr := fr_eX10_clause s hp3
    have hro1 : mh_ro s0 (f_eX10_clause s) := ⟨fun i a b => (F_row1 fr.1 (by
      intro e he
      have : ∀ e ∈ S_eX10_clause, e.1 < 64 ∨ 69 < e.1 := by decide
      have := this e he
      omega)).trans (hro.1 i a b), (F_at1 fr.1 (by decide)).trans hro.2⟩
    have hp31 := fr.2
    have h24 := h.2.1
    generalize f_eX10_clause s = z at r1 hro1 hp31 ⊢
    cases e : rd_cla (rd_sg T N) Ls.length p with
    | inl f =>
      rw [e] at r1
      rw [if_pos (bf_bad r1.1 r1.2), lw_b0 r1.1 r1.2]
      exact ⟨r1.1, r1.2, hro1⟩
    | inr x =>
      rw [e] at r1
      obtain ⟨q1, k', q2, q3, q4⟩ := r1
      have hx1 := q2.1
      have hxN := q2.2.2.2.2.2
      have hlen : (Ls ++ [x.1]).length = Ls.length + 1 := List.length_append
      rw [if_neg (r0_good q2)]
      show mh_rR s0 (if x.2 < N then (if (rd_sg T N x.2).toInt = 59 then rd_law (rd_sg T N) N n (Ls ++ [x.1]) (x.2 + 1) else .inl (1, x.2)) else .inr (Ls ++ [x.1])) _
      by_cases g : x.2 < N
      · rw [if_pos g, if_pos (show (z.1 57 23).toInt < (s.1 57 24).toInt by omega), r0_here q2, hr_lt g]
        by_cases g2 : (rd_sg T N x.2).toInt = 59
        · rw [if_pos g2, if_pos (show (rd_sg T N x.2).toInt = (59 : Int32).toInt by omega)]
          refine ih _ (Ls ++ [x.1]) (x.2 + 1) k' (m + 1) (by omega) (by omega) (by omega) (r0_23 q2 (ix_add hx1 (by omega) k1 (by decide)) (by omega)) (by omega) ⟨?_, ?_⟩ hp31 ⟨fun i a b => (pI_row (by omega)).trans (hro1.1 i a b), (pI_j (by decide)).trans hro1.2⟩
          · have := clR_ap (k0 := 70) (k1 := 70) (s := z) (s' := mh_pI z 57 23 (z.1 57 23 + 1)) (kr := z.1 74) (wr := z.1 75) (kr' := (mh_pI z 57 23 (z.1 57 23 + 1)).1 74) (wr' := (mh_pI z 57 23 (z.1 57 23 + 1)).1 75) (B := k') (B' := k') (fun i _ => ⟨pI_o (by decide), pI_o (by decide)⟩) (Nat.le_refl _) [] (Ls ++ [x.1]) 0 (fun kk j hkk _ => pI_o (by omega)) q3.1 trivial
            rw [List.append_nil] at this
            exact this
          · rw [pI_j (by decide)]; exact q3.2
        · rw [if_neg g2, if_neg (show ¬ (rd_sg T N x.2).toInt = (59 : Int32).toInt by omega)]
          have b := r0_wr q2 (F := 1) (P := z.1 57 23) (f := 1) (q := x.2) rfl (by decide) hx1 (by omega)
          have b2 : mh_bfl 1 x.2 (mh_pI (f_eX10_wrongs z 1 (z.1 57 23)) 57 23 (z.1 57 23 + 1)) := bf_31 b (by decide)
          have ro2 : mh_ro s0 (mh_pI (f_eX10_wrongs z 1 (z.1 57 23)) 57 23 (z.1 57 23 + 1)) := by
            unfold f_eX10_wrongs
            simp only [mh_lbE]
            split
            · exact ⟨fun i a b => by rw [pI_row (by omega), pI_row (by omega)]; exact hro1.1 i a b, by rw [pI_j (by decide), pI_j (by decide)]; exact hro1.2⟩
            · exact ⟨fun i a b => by rw [pI_row (by omega), pI_row (by omega)]; exact hro1.1 i a b, by rw [pI_j (by decide), pI_j (by decide)]; exact hro1.2⟩
          generalize mh_pI (f_eX10_wrongs z 1 (z.1 57 23)) 57 23 (z.1 57 23 + 1) = t at b2 ro2 ⊢
          rw [lw_b1 b2 (by decide)]
          exact ⟨b2, show 0 < 1 by decide, ro2⟩
      · rw [if_neg g, if_neg (show ¬ (z.1 57 23).toInt < (s.1 57 24).toInt by omega)]
        rw [l_eX10_law_54_1_s]
        unfold ls_eX10_law_54_1
        simp only [mh_lbE]
        have h25 : ¬ (z.1 57 25).toInt < 0 := by rw [q2.2.2.1]; decide
        rw [if_pos (show (0 : Int32).toInt = 0 from kc_0), if_neg h25]
        obtain ⟨c1, c2⟩ := q_fin q3 q2.2.2.2.1 (by omega) (by omega)
        refine ⟨?_, c2⟩
        rw [c1]; exact q3.2

def mh_rg (v : mh_V) : Prop := ∀ c, c < 144 → mh_r (v.1 0 c) 0 99 ∧ mh_r (v.1 1 c) 0 4 ∧ mh_r (v.1 2 c) 0 9999 ∧ mh_r (v.1 3 c) 0 9999
theorem lev_b {v : mh_V} (h : mh_rg v) {c : Nat} (hc : c < 144) : 0 ≤ (mh_lev v c).toInt ∧ (mh_lev v c).toInt ≤ 11019 := by
  obtain ⟨⟨a1, a2⟩, -, ⟨b1, b2⟩, -⟩ := h c hc
  have k10 : (10 : Int32).toInt = 10 := rfl
  have k30 : (30 : Int32).toInt = 30 := rfl
  have k0 := kc_0
  unfold mh_lev
  have e1 : ((10 : Int32) * v.1 0 c).toInt = 10 * (v.1 0 c).toInt := by rw [mh_mul (lo := 0) (hi := 1000) (by rw [k10]; omega) (by decide), k10]
  have e2 : ((10 : Int32) * v.1 0 c + v.1 2 c).toInt = 10 * (v.1 0 c).toInt + (v.1 2 c).toInt := by rw [mh_add (lo := 0) (hi := 20000) (by omega) (by decide), e1]
  split
  · rw [mh_add (lo := 0) (hi := 20000) (by omega) (by decide), e2, k30]; omega
  · rw [mh_add (lo := 0) (hi := 20000) (by omega) (by decide), e2, k0]; omega
theorem lev_d {v : mh_V} (h : mh_rg v) {c b : Nat} (hc : c < 144) (hb : b < 144) : (mh_lev v c - mh_lev v b).toInt = (mh_lev v c).toInt - (mh_lev v b).toInt := by
  have h1 := lev_b h hc
  have h2 := lev_b h hb
  exact mh_sub (lo := -20000) (hi := 20000) (by omega) (by decide)
theorem mi_alt (x y : Int32) : (if x.toInt < y.toInt then x else y) = mh_mi32 x y := by
  unfold mh_mi32
  by_cases h : x.toInt < y.toInt
  · rw [if_pos h, if_neg (by omega)]
  · rw [if_neg h]
    by_cases q : y.toInt < x.toInt
    · rw [if_pos q]
    · rw [if_neg q]; exact Int32.toInt_inj.mp (by omega)
theorem vr_pI {s : mh_H} {a j : Nat} {x : Int32} (h : 63 < a ∨ (a = 57 ∧ j ≠ 2)) : mh_vr (mh_pI s a j x) = mh_vr s := by
  refine vr_ext (fun r c h => vr_0 h) (fun r c hc hr => ?_) ?_ rfl
  · rw [vr_at hc hr, pI_o (by omega)]
  · show (mh_pI s a j x).1 57 2 = s.1 57 2
    exact if_neg (fun z => by omega)
/-- what the first of the reference's loops lays down -/
def mh_go81 (v : mh_V) (s : mh_H) (m : Nat) : Prop := ∀ c, c < m → s.1 81 c = mh_g v c ∧ ∃ b : Nat, (s.1 82 c).toInt = (b : Int) ∧ b < 144 ∧ (mh_g v c = 0 ∨ b = mh_low v c)
theorem rd1_r {v : mh_V} (hg : mh_rg v) {s : mh_H} (hv : mh_vr s = v) (Post : mh_H → Prop) (kk : ∀ s', mh_vr s' = v → mh_go81 v s' 144 → Post (l_eX10_runsDown_84_2 145 s' 0)) : Post (f_eX10_runsDown s) := by
  unfold f_eX10_runsDown
  refine mh_for l_eX10_runsDown_2_1 144 (fun s m => mh_vr s = v ∧ mh_go81 v s m) Post (by decide) ?_ ?_ 145 s 0 0 rfl (by decide) ⟨hv, fun c h => absurd h (Nat.not_lt_zero c)⟩ (by decide)
  · intro n s x m hx hm ⟨h1, h2⟩
    have k144 : (144 : Int32).toInt = 144 := rfl
    obtain ⟨b, hb⟩ := bst_some (v := v) hm
    have hbR := bst_r (s := s) hx hm
    rw [h1, hb] at hbR
    obtain ⟨hb1, hb2⟩ := hbR
    have hlb := low_bst v m
    rw [hb] at hlb
    have hd := lev_d hg hm hb2
    have hcold : s.1 61 m = v.1 2 m := by
      have := vr_at (r := 2) (c := m) (s := s) (vn_r hm (by decide)) (by decide)
      rw [h1] at this
      exact this.symm
    have key : ∀ y : Int32, y = mh_g v m → (mh_g v m = 0 ∨ b = mh_low v m) → ∃ s', (mh_vr s' = v ∧ mh_go81 v s' (m + 1)) ∧ l_eX10_runsDown_2_1 n (mh_pI (mh_pI s 82 m (f_eX10_lowestBeside s x)) 81 m y) (x + 1) = l_eX10_runsDown_2_1 n s' (x + 1) := by
      intro y hy hq
      refine ⟨_, ⟨?_, ?_⟩, rfl⟩
      · rw [vr_pI (Or.inl (by decide)), vr_pI (Or.inl (by decide))]; exact h1
      · intro c hc
        by_cases q : c = m
        · subst q
          rw [pI_w, pI_o (by decide), pI_w]
          exact ⟨hy, b, hb1, hb2, hq⟩
        · rw [pI_j q, pI_o (by decide), pI_o (by decide), pI_j q]
          exact h2 c (by omega)
    rw [l_eX10_runsDown_2_1_s]
    unfold ls_eX10_runsDown_2_1 j_eX10_runsDown_75_6
    rw [if_pos (by omega)]
    simp only [mh_lbE, ix_n hx]
    rw [lev_r hx hm, lev_r hb1 hb2, h1, hcold]
    rcases hlb with ⟨g1, g2⟩ | ⟨g1, g2⟩
    · rw [if_pos (by omega)]
      have hgm : mh_g v m = mh_mi32 ((v.1 2 m + 3) / 4) ((mh_lev v m - mh_lev v b) / 2) := by
        unfold mh_g
        rw [g2, if_pos (by omega)]
      have := mi_alt ((v.1 2 m + 3) / 4) ((mh_lev v m - mh_lev v b) / 2)
      by_cases q : ((v.1 2 m + 3) / 4).toInt < ((mh_lev v m - mh_lev v b) / 2).toInt
      · rw [if_pos q] at this ⊢
        exact key _ (this.trans hgm.symm) (Or.inr g2.symm)
      · rw [if_neg q] at this ⊢
        exact key _ (this.trans hgm.symm) (Or.inr g2.symm)
    · rw [if_neg (by omega)]
      have hgm : mh_g v m = 0 := by
        unfold mh_g
        rw [g2, if_neg (by have := lev_d hg hm hm; omega)]
      exact key 0 hgm.symm (Or.inl hgm)
  · intro n s x hx ⟨h1, h2⟩
    rw [l_eX10_runsDown_2_1_s]
    unfold ls_eX10_runsDown_2_1
    have k144 : (144 : Int32).toInt = 144 := rfl
    rw [if_neg (by omega)]
    exact kk s h1 h2
/-- the reference's valley with its cold apart -/
def mh_rB (v : mh_V) (s : mh_H) (cl : Nat → Int32) (rn : Int32) : Prop := (∀ r c, c < mh_vn r → r < 5 → r ≠ 2 → s.1 (59 + r) c = v.1 r c) ∧ s.1 57 2 = v.2.1 ∧ Int64.toInt32 (s.2.1 57 4) = rn ∧ (∀ c, c < 144 → s.1 61 c = cl c)
theorem rB_pI {v : mh_V} {s : mh_H} {cl cl' : Nat → Int32} {rn : Int32} (h : mh_rB v s cl rn) {j : Nat} {x : Int32} (hc : ∀ c, c < 144 → (if c = j then x else cl c) = cl' c) : mh_rB v (mh_pI s 61 j x) cl' rn := by
  refine ⟨fun r c h1 h2 h3 => ?_, ?_, h.2.2.1, fun c h1 => ?_⟩
  · rw [pI_o (by omega)]; exact h.1 r c h1 h2 h3
  · rw [pI_o (by decide)]; exact h.2.1
  · rw [pI_v, ← hc c h1]
    by_cases q : c = j
    · rw [if_pos ⟨rfl, q⟩, if_pos q]
    · rw [if_neg (fun z => q z.2), if_neg q]; exact h.2.2.2 c h1
theorem go_pI {v : mh_V} {s : mh_H} {j : Nat} {x : Int32} (h : mh_go81 v s 144) : mh_go81 v (mh_pI s 61 j x) 144 := fun c hc => by
  rw [pI_o (by decide), pI_o (by decide)]; exact h c hc
theorem rd2_r {v : mh_V} {s : mh_H} (hv : mh_vr s = v) (h81 : mh_go81 v s 144) (Post : mh_H → Prop) (kk : ∀ s', mh_rB v s' (fun c => v.1 2 c - mh_g v c) (mh_rs v 144) → mh_go81 v s' 144 → Post (l_eX10_runsDown_130_3 145 s' 0)) : Post (l_eX10_runsDown_84_2 145 s 0) := by
  refine mh_for l_eX10_runsDown_84_2 144 (fun s m => mh_rB v s (fun c => if c < m then v.1 2 c - mh_g v c else v.1 2 c) (mh_rs v m) ∧ mh_go81 v s 144) Post (by decide) ?_ ?_ 145 s 0 0 rfl (by decide) ⟨⟨?_, ?_, ?_, ?_⟩, h81⟩ (by decide)
  · intro n s x m hx hm ⟨h1, h2⟩
    have k144 : (144 : Int32).toInt = 144 := rfl
    rw [l_eX10_runsDown_84_2_s]
    unfold ls_eX10_runsDown_84_2
    rw [if_pos (by omega)]
    simp only [mh_lbE, ix_n hx]
    have hg := (h2 m hm).1
    have hm1 := h1.2.2.2 m hm
    dsimp only at hm1
    rw [if_neg (Nat.lt_irrefl m)] at hm1
    refine ⟨_, ⟨?_, ?_⟩, rfl⟩
    · have a1 := rB_pI (cl' := fun c => if c < m + 1 then v.1 2 c - mh_g v c else v.1 2 c) h1 (j := m) (x := s.1 61 m - s.1 81 m) (fun c hc => by
        by_cases q : c = m
        · rw [if_pos q, if_pos (by omega), q, hg, hm1]
        · rw [if_neg q]
          by_cases q2 : c < m
          · rw [if_pos q2, if_pos (by omega)]
          · rw [if_neg q2, if_neg (by omega)])
      refine ⟨a1.1, a1.2.1, ?_, a1.2.2.2⟩
      rw [pL_w, Int64.toInt32_add, Int32.toInt32_toInt64, hg]
      show Int64.toInt32 (s.2.1 57 4) + mh_g v m = mh_rs v m + mh_g v m
      rw [h1.2.2.1]
    · exact go_pI (s := s) (j := m) (x := s.1 61 m - s.1 81 m) h2
  · intro n s x hx ⟨h1, h2⟩
    rw [l_eX10_runsDown_84_2_s]
    unfold ls_eX10_runsDown_84_2
    have k144 : (144 : Int32).toInt = 144 := rfl
    rw [if_neg (by omega)]
    exact kk s ⟨h1.1, h1.2.1, h1.2.2.1, fun c hc => by rw [h1.2.2.2 c hc]; dsimp only; rw [if_pos hc]⟩ h2
  · intro r c hc hr _; rw [← vr_at hc hr, hv]
  · rw [← hv]; rfl
  · rw [← hv]; rfl
  · intro c hc
    dsimp only
    rw [if_neg (Nat.not_lt_zero c), ← hv]
    exact (vr_at (r := 2) (vn_r hc (by decide)) (by decide)).symm
theorem rd3_r {v : mh_V} {s : mh_H} (h1 : mh_rB v s (fun c => v.1 2 c - mh_g v c) (mh_rs v 144)) (h81 : mh_go81 v s 144) (Post : mh_H → Prop) (kk : ∀ s', mh_rB v s' (mh_bh v 144) (mh_rs v 144) → Post (l_eX10_runsDown_165_4 145 s' 0)) : Post (l_eX10_runsDown_130_3 145 s 0) := by
  refine mh_for l_eX10_runsDown_130_3 144 (fun s m => mh_rB v s (fun c => v.1 2 c - mh_g v c + mh_sm v c m) (mh_rs v 144) ∧ mh_go81 v s 144) Post (by decide) ?_ ?_ 145 s 0 0 rfl (by decide) ⟨⟨h1.1, h1.2.1, h1.2.2.1, fun c hc => by rw [h1.2.2.2 c hc]; exact (Int32.add_zero _).symm⟩, h81⟩ (by decide)
  · intro n s x m hx hm ⟨h1, h2⟩
    have k144 : (144 : Int32).toInt = 144 := rfl
    rw [l_eX10_runsDown_130_3_s]
    unfold ls_eX10_runsDown_130_3
    rw [if_pos (by omega)]
    simp only [mh_lbE, ix_n hx]
    obtain ⟨hg, b, hb1, hb2, hb3⟩ := h2 m hm
    refine ⟨_, ⟨?_, ?_⟩, rfl⟩
    · refine rB_pI h1 (fun c hc => ?_)
      show _ = v.1 2 c - mh_g v c + (mh_sm v c m + (if mh_low v m = c then mh_g v m else 0))
      rw [ix_n hb1, ← Int32.add_assoc, hg]
      by_cases q : c = b
      · rw [if_pos q, q, h1.2.2.2 b hb2]
        rcases hb3 with z | z
        · rw [z, ite_self]
        · rw [if_pos z.symm]
      · rw [if_neg q]
        rcases hb3 with z | z
        · rw [z, ite_self, Int32.add_zero]
        · rw [if_neg (fun y => q (by omega)), Int32.add_zero]
    · exact go_pI h2
  · intro n s x hx ⟨h1, h2⟩
    rw [l_eX10_runsDown_130_3_s]
    unfold ls_eX10_runsDown_130_3
    have k144 : (144 : Int32).toInt = 144 := rfl
    rw [if_neg (by omega)]
    exact kk s ⟨h1.1, h1.2.1, h1.2.2.1, fun c hc => by rw [h1.2.2.2 c hc]; unfold mh_bh; rw [if_pos hc]⟩
theorem rd4_r {v : mh_V} (hz : ∀ r c, ¬ (c < mh_vn r ∧ r < 5) → v.1 r c = 0) {s : mh_H} (h1 : mh_rB v s (mh_bh v 144) (mh_rs v 144)) : mh_vr (l_eX10_runsDown_165_4 145 s 0) = mh_rdn v := by
  refine mh_for l_eX10_runsDown_165_4 144 (fun s m => mh_rB v s (fun c => if c < m then mh_mi32 (mh_bh v 144 c) 9999 else mh_bh v 144 c) (mh_rs v 144)) (fun s => mh_vr s = mh_rdn v) (by decide) ?_ ?_ 145 s 0 0 rfl (by decide) ⟨h1.1, h1.2.1, h1.2.2.1, fun c hc => by dsimp only; rw [if_neg (Nat.not_lt_zero c)]; exact h1.2.2.2 c hc⟩ (by decide)
  · intro n s x m hx hm h1
    have k144 : (144 : Int32).toInt = 144 := rfl
    rw [l_eX10_runsDown_165_4_s]
    unfold ls_eX10_runsDown_165_4 j_eX10_runsDown_201_5
    rw [if_pos (by omega)]
    simp only [mh_lbE, ix_n hx]
    have hm1 := h1.2.2.2 m hm
    dsimp only at hm1
    rw [if_neg (Nat.lt_irrefl m)] at hm1
    have e : ∀ y : Int32, y = mh_mi32 (mh_bh v 144 m) 9999 → ∃ s', mh_rB v s' (fun c => if c < m + 1 then mh_mi32 (mh_bh v 144 c) 9999 else mh_bh v 144 c) (mh_rs v 144) ∧ l_eX10_runsDown_165_4 n (mh_pI s 61 m y) (x + 1) = l_eX10_runsDown_165_4 n s' (x + 1) := by
      intro y hy
      refine ⟨_, rB_pI h1 (fun c hc => ?_), rfl⟩
      by_cases q : c = m
      · rw [if_pos q, if_pos (by omega), hy, q]
      · rw [if_neg q]
        by_cases q2 : c < m
        · rw [if_pos q2, if_pos (by omega)]
        · rw [if_neg q2, if_neg (by omega)]
    rw [hm1]
    have hmi : mh_mi32 (mh_bh v 144 m) 9999 = if (9999 : Int32).toInt < (mh_bh v 144 m).toInt then 9999 else mh_bh v 144 m := rfl
    by_cases q : (9999 : Int32).toInt < (mh_bh v 144 m).toInt
    · rw [if_pos q] at hmi ⊢
      exact e 9999 hmi.symm
    · rw [if_neg q] at hmi ⊢
      exact e _ hmi.symm
  · intro n s x hx h1
    rw [l_eX10_runsDown_165_4_s]
    unfold ls_eX10_runsDown_165_4
    have k144 : (144 : Int32).toInt = 144 := rfl
    rw [if_neg (by omega)]
    refine vr_ext (fun r c h => ?_) (fun r c hc hr => ?_) h1.2.1 h1.2.2.1
    · show (if r = 2 then (if c < 144 then _ else 0) else v.1 r c) = 0
      by_cases q : r = 2
      · subst q
        rw [if_pos rfl, if_neg (fun z => h ⟨vn_r z (by decide), by decide⟩)]
      · rw [if_neg q]; exact hz r c h
    · show _ = if r = 2 then (if c < 144 then _ else 0) else v.1 r c
      by_cases q : r = 2
      · subst q
        have hc2 : c < 144 := hc
        rw [if_pos rfl, if_pos hc2]
        have := h1.2.2.2 c hc2
        dsimp only at this
        rw [if_pos hc2] at this
        exact this
      · rw [if_neg q]; exact h1.1 r c hc hr q
theorem rdn_r {s : mh_H} (hg : mh_rg (mh_vr s)) : mh_vr (f_eX10_runsDown s) = mh_rdn (mh_vr s) :=
  rd1_r hg (v := mh_vr s) rfl (fun s' => mh_vr s' = mh_rdn (mh_vr s)) (fun s1 h1 h2 => rd2_r h1 h2 (fun s' => mh_vr s' = mh_rdn (mh_vr s)) (fun s2 g1 g2 => rd3_r g1 g2 (fun s' => mh_vr s' = mh_rdn (mh_vr s)) (fun s3 f1 => rd4_r (fun r c h => vr_0 h) f1)))
theorem g_b {v : mh_V} (hg : mh_rg v) {c : Nat} (hc : c < 144) : 0 ≤ (mh_g v c).toInt ∧ (mh_g v c).toInt ≤ (v.1 2 c).toInt ∧ (mh_g v c).toInt ≤ 2500 := by
  obtain ⟨-, -, ⟨b1, b2⟩, -⟩ := hg c hc
  have k0 := kc_0
  have k3 : (3 : Int32).toInt = 3 := rfl
  have k4 : (4 : Int32).toInt = 4 := rfl
  have k2 : (2 : Int32).toInt = 2 := rfl
  unfold mh_g
  by_cases h : 0 < (mh_lev v c - mh_lev v (mh_low v c)).toInt
  · rw [if_pos h, mh_mi32_i]
    have e1 : (v.1 2 c + 3).toInt = (v.1 2 c).toInt + 3 := by rw [mh_add (lo := 0) (hi := 20000) (by omega) (by decide), k3]
    have e2 : ((v.1 2 c + 3) / 4).toInt = ((v.1 2 c).toInt + 3) / 4 := by rw [mh_div (by rw [k4]; decide), e1, k4, Int.tdiv_eq_ediv_of_nonneg (by omega)]
    have e3 : ((mh_lev v c - mh_lev v (mh_low v c)) / 2).toInt = (mh_lev v c - mh_lev v (mh_low v c)).toInt / 2 := by rw [mh_div (by rw [k2]; decide), k2, Int.tdiv_eq_ediv_of_nonneg (by omega)]
    rw [e2, e3]
    omega
  · rw [if_neg h]; omega
theorem sm_b {v : mh_V} (hg : mh_rg v) (j : Nat) : ∀ m, m ≤ 144 → 0 ≤ (mh_sm v j m).toInt ∧ (mh_sm v j m).toInt ≤ 2500 * (m : Int)
  | 0, _ => by show 0 ≤ (0 : Int32).toInt ∧ (0 : Int32).toInt ≤ _; have := kc_0; omega
  | m + 1, h => by
    have ih := sm_b hg j m (by omega)
    have hb := g_b hg (c := m) (by omega)
    have k0 := kc_0
    have e : 0 ≤ (if mh_low v m = j then mh_g v m else 0).toInt ∧ (if mh_low v m = j then mh_g v m else 0).toInt ≤ 2500 := by split <;> omega
    show 0 ≤ (mh_sm v j m + _).toInt ∧ (mh_sm v j m + _).toInt ≤ _
    rw [mh_add (lo := 0) (hi := 400000) (by omega) (by decide)]
    omega
theorem rdn_g {v : mh_V} (hg : mh_rg v) : mh_rg (mh_rdn v) := by
  intro c hc
  obtain ⟨a1, a2, a3, a4⟩ := hg c hc
  refine ⟨a1, a2, ?_, a4⟩
  show mh_r (if c < 144 then mh_mi32 (mh_bh v 144 c) 9999 else 0) 0 9999
  have k9 : (9999 : Int32).toInt = 9999 := rfl
  have h1 := g_b hg hc
  have h2 := sm_b hg c 144 (Nat.le_refl _)
  have h3 := a3.1; have h4 := a3.2
  have e1 : (v.1 2 c - mh_g v c).toInt = (v.1 2 c).toInt - (mh_g v c).toInt := mh_sub (lo := 0) (hi := 20000) (by omega) (by decide)
  rw [if_pos hc, mh_r, mh_mi32_i, k9]
  unfold mh_bh
  rw [if_pos hc, mh_add (lo := 0) (hi := 500000) (by omega) (by decide), e1]
  omega

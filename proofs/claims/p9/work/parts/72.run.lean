theorem pI_v {s : mh_H} {a j b i : Nat} {x : Int32} : (mh_pI s a j x).1 b i = if b = a ∧ i = j then x else s.1 b i := rfl
theorem pI_o {s : mh_H} {a j b i : Nat} {x : Int32} (h : b ≠ a) : (mh_pI s a j x).1 b i = s.1 b i := if_neg (fun q => h q.1)
theorem pI_j {s : mh_H} {a j b i : Nat} {x : Int32} (h : i ≠ j) : (mh_pI s a j x).1 b i = s.1 b i := if_neg (fun q => h q.2)
theorem pI_w {s : mh_H} {a j : Nat} {x : Int32} : (mh_pI s a j x).1 a j = x := if_pos ⟨rfl, rfl⟩
theorem pL_w {s : mh_H} {a j : Nat} {x : Int64} : (mh_pL s a j x).2.1 a j = x := if_pos ⟨rfl, rfl⟩
theorem pL_v {s : mh_H} {a j b i : Nat} {x : Int64} : (mh_pL s a j x).2.1 b i = if b = a ∧ i = j then x else s.2.1 b i := rfl
theorem r32_a (a b c : Int32) : a + b - c = a - c + b := by
  rw [Int32.sub_eq_add_neg, Int32.sub_eq_add_neg, Int32.add_assoc, Int32.add_comm b, Int32.add_assoc]
def mh_g (v : mh_V) (c : Nat) : Int32 := if 0 < (mh_lev v c - mh_lev v (mh_low v c)).toInt then mh_mi32 ((v.1 2 c + 3) / 4) ((mh_lev v c - mh_lev v (mh_low v c)) / 2) else 0
def mh_sm (v : mh_V) (j : Nat) : Nat → Int32
  | 0 => 0
  | m + 1 => mh_sm v j m + (if mh_low v m = j then mh_g v m else 0)
def mh_rs (v : mh_V) : Nat → Int32
  | 0 => v.2.2
  | m + 1 => mh_rs v m + mh_g v m
def mh_bh (v : mh_V) (m j : Nat) : Int32 := (if j < m then v.1 2 j - mh_g v j else v.1 2 j) + mh_sm v j m
def mh_rdn (v : mh_V) : mh_V := (fun r c => if r = 2 then (if c < 144 then mh_mi32 (mh_bh v 144 c) 9999 else 0) else v.1 r c, v.2.1, mh_rs v 144)
theorem bh_0 (v : mh_V) (j : Nat) : mh_bh v 0 j = v.1 2 j := by
  unfold mh_bh
  rw [if_neg (Nat.not_lt_zero j)]
  exact Int32.add_zero _
theorem bh_s (v : mh_V) (m j : Nat) : mh_bh v (m + 1) j = (if j = m then mh_bh v m j - mh_g v m else mh_bh v m j) + (if mh_low v m = j then mh_g v m else 0) := by
  unfold mh_bh
  show _ + (mh_sm v j m + _) = _
  rw [← Int32.add_assoc]
  congr 1
  by_cases h : j = m
  · subst h
    rw [if_pos (Nat.lt_succ_self j), if_pos rfl, if_neg (Nat.lt_irrefl j), r32_a]
  · rw [if_neg h]
    by_cases q : j < m
    · rw [if_pos q, if_pos (by omega)]
    · rw [if_neg q, if_neg (by omega)]
/-- the class's loops -/
def mh_kO (k : Nat) : Prop := 1 ≤ k ∧ k ≤ 13
theorem rd1_c {k : Nat} (hk : mh_kO k) {v : mh_V} {s : mh_H} (hv : mh_vc k s = v) (Post : mh_H → Prop)
    (kk : ∀ s', mh_vc k s' = v → (∀ c, c < 144 → s'.1 20 c = mh_lev v c) → (∀ c, c < 144 → s'.1 21 c = v.1 2 c) → Post (l_eX0_runDown_40_2 k 145 s' 0)) : Post (f_eX0_runDown s k) := by
  unfold f_eX0_runDown
  refine mh_for (l_eX0_runDown_2_1 k) 144 (fun s m => mh_vc k s = v ∧ (∀ c, c < m → s.1 20 c = mh_lev v c ∧ s.1 21 c = v.1 2 c)) Post (by decide) ?_ ?_ 145 s 0 0 rfl (by decide) ⟨hv, fun c h => absurd h (Nat.not_lt_zero c)⟩ (by decide)
  · intro n s x m hx hm ⟨h1, h2⟩
    refine ⟨mh_pI (mh_pI s 20 m (mh_lev v m)) 21 m (v.1 2 m), ⟨?_, ?_⟩, ?_⟩
    · rw [← h1]
      have := hk.2
      refine vc_ext (fun r c h => vc_0 h) (fun r c hc hr => ?_) ?_ ?_
      · rw [vc_at hc hr, pI_o (by omega), pI_o (by omega)]
      · rw [pI_o (by omega), pI_o (by omega)]; rfl
      · rw [pI_o (by omega), pI_o (by omega)]; rfl
    · intro c hc
      by_cases q : c = m
      · subst q
        rw [pI_o (by decide), pI_w, pI_w]
        exact ⟨rfl, rfl⟩
      · rw [pI_o (by decide), pI_j q, pI_j q, pI_o (by decide)]
        exact h2 c (by omega)
    · rw [l_eX0_runDown_2_1_s]
      unfold ls_eX0_runDown_2_1
      have k144 : (144 : Int32).toInt = 144 := rfl
      rw [if_pos (by omega)]
      simp only [mh_lbE]
      rw [lev_c hx hm, h1, ix_n hx, pI_o (by have := hk.2; omega), show s.1 (k + 3) m = v.1 2 m by rw [← h1]; exact (vc_at (k := k) (r := 2) (vn_r hm (by decide)) (by decide)).symm]
  · intro n s x hx ⟨h1, h2⟩
    rw [l_eX0_runDown_2_1_s]
    unfold ls_eX0_runDown_2_1
    have k144 : (144 : Int32).toInt = 144 := rfl
    rw [if_neg (by omega)]
    exact kk s h1 (fun c hc => (h2 c hc).1) (fun c hc => (h2 c hc).2)
theorem rd2_c {k : Nat} (hk : mh_kO k) {v : mh_V} {s : mh_H} (hv : mh_vc k s = v) (hL : ∀ c, c < 144 → s.1 20 c = mh_lev v c) (hb : ∀ c, c < 144 → s.1 21 c = v.1 2 c) (Post : mh_H → Prop)
    (kk : ∀ s', mh_vc k s' = (v.1, v.2.1, mh_rs v 144) → (∀ c, c < 144 → s'.1 21 c = mh_bh v 144 c) → Post (l_eX0_runDown_133_3 k 145 s' 0)) : Post (l_eX0_runDown_40_2 k 145 s 0) := by
  refine mh_for (l_eX0_runDown_40_2 k) 144 (fun s m => mh_vc k s = (v.1, v.2.1, mh_rs v m) ∧ (∀ c, c < 144 → s.1 20 c = mh_lev v c) ∧ (∀ c, c < 144 → s.1 21 c = mh_bh v m c)) Post (by decide) ?_ ?_ 145 s 0 0 rfl (by decide) ⟨hv, hL, fun c hc => by rw [bh_0]; exact hb c hc⟩ (by decide)
  · intro n s x m hx hm ⟨h1, h2, h3⟩
    have k144 : (144 : Int32).toInt = 144 := rfl
    have hlow := low_c h2 hx hm
    have hll := low_lt (v := v) hm
    have hcold : s.1 (k + 3) m = v.1 2 m := by
      have := vc_at (k := k) (r := 2) (c := m) (s := s) (vn_r hm (by decide)) (by decide)
      rw [h1] at this
      exact this.symm
    have hran : s.1 k 6 = mh_rs v m := congrArg (fun q : mh_V => q.2.2) h1
    rw [l_eX0_runDown_40_2_s]
    unfold ls_eX0_runDown_40_2 j_eX0_runDown_125_4
    rw [if_pos (by omega)]
    simp only [mh_lbE, ix_n hx, ix_n hlow]
    rw [h2 m hm, h2 _ hll, hcold]
    have hg : mh_g v m = if 0 < (mh_lev v m - mh_lev v (mh_low v m)).toInt then mh_mi32 ((v.1 2 m + 3) / 4) ((mh_lev v m - mh_lev v (mh_low v m)) / 2) else 0 := rfl
    by_cases c0 : 0 < (mh_lev v m - mh_lev v (mh_low v m)).toInt
    · rw [if_pos c0] at hg
      rw [if_pos c0, ← hg]
      refine ⟨_, ⟨?_, ?_, ?_⟩, rfl⟩
      · have := hk.2
        refine vc_ext (fun r c h => ?_) (fun r c hc hr => ?_) ?_ ?_
        · have := vc_0 (k := k) (s := s) h
          rw [h1] at this
          exact this
        · rw [pI_o (by omega), pI_o (by omega), pI_o (by omega), ← vc_at (k := k) hc hr, h1]
        · rw [pI_j (by decide), pI_o (by omega), pI_o (by omega)]
          exact congrArg (fun q : mh_V => q.2.1) h1
        · rw [pI_w, pI_o (by omega), pI_o (by omega), hran]
          rfl
      · intro c hc
        rw [pI_o (by have := hk.2; omega), pI_o (by decide), pI_o (by decide)]
        exact h2 c hc
      · intro c hc
        have := hk.2
        rw [pI_o (by omega), bh_s, pI_v, h3 m hm]
        simp only [pI_v, true_and]
        rw [← h3 c hc]
        by_cases q : mh_low v m = c
        · rw [q, if_pos rfl, if_pos rfl, h3 c hc]
          by_cases q2 : c = m
          · rw [if_pos q2, if_pos q2, q2]
          · rw [if_neg q2, if_neg q2]
        · rw [if_neg (fun z => q z.symm), if_neg q, Int32.add_zero]
          by_cases q2 : c = m
          · rw [if_pos q2, if_pos q2, q2, h3 m hm]
          · rw [if_neg q2, if_neg q2]
    · rw [if_neg c0] at hg
      rw [if_neg c0]
      refine ⟨_, ⟨?_, h2, ?_⟩, rfl⟩
      · rw [h1]
        show (v.1, v.2.1, mh_rs v m) = (v.1, v.2.1, mh_rs v m + mh_g v m)
        rw [hg, Int32.add_zero]
      · intro c hc
        rw [bh_s, hg, Int32.sub_zero, ite_self, ite_self, Int32.add_zero]
        exact h3 c hc
  · intro n s x hx ⟨h1, h2, h3⟩
    rw [l_eX0_runDown_40_2_s]
    unfold ls_eX0_runDown_40_2
    have k144 : (144 : Int32).toInt = 144 := rfl
    rw [if_neg (by omega)]
    exact kk s h1 h3
theorem rd3_c {k : Nat} (hk : mh_kO k) {v : mh_V} {s : mh_H} (hv : mh_vc k s = (v.1, v.2.1, mh_rs v 144)) (hz : ∀ r c, ¬ (c < mh_vn r ∧ r < 5) → v.1 r c = 0) (hb : ∀ c, c < 144 → s.1 21 c = mh_bh v 144 c) : mh_vc k (l_eX0_runDown_133_3 k 145 s 0) = mh_rdn v := by
  refine mh_for (l_eX0_runDown_133_3 k) 144 (fun s m => (∀ r c, c < mh_vn r → r < 5 → s.1 (k + 1 + r) c = if r = 2 ∧ c < m then mh_mi32 (mh_bh v 144 c) 9999 else v.1 r c) ∧ s.1 k 5 = v.2.1 ∧ s.1 k 6 = mh_rs v 144 ∧ (∀ c, c < 144 → s.1 21 c = mh_bh v 144 c)) (fun s => mh_vc k s = mh_rdn v) (by decide) ?_ ?_ 145 s 0 0 rfl (by decide) ⟨?_, congrArg (fun q : mh_V => q.2.1) hv, congrArg (fun q : mh_V => q.2.2) hv, hb⟩ (by decide)
  · intro n s x m hx hm ⟨h1, h2, h3, h4⟩
    have k144 : (144 : Int32).toInt = 144 := rfl
    have hk2 := hk.2
    rw [l_eX0_runDown_133_3_s]
    unfold ls_eX0_runDown_133_3
    rw [if_pos (by omega)]
    simp only [mh_lbE, ix_n hx]
    rw [h4 m hm]
    refine ⟨_, ⟨?_, ?_, ?_, ?_⟩, rfl⟩
    · intro r c hc hr
      by_cases q : r = 2 ∧ c = m
      · obtain ⟨rfl, rfl⟩ := q
        rw [show k + 1 + 2 = k + 3 from rfl, pI_w, if_pos ⟨rfl, Nat.lt_succ_self c⟩]
      · have e : (mh_pI s (k + 3) m (mh_mi32 (mh_bh v 144 m) 9999)).1 (k + 1 + r) c = s.1 (k + 1 + r) c := if_neg (fun z => q ⟨by omega, z.2⟩)
        rw [e, h1 r c hc hr]
        by_cases q2 : r = 2 ∧ c < m
        · rw [if_pos q2, if_pos ⟨q2.1, by omega⟩]
        · rw [if_neg q2, if_neg (fun z => q2 ⟨z.1, by have := z.2; rcases Nat.lt_or_ge c m with g | g; exact g; exact absurd ⟨z.1, by omega⟩ q⟩)]
    · rw [pI_o (by omega)]; exact h2
    · rw [pI_o (by omega)]; exact h3
    · intro c hc
      rw [pI_o (by omega)]; exact h4 c hc
  · intro n s x hx ⟨h1, h2, h3, h4⟩
    rw [l_eX0_runDown_133_3_s]
    unfold ls_eX0_runDown_133_3
    have k144 : (144 : Int32).toInt = 144 := rfl
    rw [if_neg (by omega)]
    refine vc_ext (fun r c h => ?_) (fun r c hc hr => ?_) h2 h3
    · show (if r = 2 then (if c < 144 then _ else 0) else v.1 r c) = 0
      by_cases q : r = 2
      · subst q
        rw [if_pos rfl, if_neg (fun z => h ⟨vn_r z (by decide), by decide⟩)]
      · rw [if_neg q]; exact hz r c h
    · rw [h1 r c hc hr]
      show _ = if r = 2 then (if c < 144 then _ else 0) else v.1 r c
      by_cases q : r = 2
      · subst q
        have hc2 : c < 144 := hc
        rw [if_pos ⟨rfl, hc2⟩, if_pos rfl, if_pos hc2]
      · rw [if_neg (fun z => q z.1), if_neg q]
  · intro r c hc hr
    rw [if_neg (fun z => absurd z.2 (Nat.not_lt_zero c)), ← vc_at (k := k) hc hr, hv]
theorem rdn_c {k : Nat} (hk : mh_kO k) {s : mh_H} : mh_vc k (f_eX0_runDown s k) = mh_rdn (mh_vc k s) :=
  rd1_c hk (v := mh_vc k s) rfl (fun s' => mh_vc k s' = mh_rdn (mh_vc k s)) (fun s1 h1 h2 h3 => rd2_c hk h1 h2 h3 (fun s' => mh_vc k s' = mh_rdn (mh_vc k s)) (fun s2 g1 g2 => rd3_c hk g1 (fun r c h => vc_0 h) g2))

theorem mh_forA {α R : Type} (l : Nat → α → Int32 → R) (N : Nat) (Inv : α → Nat → Prop) (Post : R → Prop) (hN : N < 100000)
    (hs : ∀ (n : Nat) (s : α) (x : Int32) (m : Nat), x.toInt = (m : Int) → m < N → Inv s m → ∃ s', Inv s' (m + 1) ∧ l (n + 1) s x = l n s' (x + 1))
    (he : ∀ (n : Nat) (s : α) (x : Int32), x.toInt = (N : Int) → Inv s N → Post (l (n + 1) s x)) :
    ∀ (n : Nat) (s : α) (x : Int32) (m : Nat), x.toInt = (m : Int) → m ≤ N → Inv s m → N < n + m → Post (l n s x) := by
  intro n
  induction n with
  | zero => intro s x m _ h1 _ h2; exfalso; omega
  | succ n ih =>
    intro s x m hx hm hi hn
    rcases Nat.lt_or_ge m N with h | h
    · obtain ⟨s', h1, h2⟩ := hs n s x m hx h hi
      rw [h2]
      have k1 : (1 : Int32).toInt = ((1 : Nat) : Int) := rfl
      exact ih s' (x + 1) (m + 1) (ix_add hx (by omega) k1 (by decide)) (by omega) h1 (by omega)
    · obtain rfl : m = N := by omega
      exact he n s x hx hi
def mh_cnt (L : mh_Lw) (v : mh_V) : Nat → Int32
  | 0 => 0
  | m + 1 => if 0 < (mh_mi L v m).toInt then mh_cnt L v m + 1 else mh_cnt L v m
def mh_hi (L : mh_Lw) (v : mh_V) : Nat → Int32
  | 0 => 0
  | m + 1 => if 0 < (mh_mi L v m).toInt then mh_ma32 (mh_hi L v m) (v.1 0 m + mh_mi L v m) else mh_hi L v m
def mh_fs (L : mh_Lw) (v : mh_V) : Nat → Int32
  | 0 => -2
  | m + 1 => if 0 < (mh_mi L v m).toInt ∧ (mh_cnt L v m).toInt = 0 then Int32.ofNat m else mh_fs L v m
theorem cnt_b (L : mh_Lw) (v : mh_V) : ∀ m, m ≤ 1000 → 0 ≤ (mh_cnt L v m).toInt ∧ (mh_cnt L v m).toInt ≤ (m : Int)
  | 0, _ => by show 0 ≤ (0 : Int32).toInt ∧ (0 : Int32).toInt ≤ _; have := kc_0; omega
  | m + 1, h => by
    have ih := cnt_b L v m (by omega)
    unfold mh_cnt
    split
    · rw [nn_inc ih.1 (m := 1000) (by omega) (by decide)]; omega
    · omega
theorem to_pos {L : mh_Lw} {v : mh_V} (hg : mh_rg v) (hB : mh_LB L) {c : Nat} (hc : c < 144) : (0 < (mh_to L v c).toInt) ↔ (0 < (mh_mi L v c).toInt) := by
  have h1 := hB 109 (mh_env v c 0)
  have h9 : (mh_mst 109).toInt = 99 := rfl
  have h2 := (hg c hc).1
  have h3 := h2.1; have h4 := h2.2
  have k0 := kc_0
  unfold mh_to
  split
  · rename_i h
    unfold mh_mi at h ⊢
    rw [mh_add (lo := 0) (hi := 1000) (by omega) (by decide)]
    omega
  · rename_i h
    constructor
    · intro q; omega
    · intro q; exact absurd q h
theorem cN_22 {k kl : Nat} (hk : mh_isV k) (hl : mh_isL kl) {L : mh_Lw} {v : mh_V} {s : mh_H} (h : mh_cN k kl L v s) {j : Nat} {x : Int32} : mh_cN k kl L v (mh_pI s 22 j x) := by
  have hk2 := kO_V hk
  have a1 := hk2.1; have a2 := hk2.2
  have hl2 := L40 hl
  exact cN_F (S := [(22, j)]) h (mh_F_pI mh_F_rf ⟨(22, j), by simp, rfl, Or.inr rfl⟩) h.2.2.2 (by simp; omega) (by simp; omega) (by simp)
theorem top_row {k kl : Nat} (hk : mh_isV k) (hl : mh_isL kl) {s : mh_H} (hp : mh_p3 s) (p : Int32) {b : Nat} (hb : b ≠ kl + 6) (hb2 : b ≠ kl + 7) : (f_eX1_top s k kl p).2.1 b = s.1 b := by
  refine F_row1 (fr_eX1_top s k hk kl hl p hp).1 (fun e he => ?_)
  simp only [S_eX1_top, List.mem_cons, List.not_mem_nil, or_false] at he
  rcases he with rfl | rfl
  · exact fun q => hb q.symm
  · exact fun q => hb2 q.symm
def mh_skI (L : mh_Lw) (v : mh_V) (k kl : Nat) (s : mh_H) (m : Nat) : Prop := mh_cN k kl L v s ∧ s.1 22 0 = mh_cnt L v m ∧ s.1 22 1 = mh_fs L v m ∧ s.1 22 2 = mh_hi L v m
theorem look_c {k kl : Nat} (hk : mh_isV k) (hl : mh_isL kl) {L : mh_Lw} {v : mh_V} {s : mh_H} (h : mh_cN k kl L v s) (hg : mh_rg v) (hB : mh_LB L) : mh_skI L v k kl (f_eX6_look s k kl) 144 := by
  have hl2 := L40 hl
  unfold f_eX6_look
  simp only [mh_lbE]
  refine mh_for (l_eX6_look_18_1 kl k) 144 (mh_skI L v k kl) (fun s => mh_skI L v k kl s 144) (by decide) ?_ ?_ 145 _ 0 0 rfl (by decide) ⟨cN_22 hk hl (cN_22 hk hl (cN_22 hk hl h)), ?_, ?_, ?_⟩ (by decide)
  · intro n s x m hx hm ⟨h1, h2, h3, h4⟩
    have k144 : (144 : Int32).toInt = 144 := rfl
    obtain ⟨t1, t2⟩ := top_c hk hl h1 hx hm
    have r22 : ∀ j, (f_eX1_top s k kl x).2.1 22 j = s.1 22 j := fun j => congrFun (top_row hk hl h1.2.2.2 x (by omega) (by omega)) j
    rw [l_eX6_look_18_1_s]
    unfold ls_eX6_look_18_1 j_eX6_look_65_3 j_eX6_look_81_2
    rw [if_pos (by omega)]
    simp only [mh_lbE, mh_lb2E]
    rw [t1]
    have hpos := to_pos hg hB hm (L := L)
    have hcb := cnt_b L v m (by omega)
    have k1 := kc_1
    generalize (f_eX1_top s k kl x).2 = q at t2 r22
    by_cases c0 : 0 < (mh_mi L v m).toInt
    · rw [if_pos (hpos.2 c0), r22 0, h2]
      have ec : mh_cnt L v (m + 1) = mh_cnt L v m + 1 := if_pos c0
      have hmt : mh_to L v m = v.1 0 m + mh_mi L v m := if_pos c0
      have eh : mh_hi L v (m + 1) = mh_ma32 (mh_hi L v m) (mh_to L v m) := by rw [hmt]; exact if_pos c0
      have hn := nn_inc hcb.1 (m := 1000) (by omega) (by decide)
      have key : ∀ y : Int32, y = mh_fs L v (m + 1) → ∃ s', mh_skI L v k kl s' (m + 1) ∧ l_eX6_look_18_1 kl k n (mh_pI (mh_pI (mh_pI q 22 0 (mh_cnt L v m + 1)) 22 1 y) 22 2 (mh_ma32 ((mh_pI (mh_pI q 22 0 (mh_cnt L v m + 1)) 22 1 y).1 22 2) (mh_to L v m))) (x + 1) = l_eX6_look_18_1 kl k n s' (x + 1) := by
        intro y hy
        refine ⟨_, ⟨cN_22 hk hl (cN_22 hk hl (cN_22 hk hl t2)), ?_, ?_, ?_⟩, rfl⟩
        · rw [pI_j (by decide), pI_j (by decide), pI_w, ec]
        · rw [pI_j (by decide), pI_w, hy]
        · rw [pI_w, pI_j (by decide), pI_j (by decide), r22 2, h4, eh]
      by_cases c1 : (mh_cnt L v m + 1).toInt = (1 : Int32).toInt
      · rw [if_pos c1]
        refine key x ?_
        have : (mh_cnt L v m).toInt = 0 := by omega
        rw [show mh_fs L v (m + 1) = Int32.ofNat m from if_pos ⟨c0, this⟩]
        exact i32_of hx (by omega)
      · rw [if_neg c1, pI_j (by decide), r22 1, h3]
        refine key _ ?_
        rw [show mh_fs L v (m + 1) = mh_fs L v m from if_neg (fun z => c1 (by have := z.2; omega))]
    · rw [if_neg (fun z => c0 (hpos.1 z))]
      refine ⟨q, ⟨t2, ?_, ?_, ?_⟩, rfl⟩
      · rw [r22 0, h2]; exact (if_neg c0).symm
      · rw [r22 1, h3]; exact (if_neg (fun z => c0 z.1)).symm
      · rw [r22 2, h4]; exact (if_neg c0).symm
  · intro n s x hx h1
    rw [l_eX6_look_18_1_s]
    unfold ls_eX6_look_18_1
    have k144 : (144 : Int32).toInt = 144 := rfl
    rw [if_neg (by omega)]
    exact h1
  · rw [pI_j (by decide), pI_j (by decide), pI_w]; rfl
  · rw [pI_j (by decide), pI_w]; rfl
  · rw [pI_w]; rfl
theorem misty_r {L : mh_Lw} {v : mh_V} {s : mh_H} (h : mh_rN L v s) : (f_eX10_misty s).1 = mh_cnt L v 144 ∧ mh_rN L v (f_eX10_misty s).2 := by
  unfold f_eX10_misty
  refine mh_forA (fun n (q : mh_H × Int32) x => l_eX10_misty_4_1 n q.1 x q.2) 144 (fun q m => mh_rN L v q.1 ∧ q.2 = mh_cnt L v m) (fun r => r.1 = mh_cnt L v 144 ∧ mh_rN L v r.2) (by decide) ?_ ?_ 145 (s, 0) 0 0 rfl (by decide) ⟨h, rfl⟩ (by decide)
  · intro n q x m hx hm ⟨h1, h2⟩
    have k144 : (144 : Int32).toInt = 144 := rfl
    obtain ⟨t1, t2⟩ := mist_r h1 hx hm
    rw [l_eX10_misty_4_1_s]
    unfold ls_eX10_misty_4_1
    rw [if_pos (by omega)]
    simp only [mh_lbE, mh_lb2E, Int32.add_zero]
    rw [t1, h2]
    by_cases c0 : 0 < (mh_mi L v m).toInt
    · rw [if_pos c0]
      exact ⟨((f_eX10_mistAt q.1 x).2, mh_cnt L v m + 1), ⟨t2, (if_pos c0).symm⟩, rfl⟩
    · rw [if_neg c0]
      exact ⟨((f_eX10_mistAt q.1 x).2, mh_cnt L v m), ⟨t2, (if_neg c0).symm⟩, rfl⟩
  · intro n q x hx ⟨h1, h2⟩
    rw [l_eX10_misty_4_1_s]
    unfold ls_eX10_misty_4_1
    have k144 : (144 : Int32).toInt = 144 := rfl
    rw [if_neg (by omega)]
    exact ⟨h2, h1⟩
theorem hitop_r {L : mh_Lw} {v : mh_V} {s : mh_H} (h : mh_rN L v s) : (f_eX10_highestTop s).1 = mh_hi L v 144 ∧ mh_rN L v (f_eX10_highestTop s).2 := by
  unfold f_eX10_highestTop
  refine mh_forA (fun n (q : mh_H × Int32) x => l_eX10_highestTop_4_1 n q.1 x q.2) 144 (fun q m => mh_rN L v q.1 ∧ q.2 = mh_hi L v m) (fun r => r.1 = mh_hi L v 144 ∧ mh_rN L v r.2) (by decide) ?_ ?_ 145 (s, 0) 0 0 rfl (by decide) ⟨h, rfl⟩ (by decide)
  · intro n q x m hx hm ⟨h1, h2⟩
    have k144 : (144 : Int32).toInt = 144 := rfl
    obtain ⟨t1, t2⟩ := mist_r h1 hx hm
    have g0 : (f_eX10_mistAt q.1 x).2.1 59 m = v.1 0 m := by rw [← t2.1]; exact (vr_at (r := 0) (vn_r hm (by decide)) (by decide)).symm
    rw [l_eX10_highestTop_4_1_s]
    unfold ls_eX10_highestTop_4_1 j_eX10_highestTop_42_2
    rw [if_pos (by omega)]
    simp only [mh_lbE, mh_lb2E, ix_n hx]
    rw [t1, h2, g0]
    by_cases c0 : 0 < (mh_mi L v m).toInt
    · rw [if_pos c0]
      have eh : mh_hi L v (m + 1) = if (mh_hi L v m).toInt < (v.1 0 m + mh_mi L v m).toInt then v.1 0 m + mh_mi L v m else mh_hi L v m := if_pos c0
      by_cases c1 : (mh_hi L v m).toInt < (v.1 0 m + mh_mi L v m).toInt
      · rw [if_pos c1] at eh ⊢
        exact ⟨((f_eX10_mistAt q.1 x).2, v.1 0 m + mh_mi L v m), ⟨t2, eh.symm⟩, rfl⟩
      · rw [if_neg c1] at eh ⊢
        exact ⟨((f_eX10_mistAt q.1 x).2, mh_hi L v m), ⟨t2, eh.symm⟩, rfl⟩
    · rw [if_neg c0]
      exact ⟨((f_eX10_mistAt q.1 x).2, mh_hi L v m), ⟨t2, (if_neg c0).symm⟩, rfl⟩
  · intro n q x hx ⟨h1, h2⟩
    rw [l_eX10_highestTop_4_1_s]
    unfold ls_eX10_highestTop_4_1
    have k144 : (144 : Int32).toInt = 144 := rfl
    rw [if_neg (by omega)]
    exact ⟨h2, h1⟩
theorem cnt_0 {L : mh_Lw} {v : mh_V} : ∀ {m : Nat}, m ≤ 1000 → ((mh_cnt L v m).toInt = 0 ↔ ∀ j, j < m → ¬ 0 < (mh_mi L v j).toInt)
  | 0, _ => ⟨fun _ j h => absurd h (Nat.not_lt_zero j), fun _ => kc_0⟩
  | m + 1, hm => by
    have ih := cnt_0 (L := L) (v := v) (m := m) (by omega)
    have hb := cnt_b L v m (by omega)
    unfold mh_cnt
    by_cases c : 0 < (mh_mi L v m).toInt
    · rw [if_pos c, nn_inc hb.1 (m := 1000) (by omega) (by decide)]
      exact ⟨fun h => by omega, fun h => absurd c (h m (by omega))⟩
    · rw [if_neg c, ih]
      refine ⟨fun h j hj => ?_, fun h j hj => h j (by omega)⟩
      rcases Nat.lt_or_ge j m with q | q
      · exact h j q
      · obtain rfl : j = m := by omega
        exact c
theorem fs_at {L : mh_Lw} {v : mh_V} {i : Nat} (h0 : ∀ j, j < i → ¬ 0 < (mh_mi L v j).toInt) (h1 : 0 < (mh_mi L v i).toInt) : ∀ m, m ≤ 1000 → i < m → mh_fs L v m = Int32.ofNat i
  | 0, _, h => absurd h (Nat.not_lt_zero i)
  | m + 1, hm, h => by
    unfold mh_fs
    rcases Nat.lt_or_ge i m with q | q
    · rw [if_neg (fun z => (cnt_0 (by omega)).1 z.2 i q h1)]
      exact fs_at h0 h1 m (by omega) q
    · obtain rfl : i = m := by omega
      rw [if_pos ⟨h1, (cnt_0 (by omega)).2 h0⟩]
theorem lomi_r {L : mh_Lw} (hB : mh_LB L) {v : mh_V} {s : mh_H} (h : mh_rN L v s) (hc : (mh_cnt L v 144).toInt ≠ 0) : (f_eX10_lowestMisty s).1 = mh_fs L v 144 ∧ mh_rN L v (f_eX10_lowestMisty s).2 := by
  unfold f_eX10_lowestMisty
  have key : ∀ (n : Nat) (s : mh_H) (x : Int32) (m : Nat), x.toInt = (m : Int) → mh_rN L v s → (∀ j, j < m → ¬ 0 < (mh_mi L v j).toInt) → m < 144 → 144 ≤ n + m → (l_eX10_lowestMisty_2_1 n s x).1 = mh_fs L v 144 ∧ mh_rN L v (l_eX10_lowestMisty_2_1 n s x).2 := by
    intro n
    induction n with
    | zero => intro s x m _ _ _ h1 h2; exfalso; omega
    | succ n ih =>
      intro s x m hx h1 h2 hm hn
      obtain ⟨t1, t2⟩ := mist_r h1 hx hm
      rw [l_eX10_lowestMisty_2_1_s]
      unfold ls_eX10_lowestMisty_2_1
      simp only [mh_lbE, mh_lb2E]
      rw [t1]
      have hb := hB 109 (mh_env v m 0)
      by_cases c0 : (mh_mi L v m).toInt = 0
      · rw [if_pos c0]
        have k1 : (1 : Int32).toInt = ((1 : Nat) : Int) := rfl
        have h3 : ∀ j, j < m + 1 → ¬ 0 < (mh_mi L v j).toInt := fun j hj => by
          rcases Nat.lt_or_ge j m with q | q
          · exact h2 j q
          · obtain rfl : j = m := by omega
            omega
        have hm1 : m + 1 < 144 := by
          rcases Nat.lt_or_ge (m + 1) 144 with q | q
          · exact q
          · exact absurd ((cnt_0 (by decide)).2 (fun j hj => h3 j (by omega))) hc
        exact ih _ (x + 1) (m + 1) (ix_add hx (by omega) k1 (by decide)) t2 h3 hm1 (by omega)
      · rw [if_neg c0]
        refine ⟨?_, t2⟩
        rw [fs_at h2 (by unfold mh_mi at c0 ⊢; omega) 144 (by decide) hm]
        exact i32_of hx (by omega)
  exact key 144 s 0 0 rfl h (fun j hj => absurd hj (Nat.not_lt_zero j)) (by decide) (by decide)

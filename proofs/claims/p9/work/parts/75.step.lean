theorem kO_V {k : Nat} (h : mh_isV k) : mh_kO k := by rcases h with rfl | rfl | rfl <;> exact ⟨by decide, by decide⟩
theorem L40 {k : Nat} (h : mh_isL k) : 40 ≤ k := by rcases h with rfl | rfl <;> decide
theorem see_row {k kl : Nat} (hk : mh_isV k) (hl : mh_isL kl) {s : mh_H} (hp : mh_p3 s) (p : Int32) {b : Nat} (hb : b ≠ kl + 6) : (f_eX1_see s k kl p).1 b = s.1 b :=
  F_row1 (fr_eX1_see s k hk kl hl p hp).1 (by intro e he; simp only [S_eX1_see, List.mem_singleton] at he; subst he; exact fun q => hb q.symm)
theorem wor_row {kl : Nat} (hl : mh_isL kl) {s : mh_H} (hp : mh_p3 s) (p : Int32) {b : Nat} (hb : b ≠ kl + 7) : (f_eX1_worth s kl p).2.1 b = s.1 b :=
  F_row1 (fr_eX1_worth s kl hl p hp).1 (by intro e he; simp only [S_eX1_worth, List.mem_singleton] at he; subst he; exact fun q => hb q.symm)
def mh_cI (k kl : Nat) (v w : mh_V) (s0 s : mh_H) (m : Nat) : Prop := (∀ r c, c < mh_vn r → r < 5 → s.1 (k + 1 + r) c = if c < m then w.1 r c else v.1 r c) ∧ s.1 k 5 = v.2.1 ∧ s.1 k 6 = v.2.2 ∧ (∀ i, 1 ≤ i → i ≤ 5 → s.1 (kl + i) = s0.1 (kl + i)) ∧ s.1 kl = s0.1 kl ∧ mh_p3 s
theorem cad_c {k kl : Nat} (hk : mh_isV k) (hl : mh_isL kl) {s : mh_H} (hp3 : mh_p3 s) {L : mh_Lw} (hL : mh_LC kl s L) : mh_vc k (f_eX0_comeAndDry s k kl) = mh_cad L (mh_vc k s) := by
  have hkO := kO_V hk
  have hk2 := hkO.2
  have hl4 := L40 hl
  have hvz : ∀ r c, ¬ (c < mh_vn r ∧ r < 5) → (mh_vc k s).1 r c = 0 := fun r c h => vc_0 h
  generalize hv : mh_vc k s = v at hvz ⊢
  unfold f_eX0_comeAndDry
  refine mh_for (l_eX0_comeAndDry_2_1 kl k) 144 (mh_cI k kl v (mh_cad L v) s) (fun s' => mh_vc k s' = mh_cad L v) (by decide) ?_ ?_ 145 s 0 0 rfl (by decide) ⟨?_, ?_, ?_, fun _ _ _ => rfl, rfl, hp3⟩ (by decide)
  · intro n s1 x m hx hm ⟨h1, h2, h3, h4, h5, h6⟩
    have k144 : (144 : Int32).toInt = 144 := rfl
    have hL1 : mh_LC kl s1 L := LC_mono hL h4 (congrFun h5 7) (congrFun h5 9) (congrFun h5 10)
    have hA := fr_eX1_see s1 k hk kl hl x h6
    have hW1 := fr_eX1_worth (f_eX1_see s1 k kl x) kl hl 99 hA.2
    have hW2 := fr_eX1_worth (f_eX1_worth (f_eX1_see s1 k kl x) kl 99).2 kl hl 119 hW1.2
    have hW3 := fr_eX1_worth (f_eX1_worth (f_eX1_worth (f_eX1_see s1 k kl x) kl 99).2 kl 119).2 kl hl 115 hW2.2
    have rA : ∀ b, b ≠ kl + 6 → (f_eX1_see s1 k kl x).1 b = s1.1 b := fun b hb => see_row hk hl h6 x hb
    have r1 : ∀ b, b ≠ kl + 7 → (f_eX1_worth (f_eX1_see s1 k kl x) kl 99).2.1 b = (f_eX1_see s1 k kl x).1 b := fun b hb => wor_row hl hA.2 99 hb
    have r2 : ∀ b, b ≠ kl + 7 → (f_eX1_worth (f_eX1_worth (f_eX1_see s1 k kl x) kl 99).2 kl 119).2.1 b = (f_eX1_worth (f_eX1_see s1 k kl x) kl 99).2.1 b := fun b hb => wor_row hl hW1.2 119 hb
    have r3 : ∀ b, b ≠ kl + 7 → (f_eX1_worth (f_eX1_worth (f_eX1_worth (f_eX1_see s1 k kl x) kl 99).2 kl 119).2 kl 115).2.1 b = (f_eX1_worth (f_eX1_worth (f_eX1_see s1 k kl x) kl 99).2 kl 119).2.1 b := fun b hb => wor_row hl hW2.2 115 hb
    have ev : mh_env (mh_vc k s1) m 0 = mh_env v m 0 := by
      have row : ∀ r, r < 5 → r ≠ 2 → r ≠ 3 → ∀ c, (mh_vc k s1).1 r c = v.1 r c := by
        intro r hr n2 n3 c
        by_cases hc : c < mh_vn r
        · rw [vc_at hc hr, h1 r c hc hr]
          split
          · exact cad_o n2 n3
          · rfl
        · rw [vc_0 (fun q => hc q.1), hvz r c (fun q => hc q.1)]
      have at_ : ∀ r, r < 4 → (mh_vc k s1).1 r m = v.1 r m := fun r hr => by rw [vc_at (vn_r hm hr) (by omega), h1 r m (vn_r hm hr) (by omega), if_neg (Nat.lt_irrefl m)]
      exact env_cg (row 1 (by decide) (by decide) (by decide)) (at_ 0 (by decide)) (at_ 2 (by decide)) (at_ 3 (by decide)) (row 4 (by decide) (by decide) (by decide)) h2
    have w1 : (f_eX1_worth (f_eX1_see s1 k kl x) kl 99).1 = L 99 (mh_env v m 0) := by
      rw [← ev]
      exact see_L hkO hl4 hL1 hx hm (fun i a b => rA _ (by omega)) (by rw [rA kl (by omega)]) rfl 99
    have w2 : (f_eX1_worth (f_eX1_worth (f_eX1_see s1 k kl x) kl 99).2 kl 119).1 = L 119 (mh_env v m 0) := by
      rw [← ev]
      exact see_L hkO hl4 hL1 hx hm (fun i a b => by rw [r1 _ (by omega), rA _ (by omega)]) (by rw [r1 kl (by omega), rA kl (by omega)]) (r1 _ (by omega)) 119
    have w3 : (f_eX1_worth (f_eX1_worth (f_eX1_worth (f_eX1_see s1 k kl x) kl 99).2 kl 119).2 kl 115).1 = L 115 (mh_env v m 0) := by
      rw [← ev]
      exact see_L hkO hl4 hL1 hx hm (fun i a b => by rw [r2 _ (by omega), r1 _ (by omega), rA _ (by omega)]) (by rw [r2 kl (by omega), r1 kl (by omega), rA kl (by omega)]) (by rw [r2 _ (by omega), r1 _ (by omega)]) 115
    rw [l_eX0_comeAndDry_2_1_s]
    unfold ls_eX0_comeAndDry_2_1
    rw [if_pos (by omega)]
    simp only [mh_lbE, mh_lb2E, ix_n hx, bnd_c, w1, w2, w3]
    have hp3b := hW3.2
    have rr : ∀ b, b ≠ kl + 6 → b ≠ kl + 7 → (f_eX1_worth (f_eX1_worth (f_eX1_worth (f_eX1_see s1 k kl x) kl 99).2 kl 119).2 kl 115).2.1 b = s1.1 b := fun b hb hb2 => by rw [r3 b hb2, r2 b hb2, r1 b hb2, rA b hb]
    generalize (f_eX1_worth (f_eX1_worth (f_eX1_worth (f_eX1_see s1 k kl x) kl 99).2 kl 119).2 kl 115).2 = q at rr hp3b
    have c3 : q.1 (k + 3) m = v.1 2 m := by
      rw [rr _ (by omega) (by omega)]
      have := h1 2 m (vn_r hm (by decide)) (by decide)
      rw [if_neg (Nat.lt_irrefl m)] at this
      exact this
    have c4 : q.1 (k + 4) m = v.1 3 m := by
      rw [rr _ (by omega) (by omega)]
      have := h1 3 m (vn_r hm (by decide)) (by decide)
      rw [if_neg (Nat.lt_irrefl m)] at this
      exact this
    rw [pI_o (show k + 4 ≠ k + 3 by omega), c3, c4]
    refine ⟨_, ⟨?_, ?_, ?_, ?_, ?_, ?_⟩, rfl⟩
    · intro r c hc hr
      by_cases q3 : r = 3 ∧ c = m
      · obtain ⟨rfl, rfl⟩ := q3
        rw [show k + 1 + 3 = k + 4 from rfl, pI_w, if_pos (Nat.lt_succ_self c)]
        rw [cad_3 hm]
      · rw [show (mh_pI _ (k + 4) m _).1 (k + 1 + r) c = _ from if_neg (fun z => q3 ⟨by omega, z.2⟩)]
        by_cases q2 : r = 2 ∧ c = m
        · obtain ⟨rfl, rfl⟩ := q2
          rw [show k + 1 + 2 = k + 3 from rfl, pI_w, if_pos (Nat.lt_succ_self c)]
          rw [cad_2 hm]
        · rw [show (mh_pI _ (k + 3) m _).1 (k + 1 + r) c = _ from if_neg (fun z => q2 ⟨by omega, z.2⟩), rr _ (by omega) (by omega), h1 r c hc hr]
          by_cases g : c < m
          · rw [if_pos g, if_pos (by omega)]
          · rw [if_neg g]
            by_cases g2 : c = m
            · rw [if_pos (by omega)]
              rw [cad_o (fun z => q2 ⟨z, g2⟩) (fun z => q3 ⟨z, g2⟩)]
            · rw [if_neg (by omega)]
    · rw [pI_o (by omega), pI_o (by omega), rr _ (by omega) (by omega)]; exact h2
    · rw [pI_o (by omega), pI_o (by omega), rr _ (by omega) (by omega)]; exact h3
    · intro i a b
      rw [← h4 i a b, ← rr (kl + i) (by omega) (by omega)]
      funext j
      rw [pI_o (by omega), pI_o (by omega)]
    · rw [← h5, ← rr kl (by omega) (by omega)]
      funext j
      rw [pI_o (by omega), pI_o (by omega)]
    · exact hp3b
  · intro n s1 x hx ⟨h1, h2, h3, h4, h5, h6⟩
    rw [l_eX0_comeAndDry_2_1_s]
    unfold ls_eX0_comeAndDry_2_1
    have k144 : (144 : Int32).toInt = 144 := rfl
    rw [if_neg (by omega)]
    refine vc_ext (cad_z hvz) (fun r c hc hr => ?_) h2 h3
    rw [h1 r c hc hr]
    split
    · rfl
    · rename_i g
      have : r = 4 ∨ 144 ≤ c := Or.inr (by omega)
      by_cases q : r = 4
      · subst q; exact absurd hc (by unfold mh_vn; rw [if_pos rfl]; omega)
      · exact absurd hc (by unfold mh_vn; rw [if_neg q]; omega)
  · intro r c hc hr
    rw [if_neg (Nat.not_lt_zero c), ← hv, vc_at hc hr]
  · rw [← hv]; rfl
  · rw [← hv]; rfl
theorem cad_0 {L : mh_Lw} {v : mh_V} (hg : mh_rg v) (hz : ∀ r c, ¬ (c < mh_vn r ∧ r < 5) → v.1 r c = 0) (h0 : ∀ e, L 99 e = 0 ∧ L 119 e = 0 ∧ L 115 e = 0) : mh_cad L v = v := by
  refine Prod.ext ?_ rfl
  funext r c
  show (if r = 2 then (if c < 144 then _ else 0) else if r = 3 then (if c < 144 then _ else 0) else v.1 r c) = v.1 r c
  by_cases q : r = 2
  · subst q
    rw [if_pos rfl]
    by_cases hc : c < 144
    · rw [if_pos hc, (h0 _).1, Int32.add_zero, bnd_id (hg c hc).2.2.1]
    · rw [if_neg hc, hz 2 c (fun z => hc z.1)]
  · rw [if_neg q]
    by_cases q3 : r = 3
    · subst q3
      rw [if_pos rfl]
      by_cases hc : c < 144
      · rw [if_pos hc, (h0 _).2.1, (h0 _).2.2, Int32.sub_self, Int32.add_zero, bnd_id (hg c hc).2.2.2]
      · rw [if_neg hc, hz 3 c (fun z => hc z.1)]
    · rw [if_neg q3]
theorem stp_c {k kl : Nat} (hk : mh_isV k) (hl : mh_isL kl) {s : mh_H} (hp3 : mh_p3 s) {L : mh_Lw} (hL : mh_LC kl s L) (hg : mh_rg (mh_vc k s)) : mh_vc k (f_eX0_pass s k kl) = mh_stp L (mh_vc k s) := by
  have hkO := kO_V hk
  have key : ∀ s' : mh_H, mh_vc k (j_eX0_pass_13_1 s' k) = mh_inc (mh_rdn (mh_vc k s')) := by
    intro s'
    have h := rdn_c hkO (s := s')
    unfold j_eX0_pass_13_1
    simp only [mh_lbE]
    rw [← h]
    generalize f_eX0_runDown s' k = q
    refine vc_ext (fun r c h => vc_0 h) (fun r c hc hr => ?_) ?_ ?_
    · rw [pI_o (by omega)]; exact (vc_at hc hr).symm
    · rw [pI_w]; rfl
    · rw [pI_j (by decide)]; rfl
  have hz : ∀ r c, ¬ (c < mh_vn r ∧ r < 5) → (mh_vc k s).1 r c = 0 := fun r c h => vc_0 h
  unfold mh_stp
  unfold f_eX0_pass
  simp only [mh_lbE]
  by_cases h0 : (s.1 kl 9).toInt = 0
  · rw [if_pos h0, key, cad_0 hg hz (hL.2.1 h0)]
  · rw [if_neg h0, key, cad_c hk hl hp3 hL]

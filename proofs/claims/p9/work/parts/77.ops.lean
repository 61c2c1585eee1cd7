/-- what a law says lies between 0 and its letter's bound -/
def mh_LB (L : mh_Lw) : Prop := ∀ letter e, 0 ≤ (L letter e).toInt ∧ (L letter e).toInt ≤ (mh_mst letter).toInt
/-- the class's valley k is v, its law is L -/
def mh_cN (k kl : Nat) (L : mh_Lw) (v : mh_V) (s : mh_H) : Prop := mh_vc k s = v ∧ s.2.2 0 11 = kl ∧ mh_LC kl s L ∧ mh_p3 s
theorem vc_F {S : List (Nat × Nat)} {k : Nat} {s s' : mh_H} (hF : mh_F S s s') (hS : ∀ e ∈ S, e.1 < k ∨ k + 5 < e.1) : mh_vc k s' = mh_vc k s := by
  have at_ : ∀ b j, k ≤ b → b ≤ k + 5 → s'.1 b j = s.1 b j := fun b j h1 h2 => (hF b j (by rintro ⟨e, g1, g2, -⟩; have := hS e g1; omega)).1
  refine vc_ext (fun r c h => vc_0 h) (fun r c hc hr => ?_) (at_ k 5 (by omega) (by omega)) (at_ k 6 (by omega) (by omega))
  rw [at_ _ _ (by omega) (by omega), vc_at hc hr]
theorem LC_F {S : List (Nat × Nat)} {kl : Nat} {s s' : mh_H} {L : mh_Lw} (h : mh_LC kl s L) (hF : mh_F S s s') (hS : ∀ e ∈ S, e.1 < kl ∨ kl + 5 < e.1) : mh_LC kl s' L := by
  have row : ∀ b, kl ≤ b → b ≤ kl + 5 → s'.1 b = s.1 b := fun b h1 h2 => F_row1 hF (fun e he => by have := hS e he; omega)
  exact LC_mono h (fun i a b => row _ (by omega) (by omega)) (congrFun (row kl (by omega) (by omega)) 7) (congrFun (row kl (by omega) (by omega)) 9) (congrFun (row kl (by omega) (by omega)) 10)
theorem cN_F {S : List (Nat × Nat)} {k kl : Nat} {L : mh_Lw} {v : mh_V} {s s' : mh_H} (h : mh_cN k kl L v s) (hF : mh_F S s s') (hp : mh_p3 s') (h1 : ∀ e ∈ S, e.1 < k ∨ k + 5 < e.1) (h2 : ∀ e ∈ S, e.1 < kl ∨ kl + 5 < e.1) (h3 : ∀ e ∈ S, e.1 ≠ 0) : mh_cN k kl L v s' :=
  ⟨(vc_F hF h1).trans h.1, (hF 0 11 (by rintro ⟨e, g1, g2, -⟩; exact h3 e g1 g2)).2.2.trans h.2.1, LC_F h.2.2.1 hF h2, hp⟩
theorem cN_pass {k kl : Nat} (hk : mh_isV k) (hl : mh_isL kl) {L : mh_Lw} {v : mh_V} {s : mh_H} (h : mh_cN k kl L v s) (hg : mh_rg v) : mh_cN k kl L (mh_stp L v) (f_eX0_pass s k kl) := by
  obtain ⟨rfl, h2, h3, h4⟩ := h
  have hF := fr_eX0_pass s k hk kl hl h4
  have hk2 := kO_V hk
  have hl2 := L40 hl
  refine ⟨stp_c hk hl h4 h3 hg, ?_, ?_, hF.2⟩
  · refine (hF.1 0 11 ?_).2.2.trans h2
    rintro ⟨e, g1, g2, -⟩
    simp only [S_eX0_pass, List.mem_cons, List.not_mem_nil, or_false] at g1
    have := hk2.1
    rcases g1 with rfl | rfl | rfl | rfl | rfl | rfl | rfl | rfl <;> simp at g2 <;> omega
  · refine LC_F h3 hF.1 (fun e g1 => ?_)
    have := hk2.2
    simp only [S_eX0_pass, List.mem_cons, List.not_mem_nil, or_false] at g1
    rcases g1 with rfl | rfl | rfl | rfl | rfl | rfl | rfl | rfl <;> simp <;> omega
def mh_mi (L : mh_Lw) (v : mh_V) (c : Nat) : Int32 := L 109 (mh_env v c 0)
def mh_ya (L : mh_Lw) (v : mh_V) (c : Nat) : Int32 := L 121 (mh_env v c (mh_mi L v c))
theorem env_d (v : mh_V) (c : Nat) (x : Int32) : mh_u1 (mh_env v c 0) 9 x = mh_env v c x := by
  funext i
  unfold mh_u1
  by_cases h : i = 9
  · subst h; simp [mh_env]
  · rw [if_neg h]; unfold mh_env; simp only [h, if_false]
theorem cN_lw {k kl : Nat} (hk : mh_isV k) (hl : mh_isL kl) {L : mh_Lw} {v : mh_V} {s s' : mh_H} (h : mh_cN k kl L v s) (hF : mh_F [(kl + 6, 9999), (kl + 7, 9999)] s s') (hp : mh_p3 s') : mh_cN k kl L v s' := by
  have hk2 := kO_V hk
  have a1 := hk2.1; have a2 := hk2.2
  have hl2 := L40 hl
  refine cN_F h hF hp ?_ ?_ ?_ <;> intro e he <;> simp only [List.mem_cons, List.not_mem_nil, or_false] at he <;> rcases he with rfl | rfl <;> simp <;> omega
theorem mist_c {k kl : Nat} (hk : mh_isV k) (hl : mh_isL kl) {L : mh_Lw} {v : mh_V} {s : mh_H} (h : mh_cN k kl L v s) {p : Int32} {c : Nat} (hp : p.toInt = (c : Int)) (hc : c < 144) : (f_eX1_mist s k kl p).1 = mh_mi L v c ∧ mh_cN k kl L v (f_eX1_mist s k kl p).2 := by
  have hA := fr_eX1_see s k hk kl hl p h.2.2.2
  have hW := fr_eX1_worth (f_eX1_see s k kl p) kl hl 109 hA.2
  have e : f_eX1_mist s k kl p = f_eX1_worth (f_eX1_see s k kl p) kl 109 := by
    unfold f_eX1_mist
    simp only [mh_lbE, mh_lb2E]
  rw [e]
  refine ⟨?_, ?_⟩
  · unfold mh_mi
    rw [← h.1]
    exact see_L (kO_V hk) (L40 hl) h.2.2.1 hp hc (fun i a b => see_row hk hl h.2.2.2 p (by omega)) (by rw [see_row hk hl h.2.2.2 p (by omega)]) rfl 109
  · refine cN_lw hk hl h (mh_F_tl (mh_F_tl mh_F_rf hA.1 ?_) hW.1 ?_) hW.2
    · simp [S_eX1_see, mh_lsub]
    · simp [S_eX1_worth, mh_lsub]
theorem mist_row {k kl : Nat} (hk : mh_isV k) (hl : mh_isL kl) {s : mh_H} (hp : mh_p3 s) (p : Int32) {b : Nat} (hb : b ≠ kl + 6) (hb2 : b ≠ kl + 7) : (f_eX1_mist s k kl p).2.1 b = s.1 b := by
  have hA := fr_eX1_see s k hk kl hl p hp
  have e : f_eX1_mist s k kl p = f_eX1_worth (f_eX1_see s k kl p) kl 109 := by
    unfold f_eX1_mist
    simp only [mh_lbE, mh_lb2E]
  rw [e, wor_row hl hA.2 109 hb2, see_row hk hl hp p hb]
theorem yards_c {k kl : Nat} (hk : mh_isV k) (hl : mh_isL kl) {L : mh_Lw} {v : mh_V} {s : mh_H} (h : mh_cN k kl L v s) {p : Int32} {c : Nat} (hp : p.toInt = (c : Int)) (hc : c < 144) : (f_eX1_yards s k kl p).1 = mh_ya L v c ∧ mh_cN k kl L v (f_eX1_yards s k kl p).2 := by
  have hA := fr_eX1_see s k hk kl hl p h.2.2.2
  have hm := mist_c hk hl h hp hc
  have e : f_eX1_mist s k kl p = f_eX1_worth (f_eX1_see s k kl p) kl 109 := by
    unfold f_eX1_mist
    simp only [mh_lbE, mh_lb2E]
  have h6 : (f_eX1_mist s k kl p).2.1 (kl + 6) = (f_eX1_see s k kl p).1 (kl + 6) := by rw [e]; exact wor_row hl hA.2 109 (by omega)
  have rr : ∀ b, b ≠ kl + 6 → b ≠ kl + 7 → (f_eX1_mist s k kl p).2.1 b = s.1 b := fun b h1 h2 => mist_row hk hl h.2.2.2 p h1 h2
  unfold f_eX1_yards
  simp only [mh_lbE, mh_lb2E]
  obtain ⟨hm1, hm2⟩ := hm
  rw [hm1]
  generalize (f_eX1_mist s k kl p).2 = q at hm2 h6 rr
  have t9 : (9 : Int32).toNatClampNeg = 9 := rfl
  rw [t9]
  have hp3 : mh_p3 (mh_pI q (kl + 6) 9 (mh_mi L v c)) := hm2.2.2.2
  have hW := fr_eX1_worth (mh_pI q (kl + 6) 9 (mh_mi L v c)) kl hl 121 hp3
  refine ⟨?_, ?_⟩
  · rw [h.2.2.1.1 (mh_pI q (kl + 6) 9 (mh_mi L v c)) (fun i a b => by funext j; rw [pI_o (by omega), rr _ (by omega) (by omega)]) (by rw [pI_o (by omega), rr _ (by omega) (by omega)]) 121]
    unfold mh_ya
    have row : ∀ i, i < 13 → (mh_pI q (kl + 6) 9 (mh_mi L v c)).1 (kl + 6) i = mh_u1 (fun i => if i = 8 ∧ (s.1 kl 10).toInt = 0 then 0 else mh_env v c 0 i) 9 (mh_mi L v c) i := by
      intro i hi
      rw [pI_v, h6]
      unfold mh_u1
      simp only [true_and]
      by_cases q9 : i = 9
      · rw [if_pos q9, if_pos q9]
      · rw [if_neg q9, if_neg q9, see_v (kO_V hk) (L40 hl) hp hc i hi, h.1]
    by_cases qa : (s.1 kl 10).toInt = 0
    · have ee : mh_e13 ((mh_pI q (kl + 6) 9 (mh_mi L v c)).1 (kl + 6)) = mh_u1 (mh_env v c (mh_mi L v c)) 8 0 := by
        rw [← env_d]
        funext i
        unfold mh_e13
        by_cases hi : i < 13
        · rw [if_pos hi, row i hi]
          unfold mh_u1
          simp only [qa, and_true]
          by_cases q9 : i = 9
          · rw [if_pos q9, if_neg (by omega), if_pos q9]
          · rw [if_neg q9, if_neg q9]
        · rw [if_neg hi]
          unfold mh_u1
          rw [if_neg (by omega), if_neg (by omega), ← env_13]
          unfold mh_e13
          rw [if_neg hi]
      rw [ee, h.2.2.1.2.2 qa]
    · have ee : mh_e13 ((mh_pI q (kl + 6) 9 (mh_mi L v c)).1 (kl + 6)) = mh_env v c (mh_mi L v c) := by
        rw [← env_13, ← env_d]
        funext i
        unfold mh_e13
        by_cases hi : i < 13
        · rw [if_pos hi, if_pos hi, row i hi]
          unfold mh_u1
          by_cases q9 : i = 9
          · rw [if_pos q9, if_pos q9]
          · rw [if_neg q9, if_neg q9]
            dsimp only
            rw [if_neg (fun z => qa z.2)]
        · rw [if_neg hi, if_neg hi]
      rw [ee]
  · refine cN_lw hk hl hm2 (mh_F_tl (mh_F_pI (x := mh_mi L v c) (j := 9) (k := kl + 6) mh_F_rf ⟨(kl + 6, 9999), by simp, rfl, Or.inl rfl⟩) hW.1 ?_) hW.2
    simp [S_eX1_worth, mh_lsub]
def mh_to (L : mh_Lw) (v : mh_V) (c : Nat) : Int32 := if 0 < (mh_mi L v c).toInt then v.1 0 c + mh_mi L v c else 0
theorem top_c {k kl : Nat} (hk : mh_isV k) (hl : mh_isL kl) {L : mh_Lw} {v : mh_V} {s : mh_H} (h : mh_cN k kl L v s) {p : Int32} {c : Nat} (hp : p.toInt = (c : Int)) (hc : c < 144) : (f_eX1_top s k kl p).1 = mh_to L v c ∧ mh_cN k kl L v (f_eX1_top s k kl p).2 := by
  obtain ⟨h1, h2⟩ := mist_c hk hl h hp hc
  unfold f_eX1_top mh_to
  simp only [mh_lbE, mh_lb2E, ix_n hp]
  rw [h1]
  split
  · refine ⟨?_, h2⟩
    show (f_eX1_mist s k kl p).2.1 (k + 1) c + mh_mi L v c = _
    rw [show (f_eX1_mist s k kl p).2.1 (k + 1) c = v.1 0 c by rw [← h2.1]; exact (vc_at (r := 0) (vn_r hc (by decide)) (by decide)).symm]
  · exact ⟨rfl, h2⟩
/-- the reference's valley is v, its law is L -/
def mh_rN (L : mh_Lw) (v : mh_V) (s : mh_H) : Prop := mh_vr s = v ∧ mh_LR s L ∧ mh_p3 s ∧ 0 ≤ v.2.1.toInt
theorem rN_by {L : mh_Lw} {v : mh_V} {s : mh_H} (h : mh_rN L v s) (a b c d : Int32) : mh_rN L v (f_eX10_byCell s a b c d).2 :=
  ⟨(by_vr h.2.2.1 a b c d).trans h.1, LR_mono h.2.1 (fun i h1 h2 => by_row h.2.2.1 a b c d (by omega)) (by_57 h.2.2.1 a b c d (by decide)), (fr_eX10_byCell s a b c d h.2.2.1).2, h.2.2.2⟩
theorem mist_r {L : mh_Lw} {v : mh_V} {s : mh_H} (h : mh_rN L v s) {p : Int32} {c : Nat} (hp : p.toInt = (c : Int)) (hc : c < 144) : (f_eX10_mistAt s p).1 = mh_mi L v c ∧ mh_rN L v (f_eX10_mistAt s p).2 := by
  have e : f_eX10_mistAt s p = f_eX10_byCell s 109 p 0 99 := by
    unfold f_eX10_mistAt
    simp only [mh_lb2E]
  rw [e]
  refine ⟨?_, rN_by h _ _ _ _⟩
  have h0 : 0 ≤ (s.1 57 2).toInt := by have := h.2.2.2; rw [← h.1] at this; exact this
  have := by_L h.2.1 hp hc h0 109 0
  rw [h.1] at this
  exact this
theorem yards_r {L : mh_Lw} {v : mh_V} {s : mh_H} (h : mh_rN L v s) {p : Int32} {c : Nat} (hp : p.toInt = (c : Int)) (hc : c < 144) : (f_eX10_yardsAt s p).1 = mh_ya L v c ∧ mh_rN L v (f_eX10_yardsAt s p).2 := by
  obtain ⟨h1, h2⟩ := mist_r h hp hc
  have e : f_eX10_yardsAt s p = f_eX10_byCell (f_eX10_mistAt s p).2 121 p (f_eX10_mistAt s p).1 999 := by
    unfold f_eX10_yardsAt
    simp only [mh_lb2E]
  rw [e, h1]
  refine ⟨?_, rN_by h2 _ _ _ _⟩
  have h0 : 0 ≤ ((f_eX10_mistAt s p).2.1 57 2).toInt := by have := h2.2.2.2; rw [← h2.1] at this; exact this
  have := by_L h2.2.1 hp hc h0 121 (mh_mi L v c)
  rw [h2.1] at this
  exact this
theorem rN_step {L : mh_Lw} {v : mh_V} {s : mh_H} (h : mh_rN L v s) (hg : mh_rg v) (hb : v.2.1.toInt ≤ 2000000000) : mh_rN L (mh_stp L v) (f_eX10_stepOne s) := by
  have h0 : 0 ≤ (s.1 57 2).toInt := by have := h.2.2.2; rw [← h.1] at this; exact this
  have hF := fr_eX10_stepOne s h.2.2.1
  refine ⟨?_, ?_, hF.2, ?_⟩
  · have := stp_r h.2.2.1 h.2.1 h0 (by rw [h.1]; exact hg)
    rw [h.1] at this
    exact this
  · refine LR_mono h.2.1 (fun i h1 h2 => F_row1 hF.1 (fun e he => ?_)) (F_at1 hF.1 (fun e he => ?_))
    · simp only [S_eX10_stepOne, List.mem_cons, List.not_mem_nil, or_false] at he
      rcases he with rfl | rfl | rfl | rfl | rfl | rfl | rfl | rfl | rfl | rfl | rfl | rfl | rfl | rfl | rfl <;> simp <;> omega
    · simp only [S_eX10_stepOne, List.mem_cons, List.not_mem_nil, or_false] at he
      rcases he with rfl | rfl | rfl | rfl | rfl | rfl | rfl | rfl | rfl | rfl | rfl | rfl | rfl | rfl | rfl <;> simp
  · have e : (mh_stp L v).2.1 = v.2.1 + 1 := rfl
    rw [e, nn_inc h.2.2.2 hb (by decide)]
    have := h.2.2.2
    omega
theorem stp_n {L : mh_Lw} {v : mh_V} : (mh_stp L v).2.1 = v.2.1 + 1 := rfl

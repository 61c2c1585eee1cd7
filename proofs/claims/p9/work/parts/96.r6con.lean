theorem q_ptl {N : Nat} {T : Nat → Int32} (hN : N ≤ 200) (ht : mh_tx (rd_sg T N) N) {d : Nat} {pie : Nat → mh_Qn} (hf : mh_PW N T d pie) (mo : mh_mo N pie) (mb : mh_mb pie) {st : List Int32} {k : Nat} {s0 : mh_H} (hb : (mh_tp1 st).toInt = 40 ∨ (mh_tp1 st).toInt = 124) : ∀ (n : Nat) (D : mh_Dn) (p : Nat) (P : List Int32) (m : Nat) (s : mh_H) (k1 : Nat), N < n + p → mh_rP N T p (P ++ st) k1 d s → N < m + p → mh_rk k s0 s → s.1 57 30 = 0 → mh_pnd (s.1 74) (s.1 75) D k k1 P → mh_b01 D → k ≤ k1 → k1 + P.length + st.length ≤ p → (∀ x ∈ P, mh_jo 0 x) → cd_R N T d st k s0 (cd_Cp T N) (rd_ptl (rd_sg T N) pie n D p) (cd_B m s) := by
  have k0 := kc_0
  have o1 : (1 : Int32).toInt = 1 := rfl
  have nb : ¬ mh_jo 0 (mh_tp1 st) := by unfold mh_jo; omega
  intro n
  induction n with
  | zero => intro D p P m s k1 hn h; exfalso; have := h.2.2.2.2.2.2.2.2; omega
  | succ n ih =>
    intro D p P m s k1 hn h hm hk h30 hD h01 hkk hl hP
    have hpN := h.2.2.2.2.2.2.2.2
    rw [rd_ptl_s]
    by_cases g : (rd_sg T N p).toInt = 38
    · rw [if_pos g]
      have hlt := tx_lt ht (show 0 ≤ (rd_sg T N p).toInt by omega)
      obtain ⟨s1, e1, a1, a2, a3, a4⟩ := gb_and hN ht g nb hP hl h hD m
      have h31 := a3.1.trans h30
      rw [e1, cd_go a1 h31 (by omega)]
      have r1 := hf d (p + 1) [] (rd_sg T N p :: st) (k1 + P.length) s1 202 (m - 1) rfl (fun y hy => absurd hy (by simp)) (Or.inr (Or.inl g)) a1 h31 (by omega) (by omega) (by show k1 + P.length + 0 + (st.length + 1) ≤ p + 1; omega)
      generalize cd_P 202 (m - 1) s1 = z at r1 ⊢
      cases e : pie (p + 1) with
      | inl f => rw [e] at r1; exact r1
      | inr x =>
        rw [e] at r1
        have hx := mo _ _ _ e
        have hbx := mb _ _ _ e
        obtain ⟨m2, s2, k2, b1, b2, b3, b4, b5, b6, b7, b8⟩ := r1
        rw [List.length_cons] at b8
        rw [b1]
        show cd_R N T d st k s0 (cd_Cp T N) (rd_ptl (rd_sg T N) pie n (rd_an D x.1) x.2) (cd_B m2 s2)
        refine ih (rd_an D x.1) x.2 [rd_sg T N p] m2 s2 k2 (by omega) b2 b3 (rk_tr (rk_tr hk a2 hkk) b4 (by omega)) b5 ?_ (an_b h01 hbx) (by omega) (by show k2 + 1 + st.length ≤ x.2; omega) ?_
        · exact pd_an (P := []) (sP_cg a4 (fun i _ hi => b4.1 i hi)) h01 b7 (pd_0 b6) (Int32.toInt_inj.mp g)
        · intro y hy
          rw [List.mem_singleton.mp hy]
          exact Or.inl g
    · rw [if_neg g]
      exact ⟨P, m, s, k1, rfl, h, hm, hk, h30, hD, hkk, hl, hP, fun z => by have z : mh_jo 0 (rd_sg T N p) := z; unfold mh_jo at z; omega⟩
theorem q_prt {N : Nat} {T : Nat → Int32} (hN : N ≤ 200) (ht : mh_tx (rd_sg T N) N) {d : Nat} {pie : Nat → mh_Qn} (hf : mh_PW N T d pie) (mo : mh_mo N pie) (mb : mh_mb pie) : mh_AW N T d (rd_prt (rd_sg T N) pie) := by
  have k0 := kc_0
  have o1 : (1 : Int32).toInt = 1 := rfl
  intro p st k s j m hb h h30 hj hm hl
  have r1 := hf d p [] st k s j m rfl (fun y hy => absurd hy (by simp)) (by omega) h h30 hj hm (by show k + 0 + st.length ≤ p; omega)
  unfold rd_prt
  generalize cd_P j m s = z at r1 ⊢
  cases e : pie p with
  | inl f => rw [e] at r1; exact r1
  | inr x =>
    rw [e] at r1
    have hx := mo _ _ _ e
    have hbx := mb _ _ _ e
    obtain ⟨m2, s2, k2, b1, b2, b3, b4, b5, b6, b7, b8⟩ := r1
    rw [b1]
    show cd_R N T d st k s (cd_Cp T N) (rd_ptl (rd_sg T N) pie 222 x.1 x.2) (cd_B m2 s2)
    exact q_ptl hN ht hf mo mb hb 222 x.1 x.2 [] m2 s2 k2 (by omega) b2 b3 b4 b5 (pd_0 b6) hbx b7 (by show k2 + 0 + st.length ≤ x.2; omega) (fun y hy => absurd hy (by simp))
theorem q_chl {N : Nat} {T : Nat → Int32} (hN : N ≤ 200) (ht : mh_tx (rd_sg T N) N) {d : Nat} {pie : Nat → mh_Qn} (hf : mh_AW N T d pie) (mo : mh_mo N pie) (mb : mh_mb pie) {st : List Int32} {k : Nat} {s0 : mh_H} (hb : (mh_tp1 st).toInt = 40) : ∀ (n : Nat) (D : mh_Dn) (p : Nat) (P : List Int32) (m : Nat) (s : mh_H) (k1 : Nat), N < n + p → mh_rP N T p (P ++ st) k1 d s → N < m + p → mh_rk k s0 s → s.1 57 30 = 0 → mh_pnd (s.1 74) (s.1 75) D k k1 P → mh_b01 D → k ≤ k1 → k1 + P.length + st.length ≤ p → (∀ x ∈ P, mh_jo 1 x) → ¬ mh_jo 0 (rd_sg T N p) → cd_R N T d st k s0 (cd_Cc T N) (rd_chl (rd_sg T N) pie n D p) (cd_B m s) := by
  have k0 := kc_0
  have o1 : (1 : Int32).toInt = 1 := rfl
  have nb : ¬ mh_jo 1 (mh_tp1 st) := by unfold mh_jo; omega
  intro n
  induction n with
  | zero => intro D p P m s k1 hn h; exfalso; have := h.2.2.2.2.2.2.2.2; omega
  | succ n ih =>
    intro D p P m s k1 hn h hm hk h30 hD h01 hkk hl hP hnt
    have hpN := h.2.2.2.2.2.2.2.2
    rw [rd_chl_s]
    by_cases g : (rd_sg T N p).toInt = 124
    · rw [if_pos g]
      have hlt := tx_lt ht (show 0 ≤ (rd_sg T N p).toInt by omega)
      obtain ⟨s1, e1, a1, a2, a3, a4⟩ := gb_or hN ht g nb hP hl h hD m
      have h31 := a3.1.trans h30
      rw [e1, cd_go a1 h31 (by omega)]
      have r1 := hf (p + 1) (rd_sg T N p :: st) (k1 + P.length) s1 202 (m - 1) (Or.inr g) a1 h31 (by omega) (by omega) (by rw [List.length_cons]; omega)
      generalize cd_P 202 (m - 1) s1 = z at r1 ⊢
      cases e : pie (p + 1) with
      | inl f => rw [e] at r1; exact r1
      | inr x =>
        rw [e] at r1
        have hx := mo _ _ _ e
        have hbx := mb _ _ _ e
        obtain ⟨P', m2, s2, k2, b1, b2, b3, b4, b5, b6, b7, b8, b9, b10⟩ := r1
        rw [List.length_cons] at b8
        have hlen : (P' ++ [rd_sg T N p]).length = P'.length + 1 := List.length_append
        rw [b1]
        show cd_R N T d st k s0 (cd_Cc T N) (rd_chl (rd_sg T N) pie n (rd_or D x.1) x.2) (cd_B m2 s2)
        refine ih (rd_or D x.1) x.2 (P' ++ [rd_sg T N p]) m2 s2 k2 (by omega) ?_ b3 (rk_tr (rk_tr hk a2 hkk) b4 (by omega)) b5 ?_ (or_b h01 hbx) (by omega) (by rw [hlen]; omega) ?_ b10
        · rw [List.append_assoc]; exact b2
        · exact pd_or (sP_cg a4 (fun i _ hi => b4.1 i hi)) h01 b7 b6 (Int32.toInt_inj.mp g)
        · intro y hy
          rcases List.mem_append.mp hy with q | q
          · have := b9 y q
            unfold mh_jo at this ⊢
            omega
          · rw [List.mem_singleton.mp q]
            exact Or.inr ⟨by decide, g⟩
    · rw [if_neg g]
      exact ⟨P, m, s, k1, rfl, h, hm, hk, h30, hD, hkk, hl, hP, fun z => by have z : mh_jo 1 (rd_sg T N p) := z; unfold mh_jo at z hnt; omega⟩
theorem q_chc {N : Nat} {T : Nat → Int32} (hN : N ≤ 200) (ht : mh_tx (rd_sg T N) N) {d : Nat} {pie : Nat → mh_Qn} (hf : mh_AW N T d pie) (mo : mh_mo N pie) (mb : mh_mb pie) : mh_CW N T d (rd_chc (rd_sg T N) pie) := by
  have k0 := kc_0
  have o1 : (1 : Int32).toInt = 1 := rfl
  intro p st k s j m hb h h30 hj hm hl
  have r1 := hf p st k s j m (Or.inl hb) h h30 hj hm hl
  unfold rd_chc
  generalize cd_P j m s = z at r1 ⊢
  cases e : pie p with
  | inl f => rw [e] at r1; exact r1
  | inr x =>
    rw [e] at r1
    have hx := mo _ _ _ e
    have hbx := mb _ _ _ e
    obtain ⟨P', m2, s2, k2, b1, b2, b3, b4, b5, b6, b7, b8, b9, b10⟩ := r1
    rw [b1]
    show cd_R N T d st k s (cd_Cc T N) (rd_chl (rd_sg T N) pie 222 x.1 x.2) (cd_B m2 s2)
    exact q_chl hN ht hf mo mb hb 222 x.1 x.2 P' m2 s2 k2 (by omega) b2 b3 b4 b5 b6 hbx b7 b8 (fun y hy => by have := b9 y hy; unfold mh_jo at this ⊢; omega) b10
theorem q_CP {N : Nat} {T : Nat → Int32} (hN : N ≤ 200) (ht : mh_tx (rd_sg T N) N) : ∀ n d : Nat, n + d = 6 → mh_CW N T d (rd_CP (rd_sg T N) (n + 1)).1 ∧ mh_PW N T d (rd_CP (rd_sg T N) (n + 1)).2 := by
  intro n
  induction n with
  | zero =>
    intro d hd
    rw [rd_CP_s]
    have m0 := CP_mo ht 0
    have mb0 := CP_mb (g := rd_sg T N) 0
    have mo := pie_mo ht (n := 0) (S_mo ht 1) m0.1 m0.2
    have mb := pie_mb (g := rd_sg T N) (n := 0) (sum := rd_S (rd_sg T N) 1) (rpi := (rd_CP (rd_sg T N) 0).2) mb0.1
    have hp := q_pie hN ht hd (rpi := (rd_CP (rd_sg T N) 0).2) (fun q => absurd rfl q) (fun q => absurd rfl q) mb0.1
    exact ⟨q_chc hN ht (q_prt hN ht hp mo mb) (prt_mo mo) (prt_mb mb), hp⟩
  | succ n ih =>
    intro d hd
    rw [rd_CP_s]
    have m0 := CP_mo ht (n + 1)
    have mb0 := CP_mb (g := rd_sg T N) (n + 1)
    have mo := pie_mo ht (n := n + 1) (S_mo ht (n + 1 + 1)) m0.1 m0.2
    have mb := pie_mb (g := rd_sg T N) (n := n + 1) (sum := rd_S (rd_sg T N) (n + 1 + 1)) (rpi := (rd_CP (rd_sg T N) (n + 1)).2) mb0.1
    have i1 := ih (d + 1) (by omega)
    have hp := q_pie hN ht hd (rch := (rd_CP (rd_sg T N) (n + 1)).1) (rpi := (rd_CP (rd_sg T N) (n + 1)).2) (fun _ => i1.1) (fun _ => i1.2) mb0.1
    exact ⟨q_chc hN ht (q_prt hN ht hp mo mb) (prt_mo mo) (prt_mb mb), hp⟩
/-- the condition of a clause -/
def cd_V (N : Nat) (T : Nat → Int32) (k : Nat) (s : mh_H) (r : mh_Qn) (z : mh_H) : Prop := match r with
  | .inl f => mh_bfl f.1 f.2 z ∧ 0 < f.1
  | .inr x => if (rd_sg T N x.2).toInt = 41 then ∃ k' : Nat, mh_rP N T (x.2 + 1) [] k' 0 z ∧ mh_rk k s z ∧ sg_P (z.1 74) (z.1 75) x.1 k k' ∧ k ≤ k' ∧ k' ≤ x.2 + 1 else mh_bfl 1 x.2 z
theorem q_con {N : Nat} {T : Nat → Int32} (hN : N ≤ 200) (ht : mh_tx (rd_sg T N) N) {p k : Nat} {s : mh_H} (h : mh_rP N T p [] k 0 s) (hl : k ≤ p) : if (rd_sg T N p).toInt = 40 then cd_V N T k s ((rd_CP (rd_sg T N) 6).1 (p + 1)) (f_eX10_condition s) else mh_bfl 1 p (f_eX10_condition s) := by
  have k40 : (40 : Int32).toInt = 40 := rfl
  have o1 : (1 : Int32).toInt = 1 := rfl
  have hpN := h.2.2.2.2.2.2.2.2
  have c40 := hr_eq (T := T) (N := N) (p := p) (c := 40) (by decide)
  unfold f_eX10_condition
  simp only [mh_lbE, mh_lb2E]
  have h1 := rP_j (j := 30) (x := 0) h (by decide)
  rw [r_here h1]
  obtain ⟨w, hw⟩ : ∃ w : Nat, w = 404 := ⟨_, rfl⟩
  rw [show (404 : Nat) = w by omega]
  by_cases g : (rd_sg T N p).toInt = 40
  · rw [if_pos g, if_pos (show (rd_hr T N p).toInt = (40 : Int32).toInt by omega)]
    have hlt := tx_lt ht (show 0 ≤ (rd_sg T N p).toInt by omega)
    have op := r_open h1 (by decide) hlt hN (by decide)
    rw [if_neg (by decide)] at op
    obtain ⟨s1, e1, a1, a2, a3, a4, a5⟩ := op
    rw [e1]
    have h30 : s1.1 57 30 = 0 := a3.1.trans pI_w
    rw [cd_go a1 h30 (by omega)]
    have r1 := (q_CP hN ht 5 1 rfl).1 (p + 1) [rd_sg T N p] k s1 202 (w - 1) g a1 h30 (by omega) (by omega) (by show k + 1 ≤ p + 1; omega)
    generalize cd_P 202 (w - 1) s1 = z at r1 ⊢
    cases e : (rd_CP (rd_sg T N) 6).1 (p + 1) with
    | inl f => rw [e] at r1; exact r1
    | inr x =>
      rw [e] at r1
      obtain ⟨P, m', s', k', b1, b2, b3, b4, b5, b6, b7, b8, b9, b10⟩ := r1
      have b8 : k' + P.length + (0 + 1) ≤ x.2 := b8
      have hxN := b2.2.2.2.2.2.2.2.2
      have ge := gb_els (st := []) hN ht b10 (show ¬ mh_jo 1 (rd_sg T N p) by unfold mh_jo; omega) b9 b8 (by decide) b2 b6
      obtain ⟨m', rfl⟩ : ∃ i, m' = i + 1 := ⟨m' - 1, by omega⟩
      have ez : cd_B (m' + 1) s' = l_eX10_condition_37_1 (m' + 1) (f_eX10_goesBehind s').2 (f_eX10_goesBehind s').1 := rfl
      show if (rd_sg T N x.2).toInt = 41 then _ else _
      by_cases g4 : (rd_sg T N x.2).toInt = 41
      · rw [if_pos g4] at ge ⊢
        obtain ⟨s2, d1, d2, d3, d4, d5⟩ := ge
        rw [if_pos (show ([] : List Int32).length = 0 from rfl)] at d5
        rw [d5] at ez
        have d6 := rP_j (j := 30) (x := 1) d1 (by decide)
        have ez2 : z = mh_pI s2 57 30 1 := b1.trans (ez.trans (cd_e (rP_good d6) (by rw [pI_w]; decide) m' 0))
        rw [ez2]
        refine ⟨k' + P.length, d6, ?_, ?_, by omega, by omega⟩
        · exact rk_tr (rk_tr (rk_tr (rk_tr (rk_57 (by decide)) (a2 k) (Nat.le_refl _)) b4 (Nat.le_refl _)) d2 b7) (rk_57 (by decide)) (Nat.le_refl k)
        · rw [pI_row (by decide), pI_row (by decide)]; exact d4
      · rw [if_neg g4] at ge ⊢
        obtain ⟨s2, d1, d2⟩ := ge
        rw [d1] at ez
        have ez2 : z = s2 := b1.trans (ez.trans (cd_b (bf_bad d2 (by decide)) (m' + 1) 0))
        rw [ez2]; exact d2
  · rw [if_neg g, if_neg (show ¬ (rd_hr T N p).toInt = (40 : Int32).toInt by omega)]
    exact r_wr (f := 1) (q := p) h1 rfl (by decide) h.1 (by omega)

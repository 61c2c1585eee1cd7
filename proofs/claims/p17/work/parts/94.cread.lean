/-- the class's reader: its state at place p, code of size c in the law kl -/
def mh_c0 (kl N : Nat) (T : Nat → Int32) (p : Nat) (s : mh_H) : Prop := (s.1 56 2).toInt = (N : Int) ∧ (s.1 56 3).toInt = (p : Int) ∧ s.2.2 56 1 = kl ∧ s.1 38 = T ∧ p ≤ N
def mh_cS (kl N : Nat) (T : Nat → Int32) (p c : Nat) (s : mh_H) : Prop := mh_c0 kl N T p s ∧ (s.1 kl 8).toInt = (c : Int)
def mh_kk (kl c : Nat) (s s' : mh_H) : Prop := (∀ i, i < c → s'.1 (kl + 1) i = s.1 (kl + 1) i) ∧ (∀ i, 2 ≤ i → i ≤ 5 → s'.1 (kl + i) = s.1 (kl + i)) ∧ s'.1 kl 7 = s.1 kl 7 ∧ s'.1 kl 9 = s.1 kl 9 ∧ ((s'.1 kl 10).toInt = 0 → (s.1 kl 10).toInt = 0)
def mh_cM (kl N : Nat) (T : Nat → Int32) (w c p : Nat) (s : mh_H) (r : mh_Qn) (z : Int32 × mh_H) : Prop := match r with
  | .inl f => z.1.toInt = 0 ∧ (z.2.1 56 4).toInt = -1000 * (f.1 : Int) - (f.2 : Int)
  | .inr x => z.1.toInt ≠ 0 ∧ p < x.2 ∧ ∃ c' : Nat, mh_cS kl N T x.2 c' z.2 ∧ mh_kk kl c s z.2 ∧ sg_C kl (z.2.1 (kl + 1)) x.1 w c c' ∧ c' ≤ c + 2 * (x.2 - p) ∧ ((z.2.1 kl 10).toInt = 0 → mh_n8 x.1)
theorem kk_rf {kl c : Nat} {s : mh_H} : mh_kk kl c s s := ⟨fun _ _ => rfl, fun _ _ _ => rfl, rfl, rfl, fun h => h⟩
theorem kk_tr {kl c c' : Nat} {s s1 s2 : mh_H} (h : mh_kk kl c s s1) (h2 : mh_kk kl c' s1 s2) (hc : c ≤ c') : mh_kk kl c s s2 :=
  ⟨fun i hi => (h2.1 i (by omega)).trans (h.1 i hi), fun i a b => (h2.2.1 i a b).trans (h.2.1 i a b), h2.2.2.1.trans h.2.2.1, h2.2.2.2.1.trans h.2.2.2.1, fun q => h.2.2.2.2 (h2.2.2.2.2 q)⟩
theorem kk_56 {kl c j : Nat} (hl : mh_isL kl) {s : mh_H} {x : Int32} : mh_kk kl c s (mh_pI s 56 j x) := by
  have h : kl + 5 < 56 := by rcases hl with rfl | rfl <;> decide
  exact ⟨fun i _ => pI_o (by omega), fun i _ _ => pI_row (by omega), pI_o (by omega), pI_o (by omega), fun q => by rw [pI_o (by omega)] at q; exact q⟩
theorem c0_pI {kl N : Nat} {T : Nat → Int32} {p a j : Nat} {s : mh_H} {x : Int32} (h : mh_c0 kl N T p s) (ha : a ≠ 56) (hb : a ≠ 38) : mh_c0 kl N T p (mh_pI s a j x) :=
  ⟨by rw [pI_o (fun q => ha q.symm)]; exact h.1, by rw [pI_o (fun q => ha q.symm)]; exact h.2.1, h.2.2.1, (pI_row (fun q => hb q.symm)).trans h.2.2.2.1, h.2.2.2.2⟩
theorem c0_adv {kl N : Nat} {T : Nat → Int32} {p : Nat} {s : mh_H} {x : Int32} (h : mh_c0 kl N T p s) (hp : p < N) (hx : x.toInt = ((p + 1 : Nat) : Int)) : mh_c0 kl N T (p + 1) (mh_pI s 56 3 x) :=
  ⟨by rw [pI_j (by decide)]; exact h.1, by rw [pI_w]; exact hx, h.2.2.1, (pI_row (by decide)).trans h.2.2.2.1, by omega⟩
theorem cS_adv {kl N : Nat} {T : Nat → Int32} {p c : Nat} {s : mh_H} {x : Int32} (hl : mh_isL kl) (h : mh_cS kl N T p c s) (hp : p < N) (hx : x.toInt = ((p + 1 : Nat) : Int)) : mh_cS kl N T (p + 1) c (mh_pI s 56 3 x) :=
  ⟨c0_adv h.1 hp hx, by rw [pI_o (by rcases hl with rfl | rfl <;> decide)]; exact h.2⟩
theorem c_sg {kl N : Nat} {T : Nat → Int32} {p : Nat} {s : mh_H} (h : mh_c0 kl N T p s) : f_eX4_sign s = rd_sg T N p := by
  have h1 := h.1
  have h2 := h.2.1
  unfold f_eX4_sign rd_sg
  simp only [mh_lbE]
  by_cases g : p < N
  · rw [if_pos (by omega), if_pos g, ix_n h2, h.2.2.2.1]
  · rw [if_neg (by omega), if_neg g]
theorem c_nx {kl N : Nat} {T : Nat → Int32} {p : Nat} {s : mh_H} (h : mh_c0 kl N T p s) (hN : N ≤ 200) : (s.1 56 3 + 1).toInt = ((p + 1 : Nat) : Int) := by
  have k1 : (1 : Int32).toInt = ((1 : Nat) : Int) := rfl
  have h5 := h.2.2.2.2
  exact ix_add h.2.1 (by omega) k1 (by decide)
theorem c_fail {kl N : Nat} {T : Nat → Int32} {p : Nat} {s : mh_H} (h : mh_c0 kl N T p s) (hN : N ≤ 200) {k : Int32} {f : Nat} (hk : k.toInt = (f : Int)) (hf : f ≤ 9) : (f_eX4_fail s k).1.toInt = 0 ∧ ((f_eX4_fail s k).2.1 56 4).toInt = -1000 * (f : Int) - (p : Int) := by
  have h5 := h.2.2.2.2
  have km : (-1000 : Int32).toInt = -1000 := rfl
  have e1 : ((-1000 : Int32) * k).toInt = -1000 * (f : Int) := by
    rw [Int32.toInt_mul, km, hk, Int.bmod_eq_of_le (by omega) (by omega)]
  unfold f_eX4_fail
  simp only [mh_lbE]
  refine ⟨rfl, ?_⟩
  rw [pI_w, Int32.toInt_sub, e1, h.2.1, Int.bmod_eq_of_le (by omega) (by omega)]
theorem c_take {kl N : Nat} {T : Nat → Int32} {p : Nat} {s : mh_H} (h : mh_c0 kl N T p s) (hN : N ≤ 200) (ht : mh_tx (rd_sg T N) N) (k : Int32) (hk : 0 ≤ k.toInt) : if (rd_sg T N p).toInt = k.toInt then (f_eX4_take s k).1.toInt ≠ 0 ∧ p < N ∧ ∃ x : Int32, x.toInt = ((p + 1 : Nat) : Int) ∧ (f_eX4_take s k).2 = mh_pI s 56 3 x else (f_eX4_take s k).1.toInt = 0 ∧ ((f_eX4_take s k).2.1 56 4).toInt = -1000 * (1 : Int) - (p : Int) := by
  unfold f_eX4_take
  simp only [mh_lbE, mh_lb2E]
  rw [c_sg h]
  by_cases g : (rd_sg T N p).toInt = k.toInt
  · rw [if_pos g, if_pos g]
    exact ⟨by show (1 : Int32).toInt ≠ 0; decide, tx_lt ht (by omega), _, c_nx h hN, rfl⟩
  · rw [if_neg g, if_neg g]
    exact c_fail (f := 1) h hN rfl (by decide)
theorem c_put {kl N : Nat} {T : Nat → Int32} {p c : Nat} {s : mh_H} (hl : mh_isL kl) (h : mh_cS kl N T p c s) (hc : c < 400) (w : Int32) : ∃ s' : mh_H, f_eX1_put s kl w = s' ∧ mh_cS kl N T p (c + 1) s' ∧ mh_kk kl c s s' ∧ s'.1 (kl + 1) c = w ∧ s'.1 kl 10 = s.1 kl 10 := by
  have hk : 40 ≤ kl ∧ kl + 5 < 56 := by rcases hl with rfl | rfl <;> decide
  have k4 : (400 : Int32).toInt = 400 := rfl
  have k1 : (1 : Int32).toInt = ((1 : Nat) : Int) := rfl
  have h2 := h.2
  refine ⟨_, rfl, ?_⟩
  unfold f_eX1_put
  simp only [mh_lbE]
  rw [if_pos (by omega), ix_n h2]
  refine ⟨⟨c0_pI (c0_pI h.1 (by omega) (by omega)) (by omega) (by omega), ?_⟩, ⟨fun i hi => ?_, fun i a b => ?_, ?_, ?_, fun q => ?_⟩, ?_, ?_⟩
  · rw [pI_w]; exact ix_add h2 (by omega) k1 (by decide)
  · rw [pI_o (by omega), pI_j (by omega)]
  · rw [pI_row (by omega), pI_row (by omega)]
  · rw [pI_j (by decide), pI_o (by omega)]
  · rw [pI_j (by decide), pI_o (by omega)]
  · rw [pI_j (by decide), pI_o (by omega)] at q; exact q
  · rw [pI_o (by omega), pI_w]
  · rw [pI_j (by decide), pI_o (by omega)]
theorem fq_dig (s : mh_H) (x : Int32) : ((f_eX4_isDigit s x).toInt = 0) ↔ ¬ (48 ≤ x.toInt ∧ x.toInt ≤ 57) := by
  have k1 : (48 : Int32).toInt = 48 := rfl
  have k2 : (57 : Int32).toInt = 57 := rfl
  have k0 := kc_0
  have c1 : (1 : Int32).toInt = 1 := rfl
  unfold f_eX4_isDigit
  split
  · omega
  · split <;> omega
theorem n8_c (v : Int32) : mh_n8 (fun _ => some v) := fun _ _ => rfl
theorem n8_v {i : Nat} (h : i ≠ 8) : mh_n8 (fun e => some (e i)) := fun e x => by
  show some (mh_u1 e 8 x i) = some (e i)
  rw [show mh_u1 e 8 x i = e i from if_neg h]
theorem n8_bo {op : Int32} {A B : mh_Dn} (hA : mh_n8 A) (hB : mh_n8 B) : mh_n8 (rd_bo op A B) := fun e x => by unfold rd_bo; rw [hA e x, hB e x]
theorem n8_ng {A : mh_Dn} (hA : mh_n8 A) : mh_n8 (rd_ng A) := fun e x => by unfold rd_ng; rw [hA e x]
theorem n8_an {A B : mh_Dn} (hA : mh_n8 A) (hB : mh_n8 B) : mh_n8 (rd_an A B) := fun e x => by unfold rd_an; rw [hA e x, hB e x]
theorem n8_or {A B : mh_Dn} (hA : mh_n8 A) (hB : mh_n8 B) : mh_n8 (rd_or A B) := fun e x => by unfold rd_or; rw [hA e x, hB e x]
theorem c_num {kl N : Nat} {T : Nat → Int32} (hl : mh_isL kl) (hN : N ≤ 200) (ht : mh_tx (rd_sg T N) N) {s0 : mh_H} {c p0 : Nat} (hc : c ≤ 2 * p0) : ∀ (n cnt : Nat) (V : Int32) (p : Nat) (s : mh_H) (X : Int32), X.toInt = (cnt : Int) → cnt ≤ 5 → 5 < n + cnt → mh_cS kl N T p c s → mh_kk kl c s0 s → p0 ≤ p → (p0 < p ∨ (48 ≤ (rd_sg T N p).toInt ∧ (rd_sg T N p).toInt ≤ 57)) → mh_cM kl N T 1 c p0 s0 (rd_num (rd_sg T N) n cnt V p) (l_eX4_readNumber_4_1 n s X V) := by
  intro n
  induction n with
  | zero => intro cnt V p s X _ h1 h2; exfalso; omega
  | succ n ih =>
    intro cnt V p s X hX h1 h2 h hk hp hd
    rw [l_eX4_readNumber_4_1_s, rd_num_s]
    unfold ls_eX4_readNumber_4_1
    simp only [mh_lbE, mh_lb2E]
    have hs := c_sg h.1
    have hN1 := h.1.1
    have hp1 := h.1.2.1
    have hpN := h.1.2.2.2.2
    rw [hs, h.1.2.2.1]
    have fin : p0 < p → mh_cM kl N T 1 c p0 s0 (.inr (fun _ => some V, p)) (1, f_eX1_put (f_eX1_put s kl 13) ((f_eX1_put s kl 13).2.2 56 1) V) := by
      intro hlt
      obtain ⟨s1, e1, a1, a2, a3, a4⟩ := c_put hl h (by omega) 13
      rw [e1, a1.1.2.2.1]
      obtain ⟨s2, e2, b1, b2, b3, b4⟩ := c_put hl a1 (by omega) V
      rw [e2]
      refine ⟨by show (1 : Int32).toInt ≠ 0; decide, hlt, c + 2, b1, kk_tr (kk_tr hk a2 (Nat.le_refl _)) b2 (by omega), ?_, by omega, fun _ => n8_c V⟩
      exact sC_num ((b2.1 c (by omega)).trans a3) b3
    by_cases d : 48 ≤ (rd_sg T N p).toInt ∧ (rd_sg T N p).toInt ≤ 57
    · have hlt := tx_lt ht (show 0 ≤ (rd_sg T N p).toInt by omega)
      rw [if_pos (show (s.1 56 3).toInt < (s.1 56 2).toInt by omega), if_neg (fun q => (fq_dig s _).1 q d), if_pos d]
      have k5 : (5 : Int32).toInt = 5 := rfl
      by_cases g : cnt < 5
      · rw [if_pos (show X.toInt < (5 : Int32).toInt by omega), if_pos g]
        have k1 : (1 : Int32).toInt = ((1 : Nat) : Int) := rfl
        exact ih (cnt + 1) _ (p + 1) _ (X + 1) (ix_add hX (by omega) k1 (by decide)) (by omega) (by omega) (cS_adv hl h hlt (c_nx h.1 hN)) (kk_tr hk (kk_56 hl) (Nat.le_refl _)) (by omega) (Or.inl (by omega))
      · rw [if_neg (show ¬ X.toInt < (5 : Int32).toInt by omega), if_neg g]
        exact c_fail (f := 2) h.1 hN rfl (by decide)
    · have hlt : p0 < p := by rcases hd with q | q; exact q; exact absurd q d
      rw [if_neg d]
      by_cases g : p < N
      · rw [if_pos (show (s.1 56 3).toInt < (s.1 56 2).toInt by omega), if_pos ((fq_dig s _).2 d)]
        exact fin hlt
      · rw [if_neg (show ¬ (s.1 56 3).toInt < (s.1 56 2).toInt by omega)]
        exact fin hlt
theorem t256 (P : Int32 → Prop) (h : ∀ k : Fin 256, P (Int32.ofNat k.val)) {x : Int32} (h0 : 0 ≤ x.toInt) (h1 : x.toInt ≤ 255) : P x := by
  have e := i32_of (z := x) (n := x.toInt.toNat) (by omega) (by omega)
  rw [e]
  exact h ⟨x.toInt.toNat, by omega⟩
theorem u16_id {x : Int32} (h0 : 0 ≤ x.toInt) (h1 : x.toInt ≤ 255) : UInt32.toInt32 (Int32.toUInt32 x % 65536) = x := t256 (fun x => UInt32.toInt32 (Int32.toUInt32 x % 65536) = x) (by decide +kernel) h0 h1
theorem ix_val {x : Int32} (h0 : 0 ≤ x.toInt) (h1 : x.toInt ≤ 255) : ((mh_ixf 0 x).toInt < 0 ↔ (f_eX10_isValue lx_s0 x).toInt = 0) ∧ (¬ (mh_ixf 0 x).toInt < 0 → (mh_ixf 0 x).toInt ≤ 12 ∧ mh_chr (mh_ixf 0 x).toNatClampNeg = x) := t256 (fun x => ((mh_ixf 0 x).toInt < 0 ↔ (f_eX10_isValue lx_s0 x).toInt = 0) ∧ (¬ (mh_ixf 0 x).toInt < 0 → (mh_ixf 0 x).toInt ≤ 12 ∧ mh_chr (mh_ixf 0 x).toNatClampNeg = x)) (by decide +kernel) h0 h1
theorem ix_cla {x : Int32} (h0 : 0 ≤ x.toInt) (h1 : x.toInt ≤ 255) : (mh_ixf 1 x).toInt < 0 ↔ (f_eX10_isClause lx_s0 x).toInt = 0 := t256 (fun x => (mh_ixf 1 x).toInt < 0 ↔ (f_eX10_isClause lx_s0 x).toInt = 0) (by decide +kernel) h0 h1
theorem c_fac {kl N : Nat} {T : Nat → Int32} (hl : mh_isL kl) (hN : N ≤ 200) (ht : mh_tx (rd_sg T N) N) {n : Nat} {rc : mh_Rc} (ih : n ≠ 0 → ∀ (x : Int32) (p c : Nat) (s : mh_H), x.toInt = 7 - (n : Int) → mh_cS kl N T p c s → c ≤ 2 * p → mh_cM kl N T (2 * n + 1) c p s (rd_S (rd_sg T N) n p) (rc.1 s x)) (x : Int32) (p c : Nat) (s : mh_H) (hn : n ≤ 6) (hx : x.toInt = 6 - (n : Int)) (h : mh_cS kl N T p c s) (hc : c ≤ 2 * p) : mh_cM kl N T (2 * n + 1) c p s (rd_fac (rd_sg T N) n (rd_S (rd_sg T N) n) p) (f_eX4_readFactor rc s x) := by
  have hk : 40 ≤ kl ∧ kl + 5 < 56 := by rcases hl with rfl | rfl <;> decide
  have k91 : (91 : Int32).toInt = 91 := rfl
  have k93 : (93 : Int32).toInt = 93 := rfl
  have k6 : (6 : Int32).toInt = 6 := rfl
  have hpN := h.1.2.2.2.2
  unfold f_eX4_readFactor rd_fac
  simp only [mh_lbE, mh_lb2E]
  rw [c_sg h.1]
  by_cases g1 : (rd_sg T N p).toInt = 91
  · rw [if_pos (show (rd_sg T N p).toInt = (91 : Int32).toInt by omega), if_pos g1]
    have hlt := tx_lt ht (show 0 ≤ (rd_sg T N p).toInt by omega)
    by_cases g2 : n = 0
    · rw [if_neg (show ¬ x.toInt < (6 : Int32).toInt by omega), if_pos g2]
      exact c_fail (f := 5) h.1 hN rfl (by decide)
    · rw [if_pos (show x.toInt < (6 : Int32).toInt by omega), if_neg g2]
      have hx1 : (x + 1).toInt = 7 - (n : Int) := by
        have k1 : (1 : Int32).toInt = 1 := rfl
        rw [Int32.toInt_add, k1, hx, Int.bmod_eq_of_le (by omega) (by omega)]; omega
      have r1 := ih g2 (x + 1) (p + 1) c _ hx1 (cS_adv hl h hlt (c_nx h.1 hN)) (by omega)
      generalize rc.1 (mh_pI s 56 3 (s.1 56 3 + 1)) (x + 1) = z at r1 ⊢
      cases e : rd_S (rd_sg T N) n (p + 1) with
      | inl f =>
        rw [e] at r1
        rw [rb_l, if_pos r1.1]
        exact ⟨kc_0, r1.2⟩
      | inr y =>
        rw [e] at r1
        obtain ⟨z1, z2, c', z3, z4, z5, z6, z7⟩ := r1
        rw [if_neg z1]
        have tk := c_take z3.1 hN ht 93 (by decide)
        rw [k93] at tk
        generalize f_eX4_take z.2 93 = t at tk ⊢
        show mh_cM kl N T (2 * n + 1) c p s (if (rd_sg T N y.2).toInt = 93 then .inr (y.1, y.2 + 1) else .inl (1, y.2)) _
        by_cases g3 : (rd_sg T N y.2).toInt = 93
        · rw [if_pos g3] at tk ⊢
          obtain ⟨t1, t2, v, t3, t4⟩ := tk
          rw [if_neg t1, t4]
          refine ⟨by show (1 : Int32).toInt ≠ 0; decide, by show p < y.2 + 1; omega, c', cS_adv hl z3 t2 t3, kk_tr (kk_tr (kk_56 hl) z4 (Nat.le_refl _)) (kk_56 hl) (Nat.le_refl _), ?_, by show c' ≤ c + 2 * (y.2 + 1 - p); omega, fun q => z7 ?_⟩
          · exact sC_cg z5 (fun i _ _ => pI_o (by omega))
          · rw [pI_o (by omega)] at q; exact q
        · rw [if_neg g3] at tk ⊢
          rw [if_pos tk.1]
          exact ⟨kc_0, tk.2⟩
  · rw [if_neg (show ¬ (rd_sg T N p).toInt = (91 : Int32).toInt by omega), if_neg g1]
    by_cases g2 : 48 ≤ (rd_sg T N p).toInt ∧ (rd_sg T N p).toInt ≤ 57
    · rw [if_neg (fun q => (fq_dig s _).1 q g2), if_pos g2]
      unfold f_eX4_readNumber
      simp only [mh_lbE]
      have r1 := c_num hl hN ht (s0 := s) hc 6 0 0 p s 0 rfl (by decide) (by decide) h kk_rf (Nat.le_refl _) (Or.inr g2)
      cases e : rd_num (rd_sg T N) 6 0 0 p with
      | inl f => rw [e] at r1; exact r1
      | inr y =>
        rw [e] at r1
        obtain ⟨z1, z2, c', z3, z4, z5, z6, z7⟩ := r1
        exact ⟨z1, z2, c', z3, z4, sC_w z5 (by omega), z6, z7⟩
    · rw [if_pos ((fq_dig s _).2 g2), if_neg g2]
      by_cases g3 : (rd_sg T N p).toInt < 0
      · rw [if_pos g3]
        have hge : N ≤ p := by
          rcases Nat.lt_or_ge p N with q | q
          · have := (ht.2 p q).1; omega
          · exact q
        rw [if_pos (by rw [ht.1 p hge]; decide)]
        exact c_fail (f := 1) h.1 hN rfl (by decide)
      · rw [if_neg g3]
        have hlt := tx_lt ht (show 0 ≤ (rd_sg T N p).toInt by omega)
        have hb := ht.2 p hlt
        rw [u16_id hb.1 hb.2]
        by_cases g4 : (mh_ixf 0 (rd_sg T N p)).toInt < 0
        · rw [if_pos g4, if_pos g4]
          exact c_fail (f := 1) h.1 hN rfl (by decide)
        · rw [if_neg g4, if_neg g4]
          have hv := (ix_val hb.1 hb.2).2 g4
          have hA := cS_adv hl h hlt (c_nx h.1 hN)
          generalize s.1 56 3 + 1 = X1 at hA ⊢
          have e2 : (mh_pI s 56 3 X1).2.2 56 1 = kl := hA.1.2.2.1
          rw [e2]
          generalize mh_ixf 0 (rd_sg T N p) = i at g4 hv ⊢
          obtain ⟨s1, e1, a1, a2, a3, a4⟩ := c_put hl hA (by omega) i
          rw [e1, a1.1.2.2.1]
          have k8 : (8 : Int32).toInt = 8 := rfl
          have hsg : ∀ x' : Int32, sg_C kl ((mh_pI s1 kl 10 x').1 (kl + 1)) (fun e => some (e i.toNatClampNeg)) (2 * n + 1) c (c + 1) := fun x' =>
            sC_w (sC_var (by rw [pI_o (by omega), a3]; show i.toInt = (i.toInt.toNat : Int); omega) (by show i.toInt.toNat < 13; omega)) (by omega)
          have hS1 : ∀ x' : Int32, mh_cS kl N T (p + 1) (c + 1) (mh_pI s1 kl 10 x') := fun x' => ⟨c0_pI a1.1 (by omega) (by omega), by rw [pI_j (by decide)]; exact a1.2⟩
          have hkk : ∀ x' : Int32, (x'.toInt = 0 → (s1.1 kl 10).toInt = 0) → mh_kk kl c s (mh_pI s1 kl 10 x') := fun x' hx' => kk_tr (kk_tr (kk_56 hl) a2 (Nat.le_refl _)) ⟨fun i hi => pI_o (by omega), fun i a b => pI_row (by omega), pI_j (by decide), pI_j (by decide), fun q => by rw [pI_w] at q; exact hx' q⟩ (Nat.le_refl c)
          have z1 : (1 : Int32).toInt ≠ 0 := by decide
          by_cases g5 : (s1.1 kl 10).toInt = 0
          · rw [if_pos g5]
            by_cases g6 : i.toInt = 8
            · rw [if_pos (show i.toInt = (8 : Int32).toInt by omega)]
              exact ⟨z1, by show p < p + 1; omega, c + 1, hS1 1, hkk 1 (fun q => absurd q z1), hsg 1, by show c + 1 ≤ c + 2 * (p + 1 - p); omega, fun q => by rw [pI_w] at q; exact absurd q z1⟩
            · rw [if_neg (show ¬ i.toInt = (8 : Int32).toInt by omega)]
              exact ⟨z1, by show p < p + 1; omega, c + 1, hS1 0, hkk 0 (fun _ => g5), hsg 0, by show c + 1 ≤ c + 2 * (p + 1 - p); omega, fun q => n8_v (by show i.toInt.toNat ≠ 8; omega)⟩
          · rw [if_neg g5]
            exact ⟨z1, by show p < p + 1; omega, c + 1, hS1 1, hkk 1 (fun q => absurd q z1), hsg 1, by show c + 1 ≤ c + 2 * (p + 1 - p); omega, fun q => by rw [pI_w] at q; exact absurd q z1⟩
/-- behind a sign between two -/
theorem c_op {kl N : Nat} {T : Nat → Int32} (hl : mh_isL kl) (hN : N ≤ 200) {A B : mh_Dn} {w w2 c c1 p0 p q : Nat} {s0 s : mh_H} {op : Int32} {z : Int32 × mh_H} (h2 : mh_op2 op) (hA : sg_C kl (s.1 (kl + 1)) A w c c1) (hw : w2 + 1 ≤ w) (hw3 : w ≤ 32) (hk : mh_kk kl c s0 s) (hc0 : c ≤ 2 * p0) (hc1 : c1 ≤ c + 2 * (p - p0)) (hp : p0 < p) (hn8 : (s.1 kl 10).toInt = 0 → mh_n8 A) (hz : mh_cM kl N T w2 c1 (p + 1) s (.inr (B, q)) z) : z.1.toInt ≠ 0 ∧ ∃ s2, f_eX1_put z.2 (z.2.2.2 56 1) op = s2 ∧ p + 1 < q ∧ ∃ c2, mh_cS kl N T q c2 s2 ∧ mh_kk kl c s0 s2 ∧ sg_C kl (s2.1 (kl + 1)) (rd_bo op A B) w c c2 ∧ c2 ≤ c + 2 * (q - p0) ∧ ((s2.1 kl 10).toInt = 0 → mh_n8 (rd_bo op A B)) := by
  obtain ⟨z1, z2, c', z3, z4, z5, z6, z7⟩ := hz
  have z2 : p + 1 < q := z2
  have z6 : c' ≤ c1 + 2 * (q - (p + 1)) := z6
  have hq : q ≤ N := z3.1.2.2.2.2
  have hA1 := hA.1
  have hB1 := z5.1
  obtain ⟨s2, e2, b1, b2, b3, b4⟩ := c_put hl z3 (by omega) op
  refine ⟨z1, s2, by rw [z3.1.2.2.1]; exact e2, z2, c' + 1, b1, kk_tr (kk_tr hk z4 (by omega)) b2 (by omega), ?_, by omega, fun g => ?_⟩
  · refine sC_bin (m := c1) (m' := c') ?_ ?_ b3 h2 (Nat.le_refl _) hw hw3
    · exact sC_cg hA (fun i a b => (b2.1 i (by omega)).trans (z4.1 i b))
    · exact sC_cg z5 (fun i a b => b2.1 i b)
  · rw [b4] at g
    exact n8_bo (hn8 (z4.2.2.2.2 g)) (z7 g)
theorem c_tml {kl N : Nat} {T : Nat → Int32} (hl : mh_isL kl) (hN : N ≤ 200) (ht : mh_tx (rd_sg T N) N) {n : Nat} {rc : mh_Rc} {x : Int32} (hn : n ≤ 6) (hf : ∀ (p c : Nat) (s : mh_H), mh_cS kl N T p c s → c ≤ 2 * p → mh_cM kl N T (2 * n + 1) c p s (rd_fac (rd_sg T N) n (rd_S (rd_sg T N) n) p) (f_eX4_readFactor rc s x)) {c p0 : Nat} {s0 : mh_H} (hc0 : c ≤ 2 * p0) : ∀ (m : Nat) (A : mh_Dn) (p c1 : Nat) (s : mh_H), p0 < p → N < m + p → mh_cS kl N T p c1 s → mh_kk kl c s0 s → sg_C kl (s.1 (kl + 1)) A (2 * n + 2) c c1 → c1 ≤ c + 2 * (p - p0) → ((s.1 kl 10).toInt = 0 → mh_n8 A) → mh_cM kl N T (2 * n + 2) c p0 s0 (rd_tml (rd_sg T N) (rd_fac (rd_sg T N) n (rd_S (rd_sg T N) n)) m A p) (l_eX4_readTerm_10_1 rc x m s) := by
  intro m
  induction m with
  | zero => intro A p c1 s h0 h1 h2; exfalso; have := h2.1.2.2.2.2; omega
  | succ m ih =>
    intro A p c1 s h0 h1 h2 h3 h4 h5 h6
    have k42 : (42 : Int32).toInt = 42 := rfl
    have k47 : (47 : Int32).toInt = 47 := rfl
    have k37 : (37 : Int32).toInt = 37 := rfl
    have hN1 := h2.1.1
    have hp1 := h2.1.2.1
    have hpN := h2.1.2.2.2.2
    have z1 : (1 : Int32).toInt ≠ 0 := by decide
    rw [l_eX4_readTerm_10_1_s, rd_tml_s]
    unfold ls_eX4_readTerm_10_1
    simp only [mh_lbE, mh_lb2E]
    rw [c_sg h2.1]
    by_cases g : p < N
    · rw [if_pos (show (s.1 56 3).toInt < (s.1 56 2).toInt by omega)]
      have go : (rd_sg T N p).toInt = 42 ∨ (rd_sg T N p).toInt = 47 ∨ (rd_sg T N p).toInt = 37 → mh_cM kl N T (2 * n + 2) c p0 s0 (rd_b (rd_fac (rd_sg T N) n (rd_S (rd_sg T N) n) (p + 1)) (fun E q => rd_tml (rd_sg T N) (rd_fac (rd_sg T N) n (rd_S (rd_sg T N) n)) m (rd_bo (rd_sg T N p) A E) q)) (if (f_eX4_readFactor rc (mh_pI s 56 3 (s.1 56 3 + 1)) x).1.toInt = 0 then (0, (f_eX4_readFactor rc (mh_pI s 56 3 (s.1 56 3 + 1)) x).2) else l_eX4_readTerm_10_1 rc x m (f_eX1_put (f_eX4_readFactor rc (mh_pI s 56 3 (s.1 56 3 + 1)) x).2 ((f_eX4_readFactor rc (mh_pI s 56 3 (s.1 56 3 + 1)) x).2.2.2 56 1) (rd_sg T N p))) := by
        intro ho
        have r1 := hf (p + 1) c1 _ (cS_adv hl h2 g (c_nx h2.1 hN)) (by omega)
        have hkp : mh_kk kl c s0 (mh_pI s 56 3 (s.1 56 3 + 1)) := kk_tr h3 (kk_56 hl) (Nat.le_refl _)
        have hkl : kl + 5 < 56 := by rcases hl with rfl | rfl <;> decide
        have hAp : sg_C kl ((mh_pI s 56 3 (s.1 56 3 + 1)).1 (kl + 1)) A (2 * n + 2) c c1 := sC_cg h4 (fun i _ _ => pI_o (by omega))
        have h6p : ((mh_pI s 56 3 (s.1 56 3 + 1)).1 kl 10).toInt = 0 → mh_n8 A := fun q => h6 (by rw [pI_o (by omega)] at q; exact q)
        generalize mh_pI s 56 3 (s.1 56 3 + 1) = sp at r1 hkp hAp h6p ⊢
        generalize f_eX4_readFactor rc sp x = z at r1 ⊢
        cases e : rd_fac (rd_sg T N) n (rd_S (rd_sg T N) n) (p + 1) with
        | inl f =>
          rw [e] at r1
          rw [rb_l, if_pos r1.1]
          exact ⟨kc_0, r1.2⟩
        | inr y =>
          rw [e] at r1
          obtain ⟨q1, s2, q2, q3, c2, q4, q5, q6, q7, q8⟩ := c_op hl hN (op := rd_sg T N p) (by unfold mh_op2; omega) hAp (by omega) (by omega) hkp hc0 h5 h0 h6p r1
          rw [if_neg q1, q2]
          exact ih _ y.2 c2 s2 (by omega) (by omega) q4 q5 q6 q7 q8
      by_cases g1 : (rd_sg T N p).toInt = 42
      · rw [if_pos (show (rd_sg T N p).toInt = (42 : Int32).toInt by omega), if_pos (Or.inl g1)]
        exact go (Or.inl g1)
      · rw [if_neg (show ¬ (rd_sg T N p).toInt = (42 : Int32).toInt by omega)]
        by_cases g2 : (rd_sg T N p).toInt = 47
        · rw [if_pos (show (rd_sg T N p).toInt = (47 : Int32).toInt by omega), if_pos (Or.inr (Or.inl g2))]
          exact go (Or.inr (Or.inl g2))
        · rw [if_neg (show ¬ (rd_sg T N p).toInt = (47 : Int32).toInt by omega)]
          by_cases g3 : (rd_sg T N p).toInt = 37
          · rw [if_pos (show (rd_sg T N p).toInt = (37 : Int32).toInt by omega), if_pos (Or.inr (Or.inr g3))]
            exact go (Or.inr (Or.inr g3))
          · rw [if_neg (show ¬ (rd_sg T N p).toInt = (37 : Int32).toInt by omega), if_neg (by omega)]
            exact ⟨z1, h0, c1, h2, h3, h4, h5, h6⟩
    · have hm1 : (rd_sg T N p).toInt = -1 := by rw [ht.1 p (by omega)]; rfl
      rw [if_neg (show ¬ (s.1 56 3).toInt < (s.1 56 2).toInt by omega), if_neg (by omega)]
      exact ⟨z1, h0, c1, h2, h3, h4, h5, h6⟩
theorem c_trm {kl N : Nat} {T : Nat → Int32} (hl : mh_isL kl) (hN : N ≤ 200) (ht : mh_tx (rd_sg T N) N) {n : Nat} {rc : mh_Rc} {x : Int32} (hn : n ≤ 6) (hf : ∀ (p c : Nat) (s : mh_H), mh_cS kl N T p c s → c ≤ 2 * p → mh_cM kl N T (2 * n + 1) c p s (rd_fac (rd_sg T N) n (rd_S (rd_sg T N) n) p) (f_eX4_readFactor rc s x)) (p c : Nat) (s : mh_H) (h : mh_cS kl N T p c s) (hc : c ≤ 2 * p) : mh_cM kl N T (2 * n + 2) c p s (rd_trm (rd_sg T N) (rd_fac (rd_sg T N) n (rd_S (rd_sg T N) n)) p) (f_eX4_readTerm rc s x) := by
  unfold f_eX4_readTerm rd_trm
  simp only [mh_lbE, mh_lb2E]
  have r1 := hf p c s h hc
  generalize f_eX4_readFactor rc s x = z at r1 ⊢
  cases e : rd_fac (rd_sg T N) n (rd_S (rd_sg T N) n) p with
  | inl f =>
    rw [e] at r1
    rw [rb_l, if_pos r1.1]
    exact ⟨kc_0, r1.2⟩
  | inr y =>
    rw [e] at r1
    obtain ⟨z1, z2, c', z3, z4, z5, z6, z7⟩ := r1
    rw [if_neg z1]
    have := z3.1.2.2.2.2
    exact c_tml hl hN ht hn hf hc 222 y.1 y.2 c' z.2 z2 (by omega) z3 z4 (sC_w z5 (by omega)) z6 z7
theorem c_sml {kl N : Nat} {T : Nat → Int32} (hl : mh_isL kl) (hN : N ≤ 200) (ht : mh_tx (rd_sg T N) N) {n : Nat} {rc : mh_Rc} {x : Int32} (hn : n ≤ 6) {trm : Nat → mh_Qn} (hf : ∀ (p c : Nat) (s : mh_H), mh_cS kl N T p c s → c ≤ 2 * p → mh_cM kl N T (2 * n + 2) c p s (trm p) (f_eX4_readTerm rc s x)) {c p0 : Nat} {s0 : mh_H} (hc0 : c ≤ 2 * p0) : ∀ (m : Nat) (A : mh_Dn) (p c1 : Nat) (s : mh_H), p0 < p → N < m + p → mh_cS kl N T p c1 s → mh_kk kl c s0 s → sg_C kl (s.1 (kl + 1)) A (2 * n + 3) c c1 → c1 ≤ c + 2 * (p - p0) → ((s.1 kl 10).toInt = 0 → mh_n8 A) → mh_cM kl N T (2 * n + 3) c p0 s0 (rd_sml (rd_sg T N) trm m A p) (l_eX4_readSum_10_1 rc x m s) := by
  intro m
  induction m with
  | zero => intro A p c1 s h0 h1 h2; exfalso; have := h2.1.2.2.2.2; omega
  | succ m ih =>
    intro A p c1 s h0 h1 h2 h3 h4 h5 h6
    have k43 : (43 : Int32).toInt = 43 := rfl
    have k45 : (45 : Int32).toInt = 45 := rfl
    have hN1 := h2.1.1
    have hp1 := h2.1.2.1
    have hpN := h2.1.2.2.2.2
    have z1 : (1 : Int32).toInt ≠ 0 := by decide
    rw [l_eX4_readSum_10_1_s, rd_sml_s]
    unfold ls_eX4_readSum_10_1
    simp only [mh_lbE, mh_lb2E]
    rw [c_sg h2.1]
    by_cases g : p < N
    · rw [if_pos (show (s.1 56 3).toInt < (s.1 56 2).toInt by omega)]
      have go : (rd_sg T N p).toInt = 43 ∨ (rd_sg T N p).toInt = 45 → mh_cM kl N T (2 * n + 3) c p0 s0 (rd_b (trm (p + 1)) (fun E q => rd_sml (rd_sg T N) trm m (rd_bo (rd_sg T N p) A E) q)) (if (f_eX4_readTerm rc (mh_pI s 56 3 (s.1 56 3 + 1)) x).1.toInt = 0 then (0, (f_eX4_readTerm rc (mh_pI s 56 3 (s.1 56 3 + 1)) x).2) else l_eX4_readSum_10_1 rc x m (f_eX1_put (f_eX4_readTerm rc (mh_pI s 56 3 (s.1 56 3 + 1)) x).2 ((f_eX4_readTerm rc (mh_pI s 56 3 (s.1 56 3 + 1)) x).2.2.2 56 1) (rd_sg T N p))) := by
        intro ho
        have r1 := hf (p + 1) c1 _ (cS_adv hl h2 g (c_nx h2.1 hN)) (by omega)
        have hkp : mh_kk kl c s0 (mh_pI s 56 3 (s.1 56 3 + 1)) := kk_tr h3 (kk_56 hl) (Nat.le_refl _)
        have hkl : kl + 5 < 56 := by rcases hl with rfl | rfl <;> decide
        have hAp : sg_C kl ((mh_pI s 56 3 (s.1 56 3 + 1)).1 (kl + 1)) A (2 * n + 3) c c1 := sC_cg h4 (fun i _ _ => pI_o (by omega))
        have h6p : ((mh_pI s 56 3 (s.1 56 3 + 1)).1 kl 10).toInt = 0 → mh_n8 A := fun q => h6 (by rw [pI_o (by omega)] at q; exact q)
        generalize mh_pI s 56 3 (s.1 56 3 + 1) = sp at r1 hkp hAp h6p ⊢
        generalize f_eX4_readTerm rc sp x = z at r1 ⊢
        cases e : trm (p + 1) with
        | inl f =>
          rw [e] at r1
          rw [rb_l, if_pos r1.1]
          exact ⟨kc_0, r1.2⟩
        | inr y =>
          rw [e] at r1
          obtain ⟨q1, s2, q2, q3, c2, q4, q5, q6, q7, q8⟩ := c_op hl hN (op := rd_sg T N p) (by unfold mh_op2; omega) hAp (by omega) (by omega) hkp hc0 h5 h0 h6p r1
          rw [if_neg q1, q2]
          exact ih _ y.2 c2 s2 (by omega) (by omega) q4 q5 q6 q7 q8
      by_cases g1 : (rd_sg T N p).toInt = 43
      · rw [if_pos (show (rd_sg T N p).toInt = (43 : Int32).toInt by omega), if_pos (Or.inl g1)]
        exact go (Or.inl g1)
      · rw [if_neg (show ¬ (rd_sg T N p).toInt = (43 : Int32).toInt by omega)]
        by_cases g2 : (rd_sg T N p).toInt = 45
        · rw [if_pos (show (rd_sg T N p).toInt = (45 : Int32).toInt by omega), if_pos (Or.inr g2)]
          exact go (Or.inr g2)
        · rw [if_neg (show ¬ (rd_sg T N p).toInt = (45 : Int32).toInt by omega), if_neg (by omega)]
          exact ⟨z1, h0, c1, h2, h3, h4, h5, h6⟩
    · have hm1 : (rd_sg T N p).toInt = -1 := by rw [ht.1 p (by omega)]; rfl
      rw [if_neg (show ¬ (s.1 56 3).toInt < (s.1 56 2).toInt by omega), if_neg (by omega)]
      exact ⟨z1, h0, c1, h2, h3, h4, h5, h6⟩
theorem c_sum {kl N : Nat} {T : Nat → Int32} (hl : mh_isL kl) (hN : N ≤ 200) (ht : mh_tx (rd_sg T N) N) {n : Nat} {rc : mh_Rc} {x : Int32} (hn : n ≤ 6) {trm : Nat → mh_Qn} (hf : ∀ (p c : Nat) (s : mh_H), mh_cS kl N T p c s → c ≤ 2 * p → mh_cM kl N T (2 * n + 2) c p s (trm p) (f_eX4_readTerm rc s x)) (p c : Nat) (s : mh_H) (h : mh_cS kl N T p c s) (hc : c ≤ 2 * p) : mh_cM kl N T (2 * n + 3) c p s (rd_sum (rd_sg T N) trm p) (f_eX4_readSum rc s x) := by
  unfold f_eX4_readSum rd_sum
  simp only [mh_lbE, mh_lb2E]
  have r1 := hf p c s h hc
  generalize f_eX4_readTerm rc s x = z at r1 ⊢
  cases e : trm p with
  | inl f =>
    rw [e] at r1
    rw [rb_l, if_pos r1.1]
    exact ⟨kc_0, r1.2⟩
  | inr y =>
    rw [e] at r1
    obtain ⟨z1, z2, c', z3, z4, z5, z6, z7⟩ := r1
    rw [if_neg z1]
    have := z3.1.2.2.2.2
    exact c_sml hl hN ht hn hf hc 222 y.1 y.2 c' z.2 z2 (by omega) z3 z4 (sC_w z5 (by omega)) z6 z7
/-- the class's sums, at any depth -/
theorem c_S {kl N : Nat} {T : Nat → Int32} (hl : mh_isL kl) (hN : N ≤ 200) (ht : mh_tx (rd_sg T N) N) : ∀ n : Nat, n ≤ 6 → ∀ (x : Int32) (p c : Nat) (s : mh_H), x.toInt = 6 - (n : Int) → mh_cS kl N T p c s → c ≤ 2 * p → mh_cM kl N T (2 * n + 3) c p s (rd_S (rd_sg T N) (n + 1) p) (f_eX4_readSum (mh_rcN n) s x) := by
  intro n
  induction n with
  | zero =>
    intro hn x p c s hx h hc
    rw [rd_S_s]
    exact c_sum hl hN ht hn (c_trm hl hN ht hn (fun p c s h hc => c_fac hl hN ht (fun q => absurd rfl q) x p c s hn hx h hc)) p c s h hc
  | succ n ih =>
    intro hn x p c s hx h hc
    rw [rd_S_s]
    refine c_sum hl hN ht hn (c_trm hl hN ht hn (fun p c s h hc => c_fac hl hN ht (fun _ x' p' c' s' hx' h' hc' => ?_) x p c s hn hx h hc)) p c s h hc
    have := ih (by omega) x' p' c' s' (by omega) h' hc'
    rw [show 2 * (n + 1) + 1 = 2 * n + 3 by omega]
    rw [show mh_rcN (n + 1) = (f_eX4_readSum (mh_rcN n), f_eX4_readChoice (mh_rcN n), f_eX4_readPiece (mh_rcN n)) from rfl]
    exact this

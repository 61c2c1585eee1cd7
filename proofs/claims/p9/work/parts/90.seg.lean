/-- what a piece of code says over the letters -/
abbrev mh_Dn : Type := (Nat → Int32) → Option Int32
def mh_wrk (p0 p1 p2 : Int32) : Int32 := if p0.toInt = 37 then (if p2.toInt = 0 then 0 else p1 % p2) else if p0.toInt = 42 then p1 * p2 else if p0.toInt = 43 then p1 + p2 else if p0.toInt = 45 then p1 - p2 else if p0.toInt = 47 then (if p2.toInt = 0 then 0 else p1 / p2) else if p0.toInt = 60 then (if p1.toInt < p2.toInt then 1 else 0) else if p0.toInt = 62 then (if p2.toInt < p1.toInt then 1 else 0) else if p1.toInt = p2.toInt then 1 else 0
def mh_dz (op y : Int32) : Prop := (op.toInt = 47 ∨ op.toInt = 37) ∧ y.toInt = 0
theorem dz_dec (op y : Int32) : mh_dz op y ∨ ¬ mh_dz op y := Classical.em _
def rd_bo (op : Int32) (a b : mh_Dn) : mh_Dn := fun e => match a e with
  | none => none
  | some x => match b e with
    | none => none
    | some y => if (op.toInt = 47 ∨ op.toInt = 37) ∧ y.toInt = 0 then none else some (mh_wrk op x y)
def rd_ng (a : mh_Dn) : mh_Dn := fun e => match a e with
  | none => none
  | some x => some (if x.toInt = 0 then 1 else 0)
def rd_an (a b : mh_Dn) : mh_Dn := fun e => match a e with
  | none => none
  | some x => if x.toInt = 0 then some x else b e
def rd_or (a b : mh_Dn) : mh_Dn := fun e => match a e with
  | none => none
  | some x => if x.toInt = 0 then b e else some x
theorem bo_n1 {op : Int32} {a b : mh_Dn} {e : Nat → Int32} (h : a e = none) : rd_bo op a b e = none := by unfold rd_bo; rw [h]
theorem bo_n2 {op x : Int32} {a b : mh_Dn} {e : Nat → Int32} (h : a e = some x) (h2 : b e = none) : rd_bo op a b e = none := by unfold rd_bo; rw [h, h2]
theorem bo_s {op x y : Int32} {a b : mh_Dn} {e : Nat → Int32} (h : a e = some x) (h2 : b e = some y) : rd_bo op a b e = if (op.toInt = 47 ∨ op.toInt = 37) ∧ y.toInt = 0 then none else some (mh_wrk op x y) := by unfold rd_bo; rw [h, h2]
theorem ng_n {a : mh_Dn} {e : Nat → Int32} (h : a e = none) : rd_ng a e = none := by unfold rd_ng; rw [h]
theorem ng_s {a : mh_Dn} {e : Nat → Int32} {x : Int32} (h : a e = some x) : rd_ng a e = some (if x.toInt = 0 then 1 else 0) := by unfold rd_ng; rw [h]
theorem an_n {a b : mh_Dn} {e : Nat → Int32} (h : a e = none) : rd_an a b e = none := by unfold rd_an; rw [h]
theorem an_s {a b : mh_Dn} {e : Nat → Int32} {x : Int32} (h : a e = some x) : rd_an a b e = if x.toInt = 0 then some x else b e := by unfold rd_an; rw [h]
theorem or_n {a b : mh_Dn} {e : Nat → Int32} (h : a e = none) : rd_or a b e = none := by unfold rd_or; rw [h]
theorem or_s {a b : mh_Dn} {e : Nat → Int32} {x : Int32} (h : a e = some x) : rd_or a b e = if x.toInt = 0 then b e else some x := by unfold rd_or; rw [h]
theorem wk_c (s : mh_H) (a b c : Int32) : f_eX1_combine s a b c = mh_wrk a b c := by
  unfold f_eX1_combine mh_wrk
  simp only [mh_lbE]
theorem wk_r (s : mh_H) (a b c : Int32) : f_eX10_worked s a b c = mh_wrk a b c := by
  unfold f_eX10_worked mh_wrk
  simp only [mh_lbE]
/-- a sign between two: of sums, terms, comparisons -/
def mh_op2 (op : Int32) : Prop := op.toInt = 42 ∨ op.toInt = 47 ∨ op.toInt = 37 ∨ op.toInt = 43 ∨ op.toInt = 45 ∨ op.toInt = 60 ∨ op.toInt = 62 ∨ op.toInt = 61
def mh_us {α : Type} (st : Nat → α) (sp : Nat) (v : α) (j : Nat) : α := if j = sp then v else st j
theorem us_w {α : Type} {st : Nat → α} {sp : Nat} {v : α} : mh_us st sp v sp = v := if_pos rfl
theorem us_o {α : Type} {st : Nat → α} {sp j : Nat} {v : α} (h : j ≠ sp) : mh_us st sp v j = st j := if_neg h
theorem pI_row {s : mh_H} {a j b : Nat} {x : Int32} (h : b ≠ a) : (mh_pI s a j x).1 b = s.1 b := by funext i; exact pI_o h
/-- the class's run from (c, sp, st) on answers R -/
def sg_R (kl : Nat) (s0 : mh_H) (HI : Int32) (hi c sp : Nat) (st : Nat → Int32) (R : Int32) : Prop :=
  ∀ (n : Nat) (s : mh_H) (T X Y : Int32) (t : Nat), X.toInt = (c : Int) → Y.toInt = (sp : Int) → T.toInt = (t : Int) → (∀ k, k ≠ kl + 7 → s.1 k = s0.1 k) → (∀ j, j < sp → s.1 (kl + 7) j = st j) → t + (hi - c) ≤ 400 → hi - c < n → (l_eX1_run_21_1 kl HI n s T X Y).1 = R ∧ ∀ k, k ≠ kl + 7 → (l_eX1_run_21_1 kl HI n s T X Y).2.1 k = s0.1 k
theorem rn_ext {kl : Nat} {s0 : mh_H} {HI : Int32} {hi c sp : Nat} {st st' : Nat → Int32} {R : Int32} (h : sg_R kl s0 HI hi c sp st R) (he : ∀ j, j < sp → st j = st' j) : sg_R kl s0 HI hi c sp st' R :=
  fun n s T X Y t hX hY hT hs hst ht hn => h n s T X Y t hX hY hT hs (fun j hj => (hst j hj).trans (he j hj).symm) ht hn
theorem rn_step {kl n t c hi : Nat} {s : mh_H} {T X Y HI : Int32} (hT : T.toInt = (t : Int)) (ht : t < 400) (hX : X.toInt = (c : Int)) (hH : HI.toInt = (hi : Int)) (hc : c < hi) (hh : hi ≤ 400) : l_eX1_run_21_1 kl HI (n + 1) s T X Y = j_eX1_run_67_3 (l_eX1_run_21_1 kl HI n) s kl T X Y (s.1 (kl + 1) c) (if c + 1 < hi then s.1 (kl + 1) (c + 1) else 0) := by
  have k4 : (400 : Int32).toInt = 400 := rfl
  have k1 : (1 : Int32).toInt = ((1 : Nat) : Int) := rfl
  have e1 : (X + 1).toInt = ((c + 1 : Nat) : Int) := ix_add hX (by omega) k1 (by decide)
  rw [l_eX1_run_21_1_s]
  unfold ls_eX1_run_21_1
  rw [if_pos (by omega), if_pos (by omega)]
  simp only [mh_lbE]
  rw [ix_n hX]
  by_cases g : c + 1 < hi
  · rw [if_pos (by omega), if_pos g, ix_n e1]
  · rw [if_neg (by omega), if_neg g]
theorem rn_push {kl : Nat} {s0 : mh_H} {HI : Int32} {hi c d sp : Nat} {st : Nat → Int32} {R v : Int32} (hH : HI.toInt = (hi : Int)) (hh : hi ≤ 400) (hsp : sp < 32) (hv : (∃ i : Nat, i < 13 ∧ (s0.1 (kl + 1) c).toInt = (i : Int) ∧ d = c + 1 ∧ v = s0.1 (kl + 6) i) ∨ ((s0.1 (kl + 1) c).toInt = 13 ∧ d = c + 2 ∧ v = s0.1 (kl + 1) (c + 1))) (hd : d ≤ hi) (h : sg_R kl s0 HI hi d (sp + 1) (mh_us st sp v) R) : sg_R kl s0 HI hi c sp st R := by
  intro n s T X Y t hX hY hT hs hst ht hn
  obtain ⟨n, rfl⟩ : ∃ m, n = m + 1 := ⟨n - 1, by omega⟩
  have k1 : (1 : Int32).toInt = ((1 : Nat) : Int) := rfl
  have k2 : (2 : Int32).toInt = ((2 : Nat) : Int) := rfl
  have k13 : (13 : Int32).toInt = 13 := rfl
  have k32 : (32 : Int32).toInt = 32 := rfl
  have hc : c < hi := by rcases hv with ⟨i, -, -, e, -⟩ | ⟨-, e, -⟩ <;> omega
  rw [rn_step hT (by omega) hX hH hc hh]
  have hw : s.1 (kl + 1) c = s0.1 (kl + 1) c := congrFun (hs (kl + 1) (by omega)) c
  have hw1 : s.1 (kl + 1) (c + 1) = s0.1 (kl + 1) (c + 1) := congrFun (hs (kl + 1) (by omega)) (c + 1)
  have h6 : s.1 (kl + 6) = s0.1 (kl + 6) := hs (kl + 6) (by omega)
  unfold j_eX1_run_67_3
  simp only [mh_lbE]
  rw [hw, hw1]
  have hwi := fq_within s (s0.1 (kl + 1) c) 13
  have hin : ¬ (f_eX9_isWithin s (s0.1 (kl + 1) c) 13).toInt = 0 := fun g => hwi.1 g (by rcases hv with ⟨i, g1, g2, -, -⟩ | ⟨g2, -, -⟩ <;> omega)
  rw [if_neg hin, if_pos (by omega)]
  have eY : (Y + 1).toInt = ((sp + 1 : Nat) : Int) := ix_add hY (by omega) k1 (by decide)
  have eT : (T + 1).toInt = ((t + 1 : Nat) : Int) := ix_add hT (by omega) k1 (by decide)
  have fin : ∀ (X' : Int32), X'.toInt = (d : Int) → (l_eX1_run_21_1 kl HI n (mh_pI s (kl + 7) sp v) (T + 1) X' (Y + 1)).1 = R ∧ ∀ k, k ≠ kl + 7 → (l_eX1_run_21_1 kl HI n (mh_pI s (kl + 7) sp v) (T + 1) X' (Y + 1)).2.1 k = s0.1 k := by
    intro X' hX'
    have hdc : c + 1 ≤ d := by rcases hv with ⟨i, -, -, e, -⟩ | ⟨-, e, -⟩ <;> omega
    refine h n _ (T + 1) X' (Y + 1) (t + 1) hX' eY eT (fun k hk => (pI_row hk).trans (hs k hk)) (fun j hj => ?_) (by omega) (by omega)
    rw [pI_v]
    by_cases g : j = sp
    · rw [if_pos ⟨rfl, g⟩, g, us_w]
    · rw [if_neg (fun q => g q.2), us_o g]; exact hst j (by omega)
  rcases hv with ⟨i, g1, g2, g3, g4⟩ | ⟨g2, g3, g4⟩
  · rw [if_neg (by omega)]
    unfold j_eX1_run_111_13
    simp only [mh_lbE]
    rw [if_neg (by omega)]
    unfold j_eX1_run_129_14 j_eX1_run_337_4
    simp only [mh_lbE]
    rw [ix_n hY, ix_n g2, h6, ← g4]
    exact fin _ (by rw [g3]; exact ix_add hX (by omega) k1 (by decide))
  · rw [if_pos (by omega)]
    unfold j_eX1_run_111_13
    simp only [mh_lbE]
    rw [if_pos (by omega)]
    unfold j_eX1_run_129_14 j_eX1_run_337_4
    simp only [mh_lbE]
    rw [if_pos (show c + 1 < hi by omega), ix_n hY, ← g4]
    exact fin _ (by rw [g3]; exact ix_add hX (by omega) k2 (by decide))
theorem ix_m1 {Y : Int32} {m : Nat} (hY : Y.toInt = ((m + 1 : Nat) : Int)) (hm : m < 100000) : (Y + (-1)).toInt = (m : Int) := by
  have km : (-1 : Int32).toInt = -1 := rfl
  rw [Int32.toInt_add, km, hY, Int.bmod_eq_of_le (by omega) (by omega)]; omega
theorem rn_bin {kl : Nat} {s0 : mh_H} {HI : Int32} {hi c m : Nat} {st : Nat → Int32} {R op : Int32} (hH : HI.toInt = (hi : Int)) (hh : hi ≤ 400) (hc : c < hi) (hm : m < 40) (ho : s0.1 (kl + 1) c = op) (h2 : mh_op2 op) (h : if (op.toInt = 47 ∨ op.toInt = 37) ∧ (st (m + 1)).toInt = 0 then R = 0 else sg_R kl s0 HI hi (c + 1) (m + 1) (mh_us st m (mh_wrk op (st m) (st (m + 1)))) R) : sg_R kl s0 HI hi c (m + 2) st R := by
  intro n s T X Y t hX hY hT hs hst ht hn
  obtain ⟨n, rfl⟩ : ∃ m, n = m + 1 := ⟨n - 1, by omega⟩
  have k1 : (1 : Int32).toInt = ((1 : Nat) : Int) := rfl
  have k2 : (2 : Int32).toInt = ((2 : Nat) : Int) := rfl
  have c13 : (13 : Int32).toInt = 13 := rfl
  have c33 : (33 : Int32).toInt = 33 := rfl
  have c37 : (37 : Int32).toInt = 37 := rfl
  have c38 : (38 : Int32).toInt = 38 := rfl
  have c47 : (47 : Int32).toInt = 47 := rfl
  have c124 : (124 : Int32).toInt = 124 := rfl
  rw [rn_step hT (by omega) hX hH hc hh]
  have hw : s.1 (kl + 1) c = op := (congrFun (hs (kl + 1) (by omega)) c).trans ho
  unfold j_eX1_run_67_3
  simp only [mh_lbE]
  rw [hw]
  have hwi := fq_within s op 13
  have hop : op.toInt ≠ 38 ∧ op.toInt ≠ 124 ∧ op.toInt ≠ 33 ∧ 13 < op.toInt := by unfold mh_op2 at h2; omega
  clear h2
  rw [if_pos (hwi.2 (by omega)), if_neg (by omega), if_neg (by omega), if_neg (by omega), if_neg (by omega), if_neg (by omega)]
  have eY1 : (Y - 1).toInt = ((m + 1 : Nat) : Int) := by
    have := ix_sub hY (by omega) k1 (by decide) (by omega)
    rw [this]; omega
  have eY2 : (Y - 2).toInt = ((m : Nat) : Int) := by
    have := ix_sub hY (by omega) k2 (by decide) (by omega)
    rw [this]; omega
  have eYm : (Y + (-1)).toInt = ((m + 1 : Nat) : Int) := ix_m1 (m := m + 1) hY (by omega)
  rw [ix_n eY1, hst (m + 1) (by omega)]
  have nx : ¬ ((op.toInt = 47 ∨ op.toInt = 37) ∧ (st (m + 1)).toInt = 0) → (j_eX1_run_302_11 (l_eX1_run_21_1 kl HI n) s kl T X Y op (st (m + 1))).1 = R ∧ ∀ k, k ≠ kl + 7 → (j_eX1_run_302_11 (l_eX1_run_21_1 kl HI n) s kl T X Y op (st (m + 1))).2.1 k = s0.1 k := by
    intro g
    rw [if_neg g] at h
    unfold j_eX1_run_302_11 j_eX1_run_337_4
    simp only [mh_lbE]
    rw [ix_n eY2, hst m (by omega), wk_c]
    refine h n _ (T + 1) (X + 1) (Y + (-1)) (t + 1) (ix_add hX (by omega) k1 (by decide)) eYm (ix_add hT (by omega) k1 (by decide)) (fun k hk => (pI_row hk).trans (hs k hk)) (fun j hj => ?_) (by omega) (by omega)
    rw [pI_v]
    by_cases g : j = m
    · rw [if_pos ⟨rfl, g⟩, g, us_w]
    · rw [if_neg (fun q => g q.2), us_o g]; exact hst j (Nat.lt_succ_of_lt hj)
  by_cases g0 : (st (m + 1)).toInt = 0
  · rw [if_pos g0]
    by_cases g1 : op.toInt = 47
    · rw [if_pos (by omega)]
      rw [if_pos ⟨Or.inl g1, g0⟩] at h
      exact ⟨h.symm, hs⟩
    · rw [if_neg (by omega)]
      by_cases g2 : op.toInt = 37
      · rw [if_pos (by omega)]
        rw [if_pos ⟨Or.inr g2, g0⟩] at h
        exact ⟨h.symm, hs⟩
      · rw [if_neg (by omega)]
        exact nx (fun q => by omega)
  · rw [if_neg g0]
    exact nx (fun q => g0 q.2)

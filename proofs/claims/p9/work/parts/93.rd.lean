/-- a law's text, read from the left: a fault (its number, its place), or what was read and the place behind it -/
abbrev mh_Qn : Type := Sum (Nat × Nat) (mh_Dn × Nat)
def rd_b (r : mh_Qn) (k : mh_Dn → Nat → mh_Qn) : mh_Qn := match r with
  | .inl f => .inl f
  | .inr x => k x.1 x.2
def rd_sg (T : Nat → Int32) (N p : Nat) : Int32 := if p < N then T p else -1
def rd_num (g : Nat → Int32) : Nat → Nat → Int32 → Nat → mh_Qn
  | 0, _, _, p => .inl (9, p)
  | n + 1, c, v, p => if 48 ≤ (g p).toInt ∧ (g p).toInt ≤ 57 then (if c < 5 then rd_num g n (c + 1) ((10 : Int32) * v + g p - 48) (p + 1) else .inl (2, p)) else .inr (fun _ => some v, p)
def rd_fac (g : Nat → Int32) (n : Nat) (rs : Nat → mh_Qn) (p : Nat) : mh_Qn :=
  if (g p).toInt = 91 then (if n = 0 then .inl (5, p) else rd_b (rs (p + 1)) (fun D q => if (g q).toInt = 93 then .inr (D, q + 1) else .inl (1, q)))
  else if 48 ≤ (g p).toInt ∧ (g p).toInt ≤ 57 then rd_num g 6 0 0 p
  else if (mh_ixf 0 (g p)).toInt < 0 then .inl (1, p)
  else .inr (fun e => some (e (mh_ixf 0 (g p)).toNatClampNeg), p + 1)
def rd_tml (g : Nat → Int32) (fac : Nat → mh_Qn) : Nat → mh_Dn → Nat → mh_Qn
  | 0, _, p => .inl (9, p)
  | n + 1, D, p => if (g p).toInt = 42 ∨ (g p).toInt = 47 ∨ (g p).toInt = 37 then rd_b (fac (p + 1)) (fun E q => rd_tml g fac n (rd_bo (g p) D E) q) else .inr (D, p)
def rd_trm (g : Nat → Int32) (fac : Nat → mh_Qn) (p : Nat) : mh_Qn := rd_b (fac p) (rd_tml g fac 222)
def rd_sml (g : Nat → Int32) (trm : Nat → mh_Qn) : Nat → mh_Dn → Nat → mh_Qn
  | 0, _, p => .inl (9, p)
  | n + 1, D, p => if (g p).toInt = 43 ∨ (g p).toInt = 45 then rd_b (trm (p + 1)) (fun E q => rd_sml g trm n (rd_bo (g p) D E) q) else .inr (D, p)
def rd_sum (g : Nat → Int32) (trm : Nat → mh_Qn) (p : Nat) : mh_Qn := rd_b (trm p) (rd_sml g trm 222)
def rd_S (g : Nat → Int32) : Nat → Nat → mh_Qn
  | 0 => fun p => .inl (9, p)
  | n + 1 => rd_sum g (rd_trm g (rd_fac g n (rd_S g n)))
def rd_cmp (g : Nat → Int32) (sum : Nat → mh_Qn) (p : Nat) : mh_Qn :=
  rd_b (sum p) (fun D q => if (g q).toInt = 60 ∨ (g q).toInt = 62 ∨ (g q).toInt = 61 then rd_b (sum (q + 1)) (fun E r => if (g r).toInt = 93 then .inl (1, r) else .inr (rd_bo (g q) D E, r)) else .inl (1, q))
def rd_pie (g : Nat → Int32) (n : Nat) (sum rch rpi : Nat → mh_Qn) (p : Nat) : mh_Qn :=
  if (g p).toInt = 33 then (if n = 0 then .inl (5, p) else rd_b (rpi (p + 1)) (fun D q => .inr (rd_ng D, q)))
  else if (g p).toInt = 40 then (if n = 0 then .inl (5, p) else rd_b (rch (p + 1)) (fun D q => if (g q).toInt = 41 then .inr (D, q + 1) else .inl (1, q)))
  else rd_cmp g sum p
def rd_ptl (g : Nat → Int32) (pie : Nat → mh_Qn) : Nat → mh_Dn → Nat → mh_Qn
  | 0, _, p => .inl (9, p)
  | n + 1, D, p => if (g p).toInt = 38 then rd_b (pie (p + 1)) (fun E q => rd_ptl g pie n (rd_an D E) q) else .inr (D, p)
def rd_prt (g : Nat → Int32) (pie : Nat → mh_Qn) (p : Nat) : mh_Qn := rd_b (pie p) (rd_ptl g pie 222)
def rd_chl (g : Nat → Int32) (prt : Nat → mh_Qn) : Nat → mh_Dn → Nat → mh_Qn
  | 0, _, p => .inl (9, p)
  | n + 1, D, p => if (g p).toInt = 124 then rd_b (prt (p + 1)) (fun E q => rd_chl g prt n (rd_or D E) q) else .inr (D, p)
def rd_chc (g : Nat → Int32) (prt : Nat → mh_Qn) (p : Nat) : mh_Qn := rd_b (prt p) (rd_chl g prt 222)
def rd_CP (g : Nat → Int32) : Nat → (Nat → mh_Qn) × (Nat → mh_Qn)
  | 0 => (fun p => .inl (9, p), fun p => .inl (9, p))
  | n + 1 => (rd_chc g (rd_prt g (rd_pie g n (rd_S g (n + 1)) (rd_CP g n).1 (rd_CP g n).2)), rd_pie g n (rd_S g (n + 1)) (rd_CP g n).1 (rd_CP g n).2)
theorem rb_l {f : Nat × Nat} {k : mh_Dn → Nat → mh_Qn} : rd_b (.inl f) k = .inl f := rfl
theorem rb_r {D : mh_Dn} {q : Nat} {k : mh_Dn → Nat → mh_Qn} : rd_b (.inr (D, q)) k = k D q := rfl
theorem rd_S_s (g : Nat → Int32) (n : Nat) : rd_S g (n + 1) = rd_sum g (rd_trm g (rd_fac g n (rd_S g n))) := rfl
theorem rd_CP_s (g : Nat → Int32) (n : Nat) : rd_CP g (n + 1) = (rd_chc g (rd_prt g (rd_pie g n (rd_S g (n + 1)) (rd_CP g n).1 (rd_CP g n).2)), rd_pie g n (rd_S g (n + 1)) (rd_CP g n).1 (rd_CP g n).2) := rfl
theorem rd_tml_s (g : Nat → Int32) (fac : Nat → mh_Qn) (n : Nat) (D : mh_Dn) (p : Nat) : rd_tml g fac (n + 1) D p = if (g p).toInt = 42 ∨ (g p).toInt = 47 ∨ (g p).toInt = 37 then rd_b (fac (p + 1)) (fun E q => rd_tml g fac n (rd_bo (g p) D E) q) else .inr (D, p) := rfl
theorem rd_sml_s (g : Nat → Int32) (trm : Nat → mh_Qn) (n : Nat) (D : mh_Dn) (p : Nat) : rd_sml g trm (n + 1) D p = if (g p).toInt = 43 ∨ (g p).toInt = 45 then rd_b (trm (p + 1)) (fun E q => rd_sml g trm n (rd_bo (g p) D E) q) else .inr (D, p) := rfl
theorem rd_ptl_s (g : Nat → Int32) (pie : Nat → mh_Qn) (n : Nat) (D : mh_Dn) (p : Nat) : rd_ptl g pie (n + 1) D p = if (g p).toInt = 38 then rd_b (pie (p + 1)) (fun E q => rd_ptl g pie n (rd_an D E) q) else .inr (D, p) := rfl
theorem rd_chl_s (g : Nat → Int32) (prt : Nat → mh_Qn) (n : Nat) (D : mh_Dn) (p : Nat) : rd_chl g prt (n + 1) D p = if (g p).toInt = 124 then rd_b (prt (p + 1)) (fun E q => rd_chl g prt n (rd_or D E) q) else .inr (D, p) := rfl
theorem rd_num_s (g : Nat → Int32) (n c : Nat) (v : Int32) (p : Nat) : rd_num g (n + 1) c v p = if 48 ≤ (g p).toInt ∧ (g p).toInt ≤ 57 then (if c < 5 then rd_num g n (c + 1) ((10 : Int32) * v + g p - 48) (p + 1) else .inl (2, p)) else .inr (fun _ => some v, p) := rfl
/-- the text: its signs -/
def mh_tx (g : Nat → Int32) (N : Nat) : Prop := (∀ p, N ≤ p → g p = -1) ∧ ∀ p, p < N → 0 ≤ (g p).toInt ∧ (g p).toInt ≤ 255
theorem sg_tx {T : Nat → Int32} {N : Nat} (h : ∀ p, p < N → 0 ≤ (T p).toInt ∧ (T p).toInt ≤ 255) : mh_tx (rd_sg T N) N :=
  ⟨fun p hp => if_neg (by omega), fun p hp => by rw [show rd_sg T N p = T p from if_pos hp]; exact h p hp⟩
theorem tx_lt {g : Nat → Int32} {N p : Nat} (h : mh_tx g N) (hp : 0 ≤ (g p).toInt) : p < N := by
  rcases Nat.lt_or_ge p N with q | q
  · exact q
  · rw [h.1 p q] at hp; exact absurd hp (by decide)
/-- what is read ok ends behind its begin, in the text -/
def mh_mo (N : Nat) (f : Nat → mh_Qn) : Prop := ∀ p D q, f p = .inr (D, q) → p < q ∧ q ≤ N
theorem b_inr {r : mh_Qn} {k : mh_Dn → Nat → mh_Qn} {x : mh_Dn × Nat} (h : rd_b r k = .inr x) : ∃ D q, r = .inr (D, q) ∧ k D q = .inr x := by
  cases r with
  | inl f => exact absurd h (by simp [rd_b])
  | inr y => exact ⟨y.1, y.2, rfl, h⟩
theorem num_mo {g : Nat → Int32} {N : Nat} (ht : mh_tx g N) : ∀ (n c : Nat) (v : Int32) (p : Nat) (D : mh_Dn) (q : Nat), rd_num g n c v p = .inr (D, q) → p ≤ q ∧ ((48 ≤ (g p).toInt ∧ (g p).toInt ≤ 57) → p < q ∧ q ≤ N)
  | 0, c, v, p, D, q, h => by exact absurd h (by simp [rd_num])
  | n + 1, c, v, p, D, q, h => by
    rw [rd_num_s] at h
    by_cases g1 : 48 ≤ (g p).toInt ∧ (g p).toInt ≤ 57
    · rw [if_pos g1] at h
      by_cases g2 : c < 5
      · rw [if_pos g2] at h
        obtain ⟨i1, i2⟩ := num_mo ht n (c + 1) _ (p + 1) D q h
        have hp := tx_lt ht (show 0 ≤ (g p).toInt by omega)
        refine ⟨by omega, fun _ => ⟨by omega, ?_⟩⟩
        by_cases g3 : 48 ≤ (g (p + 1)).toInt ∧ (g (p + 1)).toInt ≤ 57
        · exact (i2 g3).2
        · cases n with
          | zero => exact absurd h (by simp [rd_num])
          | succ n =>
            rw [rd_num_s, if_neg g3] at h
            have := (Prod.mk.inj (Sum.inr.inj h)).2
            omega
      · rw [if_neg g2] at h; exact absurd h (by simp)
    · rw [if_neg g1] at h
      have := (Prod.mk.inj (Sum.inr.inj h)).2
      exact ⟨by omega, fun q => absurd q g1⟩
theorem fac_mo {g : Nat → Int32} {N : Nat} (ht : mh_tx g N) {n : Nat} {rs : Nat → mh_Qn} (hs : n ≠ 0 → mh_mo N rs) : mh_mo N (rd_fac g n rs) := by
  intro p D q h
  unfold rd_fac at h
  by_cases g1 : (g p).toInt = 91
  · rw [if_pos g1] at h
    by_cases g2 : n = 0
    · rw [if_pos g2] at h; exact absurd h (by simp)
    · rw [if_neg g2] at h
      obtain ⟨D', q', e1, e2⟩ := b_inr h
      have := hs g2 _ _ _ e1
      by_cases g3 : (g q').toInt = 93
      · rw [if_pos g3] at e2
        have e3 := (Prod.mk.inj (Sum.inr.inj e2)).2
        have := tx_lt ht (show 0 ≤ (g q').toInt by omega)
        omega
      · rw [if_neg g3] at e2; exact absurd e2 (by simp)
  · rw [if_neg g1] at h
    by_cases g2 : 48 ≤ (g p).toInt ∧ (g p).toInt ≤ 57
    · rw [if_pos g2] at h
      exact (num_mo ht 6 0 0 p D q h).2 g2
    · rw [if_neg g2] at h
      by_cases g3 : (mh_ixf 0 (g p)).toInt < 0
      · rw [if_pos g3] at h; exact absurd h (by simp)
      · rw [if_neg g3] at h
        have e3 := (Prod.mk.inj (Sum.inr.inj h)).2
        have hp : p < N := by
          rcases Nat.lt_or_ge p N with q | q
          · exact q
          · rw [ht.1 p q] at g3; exact absurd (show (mh_ixf 0 (-1)).toInt < 0 by decide) g3
        omega
theorem tml_mo {g : Nat → Int32} {N : Nat} {fac : Nat → mh_Qn} (hf : mh_mo N fac) : ∀ (n : Nat) (D : mh_Dn) (p : Nat) (E : mh_Dn) (q : Nat), p ≤ N → rd_tml g fac n D p = .inr (E, q) → p ≤ q ∧ q ≤ N
  | 0, D, p, E, q, _, h => by exact absurd h (by simp [rd_tml])
  | n + 1, D, p, E, q, hp, h => by
    rw [rd_tml_s] at h
    split at h
    · obtain ⟨D', q', e1, e2⟩ := b_inr h
      have m1 := hf _ _ _ e1
      have := tml_mo hf n _ q' E q m1.2 e2
      omega
    · have := (Prod.mk.inj (Sum.inr.inj h)).2
      omega
theorem trm_mo {g : Nat → Int32} {N : Nat} {fac : Nat → mh_Qn} (hf : mh_mo N fac) : mh_mo N (rd_trm g fac) := by
  intro p D q h
  obtain ⟨D', q', e1, e2⟩ := b_inr h
  have m1 := hf _ _ _ e1
  have := tml_mo hf _ _ q' D q m1.2 e2
  omega
theorem sml_mo {g : Nat → Int32} {N : Nat} {trm : Nat → mh_Qn} (hf : mh_mo N trm) : ∀ (n : Nat) (D : mh_Dn) (p : Nat) (E : mh_Dn) (q : Nat), p ≤ N → rd_sml g trm n D p = .inr (E, q) → p ≤ q ∧ q ≤ N
  | 0, D, p, E, q, _, h => by exact absurd h (by simp [rd_sml])
  | n + 1, D, p, E, q, hp, h => by
    rw [rd_sml_s] at h
    split at h
    · obtain ⟨D', q', e1, e2⟩ := b_inr h
      have m1 := hf _ _ _ e1
      have := sml_mo hf n _ q' E q m1.2 e2
      omega
    · have := (Prod.mk.inj (Sum.inr.inj h)).2
      omega
theorem sum_mo {g : Nat → Int32} {N : Nat} {trm : Nat → mh_Qn} (hf : mh_mo N trm) : mh_mo N (rd_sum g trm) := by
  intro p D q h
  obtain ⟨D', q', e1, e2⟩ := b_inr h
  have m1 := hf _ _ _ e1
  have := sml_mo hf _ _ q' D q m1.2 e2
  omega
theorem S_mo {g : Nat → Int32} {N : Nat} (ht : mh_tx g N) : ∀ n, mh_mo N (rd_S g n)
  | 0 => fun p D q h => by exact absurd h (by simp [rd_S])
  | n + 1 => by
    rw [rd_S_s]
    exact sum_mo (trm_mo (fac_mo ht (fun _ => S_mo ht n)))
theorem cmp_mo {g : Nat → Int32} {N : Nat} {sum : Nat → mh_Qn} (hf : mh_mo N sum) : mh_mo N (rd_cmp g sum) := by
  intro p D q h
  obtain ⟨D', q', e1, e2⟩ := b_inr h
  have m1 := hf _ _ _ e1
  split at e2
  · obtain ⟨D2, q2, e3, e4⟩ := b_inr e2
    have m2 := hf _ _ _ e3
    split at e4
    · exact absurd e4 (by simp)
    · have := (Prod.mk.inj (Sum.inr.inj e4)).2
      omega
  · exact absurd e2 (by simp)
theorem pie_mo {g : Nat → Int32} {N : Nat} (ht : mh_tx g N) {n : Nat} {sum rch rpi : Nat → mh_Qn} (hf : mh_mo N sum) (hc : mh_mo N rch) (hp : mh_mo N rpi) : mh_mo N (rd_pie g n sum rch rpi) := by
  intro p D q h
  unfold rd_pie at h
  by_cases g1 : (g p).toInt = 33
  · rw [if_pos g1] at h
    by_cases g2 : n = 0
    · rw [if_pos g2] at h; exact absurd h (by simp)
    · rw [if_neg g2] at h
      obtain ⟨D', q', e1, e2⟩ := b_inr h
      have m1 := hp _ _ _ e1
      have := (Prod.mk.inj (Sum.inr.inj e2)).2
      omega
  · rw [if_neg g1] at h
    by_cases g3 : (g p).toInt = 40
    · rw [if_pos g3] at h
      by_cases g2 : n = 0
      · rw [if_pos g2] at h; exact absurd h (by simp)
      · rw [if_neg g2] at h
        obtain ⟨D', q', e1, e2⟩ := b_inr h
        have m1 := hc _ _ _ e1
        by_cases g4 : (g q').toInt = 41
        · rw [if_pos g4] at e2
          have e3 := (Prod.mk.inj (Sum.inr.inj e2)).2
          have := tx_lt ht (show 0 ≤ (g q').toInt by omega)
          omega
        · rw [if_neg g4] at e2; exact absurd e2 (by simp)
    · rw [if_neg g3] at h
      exact cmp_mo hf p D q h
theorem ptl_mo {g : Nat → Int32} {N : Nat} {fac : Nat → mh_Qn} (hf : mh_mo N fac) : ∀ (n : Nat) (D : mh_Dn) (p : Nat) (E : mh_Dn) (q : Nat), p ≤ N → rd_ptl g fac n D p = .inr (E, q) → p ≤ q ∧ q ≤ N
  | 0, D, p, E, q, _, h => by exact absurd h (by simp [rd_ptl])
  | n + 1, D, p, E, q, hp, h => by
    rw [rd_ptl_s] at h
    split at h
    · obtain ⟨D', q', e1, e2⟩ := b_inr h
      have m1 := hf _ _ _ e1
      have := ptl_mo hf n _ q' E q m1.2 e2
      omega
    · have := (Prod.mk.inj (Sum.inr.inj h)).2
      omega
theorem prt_mo {g : Nat → Int32} {N : Nat} {fac : Nat → mh_Qn} (hf : mh_mo N fac) : mh_mo N (rd_prt g fac) := by
  intro p D q h
  obtain ⟨D', q', e1, e2⟩ := b_inr h
  have m1 := hf _ _ _ e1
  have := ptl_mo hf _ _ q' D q m1.2 e2
  omega
theorem chl_mo {g : Nat → Int32} {N : Nat} {fac : Nat → mh_Qn} (hf : mh_mo N fac) : ∀ (n : Nat) (D : mh_Dn) (p : Nat) (E : mh_Dn) (q : Nat), p ≤ N → rd_chl g fac n D p = .inr (E, q) → p ≤ q ∧ q ≤ N
  | 0, D, p, E, q, _, h => by exact absurd h (by simp [rd_chl])
  | n + 1, D, p, E, q, hp, h => by
    rw [rd_chl_s] at h
    split at h
    · obtain ⟨D', q', e1, e2⟩ := b_inr h
      have m1 := hf _ _ _ e1
      have := chl_mo hf n _ q' E q m1.2 e2
      omega
    · have := (Prod.mk.inj (Sum.inr.inj h)).2
      omega
theorem chc_mo {g : Nat → Int32} {N : Nat} {fac : Nat → mh_Qn} (hf : mh_mo N fac) : mh_mo N (rd_chc g fac) := by
  intro p D q h
  obtain ⟨D', q', e1, e2⟩ := b_inr h
  have m1 := hf _ _ _ e1
  have := chl_mo hf _ _ q' D q m1.2 e2
  omega
theorem CP_mo {g : Nat → Int32} {N : Nat} (ht : mh_tx g N) : ∀ n, mh_mo N (rd_CP g n).1 ∧ mh_mo N (rd_CP g n).2
  | 0 => ⟨fun p D q h => by exact absurd h (by simp [rd_CP]), fun p D q h => by exact absurd h (by simp [rd_CP])⟩
  | n + 1 => by
    rw [rd_CP_s]
    have ih := CP_mo ht n
    have hp := pie_mo ht (n := n) (S_mo ht (n + 1)) ih.1 ih.2
    exact ⟨chc_mo (prt_mo hp), hp⟩
/-- what a condition says is 0 or 1 -/
def mh_mb (f : Nat → mh_Qn) : Prop := ∀ p D q, f p = .inr (D, q) → mh_b01 D
theorem cm_b {op : Int32} (h : op.toInt = 60 ∨ op.toInt = 62 ∨ op.toInt = 61) (A B : mh_Dn) : mh_b01 (rd_bo op A B) := by
  intro e x hx
  cases a : A e with
  | none => rw [bo_n1 a] at hx; exact absurd hx (by simp)
  | some y =>
    cases b : B e with
    | none => rw [bo_n2 a b] at hx; exact absurd hx (by simp)
    | some z =>
      rw [bo_s a b, if_neg (by omega)] at hx
      rw [← Option.some.inj hx]
      unfold mh_wrk
      rw [if_neg (by omega), if_neg (by omega), if_neg (by omega), if_neg (by omega), if_neg (by omega)]
      split
      · split <;> simp
      · split
        · split <;> simp
        · split <;> simp
theorem ng_b (A : mh_Dn) : mh_b01 (rd_ng A) := by
  intro e x hx
  cases a : A e with
  | none => rw [ng_n a] at hx; exact absurd hx (by simp)
  | some y =>
    rw [ng_s a] at hx
    rw [← Option.some.inj hx]
    split <;> simp
theorem an_b {A B : mh_Dn} (hA : mh_b01 A) (hB : mh_b01 B) : mh_b01 (rd_an A B) := by
  intro e x hx
  cases a : A e with
  | none => rw [an_n a] at hx; exact absurd hx (by simp)
  | some y =>
    rw [an_s a] at hx
    split at hx
    · rw [← Option.some.inj hx]; exact hA e y a
    · exact hB e x hx
theorem or_b {A B : mh_Dn} (hA : mh_b01 A) (hB : mh_b01 B) : mh_b01 (rd_or A B) := by
  intro e x hx
  cases a : A e with
  | none => rw [or_n a] at hx; exact absurd hx (by simp)
  | some y =>
    rw [or_s a] at hx
    split at hx
    · exact hB e x hx
    · rw [← Option.some.inj hx]; exact hA e y a
theorem cmp_mb {g : Nat → Int32} {sum : Nat → mh_Qn} : mh_mb (rd_cmp g sum) := by
  intro p D q h
  obtain ⟨D', q', e1, e2⟩ := b_inr h
  split at e2
  · rename_i ho
    obtain ⟨D2, q2, e3, e4⟩ := b_inr e2
    split at e4
    · exact absurd e4 (by simp)
    · rw [← (Prod.mk.inj (Sum.inr.inj e4)).1]
      exact cm_b ho _ _
  · exact absurd e2 (by simp)
theorem pie_mb {g : Nat → Int32} {n : Nat} {sum rch rpi : Nat → mh_Qn} (hc : mh_mb rch) : mh_mb (rd_pie g n sum rch rpi) := by
  intro p D q h
  unfold rd_pie at h
  by_cases g1 : (g p).toInt = 33
  · rw [if_pos g1] at h
    by_cases g2 : n = 0
    · rw [if_pos g2] at h; exact absurd h (by simp)
    · rw [if_neg g2] at h
      obtain ⟨D', q', e1, e2⟩ := b_inr h
      rw [← (Prod.mk.inj (Sum.inr.inj e2)).1]
      exact ng_b _
  · rw [if_neg g1] at h
    by_cases g3 : (g p).toInt = 40
    · rw [if_pos g3] at h
      by_cases g2 : n = 0
      · rw [if_pos g2] at h; exact absurd h (by simp)
      · rw [if_neg g2] at h
        obtain ⟨D', q', e1, e2⟩ := b_inr h
        by_cases g4 : (g q').toInt = 41
        · rw [if_pos g4] at e2
          rw [← (Prod.mk.inj (Sum.inr.inj e2)).1]
          exact hc _ _ _ e1
        · rw [if_neg g4] at e2; exact absurd e2 (by simp)
    · rw [if_neg g3] at h
      exact cmp_mb p D q h
theorem ptl_mb {g : Nat → Int32} {fac : Nat → mh_Qn} (hf : mh_mb fac) : ∀ (n : Nat) (D : mh_Dn) (p : Nat) (E : mh_Dn) (q : Nat), mh_b01 D → rd_ptl g fac n D p = .inr (E, q) → mh_b01 E
  | 0, D, p, E, q, _, h => by exact absurd h (by simp [rd_ptl])
  | n + 1, D, p, E, q, hD, h => by
    rw [rd_ptl_s] at h
    split at h
    · obtain ⟨D', q', e1, e2⟩ := b_inr h
      exact ptl_mb hf n _ q' E q (an_b hD (hf _ _ _ e1)) e2
    · rw [← (Prod.mk.inj (Sum.inr.inj h)).1]; exact hD
theorem prt_mb {g : Nat → Int32} {fac : Nat → mh_Qn} (hf : mh_mb fac) : mh_mb (rd_prt g fac) := by
  intro p D q h
  obtain ⟨D', q', e1, e2⟩ := b_inr h
  exact ptl_mb hf _ _ q' D q (hf _ _ _ e1) e2
theorem chl_mb {g : Nat → Int32} {fac : Nat → mh_Qn} (hf : mh_mb fac) : ∀ (n : Nat) (D : mh_Dn) (p : Nat) (E : mh_Dn) (q : Nat), mh_b01 D → rd_chl g fac n D p = .inr (E, q) → mh_b01 E
  | 0, D, p, E, q, _, h => by exact absurd h (by simp [rd_chl])
  | n + 1, D, p, E, q, hD, h => by
    rw [rd_chl_s] at h
    split at h
    · obtain ⟨D', q', e1, e2⟩ := b_inr h
      exact chl_mb hf n _ q' E q (or_b hD (hf _ _ _ e1)) e2
    · rw [← (Prod.mk.inj (Sum.inr.inj h)).1]; exact hD
theorem chc_mb {g : Nat → Int32} {fac : Nat → mh_Qn} (hf : mh_mb fac) : mh_mb (rd_chc g fac) := by
  intro p D q h
  obtain ⟨D', q', e1, e2⟩ := b_inr h
  exact chl_mb hf _ _ q' D q (hf _ _ _ e1) e2
theorem CP_mb {g : Nat → Int32} : ∀ n, mh_mb (rd_CP g n).1 ∧ mh_mb (rd_CP g n).2
  | 0 => ⟨fun p D q h => by exact absurd h (by simp [rd_CP]), fun p D q h => by exact absurd h (by simp [rd_CP])⟩
  | n + 1 => by
    rw [rd_CP_s]
    have hp := pie_mb (g := g) (n := n) (sum := rd_S g (n + 1)) (rch := (rd_CP g n).1) (rpi := (rd_CP g n).2) (CP_mb (g := g) n).1
    exact ⟨chc_mb (prt_mb hp), hp⟩

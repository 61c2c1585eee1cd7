/-- the class's reader writes its law and itself alone -/
def mh_FO (kl : Nat) (s0 s : mh_H) : Prop := s.2.2 56 1 = kl ∧ (∀ b, b ≠ 56 → (b < kl ∨ kl + 7 < b) → s.1 b = s0.1 b) ∧ s.2.2 0 = s0.2.2 0
theorem o_56 {kl j : Nat} {s0 s : mh_H} {x : Int32} (h : mh_FO kl s0 s) : mh_FO kl s0 (mh_pI s 56 j x) := ⟨h.1, fun b hb hc => (pI_row hb).trans (h.2.1 b hb hc), h.2.2⟩
theorem o_kl {kl i j : Nat} {s0 s : mh_H} {x : Int32} (h : mh_FO kl s0 s) (hi : i ≤ 7) : mh_FO kl s0 (mh_pI s (kl + i) j x) := ⟨h.1, fun b hb hc => (pI_row (by omega)).trans (h.2.1 b hb hc), h.2.2⟩
theorem o_k0 {kl j : Nat} {s0 s : mh_H} {x : Int32} (h : mh_FO kl s0 s) : mh_FO kl s0 (mh_pI s kl j x) := o_kl (i := 0) h (by decide)
theorem o_put2 {kl : Nat} {s0 s : mh_H} {w : Int32} (h : mh_FO kl s0 s) : mh_FO kl s0 (f_eX1_put s kl w) := by
  unfold f_eX1_put
  simp only [mh_lbE]
  split
  · exact o_k0 (o_kl h (by decide))
  · exact h
theorem o_put {kl : Nat} {s0 s : mh_H} {w : Int32} (h : mh_FO kl s0 s) : mh_FO kl s0 (f_eX1_put s (s.2.2 56 1) w) := by
  rw [h.1]; exact o_put2 h
theorem o_k10 {kl : Nat} {s0 s : mh_H} {x : Int32} (h : mh_FO kl s0 s) : mh_FO kl s0 (mh_pI s (s.2.2 56 1) 10 x) := by
  rw [h.1]; exact o_k0 h
theorem o_fail {kl : Nat} {s0 s : mh_H} {k : Int32} (h : mh_FO kl s0 s) : mh_FO kl s0 (f_eX4_fail s k).2 := by
  unfold f_eX4_fail
  simp only [mh_lbE]
  exact o_56 h
theorem o_take {kl : Nat} {s0 s : mh_H} {k : Int32} (h : mh_FO kl s0 s) : mh_FO kl s0 (f_eX4_take s k).2 := by
  unfold f_eX4_take
  simp only [mh_lbE, mh_lb2E]
  split
  · exact o_56 h
  · exact o_fail h
theorem o_pj {kl : Nat} {s0 s : mh_H} {w : Int32} (h : mh_FO kl s0 s) : mh_FO kl s0 (f_eX1_putJump s (s.2.2 56 1) w).2 := by
  rw [h.1]
  unfold f_eX1_putJump
  simp only [mh_lbE]
  exact o_put2 (o_put2 h)
theorem o_land {kl : Nat} {s0 s : mh_H} {x : Int32} (h : mh_FO kl s0 s) : mh_FO kl s0 (f_eX1_land s (s.2.2 56 1) x) := by
  rw [h.1]
  unfold f_eX1_land
  simp only [mh_lbE]
  split
  · exact h
  · exact o_kl h (by decide)
theorem o_add {kl : Nat} {s0 s : mh_H} {a b c : Int32} (h : mh_FO kl s0 s) : mh_FO kl s0 (f_eX1_addClause s (s.2.2 56 1) a b c) := by
  rw [h.1]
  unfold f_eX1_addClause
  simp only [mh_lbE]
  have fin : ∀ t : mh_H, mh_FO kl s0 t → mh_FO kl s0 (j_eX1_addClause_62_1 t kl a) := by
    intro t ht
    unfold j_eX1_addClause_62_1
    simp only [mh_lbE]
    (repeat' split) <;> exact o_k0 ht
  split
  · exact fin _ (o_k0 (o_kl (o_kl (o_kl (o_kl h (by decide)) (by decide)) (by decide)) (by decide)))
  · exact fin _ h
theorem o_num {kl : Nat} {s0 : mh_H} : ∀ (n : Nat) (s : mh_H) (x v : Int32), mh_FO kl s0 s → mh_FO kl s0 (l_eX4_readNumber_4_1 n s x v).2 := by
  intro n
  induction n with
  | zero => intro s x v h; exact h
  | succ n ih =>
    intro s x v h
    rw [l_eX4_readNumber_4_1_s]
    unfold ls_eX4_readNumber_4_1
    simp only [mh_lbE, mh_lb2E]
    (repeat' split) <;> (try dsimp only) <;> repeat (with_reducible first | exact h | apply o_put | apply ih | apply o_56 | apply o_fail)
theorem o_nu {kl : Nat} {s0 s : mh_H} (h : mh_FO kl s0 s) : mh_FO kl s0 (f_eX4_readNumber s).2 := by
  unfold f_eX4_readNumber
  simp only [mh_lbE]
  exact o_num _ s _ _ h
def mh_FR (kl : Nat) (s0 : mh_H) (rc : mh_Rc) : Prop := (∀ (s : mh_H) (x : Int32), mh_FO kl s0 s → mh_FO kl s0 (rc.1 s x).2) ∧ (∀ (s : mh_H) (x : Int32), mh_FO kl s0 s → mh_FO kl s0 (rc.2.1 s x).2) ∧ ∀ (s : mh_H) (x : Int32), mh_FO kl s0 s → mh_FO kl s0 (rc.2.2 s x).2
theorem o_fac {kl : Nat} {s0 : mh_H} {rc : mh_Rc} (hr : mh_FR kl s0 rc) {s : mh_H} {x : Int32} (h : mh_FO kl s0 s) : mh_FO kl s0 (f_eX4_readFactor rc s x).2 := by
  have h1 := hr.1
  have h2 := hr.2.1
  have h3 := hr.2.2
  unfold f_eX4_readFactor
  simp only [mh_lbE, mh_lb2E]
  (repeat' split) <;> (try dsimp only) <;> repeat (with_reducible first | exact h | apply o_56 | apply o_put | apply o_k10 | apply o_take | apply o_fail | apply o_nu | apply h1 | apply h2 | apply h3)
theorem o_tml {kl : Nat} {s0 : mh_H} {rc : mh_Rc} (hr : mh_FR kl s0 rc) {x : Int32} : ∀ (n : Nat) (s : mh_H), mh_FO kl s0 s → mh_FO kl s0 (l_eX4_readTerm_10_1 rc x n s).2 := by
  intro n
  induction n with
  | zero => intro s h; exact h
  | succ n ih =>
    intro s h
    rw [l_eX4_readTerm_10_1_s]
    unfold ls_eX4_readTerm_10_1
    simp only [mh_lbE, mh_lb2E]
    (repeat' split) <;> (try dsimp only) <;> repeat (with_reducible first | exact h | apply ih | apply o_56 | apply o_put | apply o_land | apply o_pj | apply o_fac hr)
theorem o_trm {kl : Nat} {s0 : mh_H} {rc : mh_Rc} (hr : mh_FR kl s0 rc) {s : mh_H} {x : Int32} (h : mh_FO kl s0 s) : mh_FO kl s0 (f_eX4_readTerm rc s x).2 := by
  have h1 := hr.1
  have h2 := hr.2.1
  have h3 := hr.2.2
  unfold f_eX4_readTerm
  simp only [mh_lbE, mh_lb2E]
  (repeat' split) <;> (try dsimp only) <;> repeat (with_reducible first | exact h | apply o_56 | apply o_put | apply o_k10 | apply o_take | apply o_fail | apply o_nu | apply h1 | apply h2 | apply h3 | apply o_tml hr | apply o_fac hr)
theorem o_sml {kl : Nat} {s0 : mh_H} {rc : mh_Rc} (hr : mh_FR kl s0 rc) {x : Int32} : ∀ (n : Nat) (s : mh_H), mh_FO kl s0 s → mh_FO kl s0 (l_eX4_readSum_10_1 rc x n s).2 := by
  intro n
  induction n with
  | zero => intro s h; exact h
  | succ n ih =>
    intro s h
    rw [l_eX4_readSum_10_1_s]
    unfold ls_eX4_readSum_10_1
    simp only [mh_lbE, mh_lb2E]
    (repeat' split) <;> (try dsimp only) <;> repeat (with_reducible first | exact h | apply ih | apply o_56 | apply o_put | apply o_land | apply o_pj | apply o_trm hr)
theorem o_sum {kl : Nat} {s0 : mh_H} {rc : mh_Rc} (hr : mh_FR kl s0 rc) {s : mh_H} {x : Int32} (h : mh_FO kl s0 s) : mh_FO kl s0 (f_eX4_readSum rc s x).2 := by
  have h1 := hr.1
  have h2 := hr.2.1
  have h3 := hr.2.2
  unfold f_eX4_readSum
  simp only [mh_lbE, mh_lb2E]
  (repeat' split) <;> (try dsimp only) <;> repeat (with_reducible first | exact h | apply o_56 | apply o_put | apply o_k10 | apply o_take | apply o_fail | apply o_nu | apply h1 | apply h2 | apply h3 | apply o_sml hr | apply o_trm hr)
theorem o_cpd {kl : Nat} {s0 : mh_H} {rc : mh_Rc} (hr : mh_FR kl s0 rc) {s : mh_H} {x : Int32} (h : mh_FO kl s0 s) : mh_FO kl s0 (f_eX4_readCompared rc s x).2 := by
  have h1 := hr.1
  have h2 := hr.2.1
  have h3 := hr.2.2
  unfold f_eX4_readCompared
  simp only [mh_lbE, mh_lb2E]
  (repeat' split) <;> (try dsimp only) <;> repeat (with_reducible first | exact h | apply o_56 | apply o_put | apply o_k10 | apply o_take | apply o_fail | apply o_nu | apply h1 | apply h2 | apply h3 | apply o_sum hr)
theorem o_pie {kl : Nat} {s0 : mh_H} {rc : mh_Rc} (hr : mh_FR kl s0 rc) {s : mh_H} {x : Int32} (h : mh_FO kl s0 s) : mh_FO kl s0 (f_eX4_readPiece rc s x).2 := by
  have h1 := hr.1
  have h2 := hr.2.1
  have h3 := hr.2.2
  unfold f_eX4_readPiece
  simp only [mh_lbE, mh_lb2E]
  (repeat' split) <;> (try dsimp only) <;> repeat (with_reducible first | exact h | apply o_56 | apply o_put | apply o_k10 | apply o_take | apply o_fail | apply o_nu | apply h1 | apply h2 | apply h3 | apply o_cpd hr | apply o_sum hr)
theorem o_ptl {kl : Nat} {s0 : mh_H} {rc : mh_Rc} (hr : mh_FR kl s0 rc) {x : Int32} : ∀ (n : Nat) (s : mh_H), mh_FO kl s0 s → mh_FO kl s0 (l_eX4_readPart_10_1 rc x n s).2 := by
  intro n
  induction n with
  | zero => intro s h; exact h
  | succ n ih =>
    intro s h
    rw [l_eX4_readPart_10_1_s]
    unfold ls_eX4_readPart_10_1
    simp only [mh_lbE, mh_lb2E]
    (repeat' split) <;> (try dsimp only) <;> repeat (with_reducible first | exact h | apply ih | apply o_56 | apply o_put | apply o_land | apply o_pj | apply o_pie hr)
theorem o_prt {kl : Nat} {s0 : mh_H} {rc : mh_Rc} (hr : mh_FR kl s0 rc) {s : mh_H} {x : Int32} (h : mh_FO kl s0 s) : mh_FO kl s0 (f_eX4_readPart rc s x).2 := by
  have h1 := hr.1
  have h2 := hr.2.1
  have h3 := hr.2.2
  unfold f_eX4_readPart
  simp only [mh_lbE, mh_lb2E]
  (repeat' split) <;> (try dsimp only) <;> repeat (with_reducible first | exact h | apply o_56 | apply o_put | apply o_k10 | apply o_take | apply o_fail | apply o_nu | apply h1 | apply h2 | apply h3 | apply o_ptl hr | apply o_pie hr)
theorem o_chl {kl : Nat} {s0 : mh_H} {rc : mh_Rc} (hr : mh_FR kl s0 rc) {x : Int32} : ∀ (n : Nat) (s : mh_H), mh_FO kl s0 s → mh_FO kl s0 (l_eX4_readChoice_10_1 rc x n s).2 := by
  intro n
  induction n with
  | zero => intro s h; exact h
  | succ n ih =>
    intro s h
    rw [l_eX4_readChoice_10_1_s]
    unfold ls_eX4_readChoice_10_1
    simp only [mh_lbE, mh_lb2E]
    (repeat' split) <;> (try dsimp only) <;> repeat (with_reducible first | exact h | apply ih | apply o_56 | apply o_put | apply o_land | apply o_pj | apply o_prt hr)
theorem o_chc {kl : Nat} {s0 : mh_H} {rc : mh_Rc} (hr : mh_FR kl s0 rc) {s : mh_H} {x : Int32} (h : mh_FO kl s0 s) : mh_FO kl s0 (f_eX4_readChoice rc s x).2 := by
  have h1 := hr.1
  have h2 := hr.2.1
  have h3 := hr.2.2
  unfold f_eX4_readChoice
  simp only [mh_lbE, mh_lb2E]
  (repeat' split) <;> (try dsimp only) <;> repeat (with_reducible first | exact h | apply o_56 | apply o_put | apply o_k10 | apply o_take | apply o_fail | apply o_nu | apply h1 | apply h2 | apply h3 | apply o_chl hr | apply o_prt hr)
theorem o_rc {kl : Nat} {s0 : mh_H} : ∀ n : Nat, mh_FR kl s0 (mh_rcN n)
  | 0 => ⟨fun s x h => h, fun s x h => h, fun s x h => h⟩
  | n + 1 => by
    have ih := o_rc (kl := kl) (s0 := s0) n
    rw [show mh_rcN (n + 1) = (f_eX4_readSum (mh_rcN n), f_eX4_readChoice (mh_rcN n), f_eX4_readPiece (mh_rcN n)) from rfl]
    exact ⟨fun s x h => o_sum ih h, fun s x h => o_chc ih h, fun s x h => o_pie ih h⟩
theorem o_cla {kl : Nat} {s0 s : mh_H} (h : mh_FO kl s0 s) : mh_FO kl s0 (f_eX4_readClause s).2 := by
  have a := (o_rc (kl := kl) (s0 := s0) 7).1
  have b := (o_rc (kl := kl) (s0 := s0) 6).2.1
  unfold f_eX4_readClause
  generalize mh_rcN 7 = r7 at a ⊢
  generalize mh_rcN 6 = r6 at b ⊢
  simp only [mh_lbE, mh_lb2E]
  (repeat' split) <;> (try dsimp only) <;> repeat (with_reducible first | exact h | apply o_56 | apply o_add | apply o_take | apply o_fail | apply a | apply b)
theorem o_rdl {kl : Nat} {s0 : mh_H} : ∀ (n : Nat) (s : mh_H) (x : Int32), mh_FO kl s0 s → mh_FO kl s0 (l_eX4_read_34_1 kl n s x).2 := by
  intro n
  induction n with
  | zero => intro s x h; exact h
  | succ n ih =>
    intro s x h
    rw [l_eX4_read_34_1_s]
    unfold ls_eX4_read_34_1
    simp only [mh_lbE, mh_lb2E]
    (repeat' split) <;> (try dsimp only) <;> repeat (with_reducible first | exact h | apply ih | apply o_take | apply o_cla)
theorem o_read {kl : Nat} {s : mh_H} {p : Int32} : mh_FO kl s (f_eX4_read s kl p).2 := by
  unfold f_eX4_read f_eX1_clear
  simp only [mh_lbE]
  refine o_rdl _ _ _ (o_k0 (o_k0 (o_k0 (o_k0 (o_56 (o_56 (o_56 ⟨rfl, fun _ _ _ => rfl, ?_⟩)))))))
  rfl

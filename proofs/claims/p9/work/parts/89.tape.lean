/-- the tape: a byte of a number -/
def mh_byt (p k : Int32) : Int32 := (Int32.toUInt32 p >>> (Int32.toUInt32 k &&& Int32.toUInt32 31)).toInt32 &&& (255 : Int32)
theorem by_nar (x : Int32) : vp_nar .byte x = Int8.toInt32 (Int32.toInt8 x) := rfl
theorem by_eq (p k : Int32) (hk : k = 24 ∨ k = 16 ∨ k = 8 ∨ k = 0) : (vp_nar .byte (Int8.toInt32 (Int32.toInt8 (p >>> (k &&& 31))))) &&& 255 = mh_byt p k := by
  unfold mh_byt
  rw [by_nar]
  apply Int32.toBitVec_inj.mp
  rcases hk with rfl | rfl | rfl | rfl
  all_goals
    apply BitVec.eq_of_getLsbD_eq
    intro i hi
    simp only [Int32.toBitVec_and, Int32.toBitVec_shiftRight, Int8.toBitVec_toInt32, Int32.toBitVec_toInt8, UInt32.toBitVec_toInt32, UInt32.toBitVec_shiftRight, Int32.toBitVec_toUInt32, UInt32.toBitVec_and]
    rcases Nat.lt_or_ge i 8 with g | g
    · have : i = 0 ∨ i = 1 ∨ i = 2 ∨ i = 3 ∨ i = 4 ∨ i = 5 ∨ i = 6 ∨ i = 7 := by omega
      rcases this with rfl | rfl | rfl | rfl | rfl | rfl | rfl | rfl <;> simp [BitVec.getElem_signExtend, BitVec.getElem_sshiftRight, BitVec.getLsbD_signExtend, BitVec.getLsbD_sshiftRight, BitVec.getLsbD_setWidth, BitVec.getLsbD_ushiftRight]
    · have : (255#32).getLsbD i = false := by
        have h2 : i < 32 := hi
        have h3 : i = 8 ∨ i = 9 ∨ i = 10 ∨ i = 11 ∨ i = 12 ∨ i = 13 ∨ i = 14 ∨ i = 15 ∨ i = 16 ∨ i = 17 ∨ i = 18 ∨ i = 19 ∨ i = 20 ∨ i = 21 ∨ i = 22 ∨ i = 23 ∨ i = 24 ∨ i = 25 ∨ i = 26 ∨ i = 27 ∨ i = 28 ∨ i = 29 ∨ i = 30 ∨ i = 31 := by omega
        rcases h3 with rfl | rfl | rfl | rfl | rfl | rfl | rfl | rfl | rfl | rfl | rfl | rfl | rfl | rfl | rfl | rfl | rfl | rfl | rfl | rfl | rfl | rfl | rfl | rfl <;> rfl
      rw [BitVec.getLsbD_and, BitVec.getLsbD_and]
      have e : (Int32.toBitVec 255) = 255#32 := rfl
      rw [e, this, Bool.and_false, Bool.and_false]
def mh_tu (r : Nat → Int32) (m : Nat) (x : Int32) (i : Nat) : Int32 := if i = m then x else r i
def mh_tpe (r : Nat → Int32) (m : Nat) (p : Int32) : Nat → Int32 := mh_tu (mh_tu (mh_tu (mh_tu r m (mh_byt p 24)) (m + 1) (mh_byt p 16)) (m + 2) (mh_byt p 8)) (m + 3) (mh_byt p 0)
def mh_cT (m : Nat) (r : Nat → Int32) (s : mh_H) : Prop := (s.1 37 1).toInt = (m : Int) ∧ ∀ i, s.1 38 i = r i
def mh_rT (m : Nat) (r : Nat → Int32) (s : mh_H) : Prop := (s.1 57 1).toInt = (m : Int) ∧ ∀ i, s.1 58 i &&& 255 = r i
theorem cT_1 {m : Nat} {r : Nat → Int32} {s : mh_H} {p x : Int32} (h : mh_cT m r s) (hm : m < 220) (hx : 0 ≤ x.toInt) (n : Nat) : ∃ s', mh_cT (m + 1) (mh_tu r m (mh_byt p x)) s' ∧ l_eX7_put_3_1 p (n + 1) s x = l_eX7_put_3_1 p n s' (x + (-8)) := by
  have k1 : (1 : Int32).toInt = ((1 : Nat) : Int) := rfl
  have k2 : (220 : Int32).toInt = 220 := rfl
  refine ⟨mh_pI (mh_pI s 38 m (mh_byt p x)) 37 1 (s.1 37 1 + 1), ⟨?_, fun i => ?_⟩, ?_⟩
  · rw [pI_w]; exact ix_add h.1 (by omega) k1 (by decide)
  · rw [pI_o (by decide), pI_v]
    show (if 38 = 38 ∧ i = m then mh_byt p x else s.1 38 i) = if i = m then mh_byt p x else r i
    by_cases g : i = m
    · rw [if_pos ⟨rfl, g⟩, if_pos g]
    · rw [if_neg (fun t => g t.2), if_neg g]; exact h.2 i
  · rw [l_eX7_put_3_1_s]
    unfold ls_eX7_put_3_1
    rw [if_neg (by omega)]
    simp only [mh_lbE]
    have h1 := h.1
    rw [if_pos (by omega), ix_n h.1]
    rfl
theorem cT_0 {p x : Int32} {s : mh_H} (hx : x.toInt < 0) (n : Nat) : l_eX7_put_3_1 p (n + 1) s x = s := by
  rw [l_eX7_put_3_1_s]
  unfold ls_eX7_put_3_1
  rw [if_pos hx]
theorem cT_p {m : Nat} {r : Nat → Int32} {s : mh_H} (p : Int32) (h : mh_cT m r s) (hm : m ≤ 216) : mh_cT (m + 4) (mh_tpe r m p) (f_eX7_put s p) := by
  unfold f_eX7_put
  obtain ⟨n, hn⟩ : ∃ n : Nat, n = 28 := ⟨_, rfl⟩
  rw [show (33 : Nat) = n + 1 + 1 + 1 + 1 + 1 by omega]
  obtain ⟨s1, a1, b1⟩ := cT_1 (p := p) (x := 24) h (by omega) (by decide) (n + 1 + 1 + 1 + 1)
  rw [b1, show (24 : Int32) + (-8) = 16 from rfl]
  obtain ⟨s2, a2, b2⟩ := cT_1 (p := p) (x := 16) a1 (by omega) (by decide) (n + 1 + 1 + 1)
  rw [b2, show (16 : Int32) + (-8) = 8 from rfl]
  obtain ⟨s3, a3, b3⟩ := cT_1 (p := p) (x := 8) a2 (by omega) (by decide) (n + 1 + 1)
  rw [b3, show (8 : Int32) + (-8) = 0 from rfl]
  obtain ⟨s4, a4, b4⟩ := cT_1 (p := p) (x := 0) a3 (by omega) (by decide) (n + 1)
  rw [b4, show (0 : Int32) + (-8) = -8 from rfl, cT_0 (by decide)]
  exact a4
theorem rT_1 {m : Nat} {r : Nat → Int32} {s : mh_H} {p x : Int32} (h : mh_rT m r s) (hm : m < 220) (hx : x = 24 ∨ x = 16 ∨ x = 8 ∨ x = 0) (n : Nat) : ∃ s', mh_rT (m + 1) (mh_tu r m (mh_byt p x)) s' ∧ l_eX10_push_3_1 p (n + 1) s x = l_eX10_push_3_1 p n s' (x + (-8)) := by
  have k1 : (1 : Int32).toInt = ((1 : Nat) : Int) := rfl
  have hx0 : ¬ x.toInt < 0 := by rcases hx with rfl | rfl | rfl | rfl <;> decide
  refine ⟨mh_pI (mh_pI s 58 m (vp_nar .byte (Int8.toInt32 (Int32.toInt8 (p >>> (x &&& 31)))))) 57 1 (s.1 57 1 + 1), ⟨?_, fun i => ?_⟩, ?_⟩
  · rw [pI_w]; exact ix_add h.1 (by omega) k1 (by decide)
  · rw [pI_o (by decide), pI_v]
    by_cases g : i = m
    · rw [if_pos ⟨rfl, g⟩, by_eq p x hx]
      exact (if_pos g).symm
    · rw [if_neg (fun t => g t.2)]
      exact (h.2 i).trans (if_neg g).symm
  · rw [l_eX10_push_3_1_s]
    unfold ls_eX10_push_3_1
    rw [if_neg hx0]
    simp only [mh_lbE]
    rw [ix_n h.1]
theorem rT_0 {p x : Int32} {s : mh_H} (hx : x.toInt < 0) (n : Nat) : l_eX10_push_3_1 p (n + 1) s x = s := by
  rw [l_eX10_push_3_1_s]
  unfold ls_eX10_push_3_1
  rw [if_pos hx]
theorem rT_p {m : Nat} {r : Nat → Int32} {s : mh_H} (p : Int32) (h : mh_rT m r s) (hm : m ≤ 216) : mh_rT (m + 4) (mh_tpe r m p) (f_eX10_push s p) := by
  unfold f_eX10_push
  obtain ⟨n, hn⟩ : ∃ n : Nat, n = 28 := ⟨_, rfl⟩
  rw [show (33 : Nat) = n + 1 + 1 + 1 + 1 + 1 by omega]
  obtain ⟨s1, a1, b1⟩ := rT_1 (p := p) (x := 24) h (by omega) (by decide) (n + 1 + 1 + 1 + 1)
  rw [b1, show (24 : Int32) + (-8) = 16 from rfl]
  obtain ⟨s2, a2, b2⟩ := rT_1 (p := p) (x := 16) a1 (by omega) (by decide) (n + 1 + 1 + 1)
  rw [b2, show (16 : Int32) + (-8) = 8 from rfl]
  obtain ⟨s3, a3, b3⟩ := rT_1 (p := p) (x := 8) a2 (by omega) (by decide) (n + 1 + 1)
  rw [b3, show (8 : Int32) + (-8) = 0 from rfl]
  obtain ⟨s4, a4, b4⟩ := rT_1 (p := p) (x := 0) a3 (by omega) (by decide) (n + 1)
  rw [b4, show (0 : Int32) + (-8) = -8 from rfl, rT_0 (by decide)]
  exact a4
def rl_Z (σ : mh_H) : Prop := ∃ m r, m ≤ 220 ∧ mh_cT m r σ ∧ mh_rT m r σ
theorem cT_c {m : Nat} {r : Nat → Int32} {s s' : mh_H} (h : mh_cT m r s) (h1 : s'.1 37 1 = s.1 37 1) (h2 : s'.1 38 = s.1 38) : mh_cT m r s' := ⟨by rw [h1]; exact h.1, fun i => by rw [h2]; exact h.2 i⟩
theorem rT_c {m : Nat} {r : Nat → Int32} {s s' : mh_H} (h : mh_rT m r s) (h1 : s'.1 57 1 = s.1 57 1) (h2 : s'.1 58 = s.1 58) : mh_rT m r s' := ⟨by rw [h1]; exact h.1, fun i => by rw [h2]; exact h.2 i⟩
theorem feed_Z {σ s1 s2 : mh_H} {S0 S1 : List (Nat × Nat)} (h : rl_Z σ) (F0 : mh_F S0 σ s1) (F1 : mh_F S1 s1 s2) (e0 : S0 = [(38, 9999), (37, 1)]) (e1 : S1 = [(58, 9999), (57, 1)]) {p1 p2 p3 p4 p5 z0 z1 : Int32} (E0 : f_eX9_feed σ p1 p2 p3 p4 p5 = (z0, s1)) (E1 : f_eX10_feed s1 p1 p2 p3 p4 p5 = (z1, s2)) : z0 = z1 ∧ rl_Z s2 := by
  subst e0; subst e1
  obtain ⟨m, r, hm, hc, hr⟩ := h
  have hr1 : mh_rT m r s1 := rT_c hr (F_at1 F0 (by decide)) (F_row1 F0 (by decide))
  have k200 : (200 : Int32).toInt = 200 := rfl
  have k220 : (220 : Int32).toInt = 220 := rfl
  have k20 : (20 : Int32).toInt = ((20 : Nat) : Int) := rfl
  have hc1 := hc.1
  have hr11 := ix_add hr1.1 (by omega) k20 (by decide)
  unfold f_eX9_feed at E0
  unfold f_eX10_feed at E1
  simp only [mh_lbE] at E0 E1
  by_cases g : m ≤ 200
  · rw [if_neg (by omega)] at E0
    rw [if_neg (by omega)] at E1
    have c5 := cT_p p5 (cT_p p4 (cT_p p3 (cT_p p2 (cT_p p1 hc (by omega)) (by omega)) (by omega)) (by omega)) (by omega)
    have r5 := rT_p p5 (rT_p p4 (rT_p p3 (rT_p p2 (rT_p p1 hr1 (by omega)) (by omega)) (by omega)) (by omega)) (by omega)
    obtain ⟨rfl, rfl⟩ := Prod.mk.inj E0
    obtain ⟨rfl, rfl⟩ := Prod.mk.inj E1
    refine ⟨Int32.toInt_inj.mp (c5.1.trans r5.1.symm), _, _, ?_, cT_c c5 (F_at1 F1 (by decide)) (F_row1 F1 (by decide)), r5⟩
    omega
  · rw [if_pos (by omega)] at E0
    rw [if_pos (by omega)] at E1
    obtain ⟨rfl, rfl⟩ := Prod.mk.inj E0
    obtain ⟨rfl, rfl⟩ := Prod.mk.inj E1
    exact ⟨rfl, m, r, hm, hc, hr1⟩
theorem ck_s9 (s : mh_H) (p1 p2 : Int32) : ∀ (n : Nat) (x : Int32), (l_eX9_check_44_1 s p1 p2 n x).2 = s := by
  intro n
  induction n with
  | zero => intro x; rfl
  | succ n ih =>
    intro x
    rw [l_eX9_check_44_1_s]
    unfold ls_eX9_check_44_1
    simp only [mh_lbE]
    split
    · split
      · exact ih _
      · rfl
    · rfl
theorem ck_s10 (s : mh_H) (p1 p2 : Int32) : ∀ (n : Nat) (x : Int32), (l_eX10_check_39_1 s p1 p2 n x).2 = s := by
  intro n
  induction n with
  | zero => intro x; rfl
  | succ n ih =>
    intro x
    rw [l_eX10_check_39_1_s]
    unfold ls_eX10_check_39_1
    simp only [mh_lbE]
    split
    · split
      · exact ih _
      · rfl
    · rfl
theorem zp_clr {m : Nat} {r : Nat → Int32} {s : mh_H} (h : mh_cT m r s) : mh_cT 0 r (mh_pI s 37 1 0) := ⟨by rw [pI_w]; rfl, fun i => by rw [pI_o (by decide)]; exact h.2 i⟩
theorem zp_clrR {m : Nat} {r : Nat → Int32} {s : mh_H} (h : mh_rT m r s) : mh_rT 0 r (mh_pI s 57 1 0) := ⟨by rw [pI_w]; rfl, fun i => by rw [pI_o (by decide)]; exact h.2 i⟩
theorem fq_side (s : mh_H) (a : Int32) : ((f_eX10_isSide s a).toInt = 0) ↔ ¬ (0 ≤ a.toInt ∧ a.toInt ≤ 11) := by
  unfold f_eX10_isSide
  simp only [mh_lbE]
  have h := fq_lies s (Int32.toInt64 a) 0 11
  rw [Int32.toInt_toInt64, show (0 : Int64).toInt = 0 from rfl, show (11 : Int64).toInt = 11 from rfl] at h
  exact h
/-- check, both sides: when it reads the tape, and what it leaves -/
theorem ck_9 {m : Nat} {r : Nat → Int32} {s : mh_H} (h : mh_cT m r s) (hm : m ≤ 220) (p1 p2 : Int32) : f_eX9_check s p1 p2 = if (0 ≤ p1.toInt ∧ p1.toInt ≤ 11) ∧ (0 ≤ p2.toInt ∧ p2.toInt ≤ 12) ∧ 4 * p2.toInt ≤ (m : Int) then l_eX9_check_44_1 (mh_pI s 37 1 0) p1 p2 13 0 else (-2, s) := by
  unfold f_eX9_check
  simp only [mh_lbE]
  obtain ⟨n, hn⟩ : ∃ n : Nat, n = 13 := ⟨_, rfl⟩
  rw [show (13 : Nat) = n by omega]
  have w1 := fq_within s p1 11
  have w2 := fq_within s p2 12
  have k11 : (11 : Int32).toInt = 11 := rfl
  have k12 : (12 : Int32).toInt = 12 := rfl
  have h1 := h.1
  by_cases c1 : 0 ≤ p1.toInt ∧ p1.toInt ≤ 11
  · rw [if_neg (fun g => w1.1 g (by omega))]
    by_cases c2 : 0 ≤ p2.toInt ∧ p2.toInt ≤ 12
    · rw [if_neg (fun g => w2.1 g (by omega))]
      have e4 : ((4 : Int32) * p2).toInt = 4 * p2.toInt := by
        have k4 : (4 : Int32).toInt = 4 := rfl
        rw [Int32.toInt_mul, k4, Int.bmod_eq_of_le (by omega) (by omega)]
      by_cases c3 : 4 * p2.toInt ≤ (m : Int)
      · rw [if_neg (by omega), if_pos ⟨c1, c2, c3⟩]
      · rw [if_pos (by omega), if_neg (fun g => c3 g.2.2)]
    · rw [if_pos (w2.2 (by omega)), if_neg (fun g => c2 g.2.1)]
  · rw [if_pos (w1.2 (by omega)), if_neg (fun g => c1 g.1)]
theorem ck_10 {m : Nat} {r : Nat → Int32} {s : mh_H} (h : mh_rT m r s) (hm : m ≤ 220) (p1 p2 : Int32) : f_eX10_check s p1 p2 = if (0 ≤ p1.toInt ∧ p1.toInt ≤ 11) ∧ (0 ≤ p2.toInt ∧ p2.toInt ≤ 12) ∧ 4 * p2.toInt ≤ (m : Int) then l_eX10_check_39_1 (mh_pI s 57 1 0) p1 p2 15 0 else (-2, s) := by
  unfold f_eX10_check
  simp only [mh_lbE]
  obtain ⟨n, hn⟩ : ∃ n : Nat, n = 15 := ⟨_, rfl⟩
  rw [show (15 : Nat) = n by omega]
  have w1 := fq_side s p1
  have w2 := fq_lies s (Int32.toInt64 p2) 0 12
  rw [Int32.toInt_toInt64, show (0 : Int64).toInt = 0 from rfl, show (12 : Int64).toInt = 12 from rfl] at w2
  have h1 := h.1
  by_cases c1 : 0 ≤ p1.toInt ∧ p1.toInt ≤ 11
  · rw [if_neg (fun g => w1.1 g c1)]
    by_cases c2 : 0 ≤ p2.toInt ∧ p2.toInt ≤ 12
    · rw [if_neg (fun g => w2.1 g c2)]
      have e4 : (s.1 57 1 / 4).toInt = (m : Int) / 4 := by
        have k4 : (4 : Int32).toInt = 4 := rfl
        rw [Int32.toInt_div, k4, h1, Int.tdiv_eq_ediv_of_nonneg (by omega), Int.bmod_eq_of_le (by omega) (by omega)]
      by_cases c3 : 4 * p2.toInt ≤ (m : Int)
      · rw [if_neg (by omega), if_pos ⟨c1, c2, c3⟩]
      · rw [if_pos (by omega), if_neg (fun g => c3 g.2.2)]
    · rw [if_pos (w2.2 c2), if_neg (fun g => c2 g.2.1)]
  · rw [if_pos (w1.2 c1), if_neg (fun g => c1 g.1)]
theorem check_Z {σ s1 s2 : mh_H} (h : rl_Z σ) {p1 p2 z0 z1 : Int32} (E0 : f_eX9_check σ p1 p2 = (z0, s1)) (E1 : f_eX10_check s1 p1 p2 = (z1, s2)) : True ∧ rl_Z s2 := by
  refine ⟨trivial, ?_⟩
  obtain ⟨m, r, hm, hc, hr⟩ := h
  rw [ck_9 hc hm] at E0
  by_cases g : (0 ≤ p1.toInt ∧ p1.toInt ≤ 11) ∧ (0 ≤ p2.toInt ∧ p2.toInt ≤ 12) ∧ 4 * p2.toInt ≤ (m : Int)
  · rw [if_pos g] at E0
    have q0 := ck_s9 (mh_pI σ 37 1 0) p1 p2 13 0
    rw [E0] at q0
    have q0 : s1 = mh_pI σ 37 1 0 := q0
    have hr1 : mh_rT m r s1 := rT_c hr (by rw [q0, pI_o (by decide)]) (by rw [q0]; funext i; rw [pI_o (by decide)])
    have hc1 : mh_cT 0 r s1 := by rw [q0]; exact zp_clr hc
    rw [ck_10 hr1 hm, if_pos g] at E1
    have q1 := ck_s10 (mh_pI s1 57 1 0) p1 p2 15 0
    rw [E1] at q1
    have q1 : s2 = mh_pI s1 57 1 0 := q1
    refine ⟨0, r, by decide, ?_, ?_⟩
    · exact cT_c hc1 (by rw [q1, pI_o (by decide)]) (by rw [q1]; funext i; rw [pI_o (by decide)])
    · rw [q1]; exact zp_clrR hr1
  · rw [if_neg g] at E0
    obtain ⟨-, rfl⟩ := Prod.mk.inj E0
    rw [ck_10 hr hm, if_neg g] at E1
    obtain ⟨-, rfl⟩ := Prod.mk.inj E1
    exact ⟨m, r, hm, hc, hr⟩
/-- law: when it takes the tape -/
theorem lw_9 {m : Nat} {r : Nat → Int32} {s : mh_H} (h : mh_cT m r s) (p : Int32) {z : Int32} {s1 : mh_H} (E : f_eX9_law s p = (z, s1)) : if 1 ≤ p.toInt ∧ p.toInt ≤ 200 ∧ p.toInt ≤ (m : Int) then s1.1 37 1 = 0 else s1 = s := by
  unfold f_eX9_law at E
  simp only [mh_lbE, mh_lb2E] at E
  have k1 : (1 : Int32).toInt = 1 := rfl
  have k2 : (200 : Int32).toInt = 200 := rfl
  have h1 := h.1
  by_cases c1 : p.toInt < 1
  · rw [if_pos (by omega)] at E
    rw [if_neg (by omega)]
    exact (Prod.mk.inj E).2.symm
  · rw [if_neg (by omega)] at E
    by_cases c2 : 200 < p.toInt
    · rw [if_pos (by omega)] at E
      rw [if_neg (by omega)]
      exact (Prod.mk.inj E).2.symm
    · rw [if_neg (by omega)] at E
      by_cases c3 : (m : Int) < p.toInt
      · rw [if_pos (by omega)] at E
        rw [if_neg (by omega)]
        exact (Prod.mk.inj E).2.symm
      · rw [if_neg (by omega)] at E
        rw [if_pos (by omega)]
        generalize f_eX4_read s (s.2.2 0 12) p = q at E
        split at E
        · rw [← (Prod.mk.inj E).2]
          show (mh_pI q.2 37 1 0).1 37 1 = 0
          rw [pI_w]
        · rw [← (Prod.mk.inj E).2]
          show (mh_pI q.2 37 1 0).1 37 1 = 0
          rw [pI_w]
theorem lw_10 {m : Nat} {r : Nat → Int32} {s : mh_H} (h : mh_rT m r s) (hp3 : mh_p3 s) (p : Int32) {z : Int32} {s1 : mh_H} (E : f_eX10_law s p = (z, s1)) : if 1 ≤ p.toInt ∧ p.toInt ≤ 200 ∧ p.toInt ≤ (m : Int) then s1.1 57 1 = 0 else s1 = s := by
  unfold f_eX10_law at E
  simp only [mh_lbE] at E
  have w1 := fq_lies s (Int32.toInt64 p) 1 200
  rw [Int32.toInt_toInt64, show (1 : Int64).toInt = 1 from rfl, show (200 : Int64).toInt = 200 from rfl] at w1
  have h1 := h.1
  by_cases c1 : 1 ≤ p.toInt ∧ p.toInt ≤ 200
  · rw [if_neg (fun g => w1.1 g c1)] at E
    by_cases c3 : (m : Int) < p.toInt
    · rw [if_pos (by omega)] at E
      rw [if_neg (by omega)]
      exact (Prod.mk.inj E).2.symm
    · rw [if_neg (by omega)] at E
      rw [if_pos (by omega)]
      have e0 : (mh_pI (mh_pI (mh_pI (mh_pI (mh_pI (mh_pI s 57 1 0) 57 23 0) 57 24 p) 57 25 0) 57 26 0) 57 27 0).1 57 1 = 0 := by
        rw [pI_j (by decide), pI_j (by decide), pI_j (by decide), pI_j (by decide), pI_j (by decide), pI_w]
      have e3 : mh_p3 (mh_pI (mh_pI (mh_pI (mh_pI (mh_pI (mh_pI s 57 1 0) 57 23 0) 57 24 p) 57 25 0) 57 26 0) 57 27 0) := hp3
      generalize mh_pI (mh_pI (mh_pI (mh_pI (mh_pI (mh_pI s 57 1 0) 57 23 0) 57 24 p) 57 25 0) 57 26 0) 57 27 0 = q at E e0 e3
      obtain ⟨n, hn⟩ : ∃ n : Nat, n = 806 := ⟨_, rfl⟩
      rw [show (806 : Nat) = n by omega] at E
      have f := fq_l_eX10_law_54_1 q e3 n q 1 ⟨mh_F_rf, e3⟩
      rw [E] at f
      rw [F_at1 f.1 (by decide)]
      exact e0
  · rw [if_pos (w1.2 c1)] at E
    rw [if_neg (fun g => c1 ⟨g.1, g.2.1⟩)]
    exact (Prod.mk.inj E).2.symm
theorem law_Z {B D : Int} {σ s1 s2 : mh_H} (h : rl_Z σ) (hI : mh_I B D s1) (F0 : mh_F S_eX9_law σ s1) (F1 : mh_F S_eX10_law s1 s2) {p z0 z1 : Int32} (E0 : f_eX9_law σ p = (z0, s1)) (E1 : f_eX10_law s1 p = (z1, s2)) : True ∧ rl_Z s2 := by
  refine ⟨trivial, ?_⟩
  obtain ⟨m, r, hm, hc, hr⟩ := h
  have hr1 : mh_rT m r s1 := rT_c hr (F_at1 F0 (by decide)) (F_row1 F0 (by decide))
  have q0 := lw_9 hc p E0
  have q1 := lw_10 hr1 (mh_I_p3 hI) p E1
  have e38 : s1.1 38 = σ.1 38 := F_row1 F0 (by decide)
  have e38' : s2.1 38 = s1.1 38 := F_row1 F1 (by decide)
  have e37' : s2.1 37 1 = s1.1 37 1 := F_at1 F1 (by decide)
  have e58 : s2.1 58 = s1.1 58 := F_row1 F1 (by decide)
  by_cases g : 1 ≤ p.toInt ∧ p.toInt ≤ 200 ∧ p.toInt ≤ (m : Int)
  · rw [if_pos g] at q0 q1
    refine ⟨0, r, by decide, ⟨?_, fun i => ?_⟩, ⟨?_, fun i => ?_⟩⟩
    · rw [e37', q0]; rfl
    · rw [e38', e38]; exact hc.2 i
    · rw [q1]; rfl
    · rw [e58]; exact hr1.2 i
  · rw [if_neg g] at q0 q1
    subst q1
    subst q0
    exact ⟨m, r, hm, hc, hr⟩
def rl_cellZ (e : Nat × Nat) : Bool := e.1 == 38 || e.1 == 58 || (e.1 == 37 && (e.2 == 1 || e.2 == 9999)) || (e.1 == 57 && (e.2 == 1 || e.2 == 9999))
theorem rl_Z_keep {S : List (Nat × Nat)} {σ σ2 : mh_H} (hF : mh_F S σ σ2) (hS : S.all (fun e => !(rl_cellZ e)) = true) (h : rl_Z σ) : rl_Z σ2 := by
  obtain ⟨m, r, hm, hc, hr⟩ := h
  have no : ∀ e ∈ S, rl_cellZ e = false := fun e he => by
    have h4 := List.all_eq_true.mp hS e he
    cases g : rl_cellZ e
    · rfl
    · rw [g] at h4; exact absurd h4 (by decide)
  have row : ∀ k, (k = 38 ∨ k = 58) → σ2.1 k = σ.1 k := fun k hk => F_row1 hF (fun e he g => by
    have := no e he
    unfold rl_cellZ at this
    rcases hk with rfl | rfl <;> simp [g] at this)
  have at1 : ∀ k, (k = 37 ∨ k = 57) → σ2.1 k 1 = σ.1 k 1 := fun k hk => F_at1 hF (fun e he g => by
    have := no e he
    unfold rl_cellZ at this
    rcases hk with rfl | rfl <;> rcases g with ⟨g1, g2 | g2⟩ <;> simp [g1, g2] at this)
  exact ⟨m, r, hm, cT_c hc (at1 37 (Or.inl rfl)) (row 38 (Or.inl rfl)), rT_c hr (at1 57 (Or.inr rfl)) (row 58 (Or.inr rfl))⟩
theorem rl_Z0 : rl_Z lx_s0 := ⟨0, fun _ => 0, by decide, ⟨rfl, fun _ => rfl⟩, ⟨rfl, fun _ => (show (0 : Int32) &&& 255 = 0 by decide)⟩⟩

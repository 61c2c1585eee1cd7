/-- the roads on both sides -/
def mh_tb (x : Int32) (i : Nat) : Int32 := (x >>> (Int32.ofNat i &&& 31)) &&& 1
def mh_mk (a b : Nat) : Int32 := ((1 : Int32) <<< (Int32.ofNat a &&& 31)) ||| ((1 : Int32) <<< (Int32.ofNat b &&& 31))
theorem tb_or (x y : Int32) (i : Nat) : mh_tb (x ||| y) i = mh_tb x i ||| mh_tb y i := by
  unfold mh_tb
  apply Int32.toBitVec_inj.mp
  simp only [Int32.toBitVec_and, Int32.toBitVec_or, Int32.toBitVec_shiftRight, BitVec.sshiftRight_eq', BitVec.sshiftRight_or_distrib]
  apply BitVec.eq_of_getLsbD_eq
  intro j _
  simp only [BitVec.getLsbD_and, BitVec.getLsbD_or, Bool.and_or_distrib_right]
theorem tb_1 (i q : Fin 20) : mh_tb ((1 : Int32) <<< (Int32.ofNat q.val &&& 31)) i.val = if i.val = q.val then 1 else 0 := by
  revert i q
  decide +kernel
theorem tb_b (x : Int32) (i : Nat) : mh_tb x i = 0 ∨ mh_tb x i = 1 := by
  have h : mh_r ((x >>> (Int32.ofNat i &&& 31)) &&& 1) 0 1 := mh_r_wk (mh_and 1 rfl (by decide)) (by decide)
  have h1 : (mh_tb x i).toInt = 0 ∨ (mh_tb x i).toInt = 1 := by
    have a := h.1
    have b := h.2
    unfold mh_tb
    omega
  rcases h1 with g | g
  · exact Or.inl (Int32.toInt_inj.mp g)
  · exact Or.inr (Int32.toInt_inj.mp g)
theorem tb_set {x : Int32} {i q : Nat} (hi : i < 20) (hq : q < 20) : mh_tb (x ||| ((1 : Int32) <<< (Int32.ofNat q &&& 31))) i = if i = q then 1 else mh_tb x i := by
  rw [tb_or, tb_1 ⟨i, hi⟩ ⟨q, hq⟩]
  by_cases g : i = q
  · rw [if_pos g, if_pos g]
    rcases tb_b x i with h | h <;> rw [h] <;> rfl
  · rw [if_neg g, if_neg g]
    rcases tb_b x i with h | h <;> rw [h] <;> rfl
theorem mk_meet (a b c d : Fin 10) : ((mh_mk a.val b.val &&& mh_mk c.val d.val).toInt = 0) ↔ ¬ (a.val = c.val ∨ a.val = d.val ∨ b.val = c.val ∨ b.val = d.val) := by
  revert a b c d
  decide +kernel
def mh_rdq (σ : mh_H) (i : Nat) : Prop := mh_tb (σ.1 23 5) i = 1 ∧ σ.1 90 i = 1 ∧ (∃ a b : Nat, a < 10 ∧ b < 10 ∧ a ≠ b ∧ (σ.1 91 i).toInt = (a : Int) ∧ (σ.1 92 i).toInt = (b : Int) ∧ σ.1 24 i = mh_mk a b) ∧ σ.1 25 i = σ.1 93 i ∧ mh_r (σ.1 25 i) 1 99 ∧ σ.1 26 i = σ.1 94 i ∧ ∃ c : Nat, c < 144 ∧ (σ.1 26 i).toInt = (c : Int)
def rl_Q (σ : mh_H) : Prop := ∀ i, i < 20 → (mh_rdq σ i ∨ (mh_tb (σ.1 23 5) i = 0 ∧ σ.1 90 i = 0))
theorem told_c {s : mh_H} {p : Int32} {i : Nat} (hp : p.toInt = (i : Int)) (hi : i < 20) : f_eX5_isTold s p = mh_tb (s.1 23 5) i := by
  rw [i32_of hp (by omega)]
  unfold f_eX5_isTold
  simp only [mh_lbE]
  show (if (mh_tb (s.1 23 5) i).toInt = (1 : Int32).toInt then (1 : Int32) else 0) = mh_tb (s.1 23 5) i
  rcases tb_b (s.1 23 5) i with h | h <;> rw [h] <;> rfl
theorem rl_Q_cg {σ σ2 : mh_H} (h : rl_Q σ) (h5 : σ2.1 23 5 = σ.1 23 5) (hr : ∀ k, (24 ≤ k ∧ k ≤ 26) ∨ (90 ≤ k ∧ k ≤ 94) → σ2.1 k = σ.1 k) : rl_Q σ2 := by
  intro i hi
  have e24 := hr 24 (by decide)
  have e25 := hr 25 (by decide)
  have e26 := hr 26 (by decide)
  have e90 := hr 90 (by decide)
  have e91 := hr 91 (by decide)
  have e92 := hr 92 (by decide)
  have e93 := hr 93 (by decide)
  have e94 := hr 94 (by decide)
  have := h i hi
  unfold mh_rdq at this ⊢
  rw [h5, e24, e25, e26, e90, e91, e92, e93, e94]
  exact this
def rl_cellQ (e : Nat × Nat) : Bool := (24 ≤ e.1 && e.1 ≤ 26) || (90 ≤ e.1 && e.1 ≤ 94) || (e.1 == 23 && (e.2 == 5 || e.2 == 9999))
theorem rl_Q_keep {S : List (Nat × Nat)} {σ σ2 : mh_H} (hF : mh_F S σ σ2) (hS : S.all (fun e => !(rl_cellQ e)) = true) (h : rl_Q σ) : rl_Q σ2 := by
  have h0 := List.all_eq_true.mp hS
  refine rl_Q_cg h (F_at1 hF (fun e he q => ?_)) (fun k hk => F_row1 hF (fun e he q => ?_))
  · have h3 := h0 e he
    unfold rl_cellQ at h3
    rcases q.2 with g | g <;> simp [q.1, g] at h3
  · have h3 := h0 e he
    unfold rl_cellQ at h3
    rcases hk with g | g <;> simp [q, g.1, g.2] at h3
theorem rl_Q0 : rl_Q lx_s0 := by
  intro i hi
  refine Or.inr ⟨?_, rfl⟩
  have e : lx_s0.1 23 5 = 0 := rfl
  rw [e]
  have t : ∀ i : Fin 20, mh_tb 0 i.val = 0 := by decide +kernel
  exact t ⟨i, hi⟩
theorem road_Q {σ s1 s2 : mh_H} (h : rl_Q σ) {p1 p2 p3 p4 p5 z0 z1 : Int32} (F0 : mh_F S_eX9_road σ s1) (F1 : mh_F S_eX10_road s1 s2) (E0 : f_eX9_road σ p1 p2 p3 p4 p5 = (z0, s1)) (E1 : f_eX10_road s1 p1 p2 p3 p4 p5 = (z1, s2)) : z0 = z1 ∧ rl_Q s2 := by
  unfold f_eX9_road at E0
  unfold f_eX10_road at E1
  have k1 : (1 : Int32).toInt = 1 := rfl
  have k99 : (99 : Int32).toInt = 99 := rfl
  have k19 : (19 : Int32).toInt = 19 := rfl
  have k9 : (9 : Int32).toInt = 9 := rfl
  have k143 : (143 : Int32).toInt = 143 := rfl
  simp only [mh_lbE] at E0 E1
  have w1 := fq_within σ p1 19
  have w2 := fq_within σ p2 9
  have w3 := fq_within σ p3 9
  have w5 := fq_within σ p5 143
  have l1 := fq_lies s1 (Int32.toInt64 p1) 0 19
  have l2 : ((f_eX10_isNode s1 p2).toInt = 0) ↔ ¬ (0 ≤ p2.toInt ∧ p2.toInt ≤ 9) := by
    unfold f_eX10_isNode
    simp only [mh_lbE]
    have := fq_lies s1 (Int32.toInt64 p2) 0 9
    rw [Int32.toInt_toInt64, show (0 : Int64).toInt = 0 from rfl, show (9 : Int64).toInt = 9 from rfl] at this
    exact this
  have l3 : ((f_eX10_isNode s1 p3).toInt = 0) ↔ ¬ (0 ≤ p3.toInt ∧ p3.toInt ≤ 9) := by
    unfold f_eX10_isNode
    simp only [mh_lbE]
    have := fq_lies s1 (Int32.toInt64 p3) 0 9
    rw [Int32.toInt_toInt64, show (0 : Int64).toInt = 0 from rfl, show (9 : Int64).toInt = 9 from rfl] at this
    exact this
  have l4 := fq_lies s1 (Int32.toInt64 p4) 1 99
  have l5 := fq_lies s1 (Int32.toInt64 p5) 0 143
  rw [Int32.toInt_toInt64, show (0 : Int64).toInt = 0 from rfl, show (19 : Int64).toInt = 19 from rfl] at l1
  rw [Int32.toInt_toInt64, show (1 : Int64).toInt = 1 from rfl, show (99 : Int64).toInt = 99 from rfl] at l4
  rw [Int32.toInt_toInt64, show (0 : Int64).toInt = 0 from rfl, show (143 : Int64).toInt = 143 from rfl] at l5
  have no : (0, σ) = (z0, s1) → (0, s1) = (z1, s2) → z0 = z1 ∧ rl_Q s2 := fun a b => by
    obtain ⟨a1, a2⟩ := Prod.mk.inj a
    obtain ⟨b1, b2⟩ := Prod.mk.inj b
    exact ⟨a1.symm.trans b1, by rw [← b2, ← a2]; exact h⟩
  by_cases c1 : 0 ≤ p1.toInt ∧ p1.toInt ≤ 19
  · rw [if_neg (fun z => w1.1 z (by omega))] at E0
    rw [if_neg (fun z => l1.1 z c1)] at E1
    by_cases c2 : 0 ≤ p2.toInt ∧ p2.toInt ≤ 9
    · rw [if_neg (fun z => w2.1 z (by omega))] at E0
      rw [if_neg (fun z => l2.1 z c2)] at E1
      by_cases c3 : 0 ≤ p3.toInt ∧ p3.toInt ≤ 9
      · rw [if_neg (fun z => w3.1 z (by omega))] at E0
        rw [if_neg (fun z => l3.1 z c3)] at E1
        by_cases c6 : p2.toInt = p3.toInt
        · rw [if_pos c6] at E0 E1
          exact no E0 E1
        · rw [if_neg c6] at E0 E1
          by_cases c4 : 1 ≤ p4.toInt ∧ p4.toInt ≤ 99
          · rw [if_neg (show ¬ p4.toInt < (1 : Int32).toInt by omega), if_neg (show ¬ (99 : Int32).toInt < p4.toInt by omega)] at E0
            rw [if_neg (fun z => l4.1 z c4)] at E1
            by_cases c5 : 0 ≤ p5.toInt ∧ p5.toInt ≤ 143
            · rw [if_neg (fun z => w5.1 z (by omega))] at E0
              rw [if_neg (fun z => l5.1 z c5)] at E1
              obtain ⟨q, hq⟩ : ∃ q : Nat, p1.toInt = (q : Int) := ⟨p1.toInt.toNat, by omega⟩
              obtain ⟨a, ha⟩ : ∃ q : Nat, p2.toInt = (q : Int) := ⟨p2.toInt.toNat, by omega⟩
              obtain ⟨b, hb⟩ : ∃ q : Nat, p3.toInt = (q : Int) := ⟨p3.toInt.toNat, by omega⟩
              obtain ⟨c, hc⟩ : ∃ q : Nat, p5.toInt = (q : Int) := ⟨p5.toInt.toNat, by omega⟩
              rw [ix_n hq] at E0 E1
              obtain ⟨d1, d2⟩ := Prod.mk.inj E0
              obtain ⟨e1, e2⟩ := Prod.mk.inj E1
              refine ⟨d1.symm.trans e1, fun i hi => ?_⟩
              have a23 : s2.1 23 5 = σ.1 23 5 ||| ((1 : Int32) <<< (Int32.ofNat q &&& 31)) := by
                rw [F_at1 F1 (by decide), ← d2, pI_w, pI_o (by decide), pI_o (by decide), pI_o (by decide), i32_of hq (by omega)]
              have a24 : s2.1 24 i = if i = q then mh_mk a b else σ.1 24 i := by
                rw [F_row1 F1 (k := 24) (by decide), ← d2, pI_o (by decide), pI_o (by decide), pI_o (by decide), pI_v, i32_of ha (by omega), i32_of hb (by omega)]
                by_cases g : i = q
                · rw [if_pos ⟨rfl, g⟩, if_pos g]; rfl
                · rw [if_neg (fun z => g z.2), if_neg g]
              have a25 : s2.1 25 i = if i = q then p4 else σ.1 25 i := by
                rw [F_row1 F1 (k := 25) (by decide), ← d2, pI_o (by decide), pI_o (by decide), pI_v]
                by_cases g : i = q
                · rw [if_pos ⟨rfl, g⟩, if_pos g]
                · rw [if_neg (fun z => g z.2), if_neg g, pI_o (by decide)]
              have a26 : s2.1 26 i = if i = q then p5 else σ.1 26 i := by
                rw [F_row1 F1 (k := 26) (by decide), ← d2, pI_o (by decide), pI_v]
                by_cases g : i = q
                · rw [if_pos ⟨rfl, g⟩, if_pos g]
                · rw [if_neg (fun z => g z.2), if_neg g, pI_o (by decide), pI_o (by decide)]
              have s90 : ∀ k, 90 ≤ k → k ≤ 94 → s1.1 k = σ.1 k := fun k x y => F_row1 F0 (fun e he => by
                have t : ∀ e ∈ S_eX9_road, e.1 < 90 := by decide
                have := t e he
                omega)
              have a90 : s2.1 90 i = if i = q then 1 else σ.1 90 i := by
                rw [← e2, pI_o (by decide), pI_o (by decide), pI_o (by decide), pI_o (by decide), pI_v]
                by_cases g : i = q
                · rw [if_pos ⟨rfl, g⟩, if_pos g]
                · rw [if_neg (fun z => g z.2), if_neg g, s90 90 (by decide) (by decide)]
              have a91 : s2.1 91 i = if i = q then p2 else σ.1 91 i := by
                rw [← e2, pI_o (by decide), pI_o (by decide), pI_o (by decide), pI_v]
                by_cases g : i = q
                · rw [if_pos ⟨rfl, g⟩, if_pos g]
                · rw [if_neg (fun z => g z.2), if_neg g, pI_o (by decide), s90 91 (by decide) (by decide)]
              have a92 : s2.1 92 i = if i = q then p3 else σ.1 92 i := by
                rw [← e2, pI_o (by decide), pI_o (by decide), pI_v]
                by_cases g : i = q
                · rw [if_pos ⟨rfl, g⟩, if_pos g]
                · rw [if_neg (fun z => g z.2), if_neg g, pI_o (by decide), pI_o (by decide), s90 92 (by decide) (by decide)]
              have a93 : s2.1 93 i = if i = q then p4 else σ.1 93 i := by
                rw [← e2, pI_o (by decide), pI_v]
                by_cases g : i = q
                · rw [if_pos ⟨rfl, g⟩, if_pos g]
                · rw [if_neg (fun z => g z.2), if_neg g, pI_o (by decide), pI_o (by decide), pI_o (by decide), s90 93 (by decide) (by decide)]
              have a94 : s2.1 94 i = if i = q then p5 else σ.1 94 i := by
                rw [← e2, pI_v]
                by_cases g : i = q
                · rw [if_pos ⟨rfl, g⟩, if_pos g]
                · rw [if_neg (fun z => g z.2), if_neg g, pI_o (by decide), pI_o (by decide), pI_o (by decide), pI_o (by decide), s90 94 (by decide) (by decide)]
              have at' : mh_tb (s2.1 23 5) i = if i = q then 1 else mh_tb (σ.1 23 5) i := by rw [a23]; exact tb_set hi (by omega)
              unfold mh_rdq
              rw [at', a24, a25, a26, a90, a91, a92, a93, a94]
              by_cases g : i = q
              · left
                rw [if_pos g, if_pos g, if_pos g, if_pos g, if_pos g, if_pos g, if_pos g, if_pos g, if_pos g]
                exact ⟨rfl, rfl, ⟨a, b, by omega, by omega, by omega, ha, hb, rfl⟩, rfl, c4, rfl, c, by omega, hc⟩
              · rw [if_neg g, if_neg g, if_neg g, if_neg g, if_neg g, if_neg g, if_neg g, if_neg g, if_neg g]
                exact h i hi
            · rw [if_pos (w5.2 (by omega))] at E0
              rw [if_pos (l5.2 c5)] at E1
              exact no E0 E1
          · rw [if_pos (l4.2 c4)] at E1
            rcases Int.lt_or_le p4.toInt 1 with g | g
            · rw [if_pos (show p4.toInt < (1 : Int32).toInt by omega)] at E0
              exact no E0 E1
            · rw [if_neg (show ¬ p4.toInt < (1 : Int32).toInt by omega), if_pos (show (99 : Int32).toInt < p4.toInt by omega)] at E0
              exact no E0 E1
      · rw [if_pos (w3.2 (by omega))] at E0
        rw [if_pos (l3.2 c3)] at E1
        exact no E0 E1
    · rw [if_pos (w2.2 (by omega))] at E0
      rw [if_pos (l2.2 c2)] at E1
      exact no E0 E1
  · rw [if_pos (w1.2 (by omega))] at E0
    rw [if_pos (l1.2 c1)] at E1
    exact no E0 E1

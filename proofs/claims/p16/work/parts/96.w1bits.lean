/-- bits of a set of nodes -/
theorem sh_n (i : Fin 20) : ((Int32.ofNat i.val &&& 31).toBitVec.smod 32).toNat = i.val := by
  revert i
  decide +kernel
theorem tb_bit (x : Int32) {i : Nat} (hi : i < 20) : mh_tb x i = if x.toBitVec.getLsbD i = true then 1 else 0 := by
  unfold mh_tb
  apply Int32.toBitVec_inj.mp
  rw [Int32.toBitVec_and, Int32.toBitVec_shiftRight, BitVec.sshiftRight_eq', sh_n ⟨i, hi⟩, show (1 : Int32).toBitVec = BitVec.twoPow 32 0 from by decide, BitVec.and_twoPow, BitVec.getLsbD_sshiftRight]
  have e : (!decide (32 ≤ 0) && if i + 0 < 32 then x.toBitVec.getLsbD (i + 0) else x.toBitVec.msb) = x.toBitVec.getLsbD i := by
    rw [if_pos (by omega)]
    rfl
  rw [e]
  cases x.toBitVec.getLsbD i <;> decide
theorem pw_bv (a : Fin 10) : ((1 : Int32) <<< (Int32.ofNat a.val &&& 31)).toBitVec = BitVec.twoPow 32 a.val := by
  revert a
  decide +kernel
def mh_pwr (a : Nat) : Int32 := (1 : Int32) <<< (Int32.ofNat a &&& 31)
theorem and_pw (S : Int32) {a : Nat} (ha : a < 10) : S &&& mh_pwr a = if mh_tb S a = 1 then mh_pwr a else 0 := by
  apply Int32.toBitVec_inj.mp
  rw [tb_bit S (show a < 20 by omega)]
  unfold mh_pwr
  rw [Int32.toBitVec_and, pw_bv ⟨a, ha⟩, BitVec.and_twoPow]
  cases S.toBitVec.getLsbD a
  · rfl
  · show BitVec.twoPow 32 a = ((1 : Int32) <<< (Int32.ofNat a &&& 31)).toBitVec
    exact (pw_bv ⟨a, ha⟩).symm
theorem and_mk (S : Int32) {a b : Nat} (ha : a < 10) (hb : b < 10) : S &&& mh_mk a b = (if mh_tb S a = 1 then mh_pwr a else 0) ||| (if mh_tb S b = 1 then mh_pwr b else 0) := by
  rw [← and_pw S ha, ← and_pw S hb]
  show S &&& (mh_pwr a ||| mh_pwr b) = _
  apply Int32.toBitVec_inj.mp
  simp only [Int32.toBitVec_and, Int32.toBitVec_or]
  apply BitVec.eq_of_getLsbD_eq
  intro j _
  simp only [BitVec.getLsbD_and, BitVec.getLsbD_or, Bool.and_or_distrib_left]
theorem tb_pw (a : Fin 10) (n : Fin 10) : mh_tb (mh_pwr a.val) n.val = if n.val = a.val then 1 else 0 := by
  revert a n
  decide +kernel
/-- what goes in at one end comes out at the other -/
theorem go_mk (a b : Fin 10) (hab : a.val ≠ b.val) : (¬ (mh_pwr a.val ||| mh_pwr b.val).toInt = 0 ∧ mh_pwr a.val ||| mh_pwr b.val = mh_mk a.val b.val) ∧ (¬ (mh_pwr a.val ||| 0).toInt = 0 ∧ ¬ (mh_pwr a.val ||| 0).toInt = (mh_mk a.val b.val).toInt ∧ mh_mk a.val b.val &&& ((mh_pwr a.val ||| 0) ^^^ -1) = mh_pwr b.val) ∧ (¬ (0 ||| mh_pwr b.val).toInt = 0 ∧ ¬ (0 ||| mh_pwr b.val).toInt = (mh_mk a.val b.val).toInt ∧ mh_mk a.val b.val &&& ((0 ||| mh_pwr b.val) ^^^ -1) = mh_pwr a.val) ∧ ((0 ||| 0 : Int32).toInt = 0) := by
  revert hab
  revert a b
  decide +kernel

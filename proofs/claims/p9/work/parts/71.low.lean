/-- a loop over 0 .. N-1 that keeps Inv and goes out at N -/
theorem mh_for {R : Type} (l : Nat → mh_H → Int32 → R) (N : Nat) (Inv : mh_H → Nat → Prop) (Post : R → Prop) (hN : N < 100000)
    (hs : ∀ (n : Nat) (s : mh_H) (x : Int32) (m : Nat), x.toInt = (m : Int) → m < N → Inv s m → ∃ s', Inv s' (m + 1) ∧ l (n + 1) s x = l n s' (x + 1))
    (he : ∀ (n : Nat) (s : mh_H) (x : Int32), x.toInt = (N : Int) → Inv s N → Post (l (n + 1) s x)) :
    ∀ (n : Nat) (s : mh_H) (x : Int32) (m : Nat), x.toInt = (m : Int) → m ≤ N → Inv s m → N < n + m → Post (l n s x) := by
  intro n
  induction n with
  | zero => intro s x m _ h1 _ h2; exfalso; omega
  | succ n ih =>
    intro s x m hx hm hi hn
    rcases Nat.lt_or_ge m N with h | h
    · obtain ⟨s', h1, h2⟩ := hs n s x m hx h hi
      rw [h2]
      have k1 : (1 : Int32).toInt = ((1 : Nat) : Int) := rfl
      exact ih s' (x + 1) (m + 1) (ix_add hx (by omega) k1 (by decide)) (by omega) h1 (by omega)
    · obtain rfl : m = N := by omega
      exact he n s x hx hi
theorem bes_0 {s : mh_H} {p : Int32} {c : Nat} (hp : p.toInt = (c : Int)) (hc : c < 144) : f_eX10_beside s p 0 = if 12 ≤ c then p - 12 else -1 := by
  unfold f_eX10_beside
  simp only [mh_lbE, ix_div hp]
  rw [if_pos (by decide)]
  by_cases h : 12 ≤ c
  · rw [if_pos (by omega), if_pos h]
  · rw [if_neg (by omega), if_neg h]
theorem bes_1 {s : mh_H} {p : Int32} {c : Nat} (hp : p.toInt = (c : Int)) (hc : c < 144) : f_eX10_beside s p 1 = if 0 < c % 12 then p - 1 else -1 := by
  unfold f_eX10_beside
  simp only [mh_lbE, ix_mod hp]
  rw [if_neg (by decide), if_pos trivial]
  by_cases h : 0 < c % 12
  · rw [if_pos (by omega), if_pos h]
  · rw [if_neg (by omega), if_neg h]
theorem bes_2 {s : mh_H} {p : Int32} {c : Nat} (hp : p.toInt = (c : Int)) (hc : c < 144) : f_eX10_beside s p 2 = if c % 12 < 11 then p + 1 else -1 := by
  have k11 : (11 : Int32).toInt = 11 := rfl
  unfold f_eX10_beside
  simp only [mh_lbE, ix_mod hp, k11]
  rw [if_neg (by decide), if_neg (by decide), if_pos trivial]
  by_cases h : c % 12 < 11
  · rw [if_pos (by omega), if_pos h]
  · rw [if_neg (by omega), if_neg h]
theorem bes_3 {s : mh_H} {p : Int32} {c : Nat} (hp : p.toInt = (c : Int)) (hc : c < 144) : f_eX10_beside s p 3 = if c < 132 then p + 12 else -1 := by
  have k11 : (11 : Int32).toInt = 11 := rfl
  unfold f_eX10_beside
  simp only [mh_lbE, ix_div hp, k11]
  rw [if_neg (by decide), if_neg (by decide), if_neg (by decide)]
  by_cases h : c < 132
  · rw [if_pos (by omega), if_pos h]
  · rw [if_neg (by omega), if_neg h]
theorem trl_st {s : mh_H} {p d a q : Int32} {n : Nat} (hd : d.toInt < (4 : Int32).toInt) {h : Prop} {j : Decidable h} (hq : f_eX10_beside s p d = if h then q else -1) (hq0 : h → 0 ≤ q.toInt) : l_eX10_treesBeside_4_1 s p (n + 1) d a = l_eX10_treesBeside_4_1 s p n (d + 1) (if h ∧ (s.1 60 q.toNatClampNeg).toInt = 2 then a + 1 else a) := by
  have k1 : (-1 : Int32).toInt = -1 := rfl
  have k2 : (2 : Int32).toInt = 2 := rfl
  rw [l_eX10_treesBeside_4_1_s]
  unfold ls_eX10_treesBeside_4_1
  rw [if_pos hd]
  simp only [mh_lbE, hq, k1, k2, Int32.add_zero]
  by_cases c : h
  · simp only [c, if_true, true_and]
    rw [if_neg (by have := hq0 c; omega)]
    split <;> rfl
  · simp only [c, if_false, false_and]
    rw [if_pos k1]
theorem tre_r {s : mh_H} {p : Int32} {c : Nat} (hp : p.toInt = (c : Int)) (hc : c < 144) : f_eX10_treesBeside s p = mh_tre (mh_vr s) c := by
  have k12 : (12 : Int32).toInt = ((12 : Nat) : Int) := rfl
  have k1 : (1 : Int32).toInt = ((1 : Nat) : Int) := rfl
  have e01 : (0 : Int32) + 1 = 1 := rfl
  have e12 : (1 : Int32) + 1 = 2 := rfl
  have e23 : (2 : Int32) + 1 = 3 := rfl
  have e34 : (3 : Int32) + 1 = 4 := rfl
  have e4 : c < 132 → s.1 60 (p + 12).toNatClampNeg = (mh_vr s).1 1 (c + 12) := fun h => by rw [vr_at (vn_r (by omega) (by decide)) (by decide), ix_n (ix_add hp (by omega) k12 (by decide))]
  have e3 : c % 12 < 11 → s.1 60 (p + 1).toNatClampNeg = (mh_vr s).1 1 (c + 1) := fun h => by rw [vr_at (vn_r (by omega) (by decide)) (by decide), ix_n (ix_add hp (by omega) k1 (by decide))]
  have e2 : 0 < c % 12 → s.1 60 (p - 1).toNatClampNeg = (mh_vr s).1 1 (c - 1) := fun h => by rw [vr_at (vn_r (by omega) (by decide)) (by decide), ix_n (ix_sub hp (by omega) k1 (by decide) (by omega))]
  have e1 : 12 ≤ c → s.1 60 (p - 12).toNatClampNeg = (mh_vr s).1 1 (c - 12) := fun h => by rw [vr_at (vn_r (by omega) (by decide)) (by decide), ix_n (ix_sub hp (by omega) k12 (by decide) h)]
  unfold f_eX10_treesBeside
  rw [show (5 : Nat) = 4 + 1 from rfl, trl_st (by decide) (bes_0 hp hc) (fun h => by rw [ix_sub hp (by omega) k12 (by decide) h]; omega), e01,
    show (4 : Nat) = 3 + 1 from rfl, trl_st (by decide) (bes_1 hp hc) (fun h => by rw [ix_sub hp (by omega) k1 (by decide) (by omega)]; omega), e12,
    show (3 : Nat) = 2 + 1 from rfl, trl_st (by decide) (bes_2 hp hc) (fun h => by rw [ix_add hp (by omega) k1 (by decide)]; omega), e23,
    show (2 : Nat) = 1 + 1 from rfl, trl_st (by decide) (bes_3 hp hc) (fun h => by rw [ix_add hp (by omega) k12 (by decide)]; omega), e34]
  rw [show (1 : Nat) = 0 + 1 from rfl, l_eX10_treesBeside_4_1_s]
  unfold ls_eX10_treesBeside_4_1
  rw [if_neg (by decide)]
  unfold mh_tre
  have cg : ∀ (h : Prop) [Decidable h] (a b x y : Int32), (h → a = b) → (if h ∧ a.toInt = 2 then x else y) = if h ∧ b.toInt = 2 then x else y := by
    intro h _ a b x y hab
    by_cases q : h
    · rw [hab q]
    · rw [if_neg (fun z => q z.1), if_neg (fun z => q z.1)]
  rw [cg _ _ _ _ _ e1, cg _ _ _ _ _ e2, cg _ _ _ _ _ e3, cg _ _ _ _ _ e4]
  simp only [e01]
/-- the lowest beside, from the cell itself on -/
def mh_lo1 (v : mh_V) (h : Prop) [Decidable h] (n low : Nat) : Nat := if h ∧ (mh_lev v n).toInt < (mh_lev v low).toInt then n else low
def mh_low (v : mh_V) (c : Nat) : Nat := mh_lo1 v (c < 132) (c + 12) (mh_lo1 v (c % 12 < 11) (c + 1) (mh_lo1 v (0 < c % 12) (c - 1) (mh_lo1 v (12 ≤ c) (c - 12) c)))
theorem low_lt {v : mh_V} {c : Nat} (hc : c < 144) : mh_low v c < 144 := by
  unfold mh_low mh_lo1
  repeat' split
  all_goals omega
theorem lo1_c {s : mh_H} {v : mh_V} (hL : ∀ x, x < 144 → s.1 20 x = mh_lev v x) {p q low : Int32} {n m : Nat} {h : Prop} [Decidable h] (hq : h → q.toInt = (n : Int)) (hn : h → n < 144) (hl : low.toInt = (m : Int)) (hm : m < 144) {α : Type} (f : Int32 → α) {g : Prop} [Decidable g] (hg : g ↔ h) :
    ∃ z : Int32, z.toInt = (mh_lo1 v h n m : Nat) ∧ (if g then if (s.1 20 q.toNatClampNeg).toInt < (s.1 20 low.toNatClampNeg).toInt then f q else f low else f low) = f z := by
  by_cases c : h
  · rw [if_pos (hg.2 c), ix_n (hq c), ix_n hl, hL _ (hn c), hL _ hm]
    unfold mh_lo1
    by_cases d : (mh_lev v n).toInt < (mh_lev v m).toInt
    · rw [if_pos d, if_pos ⟨c, d⟩]
      exact ⟨q, hq c, rfl⟩
    · rw [if_neg d, if_neg (fun z => d z.2)]
      exact ⟨low, hl, rfl⟩
  · rw [if_neg (fun z => c (hg.1 z))]
    unfold mh_lo1
    rw [if_neg (fun z => c z.1)]
    exact ⟨low, hl, rfl⟩
theorem lo1_lt {v : mh_V} {h : Prop} [Decidable h] {n m : Nat} (hn : h → n < 144) (hm : m < 144) : mh_lo1 v h n m < 144 := by
  unfold mh_lo1
  split
  · rename_i q; exact hn q.1
  · exact hm
theorem low_c {s : mh_H} {v : mh_V} (hL : ∀ x, x < 144 → s.1 20 x = mh_lev v x) {p : Int32} {c : Nat} (hp : p.toInt = (c : Int)) (hc : c < 144) : (f_eX0_lowestBeside s p).toInt = (mh_low v c : Nat) := by
  have k12 : (12 : Int32).toInt = ((12 : Nat) : Int) := rfl
  have k1 : (1 : Int32).toInt = ((1 : Nat) : Int) := rfl
  have k11 : (11 : Int32).toInt = 11 := rfl
  have k132 : (132 : Int32).toInt = 132 := rfl
  unfold f_eX0_lowestBeside j_eX0_lowestBeside_36_1 j_eX0_lowestBeside_61_2 j_eX0_lowestBeside_88_3
  simp only [mh_lbE, k132, k11, ix_mod hp]
  obtain ⟨z1, h1, q1⟩ := lo1_c hL (p := p) (q := p - 12) (low := p) (n := c - 12) (m := c) (h := 12 ≤ c) (g := ¬ p.toInt < (12 : Int32).toInt) (fun h => ix_sub hp (by omega) k12 (by decide) h) (fun h => by omega) hp hc
    (fun x47 => if 0 < ((c % 12 : Nat) : Int) then if (s.1 20 (p - 1).toNatClampNeg).toInt < (s.1 20 x47.toNatClampNeg).toInt then (if ((c % 12 : Nat) : Int) < 11 then if (s.1 20 (p + 1).toNatClampNeg).toInt < (s.1 20 (p - 1).toNatClampNeg).toInt then (if p.toInt < 132 then if (s.1 20 (p + 12).toNatClampNeg).toInt < (s.1 20 (p + 1).toNatClampNeg).toInt then p + 12 else p + 1 else p + 1) else (if p.toInt < 132 then if (s.1 20 (p + 12).toNatClampNeg).toInt < (s.1 20 (p - 1).toNatClampNeg).toInt then p + 12 else p - 1 else p - 1) else (if p.toInt < 132 then if (s.1 20 (p + 12).toNatClampNeg).toInt < (s.1 20 (p - 1).toNatClampNeg).toInt then p + 12 else p - 1 else p - 1)) else (if ((c % 12 : Nat) : Int) < 11 then if (s.1 20 (p + 1).toNatClampNeg).toInt < (s.1 20 x47.toNatClampNeg).toInt then (if p.toInt < 132 then if (s.1 20 (p + 12).toNatClampNeg).toInt < (s.1 20 (p + 1).toNatClampNeg).toInt then p + 12 else p + 1 else p + 1) else (if p.toInt < 132 then if (s.1 20 (p + 12).toNatClampNeg).toInt < (s.1 20 x47.toNatClampNeg).toInt then p + 12 else x47 else x47) else (if p.toInt < 132 then if (s.1 20 (p + 12).toNatClampNeg).toInt < (s.1 20 x47.toNatClampNeg).toInt then p + 12 else x47 else x47)) else (if ((c % 12 : Nat) : Int) < 11 then if (s.1 20 (p + 1).toNatClampNeg).toInt < (s.1 20 x47.toNatClampNeg).toInt then (if p.toInt < 132 then if (s.1 20 (p + 12).toNatClampNeg).toInt < (s.1 20 (p + 1).toNatClampNeg).toInt then p + 12 else p + 1 else p + 1) else (if p.toInt < 132 then if (s.1 20 (p + 12).toNatClampNeg).toInt < (s.1 20 x47.toNatClampNeg).toInt then p + 12 else x47 else x47) else (if p.toInt < 132 then if (s.1 20 (p + 12).toNatClampNeg).toInt < (s.1 20 x47.toNatClampNeg).toInt then p + 12 else x47 else x47))) (by omega)
  rw [ite_not] at q1
  rw [q1]
  have m1 := lo1_lt (v := v) (h := 12 ≤ c) (n := c - 12) (m := c) (fun h => by omega) hc
  obtain ⟨z2, h2, q2⟩ := lo1_c hL (p := p) (q := p - 1) (low := z1) (n := c - 1) (m := mh_lo1 v (12 ≤ c) (c - 12) c) (h := 0 < c % 12) (g := 0 < ((c % 12 : Nat) : Int)) (fun h => ix_sub hp (by omega) k1 (by decide) (by omega)) (fun h => by omega) h1 m1
    (fun x => if ((c % 12 : Nat) : Int) < 11 then if (s.1 20 (p + 1).toNatClampNeg).toInt < (s.1 20 x.toNatClampNeg).toInt then (if p.toInt < 132 then if (s.1 20 (p + 12).toNatClampNeg).toInt < (s.1 20 (p + 1).toNatClampNeg).toInt then p + 12 else p + 1 else p + 1) else (if p.toInt < 132 then if (s.1 20 (p + 12).toNatClampNeg).toInt < (s.1 20 x.toNatClampNeg).toInt then p + 12 else x else x) else (if p.toInt < 132 then if (s.1 20 (p + 12).toNatClampNeg).toInt < (s.1 20 x.toNatClampNeg).toInt then p + 12 else x else x)) (by omega)
  rw [q2]
  have m2 := lo1_lt (v := v) (h := 0 < c % 12) (n := c - 1) (fun h => by omega) m1
  obtain ⟨z3, h3, q3⟩ := lo1_c hL (p := p) (q := p + 1) (low := z2) (n := c + 1) (h := c % 12 < 11) (g := ((c % 12 : Nat) : Int) < 11) (fun h => ix_add hp (by omega) k1 (by decide)) (fun h => by omega) h2 m2
    (fun x => if p.toInt < 132 then if (s.1 20 (p + 12).toNatClampNeg).toInt < (s.1 20 x.toNatClampNeg).toInt then p + 12 else x else x) (by omega)
  rw [q3]
  have m3 := lo1_lt (v := v) (h := c % 12 < 11) (n := c + 1) (fun h => by omega) m2
  obtain ⟨z4, h4, q4⟩ := lo1_c hL (p := p) (q := p + 12) (low := z3) (n := c + 12) (h := c < 132) (g := p.toInt < 132) (fun h => ix_add hp (by omega) k12 (by decide)) (fun h => by omega) h3 m3 (fun x => x) (by omega)
  rw [q4]
  exact h4
/-- the lowest of those beside alone -/
def mh_bs1 (v : mh_V) (h : Prop) [Decidable h] (n : Nat) (o : Option Nat) : Option Nat := if h then (match o with | none => some n | some b => if (mh_lev v n).toInt < (mh_lev v b).toInt then some n else some b) else o
def mh_bst (v : mh_V) (c : Nat) : Option Nat := mh_bs1 v (c < 132) (c + 12) (mh_bs1 v (c % 12 < 11) (c + 1) (mh_bs1 v (0 < c % 12) (c - 1) (mh_bs1 v (12 ≤ c) (c - 12) none)))
def mh_bR (b : Int32) (o : Option Nat) : Prop := match o with
  | none => b.toInt = -1
  | some m => b.toInt = (m : Int) ∧ m < 144
theorem bsl_st {s : mh_H} {p d b q : Int32} {n m : Nat} {o : Option Nat} (hd : d.toInt < (4 : Int32).toInt) {h : Prop} [Decidable h] (hq : f_eX10_beside s p d = if h then q else -1) (hq0 : h → q.toInt = (m : Int)) (hm : h → m < 144) (hb : mh_bR b o) : ∃ b', mh_bR b' (mh_bs1 (mh_vr s) h m o) ∧ l_eX10_lowestBeside_4_1 s p (n + 1) d b = l_eX10_lowestBeside_4_1 s p n (d + 1) b' := by
  have k1 : (-1 : Int32).toInt = -1 := rfl
  rw [l_eX10_lowestBeside_4_1_s]
  unfold ls_eX10_lowestBeside_4_1 j_eX10_lowestBeside_41_2
  rw [if_pos hd]
  simp only [mh_lbE, hq, k1]
  unfold mh_bs1
  by_cases c : h
  · rw [if_pos c, if_pos c, if_neg (by have := hq0 c; omega)]
    cases o with
    | none =>
      rw [if_pos (show b.toInt = -1 from hb)]
      exact ⟨q, ⟨hq0 c, hm c⟩, rfl⟩
    | some a =>
      have hb1 : b.toInt = (a : Int) := hb.1
      rw [if_neg (by omega), lev_r (hq0 c) (hm c), lev_r hb1 hb.2]
      show ∃ b', mh_bR b' (if (mh_lev (mh_vr s) m).toInt < (mh_lev (mh_vr s) a).toInt then some m else some a) ∧ _
      by_cases e : (mh_lev (mh_vr s) m).toInt < (mh_lev (mh_vr s) a).toInt
      · rw [if_pos e, if_pos e]
        exact ⟨q, ⟨hq0 c, hm c⟩, rfl⟩
      · rw [if_neg e, if_neg e]
        exact ⟨b, hb, rfl⟩
  · rw [if_neg c, if_neg c, if_pos k1]
    exact ⟨b, hb, rfl⟩
theorem bst_r {s : mh_H} {p : Int32} {c : Nat} (hp : p.toInt = (c : Int)) (hc : c < 144) : mh_bR (f_eX10_lowestBeside s p) (mh_bst (mh_vr s) c) := by
  have k12 : (12 : Int32).toInt = ((12 : Nat) : Int) := rfl
  have k1 : (1 : Int32).toInt = ((1 : Nat) : Int) := rfl
  have e01 : (0 : Int32) + 1 = 1 := rfl
  have e12 : (1 : Int32) + 1 = 2 := rfl
  have e23 : (2 : Int32) + 1 = 3 := rfl
  have e34 : (3 : Int32) + 1 = 4 := rfl
  unfold f_eX10_lowestBeside
  obtain ⟨b1, h1, q1⟩ := bsl_st (s := s) (p := p) (d := 0) (b := -1) (n := 4) (o := none) (by decide) (bes_0 hp hc) (fun h => ix_sub hp (by omega) k12 (by decide) h) (fun h => by omega) (show (-1 : Int32).toInt = -1 from rfl)
  rw [show (5 : Nat) = 4 + 1 from rfl, q1, e01]
  obtain ⟨b2, h2, q2⟩ := bsl_st (s := s) (p := p) (d := 1) (n := 3) (by decide) (bes_1 hp hc) (fun h => ix_sub hp (by omega) k1 (by decide) (by omega)) (fun h => by omega) h1
  rw [show (4 : Nat) = 3 + 1 from rfl, q2, e12]
  obtain ⟨b3, h3, q3⟩ := bsl_st (s := s) (p := p) (d := 2) (n := 2) (by decide) (bes_2 hp hc) (fun h => ix_add hp (by omega) k1 (by decide)) (fun h => by omega) h2
  rw [show (3 : Nat) = 2 + 1 from rfl, q3, e23]
  obtain ⟨b4, h4, q4⟩ := bsl_st (s := s) (p := p) (d := 3) (n := 1) (by decide) (bes_3 hp hc) (fun h => ix_add hp (by omega) k12 (by decide)) (fun h => by omega) h3
  rw [show (2 : Nat) = 1 + 1 from rfl, q4, e34, show (1 : Nat) = 0 + 1 from rfl, l_eX10_lowestBeside_4_1_s]
  unfold ls_eX10_lowestBeside_4_1
  rw [if_neg (by decide)]
  exact h4
/-- both ways to the lowest -/
def mh_lbR (v : mh_V) (c : Nat) (o : Option Nat) (low : Nat) : Prop := match o with
  | none => low = c
  | some b => ((mh_lev v b).toInt < (mh_lev v c).toInt ∧ low = b) ∨ ((mh_lev v c).toInt ≤ (mh_lev v b).toInt ∧ low = c)
theorem lbR_st {v : mh_V} {c : Nat} {o : Option Nat} {low n : Nat} {h : Prop} [Decidable h] (g : mh_lbR v c o low) : mh_lbR v c (mh_bs1 v h n o) (mh_lo1 v h n low) := by
  unfold mh_bs1 mh_lo1
  by_cases q : h
  · rw [if_pos q]
    simp only [q, true_and]
    cases o with
    | none =>
      have e : low = c := g
      subst e
      show ((mh_lev v n).toInt < (mh_lev v low).toInt ∧ _ = n) ∨ ((mh_lev v low).toInt ≤ (mh_lev v n).toInt ∧ _ = low)
      by_cases z : (mh_lev v n).toInt < (mh_lev v low).toInt
      · rw [if_pos z]; exact Or.inl ⟨z, rfl⟩
      · rw [if_neg z]; exact Or.inr ⟨by omega, rfl⟩
    | some b =>
      rcases g with ⟨g1, rfl⟩ | ⟨g1, rfl⟩
      · show mh_lbR v c (if (mh_lev v n).toInt < (mh_lev v low).toInt then some n else some low) _
        by_cases z : (mh_lev v n).toInt < (mh_lev v low).toInt
        · rw [if_pos z, if_pos z]; exact Or.inl ⟨by omega, rfl⟩
        · rw [if_neg z, if_neg z]; exact Or.inl ⟨g1, rfl⟩
      · show mh_lbR v low (if (mh_lev v n).toInt < (mh_lev v b).toInt then some n else some b) _
        by_cases z : (mh_lev v n).toInt < (mh_lev v low).toInt
        · rw [if_pos z, if_pos (by omega)]; exact Or.inl ⟨z, rfl⟩
        · rw [if_neg z]
          by_cases y : (mh_lev v n).toInt < (mh_lev v b).toInt
          · rw [if_pos y]; exact Or.inr ⟨by omega, rfl⟩
          · rw [if_neg y]; exact Or.inr ⟨g1, rfl⟩
  · rw [if_neg q, if_neg (fun z => q z.1)]
    exact g
theorem low_bst (v : mh_V) (c : Nat) : mh_lbR v c (mh_bst v c) (mh_low v c) := by
  unfold mh_bst mh_low
  exact lbR_st (h := c < 132) (lbR_st (h := c % 12 < 11) (lbR_st (h := 0 < c % 12) (lbR_st (h := 12 ≤ c) (show mh_lbR v c none c from rfl))))
theorem bst_some {v : mh_V} {c : Nat} (hc : c < 144) : ∃ b, mh_bst v c = some b := by
  have key : ∀ (h : Prop) [Decidable h] (n : Nat) (o : Option Nat), (h ∨ ∃ b, o = some b) → ∃ b, mh_bs1 v h n o = some b := by
    intro h _ n o g
    unfold mh_bs1
    by_cases q : h
    · rw [if_pos q]
      cases o with
      | none => exact ⟨n, rfl⟩
      | some b => show ∃ b', (if (mh_lev v n).toInt < (mh_lev v b).toInt then some n else some b) = some b'; split <;> exact ⟨_, rfl⟩
    · rw [if_neg q]
      rcases g with g | g
      · exact absurd g q
      · exact g
  unfold mh_bst
  apply key
  by_cases q : c < 132
  · exact Or.inl q
  · right
    apply key; right
    apply key; right
    apply key; left
    omega

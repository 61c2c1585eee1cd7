/-- the kept valley of the reference -/
def mh_kv (s : mh_H) : mh_V := (fun r c => if c < mh_vn r ∧ r < 5 then (if r < 4 then s.1 (mh_sr r) (144 + c) else s.1 102 c) else 0, s.1 87 1, Int64.toInt32 (s.2.1 88 1))
theorem kv_cg {s s' : mh_H} (h : ∀ r c, c < 144 → r < 4 → s'.1 (mh_sr r) (144 + c) = s.1 (mh_sr r) (144 + c)) (hw : ∀ c, c < 100 → s'.1 102 c = s.1 102 c) (h2 : s'.1 87 1 = s.1 87 1) (h3 : s'.2.1 88 1 = s.2.1 88 1) : mh_kv s' = mh_kv s := by
  unfold mh_kv
  rw [h2, h3]
  refine Prod.ext ?_ rfl
  funext r c
  show (if c < mh_vn r ∧ r < 5 then (if r < 4 then s'.1 (mh_sr r) (144 + c) else s'.1 102 c) else 0) = if c < mh_vn r ∧ r < 5 then (if r < 4 then s.1 (mh_sr r) (144 + c) else s.1 102 c) else 0
  by_cases g : c < mh_vn r ∧ r < 5
  · rw [if_pos g, if_pos g]
    by_cases g2 : r < 4
    · rw [if_pos g2, if_pos g2]
      refine h r c ?_ g2
      have := g.1
      unfold mh_vn at this
      rw [if_neg (by omega)] at this
      exact this
    · rw [if_neg g2, if_neg g2]
      refine hw c ?_
      have h4 : r = 4 := by omega
      have := g.1
      rw [h4] at this
      exact this
  · rw [if_neg g, if_neg g]
theorem kv_sd {s s' : mh_H} (h : mh_sd 1 s' = mh_sd 1 s) (hw : s'.1 102 = s.1 102) : mh_kv s' = mh_kv s := by
  unfold mh_kv
  have e2 : (s'.1 87 1, Int64.toInt32 (s'.2.1 88 1)) = (s.1 87 1, Int64.toInt32 (s.2.1 88 1)) := congrArg Prod.snd h
  refine Prod.ext ?_ e2
  funext r c
  show (if c < mh_vn r ∧ r < 5 then (if r < 4 then s'.1 (mh_sr r) (144 + c) else s'.1 102 c) else 0) = if c < mh_vn r ∧ r < 5 then (if r < 4 then s.1 (mh_sr r) (144 + c) else s.1 102 c) else 0
  by_cases g : c < mh_vn r ∧ r < 5
  · rw [if_pos g, if_pos g]
    by_cases g2 : r < 4
    · rw [if_pos g2, if_pos g2]
      have hc : c < 144 := by
        have := g.1
        unfold mh_vn at this
        rw [if_neg (by omega)] at this
        exact this
      have := congrFun (congrFun (congrArg Prod.fst h) r) c
      rw [sd_at hc g2, sd_at hc g2] at this
      exact this
    · rw [if_neg g2, if_neg g2, hw]
  · rw [if_neg g, if_neg g]
/-- the class's side and the reference's side of one state -/
def mh_CA (kl : Nat) (L : mh_Lw) (v : mh_V) (ch fl : Int32) (w : mh_V) (cw : Int32) (m : Nat) (r : Nat → Int32) (s : mh_H) : Prop := mh_cN 1 kl L v s ∧ s.2.2 0 12 ≠ kl ∧ s.1 1 7 = ch ∧ s.1 0 13 = fl ∧ (¬ fl.toInt = 0 → mh_vc 7 s = w ∧ s.1 7 7 = cw) ∧ mh_cT m r s
def mh_RA (L : mh_Lw) (v : mh_V) (ch fl : Int32) (w : mh_V) (cw : Int32) (m : Nat) (r : Nat → Int32) (s : mh_H) : Prop := mh_rN L v s ∧ s.1 57 3 = ch ∧ s.1 57 64 = fl ∧ (¬ fl.toInt = 0 → mh_kv s = w ∧ s.1 57 65 = cw) ∧ mh_rT m r s
def mh_RV (σ : mh_H) : Prop := ∃ (kl : Nat) (Ls : List mh_Cl) (v : mh_V) (ch fl : Int32) (w : mh_V) (cw : Int32) (m : Nat) (r : Nat → Int32), mh_isL kl ∧ mh_rg v ∧ (¬ fl.toInt = 0 → mh_rg w ∧ 0 ≤ w.2.1.toInt) ∧ m ≤ 220 ∧ mh_CA kl (mh_lw Ls) v ch fl w cw m r σ ∧ mh_RA (mh_lw Ls) v ch fl w cw m r σ
def mh_okC (S : List (Nat × Nat)) : Bool := S.all (fun e => decide (12 < e.1) && !(e.1 == 37 && (e.2 == 1 || e.2 == 9999)) && !(e.1 == 38) && !(decide (40 ≤ e.1) && decide (e.1 ≤ 45)) && !(decide (48 ≤ e.1) && decide (e.1 ≤ 53)))
def mh_okB (S : List (Nat × Nat)) : Bool := S.all (fun e => !(e.1 == 102) && !(e.1 == 58) && !(e.1 == 57 && (e.2 == 1 || e.2 == 3 || e.2 == 64 || e.2 == 65 || e.2 == 9999)))
def mh_okR (S : List (Nat × Nat)) : Bool := mh_rnS S && mh_okB S && S.all (fun e => !(decide (83 ≤ e.1) && decide (e.1 ≤ 88)))
theorem CA_F {S : List (Nat × Nat)} {kl : Nat} {L : mh_Lw} {v : mh_V} {ch fl : Int32} {w : mh_V} {cw : Int32} {m : Nat} {r : Nat → Int32} {s s' : mh_H} (hl : mh_isL kl) (h : mh_CA kl L v ch fl w cw m r s) (hF : mh_F S s s') (hp : mh_p3 s') (hS : mh_okC S = true) : mh_CA kl L v ch fl w cw m r s' := by
  have h0 := List.all_eq_true.mp hS
  have g12 : ∀ e ∈ S, 12 < e.1 := fun e he => by have := h0 e he; simp at this; omega
  have g37 : ∀ e ∈ S, ¬ (e.1 = 37 ∧ (e.2 = 9999 ∨ e.2 = 1)) := fun e he q => by
    have h3 := h0 e he
    rcases q.2 with g | g <;> simp [q.1, g] at h3
  have g38 : ∀ e ∈ S, e.1 ≠ 38 := fun e he q => by have h3 := h0 e he; simp [q] at h3
  have gl : ∀ e ∈ S, e.1 < kl ∨ kl + 5 < e.1 := fun e he => by
    have h3 := h0 e he
    simp at h3
    rcases hl with rfl | rfl <;> omega
  obtain ⟨c1, c2, c3, c4, c5, c6⟩ := h
  refine ⟨cN_F c1 hF hp (fun e he => by have := g12 e he; omega) gl (fun e he => by have := g12 e he; omega), ?_, ?_, ?_, fun q => ⟨?_, ?_⟩, cT_c c6 (F_at1 hF g37) (F_row1 hF g38)⟩
  · rw [(hF 0 12 (fun ⟨e, e1, e2, _⟩ => by have := g12 e e1; omega)).2.2]; exact c2
  · rw [F_row1 hF (k := 1) (fun e he => by have := g12 e he; omega)]; exact c3
  · rw [F_row1 hF (k := 0) (fun e he => by have := g12 e he; omega)]; exact c4
  · rw [vc_F hF (fun e he => by have := g12 e he; omega)]; exact (c5 q).1
  · rw [F_row1 hF (k := 7) (fun e he => by have := g12 e he; omega)]; exact (c5 q).2
theorem okB_at {S : List (Nat × Nat)} {s s' : mh_H} (hF : mh_F S s s') (hS : mh_okB S = true) : s'.1 102 = s.1 102 ∧ s'.1 58 = s.1 58 ∧ s'.1 57 1 = s.1 57 1 ∧ s'.1 57 3 = s.1 57 3 ∧ s'.1 57 64 = s.1 57 64 ∧ s'.1 57 65 = s.1 57 65 := by
  have h0 := List.all_eq_true.mp hS
  refine ⟨F_row1 hF (fun e he q => ?_), F_row1 hF (fun e he q => ?_), F_at1 hF (fun e he q => ?_), F_at1 hF (fun e he q => ?_), F_at1 hF (fun e he q => ?_), F_at1 hF (fun e he q => ?_)⟩
  · have h3 := h0 e he; simp [q] at h3
  · have h3 := h0 e he; simp [q] at h3
  · have h3 := h0 e he
    rcases q.2 with g | g <;> simp [q.1, g] at h3
  · have h3 := h0 e he
    rcases q.2 with g | g <;> simp [q.1, g] at h3
  · have h3 := h0 e he
    rcases q.2 with g | g <;> simp [q.1, g] at h3
  · have h3 := h0 e he
    rcases q.2 with g | g <;> simp [q.1, g] at h3
/-- the reference went through a night and came back -/
theorem RA_bk {S : List (Nat × Nat)} {L : mh_Lw} {v v' : mh_V} {ch fl : Int32} {w : mh_V} {cw : Int32} {m : Nat} {r : Nat → Int32} {s s' : mh_H} (h : mh_RA L v ch fl w cw m r s) (hn : mh_rN L v' s') (hd : mh_sd 1 s' = mh_sd 1 s) (hF : mh_F S s s') (hS : mh_okB S = true) : mh_RA L v' ch fl w cw m r s' := by
  obtain ⟨b1, b2, b3, b4, b5, b6⟩ := okB_at hF hS
  obtain ⟨c1, c2, c3, c4, c5⟩ := h
  refine ⟨hn, by rw [b4]; exact c2, by rw [b5]; exact c3, fun q => ⟨by rw [kv_sd hd b1]; exact (c4 q).1, by rw [b6]; exact (c4 q).2⟩, rT_c c5 b3 b2⟩
theorem kv_F {S : List (Nat × Nat)} {s s' : mh_H} (hF : mh_F S s s') (h0 : ∀ e ∈ S, (e.1 < 83 ∨ 88 < e.1) ∧ e.1 ≠ 102) : mh_kv s' = mh_kv s := by
  have rw1 : ∀ k, 83 ≤ k → k ≤ 88 → s'.1 k = s.1 k := fun k a b => F_row1 hF (fun e he => by have := h0 e he; omega)
  refine kv_cg (fun r c hc hr => ?_) (fun c hc => ?_) ?_ ?_
  · have : 83 ≤ mh_sr r ∧ mh_sr r ≤ 88 := by unfold mh_sr; split; omega; split; omega; split <;> omega
    rw [rw1 _ this.1 this.2]
  · rw [F_row1 hF (k := 102) (fun e he => (h0 e he).2)]
  · rw [rw1 87 (by decide) (by decide)]
  · exact (hF 88 1 (fun ⟨e, e1, e2, _⟩ => by have := h0 e e1; omega)).2.1
theorem RA_F {S : List (Nat × Nat)} {L : mh_Lw} {v : mh_V} {ch fl : Int32} {w : mh_V} {cw : Int32} {m : Nat} {r : Nat → Int32} {s s' : mh_H} (h : mh_RA L v ch fl w cw m r s) (hF : mh_F S s s') (hp : mh_p3 s') (hS : mh_okR S = true) : mh_RA L v ch fl w cw m r s' := by
  obtain ⟨h1, h2⟩ := Bool.and_eq_true_iff.mp hS
  obtain ⟨h3, h4⟩ := Bool.and_eq_true_iff.mp h1
  obtain ⟨b1, b2, b3, b4, b5, b6⟩ := okB_at hF h4
  have h0 := List.all_eq_true.mp h2
  have h5 := List.all_eq_true.mp h4
  obtain ⟨c1, c2, c3, c4, c5⟩ := h
  have ek : mh_kv s' = mh_kv s := kv_F hF (fun e he => by
    have t1 := h0 e he
    have t2 := h5 e he
    simp at t1 t2
    omega)
  exact ⟨rN_F c1 hF hp h3, by rw [b4]; exact c2, by rw [b5]; exact c3, fun q => ⟨by rw [ek]; exact (c4 q).1, by rw [b6]; exact (c4 q).2⟩, rT_c c5 b3 b2⟩
/-- what neither side's cells are in leaves the relation -/
theorem mh_RV_keep {S : List (Nat × Nat)} {B D : Int} {σ σ2 : mh_H} (hF : mh_F S σ σ2) (hI : mh_I B D σ2) (hS : (mh_okC S && mh_okR S) = true) (h : mh_RV σ) : mh_RV σ2 := by
  obtain ⟨hc, hr⟩ := Bool.and_eq_true_iff.mp hS
  obtain ⟨kl, Ls, v, ch, fl, w, cw, m, r, a1, a2, a3, a4, a5, a6⟩ := h
  exact ⟨kl, Ls, v, ch, fl, w, cw, m, r, a1, a2, a3, a4, CA_F a1 a5 hF (mh_I_p3 hI) hc, RA_F a6 hF (mh_I_p3 hI) hr⟩
theorem lw_nil {kl : Nat} (hl : 40 ≤ kl) : ∀ s : mh_H, (s.1 kl 7).toInt = 0 → mh_LC kl s (mh_lw []) := fun s h7 =>
  LC_of (B := 0) (by decide) trivial (by rw [h7]; rfl) (by decide) (fun _ q hq => absurd hq (by simp)) (fun _ q hq => absurd hq (by simp))

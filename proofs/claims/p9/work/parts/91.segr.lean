/-- the reference's evaluation -/
theorem bes_cg (s s0 : mh_H) (p d : Int32) : f_eX10_beside s p d = f_eX10_beside s0 p d := rfl
theorem tb_cg {s s0 : mh_H} (h : ∀ j, s.1 60 j = s0.1 60 j) (p : Int32) : ∀ (n : Nat) (a b : Int32), l_eX10_treesBeside_4_1 s p n a b = l_eX10_treesBeside_4_1 s0 p n a b := by
  intro n
  induction n with
  | zero => intro a b; rfl
  | succ n ih =>
    intro a b
    rw [l_eX10_treesBeside_4_1_s, l_eX10_treesBeside_4_1_s]
    unfold ls_eX10_treesBeside_4_1
    simp only [mh_lbE, bes_cg s s0, h, ih]
theorem vo_cg {s s0 : mh_H} (h : ∀ k, k ≠ 77 → k ≠ 78 → s.1 k = s0.1 k) (x : Int32) : f_eX10_valueOf s x = f_eX10_valueOf s0 x := by
  have h57 : ∀ j, s.1 57 j = s0.1 57 j := fun j => congrFun (h 57 (by decide) (by decide)) j
  have h59 : ∀ j, s.1 59 j = s0.1 59 j := fun j => congrFun (h 59 (by decide) (by decide)) j
  have h60 : ∀ j, s.1 60 j = s0.1 60 j := fun j => congrFun (h 60 (by decide) (by decide)) j
  have h61 : ∀ j, s.1 61 j = s0.1 61 j := fun j => congrFun (h 61 (by decide) (by decide)) j
  have h62 : ∀ j, s.1 62 j = s0.1 62 j := fun j => congrFun (h 62 (by decide) (by decide)) j
  have h63 : ∀ j, s.1 63 j = s0.1 63 j := fun j => congrFun (h 63 (by decide) (by decide)) j
  unfold f_eX10_valueOf f_eX10_ofCell f_eX10_treesBeside f_eX10_windNow
  simp only [mh_lbE, h57, h59, h60, h61, h62, h63, tb_cg h60]
def go_p (o : Option Int32) (v f : Int32) : Prop := match o with
  | none => f.toInt ≠ 0
  | some x => v = x ∧ f.toInt = 0
def go_ng (o : Option Int32) : Option Int32 := match o with
  | none => none
  | some x => some (if x.toInt = 0 then 1 else 0)
def go_bo (op : Int32) (a b : Option Int32) : Option Int32 := match a with
  | none => none
  | some x => match b with
    | none => none
    | some y => if (op.toInt = 47 ∨ op.toInt = 37) ∧ y.toInt = 0 then none else some (mh_wrk op x y)
def go_R (s0 : mh_H) (HI : Int32) (hi c sp : Nat) (st : Nat → Option Int32) (Post : mh_H → Prop) : Prop :=
  ∀ (n : Nat) (s : mh_H) (X Y : Int32), X.toInt = (c : Int) → Y.toInt = (sp : Int) → (∀ k, k ≠ 77 → k ≠ 78 → s.1 k = s0.1 k) → (∀ j, j < sp → go_p (st j) (s.1 77 j) (s.1 78 j)) → sp + (hi - c) ≤ 900 → hi - c < n → Post (l_eX10_goesThrough_5_1 HI n s X Y)
theorem go_ext {s0 : mh_H} {HI : Int32} {hi c sp : Nat} {st st' : Nat → Option Int32} {Post : mh_H → Prop} (h : go_R s0 HI hi c sp st Post) (he : ∀ j, j < sp → st j = st' j) : go_R s0 HI hi c sp st' Post :=
  fun n s X Y hX hY hs hst ht hn => h n s X Y hX hY hs (fun j hj => by rw [he j hj]; exact hst j hj) ht hn
theorem go_push {s0 : mh_H} {HI : Int32} {hi c sp : Nat} {st : Nat → Option Int32} {Post : mh_H → Prop} {v : Int32} (hH : HI.toInt = (hi : Int)) (hh : hi ≤ 400) (hc : c < hi) (hv : (s0.1 68 c = 0 ∧ v = s0.1 69 c) ∨ (s0.1 68 c = 1 ∧ v = f_eX10_valueOf s0 (s0.1 69 c))) (h : go_R s0 HI hi (c + 1) (sp + 1) (mh_us st sp (some v)) Post) : go_R s0 HI hi c sp st Post := by
  intro n s X Y hX hY hs hst ht hn
  obtain ⟨n, rfl⟩ : ∃ m, n = m + 1 := ⟨n - 1, by omega⟩
  have k1 : (1 : Int32).toInt = ((1 : Nat) : Int) := rfl
  have hw : s.1 68 c = s0.1 68 c := congrFun (hs 68 (by decide) (by decide)) c
  have hw1 : s.1 69 c = s0.1 69 c := congrFun (hs 69 (by decide) (by decide)) c
  rw [l_eX10_goesThrough_5_1_s]
  unfold ls_eX10_goesThrough_5_1
  rw [if_pos (by omega)]
  simp only [mh_lbE]
  rw [ix_n hX, ix_n hY, hw, pI_o (show 69 ≠ 78 by decide), hw1]
  have fin : ∀ v' : Int32, v' = v → Post (l_eX10_goesThrough_5_1 HI n (mh_pI (mh_pI s 78 sp 0) 77 sp v') (X + 1) (Y + 1)) := by
    intro v' e
    refine h n _ (X + 1) (Y + 1) (ix_add hX (by omega) k1 (by decide)) (ix_add hY (by omega) k1 (by decide)) (fun k h7 h8 => ((pI_row h7).trans (pI_row h8)).trans (hs k h7 h8)) (fun j hj => ?_) (by omega) (by omega)
    by_cases g : j = sp
    · subst g
      rw [us_w, pI_w, pI_o (show 78 ≠ 77 by decide), pI_w]
      exact ⟨e, rfl⟩
    · rw [us_o g, pI_j g, pI_o (show 77 ≠ 78 by decide), pI_o (show 78 ≠ 77 by decide), pI_j g]
      exact hst j (by omega)
  rcases hv with ⟨g1, g2⟩ | ⟨g1, g2⟩
  · rw [g1, if_neg (by decide), if_neg (by decide), if_pos (by decide)]
    exact fin _ g2.symm
  · rw [g1, if_neg (by decide), if_neg (by decide), if_neg (by decide)]
    refine fin _ (Eq.trans ?_ g2.symm)
    exact vo_cg (fun k h7 h8 => (pI_row h8).trans (hs k h7 h8)) _
theorem go_not {s0 : mh_H} {HI : Int32} {hi c m : Nat} {st : Nat → Option Int32} {Post : mh_H → Prop} (hH : HI.toInt = (hi : Int)) (hh : hi ≤ 400) (hc : c < hi) (hk : s0.1 68 c = 2) (hb : ∀ x, st m = some x → x = 0 ∨ x = 1) (h : go_R s0 HI hi (c + 1) (m + 1) (mh_us st m (go_ng (st m))) Post) : go_R s0 HI hi c (m + 1) st Post := by
  intro n s X Y hX hY hs hst ht hn
  obtain ⟨n, rfl⟩ : ∃ m, n = m + 1 := ⟨n - 1, by omega⟩
  have k1 : (1 : Int32).toInt = ((1 : Nat) : Int) := rfl
  have hw : s.1 68 c = 2 := (congrFun (hs 68 (by decide) (by decide)) c).trans hk
  have eY1 : (Y - 1).toInt = ((m : Nat) : Int) := by
    have := ix_sub hY (by omega) k1 (by decide) (by omega)
    rw [this]; omega
  rw [l_eX10_goesThrough_5_1_s]
  unfold ls_eX10_goesThrough_5_1
  rw [if_pos (by omega)]
  simp only [mh_lbE]
  rw [ix_n hX, hw, if_neg (by decide), if_pos (by decide), ix_n eY1]
  refine h n _ (X + 1) Y (ix_add hX (by omega) k1 (by decide)) hY (fun k h7 h8 => (pI_row h7).trans (hs k h7 h8)) (fun j hj => ?_) (by omega) (by omega)
  by_cases g : j = m
  · subst g
    rw [us_w, pI_w, pI_o (show 78 ≠ 77 by decide)]
    have hp := hst j (by omega)
    cases e : st j with
    | none => rw [e] at hp; exact hp
    | some x =>
      rw [e] at hp
      refine ⟨?_, hp.2⟩
      rw [hp.1]
      rcases hb x e with rfl | rfl <;> rfl
  · rw [us_o g, pI_j g, pI_o (show 78 ≠ 77 by decide)]
    exact hst j (by omega)
theorem does_2 {s : mh_H} {op P : Int32} {m : Nat} (hP : P.toInt = (m : Int)) (hm : m < 1000) (h2 : mh_op2 op) : ∃ f : Int32, f_eX10_does s op P = mh_pI (mh_pI s 78 m f) 77 m (mh_wrk op (s.1 77 m) (s.1 77 (m + 1))) ∧ (f.toInt = 0 ↔ ((s.1 78 m).toInt = 0 ∧ (s.1 78 (m + 1)).toInt = 0 ∧ ¬ ((op.toInt = 47 ∨ op.toInt = 37) ∧ (s.1 77 (m + 1)).toInt = 0))) := by
  have k1 : (1 : Int32).toInt = ((1 : Nat) : Int) := rfl
  have c37 : (37 : Int32).toInt = 37 := rfl
  have c38 : (38 : Int32).toInt = 38 := rfl
  have c47 : (47 : Int32).toInt = 47 := rfl
  have c124 : (124 : Int32).toInt = 124 := rfl
  have e1 : (P + 1).toInt = ((m + 1 : Nat) : Int) := ix_add hP (by omega) k1 (by decide)
  have r1 : ∀ (f : Int32) (j : Nat), (mh_pI s 78 m f).1 77 j = s.1 77 j := fun f j => pI_o (by decide)
  have hop : op.toInt ≠ 38 ∧ op.toInt ≠ 124 := by unfold mh_op2 at h2; omega
  clear h2
  unfold f_eX10_does
  rw [mh_lbE]
  rw [if_neg (by omega), if_neg (by omega)]
  simp only [mh_lbE, wk_r]
  rw [ix_n hP, ix_n e1]
  simp only [r1]
  have z1 : (1 : Int32).toInt ≠ 0 := by decide
  by_cases a : (s.1 78 m).toInt = 0
  · rw [if_pos a]
    by_cases b : (s.1 78 (m + 1)).toInt = 0
    · rw [if_pos b]
      by_cases c : op.toInt = 47
      · rw [if_pos (by omega)]
        by_cases d : (s.1 77 (m + 1)).toInt = 0
        · rw [if_pos d]
          exact ⟨1, rfl, ⟨fun g => absurd g z1, fun g => absurd ⟨Or.inl c, d⟩ g.2.2⟩⟩
        · rw [if_neg d]
          exact ⟨0, rfl, ⟨fun _ => ⟨a, b, fun g => d g.2⟩, fun _ => rfl⟩⟩
      · rw [if_neg (by omega)]
        by_cases c' : op.toInt = 37
        · rw [if_pos (by omega)]
          by_cases d : (s.1 77 (m + 1)).toInt = 0
          · rw [if_pos d]
            exact ⟨1, rfl, ⟨fun g => absurd g z1, fun g => absurd ⟨Or.inr c', d⟩ g.2.2⟩⟩
          · rw [if_neg d]
            exact ⟨0, rfl, ⟨fun _ => ⟨a, b, fun g => d g.2⟩, fun _ => rfl⟩⟩
        · rw [if_neg (by omega)]
          exact ⟨0, rfl, ⟨fun _ => ⟨a, b, fun g => by omega⟩, fun _ => rfl⟩⟩
    · rw [if_neg b]
      exact ⟨1, rfl, ⟨fun g => absurd g z1, fun g => absurd g.2.1 b⟩⟩
  · rw [if_neg a]
    exact ⟨1, rfl, ⟨fun g => absurd g z1, fun g => absurd g.1 a⟩⟩

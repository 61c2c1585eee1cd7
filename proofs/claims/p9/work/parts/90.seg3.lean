/-- a piece of the class's code: c .. c' pushes D, with at most w places of the stack -/
def sg_C (kl : Nat) (row : Nat → Int32) (D : mh_Dn) (w c c' : Nat) : Prop := c ≤ c' ∧ ∀ (s0 : mh_H) (HI : Int32) (hi sp : Nat) (st : Nat → Int32), (∀ i, c ≤ i → i < c' → s0.1 (kl + 1) i = row i) → HI.toInt = (hi : Int) → c' ≤ hi → hi ≤ 400 → sp + w ≤ 32 →
  (∀ v, D (mh_e13 (s0.1 (kl + 6))) = some v → ∀ R, sg_R kl s0 HI hi c' (sp + 1) (mh_us st sp v) R → sg_R kl s0 HI hi c sp st R) ∧ (D (mh_e13 (s0.1 (kl + 6))) = none → sg_R kl s0 HI hi c sp st 0)
theorem sC_cg {kl : Nat} {row row' : Nat → Int32} {D : mh_Dn} {w c c' : Nat} (h : sg_C kl row D w c c') (he : ∀ i, c ≤ i → i < c' → row' i = row i) : sg_C kl row' D w c c' :=
  ⟨h.1, fun s0 HI hi sp st h1 h2 h3 h4 h5 => h.2 s0 HI hi sp st (fun i a b => (h1 i a b).trans (he i a b)) h2 h3 h4 h5⟩
theorem sC_w {kl : Nat} {row : Nat → Int32} {D : mh_Dn} {w w' c c' : Nat} (h : sg_C kl row D w c c') (hw : w ≤ w') : sg_C kl row D w' c c' :=
  ⟨h.1, fun s0 HI hi sp st h1 h2 h3 h4 h5 => h.2 s0 HI hi sp st h1 h2 h3 h4 (by omega)⟩
theorem sC_num {kl : Nat} {row : Nat → Int32} {c : Nat} {v : Int32} (h1 : row c = 13) (h2 : row (c + 1) = v) : sg_C kl row (fun _ => some v) 1 c (c + 2) :=
  ⟨by omega, fun s0 HI hi sp st g1 g2 g3 g4 g5 => ⟨fun v' hv R hR => rn_push g2 g4 (by omega) (Or.inr ⟨by rw [g1 c (by omega) (by omega), h1]; rfl, rfl, by rw [g1 (c + 1) (by omega) (by omega), h2]; exact (Option.some.inj hv).symm⟩) g3 hR, fun hn => absurd hn (by simp)⟩⟩
theorem sC_var {kl : Nat} {row : Nat → Int32} {c i : Nat} (h1 : (row c).toInt = (i : Int)) (hi13 : i < 13) : sg_C kl row (fun e => some (e i)) 1 c (c + 1) :=
  ⟨by omega, fun s0 HI hi sp st g1 g2 g3 g4 g5 => ⟨fun v' hv R hR => rn_push g2 g4 (by omega) (Or.inl ⟨i, hi13, by rw [g1 c (by omega) (by omega)]; exact h1, rfl, ((Option.some.inj hv).symm.trans (if_pos hi13))⟩) g3 hR, fun hn => absurd hn (by simp)⟩⟩
theorem sC_bin {kl : Nat} {row : Nat → Int32} {A B : mh_Dn} {w1 w2 w c m m' : Nat} {op : Int32} (hA : sg_C kl row A w1 c m) (hB : sg_C kl row B w2 m m') (h1 : row m' = op) (h2 : mh_op2 op) (hw1 : w1 ≤ w) (hw2 : w2 + 1 ≤ w) (hw : w ≤ 32) : sg_C kl row (rd_bo op A B) w c (m' + 1) := by
  have q1 := hA.1
  have q2 := hB.1
  refine ⟨by omega, fun s0 HI hi sp st g1 g2 g3 g4 g5 => ?_⟩
  obtain ⟨a1, a2⟩ := hA.2 s0 HI hi sp st (fun i x y => g1 i x (by omega)) g2 (by omega) g4 (by omega)
  have ho : s0.1 (kl + 1) m' = op := (g1 m' (by omega) (by omega)).trans h1
  cases eA : A (mh_e13 (s0.1 (kl + 6))) with
  | none => exact ⟨fun v hv => absurd (hv.symm.trans (bo_n1 eA)) (by simp), fun _ => a2 eA⟩
  | some x =>
    obtain ⟨b1, b2⟩ := hB.2 s0 HI hi (sp + 1) (mh_us st sp x) (fun i x y => g1 i (by omega) (by omega)) g2 (by omega) g4 (by omega)
    cases eB : B (mh_e13 (s0.1 (kl + 6))) with
    | none => exact ⟨fun v hv => absurd (hv.symm.trans (bo_n2 eA eB)) (by simp), fun _ => a1 x eA 0 (b2 eB)⟩
    | some y =>
      have e1 : mh_us (mh_us st sp x) (sp + 1) y sp = x := by rw [us_o (by omega), us_w]
      have e2 : mh_us (mh_us st sp x) (sp + 1) y (sp + 1) = y := us_w
      have hbs := bo_s (op := op) eA eB
      refine ⟨fun v hv R hR => a1 x eA R (b1 y eB R (rn_bin g2 g4 (by omega) (by omega) ho h2 ?_)), fun hn => a1 x eA 0 (b1 y eB 0 (rn_bin g2 g4 (by omega) (by omega) ho h2 ?_))⟩
      · rw [e1, e2]
        rw [hbs] at hv
        by_cases g : (op.toInt = 47 ∨ op.toInt = 37) ∧ y.toInt = 0
        · rw [if_pos g] at hv; exact absurd hv (by simp)
        · rw [if_neg g] at hv ⊢
          rw [Option.some.inj hv]
          exact rn_ext hR (fun j hj => by
            by_cases q : j = sp
            · rw [q, us_w, us_w]
            · rw [us_o q, us_o q, us_o (by omega), us_o q])
      · rw [e2]
        rw [hbs] at hn
        by_cases g : (op.toInt = 47 ∨ op.toInt = 37) ∧ y.toInt = 0
        · rw [if_pos g]
        · rw [if_neg g] at hn; exact absurd hn (by simp)
theorem sC_not {kl : Nat} {row : Nat → Int32} {A : mh_Dn} {w c m : Nat} (hA : sg_C kl row A w c m) (h1 : row m = 33) (hw : 1 ≤ w) : sg_C kl row (rd_ng A) w c (m + 1) := by
  have q1 := hA.1
  refine ⟨by omega, fun s0 HI hi sp st g1 g2 g3 g4 g5 => ?_⟩
  obtain ⟨a1, a2⟩ := hA.2 s0 HI hi sp st (fun i x y => g1 i x (by omega)) g2 (by omega) g4 (by omega)
  have ho : s0.1 (kl + 1) m = 33 := (g1 m (by omega) (by omega)).trans h1
  cases eA : A (mh_e13 (s0.1 (kl + 6))) with
  | none => exact ⟨fun v hv => absurd (hv.symm.trans (ng_n eA)) (by simp), fun _ => a2 eA⟩
  | some x =>
    refine ⟨fun v hv R hR => a1 x eA R (rn_not g2 g4 (by omega) (by omega) ho ?_), fun hn => absurd (hn.symm.trans (ng_s eA)) (by simp)⟩
    rw [ng_s eA] at hv
    rw [us_w, Option.some.inj hv]
    exact rn_ext hR (fun j hj => by
      by_cases q : j = sp
      · rw [q, us_w, us_w]
      · rw [us_o q, us_o q, us_o q])
theorem sC_and {kl : Nat} {row : Nat → Int32} {A B : mh_Dn} {w c m c' : Nat} (hA : sg_C kl row A w c m) (h1 : row m = 38) (h2 : (row (m + 1)).toInt = (c' : Int)) (hB : sg_C kl row B w (m + 2) c') (hw : 1 ≤ w) : sg_C kl row (rd_an A B) w c c' := by
  have q1 := hA.1
  have q2 := hB.1
  refine ⟨by omega, fun s0 HI hi sp st g1 g2 g3 g4 g5 => ?_⟩
  obtain ⟨a1, a2⟩ := hA.2 s0 HI hi sp st (fun i x y => g1 i x (by omega)) g2 (by omega) g4 (by omega)
  obtain ⟨b1, b2⟩ := hB.2 s0 HI hi sp st (fun i x y => g1 i (by omega) y) g2 g3 g4 (by omega)
  have ho : s0.1 (kl + 1) m = 38 := (g1 m (by omega) (by omega)).trans h1
  have ht : (s0.1 (kl + 1) (m + 1)).toInt = (c' : Int) := by rw [g1 (m + 1) (by omega) (by omega)]; exact h2
  have k38 : (38 : Int32).toInt = 38 := rfl
  cases eA : A (mh_e13 (s0.1 (kl + 6))) with
  | none => exact ⟨fun v hv => absurd (hv.symm.trans (an_n eA)) (by simp), fun _ => a2 eA⟩
  | some x =>
    have ea := an_s (b := B) eA
    by_cases g : x.toInt = 0
    · rw [if_pos g] at ea
      refine ⟨fun v hv R hR => a1 x eA R (rn_jmp g2 g4 q2 g3 (by omega) ho (Or.inl rfl) ht ?_), fun hn => absurd (hn.symm.trans ea) (by simp)⟩
      rw [us_w, if_pos ⟨fun _ => g, fun _ => rfl⟩]
      rw [ea] at hv
      rw [Option.some.inj hv]; exact hR
    · rw [if_neg g] at ea
      have hj : ∀ R, sg_R kl s0 HI hi (m + 2) sp st R → sg_R kl s0 HI hi c sp st R := fun R hR => a1 x eA R (rn_jmp g2 g4 q2 g3 (by omega) ho (Or.inl rfl) ht (by
        rw [us_w, if_neg (fun q => g (q.1 rfl))]
        exact rn_ext hR (fun j hj => (us_o (by omega)).symm)))
      exact ⟨fun v hv R hR => hj R (b1 v (ea ▸ hv) R hR), fun hn => hj 0 (b2 (ea ▸ hn))⟩
theorem sC_or {kl : Nat} {row : Nat → Int32} {A B : mh_Dn} {w c m c' : Nat} (hA : sg_C kl row A w c m) (h1 : row m = 124) (h2 : (row (m + 1)).toInt = (c' : Int)) (hB : sg_C kl row B w (m + 2) c') (hw : 1 ≤ w) : sg_C kl row (rd_or A B) w c c' := by
  have q1 := hA.1
  have q2 := hB.1
  refine ⟨by omega, fun s0 HI hi sp st g1 g2 g3 g4 g5 => ?_⟩
  obtain ⟨a1, a2⟩ := hA.2 s0 HI hi sp st (fun i x y => g1 i x (by omega)) g2 (by omega) g4 (by omega)
  obtain ⟨b1, b2⟩ := hB.2 s0 HI hi sp st (fun i x y => g1 i (by omega) y) g2 g3 g4 (by omega)
  have ho : s0.1 (kl + 1) m = 124 := (g1 m (by omega) (by omega)).trans h1
  have ht : (s0.1 (kl + 1) (m + 1)).toInt = (c' : Int) := by rw [g1 (m + 1) (by omega) (by omega)]; exact h2
  have k124 : (124 : Int32).toInt = 124 := rfl
  cases eA : A (mh_e13 (s0.1 (kl + 6))) with
  | none => exact ⟨fun v hv => absurd (hv.symm.trans (or_n eA)) (by simp), fun _ => a2 eA⟩
  | some x =>
    have ea := or_s (b := B) eA
    by_cases g : x.toInt = 0
    · rw [if_pos g] at ea
      have hj : ∀ R, sg_R kl s0 HI hi (m + 2) sp st R → sg_R kl s0 HI hi c sp st R := fun R hR => a1 x eA R (rn_jmp g2 g4 q2 g3 (by omega) ho (Or.inr rfl) ht (by
        rw [us_w, if_neg (fun q => absurd (q.2 g) (by decide))]
        exact rn_ext hR (fun j hj => (us_o (by omega)).symm)))
      exact ⟨fun v hv R hR => hj R (b1 v (ea ▸ hv) R hR), fun hn => hj 0 (b2 (ea ▸ hn))⟩
    · rw [if_neg g] at ea
      refine ⟨fun v hv R hR => a1 x eA R (rn_jmp g2 g4 q2 g3 (by omega) ho (Or.inr rfl) ht ?_), fun hn => absurd (hn.symm.trans ea) (by simp)⟩
      rw [us_w, if_pos ⟨fun q => absurd q (by decide), fun q => absurd q g⟩]
      rw [ea] at hv
      rw [Option.some.inj hv]; exact hR
/-- a whole run -/
theorem sC_run {kl : Nat} {D : mh_Dn} {w c c' : Nat} {s : mh_H} {a b : Int32} (h : sg_C kl (s.1 (kl + 1)) D w c c') (ha : a.toInt = (c : Int)) (hb : b.toInt = (c' : Int)) (hc : c' ≤ 400) (hw : w ≤ 32) : (f_eX1_run s kl a b).1 = (D (mh_e13 (s.1 (kl + 6)))).getD 0 ∧ ∀ k, k ≠ kl + 7 → (f_eX1_run s kl a b).2.1 k = s.1 k := by
  unfold f_eX1_run
  simp only [mh_lbE]
  have k0 : (0 : Int32).toInt = 0 := rfl
  have k4 : (400 : Int32).toInt = 400 := rfl
  have h0 := h.1
  have e1 : (mh_ma32 0 a).toInt = (c : Int) := by rw [mh_ma32_i]; omega
  have e2 : (mh_mi32 b 400).toInt = (c' : Int) := by rw [mh_mi32_i]; omega
  generalize mh_ma32 0 a = X at e1
  generalize mh_mi32 b 400 = HI at e2
  obtain ⟨n, hn⟩ : ∃ n : Nat, n = 401 := ⟨_, rfl⟩
  rw [show (401 : Nat) = n by omega]
  obtain ⟨g1, g2⟩ := h.2 s HI c' 0 (fun _ => 0) (fun _ _ _ => rfl) e2 (Nat.le_refl _) hc (by omega)
  cases eD : D (mh_e13 (s.1 (kl + 6))) with
  | none => exact g2 eD n s 0 X 0 0 e1 rfl rfl (fun _ _ => rfl) (fun j hj => absurd hj (Nat.not_lt_zero j)) (by omega) (by omega)
  | some v =>
    have := g1 v eD v (by
      have := rn_end (kl := kl) (s0 := s) (st := mh_us (fun _ => 0) 0 v) (m := 0) e2 (by decide)
      rw [us_w] at this
      exact this)
    exact this n s 0 X 0 0 e1 rfl rfl (fun _ _ => rfl) (fun j hj => absurd hj (Nat.not_lt_zero j)) (by omega) (by omega)

theorem go_st {s0 s : mh_H} {HI X Y : Int32} {hi c m n : Nat} (hH : HI.toInt = (hi : Int)) (hh : hi ≤ 400) (hc : c < hi) (hX : X.toInt = (c : Int)) (hY : Y.toInt = ((m + 2 : Nat) : Int)) (hm : m < 990) {op : Int32} (hw : s.1 68 c = op) (ho : 2 < op.toInt) : ∃ P X' Y' : Int32, P.toInt = (m : Int) ∧ X'.toInt = ((c + 1 : Nat) : Int) ∧ Y'.toInt = ((m + 1 : Nat) : Int) ∧ l_eX10_goesThrough_5_1 HI (n + 1) s X Y = l_eX10_goesThrough_5_1 HI n (f_eX10_does s op P) X' Y' := by
  have k1 : (1 : Int32).toInt = ((1 : Nat) : Int) := rfl
  have k2 : (2 : Int32).toInt = 2 := rfl
  have eYm : (Y + (-1)).toInt = ((m + 1 : Nat) : Int) := ix_m1 (m := m + 1) hY (by omega)
  have eP : (Y + (-1) - 1).toInt = ((m : Nat) : Int) := by
    have := ix_sub eYm (by omega) k1 (by decide) (by omega)
    rw [this]; rfl
  have eX : (X + 1).toInt = ((c + 1 : Nat) : Int) := ix_add hX (by omega) k1 (by decide)
  refine ⟨_, _, _, eP, eX, eYm, ?_⟩
  rw [l_eX10_goesThrough_5_1_s]
  unfold ls_eX10_goesThrough_5_1
  rw [if_pos (by omega)]
  simp only [mh_lbE]
  rw [ix_n hX, hw, if_pos (by omega)]
theorem go_bin {s0 : mh_H} {HI : Int32} {hi c m : Nat} {st : Nat → Option Int32} {Post : mh_H → Prop} {op : Int32} (hH : HI.toInt = (hi : Int)) (hh : hi ≤ 400) (hc : c < hi) (hk : s0.1 68 c = op) (h2 : mh_op2 op) (h : go_R s0 HI hi (c + 1) (m + 1) (mh_us st m (go_bo op (st m) (st (m + 1)))) Post) : go_R s0 HI hi c (m + 2) st Post := by
  intro n s X Y hX hY hs hst ht hn
  obtain ⟨n, rfl⟩ : ∃ m, n = m + 1 := ⟨n - 1, by omega⟩
  have hw : s.1 68 c = op := (congrFun (hs 68 (by decide) (by decide)) c).trans hk
  obtain ⟨P, X', Y', eP, eX, eY, e⟩ := go_st (s0 := s0) (n := n) hH hh hc hX hY (by omega) hw (by unfold mh_op2 at h2; omega)
  obtain ⟨f, e2, e3⟩ := does_2 (s := s) (op := op) eP (by omega) h2
  rw [e, e2]
  refine h n _ X' Y' eX eY (fun k h7 h8 => ((pI_row h7).trans (pI_row h8)).trans (hs k h7 h8)) (fun j hj => ?_) (by omega) (by omega)
  by_cases g : j = m
  · subst g
    rw [us_w, pI_w, pI_o (show 78 ≠ 77 by decide), pI_w]
    have p1 := hst j (by omega)
    have p2 := hst (j + 1) (by omega)
    cases a : st j with
    | none => rw [a] at p1; exact fun q => p1 (e3.1 q).1
    | some x =>
      cases b : st (j + 1) with
      | none => rw [b] at p2; exact fun q => p2 (e3.1 q).2.1
      | some y =>
        rw [a] at p1
        rw [b] at p2
        show go_p (if (op.toInt = 47 ∨ op.toInt = 37) ∧ y.toInt = 0 then none else some (mh_wrk op x y)) _ _
        have y2 : s.1 77 (j + 1) = y := p2.1
        have x2 : s.1 77 j = x := p1.1
        rw [y2] at e3
        rw [x2, y2]
        by_cases d : (op.toInt = 47 ∨ op.toInt = 37) ∧ y.toInt = 0
        · rw [if_pos d]
          exact fun q => (e3.1 q).2.2 d
        · rw [if_neg d]
          exact ⟨rfl, e3.2 ⟨p1.2, p2.2, d⟩⟩
  · rw [us_o g, pI_j g, pI_o (show 77 ≠ 78 by decide), pI_o (show 78 ≠ 77 by decide), pI_j g]
    exact hst j (by omega)
def go_an (a b : Option Int32) : Option Int32 := match a with
  | none => none
  | some x => if x.toInt = 0 then some x else b
def go_or (a b : Option Int32) : Option Int32 := match a with
  | none => none
  | some x => if x.toInt = 0 then b else some x
theorem does_j {s : mh_H} {op P : Int32} {m : Nat} (hP : P.toInt = (m : Int)) (hm : m < 1000) (h2 : op.toInt = 38 ∨ op.toInt = 124) (hb : (s.1 78 m).toInt = 0 → s.1 77 m = 0 ∨ s.1 77 m = 1) : f_eX10_does s op P = if (s.1 78 m).toInt = 0 ∧ ((op.toInt = 38 ∧ (s.1 77 m).toInt ≠ 0) ∨ (op.toInt = 124 ∧ (s.1 77 m).toInt = 0)) then mh_pI (mh_pI s 77 m (s.1 77 (m + 1))) 78 m (s.1 78 (m + 1)) else s := by
  have k1 : (1 : Int32).toInt = ((1 : Nat) : Int) := rfl
  have c1 : (1 : Int32).toInt = 1 := rfl
  have c0 : (0 : Int32).toInt = 0 := rfl
  have c38 : (38 : Int32).toInt = 38 := rfl
  have c124 : (124 : Int32).toInt = 124 := rfl
  have e1 : (P + 1).toInt = ((m + 1 : Nat) : Int) := ix_add hP (by omega) k1 (by decide)
  have r1 : ∀ (f : Int32) (j : Nat), (mh_pI s 77 m f).1 78 j = s.1 78 j := fun f j => pI_o (by decide)
  unfold f_eX10_does
  rw [mh_lbE]
  by_cases g : op.toInt = 38
  · rw [if_pos (show op.toInt = (38 : Int32).toInt by omega)]
    simp only [mh_lbE]
    rw [ix_n hP, ix_n e1]
    simp only [r1]
    by_cases a : (s.1 78 m).toInt = 0
    · rw [if_pos a]
      rcases hb a with q | q
      · have q0 : (s.1 77 m).toInt = 0 := by rw [q]; exact c0
        rw [if_neg (by omega), if_neg (fun z => by omega)]
      · have q0 : (s.1 77 m).toInt = 1 := by rw [q]; exact c1
        rw [if_pos (by omega), if_pos ⟨a, Or.inl ⟨g, by omega⟩⟩]
    · rw [if_neg a, if_neg (fun z => a z.1)]
  · rw [if_neg (show ¬ op.toInt = (38 : Int32).toInt by omega), if_pos (show op.toInt = (124 : Int32).toInt by omega)]
    simp only [mh_lbE]
    rw [ix_n hP, ix_n e1]
    simp only [r1]
    by_cases a : (s.1 78 m).toInt = 0
    · rw [if_pos a]
      rcases hb a with q | q
      · have q0 : (s.1 77 m).toInt = 0 := by rw [q]; exact c0
        rw [if_pos (show (s.1 77 m).toInt = (0 : Int32).toInt from q0), if_pos ⟨a, Or.inr ⟨by omega, q0⟩⟩]
      · have q0 : (s.1 77 m).toInt = 1 := by rw [q]; exact c1
        rw [if_neg (by omega), if_neg (fun z => by omega)]
    · rw [if_neg a, if_neg (fun z => a z.1)]
theorem go_jn {s0 : mh_H} {HI : Int32} {hi c m : Nat} {st : Nat → Option Int32} {Post : mh_H → Prop} {op : Int32} (hH : HI.toInt = (hi : Int)) (hh : hi ≤ 400) (hc : c < hi) (hk : s0.1 68 c = op) (h2 : op.toInt = 38 ∨ op.toInt = 124) (hb : ∀ x, st m = some x → x = 0 ∨ x = 1) (h : go_R s0 HI hi (c + 1) (m + 1) (mh_us st m (if op.toInt = 38 then go_an (st m) (st (m + 1)) else go_or (st m) (st (m + 1)))) Post) : go_R s0 HI hi c (m + 2) st Post := by
  intro n s X Y hX hY hs hst ht hn
  obtain ⟨n, rfl⟩ : ∃ m, n = m + 1 := ⟨n - 1, by omega⟩
  have hw : s.1 68 c = op := (congrFun (hs 68 (by decide) (by decide)) c).trans hk
  obtain ⟨P, X', Y', eP, eX, eY, e⟩ := go_st (s0 := s0) (n := n) hH hh hc hX hY (by omega) hw (by omega)
  have p1 := hst m (by omega)
  have p2 := hst (m + 1) (by omega)
  have hb' : (s.1 78 m).toInt = 0 → s.1 77 m = 0 ∨ s.1 77 m = 1 := by
    intro q
    cases a : st m with
    | none => rw [a] at p1; exact absurd q p1
    | some x => rw [a] at p1; rw [p1.1]; exact hb x a
  rw [e, does_j eP (by omega) h2 hb']
  have cp : ∀ j, j < m + 1 → j ≠ m → go_p (st j) (s.1 77 j) (s.1 78 j) := fun j hj _ => hst j (by omega)
  by_cases d : (s.1 78 m).toInt = 0 ∧ ((op.toInt = 38 ∧ (s.1 77 m).toInt ≠ 0) ∨ (op.toInt = 124 ∧ (s.1 77 m).toInt = 0))
  · rw [if_pos d]
    refine h n _ X' Y' eX eY (fun k h7 h8 => ((pI_row h8).trans (pI_row h7)).trans (hs k h7 h8)) (fun j hj => ?_) (by omega) (by omega)
    by_cases g : j = m
    · subst g
      rw [us_w, pI_o (show 77 ≠ 78 by decide), pI_w, pI_w]
      cases a : st j with
      | none => rw [a] at p1; exact absurd d.1 p1
      | some x =>
        rw [a] at p1
        have x2 : s.1 77 j = x := p1.1
        rw [x2] at d
        rcases d.2 with q | q
        · rw [if_pos q.1]
          show go_p (if x.toInt = 0 then some x else st (j + 1)) _ _
          rw [if_neg q.2]; exact p2
        · rw [if_neg (by omega)]
          show go_p (if x.toInt = 0 then st (j + 1) else some x) _ _
          rw [if_pos q.2]; exact p2
    · rw [us_o g, pI_o (show 77 ≠ 78 by decide), pI_j g, pI_j g, pI_o (show 78 ≠ 77 by decide)]
      exact hst j (by omega)
  · rw [if_neg d]
    refine h n _ X' Y' eX eY hs (fun j hj => ?_) (by omega) (by omega)
    by_cases g : j = m
    · subst g
      rw [us_w]
      cases a : st j with
      | none =>
        rw [a] at p1
        split
        · exact p1
        · exact p1
      | some x =>
        rw [a] at p1
        have x2 : s.1 77 j = x := p1.1
        rw [x2] at d
        have d1 := p1.2
        split
        · rename_i q
          show go_p (if x.toInt = 0 then some x else st (j + 1)) _ _
          rw [if_pos (by omega)]; exact p1
        · rename_i q
          show go_p (if x.toInt = 0 then st (j + 1) else some x) _ _
          rw [if_neg (by omega)]; exact p1
    · rw [us_o g]
      exact hst j (by omega)
/-- a piece of the reference's code: c .. c' pushes D -/
def sg_P (kr wr : Nat → Int32) (D : mh_Dn) (c c' : Nat) : Prop := c ≤ c' ∧ ∀ (s0 : mh_H) (HI : Int32) (hi sp : Nat) (st : Nat → Option Int32) (Post : mh_H → Prop), (∀ i, c ≤ i → i < c' → s0.1 68 i = kr i ∧ s0.1 69 i = wr i) → HI.toInt = (hi : Int) → c' ≤ hi → hi ≤ 400 → go_R s0 HI hi c' (sp + 1) (mh_us st sp (D (mh_eR s0))) Post → go_R s0 HI hi c sp st Post
theorem sP_cg {kr wr kr' wr' : Nat → Int32} {D : mh_Dn} {c c' : Nat} (h : sg_P kr wr D c c') (he : ∀ i, c ≤ i → i < c' → kr' i = kr i ∧ wr' i = wr i) : sg_P kr' wr' D c c' :=
  ⟨h.1, fun s0 HI hi sp st Post h1 => h.2 s0 HI hi sp st Post (fun i a b => ⟨(h1 i a b).1.trans (he i a b).1, (h1 i a b).2.trans (he i a b).2⟩)⟩
theorem sP_num {kr wr : Nat → Int32} {c : Nat} {v : Int32} (h1 : kr c = 0) (h2 : wr c = v) : sg_P kr wr (fun _ => some v) c (c + 1) :=
  ⟨by omega, fun s0 HI hi sp st Post g1 g2 g3 g4 hR => go_push g2 g4 (by omega) (Or.inl ⟨(g1 c (by omega) (by omega)).1.trans h1, ((g1 c (by omega) (by omega)).2.trans h2).symm⟩) hR⟩
theorem sP_var {kr wr : Nat → Int32} {c i : Nat} (h1 : kr c = 1) (h2 : wr c = mh_chr i) (hi13 : i < 13) : sg_P kr wr (fun e => some (e i)) c (c + 1) :=
  ⟨by omega, fun s0 HI hi sp st Post g1 g2 g3 g4 hR => go_push g2 g4 (by omega) (Or.inr ⟨(g1 c (by omega) (by omega)).1.trans h1, by rw [(g1 c (by omega) (by omega)).2, h2]; exact if_pos hi13⟩) hR⟩
theorem sP_bin {kr wr : Nat → Int32} {A B : mh_Dn} {c m m' : Nat} {op : Int32} (hA : sg_P kr wr A c m) (hB : sg_P kr wr B m m') (h1 : kr m' = op) (h2 : mh_op2 op) : sg_P kr wr (rd_bo op A B) c (m' + 1) := by
  have q1 := hA.1
  have q2 := hB.1
  refine ⟨by omega, fun s0 HI hi sp st Post g1 g2 g3 g4 hR => ?_⟩
  refine hA.2 s0 HI hi sp st Post (fun i x y => g1 i x (by omega)) g2 (by omega) g4 (hB.2 s0 HI hi (sp + 1) _ Post (fun i x y => g1 i (by omega) (by omega)) g2 (by omega) g4 (go_bin g2 g4 (by omega) ((g1 m' (by omega) (by omega)).1.trans h1) h2 (go_ext hR (fun j hj => ?_))))
  by_cases q : j = sp
  · subst q
    rw [us_w, us_w, us_w, us_o (by omega), us_w]
    rfl
  · rw [us_o q, us_o q, us_o (by omega), us_o q]
def mh_b01 (A : mh_Dn) : Prop := ∀ e x, A e = some x → x = 0 ∨ x = 1
theorem sP_not {kr wr : Nat → Int32} {A : mh_Dn} {c m : Nat} (hA : sg_P kr wr A c m) (hb : mh_b01 A) (h1 : kr m = 2) : sg_P kr wr (rd_ng A) c (m + 1) := by
  have q1 := hA.1
  refine ⟨by omega, fun s0 HI hi sp st Post g1 g2 g3 g4 hR => ?_⟩
  refine hA.2 s0 HI hi sp st Post (fun i x y => g1 i x (by omega)) g2 (by omega) g4 (go_not g2 g4 (by omega) ((g1 m (by omega) (by omega)).1.trans h1) (fun x hx => ?_) (go_ext hR (fun j hj => ?_)))
  · rw [us_w] at hx; exact hb _ x hx
  by_cases q : j = sp
  · subst q
    rw [us_w, us_w, us_w]
    rfl
  · rw [us_o q, us_o q, us_o q]
theorem sP_and {kr wr : Nat → Int32} {A B : mh_Dn} {c m m' : Nat} (hA : sg_P kr wr A c m) (hb : mh_b01 A) (hB : sg_P kr wr B m m') (h1 : kr m' = 38) : sg_P kr wr (rd_an A B) c (m' + 1) := by
  have q1 := hA.1
  have q2 := hB.1
  refine ⟨by omega, fun s0 HI hi sp st Post g1 g2 g3 g4 hR => ?_⟩
  refine hA.2 s0 HI hi sp st Post (fun i x y => g1 i x (by omega)) g2 (by omega) g4 (hB.2 s0 HI hi (sp + 1) _ Post (fun i x y => g1 i (by omega) (by omega)) g2 (by omega) g4 (go_jn g2 g4 (by omega) ((g1 m' (by omega) (by omega)).1.trans h1) (Or.inl rfl) (fun x hx => ?_) (go_ext hR (fun j hj => ?_))))
  · rw [us_o (by omega), us_w] at hx; exact hb _ x hx
  rw [if_pos (by decide)]
  by_cases q : j = sp
  · subst q
    rw [us_w, us_w, us_w, us_o (by omega), us_w]
    rfl
  · rw [us_o q, us_o q, us_o (by omega), us_o q]
theorem sP_or {kr wr : Nat → Int32} {A B : mh_Dn} {c m m' : Nat} (hA : sg_P kr wr A c m) (hb : mh_b01 A) (hB : sg_P kr wr B m m') (h1 : kr m' = 124) : sg_P kr wr (rd_or A B) c (m' + 1) := by
  have q1 := hA.1
  have q2 := hB.1
  refine ⟨by omega, fun s0 HI hi sp st Post g1 g2 g3 g4 hR => ?_⟩
  refine hA.2 s0 HI hi sp st Post (fun i x y => g1 i x (by omega)) g2 (by omega) g4 (hB.2 s0 HI hi (sp + 1) _ Post (fun i x y => g1 i (by omega) (by omega)) g2 (by omega) g4 (go_jn g2 g4 (by omega) ((g1 m' (by omega) (by omega)).1.trans h1) (Or.inr rfl) (fun x hx => ?_) (go_ext hR (fun j hj => ?_))))
  · rw [us_o (by omega), us_w] at hx; exact hb _ x hx
  rw [if_neg (by decide)]
  by_cases q : j = sp
  · subst q
    rw [us_w, us_w, us_w, us_o (by omega), us_w]
    rfl
  · rw [us_o q, us_o q, us_o (by omega), us_o q]
theorem sP_run {D : mh_Dn} {c c' : Nat} {s : mh_H} {a b : Int32} (h : sg_P (s.1 68) (s.1 69) D c c') (ha : a.toInt = (c : Int)) (hb : b.toInt = (c' : Int)) (hc : c' ≤ 200) : go_p (D (mh_eR s)) ((f_eX10_goesThrough s a b).1 77 0) ((f_eX10_goesThrough s a b).1 78 0) ∧ ∀ k, k ≠ 77 → k ≠ 78 → (f_eX10_goesThrough s a b).1 k = s.1 k := by
  unfold f_eX10_goesThrough
  have h0 := h.1
  obtain ⟨n, hn⟩ : ∃ n : Nat, n = 201 := ⟨_, rfl⟩
  rw [show (201 : Nat) = n by omega]
  refine h.2 s b c' 0 (fun _ => none) (fun q => go_p (D (mh_eR s)) (q.1 77 0) (q.1 78 0) ∧ ∀ k, k ≠ 77 → k ≠ 78 → q.1 k = s.1 k) (fun _ _ _ => ⟨rfl, rfl⟩) hb (Nat.le_refl _) (by omega) ?_ n s a 0 ha rfl (fun _ _ _ => rfl) (fun j hj => absurd hj (Nat.not_lt_zero j)) (by omega) (by omega)
  intro n s' X Y hX hY hs hst ht hn
  obtain ⟨n, rfl⟩ : ∃ m, n = m + 1 := ⟨n - 1, by omega⟩
  rw [l_eX10_goesThrough_5_1_s]
  unfold ls_eX10_goesThrough_5_1
  rw [if_neg (by omega)]
  have := hst 0 (by omega)
  rw [us_w] at this
  exact ⟨this, hs⟩

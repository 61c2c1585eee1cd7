/-- a law: its clauses; letter, value, condition -/
abbrev mh_Cl : Type := Int32 × mh_Dn × mh_Dn
def mh_bdd (l x : Int32) : Int32 := if x.toInt < 0 then 0 else if (mh_mst l).toInt < x.toInt then mh_mst l else x
def mh_lw : List mh_Cl → mh_Lw
  | [], _, _ => 0
  | q :: r, l, e => if q.1.toInt = l.toInt ∧ ((q.2.2 e).getD 0).toInt ≠ 0 then mh_bdd l ((q.2.1 e).getD 0) else mh_lw r l e
theorem mst_b (l : Int32) : 0 ≤ (mh_mst l).toInt ∧ (mh_mst l).toInt ≤ 999 := by
  unfold mh_mst
  split
  · decide
  · split <;> decide
theorem bd_b (l x : Int32) : 0 ≤ (mh_bdd l x).toInt ∧ (mh_bdd l x).toInt ≤ (mh_mst l).toInt := by
  have h := mst_b l
  have k0 := kc_0
  unfold mh_bdd
  split
  · omega
  · split <;> omega
theorem lw_B : ∀ Ls : List mh_Cl, mh_LB (mh_lw Ls)
  | [] => fun l e => by
    have h := mst_b l
    have k0 := kc_0
    show 0 ≤ (0 : Int32).toInt ∧ (0 : Int32).toInt ≤ _
    omega
  | q :: r => fun l e => by
    show 0 ≤ (if q.1.toInt = l.toInt ∧ ((q.2.2 e).getD 0).toInt ≠ 0 then mh_bdd l ((q.2.1 e).getD 0) else mh_lw r l e).toInt ∧ (if q.1.toInt = l.toInt ∧ ((q.2.2 e).getD 0).toInt ≠ 0 then mh_bdd l ((q.2.1 e).getD 0) else mh_lw r l e).toInt ≤ _
    split
    · exact bd_b l _
    · exact lw_B r l e
theorem most_c (s : mh_H) (l : Int32) : f_eX1_most s l = mh_mst l := by
  have k1 : (121 : Int32).toInt = 121 := rfl
  have k2 : (102 : Int32).toInt = 102 := rfl
  unfold f_eX1_most mh_mst
  simp only [k1, k2]
theorem bd_c (s : mh_H) (l x : Int32) : f_eX9_bounded s x (mh_mst l) = mh_bdd l x := by
  have k0 := kc_0
  have h := mst_b l
  unfold f_eX9_bounded mh_bdd
  simp only [mh_lbE]
  apply Int32.toInt_inj.mp
  rw [mh_ma32_i, mh_mi32_i, k0]
  split
  · omega
  · split <;> omega
def en_C (kl : Nat) (s : mh_H) (B i : Nat) (q : mh_Cl) : Prop := ∃ a b d : Nat, s.1 (kl + 2) i = q.1 ∧ (s.1 (kl + 3) i).toInt = (a : Int) ∧ (s.1 (kl + 4) i).toInt = (b : Int) ∧ (s.1 (kl + 5) i).toInt = (d : Int) ∧ d ≤ B ∧ sg_C kl (s.1 (kl + 1)) q.2.1 32 a b ∧ sg_C kl (s.1 (kl + 1)) q.2.2 32 b d
def cl_C (kl : Nat) (s : mh_H) (B : Nat) : Nat → List mh_Cl → Prop
  | _, [] => True
  | i, q :: r => en_C kl s B i q ∧ cl_C kl s B (i + 1) r
def en_R (k0 : Nat) (s : mh_H) (kr wr : Nat → Int32) (B i : Nat) (q : mh_Cl) : Prop := ∃ a b d : Nat, s.1 k0 i = q.1 ∧ (s.1 (k0 + 1) i).toInt = (a : Int) ∧ (s.1 (k0 + 2) i).toInt = (b : Int) ∧ (s.1 (k0 + 3) i).toInt = (d : Int) ∧ d ≤ B ∧ mh_b01 q.2.2 ∧ sg_P kr wr q.2.1 a b ∧ sg_P kr wr q.2.2 b d
def cl_R (k0 : Nat) (s : mh_H) (kr wr : Nat → Int32) (B : Nat) : Nat → List mh_Cl → Prop
  | _, [] => True
  | i, q :: r => en_R k0 s kr wr B i q ∧ cl_R k0 s kr wr B (i + 1) r
theorem clC_ap {kl B B' : Nat} {s s' : mh_H} (hr : ∀ i, i < B → s'.1 (kl + 1) i = s.1 (kl + 1) i) (hB : B ≤ B') (E : List mh_Cl) : ∀ (Ls : List mh_Cl) (i : Nat), (∀ k j, 2 ≤ k → k ≤ 5 → j < i + Ls.length → s'.1 (kl + k) j = s.1 (kl + k) j) → cl_C kl s B i Ls → cl_C kl s' B' (i + Ls.length) E → cl_C kl s' B' i (Ls ++ E) := by
  intro Ls
  induction Ls with
  | nil => intro i _ _ hE; exact hE
  | cons q r ih =>
    intro i hj hc hE
    rw [List.length_cons] at hj hE
    obtain ⟨⟨a, b, d, h1, h2, h3, h4, h5, h6, h7⟩, hc2⟩ := hc
    have l1 := h6.1
    have l2 := h7.1
    refine ⟨⟨a, b, d, ?_, ?_, ?_, ?_, by omega, ?_, ?_⟩, ih (i + 1) (fun k j a b c => hj k j a b (by omega)) hc2 (by rw [show i + 1 + r.length = i + (r.length + 1) by omega]; exact hE)⟩
    · rw [hj 2 i (by decide) (by decide) (by omega)]; exact h1
    · rw [hj 3 i (by decide) (by decide) (by omega)]; exact h2
    · rw [hj 4 i (by decide) (by decide) (by omega)]; exact h3
    · rw [hj 5 i (by decide) (by decide) (by omega)]; exact h4
    · exact sC_cg h6 (fun j a b => hr j (by omega))
    · exact sC_cg h7 (fun j a b => hr j (by omega))
theorem clC_cg {kl B : Nat} {s s' : mh_H} (h : ∀ i, 1 ≤ i → i ≤ 5 → s'.1 (kl + i) = s.1 (kl + i)) (Ls : List mh_Cl) (hc : cl_C kl s B 0 Ls) : cl_C kl s' B 0 Ls := by
  have := clC_ap (s := s) (s' := s') (fun i _ => congrFun (h 1 (by decide) (by decide)) i) (Nat.le_refl B) [] Ls 0 (fun k j a b _ => congrFun (h k (by omega) b) j) hc trivial
  rw [List.append_nil] at this
  exact this
theorem clR_ap {k0 k1 B B' : Nat} {s s' : mh_H} {kr wr kr' wr' : Nat → Int32} (hr : ∀ i, i < B → kr' i = kr i ∧ wr' i = wr i) (hB : B ≤ B') (E : List mh_Cl) : ∀ (Ls : List mh_Cl) (i : Nat), (∀ k j, k ≤ 3 → j < i + Ls.length → s'.1 (k1 + k) j = s.1 (k0 + k) j) → cl_R k0 s kr wr B i Ls → cl_R k1 s' kr' wr' B' (i + Ls.length) E → cl_R k1 s' kr' wr' B' i (Ls ++ E) := by
  intro Ls
  induction Ls with
  | nil => intro i _ _ hE; exact hE
  | cons q r ih =>
    intro i hj hc hE
    rw [List.length_cons] at hj hE
    obtain ⟨⟨a, b, d, h1, h2, h3, h4, h5, h8, h6, h7⟩, hc2⟩ := hc
    have l1 := h6.1
    have l2 := h7.1
    refine ⟨⟨a, b, d, ?_, ?_, ?_, ?_, by omega, h8, ?_, ?_⟩, ih (i + 1) (fun k j a c => hj k j a (by omega)) hc2 (by rw [show i + 1 + r.length = i + (r.length + 1) by omega]; exact hE)⟩
    · exact (hj 0 i (by decide) (by omega)).trans h1
    · rw [hj 1 i (by decide) (by omega)]; exact h2
    · rw [hj 2 i (by decide) (by omega)]; exact h3
    · rw [hj 3 i (by decide) (by omega)]; exact h4
    · exact sP_cg h6 (fun j a b => hr j (by omega))
    · exact sP_cg h7 (fun j a b => hr j (by omega))
theorem clR_cg {B : Nat} {s s' : mh_H} (h : ∀ i, 64 ≤ i → i ≤ 69 → s'.1 i = s.1 i) (Ls : List mh_Cl) (hc : cl_R 64 s (s.1 68) (s.1 69) B 0 Ls) : cl_R 64 s' (s'.1 68) (s'.1 69) B 0 Ls := by
  have := clR_ap (k0 := 64) (k1 := 64) (s := s) (s' := s') (kr' := s'.1 68) (wr' := s'.1 69) (fun i _ => ⟨congrFun (h 68 (by decide) (by decide)) i, congrFun (h 69 (by decide) (by decide)) i⟩) (Nat.le_refl B) [] Ls 0 (fun k j a _ => congrFun (h (64 + k) (by omega) (by omega)) j) hc trivial
  rw [List.append_nil] at this
  exact this
theorem wo_lp {kl B : Nat} (hB : B ≤ 400) {s0 : mh_H} (letter : Int32) : ∀ (r : List mh_Cl) (i n : Nat) (s : mh_H) (X : Int32), X.toInt = (i : Int) → (∀ k, k ≠ kl + 7 → s.1 k = s0.1 k) → cl_C kl s0 B i r → (s0.1 kl 7).toInt = ((i + r.length : Nat) : Int) → i + r.length ≤ 14 → r.length < n → (l_eX1_worth_2_1 kl letter n s X).1 = mh_lw r letter (mh_e13 (s0.1 (kl + 6))) := by
  intro r
  induction r with
  | nil =>
    intro i n s X hX hs hc h7 h14 hn
    obtain ⟨n, rfl⟩ : ∃ m, n = m + 1 := ⟨n - 1, by omega⟩
    have e7 : s.1 kl 7 = s0.1 kl 7 := congrFun (hs kl (by omega)) 7
    rw [List.length_nil] at h7
    rw [l_eX1_worth_2_1_s]
    unfold ls_eX1_worth_2_1
    simp only [mh_lbE]
    rw [e7, if_neg (by omega)]
    rfl
  | cons q r ih =>
    intro i n s X hX hs hc h7 h14 hn
    rw [List.length_cons] at h7 h14 hn
    obtain ⟨n, rfl⟩ : ∃ m, n = m + 1 := ⟨n - 1, by omega⟩
    obtain ⟨⟨a, b, d, h1, h2, h3, h4, h5, h6, h8⟩, hr⟩ := hc
    have k1 : (1 : Int32).toInt = ((1 : Nat) : Int) := rfl
    have e7 : s.1 kl 7 = s0.1 kl 7 := congrFun (hs kl (by omega)) 7
    have r1 : s.1 (kl + 1) = s0.1 (kl + 1) := hs (kl + 1) (by omega)
    have r2 : s.1 (kl + 2) = s0.1 (kl + 2) := hs (kl + 2) (by omega)
    have r4 : s.1 (kl + 4) = s0.1 (kl + 4) := hs (kl + 4) (by omega)
    have r5 : s.1 (kl + 5) = s0.1 (kl + 5) := hs (kl + 5) (by omega)
    have r6 : s.1 (kl + 6) = s0.1 (kl + 6) := hs (kl + 6) (by omega)
    have nx : ∀ s2 : mh_H, (∀ k, k ≠ kl + 7 → s2.1 k = s0.1 k) → (j_eX1_worth_63_2 (l_eX1_worth_2_1 kl letter n) s2 X).1 = mh_lw r letter (mh_e13 (s0.1 (kl + 6))) := by
      intro s2 hs2
      unfold j_eX1_worth_63_2
      rw [mh_lbE]
      exact ih (i + 1) n s2 (X + 1) (ix_add hX (by omega) k1 (by decide)) hs2 hr (by rw [h7]; omega) (by omega) (by omega)
    rw [l_eX1_worth_2_1_s]
    unfold ls_eX1_worth_2_1
    simp only [mh_lbE, mh_lb2E, most_c, bd_c]
    rw [e7, if_pos (by omega), ix_n hX, r2, h1]
    show _ = if q.1.toInt = letter.toInt ∧ ((q.2.2 (mh_e13 (s0.1 (kl + 6)))).getD 0).toInt ≠ 0 then mh_bdd letter ((q.2.1 (mh_e13 (s0.1 (kl + 6)))).getD 0) else mh_lw r letter (mh_e13 (s0.1 (kl + 6)))
    by_cases g : q.1.toInt = letter.toInt
    · rw [if_pos g, r4, r5]
      obtain ⟨c1, c2⟩ := sC_run (s := s) (a := s0.1 (kl + 4) i) (b := s0.1 (kl + 5) i) (by rw [r1]; exact h8) h3 h4 (by omega) (Nat.le_refl 32)
      rw [r6] at c1
      generalize f_eX1_run s kl (s0.1 (kl + 4) i) (s0.1 (kl + 5) i) = R at c1 c2 ⊢
      have c3 : ∀ k, k ≠ kl + 7 → R.2.1 k = s0.1 k := fun k hk => (c2 k hk).trans (hs k hk)
      rw [c1]
      by_cases g2 : ((q.2.2 (mh_e13 (s0.1 (kl + 6)))).getD 0).toInt = 0
      · rw [if_pos g2, if_neg (fun z => z.2 g2)]
        exact nx R.2 c3
      · rw [if_neg g2, if_pos ⟨g, g2⟩]
        have t1 : R.2.1 (kl + 1) = s0.1 (kl + 1) := c3 _ (by omega)
        have t3 : R.2.1 (kl + 3) = s0.1 (kl + 3) := c3 _ (by omega)
        have t6 : R.2.1 (kl + 6) = s0.1 (kl + 6) := c3 _ (by omega)
        have hb := h6.1
        have hd := h8.1
        rw [t3]
        obtain ⟨d1, -⟩ := sC_run (s := R.2) (a := s0.1 (kl + 3) i) (b := s0.1 (kl + 4) i) (by rw [t1]; exact h6) h2 h3 (by omega) (Nat.le_refl 32)
        rw [t6] at d1
        show mh_bdd letter (f_eX1_run R.2 kl (s0.1 (kl + 3) i) (s0.1 (kl + 4) i)).1 = _
        rw [d1]
    · rw [if_neg g, if_neg (fun z => g z.1)]
      exact nx s hs
def mh_n8 (D : mh_Dn) : Prop := ∀ e x, D (mh_u1 e 8 x) = D e
theorem lw_n : ∀ (Ls : List mh_Cl) (l : Int32), (∀ q ∈ Ls, q.1.toInt ≠ l.toInt) → ∀ e, mh_lw Ls l e = 0
  | [], _, _, _ => rfl
  | q :: r, l, h, e => by
    show (if q.1.toInt = l.toInt ∧ ((q.2.2 e).getD 0).toInt ≠ 0 then mh_bdd l ((q.2.1 e).getD 0) else mh_lw r l e) = 0
    rw [if_neg (fun z => h q (List.mem_cons_self ..) z.1)]
    exact lw_n r l (fun x hx => h x (List.mem_cons_of_mem _ hx)) e
theorem lw_8 : ∀ (Ls : List mh_Cl), (∀ q ∈ Ls, mh_n8 q.2.1 ∧ mh_n8 q.2.2) → ∀ (l : Int32) e x, mh_lw Ls l (mh_u1 e 8 x) = mh_lw Ls l e
  | [], _, _, _, _ => rfl
  | q :: r, h, l, e, x => by
    have h1 := h q (List.mem_cons_self ..)
    show (if q.1.toInt = l.toInt ∧ ((q.2.2 (mh_u1 e 8 x)).getD 0).toInt ≠ 0 then mh_bdd l ((q.2.1 (mh_u1 e 8 x)).getD 0) else mh_lw r l (mh_u1 e 8 x)) = if q.1.toInt = l.toInt ∧ ((q.2.2 e).getD 0).toInt ≠ 0 then mh_bdd l ((q.2.1 e).getD 0) else mh_lw r l e
    rw [h1.1 e x, h1.2 e x, lw_8 r (fun y hy => h y (List.mem_cons_of_mem _ hy)) l e x]
theorem LC_of {kl B : Nat} (hB : B ≤ 400) {s : mh_H} {Ls : List mh_Cl} (h : cl_C kl s B 0 Ls) (h7 : (s.1 kl 7).toInt = (Ls.length : Int)) (hn : Ls.length ≤ 14) (h9 : (s.1 kl 9).toInt = 0 → ∀ q ∈ Ls, q.1.toInt ≠ 99 ∧ q.1.toInt ≠ 119 ∧ q.1.toInt ≠ 115) (h10 : (s.1 kl 10).toInt = 0 → ∀ q ∈ Ls, mh_n8 q.2.1 ∧ mh_n8 q.2.2) : mh_LC kl s (mh_lw Ls) := by
  refine ⟨fun s' g1 g2 letter => ?_, fun g e => ⟨?_, ?_, ?_⟩, fun g => lw_8 Ls (h10 g)⟩
  · unfold f_eX1_worth
    exact wo_lp hB (s0 := s') letter Ls 0 15 s' 0 rfl (fun _ _ => rfl) (clC_cg g1 Ls h) (by rw [g2, h7]; omega) (by omega) (by omega)
  · exact lw_n Ls 99 (fun q hq => (h9 g q hq).1) e
  · exact lw_n Ls 119 (fun q hq => (h9 g q hq).2.1) e
  · exact lw_n Ls 115 (fun q hq => (h9 g q hq).2.2) e
theorem eR_cg {s s0 : mh_H} (h : ∀ k, k ≠ 77 → k ≠ 78 → s.1 k = s0.1 k) : mh_eR s = mh_eR s0 := by
  funext i
  unfold mh_eR
  rw [vo_cg h]
theorem te_lp {B : Nat} (hB : B ≤ 200) {s0 : mh_H} (letter : Int32) : ∀ (r : List mh_Cl) (i n : Nat) (s : mh_H) (X : Int32), X.toInt = (i : Int) → (∀ k, k ≠ 77 → k ≠ 78 → s.1 k = s0.1 k) → cl_R 64 s0 (s0.1 68) (s0.1 69) B i r → (s0.1 57 10).toInt = ((i + r.length : Nat) : Int) → i + r.length ≤ 14 → r.length < n → (l_eX10_tellsBy_2_1 letter (mh_mst letter) n s X).1 = mh_lw r letter (mh_eR s0) := by
  intro r
  induction r with
  | nil =>
    intro i n s X hX hs hc h7 h14 hn
    obtain ⟨n, rfl⟩ : ∃ m, n = m + 1 := ⟨n - 1, by omega⟩
    have e7 : s.1 57 10 = s0.1 57 10 := congrFun (hs 57 (by decide) (by decide)) 10
    rw [List.length_nil] at h7
    rw [l_eX10_tellsBy_2_1_s]
    unfold ls_eX10_tellsBy_2_1
    simp only [mh_lbE]
    rw [e7, if_neg (by omega)]
    rfl
  | cons q r ih =>
    intro i n s X hX hs hc h7 h14 hn
    rw [List.length_cons] at h7 h14 hn
    obtain ⟨n, rfl⟩ : ∃ m, n = m + 1 := ⟨n - 1, by omega⟩
    obtain ⟨⟨a, b, d, h1, h2, h3, h4, h5, h9, h6, h8⟩, hr⟩ := hc
    have k1 : (1 : Int32).toInt = ((1 : Nat) : Int) := rfl
    have c1' : (1 : Int32).toInt = 1 := rfl
    have z0 : (0 : Int32).toNatClampNeg = 0 := rfl
    have e7 : s.1 57 10 = s0.1 57 10 := congrFun (hs 57 (by decide) (by decide)) 10
    have r64 : s.1 64 = s0.1 64 := hs 64 (by decide) (by decide)
    have r66 : s.1 66 = s0.1 66 := hs 66 (by decide) (by decide)
    have r67 : s.1 67 = s0.1 67 := hs 67 (by decide) (by decide)
    have r68 : s.1 68 = s0.1 68 := hs 68 (by decide) (by decide)
    have r69 : s.1 69 = s0.1 69 := hs 69 (by decide) (by decide)
    have eR := eR_cg hs
    have nx : ∀ s2 : mh_H, (∀ k, k ≠ 77 → k ≠ 78 → s2.1 k = s0.1 k) → (l_eX10_tellsBy_2_1 letter (mh_mst letter) n s2 (X + 1)).1 = mh_lw r letter (mh_eR s0) := fun s2 hs2 =>
      ih (i + 1) n s2 (X + 1) (ix_add hX (by omega) k1 (by decide)) hs2 hr (by rw [h7]; omega) (by omega) (by omega)
    rw [l_eX10_tellsBy_2_1_s]
    unfold ls_eX10_tellsBy_2_1
    simp only [mh_lbE]
    rw [e7, if_pos (by omega), ix_n hX, r64, h1]
    show _ = if q.1.toInt = letter.toInt ∧ ((q.2.2 (mh_eR s0)).getD 0).toInt ≠ 0 then mh_bdd letter ((q.2.1 (mh_eR s0)).getD 0) else mh_lw r letter (mh_eR s0)
    by_cases g : q.1.toInt = letter.toInt
    · rw [if_pos g, r66, r67, z0]
      obtain ⟨c1, c2⟩ := sP_run (s := s) (a := s0.1 66 i) (b := s0.1 67 i) (by rw [r68, r69]; exact h8) h3 h4 (by omega)
      rw [eR] at c1
      generalize f_eX10_goesThrough s (s0.1 66 i) (s0.1 67 i) = R at c1 c2 ⊢
      have c3 : ∀ k, k ≠ 77 → k ≠ 78 → R.1 k = s0.1 k := fun k ha hb => (c2 k ha hb).trans (hs k ha hb)
      cases eC : q.2.2 (mh_eR s0) with
      | none =>
        rw [eC] at c1
        rw [if_neg c1, if_neg (fun z => z.2 rfl)]
        exact nx R c3
      | some x =>
        rw [eC] at c1
        have cx : R.1 77 0 = x := c1.1
        rw [if_pos c1.2, cx]
        rcases h9 _ x eC with rfl | rfl
        · rw [if_neg (by decide), if_neg (fun z => z.2 rfl)]
          exact nx R c3
        · rw [if_pos (show (1 : Int32).toInt = (1 : Int32).toInt from rfl), if_pos (show q.1.toInt = letter.toInt ∧ ((some (1 : Int32)).getD 0).toInt ≠ 0 from ⟨g, by show (1 : Int32).toInt ≠ 0; decide⟩)]
          have t65 : R.1 65 = s0.1 65 := c3 65 (by decide) (by decide)
          have t68 : R.1 68 = s0.1 68 := c3 68 (by decide) (by decide)
          have t69 : R.1 69 = s0.1 69 := c3 69 (by decide) (by decide)
          have hd := h8.1
          rw [t65]
          obtain ⟨d1, -⟩ := sP_run (s := R) (a := s0.1 65 i) (b := s0.1 66 i) (by rw [t68, t69]; exact h6) h2 h3 (by omega)
          rw [eR_cg c3] at d1
          generalize f_eX10_goesThrough R (s0.1 65 i) (s0.1 66 i) = Q at d1 ⊢
          cases eE : q.2.1 (mh_eR s0) with
          | none =>
            rw [eE] at d1
            rw [if_neg d1]
            show (0 : Int32) = mh_bdd letter 0
            unfold mh_bdd
            have := mst_b letter
            rw [if_neg (by decide), if_neg (by rw [kc_0]; omega)]
          | some y =>
            rw [eE] at d1
            have dx : Q.1 77 0 = y := d1.1
            rw [if_pos d1.2, dx]
            show _ = mh_bdd letter y
            unfold mh_bdd
            split
            · rfl
            · split <;> rfl
    · rw [if_neg g, if_neg (fun z => g z.1)]
      exact nx s hs
theorem LR_of {B : Nat} (hB : B ≤ 200) {s : mh_H} {Ls : List mh_Cl} (h : cl_R 64 s (s.1 68) (s.1 69) B 0 Ls) (h10 : (s.1 57 10).toInt = (Ls.length : Int)) (hn : Ls.length ≤ 14) : mh_LR s (mh_lw Ls) := by
  intro s' g1 g2 letter
  unfold f_eX10_tellsBy
  exact te_lp hB (s0 := s') letter Ls 0 15 s' 0 rfl (fun _ _ _ => rfl) (clR_cg g1 Ls h) (by rw [g2, h10]; omega) (by omega) (by omega)

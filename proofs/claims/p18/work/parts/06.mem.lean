/-- a class of the world: its row in the table of classes, its field rows among the words -/
def mh_cF (ci : Nat) (C : String) (T : u_T) (N : Nat) : Prop := vwCl[ci]? = some (C, T, N) ∧ (∀ w ∈ u_ws C T N, w ∈ mh_base) ∧ (∃ ty0 : Nat → FieldType, ∀ k, k < N → parseFieldDescriptor (T k).2.2.1 = some (ty0 k)) ∧ (∀ a, a < N → ∀ b, b < N → a ≠ b → (T a).2.1 ≠ (T b).2.1)
/-- the pool entry ix of a class: the field j of the class ci, of a kind -/
def mh_gF (own : String) (ix ci j t : Nat) : Prop := ∃ (C : String) (T : u_T) (N : Nat), mh_cF ci C T N ∧ j < N ∧ ci < 20 ∧ mh_fty ci j = t ∧ (Cond.fieldLink own ix (T j).1 (T j).2.1 (T j).2.2.1 ∈ mh_base ∨ ∃ host, Cond.fieldLinkNest own ix (T j).1 (T j).2.1 (T j).2.2.1 host ∈ mh_nst)
def mh_pF (own : String) (ix ci j t : Nat) (ty : FieldType) : Prop := ∃ (C : String) (T : u_T) (N : Nat), mh_cF ci C T N ∧ j < N ∧ ci < 20 ∧ mh_fty ci j = t ∧ (Cond.fieldLink own ix (T j).1 (T j).2.1 (T j).2.2.1 ∈ mh_base ∨ ∃ host, Cond.fieldLinkNest own ix (T j).1 (T j).2.1 (T j).2.2.1 host ∈ mh_nst) ∧ (T j).2.2.2 = false ∧ parseFieldDescriptor (T j).2.2.1 = some ty
def mh_szL (ci : Nat) : Nat := (mh_ftyL.getD ci []).length
theorem mh_szN {ci : Nat} {C : String} {T : u_T} {N : Nat} (h : mh_cF ci C T N) : mh_szL ci = N := by
  have h1 := h.1
  have all : ∀ i (q : vw_C), vwCl[i]? = some q → mh_szL i = q.2.2 := by
    intro i q hq
    match i, hq with
    | 0, hq => cases hq; rfl
    | 1, hq => cases hq; rfl
    | 2, hq => cases hq; rfl
    | 3, hq => cases hq; rfl
    | 4, hq => cases hq; rfl
    | 5, hq => cases hq; rfl
    | 6, hq => cases hq; rfl
    | 7, hq => cases hq; rfl
    | 8, hq => cases hq; rfl
    | 9, hq => cases hq; rfl
    | 10, hq => cases hq; rfl
    | i + 11, hq => simp at hq
  exact all ci _ h1
section MW2
variable {G : mh_G} {X : mh_X} {μ : mh_Mt} {pc : Nat} {lv : List (Nat × Value)} {st : List Value} {σ : mh_H}
theorem mw_get {ix ci j t k : Nat} (q : Nat) (hq : pc + 3 = q) (hd : decode μ.2.1 pc = .ok (.getfield ix, 3)) (hg : mh_gF μ.1.cls ix ci j t) (hl0 : mh_lay k = (ci, mh_szL ci)) (kk : mh_W G X μ q lv (mh_fV G σ k j :: st) σ) : mh_W G X μ pc lv (.ref (G.2.2.2 k) :: st) σ := by
  subst hq
  intro p e s m args below meth c ok H locs ls hl hw hs
  obtain ⟨C, T, N, hc, hj, hci, ht, hlk⟩ := hg
  have hN := mh_szN hc
  rw [hN] at hl0
  have hkN := mh_lay_lt hl0 (by omega)
  have he := mh_ws_at (G := G) (σ := σ) hkN
  rw [mh_cE_o hl0 hci] at he
  rcases hlk with hlk | ⟨host, hlk⟩
  · exact va_get ok.1 ok.2.1 ok.2.2.2.2.1 hc.2.1 ok.2.2.2.1 ok.2.2.2.2.2.1.1 hw k he hc.1 j hj (ok.2.2.2.2.1 _ hlk) (fun _ h => h) (mh_fs_at hj) hd (kk p e s m args below meth c ok H locs ls hl hw hs)
  · exact va_getN ok.1 ok.2.1 ok.2.2.2.2.1 hc.2.1 ok.2.2.2.1 ok.2.2.2.2.2.1.1 hw k he hc.1 j hj (va_Nw.use rfl (ok.2.2.2.2.2.1.2.1 _ hlk)) (fun _ h => h) (mh_fs_at hj) hd (kk p e s m args below meth c ok H locs ls hl hw hs)
theorem mw_geti {ix ci j k : Nat} (q : Nat) (hq : pc + 3 = q) (hd : decode μ.2.1 pc = .ok (.getfield ix, 3)) (hg : mh_gF μ.1.cls ix ci j 0) (hl0 : mh_lay k = (ci, mh_szL ci)) (kk : ∀ z : Int32, z = σ.1 k j → mh_W G X μ q lv (.int z :: st) σ) : mh_W G X μ pc lv (.ref (G.2.2.2 k) :: st) σ := by
  refine mw_get q hq hd hg hl0 ?_
  obtain ⟨C, T, N, hc, hj, hci, ht, hlk⟩ := hg
  have : mh_fV G σ k j = .int (σ.1 k j) := by simp only [mh_fV, hl0, ht, if_true]
  rw [this]
  exact kk _ rfl
theorem mw_getl {ix ci j k : Nat} (q : Nat) (hq : pc + 3 = q) (hd : decode μ.2.1 pc = .ok (.getfield ix, 3)) (hg : mh_gF μ.1.cls ix ci j 1) (hl0 : mh_lay k = (ci, mh_szL ci)) (kk : ∀ z : Int64, z = σ.2.1 k j → mh_W G X μ q lv (.long z :: st) σ) : mh_W G X μ pc lv (.ref (G.2.2.2 k) :: st) σ := by
  refine mw_get q hq hd hg hl0 ?_
  obtain ⟨C, T, N, hc, hj, hci, ht, hlk⟩ := hg
  have : mh_fV G σ k j = .long (σ.2.1 k j) := by simp [mh_fV, hl0, ht]
  rw [this]
  exact kk _ rfl
theorem mw_geta {ix ci j k : Nat} (q : Nat) (hq : pc + 3 = q) (hd : decode μ.2.1 pc = .ok (.getfield ix, 3)) (hg : mh_gF μ.1.cls ix ci j 2) (hl0 : mh_lay k = (ci, mh_szL ci)) (t : Nat) (hr : σ.2.2 k j = t) (kk : mh_W G X μ q lv (.ref (G.2.2.2 t) :: st) σ) : mh_W G X μ pc lv (.ref (G.2.2.2 k) :: st) σ := by
  refine mw_get q hq hd hg hl0 ?_
  obtain ⟨C, T, N, hc, hj, hci, ht, hlk⟩ := hg
  have : mh_fV G σ k j = .ref (G.2.2.2 t) := by simp [mh_fV, hl0, ht, hr]
  rw [this]
  exact kk
theorem mw_put {ix ci j t k : Nat} {ty : FieldType} {v : Value} (σ' : mh_H) (q : Nat) (hq : pc + 3 = q) (hd : decode μ.2.1 pc = .ok (.putfield ix, 3)) (hg : mh_pF μ.1.cls ix ci j t ty) (hl0 : mh_lay k = (ci, mh_szL ci)) (hn : narrow ty v = v) (hf : fits ty v = true) (h1 : mh_fV G σ' k j = v) (h2 : ∀ i, i ≠ j → mh_fV G σ' k i = mh_fV G σ k i) (h3 : ∀ i, i ≠ k → mh_cE G σ' i = mh_cE G σ i)
    (kk : mh_W G X μ q lv st σ') : mh_W G X μ pc lv (v :: .ref (G.2.2.2 k) :: st) σ := by
  subst hq
  intro p e s m args below meth c ok H locs ls hl hw hs
  obtain ⟨C, T, N, hc, hj, hci, ht, hlk, hfin, hty⟩ := hg
  have hN := mh_szN hc
  rw [hN] at hl0
  have hkN := mh_lay_lt hl0 (by omega)
  have he := mh_ws_at (G := G) (σ := σ) hkN
  rw [mh_cE_o hl0 hci] at he
  have hD := mh_D (σ := σ) ok.2.2.2.2.2.1.2.2 ok.2.2.2.2.2.2.2.2.1
  obtain ⟨ty0, hty0⟩ := hc.2.2.1
  have hset := mh_ws_set (G := G) (σ := σ) (σ' := σ') hkN (mh_cE_put (G := G) (σ := σ) (σ' := σ') hl0 hci hj h1 h2) h3
  rcases hlk with hlk | ⟨host, hlk⟩
  · exact va_put ok.1 ok.2.1 ok.2.2.2.2.1 hc.2.1 ty0 hty0 hc.2.2.2 ok.2.2.2.1 ok.2.2.2.2.2.1.1 hw hD hs k he hc.1 j hj (ok.2.2.2.2.1 _ hlk) (fun _ h => h) hfin hty hn hf (by simpa using hj) hd (fun H1 locs1 hP1 hD1 hS1 => kk p e s m args below meth c ok H1 locs1 ls hl (by rw [hset] at hP1; exact hP1) hS1)
  · exact va_putN ok.1 ok.2.1 ok.2.2.2.2.1 hc.2.1 ty0 hty0 hc.2.2.2 ok.2.2.2.1 ok.2.2.2.2.2.1.1 hw hD hs k he hc.1 j hj (va_Nw.use rfl (ok.2.2.2.2.2.1.2.1 _ hlk)) (fun _ h => h) hfin hty hn hf (by simpa using hj) hd (fun H1 locs1 hP1 hD1 hS1 => kk p e s m args below meth c ok H1 locs1 ls hl (by rw [hset] at hP1; exact hP1) hS1)
theorem mh_fV_pI {G : mh_G} {σ : mh_H} {k j i : Nat} {x : Int32} (h : i ≠ j) : mh_fV G (mh_pI σ k j x) k i = mh_fV G σ k i := by
  simp only [mh_fV, mh_pI, mh_up_n (show ¬ (k = k ∧ i = j) from fun q => h q.2)]
theorem mh_cE_pI {G : mh_G} {σ : mh_H} {k j i : Nat} {x : Int32} (h : i ≠ k) : mh_cE G (mh_pI σ k j x) i = mh_cE G σ i := mh_cE_ne (mh_up_row h) rfl rfl
theorem mh_fV_pL {G : mh_G} {σ : mh_H} {k j i : Nat} {x : Int64} (h : i ≠ j) : mh_fV G (mh_pL σ k j x) k i = mh_fV G σ k i := by
  simp only [mh_fV, mh_pL, mh_up_n (show ¬ (k = k ∧ i = j) from fun q => h q.2)]
theorem mh_cE_pL {G : mh_G} {σ : mh_H} {k j i : Nat} {x : Int64} (h : i ≠ k) : mh_cE G (mh_pL σ k j x) i = mh_cE G σ i := mh_cE_ne rfl (mh_up_row h) rfl
theorem mh_fV_pR {G : mh_G} {σ : mh_H} {k j i t : Nat} (h : i ≠ j) : mh_fV G (mh_pR σ k j t) k i = mh_fV G σ k i := by
  simp only [mh_fV, mh_pR, mh_up_n (show ¬ (k = k ∧ i = j) from fun q => h q.2)]
theorem mh_cE_pR {G : mh_G} {σ : mh_H} {k j i t : Nat} (h : i ≠ k) : mh_cE G (mh_pR σ k j t) i = mh_cE G σ i := mh_cE_ne rfl rfl (mh_up_row h)
theorem mw_puti {ix ci j k : Nat} {x : Int32} (q : Nat) (hq : pc + 3 = q) (hd : decode μ.2.1 pc = .ok (.putfield ix, 3)) (hg : mh_pF μ.1.cls ix ci j 0 .int) (hl0 : mh_lay k = (ci, mh_szL ci)) (kk : ∀ σ' : mh_H, σ' = mh_pI σ k j x → mh_W G X μ q lv st σ') : mh_W G X μ pc lv (.int x :: .ref (G.2.2.2 k) :: st) σ := by
  refine mw_put (mh_pI σ k j x) q hq hd hg hl0 rfl rfl ?_ (fun i h => mh_fV_pI h) (fun i h => mh_cE_pI h) (kk _ rfl)
  obtain ⟨C, T, N, hc, hj, hci, ht, hlk⟩ := hg
  simp [mh_fV, hl0, ht, mh_pI, mh_up_s]
theorem mw_putz {ix ci j k : Nat} {x : Int32} (q : Nat) (hq : pc + 3 = q) (hd : decode μ.2.1 pc = .ok (.putfield ix, 3)) (hg : mh_pF μ.1.cls ix ci j 0 .boolean) (hl0 : mh_lay k = (ci, mh_szL ci)) (hx : mh_r x 0 1) (kk : ∀ σ' : mh_H, σ' = mh_pI σ k j x → mh_W G X μ q lv st σ') : mh_W G X μ pc lv (.int x :: .ref (G.2.2.2 k) :: st) σ := by
  have hx2 : x = 0 ∨ x = 1 := by
    have := hx.1; have := hx.2
    rcases (show x.toInt = 0 ∨ x.toInt = 1 by omega) with h | h
    · exact Or.inl (Int32.toInt_inj.mp (by rw [h]; rfl))
    · exact Or.inr (Int32.toInt_inj.mp (by rw [h]; rfl))
  refine mw_put (mh_pI σ k j x) q hq hd hg hl0 (by rcases hx2 with h | h <;> rw [h] <;> rfl) (by rcases hx2 with h | h <;> rw [h] <;> rfl) ?_ (fun i h => mh_fV_pI h) (fun i h => mh_cE_pI h) (kk _ rfl)
  obtain ⟨C, T, N, hc, hj, hci, ht, hlk⟩ := hg
  simp [mh_fV, hl0, ht, mh_pI, mh_up_s]
theorem mw_putl {ix ci j k : Nat} {x : Int64} (q : Nat) (hq : pc + 3 = q) (hd : decode μ.2.1 pc = .ok (.putfield ix, 3)) (hg : mh_pF μ.1.cls ix ci j 1 .long) (hl0 : mh_lay k = (ci, mh_szL ci)) (kk : ∀ σ' : mh_H, σ' = mh_pL σ k j x → mh_W G X μ q lv st σ') : mh_W G X μ pc lv (.long x :: .ref (G.2.2.2 k) :: st) σ := by
  refine mw_put (mh_pL σ k j x) q hq hd hg hl0 rfl rfl ?_ (fun i h => mh_fV_pL h) (fun i h => mh_cE_pL h) (kk _ rfl)
  obtain ⟨C, T, N, hc, hj, hci, ht, hlk⟩ := hg
  simp [mh_fV, hl0, ht, mh_pL, mh_up_s]
theorem mw_puta {ix ci j k t : Nat} {C : String} (q : Nat) (hq : pc + 3 = q) (hd : decode μ.2.1 pc = .ok (.putfield ix, 3)) (hg : mh_pF μ.1.cls ix ci j 2 (.object C)) (hl0 : mh_lay k = (ci, mh_szL ci)) (kk : ∀ σ' : mh_H, σ' = mh_pR σ k j t → mh_W G X μ q lv st σ') : mh_W G X μ pc lv (.ref (G.2.2.2 t) :: .ref (G.2.2.2 k) :: st) σ := by
  refine mw_put (mh_pR σ k j t) q hq hd hg hl0 rfl rfl ?_ (fun i h => mh_fV_pR h) (fun i h => mh_cE_pR h) (kk _ rfl)
  obtain ⟨C, T, N, hc, hj, hci, ht, hlk⟩ := hg
  simp [mh_fV, hl0, ht, mh_pR, mh_up_s]
theorem mw_iald {k n : Nat} {i : Int32} {a b : Int} (q : Nat) (hq : pc + 1 = q) (hd : decode μ.2.1 pc = .ok (.iaload, 1)) (hl0 : mh_lay k = (20, n)) (hi : mh_r i a b) (hb : 0 ≤ a ∧ b < n) (kk : ∀ z : Int32, z = σ.1 k i.toNatClampNeg → mh_W G X μ q lv (.int z :: st) σ) : mh_W G X μ pc lv (.int i :: .ref (G.2.2.2 k) :: st) σ := by
  subst hq
  intro p e s m args below meth c ok H locs ls hl hw hs
  have he := mh_ws_at (G := G) (σ := σ) (mh_lay_lt hl0 (by decide))
  rw [mh_cE_i hl0 (by decide) (by decide)] at he
  exact va_iald ok.1 ok.2.1 ok.2.2.2.2.2.1.1 hw k 0 he rfl (mh_in hi hb.1 hb.2) hd (kk _ rfl p e s m args below meth c ok H locs ls hl hw hs)
theorem mw_bald {k n : Nat} {i : Int32} {a b : Int} (q : Nat) (hq : pc + 1 = q) (hd : decode μ.2.1 pc = .ok (.baload, 1)) (hl0 : mh_lay k = (22, n)) (hi : mh_r i a b) (hb : 0 ≤ a ∧ b < n) (kk : ∀ z : Int32, z = σ.1 k i.toNatClampNeg → mh_W G X μ q lv (.int z :: st) σ) : mh_W G X μ pc lv (.int i :: .ref (G.2.2.2 k) :: st) σ := by
  subst hq
  intro p e s m args below meth c ok H locs ls hl hw hs
  have he := mh_ws_at (G := G) (σ := σ) (mh_lay_lt hl0 (by decide))
  rw [mh_cE_i hl0 (by decide) (by decide)] at he
  exact va_bald ok.1 ok.2.1 ok.2.2.2.2.2.1.1 hw k 2 he rfl (mh_in hi hb.1 hb.2) hd (kk _ rfl p e s m args below meth c ok H locs ls hl hw hs)
theorem mw_zald {k n : Nat} {i : Int32} {a b : Int} (q : Nat) (hq : pc + 1 = q) (hd : decode μ.2.1 pc = .ok (.baload, 1)) (hl0 : mh_lay k = (23, n)) (hi : mh_r i a b) (hb : 0 ≤ a ∧ b < n) (kk : ∀ z : Int32, z = σ.1 k i.toNatClampNeg → mh_W G X μ q lv (.int z :: st) σ) : mh_W G X μ pc lv (.int i :: .ref (G.2.2.2 k) :: st) σ := by
  subst hq
  intro p e s m args below meth c ok H locs ls hl hw hs
  have he := mh_ws_at (G := G) (σ := σ) (mh_lay_lt hl0 (by decide))
  rw [mh_cE_i hl0 (by decide) (by decide)] at he
  exact va_zald ok.1 ok.2.1 ok.2.2.2.2.2.1.1 hw k 3 he rfl (mh_in hi hb.1 hb.2) hd (kk _ rfl p e s m args below meth c ok H locs ls hl hw hs)
theorem mw_lald {k n : Nat} {i : Int32} {a b : Int} (q : Nat) (hq : pc + 1 = q) (hd : decode μ.2.1 pc = .ok (.laload, 1)) (hl0 : mh_lay k = (21, n)) (hi : mh_r i a b) (hb : 0 ≤ a ∧ b < n) (kk : ∀ z : Int64, z = σ.2.1 k i.toNatClampNeg → mh_W G X μ q lv (.long z :: st) σ) : mh_W G X μ pc lv (.int i :: .ref (G.2.2.2 k) :: st) σ := by
  subst hq
  intro p e s m args below meth c ok H locs ls hl hw hs
  have he := mh_ws_at (G := G) (σ := σ) (mh_lay_lt hl0 (by decide))
  rw [mh_cE_l hl0] at he
  exact va_lald ok.1 ok.2.1 ok.2.2.2.2.2.1.1 hw k 1 he rfl (mh_in hi hb.1 hb.2) hd (kk _ rfl p e s m args below meth c ok H locs ls hl hw hs)
theorem mw_iast {k n : Nat} {i x : Int32} {a b : Int} (q : Nat) (hq : pc + 1 = q) (hd : decode μ.2.1 pc = .ok (.iastore, 1)) (hl0 : mh_lay k = (20, n)) (hi : mh_r i a b) (hb : 0 ≤ a ∧ b < n) (kk : ∀ σ' : mh_H, σ' = mh_pI σ k i.toNatClampNeg x → mh_W G X μ q lv st σ') : mh_W G X μ pc lv (.int x :: .int i :: .ref (G.2.2.2 k) :: st) σ := by
  subst hq
  intro p e s m args below meth c ok H locs ls hl hw hs
  have hkN := mh_lay_lt hl0 (by decide)
  have he := mh_ws_at (G := G) (σ := σ) hkN
  rw [mh_cE_i hl0 (by decide) (by decide)] at he
  have hD := mh_D (σ := σ) ok.2.2.2.2.2.1.2.2 ok.2.2.2.2.2.2.2.2.1
  have hset := mh_ws_set (G := G) (σ := σ) (σ' := mh_pI σ k i.toNatClampNeg x) hkN (e := .inl (G.2.2.1 (20 - 20), n, .inl (upd (σ.1 k) i.toNatClampNeg x))) (by
    rw [mh_cE_i hl0 (by decide) (by decide)]
    have hfun : (mh_pI σ k i.toNatClampNeg x).1 k = upd (σ.1 k) i.toNatClampNeg x := by
      funext b
      simp [mh_pI, mh_up, upd]
    rw [hfun]) (fun _ h => mh_cE_pI h)
  exact va_iast ok.1 ok.2.1 ok.2.2.2.2.2.1.1 hw hD hs k 0 he rfl (mh_in hi hb.1 hb.2) hd (fun H1 locs1 hP1 hD1 hS1 => kk _ rfl p e s m args below meth c ok H1 locs1 ls hl (by rw [hset] at hP1; exact hP1) hS1)
theorem mw_bast {k n : Nat} {i x : Int32} {a b : Int} (q : Nat) (hq : pc + 1 = q) (hd : decode μ.2.1 pc = .ok (.bastore, 1)) (hl0 : mh_lay k = (22, n)) (hi : mh_r i a b) (hb : 0 ≤ a ∧ b < n) (kk : ∀ σ' : mh_H, σ' = mh_pI σ k i.toNatClampNeg (vp_nar .byte x) → mh_W G X μ q lv st σ') : mh_W G X μ pc lv (.int x :: .int i :: .ref (G.2.2.2 k) :: st) σ := by
  subst hq
  intro p e s m args below meth c ok H locs ls hl hw hs
  have hkN := mh_lay_lt hl0 (by decide)
  have he := mh_ws_at (G := G) (σ := σ) hkN
  rw [mh_cE_i hl0 (by decide) (by decide)] at he
  have hD := mh_D (σ := σ) ok.2.2.2.2.2.1.2.2 ok.2.2.2.2.2.2.2.2.1
  have hset := mh_ws_set (G := G) (σ := σ) (σ' := mh_pI σ k i.toNatClampNeg (vp_nar .byte x)) hkN (e := .inl (G.2.2.1 (22 - 20), n, .inl (upd (σ.1 k) i.toNatClampNeg (vp_nar .byte x)))) (by
    rw [mh_cE_i hl0 (by decide) (by decide)]
    have hfun : (mh_pI σ k i.toNatClampNeg (vp_nar .byte x)).1 k = upd (σ.1 k) i.toNatClampNeg (vp_nar .byte x) := by
      funext b
      simp [mh_pI, mh_up, upd]
    rw [hfun]) (fun _ h => mh_cE_pI h)
  exact va_bast ok.1 ok.2.1 ok.2.2.2.2.2.1.1 hw hD hs k 2 he rfl (mh_in hi hb.1 hb.2) hd (fun H1 locs1 hP1 hD1 hS1 => kk _ rfl p e s m args below meth c ok H1 locs1 ls hl (by rw [hset] at hP1; exact hP1) hS1)
theorem mw_zast {k n : Nat} {i x : Int32} {a b : Int} (q : Nat) (hq : pc + 1 = q) (hd : decode μ.2.1 pc = .ok (.bastore, 1)) (hl0 : mh_lay k = (23, n)) (hi : mh_r i a b) (hb : 0 ≤ a ∧ b < n) (kk : ∀ σ' : mh_H, σ' = mh_pI σ k i.toNatClampNeg (vp_nar .boolean x) → mh_W G X μ q lv st σ') : mh_W G X μ pc lv (.int x :: .int i :: .ref (G.2.2.2 k) :: st) σ := by
  subst hq
  intro p e s m args below meth c ok H locs ls hl hw hs
  have hkN := mh_lay_lt hl0 (by decide)
  have he := mh_ws_at (G := G) (σ := σ) hkN
  rw [mh_cE_i hl0 (by decide) (by decide)] at he
  have hD := mh_D (σ := σ) ok.2.2.2.2.2.1.2.2 ok.2.2.2.2.2.2.2.2.1
  have hset := mh_ws_set (G := G) (σ := σ) (σ' := mh_pI σ k i.toNatClampNeg (vp_nar .boolean x)) hkN (e := .inl (G.2.2.1 (23 - 20), n, .inl (upd (σ.1 k) i.toNatClampNeg (vp_nar .boolean x)))) (by
    rw [mh_cE_i hl0 (by decide) (by decide)]
    have hfun : (mh_pI σ k i.toNatClampNeg (vp_nar .boolean x)).1 k = upd (σ.1 k) i.toNatClampNeg (vp_nar .boolean x) := by
      funext b
      simp [mh_pI, mh_up, upd]
    rw [hfun]) (fun _ h => mh_cE_pI h)
  exact va_zast ok.1 ok.2.1 ok.2.2.2.2.2.1.1 hw hD hs k 3 he rfl (mh_in hi hb.1 hb.2) hd (fun H1 locs1 hP1 hD1 hS1 => kk _ rfl p e s m args below meth c ok H1 locs1 ls hl (by rw [hset] at hP1; exact hP1) hS1)
theorem mw_last {k n : Nat} {i : Int32} {x : Int64} {a b : Int} (q : Nat) (hq : pc + 1 = q) (hd : decode μ.2.1 pc = .ok (.lastore, 1)) (hl0 : mh_lay k = (21, n)) (hi : mh_r i a b) (hb : 0 ≤ a ∧ b < n) (kk : ∀ σ' : mh_H, σ' = mh_pL σ k i.toNatClampNeg x → mh_W G X μ q lv st σ') : mh_W G X μ pc lv (.long x :: .int i :: .ref (G.2.2.2 k) :: st) σ := by
  subst hq
  intro p e s m args below meth c ok H locs ls hl hw hs
  have hkN := mh_lay_lt hl0 (by decide)
  have he := mh_ws_at (G := G) (σ := σ) hkN
  rw [mh_cE_l hl0] at he
  have hD := mh_D (σ := σ) ok.2.2.2.2.2.1.2.2 ok.2.2.2.2.2.2.2.2.1
  have hset := mh_ws_set (G := G) (σ := σ) (σ' := mh_pL σ k i.toNatClampNeg x) hkN (e := .inl (G.2.2.1 1, n, .inr (.inl (vp_updL (σ.2.1 k) i.toNatClampNeg x)))) (by
    rw [mh_cE_l hl0]
    have hfun : (mh_pL σ k i.toNatClampNeg x).2.1 k = vp_updL (σ.2.1 k) i.toNatClampNeg x := by
      funext b
      simp [mh_pL, mh_up, vp_updL]
    rw [hfun]) (fun _ h => mh_cE_pL h)
  exact va_last ok.1 ok.2.1 ok.2.2.2.2.2.1.1 hw hD hs k 1 he rfl (mh_in hi hb.1 hb.2) hd (fun H1 locs1 hP1 hD1 hS1 => kk _ rfl p e s m args below meth c ok H1 locs1 ls hl (by rw [hset] at hP1; exact hP1) hS1)
theorem mw_alen {k kd n : Nat} (q : Nat) (hq : pc + 1 = q) (hd : decode μ.2.1 pc = .ok (.arraylength, 1)) (hl0 : mh_lay k = (kd, n)) (hk : kd = 20 ∨ kd = 21) {v : Int32} (hv : Int32.ofNat n = v) (kk : mh_W G X μ q lv (.int v :: st) σ) : mh_W G X μ pc lv (.ref (G.2.2.2 k) :: st) σ := by
  subst hq
  intro p e s m args below meth c ok H locs ls hl hw hs
  rcases hk with rfl | rfl
  · have he := mh_ws_at (G := G) (σ := σ) (mh_lay_lt hl0 (by decide))
    rw [mh_cE_i hl0 (by decide) (by decide)] at he
    exact va_alen ok.1 ok.2.1 ok.2.2.2.2.2.1.1 hw k 0 he rfl hv hd (kk p e s m args below meth c ok H locs ls hl hw hs)
  · have he := mh_ws_at (G := G) (σ := σ) (mh_lay_lt hl0 (by decide))
    rw [mh_cE_l hl0] at he
    exact va_alen ok.1 ok.2.1 ok.2.2.2.2.2.1.1 hw k 1 he rfl hv hd (kk p e s m args below meth c ok H locs ls hl hw hs)
end MW2

def mh_layL : List (Nat × Nat) := [(9, 14), (8, 8), (20, 144), (20, 144), (20, 144), (20, 144), (20, 100), (8, 8), (20, 144), (20, 144), (20, 144), (20, 144), (20, 100), (8, 8), (20, 144), (20, 144), (20, 144), (20, 144), (20, 100), (0, 2), (20, 144), (20, 144), (6, 3), (5, 6), (20, 20), (20, 20), (20, 20), (20, 20), (20, 301), (3, 6), (20, 60), (20, 60), (20, 60), (20, 60), (20, 60), (2, 1), (21, 109), (7, 2), (20, 220), (20, 144), (1, 11), (20, 400), (20, 14), (20, 14), (20, 14), (20, 14), (20, 13), (20, 32), (1, 11), (20, 400), (20, 14), (20, 14), (20, 14), (20, 14), (20, 13), (20, 32), (4, 5), (10, 67), (22, 220), (20, 144), (20, 144), (20, 144), (20, 144), (20, 100), (20, 14), (20, 14), (20, 14), (20, 14), (20, 200), (20, 200), (20, 14), (20, 14), (20, 14), (20, 14), (20, 200), (20, 200), (20, 240), (20, 240), (23, 240), (20, 144), (20, 144), (20, 144), (20, 144), (20, 288), (20, 288), (20, 288), (20, 288), (20, 2), (21, 2), (20, 144), (23, 20), (20, 20), (20, 20), (20, 20), (20, 20), (20, 600), (23, 3010), (20, 180), (20, 60), (20, 60), (21, 121), (21, 121), (20, 100)]
def mh_N : Nat := 103
def mh_ftyL : List (List Nat) := [[2, 2], [2, 2, 2, 2, 2, 2, 2, 0, 0, 0, 0], [2], [2, 2, 2, 2, 2, 0], [2, 2, 0, 0, 0], [2, 2, 2, 2, 2, 0], [0, 0, 0], [2, 0], [2, 2, 2, 2, 2, 0, 0, 0], [2, 2, 2, 2, 2, 2, 2, 2, 2, 2, 2, 2, 2, 0], [2, 0, 0, 0, 1, 2, 2, 2, 2, 2, 0, 2, 2, 2, 2, 2, 2, 2, 2, 2, 2, 2, 2, 0, 0, 0, 0, 0, 0, 0, 0, 0, 2, 0, 0, 0, 0, 0, 2, 2, 2, 2, 2, 2, 2, 2, 2, 2, 2, 2, 2, 2, 2, 2, 2, 2, 2, 2, 0, 2, 2, 2, 2, 2, 0, 0, 2]]
def mh_rfL : List (Nat × Nat × Nat) := [(0, 0, 1), (0, 1, 7), (0, 2, 13), (0, 3, 19), (0, 4, 22), (0, 5, 23), (0, 6, 29), (0, 7, 35), (0, 8, 37), (0, 9, 56), (0, 10, 39), (1, 0, 2), (1, 1, 3), (1, 2, 4), (1, 3, 5), (1, 4, 6), (7, 0, 8), (7, 1, 9), (7, 2, 10), (7, 3, 11), (7, 4, 12), (13, 0, 14), (13, 1, 15), (13, 2, 16), (13, 3, 17), (13, 4, 18), (19, 0, 20), (19, 1, 21), (23, 0, 24), (23, 1, 25), (23, 2, 26), (23, 3, 27), (23, 4, 28), (29, 0, 30), (29, 1, 31), (29, 2, 32), (29, 3, 33), (29, 4, 34), (35, 0, 36), (37, 0, 38), (40, 0, 41), (40, 1, 42), (40, 2, 43), (40, 3, 44), (40, 4, 45), (40, 5, 46), (40, 6, 47), (48, 0, 49), (48, 1, 50), (48, 2, 51), (48, 3, 52), (48, 4, 53), (48, 5, 54), (48, 6, 55), (56, 0, 38), (57, 0, 58), (57, 5, 59), (57, 6, 60), (57, 7, 61), (57, 8, 62), (57, 9, 63), (57, 11, 64), (57, 12, 65), (57, 13, 66), (57, 14, 67), (57, 15, 68), (57, 16, 69), (57, 17, 70), (57, 18, 71), (57, 19, 72), (57, 20, 73), (57, 21, 74), (57, 22, 75), (57, 32, 76), (57, 38, 77), (57, 39, 78), (57, 40, 79), (57, 41, 80), (57, 42, 81), (57, 43, 82), (57, 44, 83), (57, 45, 84), (57, 46, 85), (57, 47, 86), (57, 48, 87), (57, 49, 88), (57, 50, 89), (57, 51, 90), (57, 52, 91), (57, 53, 92), (57, 54, 93), (57, 55, 94), (57, 56, 95), (57, 57, 96), (57, 59, 97), (57, 60, 98), (57, 61, 99), (57, 62, 100), (57, 63, 101), (57, 66, 102)]

abbrev mh_G : Type := (Nat → ClassId) × (Nat → Nat → Nat) × (Nat → ClassId) × (Nat → Nat)
abbrev mh_H : Type := (Nat → Nat → Int32) × (Nat → Nat → Int64) × (Nat → Nat → Nat)
def mh_lay (k : Nat) : Nat × Nat := mh_layL.getD k (99, 0)
def mh_fty (c j : Nat) : Nat := (mh_ftyL.getD c []).getD j 0
/-- a cell's field: an int (or boolean), a long, or the address of a cell -/
def mh_fV (G : mh_G) (σ : mh_H) (k j : Nat) : Value :=
  if mh_fty (mh_lay k).1 j = 0 then .int (σ.1 k j) else if mh_fty (mh_lay k).1 j = 1 then .long (σ.2.1 k j) else .ref (G.2.2.2 (σ.2.2 k j))
def mh_cE (G : mh_G) (σ : mh_H) (k : Nat) : va_E :=
  if (mh_lay k).1 < 20 then .inr ((mh_lay k).1, (List.range (mh_lay k).2).map (fun j => mh_fV G σ k j))
  else if (mh_lay k).1 = 21 then .inl (G.2.2.1 1, (mh_lay k).2, .inr (.inl (σ.2.1 k)))
  else .inl (G.2.2.1 ((mh_lay k).1 - 20), (mh_lay k).2, .inl (σ.1 k))
def mh_ws (G : mh_G) (σ : mh_H) : va_W := (List.range mh_N).map (fun k => (G.2.2.2 k, mh_cE G σ k))
def mh_Wd (G : mh_G) (σ : mh_H) (H : Heap) : Prop := va_P (G.1, G.2.1) vwCl (mh_ws G σ) H
def mh_ty (G : mh_G) : List (ClassId × FieldType) := [(G.2.2.1 0, .int), (G.2.2.1 1, .long), (G.2.2.1 2, .byte), (G.2.2.1 3, .boolean)]
def mh_isN : Cond → Bool
  | .fieldLinkNest .. => true
  | .methodLinkNest .. => true
  | _ => false
def mh_base : List Cond := lw_tbl.filter goodWord
def mh_nst : List Cond := lw_tbl.filter mh_isN
theorem mh_b {w : Cond} (h : w ∈ lw_tbl) (g : goodWord w = true) : w ∈ mh_base := List.mem_filter.mpr ⟨h, g⟩
theorem mh_n {w : Cond} (h : w ∈ lw_tbl) (g : mh_isN w = true) : w ∈ mh_nst := List.mem_filter.mpr ⟨h, g⟩
theorem mh_Nw {w : Cond} (h : mh_isN w = true) {s U : State} (hW : s.WarmedH U.vm) (hZ : va_Nw w s) : va_Nw w U := by
  cases w <;> first | exact va_Nw.warmF hW hZ | exact va_Nw.warmM hW hZ | (exact absurd h (by simp [mh_isN]))
theorem mh_Nt {w : Cond} (h : mh_isN w = true) : w.onTables = true := by
  cases w <;> first | rfl | (exact absurd h (by simp [mh_isN]))
/-- what stands of the tables at a state: classes, array classes, nest mates' links; the cells are apart -/
def mh_Am (G : mh_G) (U : State) : Prop := va_K (G.1, G.2.1) vwCl (mh_ty G) U ∧ (∀ w ∈ mh_nst, va_Nw w U) ∧ (∀ i j, i < mh_N → j < mh_N → G.2.2.2 i = G.2.2.2 j → i = j)
theorem mh_Am.warm {G : mh_G} {s U : State} (h : mh_Am G s) (hW : s.WarmedH U.vm) : mh_Am G U :=
  ⟨va_K.moved hW.alike h.1, fun w hw => mh_Nw (List.mem_filter.mp hw).2 hW (h.2.1 w hw), h.2.2⟩
theorem mh_Am.call {G : mh_G} {U : State} (h : mh_Am G U) (g : JFrame) (mk : MethodId) (a : Array Value) : mh_Am G (U.calling g mk a) :=
  ⟨va_K.moved (u := U) (U := U.calling g mk a) (Vm.Alike.refl U.vm) h.1, fun w hw => va_Nw.same (u := U) (U := U.calling g mk a) (mh_Nt (List.mem_filter.mp hw).2) rfl (h.2.1 w hw), h.2.2⟩
theorem mh_ws_at {G : mh_G} {σ : mh_H} {k : Nat} (h : k < mh_N) : (mh_ws G σ)[k]? = some (G.2.2.2 k, mh_cE G σ k) := by
  simp [mh_ws, List.getElem?_map, List.getElem?_range h]
theorem mh_ws_lt {G : mh_G} {σ : mh_H} {k : Nat} {q : Nat × va_E} (h : (mh_ws G σ)[k]? = some q) : k < mh_N ∧ q = (G.2.2.2 k, mh_cE G σ k) := by
  have hk : k < mh_N := by
    rcases Nat.lt_or_ge k mh_N with h1 | h1
    · exact h1
    · rw [List.getElem?_eq_none (by simpa [mh_ws] using h1)] at h; cases h
  rw [mh_ws_at hk] at h
  exact ⟨hk, (Option.some.inj h).symm⟩
theorem mh_D {G : mh_G} {σ : mh_H} {A : Nat → Prop} (hi : ∀ i j, i < mh_N → j < mh_N → G.2.2.2 i = G.2.2.2 j → i = j) (hA : ∀ i, i < mh_N → A (G.2.2.2 i)) : va_D A (mh_ws G σ) := by
  refine ⟨fun i j p q h1 h2 h3 => ?_, fun k q h => ?_⟩
  · obtain ⟨a1, a2⟩ := mh_ws_lt h1
    obtain ⟨b1, b2⟩ := mh_ws_lt h2
    subst a2; subst b2
    exact hi i j a1 b1 h3
  · obtain ⟨a1, a2⟩ := mh_ws_lt h
    subst a2
    exact hA k a1
/-- a world whose cell k alone is another -/
theorem mh_ws_set {G : mh_G} {σ σ' : mh_H} {k : Nat} {e : va_E} (hk : k < mh_N) (he : mh_cE G σ' k = e) (ho : ∀ i, i ≠ k → mh_cE G σ' i = mh_cE G σ i) : (mh_ws G σ).set k (G.2.2.2 k, e) = mh_ws G σ' := by
  apply List.ext_getElem?
  intro i
  rcases Nat.lt_or_ge i mh_N with hi | hi
  · by_cases h : i = k
    · subst h
      rw [mh_ws_at hi, he, List.getElem?_set_self (by simpa [mh_ws] using hi)]
    · rw [List.getElem?_set_ne (Ne.symm h), mh_ws_at hi, mh_ws_at hi, ho i h]
  · rw [List.getElem?_eq_none (by simpa [mh_ws] using hi), List.getElem?_eq_none (by simpa [mh_ws] using hi)]
def mh_up {α : Type} (f : Nat → Nat → α) (k j : Nat) (x : α) : Nat → Nat → α := fun a b => if a = k ∧ b = j then x else f a b
theorem mh_up_s {α : Type} {f : Nat → Nat → α} {k j : Nat} {x : α} : mh_up f k j x k j = x := by simp [mh_up]
theorem mh_up_n {α : Type} {f : Nat → Nat → α} {k j a b : Nat} {x : α} (h : ¬ (a = k ∧ b = j)) : mh_up f k j x a b = f a b := if_neg h
theorem mh_up_row {α : Type} {f : Nat → Nat → α} {k j a : Nat} {x : α} (h : a ≠ k) : mh_up f k j x a = f a := by
  funext b
  exact if_neg (fun q => h q.1)
def mh_pI (σ : mh_H) (k j : Nat) (x : Int32) : mh_H := (mh_up σ.1 k j x, σ.2.1, σ.2.2)
def mh_pL (σ : mh_H) (k j : Nat) (x : Int64) : mh_H := (σ.1, mh_up σ.2.1 k j x, σ.2.2)
def mh_pR (σ : mh_H) (k j : Nat) (t : Nat) : mh_H := (σ.1, σ.2.1, mh_up σ.2.2 k j t)
/-- a whole array of ints is another -/
def mh_pA (σ : mh_H) (k : Nat) (f : Nat → Int32) : mh_H := (fun a b => if a = k then f b else σ.1 a b, σ.2.1, σ.2.2)
/-- cells but k alike -/
theorem mh_cE_ne {G : mh_G} {σ σ' : mh_H} {i : Nat} (h1 : σ'.1 i = σ.1 i) (h2 : σ'.2.1 i = σ.2.1 i) (h3 : σ'.2.2 i = σ.2.2 i) : mh_cE G σ' i = mh_cE G σ i := by
  simp only [mh_cE, mh_fV, h1, h2, h3]
/-- an object's fields behind a write of one of them -/
theorem mh_cE_put {G : mh_G} {σ σ' : mh_H} {k j ci n : Nat} {v : Value} (hl : mh_lay k = (ci, n)) (hci : ci < 20) (hj : j < n) (hv : mh_fV G σ' k j = v) (ho : ∀ i, i ≠ j → mh_fV G σ' k i = mh_fV G σ k i) :
    mh_cE G σ' k = .inr (ci, ((List.range n).map (fun j => mh_fV G σ k j)).set j v) := by
  simp only [mh_cE, hl, hci, if_true]
  congr 2
  apply List.ext_getElem?
  intro i
  rcases Nat.lt_or_ge i n with hi | hi
  · by_cases h : i = j
    · subst h
      rw [List.getElem?_map, List.getElem?_range hi, List.getElem?_set_self (by simpa using hi)]
      simp [hv]
    · rw [List.getElem?_set_ne (Ne.symm h), List.getElem?_map, List.getElem?_map, List.getElem?_range hi]
      simp [ho i h]
  · rw [List.getElem?_eq_none (by simpa using hi), List.getElem?_eq_none (by simpa using hi)]
theorem mh_cE_o {G : mh_G} {σ : mh_H} {k ci n : Nat} (hl : mh_lay k = (ci, n)) (hci : ci < 20) : mh_cE G σ k = .inr (ci, (List.range n).map (fun j => mh_fV G σ k j)) := by
  simp only [mh_cE, hl, hci, if_true]
theorem mh_fs_at {G : mh_G} {σ : mh_H} {k j n : Nat} (hj : j < n) : ((List.range n).map (fun j => mh_fV G σ k j))[j]? = some (mh_fV G σ k j) := by
  rw [List.getElem?_map, List.getElem?_range hj]; rfl
theorem mh_cE_i {G : mh_G} {σ : mh_H} {k kd n : Nat} (hl : mh_lay k = (kd, n)) (h1 : ¬ kd < 20) (h2 : ¬ kd = 21) : mh_cE G σ k = .inl (G.2.2.1 (kd - 20), n, .inl (σ.1 k)) := by
  simp only [mh_cE, hl, h1, h2, if_false]
theorem mh_cE_l {G : mh_G} {σ : mh_H} {k n : Nat} (hl : mh_lay k = (21, n)) : mh_cE G σ k = .inl (G.2.2.1 1, n, .inr (.inl (σ.2.1 k))) := by
  simp only [mh_cE, hl]; rfl
theorem mh_lay_lt {k ci n : Nat} (hl : mh_lay k = (ci, n)) (h : ci < 99) : k < mh_N := by
  rcases Nat.lt_or_ge k mh_N with h1 | h1
  · exact h1
  · have : mh_lay k = (99, 0) := by
      simp only [mh_lay]
      rw [List.getD_eq_getElem?_getD, List.getElem?_eq_none (by exact h1)]
      rfl
    rw [this] at hl
    cases hl
    omega
/-- which cells a method may change -/
def mh_A (G : mh_G) : Nat → Prop := fun q => ∃ k, k < mh_N ∧ q = G.2.2.2 k
/-- the String constants, by their places: they lie outside what may change -/
def mh_sl : List Nat := [13, 6]
def mh_sb : List (List Int32) := [[104, 107, 116, 118, 99, 119, 120, 121, 110, 100, 105, 106, 108], [99, 119, 115, 109, 121, 102]]
def mh_Sg (G : mh_G) (A : Nat → Prop) (U : State) (H : Heap) : Prop := vk_S 2 mh_sl mh_sb (fun i => G.2.2.2 (1000 + i)) (fun i => G.2.2.2 (1010 + i)) A U H ∧ va_Z "java/lang/String" "COMPACT_STRINGS" "Z" (.int 1) A U H ∧ vk_R "MistHands$Reader" 58 "cwsmyf" (G.2.2.2 1001) U ∧ vk_R "MistHands$Reader" 110 "hktvcwxyndijl" (G.2.2.2 1000) U ∧ vk_R "MistHands$Law" 27 "hktvcwxyndijl" (G.2.2.2 1000) U
theorem mh_Sg.to {G : mh_G} {A0 A1 : Nat → Prop} {s U : State} {H : Heap} {locs : List Loc} (h : mh_Sg G A0 s s.heap) (hS : va_S A0 s.heap H locs) (hAB : ∀ q, A1 q → A0 q) (hW : s.WarmedH U.vm) : mh_Sg G A1 U H :=
  ⟨((h.1.kept hS.2.1).narrow hAB).moved hW.alike, ((h.2.1.kept hS.2.1).narrow hAB).moved hW.alike, h.2.2.1.warm hW, h.2.2.2.1.warm hW, h.2.2.2.2.warm hW⟩
theorem mh_Sg.call {G : mh_G} {A : Nat → Prop} {U : State} {H : Heap} (h : mh_Sg G A U H) (g : JFrame) (mk : MethodId) (a : Array Value) : mh_Sg G A (U.calling g mk a) H :=
  ⟨vk_S.moved (u := U) (U := U.calling g mk a) (Vm.Alike.refl U.vm) h.1, va_Z.moved (u := U) (U := U.calling g mk a) (Vm.Alike.refl U.vm) h.2.1, vk_R.same (u := U) (U := U.calling g mk a) rfl h.2.2.1, vk_R.same (u := U) (U := U.calling g mk a) rfl h.2.2.2.1, vk_R.same (u := U) (U := U.calling g mk a) rfl h.2.2.2.2⟩
abbrev mh_X : Type := Launch × Room × (Nat → Prop) × Nat × Nat × (State → Array Value → List Frame → State → Prop)
abbrev mh_Mt : Type := MethodName × ByteArray × Nat × Option FieldType
def mh_Ok (G : mh_G) (X : mh_X) (μ : mh_Mt) (p : Program) (s : State) (m : MethodId) (args : Array Value) (meth : Method) (c : Code) : Prop :=
  p.tables.exec = Jvm.exec ∧ c.code = μ.2.1 ∧ c.maxLocals = μ.2.2.1 ∧ s.vm.findClass μ.1.cls = some m.cls ∧ (∀ w ∈ mh_base, w.before args s = true) ∧ mh_Am G s ∧ meth.sig.returnType = μ.2.2.2 ∧ meth.locks = false ∧ (∀ i, i < mh_N → X.2.2.1 (G.2.2.2 i)) ∧ X.2.2.2.1 ≤ X.2.1.cells ∧ X.2.2.2.2.1 ≤ X.2.1.slots ∧ mh_Sg G X.2.2.1 s s.heap
/-- THE WALK: method μ stands at pc, with these locals and this stack, the world is σ: it comes to its end -/
def mh_W (G : mh_G) (X : mh_X) (μ : mh_Mt) (pc : Nat) (lv : List (Nat × Value)) (st : List Value) (σ : mh_H) : Prop :=
  ∀ (p : Program) (e : Env) (s : State) (m : MethodId) (args : Array Value) (below : List Frame) (meth : Method) (c : Code), mh_Ok G X μ p s m args meth c →
    ∀ (H : Heap) (locs : List Loc) (ls : Array Slot), lv_has ls μ.2.2.1 lv → mh_Wd G σ H → va_S X.2.2.1 s.heap H locs →
      W p X.1 e X.2.1 s m args below meth c H locs X.2.2.2.1 X.2.2.2.2.1 (X.2.2.2.2.2 s args below) (F0 m pc ls st)
def mh_Q (G : mh_G) (Q : Option Value → mh_H → Prop) : Array Value → State → Outcome → State → Prop := fun _ st oc t =>
  (∃ (v : Option Value) (σ' : mh_H), oc = .returned v ∧ Q v σ' ∧ mh_Wd G σ' t.heap) ∧ va_F (mh_A G) st t
def mh_rm (d : Nat) : Room := { frames := d, cells := 0, slots := 0, locals := 40 * d }
/-- A METHOD'S CONTRACT, at a depth of d calls -/
def mh_M (l : Launch) (G : mh_G) (d : Nat) (μ : mh_Mt) (av : List Value) (σ : mh_H) (Q : Option Value → mh_H → Prop) : Prop :=
  Met l μ.1 (.code μ.1 μ.2.1 μ.2.2.1 μ.2.2.2 :: mh_base) (mh_rm d) (va_Pc av (fun U => mh_Am G U ∧ mh_Wd G σ U.heap ∧ mh_Sg G (mh_A G) U U.heap)) (mh_Q G Q) 0 0 (mh_A G)
def mh_Z (G : mh_G) (Q : Option Value → mh_H → Prop) : State → Array Value → List Frame → State → Prop := fun s args below => MQ below (mh_Q G Q) args s 0 0 (mh_A G)
abbrev mh_XM (l : Launch) (G : mh_G) (d : Nat) (Q : Option Value → mh_H → Prop) : mh_X := (l, mh_rm d, mh_A G, 0, 0, mh_Z G Q)
/-- a contract out of a walk from the entry -/
theorem mh_enter {l : Launch} {G : mh_G} {d : Nat} {μ : mh_Mt} {av : List Value} {σ : mh_H} {Q : Option Value → mh_H → Prop} (hy : plainName μ.1.cls = true) {lv : List (Nat × Value)} (hlv : lv_args 0 av = lv) (hn : (lg_sl av).length ≤ μ.2.2.1)
    (h : mh_W G (mh_XM l G d Q) μ 0 lv [] σ) : mh_M l G d μ av σ Q := by
  refine Met.ofW (cc := μ.2.1) (maxL := μ.2.2.1) (ret := μ.2.2.2) hy rfl ?_
  intro p e s m args below meth c s₁ B hml hv
  obtain ⟨rfl, hAm, hWd, hSg⟩ := hv
  have hts := atoms_spec (ws := .code μ.1 μ.2.1 μ.2.2.1 μ.2.2.2 :: mh_base) B.pre
  have hl := lv_entry av (n := μ.2.2.1) hn
  rw [hlv] at hl
  rw [lg_entry_eq]
  exact h p e s m av.toArray below meth c ⟨B.exec, B.bytes, hml, findClass_of_methodNamed B.named, fun w hw => hts w (List.mem_cons_of_mem _ hw), hAm, B.returns, B.notSynchronized, fun i hi => ⟨i, hi, rfl⟩, Nat.le_refl _, Nat.le_refl _, hSg⟩ s.heap [] _ hl hWd va_S.rf
/-- behind a call -/
theorem mh_go {p : Program} {l : Launch} {e : Env} {R : Room} {s : State} {m : MethodId} {args : Array Value} {below : List Frame} {meth : Method} {c : Code} {H : Heap} {locs : List Loc} {cells slots pc : Nat} {ls : Array Slot} {st0 rest : List Value} {Z : State → Prop} {G : mh_G} {Q : Option Value → mh_H → Prop} {a : Array Value} {A0 : Nat → Prop} {H0 : Heap}
    (hr : va_Run p l e R s m args below meth c H locs cells slots 0 0 (F0 m pc ls st0) rest (mh_Q G Q a) (mh_A G)) (hS : va_S A0 H0 H locs) (hA : ∀ i, i < mh_N → A0 (G.2.2.2 i))
    (kk : ∀ (v : Option Value) (σ' : mh_H), Q v σ' → ∀ (H1 : Heap) (locs1 : List Loc), mh_Wd G σ' H1 → va_S A0 H0 H1 locs1 → W p l e R s m args below meth c H1 locs1 cells slots Z (F0 m (pc + 3) ls (v.toList ++ rest))) :
    W p l e R s m args below meth c H locs cells slots Z (F0 m pc ls st0) := by
  have hA' : ∀ q, mh_A G q → A0 q := fun q ⟨k, h1, h2⟩ => by rw [h2]; exact hA k h1
  intro T hT X
  obtain ⟨v, st₀, t, T', L, h0, X', hL, e1, e2, ⟨⟨v', σ', hv, hq, hw⟩, hz, hk⟩, st⟩ := hr T hT X
  cases hv
  rw [h0] at hz hk
  obtain ⟨t2, a1, b1⟩ := kk v σ' hq T'.heap (locs ++ L) (by rw [e1]; exact hw)
    ⟨Nat.le_trans hS.1 (by rw [e1]; exact hz), fun q h1 h2 => by rw [e1, hk q (Nat.lt_of_lt_of_le h1 hS.1) (fun z => h2 (hA' q z))]; exact hS.2.1 q h1 h2, fun q hq => by
      rcases List.mem_append.mp hq with h | h
      · exact hS.2.2 q h
      · exact hA' _ (hL q h)⟩ T' rfl X'
  exact ⟨t2, st t2 a1, b1⟩


def mh_bdL : List (Nat × Nat × Int × Int) := [(0, 13, 0, 1), (25, 9999, 0, 99), (26, 9999, 0, 143), (27, 9999, 0, 999), (29, 5, 0, 60), (37, 1, 0, 220), (38, 9999, 0, 255), (40, 7, 0, 14), (40, 8, 0, 400), (40, 9, 0, 1), (40, 10, 0, 1), (48, 7, 0, 14), (48, 8, 0, 400), (48, 9, 0, 1), (48, 10, 0, 1), (56, 2, 0, 220), (56, 3, 0, 220), (57, 1, 0, 220), (57, 3, 0, 65535), (57, 10, 0, 14), (57, 30, 0, 1), (57, 31, 0, 1), (57, 33, -1, 143), (57, 58, 0, 60), (57, 64, 0, 1), (57, 65, 0, 65535), (58, 9999, -128, 127), (65, 9999, 0, 200), (66, 9999, 0, 200), (67, 9999, 0, 200), (78, 9999, 0, 1), (82, 9999, 0, 143), (90, 9999, 0, 1), (91, 9999, 0, 9), (92, 9999, 0, 9), (93, 9999, 0, 99), (94, 9999, 0, 143), (95, 9999, 0, 999), (96, 9999, 0, 1)]
def mh_prL : List (Nat × Nat) := [(57, 10), (65, 9999), (66, 9999), (67, 9999), (68, 9999)]
def mh_bd (B D : Int) (k j : Nat) : Int × Int := if k = 57 then (if j = 2 then (0, B) else match mh_bdL.find? (fun e => e.1 == k && (e.2.1 == 9999 || e.2.1 == j)) with
    | some e => e.2.2
    | none => (-2147483648, 2147483647)) else if k = 87 then (0, D) else match mh_bdL.find? (fun e => e.1 == k && (e.2.1 == 9999 || e.2.1 == j)) with
    | some e => e.2.2
    | none => (-2147483648, 2147483647)
def mh_pr (k j : Nat) : Bool := mh_prL.any (fun e => e.1 == k && (e.2 == 9999 || e.2 == j))
def mh_isL (k : Nat) : Prop := k = 40 ∨ k = 48
def mh_isV (k : Nat) : Prop := k = 1 ∨ k = 7 ∨ k = 13
/-- the reference's code: how deep the stack is behind a sign -/
def mh_dp (c : Int32) (n : Nat) : Option Nat := if 2 < c.toInt then (if 2 ≤ n then some (n - 1) else none) else if c.toInt = 2 then (if 1 ≤ n then some n else none) else some (n + 1)
def mh_dps (f : Nat → Int32) : Nat → Nat → Nat → Option Nat
  | 0, _, n => some n
  | m + 1, i, n => (mh_dp (f i) n).bind (mh_dps f m (i + 1))
def mh_seg (f : Nat → Int32) (a b : Int) : Prop := 0 ≤ a ∧ a ≤ b ∧ b ≤ 200 ∧ mh_dps f (b - a).toNat a.toNat 0 = some 1
def mh_wfc (σ : mh_H) : Prop := ∀ c : Nat, (c : Int) < (σ.1 57 10).toInt → mh_seg (σ.1 68) (σ.1 65 c).toInt (σ.1 66 c).toInt ∧ mh_seg (σ.1 68) (σ.1 66 c).toInt (σ.1 67 c).toInt
def mh_IR (σ : mh_H) : Prop := (∀ e ∈ mh_rfL, σ.2.2 e.1 e.2.1 = e.2.2) ∧ mh_isL (σ.2.2 0 11) ∧ mh_isL (σ.2.2 0 12) ∧ mh_isL (σ.2.2 56 1)
def mh_I (B D : Int) (σ : mh_H) : Prop := (∀ k j, mh_r (σ.1 k j) (mh_bd B D k j).1 (mh_bd B D k j).2) ∧ mh_IR σ ∧ mh_wfc σ
theorem mh_rf {B D : Int} {σ : mh_H} (h : mh_I B D σ) {k j t : Nat} (i : Nat) (hi : mh_rfL[i]? = some (k, j, t)) : σ.2.2 k j = t := h.2.1.1 (k, j, t) (List.mem_of_getElem? hi)
theorem mh_wfc_put {σ : mh_H} {k j : Nat} {x : Int32} (h : mh_wfc σ) (hp : mh_pr k j = false) : mh_wfc (mh_pI σ k j x) := by
  have e1 : (mh_pI σ k j x).1 57 10 = σ.1 57 10 := mh_up_n (fun q => by rw [← q.1, ← q.2] at hp; exact absurd hp (by decide))
  have ea : ∀ a ∈ ([68, 65, 66, 67] : List Nat), (mh_pI σ k j x).1 a = σ.1 a := by
    intro a ha
    refine mh_up_row (fun q => ?_)
    subst q
    simp only [List.mem_cons, List.not_mem_nil, or_false] at ha
    rcases ha with rfl | rfl | rfl | rfl <;> exact absurd hp (by simp [mh_pr, mh_prL])
  intro c hc
  rw [e1] at hc
  rw [ea 68 (by decide), ea 65 (by decide), ea 66 (by decide), ea 67 (by decide)]
  exact h c hc
theorem mh_I_put {B D : Int} {σ : mh_H} (h : mh_I B D σ) {k j : Nat} {x : Int32} (hx : mh_r x (mh_bd B D k j).1 (mh_bd B D k j).2) (hp : mh_pr k j = false) : mh_I B D (mh_pI σ k j x) := by
  refine ⟨fun a b => ?_, h.2.1, mh_wfc_put h.2.2 hp⟩
  by_cases q : a = k ∧ b = j
  · rw [q.1, q.2]
    show mh_r (mh_up σ.1 k j x k j) _ _
    rw [mh_up_s]
    exact hx
  · show mh_r (mh_up σ.1 k j x a b) _ _
    rw [mh_up_n q]
    exact h.1 a b
theorem mh_I_pR {B D : Int} {σ : mh_H} (h : mh_I B D σ) {k j t : Nat} (ht : mh_isL t) (hk : mh_rfL.all (fun e => !(e.1 == k && e.2.1 == j)) = true) : mh_I B D (mh_pR σ k j t) := by
  have key : ∀ a b, mh_isL (σ.2.2 a b) → mh_isL (mh_up σ.2.2 k j t a b) := by
    intro a b h0
    by_cases q : a = k ∧ b = j
    · rw [q.1, q.2, mh_up_s]; exact ht
    · rw [mh_up_n q]; exact h0
  refine ⟨h.1, ⟨fun e he => ?_, key _ _ h.2.1.2.1, key _ _ h.2.1.2.2.1, key _ _ h.2.1.2.2.2⟩, h.2.2⟩
  have h1 := List.all_eq_true.mp hk e he
  show mh_up σ.2.2 k j t e.1 e.2.1 = e.2.2
  rw [mh_up_n (fun q => by rw [q.1, q.2] at h1; simp at h1)]
  exact h.2.1.1 e he
theorem mh_I_pL {B D : Int} {σ : mh_H} (h : mh_I B D σ) {k j : Nat} {x : Int64} : mh_I B D (mh_pL σ k j x) := h
theorem mh_wfc_pA {σ : mh_H} {k : Nat} {f : Nat → Int32} (h : mh_wfc σ) (hp : mh_pr k 0 = false) (hk : k ≠ 57) : mh_wfc (mh_pA σ k f) := by
  have e1 : (mh_pA σ k f).1 57 10 = σ.1 57 10 := if_neg (fun q => hk q.symm)
  have ea : ∀ a ∈ ([68, 65, 66, 67] : List Nat), (mh_pA σ k f).1 a = σ.1 a := by
    intro a ha
    funext b
    refine if_neg (fun q => ?_)
    subst q
    simp only [List.mem_cons, List.not_mem_nil, or_false] at ha
    rcases ha with rfl | rfl | rfl | rfl <;> exact absurd hp (by simp [mh_pr, mh_prL])
  intro c hc
  rw [e1] at hc
  rw [ea 68 (by decide), ea 65 (by decide), ea 66 (by decide), ea 67 (by decide)]
  exact h c hc
theorem mh_I_pA {B D : Int} {σ : mh_H} (h : mh_I B D σ) {k : Nat} {f : Nat → Int32} (hx : ∀ j, mh_r (f j) (mh_bd B D k j).1 (mh_bd B D k j).2) (hp : mh_pr k 0 = false) (hk : k ≠ 57) : mh_I B D (mh_pA σ k f) := by
  refine ⟨fun a b => ?_, h.2.1, mh_wfc_pA h.2.2 hp hk⟩
  by_cases q : a = k
  · rw [q]
    show mh_r (if k = k then f b else _) _ _
    rw [if_pos rfl]
    exact hx b
  · show mh_r (if a = k then f b else σ.1 a b) _ _
    rw [if_neg q]
    exact h.1 a b
theorem mh_I_mono {B D B' D' : Int} {σ : mh_H} (h : mh_I B D σ) (hB : B ≤ B') (hD : D ≤ D') : mh_I B' D' σ := by
  refine ⟨fun k j => ?_, h.2⟩
  have h1 := h.1 k j
  unfold mh_bd at h1 ⊢
  split at h1
  · rename_i hk
    rw [if_pos hk]
    split at h1
    · rename_i hj
      rw [if_pos hj]
      exact ⟨h1.1, Int.le_trans h1.2 hB⟩
    · rename_i hj
      rw [if_neg hj]
      exact h1
  · rename_i hk
    rw [if_neg hk]
    split at h1
    · rename_i hj
      rw [if_pos hj]
      exact ⟨h1.1, Int.le_trans h1.2 hD⟩
    · rename_i hj
      rw [if_neg hj]
      exact h1
/-- which cells and slots may differ: a list; slot 9999: the whole cell -/
def mh_sI (S : List (Nat × Nat)) (k j : Nat) : Prop := ∃ e ∈ S, e.1 = k ∧ (e.2 = 9999 ∨ e.2 = j)
def mh_F (S : List (Nat × Nat)) (σ σ' : mh_H) : Prop := ∀ k j, ¬ mh_sI S k j → σ'.1 k j = σ.1 k j ∧ σ'.2.1 k j = σ.2.1 k j ∧ σ'.2.2 k j = σ.2.2 k j
theorem mh_F_rf {S : List (Nat × Nat)} {σ : mh_H} : mh_F S σ σ := fun _ _ _ => ⟨rfl, rfl, rfl⟩
theorem mh_F_pI {S : List (Nat × Nat)} {σ σ' : mh_H} (h : mh_F S σ σ') {k j : Nat} {x : Int32} (hs : mh_sI S k j) : mh_F S σ (mh_pI σ' k j x) := by
  refine fun a b hn => ⟨?_, (h a b hn).2⟩
  show mh_up σ'.1 k j x a b = _
  rw [mh_up_n (fun q => hn (by rw [q.1, q.2]; exact hs))]
  exact (h a b hn).1
theorem mh_F_pL {S : List (Nat × Nat)} {σ σ' : mh_H} (h : mh_F S σ σ') {k j : Nat} {x : Int64} (hs : mh_sI S k j) : mh_F S σ (mh_pL σ' k j x) := by
  refine fun a b hn => ⟨(h a b hn).1, ?_, (h a b hn).2.2⟩
  show mh_up σ'.2.1 k j x a b = _
  rw [mh_up_n (fun q => hn (by rw [q.1, q.2]; exact hs))]
  exact (h a b hn).2.1
theorem mh_F_pR {S : List (Nat × Nat)} {σ σ' : mh_H} (h : mh_F S σ σ') {k j : Nat} {x : Nat} (hs : mh_sI S k j) : mh_F S σ (mh_pR σ' k j x) := by
  refine fun a b hn => ⟨(h a b hn).1, (h a b hn).2.1, ?_⟩
  show mh_up σ'.2.2 k j x a b = _
  rw [mh_up_n (fun q => hn (by rw [q.1, q.2]; exact hs))]
  exact (h a b hn).2.2
theorem mh_F_pA {S : List (Nat × Nat)} {σ σ' : mh_H} (h : mh_F S σ σ') {k : Nat} {f : Nat → Int32} (hs : (k, 9999) ∈ S) : mh_F S σ (mh_pA σ' k f) := by
  refine fun a b hn => ⟨?_, (h a b hn).2⟩
  show (if a = k then f b else σ'.1 a b) = _
  rw [if_neg (fun q => hn ⟨(k, 9999), hs, q.symm, Or.inl rfl⟩)]
  exact (h a b hn).1
theorem mh_F_tr {S S' : List (Nat × Nat)} {σ σ1 σ2 : mh_H} (h : mh_F S σ σ1) (h2 : mh_F S' σ1 σ2) (hs : ∀ e ∈ S', e ∈ S) : mh_F S σ σ2 := by
  have key : ∀ k j, ¬ mh_sI S k j → ¬ mh_sI S' k j := fun k j hn q => hn (by obtain ⟨e, h1, h3⟩ := q; exact ⟨e, hs e h1, h3⟩)
  exact fun k j hn => ⟨((h2 k j (key k j hn)).1).trans (h k j hn).1, ((h2 k j (key k j hn)).2.1).trans (h k j hn).2.1, ((h2 k j (key k j hn)).2.2).trans (h k j hn).2.2⟩
def mh_lsub (S' S : List (Nat × Nat)) : Bool := S'.all (fun e => S.contains e || S.contains (e.1, 9999))
theorem mh_F_tl {S S' : List (Nat × Nat)} {σ σ1 σ2 : mh_H} (h : mh_F S σ σ1) (h2 : mh_F S' σ1 σ2) (hs : mh_lsub S' S = true) : mh_F S σ σ2 := by
  have key : ∀ k j, ¬ mh_sI S k j → ¬ mh_sI S' k j := fun k j hn q => hn (by
    obtain ⟨e, h1, h3⟩ := q
    have h4 := List.all_eq_true.mp hs e h1
    rcases Bool.or_eq_true_iff.mp h4 with h5 | h5
    · exact ⟨e, List.contains_iff_mem.mp h5, h3⟩
    · exact ⟨(e.1, 9999), List.contains_iff_mem.mp h5, h3.1, Or.inl rfl⟩)
  exact fun k j hn => ⟨((h2 k j (key k j hn)).1).trans (h k j hn).1, ((h2 k j (key k j hn)).2.1).trans (h k j hn).2.1, ((h2 k j (key k j hn)).2.2).trans (h k j hn).2.2⟩
theorem mh_si {S : List (Nat × Nat)} {k j : Nat} (i : Nat) (h : S[i]? = some (k, 9999)) : mh_sI S k j := ⟨(k, 9999), List.mem_of_getElem? h, rfl, Or.inl rfl⟩
theorem mh_sj {S : List (Nat × Nat)} {k j : Nat} (i : Nat) (h : S[i]? = some (k, j)) : mh_sI S k j := ⟨(k, j), List.mem_of_getElem? h, rfl, Or.inr rfl⟩
theorem mh_rc {x : Int32} {n : Int} (h : x.toInt = n) : mh_r x n n := ⟨by omega, by omega⟩

theorem rd_0_13 {B D : Int} {σ : mh_H} (h : mh_I B D σ) : mh_r (σ.1 0 13) (0) (1) := h.1 0 13
theorem wr_0_13 {B D : Int} {σ : mh_H} (h : mh_I B D σ) {x : Int32} (hx : mh_r x (0) (1)) : mh_I B D (mh_pI σ 0 13 x) := mh_I_put h (show mh_r x (mh_bd B D 0 13).1 (mh_bd B D 0 13).2 from hx) rfl
theorem rd_1_5 {B D : Int} {σ : mh_H} (h : mh_I B D σ) : mh_r (σ.1 1 5) (-2147483648) (2147483647) := h.1 1 5
theorem wr_1_5 {B D : Int} {σ : mh_H} (h : mh_I B D σ) {x : Int32} : mh_I B D (mh_pI σ 1 5 x) := mh_I_put h (show mh_r x (mh_bd B D 1 5).1 (mh_bd B D 1 5).2 from mh_r_full x) rfl
theorem rd_1_6 {B D : Int} {σ : mh_H} (h : mh_I B D σ) : mh_r (σ.1 1 6) (-2147483648) (2147483647) := h.1 1 6
theorem wr_1_6 {B D : Int} {σ : mh_H} (h : mh_I B D σ) {x : Int32} : mh_I B D (mh_pI σ 1 6 x) := mh_I_put h (show mh_r x (mh_bd B D 1 6).1 (mh_bd B D 1 6).2 from mh_r_full x) rfl
theorem rd_1_7 {B D : Int} {σ : mh_H} (h : mh_I B D σ) : mh_r (σ.1 1 7) (-2147483648) (2147483647) := h.1 1 7
theorem wr_1_7 {B D : Int} {σ : mh_H} (h : mh_I B D σ) {x : Int32} : mh_I B D (mh_pI σ 1 7 x) := mh_I_put h (show mh_r x (mh_bd B D 1 7).1 (mh_bd B D 1 7).2 from mh_r_full x) rfl
theorem rd_2 {B D : Int} {σ : mh_H} (h : mh_I B D σ) (j : Nat) : mh_r (σ.1 2 j) (-2147483648) (2147483647) := h.1 2 j
theorem wr_2 {B D : Int} {σ : mh_H} (h : mh_I B D σ) {j : Nat} {x : Int32} : mh_I B D (mh_pI σ 2 j x) := mh_I_put h (show mh_r x (mh_bd B D 2 j).1 (mh_bd B D 2 j).2 from mh_r_full x) rfl
theorem rd_3 {B D : Int} {σ : mh_H} (h : mh_I B D σ) (j : Nat) : mh_r (σ.1 3 j) (-2147483648) (2147483647) := h.1 3 j
theorem wr_3 {B D : Int} {σ : mh_H} (h : mh_I B D σ) {j : Nat} {x : Int32} : mh_I B D (mh_pI σ 3 j x) := mh_I_put h (show mh_r x (mh_bd B D 3 j).1 (mh_bd B D 3 j).2 from mh_r_full x) rfl
theorem rd_4 {B D : Int} {σ : mh_H} (h : mh_I B D σ) (j : Nat) : mh_r (σ.1 4 j) (-2147483648) (2147483647) := h.1 4 j
theorem wr_4 {B D : Int} {σ : mh_H} (h : mh_I B D σ) {j : Nat} {x : Int32} : mh_I B D (mh_pI σ 4 j x) := mh_I_put h (show mh_r x (mh_bd B D 4 j).1 (mh_bd B D 4 j).2 from mh_r_full x) rfl
theorem rd_5 {B D : Int} {σ : mh_H} (h : mh_I B D σ) (j : Nat) : mh_r (σ.1 5 j) (-2147483648) (2147483647) := h.1 5 j
theorem wr_5 {B D : Int} {σ : mh_H} (h : mh_I B D σ) {j : Nat} {x : Int32} : mh_I B D (mh_pI σ 5 j x) := mh_I_put h (show mh_r x (mh_bd B D 5 j).1 (mh_bd B D 5 j).2 from mh_r_full x) rfl
theorem rd_6 {B D : Int} {σ : mh_H} (h : mh_I B D σ) (j : Nat) : mh_r (σ.1 6 j) (-2147483648) (2147483647) := h.1 6 j
theorem wr_6 {B D : Int} {σ : mh_H} (h : mh_I B D σ) {j : Nat} {x : Int32} : mh_I B D (mh_pI σ 6 j x) := mh_I_put h (show mh_r x (mh_bd B D 6 j).1 (mh_bd B D 6 j).2 from mh_r_full x) rfl
theorem rd_7_5 {B D : Int} {σ : mh_H} (h : mh_I B D σ) : mh_r (σ.1 7 5) (-2147483648) (2147483647) := h.1 7 5
theorem wr_7_5 {B D : Int} {σ : mh_H} (h : mh_I B D σ) {x : Int32} : mh_I B D (mh_pI σ 7 5 x) := mh_I_put h (show mh_r x (mh_bd B D 7 5).1 (mh_bd B D 7 5).2 from mh_r_full x) rfl
theorem rd_7_6 {B D : Int} {σ : mh_H} (h : mh_I B D σ) : mh_r (σ.1 7 6) (-2147483648) (2147483647) := h.1 7 6
theorem wr_7_6 {B D : Int} {σ : mh_H} (h : mh_I B D σ) {x : Int32} : mh_I B D (mh_pI σ 7 6 x) := mh_I_put h (show mh_r x (mh_bd B D 7 6).1 (mh_bd B D 7 6).2 from mh_r_full x) rfl
theorem rd_7_7 {B D : Int} {σ : mh_H} (h : mh_I B D σ) : mh_r (σ.1 7 7) (-2147483648) (2147483647) := h.1 7 7
theorem wr_7_7 {B D : Int} {σ : mh_H} (h : mh_I B D σ) {x : Int32} : mh_I B D (mh_pI σ 7 7 x) := mh_I_put h (show mh_r x (mh_bd B D 7 7).1 (mh_bd B D 7 7).2 from mh_r_full x) rfl
theorem rd_8 {B D : Int} {σ : mh_H} (h : mh_I B D σ) (j : Nat) : mh_r (σ.1 8 j) (-2147483648) (2147483647) := h.1 8 j
theorem wr_8 {B D : Int} {σ : mh_H} (h : mh_I B D σ) {j : Nat} {x : Int32} : mh_I B D (mh_pI σ 8 j x) := mh_I_put h (show mh_r x (mh_bd B D 8 j).1 (mh_bd B D 8 j).2 from mh_r_full x) rfl
theorem rd_9 {B D : Int} {σ : mh_H} (h : mh_I B D σ) (j : Nat) : mh_r (σ.1 9 j) (-2147483648) (2147483647) := h.1 9 j
theorem wr_9 {B D : Int} {σ : mh_H} (h : mh_I B D σ) {j : Nat} {x : Int32} : mh_I B D (mh_pI σ 9 j x) := mh_I_put h (show mh_r x (mh_bd B D 9 j).1 (mh_bd B D 9 j).2 from mh_r_full x) rfl
theorem rd_10 {B D : Int} {σ : mh_H} (h : mh_I B D σ) (j : Nat) : mh_r (σ.1 10 j) (-2147483648) (2147483647) := h.1 10 j
theorem wr_10 {B D : Int} {σ : mh_H} (h : mh_I B D σ) {j : Nat} {x : Int32} : mh_I B D (mh_pI σ 10 j x) := mh_I_put h (show mh_r x (mh_bd B D 10 j).1 (mh_bd B D 10 j).2 from mh_r_full x) rfl
theorem rd_11 {B D : Int} {σ : mh_H} (h : mh_I B D σ) (j : Nat) : mh_r (σ.1 11 j) (-2147483648) (2147483647) := h.1 11 j
theorem wr_11 {B D : Int} {σ : mh_H} (h : mh_I B D σ) {j : Nat} {x : Int32} : mh_I B D (mh_pI σ 11 j x) := mh_I_put h (show mh_r x (mh_bd B D 11 j).1 (mh_bd B D 11 j).2 from mh_r_full x) rfl
theorem rd_12 {B D : Int} {σ : mh_H} (h : mh_I B D σ) (j : Nat) : mh_r (σ.1 12 j) (-2147483648) (2147483647) := h.1 12 j
theorem wr_12 {B D : Int} {σ : mh_H} (h : mh_I B D σ) {j : Nat} {x : Int32} : mh_I B D (mh_pI σ 12 j x) := mh_I_put h (show mh_r x (mh_bd B D 12 j).1 (mh_bd B D 12 j).2 from mh_r_full x) rfl
theorem rd_13_5 {B D : Int} {σ : mh_H} (h : mh_I B D σ) : mh_r (σ.1 13 5) (-2147483648) (2147483647) := h.1 13 5
theorem wr_13_5 {B D : Int} {σ : mh_H} (h : mh_I B D σ) {x : Int32} : mh_I B D (mh_pI σ 13 5 x) := mh_I_put h (show mh_r x (mh_bd B D 13 5).1 (mh_bd B D 13 5).2 from mh_r_full x) rfl
theorem rd_13_6 {B D : Int} {σ : mh_H} (h : mh_I B D σ) : mh_r (σ.1 13 6) (-2147483648) (2147483647) := h.1 13 6
theorem wr_13_6 {B D : Int} {σ : mh_H} (h : mh_I B D σ) {x : Int32} : mh_I B D (mh_pI σ 13 6 x) := mh_I_put h (show mh_r x (mh_bd B D 13 6).1 (mh_bd B D 13 6).2 from mh_r_full x) rfl
theorem rd_13_7 {B D : Int} {σ : mh_H} (h : mh_I B D σ) : mh_r (σ.1 13 7) (-2147483648) (2147483647) := h.1 13 7
theorem wr_13_7 {B D : Int} {σ : mh_H} (h : mh_I B D σ) {x : Int32} : mh_I B D (mh_pI σ 13 7 x) := mh_I_put h (show mh_r x (mh_bd B D 13 7).1 (mh_bd B D 13 7).2 from mh_r_full x) rfl
theorem rd_14 {B D : Int} {σ : mh_H} (h : mh_I B D σ) (j : Nat) : mh_r (σ.1 14 j) (-2147483648) (2147483647) := h.1 14 j
theorem wr_14 {B D : Int} {σ : mh_H} (h : mh_I B D σ) {j : Nat} {x : Int32} : mh_I B D (mh_pI σ 14 j x) := mh_I_put h (show mh_r x (mh_bd B D 14 j).1 (mh_bd B D 14 j).2 from mh_r_full x) rfl
theorem rd_15 {B D : Int} {σ : mh_H} (h : mh_I B D σ) (j : Nat) : mh_r (σ.1 15 j) (-2147483648) (2147483647) := h.1 15 j
theorem wr_15 {B D : Int} {σ : mh_H} (h : mh_I B D σ) {j : Nat} {x : Int32} : mh_I B D (mh_pI σ 15 j x) := mh_I_put h (show mh_r x (mh_bd B D 15 j).1 (mh_bd B D 15 j).2 from mh_r_full x) rfl
theorem rd_16 {B D : Int} {σ : mh_H} (h : mh_I B D σ) (j : Nat) : mh_r (σ.1 16 j) (-2147483648) (2147483647) := h.1 16 j
theorem wr_16 {B D : Int} {σ : mh_H} (h : mh_I B D σ) {j : Nat} {x : Int32} : mh_I B D (mh_pI σ 16 j x) := mh_I_put h (show mh_r x (mh_bd B D 16 j).1 (mh_bd B D 16 j).2 from mh_r_full x) rfl
theorem rd_17 {B D : Int} {σ : mh_H} (h : mh_I B D σ) (j : Nat) : mh_r (σ.1 17 j) (-2147483648) (2147483647) := h.1 17 j
theorem wr_17 {B D : Int} {σ : mh_H} (h : mh_I B D σ) {j : Nat} {x : Int32} : mh_I B D (mh_pI σ 17 j x) := mh_I_put h (show mh_r x (mh_bd B D 17 j).1 (mh_bd B D 17 j).2 from mh_r_full x) rfl
theorem rd_18 {B D : Int} {σ : mh_H} (h : mh_I B D σ) (j : Nat) : mh_r (σ.1 18 j) (-2147483648) (2147483647) := h.1 18 j
theorem wr_18 {B D : Int} {σ : mh_H} (h : mh_I B D σ) {j : Nat} {x : Int32} : mh_I B D (mh_pI σ 18 j x) := mh_I_put h (show mh_r x (mh_bd B D 18 j).1 (mh_bd B D 18 j).2 from mh_r_full x) rfl
theorem rd_20 {B D : Int} {σ : mh_H} (h : mh_I B D σ) (j : Nat) : mh_r (σ.1 20 j) (-2147483648) (2147483647) := h.1 20 j
theorem wr_20 {B D : Int} {σ : mh_H} (h : mh_I B D σ) {j : Nat} {x : Int32} : mh_I B D (mh_pI σ 20 j x) := mh_I_put h (show mh_r x (mh_bd B D 20 j).1 (mh_bd B D 20 j).2 from mh_r_full x) rfl
theorem rd_21 {B D : Int} {σ : mh_H} (h : mh_I B D σ) (j : Nat) : mh_r (σ.1 21 j) (-2147483648) (2147483647) := h.1 21 j
theorem wr_21 {B D : Int} {σ : mh_H} (h : mh_I B D σ) {j : Nat} {x : Int32} : mh_I B D (mh_pI σ 21 j x) := mh_I_put h (show mh_r x (mh_bd B D 21 j).1 (mh_bd B D 21 j).2 from mh_r_full x) rfl
theorem rd_22_0 {B D : Int} {σ : mh_H} (h : mh_I B D σ) : mh_r (σ.1 22 0) (-2147483648) (2147483647) := h.1 22 0
theorem wr_22_0 {B D : Int} {σ : mh_H} (h : mh_I B D σ) {x : Int32} : mh_I B D (mh_pI σ 22 0 x) := mh_I_put h (show mh_r x (mh_bd B D 22 0).1 (mh_bd B D 22 0).2 from mh_r_full x) rfl
theorem rd_22_1 {B D : Int} {σ : mh_H} (h : mh_I B D σ) : mh_r (σ.1 22 1) (-2147483648) (2147483647) := h.1 22 1
theorem wr_22_1 {B D : Int} {σ : mh_H} (h : mh_I B D σ) {x : Int32} : mh_I B D (mh_pI σ 22 1 x) := mh_I_put h (show mh_r x (mh_bd B D 22 1).1 (mh_bd B D 22 1).2 from mh_r_full x) rfl
theorem rd_22_2 {B D : Int} {σ : mh_H} (h : mh_I B D σ) : mh_r (σ.1 22 2) (-2147483648) (2147483647) := h.1 22 2
theorem wr_22_2 {B D : Int} {σ : mh_H} (h : mh_I B D σ) {x : Int32} : mh_I B D (mh_pI σ 22 2 x) := mh_I_put h (show mh_r x (mh_bd B D 22 2).1 (mh_bd B D 22 2).2 from mh_r_full x) rfl
theorem rd_23_5 {B D : Int} {σ : mh_H} (h : mh_I B D σ) : mh_r (σ.1 23 5) (-2147483648) (2147483647) := h.1 23 5
theorem wr_23_5 {B D : Int} {σ : mh_H} (h : mh_I B D σ) {x : Int32} : mh_I B D (mh_pI σ 23 5 x) := mh_I_put h (show mh_r x (mh_bd B D 23 5).1 (mh_bd B D 23 5).2 from mh_r_full x) rfl
theorem rd_24 {B D : Int} {σ : mh_H} (h : mh_I B D σ) (j : Nat) : mh_r (σ.1 24 j) (-2147483648) (2147483647) := h.1 24 j
theorem wr_24 {B D : Int} {σ : mh_H} (h : mh_I B D σ) {j : Nat} {x : Int32} : mh_I B D (mh_pI σ 24 j x) := mh_I_put h (show mh_r x (mh_bd B D 24 j).1 (mh_bd B D 24 j).2 from mh_r_full x) rfl
theorem rd_25 {B D : Int} {σ : mh_H} (h : mh_I B D σ) (j : Nat) : mh_r (σ.1 25 j) (0) (99) := h.1 25 j
theorem wr_25 {B D : Int} {σ : mh_H} (h : mh_I B D σ) {j : Nat} {x : Int32} (hx : mh_r x (0) (99)) : mh_I B D (mh_pI σ 25 j x) := mh_I_put h (show mh_r x (mh_bd B D 25 j).1 (mh_bd B D 25 j).2 from hx) rfl
theorem rd_26 {B D : Int} {σ : mh_H} (h : mh_I B D σ) (j : Nat) : mh_r (σ.1 26 j) (0) (143) := h.1 26 j
theorem wr_26 {B D : Int} {σ : mh_H} (h : mh_I B D σ) {j : Nat} {x : Int32} (hx : mh_r x (0) (143)) : mh_I B D (mh_pI σ 26 j x) := mh_I_put h (show mh_r x (mh_bd B D 26 j).1 (mh_bd B D 26 j).2 from hx) rfl
theorem rd_27 {B D : Int} {σ : mh_H} (h : mh_I B D σ) (j : Nat) : mh_r (σ.1 27 j) (0) (999) := h.1 27 j
theorem wr_27 {B D : Int} {σ : mh_H} (h : mh_I B D σ) {j : Nat} {x : Int32} (hx : mh_r x (0) (999)) : mh_I B D (mh_pI σ 27 j x) := mh_I_put h (show mh_r x (mh_bd B D 27 j).1 (mh_bd B D 27 j).2 from hx) rfl
theorem rd_28 {B D : Int} {σ : mh_H} (h : mh_I B D σ) (j : Nat) : mh_r (σ.1 28 j) (-2147483648) (2147483647) := h.1 28 j
theorem wr_28 {B D : Int} {σ : mh_H} (h : mh_I B D σ) {j : Nat} {x : Int32} : mh_I B D (mh_pI σ 28 j x) := mh_I_put h (show mh_r x (mh_bd B D 28 j).1 (mh_bd B D 28 j).2 from mh_r_full x) rfl
theorem rd_29_5 {B D : Int} {σ : mh_H} (h : mh_I B D σ) : mh_r (σ.1 29 5) (0) (60) := h.1 29 5
theorem wr_29_5 {B D : Int} {σ : mh_H} (h : mh_I B D σ) {x : Int32} (hx : mh_r x (0) (60)) : mh_I B D (mh_pI σ 29 5 x) := mh_I_put h (show mh_r x (mh_bd B D 29 5).1 (mh_bd B D 29 5).2 from hx) rfl
theorem rd_30 {B D : Int} {σ : mh_H} (h : mh_I B D σ) (j : Nat) : mh_r (σ.1 30 j) (-2147483648) (2147483647) := h.1 30 j
theorem wr_30 {B D : Int} {σ : mh_H} (h : mh_I B D σ) {j : Nat} {x : Int32} : mh_I B D (mh_pI σ 30 j x) := mh_I_put h (show mh_r x (mh_bd B D 30 j).1 (mh_bd B D 30 j).2 from mh_r_full x) rfl
theorem rd_31 {B D : Int} {σ : mh_H} (h : mh_I B D σ) (j : Nat) : mh_r (σ.1 31 j) (-2147483648) (2147483647) := h.1 31 j
theorem wr_31 {B D : Int} {σ : mh_H} (h : mh_I B D σ) {j : Nat} {x : Int32} : mh_I B D (mh_pI σ 31 j x) := mh_I_put h (show mh_r x (mh_bd B D 31 j).1 (mh_bd B D 31 j).2 from mh_r_full x) rfl
theorem rd_32 {B D : Int} {σ : mh_H} (h : mh_I B D σ) (j : Nat) : mh_r (σ.1 32 j) (-2147483648) (2147483647) := h.1 32 j
theorem wr_32 {B D : Int} {σ : mh_H} (h : mh_I B D σ) {j : Nat} {x : Int32} : mh_I B D (mh_pI σ 32 j x) := mh_I_put h (show mh_r x (mh_bd B D 32 j).1 (mh_bd B D 32 j).2 from mh_r_full x) rfl
theorem rd_33 {B D : Int} {σ : mh_H} (h : mh_I B D σ) (j : Nat) : mh_r (σ.1 33 j) (-2147483648) (2147483647) := h.1 33 j
theorem wr_33 {B D : Int} {σ : mh_H} (h : mh_I B D σ) {j : Nat} {x : Int32} : mh_I B D (mh_pI σ 33 j x) := mh_I_put h (show mh_r x (mh_bd B D 33 j).1 (mh_bd B D 33 j).2 from mh_r_full x) rfl
theorem rd_34 {B D : Int} {σ : mh_H} (h : mh_I B D σ) (j : Nat) : mh_r (σ.1 34 j) (-2147483648) (2147483647) := h.1 34 j
theorem wr_34 {B D : Int} {σ : mh_H} (h : mh_I B D σ) {j : Nat} {x : Int32} : mh_I B D (mh_pI σ 34 j x) := mh_I_put h (show mh_r x (mh_bd B D 34 j).1 (mh_bd B D 34 j).2 from mh_r_full x) rfl
theorem rd_37_1 {B D : Int} {σ : mh_H} (h : mh_I B D σ) : mh_r (σ.1 37 1) (0) (220) := h.1 37 1
theorem wr_37_1 {B D : Int} {σ : mh_H} (h : mh_I B D σ) {x : Int32} (hx : mh_r x (0) (220)) : mh_I B D (mh_pI σ 37 1 x) := mh_I_put h (show mh_r x (mh_bd B D 37 1).1 (mh_bd B D 37 1).2 from hx) rfl
theorem rd_38 {B D : Int} {σ : mh_H} (h : mh_I B D σ) (j : Nat) : mh_r (σ.1 38 j) (0) (255) := h.1 38 j
theorem wr_38 {B D : Int} {σ : mh_H} (h : mh_I B D σ) {j : Nat} {x : Int32} (hx : mh_r x (0) (255)) : mh_I B D (mh_pI σ 38 j x) := mh_I_put h (show mh_r x (mh_bd B D 38 j).1 (mh_bd B D 38 j).2 from hx) rfl
theorem rd_39 {B D : Int} {σ : mh_H} (h : mh_I B D σ) (j : Nat) : mh_r (σ.1 39 j) (-2147483648) (2147483647) := h.1 39 j
theorem wr_39 {B D : Int} {σ : mh_H} (h : mh_I B D σ) {j : Nat} {x : Int32} : mh_I B D (mh_pI σ 39 j x) := mh_I_put h (show mh_r x (mh_bd B D 39 j).1 (mh_bd B D 39 j).2 from mh_r_full x) rfl
theorem rd_40_7 {B D : Int} {σ : mh_H} (h : mh_I B D σ) : mh_r (σ.1 40 7) (0) (14) := h.1 40 7
theorem wr_40_7 {B D : Int} {σ : mh_H} (h : mh_I B D σ) {x : Int32} (hx : mh_r x (0) (14)) : mh_I B D (mh_pI σ 40 7 x) := mh_I_put h (show mh_r x (mh_bd B D 40 7).1 (mh_bd B D 40 7).2 from hx) rfl
theorem rd_40_8 {B D : Int} {σ : mh_H} (h : mh_I B D σ) : mh_r (σ.1 40 8) (0) (400) := h.1 40 8
theorem wr_40_8 {B D : Int} {σ : mh_H} (h : mh_I B D σ) {x : Int32} (hx : mh_r x (0) (400)) : mh_I B D (mh_pI σ 40 8 x) := mh_I_put h (show mh_r x (mh_bd B D 40 8).1 (mh_bd B D 40 8).2 from hx) rfl
theorem rd_40_9 {B D : Int} {σ : mh_H} (h : mh_I B D σ) : mh_r (σ.1 40 9) (0) (1) := h.1 40 9
theorem wr_40_9 {B D : Int} {σ : mh_H} (h : mh_I B D σ) {x : Int32} (hx : mh_r x (0) (1)) : mh_I B D (mh_pI σ 40 9 x) := mh_I_put h (show mh_r x (mh_bd B D 40 9).1 (mh_bd B D 40 9).2 from hx) rfl
theorem rd_40_10 {B D : Int} {σ : mh_H} (h : mh_I B D σ) : mh_r (σ.1 40 10) (0) (1) := h.1 40 10
theorem wr_40_10 {B D : Int} {σ : mh_H} (h : mh_I B D σ) {x : Int32} (hx : mh_r x (0) (1)) : mh_I B D (mh_pI σ 40 10 x) := mh_I_put h (show mh_r x (mh_bd B D 40 10).1 (mh_bd B D 40 10).2 from hx) rfl
theorem rd_41 {B D : Int} {σ : mh_H} (h : mh_I B D σ) (j : Nat) : mh_r (σ.1 41 j) (-2147483648) (2147483647) := h.1 41 j
theorem wr_41 {B D : Int} {σ : mh_H} (h : mh_I B D σ) {j : Nat} {x : Int32} : mh_I B D (mh_pI σ 41 j x) := mh_I_put h (show mh_r x (mh_bd B D 41 j).1 (mh_bd B D 41 j).2 from mh_r_full x) rfl
theorem rd_42 {B D : Int} {σ : mh_H} (h : mh_I B D σ) (j : Nat) : mh_r (σ.1 42 j) (-2147483648) (2147483647) := h.1 42 j
theorem wr_42 {B D : Int} {σ : mh_H} (h : mh_I B D σ) {j : Nat} {x : Int32} : mh_I B D (mh_pI σ 42 j x) := mh_I_put h (show mh_r x (mh_bd B D 42 j).1 (mh_bd B D 42 j).2 from mh_r_full x) rfl
theorem rd_43 {B D : Int} {σ : mh_H} (h : mh_I B D σ) (j : Nat) : mh_r (σ.1 43 j) (-2147483648) (2147483647) := h.1 43 j
theorem wr_43 {B D : Int} {σ : mh_H} (h : mh_I B D σ) {j : Nat} {x : Int32} : mh_I B D (mh_pI σ 43 j x) := mh_I_put h (show mh_r x (mh_bd B D 43 j).1 (mh_bd B D 43 j).2 from mh_r_full x) rfl
theorem rd_44 {B D : Int} {σ : mh_H} (h : mh_I B D σ) (j : Nat) : mh_r (σ.1 44 j) (-2147483648) (2147483647) := h.1 44 j
theorem wr_44 {B D : Int} {σ : mh_H} (h : mh_I B D σ) {j : Nat} {x : Int32} : mh_I B D (mh_pI σ 44 j x) := mh_I_put h (show mh_r x (mh_bd B D 44 j).1 (mh_bd B D 44 j).2 from mh_r_full x) rfl
theorem rd_45 {B D : Int} {σ : mh_H} (h : mh_I B D σ) (j : Nat) : mh_r (σ.1 45 j) (-2147483648) (2147483647) := h.1 45 j
theorem wr_45 {B D : Int} {σ : mh_H} (h : mh_I B D σ) {j : Nat} {x : Int32} : mh_I B D (mh_pI σ 45 j x) := mh_I_put h (show mh_r x (mh_bd B D 45 j).1 (mh_bd B D 45 j).2 from mh_r_full x) rfl
theorem rd_46 {B D : Int} {σ : mh_H} (h : mh_I B D σ) (j : Nat) : mh_r (σ.1 46 j) (-2147483648) (2147483647) := h.1 46 j
theorem wr_46 {B D : Int} {σ : mh_H} (h : mh_I B D σ) {j : Nat} {x : Int32} : mh_I B D (mh_pI σ 46 j x) := mh_I_put h (show mh_r x (mh_bd B D 46 j).1 (mh_bd B D 46 j).2 from mh_r_full x) rfl
theorem rd_47 {B D : Int} {σ : mh_H} (h : mh_I B D σ) (j : Nat) : mh_r (σ.1 47 j) (-2147483648) (2147483647) := h.1 47 j
theorem wr_47 {B D : Int} {σ : mh_H} (h : mh_I B D σ) {j : Nat} {x : Int32} : mh_I B D (mh_pI σ 47 j x) := mh_I_put h (show mh_r x (mh_bd B D 47 j).1 (mh_bd B D 47 j).2 from mh_r_full x) rfl
theorem rd_48_7 {B D : Int} {σ : mh_H} (h : mh_I B D σ) : mh_r (σ.1 48 7) (0) (14) := h.1 48 7
theorem wr_48_7 {B D : Int} {σ : mh_H} (h : mh_I B D σ) {x : Int32} (hx : mh_r x (0) (14)) : mh_I B D (mh_pI σ 48 7 x) := mh_I_put h (show mh_r x (mh_bd B D 48 7).1 (mh_bd B D 48 7).2 from hx) rfl
theorem rd_48_8 {B D : Int} {σ : mh_H} (h : mh_I B D σ) : mh_r (σ.1 48 8) (0) (400) := h.1 48 8
theorem wr_48_8 {B D : Int} {σ : mh_H} (h : mh_I B D σ) {x : Int32} (hx : mh_r x (0) (400)) : mh_I B D (mh_pI σ 48 8 x) := mh_I_put h (show mh_r x (mh_bd B D 48 8).1 (mh_bd B D 48 8).2 from hx) rfl
theorem rd_48_9 {B D : Int} {σ : mh_H} (h : mh_I B D σ) : mh_r (σ.1 48 9) (0) (1) := h.1 48 9
theorem wr_48_9 {B D : Int} {σ : mh_H} (h : mh_I B D σ) {x : Int32} (hx : mh_r x (0) (1)) : mh_I B D (mh_pI σ 48 9 x) := mh_I_put h (show mh_r x (mh_bd B D 48 9).1 (mh_bd B D 48 9).2 from hx) rfl
theorem rd_48_10 {B D : Int} {σ : mh_H} (h : mh_I B D σ) : mh_r (σ.1 48 10) (0) (1) := h.1 48 10
theorem wr_48_10 {B D : Int} {σ : mh_H} (h : mh_I B D σ) {x : Int32} (hx : mh_r x (0) (1)) : mh_I B D (mh_pI σ 48 10 x) := mh_I_put h (show mh_r x (mh_bd B D 48 10).1 (mh_bd B D 48 10).2 from hx) rfl
theorem rd_49 {B D : Int} {σ : mh_H} (h : mh_I B D σ) (j : Nat) : mh_r (σ.1 49 j) (-2147483648) (2147483647) := h.1 49 j
theorem wr_49 {B D : Int} {σ : mh_H} (h : mh_I B D σ) {j : Nat} {x : Int32} : mh_I B D (mh_pI σ 49 j x) := mh_I_put h (show mh_r x (mh_bd B D 49 j).1 (mh_bd B D 49 j).2 from mh_r_full x) rfl
theorem rd_50 {B D : Int} {σ : mh_H} (h : mh_I B D σ) (j : Nat) : mh_r (σ.1 50 j) (-2147483648) (2147483647) := h.1 50 j
theorem wr_50 {B D : Int} {σ : mh_H} (h : mh_I B D σ) {j : Nat} {x : Int32} : mh_I B D (mh_pI σ 50 j x) := mh_I_put h (show mh_r x (mh_bd B D 50 j).1 (mh_bd B D 50 j).2 from mh_r_full x) rfl
theorem rd_51 {B D : Int} {σ : mh_H} (h : mh_I B D σ) (j : Nat) : mh_r (σ.1 51 j) (-2147483648) (2147483647) := h.1 51 j
theorem wr_51 {B D : Int} {σ : mh_H} (h : mh_I B D σ) {j : Nat} {x : Int32} : mh_I B D (mh_pI σ 51 j x) := mh_I_put h (show mh_r x (mh_bd B D 51 j).1 (mh_bd B D 51 j).2 from mh_r_full x) rfl
theorem rd_52 {B D : Int} {σ : mh_H} (h : mh_I B D σ) (j : Nat) : mh_r (σ.1 52 j) (-2147483648) (2147483647) := h.1 52 j
theorem wr_52 {B D : Int} {σ : mh_H} (h : mh_I B D σ) {j : Nat} {x : Int32} : mh_I B D (mh_pI σ 52 j x) := mh_I_put h (show mh_r x (mh_bd B D 52 j).1 (mh_bd B D 52 j).2 from mh_r_full x) rfl
theorem rd_53 {B D : Int} {σ : mh_H} (h : mh_I B D σ) (j : Nat) : mh_r (σ.1 53 j) (-2147483648) (2147483647) := h.1 53 j
theorem wr_53 {B D : Int} {σ : mh_H} (h : mh_I B D σ) {j : Nat} {x : Int32} : mh_I B D (mh_pI σ 53 j x) := mh_I_put h (show mh_r x (mh_bd B D 53 j).1 (mh_bd B D 53 j).2 from mh_r_full x) rfl
theorem rd_54 {B D : Int} {σ : mh_H} (h : mh_I B D σ) (j : Nat) : mh_r (σ.1 54 j) (-2147483648) (2147483647) := h.1 54 j
theorem wr_54 {B D : Int} {σ : mh_H} (h : mh_I B D σ) {j : Nat} {x : Int32} : mh_I B D (mh_pI σ 54 j x) := mh_I_put h (show mh_r x (mh_bd B D 54 j).1 (mh_bd B D 54 j).2 from mh_r_full x) rfl
theorem rd_55 {B D : Int} {σ : mh_H} (h : mh_I B D σ) (j : Nat) : mh_r (σ.1 55 j) (-2147483648) (2147483647) := h.1 55 j
theorem wr_55 {B D : Int} {σ : mh_H} (h : mh_I B D σ) {j : Nat} {x : Int32} : mh_I B D (mh_pI σ 55 j x) := mh_I_put h (show mh_r x (mh_bd B D 55 j).1 (mh_bd B D 55 j).2 from mh_r_full x) rfl
theorem rd_56_2 {B D : Int} {σ : mh_H} (h : mh_I B D σ) : mh_r (σ.1 56 2) (0) (220) := h.1 56 2
theorem wr_56_2 {B D : Int} {σ : mh_H} (h : mh_I B D σ) {x : Int32} (hx : mh_r x (0) (220)) : mh_I B D (mh_pI σ 56 2 x) := mh_I_put h (show mh_r x (mh_bd B D 56 2).1 (mh_bd B D 56 2).2 from hx) rfl
theorem rd_56_3 {B D : Int} {σ : mh_H} (h : mh_I B D σ) : mh_r (σ.1 56 3) (0) (220) := h.1 56 3
theorem wr_56_3 {B D : Int} {σ : mh_H} (h : mh_I B D σ) {x : Int32} (hx : mh_r x (0) (220)) : mh_I B D (mh_pI σ 56 3 x) := mh_I_put h (show mh_r x (mh_bd B D 56 3).1 (mh_bd B D 56 3).2 from hx) rfl
theorem rd_56_4 {B D : Int} {σ : mh_H} (h : mh_I B D σ) : mh_r (σ.1 56 4) (-2147483648) (2147483647) := h.1 56 4
theorem wr_56_4 {B D : Int} {σ : mh_H} (h : mh_I B D σ) {x : Int32} : mh_I B D (mh_pI σ 56 4 x) := mh_I_put h (show mh_r x (mh_bd B D 56 4).1 (mh_bd B D 56 4).2 from mh_r_full x) rfl
theorem rd_57_1 {B D : Int} {σ : mh_H} (h : mh_I B D σ) : mh_r (σ.1 57 1) (0) (220) := h.1 57 1
theorem wr_57_1 {B D : Int} {σ : mh_H} (h : mh_I B D σ) {x : Int32} (hx : mh_r x (0) (220)) : mh_I B D (mh_pI σ 57 1 x) := mh_I_put h (show mh_r x (mh_bd B D 57 1).1 (mh_bd B D 57 1).2 from hx) rfl
theorem rd_57_2 {B D : Int} {σ : mh_H} (h : mh_I B D σ) : mh_r (σ.1 57 2) (0) (B) := h.1 57 2
theorem wr_57_2 {B D : Int} {σ : mh_H} (h : mh_I B D σ) {x : Int32} (hx : mh_r x (0) (B)) : mh_I B D (mh_pI σ 57 2 x) := mh_I_put h (show mh_r x (mh_bd B D 57 2).1 (mh_bd B D 57 2).2 from hx) rfl
theorem rd_57_3 {B D : Int} {σ : mh_H} (h : mh_I B D σ) : mh_r (σ.1 57 3) (0) (65535) := h.1 57 3
theorem wr_57_3 {B D : Int} {σ : mh_H} (h : mh_I B D σ) {x : Int32} (hx : mh_r x (0) (65535)) : mh_I B D (mh_pI σ 57 3 x) := mh_I_put h (show mh_r x (mh_bd B D 57 3).1 (mh_bd B D 57 3).2 from hx) rfl
theorem rd_57_10 {B D : Int} {σ : mh_H} (h : mh_I B D σ) : mh_r (σ.1 57 10) (0) (14) := h.1 57 10
theorem rd_57_23 {B D : Int} {σ : mh_H} (h : mh_I B D σ) : mh_r (σ.1 57 23) (-2147483648) (2147483647) := h.1 57 23
theorem wr_57_23 {B D : Int} {σ : mh_H} (h : mh_I B D σ) {x : Int32} : mh_I B D (mh_pI σ 57 23 x) := mh_I_put h (show mh_r x (mh_bd B D 57 23).1 (mh_bd B D 57 23).2 from mh_r_full x) rfl
theorem rd_57_24 {B D : Int} {σ : mh_H} (h : mh_I B D σ) : mh_r (σ.1 57 24) (-2147483648) (2147483647) := h.1 57 24
theorem wr_57_24 {B D : Int} {σ : mh_H} (h : mh_I B D σ) {x : Int32} : mh_I B D (mh_pI σ 57 24 x) := mh_I_put h (show mh_r x (mh_bd B D 57 24).1 (mh_bd B D 57 24).2 from mh_r_full x) rfl
theorem rd_57_25 {B D : Int} {σ : mh_H} (h : mh_I B D σ) : mh_r (σ.1 57 25) (-2147483648) (2147483647) := h.1 57 25
theorem wr_57_25 {B D : Int} {σ : mh_H} (h : mh_I B D σ) {x : Int32} : mh_I B D (mh_pI σ 57 25 x) := mh_I_put h (show mh_r x (mh_bd B D 57 25).1 (mh_bd B D 57 25).2 from mh_r_full x) rfl
theorem rd_57_26 {B D : Int} {σ : mh_H} (h : mh_I B D σ) : mh_r (σ.1 57 26) (-2147483648) (2147483647) := h.1 57 26
theorem wr_57_26 {B D : Int} {σ : mh_H} (h : mh_I B D σ) {x : Int32} : mh_I B D (mh_pI σ 57 26 x) := mh_I_put h (show mh_r x (mh_bd B D 57 26).1 (mh_bd B D 57 26).2 from mh_r_full x) rfl
theorem rd_57_27 {B D : Int} {σ : mh_H} (h : mh_I B D σ) : mh_r (σ.1 57 27) (-2147483648) (2147483647) := h.1 57 27
theorem wr_57_27 {B D : Int} {σ : mh_H} (h : mh_I B D σ) {x : Int32} : mh_I B D (mh_pI σ 57 27 x) := mh_I_put h (show mh_r x (mh_bd B D 57 27).1 (mh_bd B D 57 27).2 from mh_r_full x) rfl
theorem rd_57_28 {B D : Int} {σ : mh_H} (h : mh_I B D σ) : mh_r (σ.1 57 28) (-2147483648) (2147483647) := h.1 57 28
theorem wr_57_28 {B D : Int} {σ : mh_H} (h : mh_I B D σ) {x : Int32} : mh_I B D (mh_pI σ 57 28 x) := mh_I_put h (show mh_r x (mh_bd B D 57 28).1 (mh_bd B D 57 28).2 from mh_r_full x) rfl
theorem rd_57_29 {B D : Int} {σ : mh_H} (h : mh_I B D σ) : mh_r (σ.1 57 29) (-2147483648) (2147483647) := h.1 57 29
theorem wr_57_29 {B D : Int} {σ : mh_H} (h : mh_I B D σ) {x : Int32} : mh_I B D (mh_pI σ 57 29 x) := mh_I_put h (show mh_r x (mh_bd B D 57 29).1 (mh_bd B D 57 29).2 from mh_r_full x) rfl
theorem rd_57_30 {B D : Int} {σ : mh_H} (h : mh_I B D σ) : mh_r (σ.1 57 30) (0) (1) := h.1 57 30
theorem wr_57_30 {B D : Int} {σ : mh_H} (h : mh_I B D σ) {x : Int32} (hx : mh_r x (0) (1)) : mh_I B D (mh_pI σ 57 30 x) := mh_I_put h (show mh_r x (mh_bd B D 57 30).1 (mh_bd B D 57 30).2 from hx) rfl
theorem rd_57_31 {B D : Int} {σ : mh_H} (h : mh_I B D σ) : mh_r (σ.1 57 31) (0) (1) := h.1 57 31
theorem wr_57_31 {B D : Int} {σ : mh_H} (h : mh_I B D σ) {x : Int32} (hx : mh_r x (0) (1)) : mh_I B D (mh_pI σ 57 31 x) := mh_I_put h (show mh_r x (mh_bd B D 57 31).1 (mh_bd B D 57 31).2 from hx) rfl
theorem rd_57_33 {B D : Int} {σ : mh_H} (h : mh_I B D σ) : mh_r (σ.1 57 33) (-1) (143) := h.1 57 33
theorem wr_57_33 {B D : Int} {σ : mh_H} (h : mh_I B D σ) {x : Int32} (hx : mh_r x (-1) (143)) : mh_I B D (mh_pI σ 57 33 x) := mh_I_put h (show mh_r x (mh_bd B D 57 33).1 (mh_bd B D 57 33).2 from hx) rfl
theorem rd_57_34 {B D : Int} {σ : mh_H} (h : mh_I B D σ) : mh_r (σ.1 57 34) (-2147483648) (2147483647) := h.1 57 34
theorem wr_57_34 {B D : Int} {σ : mh_H} (h : mh_I B D σ) {x : Int32} : mh_I B D (mh_pI σ 57 34 x) := mh_I_put h (show mh_r x (mh_bd B D 57 34).1 (mh_bd B D 57 34).2 from mh_r_full x) rfl
theorem rd_57_35 {B D : Int} {σ : mh_H} (h : mh_I B D σ) : mh_r (σ.1 57 35) (-2147483648) (2147483647) := h.1 57 35
theorem wr_57_35 {B D : Int} {σ : mh_H} (h : mh_I B D σ) {x : Int32} : mh_I B D (mh_pI σ 57 35 x) := mh_I_put h (show mh_r x (mh_bd B D 57 35).1 (mh_bd B D 57 35).2 from mh_r_full x) rfl
theorem rd_57_36 {B D : Int} {σ : mh_H} (h : mh_I B D σ) : mh_r (σ.1 57 36) (-2147483648) (2147483647) := h.1 57 36
theorem wr_57_36 {B D : Int} {σ : mh_H} (h : mh_I B D σ) {x : Int32} : mh_I B D (mh_pI σ 57 36 x) := mh_I_put h (show mh_r x (mh_bd B D 57 36).1 (mh_bd B D 57 36).2 from mh_r_full x) rfl
theorem rd_57_37 {B D : Int} {σ : mh_H} (h : mh_I B D σ) : mh_r (σ.1 57 37) (-2147483648) (2147483647) := h.1 57 37
theorem wr_57_37 {B D : Int} {σ : mh_H} (h : mh_I B D σ) {x : Int32} : mh_I B D (mh_pI σ 57 37 x) := mh_I_put h (show mh_r x (mh_bd B D 57 37).1 (mh_bd B D 57 37).2 from mh_r_full x) rfl
theorem rd_57_58 {B D : Int} {σ : mh_H} (h : mh_I B D σ) : mh_r (σ.1 57 58) (0) (60) := h.1 57 58
theorem wr_57_58 {B D : Int} {σ : mh_H} (h : mh_I B D σ) {x : Int32} (hx : mh_r x (0) (60)) : mh_I B D (mh_pI σ 57 58 x) := mh_I_put h (show mh_r x (mh_bd B D 57 58).1 (mh_bd B D 57 58).2 from hx) rfl
theorem rd_57_64 {B D : Int} {σ : mh_H} (h : mh_I B D σ) : mh_r (σ.1 57 64) (0) (1) := h.1 57 64
theorem wr_57_64 {B D : Int} {σ : mh_H} (h : mh_I B D σ) {x : Int32} (hx : mh_r x (0) (1)) : mh_I B D (mh_pI σ 57 64 x) := mh_I_put h (show mh_r x (mh_bd B D 57 64).1 (mh_bd B D 57 64).2 from hx) rfl
theorem rd_57_65 {B D : Int} {σ : mh_H} (h : mh_I B D σ) : mh_r (σ.1 57 65) (0) (65535) := h.1 57 65
theorem wr_57_65 {B D : Int} {σ : mh_H} (h : mh_I B D σ) {x : Int32} (hx : mh_r x (0) (65535)) : mh_I B D (mh_pI σ 57 65 x) := mh_I_put h (show mh_r x (mh_bd B D 57 65).1 (mh_bd B D 57 65).2 from hx) rfl
theorem rd_58 {B D : Int} {σ : mh_H} (h : mh_I B D σ) (j : Nat) : mh_r (σ.1 58 j) (-128) (127) := h.1 58 j
theorem wr_58 {B D : Int} {σ : mh_H} (h : mh_I B D σ) {j : Nat} {x : Int32} (hx : mh_r x (-128) (127)) : mh_I B D (mh_pI σ 58 j x) := mh_I_put h (show mh_r x (mh_bd B D 58 j).1 (mh_bd B D 58 j).2 from hx) rfl
theorem rd_59 {B D : Int} {σ : mh_H} (h : mh_I B D σ) (j : Nat) : mh_r (σ.1 59 j) (-2147483648) (2147483647) := h.1 59 j
theorem wr_59 {B D : Int} {σ : mh_H} (h : mh_I B D σ) {j : Nat} {x : Int32} : mh_I B D (mh_pI σ 59 j x) := mh_I_put h (show mh_r x (mh_bd B D 59 j).1 (mh_bd B D 59 j).2 from mh_r_full x) rfl
theorem rd_60 {B D : Int} {σ : mh_H} (h : mh_I B D σ) (j : Nat) : mh_r (σ.1 60 j) (-2147483648) (2147483647) := h.1 60 j
theorem wr_60 {B D : Int} {σ : mh_H} (h : mh_I B D σ) {j : Nat} {x : Int32} : mh_I B D (mh_pI σ 60 j x) := mh_I_put h (show mh_r x (mh_bd B D 60 j).1 (mh_bd B D 60 j).2 from mh_r_full x) rfl
theorem rd_61 {B D : Int} {σ : mh_H} (h : mh_I B D σ) (j : Nat) : mh_r (σ.1 61 j) (-2147483648) (2147483647) := h.1 61 j
theorem wr_61 {B D : Int} {σ : mh_H} (h : mh_I B D σ) {j : Nat} {x : Int32} : mh_I B D (mh_pI σ 61 j x) := mh_I_put h (show mh_r x (mh_bd B D 61 j).1 (mh_bd B D 61 j).2 from mh_r_full x) rfl
theorem rd_62 {B D : Int} {σ : mh_H} (h : mh_I B D σ) (j : Nat) : mh_r (σ.1 62 j) (-2147483648) (2147483647) := h.1 62 j
theorem wr_62 {B D : Int} {σ : mh_H} (h : mh_I B D σ) {j : Nat} {x : Int32} : mh_I B D (mh_pI σ 62 j x) := mh_I_put h (show mh_r x (mh_bd B D 62 j).1 (mh_bd B D 62 j).2 from mh_r_full x) rfl
theorem rd_63 {B D : Int} {σ : mh_H} (h : mh_I B D σ) (j : Nat) : mh_r (σ.1 63 j) (-2147483648) (2147483647) := h.1 63 j
theorem wr_63 {B D : Int} {σ : mh_H} (h : mh_I B D σ) {j : Nat} {x : Int32} : mh_I B D (mh_pI σ 63 j x) := mh_I_put h (show mh_r x (mh_bd B D 63 j).1 (mh_bd B D 63 j).2 from mh_r_full x) rfl
theorem rd_64 {B D : Int} {σ : mh_H} (h : mh_I B D σ) (j : Nat) : mh_r (σ.1 64 j) (-2147483648) (2147483647) := h.1 64 j
theorem wr_64 {B D : Int} {σ : mh_H} (h : mh_I B D σ) {j : Nat} {x : Int32} : mh_I B D (mh_pI σ 64 j x) := mh_I_put h (show mh_r x (mh_bd B D 64 j).1 (mh_bd B D 64 j).2 from mh_r_full x) rfl
theorem rd_65 {B D : Int} {σ : mh_H} (h : mh_I B D σ) (j : Nat) : mh_r (σ.1 65 j) (0) (200) := h.1 65 j
theorem rd_66 {B D : Int} {σ : mh_H} (h : mh_I B D σ) (j : Nat) : mh_r (σ.1 66 j) (0) (200) := h.1 66 j
theorem rd_67 {B D : Int} {σ : mh_H} (h : mh_I B D σ) (j : Nat) : mh_r (σ.1 67 j) (0) (200) := h.1 67 j
theorem rd_68 {B D : Int} {σ : mh_H} (h : mh_I B D σ) (j : Nat) : mh_r (σ.1 68 j) (-2147483648) (2147483647) := h.1 68 j
theorem rd_69 {B D : Int} {σ : mh_H} (h : mh_I B D σ) (j : Nat) : mh_r (σ.1 69 j) (-2147483648) (2147483647) := h.1 69 j
theorem wr_69 {B D : Int} {σ : mh_H} (h : mh_I B D σ) {j : Nat} {x : Int32} : mh_I B D (mh_pI σ 69 j x) := mh_I_put h (show mh_r x (mh_bd B D 69 j).1 (mh_bd B D 69 j).2 from mh_r_full x) rfl
theorem rd_70 {B D : Int} {σ : mh_H} (h : mh_I B D σ) (j : Nat) : mh_r (σ.1 70 j) (-2147483648) (2147483647) := h.1 70 j
theorem wr_70 {B D : Int} {σ : mh_H} (h : mh_I B D σ) {j : Nat} {x : Int32} : mh_I B D (mh_pI σ 70 j x) := mh_I_put h (show mh_r x (mh_bd B D 70 j).1 (mh_bd B D 70 j).2 from mh_r_full x) rfl
theorem rd_71 {B D : Int} {σ : mh_H} (h : mh_I B D σ) (j : Nat) : mh_r (σ.1 71 j) (-2147483648) (2147483647) := h.1 71 j
theorem wr_71 {B D : Int} {σ : mh_H} (h : mh_I B D σ) {j : Nat} {x : Int32} : mh_I B D (mh_pI σ 71 j x) := mh_I_put h (show mh_r x (mh_bd B D 71 j).1 (mh_bd B D 71 j).2 from mh_r_full x) rfl
theorem rd_72 {B D : Int} {σ : mh_H} (h : mh_I B D σ) (j : Nat) : mh_r (σ.1 72 j) (-2147483648) (2147483647) := h.1 72 j
theorem wr_72 {B D : Int} {σ : mh_H} (h : mh_I B D σ) {j : Nat} {x : Int32} : mh_I B D (mh_pI σ 72 j x) := mh_I_put h (show mh_r x (mh_bd B D 72 j).1 (mh_bd B D 72 j).2 from mh_r_full x) rfl
theorem rd_73 {B D : Int} {σ : mh_H} (h : mh_I B D σ) (j : Nat) : mh_r (σ.1 73 j) (-2147483648) (2147483647) := h.1 73 j
theorem wr_73 {B D : Int} {σ : mh_H} (h : mh_I B D σ) {j : Nat} {x : Int32} : mh_I B D (mh_pI σ 73 j x) := mh_I_put h (show mh_r x (mh_bd B D 73 j).1 (mh_bd B D 73 j).2 from mh_r_full x) rfl
theorem rd_74 {B D : Int} {σ : mh_H} (h : mh_I B D σ) (j : Nat) : mh_r (σ.1 74 j) (-2147483648) (2147483647) := h.1 74 j
theorem wr_74 {B D : Int} {σ : mh_H} (h : mh_I B D σ) {j : Nat} {x : Int32} : mh_I B D (mh_pI σ 74 j x) := mh_I_put h (show mh_r x (mh_bd B D 74 j).1 (mh_bd B D 74 j).2 from mh_r_full x) rfl
theorem rd_75 {B D : Int} {σ : mh_H} (h : mh_I B D σ) (j : Nat) : mh_r (σ.1 75 j) (-2147483648) (2147483647) := h.1 75 j
theorem wr_75 {B D : Int} {σ : mh_H} (h : mh_I B D σ) {j : Nat} {x : Int32} : mh_I B D (mh_pI σ 75 j x) := mh_I_put h (show mh_r x (mh_bd B D 75 j).1 (mh_bd B D 75 j).2 from mh_r_full x) rfl
theorem rd_76 {B D : Int} {σ : mh_H} (h : mh_I B D σ) (j : Nat) : mh_r (σ.1 76 j) (-2147483648) (2147483647) := h.1 76 j
theorem wr_76 {B D : Int} {σ : mh_H} (h : mh_I B D σ) {j : Nat} {x : Int32} : mh_I B D (mh_pI σ 76 j x) := mh_I_put h (show mh_r x (mh_bd B D 76 j).1 (mh_bd B D 76 j).2 from mh_r_full x) rfl
theorem rd_77 {B D : Int} {σ : mh_H} (h : mh_I B D σ) (j : Nat) : mh_r (σ.1 77 j) (-2147483648) (2147483647) := h.1 77 j
theorem wr_77 {B D : Int} {σ : mh_H} (h : mh_I B D σ) {j : Nat} {x : Int32} : mh_I B D (mh_pI σ 77 j x) := mh_I_put h (show mh_r x (mh_bd B D 77 j).1 (mh_bd B D 77 j).2 from mh_r_full x) rfl
theorem rd_78 {B D : Int} {σ : mh_H} (h : mh_I B D σ) (j : Nat) : mh_r (σ.1 78 j) (0) (1) := h.1 78 j
theorem wr_78 {B D : Int} {σ : mh_H} (h : mh_I B D σ) {j : Nat} {x : Int32} (hx : mh_r x (0) (1)) : mh_I B D (mh_pI σ 78 j x) := mh_I_put h (show mh_r x (mh_bd B D 78 j).1 (mh_bd B D 78 j).2 from hx) rfl
theorem rd_79 {B D : Int} {σ : mh_H} (h : mh_I B D σ) (j : Nat) : mh_r (σ.1 79 j) (-2147483648) (2147483647) := h.1 79 j
theorem wr_79 {B D : Int} {σ : mh_H} (h : mh_I B D σ) {j : Nat} {x : Int32} : mh_I B D (mh_pI σ 79 j x) := mh_I_put h (show mh_r x (mh_bd B D 79 j).1 (mh_bd B D 79 j).2 from mh_r_full x) rfl
theorem rd_80 {B D : Int} {σ : mh_H} (h : mh_I B D σ) (j : Nat) : mh_r (σ.1 80 j) (-2147483648) (2147483647) := h.1 80 j
theorem wr_80 {B D : Int} {σ : mh_H} (h : mh_I B D σ) {j : Nat} {x : Int32} : mh_I B D (mh_pI σ 80 j x) := mh_I_put h (show mh_r x (mh_bd B D 80 j).1 (mh_bd B D 80 j).2 from mh_r_full x) rfl
theorem rd_81 {B D : Int} {σ : mh_H} (h : mh_I B D σ) (j : Nat) : mh_r (σ.1 81 j) (-2147483648) (2147483647) := h.1 81 j
theorem wr_81 {B D : Int} {σ : mh_H} (h : mh_I B D σ) {j : Nat} {x : Int32} : mh_I B D (mh_pI σ 81 j x) := mh_I_put h (show mh_r x (mh_bd B D 81 j).1 (mh_bd B D 81 j).2 from mh_r_full x) rfl
theorem rd_82 {B D : Int} {σ : mh_H} (h : mh_I B D σ) (j : Nat) : mh_r (σ.1 82 j) (0) (143) := h.1 82 j
theorem wr_82 {B D : Int} {σ : mh_H} (h : mh_I B D σ) {j : Nat} {x : Int32} (hx : mh_r x (0) (143)) : mh_I B D (mh_pI σ 82 j x) := mh_I_put h (show mh_r x (mh_bd B D 82 j).1 (mh_bd B D 82 j).2 from hx) rfl
theorem rd_83 {B D : Int} {σ : mh_H} (h : mh_I B D σ) (j : Nat) : mh_r (σ.1 83 j) (-2147483648) (2147483647) := h.1 83 j
theorem wr_83 {B D : Int} {σ : mh_H} (h : mh_I B D σ) {j : Nat} {x : Int32} : mh_I B D (mh_pI σ 83 j x) := mh_I_put h (show mh_r x (mh_bd B D 83 j).1 (mh_bd B D 83 j).2 from mh_r_full x) rfl
theorem rd_84 {B D : Int} {σ : mh_H} (h : mh_I B D σ) (j : Nat) : mh_r (σ.1 84 j) (-2147483648) (2147483647) := h.1 84 j
theorem wr_84 {B D : Int} {σ : mh_H} (h : mh_I B D σ) {j : Nat} {x : Int32} : mh_I B D (mh_pI σ 84 j x) := mh_I_put h (show mh_r x (mh_bd B D 84 j).1 (mh_bd B D 84 j).2 from mh_r_full x) rfl
theorem rd_85 {B D : Int} {σ : mh_H} (h : mh_I B D σ) (j : Nat) : mh_r (σ.1 85 j) (-2147483648) (2147483647) := h.1 85 j
theorem wr_85 {B D : Int} {σ : mh_H} (h : mh_I B D σ) {j : Nat} {x : Int32} : mh_I B D (mh_pI σ 85 j x) := mh_I_put h (show mh_r x (mh_bd B D 85 j).1 (mh_bd B D 85 j).2 from mh_r_full x) rfl
theorem rd_86 {B D : Int} {σ : mh_H} (h : mh_I B D σ) (j : Nat) : mh_r (σ.1 86 j) (-2147483648) (2147483647) := h.1 86 j
theorem wr_86 {B D : Int} {σ : mh_H} (h : mh_I B D σ) {j : Nat} {x : Int32} : mh_I B D (mh_pI σ 86 j x) := mh_I_put h (show mh_r x (mh_bd B D 86 j).1 (mh_bd B D 86 j).2 from mh_r_full x) rfl
theorem rd_87 {B D : Int} {σ : mh_H} (h : mh_I B D σ) (j : Nat) : mh_r (σ.1 87 j) (0) (D) := h.1 87 j
theorem wr_87 {B D : Int} {σ : mh_H} (h : mh_I B D σ) {j : Nat} {x : Int32} (hx : mh_r x (0) (D)) : mh_I B D (mh_pI σ 87 j x) := mh_I_put h (show mh_r x (mh_bd B D 87 j).1 (mh_bd B D 87 j).2 from hx) rfl
theorem rd_89 {B D : Int} {σ : mh_H} (h : mh_I B D σ) (j : Nat) : mh_r (σ.1 89 j) (-2147483648) (2147483647) := h.1 89 j
theorem wr_89 {B D : Int} {σ : mh_H} (h : mh_I B D σ) {j : Nat} {x : Int32} : mh_I B D (mh_pI σ 89 j x) := mh_I_put h (show mh_r x (mh_bd B D 89 j).1 (mh_bd B D 89 j).2 from mh_r_full x) rfl
theorem rd_90 {B D : Int} {σ : mh_H} (h : mh_I B D σ) (j : Nat) : mh_r (σ.1 90 j) (0) (1) := h.1 90 j
theorem wr_90 {B D : Int} {σ : mh_H} (h : mh_I B D σ) {j : Nat} {x : Int32} (hx : mh_r x (0) (1)) : mh_I B D (mh_pI σ 90 j x) := mh_I_put h (show mh_r x (mh_bd B D 90 j).1 (mh_bd B D 90 j).2 from hx) rfl
theorem rd_91 {B D : Int} {σ : mh_H} (h : mh_I B D σ) (j : Nat) : mh_r (σ.1 91 j) (0) (9) := h.1 91 j
theorem wr_91 {B D : Int} {σ : mh_H} (h : mh_I B D σ) {j : Nat} {x : Int32} (hx : mh_r x (0) (9)) : mh_I B D (mh_pI σ 91 j x) := mh_I_put h (show mh_r x (mh_bd B D 91 j).1 (mh_bd B D 91 j).2 from hx) rfl
theorem rd_92 {B D : Int} {σ : mh_H} (h : mh_I B D σ) (j : Nat) : mh_r (σ.1 92 j) (0) (9) := h.1 92 j
theorem wr_92 {B D : Int} {σ : mh_H} (h : mh_I B D σ) {j : Nat} {x : Int32} (hx : mh_r x (0) (9)) : mh_I B D (mh_pI σ 92 j x) := mh_I_put h (show mh_r x (mh_bd B D 92 j).1 (mh_bd B D 92 j).2 from hx) rfl
theorem rd_93 {B D : Int} {σ : mh_H} (h : mh_I B D σ) (j : Nat) : mh_r (σ.1 93 j) (0) (99) := h.1 93 j
theorem wr_93 {B D : Int} {σ : mh_H} (h : mh_I B D σ) {j : Nat} {x : Int32} (hx : mh_r x (0) (99)) : mh_I B D (mh_pI σ 93 j x) := mh_I_put h (show mh_r x (mh_bd B D 93 j).1 (mh_bd B D 93 j).2 from hx) rfl
theorem rd_94 {B D : Int} {σ : mh_H} (h : mh_I B D σ) (j : Nat) : mh_r (σ.1 94 j) (0) (143) := h.1 94 j
theorem wr_94 {B D : Int} {σ : mh_H} (h : mh_I B D σ) {j : Nat} {x : Int32} (hx : mh_r x (0) (143)) : mh_I B D (mh_pI σ 94 j x) := mh_I_put h (show mh_r x (mh_bd B D 94 j).1 (mh_bd B D 94 j).2 from hx) rfl
theorem rd_95 {B D : Int} {σ : mh_H} (h : mh_I B D σ) (j : Nat) : mh_r (σ.1 95 j) (0) (999) := h.1 95 j
theorem wr_95 {B D : Int} {σ : mh_H} (h : mh_I B D σ) {j : Nat} {x : Int32} (hx : mh_r x (0) (999)) : mh_I B D (mh_pI σ 95 j x) := mh_I_put h (show mh_r x (mh_bd B D 95 j).1 (mh_bd B D 95 j).2 from hx) rfl
theorem rd_96 {B D : Int} {σ : mh_H} (h : mh_I B D σ) (j : Nat) : mh_r (σ.1 96 j) (0) (1) := h.1 96 j
theorem wr_96 {B D : Int} {σ : mh_H} (h : mh_I B D σ) {j : Nat} {x : Int32} (hx : mh_r x (0) (1)) : mh_I B D (mh_pI σ 96 j x) := mh_I_put h (show mh_r x (mh_bd B D 96 j).1 (mh_bd B D 96 j).2 from hx) rfl
theorem rd_97 {B D : Int} {σ : mh_H} (h : mh_I B D σ) (j : Nat) : mh_r (σ.1 97 j) (-2147483648) (2147483647) := h.1 97 j
theorem wr_97 {B D : Int} {σ : mh_H} (h : mh_I B D σ) {j : Nat} {x : Int32} : mh_I B D (mh_pI σ 97 j x) := mh_I_put h (show mh_r x (mh_bd B D 97 j).1 (mh_bd B D 97 j).2 from mh_r_full x) rfl
theorem rd_98 {B D : Int} {σ : mh_H} (h : mh_I B D σ) (j : Nat) : mh_r (σ.1 98 j) (-2147483648) (2147483647) := h.1 98 j
theorem wr_98 {B D : Int} {σ : mh_H} (h : mh_I B D σ) {j : Nat} {x : Int32} : mh_I B D (mh_pI σ 98 j x) := mh_I_put h (show mh_r x (mh_bd B D 98 j).1 (mh_bd B D 98 j).2 from mh_r_full x) rfl
theorem rd_99 {B D : Int} {σ : mh_H} (h : mh_I B D σ) (j : Nat) : mh_r (σ.1 99 j) (-2147483648) (2147483647) := h.1 99 j
theorem wr_99 {B D : Int} {σ : mh_H} (h : mh_I B D σ) {j : Nat} {x : Int32} : mh_I B D (mh_pI σ 99 j x) := mh_I_put h (show mh_r x (mh_bd B D 99 j).1 (mh_bd B D 99 j).2 from mh_r_full x) rfl
theorem rd_102 {B D : Int} {σ : mh_H} (h : mh_I B D σ) (j : Nat) : mh_r (σ.1 102 j) (-2147483648) (2147483647) := h.1 102 j
theorem wr_102 {B D : Int} {σ : mh_H} (h : mh_I B D σ) {j : Nat} {x : Int32} : mh_I B D (mh_pI σ 102 j x) := mh_I_put h (show mh_r x (mh_bd B D 102 j).1 (mh_bd B D 102 j).2 from mh_r_full x) rfl
theorem ly_L {k : Nat} (h : mh_isL k) : mh_lay k = (1, mh_szL 1) := by rcases h with rfl | rfl <;> rfl
theorem rf_L_0 {B D : Int} {σ : mh_H} (h : mh_I B D σ) {k : Nat} (hk : mh_isL k) : σ.2.2 k 0 = k + 1 := by rcases hk with rfl | rfl <;> exact h.2.1.1 (_, _, _) (by decide)
theorem ly_L1 {k : Nat} (h : mh_isL k) : mh_lay (k + 1) = (20, 400) := by rcases h with rfl | rfl <;> rfl
theorem wr_L1 {B D : Int} {σ : mh_H} (h : mh_I B D σ) {k : Nat} (hk : mh_isL k) {j : Nat} {x : Int32} : mh_I B D (mh_pI σ (k + 1) j x) := by rcases hk with rfl | rfl <;> exact mh_I_put h (mh_r_full x) rfl
theorem wa_L1 {B D : Int} {σ : mh_H} (h : mh_I B D σ) {k : Nat} (hk : mh_isL k) {f : Nat → Int32} : mh_I B D (mh_pA σ (k + 1) f) := by rcases hk with rfl | rfl <;> exact mh_I_pA h (fun j => mh_r_full (f j)) rfl (by decide)
theorem rf_L_1 {B D : Int} {σ : mh_H} (h : mh_I B D σ) {k : Nat} (hk : mh_isL k) : σ.2.2 k 1 = k + 2 := by rcases hk with rfl | rfl <;> exact h.2.1.1 (_, _, _) (by decide)
theorem ly_L2 {k : Nat} (h : mh_isL k) : mh_lay (k + 2) = (20, 14) := by rcases h with rfl | rfl <;> rfl
theorem wr_L2 {B D : Int} {σ : mh_H} (h : mh_I B D σ) {k : Nat} (hk : mh_isL k) {j : Nat} {x : Int32} : mh_I B D (mh_pI σ (k + 2) j x) := by rcases hk with rfl | rfl <;> exact mh_I_put h (mh_r_full x) rfl
theorem wa_L2 {B D : Int} {σ : mh_H} (h : mh_I B D σ) {k : Nat} (hk : mh_isL k) {f : Nat → Int32} : mh_I B D (mh_pA σ (k + 2) f) := by rcases hk with rfl | rfl <;> exact mh_I_pA h (fun j => mh_r_full (f j)) rfl (by decide)
theorem rf_L_2 {B D : Int} {σ : mh_H} (h : mh_I B D σ) {k : Nat} (hk : mh_isL k) : σ.2.2 k 2 = k + 3 := by rcases hk with rfl | rfl <;> exact h.2.1.1 (_, _, _) (by decide)
theorem ly_L3 {k : Nat} (h : mh_isL k) : mh_lay (k + 3) = (20, 14) := by rcases h with rfl | rfl <;> rfl
theorem wr_L3 {B D : Int} {σ : mh_H} (h : mh_I B D σ) {k : Nat} (hk : mh_isL k) {j : Nat} {x : Int32} : mh_I B D (mh_pI σ (k + 3) j x) := by rcases hk with rfl | rfl <;> exact mh_I_put h (mh_r_full x) rfl
theorem wa_L3 {B D : Int} {σ : mh_H} (h : mh_I B D σ) {k : Nat} (hk : mh_isL k) {f : Nat → Int32} : mh_I B D (mh_pA σ (k + 3) f) := by rcases hk with rfl | rfl <;> exact mh_I_pA h (fun j => mh_r_full (f j)) rfl (by decide)
theorem rf_L_3 {B D : Int} {σ : mh_H} (h : mh_I B D σ) {k : Nat} (hk : mh_isL k) : σ.2.2 k 3 = k + 4 := by rcases hk with rfl | rfl <;> exact h.2.1.1 (_, _, _) (by decide)
theorem ly_L4 {k : Nat} (h : mh_isL k) : mh_lay (k + 4) = (20, 14) := by rcases h with rfl | rfl <;> rfl
theorem wr_L4 {B D : Int} {σ : mh_H} (h : mh_I B D σ) {k : Nat} (hk : mh_isL k) {j : Nat} {x : Int32} : mh_I B D (mh_pI σ (k + 4) j x) := by rcases hk with rfl | rfl <;> exact mh_I_put h (mh_r_full x) rfl
theorem wa_L4 {B D : Int} {σ : mh_H} (h : mh_I B D σ) {k : Nat} (hk : mh_isL k) {f : Nat → Int32} : mh_I B D (mh_pA σ (k + 4) f) := by rcases hk with rfl | rfl <;> exact mh_I_pA h (fun j => mh_r_full (f j)) rfl (by decide)
theorem rf_L_4 {B D : Int} {σ : mh_H} (h : mh_I B D σ) {k : Nat} (hk : mh_isL k) : σ.2.2 k 4 = k + 5 := by rcases hk with rfl | rfl <;> exact h.2.1.1 (_, _, _) (by decide)
theorem ly_L5 {k : Nat} (h : mh_isL k) : mh_lay (k + 5) = (20, 14) := by rcases h with rfl | rfl <;> rfl
theorem wr_L5 {B D : Int} {σ : mh_H} (h : mh_I B D σ) {k : Nat} (hk : mh_isL k) {j : Nat} {x : Int32} : mh_I B D (mh_pI σ (k + 5) j x) := by rcases hk with rfl | rfl <;> exact mh_I_put h (mh_r_full x) rfl
theorem wa_L5 {B D : Int} {σ : mh_H} (h : mh_I B D σ) {k : Nat} (hk : mh_isL k) {f : Nat → Int32} : mh_I B D (mh_pA σ (k + 5) f) := by rcases hk with rfl | rfl <;> exact mh_I_pA h (fun j => mh_r_full (f j)) rfl (by decide)
theorem rf_L_5 {B D : Int} {σ : mh_H} (h : mh_I B D σ) {k : Nat} (hk : mh_isL k) : σ.2.2 k 5 = k + 6 := by rcases hk with rfl | rfl <;> exact h.2.1.1 (_, _, _) (by decide)
theorem ly_L6 {k : Nat} (h : mh_isL k) : mh_lay (k + 6) = (20, 13) := by rcases h with rfl | rfl <;> rfl
theorem wr_L6 {B D : Int} {σ : mh_H} (h : mh_I B D σ) {k : Nat} (hk : mh_isL k) {j : Nat} {x : Int32} : mh_I B D (mh_pI σ (k + 6) j x) := by rcases hk with rfl | rfl <;> exact mh_I_put h (mh_r_full x) rfl
theorem wa_L6 {B D : Int} {σ : mh_H} (h : mh_I B D σ) {k : Nat} (hk : mh_isL k) {f : Nat → Int32} : mh_I B D (mh_pA σ (k + 6) f) := by rcases hk with rfl | rfl <;> exact mh_I_pA h (fun j => mh_r_full (f j)) rfl (by decide)
theorem rf_L_6 {B D : Int} {σ : mh_H} (h : mh_I B D σ) {k : Nat} (hk : mh_isL k) : σ.2.2 k 6 = k + 7 := by rcases hk with rfl | rfl <;> exact h.2.1.1 (_, _, _) (by decide)
theorem ly_L7 {k : Nat} (h : mh_isL k) : mh_lay (k + 7) = (20, 32) := by rcases h with rfl | rfl <;> rfl
theorem wr_L7 {B D : Int} {σ : mh_H} (h : mh_I B D σ) {k : Nat} (hk : mh_isL k) {j : Nat} {x : Int32} : mh_I B D (mh_pI σ (k + 7) j x) := by rcases hk with rfl | rfl <;> exact mh_I_put h (mh_r_full x) rfl
theorem wa_L7 {B D : Int} {σ : mh_H} (h : mh_I B D σ) {k : Nat} (hk : mh_isL k) {f : Nat → Int32} : mh_I B D (mh_pA σ (k + 7) f) := by rcases hk with rfl | rfl <;> exact mh_I_pA h (fun j => mh_r_full (f j)) rfl (by decide)
theorem rd_L_7 {B D : Int} {σ : mh_H} (h : mh_I B D σ) {k : Nat} (hk : mh_isL k) : mh_r (σ.1 k 7) (0) (14) := by rcases hk with rfl | rfl <;> exact h.1 _ 7
theorem wr_L_7 {B D : Int} {σ : mh_H} (h : mh_I B D σ) {k : Nat} (hk : mh_isL k) {x : Int32} (hx : mh_r x (0) (14)) : mh_I B D (mh_pI σ k 7 x) := by rcases hk with rfl | rfl <;> exact mh_I_put h (hx) rfl
theorem rd_L_8 {B D : Int} {σ : mh_H} (h : mh_I B D σ) {k : Nat} (hk : mh_isL k) : mh_r (σ.1 k 8) (0) (400) := by rcases hk with rfl | rfl <;> exact h.1 _ 8
theorem wr_L_8 {B D : Int} {σ : mh_H} (h : mh_I B D σ) {k : Nat} (hk : mh_isL k) {x : Int32} (hx : mh_r x (0) (400)) : mh_I B D (mh_pI σ k 8 x) := by rcases hk with rfl | rfl <;> exact mh_I_put h (hx) rfl
theorem rd_L_9 {B D : Int} {σ : mh_H} (h : mh_I B D σ) {k : Nat} (hk : mh_isL k) : mh_r (σ.1 k 9) (0) (1) := by rcases hk with rfl | rfl <;> exact h.1 _ 9
theorem wr_L_9 {B D : Int} {σ : mh_H} (h : mh_I B D σ) {k : Nat} (hk : mh_isL k) {x : Int32} (hx : mh_r x (0) (1)) : mh_I B D (mh_pI σ k 9 x) := by rcases hk with rfl | rfl <;> exact mh_I_put h (hx) rfl
theorem rd_L_10 {B D : Int} {σ : mh_H} (h : mh_I B D σ) {k : Nat} (hk : mh_isL k) : mh_r (σ.1 k 10) (0) (1) := by rcases hk with rfl | rfl <;> exact h.1 _ 10
theorem wr_L_10 {B D : Int} {σ : mh_H} (h : mh_I B D σ) {k : Nat} (hk : mh_isL k) {x : Int32} (hx : mh_r x (0) (1)) : mh_I B D (mh_pI σ k 10 x) := by rcases hk with rfl | rfl <;> exact mh_I_put h (hx) rfl
theorem ly_V {k : Nat} (h : mh_isV k) : mh_lay k = (8, mh_szL 8) := by rcases h with rfl | rfl | rfl <;> rfl
theorem rf_V_0 {B D : Int} {σ : mh_H} (h : mh_I B D σ) {k : Nat} (hk : mh_isV k) : σ.2.2 k 0 = k + 1 := by rcases hk with rfl | rfl | rfl <;> exact h.2.1.1 (_, _, _) (by decide)
theorem ly_V1 {k : Nat} (h : mh_isV k) : mh_lay (k + 1) = (20, 144) := by rcases h with rfl | rfl | rfl <;> rfl
theorem wr_V1 {B D : Int} {σ : mh_H} (h : mh_I B D σ) {k : Nat} (hk : mh_isV k) {j : Nat} {x : Int32} : mh_I B D (mh_pI σ (k + 1) j x) := by rcases hk with rfl | rfl | rfl <;> exact mh_I_put h (mh_r_full x) rfl
theorem wa_V1 {B D : Int} {σ : mh_H} (h : mh_I B D σ) {k : Nat} (hk : mh_isV k) {f : Nat → Int32} : mh_I B D (mh_pA σ (k + 1) f) := by rcases hk with rfl | rfl | rfl <;> exact mh_I_pA h (fun j => mh_r_full (f j)) rfl (by decide)
theorem rf_V_1 {B D : Int} {σ : mh_H} (h : mh_I B D σ) {k : Nat} (hk : mh_isV k) : σ.2.2 k 1 = k + 2 := by rcases hk with rfl | rfl | rfl <;> exact h.2.1.1 (_, _, _) (by decide)
theorem ly_V2 {k : Nat} (h : mh_isV k) : mh_lay (k + 2) = (20, 144) := by rcases h with rfl | rfl | rfl <;> rfl
theorem wr_V2 {B D : Int} {σ : mh_H} (h : mh_I B D σ) {k : Nat} (hk : mh_isV k) {j : Nat} {x : Int32} : mh_I B D (mh_pI σ (k + 2) j x) := by rcases hk with rfl | rfl | rfl <;> exact mh_I_put h (mh_r_full x) rfl
theorem wa_V2 {B D : Int} {σ : mh_H} (h : mh_I B D σ) {k : Nat} (hk : mh_isV k) {f : Nat → Int32} : mh_I B D (mh_pA σ (k + 2) f) := by rcases hk with rfl | rfl | rfl <;> exact mh_I_pA h (fun j => mh_r_full (f j)) rfl (by decide)
theorem rf_V_2 {B D : Int} {σ : mh_H} (h : mh_I B D σ) {k : Nat} (hk : mh_isV k) : σ.2.2 k 2 = k + 3 := by rcases hk with rfl | rfl | rfl <;> exact h.2.1.1 (_, _, _) (by decide)
theorem ly_V3 {k : Nat} (h : mh_isV k) : mh_lay (k + 3) = (20, 144) := by rcases h with rfl | rfl | rfl <;> rfl
theorem wr_V3 {B D : Int} {σ : mh_H} (h : mh_I B D σ) {k : Nat} (hk : mh_isV k) {j : Nat} {x : Int32} : mh_I B D (mh_pI σ (k + 3) j x) := by rcases hk with rfl | rfl | rfl <;> exact mh_I_put h (mh_r_full x) rfl
theorem wa_V3 {B D : Int} {σ : mh_H} (h : mh_I B D σ) {k : Nat} (hk : mh_isV k) {f : Nat → Int32} : mh_I B D (mh_pA σ (k + 3) f) := by rcases hk with rfl | rfl | rfl <;> exact mh_I_pA h (fun j => mh_r_full (f j)) rfl (by decide)
theorem rf_V_3 {B D : Int} {σ : mh_H} (h : mh_I B D σ) {k : Nat} (hk : mh_isV k) : σ.2.2 k 3 = k + 4 := by rcases hk with rfl | rfl | rfl <;> exact h.2.1.1 (_, _, _) (by decide)
theorem ly_V4 {k : Nat} (h : mh_isV k) : mh_lay (k + 4) = (20, 144) := by rcases h with rfl | rfl | rfl <;> rfl
theorem wr_V4 {B D : Int} {σ : mh_H} (h : mh_I B D σ) {k : Nat} (hk : mh_isV k) {j : Nat} {x : Int32} : mh_I B D (mh_pI σ (k + 4) j x) := by rcases hk with rfl | rfl | rfl <;> exact mh_I_put h (mh_r_full x) rfl
theorem wa_V4 {B D : Int} {σ : mh_H} (h : mh_I B D σ) {k : Nat} (hk : mh_isV k) {f : Nat → Int32} : mh_I B D (mh_pA σ (k + 4) f) := by rcases hk with rfl | rfl | rfl <;> exact mh_I_pA h (fun j => mh_r_full (f j)) rfl (by decide)
theorem rf_V_4 {B D : Int} {σ : mh_H} (h : mh_I B D σ) {k : Nat} (hk : mh_isV k) : σ.2.2 k 4 = k + 5 := by rcases hk with rfl | rfl | rfl <;> exact h.2.1.1 (_, _, _) (by decide)
theorem ly_V5 {k : Nat} (h : mh_isV k) : mh_lay (k + 5) = (20, 100) := by rcases h with rfl | rfl | rfl <;> rfl
theorem wr_V5 {B D : Int} {σ : mh_H} (h : mh_I B D σ) {k : Nat} (hk : mh_isV k) {j : Nat} {x : Int32} : mh_I B D (mh_pI σ (k + 5) j x) := by rcases hk with rfl | rfl | rfl <;> exact mh_I_put h (mh_r_full x) rfl
theorem wa_V5 {B D : Int} {σ : mh_H} (h : mh_I B D σ) {k : Nat} (hk : mh_isV k) {f : Nat → Int32} : mh_I B D (mh_pA σ (k + 5) f) := by rcases hk with rfl | rfl | rfl <;> exact mh_I_pA h (fun j => mh_r_full (f j)) rfl (by decide)
theorem rd_V_5 {B D : Int} {σ : mh_H} (h : mh_I B D σ) {k : Nat} (hk : mh_isV k) : mh_r (σ.1 k 5) (-2147483648) (2147483647) := by rcases hk with rfl | rfl | rfl <;> exact h.1 _ 5
theorem wr_V_5 {B D : Int} {σ : mh_H} (h : mh_I B D σ) {k : Nat} (hk : mh_isV k) {x : Int32} : mh_I B D (mh_pI σ k 5 x) := by rcases hk with rfl | rfl | rfl <;> exact mh_I_put h (mh_r_full x) rfl
theorem rd_V_6 {B D : Int} {σ : mh_H} (h : mh_I B D σ) {k : Nat} (hk : mh_isV k) : mh_r (σ.1 k 6) (-2147483648) (2147483647) := by rcases hk with rfl | rfl | rfl <;> exact h.1 _ 6
theorem wr_V_6 {B D : Int} {σ : mh_H} (h : mh_I B D σ) {k : Nat} (hk : mh_isV k) {x : Int32} : mh_I B D (mh_pI σ k 6 x) := by rcases hk with rfl | rfl | rfl <;> exact mh_I_put h (mh_r_full x) rfl
theorem rd_V_7 {B D : Int} {σ : mh_H} (h : mh_I B D σ) {k : Nat} (hk : mh_isV k) : mh_r (σ.1 k 7) (-2147483648) (2147483647) := by rcases hk with rfl | rfl | rfl <;> exact h.1 _ 7
theorem wr_V_7 {B D : Int} {σ : mh_H} (h : mh_I B D σ) {k : Nat} (hk : mh_isV k) {x : Int32} : mh_I B D (mh_pI σ k 7 x) := by rcases hk with rfl | rfl | rfl <;> exact mh_I_put h (mh_r_full x) rfl

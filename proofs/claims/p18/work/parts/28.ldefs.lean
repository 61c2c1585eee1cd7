/-- as mh_pb, whatever lies on the stack -/
def mh_pw (σ : mh_H) : Prop := 0 ≤ (σ.1 57 23).toInt ∧ (σ.1 57 23).toInt ≤ (σ.1 57 24).toInt ∧ (σ.1 57 24).toInt ≤ 200 ∧ 0 ≤ (σ.1 57 27).toInt ∧ (σ.1 57 27).toInt ≤ (σ.1 57 23).toInt ∧ (σ.1 57 25).toInt ≤ 0 ∧ 0 ≤ (σ.1 57 26).toInt ∧ (σ.1 57 26).toInt ≤ 14
/-- the first n clauses that were read are sound code, up to m -/
def mh_ls (σ : mh_H) (n : Nat) (m : Int) : Prop := ∀ c, c < n → mh_seg (σ.1 74) (σ.1 71 c).toInt (σ.1 72 c).toInt ∧ mh_seg (σ.1 74) (σ.1 72 c).toInt (σ.1 73 c).toInt ∧ (σ.1 73 c).toInt ≤ m
theorem mh_seg_c {f g : Nat → Int32} {a b m : Int} (h : mh_seg f a b) (hb : b ≤ m) (hk : ∀ j : Nat, (j : Int) < m → g j = f j) : mh_seg g a b := by
  obtain ⟨h1, h2, h3, h4⟩ := h
  refine ⟨h1, h2, h3, ?_⟩
  rw [mh_dps_c (fun j hj1 hj2 => hk j (by omega))]
  exact h4
theorem mh_ls_0 {σ : mh_H} {m : Int} : mh_ls σ 0 m := fun c h => absurd h (by omega)
theorem mh_ls_step {σ σ' : mh_H} {n : Nat} {b b2 c' : Int} (h : mh_ls σ n b) (hk : ∀ j : Nat, (j : Int) < b → σ'.1 74 j = σ.1 74 j) (r1 : ∀ c, c < n → σ'.1 71 c = σ.1 71 c) (r2 : ∀ c, c < n → σ'.1 72 c = σ.1 72 c) (r3 : ∀ c, c < n → σ'.1 73 c = σ.1 73 c)
    (s1 : (σ'.1 71 n).toInt = b) (s2 : (σ'.1 72 n).toInt = b2) (s3 : (σ'.1 73 n).toInt = c') (g1 : mh_dps (σ'.1 74) (b2 - b).toNat b.toNat 0 = some 1) (g2 : mh_dps (σ'.1 74) (c' - b2).toNat b2.toNat 0 = some 1) (hb : 0 ≤ b ∧ b ≤ b2 ∧ b2 ≤ c' ∧ c' ≤ 200) : mh_ls σ' (n + 1) c' := by
  intro c hc
  by_cases q : c = n
  · subst q
    rw [s1, s2, s3]
    exact ⟨⟨hb.1, hb.2.1, by omega, g1⟩, ⟨by omega, hb.2.2.1, hb.2.2.2, g2⟩, Int.le_refl _⟩
  · have h9 := h c (by omega)
    rw [r1 c (by omega), r2 c (by omega), r3 c (by omega)]
    exact ⟨mh_seg_c h9.1 (by have := h9.2.1.2.1; omega) hk, mh_seg_c h9.2.1 h9.2.2 hk, by omega⟩
theorem mh_pdr_0 {f stk : Nat → Int32} {c : Int} {n : Nat} (hn : n = 0) : mh_pdr f c c stk n 0 := by
  subst hn
  unfold mh_pdr
  rw [show (c - c).toNat = 0 by omega]
  rfl
theorem mh_pd_1 {b : Int} {σ : mh_H} (h : mh_pd b 1 σ) (hg : (σ.1 57 25).toInt = 0) (hs : (σ.1 57 29).toInt = 0) : mh_dps (σ.1 74) ((σ.1 57 27).toInt - b).toNat b.toNat 0 = some 1 := by
  have h1 := h hg
  unfold mh_pdr at h1
  rw [hs] at h1
  exact h1
def mh_I0 (B D : Int) (σ : mh_H) : Prop := (∀ k j, mh_r (σ.1 k j) (mh_bd B D k j).1 (mh_bd B D k j).2) ∧ mh_IR σ
theorem mh_I0_of {B D : Int} {σ : mh_H} (h : mh_I B D σ) : mh_I0 B D σ := ⟨h.1, h.2.1⟩
theorem mh_I0_up {B D : Int} {σ : mh_H} (h : mh_I0 B D σ) (hw : mh_wfc σ) : mh_I B D σ := ⟨h.1, h.2, hw⟩
theorem mh_rf0 {B D : Int} {σ : mh_H} (h : mh_I0 B D σ) {k j t : Nat} (i : Nat) (hi : mh_rfL[i]? = some (k, j, t)) : σ.2.2 k j = t := h.2.1 (k, j, t) (List.mem_of_getElem? hi)
theorem mh_I0_put {B D : Int} {σ : mh_H} (h : mh_I0 B D σ) {k j : Nat} {x : Int32} (hx : mh_r x (mh_bd B D k j).1 (mh_bd B D k j).2) : mh_I0 B D (mh_pI σ k j x) := by
  refine ⟨fun a b => ?_, h.2⟩
  by_cases q : a = k ∧ b = j
  · rw [q.1, q.2]
    show mh_r (mh_up σ.1 k j x k j) _ _
    rw [mh_up_s]
    exact hx
  · show mh_r (mh_up σ.1 k j x a b) _ _
    rw [mh_up_n q]
    exact h.1 a b
theorem w0_64 {B D : Int} {σ : mh_H} (h : mh_I0 B D σ) {j : Nat} {x : Int32} : mh_I0 B D (mh_pI σ 64 j x) := mh_I0_put h (show mh_r x (mh_bd B D 64 j).1 (mh_bd B D 64 j).2 from mh_r_full x)
theorem w0_68 {B D : Int} {σ : mh_H} (h : mh_I0 B D σ) {j : Nat} {x : Int32} : mh_I0 B D (mh_pI σ 68 j x) := mh_I0_put h (show mh_r x (mh_bd B D 68 j).1 (mh_bd B D 68 j).2 from mh_r_full x)
theorem w0_69 {B D : Int} {σ : mh_H} (h : mh_I0 B D σ) {j : Nat} {x : Int32} : mh_I0 B D (mh_pI σ 69 j x) := mh_I0_put h (show mh_r x (mh_bd B D 69 j).1 (mh_bd B D 69 j).2 from mh_r_full x)
theorem w0_65 {B D : Int} {σ : mh_H} (h : mh_I0 B D σ) {j : Nat} {x : Int32} (hx : mh_r x 0 200) : mh_I0 B D (mh_pI σ 65 j x) := mh_I0_put h (show mh_r x (mh_bd B D 65 j).1 (mh_bd B D 65 j).2 from hx)
theorem w0_66 {B D : Int} {σ : mh_H} (h : mh_I0 B D σ) {j : Nat} {x : Int32} (hx : mh_r x 0 200) : mh_I0 B D (mh_pI σ 66 j x) := mh_I0_put h (show mh_r x (mh_bd B D 66 j).1 (mh_bd B D 66 j).2 from hx)
theorem w0_67 {B D : Int} {σ : mh_H} (h : mh_I0 B D σ) {j : Nat} {x : Int32} (hx : mh_r x 0 200) : mh_I0 B D (mh_pI σ 67 j x) := mh_I0_put h (show mh_r x (mh_bd B D 67 j).1 (mh_bd B D 67 j).2 from hx)
theorem w0_57_10 {B D : Int} {σ : mh_H} (h : mh_I0 B D σ) {x : Int32} (hx : mh_r x 0 14) : mh_I0 B D (mh_pI σ 57 10 x) := mh_I0_put h (show mh_r x (mh_bd B D 57 10).1 (mh_bd B D 57 10).2 from hx)
theorem mh_wfc_of {σ σ' : mh_H} {n : Nat} {m : Int} (h : mh_ls σ n m) (hn : (σ'.1 57 10).toInt = n) (h68 : ∀ j : Nat, (j : Int) < m → σ'.1 68 j = σ.1 74 j) (h65 : ∀ c, c < n → σ'.1 65 c = σ.1 71 c) (h66 : ∀ c, c < n → σ'.1 66 c = σ.1 72 c) (h67 : ∀ c, c < n → σ'.1 67 c = σ.1 73 c) : mh_wfc σ' := by
  intro c hc
  have hc2 : c < n := by omega
  have h9 := h c hc2
  rw [h65 c hc2, h66 c hc2, h67 c hc2]
  exact ⟨mh_seg_c h9.1 (by have := h9.2.1.2.1; omega) h68, mh_seg_c h9.2.1 h9.2.2 h68⟩
theorem mh_ls_c {σ σ' : mh_H} {n n' : Nat} {m m' : Int} (h : mh_ls σ n m) (hn : n' = n) (hm : m' = m) (e1 : σ'.1 71 = σ.1 71) (e2 : σ'.1 72 = σ.1 72) (e3 : σ'.1 73 = σ.1 73) (e4 : σ'.1 74 = σ.1 74) : mh_ls σ' n' m' := by
  subst hn; subst hm
  unfold mh_ls
  rw [e1, e2, e3, e4]
  exact h
theorem mh_ls_r {σ : mh_H} {n c : Nat} {m : Int} (h : mh_ls σ n m) (hc : c < n) : mh_r (σ.1 71 c) 0 200 ∧ mh_r (σ.1 72 c) 0 200 ∧ mh_r (σ.1 73 c) 0 200 := by
  have h9 := h c hc
  obtain ⟨⟨a1, a2, a3, -⟩, ⟨b1, b2, b3, -⟩, -⟩ := h9
  exact ⟨⟨by omega, by omega⟩, ⟨by omega, by omega⟩, ⟨by omega, by omega⟩⟩

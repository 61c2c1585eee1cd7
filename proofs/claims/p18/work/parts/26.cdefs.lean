/-- the stack of a condition: a ( under all, and signs of conditions alone -/
def mh_cq (stk : Nat → Int32) (n : Nat) : Prop := 1 ≤ n ∧ (stk 0).toInt = 40 ∧ ∀ j, j < n → mh_cs (stk j)
theorem mh_cq_psh {stk : Nat → Int32} {n : Nat} {x : Int32} (h : mh_cq stk n) (hx : mh_cs x) : mh_cq (mh_u1 stk n x) (n + 1) := by
  refine ⟨by omega, ?_, fun j hj => ?_⟩
  · rw [mh_u1_lt h.1]; exact h.2.1
  · by_cases q : j = n
    · have : mh_u1 stk n x j = x := if_pos q
      rw [this]; exact hx
    · rw [mh_u1_lt (by omega)]; exact h.2.2 j (by omega)
theorem mh_cq_sub {stk stk' : Nat → Int32} {n n' : Nat} (h : mh_cq stk n) (h1 : 1 ≤ n') (h2 : n' ≤ n) (hs : ∀ j, j < n' → stk' j = stk j) : mh_cq stk' n' :=
  ⟨h1, by rw [hs 0 h1]; exact h.2.1, fun j hj => by rw [hs j hj]; exact h.2.2 j (by omega)⟩
theorem mh_cq_fl {stk : Nat → Int32} {n : Nat} (h : mh_cq stk n) : mh_fl stk n := fun j hj q => by
  have h1 := h.2.2 j (by omega)
  unfold mh_cs at h1
  unfold mh_vs at q
  omega
theorem mh_cq_pop {stk : Nat → Int32} {n n1 : Nat} (h : mh_cq stk n) (hp : ∀ j, n1 ≤ j → j < n → (stk j).toInt ≠ 40) : 1 ≤ n1 := by
  rcases Nat.lt_or_ge 0 n1 with q | q
  · exact q
  · exact absurd h.2.1 (hp 0 q h.1)
theorem mh_cq_1 {stk : Nat → Int32} {x : Int32} (hx : x.toInt = 40) : mh_cq (mh_u1 stk 0 x) 1 := by
  have h0 : mh_u1 stk 0 x 0 = x := if_pos rfl
  refine ⟨by omega, by rw [h0]; exact hx, fun j hj => ?_⟩
  have : j = 0 := by omega
  subst this
  rw [h0]
  unfold mh_cs
  omega

def rl_cellN (e : Nat × Nat) : Bool := (30 ≤ e.1 && e.1 ≤ 34) || (97 ≤ e.1 && e.1 ≤ 99) || (e.1 == 29 && (e.2 == 5 || e.2 == 9999)) || (e.1 == 57 && (e.2 == 58 || e.2 == 9999))
theorem rl_F_at {S : List (Nat × Nat)} {σ σ2 : mh_H} (hF : mh_F S σ σ2) {k j : Nat} (f : Nat × Nat → Bool) (hS : S.all (fun e => !(f e)) = true) (h1 : ∀ e : Nat × Nat, e.1 = k → (e.2 = 9999 ∨ e.2 = j) → f e = true) : σ2.1 k j = σ.1 k j := by
  refine (hF k j ?_).1
  rintro ⟨e, g1, g2, g3⟩
  have h4 := List.all_eq_true.mp hS e g1
  rw [h1 e g2 g3] at h4
  exact absurd h4 (by decide)
theorem rl_N_keep {S : List (Nat × Nat)} {σ σ2 : mh_H} (hF : mh_F S σ σ2) (hS : S.all (fun e => !(rl_cellN e)) = true) (h : rl_N σ) : rl_N σ2 := by
  have row : ∀ k, (30 ≤ k ∧ k ≤ 34) ∨ (97 ≤ k ∧ k ≤ 99) → ∀ j, σ2.1 k j = σ.1 k j := fun k hk j => rl_F_at hF rl_cellN hS (fun e h1 h2 => by
    unfold rl_cellN
    rcases hk with hk | hk <;> simp [h1, hk.1, hk.2])
  have a1 : σ2.1 29 5 = σ.1 29 5 := rl_F_at hF rl_cellN hS (fun e h1 h2 => by rcases h2 with h2 | h2 <;> simp [rl_cellN, h1, h2])
  have a2 : σ2.1 57 58 = σ.1 57 58 := rl_F_at hF rl_cellN hS (fun e h1 h2 => by rcases h2 with h2 | h2 <;> simp [rl_cellN, h1, h2])
  refine ⟨by rw [a1, a2]; exact h.1, by rw [a1]; exact h.2.1, fun j hj => ?_⟩
  rw [row 30 (by decide), row 31 (by decide), row 32 (by decide), row 33 (by decide), row 34 (by decide), row 97 (by decide), row 97 (by decide), row 97 (by decide), row 98 (by decide), row 99 (by decide)]
  exact h.2.2 j hj
theorem rl_N0 : rl_N lx_s0 := by
  refine ⟨rfl, ⟨by decide, by decide⟩, fun j hj => ⟨⟨rfl, rfl, rfl, rfl, rfl⟩, ?_⟩⟩
  exact ⟨(⟨by decide, by decide⟩ : mh_r (0 : Int32) 0 99), (⟨by decide, by decide⟩ : mh_r (0 : Int32) 0 99), (⟨by decide, by decide⟩ : mh_r (0 : Int32) 0 99), (⟨by decide, by decide⟩ : mh_r (0 : Int32) 0 99), (⟨by decide, by decide⟩ : mh_r (0 : Int32) 0 999)⟩

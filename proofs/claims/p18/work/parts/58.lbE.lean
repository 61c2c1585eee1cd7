/-- not by rfl, so that the kernel need not compute -/
theorem mh_lbE {α β : Type} (e : α) (k : α → β) : mh_lb e k = k e := mh_lbT rfl rfl
theorem mh_lb2E {α γ β : Type} (e : α × γ) (k : α → γ → β) : mh_lb2 e k = k e.1 e.2 := mh_lb2T rfl rfl
/-- the three moving references -/
def mh_p3 (s : mh_H) : Prop := mh_isL (s.2.2 0 11) ∧ mh_isL (s.2.2 0 12) ∧ mh_isL (s.2.2 56 1)
def mh_Fr (S : List (Nat × Nat)) (s0 s : mh_H) : Prop := mh_F S s0 s ∧ mh_p3 s
def mh_FrP {α : Type} (S : List (Nat × Nat)) (s0 : mh_H) (r : α × mh_H) : Prop := mh_Fr S s0 r.2
theorem mh_fA {α β : Type} {P : β → Prop} {e : α} {k : α → β} (h : ∀ x, P (k x)) : P (mh_lb e k) := h e
theorem mh_fB {β : Type} {P : β → Prop} {S : List (Nat × Nat)} {s0 e : mh_H} {k : mh_H → β} (he : mh_Fr S s0 e) (h : ∀ s, mh_Fr S s0 s → P (k s)) : P (mh_lb e k) := h e he
theorem mh_fC {α β : Type} {P : β → Prop} {S : List (Nat × Nat)} {s0 : mh_H} {e : α × mh_H} {k : α → mh_H → β} (he : mh_FrP S s0 e) (h : ∀ z s, mh_Fr S s0 s → P (k z s)) : P (mh_lb2 e k) := h e.1 e.2 he
theorem mh_fK {β : Type} {P : β → Prop} {e : Nat} {k : Nat → β} (he : mh_isL e) (h : ∀ x, mh_isL x → P (k x)) : P (mh_lb e k) := h e he
theorem mh_fI {β : Type} {P : β → Prop} {c : Prop} {h : Decidable c} {a b : β} (ha : P a) (hb : P b) : P (@ite β c h a b) := by split <;> assumption
theorem mh_Fr_pI {S : List (Nat × Nat)} {s0 s : mh_H} {k j : Nat} {x : Int32} (h : mh_Fr S s0 s) (hs : mh_sI S k j) : mh_Fr S s0 (mh_pI s k j x) := ⟨mh_F_pI h.1 hs, h.2⟩
theorem mh_Fr_pL {S : List (Nat × Nat)} {s0 s : mh_H} {k j : Nat} {x : Int64} (h : mh_Fr S s0 s) (hs : mh_sI S k j) : mh_Fr S s0 (mh_pL s k j x) := ⟨mh_F_pL h.1 hs, h.2⟩
theorem mh_Fr_pA {S : List (Nat × Nat)} {s0 s : mh_H} {k : Nat} {f : Nat → Int32} (h : mh_Fr S s0 s) (hs : (k, 9999) ∈ S) : mh_Fr S s0 (mh_pA s k f) := ⟨mh_F_pA h.1 hs, h.2⟩
theorem mh_Fr_pR {S : List (Nat × Nat)} {s0 s : mh_H} {k j t : Nat} (h : mh_Fr S s0 s) (hs : mh_sI S k j) (ht : mh_isL t) : mh_Fr S s0 (mh_pR s k j t) := by
  have key : ∀ a b, mh_isL (s.2.2 a b) → mh_isL (mh_up s.2.2 k j t a b) := by
    intro a b h0
    by_cases q : a = k ∧ b = j
    · rw [q.1, q.2, mh_up_s]; exact ht
    · rw [mh_up_n q]; exact h0
  exact ⟨mh_F_pR h.1 hs, key _ _ h.2.1, key _ _ h.2.2.1, key _ _ h.2.2.2⟩
theorem mh_Fr_tv {S S' : List (Nat × Nat)} {s0 s e : mh_H} (h : mh_Fr S s0 s) (h2 : mh_Fr S' s e) (hs : mh_lsub S' S = true) : mh_Fr S s0 e := ⟨mh_F_tl h.1 h2.1 hs, h2.2⟩
theorem mh_Fr_tl {α : Type} {S S' : List (Nat × Nat)} {s0 s : mh_H} {e : α × mh_H} (h : mh_Fr S s0 s) (h2 : mh_FrP S' s e) (hs : mh_lsub S' S = true) : mh_FrP S s0 e := ⟨mh_F_tl h.1 h2.1 hs, h2.2⟩
theorem mh_I_p3 {B D : Int} {s : mh_H} (h : mh_I B D s) : mh_p3 s := h.2.1.2

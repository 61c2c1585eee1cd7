/-- both tables of who is where -/
def mh_gR (sc sr : mh_H) : Prop := ∀ t' n', t' ≤ 300 → n' < 10 → (mh_tb (sc.1 28 t') n' = 1 ↔ sr.1 96 (10 * t' + n') = 1)
def mh_gD (sc sr : mh_H) (t : Nat) : Prop := ∀ i, i < 20 → (mh_tb (sc.1 23 5) i = 1 ∧ ¬ (sr.1 90 i).toInt = 0 ∧ (∃ a b : Nat, a < 10 ∧ b < 10 ∧ a ≠ b ∧ (sr.1 91 i).toInt = (a : Int) ∧ (sr.1 92 i).toInt = (b : Int) ∧ sc.1 24 i = mh_mk a b) ∧ sc.1 25 i = sr.1 93 i ∧ mh_r (sc.1 25 i) 1 99 ∧ sc.1 27 i = sr.1 95 (30 * i + t / 10)) ∨ (mh_tb (sc.1 23 5) i = 0 ∧ (sr.1 90 i).toInt = 0)
theorem gE_eq {sc sr : mh_H} {t : Nat} (ht : t < 300) (hR : mh_gR sc sr) (hD : mh_gD sc sr t) (hy : ∀ i, i < 20 → mh_r (sc.1 27 i) 0 999) {W p4 T : Int32} (hw : ¬ W.toInt = 0 ↔ p4.toInt = 0) {t' n' : Nat} (hn' : n' < 10) : mh_cEm sc W T t t' n' ↔ mh_rE sr p4 T t 10 t' n' := by
  constructor
  · rintro (⟨h1, h2, h3⟩ | ⟨i, h1, h2, h3, h4, a, b, h5, h6, h7, h8, h9⟩)
    · exact ⟨n', hn', (hR t n' (by omega) hn').1 h3, Or.inl ⟨hw.1 h1, h2, rfl⟩⟩
    · rcases hD i h1 with ⟨d1, d2, ⟨x, y, e1, e2, e3, e4, e5, e6⟩, d3, d4, d5⟩ | ⟨d1, -⟩
      · have hx : ∀ nn m', nn < 10 → mh_tb (sc.1 28 t) nn = 1 → m' = n' → ((sr.1 91 i).toInt = (nn : Int) ∧ (sr.1 92 i).toInt = (m' : Int)) ∨ ((sr.1 92 i).toInt = (nn : Int) ∧ (sr.1 91 i).toInt = (m' : Int)) → mh_rE sr p4 T t 10 t' n' := by
          intro nn m' q1 q2 q3 q4
          refine ⟨nn, q1, (hR t nn (by omega) q1).1 q2, Or.inr ⟨i, h1, d2, ht, ?_, ?_, ?_⟩⟩
          · rw [← d5]; omega
          · rw [← d5, ← d3]; exact h4
          · rw [← q3]; exact q4
        rw [h7] at e6
        rcases mk_inj ⟨a, h5⟩ ⟨b, h6⟩ ⟨x, e1⟩ ⟨y, e2⟩ e6 h8 e3 with ⟨y1, y2⟩ | ⟨y1, y2⟩
        · have y1 : a = x := y1
          have y2 : b = y := y2
          rcases h9 with ⟨z1, z2⟩ | ⟨z1, z2⟩
          · exact hx a b h5 z1 z2.symm (Or.inl ⟨by rw [e4, y1], by rw [e5, y2]⟩)
          · exact hx b a h6 z1 z2.symm (Or.inr ⟨by rw [e5, y2], by rw [e4, y1]⟩)
        · have y1 : a = y := y1
          have y2 : b = x := y2
          rcases h9 with ⟨z1, z2⟩ | ⟨z1, z2⟩
          · exact hx a b h5 z1 z2.symm (Or.inr ⟨by rw [e5, y1], by rw [e4, y2]⟩)
          · exact hx b a h6 z1 z2.symm (Or.inl ⟨by rw [e4, y2], by rw [e5, y1]⟩)
      · rw [d1] at h2
        exact absurd h2 (by decide)
  · rintro ⟨nn, h1, h2, ⟨h3, h4, h5⟩ | ⟨i, h3, h4, h5, h6, h7, h8⟩⟩
    · exact Or.inl ⟨hw.2 h3, h4, by rw [h5]; exact (hR t nn (by omega) h1).2 h2⟩
    · rcases hD i h3 with ⟨d1, d2, ⟨x, y, e1, e2, e3, e4, e5, e6⟩, d3, d4, d5⟩ | ⟨-, d2⟩
      · have hb := hy i h3
        have hS := (hR t nn (by omega) h1).2 h2
        refine Or.inr ⟨i, h3, d1, ?_, ?_, x, y, e1, e2, e6, e3, ?_⟩
        · rw [← d5] at h6
          have := hb.1
          omega
        · rw [d5, d3]; exact h7
        · rcases h8 with ⟨z1, z2⟩ | ⟨z1, z2⟩
          · have q : nn = x := by omega
            rw [q] at hS
            exact Or.inl ⟨hS, by omega⟩
          · have q : nn = y := by omega
            rw [q] at hS
            exact Or.inr ⟨hS, by omega⟩
      · exact absurd d2 h4

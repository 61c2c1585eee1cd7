def mh_bnd (z : Int32) : Int32 := if z.toInt < 0 then 0 else if (9999 : Int32).toInt < z.toInt then 9999 else z
theorem bnd_c (s : mh_H) (z : Int32) : f_eX9_bounded s z 9999 = mh_bnd z := by
  have k9 : (9999 : Int32).toInt = 9999 := rfl
  have k0 := kc_0
  unfold f_eX9_bounded mh_bnd
  simp only [mh_lbE]
  apply Int32.toInt_inj.mp
  rw [mh_ma32_i, mh_mi32_i, k0, k9]
  split
  · omega
  · split <;> omega
theorem bnd_r (s : mh_H) (z : Int32) : f_eX10_bounded s z = mh_bnd z := rfl
theorem bnd_b (z : Int32) : mh_r (mh_bnd z) 0 9999 := by
  have k9 : (9999 : Int32).toInt = 9999 := rfl
  have k0 := kc_0
  unfold mh_bnd mh_r
  split
  · omega
  · split <;> omega
theorem bnd_id {z : Int32} (h : mh_r z 0 9999) : mh_bnd z = z := by
  have k9 : (9999 : Int32).toInt = 9999 := rfl
  have h1 := h.1; have h2 := h.2
  unfold mh_bnd
  rw [if_neg (by omega), if_neg (by omega)]
/-- what a law says by a letter, over what stands for its letters -/
abbrev mh_Lw : Type := Int32 → (Nat → Int32) → Int32
def mh_cad (L : mh_Lw) (v : mh_V) : mh_V := (fun r c => if r = 2 then (if c < 144 then mh_bnd (v.1 2 c + L 99 (mh_env v c 0)) else 0) else if r = 3 then (if c < 144 then mh_bnd (v.1 3 c + (L 119 (mh_env v c 0) - L 115 (mh_env v c 0))) else 0) else v.1 r c, v.2)
def mh_inc (w : mh_V) : mh_V := (w.1, w.2.1 + 1, w.2.2)
def mh_stp (L : mh_Lw) (v : mh_V) : mh_V := mh_inc (mh_rdn (mh_cad L v))
theorem cad_2 {L : mh_Lw} {v : mh_V} {c : Nat} (hc : c < 144) : (mh_cad L v).1 2 c = mh_bnd (v.1 2 c + L 99 (mh_env v c 0)) := if_pos hc
theorem cad_3 {L : mh_Lw} {v : mh_V} {c : Nat} (hc : c < 144) : (mh_cad L v).1 3 c = mh_bnd (v.1 3 c + (L 119 (mh_env v c 0) - L 115 (mh_env v c 0))) := if_pos hc
theorem cad_o {L : mh_Lw} {v : mh_V} {r c : Nat} (h2 : r ≠ 2) (h3 : r ≠ 3) : (mh_cad L v).1 r c = v.1 r c := (if_neg h2).trans (if_neg h3)
def mh_e13 (f : Nat → Int32) (i : Nat) : Int32 := if i < 13 then f i else 0
theorem env_13 (v : mh_V) (c : Nat) (d : Int32) : mh_e13 (mh_env v c d) = mh_env v c d := by
  funext i
  unfold mh_e13
  split
  · rfl
  · unfold mh_env
    repeat rw [if_neg (by omega)]
theorem env_cg {v v' : mh_V} {m : Nat} {d : Int32} (h1 : ∀ c, v'.1 1 c = v.1 1 c) (h0 : v'.1 0 m = v.1 0 m) (h2 : v'.1 2 m = v.1 2 m) (h3 : v'.1 3 m = v.1 3 m) (h4 : ∀ c, v'.1 4 c = v.1 4 c) (hs : v'.2.1 = v.2.1) : mh_env v' m d = mh_env v m d := by
  have e1 : mh_wnd v' = mh_wnd v := by unfold mh_wnd; rw [hs, h4]
  have e2 : mh_tre v' m = mh_tre v m := by unfold mh_tre; simp only [h1]
  funext i
  unfold mh_env
  rw [h0, h1, h2, h3, hs, e1, e2]
theorem cad_g {L : mh_Lw} {v : mh_V} (hg : mh_rg v) : mh_rg (mh_cad L v) := by
  intro c hc
  obtain ⟨a1, a2, a3, a4⟩ := hg c hc
  refine ⟨a1, a2, ?_, ?_⟩
  · show mh_r (if c < 144 then mh_bnd _ else 0) 0 9999
    rw [if_pos hc]; exact bnd_b _
  · show mh_r (if c < 144 then mh_bnd _ else 0) 0 9999
    rw [if_pos hc]; exact bnd_b _
theorem stp_g {L : mh_Lw} {v : mh_V} (hg : mh_rg v) : mh_rg (mh_stp L v) := by
  have h := rdn_g (cad_g (L := L) hg)
  intro c hc
  have h1 := h c hc
  unfold mh_stp
  generalize mh_rdn (mh_cad L v) = w at h1 ⊢
  exact h1
theorem cad_z {L : mh_Lw} {v : mh_V} (hz : ∀ r c, ¬ (c < mh_vn r ∧ r < 5) → v.1 r c = 0) : ∀ r c, ¬ (c < mh_vn r ∧ r < 5) → (mh_cad L v).1 r c = 0 := by
  intro r c h
  show (if r = 2 then (if c < 144 then _ else 0) else if r = 3 then (if c < 144 then _ else 0) else v.1 r c) = 0
  by_cases q : r = 2
  · subst q; rw [if_pos rfl, if_neg (fun z => h ⟨vn_r z (by decide), by decide⟩)]
  · rw [if_neg q]
    by_cases q3 : r = 3
    · subst q3; rw [if_pos rfl, if_neg (fun z => h ⟨vn_r z (by decide), by decide⟩)]
    · rw [if_neg q3]; exact hz r c h
/-- the class's law kl in the heap s is L -/
def mh_LC (kl : Nat) (s : mh_H) (L : mh_Lw) : Prop :=
  (∀ s' : mh_H, (∀ i, 1 ≤ i → i ≤ 5 → s'.1 (kl + i) = s.1 (kl + i)) → s'.1 kl 7 = s.1 kl 7 → ∀ letter : Int32, (f_eX1_worth s' kl letter).1 = L letter (mh_e13 (s'.1 (kl + 6)))) ∧
  ((s.1 kl 9).toInt = 0 → ∀ e, L 99 e = 0 ∧ L 119 e = 0 ∧ L 115 e = 0) ∧ ((s.1 kl 10).toInt = 0 → ∀ (letter : Int32) e x, L letter (mh_u1 e 8 x) = L letter e)
theorem LC_mono {kl : Nat} {s s1 : mh_H} {L : mh_Lw} (h : mh_LC kl s L) (hr : ∀ i, 1 ≤ i → i ≤ 5 → s1.1 (kl + i) = s.1 (kl + i)) (h7 : s1.1 kl 7 = s.1 kl 7) (h9 : s1.1 kl 9 = s.1 kl 9) (h10 : s1.1 kl 10 = s.1 kl 10) : mh_LC kl s1 L :=
  ⟨fun s' g1 g2 letter => h.1 s' (fun i a b => (g1 i a b).trans (hr i a b)) (g2.trans h7) letter, fun q => h.2.1 (by rw [← h9]; exact q), fun q => h.2.2 (by rw [← h10]; exact q)⟩
/-- the reference's law in the heap s is L -/
def mh_chr (i : Nat) : Int32 := ([104, 107, 116, 118, 99, 119, 120, 121, 110, 100, 105, 106, 108] : List Int32).getD i 0
def mh_eR (s : mh_H) (i : Nat) : Int32 := if i < 13 then f_eX10_valueOf s (mh_chr i) else 0
def mh_mst (letter : Int32) : Int32 := if letter.toInt = 121 then 999 else if letter.toInt = 102 then 1 else 99
def mh_LR (s : mh_H) (L : mh_Lw) : Prop := ∀ s' : mh_H, (∀ i, 64 ≤ i → i ≤ 69 → s'.1 i = s.1 i) → s'.1 57 10 = s.1 57 10 → ∀ letter : Int32, (f_eX10_tellsBy s' letter (mh_mst letter)).1 = L letter (mh_eR s')
theorem LR_mono {s s1 : mh_H} {L : mh_Lw} (h : mh_LR s L) (hr : ∀ i, 64 ≤ i → i ≤ 69 → s1.1 i = s.1 i) (h10 : s1.1 57 10 = s.1 57 10) : mh_LR s1 L :=
  fun s' g1 g2 letter => h s' (fun i a b => (g1 i a b).trans (hr i a b)) (g2.trans h10) letter
theorem vc_pI {k : Nat} {s : mh_H} {a j : Nat} {x : Int32} (h : k + 5 < a) : mh_vc k (mh_pI s a j x) = mh_vc k s := by
  refine vc_ext (fun r c h => vc_0 h) (fun r c hc hr => ?_) ?_ ?_
  · rw [vc_at hc hr, pI_o (by omega)]
  · rw [pI_o (by omega)]; rfl
  · rw [pI_o (by omega)]; rfl
theorem F_row1 {S : List (Nat × Nat)} {s s' : mh_H} (h : mh_F S s s') {k : Nat} (hk : ∀ e ∈ S, e.1 ≠ k) : s'.1 k = s.1 k := by
  funext j
  refine (h k j ?_).1
  rintro ⟨e, h1, h2, -⟩
  exact hk e h1 h2
theorem F_at1 {S : List (Nat × Nat)} {s s' : mh_H} (h : mh_F S s s') {k j : Nat} (hk : ∀ e ∈ S, ¬ (e.1 = k ∧ (e.2 = 9999 ∨ e.2 = j))) : s'.1 k j = s.1 k j := by
  refine (h k j ?_).1
  rintro ⟨e, h1, h2, h3⟩
  exact hk e h1 ⟨h2, h3⟩
theorem see_v {k kl : Nat} (hk : mh_kO k) (hl : 40 ≤ kl) {s : mh_H} {p : Int32} {c : Nat} (hp : p.toInt = (c : Int)) (hc : c < 144) (i : Nat) (hi : i < 13) : (f_eX1_see s k kl p).1 (kl + 6) i = if i = 8 ∧ (s.1 kl 10).toInt = 0 then 0 else mh_env (mh_vc k s) c 0 i := by
  have hk2 := hk.2
  have e0 : s.1 (k + 1) c = (mh_vc k s).1 0 c := (vc_at (r := 0) (vn_r hc (by decide)) (by decide)).symm
  have e1 : s.1 (k + 2) c = (mh_vc k s).1 1 c := (vc_at (r := 1) (vn_r hc (by decide)) (by decide)).symm
  have e2 : s.1 (k + 3) c = (mh_vc k s).1 2 c := (vc_at (r := 2) (vn_r hc (by decide)) (by decide)).symm
  have e3 : s.1 (k + 4) c = (mh_vc k s).1 3 c := (vc_at (r := 3) (vn_r hc (by decide)) (by decide)).symm
  have ew : ∀ s' : mh_H, mh_vc k s' = mh_vc k s → f_eX8_windOf s' k (s.1 k 5) = mh_wnd (mh_vc k s) := fun s' h => by
    rw [← h, ← wnd_c]
    congr 1
    exact (congrArg (fun q : mh_V => q.2.1) h).symm
  have et : ∀ s' : mh_H, mh_vc k s' = mh_vc k s → f_eX8_treesBeside s' k p = mh_tre (mh_vc k s) c := fun s' h => by rw [tre_c hp hc, h]
  have em : p % 12 = Int32.ofNat (c % 12) := i32_of (ix_mod hp) (by omega)
  have ed : p / 12 = Int32.ofNat (c / 12) := i32_of (ix_div hp) (by omega)
  have a1 : ∀ {s' : mh_H} {b j : Nat} {x : Int32}, k + 5 < b → mh_vc k (mh_pI s' b j x) = mh_vc k s' := fun h => vc_pI h
  unfold f_eX1_see
  simp only [mh_lbE, ix_n hp]
  simp only [pI_o (show k + 1 ≠ kl + 6 by omega), pI_o (show k + 2 ≠ kl + 6 by omega), pI_o (show k + 3 ≠ kl + 6 by omega), pI_o (show k + 4 ≠ kl + 6 by omega), pI_o (show k ≠ kl + 6 by omega), pI_o (show kl ≠ kl + 6 by omega)]
  rw [ew _ (by repeat rw [a1 (by omega)]), et _ (by repeat rw [a1 (by omega)])]
  rw [e0, e1, e2, e3, em, ed]
  have t : ∀ (n : Int32) (m : Nat), n.toInt = (m : Int) → n.toNatClampNeg = m := fun n m h => ix_n h
  rw [t 0 0 rfl, t 1 1 rfl, t 2 2 rfl, t 3 3 rfl, t 4 4 rfl, t 5 5 rfl, t 6 6 rfl, t 7 7 rfl]
  have fin : ∀ (q : mh_H) (y : Int32), (∀ i, i < 8 → q.1 (kl + 6) i = mh_env (mh_vc k s) c 0 i) → (j_eX1_see_116_1 q kl y).1 (kl + 6) i = if i = 8 then y else mh_env (mh_vc k s) c 0 i := by
    intro q y hq
    unfold j_eX1_see_116_1
    simp only [mh_lbE]
    rw [t 8 8 rfl, t 9 9 rfl, t 10 10 rfl, t 11 11 rfl, t 12 12 rfl]
    simp only [pI_v, true_and]
    rcases (show i < 8 ∨ i = 8 ∨ i = 9 ∨ i = 10 ∨ i = 11 ∨ i = 12 by omega) with h | rfl | rfl | rfl | rfl | rfl
    · rw [if_neg (by omega), if_neg (by omega), if_neg (by omega), if_neg (by omega), if_neg (by omega), if_neg (by omega)]
      exact hq i h
    · simp
    · simp [mh_env]
    · simp [mh_env]
    · simp [mh_env]
    · simp [mh_env]
  have h8 : ∀ j, j < 8 → (mh_pI (mh_pI (mh_pI (mh_pI (mh_pI (mh_pI (mh_pI (mh_pI s (kl + 6) 0 ((mh_vc k s).1 0 c)) (kl + 6) 1 ((mh_vc k s).1 1 c)) (kl + 6) 2 (s.1 k 5)) (kl + 6) 3 (mh_wnd (mh_vc k s))) (kl + 6) 4 ((mh_vc k s).1 2 c)) (kl + 6) 5 ((mh_vc k s).1 3 c)) (kl + 6) 6 (Int32.ofNat (c % 12))) (kl + 6) 7 (Int32.ofNat (c / 12))).1 (kl + 6) j = mh_env (mh_vc k s) c 0 j := by
    intro j hj
    simp only [pI_v, true_and]
    rcases (show j = 0 ∨ j = 1 ∨ j = 2 ∨ j = 3 ∨ j = 4 ∨ j = 5 ∨ j = 6 ∨ j = 7 by omega) with rfl | rfl | rfl | rfl | rfl | rfl | rfl | rfl <;> simp [mh_env] <;> rfl
  by_cases q : (s.1 kl 10).toInt = 0
  · rw [if_pos q, fin _ 0 h8]
    simp only [q, and_true]
  · rw [if_neg q, fin _ _ h8, if_neg (show ¬ (i = 8 ∧ (s.1 kl 10).toInt = 0) from fun z => q z.2)]
    by_cases q8 : i = 8
    · subst q8; simp [mh_env]
    · rw [if_neg q8]
/-- what a law says at a cell, by the class -/
theorem see_L {k kl : Nat} (hk : mh_kO k) (hl : 40 ≤ kl) {s s' : mh_H} {L : mh_Lw} (hL : mh_LC kl s L) {p : Int32} {c : Nat} (hp : p.toInt = (c : Int)) (hc : c < 144) (hr : ∀ i, 1 ≤ i → i ≤ 5 → s'.1 (kl + i) = s.1 (kl + i)) (h7 : s'.1 kl 7 = s.1 kl 7) (h6 : s'.1 (kl + 6) = (f_eX1_see s k kl p).1 (kl + 6)) (letter : Int32) : (f_eX1_worth s' kl letter).1 = L letter (mh_env (mh_vc k s) c 0) := by
  rw [hL.1 s' hr h7 letter, h6]
  by_cases q : (s.1 kl 10).toInt = 0
  · have e : mh_e13 ((f_eX1_see s k kl p).1 (kl + 6)) = mh_u1 (mh_env (mh_vc k s) c 0) 8 0 := by
      funext i
      unfold mh_e13 mh_u1
      by_cases h : i < 13
      · rw [if_pos h, see_v hk hl hp hc i h]
        simp only [q, and_true]
      · rw [if_neg h, if_neg (by omega), ← env_13]
        unfold mh_e13
        rw [if_neg h]
    rw [e, hL.2.2 q]
  · have e : mh_e13 ((f_eX1_see s k kl p).1 (kl + 6)) = mh_env (mh_vc k s) c 0 := by
      rw [← env_13]
      funext i
      unfold mh_e13
      by_cases h : i < 13
      · rw [if_pos h, if_pos h, see_v hk hl hp hc i h, if_neg (fun z => q z.2)]
      · rw [if_neg h, if_neg h]
    rw [e]

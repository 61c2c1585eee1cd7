/-- a change of the valley on the class's side, and on the reference's -/
def mh_okV (S : List (Nat × Nat)) : Bool := S.all (fun e => !(e.1 == 0) && !(decide (7 ≤ e.1) && decide (e.1 ≤ 12)) && !(e.1 == 37 && (e.2 == 1 || e.2 == 9999)) && !(e.1 == 38))
def mh_okW (S : List (Nat × Nat)) : Bool := S.all (fun e => !(decide (83 ≤ e.1) && decide (e.1 ≤ 88)) && !(e.1 == 102) && !(e.1 == 58) && !(e.1 == 57 && (e.2 == 1 || e.2 == 64 || e.2 == 65 || e.2 == 9999)))
theorem CA_v {S : List (Nat × Nat)} {kl : Nat} {L L' : mh_Lw} {v v' : mh_V} {ch ch' fl : Int32} {w : mh_V} {cw : Int32} {m : Nat} {r : Nat → Int32} {s s' : mh_H} (h : mh_CA kl L v ch fl w cw m r s) (hn : mh_cN 1 kl L' v' s') (hch : s'.1 1 7 = ch') (hF : mh_F S s s') (hS : mh_okV S = true) : mh_CA kl L' v' ch' fl w cw m r s' := by
  have h0 := List.all_eq_true.mp hS
  have g0 : ∀ e ∈ S, e.1 ≠ 0 ∧ (e.1 < 7 ∨ 12 < e.1) := fun e he => by have := h0 e he; simp at this; omega
  have g37 : ∀ e ∈ S, ¬ (e.1 = 37 ∧ (e.2 = 9999 ∨ e.2 = 1)) := fun e he q => by
    have h3 := h0 e he
    rcases q.2 with g | g <;> simp [q.1, g] at h3
  have g38 : ∀ e ∈ S, e.1 ≠ 38 := fun e he q => by have h3 := h0 e he; simp [q] at h3
  obtain ⟨c1, c2, c3, c4, c5, c6⟩ := h
  refine ⟨hn, ?_, hch, ?_, fun q => ⟨?_, ?_⟩, cT_c c6 (F_at1 hF g37) (F_row1 hF g38)⟩
  · rw [(hF 0 12 (fun ⟨e, e1, e2, _⟩ => (g0 e e1).1 e2)).2.2]; exact c2
  · rw [F_row1 hF (k := 0) (fun e he => (g0 e he).1)]; exact c4
  · rw [vc_F hF (fun e he => (g0 e he).2)]; exact (c5 q).1
  · rw [F_row1 hF (k := 7) (fun e he => by have := (g0 e he).2; omega)]; exact (c5 q).2
theorem RA_v {S : List (Nat × Nat)} {L L' : mh_Lw} {v v' : mh_V} {ch ch' fl : Int32} {w : mh_V} {cw : Int32} {m : Nat} {r : Nat → Int32} {s s' : mh_H} (h : mh_RA L v ch fl w cw m r s) (hn : mh_rN L' v' s') (hch : s'.1 57 3 = ch') (hF : mh_F S s s') (hS : mh_okW S = true) : mh_RA L' v' ch' fl w cw m r s' := by
  have h0 := List.all_eq_true.mp hS
  obtain ⟨c1, c2, c3, c4, c5⟩ := h
  have at' : ∀ j, (j = 1 ∨ j = 64 ∨ j = 65) → s'.1 57 j = s.1 57 j := fun j hj => F_at1 hF (fun e he q => by
    have h3 := h0 e he
    rcases q.2 with g | g
    · simp [q.1, g] at h3
    · rcases hj with rfl | rfl | rfl <;> simp [q.1, g] at h3)
  have ek : mh_kv s' = mh_kv s := kv_F hF (fun e he => by
    have t1 := h0 e he
    simp at t1
    omega)
  refine ⟨hn, hch, by rw [at' 64 (by decide)]; exact c3, fun q => ⟨by rw [ek]; exact (c4 q).1, by rw [at' 65 (by decide)]; exact (c4 q).2⟩, rT_c c5 (at' 1 (by decide)) (F_row1 hF (fun e he q => ?_))⟩
  have h3 := h0 e he
  simp [q] at h3
def mh_u2 (v : mh_V) (q c : Nat) (a b : Int32) : mh_V := (fun r i => if i = c ∧ r = q then a else if i = c ∧ r = q + 1 then b else v.1 r i, v.2)
theorem vc_u2 {s : mh_H} {q c : Nat} {a b : Int32} (hq : q ≤ 2) (hc : c < 144) : mh_vc 1 (mh_pI (mh_pI s (q + 2) c a) (q + 3) c b) = mh_u2 (mh_vc 1 s) q c a b := by
  refine vc_ext (fun r i h => ?_) (fun r i hi hr => ?_) ?_ ?_
  · show (if i = c ∧ r = q then a else if i = c ∧ r = q + 1 then b else (mh_vc 1 s).1 r i) = 0
    rw [if_neg (fun z => h ⟨by rw [z.1, z.2]; exact vn_r hc (by omega), by omega⟩), if_neg (fun z => h ⟨by rw [z.1, z.2]; exact vn_r hc (by omega), by omega⟩)]
    exact vc_0 h
  · show (mh_pI (mh_pI s (q + 2) c a) (q + 3) c b).1 (1 + 1 + r) i = if i = c ∧ r = q then a else if i = c ∧ r = q + 1 then b else (mh_vc 1 s).1 r i
    by_cases g1 : i = c ∧ r = q
    · rw [if_pos g1, pI_o (by omega), pI_v, if_pos (by omega)]
    · rw [if_neg g1]
      by_cases g2 : i = c ∧ r = q + 1
      · rw [if_pos g2, pI_v, if_pos (by omega)]
      · rw [if_neg g2, pI_v, if_neg (by omega), pI_v, if_neg (by omega), vc_at hi hr]
  · rw [pI_o (by omega), pI_o (by omega)]; rfl
  · rw [pI_o (by omega), pI_o (by omega)]; rfl
theorem vr_u2 {s : mh_H} {q c : Nat} {a b : Int32} (hq : q ≤ 2) (hc : c < 144) : mh_vr (mh_pI (mh_pI s (q + 59) c a) (q + 60) c b) = mh_u2 (mh_vr s) q c a b := by
  refine vr_ext (fun r i h => ?_) (fun r i hi hr => ?_) ?_ ?_
  · show (if i = c ∧ r = q then a else if i = c ∧ r = q + 1 then b else (mh_vr s).1 r i) = 0
    rw [if_neg (fun z => h ⟨by rw [z.1, z.2]; exact vn_r hc (by omega), by omega⟩), if_neg (fun z => h ⟨by rw [z.1, z.2]; exact vn_r hc (by omega), by omega⟩)]
    exact vr_0 h
  · show (mh_pI (mh_pI s (q + 59) c a) (q + 60) c b).1 (59 + r) i = if i = c ∧ r = q then a else if i = c ∧ r = q + 1 then b else (mh_vr s).1 r i
    by_cases g1 : i = c ∧ r = q
    · rw [if_pos g1, pI_o (by omega), pI_v, if_pos (by omega)]
    · rw [if_neg g1]
      by_cases g2 : i = c ∧ r = q + 1
      · rw [if_pos g2, pI_v, if_pos (by omega)]
      · rw [if_neg g2, pI_v, if_neg (by omega), pI_v, if_neg (by omega), vr_at hi hr]
  · rw [pI_o (by omega), pI_o (by omega)]; rfl
  · rfl
def mh_u4 (v : mh_V) (c : Nat) (a : Int32) : mh_V := (fun r i => if i = c ∧ r = 4 then a else v.1 r i, v.2)
theorem vc_u4 {s : mh_H} {c : Nat} {a : Int32} (hc : c < 100) : mh_vc 1 (mh_pI s 6 c a) = mh_u4 (mh_vc 1 s) c a := by
  refine vc_ext (fun r i h => ?_) (fun r i hi hr => ?_) ?_ ?_
  · show (if i = c ∧ r = 4 then a else (mh_vc 1 s).1 r i) = 0
    rw [if_neg (fun z => h ⟨by rw [z.1, z.2]; exact vn_4 hc, by omega⟩)]
    exact vc_0 h
  · show (mh_pI s 6 c a).1 (1 + 1 + r) i = if i = c ∧ r = 4 then a else (mh_vc 1 s).1 r i
    by_cases g1 : i = c ∧ r = 4
    · rw [if_pos g1, pI_v, if_pos (by omega)]
    · rw [if_neg g1, pI_v, if_neg (by omega), vc_at hi hr]
  · rw [pI_o (by omega)]; rfl
  · rw [pI_o (by omega)]; rfl
theorem vr_u4 {s : mh_H} {c : Nat} {a : Int32} (hc : c < 100) : mh_vr (mh_pI s 63 c a) = mh_u4 (mh_vr s) c a := by
  refine vr_ext (fun r i h => ?_) (fun r i hi hr => ?_) ?_ ?_
  · show (if i = c ∧ r = 4 then a else (mh_vr s).1 r i) = 0
    rw [if_neg (fun z => h ⟨by rw [z.1, z.2]; exact vn_4 hc, by omega⟩)]
    exact vr_0 h
  · show (mh_pI s 63 c a).1 (59 + r) i = if i = c ∧ r = 4 then a else (mh_vr s).1 r i
    by_cases g1 : i = c ∧ r = 4
    · rw [if_pos g1, pI_v, if_pos (by omega)]
    · rw [if_neg g1, pI_v, if_neg (by omega), vr_at hi hr]
  · rw [pI_o (by omega)]; rfl
  · rfl
theorem cN_v {S : List (Nat × Nat)} {kl : Nat} (hl : mh_isL kl) {L : mh_Lw} {v v' : mh_V} {s s' : mh_H} (h : mh_cN 1 kl L v s) (hv : mh_vc 1 s' = v') (hF : mh_F S s s') (hp : mh_p3 s') (hS : S.all (fun e => decide (1 ≤ e.1) && decide (e.1 ≤ 12)) = true) : mh_cN 1 kl L v' s' := by
  have h0 := List.all_eq_true.mp hS
  have g : ∀ e ∈ S, 1 ≤ e.1 ∧ e.1 ≤ 12 := fun e he => by have := h0 e he; simp at this; omega
  refine ⟨hv, ?_, LC_F h.2.2.1 hF (fun e he => by have := g e he; rcases hl with rfl | rfl <;> omega), hp⟩
  rw [(hF 0 11 (fun ⟨e, e1, e2, _⟩ => by have := g e e1; omega)).2.2]; exact h.2.1
theorem rN_v {S : List (Nat × Nat)} {L : mh_Lw} {v v' : mh_V} {s s' : mh_H} (h : mh_rN L v s) (hv : mh_vr s' = v') (h0 : 0 ≤ v'.2.1.toInt) (hF : mh_F S s s') (hp : mh_p3 s') (hS : S.all (fun e => decide (59 ≤ e.1) && decide (e.1 ≤ 63) || (e.1 == 57 && (e.2 == 2 || e.2 == 3 || e.2 == 4))) = true) : mh_rN L v' s' := by
  have h1 := List.all_eq_true.mp hS
  refine ⟨hv, LR_mono h.2.1 (fun i a b => F_row1 hF (fun e he q => ?_)) (F_at1 hF (fun e he q => ?_)), hp, h0⟩
  · have h3 := h1 e he
    simp at h3
    omega
  · have h3 := h1 e he
    rcases q.2 with g | g <;> simp [q.1, g] at h3
theorem ground_T {B D B' D' : Int} {σ s1 s2 : mh_H} (h : mh_RV σ) (hI0 : mh_I B D s1) (hI1 : mh_I B' D' s2) (F0 : mh_F S_eX9_ground σ s1) (F1 : mh_F S_eX10_ground s1 s2) {p1 p2 p3 p4 z0 z1 : Int32} (E0 : f_eX9_ground σ p1 p2 p3 p4 = (z0, s1)) (E1 : f_eX10_ground s1 p1 p2 p3 p4 = (z1, s2)) : z0 = z1 ∧ mh_RV s2 := by
  have hs1 := mh_I_p3 hI0
  have hs2 := mh_I_p3 hI1
  have hR := h
  obtain ⟨kl, Ls, v, ch, fl, w, cw, m, r, a1, a2, a3, a4, a5, a6⟩ := h
  unfold f_eX9_ground at E0
  unfold f_eX10_ground at E1
  simp only [mh_lbE, ce_at] at E0 E1
  have ka : (99 : Int32).toInt = 99 := rfl
  have kb : (4 : Int32).toInt = 4 := rfl
  have w3 := fq_within σ p3 99
  have w4 := fq_within σ p4 4
  have l3 := fq_lies s1 (Int32.toInt64 p3) 0 99
  have l4 := fq_lies s1 (Int32.toInt64 p4) 0 4
  rw [Int32.toInt_toInt64, show (0 : Int64).toInt = 0 from rfl, show (99 : Int64).toInt = 99 from rfl] at l3
  rw [Int32.toInt_toInt64, show (0 : Int64).toInt = 0 from rfl, show (4 : Int64).toInt = 4 from rfl] at l4
  have no : z0 = 0 → s1 = σ → z1 = 0 → s2 = s1 → z0 = z1 ∧ mh_RV s2 := fun a b c d => ⟨a.trans c.symm, by rw [d, b]; exact hR⟩
  by_cases c1 : (0 ≤ p1.toInt ∧ p1.toInt ≤ 11) ∧ (0 ≤ p2.toInt ∧ p2.toInt ≤ 11)
  · rw [if_neg (fun g => (fq_pl9 σ p1 p2).1 g c1)] at E0
    rw [if_neg (fun g => (fq_ce10 s1 p1 p2).1 g c1)] at E1
    by_cases c3 : 0 ≤ p3.toInt ∧ p3.toInt ≤ 99
    · rw [if_neg (fun g => w3.1 g (by omega))] at E0
      rw [if_neg (fun g => l3.1 g c3)] at E1
      by_cases c4 : 0 ≤ p4.toInt ∧ p4.toInt ≤ 4
      · rw [if_neg (fun g => w4.1 g (by omega))] at E0
        rw [if_neg (fun g => l4.1 g c4)] at E1
        obtain ⟨c, hc, hx⟩ := ce_ix c1.1 c1.2
        rw [ix_n hx] at E0 E1
        obtain ⟨d1, d2⟩ := Prod.mk.inj E0
        obtain ⟨e1, e2⟩ := Prod.mk.inj E1
        refine ⟨d1.symm.trans e1, kl, Ls, mh_u2 v 0 c p3 p4, ch, fl, w, cw, m, r, a1, ?_, a3, a4, ?_, ?_⟩
        · intro i hi
          obtain ⟨g0, g1, g2, g3⟩ := a2 i hi
          have t0 : (mh_u2 v 0 c p3 p4).1 0 i = if i = c ∧ 0 = 0 then p3 else if i = c ∧ 0 = 0 + 1 then p4 else v.1 0 i := rfl
          have t1 : (mh_u2 v 0 c p3 p4).1 1 i = if i = c ∧ 1 = 0 then p3 else if i = c ∧ 1 = 0 + 1 then p4 else v.1 1 i := rfl
          have t2 : (mh_u2 v 0 c p3 p4).1 2 i = if i = c ∧ 2 = 0 then p3 else if i = c ∧ 2 = 0 + 1 then p4 else v.1 2 i := rfl
          have t3 : (mh_u2 v 0 c p3 p4).1 3 i = if i = c ∧ 3 = 0 then p3 else if i = c ∧ 3 = 0 + 1 then p4 else v.1 3 i := rfl
          rw [t0, t1, t2, t3]
          by_cases gi : i = c
          · rw [if_pos (show i = c ∧ 0 = 0 from ⟨gi, rfl⟩), if_neg (show ¬ (i = c ∧ 1 = 0) by omega), if_pos (show i = c ∧ 1 = 0 + 1 from ⟨gi, rfl⟩), if_neg (show ¬ (i = c ∧ 2 = 0) by omega), if_neg (show ¬ (i = c ∧ 2 = 0 + 1) by omega), if_neg (show ¬ (i = c ∧ 3 = 0) by omega), if_neg (show ¬ (i = c ∧ 3 = 0 + 1) by omega)]
            exact ⟨c3, c4, g2, g3⟩
          · rw [if_neg (show ¬ (i = c ∧ 0 = 0) from fun z => gi z.1), if_neg (show ¬ (i = c ∧ 0 = 0 + 1) from fun z => gi z.1), if_neg (show ¬ (i = c ∧ 1 = 0) from fun z => gi z.1), if_neg (show ¬ (i = c ∧ 1 = 0 + 1) from fun z => gi z.1), if_neg (show ¬ (i = c ∧ 2 = 0) from fun z => gi z.1), if_neg (show ¬ (i = c ∧ 2 = 0 + 1) from fun z => gi z.1), if_neg (show ¬ (i = c ∧ 3 = 0) from fun z => gi z.1), if_neg (show ¬ (i = c ∧ 3 = 0 + 1) from fun z => gi z.1)]
            exact ⟨g0, g1, g2, g3⟩
        · have hc1 : mh_CA kl (mh_lw Ls) (mh_u2 v 0 c p3 p4) ch fl w cw m r s1 := CA_v a5 (cN_v a1 a5.1 (by rw [← d2, ← a5.1.1]; exact vc_u2 (q := 0) (by decide) hc) F0 hs1 (by decide)) (by rw [F_at1 F0 (by decide)]; exact a5.2.2.1) F0 (by decide)
          exact CA_F a1 hc1 F1 hs2 (by decide)
        · have hr1 := RA_F a6 F0 hs1 (by decide)
          exact RA_v hr1 (rN_v hr1.1 (by rw [← e2, ← hr1.1.1]; exact vr_u2 (q := 0) (by decide) hc) hr1.1.2.2.2 F1 hs2 (by decide)) (by rw [F_at1 F1 (by decide)]; exact hr1.2.1) F1 (by decide)
      · rw [if_pos (w4.2 (by omega))] at E0
        rw [if_pos (l4.2 c4)] at E1
        exact no (Prod.mk.inj E0).1.symm (Prod.mk.inj E0).2.symm (Prod.mk.inj E1).1.symm (Prod.mk.inj E1).2.symm
    · rw [if_pos (w3.2 (by omega))] at E0
      rw [if_pos (l3.2 c3)] at E1
      exact no (Prod.mk.inj E0).1.symm (Prod.mk.inj E0).2.symm (Prod.mk.inj E1).1.symm (Prod.mk.inj E1).2.symm
  · rw [if_pos ((fq_pl9 σ p1 p2).2 c1)] at E0
    rw [if_pos ((fq_ce10 s1 p1 p2).2 c1)] at E1
    exact no (Prod.mk.inj E0).1.symm (Prod.mk.inj E0).2.symm (Prod.mk.inj E1).1.symm (Prod.mk.inj E1).2.symm
theorem air_T {B D B' D' : Int} {σ s1 s2 : mh_H} (h : mh_RV σ) (hI0 : mh_I B D s1) (hI1 : mh_I B' D' s2) (F0 : mh_F S_eX9_air σ s1) (F1 : mh_F S_eX10_air s1 s2) {p1 p2 p3 p4 z0 z1 : Int32} (E0 : f_eX9_air σ p1 p2 p3 p4 = (z0, s1)) (E1 : f_eX10_air s1 p1 p2 p3 p4 = (z1, s2)) : z0 = z1 ∧ mh_RV s2 := by
  have hs1 := mh_I_p3 hI0
  have hs2 := mh_I_p3 hI1
  have hR := h
  obtain ⟨kl, Ls, v, ch, fl, w, cw, m, r, a1, a2, a3, a4, a5, a6⟩ := h
  unfold f_eX9_air at E0
  unfold f_eX10_air at E1
  simp only [mh_lbE, ce_at] at E0 E1
  have ka : (9999 : Int32).toInt = 9999 := rfl
  have kb : (9999 : Int32).toInt = 9999 := rfl
  have w3 := fq_within σ p3 9999
  have w4 := fq_within σ p4 9999
  have l3 := fq_lies s1 (Int32.toInt64 p3) 0 9999
  have l4 := fq_lies s1 (Int32.toInt64 p4) 0 9999
  rw [Int32.toInt_toInt64, show (0 : Int64).toInt = 0 from rfl, show (9999 : Int64).toInt = 9999 from rfl] at l3
  rw [Int32.toInt_toInt64, show (0 : Int64).toInt = 0 from rfl, show (9999 : Int64).toInt = 9999 from rfl] at l4
  have no : z0 = 0 → s1 = σ → z1 = 0 → s2 = s1 → z0 = z1 ∧ mh_RV s2 := fun a b c d => ⟨a.trans c.symm, by rw [d, b]; exact hR⟩
  by_cases c1 : (0 ≤ p1.toInt ∧ p1.toInt ≤ 11) ∧ (0 ≤ p2.toInt ∧ p2.toInt ≤ 11)
  · rw [if_neg (fun g => (fq_pl9 σ p1 p2).1 g c1)] at E0
    rw [if_neg (fun g => (fq_ce10 s1 p1 p2).1 g c1)] at E1
    by_cases c3 : 0 ≤ p3.toInt ∧ p3.toInt ≤ 9999
    · rw [if_neg (fun g => w3.1 g (by omega))] at E0
      rw [if_neg (fun g => l3.1 g c3)] at E1
      by_cases c4 : 0 ≤ p4.toInt ∧ p4.toInt ≤ 9999
      · rw [if_neg (fun g => w4.1 g (by omega))] at E0
        rw [if_neg (fun g => l4.1 g c4)] at E1
        obtain ⟨c, hc, hx⟩ := ce_ix c1.1 c1.2
        rw [ix_n hx] at E0 E1
        obtain ⟨d1, d2⟩ := Prod.mk.inj E0
        obtain ⟨e1, e2⟩ := Prod.mk.inj E1
        refine ⟨d1.symm.trans e1, kl, Ls, mh_u2 v 2 c p3 p4, ch, fl, w, cw, m, r, a1, ?_, a3, a4, ?_, ?_⟩
        · intro i hi
          obtain ⟨g0, g1, g2, g3⟩ := a2 i hi
          have t0 : (mh_u2 v 2 c p3 p4).1 0 i = if i = c ∧ 0 = 2 then p3 else if i = c ∧ 0 = 2 + 1 then p4 else v.1 0 i := rfl
          have t1 : (mh_u2 v 2 c p3 p4).1 1 i = if i = c ∧ 1 = 2 then p3 else if i = c ∧ 1 = 2 + 1 then p4 else v.1 1 i := rfl
          have t2 : (mh_u2 v 2 c p3 p4).1 2 i = if i = c ∧ 2 = 2 then p3 else if i = c ∧ 2 = 2 + 1 then p4 else v.1 2 i := rfl
          have t3 : (mh_u2 v 2 c p3 p4).1 3 i = if i = c ∧ 3 = 2 then p3 else if i = c ∧ 3 = 2 + 1 then p4 else v.1 3 i := rfl
          rw [t0, t1, t2, t3]
          by_cases gi : i = c
          · rw [if_neg (show ¬ (i = c ∧ 0 = 2) by omega), if_neg (show ¬ (i = c ∧ 0 = 2 + 1) by omega), if_neg (show ¬ (i = c ∧ 1 = 2) by omega), if_neg (show ¬ (i = c ∧ 1 = 2 + 1) by omega), if_pos (show i = c ∧ 2 = 2 from ⟨gi, rfl⟩), if_neg (show ¬ (i = c ∧ 3 = 2) by omega), if_pos (show i = c ∧ 3 = 2 + 1 from ⟨gi, rfl⟩)]
            exact ⟨g0, g1, c3, c4⟩
          · rw [if_neg (show ¬ (i = c ∧ 0 = 2) from fun z => gi z.1), if_neg (show ¬ (i = c ∧ 0 = 2 + 1) from fun z => gi z.1), if_neg (show ¬ (i = c ∧ 1 = 2) from fun z => gi z.1), if_neg (show ¬ (i = c ∧ 1 = 2 + 1) from fun z => gi z.1), if_neg (show ¬ (i = c ∧ 2 = 2) from fun z => gi z.1), if_neg (show ¬ (i = c ∧ 2 = 2 + 1) from fun z => gi z.1), if_neg (show ¬ (i = c ∧ 3 = 2) from fun z => gi z.1), if_neg (show ¬ (i = c ∧ 3 = 2 + 1) from fun z => gi z.1)]
            exact ⟨g0, g1, g2, g3⟩
        · have hc1 : mh_CA kl (mh_lw Ls) (mh_u2 v 2 c p3 p4) ch fl w cw m r s1 := CA_v a5 (cN_v a1 a5.1 (by rw [← d2, ← a5.1.1]; exact vc_u2 (q := 2) (by decide) hc) F0 hs1 (by decide)) (by rw [F_at1 F0 (by decide)]; exact a5.2.2.1) F0 (by decide)
          exact CA_F a1 hc1 F1 hs2 (by decide)
        · have hr1 := RA_F a6 F0 hs1 (by decide)
          exact RA_v hr1 (rN_v hr1.1 (by rw [← e2, ← hr1.1.1]; exact vr_u2 (q := 2) (by decide) hc) hr1.1.2.2.2 F1 hs2 (by decide)) (by rw [F_at1 F1 (by decide)]; exact hr1.2.1) F1 (by decide)
      · rw [if_pos (w4.2 (by omega))] at E0
        rw [if_pos (l4.2 c4)] at E1
        exact no (Prod.mk.inj E0).1.symm (Prod.mk.inj E0).2.symm (Prod.mk.inj E1).1.symm (Prod.mk.inj E1).2.symm
    · rw [if_pos (w3.2 (by omega))] at E0
      rw [if_pos (l3.2 c3)] at E1
      exact no (Prod.mk.inj E0).1.symm (Prod.mk.inj E0).2.symm (Prod.mk.inj E1).1.symm (Prod.mk.inj E1).2.symm
  · rw [if_pos ((fq_pl9 σ p1 p2).2 c1)] at E0
    rw [if_pos ((fq_ce10 s1 p1 p2).2 c1)] at E1
    exact no (Prod.mk.inj E0).1.symm (Prod.mk.inj E0).2.symm (Prod.mk.inj E1).1.symm (Prod.mk.inj E1).2.symm
theorem wind_T {B D B' D' : Int} {σ s1 s2 : mh_H} (h : mh_RV σ) (hI0 : mh_I B D s1) (hI1 : mh_I B' D' s2) (F0 : mh_F S_eX9_wind σ s1) (F1 : mh_F S_eX10_wind s1 s2) {p1 p2 z0 z1 : Int32} (E0 : f_eX9_wind σ p1 p2 = (z0, s1)) (E1 : f_eX10_wind s1 p1 p2 = (z1, s2)) : z0 = z1 ∧ mh_RV s2 := by
  have hs1 := mh_I_p3 hI0
  have hs2 := mh_I_p3 hI1
  have hR := h
  obtain ⟨kl, Ls, v, ch, fl, w, cw, m, r, a1, a2, a3, a4, a5, a6⟩ := h
  unfold f_eX9_wind at E0
  unfold f_eX10_wind at E1
  simp only [mh_lbE] at E0 E1
  have ka : (99 : Int32).toInt = 99 := rfl
  have kb : (9 : Int32).toInt = 9 := rfl
  have w3 := fq_within σ p1 99
  have w4 := fq_within σ p2 9
  have l3 := fq_lies s1 (Int32.toInt64 p1) 0 99
  have l4 := fq_lies s1 (Int32.toInt64 p2) 0 9
  rw [Int32.toInt_toInt64, show (0 : Int64).toInt = 0 from rfl, show (99 : Int64).toInt = 99 from rfl] at l3
  rw [Int32.toInt_toInt64, show (0 : Int64).toInt = 0 from rfl, show (9 : Int64).toInt = 9 from rfl] at l4
  have no : z0 = 0 → s1 = σ → z1 = 0 → s2 = s1 → z0 = z1 ∧ mh_RV s2 := fun a b c d => ⟨a.trans c.symm, by rw [d, b]; exact hR⟩
  by_cases c3 : 0 ≤ p1.toInt ∧ p1.toInt ≤ 99
  · rw [if_neg (fun g => w3.1 g (by omega))] at E0
    rw [if_neg (fun g => l3.1 g c3)] at E1
    by_cases c4 : 0 ≤ p2.toInt ∧ p2.toInt ≤ 9
    · rw [if_neg (fun g => w4.1 g (by omega))] at E0
      rw [if_neg (fun g => l4.1 g c4)] at E1
      obtain ⟨c, hx⟩ : ∃ c : Nat, p1.toInt = (c : Int) := ⟨p1.toInt.toNat, by omega⟩
      have hc : c < 100 := by omega
      rw [ix_n hx] at E0 E1
      obtain ⟨d1, d2⟩ := Prod.mk.inj E0
      obtain ⟨e1, e2⟩ := Prod.mk.inj E1
      refine ⟨d1.symm.trans e1, kl, Ls, mh_u4 v c p2, ch, fl, w, cw, m, r, a1, ?_, a3, a4, ?_, ?_⟩
      · intro i hi
        have t : ∀ q, q < 4 → (mh_u4 v c p2).1 q i = v.1 q i := fun q hq => if_neg (fun z => by omega)
        rw [t 0 (by decide), t 1 (by decide), t 2 (by decide), t 3 (by decide)]
        exact a2 i hi
      · have hc1 : mh_CA kl (mh_lw Ls) (mh_u4 v c p2) ch fl w cw m r s1 := CA_v a5 (cN_v a1 a5.1 (by rw [← d2, ← a5.1.1]; exact vc_u4 hc) F0 hs1 (by decide)) (by rw [F_at1 F0 (by decide)]; exact a5.2.2.1) F0 (by decide)
        exact CA_F a1 hc1 F1 hs2 (by decide)
      · have hr1 := RA_F a6 F0 hs1 (by decide)
        exact RA_v hr1 (rN_v hr1.1 (by rw [← e2, ← hr1.1.1]; exact vr_u4 hc) hr1.1.2.2.2 F1 hs2 (by decide)) (by rw [F_at1 F1 (by decide)]; exact hr1.2.1) F1 (by decide)
    · rw [if_pos (w4.2 (by omega))] at E0
      rw [if_pos (l4.2 c4)] at E1
      exact no (Prod.mk.inj E0).1.symm (Prod.mk.inj E0).2.symm (Prod.mk.inj E1).1.symm (Prod.mk.inj E1).2.symm
  · rw [if_pos (w3.2 (by omega))] at E0
    rw [if_pos (l3.2 c3)] at E1
    exact no (Prod.mk.inj E0).1.symm (Prod.mk.inj E0).2.symm (Prod.mk.inj E1).1.symm (Prod.mk.inj E1).2.symm
theorem seed_T {B D B' D' : Int} {σ s1 s2 : mh_H} (h : mh_RV σ) (hI0 : mh_I B D s1) (hI1 : mh_I B' D' s2) (F0 : mh_F S_eX9_seed σ s1) (F1 : mh_F S_eX10_seed s1 s2) {p1 z0 z1 : Int32} (E0 : f_eX9_seed σ p1 = (z0, s1)) (E1 : f_eX10_seed s1 p1 = (z1, s2)) : z0 = z1 ∧ mh_RV s2 := by
  have hs1 := mh_I_p3 hI0
  have hs2 := mh_I_p3 hI1
  have hR := h
  obtain ⟨kl, Ls, v, ch, fl, w, cw, m, r, a1, a2, a3, a4, a5, a6⟩ := h
  unfold f_eX9_seed at E0
  unfold f_eX10_seed at E1
  simp only [mh_lbE] at E0 E1
  have ka : (65535 : Int32).toInt = 65535 := rfl
  have w3 := fq_within σ p1 65535
  have l3 := fq_lies s1 (Int32.toInt64 p1) 0 65535
  rw [Int32.toInt_toInt64, show (0 : Int64).toInt = 0 from rfl, show (65535 : Int64).toInt = 65535 from rfl] at l3
  have no : z0 = 0 → s1 = σ → z1 = 0 → s2 = s1 → z0 = z1 ∧ mh_RV s2 := fun a b c d => ⟨a.trans c.symm, by rw [d, b]; exact hR⟩
  by_cases c3 : 0 ≤ p1.toInt ∧ p1.toInt ≤ 65535
  · rw [if_neg (fun g => w3.1 g (by omega))] at E0
    rw [if_neg (fun g => l3.1 g c3)] at E1
    obtain ⟨d1, d2⟩ := Prod.mk.inj E0
    obtain ⟨e1, e2⟩ := Prod.mk.inj E1
    have t1 : mh_vc 1 s1 = v := by
      rw [← d2, ← a5.1.1]
      refine vc_ext (fun r c h => vc_0 h) (fun r c hc hr => ?_) ?_ ?_
      · rw [vc_at hc hr, pI_o (by omega)]
      · rw [pI_j (by decide)]; rfl
      · rw [pI_j (by decide)]; rfl
    have hr1 : mh_RA (mh_lw Ls) v ch fl w cw m r s1 := RA_F a6 F0 hs1 (by decide)
    have t2 : mh_vr s2 = v := by
      rw [← e2, ← hr1.1.1]
      refine vr_ext (fun r c h => vr_0 h) (fun r c hc hr => ?_) ?_ ?_
      · rw [vr_at hc hr, pI_o (by omega)]
      · rw [pI_j (by decide)]; rfl
      · rfl
    refine ⟨d1.symm.trans e1, kl, Ls, v, p1, fl, w, cw, m, r, a1, a2, a3, a4, ?_, ?_⟩
    · have hc1 : mh_CA kl (mh_lw Ls) v p1 fl w cw m r s1 := CA_v a5 (cN_v a1 a5.1 t1 F0 hs1 (by decide)) (by rw [← d2, pI_w]) F0 (by decide)
      exact CA_F a1 hc1 F1 hs2 (by decide)
    · exact RA_v hr1 (rN_v hr1.1 t2 hr1.1.2.2.2 F1 hs2 (by decide)) (by rw [← e2, pI_w]) F1 (by decide)
  · rw [if_pos (w3.2 (by omega))] at E0
    rw [if_pos (l3.2 c3)] at E1
    exact no (Prod.mk.inj E0).1.symm (Prod.mk.inj E0).2.symm (Prod.mk.inj E1).1.symm (Prod.mk.inj E1).2.symm

theorem w112_h {p4 : Int32} {s : mh_H} : ∀ (n : Nat) (x a g l m : Int32), 0 ≤ x.toInt → x.toInt ≤ 144 → 144 < x.toInt + (n : Int) → (l_eX10_works_112_2 s p4 n x a g l m).2 = f_eX10_putsBack s 0 := by
  intro n
  induction n with
  | zero => intro x a g l m h0 h1 h2; exfalso; omega
  | succ n ih =>
    intro x a g l m h0 h1 h2
    have k144 : (144 : Int32).toInt = 144 := rfl
    rw [l_eX10_works_112_2_s]
    unfold ls_eX10_works_112_2 j_eX10_works_149_3 j_eX10_works_164_4 j_eX10_works_185_5
    by_cases hx : x.toInt < (144 : Int32).toInt
    · rw [if_pos hx]
      have hxn := nn_inc h0 (m := 144) (by omega) (by decide)
      have goal : ∀ a g l m, (l_eX10_works_112_2 s p4 n (x + 1) a g l m).2 = f_eX10_putsBack s 0 := fun a g l m => ih (x + 1) a g l m (by omega) (by omega) (by omega)
      simp only [mh_lbE]
      generalize f_eX10_putsBack s 0 = Q at goal ⊢
      generalize s.1 61 x.toNatClampNeg - s.1 89 x.toNatClampNeg = d
      by_cases c1 : 0 < d.toInt <;> by_cases c2 : d.toInt < 0 <;> by_cases c3 : a.toInt < d.toInt <;> simp only [c1, c2, c3, if_true, if_false] <;> exact goal _ _ _ _
    · rw [if_neg hx]
      simp only [mh_lbE]
      generalize f_eX10_putsBack s 0 = Q
      by_cases a0 : p4.toInt = 0
      · rw [if_pos a0]
      · rw [if_neg a0]
        by_cases a1 : p4.toInt = (1 : Int32).toInt
        · rw [if_pos a1]
        · rw [if_neg a1]
          by_cases a2 : p4.toInt = (2 : Int32).toInt
          · rw [if_pos a2]
          · rw [if_neg a2]
theorem works_eq {kl : Nat} (hl : mh_isL kl) {L : mh_Lw} {v : mh_V} {sc sr : mh_H} (hc : mh_cN 1 kl L v sc) (hr : mh_rN L v sr) (hg : mh_rg v) (hb : v.2.1.toInt ≤ 1000000000) (p1 p2 p3 p4 : Int32) : (f_eX9_works sc p1 p2 p3 p4).1 = (f_eX10_works sr p1 p2 p3 p4).1 ∧ mh_rN L v (f_eX10_works sr p1 p2 p3 p4).2 ∧ mh_sd 1 (f_eX10_works sr p1 p2 p3 p4).2 = mh_sd 1 sr := by
  have a0 : (0 : Int64).toInt = 0 := rfl
  have a3 : (3 : Int64).toInt = 3 := rfl
  have b3 : (3 : Int32).toInt = 3 := rfl
  have b2 : (2 : Int32).toInt = 2 := rfl
  unfold f_eX9_works f_eX10_works
  simp only [mh_lbE, fq_ni9, fq_ni10, fq_pl9, fq_ce10, fq_within, fq_lies, Int32.toInt_toInt64, a0, a3, b3, b2, ce_at]
  by_cases c1 : (0 ≤ p1.toInt ∧ p1.toInt ≤ 11) ∧ (0 ≤ p2.toInt ∧ p2.toInt ≤ 11)
  · rw [if_neg (not_not_intro c1), if_neg (not_not_intro c1)]
    obtain ⟨c, hc1, hc2⟩ := ce_ix c1.1 c1.2
    by_cases c2 : 1 ≤ p3.toInt ∧ p3.toInt ≤ 60
    · rw [if_neg (not_not_intro c2), if_neg (not_not_intro c2)]
      by_cases c3 : 0 ≤ p4.toInt ∧ p4.toInt ≤ 3
      · rw [if_neg (not_not_intro c3), if_neg (not_not_intro c3), ix_n hc2]
        have e1 : sc.1 3 c = v.1 1 c := by rw [← hc.1]; exact (vc_at (k := 1) (r := 1) (vn_r hc1 (by decide)) (by decide)).symm
        have e2 : sr.1 60 c = v.1 1 c := by rw [← hr.1]; exact (vr_at (r := 1) (vn_r hc1 (by decide)) (by decide)).symm
        rw [e1, e2]
        by_cases c4 : (v.1 1 c).toInt = 2
        · rw [if_pos c4, if_pos c4]; exact ⟨rfl, hr, rfl⟩
        · rw [if_neg c4, if_neg c4]
          obtain ⟨n, hn⟩ : ∃ n : Nat, p3.toInt = (n : Int) := ⟨p3.toInt.toNat, by omega⟩
          -- the class
          have hm1 : mh_oc1 (-1) none := rfl
          obtain ⟨x1, x2⟩ := pt_c hl hc hg hn (by omega) hm1
          have t1 : (144 : Int32).toNatClampNeg = 144 := rfl
          rw [t1]
          generalize f_eX9_passTrial sc p3 (-1) = s51 at x1 x2 ⊢
          have y39 : ∀ i, i < 144 → (mh_pA s51 39 (fun j => if j < 144 then s51.1 16 j else s51.1 39 j)).1 39 i = (mh_stN L v n).1 2 i := fun i hi => by
            rw [pA_w, if_pos hi]
            have := vc_at (k := 13) (r := 2) (c := i) (s := s51) (vn_r hi (by decide)) (by decide)
            rw [x1.1] at this
            exact this.symm
          have x3 : mh_cN 1 kl L v (mh_pA s51 39 (fun j => if j < 144 then s51.1 16 j else s51.1 39 j)) := by
            refine cN_F (S := [(39, 9999)]) x2 (mh_F_pA mh_F_rf (by simp)) x2.2.2.2 (by simp) ?_ (by simp)
            have := L40 hl
            simp; omega
          generalize mh_pA s51 39 (fun j => if j < 144 then s51.1 16 j else s51.1 39 j) = s53 at x3 y39 ⊢
          obtain ⟨x4, x5⟩ := pt_c hl x3 hg hn (by omega) (o := some c) (p2 := (12 : Int32) * p2 + p1) ⟨hc2, hc1⟩
          have z39 : ∀ i, i < 144 → (f_eX9_passTrial s53 p3 ((12 : Int32) * p2 + p1)).1 39 i = (mh_stN L v n).1 2 i := fun i hi => by
            rw [F_row1 (fr_eX9_passTrial s53 p3 ((12 : Int32) * p2 + p1) x3.2.2.2).1 (by decide)]
            exact y39 i hi
          generalize f_eX9_passTrial s53 p3 ((12 : Int32) * p2 + p1) = s56 at x4 z39 ⊢
          have z16 : ∀ i, i < 144 → s56.1 16 i = (mh_stN L (mh_trV v c) n).1 2 i := fun i hi => by
            have := vc_at (k := 13) (r := 2) (c := i) (s := s56) (vn_r hi (by decide)) (by decide)
            rw [x4.1] at this
            exact this.symm
          -- the reference
          obtain ⟨w1, w2, w3⟩ := ln_r hr hg hb hn (by omega) hm1
          generalize f_eX10_laysNight sr (-1) p3 = q0 at w1 w2 w3 ⊢
          refine mh_for (l_eX10_works_53_1 p1 p2 p3 p4) 144 (fun q m => mh_rN L (mh_stN L v n) q ∧ mh_sd 0 q = v ∧ mh_sd 1 q = mh_sd 1 sr ∧ ∀ i, i < m → q.1 89 i = (mh_stN L v n).1 2 i) (fun r => (f_eX9_tellWorks s56 p4) = r.1 ∧ mh_rN L v r.2 ∧ mh_sd 1 r.2 = mh_sd 1 sr) (by decide) ?_ ?_ 145 q0 0 0 rfl (by decide) ⟨w1, w2, w3, fun i hi => absurd hi (Nat.not_lt_zero i)⟩ (by decide)
          · intro k q x m hx hm ⟨i1, i2, i3, i4⟩
            have k144 : (144 : Int32).toInt = 144 := rfl
            rw [l_eX10_works_53_1_s]
            unfold ls_eX10_works_53_1
            rw [if_pos (by omega)]
            simp only [mh_lbE, ix_n hx]
            have e61 : q.1 61 m = (mh_stN L v n).1 2 m := by
              have := vr_at (r := 2) (c := m) (s := q) (vn_r hm (by decide)) (by decide)
              rw [i1.1] at this
              exact this.symm
            rw [e61]
            have hF : mh_F [(89, 9999)] q (mh_pI q 89 m ((mh_stN L v n).1 2 m)) := mh_F_pI mh_F_rf ⟨(89, 9999), by simp, rfl, Or.inl rfl⟩
            refine ⟨_, ⟨⟨(vr_fr hF (by decide)).trans i1.1, LR_mono i1.2.1 (fun i a b => F_row1 hF (by simp; omega)) (F_at1 hF (by simp)), p3_pI i1.2.2.1, i1.2.2.2⟩, ?_, ?_, ?_⟩, rfl⟩
            · rw [sd_F hF (by simp)]; exact i2
            · rw [sd_F hF (by simp)]; exact i3
            · intro i hi
              by_cases y : i = m
              · subst y; rw [pI_w]
              · rw [pI_j y]; exact i4 i (by omega)
          · intro k q x hx ⟨i1, i2, i3, i4⟩
            have k144 : (144 : Int32).toInt = 144 := rfl
            rw [l_eX10_works_53_1_s]
            unfold ls_eX10_works_53_1
            rw [if_neg (by omega)]
            simp only [mh_lbE, ce_at]
            have r1 := rN_pb i1 i2 hr.2.2.2
            have r2 : mh_sd 1 (f_eX10_putsBack q 0) = mh_sd 1 sr := by rw [sd_pb 1 i1.2.2.1]; exact i3
            have r3 : ∀ i, i < 144 → (f_eX10_putsBack q 0).1 89 i = (mh_stN L v n).1 2 i := fun i hi => by
              rw [F_row1 (fr_eX10_putsBack q 0 i1.2.2.1).1 (by decide)]
              exact i4 i hi
            generalize f_eX10_putsBack q 0 = q1 at r1 r2 r3 ⊢
            obtain ⟨u1, u2, u3⟩ := ln_r r1 hg hb hn (by omega) (o := some c) (p1 := (12 : Int32) * p2 + p1) ⟨hc2, hc1⟩
            have u4 : ∀ i, i < 144 → (f_eX10_laysNight q1 ((12 : Int32) * p2 + p1) p3).1 89 i = (mh_stN L v n).1 2 i := fun i hi => by
              rw [F_row1 (fr_eX10_laysNight q1 ((12 : Int32) * p2 + p1) p3 r1.2.2.1).1 (by decide)]
              exact r3 i hi
            generalize f_eX10_laysNight q1 ((12 : Int32) * p2 + p1) p3 = q2 at u1 u2 u3 u4 ⊢
            have u5 : ∀ i, i < 144 → q2.1 61 i = (mh_stN L (mh_trV v c) n).1 2 i := fun i hi => by
              have := vr_at (r := 2) (c := i) (s := q2) (vn_r hi (by decide)) (by decide)
              rw [u1.1] at this
              exact this.symm
            refine ⟨?_, ?_⟩
            · exact tw_lp (fun i hi => (z16 i hi).trans (u5 i hi).symm) (fun i hi => (z39 i hi).trans (u4 i hi).symm) 145 0 0 (-2) 0 0 (by decide) (by decide)
            · rw [w112_h 145 0 0 (-2) 0 0 (by decide) (by decide) (by decide)]
              exact ⟨rN_pb u1 u2 hr.2.2.2, by rw [sd_pb 1 u1.2.2.1]; rw [u3]; exact r2⟩
      · rw [if_pos c3, if_pos c3]; exact ⟨rfl, hr, rfl⟩
    · rw [if_pos c2, if_pos c2]; exact ⟨rfl, hr, rfl⟩
  · rw [if_pos c1, if_pos c1]; exact ⟨rfl, hr, rfl⟩
def mh_dI (p1 x lc bc lr br : Int32) : Prop := (bc = -2 ∧ lc = 10000 ∧ br = -1 ∧ (x.toInt = 0 ∨ (x.toInt = 1 ∧ p1.toInt = 0))) ∨ (0 ≤ bc.toInt ∧ bc = br ∧ lc = lr ∧ 0 ≤ lc.toInt)
theorem dam_stay {L : mh_Lw} {v : mh_V} (hg : mh_rg v) (hb : v.2.1.toInt ≤ 1000000000) {p1 p2 p3 : Int32} {d k2 : Nat} (hp1 : p1.toInt = (d : Int)) (hd : d < 144) (hp2 : p2.toInt = (k2 : Int)) (hk2 : k2 ≤ 60) (d1 : mh_V) : ∀ (n : Nat) (s : mh_H) (x br lr : Int32) (m : Nat), x.toInt = (m : Int) → m ≤ 144 → mh_rN L v s → mh_sd 1 s = d1 → 0 ≤ br.toInt → lr.toInt = 0 → 144 < n + m → (l_eX10_dam_45_1 p1 p2 p3 n s x lr br).1 = (if p3.toInt = 0 then br else lr) ∧ mh_rN L v (l_eX10_dam_45_1 p1 p2 p3 n s x lr br).2 ∧ mh_sd 1 (l_eX10_dam_45_1 p1 p2 p3 n s x lr br).2 = d1 := by
  intro n
  induction n with
  | zero => intro s x br lr m _ h1 _ _ _ _ h2; exfalso; omega
  | succ n ih =>
    intro s x br lr m hx hm h1 h2 h3 h4 h5
    have k144 : (144 : Int32).toInt = 144 := rfl
    have km : (-1 : Int32).toInt = -1 := rfl
    have k1 : (1 : Int32).toInt = ((1 : Nat) : Int) := rfl
    rw [l_eX10_dam_45_1_s]
    unfold ls_eX10_dam_45_1 j_eX10_dam_106_2 j_eX10_dam_98_3
    by_cases hlt : m < 144
    · rw [if_pos (by omega)]
      have hxn := ix_add hx (by omega) k1 (by decide)
      simp only [mh_lbE]
      by_cases e : x.toInt = p1.toInt
      · rw [if_pos e]
        exact ih s (x + 1) br lr (m + 1) hxn (by omega) h1 h2 h3 h4 (by omega)
      · rw [if_neg e, if_neg (by omega)]
        obtain ⟨w1, w2, w3⟩ := ln_r h1 hg hb hp2 hk2 (o := some m) ⟨hx, hlt⟩
        have cold : (f_eX10_laysNight s x p2).1 61 p1.toNatClampNeg = (mh_stN L (mh_trV v m) k2).1 2 d := by
          rw [ix_n hp1]
          have := vr_at (r := 2) (c := d) (s := f_eX10_laysNight s x p2) (vn_r hd (by decide)) (by decide)
          rw [w1.1] at this
          exact this.symm
        have cb := (stN_g (L := L) (trV_g hg m) k2 d hd).2.2.1.1
        rw [if_neg (by rw [cold]; omega)]
        exact ih _ (x + 1) br lr (m + 1) hxn (by omega) (rN_pb w1 w2 h1.2.2.2) (by rw [sd_pb 1 w1.2.2.1, w3]; exact h2) h3 h4 (by omega)
    · rw [if_neg (by omega)]
      by_cases a0 : p3.toInt = 0
      · rw [if_pos a0, if_pos a0]; exact ⟨rfl, h1, h2⟩
      · rw [if_neg a0, if_neg a0]; exact ⟨rfl, h1, h2⟩
theorem dam_lp {kl : Nat} (hl : mh_isL kl) {L : mh_Lw} {v : mh_V} (hg : mh_rg v) (hb : v.2.1.toInt ≤ 1000000000) {p1 p2 p3 : Int32} {d k2 : Nat} (hp1 : p1.toInt = (d : Int)) (hd : d < 144) (hp2 : p2.toInt = (k2 : Int)) (hk2 : k2 ≤ 60) (d1 : mh_V) : ∀ (n : Nat) (sc sr : mh_H) (x lc bc lr br : Int32) (m : Nat), x.toInt = (m : Int) → m ≤ 144 → mh_cN 1 kl L v sc → mh_rN L v sr → mh_sd 1 sr = d1 → mh_dI p1 x lc bc lr br → 144 < n + m → (l_eX9_dam_43_1 p1 p2 p3 n sc x lc bc).1 = (l_eX10_dam_45_1 p1 p2 p3 n sr x lr br).1 ∧ mh_rN L v (l_eX10_dam_45_1 p1 p2 p3 n sr x lr br).2 ∧ mh_sd 1 (l_eX10_dam_45_1 p1 p2 p3 n sr x lr br).2 = d1 := by
  intro n
  induction n with
  | zero => intro sc sr x lc bc lr br m _ h1 _ _ _ _ h2; exfalso; omega
  | succ n ih =>
    intro sc sr x lc bc lr br m hx hm h1 h2 h3 hD h5
    have k144 : (144 : Int32).toInt = 144 := rfl
    have km : (-1 : Int32).toInt = -1 := rfl
    have k1 : (1 : Int32).toInt = ((1 : Nat) : Int) := rfl
    have k10 : (10000 : Int32).toInt = 10000 := rfl
    by_cases hz : 0 < lc.toInt
    · rw [l_eX9_dam_43_1_s, l_eX10_dam_45_1_s]
      unfold ls_eX9_dam_43_1 ls_eX10_dam_45_1 j_eX9_dam_101_2 j_eX10_dam_106_2 j_eX10_dam_98_3
      by_cases hlt : m < 144
      · have hxl : x.toInt < (144 : Int32).toInt := by omega
        rw [if_pos hxl, if_pos hxl, if_pos hz]
        have hxn := ix_add hx (by omega) k1 (by decide)
        simp only [mh_lbE]
        by_cases e : x.toInt = p1.toInt
        · rw [if_pos e, if_pos e]
          refine ih sc sr (x + 1) lc bc lr br (m + 1) hxn (by omega) h1 h2 h3 ?_ (by omega)
          rcases hD with ⟨q1, q2, q3, q4⟩ | q
          · exact Or.inl ⟨q1, q2, q3, Or.inr ⟨by omega, by omega⟩⟩
          · exact Or.inr q
        · rw [if_neg e, if_neg e]
          obtain ⟨u1, u2⟩ := pt_c hl h1 hg hp2 hk2 (o := some m) (p2 := x) ⟨hx, hlt⟩
          obtain ⟨w1, w2, w3⟩ := ln_r h2 hg hb hp2 hk2 (o := some m) ⟨hx, hlt⟩
          have cold1 : (f_eX9_passTrial sc p2 x).1 16 p1.toNatClampNeg = (mh_stN L (mh_trV v m) k2).1 2 d := by
            rw [ix_n hp1]
            have := vc_at (k := 13) (r := 2) (c := d) (s := f_eX9_passTrial sc p2 x) (vn_r hd (by decide)) (by decide)
            rw [u1.1] at this
            exact this.symm
          have cold2 : (f_eX10_laysNight sr x p2).1 61 p1.toNatClampNeg = (mh_stN L (mh_trV v m) k2).1 2 d := by
            rw [ix_n hp1]
            have := vr_at (r := 2) (c := d) (s := f_eX10_laysNight sr x p2) (vn_r hd (by decide)) (by decide)
            rw [w1.1] at this
            exact this.symm
          have cb := (stN_g (L := L) (trV_g hg m) k2 d hd).2.2.1
          have cb1 := cb.1; have cb2 := cb.2
          rw [cold1, cold2]
          have r4 := rN_pb w1 w2 h2.2.2.2
          have r5 : mh_sd 1 (f_eX10_putsBack (f_eX10_laysNight sr x p2) 0) = d1 := by rw [sd_pb 1 w1.2.2.1, w3]; exact h3
          rcases hD with ⟨q1, q2, q3, q4⟩ | ⟨q1, q2, q3, q4⟩
          · rw [if_pos (by rw [q2, k10]; omega), if_pos (by rw [q3])]
            exact ih _ _ (x + 1) _ x _ x (m + 1) hxn (by omega) u2 r4 r5 (Or.inr ⟨by omega, rfl, rfl, by omega⟩) (by omega)
          · rw [if_neg (show ¬ br.toInt = (-1 : Int32).toInt by rw [← q2]; omega)]
            by_cases y : ((mh_stN L (mh_trV v m) k2).1 2 d).toInt < lc.toInt
            · rw [if_pos y, if_pos (by rw [← q3]; exact y)]
              exact ih _ _ (x + 1) _ x _ x (m + 1) hxn (by omega) u2 r4 r5 (Or.inr ⟨by omega, rfl, rfl, by omega⟩) (by omega)
            · rw [if_neg y, if_neg (by rw [← q3]; exact y)]
              exact ih _ _ (x + 1) lc bc lr br (m + 1) hxn (by omega) u2 r4 r5 (Or.inr ⟨q1, q2, q3, q4⟩) (by omega)
      · have hxl : ¬ x.toInt < (144 : Int32).toInt := by omega
        rw [if_neg hxl, if_neg hxl]
        rcases hD with ⟨q1, q2, q3, q4⟩ | ⟨q1, q2, q3, q4⟩
        · exfalso; omega
        · rw [q2, q3]
          by_cases a0 : p3.toInt = 0
          · rw [if_pos a0, if_pos a0]; exact ⟨rfl, h2, h3⟩
          · rw [if_neg a0, if_neg a0]; exact ⟨rfl, h2, h3⟩
    · rcases hD with ⟨q1, q2, q3, q4⟩ | ⟨q1, q2, q3, q4⟩
      · exfalso; rw [q2, k10] at hz; omega
      · have st := dam_stay (L := L) hg hb (p3 := p3) hp1 hd hp2 hk2 d1 (n + 1) sr x br lr m hx hm h2 h3 (by rw [← q2]; exact q1) (by rw [← q3]; omega) h5
        refine ⟨?_, st.2⟩
        rw [st.1, l_eX9_dam_43_1_s]
        unfold ls_eX9_dam_43_1
        rw [if_neg hz, q2, q3, ite_self]
        by_cases a0 : p3.toInt = 0
        · rw [if_pos a0, if_pos a0]
        · rw [if_neg a0, if_neg a0]
theorem dam_eq {kl : Nat} (hl : mh_isL kl) {L : mh_Lw} {v : mh_V} {sc sr : mh_H} (hc : mh_cN 1 kl L v sc) (hr : mh_rN L v sr) (hg : mh_rg v) (hb : v.2.1.toInt ≤ 1000000000) (p1 p2 p3 : Int32) : (f_eX9_dam sc p1 p2 p3).1 = (f_eX10_dam sr p1 p2 p3).1 ∧ mh_rN L v (f_eX10_dam sr p1 p2 p3).2 ∧ mh_sd 1 (f_eX10_dam sr p1 p2 p3).2 = mh_sd 1 sr := by
  have a0 : (0 : Int64).toInt = 0 := rfl
  have a1 : (1 : Int64).toInt = 1 := rfl
  have a20 : (20 : Int64).toInt = 20 := rfl
  have a143 : (143 : Int64).toInt = 143 := rfl
  have b1 := kc_1
  have b20 : (20 : Int32).toInt = 20 := rfl
  have b143 : (143 : Int32).toInt = 143 := rfl
  unfold f_eX9_dam f_eX10_dam
  obtain ⟨m, hm⟩ : ∃ m : Nat, m = 145 := ⟨_, rfl⟩
  rw [show (145 : Nat) = m by omega]
  simp only [mh_lbE, fq_within, fq_lies, Int32.toInt_toInt64, a0, a1, a20, a143, b1, b20, b143]
  by_cases c1 : 0 ≤ p1.toInt ∧ p1.toInt ≤ 143
  · rw [if_neg (not_not_intro c1), if_neg (not_not_intro c1)]
    by_cases c2 : 1 ≤ p2.toInt ∧ p2.toInt ≤ 20
    · rw [if_neg (show ¬ p2.toInt < 1 by omega), if_neg (show ¬ 20 < p2.toInt by omega), if_neg (not_not_intro c2)]
      by_cases c3 : 0 ≤ p3.toInt ∧ p3.toInt ≤ 1
      · rw [if_neg (not_not_intro c3), if_neg (not_not_intro c3)]
        exact dam_lp hl hg hb (d := p1.toInt.toNat) (by omega) (by omega) (k2 := p2.toInt.toNat) (by omega) (by omega) _ m sc sr 0 10000 (-2) 0 (-1) 0 rfl (by decide) hc hr rfl (Or.inl ⟨rfl, rfl, rfl, Or.inl (by decide)⟩) (by omega)
      · rw [if_pos c3, if_pos c3]; exact ⟨rfl, hr, rfl⟩
    · by_cases c4 : p2.toInt < 1
      · rw [if_pos c4, if_pos (by omega)]; exact ⟨rfl, hr, rfl⟩
      · rw [if_neg c4, if_pos (by omega), if_pos (by omega)]; exact ⟨rfl, hr, rfl⟩
  · rw [if_pos c1, if_pos c1]; exact ⟨rfl, hr, rfl⟩

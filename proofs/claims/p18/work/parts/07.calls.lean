theorem mh_good {w : Cond} (h : w ∈ mh_base) : w ∈ mh_base ∧ ((w.onTables && w.keeps) = true ∨ ∃ ty, w = .arrayClass ty) := ⟨h, good_of_word (List.mem_filter.mp h).2⟩
/-- a pool entry links a method (its own class's, or a nest mate's) -/
def mh_lk (own : String) (ix : Nat) (ν : mh_Mt) : Prop := Cond.methodLink own ix ν.1 ∈ mh_base ∨ ∃ host, Cond.methodLinkNest own ix ν.1 host ∈ mh_nst
/-- what a call wants of its method -/
def mh_cd (ν : mh_Mt) (n : Nat) : Prop := Cond.initialized ν.1.cls ∈ mh_base ∧ Cond.code ν.1 ν.2.1 ν.2.2.1 ν.2.2.2 ∈ mh_base ∧ (ν.1.cls ≠ "java/lang/invoke/MethodHandle" ∧ ν.1.cls ≠ "java/lang/invoke/VarHandle" ∧ (parseMethodDescriptor ν.1.desc).map (fun d => d.parameters.length) = some n) ∧ ν.2.2.1 ≤ 21
def mh_iM (ν : mh_Mt) : Prop := Cond.instanceMethod ν.1 ∈ mh_base ∧ Cond.selects ν.1.cls ν.1 ν.1 ∈ mh_base
def mh_sM (ν : mh_Mt) : Prop := Cond.static ν.1 ∈ mh_base
theorem mh_rok {d D mL : Nat} (h : d + 1 ≤ D) (hm : mL ≤ 21) : (mh_rm d).frames + 1 ≤ (mh_rm D).frames ∧ 8 + (mL + 11) + (mh_rm d).locals ≤ (mh_rm D).locals := by
  refine ⟨h, ?_⟩
  show 8 + (mL + 11) + 40 * d ≤ 40 * D
  omega
section MW3
variable {l : Launch} {G : mh_G} {d : Nat} {Q : Option Value → mh_H → Prop} {μ : mh_Mt} {pc : Nat} {lv : List (Nat × Value)} {σ : mh_H}
theorem mw_iret {v : Int32} (hd : decode μ.2.1 pc = .ok (.ireturn, 1)) (hr : μ.2.2.2 = some .int) (hQ : Q (some (.int v)) σ) : mh_W G (mh_XM l G d Q) μ pc lv [.int v] σ := by
  intro p e s m args below meth c ok H locs ls hl hw hs
  exact W.iret ok.1 ok.2.1 (by rw [ok.2.2.2.2.2.2.1, hr]) (fun t ht hW => ⟨⟨_, σ, rfl, hQ, by rw [ht]; exact hw⟩, hs.F ht⟩) hs.2.2 hd ok.2.2.2.2.2.2.2.1
theorem mh_01 {x : Int32} (hx : mh_r x 0 1) : x = 0 ∨ x = 1 := by
  have := hx.1; have := hx.2
  rcases (show x.toInt = 0 ∨ x.toInt = 1 by omega) with h | h
  · exact Or.inl (Int32.toInt_inj.mp (by rw [h]; rfl))
  · exact Or.inr (Int32.toInt_inj.mp (by rw [h]; rfl))
theorem mw_zret {v : Int32} (hd : decode μ.2.1 pc = .ok (.ireturn, 1)) (hr : μ.2.2.2 = some .boolean) (hv : mh_r v 0 1) (hQ : Q (some (.int v)) σ) : mh_W G (mh_XM l G d Q) μ pc lv [.int v] σ := by
  intro p e s m args below meth c ok H locs ls hl hw hs
  exact W.zret ok.1 ok.2.1 (by rw [ok.2.2.2.2.2.2.1, hr]) (by rcases mh_01 hv with h | h <;> rw [h] <;> rfl) (fun t ht hW => ⟨⟨_, σ, rfl, hQ, by rw [ht]; exact hw⟩, hs.F ht⟩) hs.2.2 hd ok.2.2.2.2.2.2.2.1
theorem mw_lret {v : Int64} (hd : decode μ.2.1 pc = .ok (.lreturn, 1)) (hr : μ.2.2.2 = some .long) (hQ : Q (some (.long v)) σ) : mh_W G (mh_XM l G d Q) μ pc lv [.long v] σ := by
  intro p e s m args below meth c ok H locs ls hl hw hs
  exact W.lret ok.1 ok.2.1 (by rw [ok.2.2.2.2.2.2.1, hr]) (fun t ht hW => ⟨⟨_, σ, rfl, hQ, by rw [ht]; exact hw⟩, hs.F ht⟩) hs.2.2 hd ok.2.2.2.2.2.2.2.1
theorem mw_vret (hd : decode μ.2.1 pc = .ok (.return_, 1)) (hr : μ.2.2.2 = none) (hQ : Q none σ) : mh_W G (mh_XM l G d Q) μ pc lv [] σ := by
  intro p e s m args below meth c ok H locs ls hl hw hs
  exact W.vret ok.1 ok.2.1 (by rw [ok.2.2.2.2.2.2.1, hr]) (fun t ht hW => ⟨⟨_, σ, rfl, hQ, by rw [ht]; exact hw⟩, hs.F ht⟩) hs.2.2 hd ok.2.2.2.2.2.2.2.1
end MW3
section MW4
variable {G : mh_G} {X : mh_X} {μ : mh_Mt} {pc : Nat} {lv : List (Nat × Value)} {st : List Value} {σ : mh_H}
theorem mh_blind {av : List Value} : FrameBlind (va_Pc av (fun U => mh_Am G U ∧ mh_Wd G σ U.heap ∧ mh_Sg G (mh_A G) U U.heap)) := fun a U g mk h => ⟨h.1, h.2.1.call g mk a, h.2.2.1, h.2.2.2.call g mk a⟩
theorem mw_callV {ix n d k ci nf N : Nat} {T : u_T} {ν : mh_Mt} {Q1 : Option Value → mh_H → Prop} (As rest : List Value) (q : Nat) (hq : pc + 3 = q) (hd : decode μ.2.1 pc = .ok (.invokevirtual ix, 3)) (hk : mh_lk μ.1.cls ix ν) (hc : mh_cd ν n) (hi : mh_iM ν) (hl0 : mh_lay k = (ci, nf)) (hcl : vwCl[ci]? = some (ν.1.cls, T, N)) (hci : ci < 20)
    (hM : mh_M X.1 G d ν (.ref (G.2.2.2 k) :: As) σ Q1) (hn : As.length = n) (hst : As.reverse ++ .ref (G.2.2.2 k) :: rest = st) (hro : (rest.map fun v => v.category).sum ≤ 8) (hR : (mh_rm d).frames + 1 ≤ X.2.1.frames ∧ 8 + (ν.2.2.1 + 11) + (mh_rm d).locals ≤ X.2.1.locals)
    (kk : ∀ (v : Option Value) (σ' : mh_H), Q1 v σ' → mh_W G X μ q lv (v.toList ++ rest) σ') : mh_W G X μ pc lv st σ := by
  subst hq
  intro p e s m args below meth c ok H locs ls hl hw hs
  have hG : GoodIn mh_base (.code ν.1 ν.2.1 ν.2.2.1 ν.2.2.2 :: mh_base) := fun w h => by
    rcases List.mem_cons.mp h with rfl | h
    · exact mh_good hc.2.1
    · exact mh_good h
  have he := mh_ws_at (G := G) (σ := σ) (mh_lay_lt hl0 (by omega))
  rw [mh_cE_o hl0 hci] at he
  have hrec := va_recv ok.2.2.2.2.2.1.1 hw hcl he
  have hpre : PreV s H ν.1.cls (G.2.2.2 k) (va_Pc (.ref (G.2.2.2 k) :: As) (fun U => mh_Am G U ∧ mh_Wd G σ U.heap ∧ mh_Sg G (mh_A G) U U.heap)) As := ⟨mh_blind, hrec, fun U hU hW => ⟨rfl, ok.2.2.2.2.2.1.warm hW, by rw [hU]; exact hw, by rw [hU]; exact ok.2.2.2.2.2.2.2.2.2.2.2.to hs (fun q ⟨k, h1, h2⟩ => by rw [h2]; exact ok.2.2.2.2.2.2.2.2.1 k h1) hW⟩⟩
  have hfix : CallFix p m c μ.2.1 μ.2.2.1 s args mh_base μ.1.cls := ⟨ok.1, ok.2.1, ok.2.2.1, ok.2.2.2.1, ok.2.2.2.2.1⟩
  have hroom : X.2.2.2.1 + 0 ≤ X.2.1.cells ∧ X.2.2.2.2.1 + 0 ≤ X.2.1.slots := ⟨ok.2.2.2.2.2.2.2.2.2.1, ok.2.2.2.2.2.2.2.2.2.2.1⟩
  have hrun : va_Run p X.1 e X.2.1 s m args below meth c H locs X.2.2.2.1 X.2.2.2.2.1 0 0 (F0 m pc ls st) rest (mh_Q G Q1 (Value.ref (G.2.2.2 k) :: As).toArray) (mh_A G) := by
    rcases hk with hk | ⟨host, hk⟩
    · exact va_runV hfix hM ⟨callB_of n ok.2.2.2.2.1 hG rfl rfl rfl (ok.2.2.2.2.1 _ hc.1) (ok.2.2.2.2.1 _ hk) hc.2.2.1 hR, ok.2.2.2.2.1 _ hi.1, ok.2.2.2.2.1 _ hi.2⟩ hpre rfl hn hl.1 hst.symm (lv_room hro) hd hroom
    · exact va_runVN hfix hM ⟨va_cnB n ok.2.2.2.2.1 hG rfl rfl rfl (ok.2.2.2.2.2.1.2.1 _ hk) (ok.2.2.2.2.1 _ hc.1) hc.2.2.1 hR, ok.2.2.2.2.1 _ hi.1, ok.2.2.2.2.1 _ hi.2⟩ hpre rfl hn hl.1 hst.symm (lv_room hro) hd hroom
  exact mh_go hrun hs ok.2.2.2.2.2.2.2.2.1 (fun v σ' hq H1 locs1 hw1 hs1 => kk v σ' hq p e s m args below meth c ok H1 locs1 ls hl hw1 hs1)
theorem mw_callS {ix n d : Nat} {ν : mh_Mt} {Q1 : Option Value → mh_H → Prop} (As rest : List Value) (q : Nat) (hq : pc + 3 = q) (hd : decode μ.2.1 pc = .ok (.invokestatic ix, 3)) (hk : mh_lk μ.1.cls ix ν) (hc : mh_cd ν n) (hi : mh_sM ν)
    (hM : mh_M X.1 G d ν As σ Q1) (hn : As.length = n) (hst : As.reverse ++ rest = st) (hro : (rest.map fun v => v.category).sum ≤ 8) (hR : (mh_rm d).frames + 1 ≤ X.2.1.frames ∧ 8 + (ν.2.2.1 + 11) + (mh_rm d).locals ≤ X.2.1.locals)
    (kk : ∀ (v : Option Value) (σ' : mh_H), Q1 v σ' → mh_W G X μ q lv (v.toList ++ rest) σ') : mh_W G X μ pc lv st σ := by
  subst hq
  intro p e s m args below meth c ok H locs ls hl hw hs
  have hG : GoodIn mh_base (.code ν.1 ν.2.1 ν.2.2.1 ν.2.2.2 :: mh_base) := fun w h => by
    rcases List.mem_cons.mp h with rfl | h
    · exact mh_good hc.2.1
    · exact mh_good h
  have hpre : PreS s H (va_Pc As (fun U => mh_Am G U ∧ mh_Wd G σ U.heap ∧ mh_Sg G (mh_A G) U U.heap)) As := ⟨mh_blind, fun U hU hW => ⟨rfl, ok.2.2.2.2.2.1.warm hW, by rw [hU]; exact hw, by rw [hU]; exact ok.2.2.2.2.2.2.2.2.2.2.2.to hs (fun q ⟨k, h1, h2⟩ => by rw [h2]; exact ok.2.2.2.2.2.2.2.2.1 k h1) hW⟩⟩
  have hfix : CallFix p m c μ.2.1 μ.2.2.1 s args mh_base μ.1.cls := ⟨ok.1, ok.2.1, ok.2.2.1, ok.2.2.2.1, ok.2.2.2.2.1⟩
  have hroom : X.2.2.2.1 + 0 ≤ X.2.1.cells ∧ X.2.2.2.2.1 + 0 ≤ X.2.1.slots := ⟨ok.2.2.2.2.2.2.2.2.2.1, ok.2.2.2.2.2.2.2.2.2.2.1⟩
  have hrun : va_Run p X.1 e X.2.1 s m args below meth c H locs X.2.2.2.1 X.2.2.2.2.1 0 0 (F0 m pc ls st) rest (mh_Q G Q1 As.toArray) (mh_A G) := by
    rcases hk with hk | ⟨host, hk⟩
    · exact va_runS hfix hM ⟨callB_of n ok.2.2.2.2.1 hG rfl rfl rfl (ok.2.2.2.2.1 _ hc.1) (ok.2.2.2.2.1 _ hk) hc.2.2.1 hR, ok.2.2.2.2.1 _ hi⟩ hpre rfl hn hl.1 hst.symm (lv_room hro) hd hroom
    · exact va_runSN hfix hM ⟨va_cnB n ok.2.2.2.2.1 hG rfl rfl rfl (ok.2.2.2.2.2.1.2.1 _ hk) (ok.2.2.2.2.1 _ hc.1) hc.2.2.1 hR, ok.2.2.2.2.1 _ hi, trivial⟩ hpre rfl hn hl.1 hst.symm (lv_room hro) hd hroom
  exact mh_go hrun hs ok.2.2.2.2.2.2.2.2.1 (fun v σ' hq H1 locs1 hw1 hs1 => kk v σ' hq p e s m args below meth c ok H1 locs1 ls hl hw1 hs1)
theorem mw_mmax {ix : Nat} {x y : Int32} {a b c0 e0 : Int} (lo hi : Int) (q : Nat) (hq : pc + 3 = q) (hd : decode μ.2.1 pc = .ok (.invokestatic ix, 3)) (hk : Cond.methodLink μ.1.cls ix Lib.Math.max.name ∈ mh_base) (hx : mh_r x a b) (hy : mh_r y c0 e0) (hb : (lo ≤ a ∨ lo ≤ c0) ∧ b ≤ hi ∧ e0 ≤ hi) (hR : 1 ≤ X.2.1.frames ∧ (st.map fun v => v.category).sum + 13 ≤ X.2.1.locals)
    (kk : ∀ z : Int32, z.toInt = max x.toInt y.toInt → mh_r z lo hi → mh_W G X μ q lv (.int z :: st) σ) : mh_W G X μ pc lv (.int y :: .int x :: st) σ := by
  subst hq
  intro p e s m args below meth c ok H locs ls hl hw hs
  have h1 : ((if x < y then y else x) : Int32).toInt = max x.toInt y.toInt := by
    by_cases h : x < y
    · rw [if_pos h]; rw [Int32.lt_iff_toInt_lt] at h; omega
    · rw [if_neg h]; rw [Int32.lt_iff_toInt_lt] at h; omega
  refine va_mmax ok.1 ok.2.1 (by rw [ok.2.2.1, hl.1]) ok.2.2.2.1 (ok.2.2.2.2.1 _ hk) (ok.2.2.2.2.1 _ (mh_b (by decide +kernel) (by decide +kernel))) (ok.2.2.2.2.1 _ (mh_b (by decide +kernel) (by decide +kernel))) (ok.2.2.2.2.1 _ (mh_b (by decide +kernel) (by decide +kernel))) hR.1 hR.2 ok.2.2.2.2.2.2.2.2.2.1 ok.2.2.2.2.2.2.2.2.2.2.1 hd (kk _ h1 ?_ p e s m args below meth c ok H locs ls hl hw hs)
  have := hx.1; have := hx.2; have := hy.1; have := hy.2
  rw [mh_r, h1]
  constructor <;> omega
theorem mw_mmin {ix : Nat} {x y : Int32} {a b c0 e0 : Int} (lo hi : Int) (q : Nat) (hq : pc + 3 = q) (hd : decode μ.2.1 pc = .ok (.invokestatic ix, 3)) (hk : Cond.methodLink μ.1.cls ix Lib.Math.min.name ∈ mh_base) (hx : mh_r x a b) (hy : mh_r y c0 e0) (hb : lo ≤ a ∧ lo ≤ c0 ∧ (b ≤ hi ∨ e0 ≤ hi)) (hR : 1 ≤ X.2.1.frames ∧ (st.map fun v => v.category).sum + 13 ≤ X.2.1.locals)
    (kk : ∀ z : Int32, z.toInt = min x.toInt y.toInt → mh_r z lo hi → mh_W G X μ q lv (.int z :: st) σ) : mh_W G X μ pc lv (.int y :: .int x :: st) σ := by
  subst hq
  intro p e s m args below meth c ok H locs ls hl hw hs
  have h1 : ((if y < x then y else x) : Int32).toInt = min x.toInt y.toInt := by
    by_cases h : y < x
    · rw [if_pos h]; rw [Int32.lt_iff_toInt_lt] at h; omega
    · rw [if_neg h]; rw [Int32.lt_iff_toInt_lt] at h; omega
  refine va_mmin ok.1 ok.2.1 (by rw [ok.2.2.1, hl.1]) ok.2.2.2.1 (ok.2.2.2.2.1 _ hk) (ok.2.2.2.2.1 _ (mh_b (by decide +kernel) (by decide +kernel))) (ok.2.2.2.2.1 _ (mh_b (by decide +kernel) (by decide +kernel))) (ok.2.2.2.2.1 _ (mh_b (by decide +kernel) (by decide +kernel))) hR.1 hR.2 ok.2.2.2.2.2.2.2.2.2.1 ok.2.2.2.2.2.2.2.2.2.2.1 hd (kk _ h1 ?_ p e s m args below meth c ok H locs ls hl hw hs)
  have := hx.1; have := hx.2; have := hy.1; have := hy.2
  rw [mh_r, h1]
  constructor <;> omega
theorem mw_mabs {ix : Nat} {x : Int32} (q : Nat) (hq : pc + 3 = q) (hd : decode μ.2.1 pc = .ok (.invokestatic ix, 3)) (hk : Cond.methodLink μ.1.cls ix Lib.Math.abs.name ∈ mh_base) (hR : 1 ≤ X.2.1.frames ∧ (st.map fun v => v.category).sum + 13 ≤ X.2.1.locals)
    (kk : ∀ z : Int32, z = (if 0 ≤ x then x else 0 - x) → mh_W G X μ q lv (.int z :: st) σ) : mh_W G X μ pc lv (.int x :: st) σ := by
  subst hq
  intro p e s m args below meth c ok H locs ls hl hw hs
  exact va_mabs ok.1 ok.2.1 (by rw [ok.2.2.1, hl.1]) ok.2.2.2.1 (ok.2.2.2.2.1 _ hk) (ok.2.2.2.2.1 _ (mh_b (by decide +kernel) (by decide +kernel))) (ok.2.2.2.2.1 _ (mh_b (by decide +kernel) (by decide +kernel))) (ok.2.2.2.2.1 _ (mh_b (by decide +kernel) (by decide +kernel))) hR.1 hR.2 ok.2.2.2.2.2.2.2.2.2.1 ok.2.2.2.2.2.2.2.2.2.2.1 hd (kk _ rfl p e s m args below meth c ok H locs ls hl hw hs)
theorem mw_copy {ix k0 k1 n0 n1 : Nat} {n : Int32} (q : Nat) (hq : pc + 3 = q) (hd : decode μ.2.1 pc = .ok (.invokestatic ix, 3)) (hk : Cond.methodLink μ.1.cls ix arraycopyName ∈ mh_base) (h0 : mh_lay k0 = (20, n0)) (h1 : mh_lay k1 = (20, n1)) (hn : 0 ≤ n.toInt ∧ n.toInt ≤ n0 ∧ n.toInt ≤ n1) (hR : 1 ≤ X.2.1.frames ∧ (st.map fun v => v.category).sum + (nativeFrameWords "java/lang/System" "arraycopy" 5 + 11) ≤ X.2.1.locals)
    (kk : ∀ σ' : mh_H, σ' = mh_pA σ k1 (fun j => if j < n.toNatClampNeg then σ.1 k0 j else σ.1 k1 j) → mh_W G X μ q lv st σ') : mh_W G X μ pc lv (.int n :: .int 0 :: .ref (G.2.2.2 k1) :: .int 0 :: .ref (G.2.2.2 k0) :: st) σ := by
  subst hq
  intro p e s m args below meth c ok H locs ls hl hw hs
  have hkN := mh_lay_lt h1 (by decide)
  have he0 := mh_ws_at (G := G) (σ := σ) (mh_lay_lt h0 (by decide))
  rw [mh_cE_i h0 (by decide) (by decide)] at he0
  have he1 := mh_ws_at (G := G) (σ := σ) hkN
  rw [mh_cE_i h1 (by decide) (by decide)] at he1
  have hD := mh_D (σ := σ) ok.2.2.2.2.2.1.2.2 ok.2.2.2.2.2.2.2.2.1
  have hnn : n.toNatClampNeg = n.toInt.toNat := rfl
  have hset := mh_ws_set (G := G) (σ := σ) (σ' := mh_pA σ k1 (fun j => if j < n.toNatClampNeg then σ.1 k0 j else σ.1 k1 j)) hkN (e := .inl (G.2.2.1 (20 - 20), n1, .inl (va_cpy (σ.1 k0) (σ.1 k1) (0 : Int32).toNatClampNeg (0 : Int32).toNatClampNeg n.toNatClampNeg))) (by
    rw [mh_cE_i h1 (by decide) (by decide)]
    have hfun : (mh_pA σ k1 (fun j => if j < n.toNatClampNeg then σ.1 k0 j else σ.1 k1 j)).1 k1 = va_cpy (σ.1 k0) (σ.1 k1) (0 : Int32).toNatClampNeg (0 : Int32).toNatClampNeg n.toNatClampNeg := by
      funext b
      simp [mh_pA, va_cpy]
    rw [hfun]) (fun i h => mh_cE_ne (by funext b; simp [mh_pA, h]) rfl rfl)
  refine va_copyi ok.1 ok.2.1 (by rw [ok.2.2.1, hl.1]) ok.2.2.2.1 (ok.2.2.2.2.1 _ hk) (ok.2.2.2.2.1 _ (mh_b (by decide +kernel) (by decide +kernel))) (ok.2.2.2.2.1 _ (mh_b (by decide +kernel) (by decide +kernel))) (ok.2.2.2.2.1 _ (mh_b (by decide +kernel) (by decide +kernel))) ok.2.2.2.2.2.1.1 hw hD hs k0 k1 0 0 he0 he1 rfl rfl rfl (by decide) (by decide) (by rw [Int32.lt_iff_toInt_lt]; simp; omega) ?_ ?_ (fun _ _ => rfl) hR.1 hR.2 hd (fun H1 locs1 hP1 hD1 hS1 => kk _ rfl p e s m args below meth c ok H1 locs1 ls hl (by rw [hset] at hP1; exact hP1) hS1)
  · show 0 + n.toNatClampNeg ≤ n0
    rw [hnn]; omega
  · show 0 + n.toNatClampNeg ≤ n1
    rw [hnn]; omega
end MW4

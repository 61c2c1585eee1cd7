section MWS
variable {G : mh_G} {X : mh_X} {μ : mh_Mt} {pc : Nat} {lv : List (Nat × Value)} {st : List Value} {σ : mh_H}
theorem mw_ldcS {ix k : Nat} {tx : String} (q : Nat) (hq : pc + 2 = q) (hd : decode μ.2.1 pc = .ok (.ldc ix, 2)) (hz : ∀ (A : Nat → Prop) (U : State) (H : Heap), mh_Sg G A U H → vk_R μ.1.cls ix tx (G.2.2.2 k) U) (kk : mh_W G X μ q lv (.ref (G.2.2.2 k) :: st) σ) : mh_W G X μ pc lv st σ := by
  subst hq
  intro p e s m args below meth c ok H locs ls hl hw hs
  exact va_ldcS ok.1 ok.2.1 ok.2.2.2.1 (hz _ _ _ ok.2.2.2.2.2.2.2.2.2.2.2) hd (kk p e s m args below meth c ok H locs ls hl hw hs)
theorem mw_cs {ix : Nat} (q : Nat) (hq : pc + 3 = q) (hd : decode μ.2.1 pc = .ok (.getstatic ix, 3)) (hk : Cond.fieldLink μ.1.cls ix "java/lang/String" "COMPACT_STRINGS" "Z" ∈ mh_base) (kk : mh_W G X μ q lv (.int 1 :: st) σ) : mh_W G X μ pc lv st σ := by
  subst hq
  intro p e s m args below meth c ok H locs ls hl hw hs
  exact va_gets ok.1 ok.2.1 ok.2.2.2.2.2.2.2.2.2.2.2.2.1 hs ok.2.2.2.1 (ok.2.2.2.2.1 _ hk) (fun _ h => h) hd (kk p e s m args below meth c ok H locs ls hl hw hs)
theorem mw_strv {ix i : Nat} (hi : i < 2) (q : Nat) (hq : pc + 3 = q) (hd : decode μ.2.1 pc = .ok (.getfield ix, 3)) (hk : Cond.fieldLink μ.1.cls ix "java/lang/String" "value" "[B" ∈ mh_base) (kk : mh_W G X μ q lv (.ref (G.2.2.2 (1010 + i)) :: st) σ) : mh_W G X μ pc lv (.ref (G.2.2.2 (1000 + i)) :: st) σ := by
  subst hq
  intro p e s m args below meth c ok H locs ls hl hw hs
  exact vk_getf ok.1 ok.2.1 (ok.2.2.2.2.2.2.2.2.2.2.2.1.1 i hi).2.2.1 hs ok.2.2.2.1 (ok.2.2.2.2.1 _ hk) (fun _ h => h) hd (kk p e s m args below meth c ok H locs ls hl hw hs)
theorem mw_strc {ix i : Nat} (hi : i < 2) (q : Nat) (hq : pc + 3 = q) (hd : decode μ.2.1 pc = .ok (.getfield ix, 3)) (hk : Cond.fieldLink μ.1.cls ix "java/lang/String" "coder" "B" ∈ mh_base) (kk : mh_W G X μ q lv (.int 0 :: st) σ) : mh_W G X μ pc lv (.ref (G.2.2.2 (1000 + i)) :: st) σ := by
  subst hq
  intro p e s m args below meth c ok H locs ls hl hw hs
  exact vk_getf ok.1 ok.2.1 (ok.2.2.2.2.2.2.2.2.2.2.2.1.1 i hi).2.1 hs ok.2.2.2.1 (ok.2.2.2.2.1 _ hk) (fun _ h => h) hd (kk p e s m args below meth c ok H locs ls hl hw hs)
theorem mw_strl {i : Nat} (hi : i < 2) (q : Nat) (hq : pc + 1 = q) {v : Int32} (hd : decode μ.2.1 pc = .ok (.arraylength, 1)) (hv : Int32.ofNat (mh_sl.getD i 0) = v) (kk : mh_W G X μ q lv (.int v :: st) σ) : mh_W G X μ pc lv (.ref (G.2.2.2 (1010 + i)) :: st) σ := by
  subst hq
  intro p e s m args below meth c ok H locs ls hl hw hs
  exact va_tlen ok.1 ok.2.1 (ok.2.2.2.2.2.2.2.2.2.2.2.1.1 i hi).2.2.2 hs hv hd (kk p e s m args below meth c ok H locs ls hl hw hs)
theorem mw_strb {i : Nat} {j : Int32} {a b : Int} (hi : i < 2) (q : Nat) (hq : pc + 1 = q) (hd : decode μ.2.1 pc = .ok (.baload, 1)) (hj : mh_r j a b) (hb : 0 ≤ a ∧ b < mh_sl.getD i 0) (kk : ∀ z : Int32, z = (mh_sb.getD i []).getD j.toNatClampNeg 0 → mh_W G X μ q lv (.int z :: st) σ) : mh_W G X μ pc lv (.int j :: .ref (G.2.2.2 (1010 + i)) :: st) σ := by
  subst hq
  intro p e s m args below meth c ok H locs ls hl hw hs
  exact va_tb ok.1 ok.2.1 (ok.2.2.2.2.2.2.2.2.2.2.2.1.1 i hi).2.2.2 hs (mh_in hj hb.1 hb.2) rfl hd (kk _ rfl p e s m args below meth c ok H locs ls hl hw hs)
theorem mw_callK {ix n d i : Nat} {ν : mh_Mt} {Q1 : Option Value → mh_H → Prop} (hi2 : i < 2) (As rest : List Value) (q : Nat) (hq : pc + 3 = q) (hd : decode μ.2.1 pc = .ok (.invokevirtual ix, 3)) (hk : mh_lk μ.1.cls ix ν) (hc : mh_cd ν n) (hi : mh_iM ν) (hcl : ν.1.cls = "java/lang/String")
    (hM : mh_M X.1 G d ν (.ref (G.2.2.2 (1000 + i)) :: As) σ Q1) (hn : As.length = n) (hst : As.reverse ++ .ref (G.2.2.2 (1000 + i)) :: rest = st) (hro : (rest.map fun v => v.category).sum ≤ 8) (hR : (mh_rm d).frames + 1 ≤ X.2.1.frames ∧ 8 + (ν.2.2.1 + 11) + (mh_rm d).locals ≤ X.2.1.locals)
    (kk : ∀ (v : Option Value) (σ' : mh_H), Q1 v σ' → mh_W G X μ q lv (v.toList ++ rest) σ') : mh_W G X μ pc lv st σ := by
  subst hq
  intro p e s m args below meth c ok H locs ls hl hw hs
  have hG : GoodIn mh_base (.code ν.1 ν.2.1 ν.2.2.1 ν.2.2.2 :: mh_base) := fun w h => by
    rcases List.mem_cons.mp h with rfl | h
    · exact mh_good hc.2.1
    · exact mh_good h
  have hrec := vk_recv ok.2.2.2.2.2.2.2.2.2.2.2.1 hi2 hs
  rw [← hcl] at hrec
  have hpre : PreV s H ν.1.cls (G.2.2.2 (1000 + i)) (va_Pc (.ref (G.2.2.2 (1000 + i)) :: As) (fun U => mh_Am G U ∧ mh_Wd G σ U.heap ∧ mh_Sg G (mh_A G) U U.heap)) As := ⟨mh_blind, hrec, fun U hU hW => ⟨rfl, ok.2.2.2.2.2.1.warm hW, by rw [hU]; exact hw, by rw [hU]; exact ok.2.2.2.2.2.2.2.2.2.2.2.to hs (fun q ⟨k, h1, h2⟩ => by rw [h2]; exact ok.2.2.2.2.2.2.2.2.1 k h1) hW⟩⟩
  have hfix : CallFix p m c μ.2.1 μ.2.2.1 s args mh_base μ.1.cls := ⟨ok.1, ok.2.1, ok.2.2.1, ok.2.2.2.1, ok.2.2.2.2.1⟩
  have hroom : X.2.2.2.1 + 0 ≤ X.2.1.cells ∧ X.2.2.2.2.1 + 0 ≤ X.2.1.slots := ⟨ok.2.2.2.2.2.2.2.2.2.1, ok.2.2.2.2.2.2.2.2.2.2.1⟩
  have hrun : va_Run p X.1 e X.2.1 s m args below meth c H locs X.2.2.2.1 X.2.2.2.2.1 0 0 (F0 m pc ls st) rest (mh_Q G Q1 (Value.ref (G.2.2.2 (1000 + i)) :: As).toArray) (mh_A G) := by
    rcases hk with hk | ⟨host, hk⟩
    · exact va_runV hfix hM ⟨callB_of n ok.2.2.2.2.1 hG rfl rfl rfl (ok.2.2.2.2.1 _ hc.1) (ok.2.2.2.2.1 _ hk) hc.2.2.1 hR, ok.2.2.2.2.1 _ hi.1, ok.2.2.2.2.1 _ hi.2⟩ hpre rfl hn hl.1 hst.symm (lv_room hro) hd hroom
    · exact va_runVN hfix hM ⟨va_cnB n ok.2.2.2.2.1 hG rfl rfl rfl (ok.2.2.2.2.2.1.2.1 _ hk) (ok.2.2.2.2.1 _ hc.1) hc.2.2.1 hR, ok.2.2.2.2.1 _ hi.1, ok.2.2.2.2.1 _ hi.2⟩ hpre rfl hn hl.1 hst.symm (lv_room hro) hd hroom
  exact mh_go hrun hs ok.2.2.2.2.2.2.2.2.1 (fun v σ' hq H1 locs1 hw1 hs1 => kk v σ' hq p e s m args below meth c ok H1 locs1 ls hl hw1 hs1)
theorem mw_callKi {ix n d i : Nat} {ν : mh_Mt} {P : Int32 → mh_H → Prop} (hi2 : i < 2) (As rest : List Value) (q : Nat) (hq : pc + 3 = q) (hd : decode μ.2.1 pc = .ok (.invokevirtual ix, 3)) (hk : mh_lk μ.1.cls ix ν) (hc : mh_cd ν n) (hi : mh_iM ν) (hcl : ν.1.cls = "java/lang/String")
    (hM : mh_M X.1 G d ν (.ref (G.2.2.2 (1000 + i)) :: As) σ (fun r s => ∃ z : Int32, r = some (.int z) ∧ P z s)) (hn : As.length = n) (hst : As.reverse ++ .ref (G.2.2.2 (1000 + i)) :: rest = st) (hro : (rest.map fun v => v.category).sum ≤ 8) (hR : (mh_rm d).frames + 1 ≤ X.2.1.frames ∧ 8 + (ν.2.2.1 + 11) + (mh_rm d).locals ≤ X.2.1.locals)
    (kk : ∀ (z : Int32) (σ' : mh_H), P z σ' → mh_W G X μ q lv (.int z :: rest) σ') : mh_W G X μ pc lv st σ :=
  mw_callK hi2 As rest q hq hd hk hc hi hcl hM hn hst hro hR (fun v σ' hq => by obtain ⟨z, rfl, hp⟩ := hq; exact kk z σ' hp)
end MWS
theorem mw_bret {l : Launch} {G : mh_G} {d : Nat} {Q : Option Value → mh_H → Prop} {μ : mh_Mt} {pc : Nat} {lv : List (Nat × Value)} {σ : mh_H} {v : Int32} (hd : decode μ.2.1 pc = .ok (.ireturn, 1)) (hr : μ.2.2.2 = some .byte) (hv : narrow .byte (.int v) = .int v) (hQ : Q (some (.int v)) σ) : mh_W G (mh_XM l G d Q) μ pc lv [.int v] σ := by
  intro p e s m args below meth c ok H locs ls hl hw hs
  exact W.zret ok.1 ok.2.1 (by rw [ok.2.2.2.2.2.2.1, hr]) hv (fun t ht hW => ⟨⟨_, σ, rfl, hQ, by rw [ht]; exact hw⟩, hs.F ht⟩) hs.2.2 hd ok.2.2.2.2.2.2.2.1

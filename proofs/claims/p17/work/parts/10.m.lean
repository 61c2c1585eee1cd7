section
abbrev mh_Mi (l : Launch) (G : mh_G) (d : Nat) (μ : mh_Mt) (av : List Value) (σ : mh_H) (P : Int32 → mh_H → Prop) : Prop := mh_M l G d μ av σ (fun r s => ∃ z : Int32, r = some (.int z) ∧ P z s)
abbrev mh_Ml (l : Launch) (G : mh_G) (d : Nat) (μ : mh_Mt) (av : List Value) (σ : mh_H) (P : Int64 → mh_H → Prop) : Prop := mh_M l G d μ av σ (fun r s => ∃ z : Int64, r = some (.long z) ∧ P z s)
abbrev mh_Mv (l : Launch) (G : mh_G) (d : Nat) (μ : mh_Mt) (av : List Value) (σ : mh_H) (P : mh_H → Prop) : Prop := mh_M l G d μ av σ (fun r s => r = none ∧ P s)
abbrev mh_Qi (P : Int32 → mh_H → Prop) : Option Value → mh_H → Prop := fun r s => ∃ z : Int32, r = some (.int z) ∧ P z s
abbrev mh_Ql (P : Int64 → mh_H → Prop) : Option Value → mh_H → Prop := fun r s => ∃ z : Int64, r = some (.long z) ∧ P z s
abbrev mh_Qv (P : mh_H → Prop) : Option Value → mh_H → Prop := fun r s => r = none ∧ P s
theorem mh_mr {D n : Nat} (h : 1 ≤ D) (hn : n ≤ 24) : 1 ≤ (mh_rm D).frames ∧ n + 13 ≤ (mh_rm D).locals := by
  refine ⟨h, ?_⟩
  show n + 13 ≤ 40 * D
  omega
theorem mh_lt1 {x y : Int32} {a b c d : Int} (h : x.toInt < y.toInt) (hx : mh_r x a b) (hy : mh_r y c d) (hi : Int) (hb : b ≤ hi ∨ d - 1 ≤ hi) : mh_r x a hi := ⟨hx.1, by have := hx.2; have := hy.2; omega⟩
theorem mh_lt2 {x y : Int32} {a b c d : Int} (h : x.toInt < y.toInt) (hx : mh_r x a b) (hy : mh_r y c d) (lo : Int) (hb : lo ≤ c ∨ lo ≤ a + 1) : mh_r y lo d := ⟨by have := hx.1; have := hy.1; omega, hy.2⟩
theorem mh_le1 {x y : Int32} {a b c d : Int} (h : x.toInt ≤ y.toInt) (hx : mh_r x a b) (hy : mh_r y c d) (hi : Int) (hb : b ≤ hi ∨ d ≤ hi) : mh_r x a hi := ⟨hx.1, by have := hx.2; have := hy.2; omega⟩
theorem mh_le2 {x y : Int32} {a b c d : Int} (h : x.toInt ≤ y.toInt) (hx : mh_r x a b) (hy : mh_r y c d) (lo : Int) (hb : lo ≤ c ∨ lo ≤ a) : mh_r y lo d := ⟨by have := hx.1; have := hy.1; omega, hy.2⟩
theorem mh_eq1 {x y : Int32} {a b c d : Int} (h : x.toInt = y.toInt) (hx : mh_r x a b) (hy : mh_r y c d) (lo hi : Int) (hb : (lo ≤ a ∨ lo ≤ c) ∧ (b ≤ hi ∨ d ≤ hi)) : mh_r x lo hi := ⟨by have := hx.1; have := hy.1; omega, by have := hx.2; have := hy.2; omega⟩
theorem mh_ne1 {x y : Int32} {a b c : Int} (h : x.toInt ≠ y.toInt) (hx : mh_r x a b) (hy : mh_r y c c) (lo hi : Int) (hb : (lo ≤ a ∨ (c = a ∧ lo ≤ a + 1)) ∧ (b ≤ hi ∨ (c = b ∧ b - 1 ≤ hi))) : mh_r x lo hi := ⟨by have := hx.1; have := hy.1; have := hy.2; omega, by have := hx.2; have := hy.1; have := hy.2; omega⟩
theorem mh_nlt {x y : Int32} {a b c d : Int} (h : x.toInt < y.toInt) (hx : mh_r x a b) (hy : mh_r y c d) (hb : d ≤ a) : False := by have := hx.1; have := hy.2; omega
theorem mh_nle {x y : Int32} {a b c d : Int} (h : x.toInt ≤ y.toInt) (hx : mh_r x a b) (hy : mh_r y c d) (hb : d < a) : False := by have := hx.1; have := hy.2; omega
theorem mh_neq {x y : Int32} {a b c d : Int} (h : x.toInt = y.toInt) (hx : mh_r x a b) (hy : mh_r y c d) (hb : d < a ∨ b < c) : False := by have := hx.1; have := hx.2; have := hy.1; have := hy.2; omega
theorem mh_nne {x y : Int32} {a : Int} (h : x.toInt ≠ y.toInt) (hx : mh_r x a a) (hy : mh_r y a a) : False := by have := hx.1; have := hx.2; have := hy.1; have := hy.2; omega
theorem mh_r0 : mh_r 0 0 0 := mh_rc rfl
theorem mh_z1 {z : Int32} (r : mh_r z 0 1) (c : z.toInt ≠ 0) : z.toInt = 1 := by have := r.1; have := r.2; omega
theorem mh_nz {x : Int32} (h : mh_r x 0 1) : vp_nar .boolean x = x := by rcases mh_01 h with h | h <;> rw [h] <;> rfl
theorem mh_nzr {x : Int32} (h : mh_r x 0 1) : mh_r (vp_nar .boolean x) 0 1 := by rw [mh_nz h]; exact h
theorem mh_i2b {x : Int32} : mh_r x.toInt8.toInt32 (-128) 127 := by
  have h1 := Int8.le_toInt x.toInt8
  have h2 := Int8.toInt_lt x.toInt8
  rw [mh_r, Int8.toInt_toInt32]
  omega
theorem mh_nbr {x : Int32} : mh_r (vp_nar .byte x) (-128) 127 := by rw [vp_nar_byte]; exact mh_i2b
theorem mh_and {x m : Int32} (k : Nat) (hm : m.toBitVec.toNat = 2 ^ k - 1) (hk : k ≤ 30) : mh_r (x &&& m) 0 (2 ^ k - 1) := by
  have h := vp_in_iff.mp (pk_andIn x k hm hk)
  refine ⟨h.1, ?_⟩
  have := h.2
  rw [show ((2 ^ k : Nat) : Int) = (2 : Int) ^ k from by push_cast; rfl] at this
  omega
theorem mh_and1 {x : Int32} : mh_r (x &&& 1) 0 1 := mh_r_wk (mh_and 1 rfl (by decide)) (by decide)
theorem mh_and255 {x : Int32} : mh_r (x &&& 255) 0 255 := mh_r_wk (mh_and 8 rfl (by decide)) (by decide)
theorem mh_and31 {x : Int32} : mh_r (x &&& 31) 0 31 := mh_r_wk (mh_and 5 rfl (by decide)) (by decide)
theorem mh_i2c {x : Int32} : mh_r (x.toUInt32 % 65536).toInt32 0 65535 := by
  rw [pk_char]
  have : x.toBitVec.toNat % 65536 < 65536 := Nat.mod_lt _ (by decide)
  rw [mh_r, nI_toInt (by omega)]
  omega
section MW5
variable {G : mh_G} {X : mh_X} {μ : mh_Mt} {pc : Nat} {lv : List (Nat × Value)} {st : List Value} {σ : mh_H}
theorem mw_iincR {i k : Nat} {n : Int} {x : Int32} {a b : Int} (lo hi : Int) (q : Nat) (hq : pc + 3 = q) (lvf : Int32 → List (Nat × Value)) (hd : decode μ.2.1 pc = .ok (.iinc i n, 3)) (hk : lv[k]? = some (i, .int x)) (hn : i < μ.2.2.1) (hv : ∀ z : Int32, (i, Value.int z) :: lv.filter (fun q => !(q.1 == i) && !(q.1 + 1 == i && q.2.category == 2)) = lvf z) (hx : mh_r x a b) (hnn : (Int32.ofInt n).toInt = n) (hb : (lo ≤ a + n ∧ b + n ≤ hi) ∧ -2147483648 ≤ lo ∧ hi ≤ 2147483647)
    (kk : ∀ z : Int32, z.toInt = x.toInt + n → mh_r z lo hi → mh_W G X μ q (lvf z) st σ) : mh_W G X μ pc lv st σ := by
  have h0 : lo ≤ x.toInt + (Int32.ofInt n).toInt ∧ x.toInt + (Int32.ofInt n).toInt ≤ hi := ⟨by have := hx.1; omega, by have := hx.2; omega⟩
  have h1 := mh_add h0 hb.2
  refine mw_iinc (v := x + Int32.ofInt n) q hq (lvf (x + Int32.ofInt n)) hd hk rfl hn (hv _) (kk _ (by rw [h1, hnn]) ?_)
  rw [mh_r, h1]
  exact h0
theorem mw_iincU {i k : Nat} {n : Int} {x : Int32} (q : Nat) (hq : pc + 3 = q) (lvf : Int32 → List (Nat × Value)) (hd : decode μ.2.1 pc = .ok (.iinc i n, 3)) (hk : lv[k]? = some (i, .int x)) (hn : i < μ.2.2.1) (hv : ∀ z : Int32, (i, Value.int z) :: lv.filter (fun q => !(q.1 == i) && !(q.1 + 1 == i && q.2.category == 2)) = lvf z)
    (kk : ∀ z : Int32, z = x + Int32.ofInt n → mh_W G X μ q (lvf z) st σ) : mh_W G X μ pc lv st σ :=
  mw_iinc (v := x + Int32.ofInt n) q hq (lvf (x + Int32.ofInt n)) hd hk rfl hn (hv _) (kk _ rfl)
theorem mw_callVi {ix n d k ci nf N : Nat} {T : u_T} {ν : mh_Mt} {P : Int32 → mh_H → Prop} (As rest : List Value) (q : Nat) (hq : pc + 3 = q) (hd : decode μ.2.1 pc = .ok (.invokevirtual ix, 3)) (hk : mh_lk μ.1.cls ix ν) (hc : mh_cd ν n) (hi : mh_iM ν) (hl0 : mh_lay k = (ci, nf)) (hcl : vwCl[ci]? = some (ν.1.cls, T, N)) (hci : ci < 20)
    (hM : mh_Mi X.1 G d ν (.ref (G.2.2.2 k) :: As) σ P) (hn : As.length = n) (hst : As.reverse ++ .ref (G.2.2.2 k) :: rest = st) (hro : (rest.map fun v => v.category).sum ≤ 8) (hR : (mh_rm d).frames + 1 ≤ X.2.1.frames ∧ 8 + (ν.2.2.1 + 11) + (mh_rm d).locals ≤ X.2.1.locals)
    (kk : ∀ (z : Int32) (σ' : mh_H), P z σ' → mh_W G X μ q lv (.int z :: rest) σ') : mh_W G X μ pc lv st σ :=
  mw_callV As rest q hq hd hk hc hi hl0 hcl hci hM hn hst hro hR (fun v σ' hq => by obtain ⟨z, rfl, hp⟩ := hq; exact kk z σ' hp)
theorem mw_callVl {ix n d k ci nf N : Nat} {T : u_T} {ν : mh_Mt} {P : Int64 → mh_H → Prop} (As rest : List Value) (q : Nat) (hq : pc + 3 = q) (hd : decode μ.2.1 pc = .ok (.invokevirtual ix, 3)) (hk : mh_lk μ.1.cls ix ν) (hc : mh_cd ν n) (hi : mh_iM ν) (hl0 : mh_lay k = (ci, nf)) (hcl : vwCl[ci]? = some (ν.1.cls, T, N)) (hci : ci < 20)
    (hM : mh_Ml X.1 G d ν (.ref (G.2.2.2 k) :: As) σ P) (hn : As.length = n) (hst : As.reverse ++ .ref (G.2.2.2 k) :: rest = st) (hro : (rest.map fun v => v.category).sum ≤ 8) (hR : (mh_rm d).frames + 1 ≤ X.2.1.frames ∧ 8 + (ν.2.2.1 + 11) + (mh_rm d).locals ≤ X.2.1.locals)
    (kk : ∀ (z : Int64) (σ' : mh_H), P z σ' → mh_W G X μ q lv (.long z :: rest) σ') : mh_W G X μ pc lv st σ :=
  mw_callV As rest q hq hd hk hc hi hl0 hcl hci hM hn hst hro hR (fun v σ' hq => by obtain ⟨z, rfl, hp⟩ := hq; exact kk z σ' hp)
theorem mw_callVv {ix n d k ci nf N : Nat} {T : u_T} {ν : mh_Mt} {P : mh_H → Prop} (As rest : List Value) (q : Nat) (hq : pc + 3 = q) (hd : decode μ.2.1 pc = .ok (.invokevirtual ix, 3)) (hk : mh_lk μ.1.cls ix ν) (hc : mh_cd ν n) (hi : mh_iM ν) (hl0 : mh_lay k = (ci, nf)) (hcl : vwCl[ci]? = some (ν.1.cls, T, N)) (hci : ci < 20)
    (hM : mh_Mv X.1 G d ν (.ref (G.2.2.2 k) :: As) σ P) (hn : As.length = n) (hst : As.reverse ++ .ref (G.2.2.2 k) :: rest = st) (hro : (rest.map fun v => v.category).sum ≤ 8) (hR : (mh_rm d).frames + 1 ≤ X.2.1.frames ∧ 8 + (ν.2.2.1 + 11) + (mh_rm d).locals ≤ X.2.1.locals)
    (kk : ∀ σ' : mh_H, P σ' → mh_W G X μ q lv rest σ') : mh_W G X μ pc lv st σ :=
  mw_callV As rest q hq hd hk hc hi hl0 hcl hci hM hn hst hro hR (fun v σ' hq => by obtain ⟨rfl, hp⟩ := hq; exact kk σ' hp)
theorem mw_callSi {ix n d : Nat} {ν : mh_Mt} {P : Int32 → mh_H → Prop} (As rest : List Value) (q : Nat) (hq : pc + 3 = q) (hd : decode μ.2.1 pc = .ok (.invokestatic ix, 3)) (hk : mh_lk μ.1.cls ix ν) (hc : mh_cd ν n) (hi : mh_sM ν) 
    (hM : mh_Mi X.1 G d ν As σ P) (hn : As.length = n) (hst : As.reverse ++ rest = st) (hro : (rest.map fun v => v.category).sum ≤ 8) (hR : (mh_rm d).frames + 1 ≤ X.2.1.frames ∧ 8 + (ν.2.2.1 + 11) + (mh_rm d).locals ≤ X.2.1.locals)
    (kk : ∀ (z : Int32) (σ' : mh_H), P z σ' → mh_W G X μ q lv (.int z :: rest) σ') : mh_W G X μ pc lv st σ :=
  mw_callS As rest q hq hd hk hc hi  hM hn hst hro hR (fun v σ' hq => by obtain ⟨z, rfl, hp⟩ := hq; exact kk z σ' hp)
theorem mw_callSl {ix n d : Nat} {ν : mh_Mt} {P : Int64 → mh_H → Prop} (As rest : List Value) (q : Nat) (hq : pc + 3 = q) (hd : decode μ.2.1 pc = .ok (.invokestatic ix, 3)) (hk : mh_lk μ.1.cls ix ν) (hc : mh_cd ν n) (hi : mh_sM ν) 
    (hM : mh_Ml X.1 G d ν As σ P) (hn : As.length = n) (hst : As.reverse ++ rest = st) (hro : (rest.map fun v => v.category).sum ≤ 8) (hR : (mh_rm d).frames + 1 ≤ X.2.1.frames ∧ 8 + (ν.2.2.1 + 11) + (mh_rm d).locals ≤ X.2.1.locals)
    (kk : ∀ (z : Int64) (σ' : mh_H), P z σ' → mh_W G X μ q lv (.long z :: rest) σ') : mh_W G X μ pc lv st σ :=
  mw_callS As rest q hq hd hk hc hi  hM hn hst hro hR (fun v σ' hq => by obtain ⟨z, rfl, hp⟩ := hq; exact kk z σ' hp)
theorem mw_callSv {ix n d : Nat} {ν : mh_Mt} {P : mh_H → Prop} (As rest : List Value) (q : Nat) (hq : pc + 3 = q) (hd : decode μ.2.1 pc = .ok (.invokestatic ix, 3)) (hk : mh_lk μ.1.cls ix ν) (hc : mh_cd ν n) (hi : mh_sM ν) 
    (hM : mh_Mv X.1 G d ν As σ P) (hn : As.length = n) (hst : As.reverse ++ rest = st) (hro : (rest.map fun v => v.category).sum ≤ 8) (hR : (mh_rm d).frames + 1 ≤ X.2.1.frames ∧ 8 + (ν.2.2.1 + 11) + (mh_rm d).locals ≤ X.2.1.locals)
    (kk : ∀ σ' : mh_H, P σ' → mh_W G X μ q lv rest σ') : mh_W G X μ pc lv st σ :=
  mw_callS As rest q hq hd hk hc hi  hM hn hst hro hR (fun v σ' hq => by obtain ⟨rfl, hp⟩ := hq; exact kk σ' hp)
end MW5
theorem rc_0 : mh_r (0) (0) (0) := mh_rc (by decide)
theorem rc_1 : mh_r (1) (1) (1) := mh_rc (by decide)
theorem rc_2 : mh_r (2) (2) (2) := mh_rc (by decide)
theorem rc_3 : mh_r (3) (3) (3) := mh_rc (by decide)
theorem rc_4 : mh_r (4) (4) (4) := mh_rc (by decide)
theorem rc_5 : mh_r (5) (5) (5) := mh_rc (by decide)
theorem rc_6 : mh_r (6) (6) (6) := mh_rc (by decide)
theorem rc_7 : mh_r (7) (7) (7) := mh_rc (by decide)
theorem rc_8 : mh_r (8) (8) (8) := mh_rc (by decide)
theorem rc_9 : mh_r (9) (9) (9) := mh_rc (by decide)
theorem rc_10 : mh_r (10) (10) (10) := mh_rc (by decide)
theorem rc_11 : mh_r (11) (11) (11) := mh_rc (by decide)
theorem rc_12 : mh_r (12) (12) (12) := mh_rc (by decide)
theorem rc_13 : mh_r (13) (13) (13) := mh_rc (by decide)
theorem rc_14 : mh_r (14) (14) (14) := mh_rc (by decide)
theorem rc_16 : mh_r (16) (16) (16) := mh_rc (by decide)
theorem rc_19 : mh_r (19) (19) (19) := mh_rc (by decide)
theorem rc_20 : mh_r (20) (20) (20) := mh_rc (by decide)
theorem rc_24 : mh_r (24) (24) (24) := mh_rc (by decide)
theorem rc_25 : mh_r (25) (25) (25) := mh_rc (by decide)
theorem rc_26 : mh_r (26) (26) (26) := mh_rc (by decide)
theorem rc_28 : mh_r (28) (28) (28) := mh_rc (by decide)
theorem rc_29 : mh_r (29) (29) (29) := mh_rc (by decide)
theorem rc_30 : mh_r (30) (30) (30) := mh_rc (by decide)
theorem rc_31 : mh_r (31) (31) (31) := mh_rc (by decide)
theorem rc_32 : mh_r (32) (32) (32) := mh_rc (by decide)
theorem rc_33 : mh_r (33) (33) (33) := mh_rc (by decide)
theorem rc_37 : mh_r (37) (37) (37) := mh_rc (by decide)
theorem rc_38 : mh_r (38) (38) (38) := mh_rc (by decide)
theorem rc_40 : mh_r (40) (40) (40) := mh_rc (by decide)
theorem rc_41 : mh_r (41) (41) (41) := mh_rc (by decide)
theorem rc_42 : mh_r (42) (42) (42) := mh_rc (by decide)
theorem rc_43 : mh_r (43) (43) (43) := mh_rc (by decide)
theorem rc_45 : mh_r (45) (45) (45) := mh_rc (by decide)
theorem rc_47 : mh_r (47) (47) (47) := mh_rc (by decide)
theorem rc_48 : mh_r (48) (48) (48) := mh_rc (by decide)
theorem rc_57 : mh_r (57) (57) (57) := mh_rc (by decide)
theorem rc_58 : mh_r (58) (58) (58) := mh_rc (by decide)
theorem rc_59 : mh_r (59) (59) (59) := mh_rc (by decide)
theorem rc_60 : mh_r (60) (60) (60) := mh_rc (by decide)
theorem rc_61 : mh_r (61) (61) (61) := mh_rc (by decide)
theorem rc_62 : mh_r (62) (62) (62) := mh_rc (by decide)
theorem rc_63 : mh_r (63) (63) (63) := mh_rc (by decide)
theorem rc_91 : mh_r (91) (91) (91) := mh_rc (by decide)
theorem rc_93 : mh_r (93) (93) (93) := mh_rc (by decide)
theorem rc_97 : mh_r (97) (97) (97) := mh_rc (by decide)
theorem rc_99 : mh_r (99) (99) (99) := mh_rc (by decide)
theorem rc_100 : mh_r (100) (100) (100) := mh_rc (by decide)
theorem rc_102 : mh_r (102) (102) (102) := mh_rc (by decide)
theorem rc_104 : mh_r (104) (104) (104) := mh_rc (by decide)
theorem rc_105 : mh_r (105) (105) (105) := mh_rc (by decide)
theorem rc_106 : mh_r (106) (106) (106) := mh_rc (by decide)
theorem rc_107 : mh_r (107) (107) (107) := mh_rc (by decide)
theorem rc_108 : mh_r (108) (108) (108) := mh_rc (by decide)
theorem rc_109 : mh_r (109) (109) (109) := mh_rc (by decide)
theorem rc_110 : mh_r (110) (110) (110) := mh_rc (by decide)
theorem rc_115 : mh_r (115) (115) (115) := mh_rc (by decide)
theorem rc_116 : mh_r (116) (116) (116) := mh_rc (by decide)
theorem rc_118 : mh_r (118) (118) (118) := mh_rc (by decide)
theorem rc_119 : mh_r (119) (119) (119) := mh_rc (by decide)
theorem rc_120 : mh_r (120) (120) (120) := mh_rc (by decide)
theorem rc_121 : mh_r (121) (121) (121) := mh_rc (by decide)
theorem rc_124 : mh_r (124) (124) (124) := mh_rc (by decide)
theorem rc_143 : mh_r (143) (143) (143) := mh_rc (by decide)
theorem rc_144 : mh_r (144) (144) (144) := mh_rc (by decide)
theorem rc_145 : mh_r (145) (145) (145) := mh_rc (by decide)
theorem rc_180 : mh_r (180) (180) (180) := mh_rc (by decide)
theorem rc_192 : mh_r (192) (192) (192) := mh_rc (by decide)
theorem rc_198 : mh_r (198) (198) (198) := mh_rc (by decide)
theorem rc_199 : mh_r (199) (199) (199) := mh_rc (by decide)
theorem rc_200 : mh_r (200) (200) (200) := mh_rc (by decide)
theorem rc_220 : mh_r (220) (220) (220) := mh_rc (by decide)
theorem rc_240 : mh_r (240) (240) (240) := mh_rc (by decide)
theorem rc_255 : mh_r (255) (255) (255) := mh_rc (by decide)
theorem rc_299 : mh_r (299) (299) (299) := mh_rc (by decide)
theorem rc_300 : mh_r (300) (300) (300) := mh_rc (by decide)
theorem rc_301 : mh_r (301) (301) (301) := mh_rc (by decide)
theorem rc_600 : mh_r (600) (600) (600) := mh_rc (by decide)
theorem rc_999 : mh_r (999) (999) (999) := mh_rc (by decide)
theorem rc_1000 : mh_r (1000) (1000) (1000) := mh_rc (by decide)
theorem rc_3010 : mh_r (3010) (3010) (3010) := mh_rc (by decide)
theorem rc_9999 : mh_r (9999) (9999) (9999) := mh_rc (by decide)
theorem rc_10000 : mh_r (10000) (10000) (10000) := mh_rc (by decide)
theorem rc_13849 : mh_r (13849) (13849) (13849) := mh_rc (by decide)
theorem rc_25173 : mh_r (25173) (25173) (25173) := mh_rc (by decide)
theorem rc_65535 : mh_r (65535) (65535) (65535) := mh_rc (by decide)
theorem rc_65536 : mh_r (65536) (65536) (65536) := mh_rc (by decide)
theorem rc_m1 : mh_r (-1) (-1) (-1) := mh_rc (by decide)
theorem rc_m2 : mh_r (-2) (-2) (-2) := mh_rc (by decide)
theorem rc_m3 : mh_r (-3) (-3) (-3) := mh_rc (by decide)
theorem rc_m8 : mh_r (-8) (-8) (-8) := mh_rc (by decide)
theorem rc_m1000 : mh_r (-1000) (-1000) (-1000) := mh_rc (by decide)
theorem rc_2147483647 : mh_r (2147483647) (2147483647) (2147483647) := mh_rc (by decide)
theorem rc_1000000000 : mh_r (1000000000) (1000000000) (1000000000) := mh_rc (by decide)
end
section
theorem mh_lc {x y : Int64} {z : Int32} (t : z = lg_cmp x y) : (z.toInt = 0 ↔ x.toInt = y.toInt) ∧ (z.toInt < 0 ↔ x.toInt < y.toInt) ∧ mh_r z (-1) 1 := by
  subst t
  unfold lg_cmp
  by_cases h1 : x > y
  · rw [if_pos h1]
    have h2 : y.toInt < x.toInt := Int64.lt_iff_toInt_lt.mp h1
    have h3 : (1 : Int32).toInt = 1 := by decide
    refine ⟨?_, ?_, ?_⟩
    · rw [h3]; omega
    · rw [h3]; omega
    · rw [mh_r, h3]; omega
  · rw [if_neg h1]
    have h2 : ¬ y.toInt < x.toInt := fun q => h1 (Int64.lt_iff_toInt_lt.mpr q)
    by_cases h4 : x = y
    · rw [if_pos h4]
      subst h4
      have h3 : (0 : Int32).toInt = 0 := by decide
      refine ⟨?_, ?_, ?_⟩
      · rw [h3]; omega
      · rw [h3]; omega
      · rw [mh_r, h3]; omega
    · rw [if_neg h4]
      have h5 : x.toInt ≠ y.toInt := fun q => h4 (Int64.toInt_inj.mp q)
      have h3 : (-1 : Int32).toInt = -1 := by decide
      refine ⟨?_, ?_, ?_⟩
      · rw [h3]; omega
      · rw [h3]; omega
      · rw [mh_r, h3]; omega
theorem mh_lnz {y : Int64} (h : y.toInt ≠ 0) : ¬ y = 0 := fun q => h (by rw [q]; decide)
theorem mh_nzc {y : Int32} (h : y.toInt ≠ (0 : Int32).toInt) : ¬ y = 0 := fun q => h (by rw [q])
theorem mh_isL_s {S : List (Nat × Nat)} {k o j : Nat} (h : mh_isL k) (h1 : mh_sI S (40 + o) j) (h2 : mh_sI S (48 + o) j) : mh_sI S (k + o) j := by
  rcases h with rfl | rfl
  · exact h1
  · exact h2
theorem mh_nsI {S : List (Nat × Nat)} {k j : Nat} (h : S.any (fun e => e.1 == k && (e.2 == 9999 || e.2 == j)) = false) : ¬ mh_sI S k j := by
  rintro ⟨e, he, h1, h2⟩
  have h3 := List.any_eq_false.mp h e he
  rw [h1] at h3
  rcases h2 with h2 | h2 <;> rw [h2] at h3 <;> simp at h3
theorem mh_dve {x y z : Int32} {n : Int} (t : z.toInt = x.toInt.tdiv y.toInt) (h : (0 : Int) ≤ x.toInt) (hy : y.toInt = n) : z.toInt = x.toInt / n := by
  rw [t, hy, Int.tdiv_eq_ediv_of_nonneg h]
theorem mh_rme {x y z : Int32} {n : Int} (t : z.toInt = x.toInt.tmod y.toInt) (h : (0 : Int) ≤ x.toInt) (hy : y.toInt = n) : z.toInt = x.toInt % n := by
  rw [t, hy, Int.tmod_eq_emod_of_nonneg h]
theorem kc_0 : (0 : Int32).toInt = 0 := by decide
theorem kc_1 : (1 : Int32).toInt = 1 := by decide
theorem kc_2 : (2 : Int32).toInt = 2 := by decide
theorem kc_3 : (3 : Int32).toInt = 3 := by decide
theorem kc_4 : (4 : Int32).toInt = 4 := by decide
theorem kc_5 : (5 : Int32).toInt = 5 := by decide
theorem kc_6 : (6 : Int32).toInt = 6 := by decide
theorem kc_7 : (7 : Int32).toInt = 7 := by decide
theorem kc_8 : (8 : Int32).toInt = 8 := by decide
theorem kc_9 : (9 : Int32).toInt = 9 := by decide
theorem kc_10 : (10 : Int32).toInt = 10 := by decide
theorem kc_11 : (11 : Int32).toInt = 11 := by decide
theorem kc_12 : (12 : Int32).toInt = 12 := by decide
theorem kc_13 : (13 : Int32).toInt = 13 := by decide
theorem kc_14 : (14 : Int32).toInt = 14 := by decide
theorem kc_16 : (16 : Int32).toInt = 16 := by decide
theorem kc_19 : (19 : Int32).toInt = 19 := by decide
theorem kc_20 : (20 : Int32).toInt = 20 := by decide
theorem kc_24 : (24 : Int32).toInt = 24 := by decide
theorem kc_25 : (25 : Int32).toInt = 25 := by decide
theorem kc_26 : (26 : Int32).toInt = 26 := by decide
theorem kc_28 : (28 : Int32).toInt = 28 := by decide
theorem kc_29 : (29 : Int32).toInt = 29 := by decide
theorem kc_30 : (30 : Int32).toInt = 30 := by decide
theorem kc_31 : (31 : Int32).toInt = 31 := by decide
theorem kc_32 : (32 : Int32).toInt = 32 := by decide
theorem kc_33 : (33 : Int32).toInt = 33 := by decide
theorem kc_37 : (37 : Int32).toInt = 37 := by decide
theorem kc_38 : (38 : Int32).toInt = 38 := by decide
theorem kc_40 : (40 : Int32).toInt = 40 := by decide
theorem kc_41 : (41 : Int32).toInt = 41 := by decide
theorem kc_42 : (42 : Int32).toInt = 42 := by decide
theorem kc_43 : (43 : Int32).toInt = 43 := by decide
theorem kc_45 : (45 : Int32).toInt = 45 := by decide
theorem kc_47 : (47 : Int32).toInt = 47 := by decide
theorem kc_48 : (48 : Int32).toInt = 48 := by decide
theorem kc_57 : (57 : Int32).toInt = 57 := by decide
theorem kc_58 : (58 : Int32).toInt = 58 := by decide
theorem kc_59 : (59 : Int32).toInt = 59 := by decide
theorem kc_60 : (60 : Int32).toInt = 60 := by decide
theorem kc_61 : (61 : Int32).toInt = 61 := by decide
theorem kc_62 : (62 : Int32).toInt = 62 := by decide
theorem kc_63 : (63 : Int32).toInt = 63 := by decide
theorem kc_91 : (91 : Int32).toInt = 91 := by decide
theorem kc_93 : (93 : Int32).toInt = 93 := by decide
theorem kc_97 : (97 : Int32).toInt = 97 := by decide
theorem kc_99 : (99 : Int32).toInt = 99 := by decide
theorem kc_100 : (100 : Int32).toInt = 100 := by decide
theorem kc_102 : (102 : Int32).toInt = 102 := by decide
theorem kc_104 : (104 : Int32).toInt = 104 := by decide
theorem kc_105 : (105 : Int32).toInt = 105 := by decide
theorem kc_106 : (106 : Int32).toInt = 106 := by decide
theorem kc_107 : (107 : Int32).toInt = 107 := by decide
theorem kc_108 : (108 : Int32).toInt = 108 := by decide
theorem kc_109 : (109 : Int32).toInt = 109 := by decide
theorem kc_110 : (110 : Int32).toInt = 110 := by decide
theorem kc_115 : (115 : Int32).toInt = 115 := by decide
theorem kc_116 : (116 : Int32).toInt = 116 := by decide
theorem kc_118 : (118 : Int32).toInt = 118 := by decide
theorem kc_119 : (119 : Int32).toInt = 119 := by decide
theorem kc_120 : (120 : Int32).toInt = 120 := by decide
theorem kc_121 : (121 : Int32).toInt = 121 := by decide
theorem kc_124 : (124 : Int32).toInt = 124 := by decide
theorem kc_143 : (143 : Int32).toInt = 143 := by decide
theorem kc_144 : (144 : Int32).toInt = 144 := by decide
theorem kc_145 : (145 : Int32).toInt = 145 := by decide
theorem kc_180 : (180 : Int32).toInt = 180 := by decide
theorem kc_192 : (192 : Int32).toInt = 192 := by decide
theorem kc_198 : (198 : Int32).toInt = 198 := by decide
theorem kc_199 : (199 : Int32).toInt = 199 := by decide
theorem kc_200 : (200 : Int32).toInt = 200 := by decide
theorem kc_220 : (220 : Int32).toInt = 220 := by decide
theorem kc_240 : (240 : Int32).toInt = 240 := by decide
theorem kc_255 : (255 : Int32).toInt = 255 := by decide
theorem kc_299 : (299 : Int32).toInt = 299 := by decide
theorem kc_300 : (300 : Int32).toInt = 300 := by decide
theorem kc_301 : (301 : Int32).toInt = 301 := by decide
theorem kc_600 : (600 : Int32).toInt = 600 := by decide
theorem kc_999 : (999 : Int32).toInt = 999 := by decide
theorem kc_1000 : (1000 : Int32).toInt = 1000 := by decide
theorem kc_3010 : (3010 : Int32).toInt = 3010 := by decide
theorem kc_9999 : (9999 : Int32).toInt = 9999 := by decide
theorem kc_10000 : (10000 : Int32).toInt = 10000 := by decide
theorem kc_13849 : (13849 : Int32).toInt = 13849 := by decide
theorem kc_25173 : (25173 : Int32).toInt = 25173 := by decide
theorem kc_65535 : (65535 : Int32).toInt = 65535 := by decide
theorem kc_65536 : (65536 : Int32).toInt = 65536 := by decide
theorem kc_m1 : (-1 : Int32).toInt = -1 := by decide
theorem kc_m2 : (-2 : Int32).toInt = -2 := by decide
theorem kc_m3 : (-3 : Int32).toInt = -3 := by decide
theorem kc_m8 : (-8 : Int32).toInt = -8 := by decide
theorem kc_m1000 : (-1000 : Int32).toInt = -1000 := by decide
theorem kc_2147483647 : (2147483647 : Int32).toInt = 2147483647 := by decide
theorem kc_1000000000 : (1000000000 : Int32).toInt = 1000000000 := by decide
theorem mh_nz0 {y : Int32} {a b : Int} (h : mh_r y a b) (hb : 0 < a ∨ b < 0) : ¬ y = 0 := fun q => by
  subst q
  have h1 : (0 : Int32).toInt = 0 := by decide
  have := h.1; have := h.2
  omega
theorem mh_dvc {x y z : Int32} {a b lo hi : Int} (t : z.toInt = x.toInt.tdiv y.toInt) (hx : mh_r x a b) (hy : 1 ≤ y.toInt) (hb : lo ≤ a.tdiv y.toInt ∧ b.tdiv y.toInt ≤ hi) : mh_r z lo hi := by
  have h1 : (0 : Int) < y.toInt := by omega
  rw [mh_r, t]
  exact ⟨Int.le_trans hb.1 (Int.tdiv_le_tdiv h1 hx.1), Int.le_trans (Int.tdiv_le_tdiv h1 hx.2) hb.2⟩
theorem mh_absr {x : Int32} {a b hi : Int} (hx : mh_r x a b) (ha : -2147483648 < a) (hb : -a ≤ hi ∧ b ≤ hi) : mh_r (if 0 ≤ x then x else 0 - x) 0 hi := by
  have h0 : (0 : Int32).toInt = 0 := by decide
  have h1 := hx.1
  have h2 := hx.2
  by_cases h : 0 ≤ x
  · rw [if_pos h]
    have h3 := Int32.le_iff_toInt_le.mp h
    exact ⟨by omega, by omega⟩
  · rw [if_neg h]
    have h3 : ¬ (0 : Int32).toInt ≤ x.toInt := fun q => h (Int32.le_iff_toInt_le.mpr q)
    have hx3 := (mh_r_full x).2
    have h4 := mh_sub (x := 0) (y := x) (lo := 0) (hi := 2147483647) (by omega) (by omega)
    rw [mh_r, h4]
    exact ⟨by omega, by omega⟩
theorem mh_cr {D n : Nat} (h : 1 ≤ D) (hn : n ≤ 40) : 1 ≤ (mh_rm D).frames ∧ n ≤ (mh_rm D).locals := by
  refine ⟨h, ?_⟩
  show n ≤ 40 * D
  omega
theorem mh_pI_s {σ : mh_H} {k j : Nat} {x : Int32} : (mh_pI σ k j x).1 k j = x := mh_up_s
theorem mh_pI_n {σ : mh_H} {k j a b : Nat} {x : Int32} (h : ¬ (a = k ∧ b = j)) : (mh_pI σ k j x).1 a b = σ.1 a b := mh_up_n h
theorem mh_pA_n {σ : mh_H} {k a b : Nat} {f : Nat → Int32} (h : ¬ a = k) : (mh_pA σ k f).1 a b = σ.1 a b := if_neg h
theorem mh_l0 : (0 : Int64).toInt = 0 := by decide
end
section
theorem mh_I_step {B B' D : Int} {σ : mh_H} (h : mh_I B D σ) {x : Int32} (hx : mh_r x 0 B') : mh_I B' D (mh_pI σ 57 2 x) := by
  refine ⟨fun a b => ?_, h.2.1, mh_wfc_put h.2.2 rfl⟩
  by_cases q : a = 57 ∧ b = 2
  · rw [q.1, q.2]
    show mh_r (mh_up σ.1 57 2 x 57 2) _ _
    rw [mh_up_s]
    exact hx
  · show mh_r (mh_up σ.1 57 2 x a b) _ _
    rw [mh_up_n q]
    have h1 := h.1 a b
    unfold mh_bd at h1 ⊢
    split at h1
    · rename_i hk
      rw [if_pos hk]
      split at h1
      · rename_i hj
        exact absurd ⟨hk, hj⟩ q
      · rename_i hj
        rw [if_neg hj]
        exact h1
    · rename_i hk
      rw [if_neg hk]
      exact h1
theorem mh_I_side {B D D' : Int} {σ : mh_H} (h : mh_I B D σ) {j : Nat} {x : Int32} (hx : mh_r x 0 D') (hD : D ≤ D') : mh_I B D' (mh_pI σ 87 j x) := mh_I_put (mh_I_mono h (Int.le_refl _) hD) (show mh_r x (mh_bd B D' 87 j).1 (mh_bd B D' 87 j).2 from hx) rfl
theorem mh_lrm {x y z : Int64} (t : z = x - x / y * y) (hy : y.toInt ≠ 0) : z.toInt = x.toInt.tmod y.toInt := by
  subst t
  rw [Int64.toInt_sub, Int64.toInt_mul, Int64.toInt_div]
  have e1 : ((x.toInt.tdiv y.toInt).bmod (2 ^ 64) * y.toInt).bmod (2 ^ 64) = (x.toInt.tdiv y.toInt * y.toInt).bmod (2 ^ 64) := Int.bmod_mul_bmod
  rw [e1, Int.sub_bmod_bmod]
  have e2 : x.toInt - x.toInt.tdiv y.toInt * y.toInt = x.toInt.tmod y.toInt := by
    rw [Int.tmod_def, Int.mul_comm]
  rw [e2]
  have h1 : (x.toInt.tmod y.toInt).natAbs < y.toInt.natAbs := by
    rw [Int.natAbs_tmod]
    exact Nat.mod_lt _ (by omega)
  have h2 := Int64.le_toInt y
  have h3 := Int64.toInt_lt y
  apply Int.bmod_eq_of_le <;> omega
theorem mh_lrm2 {x y z : Int64} (t : z = x - x / y * y) (hy : y.toInt ≠ 0) : z.toInt.natAbs = x.toInt.natAbs % y.toInt.natAbs ∧ (0 ≤ x.toInt → 0 ≤ z.toInt) ∧ z.toInt.natAbs < y.toInt.natAbs := by
  have h := mh_lrm t hy
  rw [h, Int.natAbs_tmod]
  exact ⟨rfl, fun q => Int.tmod_nonneg _ q, Nat.mod_lt _ (by omega)⟩
theorem mh_gcs {p q r a b : Int64} (t : r = p - p / q * q) (hq : q.toInt ≠ 0) (h : Nat.gcd p.toInt.natAbs q.toInt.natAbs = Nat.gcd a.toInt.natAbs b.toInt.natAbs) : Nat.gcd q.toInt.natAbs r.toInt.natAbs = Nat.gcd a.toInt.natAbs b.toInt.natAbs := by
  rw [(mh_lrm2 t hq).1, ← h, Nat.gcd_comm, Nat.gcd_comm p.toInt.natAbs]
  exact (Nat.gcd_rec q.toInt.natAbs p.toInt.natAbs).symm
theorem mh_gnz {g a b : Int64} (h : g.toInt.natAbs = Nat.gcd a.toInt.natAbs b.toInt.natAbs) (hb : 1 ≤ b.toInt) : g.toInt ≠ 0 := by
  have := Nat.gcd_pos_of_pos_right a.toInt.natAbs (show 0 < b.toInt.natAbs by omega)
  omega
theorem mh_g32 {g a b : Int64} {z : Int32} {n : Int} (t : z = g.toInt32) (h : g.toInt.natAbs = Nat.gcd a.toInt.natAbs b.toInt.natAbs) (hs : 0 ≤ g.toInt) (hb : 1 ≤ b.toInt ∧ b.toInt ≤ n) (hn : n ≤ 2147483647) : mh_r z 1 n ∧ z.toInt = g.toInt := by
  have h1 := Nat.gcd_pos_of_pos_right a.toInt.natAbs (show 0 < b.toInt.natAbs by omega)
  have h2 := Nat.gcd_le_right a.toInt.natAbs (show 0 < b.toInt.natAbs by omega)
  have h3 : z.toInt = g.toInt := by
    rw [t, Int64.toInt_toInt32]
    exact mh_fit (by omega) (by omega)
  rw [mh_r, h3]
  omega
theorem mh_allst {a w y : Int64} {x s s' : Int32} (t : y = a * w) (tw : w = x.toInt64) (ha : 1 ≤ a.toInt ∧ a.toInt ≤ 10 ^ s.toInt.toNat) (hx : mh_r x 1 10) (hs : mh_r s 0 11) (h' : s'.toInt = s.toInt + 1) : 1 ≤ y.toInt ∧ y.toInt ≤ 10 ^ s'.toInt.toNat := by
  have e0 : s'.toInt.toNat = s.toInt.toNat + 1 := by have := hs.1; omega
  have e1 : (10 : Int) ^ s.toInt.toNat ≤ 10 ^ 11 := by
    have : s.toInt.toNat ≤ 11 := by have := hs.2; omega
    exact_mod_cast Nat.pow_le_pow_right (by decide : 0 < 10) this
  have e2 : (10 : Int) ^ 11 = 100000000000 := by decide
  have hx1 := hx.1
  have hx2 := hx.2
  have hw : w.toInt = x.toInt := by rw [tw, Int32.toInt_toInt64]
  have hp1 : 1 ≤ a.toInt * x.toInt := by
    have := Int.mul_le_mul ha.1 hx1 (by decide) (by omega)
    omega
  have hp2 : a.toInt * x.toInt ≤ 10 ^ s.toInt.toNat * 10 := Int.mul_le_mul ha.2 hx2 (by omega) (by omega)
  have hy : y.toInt = a.toInt * x.toInt := by
    rw [t, Int64.toInt_mul, hw]
    apply Int.bmod_eq_of_le <;> omega
  rw [hy, e0, Int.pow_succ]
  exact ⟨hp1, hp2⟩
/-- the cell beside c at the side d; -1: none -/
def mh_bes (c d : Int) : Int := if d = 0 then (if 12 ≤ c then c - 12 else -1) else if d = 1 then (if c % 12 = 0 then -1 else c - 1) else if d = 2 then (if c % 12 = 11 then -1 else c + 1) else (if c < 132 then c + 12 else -1)
theorem mh_bes_lb {c d : Int} (h : 0 ≤ c ∧ c ≤ 143) : (d = 1 → 1 ≤ c % 12 → 0 ≤ mh_bes c d) ∧ (d = 2 → c % 12 = 0 → 0 ≤ mh_bes c d) := by
  refine ⟨fun h1 h2 => ?_, fun h1 h2 => ?_⟩
  · subst h1
    unfold mh_bes
    rw [if_neg (by decide), if_pos rfl, if_neg (by omega)]
    omega
  · subst h1
    unfold mh_bes
    rw [if_neg (by decide), if_neg (by decide), if_pos rfl, if_neg (by omega)]
    omega
end
section
def mh_u1 (f : Nat → Int32) (i : Nat) (v : Int32) : Nat → Int32 := fun b => if b = i then v else f b
theorem mh_row_s {σ : mh_H} {k j : Nat} {x : Int32} : (mh_pI σ k j x).1 k = mh_u1 (σ.1 k) j x := by
  funext b
  show mh_up σ.1 k j x k b = _
  simp [mh_up, mh_u1]
theorem mh_row_n {σ : mh_H} {a k j : Nat} {x : Int32} (h : a ≠ k) : (mh_pI σ k j x).1 a = σ.1 a := mh_up_row h
theorem mh_F_row {S : List (Nat × Nat)} {σ σ' : mh_H} (h : mh_F S σ σ') (k : Nat) (hs : S.any (fun e => e.1 == k) = false) : σ'.1 k = σ.1 k := by
  funext b
  refine (h k b ?_).1
  rintro ⟨e, he, h1, h2⟩
  have h3 := List.any_eq_false.mp hs e he
  rw [h1] at h3
  simp at h3
/-- what an operator makes of two numbers -/
def mh_wk (c a b : Int32) : Int32 := if c.toInt = 37 then (if b.toInt = 0 then 0 else a - a / b * b) else if c.toInt = 42 then a * b else if c.toInt = 43 then a + b else if c.toInt = 45 then a - b else if c.toInt = 47 then (if b.toInt = 0 then 0 else a / b) else if c.toInt = 60 then (if a.toInt < b.toInt then 1 else 0) else if c.toInt = 62 then (if b.toInt < a.toInt then 1 else 0) else (if a.toInt = b.toInt then 1 else 0)
/-- how many of the first d sides have trees -/
def mh_tr (σ : mh_H) (c : Int) : Nat → Int
  | 0 => 0
  | d + 1 => mh_tr σ c d + (if mh_bes c d = -1 then 0 else if (σ.1 60 (mh_bes c d).toNat).toInt = 2 then 1 else 0)
def mh_wn (σ : mh_H) : Int32 := if (σ.1 57 2).toInt < 100 then σ.1 63 (σ.1 57 2).toNatClampNeg else 0
def mh_oc (σ : mh_H) (cell mist c : Int32) : Int32 := if c.toInt = 99 then σ.1 61 cell.toNatClampNeg else if c.toInt = 104 then σ.1 59 cell.toNatClampNeg else if c.toInt = 107 then σ.1 60 cell.toNatClampNeg else if c.toInt = 110 then Int32.ofInt (mh_tr σ cell.toInt 4) else if c.toInt = 116 then σ.1 57 2 else if c.toInt = 118 then mh_wn σ else if c.toInt = 119 then σ.1 62 cell.toNatClampNeg else if c.toInt = 120 then Int32.ofInt (cell.toInt % 12) else if c.toInt = 121 then Int32.ofInt (cell.toInt / 12) else mist
def mh_vo (σ : mh_H) (cell mist i j l c : Int32) : Int32 := if c.toInt = 105 then i else if c.toInt = 106 then j else if c.toInt = 108 then l else if cell.toInt = -1 then 0 else mh_oc σ cell mist c
theorem mh_ofI {z : Int32} {n : Int} (h : z.toInt = n) : z = Int32.ofInt n := by rw [← h, Int32.ofInt_toInt]
def mh_dw (c : Int32) (a : Nat) (w r : Nat → Int32) : Nat → Int32 := if c.toInt = 38 ∨ c.toInt = 124 then (if (r a).toInt ≠ 0 ∨ (c.toInt = 38 ∧ (w a).toInt ≠ 1) ∨ (c.toInt ≠ 38 ∧ (w a).toInt ≠ 0) then w else mh_u1 w a (w (a + 1))) else mh_u1 w a (mh_wk c (w a) (w (a + 1)))
def mh_dr (c : Int32) (a : Nat) (w r : Nat → Int32) : Nat → Int32 := if c.toInt = 38 ∨ c.toInt = 124 then (if (r a).toInt ≠ 0 ∨ (c.toInt = 38 ∧ (w a).toInt ≠ 1) ∨ (c.toInt ≠ 38 ∧ (w a).toInt ≠ 0) then r else mh_u1 r a (r (a + 1))) else mh_u1 r a (if (r a).toInt ≠ 0 ∨ (r (a + 1)).toInt ≠ 0 ∨ ((c.toInt = 47 ∨ c.toInt = 37) ∧ (w (a + 1)).toInt = 0) then 1 else 0)
abbrev mh_Qs : Type := Nat × (Nat → Int32) × (Nat → Int32)
def mh_gs (val : Int32 → Int32) (c av : Int32) (q : mh_Qs) : mh_Qs :=
  if 2 < c.toInt then (q.1 - 1, mh_dw c (q.1 - 2) q.2.1 q.2.2, mh_dr c (q.1 - 2) q.2.1 q.2.2)
  else if c.toInt = 2 then (q.1, mh_u1 q.2.1 (q.1 - 1) (1 - q.2.1 (q.1 - 1)), q.2.2)
  else (q.1 + 1, mh_u1 q.2.1 q.1 (if c.toInt = 0 then av else val av), mh_u1 q.2.2 q.1 0)
def mh_gr (f g : Nat → Int32) (val : Int32 → Int32) (a : Nat) : Nat → mh_Qs
  | 0 => (0, fun _ => 0, fun _ => 0)
  | m + 1 => mh_gs val (f (a + m)) (g (a + m)) (mh_gr f g val a m)
theorem mh_dps_snoc (f : Nat → Int32) : ∀ (m i n : Nat), mh_dps f (m + 1) i n = (mh_dps f m i n).bind (mh_dp (f (i + m)))
  | 0, i, n => by
    simp only [mh_dps, Nat.add_zero, Option.bind_some]
    cases mh_dp (f i) n <;> rfl
  | m + 1, i, n => by
    have ih := fun q => mh_dps_snoc f m (i + 1) q
    show (mh_dp (f i) n).bind (mh_dps f (m + 1) (i + 1)) = ((mh_dp (f i) n).bind (mh_dps f m (i + 1))).bind (mh_dp (f (i + (m + 1))))
    cases mh_dp (f i) n with
    | none => rfl
    | some q =>
      show mh_dps f (m + 1) (i + 1) q = (mh_dps f m (i + 1) q).bind _
      rw [ih q, show i + 1 + m = i + (m + 1) by omega]
theorem mh_dps_pre (f : Nat → Int32) (i n : Nat) : ∀ (k m : Nat) {q : Nat}, mh_dps f (m + k) i n = some q → ∃ p, mh_dps f m i n = some p
  | 0, m, q, h => ⟨q, h⟩
  | k + 1, m, q, h => by
    rw [show m + (k + 1) = (m + k) + 1 by omega, mh_dps_snoc] at h
    cases h1 : mh_dps f (m + k) i n with
    | none => rw [h1] at h; cases h
    | some p => exact mh_dps_pre f i n k m h1
theorem mh_dps_le (f : Nat → Int32) (i : Nat) : ∀ (m : Nat) {n : Nat}, mh_dps f m i 0 = some n → n ≤ m
  | 0, n, h => by cases h; exact Nat.le_refl _
  | m + 1, n, h => by
    rw [mh_dps_snoc] at h
    cases h1 : mh_dps f m i 0 with
    | none => rw [h1] at h; cases h
    | some p =>
      rw [h1] at h
      have ih := mh_dps_le f i m h1
      have h2 : mh_dp (f (i + m)) p = some n := h
      unfold mh_dp at h2
      split at h2
      · split at h2
        · cases h2; omega
        · cases h2
      · split at h2
        · split at h2
          · cases h2; omega
          · cases h2
        · cases h2; omega
theorem mh_seg_st {f : Nat → Int32} {a k m n : Nat} (hs : mh_dps f k a 0 = some 1) (hm : m < k) (hn : mh_dps f m a 0 = some n) : (2 < (f (a + m)).toInt → 2 ≤ n) ∧ ((f (a + m)).toInt = 2 → 1 ≤ n) ∧ n ≤ m := by
  have h1 : ∃ p, mh_dps f (m + 1) a 0 = some p := mh_dps_pre f a 0 (k - (m + 1)) (m + 1) (q := 1) (by rw [show m + 1 + (k - (m + 1)) = k by omega]; exact hs)
  obtain ⟨p, h1⟩ := h1
  rw [mh_dps_snoc, hn] at h1
  have h2 : mh_dp (f (a + m)) n = some p := h1
  refine ⟨fun q => ?_, fun q => ?_, mh_dps_le f a m hn⟩
  · unfold mh_dp at h2
    rw [if_pos q] at h2
    split at h2
    · assumption
    · cases h2
  · unfold mh_dp at h2
    rw [if_neg (by omega), if_pos q] at h2
    split at h2
    · assumption
    · cases h2
/-- the run of a code through its stack, so far: how deep it is, and its numbers are those of the pure run -/
def mh_gI (f g : Nat → Int32) (val : Int32 → Int32) (a m n : Nat) (w r : Nat → Int32) : Prop := mh_dps f m a 0 = some n ∧ (mh_gr f g val a m).1 = n ∧ ∀ j, j < n → w j = (mh_gr f g val a m).2.1 j ∧ r j = (mh_gr f g val a m).2.2 j
theorem mh_gI_0 {f g : Nat → Int32} {val : Int32 → Int32} {a : Nat} {w r : Nat → Int32} : mh_gI f g val a 0 0 w r := ⟨rfl, rfl, fun j h => absurd h (Nat.not_lt_zero j)⟩
theorem mh_u1_c {w w' : Nat → Int32} {n k i : Nat} {x x' : Int32} (h : ∀ j, j < n → w j = w' j) (hx : x = x') (hi : k ≤ n ∨ (k = n + 1 ∧ i = n)) : ∀ j, j < k → mh_u1 w i x j = mh_u1 w' i x' j := by
  intro j hj
  unfold mh_u1
  by_cases q : j = i
  · rw [if_pos q, if_pos q, hx]
  · rw [if_neg q, if_neg q]
    exact h j (by omega)
theorem mh_gI_bin {f g : Nat → Int32} {val : Int32 → Int32} {a m n : Nat} {w r : Nat → Int32} {c : Int32} (h : mh_gI f g val a m n w r) (hc : f (a + m) = c) (h2 : 2 < c.toInt) (hn : 2 ≤ n) : mh_gI f g val a (m + 1) (n - 1) (mh_dw c (n - 2) w r) (mh_dr c (n - 2) w r) := by
  obtain ⟨h1, hq, ha⟩ := h
  refine ⟨?_, ?_, ?_⟩
  · rw [mh_dps_snoc, h1, hc]
    show mh_dp c n = _
    unfold mh_dp
    rw [if_pos h2, if_pos hn]
  · simp only [mh_gr, mh_gs, hc, if_pos h2, hq]
  · have hw : ∀ j, j < n → w j = (mh_gr f g val a m).2.1 j := fun j hj => (ha j hj).1
    have hr : ∀ j, j < n → r j = (mh_gr f g val a m).2.2 j := fun j hj => (ha j hj).2
    have e1 := hw (n - 2) (by omega)
    have e2 := hw (n - 2 + 1) (by omega)
    have e3 := hr (n - 2) (by omega)
    have e4 := hr (n - 2 + 1) (by omega)
    intro j hj
    simp only [mh_gr, mh_gs, hc, if_pos h2, hq]
    constructor
    · unfold mh_dw
      rw [← e1, ← e2, ← e3]
      split
      · split
        · exact hw j (by omega)
        · exact mh_u1_c hw rfl (Or.inl (Nat.sub_le n 1)) j hj
      · exact mh_u1_c hw rfl (Or.inl (Nat.sub_le n 1)) j hj
    · unfold mh_dr
      rw [← e1, ← e2, ← e3, ← e4]
      split
      · split
        · exact hr j (by omega)
        · exact mh_u1_c hr rfl (Or.inl (Nat.sub_le n 1)) j hj
      · exact mh_u1_c hr rfl (Or.inl (Nat.sub_le n 1)) j hj
theorem mh_gI_not {f g : Nat → Int32} {val : Int32 → Int32} {a m n : Nat} {w r : Nat → Int32} {c : Int32} (h : mh_gI f g val a m n w r) (hc : f (a + m) = c) (h2 : c.toInt = 2) (hn : 1 ≤ n) : mh_gI f g val a (m + 1) n (mh_u1 w (n - 1) (1 - w (n - 1))) r := by
  obtain ⟨h1, hq, ha⟩ := h
  have h3 : ¬ 2 < c.toInt := by omega
  refine ⟨?_, ?_, ?_⟩
  · rw [mh_dps_snoc, h1, hc]
    show mh_dp c n = _
    unfold mh_dp
    rw [if_neg h3, if_pos h2, if_pos hn]
  · simp only [mh_gr, mh_gs, hc, if_neg h3, if_pos h2, hq]
  · have hw : ∀ j, j < n → w j = (mh_gr f g val a m).2.1 j := fun j hj => (ha j hj).1
    intro j hj
    simp only [mh_gr, mh_gs, hc, if_neg h3, if_pos h2, hq]
    exact ⟨mh_u1_c hw (by rw [hw (n - 1) (by omega)]) (Or.inl (Nat.le_refl _)) j hj, (ha j hj).2⟩
theorem mh_gI_psh {f g : Nat → Int32} {val : Int32 → Int32} {a m n : Nat} {w r : Nat → Int32} {c av x : Int32} (h : mh_gI f g val a m n w r) (hc : f (a + m) = c) (hg : g (a + m) = av) (h2 : ¬ 2 < c.toInt) (h3 : ¬ c.toInt = 2) (hx : x = if c.toInt = 0 then av else val av) : mh_gI f g val a (m + 1) (n + 1) (mh_u1 w n x) (mh_u1 r n 0) := by
  obtain ⟨h1, hq, ha⟩ := h
  refine ⟨?_, ?_, ?_⟩
  · rw [mh_dps_snoc, h1, hc]
    show mh_dp c n = _
    unfold mh_dp
    rw [if_neg h2, if_neg h3]
  · simp only [mh_gr, mh_gs, hc, if_neg h2, if_neg h3, hq]
  · have hw : ∀ j, j < n → w j = (mh_gr f g val a m).2.1 j := fun j hj => (ha j hj).1
    have hr : ∀ j, j < n → r j = (mh_gr f g val a m).2.2 j := fun j hj => (ha j hj).2
    intro j hj
    simp only [mh_gr, mh_gs, hc, hg, if_neg h2, if_neg h3, hq]
    exact ⟨mh_u1_c hw hx (Or.inr ⟨rfl, rfl⟩) j hj, mh_u1_c hr rfl (Or.inr ⟨rfl, rfl⟩) j hj⟩
theorem mh_gI_end {f g : Nat → Int32} {val : Int32 → Int32} {a m n : Nat} {w r : Nat → Int32} (h : mh_gI f g val a m n w r) (hs : mh_dps f m a 0 = some 1) : w 0 = (mh_gr f g val a m).2.1 0 ∧ r 0 = (mh_gr f g val a m).2.2 0 := by
  have h1 := h.1
  rw [hs] at h1
  cases h1
  exact h.2.2 0 (by decide)
/-- two worlds in which the reference reads the same ground, air, winds, step and law -/
def mh_ev (σ σ' : mh_H) : Prop := (∀ k, 59 ≤ k → k ≤ 69 → σ'.1 k = σ.1 k) ∧ σ'.1 57 2 = σ.1 57 2 ∧ σ'.1 57 10 = σ.1 57 10
theorem mh_F_ev {S : List (Nat × Nat)} {σ σ' : mh_H} (h : mh_F S σ σ') (hs : S.all (fun e => !(decide (59 ≤ e.1) && decide (e.1 ≤ 69)) && !(e.1 == 57 && (e.2 == 9999 || e.2 == 2 || e.2 == 10))) = true) : mh_ev σ σ' := by
  have h0 := List.all_eq_true.mp hs
  refine ⟨fun k h1 h2 => ?_, ?_, ?_⟩
  · funext b
    refine (h k b ?_).1
    rintro ⟨e, he, h3, h4⟩
    have h5 := h0 e he
    rw [h3] at h5
    simp [h1, h2] at h5
  · refine (h 57 2 ?_).1
    rintro ⟨e, he, h3, h4⟩
    have h5 := h0 e he
    rw [h3] at h5
    rcases h4 with h4 | h4 <;> rw [h4] at h5 <;> simp at h5
  · refine (h 57 10 ?_).1
    rintro ⟨e, he, h3, h4⟩
    have h5 := h0 e he
    rw [h3] at h5
    rcases h4 with h4 | h4 <;> rw [h4] at h5 <;> simp at h5
theorem mh_ev_tr {σ σ' : mh_H} (h : mh_ev σ σ') (c : Int) : ∀ d, mh_tr σ' c d = mh_tr σ c d
  | 0 => rfl
  | d + 1 => by
    simp only [mh_tr]
    rw [mh_ev_tr h c d, h.1 60 (by decide) (by decide)]
theorem mh_ev_wn {σ σ' : mh_H} (h : mh_ev σ σ') : mh_wn σ' = mh_wn σ := by
  unfold mh_wn
  rw [h.2.1, h.1 63 (by decide) (by decide)]
theorem mh_ev_oc {σ σ' : mh_H} (h : mh_ev σ σ') (cell mist c : Int32) : mh_oc σ' cell mist c = mh_oc σ cell mist c := by
  unfold mh_oc
  rw [h.2.1, h.1 61 (by decide) (by decide), h.1 59 (by decide) (by decide), h.1 60 (by decide) (by decide), h.1 62 (by decide) (by decide), mh_ev_wn h, mh_ev_tr h]
theorem mh_ev_vo {σ σ' : mh_H} (h : mh_ev σ σ') (cell mist i j l : Int32) : mh_vo σ' cell mist i j l = mh_vo σ cell mist i j l := by
  funext c
  unfold mh_vo
  rw [mh_ev_oc h]
/-- the reference's law, by a letter, from clause k on -/
def mh_hs (σ : mh_H) (val : Int32 → Int32) (k : Nat) : Prop := ((mh_gr (σ.1 68) (σ.1 69) val (σ.1 66 k).toNatClampNeg ((σ.1 67 k).toNatClampNeg - (σ.1 66 k).toNatClampNeg)).2.2 0).toInt = 0 ∧ ((mh_gr (σ.1 68) (σ.1 69) val (σ.1 66 k).toNatClampNeg ((σ.1 67 k).toNatClampNeg - (σ.1 66 k).toNatClampNeg)).2.1 0).toInt = 1
def mh_wv (σ : mh_H) (val : Int32 → Int32) (k : Nat) : Int32 := if ((mh_gr (σ.1 68) (σ.1 69) val (σ.1 65 k).toNatClampNeg ((σ.1 66 k).toNatClampNeg - (σ.1 65 k).toNatClampNeg)).2.2 0).toInt = 0 then (mh_gr (σ.1 68) (σ.1 69) val (σ.1 65 k).toNatClampNeg ((σ.1 66 k).toNatClampNeg - (σ.1 65 k).toNatClampNeg)).2.1 0 else 0
def mh_cl (v most : Int32) : Int32 := if v.toInt < 0 then 0 else if most.toInt < v.toInt then most else v
noncomputable def mh_tc (σ : mh_H) (val : Int32 → Int32) (letter most : Int32) : Nat → Nat → Int32
  | 0, _ => 0
  | m + 1, k => haveI := Classical.propDecidable (mh_hs σ val k); if (σ.1 64 k).toInt = letter.toInt then (if mh_hs σ val k then mh_cl (mh_wv σ val k) most else mh_tc σ val letter most m (k + 1)) else mh_tc σ val letter most m (k + 1)
theorem mh_ev_hs {σ σ' : mh_H} (h : mh_ev σ σ') (val : Int32 → Int32) (k : Nat) : mh_hs σ' val k = mh_hs σ val k := by
  unfold mh_hs
  rw [h.1 68 (by decide) (by decide), h.1 69 (by decide) (by decide), h.1 66 (by decide) (by decide), h.1 67 (by decide) (by decide)]
theorem mh_ev_wv {σ σ' : mh_H} (h : mh_ev σ σ') (val : Int32 → Int32) (k : Nat) : mh_wv σ' val k = mh_wv σ val k := by
  unfold mh_wv
  rw [h.1 68 (by decide) (by decide), h.1 69 (by decide) (by decide), h.1 66 (by decide) (by decide), h.1 65 (by decide) (by decide)]
theorem mh_tc_0 {σ : mh_H} {val : Int32 → Int32} {letter most : Int32} {k : Nat} : mh_tc σ val letter most 0 k = 0 := rfl
theorem mh_tc_n {σ : mh_H} {val : Int32 → Int32} {letter most : Int32} {m k : Nat} (h : ¬ ((σ.1 64 k).toInt = letter.toInt ∧ mh_hs σ val k)) : mh_tc σ val letter most (m + 1) k = mh_tc σ val letter most m (k + 1) := by
  simp only [mh_tc]
  by_cases h1 : (σ.1 64 k).toInt = letter.toInt
  · rw [if_pos h1, if_neg (fun q => h ⟨h1, q⟩)]
  · rw [if_neg h1]
theorem mh_tc_y {σ : mh_H} {val : Int32 → Int32} {letter most : Int32} {m k : Nat} (h1 : (σ.1 64 k).toInt = letter.toInt) (h2 : mh_hs σ val k) : mh_tc σ val letter most (m + 1) k = mh_cl (mh_wv σ val k) most := by
  simp only [mh_tc]
  rw [if_pos h1, if_pos h2]
theorem mh_ev_tc {σ σ' : mh_H} (h : mh_ev σ σ') (val : Int32 → Int32) (letter most : Int32) : ∀ m k, mh_tc σ' val letter most m k = mh_tc σ val letter most m k
  | 0, _ => rfl
  | m + 1, k => by
    have e1 : σ'.1 64 = σ.1 64 := h.1 64 (by decide) (by decide)
    by_cases h1 : (σ.1 64 k).toInt = letter.toInt ∧ mh_hs σ val k
    · rw [mh_tc_y h1.1 h1.2, mh_tc_y (by rw [e1]; exact h1.1) (by rw [mh_ev_hs h]; exact h1.2), mh_ev_wv h]
    · rw [mh_tc_n h1, mh_tc_n (by rw [e1, mh_ev_hs h]; exact h1), mh_ev_tc h val letter most m (k + 1)]
/-- what the reference's law says by a letter at a cell -/
noncomputable def mh_by (σ : mh_H) (letter cell mist most : Int32) : Int32 := mh_tc σ (mh_vo σ cell mist 0 0 0) letter most (σ.1 57 10).toNatClampNeg 0
theorem mh_ev_by {σ σ' : mh_H} (h : mh_ev σ σ') (letter cell mist most : Int32) : mh_by σ' letter cell mist most = mh_by σ letter cell mist most := by
  unfold mh_by
  rw [mh_ev_vo h, mh_ev_tc h, h.2.2]
end
section
/-- the sign that the reference reads now -/
def mh_hr (σ : mh_H) : Int32 := if (σ.1 57 23).toInt < (σ.1 57 24).toInt then σ.1 58 (σ.1 57 23).toNatClampNeg &&& 255 else 0
/-- what stands on top of its stack -/
def mh_tp (σ : mh_H) : Int32 := if 0 < (σ.1 57 29).toInt then σ.1 76 ((σ.1 57 29).toInt.toNat - 1) else 0
/-- how many of the first n on the stack stand between two -/
def mh_nb (f : Nat → Int32) : Nat → Nat
  | 0 => 0
  | n + 1 => mh_nb f n + (if (f n).toInt = 91 ∨ (f n).toInt = 40 ∨ (f n).toInt = 33 then 0 else 1)
abbrev mh_nbz (x : Int32) : Prop := x.toInt = 91 ∨ x.toInt = 40 ∨ x.toInt = 33
theorem mh_nb_u1 {f : Nat → Int32} {i : Nat} {x : Int32} : ∀ {n : Nat}, n ≤ i → mh_nb (mh_u1 f i x) n = mh_nb f n
  | 0, _ => rfl
  | n + 1, h => by
    simp only [mh_nb]
    rw [mh_nb_u1 (n := n) (by omega)]
    have : mh_u1 f i x n = f n := if_neg (by omega)
    rw [this]
theorem mh_nb_c {f g : Nat → Int32} : ∀ {n : Nat}, (∀ j, j < n → g j = f j) → mh_nb g n = mh_nb f n
  | 0, _ => rfl
  | n + 1, h => by
    simp only [mh_nb]
    rw [mh_nb_c (n := n) (fun j hj => h j (by omega)), h n (by omega)]
theorem mh_dps_c {f g : Nat → Int32} {a n : Nat} : ∀ {m : Nat}, (∀ j, a ≤ j → j < a + m → g j = f j) → mh_dps g m a n = mh_dps f m a n
  | 0, _ => rfl
  | m + 1, h => by
    rw [mh_dps_snoc, mh_dps_snoc, mh_dps_c (m := m) (fun j h1 h2 => h j h1 (by omega)), h (a + m) (by omega) (by omega)]
/-- the code so far from b on, and the stack: as deep as there are such signs, and one more behind a value -/
def mh_pdr (f : Nat → Int32) (c b : Int) (stk : Nat → Int32) (n δ : Nat) : Prop := mh_dps f (c - b).toNat b.toNat 0 = some (mh_nb stk n + δ)
theorem mh_emit {f : Nat → Int32} {c b : Int} {x : Int32} (hb : 0 ≤ b ∧ b ≤ c) : mh_dps (mh_u1 f c.toNat x) (c + 1 - b).toNat b.toNat 0 = (mh_dps f (c - b).toNat b.toNat 0).bind (mh_dp x) := by
  rw [show (c + 1 - b).toNat = (c - b).toNat + 1 by omega, mh_dps_snoc, mh_dps_c (f := f) (g := mh_u1 f c.toNat x) (fun j h1 h2 => if_neg (by omega))]
  have : mh_u1 f c.toNat x (b.toNat + (c - b).toNat) = x := if_pos (by omega)
  rw [this]
theorem mh_nb_p {stk : Nat → Int32} {n : Nat} (hn : 1 ≤ n) : mh_nb stk n = mh_nb stk (n - 1) + (if (stk (n - 1)).toInt = 91 ∨ (stk (n - 1)).toInt = 40 ∨ (stk (n - 1)).toInt = 33 then 0 else 1) := by
  obtain ⟨m, rfl⟩ : ∃ m, n = m + 1 := ⟨n - 1, by omega⟩
  rfl
theorem mh_pdr_bin {f stk : Nat → Int32} {c b : Int} {n : Nat} {x : Int32} (h : mh_pdr f c b stk n 1) (hb : 0 ≤ b ∧ b ≤ c) (hn : 1 ≤ n) (hx : stk (n - 1) = x) (h2 : ¬ mh_nbz x) (h3 : 2 < x.toInt) : mh_pdr (mh_u1 f c.toNat x) (c + 1) b stk (n - 1) 1 := by
  unfold mh_pdr at h ⊢
  rw [mh_emit hb, h, mh_nb_p hn, hx, if_neg h2]
  show mh_dp x _ = _
  unfold mh_dp
  rw [if_pos h3, if_pos (by omega)]
  rfl
theorem mh_pdr_not {f stk : Nat → Int32} {c b : Int} {n : Nat} {x : Int32} (h : mh_pdr f c b stk n 1) (hb : 0 ≤ b ∧ b ≤ c) (hn : 1 ≤ n) (h2 : mh_nbz (stk (n - 1))) (h3 : x.toInt = 2) : mh_pdr (mh_u1 f c.toNat x) (c + 1) b stk (n - 1) 1 := by
  unfold mh_pdr at h ⊢
  rw [mh_emit hb, h, mh_nb_p hn, if_pos h2]
  show mh_dp x _ = _
  unfold mh_dp
  rw [if_neg (by omega), if_pos h3, if_pos (by omega)]
theorem mh_pdr_opd {f stk : Nat → Int32} {c b : Int} {n : Nat} {x : Int32} (h : mh_pdr f c b stk n 0) (hb : 0 ≤ b ∧ b ≤ c) (h3 : x.toInt < 2) : mh_pdr (mh_u1 f c.toNat x) (c + 1) b stk n 1 := by
  unfold mh_pdr at h ⊢
  rw [mh_emit hb, h]
  show mh_dp x _ = _
  unfold mh_dp
  rw [if_neg (by omega), if_neg (by omega)]
theorem mh_pdr_pb {f stk : Nat → Int32} {c b : Int} {n : Nat} {x : Int32} (h : mh_pdr f c b stk n 1) (h2 : ¬ mh_nbz x) : mh_pdr f c b (mh_u1 stk n x) (n + 1) 0 := by
  unfold mh_pdr at h ⊢
  rw [h, mh_nb_p (n := n + 1) (by omega), Nat.add_sub_cancel, mh_nb_u1 (Nat.le_refl _)]
  have : mh_u1 stk n x n = x := if_pos rfl
  rw [this, if_neg h2]
theorem mh_pdr_pn {f stk : Nat → Int32} {c b : Int} {n δ : Nat} {x : Int32} (h : mh_pdr f c b stk n δ) (h2 : mh_nbz x) : mh_pdr f c b (mh_u1 stk n x) (n + 1) δ := by
  unfold mh_pdr at h ⊢
  rw [h, mh_nb_p (n := n + 1) (by omega), Nat.add_sub_cancel, mh_nb_u1 (Nat.le_refl _)]
  have : mh_u1 stk n x n = x := if_pos rfl
  rw [this, if_pos h2]
  rfl
theorem mh_pdr_qn {f stk : Nat → Int32} {c b : Int} {n δ : Nat} (h : mh_pdr f c b stk n δ) (hn : 1 ≤ n) (h2 : mh_nbz (stk (n - 1))) : mh_pdr f c b stk (n - 1) δ := by
  unfold mh_pdr at h ⊢
  rw [h, mh_nb_p hn, if_pos h2]
  rfl
/-- numbers of the reference's reader that always hold -/
def mh_pb (b : Int) (σ : mh_H) : Prop := 0 ≤ (σ.1 57 23).toInt ∧ (σ.1 57 23).toInt ≤ (σ.1 57 24).toInt ∧ (σ.1 57 24).toInt ≤ 200 ∧ 0 ≤ (σ.1 57 29).toInt ∧ 0 ≤ b ∧ b ≤ (σ.1 57 27).toInt ∧ (σ.1 57 29).toInt + (σ.1 57 27).toInt ≤ (σ.1 57 23).toInt ∧ (σ.1 57 25).toInt ≤ 0
def mh_pd (b : Int) (δ : Nat) (σ : mh_H) : Prop := (σ.1 57 25).toInt = 0 → mh_pdr (σ.1 74) (σ.1 57 27).toInt b (σ.1 76) (σ.1 57 29).toInt.toNat δ
/-- the code ahead of b is as it was -/
def mh_pk (b : Int) (σ σ' : mh_H) : Prop := ∀ j : Nat, (j : Int) < b → σ'.1 74 j = σ.1 74 j
theorem mh_pk_rf {b : Int} {σ : mh_H} : mh_pk b σ σ := fun _ _ => rfl
theorem mh_pk_tr {b : Int} {σ σ1 σ2 : mh_H} (h : mh_pk b σ σ1) (h2 : mh_pk b σ1 σ2) : mh_pk b σ σ2 := fun j hj => (h2 j hj).trans (h j hj)
theorem mh_pk_row {b : Int} {σ σ' : mh_H} (h : σ'.1 74 = σ.1 74) : mh_pk b σ σ' := fun j _ => by rw [h]
theorem mh_pk_u1 {b c : Int} {σ σ' : mh_H} {x : Int32} (h : σ'.1 74 = mh_u1 (σ.1 74) c.toNat x) (hb : 0 ≤ b ∧ b ≤ c) : mh_pk b σ σ' := fun j hj => by rw [h]; exact if_neg (by omega)
/-- signs of a sum that stand on the stack -/
def mh_vs (x : Int32) : Prop := x.toInt = 42 ∨ x.toInt = 47 ∨ x.toInt = 37 ∨ x.toInt = 43 ∨ x.toInt = 45 ∨ x.toInt = 91
def mh_cs (x : Int32) : Prop := x.toInt = 40 ∨ x.toInt = 33 ∨ x.toInt = 38 ∨ x.toInt = 124
/-- what lies under a sum on the stack -/
def mh_fl (stk : Nat → Int32) (h : Nat) : Prop := ∀ j, j + 1 = h → ¬ mh_vs (stk j)
/-- from h on the stack has signs of a sum alone -/
def mh_ab (stk : Nat → Int32) (h n : Nat) : Prop := ∀ j, h ≤ j → j < n → mh_vs (stk j)
theorem mh_hr_c {σ σ' : mh_H} (h1 : σ'.1 57 23 = σ.1 57 23) (h2 : σ'.1 57 24 = σ.1 57 24) (h3 : σ'.1 58 = σ.1 58) : mh_hr σ' = mh_hr σ := by
  unfold mh_hr
  rw [h1, h2, h3]
theorem mh_hr_lt {σ : mh_H} (h : (mh_hr σ).toInt ≠ 0) : (σ.1 57 23).toInt < (σ.1 57 24).toInt := by
  by_cases q : (σ.1 57 23).toInt < (σ.1 57 24).toInt
  · exact q
  · unfold mh_hr at h
    rw [if_neg q] at h
    exact absurd (by decide) h
theorem mh_tp_c {σ σ' : mh_H} (h1 : σ'.1 57 29 = σ.1 57 29) (h3 : σ'.1 76 = σ.1 76) : mh_tp σ' = mh_tp σ := by
  unfold mh_tp
  rw [h1, h3]
theorem mh_tp_s {σ : mh_H} (h : (mh_tp σ).toInt ≠ 0) : 0 < (σ.1 57 29).toInt ∧ σ.1 76 ((σ.1 57 29).toInt.toNat - 1) = mh_tp σ := by
  by_cases q : 0 < (σ.1 57 29).toInt
  · refine ⟨q, ?_⟩
    unfold mh_tp
    rw [if_pos q]
  · unfold mh_tp at h
    rw [if_neg q] at h
    exact absurd (by decide) h
theorem mh_pk_em {b c : Int} {σ σ' : mh_H} {x y : Int32} {P Q : Prop} (h : (y.toInt = 0 → σ'.1 74 = mh_u1 (σ.1 74) c.toNat x ∧ P) ∧ (y.toInt ≠ 0 → σ'.1 74 = σ.1 74 ∧ Q)) (hb : 0 ≤ b ∧ b ≤ c) : mh_pk b σ σ' := by
  by_cases q : y.toInt = 0
  · exact mh_pk_u1 (h.1 q).1 hb
  · exact mh_pk_row (h.2 q).1
theorem mh_fl_ge {stk : Nat → Int32} {h n0 n1 : Nat} (hfl : mh_fl stk h) (hh : h ≤ n0) (hp : ∀ j, n1 ≤ j → j < n0 → mh_vs (stk j)) : h ≤ n1 := by
  rcases Nat.lt_or_ge n1 h with q | q
  · exact absurd (hp (h - 1) (by omega) (by omega)) (hfl (h - 1) (by omega))
  · exact q
theorem mh_fl_c {stk stk' : Nat → Int32} {h : Nat} (hfl : mh_fl stk h) (hs : ∀ j, j < h → stk' j = stk j) : mh_fl stk' h := fun j hj => by
  rw [hs j (by omega)]
  exact hfl j hj
theorem mh_ab_sub {stk : Nat → Int32} {h n n' : Nat} (ha : mh_ab stk h n) (hn : n' ≤ n) : mh_ab stk h n' := fun j h1 h2 => ha j h1 (by omega)
theorem mh_ab_psh {stk : Nat → Int32} {h n : Nat} {x : Int32} (ha : mh_ab stk h n) (hx : mh_vs x) : mh_ab (mh_u1 stk n x) h (n + 1) := fun j h1 h2 => by
  by_cases q : j = n
  · have : mh_u1 stk n x j = x := if_pos q
    rw [this]; exact hx
  · have : mh_u1 stk n x j = stk j := if_neg q
    rw [this]; exact ha j h1 (by omega)
theorem mh_pd_c {b : Int} {δ : Nat} {σ σ' : mh_H} (h : mh_pd b δ σ) (e1 : σ'.1 57 25 = σ.1 57 25) (e2 : σ'.1 57 27 = σ.1 57 27) (e3 : σ'.1 57 29 = σ.1 57 29) (e4 : σ'.1 74 = σ.1 74) (e5 : σ'.1 76 = σ.1 76) : mh_pd b δ σ' := by
  unfold mh_pd
  rw [e1, e2, e3, e4, e5]
  exact h
theorem mh_u1_lt {f : Nat → Int32} {i j : Nat} {x : Int32} (h : j < i) : mh_u1 f i x j = f j := if_neg (by omega)
end
section
/-- the stack of a condition: a ( under all, and signs of conditions alone -/
def mh_cq (stk : Nat → Int32) (n : Nat) : Prop := 1 ≤ n ∧ (stk 0).toInt = 40 ∧ ∀ j, j < n → mh_cs (stk j)
theorem mh_cq_psh {stk : Nat → Int32} {n : Nat} {x : Int32} (h : mh_cq stk n) (hx : mh_cs x) : mh_cq (mh_u1 stk n x) (n + 1) := by
  refine ⟨by omega, ?_, fun j hj => ?_⟩
  · rw [mh_u1_lt h.1]; exact h.2.1
  · by_cases q : j = n
    · have : mh_u1 stk n x j = x := if_pos q
      rw [this]; exact hx
    · rw [mh_u1_lt (by omega)]; exact h.2.2 j (by omega)
theorem mh_cq_sub {stk stk' : Nat → Int32} {n n' : Nat} (h : mh_cq stk n) (h1 : 1 ≤ n') (h2 : n' ≤ n) (hs : ∀ j, j < n' → stk' j = stk j) : mh_cq stk' n' :=
  ⟨h1, by rw [hs 0 h1]; exact h.2.1, fun j hj => by rw [hs j hj]; exact h.2.2 j (by omega)⟩
theorem mh_cq_fl {stk : Nat → Int32} {n : Nat} (h : mh_cq stk n) : mh_fl stk n := fun j hj q => by
  have h1 := h.2.2 j (by omega)
  unfold mh_cs at h1
  unfold mh_vs at q
  omega
theorem mh_cq_pop {stk : Nat → Int32} {n n1 : Nat} (h : mh_cq stk n) (hp : ∀ j, n1 ≤ j → j < n → (stk j).toInt ≠ 40) : 1 ≤ n1 := by
  rcases Nat.lt_or_ge 0 n1 with q | q
  · exact q
  · exact absurd h.2.1 (hp 0 q h.1)
theorem mh_cq_1 {stk : Nat → Int32} {x : Int32} (hx : x.toInt = 40) : mh_cq (mh_u1 stk 0 x) 1 := by
  have h0 : mh_u1 stk 0 x 0 = x := if_pos rfl
  refine ⟨by omega, by rw [h0]; exact hx, fun j hj => ?_⟩
  have : j = 0 := by omega
  subst this
  rw [h0]
  unfold mh_cs
  omega
end
section
/-- as mh_pb, whatever lies on the stack -/
def mh_pw (σ : mh_H) : Prop := 0 ≤ (σ.1 57 23).toInt ∧ (σ.1 57 23).toInt ≤ (σ.1 57 24).toInt ∧ (σ.1 57 24).toInt ≤ 200 ∧ 0 ≤ (σ.1 57 27).toInt ∧ (σ.1 57 27).toInt ≤ (σ.1 57 23).toInt ∧ (σ.1 57 25).toInt ≤ 0 ∧ 0 ≤ (σ.1 57 26).toInt ∧ (σ.1 57 26).toInt ≤ 14
/-- the first n clauses that were read are sound code, up to m -/
def mh_ls (σ : mh_H) (n : Nat) (m : Int) : Prop := ∀ c, c < n → mh_seg (σ.1 74) (σ.1 71 c).toInt (σ.1 72 c).toInt ∧ mh_seg (σ.1 74) (σ.1 72 c).toInt (σ.1 73 c).toInt ∧ (σ.1 73 c).toInt ≤ m
theorem mh_seg_c {f g : Nat → Int32} {a b m : Int} (h : mh_seg f a b) (hb : b ≤ m) (hk : ∀ j : Nat, (j : Int) < m → g j = f j) : mh_seg g a b := by
  obtain ⟨h1, h2, h3, h4⟩ := h
  refine ⟨h1, h2, h3, ?_⟩
  rw [mh_dps_c (fun j hj1 hj2 => hk j (by omega))]
  exact h4
theorem mh_ls_0 {σ : mh_H} {m : Int} : mh_ls σ 0 m := fun c h => absurd h (by omega)
theorem mh_ls_step {σ σ' : mh_H} {n : Nat} {b b2 c' : Int} (h : mh_ls σ n b) (hk : ∀ j : Nat, (j : Int) < b → σ'.1 74 j = σ.1 74 j) (r1 : ∀ c, c < n → σ'.1 71 c = σ.1 71 c) (r2 : ∀ c, c < n → σ'.1 72 c = σ.1 72 c) (r3 : ∀ c, c < n → σ'.1 73 c = σ.1 73 c)
    (s1 : (σ'.1 71 n).toInt = b) (s2 : (σ'.1 72 n).toInt = b2) (s3 : (σ'.1 73 n).toInt = c') (g1 : mh_dps (σ'.1 74) (b2 - b).toNat b.toNat 0 = some 1) (g2 : mh_dps (σ'.1 74) (c' - b2).toNat b2.toNat 0 = some 1) (hb : 0 ≤ b ∧ b ≤ b2 ∧ b2 ≤ c' ∧ c' ≤ 200) : mh_ls σ' (n + 1) c' := by
  intro c hc
  by_cases q : c = n
  · subst q
    rw [s1, s2, s3]
    exact ⟨⟨hb.1, hb.2.1, by omega, g1⟩, ⟨by omega, hb.2.2.1, hb.2.2.2, g2⟩, Int.le_refl _⟩
  · have h9 := h c (by omega)
    rw [r1 c (by omega), r2 c (by omega), r3 c (by omega)]
    exact ⟨mh_seg_c h9.1 (by have := h9.2.1.2.1; omega) hk, mh_seg_c h9.2.1 h9.2.2 hk, by omega⟩
theorem mh_pdr_0 {f stk : Nat → Int32} {c : Int} {n : Nat} (hn : n = 0) : mh_pdr f c c stk n 0 := by
  subst hn
  unfold mh_pdr
  rw [show (c - c).toNat = 0 by omega]
  rfl
theorem mh_pd_1 {b : Int} {σ : mh_H} (h : mh_pd b 1 σ) (hg : (σ.1 57 25).toInt = 0) (hs : (σ.1 57 29).toInt = 0) : mh_dps (σ.1 74) ((σ.1 57 27).toInt - b).toNat b.toNat 0 = some 1 := by
  have h1 := h hg
  unfold mh_pdr at h1
  rw [hs] at h1
  exact h1
def mh_I0 (B D : Int) (σ : mh_H) : Prop := (∀ k j, mh_r (σ.1 k j) (mh_bd B D k j).1 (mh_bd B D k j).2) ∧ mh_IR σ
theorem mh_I0_of {B D : Int} {σ : mh_H} (h : mh_I B D σ) : mh_I0 B D σ := ⟨h.1, h.2.1⟩
theorem mh_I0_up {B D : Int} {σ : mh_H} (h : mh_I0 B D σ) (hw : mh_wfc σ) : mh_I B D σ := ⟨h.1, h.2, hw⟩
theorem mh_rf0 {B D : Int} {σ : mh_H} (h : mh_I0 B D σ) {k j t : Nat} (i : Nat) (hi : mh_rfL[i]? = some (k, j, t)) : σ.2.2 k j = t := h.2.1 (k, j, t) (List.mem_of_getElem? hi)
theorem mh_I0_put {B D : Int} {σ : mh_H} (h : mh_I0 B D σ) {k j : Nat} {x : Int32} (hx : mh_r x (mh_bd B D k j).1 (mh_bd B D k j).2) : mh_I0 B D (mh_pI σ k j x) := by
  refine ⟨fun a b => ?_, h.2⟩
  by_cases q : a = k ∧ b = j
  · rw [q.1, q.2]
    show mh_r (mh_up σ.1 k j x k j) _ _
    rw [mh_up_s]
    exact hx
  · show mh_r (mh_up σ.1 k j x a b) _ _
    rw [mh_up_n q]
    exact h.1 a b
theorem w0_64 {B D : Int} {σ : mh_H} (h : mh_I0 B D σ) {j : Nat} {x : Int32} : mh_I0 B D (mh_pI σ 64 j x) := mh_I0_put h (show mh_r x (mh_bd B D 64 j).1 (mh_bd B D 64 j).2 from mh_r_full x)
theorem w0_68 {B D : Int} {σ : mh_H} (h : mh_I0 B D σ) {j : Nat} {x : Int32} : mh_I0 B D (mh_pI σ 68 j x) := mh_I0_put h (show mh_r x (mh_bd B D 68 j).1 (mh_bd B D 68 j).2 from mh_r_full x)
theorem w0_69 {B D : Int} {σ : mh_H} (h : mh_I0 B D σ) {j : Nat} {x : Int32} : mh_I0 B D (mh_pI σ 69 j x) := mh_I0_put h (show mh_r x (mh_bd B D 69 j).1 (mh_bd B D 69 j).2 from mh_r_full x)
theorem w0_65 {B D : Int} {σ : mh_H} (h : mh_I0 B D σ) {j : Nat} {x : Int32} (hx : mh_r x 0 200) : mh_I0 B D (mh_pI σ 65 j x) := mh_I0_put h (show mh_r x (mh_bd B D 65 j).1 (mh_bd B D 65 j).2 from hx)
theorem w0_66 {B D : Int} {σ : mh_H} (h : mh_I0 B D σ) {j : Nat} {x : Int32} (hx : mh_r x 0 200) : mh_I0 B D (mh_pI σ 66 j x) := mh_I0_put h (show mh_r x (mh_bd B D 66 j).1 (mh_bd B D 66 j).2 from hx)
theorem w0_67 {B D : Int} {σ : mh_H} (h : mh_I0 B D σ) {j : Nat} {x : Int32} (hx : mh_r x 0 200) : mh_I0 B D (mh_pI σ 67 j x) := mh_I0_put h (show mh_r x (mh_bd B D 67 j).1 (mh_bd B D 67 j).2 from hx)
theorem w0_57_10 {B D : Int} {σ : mh_H} (h : mh_I0 B D σ) {x : Int32} (hx : mh_r x 0 14) : mh_I0 B D (mh_pI σ 57 10 x) := mh_I0_put h (show mh_r x (mh_bd B D 57 10).1 (mh_bd B D 57 10).2 from hx)
theorem mh_wfc_of {σ σ' : mh_H} {n : Nat} {m : Int} (h : mh_ls σ n m) (hn : (σ'.1 57 10).toInt = n) (h68 : ∀ j : Nat, (j : Int) < m → σ'.1 68 j = σ.1 74 j) (h65 : ∀ c, c < n → σ'.1 65 c = σ.1 71 c) (h66 : ∀ c, c < n → σ'.1 66 c = σ.1 72 c) (h67 : ∀ c, c < n → σ'.1 67 c = σ.1 73 c) : mh_wfc σ' := by
  intro c hc
  have hc2 : c < n := by omega
  have h9 := h c hc2
  rw [h65 c hc2, h66 c hc2, h67 c hc2]
  exact ⟨mh_seg_c h9.1 (by have := h9.2.1.2.1; omega) h68, mh_seg_c h9.2.1 h9.2.2 h68⟩
theorem mh_ls_c {σ σ' : mh_H} {n n' : Nat} {m m' : Int} (h : mh_ls σ n m) (hn : n' = n) (hm : m' = m) (e1 : σ'.1 71 = σ.1 71) (e2 : σ'.1 72 = σ.1 72) (e3 : σ'.1 73 = σ.1 73) (e4 : σ'.1 74 = σ.1 74) : mh_ls σ' n' m' := by
  subst hn; subst hm
  unfold mh_ls
  rw [e1, e2, e3, e4]
  exact h
theorem mh_ls_r {σ : mh_H} {n c : Nat} {m : Int} (h : mh_ls σ n m) (hc : c < n) : mh_r (σ.1 71 c) 0 200 ∧ mh_r (σ.1 72 c) 0 200 ∧ mh_r (σ.1 73 c) 0 200 := by
  have h9 := h c hc
  obtain ⟨⟨a1, a2, a3, -⟩, ⟨b1, b2, b3, -⟩, -⟩ := h9
  exact ⟨⟨by omega, by omega⟩, ⟨by omega, by omega⟩, ⟨by omega, by omega⟩⟩
end
section
theorem c_isLatin1 (l : Launch) (G : mh_G) (d i : Nat) (hi : i < 2) (σ : mh_H) : mh_Mi l G d mM_J0_isLatin1_aae02 [.ref (G.2.2.2 (1000 + i))] σ (fun z s => z = 1 ∧ σ = s) := by
  refine mh_enter (lv := [(0, .ref (G.2.2.2 (1000 + i)))]) (by decide) rfl (Nat.le_of_ble_eq_true rfl) ?_
  refine mw_cs 3 rfl dJ0_isLatin1_aae02_0 sf_38 ?_
  refine mw_if_eq 6 rfl 17 dJ0_isLatin1_aae02_3 (by decide) (fun c => absurd c (by decide)) (fun _ => ?_)
  refine mw_aload_n 7 rfl 0 dJ0_isLatin1_aae02_6 rfl rfl ?_
  refine mw_strc hi 10 rfl dJ0_isLatin1_aae02_7 sf_15 ?_
  refine mw_if_ne 13 rfl 17 dJ0_isLatin1_aae02_10 (by decide) (fun c => absurd (by decide) c) (fun _ => ?_)
  refine mw_iconst (v := 1) 14 rfl dJ0_isLatin1_aae02_13 (by decide) ?_
  refine mw_goto 17 rfl 18 dJ0_isLatin1_aae02_14 (by decide) ?_
  exact mw_zret dJ0_isLatin1_aae02_18 rfl (mh_r_wk rc_1 (by decide)) ⟨_, rfl, rfl, rfl⟩
theorem c_coder (l : Launch) (G : mh_G) (d i : Nat) (hi : i < 2) (σ : mh_H) : mh_Mi l G d mM_J0_coder_7d493 [.ref (G.2.2.2 (1000 + i))] σ (fun z s => z = 0 ∧ σ = s) := by
  refine mh_enter (lv := [(0, .ref (G.2.2.2 (1000 + i)))]) (by decide) rfl (Nat.le_of_ble_eq_true rfl) ?_
  refine mw_cs 3 rfl dJ0_coder_7d493_0 sf_38 ?_
  refine mw_if_eq 6 rfl 13 dJ0_coder_7d493_3 (by decide) (fun c => absurd c (by decide)) (fun _ => ?_)
  refine mw_aload_n 7 rfl 0 dJ0_coder_7d493_6 rfl rfl ?_
  refine mw_strc hi 10 rfl dJ0_coder_7d493_7 sf_15 ?_
  refine mw_goto 13 rfl 14 dJ0_coder_7d493_10 (by decide) ?_
  exact mw_bret dJ0_coder_7d493_14 rfl rfl ⟨_, rfl, rfl, rfl⟩
theorem c_length (l : Launch) (G : mh_G) (d i : Nat) (hi : i < 2) (σ : mh_H) : mh_Mi l G (d + 1) mM_J0_length_8abf5 [.ref (G.2.2.2 (1000 + i))] σ (fun z s => z = Int32.ofNat (mh_sl.getD i 0) ∧ σ = s) := by
  refine mh_enter (lv := [(0, .ref (G.2.2.2 (1000 + i)))]) (by decide) rfl (Nat.le_of_ble_eq_true rfl) ?_
  refine mw_aload_n 1 rfl 0 dJ0_length_8abf5_0 rfl rfl ?_
  refine mw_strv hi 4 rfl dJ0_length_8abf5_1 sf_9 ?_
  refine mw_strl hi 5 rfl dJ0_length_8abf5_4 rfl ?_
  refine mw_aload_n 6 rfl 0 dJ0_length_8abf5_5 rfl rfl ?_
  refine mw_callKi hi [] [.int (Int32.ofNat (mh_sl.getD i 0))] 9 rfl dJ0_length_8abf5_6 ml_J0_335 mc_J0_coder_7d493 mk_J0_coder_7d493 rfl (c_coder l G d i hi σ) rfl rfl (Nat.le_of_ble_eq_true rfl) (mh_rok (by omega) (by decide)) (fun z s2 hq => ?_)
  obtain ⟨rfl, rfl⟩ := hq
  refine mw_ishr_u 10 rfl dJ0_length_8abf5_9 (fun z hz => ?_)
  refine mw_iret dJ0_length_8abf5_10 rfl ⟨z, rfl, ?_, rfl⟩
  rw [hz]
  rcases (show i = 0 ∨ i = 1 by omega) with rfl | rfl <;> decide
theorem c_canEncode (l : Launch) (G : mh_G) (d : Nat) (σ : mh_H) (x : Int32) : mh_Mi l G d mM_J1_canEncode_9a6ad [.int x] σ (fun z s => mh_r z 0 1 ∧ σ = s) := by
  refine mh_enter (lv := [(0, .int x)]) (by decide) rfl (Nat.le_of_ble_eq_true rfl) ?_
  refine mw_iload_n 1 rfl 0 dJ1_canEncode_9a6ad_0 rfl rfl ?_
  refine mw_if_lt 4 rfl 15 dJ1_canEncode_9a6ad_1 (by decide) (fun _ => ?_) (fun _ => ?_)
  · refine mw_iconst (v := 0) 16 rfl dJ1_canEncode_9a6ad_15 (by decide) ?_
    exact mw_zret dJ1_canEncode_9a6ad_16 rfl (mh_r_wk rc_0 (by decide)) ⟨_, rfl, mh_r_wk rc_0 (by decide), rfl⟩
  · refine mw_iload_n 5 rfl 0 dJ1_canEncode_9a6ad_4 rfl rfl ?_
    refine mw_sipush (v := 255) 8 rfl dJ1_canEncode_9a6ad_5 (by decide) ?_
    refine mw_icmp_gt 11 rfl 15 dJ1_canEncode_9a6ad_8 (by decide) (fun _ => ?_) (fun _ => ?_)
    · refine mw_iconst (v := 0) 16 rfl dJ1_canEncode_9a6ad_15 (by decide) ?_
      exact mw_zret dJ1_canEncode_9a6ad_16 rfl (mh_r_wk rc_0 (by decide)) ⟨_, rfl, mh_r_wk rc_0 (by decide), rfl⟩
    · refine mw_iconst (v := 1) 12 rfl dJ1_canEncode_9a6ad_11 (by decide) ?_
      refine mw_goto 15 rfl 16 dJ1_canEncode_9a6ad_12 (by decide) ?_
      exact mw_zret dJ1_canEncode_9a6ad_16 rfl (mh_r_wk rc_1 (by decide)) ⟨_, rfl, mh_r_wk rc_1 (by decide), rfl⟩
theorem mh_sl13 {i : Nat} (hi : i < 2) : mh_sl.getD i 0 ≤ 13 := by
  rcases (show i = 0 ∨ i = 1 by omega) with rfl | rfl <;> decide
theorem c_indexOfChar (l : Launch) (G : mh_G) (d i : Nat) (hi : i < 2) (σ : mh_H) (x a b : Int32) (ha : mh_r a 0 2147483647) (hb : b.toInt ≤ mh_sl.getD i 0) (hab : a.toInt < b.toInt) : mh_Mi l G d mM_J1_indexOfChar_4cfef [.ref (G.2.2.2 (1010 + i)), .int x, .int a, .int b] σ (fun _ s => σ = s) := by
  have h13 := mh_sl13 hi
  refine mh_enter (lv := [(0, .ref (G.2.2.2 (1010 + i))), (1, .int x), (2, .int a), (3, .int b)]) (by decide) rfl (Nat.le_of_ble_eq_true rfl) ?_
  refine mw_iload_n 1 rfl 1 dJ1_indexOfChar_4cfef_0 rfl rfl ?_
  refine mw_i2b 2 rfl dJ1_indexOfChar_4cfef_1 (fun w _ => ?_)
  refine mw_istore 4 rfl [(4, .int w), (0, .ref (G.2.2.2 (1010 + i))), (1, .int x), (2, .int a), (3, .int b)] dJ1_indexOfChar_4cfef_2 (by decide) rfl ?_
  refine mw_iload_n 5 rfl 3 dJ1_indexOfChar_4cfef_4 rfl rfl ?_
  refine mw_istore 7 rfl [(5, .int a), (4, .int w), (0, .ref (G.2.2.2 (1010 + i))), (1, .int x), (2, .int a), (3, .int b)] dJ1_indexOfChar_4cfef_5 (by decide) rfl ?_
  have L : ∀ n : Nat, ∀ y : Int32, mh_r y 0 13 → 13 - y.toInt < (n : Int) → mh_W G (mh_XM l G d (mh_Qi (fun _ s => σ = s))) mM_J1_indexOfChar_4cfef 7 [(5, .int y), (4, .int w), (0, .ref (G.2.2.2 (1010 + i))), (1, .int x), (2, .int a), (3, .int b)] [] σ := by
    intro n
    induction n with
    | zero => intro y hy hm; exact absurd hm (by have := hy.2; omega)
    | succ n ih =>
      intro y hy hm
      have hy1 := hy.1
      refine mw_iload 9 rfl 0 dJ1_indexOfChar_4cfef_7 rfl ?_
      refine mw_iload_n 10 rfl 5 dJ1_indexOfChar_4cfef_9 rfl rfl ?_
      refine mw_icmp_ge 13 rfl 31 dJ1_indexOfChar_4cfef_10 (by decide) (fun c => ?_) (fun c => ?_)
      · refine mw_iconst (v := -1) 32 rfl dJ1_indexOfChar_4cfef_31 (by decide) ?_
        exact mw_iret dJ1_indexOfChar_4cfef_32 rfl ⟨_, rfl, rfl⟩
      · refine mw_aload_n 14 rfl 2 dJ1_indexOfChar_4cfef_13 rfl rfl ?_
        refine mw_iload 16 rfl 0 dJ1_indexOfChar_4cfef_14 rfl ?_
        have r12 : mh_r y 0 12 := ⟨hy1, by omega⟩
        refine mw_strb (a := 0) (b := y.toInt) hi 17 rfl dJ1_indexOfChar_4cfef_16 ⟨hy1, Int.le_refl _⟩ ⟨by decide, by omega⟩ (fun z _ => ?_)
        refine mw_iload 19 rfl 1 dJ1_indexOfChar_4cfef_17 rfl ?_
        refine mw_icmp_ne 22 rfl 25 dJ1_indexOfChar_4cfef_19 (by decide) (fun _ => ?_) (fun _ => ?_)
        · refine mw_iincR (k := 0) (1) (13) 28 rfl (fun z => [(5, .int z), (4, .int w), (0, .ref (G.2.2.2 (1010 + i))), (1, .int x), (2, .int a), (3, .int b)]) dJ1_indexOfChar_4cfef_25 rfl (by decide) (fun _ => rfl) r12 (by decide) (by decide) (fun y2 t2 r2 => ?_)
          refine mw_goto 31 rfl 7 dJ1_indexOfChar_4cfef_28 (by decide) ?_
          exact ih y2 (mh_r_wk r2 (by decide)) (by omega)
        · refine mw_iload 24 rfl 0 dJ1_indexOfChar_4cfef_22 rfl ?_
          exact mw_iret dJ1_indexOfChar_4cfef_24 rfl ⟨_, rfl, rfl⟩
  have ha1 := ha.1
  exact L 14 a ⟨ha1, by omega⟩ (by omega)
theorem c_indexOf4 (l : Launch) (G : mh_G) (d i : Nat) (hi : i < 2) (σ : mh_H) (x a b : Int32) : mh_Mi l G (d + 1) mM_J1_indexOf_4cfef [.ref (G.2.2.2 (1010 + i)), .int x, .int a, .int b] σ (fun _ s => σ = s) := by
  have h13 := mh_sl13 hi
  refine mh_enter (lv := [(0, .ref (G.2.2.2 (1010 + i))), (1, .int x), (2, .int a), (3, .int b)]) (by decide) rfl (Nat.le_of_ble_eq_true rfl) ?_
  refine mw_iload_n 1 rfl 1 dJ1_indexOf_4cfef_0 rfl rfl ?_
  refine mw_callSi [.int x] [] 4 rfl dJ1_indexOf_4cfef_1 ml_J1_88 mc_J1_canEncode_9a6ad mk_J1_canEncode_9a6ad (c_canEncode l G d σ x) rfl rfl (Nat.le_of_ble_eq_true rfl) (mh_rok (by omega) (by decide)) (fun z s2 hq => ?_)
  obtain ⟨-, rfl⟩ := hq
  refine mw_if_ne 7 rfl 9 dJ1_indexOf_4cfef_4 (by decide) (fun _ => ?_) (fun _ => ?_)
  · refine mw_iload_n 10 rfl 2 dJ1_indexOf_4cfef_9 rfl rfl ?_
    refine mw_iconst (v := 0) 11 rfl dJ1_indexOf_4cfef_10 (by decide) ?_
    refine mw_mmax (0) (2147483647) 14 rfl dJ1_indexOf_4cfef_11 ml_J1_92 (mh_r_full a) rc_0 (by decide) (mh_mr (D := d + 1) (by omega) (Nat.le_of_ble_eq_true rfl)) (fun a2 ta ra => ?_)
    refine mw_istore_n 15 rfl [(2, .int a2), (0, .ref (G.2.2.2 (1010 + i))), (1, .int x), (3, .int b)] dJ1_indexOf_4cfef_14 rfl (by decide) rfl ?_
    refine mw_iload_n 16 rfl 3 dJ1_indexOf_4cfef_15 rfl rfl ?_
    refine mw_aload_n 17 rfl 1 dJ1_indexOf_4cfef_16 rfl rfl ?_
    refine mw_strl hi 18 rfl dJ1_indexOf_4cfef_17 rfl ?_
    refine mw_mmin (-2147483648) (2147483647) 21 rfl dJ1_indexOf_4cfef_18 ml_J1_38 (mh_r_full b) (mh_r_full _) (by decide) (mh_mr (D := d + 1) (by omega) (Nat.le_of_ble_eq_true rfl)) (fun b2 tb rb => ?_)
    have hb2 : b2.toInt ≤ mh_sl.getD i 0 := by
      have h7 : (Int32.ofNat (mh_sl.getD i 0)).toInt = mh_sl.getD i 0 := by
        rcases (show i = 0 ∨ i = 1 by omega) with rfl | rfl <;> decide
      rw [h7] at tb
      omega
    refine mw_istore_n 22 rfl [(3, .int b2), (2, .int a2), (0, .ref (G.2.2.2 (1010 + i))), (1, .int x)] dJ1_indexOf_4cfef_21 rfl (by decide) rfl ?_
    refine mw_iload_n 23 rfl 1 dJ1_indexOf_4cfef_22 rfl rfl ?_
    refine mw_iload_n 24 rfl 0 dJ1_indexOf_4cfef_23 rfl rfl ?_
    refine mw_icmp_lt 27 rfl 29 dJ1_indexOf_4cfef_24 (by decide) (fun c => ?_) (fun c => ?_)
    · refine mw_aload_n 30 rfl 2 dJ1_indexOf_4cfef_29 rfl rfl ?_
      refine mw_iload_n 31 rfl 3 dJ1_indexOf_4cfef_30 rfl rfl ?_
      refine mw_iload_n 32 rfl 1 dJ1_indexOf_4cfef_31 rfl rfl ?_
      refine mw_iload_n 33 rfl 0 dJ1_indexOf_4cfef_32 rfl rfl ?_
      refine mw_callSi [.ref (G.2.2.2 (1010 + i)), .int x, .int a2, .int b2] [] 36 rfl dJ1_indexOf_4cfef_33 ml_J1_95 mc_J1_indexOfChar_4cfef mk_J1_indexOfChar_4cfef (c_indexOfChar l G d i hi σ x a2 b2 ra hb2 c) rfl rfl (Nat.le_of_ble_eq_true rfl) (mh_rok (by omega) (by decide)) (fun z3 s3 hq => ?_)
      obtain rfl := hq
      exact mw_iret dJ1_indexOf_4cfef_36 rfl ⟨_, rfl, rfl⟩
    · refine mw_iconst (v := -1) 28 rfl dJ1_indexOf_4cfef_27 (by decide) ?_
      exact mw_iret dJ1_indexOf_4cfef_28 rfl ⟨_, rfl, rfl⟩
  · refine mw_iconst (v := -1) 8 rfl dJ1_indexOf_4cfef_7 (by decide) ?_
    exact mw_iret dJ1_indexOf_4cfef_8 rfl ⟨_, rfl, rfl⟩
theorem c_indexOf2 (l : Launch) (G : mh_G) (d i : Nat) (hi : i < 2) (σ : mh_H) (x a : Int32) : mh_Mi l G (d + 2) mM_J0_indexOf_7cf53 [.ref (G.2.2.2 (1000 + i)), .int x, .int a] σ (fun _ s => σ = s) := by
  refine mh_enter (lv := [(0, .ref (G.2.2.2 (1000 + i))), (1, .int x), (2, .int a)]) (by decide) rfl (Nat.le_of_ble_eq_true rfl) ?_
  refine mw_aload_n 1 rfl 0 dJ0_indexOf_7cf53_0 rfl rfl ?_
  refine mw_callKi hi [] [] 4 rfl dJ0_indexOf_7cf53_1 ml_J0_492 mc_J0_isLatin1_aae02 mk_J0_isLatin1_aae02 rfl (c_isLatin1 l G d i hi σ) rfl rfl (Nat.le_of_ble_eq_true rfl) (mh_rok (by omega) (by decide)) (fun z s2 hq => ?_)
  obtain ⟨rfl, rfl⟩ := hq
  refine mw_if_eq 7 rfl 23 dJ0_indexOf_7cf53_4 (by decide) (fun c => absurd c (by decide)) (fun _ => ?_)
  refine mw_aload_n 8 rfl 0 dJ0_indexOf_7cf53_7 rfl rfl ?_
  refine mw_strv hi 11 rfl dJ0_indexOf_7cf53_8 sf_9 ?_
  refine mw_iload_n 12 rfl 1 dJ0_indexOf_7cf53_11 rfl rfl ?_
  refine mw_iload_n 13 rfl 2 dJ0_indexOf_7cf53_12 rfl rfl ?_
  refine mw_aload_n 14 rfl 0 dJ0_indexOf_7cf53_13 rfl rfl ?_
  refine mw_callKi hi [] [.int a, .int x, .ref (G.2.2.2 (1010 + i))] 17 rfl dJ0_indexOf_7cf53_14 ml_J0_505 mc_J0_length_8abf5 mk_J0_length_8abf5 rfl (c_length l G d i hi σ) rfl rfl (Nat.le_of_ble_eq_true rfl) (mh_rok (by omega) (by decide)) (fun z2 s2 hq => ?_)
  obtain ⟨-, rfl⟩ := hq
  refine mw_callSi [.ref (G.2.2.2 (1010 + i)), .int x, .int a, .int z2] [] 20 rfl dJ0_indexOf_7cf53_17 ml_J0_637 mc_J1_indexOf_4cfef mk_J1_indexOf_4cfef (c_indexOf4 l G d i hi σ x a z2) rfl rfl (Nat.le_of_ble_eq_true rfl) (mh_rok (by omega) (by decide)) (fun z3 s3 hq => ?_)
  obtain rfl := hq
  refine mw_goto 23 rfl 36 dJ0_indexOf_7cf53_20 (by decide) ?_
  exact mw_iret dJ0_indexOf_7cf53_36 rfl ⟨_, rfl, rfl⟩
theorem c_indexOf (l : Launch) (G : mh_G) (d i : Nat) (hi : i < 2) (σ : mh_H) (x : Int32) : mh_Mi l G (d + 3) mM_J0_indexOf_0f7a4 [.ref (G.2.2.2 (1000 + i)), .int x] σ (fun _ s => σ = s) := by
  refine mh_enter (lv := [(0, .ref (G.2.2.2 (1000 + i))), (1, .int x)]) (by decide) rfl (Nat.le_of_ble_eq_true rfl) ?_
  refine mw_aload_n 1 rfl 0 dJ0_indexOf_0f7a4_0 rfl rfl ?_
  refine mw_iload_n 2 rfl 1 dJ0_indexOf_0f7a4_1 rfl rfl ?_
  refine mw_iconst (v := 0) 3 rfl dJ0_indexOf_0f7a4_2 (by decide) ?_
  refine mw_callKi hi [.int x, .int 0] [] 6 rfl dJ0_indexOf_0f7a4_3 ml_J0_633 mc_J0_indexOf_7cf53 mk_J0_indexOf_7cf53 rfl (c_indexOf2 l G d i hi σ x 0) rfl rfl (Nat.le_of_ble_eq_true rfl) (mh_rok (by omega) (by decide)) (fun z s2 hq => ?_)
  obtain rfl := hq
  exact mw_iret dJ0_indexOf_0f7a4_6 rfl ⟨_, rfl, rfl⟩
end
section
/-- what stands of the tables while objects are made -/
def mn_Am (G : mh_G) (U : State) : Prop := va_K (G.1, G.2.1) vwCl (mh_ty G) U ∧ (∀ w ∈ mh_nst, va_Nw w U)
theorem mn_Am.warm {G : mh_G} {s U : State} (h : mn_Am G s) (hW : s.WarmedH U.vm) : mn_Am G U := ⟨va_K.moved hW.alike h.1, fun w hw => mh_Nw (List.mem_filter.mp hw).2 hW (h.2 w hw)⟩
theorem mn_Am.call {G : mh_G} {U : State} (h : mn_Am G U) (g : JFrame) (mk : MethodId) (a : Array Value) : mn_Am G (U.calling g mk a) :=
  ⟨va_K.moved (u := U) (U := U.calling g mk a) (Vm.Alike.refl U.vm) h.1, fun w hw => va_Nw.same (u := U) (U := U.calling g mk a) (mh_Nt (List.mem_filter.mp hw).2) rfl (h.2 w hw)⟩
abbrev mn_X : Type := Launch × Room × (Nat → Prop) × (State → Array Value → List Frame → State → Prop)
def mn_Ok (G : mh_G) (X : mn_X) (μ : mh_Mt) (p : Program) (s : State) (m : MethodId) (args : Array Value) (meth : Method) (c : Code) : Prop :=
  p.tables.exec = Jvm.exec ∧ c.code = μ.2.1 ∧ c.maxLocals = μ.2.2.1 ∧ s.vm.findClass μ.1.cls = some m.cls ∧ (∀ w ∈ mh_base, w.before args s = true) ∧ mn_Am G s ∧ meth.sig.returnType = μ.2.2.2 ∧ meth.locks = false ∧ (∀ q, s.heap.size ≤ q → X.2.2.1 q) ∧ mh_Sg G X.2.2.1 s s.heap ∧ meth.name = μ.1.name
/-- the walk while objects are made: the world is a list of cells -/
def mn_W (G : mh_G) (X : mn_X) (μ : mh_Mt) (cells slots pc : Nat) (lv : List (Nat × Value)) (st : List Value) (ws : va_W) : Prop :=
  ∀ (p : Program) (e : Env) (s : State) (m : MethodId) (args : Array Value) (below : List Frame) (meth : Method) (c : Code), mn_Ok G X μ p s m args meth c →
    ∀ (H : Heap) (locs : List Loc) (ls : Array Slot), lv_has ls μ.2.2.1 lv → va_P (G.1, G.2.1) vwCl ws H → va_D X.2.2.1 ws → va_S X.2.2.1 s.heap H locs →
      W p X.1 e X.2.1 s m args below meth c H locs cells slots (X.2.2.2 s args below) (F0 m pc ls st)
def mn_Pc (G : mh_G) (av : List Value) (ws : va_W) (sz : Nat) : Array Value → State → Prop := va_Pc av (fun U => U.heap.size = sz ∧ va_P (G.1, G.2.1) vwCl ws U.heap ∧ mn_Am G U ∧ va_D (fun _ => True) ws ∧ mh_Sg G (va_A ws sz) U U.heap)
def mn_Q (G : mh_G) (F : va_W → Prop) (A : Nat → Prop) : Array Value → State → Outcome → State → Prop := va_Qv F (fun w t => va_P (G.1, G.2.1) vwCl w t.heap ∧ va_D A w) A
/-- A CONSTRUCTOR'S CONTRACT -/
def mn_M (l : Launch) (G : mh_G) (fr mc ms : Nat) (μ : mh_Mt) (av : List Value) (ws : va_W) (F : va_W → Prop) : Prop :=
  ∀ sz : Nat, Met l μ.1 (.code μ.1 μ.2.1 μ.2.2.1 μ.2.2.2 :: mh_base) { frames := fr, cells := mc, slots := ms, locals := 40 * fr } (mn_Pc G av ws sz) (mn_Q G F (va_A ws sz)) mc ms (va_A ws sz)
abbrev mn_XM (l : Launch) (G : mh_G) (fr mc ms : Nat) (ws : va_W) (sz : Nat) (F : va_W → Prop) : mn_X := (l, { frames := fr, cells := mc, slots := ms, locals := 40 * fr }, va_A ws sz, fun s args below => MQ below (mn_Q G F (va_A ws sz)) args s mc ms (va_A ws sz))
theorem mn_enterQ {l : Launch} {G : mh_G} {fr mc ms : Nat} {μ : mh_Mt} {av : List Value} {ws : va_W} {sz : Nat} {Qc : Array Value → State → Outcome → State → Prop} (hy : plainName μ.1.cls = true) {lv : List (Nat × Value)} (hlv : lv_args 0 av = lv) (hn : (lg_sl av).length ≤ μ.2.2.1)
    (h : mn_W G (l, { frames := fr, cells := mc, slots := ms, locals := 40 * fr }, va_A ws sz, fun s args below => MQ below Qc args s mc ms (va_A ws sz)) μ 0 0 0 lv [] ws) : Met l μ.1 (.code μ.1 μ.2.1 μ.2.2.1 μ.2.2.2 :: mh_base) { frames := fr, cells := mc, slots := ms, locals := 40 * fr } (mn_Pc G av ws sz) Qc mc ms (va_A ws sz) := by
  refine Met.ofW (cc := μ.2.1) (maxL := μ.2.2.1) (ret := μ.2.2.2) hy rfl ?_
  intro p e s m args below meth c s₁ B hml hv
  obtain ⟨rfl, hsz, hP, hAm, hD0, hSg⟩ := hv
  have hts := atoms_spec (ws := .code μ.1 μ.2.1 μ.2.2.1 μ.2.2.2 :: mh_base) B.pre
  have hl := lv_entry av (n := μ.2.2.1) hn
  rw [hlv] at hl
  rw [lg_entry_eq]
  exact h p e s m av.toArray below meth c ⟨B.exec, B.bytes, hml, findClass_of_methodNamed B.named, fun w hw => hts w (List.mem_cons_of_mem _ hw), hAm, B.returns, B.notSynchronized, fun q hq => Or.inr (by rw [← hsz]; exact hq), hSg, (name_of_methodNamed B.named B.method).1⟩ s.heap [] _ hl hP hD0.self va_S.rf
theorem mn_enter {l : Launch} {G : mh_G} {fr mc ms : Nat} {μ : mh_Mt} {av : List Value} {ws : va_W} {F : va_W → Prop} (hy : plainName μ.1.cls = true) {lv : List (Nat × Value)} (hlv : lv_args 0 av = lv) (hn : (lg_sl av).length ≤ μ.2.2.1)
    (h : ∀ sz : Nat, mn_W G (mn_XM l G fr mc ms ws sz F) μ 0 0 0 lv [] ws) : mn_M l G fr mc ms μ av ws F := fun sz => mn_enterQ hy hlv hn (h sz)
section MN
variable {G : mh_G} {X : mn_X} {μ : mh_Mt} {cells slots pc : Nat} {lv : List (Nat × Value)} {st : List Value} {ws : va_W}
theorem mn_aload_n (q : Nat) (hq : pc + 1 = q) {k : Fin 4} {i : Nat} {x : Nat} (j : Nat) (hd : decode μ.2.1 pc = .ok (.aload_n k, 1)) (hi : (k : Nat) = i) (hj : lv[j]? = some (i, .ref x)) (kk : mn_W G X μ cells slots q lv (.ref x :: st) ws) : mn_W G X μ cells slots pc lv st ws := by
  subst hq
  intro p e s m args below meth c ok H locs ls hl hP hD hS
  exact lv_aload_n ok.1 ok.2.1 hd hi (lv_at hl j hj) (kk p e s m args below meth c ok H locs ls hl hP hD hS)
theorem mn_iconst (q : Nat) (hq : pc + 1 = q) {n : Int} {v : Int32} (hd : decode μ.2.1 pc = .ok (.iconst n, 1)) (hv : Int32.ofInt n = v) (kk : mn_W G X μ cells slots q lv (.int v :: st) ws) : mn_W G X μ cells slots pc lv st ws := by
  subst hq
  intro p e s m args below meth c ok H locs ls hl hP hD hS
  exact lv_iconst ok.1 ok.2.1 hd hv (kk p e s m args below meth c ok H locs ls hl hP hD hS)
theorem mn_bipush (q : Nat) (hq : pc + 2 = q) {n : Int} {v : Int32} (hd : decode μ.2.1 pc = .ok (.bipush n, 2)) (hv : (Int8.ofInt n).toInt32 = v) (kk : mn_W G X μ cells slots q lv (.int v :: st) ws) : mn_W G X μ cells slots pc lv st ws := by
  subst hq
  intro p e s m args below meth c ok H locs ls hl hP hD hS
  exact lv_bipush ok.1 ok.2.1 hd hv (kk p e s m args below meth c ok H locs ls hl hP hD hS)
theorem mn_sipush (q : Nat) (hq : pc + 3 = q) {n : Int} {v : Int32} (hd : decode μ.2.1 pc = .ok (.sipush n, 3)) (hv : (Int16.ofInt n).toInt32 = v) (kk : mn_W G X μ cells slots q lv (.int v :: st) ws) : mn_W G X μ cells slots pc lv st ws := by
  subst hq
  intro p e s m args below meth c ok H locs ls hl hP hD hS
  exact lv_sipush ok.1 ok.2.1 hd hv (kk p e s m args below meth c ok H locs ls hl hP hD hS)
theorem mn_dup (q : Nat) (hq : pc + 1 = q) {v : Value} (hd : decode μ.2.1 pc = .ok (.dup, 1)) (hv : v.category = 1) (kk : mn_W G X μ cells slots q lv (v :: v :: st) ws) : mn_W G X μ cells slots pc lv (v :: st) ws := by
  subst hq
  intro p e s m args below meth c ok H locs ls hl hP hD hS
  exact lv_dup ok.1 ok.2.1 hd hv (kk p e s m args below meth c ok H locs ls hl hP hD hS)
theorem mn_obj {ix a : Nat} (q : Nat) (hq : pc + 3 = q) (hd : decode μ.2.1 pc = .ok (.invokespecial ix, 3)) (hk : Cond.methodLink μ.1.cls ix Lib.objectInit ∈ mh_base) (h1 : Cond.instanceMethod Lib.objectInit ∈ mh_base) (h2 : Cond.code Lib.objectInit ⟨#[0xb1]⟩ 1 none ∈ mh_base) (hR : 1 ≤ X.2.1.frames ∧ (st.map fun v => v.category).sum + 12 ≤ X.2.1.locals) (kk : mn_W G X μ cells slots q lv st ws) : mn_W G X μ cells slots pc lv (.ref a :: st) ws := by
  subst hq
  intro p e s m args below meth c ok H locs ls hl hP hD hS
  refine W.objInit ok.1 ok.2.1 ok.2.2.2.1 (ok.2.2.2.2.1 _ hk) (ok.2.2.2.2.1 _ h1) (ok.2.2.2.2.1 _ h2) rfl (by rw [ok.2.2.1]; exact hl.1) rfl hd hR.1 (by have := hR.2; show 2 * 0 + _ + 12 ≤ _; omega) ?_
  exact kk p e s m args below meth c ok H locs ls hl hP hD hS
theorem mn_new {ix ci N : Nat} {C : String} {T : u_T} {fs : List Value} (ty : Nat → FieldType) (q : Nat) (hq : pc + 3 = q) (hd : decode μ.2.1 pc = .ok (.new ix, 3)) (hc : mh_cF ci C T N) (hty : ∀ k, k < N → parseFieldDescriptor (T k).2.2.1 = some (ty k)) (h1 : Cond.classLink μ.1.cls ix C ∈ mh_base) (h2 : Cond.instantiable C N ∈ mh_base) (h3 : Cond.initialized C ∈ mh_base) (hfs : ∀ j, j < N → defaultValue (ty j) = vp_V fs j) (hR : cells + 1 ≤ X.2.1.cells ∧ slots + N ≤ X.2.1.slots)
    (kk : ∀ a : Nat, mn_W G X μ (cells + 1) (slots + N) q lv (.ref a :: st) (ws ++ [(a, .inr (ci, fs))])) : mn_W G X μ cells slots pc lv st ws := by
  subst hq
  intro p e s m args below meth c ok H locs ls hl hP hD hS
  exact va_new ok.1 ok.2.1 ok.2.2.2.2.1 hc.2.1 ty hty ok.2.2.2.1 (ok.2.2.2.2.1 _ h1) (ok.2.2.2.2.1 _ h2) (ok.2.2.2.2.1 _ h3) ok.2.2.2.2.2.1.1 hP hD hS ok.2.2.2.2.2.2.2.2.1 hc.1 hfs hR.1 hR.2 hd (fun a H1 hP1 hD1 hS1 => kk a p e s m args below meth c ok H1 locs ls hl hP1 hD1 hS1)
theorem mn_newa {N t : Nat} {n : Int32} {atype : ArrayType} {ty : FieldType} {a0 : vp_A} (q : Nat) (hq : pc + 2 = q) (hd : decode μ.2.1 pc = .ok (.newarray atype, 2)) (hty : newarray.typeOf atype = ty) (ht : (mh_ty G)[t]? = some (G.2.2.1 t, ty)) (hw : Cond.arrayClass ty ∈ mh_base) (hra : ∀ (U : State) (c1 c2 : ClassId), va_RA U c1 ty → va_RA U c2 ty → c1 = c2) (ha : ∀ cA : ClassId, vp_cell cA a0 = arrV cA N (fun _ => defaultValue ty)) (hn : ¬ n < 0) (hN : n.toNatClampNeg = N) (hby : N * componentBytes ty ≤ 536870912) (hR : cells + 1 ≤ X.2.1.cells ∧ slots + N ≤ X.2.1.slots)
    (kk : ∀ a : Nat, mn_W G X μ (cells + 1) (slots + N) q lv (.ref a :: st) (ws ++ [(a, .inl (G.2.2.1 t, a0))])) : mn_W G X μ cells slots pc lv (.int n :: st) ws := by
  subst hq
  intro p e s m args below meth c ok H locs ls hl hP hD hS
  refine va_newa ok.1 ok.2.1 (by rw [hty]; exact ok.2.2.2.2.1 _ hw) hty ok.2.2.2.2.2.1.1 hP hD hS ok.2.2.2.2.2.2.2.2.1 ha hn hN hby hR.1 hR.2 hd (fun a cA H1 hK1 hP1 hD1 hS1 => ?_)
  have e1 := (hK1.2 4 (cA, ty) rfl).2
  have e2 := (ok.2.2.2.2.2.1.1.2 t _ ht).2
  have e3 := hra s cA (G.2.2.1 t) e1 e2
  subst e3
  exact kk a p e s m args below meth c ok H1 locs ls hl hP1 hD1 hS1
theorem mn_put {ix ci N j a : Nat} {C : String} {T : u_T} {fs : List Value} {ty : FieldType} {v : Value} (k : Nat) (ws' : va_W) (q : Nat) (hq : pc + 3 = q) (hd : decode μ.2.1 pc = .ok (.putfield ix, 3)) (hc : mh_cF ci C T N) (he : ws[k]? = some (a, .inr (ci, fs))) (hj : j < N) (hlk : Cond.fieldLink μ.1.cls ix (T j).1 (T j).2.1 (T j).2.2.1 ∈ mh_base) (hfin : (T j).2.2.2 = false ∨ ((T j).2.2.2 = true ∧ μ.1.name = "<init>" ∧ (T j).1 = μ.1.cls)) (hty : parseFieldDescriptor (T j).2.2.1 = some ty) (hn : narrow ty v = v) (hf : fits ty v = true) (hl0 : j < fs.length) (hws : ws.set k (a, .inr (ci, fs.set j v)) = ws')
    (kk : mn_W G X μ cells slots q lv st ws') : mn_W G X μ cells slots pc lv (v :: .ref a :: st) ws := by
  subst hq
  subst hws
  intro p e s m args below meth c ok H locs ls hl hP hD hS
  obtain ⟨ty0, hty0⟩ := hc.2.2.1
  rcases hfin with hfin | ⟨hfin, h1, h2⟩
  · exact va_put ok.1 ok.2.1 ok.2.2.2.2.1 hc.2.1 ty0 hty0 hc.2.2.2 ok.2.2.2.1 ok.2.2.2.2.2.1.1 hP hD hS k he hc.1 j hj (ok.2.2.2.2.1 _ hlk) (fun _ h => h) hfin hty hn hf hl0 hd (fun H1 locs1 hP1 hD1 hS1 => kk p e s m args below meth c ok H1 locs1 ls hl hP1 hD1 hS1)
  · exact va_putF ok.1 ok.2.1 ok.2.2.2.2.1 hc.2.1 ty0 hty0 hc.2.2.2 ok.2.2.2.1 ok.2.2.2.2.2.1.1 hP hD hS k he hc.1 j hj (ok.2.2.2.2.1 _ hlk) (fun _ h => h) hfin (by rw [ok.2.2.2.2.2.2.2.2.2.2, h1]) h2 hty hn hf hl0 hd (fun H1 locs1 hP1 hD1 hS1 => kk p e s m args below meth c ok H1 locs1 ls hl hP1 hD1 hS1)
theorem mn_get {ix ci j t a : Nat} {fs : List Value} {v : Value} (k : Nat) (q : Nat) (hq : pc + 3 = q) (hd : decode μ.2.1 pc = .ok (.getfield ix, 3)) (hg : mh_gF μ.1.cls ix ci j t) (he : ws[k]? = some (a, .inr (ci, fs))) (hv : fs[j]? = some v) (kk : mn_W G X μ cells slots q lv (v :: st) ws) : mn_W G X μ cells slots pc lv (.ref a :: st) ws := by
  subst hq
  intro p e s m args below meth c ok H locs ls hl hP hD hS
  obtain ⟨C, T, N, hc, hj, hci, ht, hlk⟩ := hg
  rcases hlk with hlk | ⟨host, hlk⟩
  · exact va_get ok.1 ok.2.1 ok.2.2.2.2.1 hc.2.1 ok.2.2.2.1 ok.2.2.2.2.2.1.1 hP k he hc.1 j hj (ok.2.2.2.2.1 _ hlk) (fun _ h => h) hv hd (kk p e s m args below meth c ok H locs ls hl hP hD hS)
  · exact va_getN ok.1 ok.2.1 ok.2.2.2.2.1 hc.2.1 ok.2.2.2.1 ok.2.2.2.2.2.1.1 hP k he hc.1 j hj (va_Nw.use rfl (ok.2.2.2.2.2.1.2 _ hlk)) (fun _ h => h) hv hd (kk p e s m args below meth c ok H locs ls hl hP hD hS)
theorem mn_blind {av : List Value} {w0 : va_W} {sz : Nat} : FrameBlind (mn_Pc G av w0 sz) := fun a U g mk h => ⟨h.1, h.2.1, h.2.2.1, h.2.2.2.1.call g mk a, h.2.2.2.2.1, h.2.2.2.2.2.call g mk a⟩
theorem mn_app_l {wr : va_W} {x : Nat × va_E} : (List.range wr.length).map (fun i => (wr ++ [x])[i]?) = wr.map some := by
  apply List.ext_getElem?
  intro i
  rw [List.getElem?_map, List.getElem?_map]
  rcases Nat.lt_or_ge i wr.length with h | h
  · rw [List.getElem?_range h]
    show some ((wr ++ [x])[i]?) = _
    rw [List.getElem?_append_left h, List.getElem?_eq_getElem h]
    rfl
  · rw [List.getElem?_eq_none (by simpa using h), List.getElem?_eq_none h]
    rfl
theorem mn_nd : ∀ l : List Nat, l.Nodup → va_nd l = true
  | [], _ => rfl
  | a :: l, h => by
    have h1 := List.nodup_cons.mp h
    show (decide (a ∉ l) && va_nd l) = true
    rw [mn_nd l h1.2, decide_eq_true h1.1]
    rfl
theorem mn_nd_range (n : Nat) : va_nd (List.range n) = true := mn_nd _ List.nodup_range
theorem mn_call {ix n fr mc ms a : Nat} {host : String} {ν : mh_Mt} {e0 : va_E} {F : va_W → Prop} (wr : va_W) (As rest : List Value) (q : Nat) (hq : pc + 3 = q) (hd : decode μ.2.1 pc = .ok (.invokespecial ix, 3)) (hk : Cond.methodLink μ.1.cls ix ν.1 ∈ mh_base ∨ Cond.methodLinkNest μ.1.cls ix ν.1 host ∈ mh_nst) (hc : mh_cd ν n) (hr : ν.2.2.2 = none) (hnm : ν.1.name = "<init>") (hi : Cond.instanceMethod ν.1 ∈ mh_base) (hws : ws = wr ++ [(a, e0)])
    (hM : mn_M X.1 G fr mc ms ν (.ref a :: As) [(a, e0)] F) (hn : As.length = n) (hst : As.reverse ++ .ref a :: rest = st) (hro : (rest.map fun v => v.category).sum ≤ 8) (hR : fr + 1 ≤ X.2.1.frames ∧ 8 + (ν.2.2.1 + 11) + 40 * fr ≤ X.2.1.locals ∧ cells + mc ≤ X.2.1.cells ∧ slots + ms ≤ X.2.1.slots)
    (kk : ∀ w : va_W, F w → mn_W G X μ (cells + mc) (slots + ms) q lv rest (wr ++ w)) : mn_W G X μ cells slots pc lv st ws := by
  subst hq
  subst hws
  intro p e s m args below meth c ok H locs ls hl hP hD hS
  have hG : GoodIn mh_base (.code ν.1 ν.2.1 ν.2.2.1 ν.2.2.2 :: mh_base) := fun w h => by
    rcases List.mem_cons.mp h with rfl | h
    · exact mh_good hc.2.1
    · exact mh_good h
  have hC : [wr.length].map (fun i => (wr ++ [(a, e0)])[i]?) = [(a, e0)].map some := by simp
  have hPc := hP.sub (ws' := [(a, e0)]) [wr.length] (by simp)
  have hFc := va_free (wc := [(a, e0)]) hD hS ok.2.2.2.2.2.2.2.2.1 [wr.length] hC
  have hSg : ∀ U : State, U.heap = H → s.WarmedH U.vm → mh_Sg G (va_A [(a, e0)] H.size) U U.heap := fun U hU hW => by
    rw [hU]
    exact ok.2.2.2.2.2.2.2.2.2.1.to hS hFc hW
  have hpre : PreS s H (mn_Pc G (.ref a :: As) [(a, e0)] H.size) (.ref a :: As) := ⟨mn_blind, fun U hU hW => ⟨rfl, by rw [hU], by rw [hU]; exact hPc, ok.2.2.2.2.2.1.warm hW, ⟨fun i j p1 q1 h1 h2 _ => by
    have a1 : i < 1 := (List.getElem?_eq_some_iff.mp h1).1
    have a2 : j < 1 := (List.getElem?_eq_some_iff.mp h2).1
    omega, fun _ _ _ => trivial⟩, hSg U hU hW⟩⟩
  have hfix : CallFix p m c μ.2.1 μ.2.2.1 s args mh_base μ.1.cls := ⟨ok.1, ok.2.1, ok.2.2.1, ok.2.2.2.1, ok.2.2.2.2.1⟩
  have hrun : va_Run p X.1 e X.2.1 s m args below meth c H locs cells slots mc ms (F0 m pc ls st) rest (mn_Q G F (va_A [(a, e0)] H.size) (Value.ref a :: As).toArray) (va_A [(a, e0)] H.size) := by
    rcases hk with hk | hk
    · exact va_runI hfix (hM H.size) ⟨callB_of (bytes := ν.2.1) (maxL := ν.2.2.1) (ret := none) (ws' := mh_base) n ok.2.2.2.2.1 hG (by rw [hr]) rfl rfl (ok.2.2.2.2.1 _ hc.1) (ok.2.2.2.2.1 _ hk) hc.2.2.1 ⟨hR.1, hR.2.1⟩, hnm, ok.2.2.2.2.1 _ hi⟩ hpre rfl hn hl.1 hst.symm (lv_room hro) hd hR.2.2
    · exact va_runIN hfix (hM H.size) ⟨va_cnB (bytes := ν.2.1) (maxL := ν.2.2.1) (ret := none) (ws' := mh_base) n ok.2.2.2.2.1 hG (by rw [hr]) rfl rfl (ok.2.2.2.2.2.1.2 _ hk) (ok.2.2.2.2.1 _ hc.1) hc.2.2.1 ⟨hR.1, hR.2.1⟩, hnm, ok.2.2.2.2.1 _ hi⟩ hpre rfl hn hl.1 hst.symm (lv_room hro) hd hR.2.2
  refine va_callv hrun hS (fun q _ h => hFc q h) hFc (fun u t H1 locs1 ht hvm hw hB hz1 hk1 hS1 => ?_)
  obtain ⟨hP1, hD1⟩ := hB
  rw [ht] at hP1
  obtain ⟨hP2, hD2⟩ := va_join (wr := wr) (w1 := u) hP hD [wr.length] (List.range wr.length) hC mn_app_l (mn_nd_range _) (fun i hi => by
    have := List.mem_range.mp hi
    simp; omega) hk1 hFc hP1 hD1
  exact kk u hw p e s m args below meth c ok H1 locs1 ls hl hP2 hD2 hS1
theorem mn_goto {off : Int} (q : Nat) (hq : pc + 3 = q) (tg : Nat) (hd : decode μ.2.1 pc = .ok (.goto off, 3)) (ht : (pc : Int) + off = (tg : Int)) (kk : mn_W G X μ cells slots tg lv st ws) : mn_W G X μ cells slots pc lv st ws := by
  intro p e s m args below meth c ok H locs ls hl hP hD hS
  exact lv_goto ok.1 ok.2.1 hd ht (kk p e s m args below meth c ok H locs ls hl hP hD hS)
theorem mn_ldcS {ix k : Nat} {tx : String} (q : Nat) (hq : pc + 2 = q) (hd : decode μ.2.1 pc = .ok (.ldc ix, 2)) (hz : ∀ (A : Nat → Prop) (U : State) (H : Heap), mh_Sg G A U H → vk_R μ.1.cls ix tx (G.2.2.2 k) U) (kk : mn_W G X μ cells slots q lv (.ref (G.2.2.2 k) :: st) ws) : mn_W G X μ cells slots pc lv st ws := by
  subst hq
  intro p e s m args below meth c ok H locs ls hl hP hD hS
  exact va_ldcS ok.1 ok.2.1 ok.2.2.2.1 (hz _ _ _ ok.2.2.2.2.2.2.2.2.2.1) hd (kk p e s m args below meth c ok H locs ls hl hP hD hS)
theorem mn_cs {ix : Nat} (q : Nat) (hq : pc + 3 = q) (hd : decode μ.2.1 pc = .ok (.getstatic ix, 3)) (hk : Cond.fieldLink μ.1.cls ix "java/lang/String" "COMPACT_STRINGS" "Z" ∈ mh_base) (kk : mn_W G X μ cells slots q lv (.int 1 :: st) ws) : mn_W G X μ cells slots pc lv st ws := by
  subst hq
  intro p e s m args below meth c ok H locs ls hl hP hD hS
  exact va_gets ok.1 ok.2.1 ok.2.2.2.2.2.2.2.2.2.1.2.1 hS ok.2.2.2.1 (ok.2.2.2.2.1 _ hk) (fun _ h => h) hd (kk p e s m args below meth c ok H locs ls hl hP hD hS)
theorem mn_strv {ix i : Nat} (hi : i < 2) (q : Nat) (hq : pc + 3 = q) (hd : decode μ.2.1 pc = .ok (.getfield ix, 3)) (hk : Cond.fieldLink μ.1.cls ix "java/lang/String" "value" "[B" ∈ mh_base) (kk : mn_W G X μ cells slots q lv (.ref (G.2.2.2 (1010 + i)) :: st) ws) : mn_W G X μ cells slots pc lv (.ref (G.2.2.2 (1000 + i)) :: st) ws := by
  subst hq
  intro p e s m args below meth c ok H locs ls hl hP hD hS
  exact vk_getf ok.1 ok.2.1 (ok.2.2.2.2.2.2.2.2.2.1.1.1 i hi).2.2.1 hS ok.2.2.2.1 (ok.2.2.2.2.1 _ hk) (fun _ h => h) hd (kk p e s m args below meth c ok H locs ls hl hP hD hS)
theorem mn_strc {ix i : Nat} (hi : i < 2) (q : Nat) (hq : pc + 3 = q) (hd : decode μ.2.1 pc = .ok (.getfield ix, 3)) (hk : Cond.fieldLink μ.1.cls ix "java/lang/String" "coder" "B" ∈ mh_base) (kk : mn_W G X μ cells slots q lv (.int 0 :: st) ws) : mn_W G X μ cells slots pc lv (.ref (G.2.2.2 (1000 + i)) :: st) ws := by
  subst hq
  intro p e s m args below meth c ok H locs ls hl hP hD hS
  exact vk_getf ok.1 ok.2.1 (ok.2.2.2.2.2.2.2.2.2.1.1.1 i hi).2.1 hS ok.2.2.2.1 (ok.2.2.2.2.1 _ hk) (fun _ h => h) hd (kk p e s m args below meth c ok H locs ls hl hP hD hS)
theorem mn_strl {i : Nat} (hi : i < 2) (q : Nat) (hq : pc + 1 = q) {v : Int32} (hd : decode μ.2.1 pc = .ok (.arraylength, 1)) (hv : Int32.ofNat (mh_sl.getD i 0) = v) (kk : mn_W G X μ cells slots q lv (.int v :: st) ws) : mn_W G X μ cells slots pc lv (.ref (G.2.2.2 (1010 + i)) :: st) ws := by
  subst hq
  intro p e s m args below meth c ok H locs ls hl hP hD hS
  exact va_tlen ok.1 ok.2.1 (ok.2.2.2.2.2.2.2.2.2.1.1.1 i hi).2.2.2 hS hv hd (kk p e s m args below meth c ok H locs ls hl hP hD hS)
theorem mn_if_eq1 {off : Int} (q : Nat) (hq : pc + 3 = q) {x : Int32} (hx : ¬ x = 0) (tg : Nat) (hd : decode μ.2.1 pc = .ok (.ifCond .eq off, 3)) (ht : (pc : Int) + off = (tg : Int)) (kk : mn_W G X μ cells slots q lv st ws) : mn_W G X μ cells slots pc lv (.int x :: st) ws := by
  subst hq
  intro p e s m args below meth c ok H locs ls hl hP hD hS
  exact lv_if_eq ok.1 ok.2.1 hd ht (fun h => absurd h hx) (fun _ => kk p e s m args below meth c ok H locs ls hl hP hD hS)
theorem mn_ishr {x y : Int32} (q : Nat) (hq : pc + 1 = q) (hd : decode μ.2.1 pc = .ok (.ishr, 1)) (kk : mn_W G X μ cells slots q lv (.int (x >>> (y &&& 31)) :: st) ws) : mn_W G X μ cells slots pc lv (.int y :: .int x :: st) ws := by
  subst hq
  intro p e s m args below meth c ok H locs ls hl hP hD hS
  exact lv_ishr ok.1 ok.2.1 hd (kk p e s m args below meth c ok H locs ls hl hP hD hS)
/-- a method of a String constant that makes nothing -/
def mn_Qi (G : mh_G) (P : Int32 → Prop) (A : Nat → Prop) : Array Value → State → Outcome → State → Prop := va_Qi (fun r (w : va_W) => P r ∧ w = []) (fun w t => va_P (G.1, G.2.1) vwCl w t.heap ∧ va_D A w) A
def mn_Mi (l : Launch) (G : mh_G) (fr : Nat) (μ : mh_Mt) (av : List Value) (P : Int32 → Prop) : Prop := ∀ sz : Nat, Met l μ.1 (.code μ.1 μ.2.1 μ.2.2.1 μ.2.2.2 :: mh_base) { frames := fr, cells := 0, slots := 0, locals := 40 * fr } (mn_Pc G av [] sz) (mn_Qi G P (va_A [] sz)) 0 0 (va_A [] sz)
theorem mn_callK {ix n fr i : Nat} {ν : mh_Mt} {P : Int32 → Prop} (hi2 : i < 2) (As rest : List Value) (q : Nat) (hq : pc + 3 = q) (hd : decode μ.2.1 pc = .ok (.invokevirtual ix, 3)) (hk : Cond.methodLink μ.1.cls ix ν.1 ∈ mh_base) (hc : mh_cd ν n) (hi : mh_iM ν) (hcl : ν.1.cls = "java/lang/String")
    (hM : mn_Mi X.1 G fr ν (.ref (G.2.2.2 (1000 + i)) :: As) P) (hn : As.length = n) (hst : As.reverse ++ .ref (G.2.2.2 (1000 + i)) :: rest = st) (hro : (rest.map fun v => v.category).sum ≤ 8) (hR : fr + 1 ≤ X.2.1.frames ∧ 8 + (ν.2.2.1 + 11) + 40 * fr ≤ X.2.1.locals ∧ cells ≤ X.2.1.cells ∧ slots ≤ X.2.1.slots)
    (kk : ∀ z : Int32, P z → mn_W G X μ cells slots q lv (.int z :: rest) ws) : mn_W G X μ cells slots pc lv st ws := by
  subst hq
  intro p e s m args below meth c ok H locs ls hl hP hD hS
  have hG : GoodIn mh_base (.code ν.1 ν.2.1 ν.2.2.1 ν.2.2.2 :: mh_base) := fun w h => by
    rcases List.mem_cons.mp h with rfl | h
    · exact mh_good hc.2.1
    · exact mh_good h
  have hrec := vk_recv ok.2.2.2.2.2.2.2.2.2.1.1 hi2 hS
  rw [← hcl] at hrec
  have hPc := hP.sub (ws' := []) [] rfl
  have hFc := va_free (wc := []) hD hS ok.2.2.2.2.2.2.2.2.1 [] rfl
  have hpre : PreV s H ν.1.cls (G.2.2.2 (1000 + i)) (mn_Pc G (.ref (G.2.2.2 (1000 + i)) :: As) [] H.size) As := ⟨mn_blind, hrec, fun U hU hW => ⟨rfl, by rw [hU], by rw [hU]; exact hPc, ok.2.2.2.2.2.1.warm hW, ⟨fun i j p1 q1 h1 => (by cases h1), fun _ _ _ => trivial⟩, by rw [hU]; exact ok.2.2.2.2.2.2.2.2.2.1.to hS hFc hW⟩⟩
  have hfix : CallFix p m c μ.2.1 μ.2.2.1 s args mh_base μ.1.cls := ⟨ok.1, ok.2.1, ok.2.2.1, ok.2.2.2.1, ok.2.2.2.2.1⟩
  have hrun : va_Run p X.1 e X.2.1 s m args below meth c H locs cells slots 0 0 (F0 m pc ls st) rest (mn_Qi G P (va_A [] H.size) (Value.ref (G.2.2.2 (1000 + i)) :: As).toArray) (va_A [] H.size) :=
    va_runV hfix (hM H.size) ⟨callB_of n ok.2.2.2.2.1 hG rfl rfl rfl (ok.2.2.2.2.1 _ hc.1) (ok.2.2.2.2.1 _ hk) hc.2.2.1 ⟨hR.1, hR.2.1⟩, ok.2.2.2.2.1 _ hi.1, ok.2.2.2.2.1 _ hi.2⟩ hpre rfl hn hl.1 hst.symm (lv_room hro) hd hR.2.2
  refine va_calli hrun hS (fun q _ h => hFc q h) hFc (fun r u t H1 locs1 ht hvm hw hB hz1 hk1 hS1 => ?_)
  obtain ⟨hP1, hD1⟩ := hB
  rw [ht] at hP1
  obtain ⟨hw1, rfl⟩ := hw
  have hR9 : (List.range ws.length).map (fun i => ws[i]?) = ws.map some := by
    have h9 := mn_app_l (wr := ws) (x := (0, .inr (0, [])))
    rw [← h9]
    apply List.map_congr_left
    intro i hi
    rw [List.getElem?_append_left (List.mem_range.mp hi)]
  obtain ⟨hP2, hD2⟩ := va_join (wr := ws) (w1 := []) hP hD [] (List.range ws.length) rfl hR9 (mn_nd_range _) (fun i _ => List.not_mem_nil) hk1 hFc hP1 hD1
  rw [List.append_nil] at hP2 hD2
  exact kk r hw1 p e s m args below meth c ok H1 locs1 ls hl hP2 hD2 hS1
end MN
theorem mn_iret {l : Launch} {G : mh_G} {fr sz : Nat} {P : Int32 → Prop} {μ : mh_Mt} {pc : Nat} {lv : List (Nat × Value)} {v : Int32} {ty : FieldType} (hd : decode μ.2.1 pc = .ok (.ireturn, 1)) (hr : μ.2.2.2 = some ty) (hv : narrow ty (.int v) = .int v) (hP9 : P v) : mn_W G (l, { frames := fr, cells := 0, slots := 0, locals := 40 * fr }, va_A [] sz, fun s args below => MQ below (mn_Qi G P (va_A [] sz)) args s 0 0 (va_A [] sz)) μ 0 0 pc lv [.int v] [] := by
  intro p e s m args below meth c ok H locs ls hl hP hD hS
  exact W.zret ok.1 ok.2.1 (by rw [ok.2.2.2.2.2.2.1, hr]) hv (fun t ht hW => ⟨⟨v, [], rfl, ⟨hP9, rfl⟩, by rw [ht]; exact hP, hD⟩, hS.F ht⟩) hS.2.2 hd ok.2.2.2.2.2.2.2.1
theorem mn_ret {l : Launch} {G : mh_G} {fr mc ms : Nat} {w0 : va_W} {sz : Nat} {F : va_W → Prop} {μ : mh_Mt} {cells slots pc : Nat} {lv : List (Nat × Value)} {ws : va_W} (hd : decode μ.2.1 pc = .ok (.return_, 1)) (hr : μ.2.2.2 = none) (hF : F ws) (h1 : cells ≤ mc) (h2 : slots ≤ ms) : mn_W G (mn_XM l G fr mc ms w0 sz F) μ cells slots pc lv [] ws := by
  intro p e s m args below meth c ok H locs ls hl hP hD hS
  refine W.widen (k := mc) (n := ms) h1 h2 ?_
  exact W.vret ok.1 ok.2.1 (by rw [ok.2.2.2.2.2.2.1, hr]) (fun t ht hW => ⟨⟨ws, rfl, hF, by rw [ht]; exact hP, hD⟩, hS.F ht⟩) hS.2.2 hd ok.2.2.2.2.2.2.2.1
theorem n_coder (l : Launch) (G : mh_G) (fr i : Nat) (hi : i < 2) : mn_Mi l G fr mM_J0_coder_7d493 [.ref (G.2.2.2 (1000 + i))] (fun z => z = 0) := by
  intro sz
  refine mn_enterQ (lv := [(0, .ref (G.2.2.2 (1000 + i)))]) (by decide) rfl (Nat.le_of_ble_eq_true rfl) ?_
  refine mn_cs 3 rfl dJ0_coder_7d493_0 sf_38 ?_
  refine mn_if_eq1 6 rfl (by decide) 13 dJ0_coder_7d493_3 (by decide) ?_
  refine mn_aload_n 7 rfl 0 dJ0_coder_7d493_6 rfl rfl ?_
  refine mn_strc hi 10 rfl dJ0_coder_7d493_7 sf_15 ?_
  refine mn_goto 13 rfl 14 dJ0_coder_7d493_10 (by decide) ?_
  exact mn_iret dJ0_coder_7d493_14 rfl rfl rfl
theorem mlb_J0_335 : Cond.methodLink RJ0 335 mM_J0_coder_7d493.1 ∈ mh_base := mh_b (List.mem_append_right _ (List.mem_of_getElem? (i := 207) (by decide +kernel))) (by decide +kernel)
theorem n_length (l : Launch) (G : mh_G) (fr : Nat) : mn_Mi l G (fr + 1) mM_J0_length_8abf5 [.ref (G.2.2.2 1000)] (fun z => z = 13) := by
  intro sz
  refine mn_enterQ (lv := [(0, .ref (G.2.2.2 1000))]) (by decide) rfl (Nat.le_of_ble_eq_true rfl) ?_
  refine mn_aload_n 1 rfl 0 dJ0_length_8abf5_0 rfl rfl ?_
  refine mn_strv (i := 0) (by decide) 4 rfl dJ0_length_8abf5_1 sf_9 ?_
  refine mn_strl (i := 0) (by decide) 5 rfl dJ0_length_8abf5_4 rfl ?_
  refine mn_aload_n 6 rfl 0 dJ0_length_8abf5_5 rfl rfl ?_
  refine mn_callK (i := 0) (fr := fr) (by decide) [] [.int (Int32.ofNat (mh_sl.getD 0 0))] 9 rfl dJ0_length_8abf5_6 mlb_J0_335 mc_J0_coder_7d493 mk_J0_coder_7d493 rfl (n_coder l G fr 0 (by decide)) rfl rfl (Nat.le_of_ble_eq_true rfl) ⟨Nat.le_refl _, by show 8 + (1 + 11) + 40 * fr ≤ 40 * (fr + 1); omega, Nat.le_refl _, Nat.le_refl _⟩ (fun z hz => ?_)
  subst hz
  refine mn_ishr 10 rfl dJ0_length_8abf5_9 ?_
  exact mn_iret dJ0_length_8abf5_10 rfl rfl (by decide)
theorem mn_raI : ∀ (U : State) (c1 c2 : ClassId), va_RA U c1 .int → va_RA U c2 .int → c1 = c2 := fun U c1 c2 h1 h2 => Option.some.inj (Eq.trans (Eq.symm h1) h2)
theorem mn_raJ : ∀ (U : State) (c1 c2 : ClassId), va_RA U c1 .long → va_RA U c2 .long → c1 = c2 := fun U c1 c2 h1 h2 => Option.some.inj (Eq.trans (Eq.symm h1) h2)
theorem mn_raB : ∀ (U : State) (c1 c2 : ClassId), va_RA U c1 .byte → va_RA U c2 .byte → c1 = c2 := fun U c1 c2 h1 h2 => Option.some.inj (Eq.trans (Eq.symm h1) h2)
theorem mn_raZ : ∀ (U : State) (c1 c2 : ClassId), va_RA U c1 .boolean → va_RA U c2 .boolean → c1 = c2 := fun U c1 c2 h1 h2 => Option.some.inj (Eq.trans (Eq.symm h1) h2)
end

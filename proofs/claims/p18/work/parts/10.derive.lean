abbrev mh_Mi (l : Launch) (G : mh_G) (d : Nat) (μ : mh_Mt) (av : List Value) (σ : mh_H) (P : Int32 → mh_H → Prop) : Prop := mh_M l G d μ av σ (fun r s => ∃ z : Int32, r = some (.int z) ∧ P z s)
abbrev mh_Ml (l : Launch) (G : mh_G) (d : Nat) (μ : mh_Mt) (av : List Value) (σ : mh_H) (P : Int64 → mh_H → Prop) : Prop := mh_M l G d μ av σ (fun r s => ∃ z : Int64, r = some (.long z) ∧ P z s)
abbrev mh_Mv (l : Launch) (G : mh_G) (d : Nat) (μ : mh_Mt) (av : List Value) (σ : mh_H) (P : mh_H → Prop) : Prop := mh_M l G d μ av σ (fun r s => r = none ∧ P s)
abbrev mh_Qi (P : Int32 → mh_H → Prop) : Option Value → mh_H → Prop := fun r s => ∃ z : Int32, r = some (.int z) ∧ P z s
abbrev mh_Ql (P : Int64 → mh_H → Prop) : Option Value → mh_H → Prop := fun r s => ∃ z : Int64, r = some (.long z) ∧ P z s
abbrev mh_Qv (P : mh_H → Prop) : Option Value → mh_H → Prop := fun r s => r = none ∧ P s
theorem mh_mr {D n : Nat} (h : 1 ≤ D) (hn : n ≤ 24) : 1 ≤ (mh_rm D).frames ∧ n + 13 ≤ (mh_rm D).locals := by
  refine ⟨h, ?_⟩
  show n + 13 ≤ 40 * D
  omega
theorem mh_lt1 {x y : Int32} {a b c d : Int} (h : x.toInt < y.toInt) (hx : mh_r x a b) (hy : mh_r y c d) (hi : Int) (hb : b ≤ hi ∨ d - 1 ≤ hi) : mh_r x a hi := ⟨hx.1, by have := hx.2; have := hy.2; omega⟩
theorem mh_lt2 {x y : Int32} {a b c d : Int} (h : x.toInt < y.toInt) (hx : mh_r x a b) (hy : mh_r y c d) (lo : Int) (hb : lo ≤ c ∨ lo ≤ a + 1) : mh_r y lo d := ⟨by have := hx.1; have := hy.1; omega, hy.2⟩
theorem mh_le1 {x y : Int32} {a b c d : Int} (h : x.toInt ≤ y.toInt) (hx : mh_r x a b) (hy : mh_r y c d) (hi : Int) (hb : b ≤ hi ∨ d ≤ hi) : mh_r x a hi := ⟨hx.1, by have := hx.2; have := hy.2; omega⟩
theorem mh_le2 {x y : Int32} {a b c d : Int} (h : x.toInt ≤ y.toInt) (hx : mh_r x a b) (hy : mh_r y c d) (lo : Int) (hb : lo ≤ c ∨ lo ≤ a) : mh_r y lo d := ⟨by have := hx.1; have := hy.1; omega, hy.2⟩
theorem mh_eq1 {x y : Int32} {a b c d : Int} (h : x.toInt = y.toInt) (hx : mh_r x a b) (hy : mh_r y c d) (lo hi : Int) (hb : (lo ≤ a ∨ lo ≤ c) ∧ (b ≤ hi ∨ d ≤ hi)) : mh_r x lo hi := ⟨by have := hx.1; have := hy.1; omega, by have := hx.2; have := hy.2; omega⟩
theorem mh_ne1 {x y : Int32} {a b c : Int} (h : x.toInt ≠ y.toInt) (hx : mh_r x a b) (hy : mh_r y c c) (lo hi : Int) (hb : (lo ≤ a ∨ (c = a ∧ lo ≤ a + 1)) ∧ (b ≤ hi ∨ (c = b ∧ b - 1 ≤ hi))) : mh_r x lo hi := ⟨by have := hx.1; have := hy.1; have := hy.2; omega, by have := hx.2; have := hy.1; have := hy.2; omega⟩
theorem mh_nlt {x y : Int32} {a b c d : Int} (h : x.toInt < y.toInt) (hx : mh_r x a b) (hy : mh_r y c d) (hb : d ≤ a) : False := by have := hx.1; have := hy.2; omega
theorem mh_nle {x y : Int32} {a b c d : Int} (h : x.toInt ≤ y.toInt) (hx : mh_r x a b) (hy : mh_r y c d) (hb : d < a) : False := by have := hx.1; have := hy.2; omega
theorem mh_neq {x y : Int32} {a b c d : Int} (h : x.toInt = y.toInt) (hx : mh_r x a b) (hy : mh_r y c d) (hb : d < a ∨ b < c) : False := by have := hx.1; have := hx.2; have := hy.1; have := hy.2; omega
theorem mh_nne {x y : Int32} {a : Int} (h : x.toInt ≠ y.toInt) (hx : mh_r x a a) (hy : mh_r y a a) : False := by have := hx.1; have := hx.2; have := hy.1; have := hy.2; omega
theorem mh_r0 : mh_r 0 0 0 := mh_rc rfl
theorem mh_z1 {z : Int32} (r : mh_r z 0 1) (c : z.toInt ≠ 0) : z.toInt = 1 := by have := r.1; have := r.2; omega
theorem mh_nz {x : Int32} (h : mh_r x 0 1) : vp_nar .boolean x = x := by rcases mh_01 h with h | h <;> rw [h] <;> rfl
theorem mh_nzr {x : Int32} (h : mh_r x 0 1) : mh_r (vp_nar .boolean x) 0 1 := by rw [mh_nz h]; exact h
theorem mh_i2b {x : Int32} : mh_r x.toInt8.toInt32 (-128) 127 := by
  have h1 := Int8.le_toInt x.toInt8
  have h2 := Int8.toInt_lt x.toInt8
  rw [mh_r, Int8.toInt_toInt32]
  omega
theorem mh_nbr {x : Int32} : mh_r (vp_nar .byte x) (-128) 127 := by rw [vp_nar_byte]; exact mh_i2b
theorem mh_and {x m : Int32} (k : Nat) (hm : m.toBitVec.toNat = 2 ^ k - 1) (hk : k ≤ 30) : mh_r (x &&& m) 0 (2 ^ k - 1) := by
  have h := vp_in_iff.mp (pk_andIn x k hm hk)
  refine ⟨h.1, ?_⟩
  have := h.2
  rw [show ((2 ^ k : Nat) : Int) = (2 : Int) ^ k from by push_cast; rfl] at this
  omega
theorem mh_and1 {x : Int32} : mh_r (x &&& 1) 0 1 := mh_r_wk (mh_and 1 rfl (by decide)) (by decide)
theorem mh_and255 {x : Int32} : mh_r (x &&& 255) 0 255 := mh_r_wk (mh_and 8 rfl (by decide)) (by decide)
theorem mh_and31 {x : Int32} : mh_r (x &&& 31) 0 31 := mh_r_wk (mh_and 5 rfl (by decide)) (by decide)
theorem mh_i2c {x : Int32} : mh_r (x.toUInt32 % 65536).toInt32 0 65535 := by
  rw [pk_char]
  have : x.toBitVec.toNat % 65536 < 65536 := Nat.mod_lt _ (by decide)
  rw [mh_r, nI_toInt (by omega)]
  omega
section MW5
variable {G : mh_G} {X : mh_X} {μ : mh_Mt} {pc : Nat} {lv : List (Nat × Value)} {st : List Value} {σ : mh_H}
theorem mw_iincR {i k : Nat} {n : Int} {x : Int32} {a b : Int} (lo hi : Int) (q : Nat) (hq : pc + 3 = q) (lvf : Int32 → List (Nat × Value)) (hd : decode μ.2.1 pc = .ok (.iinc i n, 3)) (hk : lv[k]? = some (i, .int x)) (hn : i < μ.2.2.1) (hv : ∀ z : Int32, (i, Value.int z) :: lv.filter (fun q => !(q.1 == i) && !(q.1 + 1 == i && q.2.category == 2)) = lvf z) (hx : mh_r x a b) (hnn : (Int32.ofInt n).toInt = n) (hb : (lo ≤ a + n ∧ b + n ≤ hi) ∧ -2147483648 ≤ lo ∧ hi ≤ 2147483647)
    (kk : ∀ z : Int32, z.toInt = x.toInt + n → mh_r z lo hi → mh_W G X μ q (lvf z) st σ) : mh_W G X μ pc lv st σ := by
  have h0 : lo ≤ x.toInt + (Int32.ofInt n).toInt ∧ x.toInt + (Int32.ofInt n).toInt ≤ hi := ⟨by have := hx.1; omega, by have := hx.2; omega⟩
  have h1 := mh_add h0 hb.2
  refine mw_iinc (v := x + Int32.ofInt n) q hq (lvf (x + Int32.ofInt n)) hd hk rfl hn (hv _) (kk _ (by rw [h1, hnn]) ?_)
  rw [mh_r, h1]
  exact h0
theorem mw_iincU {i k : Nat} {n : Int} {x : Int32} (q : Nat) (hq : pc + 3 = q) (lvf : Int32 → List (Nat × Value)) (hd : decode μ.2.1 pc = .ok (.iinc i n, 3)) (hk : lv[k]? = some (i, .int x)) (hn : i < μ.2.2.1) (hv : ∀ z : Int32, (i, Value.int z) :: lv.filter (fun q => !(q.1 == i) && !(q.1 + 1 == i && q.2.category == 2)) = lvf z)
    (kk : ∀ z : Int32, z = x + Int32.ofInt n → mh_W G X μ q (lvf z) st σ) : mh_W G X μ pc lv st σ :=
  mw_iinc (v := x + Int32.ofInt n) q hq (lvf (x + Int32.ofInt n)) hd hk rfl hn (hv _) (kk _ rfl)
theorem mw_callVi {ix n d k ci nf N : Nat} {T : u_T} {ν : mh_Mt} {P : Int32 → mh_H → Prop} (As rest : List Value) (q : Nat) (hq : pc + 3 = q) (hd : decode μ.2.1 pc = .ok (.invokevirtual ix, 3)) (hk : mh_lk μ.1.cls ix ν) (hc : mh_cd ν n) (hi : mh_iM ν) (hl0 : mh_lay k = (ci, nf)) (hcl : vwCl[ci]? = some (ν.1.cls, T, N)) (hci : ci < 20)
    (hM : mh_Mi X.1 G d ν (.ref (G.2.2.2 k) :: As) σ P) (hn : As.length = n) (hst : As.reverse ++ .ref (G.2.2.2 k) :: rest = st) (hro : (rest.map fun v => v.category).sum ≤ 8) (hR : (mh_rm d).frames + 1 ≤ X.2.1.frames ∧ 8 + (ν.2.2.1 + 11) + (mh_rm d).locals ≤ X.2.1.locals)
    (kk : ∀ (z : Int32) (σ' : mh_H), P z σ' → mh_W G X μ q lv (.int z :: rest) σ') : mh_W G X μ pc lv st σ :=
  mw_callV As rest q hq hd hk hc hi hl0 hcl hci hM hn hst hro hR (fun v σ' hq => by obtain ⟨z, rfl, hp⟩ := hq; exact kk z σ' hp)
theorem mw_callVl {ix n d k ci nf N : Nat} {T : u_T} {ν : mh_Mt} {P : Int64 → mh_H → Prop} (As rest : List Value) (q : Nat) (hq : pc + 3 = q) (hd : decode μ.2.1 pc = .ok (.invokevirtual ix, 3)) (hk : mh_lk μ.1.cls ix ν) (hc : mh_cd ν n) (hi : mh_iM ν) (hl0 : mh_lay k = (ci, nf)) (hcl : vwCl[ci]? = some (ν.1.cls, T, N)) (hci : ci < 20)
    (hM : mh_Ml X.1 G d ν (.ref (G.2.2.2 k) :: As) σ P) (hn : As.length = n) (hst : As.reverse ++ .ref (G.2.2.2 k) :: rest = st) (hro : (rest.map fun v => v.category).sum ≤ 8) (hR : (mh_rm d).frames + 1 ≤ X.2.1.frames ∧ 8 + (ν.2.2.1 + 11) + (mh_rm d).locals ≤ X.2.1.locals)
    (kk : ∀ (z : Int64) (σ' : mh_H), P z σ' → mh_W G X μ q lv (.long z :: rest) σ') : mh_W G X μ pc lv st σ :=
  mw_callV As rest q hq hd hk hc hi hl0 hcl hci hM hn hst hro hR (fun v σ' hq => by obtain ⟨z, rfl, hp⟩ := hq; exact kk z σ' hp)
theorem mw_callVv {ix n d k ci nf N : Nat} {T : u_T} {ν : mh_Mt} {P : mh_H → Prop} (As rest : List Value) (q : Nat) (hq : pc + 3 = q) (hd : decode μ.2.1 pc = .ok (.invokevirtual ix, 3)) (hk : mh_lk μ.1.cls ix ν) (hc : mh_cd ν n) (hi : mh_iM ν) (hl0 : mh_lay k = (ci, nf)) (hcl : vwCl[ci]? = some (ν.1.cls, T, N)) (hci : ci < 20)
    (hM : mh_Mv X.1 G d ν (.ref (G.2.2.2 k) :: As) σ P) (hn : As.length = n) (hst : As.reverse ++ .ref (G.2.2.2 k) :: rest = st) (hro : (rest.map fun v => v.category).sum ≤ 8) (hR : (mh_rm d).frames + 1 ≤ X.2.1.frames ∧ 8 + (ν.2.2.1 + 11) + (mh_rm d).locals ≤ X.2.1.locals)
    (kk : ∀ σ' : mh_H, P σ' → mh_W G X μ q lv rest σ') : mh_W G X μ pc lv st σ :=
  mw_callV As rest q hq hd hk hc hi hl0 hcl hci hM hn hst hro hR (fun v σ' hq => by obtain ⟨rfl, hp⟩ := hq; exact kk σ' hp)
theorem mw_callSi {ix n d : Nat} {ν : mh_Mt} {P : Int32 → mh_H → Prop} (As rest : List Value) (q : Nat) (hq : pc + 3 = q) (hd : decode μ.2.1 pc = .ok (.invokestatic ix, 3)) (hk : mh_lk μ.1.cls ix ν) (hc : mh_cd ν n) (hi : mh_sM ν) 
    (hM : mh_Mi X.1 G d ν As σ P) (hn : As.length = n) (hst : As.reverse ++ rest = st) (hro : (rest.map fun v => v.category).sum ≤ 8) (hR : (mh_rm d).frames + 1 ≤ X.2.1.frames ∧ 8 + (ν.2.2.1 + 11) + (mh_rm d).locals ≤ X.2.1.locals)
    (kk : ∀ (z : Int32) (σ' : mh_H), P z σ' → mh_W G X μ q lv (.int z :: rest) σ') : mh_W G X μ pc lv st σ :=
  mw_callS As rest q hq hd hk hc hi  hM hn hst hro hR (fun v σ' hq => by obtain ⟨z, rfl, hp⟩ := hq; exact kk z σ' hp)
theorem mw_callSl {ix n d : Nat} {ν : mh_Mt} {P : Int64 → mh_H → Prop} (As rest : List Value) (q : Nat) (hq : pc + 3 = q) (hd : decode μ.2.1 pc = .ok (.invokestatic ix, 3)) (hk : mh_lk μ.1.cls ix ν) (hc : mh_cd ν n) (hi : mh_sM ν) 
    (hM : mh_Ml X.1 G d ν As σ P) (hn : As.length = n) (hst : As.reverse ++ rest = st) (hro : (rest.map fun v => v.category).sum ≤ 8) (hR : (mh_rm d).frames + 1 ≤ X.2.1.frames ∧ 8 + (ν.2.2.1 + 11) + (mh_rm d).locals ≤ X.2.1.locals)
    (kk : ∀ (z : Int64) (σ' : mh_H), P z σ' → mh_W G X μ q lv (.long z :: rest) σ') : mh_W G X μ pc lv st σ :=
  mw_callS As rest q hq hd hk hc hi  hM hn hst hro hR (fun v σ' hq => by obtain ⟨z, rfl, hp⟩ := hq; exact kk z σ' hp)
theorem mw_callSv {ix n d : Nat} {ν : mh_Mt} {P : mh_H → Prop} (As rest : List Value) (q : Nat) (hq : pc + 3 = q) (hd : decode μ.2.1 pc = .ok (.invokestatic ix, 3)) (hk : mh_lk μ.1.cls ix ν) (hc : mh_cd ν n) (hi : mh_sM ν) 
    (hM : mh_Mv X.1 G d ν As σ P) (hn : As.length = n) (hst : As.reverse ++ rest = st) (hro : (rest.map fun v => v.category).sum ≤ 8) (hR : (mh_rm d).frames + 1 ≤ X.2.1.frames ∧ 8 + (ν.2.2.1 + 11) + (mh_rm d).locals ≤ X.2.1.locals)
    (kk : ∀ σ' : mh_H, P σ' → mh_W G X μ q lv rest σ') : mh_W G X μ pc lv st σ :=
  mw_callS As rest q hq hd hk hc hi  hM hn hst hro hR (fun v σ' hq => by obtain ⟨rfl, hp⟩ := hq; exact kk σ' hp)
end MW5
theorem rc_0 : mh_r (0) (0) (0) := mh_rc (by decide)
theorem rc_1 : mh_r (1) (1) (1) := mh_rc (by decide)
theorem rc_2 : mh_r (2) (2) (2) := mh_rc (by decide)
theorem rc_3 : mh_r (3) (3) (3) := mh_rc (by decide)
theorem rc_4 : mh_r (4) (4) (4) := mh_rc (by decide)
theorem rc_5 : mh_r (5) (5) (5) := mh_rc (by decide)
theorem rc_6 : mh_r (6) (6) (6) := mh_rc (by decide)
theorem rc_7 : mh_r (7) (7) (7) := mh_rc (by decide)
theorem rc_8 : mh_r (8) (8) (8) := mh_rc (by decide)
theorem rc_9 : mh_r (9) (9) (9) := mh_rc (by decide)
theorem rc_10 : mh_r (10) (10) (10) := mh_rc (by decide)
theorem rc_11 : mh_r (11) (11) (11) := mh_rc (by decide)
theorem rc_12 : mh_r (12) (12) (12) := mh_rc (by decide)
theorem rc_13 : mh_r (13) (13) (13) := mh_rc (by decide)
theorem rc_14 : mh_r (14) (14) (14) := mh_rc (by decide)
theorem rc_16 : mh_r (16) (16) (16) := mh_rc (by decide)
theorem rc_19 : mh_r (19) (19) (19) := mh_rc (by decide)
theorem rc_20 : mh_r (20) (20) (20) := mh_rc (by decide)
theorem rc_24 : mh_r (24) (24) (24) := mh_rc (by decide)
theorem rc_25 : mh_r (25) (25) (25) := mh_rc (by decide)
theorem rc_26 : mh_r (26) (26) (26) := mh_rc (by decide)
theorem rc_28 : mh_r (28) (28) (28) := mh_rc (by decide)
theorem rc_29 : mh_r (29) (29) (29) := mh_rc (by decide)
theorem rc_30 : mh_r (30) (30) (30) := mh_rc (by decide)
theorem rc_31 : mh_r (31) (31) (31) := mh_rc (by decide)
theorem rc_32 : mh_r (32) (32) (32) := mh_rc (by decide)
theorem rc_33 : mh_r (33) (33) (33) := mh_rc (by decide)
theorem rc_37 : mh_r (37) (37) (37) := mh_rc (by decide)
theorem rc_38 : mh_r (38) (38) (38) := mh_rc (by decide)
theorem rc_40 : mh_r (40) (40) (40) := mh_rc (by decide)
theorem rc_41 : mh_r (41) (41) (41) := mh_rc (by decide)
theorem rc_42 : mh_r (42) (42) (42) := mh_rc (by decide)
theorem rc_43 : mh_r (43) (43) (43) := mh_rc (by decide)
theorem rc_45 : mh_r (45) (45) (45) := mh_rc (by decide)
theorem rc_47 : mh_r (47) (47) (47) := mh_rc (by decide)
theorem rc_48 : mh_r (48) (48) (48) := mh_rc (by decide)
theorem rc_57 : mh_r (57) (57) (57) := mh_rc (by decide)
theorem rc_58 : mh_r (58) (58) (58) := mh_rc (by decide)
theorem rc_59 : mh_r (59) (59) (59) := mh_rc (by decide)
theorem rc_60 : mh_r (60) (60) (60) := mh_rc (by decide)
theorem rc_61 : mh_r (61) (61) (61) := mh_rc (by decide)
theorem rc_62 : mh_r (62) (62) (62) := mh_rc (by decide)
theorem rc_63 : mh_r (63) (63) (63) := mh_rc (by decide)
theorem rc_91 : mh_r (91) (91) (91) := mh_rc (by decide)
theorem rc_93 : mh_r (93) (93) (93) := mh_rc (by decide)
theorem rc_97 : mh_r (97) (97) (97) := mh_rc (by decide)
theorem rc_99 : mh_r (99) (99) (99) := mh_rc (by decide)
theorem rc_100 : mh_r (100) (100) (100) := mh_rc (by decide)
theorem rc_102 : mh_r (102) (102) (102) := mh_rc (by decide)
theorem rc_104 : mh_r (104) (104) (104) := mh_rc (by decide)
theorem rc_105 : mh_r (105) (105) (105) := mh_rc (by decide)
theorem rc_106 : mh_r (106) (106) (106) := mh_rc (by decide)
theorem rc_107 : mh_r (107) (107) (107) := mh_rc (by decide)
theorem rc_108 : mh_r (108) (108) (108) := mh_rc (by decide)
theorem rc_109 : mh_r (109) (109) (109) := mh_rc (by decide)
theorem rc_110 : mh_r (110) (110) (110) := mh_rc (by decide)
theorem rc_115 : mh_r (115) (115) (115) := mh_rc (by decide)
theorem rc_116 : mh_r (116) (116) (116) := mh_rc (by decide)
theorem rc_118 : mh_r (118) (118) (118) := mh_rc (by decide)
theorem rc_119 : mh_r (119) (119) (119) := mh_rc (by decide)
theorem rc_120 : mh_r (120) (120) (120) := mh_rc (by decide)
theorem rc_121 : mh_r (121) (121) (121) := mh_rc (by decide)
theorem rc_124 : mh_r (124) (124) (124) := mh_rc (by decide)
theorem rc_143 : mh_r (143) (143) (143) := mh_rc (by decide)
theorem rc_144 : mh_r (144) (144) (144) := mh_rc (by decide)
theorem rc_145 : mh_r (145) (145) (145) := mh_rc (by decide)
theorem rc_180 : mh_r (180) (180) (180) := mh_rc (by decide)
theorem rc_192 : mh_r (192) (192) (192) := mh_rc (by decide)
theorem rc_198 : mh_r (198) (198) (198) := mh_rc (by decide)
theorem rc_199 : mh_r (199) (199) (199) := mh_rc (by decide)
theorem rc_200 : mh_r (200) (200) (200) := mh_rc (by decide)
theorem rc_220 : mh_r (220) (220) (220) := mh_rc (by decide)
theorem rc_240 : mh_r (240) (240) (240) := mh_rc (by decide)
theorem rc_255 : mh_r (255) (255) (255) := mh_rc (by decide)
theorem rc_299 : mh_r (299) (299) (299) := mh_rc (by decide)
theorem rc_300 : mh_r (300) (300) (300) := mh_rc (by decide)
theorem rc_301 : mh_r (301) (301) (301) := mh_rc (by decide)
theorem rc_600 : mh_r (600) (600) (600) := mh_rc (by decide)
theorem rc_999 : mh_r (999) (999) (999) := mh_rc (by decide)
theorem rc_1000 : mh_r (1000) (1000) (1000) := mh_rc (by decide)
theorem rc_3010 : mh_r (3010) (3010) (3010) := mh_rc (by decide)
theorem rc_9999 : mh_r (9999) (9999) (9999) := mh_rc (by decide)
theorem rc_10000 : mh_r (10000) (10000) (10000) := mh_rc (by decide)
theorem rc_13849 : mh_r (13849) (13849) (13849) := mh_rc (by decide)
theorem rc_25173 : mh_r (25173) (25173) (25173) := mh_rc (by decide)
theorem rc_65535 : mh_r (65535) (65535) (65535) := mh_rc (by decide)
theorem rc_65536 : mh_r (65536) (65536) (65536) := mh_rc (by decide)
theorem rc_m1 : mh_r (-1) (-1) (-1) := mh_rc (by decide)
theorem rc_m2 : mh_r (-2) (-2) (-2) := mh_rc (by decide)
theorem rc_m3 : mh_r (-3) (-3) (-3) := mh_rc (by decide)
theorem rc_m8 : mh_r (-8) (-8) (-8) := mh_rc (by decide)
theorem rc_m1000 : mh_r (-1000) (-1000) (-1000) := mh_rc (by decide)
theorem rc_2147483647 : mh_r (2147483647) (2147483647) (2147483647) := mh_rc (by decide)
theorem rc_1000000000 : mh_r (1000000000) (1000000000) (1000000000) := mh_rc (by decide)

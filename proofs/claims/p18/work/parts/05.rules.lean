/-- an int between two numbers -/
def mh_r (x : Int32) (a b : Int) : Prop := a ≤ x.toInt ∧ x.toInt ≤ b
theorem mh_r_full (x : Int32) : mh_r x (-2147483648) 2147483647 := by
  have h1 := Int32.minValue_le_toInt x
  have h2 := Int32.toInt_lt x
  have h3 := Int32.le_toInt x
  constructor <;> omega
theorem mh_r_wk {x : Int32} {a b c d : Int} (h : mh_r x a b) (hc : c ≤ a ∧ b ≤ d) : mh_r x c d := ⟨Int.le_trans hc.1 h.1, Int.le_trans h.2 hc.2⟩
theorem mh_fit {z : Int} (h1 : -2147483648 ≤ z) (h2 : z ≤ 2147483647) : z.bmod (2 ^ 32) = z := by
  apply Int.bmod_eq_of_le <;> omega
theorem mh_add {x y : Int32} {lo hi : Int} (h : lo ≤ x.toInt + y.toInt ∧ x.toInt + y.toInt ≤ hi) (hb : -2147483648 ≤ lo ∧ hi ≤ 2147483647) : (x + y).toInt = x.toInt + y.toInt := by
  rw [Int32.toInt_add]; exact mh_fit (by omega) (by omega)
theorem mh_sub {x y : Int32} {lo hi : Int} (h : lo ≤ x.toInt - y.toInt ∧ x.toInt - y.toInt ≤ hi) (hb : -2147483648 ≤ lo ∧ hi ≤ 2147483647) : (x - y).toInt = x.toInt - y.toInt := by
  rw [Int32.toInt_sub]; exact mh_fit (by omega) (by omega)
theorem mh_mulc {a b c d x y lo hi : Int} (h1 : a ≤ x) (h2 : x ≤ b) (h3 : c ≤ y) (h4 : y ≤ d) (k1 : lo ≤ a * c ∧ lo ≤ a * d ∧ lo ≤ b * c ∧ lo ≤ b * d) (k2 : a * c ≤ hi ∧ a * d ≤ hi ∧ b * c ≤ hi ∧ b * d ≤ hi) : lo ≤ x * y ∧ x * y ≤ hi := by
  have low : ∀ u : Int, lo ≤ u * c → lo ≤ u * d → lo ≤ u * y := by
    intro u g1 g2
    rcases Int.le_total 0 u with g | g
    · exact Int.le_trans g1 (Int.mul_le_mul_of_nonneg_left h3 g)
    · exact Int.le_trans g2 (Int.mul_le_mul_of_nonpos_left g h4)
  have high : ∀ u : Int, u * c ≤ hi → u * d ≤ hi → u * y ≤ hi := by
    intro u g1 g2
    rcases Int.le_total 0 u with g | g
    · exact Int.le_trans (Int.mul_le_mul_of_nonneg_left h4 g) g2
    · exact Int.le_trans (Int.mul_le_mul_of_nonpos_left g h3) g1
  rcases Int.le_total 0 y with g | g
  · exact ⟨Int.le_trans (low a k1.1 k1.2.1) (Int.mul_le_mul_of_nonneg_right h1 g), Int.le_trans (Int.mul_le_mul_of_nonneg_right h2 g) (high b k2.2.2.1 k2.2.2.2)⟩
  · exact ⟨Int.le_trans (low b k1.2.2.1 k1.2.2.2) (Int.mul_le_mul_of_nonpos_right h2 g), Int.le_trans (Int.mul_le_mul_of_nonpos_right h1 g) (high a k2.1 k2.2.1)⟩
theorem mh_mul {x y : Int32} {lo hi : Int} (h : lo ≤ x.toInt * y.toInt ∧ x.toInt * y.toInt ≤ hi) (hb : -2147483648 ≤ lo ∧ hi ≤ 2147483647) : (x * y).toInt = x.toInt * y.toInt := by
  rw [Int32.toInt_mul]
  have h1 := Int.le_trans hb.1 h.1
  have h2 := Int.le_trans h.2 hb.2
  exact mh_fit h1 h2
theorem mh_tdm {x y : Int} (hy : 1 ≤ y) : (0 ≤ x → x.tdiv y = x / y) ∧ (x ≤ 0 → x.tdiv y = -((-x) / y)) := by
  refine ⟨fun h => Int.tdiv_eq_ediv_of_nonneg h, fun h => ?_⟩
  have h1 : (-x).tdiv y = (-x) / y := Int.tdiv_eq_ediv_of_nonneg (by omega)
  rw [Int.neg_tdiv] at h1
  omega
theorem mh_divb {x y : Int} (hy : 1 ≤ y) : (0 ≤ x → 0 ≤ x.tdiv y ∧ x.tdiv y ≤ x) ∧ (x ≤ 0 → x ≤ x.tdiv y ∧ x.tdiv y ≤ 0) := by
  have pos : ∀ z : Int, 0 ≤ z → 0 ≤ z / y ∧ z / y ≤ z := fun z h => ⟨Int.ediv_nonneg h (by omega), Int.ediv_le_self y h⟩
  refine ⟨fun h => ?_, fun h => ?_⟩
  · rw [(mh_tdm hy).1 h]; exact pos x h
  · rw [(mh_tdm hy).2 h]
    have := pos (-x) (by omega)
    omega
theorem mh_div {x y : Int32} (hy : 1 ≤ y.toInt) : (x / y).toInt = x.toInt.tdiv y.toInt := by
  rw [Int32.toInt_div]
  have hb := mh_divb (x := x.toInt) hy
  have h := mh_r_full x
  rcases Int.le_total 0 x.toInt with g | g
  · have := hb.1 g; exact mh_fit (by have := h.2; omega) (by have := h.2; omega)
  · have := hb.2 g; exact mh_fit (by have := h.1; omega) (by have := h.1; omega)
theorem mh_rem {x y : Int32} (hy : 1 ≤ y.toInt) : (x - x / y * y).toInt = x.toInt.tmod y.toInt := by
  have e : x - x / y * y = x % y := by
    first | exact (Int32.sub_div_mul_self x y) | skip
    all_goals first | exact (Int32.mod_def x y).symm | exact (Int32.mod_def' x y).symm | skip
    all_goals (apply Int32.toInt_inj.mp; rw [Int32.toInt_sub, Int32.toInt_mul, Int32.toInt_div, Int32.toInt_mod]; have hd := Int.mul_tdiv_add_tmod x.toInt y.toInt; have hb := mh_divb (x := x.toInt) hy; have h := mh_r_full x; have hm : (x.toInt.tdiv y.toInt).bmod (2 ^ 32) = x.toInt.tdiv y.toInt := mh_fit (by rcases Int.le_total 0 x.toInt with g | g; have := hb.1 g; have := h.2; omega; have := hb.2 g; have := h.1; omega) (by rcases Int.le_total 0 x.toInt with g | g; have := hb.1 g; have := h.2; omega; have := hb.2 g; have := h.1; omega); rw [hm, Int.sub_bmod_bmod, Int.mul_comm, show x.toInt - y.toInt * x.toInt.tdiv y.toInt = x.toInt.tmod y.toInt from by omega]; exact mh_fit (by have := Int.tmod_lt_of_pos x.toInt (b := y.toInt) (by omega); have := h.1; have := h.2; rcases Int.le_total 0 x.toInt with g | g; have := Int.tmod_nonneg y.toInt g; omega; have h7 := Int.tmod_nonneg y.toInt (a := -x.toInt) (by omega); have h9 := Int.tmod_lt_of_pos (-x.toInt) (b := y.toInt) (by omega); rw [Int.neg_tmod] at h7 h9; have := (mh_r_full y).2; omega) (by have := Int.tmod_lt_of_pos x.toInt (b := y.toInt) (by omega); have := (mh_r_full y).2; omega))
  rw [e, Int32.toInt_mod]
theorem mh_remb {x y : Int} (hy : 1 ≤ y) : -y < x.tmod y ∧ x.tmod y < y ∧ (0 ≤ x → 0 ≤ x.tmod y ∧ x.tmod y = x % y ∧ x.tmod y ≤ x) := by
  have h1 := Int.tmod_lt_of_pos x (b := y) (by omega)
  have h2 := Int.tmod_lt_of_pos (-x) (b := y) (by omega)
  rw [Int.neg_tmod] at h2
  refine ⟨by omega, h1, fun h => ?_⟩
  have h3 := Int.tmod_eq_emod_of_nonneg (b := y) h
  have h4 := Int.emod_nonneg x (b := y) (by omega)
  refine ⟨by omega, h3, ?_⟩
  rw [h3]
  have h5 := Int.mul_ediv_add_emod x y
  have h6 := Int.mul_nonneg (show (0:Int) ≤ y by omega) (Int.ediv_nonneg h (show (0:Int) ≤ y by omega))
  omega
theorem mh_in {i : Int32} {a b : Int} {n : Nat} (h : mh_r i a b) (h0 : 0 ≤ a) (h1 : b < n) : vp_in i n := by
  rw [vp_in_iff]
  exact ⟨Int.le_trans h0 h.1, Int.lt_of_le_of_lt h.2 h1⟩
section MW
variable {G : mh_G} {X : mh_X} {μ : mh_Mt} {pc : Nat} {lv : List (Nat × Value)} {st : List Value} {σ : mh_H}
theorem mw_iconst (q : Nat) (hq : pc + 1 = q) {n : Int} {v : Int32} (hd : decode μ.2.1 pc = .ok (.iconst n, 1)) (hv : Int32.ofInt n = v) (kk : mh_W G X μ q lv (.int v :: st) σ) : mh_W G X μ pc lv st σ := by
  subst hq
  intro p e s m args below meth c ok H locs ls hl hw hs
  exact lv_iconst ok.1 ok.2.1 hd hv (kk p e s m args below meth c ok H locs ls hl hw hs)
theorem mw_bipush (q : Nat) (hq : pc + 2 = q) {n : Int} {v : Int32} (hd : decode μ.2.1 pc = .ok (.bipush n, 2)) (hv : (Int8.ofInt n).toInt32 = v) (kk : mh_W G X μ q lv (.int v :: st) σ) : mh_W G X μ pc lv st σ := by
  subst hq
  intro p e s m args below meth c ok H locs ls hl hw hs
  exact lv_bipush ok.1 ok.2.1 hd hv (kk p e s m args below meth c ok H locs ls hl hw hs)
theorem mw_sipush (q : Nat) (hq : pc + 3 = q) {n : Int} {v : Int32} (hd : decode μ.2.1 pc = .ok (.sipush n, 3)) (hv : (Int16.ofInt n).toInt32 = v) (kk : mh_W G X μ q lv (.int v :: st) σ) : mh_W G X μ pc lv st σ := by
  subst hq
  intro p e s m args below meth c ok H locs ls hl hw hs
  exact lv_sipush ok.1 ok.2.1 hd hv (kk p e s m args below meth c ok H locs ls hl hw hs)
theorem mw_lconst (q : Nat) (hq : pc + 1 = q) {n : Fin 2} {v : Int64} (hd : decode μ.2.1 pc = .ok (.lconst n, 1)) (hv : Int64.ofNat (n : Nat) = v) (kk : mh_W G X μ q lv (.long v :: st) σ) : mh_W G X μ pc lv st σ := by
  subst hq
  intro p e s m args below meth c ok H locs ls hl hw hs
  exact lv_lconst ok.1 ok.2.1 hd hv (kk p e s m args below meth c ok H locs ls hl hw hs)
theorem mw_ldc (q : Nat) (hq : pc + 2 = q) {ix : Nat} {v : Int32} (hd : decode μ.2.1 pc = .ok (.ldc ix, 2)) (hv : Cond.constant μ.1.cls ix v ∈ mh_base) (kk : mh_W G X μ q lv (.int v :: st) σ) : mh_W G X μ pc lv st σ := by
  subst hq
  intro p e s m args below meth c ok H locs ls hl hw hs
  exact lv_ldc ok.1 ok.2.1 ok.2.2.2.1 (ok.2.2.2.2.1 _ hv) hd (kk p e s m args below meth c ok H locs ls hl hw hs)
theorem mw_ldcw (q : Nat) (hq : pc + 3 = q) {ix : Nat} {v : Int32} (hd : decode μ.2.1 pc = .ok (.ldc_w ix, 3)) (hv : Cond.constant μ.1.cls ix v ∈ mh_base) (kk : mh_W G X μ q lv (.int v :: st) σ) : mh_W G X μ pc lv st σ := by
  subst hq
  intro p e s m args below meth c ok H locs ls hl hw hs
  exact lv_ldcw ok.1 ok.2.1 ok.2.2.2.1 (ok.2.2.2.2.1 _ hv) hd (kk p e s m args below meth c ok H locs ls hl hw hs)
theorem mw_ldc2 (q : Nat) (hq : pc + 3 = q) {ix : Nat} {v : Int64} (hd : decode μ.2.1 pc = .ok (.ldc2_w ix, 3)) (hv : Cond.constantLong μ.1.cls ix v ∈ mh_base) (kk : mh_W G X μ q lv (.long v :: st) σ) : mh_W G X μ pc lv st σ := by
  subst hq
  intro p e s m args below meth c ok H locs ls hl hw hs
  exact lv_ldc2 ok.1 ok.2.1 ok.2.2.2.1 (ok.2.2.2.2.1 _ hv) hd (kk p e s m args below meth c ok H locs ls hl hw hs)
theorem mw_iload_n (q : Nat) (hq : pc + 1 = q) {k : Fin 4} {i : Nat} {x : Int32} (j : Nat) (hd : decode μ.2.1 pc = .ok (.iload_n k, 1)) (hi : (k : Nat) = i) (hj : lv[j]? = some (i, .int x)) (kk : mh_W G X μ q lv (.int x :: st) σ) : mh_W G X μ pc lv st σ := by
  subst hq
  intro p e s m args below meth c ok H locs ls hl hw hs
  exact lv_iload_n ok.1 ok.2.1 hd hi (lv_at hl j hj) (kk p e s m args below meth c ok H locs ls hl hw hs)
theorem mw_iload (q : Nat) (hq : pc + 2 = q) {i : Nat} {x : Int32} (j : Nat) (hd : decode μ.2.1 pc = .ok (.iload i, 2)) (hj : lv[j]? = some (i, .int x)) (kk : mh_W G X μ q lv (.int x :: st) σ) : mh_W G X μ pc lv st σ := by
  subst hq
  intro p e s m args below meth c ok H locs ls hl hw hs
  exact lv_iload ok.1 ok.2.1 hd (lv_at hl j hj) (kk p e s m args below meth c ok H locs ls hl hw hs)
theorem mw_lload_n (q : Nat) (hq : pc + 1 = q) {k : Fin 4} {i : Nat} {x : Int64} (j : Nat) (hd : decode μ.2.1 pc = .ok (.lload_n k, 1)) (hi : (k : Nat) = i) (hj : lv[j]? = some (i, .long x)) (kk : mh_W G X μ q lv (.long x :: st) σ) : mh_W G X μ pc lv st σ := by
  subst hq
  intro p e s m args below meth c ok H locs ls hl hw hs
  exact lv_lload_n ok.1 ok.2.1 hd hi (lv_at hl j hj) (kk p e s m args below meth c ok H locs ls hl hw hs)
theorem mw_lload (q : Nat) (hq : pc + 2 = q) {i : Nat} {x : Int64} (j : Nat) (hd : decode μ.2.1 pc = .ok (.lload i, 2)) (hj : lv[j]? = some (i, .long x)) (kk : mh_W G X μ q lv (.long x :: st) σ) : mh_W G X μ pc lv st σ := by
  subst hq
  intro p e s m args below meth c ok H locs ls hl hw hs
  exact lv_lload ok.1 ok.2.1 hd (lv_at hl j hj) (kk p e s m args below meth c ok H locs ls hl hw hs)
theorem mw_aload_n (q : Nat) (hq : pc + 1 = q) {k : Fin 4} {i : Nat} {x : Nat} (j : Nat) (hd : decode μ.2.1 pc = .ok (.aload_n k, 1)) (hi : (k : Nat) = i) (hj : lv[j]? = some (i, .ref x)) (kk : mh_W G X μ q lv (.ref x :: st) σ) : mh_W G X μ pc lv st σ := by
  subst hq
  intro p e s m args below meth c ok H locs ls hl hw hs
  exact lv_aload_n ok.1 ok.2.1 hd hi (lv_at hl j hj) (kk p e s m args below meth c ok H locs ls hl hw hs)
theorem mw_aload (q : Nat) (hq : pc + 2 = q) {i : Nat} {x : Nat} (j : Nat) (hd : decode μ.2.1 pc = .ok (.aload i, 2)) (hj : lv[j]? = some (i, .ref x)) (kk : mh_W G X μ q lv (.ref x :: st) σ) : mh_W G X μ pc lv st σ := by
  subst hq
  intro p e s m args below meth c ok H locs ls hl hw hs
  exact lv_aload ok.1 ok.2.1 hd (lv_at hl j hj) (kk p e s m args below meth c ok H locs ls hl hw hs)
theorem mw_istore_n (q : Nat) (hq : pc + 1 = q) {k : Fin 4} {i : Nat} {x : Int32} (lv' : List (Nat × Value)) (hd : decode μ.2.1 pc = .ok (.istore_n k, 1)) (hi : (k : Nat) = i) (hn : i < μ.2.2.1) (hv : (i, Value.int x) :: lv.filter (fun q => !(q.1 == i) && !(q.1 + 1 == i && q.2.category == 2)) = lv') (kk : mh_W G X μ q lv' st σ) : mh_W G X μ pc lv (.int x :: st) σ := by
  subst hq
  intro p e s m args below meth c ok H locs ls hl hw hs
  exact lv_istore_n ok.1 ok.2.1 hd hi hl hn hv (fun ls hl => kk p e s m args below meth c ok H locs ls hl hw hs)
theorem mw_istore (q : Nat) (hq : pc + 2 = q) {i : Nat} {x : Int32} (lv' : List (Nat × Value)) (hd : decode μ.2.1 pc = .ok (.istore i, 2)) (hn : i < μ.2.2.1) (hv : (i, Value.int x) :: lv.filter (fun q => !(q.1 == i) && !(q.1 + 1 == i && q.2.category == 2)) = lv') (kk : mh_W G X μ q lv' st σ) : mh_W G X μ pc lv (.int x :: st) σ := by
  subst hq
  intro p e s m args below meth c ok H locs ls hl hw hs
  exact lv_istore ok.1 ok.2.1 hd hl hn hv (fun ls hl => kk p e s m args below meth c ok H locs ls hl hw hs)
theorem mw_lstore_n (q : Nat) (hq : pc + 1 = q) {k : Fin 4} {i : Nat} {x : Int64} (lv' : List (Nat × Value)) (hd : decode μ.2.1 pc = .ok (.lstore_n k, 1)) (hi : (k : Nat) = i) (hn : i + 1 < μ.2.2.1) (hv : (i, Value.long x) :: lv.filter (fun q => !(q.1 == i) && (!(q.1 == i + 1) && !(q.1 + 1 == i && q.2.category == 2))) = lv') (kk : mh_W G X μ q lv' st σ) : mh_W G X μ pc lv (.long x :: st) σ := by
  subst hq
  intro p e s m args below meth c ok H locs ls hl hw hs
  exact lv_lstore_n ok.1 ok.2.1 hd hi hl hn hv (fun ls hl => kk p e s m args below meth c ok H locs ls hl hw hs)
theorem mw_lstore (q : Nat) (hq : pc + 2 = q) {i : Nat} {x : Int64} (lv' : List (Nat × Value)) (hd : decode μ.2.1 pc = .ok (.lstore i, 2)) (hn : i + 1 < μ.2.2.1) (hv : (i, Value.long x) :: lv.filter (fun q => !(q.1 == i) && (!(q.1 == i + 1) && !(q.1 + 1 == i && q.2.category == 2))) = lv') (kk : mh_W G X μ q lv' st σ) : mh_W G X μ pc lv (.long x :: st) σ := by
  subst hq
  intro p e s m args below meth c ok H locs ls hl hw hs
  exact lv_lstore ok.1 ok.2.1 hd hl hn hv (fun ls hl => kk p e s m args below meth c ok H locs ls hl hw hs)
theorem mw_astore_n (q : Nat) (hq : pc + 1 = q) {k : Fin 4} {i : Nat} {x : Nat} (lv' : List (Nat × Value)) (hd : decode μ.2.1 pc = .ok (.astore_n k, 1)) (hi : (k : Nat) = i) (hn : i < μ.2.2.1) (hv : (i, Value.ref x) :: lv.filter (fun q => !(q.1 == i) && !(q.1 + 1 == i && q.2.category == 2)) = lv') (kk : mh_W G X μ q lv' st σ) : mh_W G X μ pc lv (.ref x :: st) σ := by
  subst hq
  intro p e s m args below meth c ok H locs ls hl hw hs
  exact lv_astore_n ok.1 ok.2.1 hd hi hl hn hv (fun ls hl => kk p e s m args below meth c ok H locs ls hl hw hs)
theorem mw_astore (q : Nat) (hq : pc + 2 = q) {i : Nat} {x : Nat} (lv' : List (Nat × Value)) (hd : decode μ.2.1 pc = .ok (.astore i, 2)) (hn : i < μ.2.2.1) (hv : (i, Value.ref x) :: lv.filter (fun q => !(q.1 == i) && !(q.1 + 1 == i && q.2.category == 2)) = lv') (kk : mh_W G X μ q lv' st σ) : mh_W G X μ pc lv (.ref x :: st) σ := by
  subst hq
  intro p e s m args below meth c ok H locs ls hl hw hs
  exact lv_astore ok.1 ok.2.1 hd hl hn hv (fun ls hl => kk p e s m args below meth c ok H locs ls hl hw hs)
theorem mw_iinc (q : Nat) (hq : pc + 3 = q) {i k : Nat} {n : Int} {x v : Int32} (lv' : List (Nat × Value)) (hd : decode μ.2.1 pc = .ok (.iinc i n, 3)) (hk : lv[k]? = some (i, .int x)) (he : x + Int32.ofInt n = v) (hn : i < μ.2.2.1) (hv : (i, Value.int v) :: lv.filter (fun q => !(q.1 == i) && !(q.1 + 1 == i && q.2.category == 2)) = lv') (kk : mh_W G X μ q lv' st σ) : mh_W G X μ pc lv st σ := by
  subst hq
  intro p e s m args below meth c ok H locs ls hl hw hs
  exact lv_iinc ok.1 ok.2.1 hd hl hk he hn hv (fun ls hl => kk p e s m args below meth c ok H locs ls hl hw hs)
theorem mw_lv (ks : List Nat) {lv' : List (Nat × Value)} (h : lv_pick lv ks = lv') (kk : mh_W G X μ pc lv' st σ) : mh_W G X μ pc lv st σ := by
  intro p e s m args below meth c ok H locs ls hl hw hs
  exact kk p e s m args below meth c ok H locs ls (lv_sub hl ks h) hw hs
theorem mw_iadd_u (q : Nat) (hq : pc + 1 = q) {x y : Int32} (hd : decode μ.2.1 pc = .ok (.iadd, 1))  (kk : ∀ z : Int32, z = x + y → mh_W G X μ q lv (.int z :: st) σ) : mh_W G X μ pc lv (.int y :: .int x :: st) σ := by
  subst hq
  intro p e s m args below meth c ok H locs ls hl hw hs
  exact lv_iadd ok.1 ok.2.1 hd  (kk _ rfl p e s m args below meth c ok H locs ls hl hw hs)
theorem mw_isub_u (q : Nat) (hq : pc + 1 = q) {x y : Int32} (hd : decode μ.2.1 pc = .ok (.isub, 1))  (kk : ∀ z : Int32, z = x - y → mh_W G X μ q lv (.int z :: st) σ) : mh_W G X μ pc lv (.int y :: .int x :: st) σ := by
  subst hq
  intro p e s m args below meth c ok H locs ls hl hw hs
  exact lv_isub ok.1 ok.2.1 hd  (kk _ rfl p e s m args below meth c ok H locs ls hl hw hs)
theorem mw_imul_u (q : Nat) (hq : pc + 1 = q) {x y : Int32} (hd : decode μ.2.1 pc = .ok (.imul, 1))  (kk : ∀ z : Int32, z = x * y → mh_W G X μ q lv (.int z :: st) σ) : mh_W G X μ pc lv (.int y :: .int x :: st) σ := by
  subst hq
  intro p e s m args below meth c ok H locs ls hl hw hs
  exact lv_imul ok.1 ok.2.1 hd  (kk _ rfl p e s m args below meth c ok H locs ls hl hw hs)
theorem mw_iand_u (q : Nat) (hq : pc + 1 = q) {x y : Int32} (hd : decode μ.2.1 pc = .ok (.iand, 1))  (kk : ∀ z : Int32, z = x &&& y → mh_W G X μ q lv (.int z :: st) σ) : mh_W G X μ pc lv (.int y :: .int x :: st) σ := by
  subst hq
  intro p e s m args below meth c ok H locs ls hl hw hs
  exact lv_iand ok.1 ok.2.1 hd  (kk _ rfl p e s m args below meth c ok H locs ls hl hw hs)
theorem mw_ior_u (q : Nat) (hq : pc + 1 = q) {x y : Int32} (hd : decode μ.2.1 pc = .ok (.ior, 1))  (kk : ∀ z : Int32, z = x ||| y → mh_W G X μ q lv (.int z :: st) σ) : mh_W G X μ pc lv (.int y :: .int x :: st) σ := by
  subst hq
  intro p e s m args below meth c ok H locs ls hl hw hs
  exact lv_ior ok.1 ok.2.1 hd  (kk _ rfl p e s m args below meth c ok H locs ls hl hw hs)
theorem mw_ixor_u (q : Nat) (hq : pc + 1 = q) {x y : Int32} (hd : decode μ.2.1 pc = .ok (.ixor, 1))  (kk : ∀ z : Int32, z = x ^^^ y → mh_W G X μ q lv (.int z :: st) σ) : mh_W G X μ pc lv (.int y :: .int x :: st) σ := by
  subst hq
  intro p e s m args below meth c ok H locs ls hl hw hs
  exact lv_ixor ok.1 ok.2.1 hd  (kk _ rfl p e s m args below meth c ok H locs ls hl hw hs)
theorem mw_ishl_u (q : Nat) (hq : pc + 1 = q) {x y : Int32} (hd : decode μ.2.1 pc = .ok (.ishl, 1))  (kk : ∀ z : Int32, z = x <<< (y &&& 31) → mh_W G X μ q lv (.int z :: st) σ) : mh_W G X μ pc lv (.int y :: .int x :: st) σ := by
  subst hq
  intro p e s m args below meth c ok H locs ls hl hw hs
  exact lv_ishl ok.1 ok.2.1 hd  (kk _ rfl p e s m args below meth c ok H locs ls hl hw hs)
theorem mw_ishr_u (q : Nat) (hq : pc + 1 = q) {x y : Int32} (hd : decode μ.2.1 pc = .ok (.ishr, 1))  (kk : ∀ z : Int32, z = x >>> (y &&& 31) → mh_W G X μ q lv (.int z :: st) σ) : mh_W G X μ pc lv (.int y :: .int x :: st) σ := by
  subst hq
  intro p e s m args below meth c ok H locs ls hl hw hs
  exact lv_ishr ok.1 ok.2.1 hd  (kk _ rfl p e s m args below meth c ok H locs ls hl hw hs)
theorem mw_idiv_u (q : Nat) (hq : pc + 1 = q) {x y : Int32} (hd : decode μ.2.1 pc = .ok (.idiv, 1)) (hne : ¬ y = 0) (kk : ∀ z : Int32, z = x / y → mh_W G X μ q lv (.int z :: st) σ) : mh_W G X μ pc lv (.int y :: .int x :: st) σ := by
  subst hq
  intro p e s m args below meth c ok H locs ls hl hw hs
  exact lv_idiv ok.1 ok.2.1 hd hne (kk _ rfl p e s m args below meth c ok H locs ls hl hw hs)
theorem mw_irem_u (q : Nat) (hq : pc + 1 = q) {x y : Int32} (hd : decode μ.2.1 pc = .ok (.irem, 1)) (hne : ¬ y = 0) (kk : ∀ z : Int32, z = x - x / y * y → mh_W G X μ q lv (.int z :: st) σ) : mh_W G X μ pc lv (.int y :: .int x :: st) σ := by
  subst hq
  intro p e s m args below meth c ok H locs ls hl hw hs
  exact lv_irem ok.1 ok.2.1 hd hne (kk _ rfl p e s m args below meth c ok H locs ls hl hw hs)
theorem mw_iushr_u (q : Nat) (hq : pc + 1 = q) {x y : Int32} (hd : decode μ.2.1 pc = .ok (.iushr, 1)) (kk : ∀ z : Int32, z = (x.toUInt32 >>> (y.toUInt32 &&& Int32.toUInt32 31)).toInt32 → mh_W G X μ q lv (.int z :: st) σ) : mh_W G X μ pc lv (.int y :: .int x :: st) σ := by
  subst hq
  intro p e s m args below meth c ok H locs ls hl hw hs
  exact lv_iushr ok.1 ok.2.1 hd rfl (kk _ rfl p e s m args below meth c ok H locs ls hl hw hs)
theorem mw_ladd (q : Nat) (hq : pc + 1 = q) {x y : Int64} (hd : decode μ.2.1 pc = .ok (.ladd, 1))  (kk : ∀ z : Int64, z = x + y → mh_W G X μ q lv (.long z :: st) σ) : mh_W G X μ pc lv (.long y :: .long x :: st) σ := by
  subst hq
  intro p e s m args below meth c ok H locs ls hl hw hs
  exact lv_ladd ok.1 ok.2.1 hd  (kk _ rfl p e s m args below meth c ok H locs ls hl hw hs)
theorem mw_lsub (q : Nat) (hq : pc + 1 = q) {x y : Int64} (hd : decode μ.2.1 pc = .ok (.lsub, 1))  (kk : ∀ z : Int64, z = x - y → mh_W G X μ q lv (.long z :: st) σ) : mh_W G X μ pc lv (.long y :: .long x :: st) σ := by
  subst hq
  intro p e s m args below meth c ok H locs ls hl hw hs
  exact lv_lsub ok.1 ok.2.1 hd  (kk _ rfl p e s m args below meth c ok H locs ls hl hw hs)
theorem mw_lmul (q : Nat) (hq : pc + 1 = q) {x y : Int64} (hd : decode μ.2.1 pc = .ok (.lmul, 1))  (kk : ∀ z : Int64, z = x * y → mh_W G X μ q lv (.long z :: st) σ) : mh_W G X μ pc lv (.long y :: .long x :: st) σ := by
  subst hq
  intro p e s m args below meth c ok H locs ls hl hw hs
  exact lv_lmul ok.1 ok.2.1 hd  (kk _ rfl p e s m args below meth c ok H locs ls hl hw hs)
theorem mw_ldiv (q : Nat) (hq : pc + 1 = q) {x y : Int64} (hd : decode μ.2.1 pc = .ok (.ldiv, 1)) (hne : ¬ y = 0) (kk : ∀ z : Int64, z = x / y → mh_W G X μ q lv (.long z :: st) σ) : mh_W G X μ pc lv (.long y :: .long x :: st) σ := by
  subst hq
  intro p e s m args below meth c ok H locs ls hl hw hs
  exact lv_ldiv ok.1 ok.2.1 hd hne (kk _ rfl p e s m args below meth c ok H locs ls hl hw hs)
theorem mw_lrem (q : Nat) (hq : pc + 1 = q) {x y : Int64} (hd : decode μ.2.1 pc = .ok (.lrem, 1)) (hne : ¬ y = 0) (kk : ∀ z : Int64, z = x - x / y * y → mh_W G X μ q lv (.long z :: st) σ) : mh_W G X μ pc lv (.long y :: .long x :: st) σ := by
  subst hq
  intro p e s m args below meth c ok H locs ls hl hw hs
  exact lv_lrem ok.1 ok.2.1 hd hne (kk _ rfl p e s m args below meth c ok H locs ls hl hw hs)
theorem mw_lcmp (q : Nat) (hq : pc + 1 = q) {x y : Int64} (hd : decode μ.2.1 pc = .ok (.lcmp, 1)) (kk : ∀ z : Int32, z = lg_cmp x y → mh_W G X μ q lv (.int z :: st) σ) : mh_W G X μ pc lv (.long y :: .long x :: st) σ := by
  subst hq
  intro p e s m args below meth c ok H locs ls hl hw hs
  exact W.lcmp ok.1 ok.2.1 hd (kk _ rfl p e s m args below meth c ok H locs ls hl hw hs)
theorem mw_ineg (q : Nat) (hq : pc + 1 = q) {x : Int32} (hd : decode μ.2.1 pc = .ok (.ineg, 1)) (kk : ∀ z : Int32, z = -x → mh_W G X μ q lv (.int z :: st) σ) : mh_W G X μ pc lv (.int x :: st) σ := by
  subst hq
  intro p e s m args below meth c ok H locs ls hl hw hs
  exact lv_ineg ok.1 ok.2.1 hd (by first | exact kk _ rfl p e s m args below meth c ok H locs ls hl hw hs | exact kk _ (by simp) p e s m args below meth c ok H locs ls hl hw hs)
theorem mw_i2l (q : Nat) (hq : pc + 1 = q) {x : Int32} (hd : decode μ.2.1 pc = .ok (.i2l, 1)) (kk : ∀ z : Int64, z = x.toInt64 → mh_W G X μ q lv (.long z :: st) σ) : mh_W G X μ pc lv (.int x :: st) σ := by
  subst hq
  intro p e s m args below meth c ok H locs ls hl hw hs
  exact lv_i2l ok.1 ok.2.1 hd rfl (kk _ rfl p e s m args below meth c ok H locs ls hl hw hs)
theorem mw_l2i (q : Nat) (hq : pc + 1 = q) {x : Int64} (hd : decode μ.2.1 pc = .ok (.l2i, 1)) (kk : ∀ z : Int32, z = x.toInt32 → mh_W G X μ q lv (.int z :: st) σ) : mh_W G X μ pc lv (.long x :: st) σ := by
  subst hq
  intro p e s m args below meth c ok H locs ls hl hw hs
  exact lv_l2i ok.1 ok.2.1 hd rfl (kk _ rfl p e s m args below meth c ok H locs ls hl hw hs)
theorem mw_i2b (q : Nat) (hq : pc + 1 = q) {x : Int32} (hd : decode μ.2.1 pc = .ok (.i2b, 1)) (kk : ∀ z : Int32, z = x.toInt8.toInt32 → mh_W G X μ q lv (.int z :: st) σ) : mh_W G X μ pc lv (.int x :: st) σ := by
  subst hq
  intro p e s m args below meth c ok H locs ls hl hw hs
  exact lv_i2b ok.1 ok.2.1 hd rfl (kk _ rfl p e s m args below meth c ok H locs ls hl hw hs)
theorem mw_i2c (q : Nat) (hq : pc + 1 = q) {x : Int32} (hd : decode μ.2.1 pc = .ok (.i2c, 1)) (kk : ∀ z : Int32, z = (x.toUInt32 % 65536).toInt32 → mh_W G X μ q lv (.int z :: st) σ) : mh_W G X μ pc lv (.int x :: st) σ := by
  subst hq
  intro p e s m args below meth c ok H locs ls hl hw hs
  exact lv_i2c ok.1 ok.2.1 hd rfl (kk _ rfl p e s m args below meth c ok H locs ls hl hw hs)
theorem mw_iadd (q : Nat) (hq : pc + 1 = q) {x y : Int32} {a b c e : Int} (lo hi : Int) (hd : decode μ.2.1 pc = .ok (.iadd, 1)) (hx : mh_r x a b) (hy : mh_r y c e) (hb : (lo ≤ a + c ∧ b + e ≤ hi) ∧ -2147483648 ≤ lo ∧ hi ≤ 2147483647) (kk : ∀ z : Int32, z.toInt = x.toInt + y.toInt → mh_r z lo hi → mh_W G X μ q lv (.int z :: st) σ) : mh_W G X μ pc lv (.int y :: .int x :: st) σ := by
  subst hq
  intro p e s m args below meth c ok H locs ls hl hw hs
  have h0 : lo ≤ x.toInt + y.toInt ∧ x.toInt + y.toInt ≤ hi := ⟨by have := hx.1; have := hy.1; omega, by have := hx.2; have := hy.2; omega⟩
  have h1 := mh_add h0 hb.2
  exact lv_iadd ok.1 ok.2.1 hd (kk _ h1 (by rw [mh_r, h1]; exact h0) p e s m args below meth c ok H locs ls hl hw hs)
theorem mw_isub (q : Nat) (hq : pc + 1 = q) {x y : Int32} {a b c e : Int} (lo hi : Int) (hd : decode μ.2.1 pc = .ok (.isub, 1)) (hx : mh_r x a b) (hy : mh_r y c e) (hb : (lo ≤ a - e ∧ b - c ≤ hi) ∧ -2147483648 ≤ lo ∧ hi ≤ 2147483647) (kk : ∀ z : Int32, z.toInt = x.toInt - y.toInt → mh_r z lo hi → mh_W G X μ q lv (.int z :: st) σ) : mh_W G X μ pc lv (.int y :: .int x :: st) σ := by
  subst hq
  intro p e s m args below meth c ok H locs ls hl hw hs
  have h0 : lo ≤ x.toInt - y.toInt ∧ x.toInt - y.toInt ≤ hi := ⟨by have := hx.1; have := hy.2; omega, by have := hx.2; have := hy.1; omega⟩
  have h1 := mh_sub h0 hb.2
  exact lv_isub ok.1 ok.2.1 hd (kk _ h1 (by rw [mh_r, h1]; exact h0) p e s m args below meth c ok H locs ls hl hw hs)
theorem mw_imul (q : Nat) (hq : pc + 1 = q) {x y : Int32} {a b c e : Int} (lo hi : Int) (hd : decode μ.2.1 pc = .ok (.imul, 1)) (hx : mh_r x a b) (hy : mh_r y c e) (hb : ((lo ≤ a * c ∧ lo ≤ a * e ∧ lo ≤ b * c ∧ lo ≤ b * e) ∧ (a * c ≤ hi ∧ a * e ≤ hi ∧ b * c ≤ hi ∧ b * e ≤ hi)) ∧ -2147483648 ≤ lo ∧ hi ≤ 2147483647) (kk : ∀ z : Int32, z.toInt = x.toInt * y.toInt → mh_r z lo hi → mh_W G X μ q lv (.int z :: st) σ) : mh_W G X μ pc lv (.int y :: .int x :: st) σ := by
  subst hq
  intro p e s m args below meth c ok H locs ls hl hw hs
  have h0 := mh_mulc hx.1 hx.2 hy.1 hy.2 hb.1.1 hb.1.2
  have h1 := mh_mul h0 hb.2
  exact lv_imul ok.1 ok.2.1 hd (kk _ h1 (by rw [mh_r, h1]; exact h0) p e s m args below meth c ok H locs ls hl hw hs)
theorem mw_idiv (q : Nat) (hq : pc + 1 = q) {x y : Int32} {a b c e : Int} (lo hi : Int) (hd : decode μ.2.1 pc = .ok (.idiv, 1)) (hx : mh_r x a b) (hy : mh_r y c e) (hb : 1 ≤ c ∧ lo ≤ a ∧ lo ≤ 0 ∧ b ≤ hi ∧ 0 ≤ hi) (kk : ∀ z : Int32, z.toInt = x.toInt.tdiv y.toInt → mh_r z lo hi → mh_W G X μ q lv (.int z :: st) σ) : mh_W G X μ pc lv (.int y :: .int x :: st) σ := by
  subst hq
  intro p e s m args below meth c ok H locs ls hl hw hs
  have hy1 : 1 ≤ y.toInt := Int.le_trans hb.1 hy.1
  have h1 := mh_div (x := x) hy1
  have h2 := mh_divb (x := x.toInt) hy1
  refine lv_idiv ok.1 ok.2.1 hd (fun h => by rw [h] at hy1; exact absurd hy1 (by decide)) (kk _ h1 ?_ p e s m args below meth c ok H locs ls hl hw hs)
  rw [mh_r, h1]
  have := hx.1; have := hx.2
  rcases Int.le_total 0 x.toInt with g | g
  · have := h2.1 g; constructor <;> omega
  · have := h2.2 g; constructor <;> omega
theorem mw_irem (q : Nat) (hq : pc + 1 = q) {x y : Int32} {a b c e : Int} (lo hi : Int) (hd : decode μ.2.1 pc = .ok (.irem, 1)) (hx : mh_r x a b) (hy : mh_r y c e) (hb : 1 ≤ c ∧ (lo ≤ 1 - e ∨ (0 ≤ a ∧ lo ≤ 0)) ∧ (e - 1 ≤ hi)) (kk : ∀ z : Int32, z.toInt = x.toInt.tmod y.toInt → mh_r z lo hi → mh_W G X μ q lv (.int z :: st) σ) : mh_W G X μ pc lv (.int y :: .int x :: st) σ := by
  subst hq
  intro p e s m args below meth c ok H locs ls hl hw hs
  have hy1 : 1 ≤ y.toInt := Int.le_trans hb.1 hy.1
  have h1 := mh_rem (x := x) hy1
  have h2 := mh_remb (x := x.toInt) hy1
  refine lv_irem ok.1 ok.2.1 hd (fun h => by rw [h] at hy1; exact absurd hy1 (by decide)) (kk _ h1 ?_ p e s m args below meth c ok H locs ls hl hw hs)
  rw [mh_r, h1]
  have := hx.1; have := hx.2; have := hy.2
  refine ⟨?_, by have := h2.2.1; omega⟩
  rcases hb.2.1 with g | g
  · have := h2.1; omega
  · have := (h2.2.2 (by omega)).1; omega
theorem mw_dup (q : Nat) (hq : pc + 1 = q) {va : Value} (hd : decode μ.2.1 pc = .ok (.dup, 1)) (hc : va.category = 1) (kk : mh_W G X μ q lv (va :: va :: st) σ) : mh_W G X μ pc lv (va :: st) σ := by
  subst hq
  intro p e s m args below meth c ok H locs ls hl hw hs
  exact lv_dup ok.1 ok.2.1 hd hc (kk p e s m args below meth c ok H locs ls hl hw hs)
theorem mw_pop (q : Nat) (hq : pc + 1 = q) {va : Value} (hd : decode μ.2.1 pc = .ok (.pop, 1)) (hc : va.category = 1) (kk : mh_W G X μ q lv st σ) : mh_W G X μ pc lv (va :: st) σ := by
  subst hq
  intro p e s m args below meth c ok H locs ls hl hw hs
  exact lv_pop ok.1 ok.2.1 hd hc (kk p e s m args below meth c ok H locs ls hl hw hs)
theorem mw_dup2 (q : Nat) (hq : pc + 1 = q) {va vb : Value} (hd : decode μ.2.1 pc = .ok (.dup2, 1)) (hc : va.category = 1) (hc2 : vb.category = 1) (kk : mh_W G X μ q lv (va :: vb :: va :: vb :: st) σ) : mh_W G X μ pc lv (va :: vb :: st) σ := by
  subst hq
  intro p e s m args below meth c ok H locs ls hl hw hs
  exact lv_dup2_11 ok.1 ok.2.1 hd hc hc2 (kk p e s m args below meth c ok H locs ls hl hw hs)
theorem mw_pop2 (q : Nat) (hq : pc + 1 = q) {va : Value} (hd : decode μ.2.1 pc = .ok (.pop2, 1)) (hc : va.category = 2) (kk : mh_W G X μ q lv st σ) : mh_W G X μ pc lv (va :: st) σ := by
  subst hq
  intro p e s m args below meth c ok H locs ls hl hw hs
  exact lv_pop2_2 ok.1 ok.2.1 hd hc (kk p e s m args below meth c ok H locs ls hl hw hs)
theorem mw_if_eq (q : Nat) (hq : pc + 3 = q) {x : Int32} {off : Int} (tg : Nat) (hd : decode μ.2.1 pc = .ok (.ifCond .eq off, 3)) (ht : (pc : Int) + off = (tg : Int)) (kt : x.toInt = 0 → mh_W G X μ tg lv st σ) (kf : x.toInt ≠ 0 → mh_W G X μ q lv st σ) : mh_W G X μ pc lv (.int x :: st) σ := by
  subst hq
  intro p e s m args below meth c ok H locs ls hl hw hs
  refine lv_if_eq ok.1 ok.2.1 hd ht (fun h => kt ?_ p e s m args below meth c ok H locs ls hl hw hs) (fun h => kf ?_ p e s m args below meth c ok H locs ls hl hw hs)
  all_goals (first | (have h7 := h; simp only [Int32.lt_iff_toInt_lt, Int32.le_iff_toInt_le, ← Int32.toInt_inj, gt_iff_lt, ge_iff_le] at h7; first | exact h7 | (simp at h7; omega) | omega) | (have h7 := h; simp only [← Int32.toInt_inj] at h7; simp at h7 ⊢; omega))
theorem mw_icmp_eq (q : Nat) (hq : pc + 3 = q) {x y : Int32} {off : Int} (tg : Nat) (hd : decode μ.2.1 pc = .ok (.if_icmp .eq off, 3)) (ht : (pc : Int) + off = (tg : Int)) (kt : x.toInt = y.toInt → mh_W G X μ tg lv st σ) (kf : x.toInt ≠ y.toInt → mh_W G X μ q lv st σ) : mh_W G X μ pc lv (.int y :: .int x :: st) σ := by
  subst hq
  intro p e s m args below meth c ok H locs ls hl hw hs
  refine lv_icmp_eq ok.1 ok.2.1 hd ht (fun h => kt ?_ p e s m args below meth c ok H locs ls hl hw hs) (fun h => kf ?_ p e s m args below meth c ok H locs ls hl hw hs)
  all_goals (first | (have h7 := h; simp only [Int32.lt_iff_toInt_lt, Int32.le_iff_toInt_le, ← Int32.toInt_inj, gt_iff_lt, ge_iff_le] at h7; first | exact h7 | (simp at h7; omega) | omega) | (have h7 := h; simp only [← Int32.toInt_inj] at h7; simp at h7 ⊢; omega))
theorem mw_if_ne (q : Nat) (hq : pc + 3 = q) {x : Int32} {off : Int} (tg : Nat) (hd : decode μ.2.1 pc = .ok (.ifCond .ne off, 3)) (ht : (pc : Int) + off = (tg : Int)) (kt : x.toInt ≠ 0 → mh_W G X μ tg lv st σ) (kf : x.toInt = 0 → mh_W G X μ q lv st σ) : mh_W G X μ pc lv (.int x :: st) σ := by
  subst hq
  intro p e s m args below meth c ok H locs ls hl hw hs
  refine lv_if_ne ok.1 ok.2.1 hd ht (fun h => kt ?_ p e s m args below meth c ok H locs ls hl hw hs) (fun h => kf ?_ p e s m args below meth c ok H locs ls hl hw hs)
  all_goals (first | (have h7 := h; simp only [Int32.lt_iff_toInt_lt, Int32.le_iff_toInt_le, ← Int32.toInt_inj, gt_iff_lt, ge_iff_le] at h7; first | exact h7 | (simp at h7; omega) | omega) | (have h7 := h; simp only [← Int32.toInt_inj] at h7; simp at h7 ⊢; omega))
theorem mw_icmp_ne (q : Nat) (hq : pc + 3 = q) {x y : Int32} {off : Int} (tg : Nat) (hd : decode μ.2.1 pc = .ok (.if_icmp .ne off, 3)) (ht : (pc : Int) + off = (tg : Int)) (kt : x.toInt ≠ y.toInt → mh_W G X μ tg lv st σ) (kf : x.toInt = y.toInt → mh_W G X μ q lv st σ) : mh_W G X μ pc lv (.int y :: .int x :: st) σ := by
  subst hq
  intro p e s m args below meth c ok H locs ls hl hw hs
  refine lv_icmp_ne ok.1 ok.2.1 hd ht (fun h => kt ?_ p e s m args below meth c ok H locs ls hl hw hs) (fun h => kf ?_ p e s m args below meth c ok H locs ls hl hw hs)
  all_goals (first | (have h7 := h; simp only [Int32.lt_iff_toInt_lt, Int32.le_iff_toInt_le, ← Int32.toInt_inj, gt_iff_lt, ge_iff_le] at h7; first | exact h7 | (simp at h7; omega) | omega) | (have h7 := h; simp only [← Int32.toInt_inj] at h7; simp at h7 ⊢; omega))
theorem mw_if_lt (q : Nat) (hq : pc + 3 = q) {x : Int32} {off : Int} (tg : Nat) (hd : decode μ.2.1 pc = .ok (.ifCond .lt off, 3)) (ht : (pc : Int) + off = (tg : Int)) (kt : x.toInt < 0 → mh_W G X μ tg lv st σ) (kf : 0 ≤ x.toInt → mh_W G X μ q lv st σ) : mh_W G X μ pc lv (.int x :: st) σ := by
  subst hq
  intro p e s m args below meth c ok H locs ls hl hw hs
  refine lv_if_lt ok.1 ok.2.1 hd ht (fun h => kt ?_ p e s m args below meth c ok H locs ls hl hw hs) (fun h => kf ?_ p e s m args below meth c ok H locs ls hl hw hs)
  all_goals (first | (have h7 := h; simp only [Int32.lt_iff_toInt_lt, Int32.le_iff_toInt_le, ← Int32.toInt_inj, gt_iff_lt, ge_iff_le] at h7; first | exact h7 | (simp at h7; omega) | omega) | (have h7 := h; simp only [← Int32.toInt_inj] at h7; simp at h7 ⊢; omega))
theorem mw_icmp_lt (q : Nat) (hq : pc + 3 = q) {x y : Int32} {off : Int} (tg : Nat) (hd : decode μ.2.1 pc = .ok (.if_icmp .lt off, 3)) (ht : (pc : Int) + off = (tg : Int)) (kt : x.toInt < y.toInt → mh_W G X μ tg lv st σ) (kf : y.toInt ≤ x.toInt → mh_W G X μ q lv st σ) : mh_W G X μ pc lv (.int y :: .int x :: st) σ := by
  subst hq
  intro p e s m args below meth c ok H locs ls hl hw hs
  refine lv_icmp_lt ok.1 ok.2.1 hd ht (fun h => kt ?_ p e s m args below meth c ok H locs ls hl hw hs) (fun h => kf ?_ p e s m args below meth c ok H locs ls hl hw hs)
  all_goals (first | (have h7 := h; simp only [Int32.lt_iff_toInt_lt, Int32.le_iff_toInt_le, ← Int32.toInt_inj, gt_iff_lt, ge_iff_le] at h7; first | exact h7 | (simp at h7; omega) | omega) | (have h7 := h; simp only [← Int32.toInt_inj] at h7; simp at h7 ⊢; omega))
theorem mw_if_ge (q : Nat) (hq : pc + 3 = q) {x : Int32} {off : Int} (tg : Nat) (hd : decode μ.2.1 pc = .ok (.ifCond .ge off, 3)) (ht : (pc : Int) + off = (tg : Int)) (kt : 0 ≤ x.toInt → mh_W G X μ tg lv st σ) (kf : x.toInt < 0 → mh_W G X μ q lv st σ) : mh_W G X μ pc lv (.int x :: st) σ := by
  subst hq
  intro p e s m args below meth c ok H locs ls hl hw hs
  refine lv_if_ge ok.1 ok.2.1 hd ht (fun h => kt ?_ p e s m args below meth c ok H locs ls hl hw hs) (fun h => kf ?_ p e s m args below meth c ok H locs ls hl hw hs)
  all_goals (first | (have h7 := h; simp only [Int32.lt_iff_toInt_lt, Int32.le_iff_toInt_le, ← Int32.toInt_inj, gt_iff_lt, ge_iff_le] at h7; first | exact h7 | (simp at h7; omega) | omega) | (have h7 := h; simp only [← Int32.toInt_inj] at h7; simp at h7 ⊢; omega))
theorem mw_icmp_ge (q : Nat) (hq : pc + 3 = q) {x y : Int32} {off : Int} (tg : Nat) (hd : decode μ.2.1 pc = .ok (.if_icmp .ge off, 3)) (ht : (pc : Int) + off = (tg : Int)) (kt : y.toInt ≤ x.toInt → mh_W G X μ tg lv st σ) (kf : x.toInt < y.toInt → mh_W G X μ q lv st σ) : mh_W G X μ pc lv (.int y :: .int x :: st) σ := by
  subst hq
  intro p e s m args below meth c ok H locs ls hl hw hs
  refine lv_icmp_ge ok.1 ok.2.1 hd ht (fun h => kt ?_ p e s m args below meth c ok H locs ls hl hw hs) (fun h => kf ?_ p e s m args below meth c ok H locs ls hl hw hs)
  all_goals (first | (have h7 := h; simp only [Int32.lt_iff_toInt_lt, Int32.le_iff_toInt_le, ← Int32.toInt_inj, gt_iff_lt, ge_iff_le] at h7; first | exact h7 | (simp at h7; omega) | omega) | (have h7 := h; simp only [← Int32.toInt_inj] at h7; simp at h7 ⊢; omega))
theorem mw_if_gt (q : Nat) (hq : pc + 3 = q) {x : Int32} {off : Int} (tg : Nat) (hd : decode μ.2.1 pc = .ok (.ifCond .gt off, 3)) (ht : (pc : Int) + off = (tg : Int)) (kt : 0 < x.toInt → mh_W G X μ tg lv st σ) (kf : x.toInt ≤ 0 → mh_W G X μ q lv st σ) : mh_W G X μ pc lv (.int x :: st) σ := by
  subst hq
  intro p e s m args below meth c ok H locs ls hl hw hs
  refine lv_if_gt ok.1 ok.2.1 hd ht (fun h => kt ?_ p e s m args below meth c ok H locs ls hl hw hs) (fun h => kf ?_ p e s m args below meth c ok H locs ls hl hw hs)
  all_goals (first | (have h7 := h; simp only [Int32.lt_iff_toInt_lt, Int32.le_iff_toInt_le, ← Int32.toInt_inj, gt_iff_lt, ge_iff_le] at h7; first | exact h7 | (simp at h7; omega) | omega) | (have h7 := h; simp only [← Int32.toInt_inj] at h7; simp at h7 ⊢; omega))
theorem mw_icmp_gt (q : Nat) (hq : pc + 3 = q) {x y : Int32} {off : Int} (tg : Nat) (hd : decode μ.2.1 pc = .ok (.if_icmp .gt off, 3)) (ht : (pc : Int) + off = (tg : Int)) (kt : y.toInt < x.toInt → mh_W G X μ tg lv st σ) (kf : x.toInt ≤ y.toInt → mh_W G X μ q lv st σ) : mh_W G X μ pc lv (.int y :: .int x :: st) σ := by
  subst hq
  intro p e s m args below meth c ok H locs ls hl hw hs
  refine lv_icmp_gt ok.1 ok.2.1 hd ht (fun h => kt ?_ p e s m args below meth c ok H locs ls hl hw hs) (fun h => kf ?_ p e s m args below meth c ok H locs ls hl hw hs)
  all_goals (first | (have h7 := h; simp only [Int32.lt_iff_toInt_lt, Int32.le_iff_toInt_le, ← Int32.toInt_inj, gt_iff_lt, ge_iff_le] at h7; first | exact h7 | (simp at h7; omega) | omega) | (have h7 := h; simp only [← Int32.toInt_inj] at h7; simp at h7 ⊢; omega))
theorem mw_if_le (q : Nat) (hq : pc + 3 = q) {x : Int32} {off : Int} (tg : Nat) (hd : decode μ.2.1 pc = .ok (.ifCond .le off, 3)) (ht : (pc : Int) + off = (tg : Int)) (kt : x.toInt ≤ 0 → mh_W G X μ tg lv st σ) (kf : 0 < x.toInt → mh_W G X μ q lv st σ) : mh_W G X μ pc lv (.int x :: st) σ := by
  subst hq
  intro p e s m args below meth c ok H locs ls hl hw hs
  refine lv_if_le ok.1 ok.2.1 hd ht (fun h => kt ?_ p e s m args below meth c ok H locs ls hl hw hs) (fun h => kf ?_ p e s m args below meth c ok H locs ls hl hw hs)
  all_goals (first | (have h7 := h; simp only [Int32.lt_iff_toInt_lt, Int32.le_iff_toInt_le, ← Int32.toInt_inj, gt_iff_lt, ge_iff_le] at h7; first | exact h7 | (simp at h7; omega) | omega) | (have h7 := h; simp only [← Int32.toInt_inj] at h7; simp at h7 ⊢; omega))
theorem mw_icmp_le (q : Nat) (hq : pc + 3 = q) {x y : Int32} {off : Int} (tg : Nat) (hd : decode μ.2.1 pc = .ok (.if_icmp .le off, 3)) (ht : (pc : Int) + off = (tg : Int)) (kt : x.toInt ≤ y.toInt → mh_W G X μ tg lv st σ) (kf : y.toInt < x.toInt → mh_W G X μ q lv st σ) : mh_W G X μ pc lv (.int y :: .int x :: st) σ := by
  subst hq
  intro p e s m args below meth c ok H locs ls hl hw hs
  refine lv_icmp_le ok.1 ok.2.1 hd ht (fun h => kt ?_ p e s m args below meth c ok H locs ls hl hw hs) (fun h => kf ?_ p e s m args below meth c ok H locs ls hl hw hs)
  all_goals (first | (have h7 := h; simp only [Int32.lt_iff_toInt_lt, Int32.le_iff_toInt_le, ← Int32.toInt_inj, gt_iff_lt, ge_iff_le] at h7; first | exact h7 | (simp at h7; omega) | omega) | (have h7 := h; simp only [← Int32.toInt_inj] at h7; simp at h7 ⊢; omega))
theorem mw_goto (q : Nat) (hq : pc + 3 = q) {off : Int} (tg : Nat) (hd : decode μ.2.1 pc = .ok (.goto off, 3)) (ht : (pc : Int) + off = (tg : Int)) (kk : mh_W G X μ tg lv st σ) : mh_W G X μ pc lv st σ := by
  subst hq
  intro p e s m args below meth c ok H locs ls hl hw hs
  exact lv_goto ok.1 ok.2.1 hd ht (kk p e s m args below meth c ok H locs ls hl hw hs)
theorem mw_tabIn {dflt lo hi : Int} {offs : Array Int} {len : Nat} {x : Int32} {off : Int} (tg : Nat) (hd : decode μ.2.1 pc = .ok (.tableswitch dflt lo hi offs, len)) (h1 : ¬ x.toInt < lo) (h2 : ¬ hi < x.toInt) (ho : offs[(x.toInt - lo).toNat]? = some off) (ht : (pc : Int) + off = (tg : Int)) (kk : mh_W G X μ tg lv st σ) : mh_W G X μ pc lv (.int x :: st) σ := by
  intro p e s m args below meth c ok H locs ls hl hw hs
  exact lv_tableIn ok.1 ok.2.1 hd h1 h2 ho ht (kk p e s m args below meth c ok H locs ls hl hw hs)
theorem mw_tabOut {dflt lo hi : Int} {offs : Array Int} {len : Nat} {x : Int32} (tg : Nat) (hd : decode μ.2.1 pc = .ok (.tableswitch dflt lo hi offs, len)) (h : x.toInt < lo ∨ hi < x.toInt) (ht : (pc : Int) + dflt = (tg : Int)) (kk : mh_W G X μ tg lv st σ) : mh_W G X μ pc lv (.int x :: st) σ := by
  intro p e s m args below meth c ok H locs ls hl hw hs
  exact lv_tableOut ok.1 ok.2.1 hd h ht (kk p e s m args below meth c ok H locs ls hl hw hs)
theorem mw_lookup {dflt : Int} {ps : Array (Int × Int)} {len : Nat} {x : Int32} {off : Int} (tg : Nat) (hd : decode μ.2.1 pc = .ok (.lookupswitch dflt ps, len)) (hp : (ps.toList.zip (ps.toList.drop 1)).all (fun (a, next) => a.1 < next.1) = true) (ho : Op.lookupswitch.offset ps.toList dflt x.toInt = off) (ht : (pc : Int) + off = (tg : Int)) (kk : mh_W G X μ tg lv st σ) : mh_W G X μ pc lv (.int x :: st) σ := by
  intro p e s m args below meth c ok H locs ls hl hw hs
  exact lv_lookup ok.1 ok.2.1 hd hp ho ht (kk p e s m args below meth c ok H locs ls hl hw hs)
end MW

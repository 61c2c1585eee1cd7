/-- a bound value of a pure function: 'mh_lb e k' is k at e -/
def mh_lb {α β : Type} (e : α) (k : α → β) : β := k e
def mh_lb2 {α γ β : Type} (e : α × γ) (k : α → γ → β) : β := k e.1 e.2
theorem mh_lbT {α β : Type} {z e : α} {k : α → β} {r : β} (h : z = e) (hk : k z = r) : mh_lb e k = r := by subst h; exact hk
theorem mh_lbS {α β : Type} {z e : α} {k : α → β} {r : β} (h : e = z) (hk : k z = r) : mh_lb e k = r := by subst h; exact hk
theorem mh_lb2T {α γ β : Type} {z : α} {s : γ} {e : α × γ} {k : α → γ → β} {r : β} (h : e = (z, s)) (hk : k z s = r) : mh_lb2 e k = r := by subst h; exact hk
theorem mh_ifT {β : Type} {c : Prop} {h : Decidable c} {a b r : β} (hc : c) (ha : a = r) : @ite β c h a b = r := (if_pos hc).trans ha
theorem mh_ifF {β : Type} {c : Prop} {h : Decidable c} {a b r : β} (hc : ¬ c) (hb : b = r) : @ite β c h a b = r := (if_neg hc).trans hb
theorem mh_fitz {z : Int32} {v : Int} (h : z.toInt = v) : v.bmod (2 ^ 32) = v := by
  have := mh_r_full z
  exact mh_fit (by rw [← h]; exact this.1) (by rw [← h]; exact this.2)
theorem mh_eadd {x y z : Int32} (h : z.toInt = x.toInt + y.toInt) : z = x + y := Int32.toInt_inj.mp (by rw [h, Int32.toInt_add, mh_fitz h])
theorem mh_esub {x y z : Int32} (h : z.toInt = x.toInt - y.toInt) : z = x - y := Int32.toInt_inj.mp (by rw [h, Int32.toInt_sub, mh_fitz h])
theorem mh_emul {x y z : Int32} (h : z.toInt = x.toInt * y.toInt) : z = x * y := Int32.toInt_inj.mp (by rw [h, Int32.toInt_mul, mh_fitz h])
theorem mh_ediv {x y z : Int32} (h : z.toInt = x.toInt.tdiv y.toInt) : z = x / y := Int32.toInt_inj.mp (by rw [h, Int32.toInt_div, mh_fitz h])
theorem mh_erem {x y z : Int32} (h : z.toInt = x.toInt.tmod y.toInt) : z = x % y := Int32.toInt_inj.mp (by rw [h, Int32.toInt_mod])
theorem mh_remx (x y : Int32) : x - x / y * y = x % y := by
  apply Int32.toInt_inj.mp
  rw [Int32.toInt_sub, Int32.toInt_mul, Int32.toInt_div, Int32.toInt_mod, Int.bmod_mul_bmod, Int.sub_bmod_bmod]
  have e : x.toInt - x.toInt.tdiv y.toInt * y.toInt = x.toInt.tmod y.toInt := by
    have := Int.mul_tdiv_add_tmod x.toInt y.toInt
    rw [Int.mul_comm] at this
    omega
  rw [e]
  have h0 := Int32.toInt_mod x y
  exact mh_fitz h0
theorem mh_eremu {x y z : Int32} (h : z = x - x / y * y) : z = x % y := h.trans (mh_remx x y)
theorem mh_einc {x z c : Int32} {n : Int} (h : z.toInt = x.toInt + n) (hc : c.toInt = n) : z = x + c := mh_eadd (by rw [h, hc])
theorem mh_eincU {x z c : Int32} {n : Int} (h : z = x + Int32.ofInt n) (hc : Int32.ofInt n = c) : z = x + c := by rw [h, hc]
def mh_ma32 (x y : Int32) : Int32 := if x.toInt < y.toInt then y else x
def mh_mi32 (x y : Int32) : Int32 := if y.toInt < x.toInt then y else x
def mh_ab32 (x : Int32) : Int32 := if 0 ≤ x then x else 0 - x
theorem mh_ma32_i (x y : Int32) : (mh_ma32 x y).toInt = max x.toInt y.toInt := by unfold mh_ma32; split <;> omega
theorem mh_mi32_i (x y : Int32) : (mh_mi32 x y).toInt = min x.toInt y.toInt := by unfold mh_mi32; split <;> omega
theorem mh_emax {x y z : Int32} (h : z.toInt = max x.toInt y.toInt) : z = mh_ma32 x y := Int32.toInt_inj.mp (by rw [h, mh_ma32_i])
theorem mh_emin {x y z : Int32} (h : z.toInt = min x.toInt y.toInt) : z = mh_mi32 x y := Int32.toInt_inj.mp (by rw [h, mh_mi32_i])
theorem mh_ltI {x y : Int32} : x.toInt < y.toInt ↔ x < y := Int32.lt_iff_toInt_lt.symm
def mh_ixl (L : List Int32) (b w : Int32) : Nat → Int32 → Int32
  | 0, _ => 0
  | n + 1, y => if b.toInt ≤ y.toInt then -1 else if (L.getD y.toNatClampNeg 0).toInt = w.toInt then y else mh_ixl L b w n (y + 1)
/-- where a sign is in a String constant -/
def mh_ixf (i : Nat) (x : Int32) : Int32 := if 0 ≤ x.toInt ∧ x.toInt ≤ 255 then mh_ixl (mh_sb.getD i []) (Int32.ofNat (mh_sl.getD i 0)) (Int8.toInt32 (Int32.toInt8 x)) 14 0 else -1

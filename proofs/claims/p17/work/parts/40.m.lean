section
/-- a bound value of a pure function: 'mh_lb e k' is k at e -/
def mh_lb {α β : Type} (e : α) (k : α → β) : β := k e
def mh_lb2 {α γ β : Type} (e : α × γ) (k : α → γ → β) : β := k e.1 e.2
theorem mh_lbT {α β : Type} {z e : α} {k : α → β} {r : β} (h : z = e) (hk : k z = r) : mh_lb e k = r := by subst h; exact hk
theorem mh_lbS {α β : Type} {z e : α} {k : α → β} {r : β} (h : e = z) (hk : k z = r) : mh_lb e k = r := by subst h; exact hk
theorem mh_lb2T {α γ β : Type} {z : α} {s : γ} {e : α × γ} {k : α → γ → β} {r : β} (h : e = (z, s)) (hk : k z s = r) : mh_lb2 e k = r := by subst h; exact hk
theorem mh_ifT {β : Type} {c : Prop} {h : Decidable c} {a b r : β} (hc : c) (ha : a = r) : @ite β c h a b = r := (if_pos hc).trans ha
theorem mh_ifF {β : Type} {c : Prop} {h : Decidable c} {a b r : β} (hc : ¬ c) (hb : b = r) : @ite β c h a b = r := (if_neg hc).trans hb
theorem mh_fitz {z : Int32} {v : Int} (h : z.toInt = v) : v.bmod (2 ^ 32) = v := by
  have := mh_r_full z
  exact mh_fit (by rw [← h]; exact this.1) (by rw [← h]; exact this.2)
theorem mh_eadd {x y z : Int32} (h : z.toInt = x.toInt + y.toInt) : z = x + y := Int32.toInt_inj.mp (by rw [h, Int32.toInt_add, mh_fitz h])
theorem mh_esub {x y z : Int32} (h : z.toInt = x.toInt - y.toInt) : z = x - y := Int32.toInt_inj.mp (by rw [h, Int32.toInt_sub, mh_fitz h])
theorem mh_emul {x y z : Int32} (h : z.toInt = x.toInt * y.toInt) : z = x * y := Int32.toInt_inj.mp (by rw [h, Int32.toInt_mul, mh_fitz h])
theorem mh_ediv {x y z : Int32} (h : z.toInt = x.toInt.tdiv y.toInt) : z = x / y := Int32.toInt_inj.mp (by rw [h, Int32.toInt_div, mh_fitz h])
theorem mh_erem {x y z : Int32} (h : z.toInt = x.toInt.tmod y.toInt) : z = x % y := Int32.toInt_inj.mp (by rw [h, Int32.toInt_mod])
theorem mh_remx (x y : Int32) : x - x / y * y = x % y := by
  apply Int32.toInt_inj.mp
  rw [Int32.toInt_sub, Int32.toInt_mul, Int32.toInt_div, Int32.toInt_mod, Int.bmod_mul_bmod, Int.sub_bmod_bmod]
  have e : x.toInt - x.toInt.tdiv y.toInt * y.toInt = x.toInt.tmod y.toInt := by
    have := Int.mul_tdiv_add_tmod x.toInt y.toInt
    rw [Int.mul_comm] at this
    omega
  rw [e]
  have h0 := Int32.toInt_mod x y
  exact mh_fitz h0
theorem mh_eremu {x y z : Int32} (h : z = x - x / y * y) : z = x % y := h.trans (mh_remx x y)
theorem mh_einc {x z c : Int32} {n : Int} (h : z.toInt = x.toInt + n) (hc : c.toInt = n) : z = x + c := mh_eadd (by rw [h, hc])
theorem mh_eincU {x z c : Int32} {n : Int} (h : z = x + Int32.ofInt n) (hc : Int32.ofInt n = c) : z = x + c := by rw [h, hc]
def mh_ma32 (x y : Int32) : Int32 := if x.toInt < y.toInt then y else x
def mh_mi32 (x y : Int32) : Int32 := if y.toInt < x.toInt then y else x
def mh_ab32 (x : Int32) : Int32 := if 0 ≤ x then x else 0 - x
theorem mh_ma32_i (x y : Int32) : (mh_ma32 x y).toInt = max x.toInt y.toInt := by unfold mh_ma32; split <;> omega
theorem mh_mi32_i (x y : Int32) : (mh_mi32 x y).toInt = min x.toInt y.toInt := by unfold mh_mi32; split <;> omega
theorem mh_emax {x y z : Int32} (h : z.toInt = max x.toInt y.toInt) : z = mh_ma32 x y := Int32.toInt_inj.mp (by rw [h, mh_ma32_i])
theorem mh_emin {x y z : Int32} (h : z.toInt = min x.toInt y.toInt) : z = mh_mi32 x y := Int32.toInt_inj.mp (by rw [h, mh_mi32_i])
theorem mh_ltI {x y : Int32} : x.toInt < y.toInt ↔ x < y := Int32.lt_iff_toInt_lt.symm
def mh_ixl (L : List Int32) (b w : Int32) : Nat → Int32 → Int32
  | 0, _ => 0
  | n + 1, y => if b.toInt ≤ y.toInt then -1 else if (L.getD y.toNatClampNeg 0).toInt = w.toInt then y else mh_ixl L b w n (y + 1)
/-- where a sign is in a String constant -/
def mh_ixf (i : Nat) (x : Int32) : Int32 := if 0 ≤ x.toInt ∧ x.toInt ≤ 255 then mh_ixl (mh_sb.getD i []) (Int32.ofNat (mh_sl.getD i 0)) (Int8.toInt32 (Int32.toInt8 x)) 14 0 else -1
end
section
theorem c_canEncodeE (l : Launch) (G : mh_G) (d : Nat) (σ : mh_H) (x : Int32) : mh_Mi l G d mM_J1_canEncode_9a6ad [.int x] σ (fun z s => mh_r z 0 1 ∧ (z.toInt = 1 ↔ (0 ≤ x.toInt ∧ x.toInt ≤ 255)) ∧ σ = s) := by
  refine mh_enter (lv := [(0, .int x)]) (by decide) rfl (Nat.le_of_ble_eq_true rfl) ?_
  refine mw_iload_n 1 rfl 0 dJ1_canEncode_9a6ad_0 rfl rfl ?_
  refine mw_if_lt 4 rfl 15 dJ1_canEncode_9a6ad_1 (by decide) (fun c => ?_) (fun c => ?_)
  · refine mw_iconst (v := 0) 16 rfl dJ1_canEncode_9a6ad_15 (by decide) ?_
    exact mw_zret dJ1_canEncode_9a6ad_16 rfl (mh_r_wk rc_0 (by decide)) ⟨_, rfl, mh_r_wk rc_0 (by decide), (by have h0 := kc_0; have h1 := kc_1; have h2 : (255 : Int32).toInt = 255 := rfl; omega), rfl⟩
  · refine mw_iload_n 5 rfl 0 dJ1_canEncode_9a6ad_4 rfl rfl ?_
    refine mw_sipush (v := 255) 8 rfl dJ1_canEncode_9a6ad_5 (by decide) ?_
    refine mw_icmp_gt 11 rfl 15 dJ1_canEncode_9a6ad_8 (by decide) (fun c2 => ?_) (fun c2 => ?_)
    · refine mw_iconst (v := 0) 16 rfl dJ1_canEncode_9a6ad_15 (by decide) ?_
      exact mw_zret dJ1_canEncode_9a6ad_16 rfl (mh_r_wk rc_0 (by decide)) ⟨_, rfl, mh_r_wk rc_0 (by decide), (by have h0 := kc_0; have h1 := kc_1; have h2 : (255 : Int32).toInt = 255 := rfl; omega), rfl⟩
    · refine mw_iconst (v := 1) 12 rfl dJ1_canEncode_9a6ad_11 (by decide) ?_
      refine mw_goto 15 rfl 16 dJ1_canEncode_9a6ad_12 (by decide) ?_
      exact mw_zret dJ1_canEncode_9a6ad_16 rfl (mh_r_wk rc_1 (by decide)) ⟨_, rfl, mh_r_wk rc_1 (by decide), (by have h0 := kc_0; have h1 := kc_1; have h2 : (255 : Int32).toInt = 255 := rfl; omega), rfl⟩
theorem c_indexOfCharE (l : Launch) (G : mh_G) (d i : Nat) (hi : i < 2) (σ : mh_H) (x a b : Int32) (ha : mh_r a 0 2147483647) (hb : b.toInt ≤ mh_sl.getD i 0) (hab : a.toInt < b.toInt) : mh_Mi l G d mM_J1_indexOfChar_4cfef [.ref (G.2.2.2 (1010 + i)), .int x, .int a, .int b] σ (fun z s => z = mh_ixl (mh_sb.getD i []) b (Int8.toInt32 (Int32.toInt8 x)) 14 a ∧ σ = s) := by
  have h13 := mh_sl13 hi
  refine mh_enter (lv := [(0, .ref (G.2.2.2 (1010 + i))), (1, .int x), (2, .int a), (3, .int b)]) (by decide) rfl (Nat.le_of_ble_eq_true rfl) ?_
  refine mw_iload_n 1 rfl 1 dJ1_indexOfChar_4cfef_0 rfl rfl ?_
  refine mw_i2b 2 rfl dJ1_indexOfChar_4cfef_1 (fun w hw => ?_)
  refine mw_istore 4 rfl [(4, .int w), (0, .ref (G.2.2.2 (1010 + i))), (1, .int x), (2, .int a), (3, .int b)] dJ1_indexOfChar_4cfef_2 (by decide) rfl ?_
  refine mw_iload_n 5 rfl 3 dJ1_indexOfChar_4cfef_4 rfl rfl ?_
  refine mw_istore 7 rfl [(5, .int a), (4, .int w), (0, .ref (G.2.2.2 (1010 + i))), (1, .int x), (2, .int a), (3, .int b)] dJ1_indexOfChar_4cfef_5 (by decide) rfl ?_
  have L : ∀ n : Nat, ∀ y : Int32, mh_r y 0 13 → 13 - y.toInt < (n : Int) → mh_ixl (mh_sb.getD i []) b (Int8.toInt32 (Int32.toInt8 x)) 14 a = mh_ixl (mh_sb.getD i []) b (Int8.toInt32 (Int32.toInt8 x)) n y → mh_W G (mh_XM l G d (mh_Qi (fun z s => z = mh_ixl (mh_sb.getD i []) b (Int8.toInt32 (Int32.toInt8 x)) 14 a ∧ σ = s))) mM_J1_indexOfChar_4cfef 7 [(5, .int y), (4, .int w), (0, .ref (G.2.2.2 (1010 + i))), (1, .int x), (2, .int a), (3, .int b)] [] σ := by
    intro n
    induction n with
    | zero => intro y hy hm hE; exact absurd hm (by have := hy.2; omega)
    | succ n ih =>
      intro y hy hm hE
      have hy1 := hy.1
      refine mw_iload 9 rfl 0 dJ1_indexOfChar_4cfef_7 rfl ?_
      refine mw_iload_n 10 rfl 5 dJ1_indexOfChar_4cfef_9 rfl rfl ?_
      refine mw_icmp_ge 13 rfl 31 dJ1_indexOfChar_4cfef_10 (by decide) (fun c => ?_) (fun c => ?_)
      · refine mw_iconst (v := -1) 32 rfl dJ1_indexOfChar_4cfef_31 (by decide) ?_
        exact mw_iret dJ1_indexOfChar_4cfef_32 rfl ⟨_, rfl, (hE.trans (if_pos c)).symm, rfl⟩
      · refine mw_aload_n 14 rfl 2 dJ1_indexOfChar_4cfef_13 rfl rfl ?_
        refine mw_iload 16 rfl 0 dJ1_indexOfChar_4cfef_14 rfl ?_
        have r12 : mh_r y 0 12 := ⟨hy1, by omega⟩
        refine mw_strb (a := 0) (b := y.toInt) hi 17 rfl dJ1_indexOfChar_4cfef_16 ⟨hy1, Int.le_refl _⟩ ⟨by decide, by omega⟩ (fun z hz => ?_)
        refine mw_iload 19 rfl 1 dJ1_indexOfChar_4cfef_17 rfl ?_
        refine mw_icmp_ne 22 rfl 25 dJ1_indexOfChar_4cfef_19 (by decide) (fun c2 => ?_) (fun c2 => ?_)
        · refine mw_iincR (k := 0) (1) (13) 28 rfl (fun z => [(5, .int z), (4, .int w), (0, .ref (G.2.2.2 (1010 + i))), (1, .int x), (2, .int a), (3, .int b)]) dJ1_indexOfChar_4cfef_25 rfl (by decide) (fun _ => rfl) r12 (by decide) (by decide) (fun y2 t2 r2 => ?_)
          refine mw_goto 31 rfl 7 dJ1_indexOfChar_4cfef_28 (by decide) ?_
          exact ih y2 (mh_r_wk r2 (by decide)) (by omega) (by rw [mh_einc t2 (c := 1) rfl]; exact hE.trans ((if_neg (Int.not_le.mpr c)).trans (if_neg (by rw [← hz, ← hw]; exact c2))))
        · refine mw_iload 24 rfl 0 dJ1_indexOfChar_4cfef_22 rfl ?_
          exact mw_iret dJ1_indexOfChar_4cfef_24 rfl ⟨_, rfl, (hE.trans ((if_neg (Int.not_le.mpr c)).trans (if_pos (by rw [← hz, ← hw]; exact c2)))).symm, rfl⟩
  have ha1 := ha.1
  exact L 14 a ⟨ha1, by omega⟩ (by omega) rfl
theorem c_indexOf4E (l : Launch) (G : mh_G) (d i : Nat) (hi : i < 2) (σ : mh_H) (x : Int32) : mh_Mi l G (d + 1) mM_J1_indexOf_4cfef [.ref (G.2.2.2 (1010 + i)), .int x, .int 0, .int (Int32.ofNat (mh_sl.getD i 0))] σ (fun z s => z = mh_ixf i x ∧ σ = s) := by
  have h13 := mh_sl13 hi
  refine mh_enter (lv := [(0, .ref (G.2.2.2 (1010 + i))), (1, .int x), (2, .int 0), (3, .int (Int32.ofNat (mh_sl.getD i 0)))]) (by decide) rfl (Nat.le_of_ble_eq_true rfl) ?_
  refine mw_iload_n 1 rfl 1 dJ1_indexOf_4cfef_0 rfl rfl ?_
  refine mw_callSi [.int x] [] 4 rfl dJ1_indexOf_4cfef_1 ml_J1_88 mc_J1_canEncode_9a6ad mk_J1_canEncode_9a6ad (c_canEncodeE l G d σ x) rfl rfl (Nat.le_of_ble_eq_true rfl) (mh_rok (by omega) (by decide)) (fun z s2 hq => ?_)
  obtain ⟨rz, ez, rfl⟩ := hq
  have h7 : (Int32.ofNat (mh_sl.getD i 0)).toInt = mh_sl.getD i 0 := by
    rcases (show i = 0 ∨ i = 1 by omega) with rfl | rfl <;> decide
  have h6 : 0 < mh_sl.getD i 0 := by rcases (show i = 0 ∨ i = 1 by omega) with rfl | rfl <;> decide
  have h0 := kc_0
  refine mw_if_ne 7 rfl 9 dJ1_indexOf_4cfef_4 (by decide) (fun c0 => ?_) (fun c0 => ?_)
  · refine mw_iload_n 10 rfl 2 dJ1_indexOf_4cfef_9 rfl rfl ?_
    refine mw_iconst (v := 0) 11 rfl dJ1_indexOf_4cfef_10 (by decide) ?_
    refine mw_mmax (0) (2147483647) 14 rfl dJ1_indexOf_4cfef_11 ml_J1_92 rc_0 rc_0 (by decide) (mh_mr (D := d + 1) (by omega) (Nat.le_of_ble_eq_true rfl)) (fun a2 ta ra => ?_)
    obtain rfl : a2 = 0 := Int32.toInt_inj.mp (by rw [ta]; rfl)
    refine mw_istore_n 15 rfl [(2, .int 0), (0, .ref (G.2.2.2 (1010 + i))), (1, .int x), (3, .int (Int32.ofNat (mh_sl.getD i 0)))] dJ1_indexOf_4cfef_14 rfl (by decide) rfl ?_
    refine mw_iload_n 16 rfl 3 dJ1_indexOf_4cfef_15 rfl rfl ?_
    refine mw_aload_n 17 rfl 1 dJ1_indexOf_4cfef_16 rfl rfl ?_
    refine mw_strl hi 18 rfl dJ1_indexOf_4cfef_17 rfl ?_
    refine mw_mmin (-2147483648) (2147483647) 21 rfl dJ1_indexOf_4cfef_18 ml_J1_38 (mh_r_full _) (mh_r_full _) (by decide) (mh_mr (D := d + 1) (by omega) (Nat.le_of_ble_eq_true rfl)) (fun b2 tb rb => ?_)
    obtain rfl : b2 = Int32.ofNat (mh_sl.getD i 0) := Int32.toInt_inj.mp (by rw [tb]; omega)
    have hb2 : (Int32.ofNat (mh_sl.getD i 0)).toInt ≤ mh_sl.getD i 0 := by rw [h7]; omega
    refine mw_istore_n 22 rfl [(3, .int (Int32.ofNat (mh_sl.getD i 0))), (2, .int 0), (0, .ref (G.2.2.2 (1010 + i))), (1, .int x)] dJ1_indexOf_4cfef_21 rfl (by decide) rfl ?_
    refine mw_iload_n 23 rfl 1 dJ1_indexOf_4cfef_22 rfl rfl ?_
    refine mw_iload_n 24 rfl 0 dJ1_indexOf_4cfef_23 rfl rfl ?_
    refine mw_icmp_lt 27 rfl 29 dJ1_indexOf_4cfef_24 (by decide) (fun c => ?_) (fun c => ?_)
    · refine mw_aload_n 30 rfl 2 dJ1_indexOf_4cfef_29 rfl rfl ?_
      refine mw_iload_n 31 rfl 3 dJ1_indexOf_4cfef_30 rfl rfl ?_
      refine mw_iload_n 32 rfl 1 dJ1_indexOf_4cfef_31 rfl rfl ?_
      refine mw_iload_n 33 rfl 0 dJ1_indexOf_4cfef_32 rfl rfl ?_
      refine mw_callSi [.ref (G.2.2.2 (1010 + i)), .int x, .int 0, .int (Int32.ofNat (mh_sl.getD i 0))] [] 36 rfl dJ1_indexOf_4cfef_33 ml_J1_95 mc_J1_indexOfChar_4cfef mk_J1_indexOfChar_4cfef (c_indexOfCharE l G d i hi σ x 0 (Int32.ofNat (mh_sl.getD i 0)) ra hb2 c) rfl rfl (Nat.le_of_ble_eq_true rfl) (mh_rok (by omega) (by decide)) (fun z3 s3 hq => ?_)
      obtain ⟨e3, rfl⟩ := hq
      exact mw_iret dJ1_indexOf_4cfef_36 rfl ⟨_, rfl, by rw [e3]; exact (if_pos (ez.1 (mh_z1 rz c0))).symm, rfl⟩
    · skip
      exact absurd c (by rw [h7, h0]; omega)
  · refine mw_iconst (v := -1) 8 rfl dJ1_indexOf_4cfef_7 (by decide) ?_
    exact mw_iret dJ1_indexOf_4cfef_8 rfl ⟨_, rfl, (if_neg (fun h => by have := ez.2 h; omega)).symm, rfl⟩
theorem c_indexOf2E (l : Launch) (G : mh_G) (d i : Nat) (hi : i < 2) (σ : mh_H) (x : Int32) : mh_Mi l G (d + 2) mM_J0_indexOf_7cf53 [.ref (G.2.2.2 (1000 + i)), .int x, .int 0] σ (fun z s => z = mh_ixf i x ∧ σ = s) := by
  refine mh_enter (lv := [(0, .ref (G.2.2.2 (1000 + i))), (1, .int x), (2, .int 0)]) (by decide) rfl (Nat.le_of_ble_eq_true rfl) ?_
  refine mw_aload_n 1 rfl 0 dJ0_indexOf_7cf53_0 rfl rfl ?_
  refine mw_callKi hi [] [] 4 rfl dJ0_indexOf_7cf53_1 ml_J0_492 mc_J0_isLatin1_aae02 mk_J0_isLatin1_aae02 rfl (c_isLatin1 l G d i hi σ) rfl rfl (Nat.le_of_ble_eq_true rfl) (mh_rok (by omega) (by decide)) (fun z s2 hq => ?_)
  obtain ⟨rfl, rfl⟩ := hq
  refine mw_if_eq 7 rfl 23 dJ0_indexOf_7cf53_4 (by decide) (fun c => absurd c (by decide)) (fun _ => ?_)
  refine mw_aload_n 8 rfl 0 dJ0_indexOf_7cf53_7 rfl rfl ?_
  refine mw_strv hi 11 rfl dJ0_indexOf_7cf53_8 sf_9 ?_
  refine mw_iload_n 12 rfl 1 dJ0_indexOf_7cf53_11 rfl rfl ?_
  refine mw_iload_n 13 rfl 2 dJ0_indexOf_7cf53_12 rfl rfl ?_
  refine mw_aload_n 14 rfl 0 dJ0_indexOf_7cf53_13 rfl rfl ?_
  refine mw_callKi hi [] [.int 0, .int x, .ref (G.2.2.2 (1010 + i))] 17 rfl dJ0_indexOf_7cf53_14 ml_J0_505 mc_J0_length_8abf5 mk_J0_length_8abf5 rfl (c_length l G d i hi σ) rfl rfl (Nat.le_of_ble_eq_true rfl) (mh_rok (by omega) (by decide)) (fun z2 s2 hq => ?_)
  obtain ⟨rfl, rfl⟩ := hq
  refine mw_callSi [.ref (G.2.2.2 (1010 + i)), .int x, .int 0, .int (Int32.ofNat (mh_sl.getD i 0))] [] 20 rfl dJ0_indexOf_7cf53_17 ml_J0_637 mc_J1_indexOf_4cfef mk_J1_indexOf_4cfef (c_indexOf4E l G d i hi σ x) rfl rfl (Nat.le_of_ble_eq_true rfl) (mh_rok (by omega) (by decide)) (fun z3 s3 hq => ?_)
  obtain ⟨e3, rfl⟩ := hq
  refine mw_goto 23 rfl 36 dJ0_indexOf_7cf53_20 (by decide) ?_
  exact mw_iret dJ0_indexOf_7cf53_36 rfl ⟨_, rfl, e3, rfl⟩
theorem c_indexOfE (l : Launch) (G : mh_G) (d i : Nat) (hi : i < 2) (σ : mh_H) (x : Int32) : mh_Mi l G (d + 3) mM_J0_indexOf_0f7a4 [.ref (G.2.2.2 (1000 + i)), .int x] σ (fun z s => z = mh_ixf i x ∧ σ = s) := by
  refine mh_enter (lv := [(0, .ref (G.2.2.2 (1000 + i))), (1, .int x)]) (by decide) rfl (Nat.le_of_ble_eq_true rfl) ?_
  refine mw_aload_n 1 rfl 0 dJ0_indexOf_0f7a4_0 rfl rfl ?_
  refine mw_iload_n 2 rfl 1 dJ0_indexOf_0f7a4_1 rfl rfl ?_
  refine mw_iconst (v := 0) 3 rfl dJ0_indexOf_0f7a4_2 (by decide) ?_
  refine mw_callKi hi [.int x, .int 0] [] 6 rfl dJ0_indexOf_0f7a4_3 ml_J0_633 mc_J0_indexOf_7cf53 mk_J0_indexOf_7cf53 rfl (c_indexOf2E l G d i hi σ x) rfl rfl (Nat.le_of_ble_eq_true rfl) (mh_rok (by omega) (by decide)) (fun z s2 hq => ?_)
  obtain ⟨e3, rfl⟩ := hq
  exact mw_iret dJ0_indexOf_0f7a4_6 rfl ⟨_, rfl, e3, rfl⟩
end

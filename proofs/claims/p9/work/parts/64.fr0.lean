theorem fr_l_eJ7_fill_re_5_1 (s0 : mh_H) (hp : mh_p3 s0) (p1 : Int32) : ∀ (n : Nat) (s208 : mh_H) (x207 : Int32), mh_Fr S_eJ7_fill_re s0 s208 → mh_Fr S_eJ7_fill_re s0 (l_eJ7_fill_re_5_1 p1 n s208 x207) := by
  have fs0 : mh_Fr S_eJ7_fill_re s0 s0 := ⟨mh_F_rf, hp⟩
  intro n
  induction n with
  | zero => intro s208 x207 fs208; exact fs208
  | succ n ih =>
    intro s208 x207 fs208
    have hlo_5_1 := ih
    rw [l_eJ7_fill_re_5_1_s]
    unfold ls_eJ7_fill_re_5_1
    exact (mh_fI (mh_fB (mh_Fr_pI fs208 (mh_si 0 rfl)) (fun s217 fs217 => (mh_fA (fun x219 => (hlo_5_1 s217 x219 fs217))))) fs208)
theorem fr_eJ7_fill_re (s0 : mh_H) (p1 : Int32) (hp : mh_p3 s0) : mh_Fr S_eJ7_fill_re s0 (f_eJ7_fill_re s0 p1) := by
  have fs0 : mh_Fr S_eJ7_fill_re s0 s0 := ⟨mh_F_rf, hp⟩
  unfold f_eJ7_fill_re
  exact (fr_l_eJ7_fill_re_5_1 s0 hp p1 401 s0 (0 : Int32) fs0)
theorem fr_l_eJ7_fill_va_5_1 (s0 : mh_H) (kl : Nat) (hkl : mh_isL kl) (hp : mh_p3 s0) (p1 : Int32) : ∀ (n : Nat) (s68 : mh_H) (x67 : Int32), mh_Fr (S_eJ7_fill_va kl) s0 s68 → mh_Fr (S_eJ7_fill_va kl) s0 (l_eJ7_fill_va_5_1 kl p1 n s68 x67) := by
  have fs0 : mh_Fr (S_eJ7_fill_va kl) s0 s0 := ⟨mh_F_rf, hp⟩
  intro n
  induction n with
  | zero => intro s68 x67 fs68; exact fs68
  | succ n ih =>
    intro s68 x67 fs68
    have hlo_5_1 := ih
    rw [l_eJ7_fill_va_5_1_s]
    unfold ls_eJ7_fill_va_5_1
    exact (mh_fI (mh_fB (mh_Fr_pI fs68 (mh_si 0 rfl)) (fun s77 fs77 => (mh_fA (fun x79 => (hlo_5_1 s77 x79 fs77))))) fs68)
theorem fr_eJ7_fill_va (s0 : mh_H) (kl : Nat) (hkl : mh_isL kl) (p1 : Int32) (hp : mh_p3 s0) : mh_Fr (S_eJ7_fill_va kl) s0 (f_eJ7_fill_va s0 kl p1) := by
  have fs0 : mh_Fr (S_eJ7_fill_va kl) s0 s0 := ⟨mh_F_rf, hp⟩
  unfold f_eJ7_fill_va
  exact (fr_l_eJ7_fill_va_5_1 s0 kl hkl hp p1 15 s0 (0 : Int32) fs0)
theorem fr_l_eJ7_fill_wa_6_1 (s0 : mh_H) (hp : mh_p3 s0) (p1 : Int64) : ∀ (n : Nat) (s124 : mh_H) (x123 : Int32), mh_Fr S_eJ7_fill_wa s0 s124 → mh_Fr S_eJ7_fill_wa s0 (l_eJ7_fill_wa_6_1 p1 n s124 x123) := by
  have fs0 : mh_Fr S_eJ7_fill_wa s0 s0 := ⟨mh_F_rf, hp⟩
  intro n
  induction n with
  | zero => intro s124 x123 fs124; exact fs124
  | succ n ih =>
    intro s124 x123 fs124
    have hlo_6_1 := ih
    rw [l_eJ7_fill_wa_6_1_s]
    unfold ls_eJ7_fill_wa_6_1
    exact (mh_fI (mh_fB (mh_Fr_pL fs124 (mh_si 0 rfl)) (fun s133 fs133 => (mh_fA (fun x135 => (hlo_6_1 s133 x135 fs133))))) fs124)
theorem fr_eJ7_fill_wa (s0 : mh_H) (p1 : Int64) (hp : mh_p3 s0) : mh_Fr S_eJ7_fill_wa s0 (f_eJ7_fill_wa s0 p1) := by
  have fs0 : mh_Fr S_eJ7_fill_wa s0 s0 := ⟨mh_F_rf, hp⟩
  unfold f_eJ7_fill_wa
  exact (fr_l_eJ7_fill_wa_6_1 s0 hp p1 128 s0 (0 : Int32) fs0)
theorem fr_eX8_copyFrom (s0 : mh_H) (kv : Nat) (hkv : mh_isV kv) (ku : Nat) (hku : mh_isV ku) (hp : mh_p3 s0) : mh_Fr (S_eX8_copyFrom kv ku) s0 (f_eX8_copyFrom s0 kv ku) := by
  have fs0 : mh_Fr (S_eX8_copyFrom kv ku) s0 s0 := ⟨mh_F_rf, hp⟩
  unfold f_eX8_copyFrom
  exact (mh_fB (mh_Fr_pA fs0 (List.mem_of_getElem? (i := 0) rfl)) (fun s23 fs23 => (mh_fB (mh_Fr_pA fs23 (List.mem_of_getElem? (i := 1) rfl)) (fun s25 fs25 => (mh_fB (mh_Fr_pA fs25 (List.mem_of_getElem? (i := 2) rfl)) (fun s27 fs27 => (mh_fB (mh_Fr_pA fs27 (List.mem_of_getElem? (i := 3) rfl)) (fun s29 fs29 => (mh_fB (mh_Fr_pA fs29 (List.mem_of_getElem? (i := 4) rfl)) (fun s31 fs31 => (mh_fA (fun x33 => (mh_fB (mh_Fr_pI fs31 (mh_sj 5 rfl)) (fun s35 fs35 => (mh_fA (fun x37 => (mh_fB (mh_Fr_pI fs35 (mh_sj 6 rfl)) (fun s39 fs39 => (mh_fA (fun x41 => (mh_fB (mh_Fr_pI fs39 (mh_sj 7 rfl)) (fun s43 fs43 => fs43))))))))))))))))))))))
theorem fr_eX8_drawWind (s0 : mh_H) (kv : Nat) (hkv : mh_isV kv) (hp : mh_p3 s0) : mh_Fr (S_eX8_drawWind kv) s0 (f_eX8_drawWind s0 kv) := by
  have fs0 : mh_Fr (S_eX8_drawWind kv) s0 s0 := ⟨mh_F_rf, hp⟩
  unfold f_eX8_drawWind
  exact (mh_fA (fun x25 => (mh_fA (fun x27 => (mh_fA (fun x29 => (mh_fA (fun x31 => (mh_fB (mh_Fr_pI fs0 (mh_sj 0 rfl)) (fun s33 fs33 => (mh_fA (fun x35 => (mh_fA (fun x37 => (mh_fI fs33 (mh_fA (fun x46 => (mh_fB (mh_Fr_pI fs33 (mh_si 1 rfl)) (fun s48 fs48 => fs48)))))))))))))))))))
theorem fr_j_eX1_see_116_1 (s0 : mh_H) (kv : Nat) (hkv : mh_isV kv) (kl : Nat) (hkl : mh_isL kl) (hp : mh_p3 s0) (s91 : mh_H) (x99 : Int32) (fs91 : mh_Fr (S_eX1_see kv kl) s0 s91) : mh_Fr (S_eX1_see kv kl) s0 (j_eX1_see_116_1 s91 kl x99) := by
  have fs0 : mh_Fr (S_eX1_see kv kl) s0 s0 := ⟨mh_F_rf, hp⟩
  unfold j_eX1_see_116_1
  exact (mh_fB (mh_Fr_pI fs91 (mh_si 0 rfl)) (fun s110 fs110 => (mh_fB (mh_Fr_pI fs110 (mh_si 0 rfl)) (fun s112 fs112 => (mh_fB (mh_Fr_pI fs112 (mh_si 0 rfl)) (fun s114 fs114 => (mh_fB (mh_Fr_pI fs114 (mh_si 0 rfl)) (fun s116 fs116 => (mh_fB (mh_Fr_pI fs116 (mh_si 0 rfl)) (fun s118 fs118 => fs118))))))))))
theorem fr_eX1_see (s0 : mh_H) (kv : Nat) (hkv : mh_isV kv) (kl : Nat) (hkl : mh_isL kl) (p2 : Int32) (hp : mh_p3 s0) : mh_Fr (S_eX1_see kv kl) s0 (f_eX1_see s0 kv kl p2) := by
  have fs0 : mh_Fr (S_eX1_see kv kl) s0 s0 := ⟨mh_F_rf, hp⟩
  unfold f_eX1_see
  exact (mh_fA (fun x55 => (mh_fB (mh_Fr_pI fs0 (mh_si 0 rfl)) (fun s57 fs57 => (mh_fA (fun x59 => (mh_fB (mh_Fr_pI fs57 (mh_si 0 rfl)) (fun s61 fs61 => (mh_fA (fun x63 => (mh_fB (mh_Fr_pI fs61 (mh_si 0 rfl)) (fun s65 fs65 => (mh_fA (fun x70 => (mh_fB (mh_Fr_pI fs65 (mh_si 0 rfl)) (fun s73 fs73 => (mh_fA (fun x75 => (mh_fB (mh_Fr_pI fs73 (mh_si 0 rfl)) (fun s77 fs77 => (mh_fA (fun x79 => (mh_fB (mh_Fr_pI fs77 (mh_si 0 rfl)) (fun s81 fs81 => (mh_fA (fun x83 => (mh_fB (mh_Fr_pI fs81 (mh_si 0 rfl)) (fun s86 fs86 => (mh_fA (fun x88 => (mh_fB (mh_Fr_pI fs86 (mh_si 0 rfl)) (fun s91 fs91 => (mh_fA (fun x93 => (mh_fI (fr_j_eX1_see_116_1 s0 kv hkv kl hkl hp s91 (0 : Int32) fs91) (mh_fA (fun x121 => (fr_j_eX1_see_116_1 s0 kv hkv kl hkl hp s91 x121 fs91))))))))))))))))))))))))))))))))))))))
theorem fr_j_eX1_run_343_2 (s0 : mh_H) (kl : Nat) (hkl : mh_isL kl) (hp : mh_p3 s0) (s6627 : mh_H) (x6626 : Int32) (fs6627 : mh_Fr (S_eX1_run kl) s0 s6627) : mh_FrP (S_eX1_run kl) s0 (j_eX1_run_343_2 s6627 kl x6626) := by
  have fs0 : mh_Fr (S_eX1_run kl) s0 s0 := ⟨mh_F_rf, hp⟩
  unfold j_eX1_run_343_2
  exact (mh_fI fs6627 (mh_fA (fun x6836 => (mh_fA (fun x6838 => fs6627)))))
theorem fr_j_eX1_run_337_4 (s0 : mh_H) (kl : Nat) (hkl : mh_isL kl) (hp : mh_p3 s0) (lo_21_1 : mh_H → Int32 → Int32 → Int32 → Int32 × mh_H) (s7023 : mh_H) (x6624 : Int32) (x7021 : Int32) (x7022 : Int32) (hlo_21_1 : ∀ (s6627 : mh_H) (x6624 : Int32) (x6625 : Int32) (x6626 : Int32), mh_Fr (S_eX1_run kl) s0 s6627 → mh_FrP (S_eX1_run kl) s0 (lo_21_1 s6627 x6624 x6625 x6626)) (fs7023 : mh_Fr (S_eX1_run kl) s0 s7023) : mh_FrP (S_eX1_run kl) s0 (j_eX1_run_337_4 lo_21_1 s7023 x6624 x7021 x7022) := by
  have fs0 : mh_Fr (S_eX1_run kl) s0 s0 := ⟨mh_F_rf, hp⟩
  unfold j_eX1_run_337_4
  exact (mh_fA (fun x7026 => (hlo_21_1 s7023 x7026 x7021 x7022 fs7023)))
theorem fr_j_eX1_run_228_10 (s0 : mh_H) (kl : Nat) (hkl : mh_isL kl) (hp : mh_p3 s0) (lo_21_1 : mh_H → Int32 → Int32 → Int32 → Int32 × mh_H) (s6627 : mh_H) (x6624 : Int32) (x6626 : Int32) (x7153 : Int32) (x7159 : Int32) (hlo_21_1 : ∀ (s6627 : mh_H) (x6624 : Int32) (x6625 : Int32) (x6626 : Int32), mh_Fr (S_eX1_run kl) s0 s6627 → mh_FrP (S_eX1_run kl) s0 (lo_21_1 s6627 x6624 x6625 x6626)) (fs6627 : mh_Fr (S_eX1_run kl) s0 s6627) : mh_FrP (S_eX1_run kl) s0 (j_eX1_run_228_10 lo_21_1 s6627 x6624 x6626 x7153 x7159) := by
  have fs0 : mh_Fr (S_eX1_run kl) s0 s0 := ⟨mh_F_rf, hp⟩
  unfold j_eX1_run_228_10
  exact (mh_fA (fun x7162 => (fr_j_eX1_run_337_4 s0 kl hkl hp lo_21_1 s6627 x6624 x7153 x7162 hlo_21_1 fs6627)))
theorem fr_j_eX1_run_215_9 (s0 : mh_H) (kl : Nat) (hkl : mh_isL kl) (hp : mh_p3 s0) (lo_21_1 : mh_H → Int32 → Int32 → Int32 → Int32 × mh_H) (s6627 : mh_H) (x6624 : Int32) (x6626 : Int32) (x7133 : Int32) (x7153 : Int32) (hlo_21_1 : ∀ (s6627 : mh_H) (x6624 : Int32) (x6625 : Int32) (x6626 : Int32), mh_Fr (S_eX1_run kl) s0 s6627 → mh_FrP (S_eX1_run kl) s0 (lo_21_1 s6627 x6624 x6625 x6626)) (fs6627 : mh_Fr (S_eX1_run kl) s0 s6627) : mh_FrP (S_eX1_run kl) s0 (j_eX1_run_215_9 lo_21_1 s6627 x6624 x6626 x7133 x7153) := by
  have fs0 : mh_Fr (S_eX1_run kl) s0 s0 := ⟨mh_F_rf, hp⟩
  unfold j_eX1_run_215_9
  exact (mh_fI (fr_j_eX1_run_228_10 s0 kl hkl hp lo_21_1 s6627 x6624 x6626 x7153 (1 : Int32) hlo_21_1 fs6627) (fr_j_eX1_run_228_10 s0 kl hkl hp lo_21_1 s6627 x6624 x6626 x7153 (0 : Int32) hlo_21_1 fs6627))
theorem fr_j_eX1_run_192_8 (s0 : mh_H) (kl : Nat) (hkl : mh_isL kl) (hp : mh_p3 s0) (lo_21_1 : mh_H → Int32 → Int32 → Int32 → Int32 × mh_H) (s6627 : mh_H) (x6624 : Int32) (x6625 : Int32) (x6626 : Int32) (x6851 : Int32) (x7133 : Int32) (hlo_21_1 : ∀ (s6627 : mh_H) (x6624 : Int32) (x6625 : Int32) (x6626 : Int32), mh_Fr (S_eX1_run kl) s0 s6627 → mh_FrP (S_eX1_run kl) s0 (lo_21_1 s6627 x6624 x6625 x6626)) (fs6627 : mh_Fr (S_eX1_run kl) s0 s6627) : mh_FrP (S_eX1_run kl) s0 (j_eX1_run_192_8 lo_21_1 s6627 x6624 x6625 x6626 x6851 x7133) := by
  have fs0 : mh_Fr (S_eX1_run kl) s0 s0 := ⟨mh_F_rf, hp⟩
  unfold j_eX1_run_192_8
  exact (mh_fI (mh_fA (fun x7166 => (fr_j_eX1_run_215_9 s0 kl hkl hp lo_21_1 s6627 x6624 x6626 x7133 x7166 hlo_21_1 fs6627))) (mh_fA (fun x7168 => (mh_fA (fun x7170 => (fr_j_eX1_run_215_9 s0 kl hkl hp lo_21_1 s6627 x6624 x6626 x7133 x7170 hlo_21_1 fs6627))))))
theorem fr_j_eX1_run_184_7 (s0 : mh_H) (kl : Nat) (hkl : mh_isL kl) (hp : mh_p3 s0) (lo_21_1 : mh_H → Int32 → Int32 → Int32 → Int32 × mh_H) (s6627 : mh_H) (x6624 : Int32) (x6625 : Int32) (x6626 : Int32) (x6851 : Int32) (x7099 : Int32) (x7117 : Int32) (hlo_21_1 : ∀ (s6627 : mh_H) (x6624 : Int32) (x6625 : Int32) (x6626 : Int32), mh_Fr (S_eX1_run kl) s0 s6627 → mh_FrP (S_eX1_run kl) s0 (lo_21_1 s6627 x6624 x6625 x6626)) (fs6627 : mh_Fr (S_eX1_run kl) s0 s6627) : mh_FrP (S_eX1_run kl) s0 (j_eX1_run_184_7 lo_21_1 s6627 x6624 x6625 x6626 x6851 x7099 x7117) := by
  have fs0 : mh_Fr (S_eX1_run kl) s0 s0 := ⟨mh_F_rf, hp⟩
  unfold j_eX1_run_184_7
  exact (mh_fI (fr_j_eX1_run_192_8 s0 kl hkl hp lo_21_1 s6627 x6624 x6625 x6626 x6851 (1 : Int32) hlo_21_1 fs6627) (fr_j_eX1_run_192_8 s0 kl hkl hp lo_21_1 s6627 x6624 x6625 x6626 x6851 (0 : Int32) hlo_21_1 fs6627))
theorem fr_j_eX1_run_172_6 (s0 : mh_H) (kl : Nat) (hkl : mh_isL kl) (hp : mh_p3 s0) (lo_21_1 : mh_H → Int32 → Int32 → Int32 → Int32 × mh_H) (s6627 : mh_H) (x6624 : Int32) (x6625 : Int32) (x6626 : Int32) (x6842 : Int32) (x6851 : Int32) (x7099 : Int32) (hlo_21_1 : ∀ (s6627 : mh_H) (x6624 : Int32) (x6625 : Int32) (x6626 : Int32), mh_Fr (S_eX1_run kl) s0 s6627 → mh_FrP (S_eX1_run kl) s0 (lo_21_1 s6627 x6624 x6625 x6626)) (fs6627 : mh_Fr (S_eX1_run kl) s0 s6627) : mh_FrP (S_eX1_run kl) s0 (j_eX1_run_172_6 lo_21_1 s6627 x6624 x6625 x6626 x6842 x6851 x7099) := by
  have fs0 : mh_Fr (S_eX1_run kl) s0 s0 := ⟨mh_F_rf, hp⟩
  unfold j_eX1_run_172_6
  exact (mh_fI (fr_j_eX1_run_184_7 s0 kl hkl hp lo_21_1 s6627 x6624 x6625 x6626 x6851 x7099 (1 : Int32) hlo_21_1 fs6627) (fr_j_eX1_run_184_7 s0 kl hkl hp lo_21_1 s6627 x6624 x6625 x6626 x6851 x7099 (0 : Int32) hlo_21_1 fs6627))
theorem fr_j_eX1_run_156_5 (s0 : mh_H) (kl : Nat) (hkl : mh_isL kl) (hp : mh_p3 s0) (lo_21_1 : mh_H → Int32 → Int32 → Int32 → Int32 × mh_H) (s6627 : mh_H) (x6624 : Int32) (x6625 : Int32) (x6626 : Int32) (x6842 : Int32) (x6851 : Int32) (hlo_21_1 : ∀ (s6627 : mh_H) (x6624 : Int32) (x6625 : Int32) (x6626 : Int32), mh_Fr (S_eX1_run kl) s0 s6627 → mh_FrP (S_eX1_run kl) s0 (lo_21_1 s6627 x6624 x6625 x6626)) (fs6627 : mh_Fr (S_eX1_run kl) s0 s6627) : mh_FrP (S_eX1_run kl) s0 (j_eX1_run_156_5 lo_21_1 s6627 kl x6624 x6625 x6626 x6842 x6851) := by
  have fs0 : mh_Fr (S_eX1_run kl) s0 s0 := ⟨mh_F_rf, hp⟩
  unfold j_eX1_run_156_5
  exact (mh_fA (fun x7094 => (mh_fA (fun x7096 => (mh_fI (fr_j_eX1_run_172_6 s0 kl hkl hp lo_21_1 s6627 x6624 x6625 x6626 x6842 x6851 (0 : Int32) hlo_21_1 fs6627) (fr_j_eX1_run_172_6 s0 kl hkl hp lo_21_1 s6627 x6624 x6625 x6626 x6842 x6851 (1 : Int32) hlo_21_1 fs6627))))))
theorem fr_j_eX1_run_302_11 (s0 : mh_H) (kl : Nat) (hkl : mh_isL kl) (hp : mh_p3 s0) (lo_21_1 : mh_H → Int32 → Int32 → Int32 → Int32 × mh_H) (s6627 : mh_H) (x6624 : Int32) (x6625 : Int32) (x6626 : Int32) (x6842 : Int32) (x7181 : Int32) (hlo_21_1 : ∀ (s6627 : mh_H) (x6624 : Int32) (x6625 : Int32) (x6626 : Int32), mh_Fr (S_eX1_run kl) s0 s6627 → mh_FrP (S_eX1_run kl) s0 (lo_21_1 s6627 x6624 x6625 x6626)) (fs6627 : mh_Fr (S_eX1_run kl) s0 s6627) : mh_FrP (S_eX1_run kl) s0 (j_eX1_run_302_11 lo_21_1 s6627 kl x6624 x6625 x6626 x6842 x7181) := by
  have fs0 : mh_Fr (S_eX1_run kl) s0 s0 := ⟨mh_F_rf, hp⟩
  unfold j_eX1_run_302_11
  exact (mh_fA (fun x7205 => (mh_fA (fun x7209 => (mh_fA (fun x7215 => (mh_fB (mh_Fr_pI fs6627 (mh_si 0 rfl)) (fun s7218 fs7218 => (mh_fA (fun x7220 => (mh_fA (fun x7222 => (fr_j_eX1_run_337_4 s0 kl hkl hp lo_21_1 s7218 x6624 x7222 x7220 hlo_21_1 fs7218)))))))))))))
theorem fr_j_eX1_run_263_12 (s0 : mh_H) (kl : Nat) (hkl : mh_isL kl) (hp : mh_p3 s0) (lo_21_1 : mh_H → Int32 → Int32 → Int32 → Int32 × mh_H) (s6627 : mh_H) (x6624 : Int32) (x6625 : Int32) (x6626 : Int32) (x7227 : Int32) (x7234 : Int32) (hlo_21_1 : ∀ (s6627 : mh_H) (x6624 : Int32) (x6625 : Int32) (x6626 : Int32), mh_Fr (S_eX1_run kl) s0 s6627 → mh_FrP (S_eX1_run kl) s0 (lo_21_1 s6627 x6624 x6625 x6626)) (fs6627 : mh_Fr (S_eX1_run kl) s0 s6627) : mh_FrP (S_eX1_run kl) s0 (j_eX1_run_263_12 lo_21_1 s6627 kl x6624 x6625 x6626 x7227 x7234) := by
  have fs0 : mh_Fr (S_eX1_run kl) s0 s0 := ⟨mh_F_rf, hp⟩
  unfold j_eX1_run_263_12
  exact (mh_fB (mh_Fr_pI fs6627 (mh_si 0 rfl)) (fun s7239 fs7239 => (mh_fA (fun x7241 => (fr_j_eX1_run_337_4 s0 kl hkl hp lo_21_1 s7239 x6624 x7241 x6626 hlo_21_1 fs7239)))))
theorem fr_j_eX1_run_129_14 (s0 : mh_H) (kl : Nat) (hkl : mh_isL kl) (hp : mh_p3 s0) (lo_21_1 : mh_H → Int32 → Int32 → Int32 → Int32 × mh_H) (s7257 : mh_H) (x6624 : Int32) (x6625 : Int32) (x7259 : Int32) (x7262 : Int32) (hlo_21_1 : ∀ (s6627 : mh_H) (x6624 : Int32) (x6625 : Int32) (x6626 : Int32), mh_Fr (S_eX1_run kl) s0 s6627 → mh_FrP (S_eX1_run kl) s0 (lo_21_1 s6627 x6624 x6625 x6626)) (fs7257 : mh_Fr (S_eX1_run kl) s0 s7257) : mh_FrP (S_eX1_run kl) s0 (j_eX1_run_129_14 lo_21_1 s7257 x6624 x6625 x7259 x7262) := by
  have fs0 : mh_Fr (S_eX1_run kl) s0 s0 := ⟨mh_F_rf, hp⟩
  unfold j_eX1_run_129_14
  exact (mh_fA (fun x7265 => (fr_j_eX1_run_337_4 s0 kl hkl hp lo_21_1 s7257 x6624 x7265 x7259 hlo_21_1 fs7257)))
theorem fr_j_eX1_run_111_13 (s0 : mh_H) (kl : Nat) (hkl : mh_isL kl) (hp : mh_p3 s0) (lo_21_1 : mh_H → Int32 → Int32 → Int32 → Int32 × mh_H) (s6627 : mh_H) (x6624 : Int32) (x6625 : Int32) (x6626 : Int32) (x6842 : Int32) (x7248 : Int32) (hlo_21_1 : ∀ (s6627 : mh_H) (x6624 : Int32) (x6625 : Int32) (x6626 : Int32), mh_Fr (S_eX1_run kl) s0 s6627 → mh_FrP (S_eX1_run kl) s0 (lo_21_1 s6627 x6624 x6625 x6626)) (fs6627 : mh_Fr (S_eX1_run kl) s0 s6627) : mh_FrP (S_eX1_run kl) s0 (j_eX1_run_111_13 lo_21_1 s6627 kl x6624 x6625 x6626 x6842 x7248) := by
  have fs0 : mh_Fr (S_eX1_run kl) s0 s0 := ⟨mh_F_rf, hp⟩
  unfold j_eX1_run_111_13
  exact (mh_fB (mh_Fr_pI fs6627 (mh_si 0 rfl)) (fun s7257 fs7257 => (mh_fA (fun x7259 => (mh_fI (fr_j_eX1_run_129_14 s0 kl hkl hp lo_21_1 s7257 x6624 x6625 x7259 (2 : Int32) hlo_21_1 fs7257) (fr_j_eX1_run_129_14 s0 kl hkl hp lo_21_1 s7257 x6624 x6625 x7259 (1 : Int32) hlo_21_1 fs7257))))))
theorem fr_j_eX1_run_67_3 (s0 : mh_H) (kl : Nat) (hkl : mh_isL kl) (hp : mh_p3 s0) (lo_21_1 : mh_H → Int32 → Int32 → Int32 → Int32 × mh_H) (s6627 : mh_H) (x6624 : Int32) (x6625 : Int32) (x6626 : Int32) (x6842 : Int32) (x6851 : Int32) (hlo_21_1 : ∀ (s6627 : mh_H) (x6624 : Int32) (x6625 : Int32) (x6626 : Int32), mh_Fr (S_eX1_run kl) s0 s6627 → mh_FrP (S_eX1_run kl) s0 (lo_21_1 s6627 x6624 x6625 x6626)) (fs6627 : mh_Fr (S_eX1_run kl) s0 s6627) : mh_FrP (S_eX1_run kl) s0 (j_eX1_run_67_3 lo_21_1 s6627 kl x6624 x6625 x6626 x6842 x6851) := by
  have fs0 : mh_Fr (S_eX1_run kl) s0 s0 := ⟨mh_F_rf, hp⟩
  unfold j_eX1_run_67_3
  exact (mh_fA (fun x6939 => (mh_fI (mh_fI fs6627 (mh_fI (fr_j_eX1_run_156_5 s0 kl hkl hp lo_21_1 s6627 x6624 x6625 x6626 x6842 x6851 hlo_21_1 fs6627) (mh_fI (fr_j_eX1_run_156_5 s0 kl hkl hp lo_21_1 s6627 x6624 x6625 x6626 x6842 x6851 hlo_21_1 fs6627) (mh_fI (mh_fA (fun x7227 => (mh_fA (fun x7231 => (mh_fI (fr_j_eX1_run_263_12 s0 kl hkl hp lo_21_1 s6627 x6624 x6625 x6626 x7227 (1 : Int32) hlo_21_1 fs6627) (fr_j_eX1_run_263_12 s0 kl hkl hp lo_21_1 s6627 x6624 x6625 x6626 x7227 (0 : Int32) hlo_21_1 fs6627)))))) (mh_fI fs6627 (mh_fA (fun x7179 => (mh_fA (fun x7181 => (mh_fI (mh_fI fs6627 (mh_fI fs6627 (fr_j_eX1_run_302_11 s0 kl hkl hp lo_21_1 s6627 x6624 x6625 x6626 x6842 x7181 hlo_21_1 fs6627))) (fr_j_eX1_run_302_11 s0 kl hkl hp lo_21_1 s6627 x6624 x6625 x6626 x6842 x7181 hlo_21_1 fs6627))))))))))) (mh_fI (mh_fI (fr_j_eX1_run_111_13 s0 kl hkl hp lo_21_1 s6627 x6624 x6625 x6626 x6842 x6851 hlo_21_1 fs6627) (mh_fA (fun x7269 => (fr_j_eX1_run_111_13 s0 kl hkl hp lo_21_1 s6627 x6624 x6625 x6626 x6842 x7269 hlo_21_1 fs6627)))) fs6627))))
theorem fr_l_eX1_run_21_1 (s0 : mh_H) (kl : Nat) (hkl : mh_isL kl) (hp : mh_p3 s0) (x3420 : Int32) : ∀ (n : Nat) (s6627 : mh_H) (x6624 : Int32) (x6625 : Int32) (x6626 : Int32), mh_Fr (S_eX1_run kl) s0 s6627 → mh_FrP (S_eX1_run kl) s0 (l_eX1_run_21_1 kl x3420 n s6627 x6624 x6625 x6626) := by
  have fs0 : mh_Fr (S_eX1_run kl) s0 s0 := ⟨mh_F_rf, hp⟩
  intro n
  induction n with
  | zero => intro s6627 x6624 x6625 x6626 fs6627; exact fs6627
  | succ n ih =>
    intro s6627 x6624 x6625 x6626 fs6627
    have hlo_21_1 := ih
    rw [l_eX1_run_21_1_s]
    unfold ls_eX1_run_21_1
    exact (mh_fI (mh_fI (mh_fA (fun x6842 => (mh_fA (fun x6844 => (mh_fI (mh_fA (fun x7274 => (fr_j_eX1_run_67_3 s0 kl hkl hp (l_eX1_run_21_1 kl x3420 n) s6627 x6624 x6625 x6626 x6842 x7274 hlo_21_1 fs6627))) (fr_j_eX1_run_67_3 s0 kl hkl hp (l_eX1_run_21_1 kl x3420 n) s6627 x6624 x6625 x6626 x6842 (0 : Int32) hlo_21_1 fs6627)))))) (fr_j_eX1_run_343_2 s0 kl hkl hp s6627 x6626 fs6627)) (fr_j_eX1_run_343_2 s0 kl hkl hp s6627 x6626 fs6627))
theorem fr_eX1_run (s0 : mh_H) (kl : Nat) (hkl : mh_isL kl) (p1 : Int32) (p2 : Int32) (hp : mh_p3 s0) : mh_FrP (S_eX1_run kl) s0 (f_eX1_run s0 kl p1 p2) := by
  have fs0 : mh_Fr (S_eX1_run kl) s0 s0 := ⟨mh_F_rf, hp⟩
  unfold f_eX1_run
  exact (mh_fA (fun x3418 => (mh_fA (fun x3420 => (fr_l_eX1_run_21_1 s0 kl hkl hp x3420 401 s0 (0 : Int32) x3418 (0 : Int32) fs0)))))
theorem fr_j_eX1_worth_63_2 (s0 : mh_H) (kl : Nat) (hkl : mh_isL kl) (hp : mh_p3 s0) (lo_2_1 : mh_H → Int32 → Int32 × mh_H) (s248 : mh_H) (x200 : Int32) (hlo_2_1 : ∀ (s201 : mh_H) (x200 : Int32), mh_Fr (S_eX1_worth kl) s0 s201 → mh_FrP (S_eX1_worth kl) s0 (lo_2_1 s201 x200)) (fs248 : mh_Fr (S_eX1_worth kl) s0 s248) : mh_FrP (S_eX1_worth kl) s0 (j_eX1_worth_63_2 lo_2_1 s248 x200) := by
  have fs0 : mh_Fr (S_eX1_worth kl) s0 s0 := ⟨mh_F_rf, hp⟩
  unfold j_eX1_worth_63_2
  exact (mh_fA (fun x251 => (hlo_2_1 s248 x251 fs248)))
theorem fr_l_eX1_worth_2_1 (s0 : mh_H) (kl : Nat) (hkl : mh_isL kl) (hp : mh_p3 s0) (p1 : Int32) : ∀ (n : Nat) (s201 : mh_H) (x200 : Int32), mh_Fr (S_eX1_worth kl) s0 s201 → mh_FrP (S_eX1_worth kl) s0 (l_eX1_worth_2_1 kl p1 n s201 x200) := by
  have fs0 : mh_Fr (S_eX1_worth kl) s0 s0 := ⟨mh_F_rf, hp⟩
  intro n
  induction n with
  | zero => intro s201 x200 fs201; exact fs201
  | succ n ih =>
    intro s201 x200 fs201
    have hlo_2_1 := ih
    rw [l_eX1_worth_2_1_s]
    unfold ls_eX1_worth_2_1
    exact (mh_fA (fun x221 => (mh_fI (mh_fA (fun x224 => (mh_fI (mh_fA (fun x254 => (mh_fA (fun x256 => (mh_fC (mh_Fr_tl fs201 (fr_eX1_run s201 kl hkl x254 x256 fs201.2) (by rcases hkl with rfl | rfl <;> decide +kernel)) (fun x258 s259 fs259 => (mh_fI (fr_j_eX1_worth_63_2 s0 kl hkl hp (l_eX1_worth_2_1 kl p1 n) s259 x200 hlo_2_1 fs259) (mh_fA (fun x262 => (mh_fC (mh_Fr_tl fs259 (fr_eX1_run s259 kl hkl x262 x254 fs259.2) (by rcases hkl with rfl | rfl <;> decide +kernel)) (fun x267 s268 fs268 => (mh_fA (fun x270 => (mh_fA (fun x273 => fs268))))))))))))))) (fr_j_eX1_worth_63_2 s0 kl hkl hp (l_eX1_worth_2_1 kl p1 n) s201 x200 hlo_2_1 fs201)))) fs201)))
theorem fr_eX1_worth (s0 : mh_H) (kl : Nat) (hkl : mh_isL kl) (p1 : Int32) (hp : mh_p3 s0) : mh_FrP (S_eX1_worth kl) s0 (f_eX1_worth s0 kl p1) := by
  have fs0 : mh_Fr (S_eX1_worth kl) s0 s0 := ⟨mh_F_rf, hp⟩
  unfold f_eX1_worth
  exact (fr_l_eX1_worth_2_1 s0 kl hkl hp p1 15 s0 (0 : Int32) fs0)
theorem fr_l_eX0_comeAndDry_2_1 (s0 : mh_H) (kv : Nat) (hkv : mh_isV kv) (kl : Nat) (hkl : mh_isL kl) (hp : mh_p3 s0) : ∀ (n : Nat) (s1404 : mh_H) (x1403 : Int32), mh_Fr (S_eX0_comeAndDry kv kl) s0 s1404 → mh_Fr (S_eX0_comeAndDry kv kl) s0 (l_eX0_comeAndDry_2_1 kl kv n s1404 x1403) := by
  have fs0 : mh_Fr (S_eX0_comeAndDry kv kl) s0 s0 := ⟨mh_F_rf, hp⟩
  intro n
  induction n with
  | zero => intro s1404 x1403 fs1404; exact fs1404
  | succ n ih =>
    intro s1404 x1403 fs1404
    have hlo_2_1 := ih
    rw [l_eX0_comeAndDry_2_1_s]
    unfold ls_eX0_comeAndDry_2_1
    exact (mh_fI (mh_fB (mh_Fr_tv fs1404 (fr_eX1_see s1404 kv hkv kl hkl x1403 fs1404.2) (by rcases hkl with rfl | rfl <;> rcases hkv with rfl | rfl | rfl <;> decide +kernel)) (fun s1444 fs1444 => (mh_fC (mh_Fr_tl fs1444 (fr_eX1_worth s1444 kl hkl (99 : Int32) fs1444.2) (by rcases hkl with rfl | rfl <;> rcases hkv with rfl | rfl | rfl <;> decide +kernel)) (fun x1446 s1447 fs1447 => (mh_fC (mh_Fr_tl fs1447 (fr_eX1_worth s1447 kl hkl (119 : Int32) fs1447.2) (by rcases hkl with rfl | rfl <;> rcases hkv with rfl | rfl | rfl <;> decide +kernel)) (fun x1449 s1450 fs1450 => (mh_fC (mh_Fr_tl fs1450 (fr_eX1_worth s1450 kl hkl (115 : Int32) fs1450.2) (by rcases hkl with rfl | rfl <;> rcases hkv with rfl | rfl | rfl <;> decide +kernel)) (fun x1452 s1453 fs1453 => (mh_fA (fun x1455 => (mh_fA (fun x1457 => (mh_fA (fun x1459 => (mh_fA (fun x1461 => (mh_fB (mh_Fr_pI fs1453 (mh_si 2 rfl)) (fun s1464 fs1464 => (mh_fA (fun x1466 => (mh_fA (fun x1468 => (mh_fA (fun x1470 => (mh_fB (mh_Fr_pI fs1464 (mh_si 3 rfl)) (fun s1473 fs1473 => (mh_fA (fun x1475 => (hlo_2_1 s1473 x1475 fs1473))))))))))))))))))))))))))))) fs1404)
theorem fr_eX0_comeAndDry (s0 : mh_H) (kv : Nat) (hkv : mh_isV kv) (kl : Nat) (hkl : mh_isL kl) (hp : mh_p3 s0) : mh_Fr (S_eX0_comeAndDry kv kl) s0 (f_eX0_comeAndDry s0 kv kl) := by
  have fs0 : mh_Fr (S_eX0_comeAndDry kv kl) s0 s0 := ⟨mh_F_rf, hp⟩
  unfold f_eX0_comeAndDry
  exact (fr_l_eX0_comeAndDry_2_1 s0 kv hkv kl hkl hp 145 s0 (0 : Int32) fs0)
theorem fr_l_eX0_runDown_133_3 (s0 : mh_H) (kv : Nat) (hkv : mh_isV kv) (hp : mh_p3 s0) : ∀ (n : Nat) (s2015 : mh_H) (x2014 : Int32), mh_Fr (S_eX0_runDown kv) s0 s2015 → mh_Fr (S_eX0_runDown kv) s0 (l_eX0_runDown_133_3 kv n s2015 x2014) := by
  have fs0 : mh_Fr (S_eX0_runDown kv) s0 s0 := ⟨mh_F_rf, hp⟩
  intro n
  induction n with
  | zero => intro s2015 x2014 fs2015; exact fs2015
  | succ n ih =>
    intro s2015 x2014 fs2015
    have hlo_133_3 := ih
    rw [l_eX0_runDown_133_3_s]
    unfold ls_eX0_runDown_133_3
    exact (mh_fI (mh_fA (fun x2028 => (mh_fA (fun x2030 => (mh_fB (mh_Fr_pI fs2015 (mh_si 3 rfl)) (fun s2032 fs2032 => (mh_fA (fun x2034 => (hlo_133_3 s2032 x2034 fs2032))))))))) fs2015)
theorem fr_j_eX0_runDown_125_4 (s0 : mh_H) (kv : Nat) (hkv : mh_isV kv) (hp : mh_p3 s0) (lo_40_2 : mh_H → Int32 → mh_H) (s2075 : mh_H) (x1825 : Int32) (hlo_40_2 : ∀ (s1826 : mh_H) (x1825 : Int32), mh_Fr (S_eX0_runDown kv) s0 s1826 → mh_Fr (S_eX0_runDown kv) s0 (lo_40_2 s1826 x1825)) (fs2075 : mh_Fr (S_eX0_runDown kv) s0 s2075) : mh_Fr (S_eX0_runDown kv) s0 (j_eX0_runDown_125_4 lo_40_2 s2075 x1825) := by
  have fs0 : mh_Fr (S_eX0_runDown kv) s0 s0 := ⟨mh_F_rf, hp⟩
  unfold j_eX0_runDown_125_4
  exact (mh_fA (fun x2078 => (hlo_40_2 s2075 x2078 fs2075)))
theorem fr_l_eX0_runDown_40_2 (s0 : mh_H) (kv : Nat) (hkv : mh_isV kv) (hp : mh_p3 s0) : ∀ (n : Nat) (s1826 : mh_H) (x1825 : Int32), mh_Fr (S_eX0_runDown kv) s0 s1826 → mh_Fr (S_eX0_runDown kv) s0 (l_eX0_runDown_40_2 kv n s1826 x1825) := by
  have fs0 : mh_Fr (S_eX0_runDown kv) s0 s0 := ⟨mh_F_rf, hp⟩
  intro n
  induction n with
  | zero => intro s1826 x1825 fs1826; exact fs1826
  | succ n ih =>
    intro s1826 x1825 fs1826
    have hlo_40_2 := ih
    rw [l_eX0_runDown_40_2_s]
    unfold ls_eX0_runDown_40_2
    exact (mh_fI (mh_fA (fun x2036 => (mh_fA (fun x2039 => (mh_fA (fun x2041 => (mh_fA (fun x2043 => (mh_fI (mh_fA (fun x2081 => (mh_fA (fun x2083 => (mh_fA (fun x2085 => (mh_fA (fun x2087 => (mh_fA (fun x2090 => (mh_fA (fun x2092 => (mh_fA (fun x2094 => (mh_fB (mh_Fr_pI fs1826 (mh_si 1 rfl)) (fun s2096 fs2096 => (mh_fA (fun x2098 => (mh_fA (fun x2100 => (mh_fB (mh_Fr_pI fs2096 (mh_si 1 rfl)) (fun s2102 fs2102 => (mh_fA (fun x2104 => (mh_fA (fun x2106 => (mh_fB (mh_Fr_pI fs2102 (mh_sj 2 rfl)) (fun s2108 fs2108 => (fr_j_eX0_runDown_125_4 s0 kv hkv hp (l_eX0_runDown_40_2 kv n) s2108 x1825 hlo_40_2 fs2108))))))))))))))))))))))))))))) (fr_j_eX0_runDown_125_4 s0 kv hkv hp (l_eX0_runDown_40_2 kv n) s1826 x1825 hlo_40_2 fs1826)))))))))) (fr_l_eX0_runDown_133_3 s0 kv hkv hp 145 s1826 (0 : Int32) fs1826))
theorem fr_l_eX0_runDown_2_1 (s0 : mh_H) (kv : Nat) (hkv : mh_isV kv) (hp : mh_p3 s0) : ∀ (n : Nat) (s1226 : mh_H) (x1225 : Int32), mh_Fr (S_eX0_runDown kv) s0 s1226 → mh_Fr (S_eX0_runDown kv) s0 (l_eX0_runDown_2_1 kv n s1226 x1225) := by
  have fs0 : mh_Fr (S_eX0_runDown kv) s0 s0 := ⟨mh_F_rf, hp⟩
  intro n
  induction n with
  | zero => intro s1226 x1225 fs1226; exact fs1226
  | succ n ih =>
    intro s1226 x1225 fs1226
    have hlo_2_1 := ih
    rw [l_eX0_runDown_2_1_s]
    unfold ls_eX0_runDown_2_1
    exact (mh_fI (mh_fA (fun x2110 => (mh_fB (mh_Fr_pI fs1226 (mh_si 0 rfl)) (fun s2113 fs2113 => (mh_fA (fun x2115 => (mh_fB (mh_Fr_pI fs2113 (mh_si 1 rfl)) (fun s2117 fs2117 => (mh_fA (fun x2119 => (hlo_2_1 s2117 x2119 fs2117))))))))))) (fr_l_eX0_runDown_40_2 s0 kv hkv hp 145 s1226 (0 : Int32) fs1226))
theorem fr_eX0_runDown (s0 : mh_H) (kv : Nat) (hkv : mh_isV kv) (hp : mh_p3 s0) : mh_Fr (S_eX0_runDown kv) s0 (f_eX0_runDown s0 kv) := by
  have fs0 : mh_Fr (S_eX0_runDown kv) s0 s0 := ⟨mh_F_rf, hp⟩
  unfold f_eX0_runDown
  exact (fr_l_eX0_runDown_2_1 s0 kv hkv hp 145 s0 (0 : Int32) fs0)
theorem fr_j_eX0_pass_13_1 (s0 : mh_H) (kv : Nat) (hkv : mh_isV kv) (kl : Nat) (hkl : mh_isL kl) (hp : mh_p3 s0) (s23 : mh_H) (fs23 : mh_Fr (S_eX0_pass kv kl) s0 s23) : mh_Fr (S_eX0_pass kv kl) s0 (j_eX0_pass_13_1 s23 kv) := by
  have fs0 : mh_Fr (S_eX0_pass kv kl) s0 s0 := ⟨mh_F_rf, hp⟩
  unfold j_eX0_pass_13_1
  exact (mh_fB (mh_Fr_tv fs23 (fr_eX0_runDown s23 kv hkv fs23.2) (by rcases hkl with rfl | rfl <;> rcases hkv with rfl | rfl | rfl <;> decide +kernel)) (fun s34 fs34 => (mh_fA (fun x36 => (mh_fA (fun x38 => (mh_fB (mh_Fr_pI fs34 (mh_sj 7 rfl)) (fun s40 fs40 => fs40))))))))
theorem fr_eX0_pass (s0 : mh_H) (kv : Nat) (hkv : mh_isV kv) (kl : Nat) (hkl : mh_isL kl) (hp : mh_p3 s0) : mh_Fr (S_eX0_pass kv kl) s0 (f_eX0_pass s0 kv kl) := by
  have fs0 : mh_Fr (S_eX0_pass kv kl) s0 s0 := ⟨mh_F_rf, hp⟩
  unfold f_eX0_pass
  exact (mh_fA (fun x17 => (mh_fI (fr_j_eX0_pass_13_1 s0 kv hkv kl hkl hp s0 fs0) (mh_fB (mh_Fr_tv fs0 (fr_eX0_comeAndDry s0 kv hkv kl hkl fs0.2) (by rcases hkl with rfl | rfl <;> rcases hkv with rfl | rfl | rfl <;> decide +kernel)) (fun s44 fs44 => (fr_j_eX0_pass_13_1 s0 kv hkv kl hkl hp s44 fs44))))))
theorem fr_j_eX1_addClause_62_1 (s0 : mh_H) (kl : Nat) (hkl : mh_isL kl) (hp : mh_p3 s0) (s72 : mh_H) (p1 : Int32) (fs72 : mh_Fr (S_eX1_addClause kl) s0 s72) : mh_Fr (S_eX1_addClause kl) s0 (j_eX1_addClause_62_1 s72 kl p1) := by
  have fs0 : mh_Fr (S_eX1_addClause kl) s0 s0 := ⟨mh_F_rf, hp⟩
  unfold j_eX1_addClause_62_1
  exact (mh_fA (fun x89 => (mh_fI (mh_fI (mh_fB (mh_Fr_pI fs72 (mh_sj 5 rfl)) (fun s95 fs95 => fs95)) (mh_fI (mh_fB (mh_Fr_pI fs72 (mh_sj 5 rfl)) (fun s98 fs98 => fs98)) (mh_fI (mh_fB (mh_Fr_pI fs72 (mh_sj 5 rfl)) (fun s103 fs103 => fs103)) (mh_fB (mh_Fr_pI fs72 (mh_sj 5 rfl)) (fun s101 fs101 => fs101))))) (mh_fB (mh_Fr_pI fs72 (mh_sj 5 rfl)) (fun s92 fs92 => fs92)))))
theorem fr_eX1_addClause (s0 : mh_H) (kl : Nat) (hkl : mh_isL kl) (p1 : Int32) (p2 : Int32) (p3 : Int32) (hp : mh_p3 s0) : mh_Fr (S_eX1_addClause kl) s0 (f_eX1_addClause s0 kl p1 p2 p3) := by
  have fs0 : mh_Fr (S_eX1_addClause kl) s0 s0 := ⟨mh_F_rf, hp⟩
  unfold f_eX1_addClause
  exact (mh_fA (fun x45 => (mh_fI (mh_fB (mh_Fr_pI fs0 (mh_si 0 rfl)) (fun s108 fs108 => (mh_fB (mh_Fr_pI fs108 (mh_si 1 rfl)) (fun s113 fs113 => (mh_fB (mh_Fr_pI fs113 (mh_si 2 rfl)) (fun s118 fs118 => (mh_fA (fun x123 => (mh_fB (mh_Fr_pI fs118 (mh_si 3 rfl)) (fun s125 fs125 => (mh_fA (fun x130 => (mh_fB (mh_Fr_pI fs125 (mh_sj 4 rfl)) (fun s132 fs132 => (fr_j_eX1_addClause_62_1 s0 kl hkl hp s132 p1 fs132))))))))))))))) (fr_j_eX1_addClause_62_1 s0 kl hkl hp s0 p1 fs0))))
theorem fr_eX1_clear (s0 : mh_H) (kl : Nat) (hkl : mh_isL kl) (hp : mh_p3 s0) : mh_Fr (S_eX1_clear kl) s0 (f_eX1_clear s0 kl) := by
  have fs0 : mh_Fr (S_eX1_clear kl) s0 s0 := ⟨mh_F_rf, hp⟩
  unfold f_eX1_clear
  exact (mh_fB (mh_Fr_pI fs0 (mh_sj 0 rfl)) (fun s9 fs9 => (mh_fB (mh_Fr_pI fs9 (mh_sj 1 rfl)) (fun s11 fs11 => (mh_fB (mh_Fr_pI fs11 (mh_sj 2 rfl)) (fun s13 fs13 => (mh_fB (mh_Fr_pI fs13 (mh_sj 3 rfl)) (fun s15 fs15 => fs15))))))))
theorem fr_eX1_land (s0 : mh_H) (kl : Nat) (hkl : mh_isL kl) (p1 : Int32) (hp : mh_p3 s0) : mh_Fr (S_eX1_land kl) s0 (f_eX1_land s0 kl p1) := by
  have fs0 : mh_Fr (S_eX1_land kl) s0 s0 := ⟨mh_F_rf, hp⟩
  unfold f_eX1_land
  exact (mh_fA (fun x9 => (mh_fI fs0 (mh_fA (fun x13 => (mh_fB (mh_Fr_pI fs0 (mh_si 0 rfl)) (fun s15 fs15 => fs15)))))))
theorem fr_eX1_mist (s0 : mh_H) (kv : Nat) (hkv : mh_isV kv) (kl : Nat) (hkl : mh_isL kl) (p2 : Int32) (hp : mh_p3 s0) : mh_FrP (S_eX1_mist kv kl) s0 (f_eX1_mist s0 kv kl p2) := by
  have fs0 : mh_Fr (S_eX1_mist kv kl) s0 s0 := ⟨mh_F_rf, hp⟩
  unfold f_eX1_mist
  exact (mh_fB (mh_Fr_tv fs0 (fr_eX1_see s0 kv hkv kl hkl p2 fs0.2) (by rcases hkl with rfl | rfl <;> rcases hkv with rfl | rfl | rfl <;> decide +kernel)) (fun s8 fs8 => (mh_fC (mh_Fr_tl fs8 (fr_eX1_worth s8 kl hkl (109 : Int32) fs8.2) (by rcases hkl with rfl | rfl <;> rcases hkv with rfl | rfl | rfl <;> decide +kernel)) (fun x10 s11 fs11 => fs11))))
theorem fr_eX1_put (s0 : mh_H) (kl : Nat) (hkl : mh_isL kl) (p1 : Int32) (hp : mh_p3 s0) : mh_Fr (S_eX1_put kl) s0 (f_eX1_put s0 kl p1) := by
  have fs0 : mh_Fr (S_eX1_put kl) s0 s0 := ⟨mh_F_rf, hp⟩
  unfold f_eX1_put
  exact (mh_fA (fun x14 => (mh_fI (mh_fB (mh_Fr_pI fs0 (mh_si 0 rfl)) (fun s19 fs19 => (mh_fA (fun x24 => (mh_fB (mh_Fr_pI fs19 (mh_sj 1 rfl)) (fun s26 fs26 => fs26)))))) fs0)))
theorem fr_eX1_putJump (s0 : mh_H) (kl : Nat) (hkl : mh_isL kl) (p1 : Int32) (hp : mh_p3 s0) : mh_FrP (S_eX1_putJump kl) s0 (f_eX1_putJump s0 kl p1) := by
  have fs0 : mh_Fr (S_eX1_putJump kl) s0 s0 := ⟨mh_F_rf, hp⟩
  unfold f_eX1_putJump
  exact (mh_fB (mh_Fr_tv fs0 (fr_eX1_put s0 kl hkl p1 fs0.2) (by rcases hkl with rfl | rfl <;> decide +kernel)) (fun s12 fs12 => (mh_fB (mh_Fr_tv fs12 (fr_eX1_put s12 kl hkl (0 : Int32) fs12.2) (by rcases hkl with rfl | rfl <;> decide +kernel)) (fun s15 fs15 => (mh_fA (fun x17 => (mh_fA (fun x19 => fs15))))))))
theorem fr_eX1_saysMist (s0 : mh_H) (kl : Nat) (hkl : mh_isL kl) (p1 : Int32) (p2 : Int32) (p3 : Int32) (hp : mh_p3 s0) : mh_FrP (S_eX1_saysMist kl) s0 (f_eX1_saysMist s0 kl p1 p2 p3) := by
  have fs0 : mh_Fr (S_eX1_saysMist kl) s0 s0 := ⟨mh_F_rf, hp⟩
  unfold f_eX1_saysMist
  exact (mh_fB (mh_Fr_tv fs0 (fr_eJ7_fill_va s0 kl hkl (0 : Int32) fs0.2) (by rcases hkl with rfl | rfl <;> decide +kernel)) (fun s15 fs15 => (mh_fB (mh_Fr_pI fs15 (mh_si 0 rfl)) (fun s17 fs17 => (mh_fB (mh_Fr_pI fs17 (mh_si 0 rfl)) (fun s19 fs19 => (mh_fB (mh_Fr_pI fs19 (mh_si 0 rfl)) (fun s21 fs21 => (mh_fC (mh_Fr_tl fs21 (fr_eX1_worth s21 kl hkl (102 : Int32) fs21.2) (by rcases hkl with rfl | rfl <;> decide +kernel)) (fun x23 s24 fs24 => (mh_fI fs24 fs24)))))))))))
theorem fr_eX1_top (s0 : mh_H) (kv : Nat) (hkv : mh_isV kv) (kl : Nat) (hkl : mh_isL kl) (p2 : Int32) (hp : mh_p3 s0) : mh_FrP (S_eX1_top kv kl) s0 (f_eX1_top s0 kv kl p2) := by
  have fs0 : mh_Fr (S_eX1_top kv kl) s0 s0 := ⟨mh_F_rf, hp⟩
  unfold f_eX1_top
  exact (mh_fC (mh_Fr_tl fs0 (fr_eX1_mist s0 kv hkv kl hkl p2 fs0.2) (by rcases hkl with rfl | rfl <;> rcases hkv with rfl | rfl | rfl <;> decide +kernel)) (fun x9 s10 fs10 => (mh_fI (mh_fA (fun x13 => (mh_fA (fun x15 => fs10)))) fs10)))
theorem fr_eX1_yards (s0 : mh_H) (kv : Nat) (hkv : mh_isV kv) (kl : Nat) (hkl : mh_isL kl) (p2 : Int32) (hp : mh_p3 s0) : mh_FrP (S_eX1_yards kv kl) s0 (f_eX1_yards s0 kv kl p2) := by
  have fs0 : mh_Fr (S_eX1_yards kv kl) s0 s0 := ⟨mh_F_rf, hp⟩
  unfold f_eX1_yards
  exact (mh_fC (mh_Fr_tl fs0 (fr_eX1_mist s0 kv hkv kl hkl p2 fs0.2) (by rcases hkl with rfl | rfl <;> rcases hkv with rfl | rfl | rfl <;> decide +kernel)) (fun x9 s10 fs10 => (mh_fB (mh_Fr_pI fs10 (mh_si 0 rfl)) (fun s12 fs12 => (mh_fC (mh_Fr_tl fs12 (fr_eX1_worth s12 kl hkl (121 : Int32) fs12.2) (by rcases hkl with rfl | rfl <;> rcases hkv with rfl | rfl | rfl <;> decide +kernel)) (fun x14 s15 fs15 => fs15))))))
theorem fr_j_eX2_push_42_3 (s0 : mh_H) (hp : mh_p3 s0) (lo_3_1 : mh_H → Int32 → mh_H) (s1790 : mh_H) (x1657 : Int32) (hlo_3_1 : ∀ (s1658 : mh_H) (x1657 : Int32), mh_Fr S_eX2_push s0 s1658 → mh_Fr S_eX2_push s0 (lo_3_1 s1658 x1657)) (fs1790 : mh_Fr S_eX2_push s0 s1790) : mh_Fr S_eX2_push s0 (j_eX2_push_42_3 lo_3_1 s1790 x1657) := by
  have fs0 : mh_Fr S_eX2_push s0 s0 := ⟨mh_F_rf, hp⟩
  unfold j_eX2_push_42_3
  exact (mh_fA (fun x1823 => (hlo_3_1 s1790 x1823 fs1790)))
theorem fr_l_eX2_push_9_2 (s0 : mh_H) (hp : mh_p3 s0) (lo_3_1 : mh_H → Int32 → mh_H) (p1 : Int32) (x1657 : Int32) (hlo_3_1 : ∀ (s1658 : mh_H) (x1657 : Int32), mh_Fr S_eX2_push s0 s1658 → mh_Fr S_eX2_push s0 (lo_3_1 s1658 x1657)) : ∀ (n : Nat) (s1790 : mh_H) (x1789 : Int32), mh_Fr S_eX2_push s0 s1790 → mh_Fr S_eX2_push s0 (l_eX2_push_9_2 lo_3_1 p1 x1657 n s1790 x1789) := by
  have fs0 : mh_Fr S_eX2_push s0 s0 := ⟨mh_F_rf, hp⟩
  intro n
  induction n with
  | zero => intro s1790 x1789 fs1790; exact fs1790
  | succ n ih =>
    intro s1790 x1789 fs1790
    have hlo_9_2 := ih
    rw [l_eX2_push_9_2_s]
    unfold ls_eX2_push_9_2
    exact (mh_fI (fr_j_eX2_push_42_3 s0 hp lo_3_1 s1790 x1657 hlo_3_1 fs1790) (mh_fI (fr_j_eX2_push_42_3 s0 hp lo_3_1 s1790 x1657 hlo_3_1 fs1790) (mh_fA (fun y1827 => (mh_fA (fun x1829 => (mh_fA (fun y1831 => (mh_fA (fun y1833 => (mh_fB (mh_Fr_pL fs1790 (mh_si 0 rfl)) (fun s1835 fs1835 => (mh_fA (fun x1837 => (hlo_9_2 s1835 x1837 fs1835)))))))))))))))
theorem fr_l_eX2_push_3_1 (s0 : mh_H) (hp : mh_p3 s0) (p1 : Int32) : ∀ (n : Nat) (s1658 : mh_H) (x1657 : Int32), mh_Fr S_eX2_push s0 s1658 → mh_Fr S_eX2_push s0 (l_eX2_push_3_1 p1 n s1658 x1657) := by
  have fs0 : mh_Fr S_eX2_push s0 s0 := ⟨mh_F_rf, hp⟩
  intro n
  induction n with
  | zero => intro s1658 x1657 fs1658; exact fs1658
  | succ n ih =>
    intro s1658 x1657 fs1658
    have hlo_3_1 := ih
    rw [l_eX2_push_3_1_s]
    unfold ls_eX2_push_3_1
    exact (mh_fI (fr_l_eX2_push_9_2 s0 hp (l_eX2_push_3_1 p1 n) p1 x1657 hlo_3_1 14 s1658 (1 : Int32) fs1658) fs1658)
theorem fr_eX2_push (s0 : mh_H) (p1 : Int32) (hp : mh_p3 s0) : mh_Fr S_eX2_push s0 (f_eX2_push s0 p1) := by
  have fs0 : mh_Fr S_eX2_push s0 s0 := ⟨mh_F_rf, hp⟩
  unfold f_eX2_push
  exact (fr_l_eX2_push_3_1 s0 hp p1 109 s0 (108 : Int32) fs0)
theorem fr_l_eX2_breaking_41_2 (s0 : mh_H) (hp : mh_p3 s0) (s113 : mh_H) (fs113 : mh_Fr S_eX2_breaking s0 s113) : ∀ (n : Nat) (x130 : Int32) (y131 : Int64), mh_FrP S_eX2_breaking s0 (l_eX2_breaking_41_2 s113 n x130 y131) := by
  have fs0 : mh_Fr S_eX2_breaking s0 s0 := ⟨mh_F_rf, hp⟩
  intro n
  induction n with
  | zero => intro x130 y131; exact fs113
  | succ n ih =>
    intro x130 y131
    have hlo_41_2 := ih
    rw [l_eX2_breaking_41_2_s]
    unfold ls_eX2_breaking_41_2
    exact (mh_fI (mh_fA (fun y142 => (mh_fA (fun y144 => (mh_fA (fun x146 => (hlo_41_2 x146 y144))))))) fs113)
theorem fr_l_eX2_breaking_18_1 (s0 : mh_H) (hp : mh_p3 s0) (p1 : Int32) (p2 : Int32) (p3 : Int32) : ∀ (n : Nat) (s113 : mh_H) (x112 : Int32), mh_Fr S_eX2_breaking s0 s113 → mh_FrP S_eX2_breaking s0 (l_eX2_breaking_18_1 p1 p2 p3 n s113 x112) := by
  have fs0 : mh_Fr S_eX2_breaking s0 s0 := ⟨mh_F_rf, hp⟩
  intro n
  induction n with
  | zero => intro s113 x112 fs113; exact fs113
  | succ n ih =>
    intro s113 x112 fs113
    have hlo_18_1 := ih
    rw [l_eX2_breaking_18_1_s]
    unfold ls_eX2_breaking_18_1
    exact (mh_fI (mh_fB (mh_Fr_tv fs113 (fr_eX2_push s113 p3 fs113.2) (by decide +kernel)) (fun s149 fs149 => (mh_fA (fun x151 => (hlo_18_1 s149 x151 fs149))))) (fr_l_eX2_breaking_41_2 s0 hp s113 fs113 200 p1 (0 : Int64)))
theorem fr_eX2_breaking (s0 : mh_H) (p1 : Int32) (p2 : Int32) (p3 : Int32) (hp : mh_p3 s0) : mh_FrP S_eX2_breaking s0 (f_eX2_breaking s0 p1 p2 p3) := by
  have fs0 : mh_Fr S_eX2_breaking s0 s0 := ⟨mh_F_rf, hp⟩
  unfold f_eX2_breaking
  exact (mh_fB (mh_Fr_tv fs0 (fr_eJ7_fill_wa s0 (0 : Int64) fs0.2) (by decide +kernel)) (fun s78 fs78 => (mh_fB (mh_Fr_pL fs78 (mh_si 0 rfl)) (fun s80 fs80 => (fr_l_eX2_breaking_18_1 s0 hp p1 p2 p3 15 s80 (0 : Int32) fs80)))))
theorem fr_j_eX5_goIn_117_2 (s0 : mh_H) (hp : mh_p3 s0) (lo_2_1 : mh_H → Int32 → mh_H) (s842 : mh_H) (x739 : Int32) (hlo_2_1 : ∀ (s740 : mh_H) (x739 : Int32), mh_Fr S_eX5_goIn s0 s740 → mh_Fr S_eX5_goIn s0 (lo_2_1 s740 x739)) (fs842 : mh_Fr S_eX5_goIn s0 s842) : mh_Fr S_eX5_goIn s0 (j_eX5_goIn_117_2 lo_2_1 s842 x739) := by
  have fs0 : mh_Fr S_eX5_goIn s0 s0 := ⟨mh_F_rf, hp⟩
  unfold j_eX5_goIn_117_2
  exact (mh_fA (fun x845 => (hlo_2_1 s842 x845 fs842)))
theorem fr_j_eX5_goIn_115_3 (s0 : mh_H) (hp : mh_p3 s0) (lo_2_1 : mh_H → Int32 → mh_H) (s740 : mh_H) (x739 : Int32) (x866 : Int32) (x869 : Int32) (x880 : Int32) (hlo_2_1 : ∀ (s740 : mh_H) (x739 : Int32), mh_Fr S_eX5_goIn s0 s740 → mh_Fr S_eX5_goIn s0 (lo_2_1 s740 x739)) (fs740 : mh_Fr S_eX5_goIn s0 s740) : mh_Fr S_eX5_goIn s0 (j_eX5_goIn_115_3 lo_2_1 s740 x739 x866 x869 x880) := by
  have fs0 : mh_Fr S_eX5_goIn s0 s0 := ⟨mh_F_rf, hp⟩
  unfold j_eX5_goIn_115_3
  exact (mh_fA (fun x885 => (mh_fB (mh_Fr_pI fs740 (mh_si 0 rfl)) (fun s887 fs887 => (fr_j_eX5_goIn_117_2 s0 hp lo_2_1 s887 x739 hlo_2_1 fs887)))))
theorem fr_l_eX5_goIn_2_1 (s0 : mh_H) (hp : mh_p3 s0) (p1 : Int32) : ∀ (n : Nat) (s740 : mh_H) (x739 : Int32), mh_Fr S_eX5_goIn s0 s740 → mh_Fr S_eX5_goIn s0 (l_eX5_goIn_2_1 p1 n s740 x739) := by
  have fs0 : mh_Fr S_eX5_goIn s0 s0 := ⟨mh_F_rf, hp⟩
  intro n
  induction n with
  | zero => intro s740 x739 fs740; exact fs740
  | succ n ih =>
    intro s740 x739 fs740
    have hlo_2_1 := ih
    rw [l_eX5_goIn_2_1_s]
    unfold ls_eX5_goIn_2_1
    exact (mh_fI (mh_fA (fun x795 => (mh_fA (fun x797 => (mh_fA (fun x799 => (mh_fA (fun x801 => (mh_fI (fr_j_eX5_goIn_117_2 s0 hp (l_eX5_goIn_2_1 p1 n) s740 x739 hlo_2_1 fs740) (mh_fA (fun x848 => (mh_fI (mh_fI (fr_j_eX5_goIn_117_2 s0 hp (l_eX5_goIn_2_1 p1 n) s740 x739 hlo_2_1 fs740) (mh_fA (fun x852 => (mh_fA (fun x854 => (mh_fA (fun x858 => (mh_fA (fun x860 => (mh_fA (fun x864 => (mh_fA (fun x866 => (mh_fI (fr_j_eX5_goIn_117_2 s0 hp (l_eX5_goIn_2_1 p1 n) s740 x739 hlo_2_1 fs740) (mh_fA (fun x869 => (mh_fI (fr_j_eX5_goIn_115_3 s0 hp (l_eX5_goIn_2_1 p1 n) s740 x739 x866 x869 x799 hlo_2_1 fs740) (mh_fA (fun x892 => (mh_fA (fun x894 => (fr_j_eX5_goIn_115_3 s0 hp (l_eX5_goIn_2_1 p1 n) s740 x739 x866 x869 x894 hlo_2_1 fs740)))))))))))))))))))))) (fr_j_eX5_goIn_117_2 s0 hp (l_eX5_goIn_2_1 p1 n) s740 x739 hlo_2_1 fs740))))))))))))) fs740)
theorem fr_eX5_goIn (s0 : mh_H) (p1 : Int32) (hp : mh_p3 s0) : mh_Fr S_eX5_goIn s0 (f_eX5_goIn s0 p1) := by
  have fs0 : mh_Fr S_eX5_goIn s0 s0 := ⟨mh_F_rf, hp⟩
  unfold f_eX5_goIn
  exact (fr_l_eX5_goIn_2_1 s0 hp p1 21 s0 (0 : Int32) fs0)
theorem fr_j_eX5_go_70_3 (s0 : mh_H) (hp : mh_p3 s0) (lo_3_1 : mh_H → Int32 → Int32 × mh_H) (s328 : mh_H) (x253 : Int32) (hlo_3_1 : ∀ (s254 : mh_H) (x253 : Int32), mh_Fr S_eX5_go s0 s254 → mh_FrP S_eX5_go s0 (lo_3_1 s254 x253)) (fs328 : mh_Fr S_eX5_go s0 s328) : mh_FrP S_eX5_go s0 (j_eX5_go_70_3 lo_3_1 s328 x253) := by
  have fs0 : mh_Fr S_eX5_go s0 s0 := ⟨mh_F_rf, hp⟩
  unfold j_eX5_go_70_3
  exact (mh_fA (fun x331 => (hlo_3_1 s328 x331 fs328)))
theorem fr_j_eX5_go_47_2 (s0 : mh_H) (hp : mh_p3 s0) (lo_3_1 : mh_H → Int32 → Int32 × mh_H) (s302 : mh_H) (p3 : Int32) (x253 : Int32) (hlo_3_1 : ∀ (s254 : mh_H) (x253 : Int32), mh_Fr S_eX5_go s0 s254 → mh_FrP S_eX5_go s0 (lo_3_1 s254 x253)) (fs302 : mh_Fr S_eX5_go s0 s302) : mh_FrP S_eX5_go s0 (j_eX5_go_47_2 lo_3_1 s302 p3 x253) := by
  have fs0 : mh_Fr S_eX5_go s0 s0 := ⟨mh_F_rf, hp⟩
  unfold j_eX5_go_47_2
  exact (mh_fI (fr_j_eX5_go_70_3 s0 hp lo_3_1 s302 x253 hlo_3_1 fs302) (mh_fA (fun x334 => (mh_fA (fun x336 => (mh_fA (fun x338 => (mh_fA (fun x340 => (mh_fB (mh_Fr_pI fs302 (mh_si 0 rfl)) (fun s342 fs342 => (fr_j_eX5_go_70_3 s0 hp lo_3_1 s342 x253 hlo_3_1 fs342))))))))))))
theorem fr_l_eX5_go_3_1 (s0 : mh_H) (hp : mh_p3 s0) (p1 : Int32) (p2 : Int32) (p3 : Int32) : ∀ (n : Nat) (s254 : mh_H) (x253 : Int32), mh_Fr S_eX5_go s0 s254 → mh_FrP S_eX5_go s0 (l_eX5_go_3_1 p1 p2 p3 n s254 x253) := by
  have fs0 : mh_Fr S_eX5_go s0 s0 := ⟨mh_F_rf, hp⟩
  intro n
  induction n with
  | zero => intro s254 x253 fs254; exact fs254
  | succ n ih =>
    intro s254 x253 fs254
    have hlo_3_1 := ih
    rw [l_eX5_go_3_1_s]
    unfold ls_eX5_go_3_1
    exact (mh_fA (fun x287 => (mh_fA (fun x289 => (mh_fI (mh_fA (fun x292 => (mh_fI (mh_fA (fun x296 => (mh_fI (fr_j_eX5_go_47_2 s0 hp (l_eX5_go_3_1 p1 p2 p3 n) s254 p3 x253 hlo_3_1 fs254) (mh_fB (mh_Fr_tv fs254 (fr_eX5_goIn s254 x253 fs254.2) (by decide +kernel)) (fun s346 fs346 => (fr_j_eX5_go_47_2 s0 hp (l_eX5_go_3_1 p1 p2 p3 n) s346 p3 x253 hlo_3_1 fs346)))))) fs254))) fs254)))))
theorem fr_eX5_go (s0 : mh_H) (p1 : Int32) (p2 : Int32) (p3 : Int32) (hp : mh_p3 s0) : mh_FrP S_eX5_go s0 (f_eX5_go s0 p1 p2 p3) := by
  have fs0 : mh_Fr S_eX5_go s0 s0 := ⟨mh_F_rf, hp⟩
  unfold f_eX5_go
  exact (fr_l_eX5_go_3_1 s0 hp p1 p2 p3 301 s0 p2 fs0)
theorem fr_eX5_leave (s0 : mh_H) (p1 : Int32) (p2 : Int32) (hp : mh_p3 s0) : mh_Fr S_eX5_leave s0 (f_eX5_leave s0 p1 p2) := by
  have fs0 : mh_Fr S_eX5_leave s0 s0 := ⟨mh_F_rf, hp⟩
  unfold f_eX5_leave
  exact (mh_fB (mh_Fr_tv fs0 (fr_eJ7_fill_re s0 (0 : Int32) fs0.2) (by decide +kernel)) (fun s9 fs9 => (mh_fA (fun x11 => (mh_fB (mh_Fr_pI fs9 (mh_si 0 rfl)) (fun s13 fs13 => fs13))))))
theorem fr_j_eX5_look_36_2 (s0 : mh_H) (kv : Nat) (hkv : mh_isV kv) (kl : Nat) (hkl : mh_isL kl) (hp : mh_p3 s0) (lo_2_1 : mh_H → Int32 → mh_H) (s280 : mh_H) (x249 : Int32) (x279 : Int32) (hlo_2_1 : ∀ (s250 : mh_H) (x249 : Int32), mh_Fr (S_eX5_look kv kl) s0 s250 → mh_Fr (S_eX5_look kv kl) s0 (lo_2_1 s250 x249)) (fs280 : mh_Fr (S_eX5_look kv kl) s0 s280) : mh_Fr (S_eX5_look kv kl) s0 (j_eX5_look_36_2 lo_2_1 s280 x249 x279) := by
  have fs0 : mh_Fr (S_eX5_look kv kl) s0 s0 := ⟨mh_F_rf, hp⟩
  unfold j_eX5_look_36_2
  exact (mh_fB (mh_Fr_pI fs280 (mh_si 2 rfl)) (fun s285 fs285 => (mh_fA (fun x287 => (hlo_2_1 s285 x287 fs285)))))
theorem fr_l_eX5_look_2_1 (s0 : mh_H) (kv : Nat) (hkv : mh_isV kv) (kl : Nat) (hkl : mh_isL kl) (hp : mh_p3 s0) : ∀ (n : Nat) (s250 : mh_H) (x249 : Int32), mh_Fr (S_eX5_look kv kl) s0 s250 → mh_Fr (S_eX5_look kv kl) s0 (l_eX5_look_2_1 kl kv n s250 x249) := by
  have fs0 : mh_Fr (S_eX5_look kv kl) s0 s0 := ⟨mh_F_rf, hp⟩
  intro n
  induction n with
  | zero => intro s250 x249 fs250; exact fs250
  | succ n ih =>
    intro s250 x249 fs250
    have hlo_2_1 := ih
    rw [l_eX5_look_2_1_s]
    unfold ls_eX5_look_2_1
    exact (mh_fI (mh_fA (fun x270 => (mh_fI (fr_j_eX5_look_36_2 s0 kv hkv kl hkl hp (l_eX5_look_2_1 kl kv n) s250 x249 (0 : Int32) hlo_2_1 fs250) (mh_fA (fun x290 => (mh_fC (mh_Fr_tl fs250 (fr_eX1_yards s250 kv hkv kl hkl x290 fs250.2) (by rcases hkl with rfl | rfl <;> rcases hkv with rfl | rfl | rfl <;> decide +kernel)) (fun x292 s293 fs293 => (fr_j_eX5_look_36_2 s0 kv hkv kl hkl hp (l_eX5_look_2_1 kl kv n) s293 x249 x292 hlo_2_1 fs293)))))))) fs250)
theorem fr_eX5_look (s0 : mh_H) (kv : Nat) (hkv : mh_isV kv) (kl : Nat) (hkl : mh_isL kl) (hp : mh_p3 s0) : mh_Fr (S_eX5_look kv kl) s0 (f_eX5_look s0 kv kl) := by
  have fs0 : mh_Fr (S_eX5_look kv kl) s0 s0 := ⟨mh_F_rf, hp⟩
  unfold f_eX5_look
  exact (fr_l_eX5_look_2_1 s0 kv hkv kl hkl hp 21 s0 (0 : Int32) fs0)
theorem fr_j_eX6_look_81_2 (s0 : mh_H) (kv : Nat) (hkv : mh_isV kv) (kl : Nat) (hkl : mh_isL kl) (hp : mh_p3 s0) (lo_18_1 : mh_H → Int32 → mh_H) (s720 : mh_H) (x663 : Int32) (hlo_18_1 : ∀ (s664 : mh_H) (x663 : Int32), mh_Fr (S_eX6_look kv kl) s0 s664 → mh_Fr (S_eX6_look kv kl) s0 (lo_18_1 s664 x663)) (fs720 : mh_Fr (S_eX6_look kv kl) s0 s720) : mh_Fr (S_eX6_look kv kl) s0 (j_eX6_look_81_2 lo_18_1 s720 x663) := by
  have fs0 : mh_Fr (S_eX6_look kv kl) s0 s0 := ⟨mh_F_rf, hp⟩
  unfold j_eX6_look_81_2
  exact (mh_fA (fun x723 => (hlo_18_1 s720 x723 fs720)))
theorem fr_j_eX6_look_65_3 (s0 : mh_H) (kv : Nat) (hkv : mh_isV kv) (kl : Nat) (hkl : mh_isL kl) (hp : mh_p3 s0) (lo_18_1 : mh_H → Int32 → mh_H) (s730 : mh_H) (x663 : Int32) (x696 : Int32) (x738 : Int32) (hlo_18_1 : ∀ (s664 : mh_H) (x663 : Int32), mh_Fr (S_eX6_look kv kl) s0 s664 → mh_Fr (S_eX6_look kv kl) s0 (lo_18_1 s664 x663)) (fs730 : mh_Fr (S_eX6_look kv kl) s0 s730) : mh_Fr (S_eX6_look kv kl) s0 (j_eX6_look_65_3 lo_18_1 s730 x663 x696 x738) := by
  have fs0 : mh_Fr (S_eX6_look kv kl) s0 s0 := ⟨mh_F_rf, hp⟩
  unfold j_eX6_look_65_3
  exact (mh_fB (mh_Fr_pI fs730 (mh_sj 1 rfl)) (fun s747 fs747 => (mh_fA (fun x749 => (mh_fA (fun x751 => (mh_fB (mh_Fr_pI fs747 (mh_sj 2 rfl)) (fun s753 fs753 => (fr_j_eX6_look_81_2 s0 kv hkv kl hkl hp lo_18_1 s753 x663 hlo_18_1 fs753)))))))))
theorem fr_l_eX6_look_18_1 (s0 : mh_H) (kv : Nat) (hkv : mh_isV kv) (kl : Nat) (hkl : mh_isL kl) (hp : mh_p3 s0) : ∀ (n : Nat) (s664 : mh_H) (x663 : Int32), mh_Fr (S_eX6_look kv kl) s0 s664 → mh_Fr (S_eX6_look kv kl) s0 (l_eX6_look_18_1 kl kv n s664 x663) := by
  have fs0 : mh_Fr (S_eX6_look kv kl) s0 s0 := ⟨mh_F_rf, hp⟩
  intro n
  induction n with
  | zero => intro s664 x663 fs664; exact fs664
  | succ n ih =>
    intro s664 x663 fs664
    have hlo_18_1 := ih
    rw [l_eX6_look_18_1_s]
    unfold ls_eX6_look_18_1
    exact (mh_fI (mh_fC (mh_Fr_tl fs664 (fr_eX1_top s664 kv hkv kl hkl x663 fs664.2) (by rcases hkl with rfl | rfl <;> rcases hkv with rfl | rfl | rfl <;> decide +kernel)) (fun x696 s697 fs697 => (mh_fI (mh_fA (fun x726 => (mh_fA (fun x728 => (mh_fB (mh_Fr_pI fs697 (mh_sj 0 rfl)) (fun s730 fs730 => (mh_fI (fr_j_eX6_look_65_3 s0 kv hkv kl hkl hp (l_eX6_look_18_1 kl kv n) s730 x663 x696 x663 hlo_18_1 fs730) (mh_fA (fun x756 => (fr_j_eX6_look_65_3 s0 kv hkv kl hkl hp (l_eX6_look_18_1 kl kv n) s730 x663 x696 x756 hlo_18_1 fs730)))))))))) (fr_j_eX6_look_81_2 s0 kv hkv kl hkl hp (l_eX6_look_18_1 kl kv n) s697 x663 hlo_18_1 fs697)))) fs664)
theorem fr_eX6_look (s0 : mh_H) (kv : Nat) (hkv : mh_isV kv) (kl : Nat) (hkl : mh_isL kl) (hp : mh_p3 s0) : mh_Fr (S_eX6_look kv kl) s0 (f_eX6_look s0 kv kl) := by
  have fs0 : mh_Fr (S_eX6_look kv kl) s0 s0 := ⟨mh_F_rf, hp⟩
  unfold f_eX6_look
  exact (mh_fB (mh_Fr_pI fs0 (mh_sj 0 rfl)) (fun s362 fs362 => (mh_fB (mh_Fr_pI fs362 (mh_sj 1 rfl)) (fun s364 fs364 => (mh_fB (mh_Fr_pI fs364 (mh_sj 2 rfl)) (fun s366 fs366 => (fr_l_eX6_look_18_1 s0 kv hkv kl hkl hp 145 s366 (0 : Int32) fs366)))))))
theorem fr_l_eX7_put_3_1 (s0 : mh_H) (hp : mh_p3 s0) (p1 : Int32) : ∀ (n : Nat) (s218 : mh_H) (x217 : Int32), mh_Fr S_eX7_put s0 s218 → mh_Fr S_eX7_put s0 (l_eX7_put_3_1 p1 n s218 x217) := by
  have fs0 : mh_Fr S_eX7_put s0 s0 := ⟨mh_F_rf, hp⟩
  intro n
  induction n with
  | zero => intro s218 x217 fs218; exact fs218
  | succ n ih =>
    intro s218 x217 fs218
    have hlo_3_1 := ih
    rw [l_eX7_put_3_1_s]
    unfold ls_eX7_put_3_1
    exact (mh_fI fs218 (mh_fA (fun x242 => (mh_fI (mh_fA (fun x247 => (mh_fA (fun x249 => (mh_fB (mh_Fr_pI fs218 (mh_si 0 rfl)) (fun s251 fs251 => (mh_fA (fun x256 => (mh_fB (mh_Fr_pI fs251 (mh_sj 1 rfl)) (fun s258 fs258 => (mh_fA (fun x260 => (hlo_3_1 s258 x260 fs258))))))))))))) fs218))))
theorem fr_eX7_put (s0 : mh_H) (p1 : Int32) (hp : mh_p3 s0) : mh_Fr S_eX7_put s0 (f_eX7_put s0 p1) := by
  have fs0 : mh_Fr S_eX7_put s0 s0 := ⟨mh_F_rf, hp⟩
  unfold f_eX7_put
  exact (fr_l_eX7_put_3_1 s0 hp p1 33 s0 (24 : Int32) fs0)
theorem fr_eX9_air (s0 : mh_H) (p1 : Int32) (p2 : Int32) (p3 : Int32) (p4 : Int32) (hp : mh_p3 s0) : mh_FrP S_eX9_air s0 (f_eX9_air s0 p1 p2 p3 p4) := by
  have fs0 : mh_Fr S_eX9_air s0 s0 := ⟨mh_F_rf, hp⟩
  unfold f_eX9_air
  exact (mh_fA (fun x21 => (mh_fI fs0 (mh_fA (fun x25 => (mh_fI fs0 (mh_fA (fun x29 => (mh_fI fs0 (mh_fA (fun x33 => (mh_fA (fun x35 => (mh_fB (mh_Fr_pI fs0 (mh_si 0 rfl)) (fun s37 fs37 => (mh_fB (mh_Fr_pI fs37 (mh_si 1 rfl)) (fun s39 fs39 => fs39)))))))))))))))))
theorem fr_eX9_ground (s0 : mh_H) (p1 : Int32) (p2 : Int32) (p3 : Int32) (p4 : Int32) (hp : mh_p3 s0) : mh_FrP S_eX9_ground s0 (f_eX9_ground s0 p1 p2 p3 p4) := by
  have fs0 : mh_Fr S_eX9_ground s0 s0 := ⟨mh_F_rf, hp⟩
  unfold f_eX9_ground
  exact (mh_fA (fun x21 => (mh_fI fs0 (mh_fA (fun x25 => (mh_fI fs0 (mh_fA (fun x29 => (mh_fI fs0 (mh_fA (fun x33 => (mh_fA (fun x35 => (mh_fB (mh_Fr_pI fs0 (mh_si 0 rfl)) (fun s37 fs37 => (mh_fB (mh_Fr_pI fs37 (mh_si 1 rfl)) (fun s39 fs39 => fs39)))))))))))))))))
theorem fr_eX9_wind (s0 : mh_H) (p1 : Int32) (p2 : Int32) (hp : mh_p3 s0) : mh_FrP S_eX9_wind s0 (f_eX9_wind s0 p1 p2) := by
  have fs0 : mh_Fr S_eX9_wind s0 s0 := ⟨mh_F_rf, hp⟩
  unfold f_eX9_wind
  exact (mh_fA (fun x11 => (mh_fI fs0 (mh_fA (fun x15 => (mh_fI fs0 (mh_fB (mh_Fr_pI fs0 (mh_si 0 rfl)) (fun s19 fs19 => fs19))))))))
theorem fr_eX9_feed (s0 : mh_H) (p1 : Int32) (p2 : Int32) (p3 : Int32) (p4 : Int32) (p5 : Int32) (hp : mh_p3 s0) : mh_FrP S_eX9_feed s0 (f_eX9_feed s0 p1 p2 p3 p4 p5) := by
  have fs0 : mh_Fr S_eX9_feed s0 s0 := ⟨mh_F_rf, hp⟩
  unfold f_eX9_feed
  exact (mh_fA (fun x21 => (mh_fI fs0 (mh_fB (mh_Fr_tv fs0 (fr_eX7_put s0 p1 fs0.2) (by decide +kernel)) (fun s25 fs25 => (mh_fB (mh_Fr_tv fs25 (fr_eX7_put s25 p2 fs25.2) (by decide +kernel)) (fun s28 fs28 => (mh_fB (mh_Fr_tv fs28 (fr_eX7_put s28 p3 fs28.2) (by decide +kernel)) (fun s31 fs31 => (mh_fB (mh_Fr_tv fs31 (fr_eX7_put s31 p4 fs31.2) (by decide +kernel)) (fun s34 fs34 => (mh_fB (mh_Fr_tv fs34 (fr_eX7_put s34 p5 fs34.2) (by decide +kernel)) (fun s37 fs37 => (mh_fA (fun x39 => fs37)))))))))))))))
theorem fr_eX9_was (s0 : mh_H) (p1 : Int32) (p2 : Int32) (p3 : Int32) (p4 : Int32) (p5 : Int32) (hp : mh_p3 s0) : mh_FrP S_eX9_was s0 (f_eX9_was s0 p1 p2 p3 p4 p5) := by
  have fs0 : mh_Fr S_eX9_was s0 s0 := ⟨mh_F_rf, hp⟩
  unfold f_eX9_was
  exact (mh_fA (fun x36 => (mh_fI fs0 (mh_fA (fun x40 => (mh_fI fs0 (mh_fA (fun x44 => (mh_fI fs0 (mh_fA (fun x48 => (mh_fI (mh_fB (mh_Fr_pI fs0 (mh_si 0 rfl)) (fun s53 fs53 => (mh_fB (mh_Fr_pI fs53 (mh_si 1 rfl)) (fun s55 fs55 => (mh_fB (mh_Fr_pI fs55 (mh_si 2 rfl)) (fun s57 fs57 => (mh_fB (mh_Fr_pI fs57 (mh_si 3 rfl)) (fun s59 fs59 => (mh_fB (mh_Fr_pI fs59 (mh_si 4 rfl)) (fun s61 fs61 => (mh_fA (fun x70 => (mh_fB (mh_Fr_pI fs61 (mh_sj 5 rfl)) (fun s72 fs72 => fs72)))))))))))))) fs0))))))))))))
theorem fr_eX9_seed (s0 : mh_H) (p1 : Int32) (hp : mh_p3 s0) : mh_FrP S_eX9_seed s0 (f_eX9_seed s0 p1) := by
  have fs0 : mh_Fr S_eX9_seed s0 s0 := ⟨mh_F_rf, hp⟩
  unfold f_eX9_seed
  exact (mh_fA (fun x7 => (mh_fI fs0 (mh_fB (mh_Fr_pI fs0 (mh_sj 0 rfl)) (fun s11 fs11 => fs11)))))
theorem fr_eX9_road (s0 : mh_H) (p1 : Int32) (p2 : Int32) (p3 : Int32) (p4 : Int32) (p5 : Int32) (hp : mh_p3 s0) : mh_FrP S_eX9_road s0 (f_eX9_road s0 p1 p2 p3 p4 p5) := by
  have fs0 : mh_Fr S_eX9_road s0 s0 := ⟨mh_F_rf, hp⟩
  unfold f_eX9_road
  exact (mh_fA (fun x40 => (mh_fI fs0 (mh_fA (fun x44 => (mh_fI fs0 (mh_fA (fun x48 => (mh_fI fs0 (mh_fI fs0 (mh_fI fs0 (mh_fI fs0 (mh_fA (fun x55 => (mh_fI fs0 (mh_fA (fun x59 => (mh_fA (fun x61 => (mh_fA (fun x63 => (mh_fB (mh_Fr_pI fs0 (mh_si 0 rfl)) (fun s65 fs65 => (mh_fB (mh_Fr_pI fs65 (mh_si 1 rfl)) (fun s67 fs67 => (mh_fB (mh_Fr_pI fs67 (mh_si 2 rfl)) (fun s69 fs69 => (mh_fA (fun x71 => (mh_fA (fun x73 => (mh_fA (fun x75 => (mh_fB (mh_Fr_pI fs69 (mh_sj 3 rfl)) (fun s77 fs77 => fs77)))))))))))))))))))))))))))))))))))
theorem fr_eX9_keep (s0 : mh_H) (hp : mh_p3 s0) : mh_FrP S_eX9_keep s0 (f_eX9_keep s0) := by
  have fs0 : mh_Fr S_eX9_keep s0 s0 := ⟨mh_F_rf, hp⟩
  unfold f_eX9_keep
  exact (mh_fB (mh_Fr_tv fs0 (fr_eX8_copyFrom s0 7 (Or.inr (Or.inl rfl)) 1 (Or.inl rfl) fs0.2) (by decide +kernel)) (fun s9 fs9 => (mh_fB (mh_Fr_pI fs9 (mh_sj 8 rfl)) (fun s11 fs11 => (mh_fA (fun x13 => fs11))))))
theorem fr_eX9_undo (s0 : mh_H) (hp : mh_p3 s0) : mh_FrP S_eX9_undo s0 (f_eX9_undo s0) := by
  have fs0 : mh_Fr S_eX9_undo s0 s0 := ⟨mh_F_rf, hp⟩
  unfold f_eX9_undo
  exact (mh_fA (fun x7 => (mh_fI fs0 (mh_fB (mh_Fr_tv fs0 (fr_eX8_copyFrom s0 1 (Or.inl rfl) 7 (Or.inr (Or.inl rfl)) fs0.2) (by decide +kernel)) (fun s11 fs11 => fs11)))))
theorem fr_l_eX9_passTrial_33_2 (s0 : mh_H) (hp : mh_p3 s0) (p1 : Int32) : ∀ (n : Nat) (s266 : mh_H) (x265 : Int32), mh_Fr S_eX9_passTrial s0 s266 → mh_Fr S_eX9_passTrial s0 (l_eX9_passTrial_33_2 p1 n s266 x265) := by
  have fs0 : mh_Fr S_eX9_passTrial s0 s0 := ⟨mh_F_rf, hp⟩
  intro n
  induction n with
  | zero => intro s266 x265 fs266; exact fs266
  | succ n ih =>
    intro s266 x265 fs266
    have hlo_33_2 := ih
    rw [l_eX9_passTrial_33_2_s]
    unfold ls_eX9_passTrial_33_2
    exact (mh_fI (mh_fK (fs266.2.1) (fun k279 hk279 => (mh_fB (mh_Fr_tv fs266 (fr_eX0_pass s266 13 (Or.inr (Or.inr rfl)) k279 hk279 fs266.2) (by rcases hk279 with rfl | rfl <;> decide +kernel)) (fun s281 fs281 => (mh_fA (fun x283 => (hlo_33_2 s281 x283 fs281))))))) fs266)
theorem fr_j_eX9_passTrial_31_1 (s0 : mh_H) (hp : mh_p3 s0) (s108 : mh_H) (p1 : Int32) (fs108 : mh_Fr S_eX9_passTrial s0 s108) : mh_Fr S_eX9_passTrial s0 (j_eX9_passTrial_31_1 s108 p1) := by
  have fs0 : mh_Fr S_eX9_passTrial s0 s0 := ⟨mh_F_rf, hp⟩
  unfold j_eX9_passTrial_31_1
  exact (fr_l_eX9_passTrial_33_2 s0 hp p1 61 s108 (0 : Int32) fs108)
theorem fr_eX9_passTrial (s0 : mh_H) (p1 : Int32) (p2 : Int32) (hp : mh_p3 s0) : mh_Fr S_eX9_passTrial s0 (f_eX9_passTrial s0 p1 p2) := by
  have fs0 : mh_Fr S_eX9_passTrial s0 s0 := ⟨mh_F_rf, hp⟩
  unfold f_eX9_passTrial
  exact (mh_fB (mh_Fr_tv fs0 (fr_eX8_copyFrom s0 13 (Or.inr (Or.inr rfl)) 1 (Or.inl rfl) fs0.2) (by decide +kernel)) (fun s100 fs100 => (mh_fA (fun x102 => (mh_fI (fr_j_eX9_passTrial_31_1 s0 hp s100 p1 fs100) (mh_fB (mh_Fr_pI fs100 (mh_si 1 rfl)) (fun s286 fs286 => (fr_j_eX9_passTrial_31_1 s0 hp s286 p1 fs286))))))))
theorem fr_l_eX9_band_37_1 (s0 : mh_H) (hp : mh_p3 s0) (p1 : Int32) (p2 : Int32) : ∀ (n : Nat) (s240 : mh_H) (x238 : Int32) (x239 : Int32), mh_Fr S_eX9_band s0 s240 → mh_FrP S_eX9_band s0 (l_eX9_band_37_1 p1 p2 n s240 x238 x239) := by
  have fs0 : mh_Fr S_eX9_band s0 s0 := ⟨mh_F_rf, hp⟩
  intro n
  induction n with
  | zero => intro s240 x238 x239 fs240; exact fs240
  | succ n ih =>
    intro s240 x238 x239 fs240
    have hlo_37_1 := ih
    rw [l_eX9_band_37_1_s]
    unfold ls_eX9_band_37_1
    exact (mh_fI (mh_fK (fs240.2.1) (fun k260 hk260 => (mh_fB (mh_Fr_tv fs240 (fr_eX0_pass s240 13 (Or.inr (Or.inr rfl)) k260 hk260 fs240.2) (by rcases hk260 with rfl | rfl <;> decide +kernel)) (fun s262 fs262 => (mh_fA (fun x264 => (mh_fA (fun x267 => (mh_fA (fun x269 => (hlo_37_1 s262 x269 x267 fs262))))))))))) (mh_fI fs240 fs240))
theorem fr_eX9_band (s0 : mh_H) (p1 : Int32) (p2 : Int32) (hp : mh_p3 s0) : mh_FrP S_eX9_band s0 (f_eX9_band s0 p1 p2) := by
  have fs0 : mh_Fr S_eX9_band s0 s0 := ⟨mh_F_rf, hp⟩
  unfold f_eX9_band
  exact (mh_fA (fun x136 => (mh_fI fs0 (mh_fI fs0 (mh_fI fs0 (mh_fB (mh_Fr_tv fs0 (fr_eX8_copyFrom s0 13 (Or.inr (Or.inr rfl)) 1 (Or.inl rfl) fs0.2) (by decide +kernel)) (fun s143 fs143 => (fr_l_eX9_band_37_1 s0 hp p1 p2 61 s143 (0 : Int32) (0 : Int32) fs143))))))))
theorem fr_eX9_cell (s0 : mh_H) (p1 : Int32) (p2 : Int32) (p3 : Int32) (hp : mh_p3 s0) : mh_FrP S_eX9_cell s0 (f_eX9_cell s0 p1 p2 p3) := by
  have fs0 : mh_Fr S_eX9_cell s0 s0 := ⟨mh_F_rf, hp⟩
  unfold f_eX9_cell
  exact (mh_fA (fun x39 => (mh_fI fs0 (mh_fA (fun x43 => (mh_fA (fun x45 => (mh_fI (mh_fA (fun x48 => fs0)) (mh_fI (mh_fA (fun x50 => fs0)) (mh_fI (mh_fA (fun x52 => fs0)) (mh_fI (mh_fA (fun x54 => fs0)) (mh_fI (mh_fK (fs0.2.1) (fun k57 hk57 => (mh_fC (mh_Fr_tl fs0 (fr_eX1_mist s0 1 (Or.inl rfl) k57 hk57 x45 fs0.2) (by rcases hk57 with rfl | rfl <;> decide +kernel)) (fun x58 s59 fs59 => fs59)))) (mh_fI (mh_fK (fs0.2.1) (fun k62 hk62 => (mh_fC (mh_Fr_tl fs0 (fr_eX1_top s0 1 (Or.inl rfl) k62 hk62 x45 fs0.2) (by rcases hk62 with rfl | rfl <;> decide +kernel)) (fun x63 s64 fs64 => (mh_fA (fun x66 => fs64)))))) (mh_fI (mh_fK (fs0.2.1) (fun k70 hk70 => (mh_fC (mh_Fr_tl fs0 (fr_eX1_yards s0 1 (Or.inl rfl) k70 hk70 x45 fs0.2) (by rcases hk70 with rfl | rfl <;> decide +kernel)) (fun x71 s72 fs72 => fs72)))) (mh_fI (mh_fA (fun x74 => fs0)) fs0)))))))))))))))
theorem fr_l_eX9_check_44_1 (s0 : mh_H) (hp : mh_p3 s0) (s182 : mh_H) (p1 : Int32) (p2 : Int32) (fs182 : mh_Fr S_eX9_check s0 s182) : ∀ (n : Nat) (x309 : Int32), mh_FrP S_eX9_check s0 (l_eX9_check_44_1 s182 p1 p2 n x309) := by
  have fs0 : mh_Fr S_eX9_check s0 s0 := ⟨mh_F_rf, hp⟩
  intro n
  induction n with
  | zero => intro x309; exact fs182
  | succ n ih =>
    intro x309
    have hlo_44_1 := ih
    rw [l_eX9_check_44_1_s]
    unfold ls_eX9_check_44_1
    exact (mh_fI (mh_fA (fun x325 => (mh_fA (fun x328 => (mh_fA (fun x330 => (mh_fA (fun x332 => (mh_fI (mh_fA (fun x335 => (hlo_44_1 x335))) fs182))))))))) fs182)
theorem fr_eX9_check (s0 : mh_H) (p1 : Int32) (p2 : Int32) (hp : mh_p3 s0) : mh_FrP S_eX9_check s0 (f_eX9_check s0 p1 p2) := by
  have fs0 : mh_Fr S_eX9_check s0 s0 := ⟨mh_F_rf, hp⟩
  unfold f_eX9_check
  exact (mh_fA (fun x169 => (mh_fI fs0 (mh_fA (fun x173 => (mh_fI fs0 (mh_fA (fun x177 => (mh_fA (fun x179 => (mh_fI fs0 (mh_fB (mh_Fr_pI fs0 (mh_sj 0 rfl)) (fun s182 fs182 => (fr_l_eX9_check_44_1 s0 hp s182 p1 p2 fs182 13 (0 : Int32)))))))))))))))
theorem fr_j_eX9_dam_101_2 (s0 : mh_H) (hp : mh_p3 s0) (lo_43_1 : mh_H → Int32 → Int32 → Int32 → Int32 × mh_H) (s614 : mh_H) (x575 : Int32) (x612 : Int32) (x613 : Int32) (hlo_43_1 : ∀ (s578 : mh_H) (x575 : Int32) (x576 : Int32) (x577 : Int32), mh_Fr S_eX9_dam s0 s578 → mh_FrP S_eX9_dam s0 (lo_43_1 s578 x575 x576 x577)) (fs614 : mh_Fr S_eX9_dam s0 s614) : mh_FrP S_eX9_dam s0 (j_eX9_dam_101_2 lo_43_1 s614 x575 x612 x613) := by
  have fs0 : mh_Fr S_eX9_dam s0 s0 := ⟨mh_F_rf, hp⟩
  unfold j_eX9_dam_101_2
  exact (mh_fA (fun x617 => (hlo_43_1 s614 x617 x613 x612 fs614)))
theorem fr_l_eX9_dam_43_1 (s0 : mh_H) (hp : mh_p3 s0) (p1 : Int32) (p2 : Int32) (p3 : Int32) : ∀ (n : Nat) (s578 : mh_H) (x575 : Int32) (x576 : Int32) (x577 : Int32), mh_Fr S_eX9_dam s0 s578 → mh_FrP S_eX9_dam s0 (l_eX9_dam_43_1 p1 p2 p3 n s578 x575 x576 x577) := by
  have fs0 : mh_Fr S_eX9_dam s0 s0 := ⟨mh_F_rf, hp⟩
  intro n
  induction n with
  | zero => intro s578 x575 x576 x577 fs578; exact fs578
  | succ n ih =>
    intro s578 x575 x576 x577 fs578
    have hlo_43_1 := ih
    rw [l_eX9_dam_43_1_s]
    unfold ls_eX9_dam_43_1
    exact (mh_fI (mh_fI (mh_fI (fr_j_eX9_dam_101_2 s0 hp (l_eX9_dam_43_1 p1 p2 p3 n) s578 x575 x577 x576 hlo_43_1 fs578) (mh_fB (mh_Fr_tv fs578 (fr_eX9_passTrial s578 p2 x575 fs578.2) (by decide +kernel)) (fun s621 fs621 => (mh_fA (fun x623 => (mh_fI (fr_j_eX9_dam_101_2 s0 hp (l_eX9_dam_43_1 p1 p2 p3 n) s621 x575 x575 x623 hlo_43_1 fs621) (fr_j_eX9_dam_101_2 s0 hp (l_eX9_dam_43_1 p1 p2 p3 n) s621 x575 x577 x576 hlo_43_1 fs621))))))) (mh_fI fs578 fs578)) (mh_fI fs578 fs578))
theorem fr_eX9_dam (s0 : mh_H) (p1 : Int32) (p2 : Int32) (p3 : Int32) (hp : mh_p3 s0) : mh_FrP S_eX9_dam s0 (f_eX9_dam s0 p1 p2 p3) := by
  have fs0 : mh_Fr S_eX9_dam s0 s0 := ⟨mh_F_rf, hp⟩
  unfold f_eX9_dam
  exact (mh_fA (fun x309 => (mh_fI fs0 (mh_fI fs0 (mh_fI fs0 (mh_fA (fun x315 => (mh_fI fs0 (fr_l_eX9_dam_43_1 s0 hp p1 p2 p3 145 s0 (0 : Int32) (10000 : Int32) (-2 : Int32) fs0)))))))))
theorem fr_l_eX9_draw_19_1 (s0 : mh_H) (hp : mh_p3 s0) (p1 : Int32) (x117 : Int32) : ∀ (n : Nat) (s196 : mh_H) (x195 : Int32), mh_Fr S_eX9_draw s0 s196 → mh_FrP S_eX9_draw s0 (l_eX9_draw_19_1 p1 x117 n s196 x195) := by
  have fs0 : mh_Fr S_eX9_draw s0 s0 := ⟨mh_F_rf, hp⟩
  intro n
  induction n with
  | zero => intro s196 x195 fs196; exact fs196
  | succ n ih =>
    intro s196 x195 fs196
    have hlo_19_1 := ih
    rw [l_eX9_draw_19_1_s]
    unfold ls_eX9_draw_19_1
    exact (mh_fI (mh_fB (mh_Fr_tv fs196 (fr_eX8_drawWind s196 1 (Or.inl rfl) fs196.2) (by decide +kernel)) (fun s216 fs216 => (mh_fK (fs216.2.1) (fun k219 hk219 => (mh_fB (mh_Fr_tv fs216 (fr_eX0_pass s216 1 (Or.inl rfl) k219 hk219 fs216.2) (by rcases hk219 with rfl | rfl <;> decide +kernel)) (fun s221 fs221 => (mh_fA (fun x223 => (hlo_19_1 s221 x223 fs221))))))))) (mh_fA (fun x211 => (mh_fA (fun x213 => fs196)))))
theorem fr_eX9_draw (s0 : mh_H) (p1 : Int32) (hp : mh_p3 s0) : mh_FrP S_eX9_draw s0 (f_eX9_draw s0 p1) := by
  have fs0 : mh_Fr S_eX9_draw s0 s0 := ⟨mh_F_rf, hp⟩
  unfold f_eX9_draw
  exact (mh_fA (fun x113 => (mh_fI fs0 (mh_fA (fun x117 => (fr_l_eX9_draw_19_1 s0 hp p1 x117 61 s0 (0 : Int32) fs0))))))
theorem fr_j_eX9_edge_133_3 (s0 : mh_H) (hp : mh_p3 s0) (lo_51_2 : Int32 → Int32 → Int32 → Int32 → Int32 × mh_H) (x3141 : Int32) (x3200 : Int32) (x3201 : Int32) (x3202 : Int32) (hlo_51_2 : ∀ (x3141 : Int32) (x3142 : Int32) (x3143 : Int32) (x3144 : Int32), mh_FrP S_eX9_edge s0 (lo_51_2 x3141 x3142 x3143 x3144)) : mh_FrP S_eX9_edge s0 (j_eX9_edge_133_3 lo_51_2 x3141 x3200 x3201 x3202) := by
  have fs0 : mh_Fr S_eX9_edge s0 s0 := ⟨mh_F_rf, hp⟩
  unfold j_eX9_edge_133_3
  exact (mh_fA (fun x3205 => (hlo_51_2 x3205 x3200 x3201 x3202)))
theorem fr_l_eX9_edge_51_2 (s0 : mh_H) (hp : mh_p3 s0) (lo_38_1 : Int32 → Int32 → Int32 → Int32 → Int32 × mh_H) (s1610 : mh_H) (x3007 : Int32) (hlo_38_1 : ∀ (x3007 : Int32) (x3008 : Int32) (x3009 : Int32) (x3010 : Int32), mh_FrP S_eX9_edge s0 (lo_38_1 x3007 x3008 x3009 x3010)) (fs1610 : mh_Fr S_eX9_edge s0 s1610) : ∀ (n : Nat) (x3141 : Int32) (x3142 : Int32) (x3143 : Int32) (x3144 : Int32), mh_FrP S_eX9_edge s0 (l_eX9_edge_51_2 lo_38_1 s1610 x3007 n x3141 x3142 x3143 x3144) := by
  have fs0 : mh_Fr S_eX9_edge s0 s0 := ⟨mh_F_rf, hp⟩
  intro n
  induction n with
  | zero => intro x3141 x3142 x3143 x3144; exact fs1610
  | succ n ih =>
    intro x3141 x3142 x3143 x3144
    have hlo_51_2 := ih
    rw [l_eX9_edge_51_2_s]
    unfold ls_eX9_edge_51_2
    exact (mh_fI (mh_fA (fun x3179 => (mh_fI (fr_j_eX9_edge_133_3 s0 hp (l_eX9_edge_51_2 lo_38_1 s1610 x3007 n) x3141 x3142 x3143 x3144 hlo_51_2) (mh_fA (fun x3208 => (mh_fA (fun x3210 => (mh_fA (fun x3212 => (mh_fA (fun x3214 => (mh_fI (mh_fA (fun x3223 => (fr_j_eX9_edge_133_3 s0 hp (l_eX9_edge_51_2 lo_38_1 s1610 x3007 n) x3141 x3007 x3141 x3223 hlo_51_2))) (fr_j_eX9_edge_133_3 s0 hp (l_eX9_edge_51_2 lo_38_1 s1610 x3007 n) x3141 x3142 x3143 x3144 hlo_51_2))))))))))))) (mh_fA (fun x3177 => (hlo_38_1 x3177 x3144 x3143 x3142))))
theorem fr_l_eX9_edge_38_1 (s0 : mh_H) (hp : mh_p3 s0) (s1610 : mh_H) (p1 : Int32) (fs1610 : mh_Fr S_eX9_edge s0 s1610) : ∀ (n : Nat) (x3007 : Int32) (x3008 : Int32) (x3009 : Int32) (x3010 : Int32), mh_FrP S_eX9_edge s0 (l_eX9_edge_38_1 s1610 p1 n x3007 x3008 x3009 x3010) := by
  have fs0 : mh_Fr S_eX9_edge s0 s0 := ⟨mh_F_rf, hp⟩
  intro n
  induction n with
  | zero => intro x3007 x3008 x3009 x3010; exact fs1610
  | succ n ih =>
    intro x3007 x3008 x3009 x3010
    have hlo_38_1 := ih
    rw [l_eX9_edge_38_1_s]
    unfold ls_eX9_edge_38_1
    exact (mh_fI (mh_fA (fun x3112 => (fr_l_eX9_edge_51_2 s0 hp (l_eX9_edge_38_1 s1610 p1 n) s1610 x3007 hlo_38_1 fs1610 20 x3112 x3010 x3009 x3008))) (mh_fI fs1610 (mh_fI fs1610 fs1610)))
theorem fr_eX9_edge (s0 : mh_H) (p1 : Int32) (hp : mh_p3 s0) : mh_FrP S_eX9_edge s0 (f_eX9_edge s0 p1) := by
  have fs0 : mh_Fr S_eX9_edge s0 s0 := ⟨mh_F_rf, hp⟩
  unfold f_eX9_edge
  exact (mh_fA (fun x1603 => (mh_fI fs0 (mh_fK (fs0.2.1) (fun k1608 hk1608 => (mh_fB (mh_Fr_tv fs0 (fr_eX5_look s0 1 (Or.inl rfl) k1608 hk1608 fs0.2) (by rcases hk1608 with rfl | rfl <;> decide +kernel)) (fun s1610 fs1610 => (fr_l_eX9_edge_38_1 s0 hp s1610 p1 fs1610 21 (0 : Int32) (-2 : Int32) (-2 : Int32) (-2 : Int32)))))))))
theorem fr_l_eX9_held_15_1 (s0 : mh_H) (hp : mh_p3 s0) (p1 : Int32) (p2 : Int32) : ∀ (n : Nat) (s341 : mh_H) (x339 : Int32) (x340 : Int32), mh_Fr S_eX9_held s0 s341 → mh_FrP S_eX9_held s0 (l_eX9_held_15_1 p1 p2 n s341 x339 x340) := by
  have fs0 : mh_Fr S_eX9_held s0 s0 := ⟨mh_F_rf, hp⟩
  intro n
  induction n with
  | zero => intro s341 x339 x340 fs341; exact fs341
  | succ n ih =>
    intro s341 x339 x340 fs341
    have hlo_15_1 := ih
    rw [l_eX9_held_15_1_s]
    unfold ls_eX9_held_15_1
    exact (mh_fA (fun x366 => (mh_fI (mh_fK (fs341.2.1) (fun k370 hk370 => (mh_fA (fun x371 => (mh_fA (fun x373 => (mh_fA (fun x375 => (mh_fC (mh_Fr_tl fs341 (fr_eX1_saysMist s341 k370 hk370 x371 x373 x375 fs341.2) (by rcases hk370 with rfl | rfl <;> decide +kernel)) (fun x377 s378 fs378 => (mh_fA (fun x380 => (mh_fA (fun x383 => (mh_fA (fun x385 => (hlo_15_1 s378 x385 x383 fs378))))))))))))))))) fs341)))
theorem fr_eX9_held (s0 : mh_H) (p1 : Int32) (p2 : Int32) (hp : mh_p3 s0) : mh_FrP S_eX9_held s0 (f_eX9_held s0 p1 p2) := by
  have fs0 : mh_Fr S_eX9_held s0 s0 := ⟨mh_F_rf, hp⟩
  unfold f_eX9_held
  exact (mh_fA (fun x194 => (mh_fI fs0 (fr_l_eX9_held_15_1 s0 hp p1 p2 61 s0 (0 : Int32) (0 : Int32) fs0))))
theorem fr_eX9_lid (s0 : mh_H) (p1 : Int32) (p2 : Int32) (p3 : Int32) (p4 : Int32) (hp : mh_p3 s0) : mh_FrP S_eX9_lid s0 (f_eX9_lid s0 p1 p2 p3 p4) := by
  have fs0 : mh_Fr S_eX9_lid s0 s0 := ⟨mh_F_rf, hp⟩
  unfold f_eX9_lid
  exact (mh_fI fs0 (mh_fI fs0 (mh_fI fs0 (mh_fI fs0 (mh_fI fs0 (mh_fI fs0 (mh_fA (fun x26 => (mh_fI fs0 (mh_fC (mh_Fr_tl fs0 (fr_eX2_breaking s0 p1 p2 p3 fs0.2) (by decide +kernel)) (fun y30 s31 fs31 => (mh_fA (fun y33 => (mh_fA (fun y36 => fs31)))))))))))))))
theorem fr_j_eX9_night_152_2 (s0 : mh_H) (hp : mh_p3 s0) (lo_49_1 : mh_H → Int32 → Int32 → Int32 → Int32 → Int32 → Int32 → Int32 × mh_H) (s2007 : mh_H) (x1946 : Int32) (x2028 : Int32) (x2029 : Int32) (x2030 : Int32) (x2031 : Int32) (x2032 : Int32) (hlo_49_1 : ∀ (s1952 : mh_H) (x1946 : Int32) (x1947 : Int32) (x1948 : Int32) (x1949 : Int32) (x1950 : Int32) (x1951 : Int32), mh_Fr S_eX9_night s0 s1952 → mh_FrP S_eX9_night s0 (lo_49_1 s1952 x1946 x1947 x1948 x1949 x1950 x1951)) (fs2007 : mh_Fr S_eX9_night s0 s2007) : mh_FrP S_eX9_night s0 (j_eX9_night_152_2 lo_49_1 s2007 x1946 x2028 x2029 x2030 x2031 x2032) := by
  have fs0 : mh_Fr S_eX9_night s0 s0 := ⟨mh_F_rf, hp⟩
  unfold j_eX9_night_152_2
  exact (mh_fA (fun x2035 => (hlo_49_1 s2007 x2035 x2028 x2032 x2031 x2030 x2029 fs2007)))
theorem fr_j_eX9_night_121_3 (s0 : mh_H) (hp : mh_p3 s0) (lo_49_1 : mh_H → Int32 → Int32 → Int32 → Int32 → Int32 → Int32 → Int32 × mh_H) (s2007 : mh_H) (x1946 : Int32) (x1947 : Int32) (x1950 : Int32) (x1951 : Int32) (x2043 : Int32) (x2044 : Int32) (hlo_49_1 : ∀ (s1952 : mh_H) (x1946 : Int32) (x1947 : Int32) (x1948 : Int32) (x1949 : Int32) (x1950 : Int32) (x1951 : Int32), mh_Fr S_eX9_night s0 s1952 → mh_FrP S_eX9_night s0 (lo_49_1 s1952 x1946 x1947 x1948 x1949 x1950 x1951)) (fs2007 : mh_Fr S_eX9_night s0 s2007) : mh_FrP S_eX9_night s0 (j_eX9_night_121_3 lo_49_1 s2007 x1946 x1947 x1950 x1951 x2043 x2044) := by
  have fs0 : mh_Fr S_eX9_night s0 s0 := ⟨mh_F_rf, hp⟩
  unfold j_eX9_night_121_3
  exact (mh_fA (fun x2054 => (mh_fA (fun x2056 => (mh_fI (mh_fA (fun x2061 => (fr_j_eX9_night_152_2 s0 hp lo_49_1 s2007 x1946 x2054 x2056 x2061 x2043 x2044 hlo_49_1 fs2007))) (fr_j_eX9_night_152_2 s0 hp lo_49_1 s2007 x1946 x2054 x1951 x1950 x2043 x2044 hlo_49_1 fs2007))))))
theorem fr_l_eX9_night_49_1 (s0 : mh_H) (hp : mh_p3 s0) (p1 : Int32) (p2 : Int32) : ∀ (n : Nat) (s1952 : mh_H) (x1946 : Int32) (x1947 : Int32) (x1948 : Int32) (x1949 : Int32) (x1950 : Int32) (x1951 : Int32), mh_Fr S_eX9_night s0 s1952 → mh_FrP S_eX9_night s0 (l_eX9_night_49_1 p1 p2 n s1952 x1946 x1947 x1948 x1949 x1950 x1951) := by
  have fs0 : mh_Fr S_eX9_night s0 s0 := ⟨mh_F_rf, hp⟩
  intro n
  induction n with
  | zero => intro s1952 x1946 x1947 x1948 x1949 x1950 x1951 fs1952; exact fs1952
  | succ n ih =>
    intro s1952 x1946 x1947 x1948 x1949 x1950 x1951 fs1952
    have hlo_49_1 := ih
    rw [l_eX9_night_49_1_s]
    unfold ls_eX9_night_49_1
    exact (mh_fI (mh_fK (fs1952.2.1) (fun k2000 hk2000 => (mh_fB (mh_Fr_tv fs1952 (fr_eX0_pass s1952 13 (Or.inr (Or.inr rfl)) k2000 hk2000 fs1952.2) (by rcases hk2000 with rfl | rfl <;> decide +kernel)) (fun s2002 fs2002 => (mh_fK (fs2002.2.1) (fun k2005 hk2005 => (mh_fB (mh_Fr_tv fs2002 (fr_eX6_look s2002 13 (Or.inr (Or.inr rfl)) k2005 hk2005 fs2002.2) (by rcases hk2005 with rfl | rfl <;> decide +kernel)) (fun s2007 fs2007 => (mh_fA (fun x2009 => (mh_fI (fr_j_eX9_night_152_2 s0 hp (l_eX9_night_49_1 p1 p2 n) s2007 x1946 x1947 x1951 x1950 x1949 x1948 hlo_49_1 fs2007) (mh_fI (mh_fA (fun x2064 => (mh_fA (fun x2066 => (fr_j_eX9_night_121_3 s0 hp (l_eX9_night_49_1 p1 p2 n) s2007 x1946 x1947 x1950 x1951 x2064 x2066 hlo_49_1 fs2007))))) (fr_j_eX9_night_121_3 s0 hp (l_eX9_night_49_1 p1 p2 n) s2007 x1946 x1947 x1950 x1951 x1949 x1948 hlo_49_1 fs2007))))))))))))) (mh_fI fs1952 (mh_fI fs1952 (mh_fI fs1952 (mh_fI fs1952 fs1952)))))
theorem fr_eX9_night (s0 : mh_H) (p1 : Int32) (p2 : Int32) (hp : mh_p3 s0) : mh_FrP S_eX9_night s0 (f_eX9_night s0 p1 p2) := by
  have fs0 : mh_Fr S_eX9_night s0 s0 := ⟨mh_F_rf, hp⟩
  unfold f_eX9_night
  exact (mh_fA (fun x1018 => (mh_fI fs0 (mh_fA (fun x1022 => (mh_fI fs0 (mh_fB (mh_Fr_tv fs0 (fr_eX8_copyFrom s0 13 (Or.inr (Or.inr rfl)) 1 (Or.inl rfl) fs0.2) (by decide +kernel)) (fun s1027 fs1027 => (fr_l_eX9_night_49_1 s0 hp p1 p2 61 s1027 (0 : Int32) (0 : Int32) (-2 : Int32) (-2 : Int32) (-2 : Int32) (-2 : Int32) fs1027)))))))))
theorem fr_j_eX9_soonest_104_2 (s0 : mh_H) (hp : mh_p3 s0) (lo_62_1 : mh_H → Int32 → Int32 × mh_H) (s584 : mh_H) (p2 : Int32) (x551 : Int32) (x586 : Int32) (x589 : Int32) (hlo_62_1 : ∀ (s552 : mh_H) (x551 : Int32), mh_Fr S_eX9_soonest s0 s552 → mh_FrP S_eX9_soonest s0 (lo_62_1 s552 x551)) (fs584 : mh_Fr S_eX9_soonest s0 s584) : mh_FrP S_eX9_soonest s0 (j_eX9_soonest_104_2 lo_62_1 s584 p2 x551 x586 x589) := by
  have fs0 : mh_Fr S_eX9_soonest s0 s0 := ⟨mh_F_rf, hp⟩
  unfold j_eX9_soonest_104_2
  exact (mh_fC (mh_Fr_tl fs584 (fr_eX5_go s584 p2 x586 x589 fs584.2) (by decide +kernel)) (fun x601 s602 fs602 => (mh_fI (mh_fK (fs602.2.1) (fun k606 hk606 => (mh_fB (mh_Fr_tv fs602 (fr_eX0_pass s602 13 (Or.inr (Or.inr rfl)) k606 hk606 fs602.2) (by rcases hk606 with rfl | rfl <;> decide +kernel)) (fun s608 fs608 => (mh_fA (fun x610 => (hlo_62_1 s608 x610 fs608))))))) fs602)))
theorem fr_l_eX9_soonest_62_1 (s0 : mh_H) (hp : mh_p3 s0) (p2 : Int32) (p4 : Int32) : ∀ (n : Nat) (s552 : mh_H) (x551 : Int32), mh_Fr S_eX9_soonest s0 s552 → mh_FrP S_eX9_soonest s0 (l_eX9_soonest_62_1 p2 p4 n s552 x551) := by
  have fs0 : mh_Fr S_eX9_soonest s0 s0 := ⟨mh_F_rf, hp⟩
  intro n
  induction n with
  | zero => intro s552 x551 fs552; exact fs552
  | succ n ih =>
    intro s552 x551 fs552
    have hlo_62_1 := ih
    rw [l_eX9_soonest_62_1_s]
    unfold ls_eX9_soonest_62_1
    exact (mh_fI (mh_fK (fs552.2.1) (fun k582 hk582 => (mh_fB (mh_Fr_tv fs552 (fr_eX5_look s552 13 (Or.inr (Or.inr rfl)) k582 hk582 fs552.2) (by rcases hk582 with rfl | rfl <;> decide +kernel)) (fun s584 fs584 => (mh_fA (fun x586 => (mh_fI (fr_j_eX9_soonest_104_2 s0 hp (l_eX9_soonest_62_1 p2 p4 n) s584 p2 x551 x586 (1 : Int32) hlo_62_1 fs584) (fr_j_eX9_soonest_104_2 s0 hp (l_eX9_soonest_62_1 p2 p4 n) s584 p2 x551 x586 (0 : Int32) hlo_62_1 fs584)))))))) (mh_fA (fun x577 => (mh_fI fs552 fs552))))
theorem fr_eX9_soonest (s0 : mh_H) (p1 : Int32) (p2 : Int32) (p3 : Int32) (p4 : Int32) (hp : mh_p3 s0) : mh_FrP S_eX9_soonest s0 (f_eX9_soonest s0 p1 p2 p3 p4) := by
  have fs0 : mh_Fr S_eX9_soonest s0 s0 := ⟨mh_F_rf, hp⟩
  unfold f_eX9_soonest
  exact (mh_fA (fun x301 => (mh_fI fs0 (mh_fA (fun x305 => (mh_fI fs0 (mh_fA (fun x309 => (mh_fI fs0 (mh_fA (fun x313 => (mh_fI fs0 (mh_fB (mh_Fr_tv fs0 (fr_eX5_leave s0 p1 p3 fs0.2) (by decide +kernel)) (fun s318 fs318 => (mh_fB (mh_Fr_tv fs318 (fr_eX8_copyFrom s318 13 (Or.inr (Or.inr rfl)) 1 (Or.inl rfl) fs318.2) (by decide +kernel)) (fun s321 fs321 => (fr_l_eX9_soonest_62_1 s0 hp p2 p4 31 s321 (0 : Int32) fs321)))))))))))))))))
theorem fr_l_eX9_steps_19_1 (s0 : mh_H) (hp : mh_p3 s0) (p1 : Int32) (x93 : Int32) : ∀ (n : Nat) (s154 : mh_H) (x153 : Int32), mh_Fr S_eX9_steps s0 s154 → mh_FrP S_eX9_steps s0 (l_eX9_steps_19_1 p1 x93 n s154 x153) := by
  have fs0 : mh_Fr S_eX9_steps s0 s0 := ⟨mh_F_rf, hp⟩
  intro n
  induction n with
  | zero => intro s154 x153 fs154; exact fs154
  | succ n ih =>
    intro s154 x153 fs154
    have hlo_19_1 := ih
    rw [l_eX9_steps_19_1_s]
    unfold ls_eX9_steps_19_1
    exact (mh_fI (mh_fK (fs154.2.1) (fun k171 hk171 => (mh_fB (mh_Fr_tv fs154 (fr_eX0_pass s154 1 (Or.inl rfl) k171 hk171 fs154.2) (by rcases hk171 with rfl | rfl <;> decide +kernel)) (fun s173 fs173 => (mh_fA (fun x175 => (hlo_19_1 s173 x175 fs173))))))) (mh_fA (fun x166 => (mh_fA (fun x168 => fs154)))))
theorem fr_eX9_steps (s0 : mh_H) (p1 : Int32) (hp : mh_p3 s0) : mh_FrP S_eX9_steps s0 (f_eX9_steps s0 p1) := by
  have fs0 : mh_Fr S_eX9_steps s0 s0 := ⟨mh_F_rf, hp⟩
  unfold f_eX9_steps
  exact (mh_fA (fun x89 => (mh_fI fs0 (mh_fA (fun x93 => (fr_l_eX9_steps_19_1 s0 hp p1 x93 61 s0 (0 : Int32) fs0))))))
theorem fr_eX9_sums (s0 : mh_H) (p1 : Int32) (hp : mh_p3 s0) : mh_FrP S_eX9_sums s0 (f_eX9_sums s0 p1) := by
  have fs0 : mh_Fr S_eX9_sums s0 s0 := ⟨mh_F_rf, hp⟩
  unfold f_eX9_sums
  exact (mh_fI (mh_fA (fun x25 => fs0)) (mh_fI (mh_fA (fun x28 => fs0)) (mh_fI (mh_fA (fun x31 => fs0)) (mh_fI (mh_fK (fs0.2.1) (fun k34 hk34 => (mh_fB (mh_Fr_tv fs0 (fr_eX6_look s0 1 (Or.inl rfl) k34 hk34 fs0.2) (by rcases hk34 with rfl | rfl <;> decide +kernel)) (fun s36 fs36 => (mh_fA (fun x38 => fs36)))))) (mh_fI (mh_fK (fs0.2.1) (fun k41 hk41 => (mh_fB (mh_Fr_tv fs0 (fr_eX6_look s0 1 (Or.inl rfl) k41 hk41 fs0.2) (by rcases hk41 with rfl | rfl <;> decide +kernel)) (fun s43 fs43 => (mh_fA (fun x45 => fs43)))))) fs0)))))
theorem fr_j_eX9_sun_108_2 (s0 : mh_H) (hp : mh_p3 s0) (lo_66_1 : mh_H → Int32 → Int32 → Int32 × mh_H) (s1065 : mh_H) (x1033 : Int32) (x1070 : Int32) (hlo_66_1 : ∀ (s1035 : mh_H) (x1033 : Int32) (x1034 : Int32), mh_Fr S_eX9_sun s0 s1035 → mh_FrP S_eX9_sun s0 (lo_66_1 s1035 x1033 x1034)) (fs1065 : mh_Fr S_eX9_sun s0 s1065) : mh_FrP S_eX9_sun s0 (j_eX9_sun_108_2 lo_66_1 s1065 x1033 x1070) := by
  have fs0 : mh_Fr S_eX9_sun s0 s0 := ⟨mh_F_rf, hp⟩
  unfold j_eX9_sun_108_2
  exact (mh_fA (fun x1073 => (hlo_66_1 s1065 x1073 x1070 fs1065)))
theorem fr_l_eX9_sun_66_1 (s0 : mh_H) (hp : mh_p3 s0) (p3 : Int32) (p4 : Int32) (x548 : Int32) : ∀ (n : Nat) (s1035 : mh_H) (x1033 : Int32) (x1034 : Int32), mh_Fr S_eX9_sun s0 s1035 → mh_FrP S_eX9_sun s0 (l_eX9_sun_66_1 p3 p4 x548 n s1035 x1033 x1034) := by
  have fs0 : mh_Fr S_eX9_sun s0 s0 := ⟨mh_F_rf, hp⟩
  intro n
  induction n with
  | zero => intro s1035 x1033 x1034 fs1035; exact fs1035
  | succ n ih =>
    intro s1035 x1033 x1034 fs1035
    have hlo_66_1 := ih
    rw [l_eX9_sun_66_1_s]
    unfold ls_eX9_sun_66_1
    exact (mh_fI (mh_fK (fs1035.2.1) (fun k1058 hk1058 => (mh_fB (mh_Fr_tv fs1035 (fr_eX0_pass s1035 13 (Or.inr (Or.inr rfl)) k1058 hk1058 fs1035.2) (by rcases hk1058 with rfl | rfl <;> decide +kernel)) (fun s1060 fs1060 => (mh_fK (fs1060.2.1) (fun k1063 hk1063 => (mh_fC (mh_Fr_tl fs1060 (fr_eX1_top s1060 13 (Or.inr (Or.inr rfl)) k1063 hk1063 x548 fs1060.2) (by rcases hk1063 with rfl | rfl <;> decide +kernel)) (fun x1064 s1065 fs1065 => (mh_fI (fr_j_eX9_sun_108_2 s0 hp (l_eX9_sun_66_1 p3 p4 x548 n) s1065 x1033 x1034 hlo_66_1 fs1065) (mh_fA (fun x1076 => (fr_j_eX9_sun_108_2 s0 hp (l_eX9_sun_66_1 p3 p4 x548 n) s1065 x1033 x1076 hlo_66_1 fs1065)))))))))))) fs1035)
theorem fr_eX9_sun (s0 : mh_H) (p1 : Int32) (p2 : Int32) (p3 : Int32) (p4 : Int32) (hp : mh_p3 s0) : mh_FrP S_eX9_sun s0 (f_eX9_sun s0 p1 p2 p3 p4) := by
  have fs0 : mh_Fr S_eX9_sun s0 s0 := ⟨mh_F_rf, hp⟩
  unfold f_eX9_sun
  exact (mh_fA (fun x537 => (mh_fI fs0 (mh_fA (fun x541 => (mh_fI fs0 (mh_fI fs0 (mh_fA (fun x546 => (mh_fA (fun x548 => (mh_fA (fun x550 => (mh_fI fs0 (mh_fB (mh_Fr_tv fs0 (fr_eX8_copyFrom s0 13 (Or.inr (Or.inr rfl)) 1 (Or.inl rfl) fs0.2) (by decide +kernel)) (fun s554 fs554 => (fr_l_eX9_sun_66_1 s0 hp p3 p4 x548 61 s554 (0 : Int32) (0 : Int32) fs554)))))))))))))))))
theorem fr_eX9_works (s0 : mh_H) (p1 : Int32) (p2 : Int32) (p3 : Int32) (p4 : Int32) (hp : mh_p3 s0) : mh_FrP S_eX9_works s0 (f_eX9_works s0 p1 p2 p3 p4) := by
  have fs0 : mh_Fr S_eX9_works s0 s0 := ⟨mh_F_rf, hp⟩
  unfold f_eX9_works
  exact (mh_fA (fun x31 => (mh_fI fs0 (mh_fA (fun x35 => (mh_fI fs0 (mh_fA (fun x39 => (mh_fI fs0 (mh_fA (fun x43 => (mh_fA (fun x45 => (mh_fA (fun x47 => (mh_fI fs0 (mh_fB (mh_Fr_tv fs0 (fr_eX9_passTrial s0 p3 (-1 : Int32) fs0.2) (by decide +kernel)) (fun s51 fs51 => (mh_fB (mh_Fr_pA fs51 (List.mem_of_getElem? (i := 14) rfl)) (fun s53 fs53 => (mh_fB (mh_Fr_tv fs53 (fr_eX9_passTrial s53 p3 x45 fs53.2) (by decide +kernel)) (fun s56 fs56 => (mh_fA (fun x58 => fs56))))))))))))))))))))))))
theorem fr_eX10_does (s0 : mh_H) (p1 : Int32) (p2 : Int32) (hp : mh_p3 s0) : mh_Fr S_eX10_does s0 (f_eX10_does s0 p1 p2) := by
  have fs0 : mh_Fr S_eX10_does s0 s0 := ⟨mh_F_rf, hp⟩
  unfold f_eX10_does
  exact (mh_fA (fun x126 => (mh_fI (mh_fA (fun x129 => (mh_fI (mh_fA (fun x132 => (mh_fI (mh_fA (fun x136 => (mh_fB (mh_Fr_pI fs0 (mh_si 0 rfl)) (fun s138 fs138 => (mh_fA (fun x140 => (mh_fB (mh_Fr_pI fs138 (mh_si 1 rfl)) (fun s142 fs142 => fs142)))))))) fs0))) fs0))) (mh_fI (mh_fA (fun x240 => (mh_fI (mh_fA (fun x243 => (mh_fI (mh_fA (fun x247 => (mh_fB (mh_Fr_pI fs0 (mh_si 0 rfl)) (fun s249 fs249 => (mh_fA (fun x251 => (mh_fB (mh_Fr_pI fs249 (mh_si 1 rfl)) (fun s253 fs253 => fs253)))))))) fs0))) fs0))) (mh_fA (fun x145 => (mh_fI (mh_fA (fun x159 => (mh_fI (mh_fI (mh_fA (fun x174 => (mh_fI (mh_fB (mh_Fr_pI fs0 (mh_si 1 rfl)) (fun s189 fs189 => (mh_fA (fun x191 => (mh_fA (fun x196 => (mh_fB (mh_Fr_pI fs189 (mh_si 0 rfl)) (fun s199 fs199 => fs199)))))))) (mh_fB (mh_Fr_pI fs0 (mh_si 1 rfl)) (fun s177 fs177 => (mh_fA (fun x179 => (mh_fA (fun x184 => (mh_fB (mh_Fr_pI fs177 (mh_si 0 rfl)) (fun s187 fs187 => fs187))))))))))) (mh_fI (mh_fA (fun x213 => (mh_fI (mh_fB (mh_Fr_pI fs0 (mh_si 1 rfl)) (fun s228 fs228 => (mh_fA (fun x230 => (mh_fA (fun x235 => (mh_fB (mh_Fr_pI fs228 (mh_si 0 rfl)) (fun s238 fs238 => fs238)))))))) (mh_fB (mh_Fr_pI fs0 (mh_si 1 rfl)) (fun s216 fs216 => (mh_fA (fun x218 => (mh_fA (fun x223 => (mh_fB (mh_Fr_pI fs216 (mh_si 0 rfl)) (fun s226 fs226 => fs226))))))))))) (mh_fB (mh_Fr_pI fs0 (mh_si 1 rfl)) (fun s202 fs202 => (mh_fA (fun x204 => (mh_fA (fun x206 => (mh_fA (fun x208 => (mh_fB (mh_Fr_pI fs202 (mh_si 0 rfl)) (fun s211 fs211 => fs211)))))))))))) (mh_fB (mh_Fr_pI fs0 (mh_si 1 rfl)) (fun s162 fs162 => (mh_fA (fun x164 => (mh_fA (fun x166 => (mh_fA (fun x168 => (mh_fB (mh_Fr_pI fs162 (mh_si 0 rfl)) (fun s171 fs171 => fs171))))))))))))) (mh_fB (mh_Fr_pI fs0 (mh_si 1 rfl)) (fun s148 fs148 => (mh_fA (fun x150 => (mh_fA (fun x152 => (mh_fA (fun x154 => (mh_fB (mh_Fr_pI fs148 (mh_si 0 rfl)) (fun s157 fs157 => fs157)))))))))))))))))
theorem fr_l_eX10_goesThrough_5_1 (s0 : mh_H) (hp : mh_p3 s0) (p2 : Int32) : ∀ (n : Nat) (s227 : mh_H) (x225 : Int32) (x226 : Int32), mh_Fr S_eX10_goesThrough s0 s227 → mh_Fr S_eX10_goesThrough s0 (l_eX10_goesThrough_5_1 p2 n s227 x225 x226) := by
  have fs0 : mh_Fr S_eX10_goesThrough s0 s0 := ⟨mh_F_rf, hp⟩
  intro n
  induction n with
  | zero => intro s227 x225 x226 fs227; exact fs227
  | succ n ih =>
    intro s227 x225 x226 fs227
    have hlo_5_1 := ih
    rw [l_eX10_goesThrough_5_1_s]
    unfold ls_eX10_goesThrough_5_1
    exact (mh_fI (mh_fA (fun x286 => (mh_fI (mh_fA (fun x329 => (mh_fA (fun x333 => (mh_fB (mh_Fr_tv fs227 (fr_eX10_does s227 x286 x333 fs227.2) (by decide +kernel)) (fun s336 fs336 => (mh_fA (fun x338 => (hlo_5_1 s336 x338 x329 fs336))))))))) (mh_fI (mh_fA (fun x317 => (mh_fA (fun x321 => (mh_fA (fun x323 => (mh_fB (mh_Fr_pI fs227 (mh_si 1 rfl)) (fun s325 fs325 => (mh_fA (fun x327 => (hlo_5_1 s325 x327 x226 fs325))))))))))) (mh_fB (mh_Fr_pI fs227 (mh_si 0 rfl)) (fun s292 fs292 => (mh_fI (mh_fA (fun x309 => (mh_fB (mh_Fr_pI fs292 (mh_si 1 rfl)) (fun s311 fs311 => (mh_fA (fun x313 => (mh_fA (fun x315 => (hlo_5_1 s311 x315 x313 fs311))))))))) (mh_fA (fun x298 => (mh_fA (fun x300 => (mh_fB (mh_Fr_pI fs292 (mh_si 1 rfl)) (fun s303 fs303 => (mh_fA (fun x305 => (mh_fA (fun x307 => (hlo_5_1 s303 x307 x305 fs303)))))))))))))))))) fs227)
theorem fr_eX10_goesThrough (s0 : mh_H) (p1 : Int32) (p2 : Int32) (hp : mh_p3 s0) : mh_Fr S_eX10_goesThrough s0 (f_eX10_goesThrough s0 p1 p2) := by
  have fs0 : mh_Fr S_eX10_goesThrough s0 s0 := ⟨mh_F_rf, hp⟩
  unfold f_eX10_goesThrough
  exact (fr_l_eX10_goesThrough_5_1 s0 hp p2 201 s0 p1 (0 : Int32) fs0)
theorem fr_l_eX10_tellsBy_2_1 (s0 : mh_H) (hp : mh_p3 s0) (p1 : Int32) (p2 : Int32) : ∀ (n : Nat) (s284 : mh_H) (x283 : Int32), mh_Fr S_eX10_tellsBy s0 s284 → mh_FrP S_eX10_tellsBy s0 (l_eX10_tellsBy_2_1 p1 p2 n s284 x283) := by
  have fs0 : mh_Fr S_eX10_tellsBy s0 s0 := ⟨mh_F_rf, hp⟩
  intro n
  induction n with
  | zero => intro s284 x283 fs284; exact fs284
  | succ n ih =>
    intro s284 x283 fs284
    have hlo_2_1 := ih
    rw [l_eX10_tellsBy_2_1_s]
    unfold ls_eX10_tellsBy_2_1
    exact (mh_fA (fun x312 => (mh_fI (mh_fA (fun x315 => (mh_fI (mh_fA (fun x318 => (mh_fA (fun x320 => (mh_fB (mh_Fr_tv fs284 (fr_eX10_goesThrough s284 x318 x320 fs284.2) (by decide +kernel)) (fun s323 fs323 => (mh_fA (fun x325 => (mh_fI (mh_fA (fun x330 => (mh_fI (mh_fA (fun x333 => (mh_fB (mh_Fr_tv fs323 (fr_eX10_goesThrough s323 x333 x318 fs323.2) (by decide +kernel)) (fun s340 fs340 => (mh_fA (fun x342 => (mh_fI (mh_fA (fun x345 => (mh_fI fs340 (mh_fI fs340 fs340)))) fs340))))))) (mh_fA (fun x351 => (hlo_2_1 s323 x351 fs323)))))) (mh_fA (fun x328 => (hlo_2_1 s323 x328 fs323)))))))))))) (mh_fA (fun x353 => (hlo_2_1 s284 x353 fs284)))))) fs284)))
theorem fr_eX10_tellsBy (s0 : mh_H) (p1 : Int32) (p2 : Int32) (hp : mh_p3 s0) : mh_FrP S_eX10_tellsBy s0 (f_eX10_tellsBy s0 p1 p2) := by
  have fs0 : mh_Fr S_eX10_tellsBy s0 s0 := ⟨mh_F_rf, hp⟩
  unfold f_eX10_tellsBy
  exact (fr_l_eX10_tellsBy_2_1 s0 hp p1 p2 15 s0 (0 : Int32) fs0)
theorem fr_eX10_byCell (s0 : mh_H) (p1 : Int32) (p2 : Int32) (p3 : Int32) (p4 : Int32) (hp : mh_p3 s0) : mh_FrP S_eX10_byCell s0 (f_eX10_byCell s0 p1 p2 p3 p4) := by
  have fs0 : mh_Fr S_eX10_byCell s0 s0 := ⟨mh_F_rf, hp⟩
  unfold f_eX10_byCell
  exact (mh_fB (mh_Fr_pI fs0 (mh_sj 0 rfl)) (fun s14 fs14 => (mh_fB (mh_Fr_pI fs14 (mh_sj 1 rfl)) (fun s16 fs16 => (mh_fB (mh_Fr_pI fs16 (mh_sj 2 rfl)) (fun s18 fs18 => (mh_fB (mh_Fr_pI fs18 (mh_sj 3 rfl)) (fun s20 fs20 => (mh_fB (mh_Fr_pI fs20 (mh_sj 4 rfl)) (fun s22 fs22 => (mh_fC (mh_Fr_tl fs22 (fr_eX10_tellsBy s22 p1 p4 fs22.2) (by decide +kernel)) (fun x24 s25 fs25 => fs25))))))))))))
theorem fr_eX10_mistAt (s0 : mh_H) (p1 : Int32) (hp : mh_p3 s0) : mh_FrP S_eX10_mistAt s0 (f_eX10_mistAt s0 p1) := by
  have fs0 : mh_Fr S_eX10_mistAt s0 s0 := ⟨mh_F_rf, hp⟩
  unfold f_eX10_mistAt
  exact (mh_fC (mh_Fr_tl fs0 (fr_eX10_byCell s0 (109 : Int32) p1 (0 : Int32) (99 : Int32) fs0.2) (by decide +kernel)) (fun x4 s5 fs5 => fs5))
theorem fr_eX10_yardsAt (s0 : mh_H) (p1 : Int32) (hp : mh_p3 s0) : mh_FrP S_eX10_yardsAt s0 (f_eX10_yardsAt s0 p1) := by
  have fs0 : mh_Fr S_eX10_yardsAt s0 s0 := ⟨mh_F_rf, hp⟩
  unfold f_eX10_yardsAt
  exact (mh_fC (mh_Fr_tl fs0 (fr_eX10_mistAt s0 p1 fs0.2) (by decide +kernel)) (fun x7 s8 fs8 => (mh_fC (mh_Fr_tl fs8 (fr_eX10_byCell s8 (121 : Int32) p1 x7 (999 : Int32) fs8.2) (by decide +kernel)) (fun x10 s11 fs11 => fs11))))
theorem fr_l_eX10_misty_4_1 (s0 : mh_H) (hp : mh_p3 s0) : ∀ (n : Nat) (s351 : mh_H) (x349 : Int32) (x350 : Int32), mh_Fr S_eX10_misty s0 s351 → mh_FrP S_eX10_misty s0 (l_eX10_misty_4_1 n s351 x349 x350) := by
  have fs0 : mh_Fr S_eX10_misty s0 s0 := ⟨mh_F_rf, hp⟩
  intro n
  induction n with
  | zero => intro s351 x349 x350 fs351; exact fs351
  | succ n ih =>
    intro s351 x349 x350 fs351
    have hlo_4_1 := ih
    rw [l_eX10_misty_4_1_s]
    unfold ls_eX10_misty_4_1
    exact (mh_fI (mh_fC (mh_Fr_tl fs351 (fr_eX10_mistAt s351 x349 fs351.2) (by decide +kernel)) (fun x369 s370 fs370 => (mh_fI (mh_fA (fun x377 => (mh_fA (fun x379 => (hlo_4_1 s370 x379 x377 fs370))))) (mh_fA (fun x373 => (mh_fA (fun x375 => (hlo_4_1 s370 x375 x373 fs370)))))))) fs351)
theorem fr_eX10_misty (s0 : mh_H) (hp : mh_p3 s0) : mh_FrP S_eX10_misty s0 (f_eX10_misty s0) := by
  have fs0 : mh_Fr S_eX10_misty s0 s0 := ⟨mh_F_rf, hp⟩
  unfold f_eX10_misty
  exact (fr_l_eX10_misty_4_1 s0 hp 145 s0 (0 : Int32) (0 : Int32) fs0)
theorem fr_l_eX10_lowestMisty_2_1 (s0 : mh_H) (hp : mh_p3 s0) : ∀ (n : Nat) (s32 : mh_H) (x31 : Int32), mh_Fr S_eX10_lowestMisty s0 s32 → mh_FrP S_eX10_lowestMisty s0 (l_eX10_lowestMisty_2_1 n s32 x31) := by
  have fs0 : mh_Fr S_eX10_lowestMisty s0 s0 := ⟨mh_F_rf, hp⟩
  intro n
  induction n with
  | zero => intro s32 x31 fs32; exact fs32
  | succ n ih =>
    intro s32 x31 fs32
    have hlo_2_1 := ih
    rw [l_eX10_lowestMisty_2_1_s]
    unfold ls_eX10_lowestMisty_2_1
    exact (mh_fC (mh_Fr_tl fs32 (fr_eX10_mistAt s32 x31 fs32.2) (by decide +kernel)) (fun x41 s42 fs42 => (mh_fI (mh_fA (fun x45 => (hlo_2_1 s42 x45 fs42))) fs42)))
theorem fr_eX10_lowestMisty (s0 : mh_H) (hp : mh_p3 s0) : mh_FrP S_eX10_lowestMisty s0 (f_eX10_lowestMisty s0) := by
  have fs0 : mh_Fr S_eX10_lowestMisty s0 s0 := ⟨mh_F_rf, hp⟩
  unfold f_eX10_lowestMisty
  exact (fr_l_eX10_lowestMisty_2_1 s0 hp 144 s0 (0 : Int32) fs0)
theorem fr_l_eX10_cools_80_2 (s0 : mh_H) (hp : mh_p3 s0) : ∀ (n : Nat) (s1817 : mh_H) (x1816 : Int32), mh_Fr S_eX10_cools s0 s1817 → mh_Fr S_eX10_cools s0 (l_eX10_cools_80_2 n s1817 x1816) := by
  have fs0 : mh_Fr S_eX10_cools s0 s0 := ⟨mh_F_rf, hp⟩
  intro n
  induction n with
  | zero => intro s1817 x1816 fs1817; exact fs1817
  | succ n ih =>
    intro s1817 x1816 fs1817
    have hlo_80_2 := ih
    rw [l_eX10_cools_80_2_s]
    unfold ls_eX10_cools_80_2
    exact (mh_fI (mh_fA (fun x1832 => (mh_fB (mh_Fr_pI fs1817 (mh_si 9 rfl)) (fun s1834 fs1834 => (mh_fA (fun x1836 => (mh_fB (mh_Fr_pI fs1834 (mh_si 10 rfl)) (fun s1838 fs1838 => (mh_fA (fun x1840 => (hlo_80_2 s1838 x1840 fs1838))))))))))) fs1817)
theorem fr_l_eX10_cools_2_1 (s0 : mh_H) (hp : mh_p3 s0) : ∀ (n : Nat) (s1548 : mh_H) (x1547 : Int32), mh_Fr S_eX10_cools s0 s1548 → mh_Fr S_eX10_cools s0 (l_eX10_cools_2_1 n s1548 x1547) := by
  have fs0 : mh_Fr S_eX10_cools s0 s0 := ⟨mh_F_rf, hp⟩
  intro n
  induction n with
  | zero => intro s1548 x1547 fs1548; exact fs1548
  | succ n ih =>
    intro s1548 x1547 fs1548
    have hlo_2_1 := ih
    rw [l_eX10_cools_2_1_s]
    unfold ls_eX10_cools_2_1
    exact (mh_fI (mh_fA (fun x1842 => (mh_fC (mh_Fr_tl fs1548 (fr_eX10_byCell s1548 (99 : Int32) x1547 (0 : Int32) (99 : Int32) fs1548.2) (by decide +kernel)) (fun x1844 s1845 fs1845 => (mh_fA (fun x1847 => (mh_fA (fun x1849 => (mh_fB (mh_Fr_pI fs1845 (mh_si 7 rfl)) (fun s1852 fs1852 => (mh_fA (fun x1854 => (mh_fC (mh_Fr_tl fs1852 (fr_eX10_byCell s1852 (119 : Int32) x1547 (0 : Int32) (99 : Int32) fs1852.2) (by decide +kernel)) (fun x1856 s1857 fs1857 => (mh_fA (fun x1859 => (mh_fC (mh_Fr_tl fs1857 (fr_eX10_byCell s1857 (115 : Int32) x1547 (0 : Int32) (99 : Int32) fs1857.2) (by decide +kernel)) (fun x1861 s1862 fs1862 => (mh_fA (fun x1864 => (mh_fA (fun x1866 => (mh_fB (mh_Fr_pI fs1862 (mh_si 8 rfl)) (fun s1869 fs1869 => (mh_fA (fun x1871 => (hlo_2_1 s1869 x1871 fs1869))))))))))))))))))))))))))) (fr_l_eX10_cools_80_2 s0 hp 145 s1548 (0 : Int32) fs1548))
theorem fr_eX10_cools (s0 : mh_H) (hp : mh_p3 s0) : mh_Fr S_eX10_cools s0 (f_eX10_cools s0) := by
  have fs0 : mh_Fr S_eX10_cools s0 s0 := ⟨mh_F_rf, hp⟩
  unfold f_eX10_cools
  exact (fr_l_eX10_cools_2_1 s0 hp 145 s0 (0 : Int32) fs0)
theorem fr_j_eX10_runsDown_201_5 (s0 : mh_H) (hp : mh_p3 s0) (lo_165_4 : mh_H → Int32 → mh_H) (s2447 : mh_H) (x2446 : Int32) (x2467 : Int32) (hlo_165_4 : ∀ (s2447 : mh_H) (x2446 : Int32), mh_Fr S_eX10_runsDown s0 s2447 → mh_Fr S_eX10_runsDown s0 (lo_165_4 s2447 x2446)) (fs2447 : mh_Fr S_eX10_runsDown s0 s2447) : mh_Fr S_eX10_runsDown s0 (j_eX10_runsDown_201_5 lo_165_4 s2447 x2446 x2467) := by
  have fs0 : mh_Fr S_eX10_runsDown s0 s0 := ⟨mh_F_rf, hp⟩
  unfold j_eX10_runsDown_201_5
  exact (mh_fB (mh_Fr_pI fs2447 (mh_si 2 rfl)) (fun s2472 fs2472 => (mh_fA (fun x2474 => (hlo_165_4 s2472 x2474 fs2472)))))
theorem fr_l_eX10_runsDown_165_4 (s0 : mh_H) (hp : mh_p3 s0) : ∀ (n : Nat) (s2447 : mh_H) (x2446 : Int32), mh_Fr S_eX10_runsDown s0 s2447 → mh_Fr S_eX10_runsDown s0 (l_eX10_runsDown_165_4 n s2447 x2446) := by
  have fs0 : mh_Fr S_eX10_runsDown s0 s0 := ⟨mh_F_rf, hp⟩
  intro n
  induction n with
  | zero => intro s2447 x2446 fs2447; exact fs2447
  | succ n ih =>
    intro s2447 x2446 fs2447
    have hlo_165_4 := ih
    rw [l_eX10_runsDown_165_4_s]
    unfold ls_eX10_runsDown_165_4
    exact (mh_fI (mh_fA (fun x2462 => (mh_fI (fr_j_eX10_runsDown_201_5 s0 hp (l_eX10_runsDown_165_4 n) s2447 x2446 (9999 : Int32) hlo_165_4 fs2447) (fr_j_eX10_runsDown_201_5 s0 hp (l_eX10_runsDown_165_4 n) s2447 x2446 x2462 hlo_165_4 fs2447)))) fs2447)
theorem fr_l_eX10_runsDown_130_3 (s0 : mh_H) (hp : mh_p3 s0) : ∀ (n : Nat) (s2262 : mh_H) (x2261 : Int32), mh_Fr S_eX10_runsDown s0 s2262 → mh_Fr S_eX10_runsDown s0 (l_eX10_runsDown_130_3 n s2262 x2261) := by
  have fs0 : mh_Fr S_eX10_runsDown s0 s0 := ⟨mh_F_rf, hp⟩
  intro n
  induction n with
  | zero => intro s2262 x2261 fs2262; exact fs2262
  | succ n ih =>
    intro s2262 x2261 fs2262
    have hlo_130_3 := ih
    rw [l_eX10_runsDown_130_3_s]
    unfold ls_eX10_runsDown_130_3
    exact (mh_fI (mh_fA (fun x2479 => (mh_fA (fun x2481 => (mh_fA (fun x2483 => (mh_fA (fun x2485 => (mh_fB (mh_Fr_pI fs2262 (mh_si 2 rfl)) (fun s2487 fs2487 => (mh_fA (fun x2489 => (hlo_130_3 s2487 x2489 fs2487))))))))))))) (fr_l_eX10_runsDown_165_4 s0 hp 145 s2262 (0 : Int32) fs2262))
theorem fr_l_eX10_runsDown_84_2 (s0 : mh_H) (hp : mh_p3 s0) : ∀ (n : Nat) (s2043 : mh_H) (x2042 : Int32), mh_Fr S_eX10_runsDown s0 s2043 → mh_Fr S_eX10_runsDown s0 (l_eX10_runsDown_84_2 n s2043 x2042) := by
  have fs0 : mh_Fr S_eX10_runsDown s0 s0 := ⟨mh_F_rf, hp⟩
  intro n
  induction n with
  | zero => intro s2043 x2042 fs2043; exact fs2043
  | succ n ih =>
    intro s2043 x2042 fs2043
    have hlo_84_2 := ih
    rw [l_eX10_runsDown_84_2_s]
    unfold ls_eX10_runsDown_84_2
    exact (mh_fI (mh_fA (fun x2491 => (mh_fA (fun x2493 => (mh_fA (fun x2495 => (mh_fB (mh_Fr_pI fs2043 (mh_si 2 rfl)) (fun s2497 fs2497 => (mh_fA (fun y2499 => (mh_fA (fun y2504 => (mh_fA (fun y2506 => (mh_fB (mh_Fr_pL fs2497 (mh_sj 3 rfl)) (fun s2508 fs2508 => (mh_fA (fun x2510 => (hlo_84_2 s2508 x2510 fs2508))))))))))))))))))) (fr_l_eX10_runsDown_130_3 s0 hp 145 s2043 (0 : Int32) fs2043))
theorem fr_j_eX10_runsDown_75_6 (s0 : mh_H) (hp : mh_p3 s0) (lo_2_1 : mh_H → Int32 → mh_H) (s2529 : mh_H) (x1708 : Int32) (x2538 : Int32) (hlo_2_1 : ∀ (s1709 : mh_H) (x1708 : Int32), mh_Fr S_eX10_runsDown s0 s1709 → mh_Fr S_eX10_runsDown s0 (lo_2_1 s1709 x1708)) (fs2529 : mh_Fr S_eX10_runsDown s0 s2529) : mh_Fr S_eX10_runsDown s0 (j_eX10_runsDown_75_6 lo_2_1 s2529 x1708 x2538) := by
  have fs0 : mh_Fr S_eX10_runsDown s0 s0 := ⟨mh_F_rf, hp⟩
  unfold j_eX10_runsDown_75_6
  exact (mh_fB (mh_Fr_pI fs2529 (mh_si 1 rfl)) (fun s2543 fs2543 => (mh_fA (fun x2545 => (hlo_2_1 s2543 x2545 fs2543)))))
theorem fr_l_eX10_runsDown_2_1 (s0 : mh_H) (hp : mh_p3 s0) : ∀ (n : Nat) (s1709 : mh_H) (x1708 : Int32), mh_Fr S_eX10_runsDown s0 s1709 → mh_Fr S_eX10_runsDown s0 (l_eX10_runsDown_2_1 n s1709 x1708) := by
  have fs0 : mh_Fr S_eX10_runsDown s0 s0 := ⟨mh_F_rf, hp⟩
  intro n
  induction n with
  | zero => intro s1709 x1708 fs1709; exact fs1709
  | succ n ih =>
    intro s1709 x1708 fs1709
    have hlo_2_1 := ih
    rw [l_eX10_runsDown_2_1_s]
    unfold ls_eX10_runsDown_2_1
    exact (mh_fI (mh_fA (fun x2512 => (mh_fA (fun x2515 => (mh_fA (fun x2518 => (mh_fA (fun x2521 => (mh_fA (fun x2523 => (mh_fA (fun x2525 => (mh_fA (fun x2527 => (mh_fB (mh_Fr_pI fs1709 (mh_si 0 rfl)) (fun s2529 fs2529 => (mh_fI (mh_fA (fun x2548 => (mh_fI (fr_j_eX10_runsDown_75_6 s0 hp (l_eX10_runsDown_2_1 n) s2529 x1708 x2527 hlo_2_1 fs2529) (fr_j_eX10_runsDown_75_6 s0 hp (l_eX10_runsDown_2_1 n) s2529 x1708 x2548 hlo_2_1 fs2529)))) (fr_j_eX10_runsDown_75_6 s0 hp (l_eX10_runsDown_2_1 n) s2529 x1708 (0 : Int32) hlo_2_1 fs2529)))))))))))))))))) (fr_l_eX10_runsDown_84_2 s0 hp 145 s1709 (0 : Int32) fs1709))
theorem fr_eX10_runsDown (s0 : mh_H) (hp : mh_p3 s0) : mh_Fr S_eX10_runsDown s0 (f_eX10_runsDown s0) := by
  have fs0 : mh_Fr S_eX10_runsDown s0 s0 := ⟨mh_F_rf, hp⟩
  unfold f_eX10_runsDown
  exact (fr_l_eX10_runsDown_2_1 s0 hp 145 s0 (0 : Int32) fs0)
theorem fr_eX10_stepOne (s0 : mh_H) (hp : mh_p3 s0) : mh_Fr S_eX10_stepOne s0 (f_eX10_stepOne s0) := by
  have fs0 : mh_Fr S_eX10_stepOne s0 s0 := ⟨mh_F_rf, hp⟩
  unfold f_eX10_stepOne
  exact (mh_fB (mh_Fr_tv fs0 (fr_eX10_cools s0 fs0.2) (by decide +kernel)) (fun s14 fs14 => (mh_fB (mh_Fr_tv fs14 (fr_eX10_runsDown s14 fs14.2) (by decide +kernel)) (fun s17 fs17 => (mh_fA (fun x19 => (mh_fA (fun x21 => (mh_fB (mh_Fr_pI fs17 (mh_sj 14 rfl)) (fun s23 fs23 => fs23))))))))))
theorem fr_eX10_ground (s0 : mh_H) (p1 : Int32) (p2 : Int32) (p3 : Int32) (p4 : Int32) (hp : mh_p3 s0) : mh_FrP S_eX10_ground s0 (f_eX10_ground s0 p1 p2 p3 p4) := by
  have fs0 : mh_Fr S_eX10_ground s0 s0 := ⟨mh_F_rf, hp⟩
  unfold f_eX10_ground
  exact (mh_fA (fun x27 => (mh_fI fs0 (mh_fA (fun y31 => (mh_fA (fun x33 => (mh_fI fs0 (mh_fA (fun y37 => (mh_fA (fun x39 => (mh_fI fs0 (mh_fA (fun x43 => (mh_fB (mh_Fr_pI fs0 (mh_si 0 rfl)) (fun s46 fs46 => (mh_fA (fun x48 => (mh_fB (mh_Fr_pI fs46 (mh_si 1 rfl)) (fun s51 fs51 => fs51)))))))))))))))))))))
theorem fr_eX10_air (s0 : mh_H) (p1 : Int32) (p2 : Int32) (p3 : Int32) (p4 : Int32) (hp : mh_p3 s0) : mh_FrP S_eX10_air s0 (f_eX10_air s0 p1 p2 p3 p4) := by
  have fs0 : mh_Fr S_eX10_air s0 s0 := ⟨mh_F_rf, hp⟩
  unfold f_eX10_air
  exact (mh_fA (fun x27 => (mh_fI fs0 (mh_fA (fun y31 => (mh_fA (fun x33 => (mh_fI fs0 (mh_fA (fun y37 => (mh_fA (fun x39 => (mh_fI fs0 (mh_fA (fun x43 => (mh_fB (mh_Fr_pI fs0 (mh_si 0 rfl)) (fun s46 fs46 => (mh_fA (fun x48 => (mh_fB (mh_Fr_pI fs46 (mh_si 1 rfl)) (fun s51 fs51 => fs51)))))))))))))))))))))
theorem fr_eX10_wind (s0 : mh_H) (p1 : Int32) (p2 : Int32) (hp : mh_p3 s0) : mh_FrP S_eX10_wind s0 (f_eX10_wind s0 p1 p2) := by
  have fs0 : mh_Fr S_eX10_wind s0 s0 := ⟨mh_F_rf, hp⟩
  unfold f_eX10_wind
  exact (mh_fA (fun y15 => (mh_fA (fun x17 => (mh_fI fs0 (mh_fA (fun y21 => (mh_fA (fun x23 => (mh_fI fs0 (mh_fB (mh_Fr_pI fs0 (mh_si 0 rfl)) (fun s27 fs27 => fs27))))))))))))
theorem fr_l_eX10_push_3_1 (s0 : mh_H) (hp : mh_p3 s0) (p1 : Int32) : ∀ (n : Nat) (s188 : mh_H) (x187 : Int32), mh_Fr S_eX10_push s0 s188 → mh_Fr S_eX10_push s0 (l_eX10_push_3_1 p1 n s188 x187) := by
  have fs0 : mh_Fr S_eX10_push s0 s0 := ⟨mh_F_rf, hp⟩
  intro n
  induction n with
  | zero => intro s188 x187 fs188; exact fs188
  | succ n ih =>
    intro s188 x187 fs188
    have hlo_3_1 := ih
    rw [l_eX10_push_3_1_s]
    unfold ls_eX10_push_3_1
    exact (mh_fI fs188 (mh_fA (fun x209 => (mh_fA (fun x211 => (mh_fA (fun x213 => (mh_fB (mh_Fr_pI fs188 (mh_si 0 rfl)) (fun s215 fs215 => (mh_fA (fun x220 => (mh_fB (mh_Fr_pI fs215 (mh_sj 1 rfl)) (fun s222 fs222 => (mh_fA (fun x224 => (hlo_3_1 s222 x224 fs222))))))))))))))))
theorem fr_eX10_push (s0 : mh_H) (p1 : Int32) (hp : mh_p3 s0) : mh_Fr S_eX10_push s0 (f_eX10_push s0 p1) := by
  have fs0 : mh_Fr S_eX10_push s0 s0 := ⟨mh_F_rf, hp⟩
  unfold f_eX10_push
  exact (fr_l_eX10_push_3_1 s0 hp p1 33 s0 (24 : Int32) fs0)
theorem fr_eX10_feed (s0 : mh_H) (p1 : Int32) (p2 : Int32) (p3 : Int32) (p4 : Int32) (p5 : Int32) (hp : mh_p3 s0) : mh_FrP S_eX10_feed s0 (f_eX10_feed s0 p1 p2 p3 p4 p5) := by
  have fs0 : mh_Fr S_eX10_feed s0 s0 := ⟨mh_F_rf, hp⟩
  unfold f_eX10_feed
  exact (mh_fA (fun x23 => (mh_fA (fun x25 => (mh_fI fs0 (mh_fB (mh_Fr_tv fs0 (fr_eX10_push s0 p1 fs0.2) (by decide +kernel)) (fun s29 fs29 => (mh_fB (mh_Fr_tv fs29 (fr_eX10_push s29 p2 fs29.2) (by decide +kernel)) (fun s32 fs32 => (mh_fB (mh_Fr_tv fs32 (fr_eX10_push s32 p3 fs32.2) (by decide +kernel)) (fun s35 fs35 => (mh_fB (mh_Fr_tv fs35 (fr_eX10_push s35 p4 fs35.2) (by decide +kernel)) (fun s38 fs38 => (mh_fB (mh_Fr_tv fs38 (fr_eX10_push s38 p5 fs38.2) (by decide +kernel)) (fun s41 fs41 => (mh_fA (fun x43 => fs41)))))))))))))))))
theorem fr_l_eX10_setsAside_2_1 (s0 : mh_H) (hp : mh_p3 s0) (p1 : Int32) : ∀ (n : Nat) (s820 : mh_H) (x819 : Int32), mh_Fr S_eX10_setsAside s0 s820 → mh_Fr S_eX10_setsAside s0 (l_eX10_setsAside_2_1 p1 n s820 x819) := by
  have fs0 : mh_Fr S_eX10_setsAside s0 s0 := ⟨mh_F_rf, hp⟩
  intro n
  induction n with
  | zero => intro s820 x819 fs820; exact fs820
  | succ n ih =>
    intro s820 x819 fs820
    have hlo_2_1 := ih
    rw [l_eX10_setsAside_2_1_s]
    unfold ls_eX10_setsAside_2_1
    exact (mh_fI (mh_fA (fun x867 => (mh_fA (fun x869 => (mh_fA (fun x871 => (mh_fB (mh_Fr_pI fs820 (mh_si 0 rfl)) (fun s873 fs873 => (mh_fA (fun x879 => (mh_fB (mh_Fr_pI fs873 (mh_si 1 rfl)) (fun s881 fs881 => (mh_fA (fun x887 => (mh_fB (mh_Fr_pI fs881 (mh_si 2 rfl)) (fun s889 fs889 => (mh_fA (fun x895 => (mh_fB (mh_Fr_pI fs889 (mh_si 3 rfl)) (fun s897 fs897 => (mh_fA (fun x899 => (hlo_2_1 s897 x899 fs897))))))))))))))))))))))) (mh_fA (fun x859 => (mh_fB (mh_Fr_pI fs820 (mh_si 4 rfl)) (fun s861 fs861 => (mh_fA (fun y863 => (mh_fB (mh_Fr_pL fs861 (mh_si 5 rfl)) (fun s865 fs865 => fs865)))))))))
theorem fr_eX10_setsAside (s0 : mh_H) (p1 : Int32) (hp : mh_p3 s0) : mh_Fr S_eX10_setsAside s0 (f_eX10_setsAside s0 p1) := by
  have fs0 : mh_Fr S_eX10_setsAside s0 s0 := ⟨mh_F_rf, hp⟩
  unfold f_eX10_setsAside
  exact (fr_l_eX10_setsAside_2_1 s0 hp p1 145 s0 (0 : Int32) fs0)
theorem fr_l_eX10_putsBack_2_1 (s0 : mh_H) (hp : mh_p3 s0) (p1 : Int32) : ∀ (n : Nat) (s820 : mh_H) (x819 : Int32), mh_Fr S_eX10_putsBack s0 s820 → mh_Fr S_eX10_putsBack s0 (l_eX10_putsBack_2_1 p1 n s820 x819) := by
  have fs0 : mh_Fr S_eX10_putsBack s0 s0 := ⟨mh_F_rf, hp⟩
  intro n
  induction n with
  | zero => intro s820 x819 fs820; exact fs820
  | succ n ih =>
    intro s820 x819 fs820
    have hlo_2_1 := ih
    rw [l_eX10_putsBack_2_1_s]
    unfold ls_eX10_putsBack_2_1
    exact (mh_fI (mh_fA (fun x867 => (mh_fA (fun x869 => (mh_fA (fun x871 => (mh_fB (mh_Fr_pI fs820 (mh_si 0 rfl)) (fun s873 fs873 => (mh_fA (fun x879 => (mh_fB (mh_Fr_pI fs873 (mh_si 1 rfl)) (fun s881 fs881 => (mh_fA (fun x887 => (mh_fB (mh_Fr_pI fs881 (mh_si 2 rfl)) (fun s889 fs889 => (mh_fA (fun x895 => (mh_fB (mh_Fr_pI fs889 (mh_si 3 rfl)) (fun s897 fs897 => (mh_fA (fun x899 => (hlo_2_1 s897 x899 fs897))))))))))))))))))))))) (mh_fA (fun x859 => (mh_fB (mh_Fr_pI fs820 (mh_sj 4 rfl)) (fun s861 fs861 => (mh_fA (fun y863 => (mh_fB (mh_Fr_pL fs861 (mh_sj 5 rfl)) (fun s865 fs865 => fs865)))))))))
theorem fr_eX10_putsBack (s0 : mh_H) (p1 : Int32) (hp : mh_p3 s0) : mh_Fr S_eX10_putsBack s0 (f_eX10_putsBack s0 p1) := by
  have fs0 : mh_Fr S_eX10_putsBack s0 s0 := ⟨mh_F_rf, hp⟩
  unfold f_eX10_putsBack
  exact (fr_l_eX10_putsBack_2_1 s0 hp p1 145 s0 (0 : Int32) fs0)
theorem fr_j_eX10_highestTop_42_2 (s0 : mh_H) (hp : mh_p3 s0) (lo_4_1 : mh_H → Int32 → Int32 → Int32 × mh_H) (s460 : mh_H) (x435 : Int32) (x472 : Int32) (hlo_4_1 : ∀ (s437 : mh_H) (x435 : Int32) (x436 : Int32), mh_Fr S_eX10_highestTop s0 s437 → mh_FrP S_eX10_highestTop s0 (lo_4_1 s437 x435 x436)) (fs460 : mh_Fr S_eX10_highestTop s0 s460) : mh_FrP S_eX10_highestTop s0 (j_eX10_highestTop_42_2 lo_4_1 s460 x435 x472) := by
  have fs0 : mh_Fr S_eX10_highestTop s0 s0 := ⟨mh_F_rf, hp⟩
  unfold j_eX10_highestTop_42_2
  exact (mh_fA (fun x475 => (hlo_4_1 s460 x475 x472 fs460)))
theorem fr_l_eX10_highestTop_4_1 (s0 : mh_H) (hp : mh_p3 s0) : ∀ (n : Nat) (s437 : mh_H) (x435 : Int32) (x436 : Int32), mh_Fr S_eX10_highestTop s0 s437 → mh_FrP S_eX10_highestTop s0 (l_eX10_highestTop_4_1 n s437 x435 x436) := by
  have fs0 : mh_Fr S_eX10_highestTop s0 s0 := ⟨mh_F_rf, hp⟩
  intro n
  induction n with
  | zero => intro s437 x435 x436 fs437; exact fs437
  | succ n ih =>
    intro s437 x435 x436 fs437
    have hlo_4_1 := ih
    rw [l_eX10_highestTop_4_1_s]
    unfold ls_eX10_highestTop_4_1
    exact (mh_fI (mh_fC (mh_Fr_tl fs437 (fr_eX10_mistAt s437 x435 fs437.2) (by decide +kernel)) (fun x459 s460 fs460 => (mh_fI (mh_fA (fun x478 => (mh_fA (fun x480 => (mh_fI (fr_j_eX10_highestTop_42_2 s0 hp (l_eX10_highestTop_4_1 n) s460 x435 x480 hlo_4_1 fs460) (fr_j_eX10_highestTop_42_2 s0 hp (l_eX10_highestTop_4_1 n) s460 x435 x436 hlo_4_1 fs460)))))) (fr_j_eX10_highestTop_42_2 s0 hp (l_eX10_highestTop_4_1 n) s460 x435 x436 hlo_4_1 fs460)))) fs437)
theorem fr_eX10_highestTop (s0 : mh_H) (hp : mh_p3 s0) : mh_FrP S_eX10_highestTop s0 (f_eX10_highestTop s0) := by
  have fs0 : mh_Fr S_eX10_highestTop s0 s0 := ⟨mh_F_rf, hp⟩
  unfold f_eX10_highestTop
  exact (fr_l_eX10_highestTop_4_1 s0 hp 145 s0 (0 : Int32) (0 : Int32) fs0)
theorem fr_j_eX10_band_86_3 (s0 : mh_H) (hp : mh_p3 s0) (lo_44_2 : Int32 → Int32 → Int32 × mh_H) (x4135 : Int32) (x4170 : Int32) (hlo_44_2 : ∀ (x4135 : Int32) (x4136 : Int32), mh_FrP S_eX10_band s0 (lo_44_2 x4135 x4136)) : mh_FrP S_eX10_band s0 (j_eX10_band_86_3 lo_44_2 x4135 x4170) := by
  have fs0 : mh_Fr S_eX10_band s0 s0 := ⟨mh_F_rf, hp⟩
  unfold j_eX10_band_86_3
  exact (mh_fA (fun x4173 => (hlo_44_2 x4173 x4170)))
theorem fr_l_eX10_band_44_2 (s0 : mh_H) (hp : mh_p3 s0) (lo_31_1 : mh_H → Int32 → Int32 → Int32 × mh_H) (s3919 : mh_H) (p2 : Int32) (x3651 : Int32) (hlo_31_1 : ∀ (s3653 : mh_H) (x3651 : Int32) (x3652 : Int32), mh_Fr S_eX10_band s0 s3653 → mh_FrP S_eX10_band s0 (lo_31_1 s3653 x3651 x3652)) (fs3919 : mh_Fr S_eX10_band s0 s3919) : ∀ (n : Nat) (x4135 : Int32) (x4136 : Int32), mh_FrP S_eX10_band s0 (l_eX10_band_44_2 lo_31_1 s3919 p2 x3651 n x4135 x4136) := by
  have fs0 : mh_Fr S_eX10_band s0 s0 := ⟨mh_F_rf, hp⟩
  intro n
  induction n with
  | zero => intro x4135 x4136; exact fs3919
  | succ n ih =>
    intro x4135 x4136
    have hlo_44_2 := ih
    rw [l_eX10_band_44_2_s]
    unfold ls_eX10_band_44_2
    exact (mh_fI (mh_fA (fun x4158 => (mh_fI (fr_j_eX10_band_86_3 s0 hp (l_eX10_band_44_2 lo_31_1 s3919 p2 x3651 n) x4135 x4136 hlo_44_2) (mh_fA (fun x4176 => (mh_fA (fun x4178 => (mh_fI (fr_j_eX10_band_86_3 s0 hp (l_eX10_band_44_2 lo_31_1 s3919 p2 x3651 n) x4135 x4178 hlo_44_2) (fr_j_eX10_band_86_3 s0 hp (l_eX10_band_44_2 lo_31_1 s3919 p2 x3651 n) x4135 x4136 hlo_44_2))))))))) (mh_fA (fun x4156 => (hlo_31_1 s3919 x4156 x4136 fs3919))))
theorem fr_l_eX10_band_31_1 (s0 : mh_H) (hp : mh_p3 s0) (p1 : Int32) (p2 : Int32) : ∀ (n : Nat) (s3653 : mh_H) (x3651 : Int32) (x3652 : Int32), mh_Fr S_eX10_band s0 s3653 → mh_FrP S_eX10_band s0 (l_eX10_band_31_1 p1 p2 n s3653 x3651 x3652) := by
  have fs0 : mh_Fr S_eX10_band s0 s0 := ⟨mh_F_rf, hp⟩
  intro n
  induction n with
  | zero => intro s3653 x3651 x3652 fs3653; exact fs3653
  | succ n ih =>
    intro s3653 x3651 x3652 fs3653
    have hlo_31_1 := ih
    rw [l_eX10_band_31_1_s]
    unfold ls_eX10_band_31_1
    exact (mh_fI (mh_fB (mh_Fr_tv fs3653 (fr_eX10_stepOne s3653 fs3653.2) (by decide +kernel)) (fun s3919 fs3919 => (fr_l_eX10_band_44_2 s0 hp (l_eX10_band_31_1 p1 p2 n) s3919 p2 x3651 hlo_31_1 fs3919 145 (0 : Int32) x3652))) (mh_fB (mh_Fr_tv fs3653 (fr_eX10_putsBack s3653 (0 : Int32) fs3653.2) (by decide +kernel)) (fun s3915 fs3915 => (mh_fI fs3915 fs3915))))
theorem fr_eX10_band (s0 : mh_H) (p1 : Int32) (p2 : Int32) (hp : mh_p3 s0) : mh_FrP S_eX10_band s0 (f_eX10_band s0 p1 p2) := by
  have fs0 : mh_Fr S_eX10_band s0 s0 := ⟨mh_F_rf, hp⟩
  unfold f_eX10_band
  exact (mh_fA (fun x2087 => (mh_fI fs0 (mh_fA (fun y2091 => (mh_fA (fun x2093 => (mh_fI fs0 (mh_fB (mh_Fr_tv fs0 (fr_eX10_setsAside s0 (0 : Int32) fs0.2) (by decide +kernel)) (fun s2098 fs2098 => (fr_l_eX10_band_31_1 s0 hp p1 p2 61 s2098 (0 : Int32) (0 : Int32) fs2098)))))))))))
theorem fr_l_eX10_laysNight_19_2 (s0 : mh_H) (hp : mh_p3 s0) (p2 : Int32) : ∀ (n : Nat) (s210 : mh_H) (x209 : Int32), mh_Fr S_eX10_laysNight s0 s210 → mh_Fr S_eX10_laysNight s0 (l_eX10_laysNight_19_2 p2 n s210 x209) := by
  have fs0 : mh_Fr S_eX10_laysNight s0 s0 := ⟨mh_F_rf, hp⟩
  intro n
  induction n with
  | zero => intro s210 x209 fs210; exact fs210
  | succ n ih =>
    intro s210 x209 fs210
    have hlo_19_2 := ih
    rw [l_eX10_laysNight_19_2_s]
    unfold ls_eX10_laysNight_19_2
    exact (mh_fI (mh_fB (mh_Fr_tv fs210 (fr_eX10_stepOne s210 fs210.2) (by decide +kernel)) (fun s221 fs221 => (mh_fA (fun x223 => (hlo_19_2 s221 x223 fs221))))) fs210)
theorem fr_j_eX10_laysNight_17_1 (s0 : mh_H) (hp : mh_p3 s0) (s84 : mh_H) (p2 : Int32) (fs84 : mh_Fr S_eX10_laysNight s0 s84) : mh_Fr S_eX10_laysNight s0 (j_eX10_laysNight_17_1 s84 p2) := by
  have fs0 : mh_Fr S_eX10_laysNight s0 s0 := ⟨mh_F_rf, hp⟩
  unfold j_eX10_laysNight_17_1
  exact (fr_l_eX10_laysNight_19_2 s0 hp p2 61 s84 (0 : Int32) fs84)
theorem fr_eX10_laysNight (s0 : mh_H) (p1 : Int32) (p2 : Int32) (hp : mh_p3 s0) : mh_Fr S_eX10_laysNight s0 (f_eX10_laysNight s0 p1 p2) := by
  have fs0 : mh_Fr S_eX10_laysNight s0 s0 := ⟨mh_F_rf, hp⟩
  unfold f_eX10_laysNight
  exact (mh_fB (mh_Fr_tv fs0 (fr_eX10_setsAside s0 (0 : Int32) fs0.2) (by decide +kernel)) (fun s79 fs79 => (mh_fI (fr_j_eX10_laysNight_17_1 s0 hp s79 p2 fs79) (mh_fB (mh_Fr_pI fs79 (mh_si 6 rfl)) (fun s226 fs226 => (fr_j_eX10_laysNight_17_1 s0 hp s226 p2 fs226))))))
theorem fr_j_eX10_works_185_5 (s0 : mh_H) (hp : mh_p3 s0) (lo_112_2 : Int32 → Int32 → Int32 → Int32 → Int32 → Int32 × mh_H) (x1335 : Int32) (x1391 : Int32) (x1402 : Int32) (x1405 : Int32) (x1406 : Int32) (hlo_112_2 : ∀ (x1335 : Int32) (x1336 : Int32) (x1337 : Int32) (x1338 : Int32) (x1339 : Int32), mh_FrP S_eX10_works s0 (lo_112_2 x1335 x1336 x1337 x1338 x1339)) : mh_FrP S_eX10_works s0 (j_eX10_works_185_5 lo_112_2 x1335 x1391 x1402 x1405 x1406) := by
  have fs0 : mh_Fr S_eX10_works s0 s0 := ⟨mh_F_rf, hp⟩
  unfold j_eX10_works_185_5
  exact (mh_fA (fun x1409 => (hlo_112_2 x1409 x1405 x1406 x1402 x1391)))
theorem fr_j_eX10_works_164_4 (s0 : mh_H) (hp : mh_p3 s0) (lo_112_2 : Int32 → Int32 → Int32 → Int32 → Int32 → Int32 × mh_H) (x1335 : Int32) (x1336 : Int32) (x1337 : Int32) (x1338 : Int32) (x1376 : Int32) (x1391 : Int32) (x1394 : Int32) (hlo_112_2 : ∀ (x1335 : Int32) (x1336 : Int32) (x1337 : Int32) (x1338 : Int32) (x1339 : Int32), mh_FrP S_eX10_works s0 (lo_112_2 x1335 x1336 x1337 x1338 x1339)) : mh_FrP S_eX10_works s0 (j_eX10_works_164_4 lo_112_2 x1335 x1336 x1337 x1338 x1376 x1391 x1394) := by
  have fs0 : mh_Fr S_eX10_works s0 s0 := ⟨mh_F_rf, hp⟩
  unfold j_eX10_works_164_4
  exact (mh_fA (fun x1402 => (mh_fI (fr_j_eX10_works_185_5 s0 hp lo_112_2 x1335 x1391 x1402 x1376 x1335 hlo_112_2) (fr_j_eX10_works_185_5 s0 hp lo_112_2 x1335 x1391 x1402 x1336 x1337 hlo_112_2))))
theorem fr_j_eX10_works_149_3 (s0 : mh_H) (hp : mh_p3 s0) (lo_112_2 : Int32 → Int32 → Int32 → Int32 → Int32 → Int32 × mh_H) (x1335 : Int32) (x1336 : Int32) (x1337 : Int32) (x1338 : Int32) (x1339 : Int32) (x1376 : Int32) (x1379 : Int32) (hlo_112_2 : ∀ (x1335 : Int32) (x1336 : Int32) (x1337 : Int32) (x1338 : Int32) (x1339 : Int32), mh_FrP S_eX10_works s0 (lo_112_2 x1335 x1336 x1337 x1338 x1339)) : mh_FrP S_eX10_works s0 (j_eX10_works_149_3 lo_112_2 x1335 x1336 x1337 x1338 x1339 x1376 x1379) := by
  have fs0 : mh_Fr S_eX10_works s0 s0 := ⟨mh_F_rf, hp⟩
  unfold j_eX10_works_149_3
  exact (mh_fA (fun x1391 => (mh_fI (fr_j_eX10_works_164_4 s0 hp lo_112_2 x1335 x1336 x1337 x1338 x1376 x1391 (1 : Int32) hlo_112_2) (fr_j_eX10_works_164_4 s0 hp lo_112_2 x1335 x1336 x1337 x1338 x1376 x1391 (0 : Int32) hlo_112_2))))
theorem fr_l_eX10_works_112_2 (s0 : mh_H) (hp : mh_p3 s0) (s838 : mh_H) (p4 : Int32) (fs838 : mh_Fr S_eX10_works s0 s838) : ∀ (n : Nat) (x1335 : Int32) (x1336 : Int32) (x1337 : Int32) (x1338 : Int32) (x1339 : Int32), mh_FrP S_eX10_works s0 (l_eX10_works_112_2 s838 p4 n x1335 x1336 x1337 x1338 x1339) := by
  have fs0 : mh_Fr S_eX10_works s0 s0 := ⟨mh_F_rf, hp⟩
  intro n
  induction n with
  | zero => intro x1335 x1336 x1337 x1338 x1339; exact fs838
  | succ n ih =>
    intro x1335 x1336 x1337 x1338 x1339
    have hlo_112_2 := ih
    rw [l_eX10_works_112_2_s]
    unfold ls_eX10_works_112_2
    exact (mh_fI (mh_fA (fun x1372 => (mh_fA (fun x1374 => (mh_fA (fun x1376 => (mh_fI (fr_j_eX10_works_149_3 s0 hp (l_eX10_works_112_2 s838 p4 n) x1335 x1336 x1337 x1338 x1339 x1376 (1 : Int32) hlo_112_2) (fr_j_eX10_works_149_3 s0 hp (l_eX10_works_112_2 s838 p4 n) x1335 x1336 x1337 x1338 x1339 x1376 (0 : Int32) hlo_112_2)))))))) (mh_fB (mh_Fr_tv fs838 (fr_eX10_putsBack s838 (0 : Int32) fs838.2) (by decide +kernel)) (fun s1367 fs1367 => (mh_fI fs1367 (mh_fI fs1367 (mh_fI fs1367 fs1367))))))
theorem fr_l_eX10_works_53_1 (s0 : mh_H) (hp : mh_p3 s0) (p1 : Int32) (p2 : Int32) (p3 : Int32) (p4 : Int32) : ∀ (n : Nat) (s820 : mh_H) (x819 : Int32), mh_Fr S_eX10_works s0 s820 → mh_FrP S_eX10_works s0 (l_eX10_works_53_1 p1 p2 p3 p4 n s820 x819) := by
  have fs0 : mh_Fr S_eX10_works s0 s0 := ⟨mh_F_rf, hp⟩
  intro n
  induction n with
  | zero => intro s820 x819 fs820; exact fs820
  | succ n ih =>
    intro s820 x819 fs820
    have hlo_53_1 := ih
    rw [l_eX10_works_53_1_s]
    unfold ls_eX10_works_53_1
    exact (mh_fI (mh_fA (fun x1414 => (mh_fB (mh_Fr_pI fs820 (mh_si 22 rfl)) (fun s1416 fs1416 => (mh_fA (fun x1418 => (hlo_53_1 s1416 x1418 fs1416))))))) (mh_fB (mh_Fr_tv fs820 (fr_eX10_putsBack s820 (0 : Int32) fs820.2) (by decide +kernel)) (fun s832 fs832 => (mh_fA (fun x834 => (mh_fB (mh_Fr_tv fs832 (fr_eX10_laysNight s832 x834 p3 fs832.2) (by decide +kernel)) (fun s838 fs838 => (fr_l_eX10_works_112_2 s0 hp s838 p4 fs838 145 (0 : Int32) (0 : Int32) (-2 : Int32) (0 : Int32) (0 : Int32)))))))))
theorem fr_eX10_works (s0 : mh_H) (p1 : Int32) (p2 : Int32) (p3 : Int32) (p4 : Int32) (hp : mh_p3 s0) : mh_FrP S_eX10_works s0 (f_eX10_works s0 p1 p2 p3 p4) := by
  have fs0 : mh_Fr S_eX10_works s0 s0 := ⟨mh_F_rf, hp⟩
  unfold f_eX10_works
  exact (mh_fA (fun x699 => (mh_fI fs0 (mh_fA (fun x703 => (mh_fI fs0 (mh_fA (fun y707 => (mh_fA (fun x709 => (mh_fI fs0 (mh_fA (fun x713 => (mh_fA (fun x716 => (mh_fI fs0 (mh_fB (mh_Fr_tv fs0 (fr_eX10_laysNight s0 (-1 : Int32) p3 fs0.2) (by decide +kernel)) (fun s720 fs720 => (fr_l_eX10_works_53_1 s0 hp p1 p2 p3 p4 145 s720 (0 : Int32) fs720)))))))))))))))))))
theorem fr_j_eX10_dam_106_2 (s0 : mh_H) (hp : mh_p3 s0) (lo_45_1 : mh_H → Int32 → Int32 → Int32 → Int32 × mh_H) (s530 : mh_H) (x490 : Int32) (x528 : Int32) (x529 : Int32) (hlo_45_1 : ∀ (s493 : mh_H) (x490 : Int32) (x491 : Int32) (x492 : Int32), mh_Fr S_eX10_dam s0 s493 → mh_FrP S_eX10_dam s0 (lo_45_1 s493 x490 x491 x492)) (fs530 : mh_Fr S_eX10_dam s0 s530) : mh_FrP S_eX10_dam s0 (j_eX10_dam_106_2 lo_45_1 s530 x490 x528 x529) := by
  have fs0 : mh_Fr S_eX10_dam s0 s0 := ⟨mh_F_rf, hp⟩
  unfold j_eX10_dam_106_2
  exact (mh_fA (fun x533 => (hlo_45_1 s530 x533 x529 x528 fs530)))
theorem fr_j_eX10_dam_98_3 (s0 : mh_H) (hp : mh_p3 s0) (lo_45_1 : mh_H → Int32 → Int32 → Int32 → Int32 × mh_H) (s542 : mh_H) (x490 : Int32) (x539 : Int32) (hlo_45_1 : ∀ (s493 : mh_H) (x490 : Int32) (x491 : Int32) (x492 : Int32), mh_Fr S_eX10_dam s0 s493 → mh_FrP S_eX10_dam s0 (lo_45_1 s493 x490 x491 x492)) (fs542 : mh_Fr S_eX10_dam s0 s542) : mh_FrP S_eX10_dam s0 (j_eX10_dam_98_3 lo_45_1 s542 x490 x539) := by
  have fs0 : mh_Fr S_eX10_dam s0 s0 := ⟨mh_F_rf, hp⟩
  unfold j_eX10_dam_98_3
  exact (fr_j_eX10_dam_106_2 s0 hp lo_45_1 s542 x490 x490 x539 hlo_45_1 fs542)
theorem fr_l_eX10_dam_45_1 (s0 : mh_H) (hp : mh_p3 s0) (p1 : Int32) (p2 : Int32) (p3 : Int32) : ∀ (n : Nat) (s493 : mh_H) (x490 : Int32) (x491 : Int32) (x492 : Int32), mh_Fr S_eX10_dam s0 s493 → mh_FrP S_eX10_dam s0 (l_eX10_dam_45_1 p1 p2 p3 n s493 x490 x491 x492) := by
  have fs0 : mh_Fr S_eX10_dam s0 s0 := ⟨mh_F_rf, hp⟩
  intro n
  induction n with
  | zero => intro s493 x490 x491 x492 fs493; exact fs493
  | succ n ih =>
    intro s493 x490 x491 x492 fs493
    have hlo_45_1 := ih
    rw [l_eX10_dam_45_1_s]
    unfold ls_eX10_dam_45_1
    exact (mh_fI (mh_fI (fr_j_eX10_dam_106_2 s0 hp (l_eX10_dam_45_1 p1 p2 p3 n) s493 x490 x492 x491 hlo_45_1 fs493) (mh_fB (mh_Fr_tv fs493 (fr_eX10_laysNight s493 x490 p2 fs493.2) (by decide +kernel)) (fun s537 fs537 => (mh_fA (fun x539 => (mh_fB (mh_Fr_tv fs537 (fr_eX10_putsBack s537 (0 : Int32) fs537.2) (by decide +kernel)) (fun s542 fs542 => (mh_fI (fr_j_eX10_dam_98_3 s0 hp (l_eX10_dam_45_1 p1 p2 p3 n) s542 x490 x539 hlo_45_1 fs542) (mh_fI (fr_j_eX10_dam_98_3 s0 hp (l_eX10_dam_45_1 p1 p2 p3 n) s542 x490 x539 hlo_45_1 fs542) (fr_j_eX10_dam_106_2 s0 hp (l_eX10_dam_45_1 p1 p2 p3 n) s542 x490 x492 x491 hlo_45_1 fs542)))))))))) (mh_fI fs493 fs493))
theorem fr_eX10_dam (s0 : mh_H) (p1 : Int32) (p2 : Int32) (p3 : Int32) (hp : mh_p3 s0) : mh_FrP S_eX10_dam s0 (f_eX10_dam s0 p1 p2 p3) := by
  have fs0 : mh_Fr S_eX10_dam s0 s0 := ⟨mh_F_rf, hp⟩
  unfold f_eX10_dam
  exact (mh_fA (fun y267 => (mh_fA (fun x269 => (mh_fI fs0 (mh_fA (fun y273 => (mh_fA (fun x275 => (mh_fI fs0 (mh_fA (fun y279 => (mh_fA (fun x281 => (mh_fI fs0 (fr_l_eX10_dam_45_1 s0 hp p1 p2 p3 145 s0 (0 : Int32) (0 : Int32) (-1 : Int32) fs0))))))))))))))))
theorem fr_eX10_road (s0 : mh_H) (p1 : Int32) (p2 : Int32) (p3 : Int32) (p4 : Int32) (p5 : Int32) (hp : mh_p3 s0) : mh_FrP S_eX10_road s0 (f_eX10_road s0 p1 p2 p3 p4 p5) := by
  have fs0 : mh_Fr S_eX10_road s0 s0 := ⟨mh_F_rf, hp⟩
  unfold f_eX10_road
  exact (mh_fA (fun y38 => (mh_fA (fun x40 => (mh_fI fs0 (mh_fA (fun x44 => (mh_fI fs0 (mh_fA (fun x48 => (mh_fI fs0 (mh_fI fs0 (mh_fA (fun y53 => (mh_fA (fun x55 => (mh_fI fs0 (mh_fA (fun y59 => (mh_fA (fun x61 => (mh_fI fs0 (mh_fB (mh_Fr_pI fs0 (mh_si 0 rfl)) (fun s65 fs65 => (mh_fB (mh_Fr_pI fs65 (mh_si 1 rfl)) (fun s67 fs67 => (mh_fB (mh_Fr_pI fs67 (mh_si 2 rfl)) (fun s69 fs69 => (mh_fB (mh_Fr_pI fs69 (mh_si 3 rfl)) (fun s71 fs71 => (mh_fB (mh_Fr_pI fs71 (mh_si 4 rfl)) (fun s73 fs73 => fs73))))))))))))))))))))))))))))))))
theorem fr_j_eX10_laysYards_54_3 (s0 : mh_H) (hp : mh_p3 s0) (lo_15_2 : mh_H → Int32 → mh_H) (s3832 : mh_H) (x3790 : Int32) (x3821 : Int32) (x3831 : Int32) (hlo_15_2 : ∀ (s3791 : mh_H) (x3790 : Int32), mh_Fr S_eX10_laysYards s0 s3791 → mh_Fr S_eX10_laysYards s0 (lo_15_2 s3791 x3790)) (fs3832 : mh_Fr S_eX10_laysYards s0 s3832) : mh_Fr S_eX10_laysYards s0 (j_eX10_laysYards_54_3 lo_15_2 s3832 x3790 x3821 x3831) := by
  have fs0 : mh_Fr S_eX10_laysYards s0 s0 := ⟨mh_F_rf, hp⟩
  unfold j_eX10_laysYards_54_3
  exact (mh_fB (mh_Fr_pI fs3832 (mh_si 13 rfl)) (fun s3837 fs3837 => (mh_fA (fun x3839 => (hlo_15_2 s3837 x3839 fs3837)))))
theorem fr_l_eX10_laysYards_15_2 (s0 : mh_H) (hp : mh_p3 s0) (lo_7_1 : mh_H → Int32 → mh_H) (x3486 : Int32) (hlo_7_1 : ∀ (s3487 : mh_H) (x3486 : Int32), mh_Fr S_eX10_laysYards s0 s3487 → mh_Fr S_eX10_laysYards s0 (lo_7_1 s3487 x3486)) : ∀ (n : Nat) (s3791 : mh_H) (x3790 : Int32), mh_Fr S_eX10_laysYards s0 s3791 → mh_Fr S_eX10_laysYards s0 (l_eX10_laysYards_15_2 lo_7_1 x3486 n s3791 x3790) := by
  have fs0 : mh_Fr S_eX10_laysYards s0 s0 := ⟨mh_F_rf, hp⟩
  intro n
  induction n with
  | zero => intro s3791 x3790 fs3791; exact fs3791
  | succ n ih =>
    intro s3791 x3790 fs3791
    have hlo_15_2 := ih
    rw [l_eX10_laysYards_15_2_s]
    unfold ls_eX10_laysYards_15_2
    exact (mh_fI (mh_fA (fun x3819 => (mh_fA (fun x3821 => (mh_fA (fun x3823 => (mh_fI (fr_j_eX10_laysYards_54_3 s0 hp (l_eX10_laysYards_15_2 lo_7_1 x3486 n) s3791 x3790 x3821 (0 : Int32) hlo_15_2 fs3791) (mh_fA (fun x3842 => (mh_fC (mh_Fr_tl fs3791 (fr_eX10_yardsAt s3791 x3842 fs3791.2) (by decide +kernel)) (fun x3844 s3845 fs3845 => (fr_j_eX10_laysYards_54_3 s0 hp (l_eX10_laysYards_15_2 lo_7_1 x3486 n) s3845 x3790 x3821 x3844 hlo_15_2 fs3845)))))))))))) (mh_fB (mh_Fr_tv fs3791 (fr_eX10_stepOne s3791 fs3791.2) (by decide +kernel)) (fun s3815 fs3815 => (mh_fA (fun x3817 => (hlo_7_1 s3815 x3817 fs3815))))))
theorem fr_l_eX10_laysYards_7_1 (s0 : mh_H) (hp : mh_p3 s0) : ∀ (n : Nat) (s3487 : mh_H) (x3486 : Int32), mh_Fr S_eX10_laysYards s0 s3487 → mh_Fr S_eX10_laysYards s0 (l_eX10_laysYards_7_1 n s3487 x3486) := by
  have fs0 : mh_Fr S_eX10_laysYards s0 s0 := ⟨mh_F_rf, hp⟩
  intro n
  induction n with
  | zero => intro s3487 x3486 fs3487; exact fs3487
  | succ n ih =>
    intro s3487 x3486 fs3487
    have hlo_7_1 := ih
    rw [l_eX10_laysYards_7_1_s]
    unfold ls_eX10_laysYards_7_1
    exact (mh_fI (fr_l_eX10_laysYards_15_2 s0 hp (l_eX10_laysYards_7_1 n) x3486 hlo_7_1 21 s3487 (0 : Int32) fs3487) (mh_fB (mh_Fr_tv fs3487 (fr_eX10_putsBack s3487 (0 : Int32) fs3487.2) (by decide +kernel)) (fun s3664 fs3664 => fs3664)))
theorem fr_eX10_laysYards (s0 : mh_H) (hp : mh_p3 s0) : mh_Fr S_eX10_laysYards s0 (f_eX10_laysYards s0) := by
  have fs0 : mh_Fr S_eX10_laysYards s0 s0 := ⟨mh_F_rf, hp⟩
  unfold f_eX10_laysYards
  exact (mh_fB (mh_Fr_tv fs0 (fr_eX10_setsAside s0 (0 : Int32) fs0.2) (by decide +kernel)) (fun s1920 fs1920 => (fr_l_eX10_laysYards_7_1 s0 hp 31 s1920 (0 : Int32) fs1920)))
theorem fr_eX10_arrives (s0 : mh_H) (p1 : Int32) (p2 : Int32) (hp : mh_p3 s0) : mh_Fr S_eX10_arrives s0 (f_eX10_arrives s0 p1 p2) := by
  have fs0 : mh_Fr S_eX10_arrives s0 s0 := ⟨mh_F_rf, hp⟩
  unfold f_eX10_arrives
  exact (mh_fI fs0 (mh_fA (fun x9 => (mh_fA (fun x11 => (mh_fB (mh_Fr_pI fs0 (mh_si 0 rfl)) (fun s13 fs13 => fs13)))))))
theorem fr_j_eX10_soonest_258_4 (s0 : mh_H) (hp : mh_p3 s0) (lo_112_3 : mh_H → Int32 → Int32 × mh_H) (s18632 : mh_H) (x17877 : Int32) (hlo_112_3 : ∀ (s17878 : mh_H) (x17877 : Int32), mh_Fr S_eX10_soonest s0 s17878 → mh_FrP S_eX10_soonest s0 (lo_112_3 s17878 x17877)) (fs18632 : mh_Fr S_eX10_soonest s0 s18632) : mh_FrP S_eX10_soonest s0 (j_eX10_soonest_258_4 lo_112_3 s18632 x17877) := by
  have fs0 : mh_Fr S_eX10_soonest s0 s0 := ⟨mh_F_rf, hp⟩
  unfold j_eX10_soonest_258_4
  exact (mh_fA (fun x18635 => (hlo_112_3 s18632 x18635 fs18632)))
theorem fr_j_eX10_soonest_252_7 (s0 : mh_H) (hp : mh_p3 s0) (lo_156_6 : mh_H → Int32 → Int32 × mh_H) (s19358 : mh_H) (x19289 : Int32) (hlo_156_6 : ∀ (s19290 : mh_H) (x19289 : Int32), mh_Fr S_eX10_soonest s0 s19290 → mh_FrP S_eX10_soonest s0 (lo_156_6 s19290 x19289)) (fs19358 : mh_Fr S_eX10_soonest s0 s19358) : mh_FrP S_eX10_soonest s0 (j_eX10_soonest_252_7 lo_156_6 s19358 x19289) := by
  have fs0 : mh_Fr S_eX10_soonest s0 s0 := ⟨mh_F_rf, hp⟩
  unfold j_eX10_soonest_252_7
  exact (mh_fA (fun x19361 => (hlo_156_6 s19358 x19361 fs19358)))
theorem fr_j_eX10_soonest_221_8 (s0 : mh_H) (hp : mh_p3 s0) (lo_156_6 : mh_H → Int32 → Int32 × mh_H) (s19379 : mh_H) (x14079 : Int32) (x17877 : Int32) (x19289 : Int32) (hlo_156_6 : ∀ (s19290 : mh_H) (x19289 : Int32), mh_Fr S_eX10_soonest s0 s19290 → mh_FrP S_eX10_soonest s0 (lo_156_6 s19290 x19289)) (fs19379 : mh_Fr S_eX10_soonest s0 s19379) : mh_FrP S_eX10_soonest s0 (j_eX10_soonest_221_8 lo_156_6 s19379 x14079 x17877 x19289) := by
  have fs0 : mh_Fr S_eX10_soonest s0 s0 := ⟨mh_F_rf, hp⟩
  unfold j_eX10_soonest_221_8
  exact (mh_fA (fun x19391 => (mh_fI (mh_fA (fun x19394 => (mh_fA (fun x19396 => (mh_fB (mh_Fr_tv fs19379 (fr_eX10_arrives s19379 x19394 x19396 fs19379.2) (by decide +kernel)) (fun s19400 fs19400 => (fr_j_eX10_soonest_252_7 s0 hp lo_156_6 s19400 x19289 hlo_156_6 fs19400))))))) (fr_j_eX10_soonest_252_7 s0 hp lo_156_6 s19379 x19289 hlo_156_6 fs19379))))
theorem fr_l_eX10_soonest_156_6 (s0 : mh_H) (hp : mh_p3 s0) (lo_112_3 : mh_H → Int32 → Int32 × mh_H) (x14079 : Int32) (x17877 : Int32) (hlo_112_3 : ∀ (s17878 : mh_H) (x17877 : Int32), mh_Fr S_eX10_soonest s0 s17878 → mh_FrP S_eX10_soonest s0 (lo_112_3 s17878 x17877)) : ∀ (n : Nat) (s19290 : mh_H) (x19289 : Int32), mh_Fr S_eX10_soonest s0 s19290 → mh_FrP S_eX10_soonest s0 (l_eX10_soonest_156_6 lo_112_3 x14079 x17877 n s19290 x19289) := by
  have fs0 : mh_Fr S_eX10_soonest s0 s0 := ⟨mh_F_rf, hp⟩
  intro n
  induction n with
  | zero => intro s19290 x19289 fs19290; exact fs19290
  | succ n ih =>
    intro s19290 x19289 fs19290
    have hlo_156_6 := ih
    rw [l_eX10_soonest_156_6_s]
    unfold ls_eX10_soonest_156_6
    exact (mh_fI (mh_fA (fun x19328 => (mh_fI (fr_j_eX10_soonest_252_7 s0 hp (l_eX10_soonest_156_6 lo_112_3 x14079 x17877 n) s19290 x19289 hlo_156_6 fs19290) (mh_fA (fun x19364 => (mh_fI (fr_j_eX10_soonest_252_7 s0 hp (l_eX10_soonest_156_6 lo_112_3 x14079 x17877 n) s19290 x19289 hlo_156_6 fs19290) (mh_fA (fun x19368 => (mh_fI (mh_fA (fun x19403 => (mh_fA (fun x19405 => (mh_fB (mh_Fr_tv fs19290 (fr_eX10_arrives s19290 x19403 x19405 fs19290.2) (by decide +kernel)) (fun s19409 fs19409 => (fr_j_eX10_soonest_221_8 s0 hp (l_eX10_soonest_156_6 lo_112_3 x14079 x17877 n) s19409 x14079 x17877 x19289 hlo_156_6 fs19409))))))) (fr_j_eX10_soonest_221_8 s0 hp (l_eX10_soonest_156_6 lo_112_3 x14079 x17877 n) s19290 x14079 x17877 x19289 hlo_156_6 fs19290)))))))))) (fr_j_eX10_soonest_258_4 s0 hp lo_112_3 s19290 x17877 hlo_112_3 fs19290))
theorem fr_j_eX10_soonest_153_5 (s0 : mh_H) (hp : mh_p3 s0) (lo_112_3 : mh_H → Int32 → Int32 × mh_H) (s18644 : mh_H) (x14079 : Int32) (x17877 : Int32) (hlo_112_3 : ∀ (s17878 : mh_H) (x17877 : Int32), mh_Fr S_eX10_soonest s0 s17878 → mh_FrP S_eX10_soonest s0 (lo_112_3 s17878 x17877)) (fs18644 : mh_Fr S_eX10_soonest s0 s18644) : mh_FrP S_eX10_soonest s0 (j_eX10_soonest_153_5 lo_112_3 s18644 x14079 x17877) := by
  have fs0 : mh_Fr S_eX10_soonest s0 s0 := ⟨mh_F_rf, hp⟩
  unfold j_eX10_soonest_153_5
  exact (fr_l_eX10_soonest_156_6 s0 hp lo_112_3 x14079 x17877 hlo_112_3 21 s18644 (0 : Int32) fs18644)
theorem fr_l_eX10_soonest_112_3 (s0 : mh_H) (hp : mh_p3 s0) (lo_83_2 : mh_H → Int32 → Int32 × mh_H) (p4 : Int32) (x14079 : Int32) (x16360 : Int32) (hlo_83_2 : ∀ (s14080 : mh_H) (x14079 : Int32), mh_Fr S_eX10_soonest s0 s14080 → mh_FrP S_eX10_soonest s0 (lo_83_2 s14080 x14079)) : ∀ (n : Nat) (s17878 : mh_H) (x17877 : Int32), mh_Fr S_eX10_soonest s0 s17878 → mh_FrP S_eX10_soonest s0 (l_eX10_soonest_112_3 lo_83_2 p4 x14079 x16360 n s17878 x17877) := by
  have fs0 : mh_Fr S_eX10_soonest s0 s0 := ⟨mh_F_rf, hp⟩
  intro n
  induction n with
  | zero => intro s17878 x17877 fs17878; exact fs17878
  | succ n ih =>
    intro s17878 x17877 fs17878
    have hlo_112_3 := ih
    rw [l_eX10_soonest_112_3_s]
    unfold ls_eX10_soonest_112_3
    exact (mh_fI (mh_fA (fun x18262 => (mh_fA (fun x18264 => (mh_fI (fr_j_eX10_soonest_258_4 s0 hp (l_eX10_soonest_112_3 lo_83_2 p4 x14079 x16360 n) s17878 x17877 hlo_112_3 fs17878) (mh_fI (mh_fA (fun x19412 => (mh_fB (mh_Fr_tv fs17878 (fr_eX10_arrives s17878 x17877 x19412 fs17878.2) (by decide +kernel)) (fun s19415 fs19415 => (fr_j_eX10_soonest_153_5 s0 hp (l_eX10_soonest_112_3 lo_83_2 p4 x14079 x16360 n) s19415 x14079 x17877 hlo_112_3 fs19415))))) (fr_j_eX10_soonest_153_5 s0 hp (l_eX10_soonest_112_3 lo_83_2 p4 x14079 x16360 n) s17878 x14079 x17877 hlo_112_3 fs17878))))))) (mh_fA (fun x18258 => (hlo_83_2 s17878 x18258 fs17878))))
theorem fr_l_eX10_soonest_83_2 (s0 : mh_H) (hp : mh_p3 s0) (p2 : Int32) (p4 : Int32) : ∀ (n : Nat) (s14080 : mh_H) (x14079 : Int32), mh_Fr S_eX10_soonest s0 s14080 → mh_FrP S_eX10_soonest s0 (l_eX10_soonest_83_2 p2 p4 n s14080 x14079) := by
  have fs0 : mh_Fr S_eX10_soonest s0 s0 := ⟨mh_F_rf, hp⟩
  intro n
  induction n with
  | zero => intro s14080 x14079 fs14080; exact fs14080
  | succ n ih =>
    intro s14080 x14079 fs14080
    have hlo_83_2 := ih
    rw [l_eX10_soonest_83_2_s]
    unfold ls_eX10_soonest_83_2
    exact (mh_fI fs14080 (mh_fA (fun x16360 => (mh_fA (fun x16362 => (mh_fA (fun x16364 => (mh_fI (fr_l_eX10_soonest_112_3 s0 hp (l_eX10_soonest_83_2 p2 p4 n) p4 x14079 x16360 hlo_83_2 11 s14080 (0 : Int32) fs14080) fs14080))))))))
theorem fr_l_eX10_soonest_46_1 (s0 : mh_H) (hp : mh_p3 s0) (p1 : Int32) (p2 : Int32) (p3 : Int32) (p4 : Int32) : ∀ (n : Nat) (s9510 : mh_H) (x9509 : Int32), mh_Fr S_eX10_soonest s0 s9510 → mh_FrP S_eX10_soonest s0 (l_eX10_soonest_46_1 p1 p2 p3 p4 n s9510 x9509) := by
  have fs0 : mh_Fr S_eX10_soonest s0 s0 := ⟨mh_F_rf, hp⟩
  intro n
  induction n with
  | zero => intro s9510 x9509 fs9510; exact fs9510
  | succ n ih =>
    intro s9510 x9509 fs9510
    have hlo_46_1 := ih
    rw [l_eX10_soonest_46_1_s]
    unfold ls_eX10_soonest_46_1
    exact (mh_fI (mh_fB (mh_Fr_pI fs9510 (mh_si 24 rfl)) (fun s19417 fs19417 => (mh_fA (fun x19419 => (hlo_46_1 s19417 x19419 fs19417))))) (mh_fA (fun x9519 => (mh_fA (fun x9521 => (mh_fB (mh_Fr_pI fs9510 (mh_si 24 rfl)) (fun s9523 fs9523 => (fr_l_eX10_soonest_83_2 s0 hp p2 p4 302 s9523 p3 fs9523))))))))
theorem fr_eX10_soonest (s0 : mh_H) (p1 : Int32) (p2 : Int32) (p3 : Int32) (p4 : Int32) (hp : mh_p3 s0) : mh_FrP S_eX10_soonest s0 (f_eX10_soonest s0 p1 p2 p3 p4) := by
  have fs0 : mh_Fr S_eX10_soonest s0 s0 := ⟨mh_F_rf, hp⟩
  unfold f_eX10_soonest
  exact (mh_fA (fun x9320 => (mh_fI fs0 (mh_fA (fun x9324 => (mh_fI fs0 (mh_fA (fun y9328 => (mh_fA (fun x9330 => (mh_fI fs0 (mh_fA (fun y9334 => (mh_fA (fun x9336 => (mh_fI fs0 (mh_fB (mh_Fr_tv fs0 (fr_eX10_laysYards s0 fs0.2) (by decide +kernel)) (fun s9341 fs9341 => (fr_l_eX10_soonest_46_1 s0 hp p1 p2 p3 p4 3011 s9341 (0 : Int32) fs9341)))))))))))))))))))
theorem fr_j_eX10_edge_141_3 (s0 : mh_H) (hp : mh_p3 s0) (lo_40_2 : mh_H → Int32 → Int32 → Int32 → Int32 → Int32 × mh_H) (s3360 : mh_H) (x3283 : Int32) (x3357 : Int32) (x3358 : Int32) (x3359 : Int32) (hlo_40_2 : ∀ (s3287 : mh_H) (x3283 : Int32) (x3284 : Int32) (x3285 : Int32) (x3286 : Int32), mh_Fr S_eX10_edge s0 s3287 → mh_FrP S_eX10_edge s0 (lo_40_2 s3287 x3283 x3284 x3285 x3286)) (fs3360 : mh_Fr S_eX10_edge s0 s3360) : mh_FrP S_eX10_edge s0 (j_eX10_edge_141_3 lo_40_2 s3360 x3283 x3357 x3358 x3359) := by
  have fs0 : mh_Fr S_eX10_edge s0 s0 := ⟨mh_F_rf, hp⟩
  unfold j_eX10_edge_141_3
  exact (mh_fA (fun x3363 => (hlo_40_2 s3360 x3363 x3357 x3358 x3359 fs3360)))
theorem fr_j_eX10_edge_119_4 (s0 : mh_H) (hp : mh_p3 s0) (lo_40_2 : mh_H → Int32 → Int32 → Int32 → Int32 → Int32 × mh_H) (s3381 : mh_H) (x3117 : Int32) (x3283 : Int32) (x3284 : Int32) (x3285 : Int32) (x3286 : Int32) (x3388 : Int32) (hlo_40_2 : ∀ (s3287 : mh_H) (x3283 : Int32) (x3284 : Int32) (x3285 : Int32) (x3286 : Int32), mh_Fr S_eX10_edge s0 s3287 → mh_FrP S_eX10_edge s0 (lo_40_2 s3287 x3283 x3284 x3285 x3286)) (fs3381 : mh_Fr S_eX10_edge s0 s3381) : mh_FrP S_eX10_edge s0 (j_eX10_edge_119_4 lo_40_2 s3381 x3117 x3283 x3284 x3285 x3286 x3388) := by
  have fs0 : mh_Fr S_eX10_edge s0 s0 := ⟨mh_F_rf, hp⟩
  unfold j_eX10_edge_119_4
  exact (mh_fI (fr_j_eX10_edge_141_3 s0 hp lo_40_2 s3381 x3283 x3117 x3283 x3388 hlo_40_2 fs3381) (fr_j_eX10_edge_141_3 s0 hp lo_40_2 s3381 x3283 x3284 x3285 x3286 hlo_40_2 fs3381))
theorem fr_l_eX10_edge_40_2 (s0 : mh_H) (hp : mh_p3 s0) (lo_27_1 : mh_H → Int32 → Int32 → Int32 → Int32 → Int32 × mh_H) (x3117 : Int32) (hlo_27_1 : ∀ (s3121 : mh_H) (x3117 : Int32) (x3118 : Int32) (x3119 : Int32) (x3120 : Int32), mh_Fr S_eX10_edge s0 s3121 → mh_FrP S_eX10_edge s0 (lo_27_1 s3121 x3117 x3118 x3119 x3120)) : ∀ (n : Nat) (s3287 : mh_H) (x3283 : Int32) (x3284 : Int32) (x3285 : Int32) (x3286 : Int32), mh_Fr S_eX10_edge s0 s3287 → mh_FrP S_eX10_edge s0 (l_eX10_edge_40_2 lo_27_1 x3117 n s3287 x3283 x3284 x3285 x3286) := by
  have fs0 : mh_Fr S_eX10_edge s0 s0 := ⟨mh_F_rf, hp⟩
  intro n
  induction n with
  | zero => intro s3287 x3283 x3284 x3285 x3286 fs3287; exact fs3287
  | succ n ih =>
    intro s3287 x3283 x3284 x3285 x3286 fs3287
    have hlo_40_2 := ih
    rw [l_eX10_edge_40_2_s]
    unfold ls_eX10_edge_40_2
    exact (mh_fI (mh_fA (fun x3330 => (mh_fI (fr_j_eX10_edge_141_3 s0 hp (l_eX10_edge_40_2 lo_27_1 x3117 n) s3287 x3283 x3284 x3285 x3286 hlo_40_2 fs3287) (mh_fA (fun x3366 => (mh_fI (fr_j_eX10_edge_141_3 s0 hp (l_eX10_edge_40_2 lo_27_1 x3117 n) s3287 x3283 x3284 x3285 x3286 hlo_40_2 fs3287) (mh_fA (fun x3369 => (mh_fI (fr_j_eX10_edge_141_3 s0 hp (l_eX10_edge_40_2 lo_27_1 x3117 n) s3287 x3283 x3284 x3285 x3286 hlo_40_2 fs3287) (mh_fA (fun x3373 => (mh_fC (mh_Fr_tl fs3287 (fr_eX10_yardsAt s3287 x3373 fs3287.2) (by decide +kernel)) (fun x3375 s3376 fs3376 => (mh_fA (fun x3378 => (mh_fC (mh_Fr_tl fs3376 (fr_eX10_yardsAt s3376 x3378 fs3376.2) (by decide +kernel)) (fun x3380 s3381 fs3381 => (mh_fA (fun x3383 => (mh_fI (mh_fA (fun x3392 => (fr_j_eX10_edge_119_4 s0 hp (l_eX10_edge_40_2 lo_27_1 x3117 n) s3381 x3117 x3283 x3284 x3285 x3286 x3392 hlo_40_2 fs3381))) (fr_j_eX10_edge_119_4 s0 hp (l_eX10_edge_40_2 lo_27_1 x3117 n) s3381 x3117 x3283 x3284 x3285 x3286 x3383 hlo_40_2 fs3381))))))))))))))))))))) (mh_fA (fun x3328 => (hlo_27_1 s3287 x3328 x3286 x3285 x3284 fs3287))))
theorem fr_l_eX10_edge_27_1 (s0 : mh_H) (hp : mh_p3 s0) (p1 : Int32) : ∀ (n : Nat) (s3121 : mh_H) (x3117 : Int32) (x3118 : Int32) (x3119 : Int32) (x3120 : Int32), mh_Fr S_eX10_edge s0 s3121 → mh_FrP S_eX10_edge s0 (l_eX10_edge_27_1 p1 n s3121 x3117 x3118 x3119 x3120) := by
  have fs0 : mh_Fr S_eX10_edge s0 s0 := ⟨mh_F_rf, hp⟩
  intro n
  induction n with
  | zero => intro s3121 x3117 x3118 x3119 x3120 fs3121; exact fs3121
  | succ n ih =>
    intro s3121 x3117 x3118 x3119 x3120 fs3121
    have hlo_27_1 := ih
    rw [l_eX10_edge_27_1_s]
    unfold ls_eX10_edge_27_1
    exact (mh_fI (mh_fA (fun x3247 => (fr_l_eX10_edge_40_2 s0 hp (l_eX10_edge_27_1 p1 n) x3117 hlo_27_1 20 s3121 x3247 x3120 x3119 x3118 fs3121))) (mh_fI fs3121 (mh_fI fs3121 fs3121)))
theorem fr_eX10_edge (s0 : mh_H) (p1 : Int32) (hp : mh_p3 s0) : mh_FrP S_eX10_edge s0 (f_eX10_edge s0 p1) := by
  have fs0 : mh_Fr S_eX10_edge s0 s0 := ⟨mh_F_rf, hp⟩
  unfold f_eX10_edge
  exact (mh_fA (fun y1682 => (mh_fA (fun x1684 => (mh_fI fs0 (fr_l_eX10_edge_27_1 s0 hp p1 21 s0 (0 : Int32) (-2 : Int32) (-2 : Int32) (-2 : Int32) fs0))))))
theorem fr_eX10_was (s0 : mh_H) (p1 : Int32) (p2 : Int32) (p3 : Int32) (p4 : Int32) (p5 : Int32) (hp : mh_p3 s0) : mh_FrP S_eX10_was s0 (f_eX10_was s0 p1 p2 p3 p4 p5) := by
  have fs0 : mh_Fr S_eX10_was s0 s0 := ⟨mh_F_rf, hp⟩
  unfold f_eX10_was
  exact (mh_fA (fun y72 => (mh_fA (fun x74 => (mh_fI fs0 (mh_fA (fun y78 => (mh_fA (fun x80 => (mh_fI fs0 (mh_fA (fun y84 => (mh_fA (fun x86 => (mh_fI fs0 (mh_fA (fun y90 => (mh_fA (fun x92 => (mh_fI fs0 (mh_fA (fun y96 => (mh_fA (fun x98 => (mh_fI fs0 (mh_fA (fun x102 => (mh_fI fs0 (mh_fA (fun x107 => (mh_fB (mh_Fr_pI fs0 (mh_si 0 rfl)) (fun s109 fs109 => (mh_fA (fun x116 => (mh_fB (mh_Fr_pI fs109 (mh_si 0 rfl)) (fun s118 fs118 => (mh_fA (fun x125 => (mh_fB (mh_Fr_pI fs118 (mh_si 0 rfl)) (fun s127 fs127 => (mh_fB (mh_Fr_pI fs127 (mh_si 1 rfl)) (fun s132 fs132 => (mh_fB (mh_Fr_pI fs132 (mh_si 2 rfl)) (fun s137 fs137 => (mh_fA (fun x142 => (mh_fB (mh_Fr_pI fs137 (mh_sj 3 rfl)) (fun s144 fs144 => fs144))))))))))))))))))))))))))))))))))))))))))))))))
theorem fr_j_eX10_held_128_4 (s0 : mh_H) (hp : mh_p3 s0) (lo_21_1 : mh_H → Int32 → Int32 → Int32 × mh_H) (s935 : mh_H) (x857 : Int32) (x968 : Int32) (hlo_21_1 : ∀ (s859 : mh_H) (x857 : Int32) (x858 : Int32), mh_Fr S_eX10_held s0 s859 → mh_FrP S_eX10_held s0 (lo_21_1 s859 x857 x858)) (fs935 : mh_Fr S_eX10_held s0 s935) : mh_FrP S_eX10_held s0 (j_eX10_held_128_4 lo_21_1 s935 x857 x968) := by
  have fs0 : mh_Fr S_eX10_held s0 s0 := ⟨mh_F_rf, hp⟩
  unfold j_eX10_held_128_4
  exact (mh_fA (fun x971 => (hlo_21_1 s935 x971 x968 fs935)))
theorem fr_j_eX10_held_126_5 (s0 : mh_H) (hp : mh_p3 s0) (lo_21_1 : mh_H → Int32 → Int32 → Int32 × mh_H) (s935 : mh_H) (x857 : Int32) (x858 : Int32) (x975 : Int32) (hlo_21_1 : ∀ (s859 : mh_H) (x857 : Int32) (x858 : Int32), mh_Fr S_eX10_held s0 s859 → mh_FrP S_eX10_held s0 (lo_21_1 s859 x857 x858)) (fs935 : mh_Fr S_eX10_held s0 s935) : mh_FrP S_eX10_held s0 (j_eX10_held_126_5 lo_21_1 s935 x857 x858 x975) := by
  have fs0 : mh_Fr S_eX10_held s0 s0 := ⟨mh_F_rf, hp⟩
  unfold j_eX10_held_126_5
  exact (mh_fA (fun x978 => (fr_j_eX10_held_128_4 s0 hp lo_21_1 s935 x857 x978 hlo_21_1 fs935)))
theorem fr_j_eX10_held_112_3 (s0 : mh_H) (hp : mh_p3 s0) (lo_21_1 : mh_H → Int32 → Int32 → Int32 × mh_H) (s935 : mh_H) (p1 : Int32) (p2 : Int32) (x857 : Int32) (x858 : Int32) (x938 : Int32) (x954 : Int32) (hlo_21_1 : ∀ (s859 : mh_H) (x857 : Int32) (x858 : Int32), mh_Fr S_eX10_held s0 s859 → mh_FrP S_eX10_held s0 (lo_21_1 s859 x857 x858)) (fs935 : mh_Fr S_eX10_held s0 s935) : mh_FrP S_eX10_held s0 (j_eX10_held_112_3 lo_21_1 s935 p1 p2 x857 x858 x938 x954) := by
  have fs0 : mh_Fr S_eX10_held s0 s0 := ⟨mh_F_rf, hp⟩
  unfold j_eX10_held_112_3
  exact (mh_fI (fr_j_eX10_held_128_4 s0 hp lo_21_1 s935 x857 x858 hlo_21_1 fs935) (mh_fI (fr_j_eX10_held_126_5 s0 hp lo_21_1 s935 x857 x858 p1 hlo_21_1 fs935) (fr_j_eX10_held_126_5 s0 hp lo_21_1 s935 x857 x858 p2 hlo_21_1 fs935)))
theorem fr_j_eX10_held_93_2 (s0 : mh_H) (hp : mh_p3 s0) (lo_21_1 : mh_H → Int32 → Int32 → Int32 × mh_H) (s935 : mh_H) (p1 : Int32) (p2 : Int32) (x857 : Int32) (x858 : Int32) (x938 : Int32) (hlo_21_1 : ∀ (s859 : mh_H) (x857 : Int32) (x858 : Int32), mh_Fr S_eX10_held s0 s859 → mh_FrP S_eX10_held s0 (lo_21_1 s859 x857 x858)) (fs935 : mh_Fr S_eX10_held s0 s935) : mh_FrP S_eX10_held s0 (j_eX10_held_93_2 lo_21_1 s935 p1 p2 x857 x858 x938) := by
  have fs0 : mh_Fr S_eX10_held s0 s0 := ⟨mh_F_rf, hp⟩
  unfold j_eX10_held_93_2
  exact (mh_fA (fun x951 => (mh_fI (fr_j_eX10_held_112_3 s0 hp lo_21_1 s935 p1 p2 x857 x858 x938 (1 : Int32) hlo_21_1 fs935) (fr_j_eX10_held_112_3 s0 hp lo_21_1 s935 p1 p2 x857 x858 x938 (0 : Int32) hlo_21_1 fs935))))
theorem fr_l_eX10_held_21_1 (s0 : mh_H) (hp : mh_p3 s0) (p1 : Int32) (p2 : Int32) : ∀ (n : Nat) (s859 : mh_H) (x857 : Int32) (x858 : Int32), mh_Fr S_eX10_held s0 s859 → mh_FrP S_eX10_held s0 (l_eX10_held_21_1 p1 p2 n s859 x857 x858) := by
  have fs0 : mh_Fr S_eX10_held s0 s0 := ⟨mh_F_rf, hp⟩
  intro n
  induction n with
  | zero => intro s859 x857 x858 fs859; exact fs859
  | succ n ih =>
    intro s859 x857 x858 fs859
    have hlo_21_1 := ih
    rw [l_eX10_held_21_1_s]
    unfold ls_eX10_held_21_1
    exact (mh_fA (fun x907 => (mh_fI (mh_fB (mh_Fr_pI fs859 (mh_sj 0 rfl)) (fun s910 fs910 => (mh_fA (fun x912 => (mh_fA (fun x914 => (mh_fB (mh_Fr_pI fs910 (mh_sj 1 rfl)) (fun s916 fs916 => (mh_fA (fun x920 => (mh_fA (fun x922 => (mh_fB (mh_Fr_pI fs916 (mh_sj 2 rfl)) (fun s924 fs924 => (mh_fA (fun x928 => (mh_fA (fun x930 => (mh_fB (mh_Fr_pI fs924 (mh_sj 3 rfl)) (fun s932 fs932 => (mh_fC (mh_Fr_tl fs932 (fr_eX10_tellsBy s932 (102 : Int32) (1 : Int32) fs932.2) (by decide +kernel)) (fun x934 s935 fs935 => (mh_fI (fr_j_eX10_held_93_2 s0 hp (l_eX10_held_21_1 p1 p2 n) s935 p1 p2 x857 x858 (1 : Int32) hlo_21_1 fs935) (fr_j_eX10_held_93_2 s0 hp (l_eX10_held_21_1 p1 p2 n) s935 p1 p2 x857 x858 (0 : Int32) hlo_21_1 fs935)))))))))))))))))))))))) fs859)))
theorem fr_eX10_held (s0 : mh_H) (p1 : Int32) (p2 : Int32) (hp : mh_p3 s0) : mh_FrP S_eX10_held s0 (f_eX10_held s0 p1 p2) := by
  have fs0 : mh_Fr S_eX10_held s0 s0 := ⟨mh_F_rf, hp⟩
  unfold f_eX10_held
  exact (mh_fA (fun x476 => (mh_fI fs0 (mh_fA (fun x480 => (mh_fI fs0 (fr_l_eX10_held_21_1 s0 hp p1 p2 61 s0 (0 : Int32) (0 : Int32) fs0)))))))
theorem fr_l_eX10_lid_213_3 (s0 : mh_H) (hp : mh_p3 s0) (s11484 : mh_H) (p4 : Int32) (y11483 : Int64) (fs11484 : mh_Fr S_eX10_lid s0 s11484) : ∀ (n : Nat) (x12615 : Int32) (y12616 : Int64), mh_FrP S_eX10_lid s0 (l_eX10_lid_213_3 s11484 p4 y11483 n x12615 y12616) := by
  have fs0 : mh_Fr S_eX10_lid s0 s0 := ⟨mh_F_rf, hp⟩
  intro n
  induction n with
  | zero => intro x12615 y12616; exact fs11484
  | succ n ih =>
    intro x12615 y12616
    have hlo_213_3 := ih
    rw [l_eX10_lid_213_3_s]
    unfold ls_eX10_lid_213_3
    exact (mh_fI (mh_fA (fun y12635 => (mh_fA (fun y12637 => (mh_fA (fun x12639 => (hlo_213_3 x12639 y12637))))))) (mh_fA (fun y12627 => (mh_fI (mh_fA (fun y12633 => fs11484)) (mh_fA (fun y12631 => fs11484))))))
theorem fr_l_eX10_lid_165_5 (s0 : mh_H) (hp : mh_p3 s0) (lo_90_2 : mh_H → Int32 → Int64 → Int64 × mh_H) (p3 : Int32) (x11482 : Int32) (y11483 : Int64) (hlo_90_2 : ∀ (s11484 : mh_H) (x11482 : Int32) (y11483 : Int64), mh_Fr S_eX10_lid s0 s11484 → mh_FrP S_eX10_lid s0 (lo_90_2 s11484 x11482 y11483)) : ∀ (n : Nat) (s13636 : mh_H) (x13635 : Int32), mh_Fr S_eX10_lid s0 s13636 → mh_FrP S_eX10_lid s0 (l_eX10_lid_165_5 lo_90_2 p3 x11482 y11483 n s13636 x13635) := by
  have fs0 : mh_Fr S_eX10_lid s0 s0 := ⟨mh_F_rf, hp⟩
  intro n
  induction n with
  | zero => intro s13636 x13635 fs13636; exact fs13636
  | succ n ih =>
    intro s13636 x13635 fs13636
    have hlo_165_5 := ih
    rw [l_eX10_lid_165_5_s]
    unfold ls_eX10_lid_165_5
    exact (mh_fI (mh_fA (fun y13655 => (mh_fB (mh_Fr_pL fs13636 (mh_si 0 rfl)) (fun s13657 fs13657 => (mh_fA (fun x13659 => (hlo_165_5 s13657 x13659 fs13657))))))) (mh_fA (fun x13647 => (mh_fA (fun y13649 => (mh_fA (fun y13651 => (mh_fA (fun x13653 => (hlo_90_2 s13636 x13653 y13651 fs13636))))))))))
theorem fr_j_eX10_lid_156_7 (s0 : mh_H) (hp : mh_p3 s0) (lo_99_4 : mh_H → Int32 → Int64 × mh_H) (s13726 : mh_H) (x13452 : Int32) (hlo_99_4 : ∀ (s13453 : mh_H) (x13452 : Int32), mh_Fr S_eX10_lid s0 s13453 → mh_FrP S_eX10_lid s0 (lo_99_4 s13453 x13452)) (fs13726 : mh_Fr S_eX10_lid s0 s13726) : mh_FrP S_eX10_lid s0 (j_eX10_lid_156_7 lo_99_4 s13726 x13452) := by
  have fs0 : mh_Fr S_eX10_lid s0 s0 := ⟨mh_F_rf, hp⟩
  unfold j_eX10_lid_156_7
  exact (mh_fA (fun x13759 => (hlo_99_4 s13726 x13759 fs13726)))
theorem fr_l_eX10_lid_117_6 (s0 : mh_H) (hp : mh_p3 s0) (lo_99_4 : mh_H → Int32 → Int64 × mh_H) (p3 : Int32) (x13452 : Int32) (hlo_99_4 : ∀ (s13453 : mh_H) (x13452 : Int32), mh_Fr S_eX10_lid s0 s13453 → mh_FrP S_eX10_lid s0 (lo_99_4 s13453 x13452)) : ∀ (n : Nat) (s13726 : mh_H) (x13725 : Int32), mh_Fr S_eX10_lid s0 s13726 → mh_FrP S_eX10_lid s0 (l_eX10_lid_117_6 lo_99_4 p3 x13452 n s13726 x13725) := by
  have fs0 : mh_Fr S_eX10_lid s0 s0 := ⟨mh_F_rf, hp⟩
  intro n
  induction n with
  | zero => intro s13726 x13725 fs13726; exact fs13726
  | succ n ih =>
    intro s13726 x13725 fs13726
    have hlo_117_6 := ih
    rw [l_eX10_lid_117_6_s]
    unfold ls_eX10_lid_117_6
    exact (mh_fI (fr_j_eX10_lid_156_7 s0 hp lo_99_4 s13726 x13452 hlo_99_4 fs13726) (mh_fI (fr_j_eX10_lid_156_7 s0 hp lo_99_4 s13726 x13452 hlo_99_4 fs13726) (mh_fA (fun y13763 => (mh_fA (fun x13765 => (mh_fA (fun y13767 => (mh_fA (fun y13769 => (mh_fB (mh_Fr_pL fs13726 (mh_si 1 rfl)) (fun s13771 fs13771 => (mh_fA (fun x13773 => (hlo_117_6 s13771 x13773 fs13771)))))))))))))))
theorem fr_l_eX10_lid_99_4 (s0 : mh_H) (hp : mh_p3 s0) (lo_90_2 : mh_H → Int32 → Int64 → Int64 × mh_H) (p3 : Int32) (x11482 : Int32) (y11483 : Int64) (hlo_90_2 : ∀ (s11484 : mh_H) (x11482 : Int32) (y11483 : Int64), mh_Fr S_eX10_lid s0 s11484 → mh_FrP S_eX10_lid s0 (lo_90_2 s11484 x11482 y11483)) : ∀ (n : Nat) (s13453 : mh_H) (x13452 : Int32), mh_Fr S_eX10_lid s0 s13453 → mh_FrP S_eX10_lid s0 (l_eX10_lid_99_4 lo_90_2 p3 x11482 y11483 n s13453 x13452) := by
  have fs0 : mh_Fr S_eX10_lid s0 s0 := ⟨mh_F_rf, hp⟩
  intro n
  induction n with
  | zero => intro s13453 x13452 fs13453; exact fs13453
  | succ n ih =>
    intro s13453 x13452 fs13453
    have hlo_99_4 := ih
    rw [l_eX10_lid_99_4_s]
    unfold ls_eX10_lid_99_4
    exact (mh_fI (mh_fB (mh_Fr_pL fs13453 (mh_si 1 rfl)) (fun s13661 fs13661 => (fr_l_eX10_lid_117_6 s0 hp (l_eX10_lid_99_4 lo_90_2 p3 x11482 y11483 n) p3 x13452 hlo_99_4 15 s13661 (0 : Int32) fs13661))) (fr_l_eX10_lid_165_5 s0 hp lo_90_2 p3 x11482 y11483 hlo_90_2 122 s13453 (0 : Int32) fs13453))
theorem fr_l_eX10_lid_90_2 (s0 : mh_H) (hp : mh_p3 s0) (p1 : Int32) (p2 : Int32) (p3 : Int32) (p4 : Int32) : ∀ (n : Nat) (s11484 : mh_H) (x11482 : Int32) (y11483 : Int64), mh_Fr S_eX10_lid s0 s11484 → mh_FrP S_eX10_lid s0 (l_eX10_lid_90_2 p1 p2 p3 p4 n s11484 x11482 y11483) := by
  have fs0 : mh_Fr S_eX10_lid s0 s0 := ⟨mh_F_rf, hp⟩
  intro n
  induction n with
  | zero => intro s11484 x11482 y11483 fs11484; exact fs11484
  | succ n ih =>
    intro s11484 x11482 y11483 fs11484
    have hlo_90_2 := ih
    rw [l_eX10_lid_90_2_s]
    unfold ls_eX10_lid_90_2
    exact (mh_fI (fr_l_eX10_lid_99_4 s0 hp (l_eX10_lid_90_2 p1 p2 p3 p4 n) p3 x11482 y11483 hlo_90_2 122 s11484 (0 : Int32) fs11484) (fr_l_eX10_lid_213_3 s0 hp s11484 p4 y11483 fs11484 200 p1 (0 : Int64)))
theorem fr_j_eX10_lid_77_8 (s0 : mh_H) (hp : mh_p3 s0) (lo_54_1 : mh_H → Int32 → Int64 × mh_H) (s6986 : mh_H) (x6985 : Int32) (y13776 : Int64) (hlo_54_1 : ∀ (s6986 : mh_H) (x6985 : Int32), mh_Fr S_eX10_lid s0 s6986 → mh_FrP S_eX10_lid s0 (lo_54_1 s6986 x6985)) (fs6986 : mh_Fr S_eX10_lid s0 s6986) : mh_FrP S_eX10_lid s0 (j_eX10_lid_77_8 lo_54_1 s6986 x6985 y13776) := by
  have fs0 : mh_Fr S_eX10_lid s0 s0 := ⟨mh_F_rf, hp⟩
  unfold j_eX10_lid_77_8
  exact (mh_fB (mh_Fr_pL fs6986 (mh_si 0 rfl)) (fun s13781 fs13781 => (mh_fA (fun x13783 => (hlo_54_1 s13781 x13783 fs13781)))))
theorem fr_l_eX10_lid_54_1 (s0 : mh_H) (hp : mh_p3 s0) (p1 : Int32) (p2 : Int32) (p3 : Int32) (p4 : Int32) : ∀ (n : Nat) (s6986 : mh_H) (x6985 : Int32), mh_Fr S_eX10_lid s0 s6986 → mh_FrP S_eX10_lid s0 (l_eX10_lid_54_1 p1 p2 p3 p4 n s6986 x6985) := by
  have fs0 : mh_Fr S_eX10_lid s0 s0 := ⟨mh_F_rf, hp⟩
  intro n
  induction n with
  | zero => intro s6986 x6985 fs6986; exact fs6986
  | succ n ih =>
    intro s6986 x6985 fs6986
    have hlo_54_1 := ih
    rw [l_eX10_lid_54_1_s]
    unfold ls_eX10_lid_54_1
    exact (mh_fI (mh_fI (fr_j_eX10_lid_77_8 s0 hp (l_eX10_lid_54_1 p1 p2 p3 p4 n) s6986 x6985 (1 : Int64) hlo_54_1 fs6986) (fr_j_eX10_lid_77_8 s0 hp (l_eX10_lid_54_1 p1 p2 p3 p4 n) s6986 x6985 (0 : Int64) hlo_54_1 fs6986)) (fr_l_eX10_lid_90_2 s0 hp p1 p2 p3 p4 15 s6986 (0 : Int32) (1 : Int64) fs6986))
theorem fr_eX10_lid (s0 : mh_H) (p1 : Int32) (p2 : Int32) (p3 : Int32) (p4 : Int32) (hp : mh_p3 s0) : mh_FrP S_eX10_lid s0 (f_eX10_lid s0 p1 p2 p3 p4) := by
  have fs0 : mh_Fr S_eX10_lid s0 s0 := ⟨mh_F_rf, hp⟩
  unfold f_eX10_lid
  exact (mh_fA (fun y6883 => (mh_fA (fun x6885 => (mh_fI fs0 (mh_fA (fun y6889 => (mh_fA (fun x6891 => (mh_fI fs0 (mh_fA (fun y6895 => (mh_fA (fun x6897 => (mh_fI fs0 (mh_fA (fun y6901 => (mh_fA (fun x6903 => (mh_fI fs0 (fr_l_eX10_lid_54_1 s0 hp p1 p2 p3 p4 122 s0 (0 : Int32) fs0)))))))))))))))))))))
theorem fr_eX10_seed (s0 : mh_H) (p1 : Int32) (hp : mh_p3 s0) : mh_FrP S_eX10_seed s0 (f_eX10_seed s0 p1) := by
  have fs0 : mh_Fr S_eX10_seed s0 s0 := ⟨mh_F_rf, hp⟩
  unfold f_eX10_seed
  exact (mh_fA (fun y9 => (mh_fA (fun x11 => (mh_fI fs0 (mh_fB (mh_Fr_pI fs0 (mh_sj 0 rfl)) (fun s15 fs15 => fs15)))))))
theorem fr_j_eX10_draw_68_2 (s0 : mh_H) (hp : mh_p3 s0) (lo_17_1 : mh_H → Int32 → Int32 × mh_H) (s655 : mh_H) (x591 : Int32) (hlo_17_1 : ∀ (s592 : mh_H) (x591 : Int32), mh_Fr S_eX10_draw s0 s592 → mh_FrP S_eX10_draw s0 (lo_17_1 s592 x591)) (fs655 : mh_Fr S_eX10_draw s0 s655) : mh_FrP S_eX10_draw s0 (j_eX10_draw_68_2 lo_17_1 s655 x591) := by
  have fs0 : mh_Fr S_eX10_draw s0 s0 := ⟨mh_F_rf, hp⟩
  unfold j_eX10_draw_68_2
  exact (mh_fB (mh_Fr_tv fs655 (fr_eX10_stepOne s655 fs655.2) (by decide +kernel)) (fun s662 fs662 => (mh_fA (fun x664 => (hlo_17_1 s662 x664 fs662)))))
theorem fr_l_eX10_draw_17_1 (s0 : mh_H) (hp : mh_p3 s0) (p1 : Int32) (y335 : Int64) : ∀ (n : Nat) (s592 : mh_H) (x591 : Int32), mh_Fr S_eX10_draw s0 s592 → mh_FrP S_eX10_draw s0 (l_eX10_draw_17_1 p1 y335 n s592 x591) := by
  have fs0 : mh_Fr S_eX10_draw s0 s0 := ⟨mh_F_rf, hp⟩
  intro n
  induction n with
  | zero => intro s592 x591 fs592; exact fs592
  | succ n ih =>
    intro s592 x591 fs592
    have hlo_17_1 := ih
    rw [l_eX10_draw_17_1_s]
    unfold ls_eX10_draw_17_1
    exact (mh_fI (mh_fA (fun x632 => (mh_fA (fun x634 => (mh_fA (fun x636 => (mh_fA (fun x638 => (mh_fB (mh_Fr_pI fs592 (mh_sj 0 rfl)) (fun s641 fs641 => (mh_fA (fun x643 => (mh_fI (mh_fA (fun x672 => (mh_fB (mh_Fr_pI fs641 (mh_si 1 rfl)) (fun s675 fs675 => (fr_j_eX10_draw_68_2 s0 hp (l_eX10_draw_17_1 p1 y335 n) s675 x591 hlo_17_1 fs675))))) (fr_j_eX10_draw_68_2 s0 hp (l_eX10_draw_17_1 p1 y335 n) s641 x591 hlo_17_1 fs641)))))))))))))) (mh_fA (fun y626 => (mh_fA (fun y628 => (mh_fA (fun x630 => fs592)))))))
theorem fr_eX10_draw (s0 : mh_H) (p1 : Int32) (hp : mh_p3 s0) : mh_FrP S_eX10_draw s0 (f_eX10_draw s0 p1) := by
  have fs0 : mh_Fr S_eX10_draw s0 s0 := ⟨mh_F_rf, hp⟩
  unfold f_eX10_draw
  exact (mh_fA (fun x331 => (mh_fI fs0 (mh_fA (fun y335 => (fr_l_eX10_draw_17_1 s0 hp p1 y335 61 s0 (0 : Int32) fs0))))))
theorem fr_l_eX10_keep_20_1 (s0 : mh_H) (hp : mh_p3 s0) : ∀ (n : Nat) (s180 : mh_H) (x179 : Int32), mh_Fr S_eX10_keep s0 s180 → mh_FrP S_eX10_keep s0 (l_eX10_keep_20_1 n s180 x179) := by
  have fs0 : mh_Fr S_eX10_keep s0 s0 := ⟨mh_F_rf, hp⟩
  intro n
  induction n with
  | zero => intro s180 x179 fs180; exact fs180
  | succ n ih =>
    intro s180 x179 fs180
    have hlo_20_1 := ih
    rw [l_eX10_keep_20_1_s]
    unfold ls_eX10_keep_20_1
    exact (mh_fI (mh_fA (fun x193 => (mh_fB (mh_Fr_pI fs180 (mh_si 8 rfl)) (fun s195 fs195 => (mh_fA (fun x197 => (hlo_20_1 s195 x197 fs195))))))) (mh_fA (fun x191 => fs180)))
theorem fr_eX10_keep (s0 : mh_H) (hp : mh_p3 s0) : mh_FrP S_eX10_keep s0 (f_eX10_keep s0) := by
  have fs0 : mh_Fr S_eX10_keep s0 s0 := ⟨mh_F_rf, hp⟩
  unfold f_eX10_keep
  exact (mh_fB (mh_Fr_pI fs0 (mh_sj 0 rfl)) (fun s100 fs100 => (mh_fB (mh_Fr_tv fs100 (fr_eX10_setsAside s100 (1 : Int32) fs100.2) (by decide +kernel)) (fun s103 fs103 => (mh_fA (fun x105 => (mh_fB (mh_Fr_pI fs103 (mh_sj 7 rfl)) (fun s107 fs107 => (fr_l_eX10_keep_20_1 s0 hp 101 s107 (0 : Int32) fs107)))))))))
theorem fr_l_eX10_undo_24_1 (s0 : mh_H) (hp : mh_p3 s0) : ∀ (n : Nat) (s180 : mh_H) (x179 : Int32), mh_Fr S_eX10_undo s0 s180 → mh_FrP S_eX10_undo s0 (l_eX10_undo_24_1 n s180 x179) := by
  have fs0 : mh_Fr S_eX10_undo s0 s0 := ⟨mh_F_rf, hp⟩
  intro n
  induction n with
  | zero => intro s180 x179 fs180; exact fs180
  | succ n ih =>
    intro s180 x179 fs180
    have hlo_24_1 := ih
    rw [l_eX10_undo_24_1_s]
    unfold ls_eX10_undo_24_1
    exact (mh_fI (mh_fA (fun x191 => (mh_fB (mh_Fr_pI fs180 (mh_si 7 rfl)) (fun s193 fs193 => (mh_fA (fun x195 => (hlo_24_1 s193 x195 fs193))))))) fs180)
theorem fr_eX10_undo (s0 : mh_H) (hp : mh_p3 s0) : mh_FrP S_eX10_undo s0 (f_eX10_undo s0) := by
  have fs0 : mh_Fr S_eX10_undo s0 s0 := ⟨mh_F_rf, hp⟩
  unfold f_eX10_undo
  exact (mh_fA (fun x99 => (mh_fI fs0 (mh_fB (mh_Fr_tv fs0 (fr_eX10_putsBack s0 (1 : Int32) fs0.2) (by decide +kernel)) (fun s103 fs103 => (mh_fA (fun x105 => (mh_fB (mh_Fr_pI fs103 (mh_sj 6 rfl)) (fun s107 fs107 => (fr_l_eX10_undo_24_1 s0 hp 101 s107 (0 : Int32) fs107))))))))))
theorem fr_l_eX10_check_39_1 (s0 : mh_H) (hp : mh_p3 s0) (s151 : mh_H) (p1 : Int32) (p2 : Int32) (fs151 : mh_Fr S_eX10_check s0 s151) : ∀ (n : Nat) (x243 : Int32), mh_FrP S_eX10_check s0 (l_eX10_check_39_1 s151 p1 p2 n x243) := by
  have fs0 : mh_Fr S_eX10_check s0 s0 := ⟨mh_F_rf, hp⟩
  intro n
  induction n with
  | zero => intro x243; exact fs151
  | succ n ih =>
    intro x243
    have hlo_39_1 := ih
    rw [l_eX10_check_39_1_s]
    unfold ls_eX10_check_39_1
    exact (mh_fI (mh_fA (fun x258 => (mh_fA (fun x261 => (mh_fA (fun x264 => (mh_fI (mh_fA (fun x267 => (hlo_39_1 x267))) fs151))))))) fs151)
theorem fr_eX10_check (s0 : mh_H) (p1 : Int32) (p2 : Int32) (hp : mh_p3 s0) : mh_FrP S_eX10_check s0 (f_eX10_check s0 p1 p2) := by
  have fs0 : mh_Fr S_eX10_check s0 s0 := ⟨mh_F_rf, hp⟩
  unfold f_eX10_check
  exact (mh_fA (fun x135 => (mh_fI fs0 (mh_fA (fun y139 => (mh_fA (fun x141 => (mh_fI fs0 (mh_fA (fun x145 => (mh_fA (fun x147 => (mh_fI fs0 (mh_fB (mh_Fr_pI fs0 (mh_sj 0 rfl)) (fun s151 fs151 => (fr_l_eX10_check_39_1 s0 hp s151 p1 p2 fs151 15 (0 : Int32)))))))))))))))))
theorem fr_eX10_cell (s0 : mh_H) (p1 : Int32) (p2 : Int32) (p3 : Int32) (hp : mh_p3 s0) : mh_FrP S_eX10_cell s0 (f_eX10_cell s0 p1 p2 p3) := by
  have fs0 : mh_Fr S_eX10_cell s0 s0 := ⟨mh_F_rf, hp⟩
  unfold f_eX10_cell
  exact (mh_fA (fun x37 => (mh_fI fs0 (mh_fA (fun x41 => (mh_fI (mh_fA (fun x45 => fs0)) (mh_fI (mh_fA (fun x47 => fs0)) (mh_fI (mh_fA (fun x49 => fs0)) (mh_fI (mh_fA (fun x51 => fs0)) (mh_fI (mh_fC (mh_Fr_tl fs0 (fr_eX10_mistAt s0 x41 fs0.2) (by decide +kernel)) (fun x53 s54 fs54 => fs54)) (mh_fI (mh_fC (mh_Fr_tl fs0 (fr_eX10_mistAt s0 x41 fs0.2) (by decide +kernel)) (fun x56 s57 fs57 => (mh_fI (mh_fA (fun x60 => (mh_fC (mh_Fr_tl fs57 (fr_eX10_mistAt s57 x41 fs57.2) (by decide +kernel)) (fun x62 s63 fs63 => (mh_fA (fun x65 => fs63)))))) fs57))) (mh_fI (mh_fC (mh_Fr_tl fs0 (fr_eX10_yardsAt s0 x41 fs0.2) (by decide +kernel)) (fun x67 s68 fs68 => fs68)) (mh_fI (mh_fA (fun x70 => fs0)) fs0)))))))))))))
theorem fr_l_eX10_sums_38_1 (s0 : mh_H) (hp : mh_p3 s0) : ∀ (n : Nat) (x313 : Int32) (x314 : Int32), mh_FrP S_eX10_sums s0 (l_eX10_sums_38_1 s0 n x313 x314) := by
  have fs0 : mh_Fr S_eX10_sums s0 s0 := ⟨mh_F_rf, hp⟩
  intro n
  induction n with
  | zero => intro x313 x314; exact fs0
  | succ n ih =>
    intro x313 x314
    have hlo_38_1 := ih
    rw [l_eX10_sums_38_1_s]
    unfold ls_eX10_sums_38_1
    exact (mh_fI (mh_fA (fun x325 => (mh_fA (fun x327 => (mh_fA (fun x329 => (hlo_38_1 x329 x327))))))) fs0)
theorem fr_l_eX10_sums_64_2 (s0 : mh_H) (hp : mh_p3 s0) : ∀ (n : Nat) (x419 : Int32) (x420 : Int32), mh_FrP S_eX10_sums s0 (l_eX10_sums_64_2 s0 n x419 x420) := by
  have fs0 : mh_Fr S_eX10_sums s0 s0 := ⟨mh_F_rf, hp⟩
  intro n
  induction n with
  | zero => intro x419 x420; exact fs0
  | succ n ih =>
    intro x419 x420
    have hlo_64_2 := ih
    rw [l_eX10_sums_64_2_s]
    unfold ls_eX10_sums_64_2
    exact (mh_fI (mh_fA (fun x431 => (mh_fA (fun x433 => (mh_fA (fun x435 => (hlo_64_2 x435 x433))))))) fs0)
theorem fr_eX10_sums (s0 : mh_H) (p1 : Int32) (hp : mh_p3 s0) : mh_FrP S_eX10_sums s0 (f_eX10_sums s0 p1) := by
  have fs0 : mh_Fr S_eX10_sums s0 s0 := ⟨mh_F_rf, hp⟩
  unfold f_eX10_sums
  exact (mh_fI (fr_l_eX10_sums_38_1 s0 hp 145 (0 : Int32) (0 : Int32)) (mh_fI (fr_l_eX10_sums_64_2 s0 hp 145 (0 : Int32) (0 : Int32)) (mh_fI (mh_fA (fun y437 => (mh_fA (fun x439 => fs0)))) (mh_fI (mh_fC (mh_Fr_tl fs0 (fr_eX10_misty s0 fs0.2) (by decide +kernel)) (fun x441 s442 fs442 => fs442)) (mh_fI (mh_fC (mh_Fr_tl fs0 (fr_eX10_highestTop s0 fs0.2) (by decide +kernel)) (fun x444 s445 fs445 => fs445)) fs0)))))
theorem fr_j_eX10_sun_103_2 (s0 : mh_H) (hp : mh_p3 s0) (lo_58_1 : mh_H → Int32 → Int32 → Int32 × mh_H) (s882 : mh_H) (x850 : Int32) (x851 : Int32) (x890 : Int32) (hlo_58_1 : ∀ (s852 : mh_H) (x850 : Int32) (x851 : Int32), mh_Fr S_eX10_sun s0 s852 → mh_FrP S_eX10_sun s0 (lo_58_1 s852 x850 x851)) (fs882 : mh_Fr S_eX10_sun s0 s882) : mh_FrP S_eX10_sun s0 (j_eX10_sun_103_2 lo_58_1 s882 x850 x851 x890) := by
  have fs0 : mh_Fr S_eX10_sun s0 s0 := ⟨mh_F_rf, hp⟩
  unfold j_eX10_sun_103_2
  exact (mh_fA (fun x895 => (mh_fA (fun x897 => (hlo_58_1 s882 x897 x895 fs882)))))
theorem fr_j_eX10_sun_98_3 (s0 : mh_H) (hp : mh_p3 s0) (lo_58_1 : mh_H → Int32 → Int32 → Int32 × mh_H) (s882 : mh_H) (x850 : Int32) (x851 : Int32) (hlo_58_1 : ∀ (s852 : mh_H) (x850 : Int32) (x851 : Int32), mh_Fr S_eX10_sun s0 s852 → mh_FrP S_eX10_sun s0 (lo_58_1 s852 x850 x851)) (fs882 : mh_Fr S_eX10_sun s0 s882) : mh_FrP S_eX10_sun s0 (j_eX10_sun_98_3 lo_58_1 s882 x850 x851) := by
  have fs0 : mh_Fr S_eX10_sun s0 s0 := ⟨mh_F_rf, hp⟩
  unfold j_eX10_sun_98_3
  exact (fr_j_eX10_sun_103_2 s0 hp lo_58_1 s882 x850 x851 (1 : Int32) hlo_58_1 fs882)
theorem fr_l_eX10_sun_58_1 (s0 : mh_H) (hp : mh_p3 s0) (p3 : Int32) (p4 : Int32) (x469 : Int32) : ∀ (n : Nat) (s852 : mh_H) (x850 : Int32) (x851 : Int32), mh_Fr S_eX10_sun s0 s852 → mh_FrP S_eX10_sun s0 (l_eX10_sun_58_1 p3 p4 x469 n s852 x850 x851) := by
  have fs0 : mh_Fr S_eX10_sun s0 s0 := ⟨mh_F_rf, hp⟩
  intro n
  induction n with
  | zero => intro s852 x850 x851 fs852; exact fs852
  | succ n ih =>
    intro s852 x850 x851 fs852
    have hlo_58_1 := ih
    rw [l_eX10_sun_58_1_s]
    unfold ls_eX10_sun_58_1
    exact (mh_fI (mh_fB (mh_Fr_tv fs852 (fr_eX10_stepOne s852 fs852.2) (by decide +kernel)) (fun s879 fs879 => (mh_fC (mh_Fr_tl fs879 (fr_eX10_mistAt s879 x469 fs879.2) (by decide +kernel)) (fun x881 s882 fs882 => (mh_fI (fr_j_eX10_sun_98_3 s0 hp (l_eX10_sun_58_1 p3 p4 x469 n) s882 x850 x851 hlo_58_1 fs882) (mh_fA (fun x900 => (mh_fA (fun x902 => (mh_fI (fr_j_eX10_sun_103_2 s0 hp (l_eX10_sun_58_1 p3 p4 x469 n) s882 x850 x851 (0 : Int32) hlo_58_1 fs882) (fr_j_eX10_sun_98_3 s0 hp (l_eX10_sun_58_1 p3 p4 x469 n) s882 x850 x851 hlo_58_1 fs882))))))))))) (mh_fB (mh_Fr_tv fs852 (fr_eX10_putsBack s852 (0 : Int32) fs852.2) (by decide +kernel)) (fun s876 fs876 => fs876)))
theorem fr_eX10_sun (s0 : mh_H) (p1 : Int32) (p2 : Int32) (p3 : Int32) (p4 : Int32) (hp : mh_p3 s0) : mh_FrP S_eX10_sun s0 (f_eX10_sun s0 p1 p2 p3 p4) := by
  have fs0 : mh_Fr S_eX10_sun s0 s0 := ⟨mh_F_rf, hp⟩
  unfold f_eX10_sun
  exact (mh_fA (fun x448 => (mh_fI fs0 (mh_fA (fun x452 => (mh_fI fs0 (mh_fA (fun y456 => (mh_fA (fun x458 => (mh_fA (fun x461 => (mh_fA (fun y463 => (mh_fA (fun x465 => (mh_fI fs0 (mh_fA (fun x469 => (mh_fB (mh_Fr_tv fs0 (fr_eX10_setsAside s0 (0 : Int32) fs0.2) (by decide +kernel)) (fun s473 fs473 => (fr_l_eX10_sun_58_1 s0 hp p3 p4 x469 61 s473 (0 : Int32) (0 : Int32) fs473))))))))))))))))))))))

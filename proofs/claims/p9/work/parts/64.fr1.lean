theorem fr_j_eX10_night_110_2 (s0 : mh_H) (hp : mh_p3 s0) (lo_47_1 : mh_H → Int32 → Int32 → Int32 → Int32 → Int32 → Int32 → Int32 × mh_H) (s1784 : mh_H) (x1700 : Int32) (x1779 : Int32) (x1780 : Int32) (x1781 : Int32) (x1782 : Int32) (x1783 : Int32) (hlo_47_1 : ∀ (s1706 : mh_H) (x1700 : Int32) (x1701 : Int32) (x1702 : Int32) (x1703 : Int32) (x1704 : Int32) (x1705 : Int32), mh_Fr S_eX10_night s0 s1706 → mh_FrP S_eX10_night s0 (lo_47_1 s1706 x1700 x1701 x1702 x1703 x1704 x1705)) (fs1784 : mh_Fr S_eX10_night s0 s1784) : mh_FrP S_eX10_night s0 (j_eX10_night_110_2 lo_47_1 s1784 x1700 x1779 x1780 x1781 x1782 x1783) := by
  have fs0 : mh_Fr S_eX10_night s0 s0 := ⟨mh_F_rf, hp⟩
  unfold j_eX10_night_110_2
  exact (mh_fA (fun x1787 => (hlo_47_1 s1784 x1787 x1783 x1782 x1781 x1780 x1779 fs1784)))
theorem fr_j_eX10_night_95_3 (s0 : mh_H) (hp : mh_p3 s0) (lo_47_1 : mh_H → Int32 → Int32 → Int32 → Int32 → Int32 → Int32 → Int32 × mh_H) (s1800 : mh_H) (x1700 : Int32) (x1704 : Int32) (x1705 : Int32) (x1758 : Int32) (x1790 : Int32) (x1798 : Int32) (x1799 : Int32) (hlo_47_1 : ∀ (s1706 : mh_H) (x1700 : Int32) (x1701 : Int32) (x1702 : Int32) (x1703 : Int32) (x1704 : Int32) (x1705 : Int32), mh_Fr S_eX10_night s0 s1706 → mh_FrP S_eX10_night s0 (lo_47_1 s1706 x1700 x1701 x1702 x1703 x1704 x1705)) (fs1800 : mh_Fr S_eX10_night s0 s1800) : mh_FrP S_eX10_night s0 (j_eX10_night_95_3 lo_47_1 s1800 x1700 x1704 x1705 x1758 x1790 x1798 x1799) := by
  have fs0 : mh_Fr S_eX10_night s0 s0 := ⟨mh_F_rf, hp⟩
  unfold j_eX10_night_95_3
  exact (mh_fI (mh_fA (fun x1805 => (fr_j_eX10_night_110_2 s0 hp lo_47_1 s1800 x1700 x1758 x1805 x1798 x1799 x1790 hlo_47_1 fs1800))) (fr_j_eX10_night_110_2 s0 hp lo_47_1 s1800 x1700 x1705 x1704 x1798 x1799 x1790 hlo_47_1 fs1800))
theorem fr_l_eX10_night_47_1 (s0 : mh_H) (hp : mh_p3 s0) (p1 : Int32) (p2 : Int32) : ∀ (n : Nat) (s1706 : mh_H) (x1700 : Int32) (x1701 : Int32) (x1702 : Int32) (x1703 : Int32) (x1704 : Int32) (x1705 : Int32), mh_Fr S_eX10_night s0 s1706 → mh_FrP S_eX10_night s0 (l_eX10_night_47_1 p1 p2 n s1706 x1700 x1701 x1702 x1703 x1704 x1705) := by
  have fs0 : mh_Fr S_eX10_night s0 s0 := ⟨mh_F_rf, hp⟩
  intro n
  induction n with
  | zero => intro s1706 x1700 x1701 x1702 x1703 x1704 x1705 fs1706; exact fs1706
  | succ n ih =>
    intro s1706 x1700 x1701 x1702 x1703 x1704 x1705 fs1706
    have hlo_47_1 := ih
    rw [l_eX10_night_47_1_s]
    unfold ls_eX10_night_47_1
    exact (mh_fI (mh_fB (mh_Fr_tv fs1706 (fr_eX10_stepOne s1706 fs1706.2) (by decide +kernel)) (fun s1756 fs1756 => (mh_fC (mh_Fr_tl fs1756 (fr_eX10_highestTop s1756 fs1756.2) (by decide +kernel)) (fun x1758 s1759 fs1759 => (mh_fC (mh_Fr_tl fs1759 (fr_eX10_misty s1759 fs1759.2) (by decide +kernel)) (fun x1761 s1762 fs1762 => (mh_fI (fr_j_eX10_night_110_2 s0 hp (l_eX10_night_47_1 p1 p2 n) s1762 x1700 x1705 x1704 x1703 x1702 x1701 hlo_47_1 fs1762) (mh_fA (fun x1790 => (mh_fI (mh_fA (fun x1808 => (mh_fC (mh_Fr_tl fs1762 (fr_eX10_lowestMisty s1762 fs1762.2) (by decide +kernel)) (fun x1810 s1811 fs1811 => (fr_j_eX10_night_95_3 s0 hp (l_eX10_night_47_1 p1 p2 n) s1811 x1700 x1704 x1705 x1758 x1790 x1810 x1808 hlo_47_1 fs1811))))) (fr_j_eX10_night_95_3 s0 hp (l_eX10_night_47_1 p1 p2 n) s1762 x1700 x1704 x1705 x1758 x1790 x1703 x1702 hlo_47_1 fs1762))))))))))) (mh_fB (mh_Fr_tv fs1706 (fr_eX10_putsBack s1706 (0 : Int32) fs1706.2) (by decide +kernel)) (fun s1749 fs1749 => (mh_fI fs1749 (mh_fI fs1749 (mh_fI fs1749 (mh_fI fs1749 fs1749)))))))
theorem fr_eX10_night (s0 : mh_H) (p1 : Int32) (p2 : Int32) (hp : mh_p3 s0) : mh_FrP S_eX10_night s0 (f_eX10_night s0 p1 p2) := by
  have fs0 : mh_Fr S_eX10_night s0 s0 := ⟨mh_F_rf, hp⟩
  unfold f_eX10_night
  exact (mh_fA (fun x894 => (mh_fI fs0 (mh_fA (fun y898 => (mh_fA (fun x900 => (mh_fI fs0 (mh_fB (mh_Fr_tv fs0 (fr_eX10_setsAside s0 (0 : Int32) fs0.2) (by decide +kernel)) (fun s905 fs905 => (fr_l_eX10_night_47_1 s0 hp p1 p2 61 s905 (0 : Int32) (0 : Int32) (-2 : Int32) (-2 : Int32) (-2 : Int32) (-2 : Int32) fs905)))))))))))
theorem fr_l_eX10_steps_17_1 (s0 : mh_H) (hp : mh_p3 s0) (p1 : Int32) (y79 : Int64) : ∀ (n : Nat) (s128 : mh_H) (x127 : Int32), mh_Fr S_eX10_steps s0 s128 → mh_FrP S_eX10_steps s0 (l_eX10_steps_17_1 p1 y79 n s128 x127) := by
  have fs0 : mh_Fr S_eX10_steps s0 s0 := ⟨mh_F_rf, hp⟩
  intro n
  induction n with
  | zero => intro s128 x127 fs128; exact fs128
  | succ n ih =>
    intro s128 x127 fs128
    have hlo_17_1 := ih
    rw [l_eX10_steps_17_1_s]
    unfold ls_eX10_steps_17_1
    exact (mh_fI (mh_fB (mh_Fr_tv fs128 (fr_eX10_stepOne s128 fs128.2) (by decide +kernel)) (fun s145 fs145 => (mh_fA (fun x147 => (hlo_17_1 s145 x147 fs145))))) (mh_fA (fun y138 => (mh_fA (fun y140 => (mh_fA (fun x142 => fs128)))))))
theorem fr_eX10_steps (s0 : mh_H) (p1 : Int32) (hp : mh_p3 s0) : mh_FrP S_eX10_steps s0 (f_eX10_steps s0 p1) := by
  have fs0 : mh_Fr S_eX10_steps s0 s0 := ⟨mh_F_rf, hp⟩
  unfold f_eX10_steps
  exact (mh_fA (fun x75 => (mh_fI fs0 (mh_fA (fun y79 => (fr_l_eX10_steps_17_1 s0 hp p1 y79 61 s0 (0 : Int32) fs0))))))
theorem fr_eX10_wrongs (s0 : mh_H) (p1 : Int32) (p2 : Int32) (hp : mh_p3 s0) : mh_Fr S_eX10_wrongs s0 (f_eX10_wrongs s0 p1 p2) := by
  have fs0 : mh_Fr S_eX10_wrongs s0 s0 := ⟨mh_F_rf, hp⟩
  unfold f_eX10_wrongs
  exact (mh_fA (fun x14 => (mh_fI (mh_fB (mh_Fr_pI fs0 (mh_sj 0 rfl)) (fun s26 fs26 => fs26)) (mh_fA (fun x17 => (mh_fA (fun x19 => (mh_fB (mh_Fr_pI fs0 (mh_sj 0 rfl)) (fun s21 fs21 => fs21)))))))))
theorem fr_eX10_emit (s0 : mh_H) (p1 : Int32) (p2 : Int32) (hp : mh_p3 s0) : mh_Fr S_eX10_emit s0 (f_eX10_emit s0 p1 p2) := by
  have fs0 : mh_Fr S_eX10_emit s0 s0 := ⟨mh_F_rf, hp⟩
  unfold f_eX10_emit
  exact (mh_fA (fun x21 => (mh_fA (fun x24 => (mh_fI fs0 (mh_fA (fun x27 => (mh_fB (mh_Fr_pI fs0 (mh_si 0 rfl)) (fun s29 fs29 => (mh_fB (mh_Fr_pI fs29 (mh_si 1 rfl)) (fun s34 fs34 => (mh_fA (fun x39 => (mh_fB (mh_Fr_pI fs34 (mh_sj 2 rfl)) (fun s41 fs41 => fs41)))))))))))))))
theorem fr_eX10_puts (s0 : mh_H) (p1 : Int32) (hp : mh_p3 s0) : mh_Fr S_eX10_puts s0 (f_eX10_puts s0 p1) := by
  have fs0 : mh_Fr S_eX10_puts s0 s0 := ⟨mh_F_rf, hp⟩
  unfold f_eX10_puts
  exact (mh_fA (fun x17 => (mh_fB (mh_Fr_pI fs0 (mh_si 0 rfl)) (fun s19 fs19 => (mh_fA (fun x24 => (mh_fB (mh_Fr_pI fs19 (mh_sj 1 rfl)) (fun s26 fs26 => (mh_fA (fun x28 => (mh_fA (fun x30 => (mh_fB (mh_Fr_pI fs26 (mh_sj 2 rfl)) (fun s32 fs32 => fs32))))))))))))))
theorem fr_eX10_opens (s0 : mh_H) (hp : mh_p3 s0) : mh_Fr S_eX10_opens s0 (f_eX10_opens s0) := by
  have fs0 : mh_Fr S_eX10_opens s0 s0 := ⟨mh_F_rf, hp⟩
  unfold f_eX10_opens
  exact (mh_fA (fun x53 => (mh_fA (fun x55 => (mh_fA (fun x57 => (mh_fA (fun x59 => (mh_fA (fun x61 => (mh_fA (fun x63 => (mh_fI (mh_fB (mh_Fr_tv fs0 (fr_eX10_wrongs s0 (5 : Int32) x53 fs0.2) (by decide +kernel)) (fun s98 fs98 => (mh_fA (fun x100 => (mh_fA (fun x105 => (mh_fB (mh_Fr_pI fs98 (mh_sj 0 rfl)) (fun s107 fs107 => (mh_fA (fun x113 => (mh_fB (mh_Fr_tv fs107 (fr_eX10_puts s107 x113 fs107.2) (by decide +kernel)) (fun s119 fs119 => (mh_fA (fun x121 => (mh_fA (fun x123 => fs119)))))))))))))))) (mh_fA (fun x68 => (mh_fB (mh_Fr_pI fs0 (mh_sj 0 rfl)) (fun s70 fs70 => (mh_fA (fun x74 => (mh_fB (mh_Fr_tv fs70 (fr_eX10_puts s70 x74 fs70.2) (by decide +kernel)) (fun s79 fs79 => (mh_fA (fun x81 => (mh_fA (fun x83 => fs79)))))))))))))))))))))))))
theorem fr_l_eX10_reads_7_1 (s0 : mh_H) (hp : mh_p3 s0) (x311 : Int32) : ∀ (n : Nat) (s498 : mh_H) (x497 : Int32), mh_Fr S_eX10_reads s0 s498 → mh_FrP S_eX10_reads s0 (l_eX10_reads_7_1 x311 n s498 x497) := by
  have fs0 : mh_Fr S_eX10_reads s0 s0 := ⟨mh_F_rf, hp⟩
  intro n
  induction n with
  | zero => intro s498 x497 fs498; exact fs498
  | succ n ih =>
    intro s498 x497 fs498
    have hlo_7_1 := ih
    rw [l_eX10_reads_7_1_s]
    unfold ls_eX10_reads_7_1
    exact (mh_fA (fun x561 => (mh_fA (fun x563 => (mh_fA (fun x565 => (mh_fA (fun x567 => (mh_fA (fun x569 => (mh_fA (fun x571 => (mh_fI fs498 (mh_fA (fun x575 => (mh_fI fs498 (mh_fA (fun x581 => (mh_fI (mh_fB (mh_Fr_tv fs498 (fr_eX10_wrongs s498 (2 : Int32) x561 fs498.2) (by decide +kernel)) (fun s607 fs607 => (mh_fA (fun x609 => (mh_fA (fun x611 => (mh_fA (fun x615 => (mh_fA (fun x618 => (mh_fA (fun x620 => (mh_fA (fun x624 => (mh_fB (mh_Fr_pI fs607 (mh_sj 0 rfl)) (fun s626 fs626 => (hlo_7_1 s626 x620 fs626))))))))))))))))) (mh_fA (fun x584 => (mh_fA (fun x586 => (mh_fA (fun x589 => (mh_fA (fun x591 => (mh_fA (fun x595 => (mh_fB (mh_Fr_pI fs498 (mh_sj 0 rfl)) (fun s597 fs597 => (hlo_7_1 s597 x591 fs597))))))))))))))))))))))))))))))))
theorem fr_eX10_reads (s0 : mh_H) (hp : mh_p3 s0) : mh_FrP S_eX10_reads s0 (f_eX10_reads s0) := by
  have fs0 : mh_Fr S_eX10_reads s0 s0 := ⟨mh_F_rf, hp⟩
  unfold f_eX10_reads
  exact (mh_fA (fun x311 => (mh_fA (fun x313 => (mh_fA (fun x315 => (mh_fA (fun x317 => (mh_fA (fun x319 => (fr_l_eX10_reads_7_1 s0 hp x311 202 s0 (0 : Int32) fs0)))))))))))
theorem fr_l_eX10_folds_0_1 (s0 : mh_H) (hp : mh_p3 s0) (p1 : Int32) : ∀ (n : Nat) (s215 : mh_H), mh_Fr S_eX10_folds s0 s215 → mh_Fr S_eX10_folds s0 (l_eX10_folds_0_1 p1 n s215) := by
  have fs0 : mh_Fr S_eX10_folds s0 s0 := ⟨mh_F_rf, hp⟩
  intro n
  induction n with
  | zero => intro s215 fs215; exact fs215
  | succ n ih =>
    intro s215 fs215
    have hlo_0_1 := ih
    rw [l_eX10_folds_0_1_s]
    unfold ls_eX10_folds_0_1
    exact (mh_fA (fun x270 => (mh_fA (fun x272 => (mh_fA (fun x274 => (mh_fA (fun x276 => (mh_fA (fun x278 => (mh_fA (fun x280 => (mh_fA (fun x283 => (mh_fI (mh_fI fs215 (mh_fA (fun x311 => (mh_fA (fun x314 => (mh_fI fs215 (mh_fA (fun x318 => (mh_fB (mh_Fr_tv fs215 (fr_eX10_emit s215 x280 (0 : Int32) fs215.2) (by decide +kernel)) (fun s322 fs322 => (mh_fA (fun x324 => (mh_fA (fun x329 => (mh_fB (mh_Fr_pI fs322 (mh_sj 3 rfl)) (fun s331 fs331 => (hlo_0_1 s331 fs331))))))))))))))))) (mh_fA (fun x287 => (mh_fB (mh_Fr_tv fs215 (fr_eX10_emit s215 x280 (0 : Int32) fs215.2) (by decide +kernel)) (fun s291 fs291 => (mh_fA (fun x293 => (mh_fA (fun x298 => (mh_fB (mh_Fr_pI fs291 (mh_sj 3 rfl)) (fun s300 fs300 => (hlo_0_1 s300 fs300))))))))))))))))))))))))))
theorem fr_eX10_folds (s0 : mh_H) (p1 : Int32) (hp : mh_p3 s0) : mh_Fr S_eX10_folds s0 (f_eX10_folds s0 p1) := by
  have fs0 : mh_Fr S_eX10_folds s0 s0 := ⟨mh_F_rf, hp⟩
  unfold f_eX10_folds
  exact (mh_fA (fun x162 => (mh_fA (fun x164 => (mh_fA (fun x166 => (mh_fA (fun x168 => (mh_fA (fun x170 => (fr_l_eX10_folds_0_1 s0 hp p1 202 s0 fs0)))))))))))
theorem fr_l_eX10_joins_0_1 (s0 : mh_H) (hp : mh_p3 s0) (p1 : Int32) : ∀ (n : Nat) (s191 : mh_H), mh_Fr S_eX10_joins s0 s191 → mh_Fr S_eX10_joins s0 (l_eX10_joins_0_1 p1 n s191) := by
  have fs0 : mh_Fr S_eX10_joins s0 s0 := ⟨mh_F_rf, hp⟩
  intro n
  induction n with
  | zero => intro s191 fs191; exact fs191
  | succ n ih =>
    intro s191 fs191
    have hlo_0_1 := ih
    rw [l_eX10_joins_0_1_s]
    unfold ls_eX10_joins_0_1
    exact (mh_fA (fun x240 => (mh_fA (fun x242 => (mh_fA (fun x244 => (mh_fA (fun x246 => (mh_fA (fun x248 => (mh_fA (fun x250 => (mh_fI (mh_fA (fun x254 => (mh_fB (mh_Fr_tv fs191 (fr_eX10_emit s191 x250 (0 : Int32) fs191.2) (by decide +kernel)) (fun s258 fs258 => (mh_fA (fun x260 => (mh_fA (fun x265 => (mh_fB (mh_Fr_pI fs258 (mh_sj 3 rfl)) (fun s267 fs267 => (hlo_0_1 s267 fs267))))))))))) (mh_fI fs191 (mh_fA (fun x278 => (mh_fI (mh_fA (fun x282 => (mh_fB (mh_Fr_tv fs191 (fr_eX10_emit s191 x250 (0 : Int32) fs191.2) (by decide +kernel)) (fun s286 fs286 => (mh_fA (fun x288 => (mh_fA (fun x293 => (mh_fB (mh_Fr_pI fs286 (mh_sj 3 rfl)) (fun s295 fs295 => (hlo_0_1 s295 fs295))))))))))) fs191)))))))))))))))))
theorem fr_eX10_joins (s0 : mh_H) (p1 : Int32) (hp : mh_p3 s0) : mh_Fr S_eX10_joins s0 (f_eX10_joins s0 p1) := by
  have fs0 : mh_Fr S_eX10_joins s0 s0 := ⟨mh_F_rf, hp⟩
  unfold f_eX10_joins
  exact (mh_fA (fun x144 => (mh_fA (fun x146 => (mh_fA (fun x148 => (mh_fA (fun x150 => (mh_fA (fun x152 => (fr_l_eX10_joins_0_1 s0 hp p1 202 s0 fs0)))))))))))
theorem fr_l_eX10_ends_0_1 (s0 : mh_H) (hp : mh_p3 s0) : ∀ (n : Nat) (s127 : mh_H), mh_Fr S_eX10_ends s0 s127 → mh_Fr S_eX10_ends s0 (l_eX10_ends_0_1 n s127) := by
  have fs0 : mh_Fr S_eX10_ends s0 s0 := ⟨mh_F_rf, hp⟩
  intro n
  induction n with
  | zero => intro s127 fs127; exact fs127
  | succ n ih =>
    intro s127 fs127
    have hlo_0_1 := ih
    rw [l_eX10_ends_0_1_s]
    unfold ls_eX10_ends_0_1
    exact (mh_fA (fun x160 => (mh_fA (fun x162 => (mh_fA (fun x164 => (mh_fA (fun x166 => (mh_fA (fun x168 => (mh_fA (fun x170 => (mh_fI (mh_fB (mh_Fr_tv fs127 (fr_eX10_emit s127 (2 : Int32) (0 : Int32) fs127.2) (by decide +kernel)) (fun s175 fs175 => (mh_fA (fun x177 => (mh_fA (fun x182 => (mh_fB (mh_Fr_pI fs175 (mh_sj 3 rfl)) (fun s184 fs184 => (mh_fA (fun x186 => (mh_fA (fun x188 => (mh_fB (mh_Fr_pI fs184 (mh_sj 4 rfl)) (fun s190 fs190 => (hlo_0_1 s190 fs190))))))))))))))) fs127)))))))))))))
theorem fr_eX10_ends (s0 : mh_H) (hp : mh_p3 s0) : mh_Fr S_eX10_ends s0 (f_eX10_ends s0) := by
  have fs0 : mh_Fr S_eX10_ends s0 s0 := ⟨mh_F_rf, hp⟩
  unfold f_eX10_ends
  exact (mh_fA (fun x96 => (mh_fA (fun x98 => (mh_fA (fun x100 => (mh_fA (fun x102 => (mh_fA (fun x104 => (fr_l_eX10_ends_0_1 s0 hp 202 s0 fs0)))))))))))
theorem fr_l_eX10_factor_0_1 (s0 : mh_H) (hp : mh_p3 s0) : ∀ (n : Nat) (s163 : mh_H), mh_Fr S_eX10_factor s0 s163 → mh_Fr S_eX10_factor s0 (l_eX10_factor_0_1 n s163) := by
  have fs0 : mh_Fr S_eX10_factor s0 s0 := ⟨mh_F_rf, hp⟩
  intro n
  induction n with
  | zero => intro s163 fs163; exact fs163
  | succ n ih =>
    intro s163 fs163
    have hlo_0_1 := ih
    rw [l_eX10_factor_0_1_s]
    unfold ls_eX10_factor_0_1
    exact (mh_fA (fun x192 => (mh_fA (fun x194 => (mh_fA (fun x196 => (mh_fA (fun x198 => (mh_fA (fun x200 => (mh_fA (fun x202 => (mh_fI (mh_fA (fun x206 => fs163)) (mh_fA (fun x210 => (mh_fI (mh_fB (mh_Fr_tv fs163 (fr_eX10_opens s163 fs163.2) (by decide +kernel)) (fun s331 fs331 => (mh_fA (fun x333 => (mh_fA (fun x336 => (mh_fA (fun x339 => (hlo_0_1 s331 fs331))))))))) (mh_fA (fun x214 => (mh_fA (fun x218 => (mh_fI (mh_fA (fun x222 => (mh_fA (fun x225 => (mh_fI (mh_fB (mh_Fr_tv fs163 (fr_eX10_wrongs s163 (1 : Int32) x192 fs163.2) (by decide +kernel)) (fun s232 fs232 => (mh_fA (fun x234 => fs232)))) (mh_fA (fun x249 => (mh_fB (mh_Fr_tv fs163 (fr_eX10_emit s163 (1 : Int32) x210 fs163.2) (by decide +kernel)) (fun s253 fs253 => (mh_fA (fun x255 => (mh_fA (fun x260 => (mh_fB (mh_Fr_pI fs253 (mh_sj 3 rfl)) (fun s262 fs262 => fs262))))))))))))))) (mh_fC (mh_Fr_tl fs163 (fr_eX10_reads s163 fs163.2) (by decide +kernel)) (fun x298 s299 fs299 => (mh_fA (fun x301 => (mh_fA (fun x304 => (mh_fB (mh_Fr_tv fs299 (fr_eX10_emit s299 (0 : Int32) x298 fs299.2) (by decide +kernel)) (fun s309 fs309 => (mh_fA (fun x311 => fs309)))))))))))))))))))))))))))))))
theorem fr_eX10_factor (s0 : mh_H) (hp : mh_p3 s0) : mh_Fr S_eX10_factor s0 (f_eX10_factor s0) := by
  have fs0 : mh_Fr S_eX10_factor s0 s0 := ⟨mh_F_rf, hp⟩
  unfold f_eX10_factor
  exact (mh_fA (fun x136 => (mh_fA (fun x138 => (mh_fA (fun x140 => (mh_fA (fun x142 => (mh_fA (fun x144 => (fr_l_eX10_factor_0_1 s0 hp 202 s0 fs0)))))))))))
theorem fr_eX10_stays (s0 : mh_H) (hp : mh_p3 s0) : mh_FrP S_eX10_stays s0 (f_eX10_stays s0) := by
  have fs0 : mh_Fr S_eX10_stays s0 s0 := ⟨mh_F_rf, hp⟩
  unfold f_eX10_stays
  exact (mh_fA (fun x97 => (mh_fA (fun x99 => (mh_fA (fun x101 => (mh_fA (fun x103 => (mh_fA (fun x105 => (mh_fA (fun x107 => (mh_fA (fun x109 => (mh_fA (fun x112 => (mh_fI (mh_fA (fun x150 => (mh_fI (mh_fB (mh_Fr_tv fs0 (fr_eX10_folds s0 (1 : Int32) fs0.2) (by decide +kernel)) (fun s155 fs155 => (mh_fA (fun x160 => (mh_fA (fun x162 => (mh_fI (mh_fA (fun x165 => (mh_fI (mh_fA (fun x171 => (mh_fB (mh_Fr_pI fs155 (mh_sj 3 rfl)) (fun s173 fs173 => (mh_fA (fun x175 => (mh_fA (fun x177 => (mh_fB (mh_Fr_pI fs173 (mh_sj 6 rfl)) (fun s179 fs179 => (mh_fA (fun x185 => (mh_fB (mh_Fr_pI fs179 (mh_sj 5 rfl)) (fun s187 fs187 => (mh_fB (mh_Fr_pI fs187 (mh_sj 7 rfl)) (fun s189 fs189 => fs189)))))))))))))))) (mh_fB (mh_Fr_tv fs155 (fr_eX10_wrongs s155 (1 : Int32) x99 fs155.2) (by decide +kernel)) (fun s267 fs267 => (mh_fA (fun x269 => fs267))))))) fs155))))))) (mh_fA (fun x294 => (mh_fB (mh_Fr_tv fs0 (fr_eX10_folds s0 x294 fs0.2) (by decide +kernel)) (fun s298 fs298 => (mh_fA (fun x303 => (mh_fA (fun x305 => (mh_fB (mh_Fr_tv fs298 (fr_eX10_puts s298 x109 fs298.2) (by decide +kernel)) (fun s308 fs308 => (mh_fA (fun x310 => (mh_fA (fun x312 => fs308))))))))))))))))) (mh_fA (fun x116 => (mh_fB (mh_Fr_tv fs0 (fr_eX10_folds s0 x116 fs0.2) (by decide +kernel)) (fun s120 fs120 => (mh_fA (fun x125 => (mh_fA (fun x127 => (mh_fB (mh_Fr_tv fs120 (fr_eX10_puts s120 x109 fs120.2) (by decide +kernel)) (fun s130 fs130 => (mh_fA (fun x132 => (mh_fA (fun x134 => fs130)))))))))))))))))))))))))))))))
theorem fr_l_eX10_value_7_1 (s0 : mh_H) (hp : mh_p3 s0) : ∀ (n : Nat) (s275 : mh_H) (x274 : Int32), mh_Fr S_eX10_value s0 s275 → mh_Fr S_eX10_value s0 (l_eX10_value_7_1 n s275 x274) := by
  have fs0 : mh_Fr S_eX10_value s0 s0 := ⟨mh_F_rf, hp⟩
  intro n
  induction n with
  | zero => intro s275 x274 fs275; exact fs275
  | succ n ih =>
    intro s275 x274 fs275
    have hlo_7_1 := ih
    rw [l_eX10_value_7_1_s]
    unfold ls_eX10_value_7_1
    exact (mh_fA (fun x349 => (mh_fA (fun x351 => (mh_fA (fun x353 => (mh_fA (fun x355 => (mh_fA (fun x357 => (mh_fA (fun x359 => (mh_fI (mh_fA (fun x362 => (mh_fI fs275 (mh_fA (fun x366 => (mh_fI (mh_fB (mh_Fr_tv fs275 (fr_eX10_wrongs s275 (1 : Int32) x349 fs275.2) (by decide +kernel)) (fun s373 fs373 => (mh_fA (fun x375 => fs373)))) fs275)))))) (mh_fA (fun x393 => (mh_fI (mh_fA (fun x397 => fs275)) (mh_fI (mh_fB (mh_Fr_tv fs275 (fr_eX10_factor s275 fs275.2) (by decide +kernel)) (fun s432 fs432 => (mh_fA (fun x434 => (mh_fA (fun x437 => (mh_fA (fun x439 => (mh_fA (fun x441 => (mh_fB (mh_Fr_pI fs432 (mh_sj 0 rfl)) (fun s443 fs443 => (mh_fA (fun x450 => (mh_fI (hlo_7_1 s443 (0 : Int32) fs443) (mh_fC (mh_Fr_tl fs443 (fr_eX10_stays s443 fs443.2) (by decide +kernel)) (fun x455 s456 fs456 => (mh_fA (fun x458 => (mh_fA (fun x461 => (mh_fA (fun x463 => (mh_fA (fun x465 => (mh_fA (fun x467 => (mh_fI (hlo_7_1 s456 (0 : Int32) fs456) (hlo_7_1 s456 (1 : Int32) fs456))))))))))))))))))))))))))))) (mh_fB (mh_Fr_pI fs275 (mh_sj 0 rfl)) (fun s404 fs404 => (mh_fA (fun x411 => (mh_fC (mh_Fr_tl fs404 (fr_eX10_stays s404 fs404.2) (by decide +kernel)) (fun x416 s417 fs417 => (mh_fA (fun x419 => (mh_fA (fun x422 => (mh_fA (fun x424 => (mh_fA (fun x426 => (mh_fA (fun x428 => (mh_fI (hlo_7_1 s417 (0 : Int32) fs417) (hlo_7_1 s417 (1 : Int32) fs417)))))))))))))))))))))))))))))))))))
theorem fr_eX10_value (s0 : mh_H) (hp : mh_p3 s0) : mh_Fr S_eX10_value s0 (f_eX10_value s0) := by
  have fs0 : mh_Fr S_eX10_value s0 s0 := ⟨mh_F_rf, hp⟩
  unfold f_eX10_value
  exact (mh_fA (fun x220 => (mh_fA (fun x222 => (mh_fA (fun x224 => (mh_fA (fun x226 => (mh_fA (fun x228 => (mh_fA (fun x230 => (mh_fB (mh_Fr_pI fs0 (mh_sj 0 rfl)) (fun s232 fs232 => (fr_l_eX10_value_7_1 s0 hp 404 s232 (1 : Int32) fs232)))))))))))))))
theorem fr_l_eX10_pieceOfC_0_1 (s0 : mh_H) (hp : mh_p3 s0) : ∀ (n : Nat) (s247 : mh_H), mh_Fr S_eX10_pieceOfC s0 s247 → mh_Fr S_eX10_pieceOfC s0 (l_eX10_pieceOfC_0_1 n s247) := by
  have fs0 : mh_Fr S_eX10_pieceOfC s0 s0 := ⟨mh_F_rf, hp⟩
  intro n
  induction n with
  | zero => intro s247 fs247; exact fs247
  | succ n ih =>
    intro s247 fs247
    have hlo_0_1 := ih
    rw [l_eX10_pieceOfC_0_1_s]
    unfold ls_eX10_pieceOfC_0_1
    exact (mh_fA (fun x289 => (mh_fA (fun x291 => (mh_fA (fun x293 => (mh_fA (fun x295 => (mh_fA (fun x297 => (mh_fA (fun x299 => (mh_fI (mh_fA (fun x303 => (mh_fA (fun x307 => fs247)))) (mh_fA (fun x311 => (mh_fI (mh_fB (mh_Fr_tv fs247 (fr_eX10_opens s247 fs247.2) (by decide +kernel)) (fun s316 fs316 => (mh_fA (fun x318 => (mh_fA (fun x321 => (mh_fA (fun x324 => (hlo_0_1 s316 fs316))))))))) (mh_fA (fun x326 => (mh_fI (mh_fB (mh_Fr_tv fs247 (fr_eX10_opens s247 fs247.2) (by decide +kernel)) (fun s444 fs444 => (mh_fA (fun x446 => (mh_fA (fun x449 => (mh_fA (fun x452 => (hlo_0_1 s444 fs444))))))))) (mh_fA (fun x330 => (mh_fB (mh_Fr_tv fs247 (fr_eX10_value s247 fs247.2) (by decide +kernel)) (fun s335 fs335 => (mh_fA (fun x337 => (mh_fA (fun x340 => (mh_fA (fun x342 => (mh_fA (fun x344 => (mh_fA (fun x346 => (mh_fI fs335 (mh_fA (fun x350 => (mh_fA (fun x353 => (mh_fI (mh_fB (mh_Fr_tv fs335 (fr_eX10_wrongs s335 (1 : Int32) x337 fs335.2) (by decide +kernel)) (fun s419 fs419 => (mh_fA (fun x421 => fs419)))) (mh_fB (mh_Fr_tv fs335 (fr_eX10_puts s335 x350 fs335.2) (by decide +kernel)) (fun s358 fs358 => (mh_fA (fun x360 => (mh_fA (fun x362 => (mh_fB (mh_Fr_tv fs358 (fr_eX10_value s358 fs358.2) (by decide +kernel)) (fun s368 fs368 => (mh_fA (fun x370 => (mh_fA (fun x373 => (mh_fA (fun x375 => (mh_fA (fun x377 => (mh_fA (fun x379 => (mh_fI fs368 (mh_fA (fun x383 => (mh_fB (mh_Fr_tv fs368 (fr_eX10_emit s368 x383 (0 : Int32) fs368.2) (by decide +kernel)) (fun s387 fs387 => (mh_fA (fun x389 => (mh_fA (fun x394 => (mh_fB (mh_Fr_pI fs387 (mh_sj 2 rfl)) (fun s396 fs396 => (mh_fB (mh_Fr_tv fs396 (fr_eX10_ends s396 fs396.2) (by decide +kernel)) (fun s407 fs407 => (mh_fA (fun x412 => (mh_fA (fun x414 => fs407))))))))))))))))))))))))))))))))))))))))))))))))))))))))))))))))))))))))))
theorem fr_eX10_pieceOfC (s0 : mh_H) (hp : mh_p3 s0) : mh_Fr S_eX10_pieceOfC s0 (f_eX10_pieceOfC s0) := by
  have fs0 : mh_Fr S_eX10_pieceOfC s0 s0 := ⟨mh_F_rf, hp⟩
  unfold f_eX10_pieceOfC
  exact (mh_fA (fun x207 => (mh_fA (fun x209 => (mh_fA (fun x211 => (mh_fA (fun x213 => (mh_fA (fun x215 => (fr_l_eX10_pieceOfC_0_1 s0 hp 202 s0 fs0)))))))))))
theorem fr_eX10_goesBehind (s0 : mh_H) (hp : mh_p3 s0) : mh_FrP S_eX10_goesBehind s0 (f_eX10_goesBehind s0) := by
  have fs0 : mh_Fr S_eX10_goesBehind s0 s0 := ⟨mh_F_rf, hp⟩
  unfold f_eX10_goesBehind
  exact (mh_fA (fun x101 => (mh_fA (fun x103 => (mh_fA (fun x105 => (mh_fA (fun x107 => (mh_fA (fun x109 => (mh_fA (fun x111 => (mh_fA (fun x113 => (mh_fI (mh_fB (mh_Fr_tv fs0 (fr_eX10_joins s0 (0 : Int32) fs0.2) (by decide +kernel)) (fun s119 fs119 => (mh_fA (fun x124 => (mh_fA (fun x126 => (mh_fB (mh_Fr_tv fs119 (fr_eX10_puts s119 x113 fs119.2) (by decide +kernel)) (fun s129 fs129 => (mh_fA (fun x131 => (mh_fA (fun x133 => fs129)))))))))))) (mh_fI (mh_fB (mh_Fr_tv fs0 (fr_eX10_joins s0 (1 : Int32) fs0.2) (by decide +kernel)) (fun s288 fs288 => (mh_fA (fun x293 => (mh_fA (fun x295 => (mh_fB (mh_Fr_tv fs288 (fr_eX10_puts s288 x113 fs288.2) (by decide +kernel)) (fun s298 fs298 => (mh_fA (fun x300 => (mh_fA (fun x302 => fs298)))))))))))) (mh_fI (mh_fB (mh_Fr_tv fs0 (fr_eX10_joins s0 (1 : Int32) fs0.2) (by decide +kernel)) (fun s149 fs149 => (mh_fA (fun x154 => (mh_fA (fun x156 => (mh_fA (fun x160 => (mh_fB (mh_Fr_pI fs149 (mh_sj 3 rfl)) (fun s162 fs162 => (mh_fA (fun x164 => (mh_fA (fun x166 => (mh_fB (mh_Fr_pI fs162 (mh_sj 6 rfl)) (fun s168 fs168 => (mh_fA (fun x174 => (mh_fB (mh_Fr_pI fs168 (mh_sj 5 rfl)) (fun s176 fs176 => (mh_fI (mh_fB (mh_Fr_pI fs176 (mh_sj 7 rfl)) (fun s216 fs216 => fs216)) (mh_fB (mh_Fr_pI fs176 (mh_sj 7 rfl)) (fun s184 fs184 => (mh_fB (mh_Fr_tv fs184 (fr_eX10_ends s184 fs184.2) (by decide +kernel)) (fun s206 fs206 => (mh_fA (fun x211 => (mh_fA (fun x213 => fs206))))))))))))))))))))))))))))) (mh_fB (mh_Fr_tv fs0 (fr_eX10_wrongs s0 (1 : Int32) x103 fs0.2) (by decide +kernel)) (fun s270 fs270 => (mh_fA (fun x272 => fs270)))))))))))))))))))))
theorem fr_l_eX10_condition_37_1 (s0 : mh_H) (hp : mh_p3 s0) : ∀ (n : Nat) (s320 : mh_H) (x319 : Int32), mh_Fr S_eX10_condition s0 s320 → mh_Fr S_eX10_condition s0 (l_eX10_condition_37_1 n s320 x319) := by
  have fs0 : mh_Fr S_eX10_condition s0 s0 := ⟨mh_F_rf, hp⟩
  intro n
  induction n with
  | zero => intro s320 x319 fs320; exact fs320
  | succ n ih =>
    intro s320 x319 fs320
    have hlo_37_1 := ih
    rw [l_eX10_condition_37_1_s]
    unfold ls_eX10_condition_37_1
    exact (mh_fA (fun x388 => (mh_fA (fun x390 => (mh_fA (fun x392 => (mh_fA (fun x394 => (mh_fA (fun x396 => (mh_fA (fun x398 => (mh_fA (fun x400 => (mh_fI fs320 (mh_fI (mh_fI (mh_fA (fun x408 => (mh_fC (mh_Fr_tl fs320 (fr_eX10_goesBehind s320 fs320.2) (by decide +kernel)) (fun x412 s413 fs413 => (mh_fA (fun x415 => (mh_fA (fun x418 => (mh_fA (fun x420 => (mh_fA (fun x422 => (mh_fA (fun x424 => (hlo_37_1 s413 x412 fs413))))))))))))))) (mh_fB (mh_Fr_tv fs320 (fr_eX10_pieceOfC s320 fs320.2) (by decide +kernel)) (fun s427 fs427 => (mh_fA (fun x429 => (mh_fA (fun x432 => (mh_fA (fun x434 => (mh_fA (fun x436 => (mh_fA (fun x438 => (mh_fI (hlo_37_1 s427 x319 fs427) (mh_fC (mh_Fr_tl fs427 (fr_eX10_goesBehind s427 fs427.2) (by decide +kernel)) (fun x443 s444 fs444 => (mh_fA (fun x446 => (mh_fA (fun x449 => (mh_fA (fun x451 => (mh_fA (fun x453 => (mh_fA (fun x455 => (hlo_37_1 s444 x443 fs444))))))))))))))))))))))))))) fs320))))))))))))))))
theorem fr_eX10_condition (s0 : mh_H) (hp : mh_p3 s0) : mh_Fr S_eX10_condition s0 (f_eX10_condition s0) := by
  have fs0 : mh_Fr S_eX10_condition s0 s0 := ⟨mh_F_rf, hp⟩
  unfold f_eX10_condition
  exact (mh_fA (fun x229 => (mh_fA (fun x231 => (mh_fA (fun x233 => (mh_fA (fun x235 => (mh_fA (fun x237 => (mh_fB (mh_Fr_pI fs0 (mh_sj 0 rfl)) (fun s239 fs239 => (mh_fA (fun x243 => (mh_fI (mh_fA (fun x247 => (mh_fB (mh_Fr_tv fs239 (fr_eX10_opens s239 fs239.2) (by decide +kernel)) (fun s255 fs255 => (mh_fA (fun x257 => (mh_fA (fun x260 => (mh_fA (fun x263 => (fr_l_eX10_condition_37_1 s0 hp 404 s255 (1 : Int32) fs255))))))))))) (mh_fB (mh_Fr_tv fs239 (fr_eX10_wrongs s239 (1 : Int32) x229 fs239.2) (by decide +kernel)) (fun s463 fs463 => (mh_fA (fun x465 => (mh_fA (fun x467 => fs463)))))))))))))))))))))
theorem fr_eX10_clause (s0 : mh_H) (hp : mh_p3 s0) : mh_Fr S_eX10_clause s0 (f_eX10_clause s0) := by
  have fs0 : mh_Fr S_eX10_clause s0 s0 := ⟨mh_F_rf, hp⟩
  unfold f_eX10_clause
  exact (mh_fA (fun x123 => (mh_fA (fun x125 => (mh_fA (fun x127 => (mh_fA (fun x129 => (mh_fA (fun x131 => (mh_fA (fun x133 => (mh_fA (fun x136 => (mh_fI (mh_fB (mh_Fr_tv fs0 (fr_eX10_wrongs s0 (1 : Int32) x123 fs0.2) (by decide +kernel)) (fun s364 fs364 => (mh_fA (fun x366 => (mh_fA (fun x368 => fs364)))))) (mh_fI (mh_fB (mh_Fr_tv fs0 (fr_eX10_wrongs s0 (4 : Int32) x123 fs0.2) (by decide +kernel)) (fun s337 fs337 => (mh_fA (fun x339 => (mh_fA (fun x341 => fs337)))))) (mh_fA (fun x143 => (mh_fB (mh_Fr_pI fs0 (mh_si 0 rfl)) (fun s149 fs149 => (mh_fB (mh_Fr_pI fs149 (mh_si 1 rfl)) (fun s157 fs157 => (mh_fA (fun x163 => (mh_fB (mh_Fr_pI fs157 (mh_sj 2 rfl)) (fun s165 fs165 => (mh_fB (mh_Fr_pI fs165 (mh_sj 3 rfl)) (fun s167 fs167 => (mh_fB (mh_Fr_pI fs167 (mh_sj 4 rfl)) (fun s169 fs169 => (mh_fB (mh_Fr_tv fs169 (fr_eX10_value s169 fs169.2) (by decide +kernel)) (fun s191 fs191 => (mh_fA (fun x193 => (mh_fA (fun x196 => (mh_fA (fun x198 => (mh_fA (fun x200 => (mh_fB (mh_Fr_pI fs191 (mh_si 11 rfl)) (fun s211 fs211 => (mh_fA (fun x213 => (mh_fI (mh_fB (mh_Fr_pI fs211 (mh_si 12 rfl)) (fun s224 fs224 => (mh_fA (fun x229 => (mh_fB (mh_Fr_pI fs224 (mh_sj 13 rfl)) (fun s231 fs231 => fs231)))))) (mh_fB (mh_Fr_tv fs211 (fr_eX10_condition s211 fs211.2) (by decide +kernel)) (fun s277 fs277 => (mh_fA (fun x279 => (mh_fA (fun x282 => (mh_fA (fun x284 => (mh_fA (fun x286 => (mh_fB (mh_Fr_pI fs277 (mh_si 12 rfl)) (fun s294 fs294 => (mh_fA (fun x299 => (mh_fB (mh_Fr_pI fs294 (mh_sj 13 rfl)) (fun s301 fs301 => fs301)))))))))))))))))))))))))))))))))))))))))))))))))))))))))))))
theorem fr_l_eX10_law_206_3 (s0 : mh_H) (hp : mh_p3 s0) (x761 : Int32) (x763 : Int32) : ∀ (n : Nat) (s1119 : mh_H) (x1118 : Int32), mh_Fr S_eX10_law s0 s1119 → mh_FrP S_eX10_law s0 (l_eX10_law_206_3 x761 x763 n s1119 x1118) := by
  have fs0 : mh_Fr S_eX10_law s0 s0 := ⟨mh_F_rf, hp⟩
  intro n
  induction n with
  | zero => intro s1119 x1118 fs1119; exact fs1119
  | succ n ih =>
    intro s1119 x1118 fs1119
    have hlo_206_3 := ih
    rw [l_eX10_law_206_3_s]
    unfold ls_eX10_law_206_3
    exact (mh_fI (mh_fA (fun x1149 => (mh_fB (mh_Fr_pI fs1119 (mh_si 21 rfl)) (fun s1151 fs1151 => (mh_fA (fun x1153 => (mh_fB (mh_Fr_pI fs1151 (mh_si 22 rfl)) (fun s1155 fs1155 => (mh_fA (fun x1157 => (hlo_206_3 s1155 x1157 fs1155))))))))))) (mh_fB (mh_Fr_pI fs1119 (mh_sj 23 rfl)) (fun s1144 fs1144 => fs1144)))
theorem fr_l_eX10_law_142_2 (s0 : mh_H) (hp : mh_p3 s0) (x761 : Int32) (x763 : Int32) : ∀ (n : Nat) (s868 : mh_H) (x867 : Int32), mh_Fr S_eX10_law s0 s868 → mh_FrP S_eX10_law s0 (l_eX10_law_142_2 x761 x763 n s868 x867) := by
  have fs0 : mh_Fr S_eX10_law s0 s0 := ⟨mh_F_rf, hp⟩
  intro n
  induction n with
  | zero => intro s868 x867 fs868; exact fs868
  | succ n ih =>
    intro s868 x867 fs868
    have hlo_142_2 := ih
    rw [l_eX10_law_142_2_s]
    unfold ls_eX10_law_142_2
    exact (mh_fI (mh_fA (fun x1163 => (mh_fB (mh_Fr_pI fs868 (mh_si 17 rfl)) (fun s1165 fs1165 => (mh_fA (fun x1167 => (mh_fB (mh_Fr_pI fs1165 (mh_si 18 rfl)) (fun s1169 fs1169 => (mh_fA (fun x1171 => (mh_fB (mh_Fr_pI fs1169 (mh_si 19 rfl)) (fun s1173 fs1173 => (mh_fA (fun x1175 => (mh_fB (mh_Fr_pI fs1173 (mh_si 20 rfl)) (fun s1177 fs1177 => (mh_fA (fun x1179 => (hlo_142_2 s1177 x1179 fs1177))))))))))))))))))) (fr_l_eX10_law_206_3 s0 hp x761 x763 201 s868 (0 : Int32) fs868))
theorem fr_l_eX10_law_54_1 (s0 : mh_H) (hp : mh_p3 s0) : ∀ (n : Nat) (s691 : mh_H) (x690 : Int32), mh_Fr S_eX10_law s0 s691 → mh_FrP S_eX10_law s0 (l_eX10_law_54_1 n s691 x690) := by
  have fs0 : mh_Fr S_eX10_law s0 s0 := ⟨mh_F_rf, hp⟩
  intro n
  induction n with
  | zero => intro s691 x690 fs691; exact fs691
  | succ n ih =>
    intro s691 x690 fs691
    have hlo_54_1 := ih
    rw [l_eX10_law_54_1_s]
    unfold ls_eX10_law_54_1
    exact (mh_fA (fun x755 => (mh_fA (fun x757 => (mh_fA (fun x759 => (mh_fA (fun x761 => (mh_fA (fun x763 => (mh_fI (mh_fI fs691 (fr_l_eX10_law_142_2 s0 hp x761 x763 15 s691 (0 : Int32) fs691)) (mh_fA (fun x1191 => (mh_fI fs691 (mh_fB (mh_Fr_tv fs691 (fr_eX10_clause s691 fs691.2) (by decide +kernel)) (fun s1201 fs1201 => (mh_fA (fun x1203 => (mh_fA (fun x1206 => (mh_fA (fun x1208 => (mh_fA (fun x1210 => (mh_fA (fun x1212 => (mh_fI (mh_fA (fun x1217 => (hlo_54_1 s1201 (0 : Int32) fs1201))) (mh_fI (mh_fA (fun x1228 => (mh_fI (mh_fA (fun x1234 => (mh_fB (mh_Fr_pI fs1201 (mh_sj 1 rfl)) (fun s1236 fs1236 => (mh_fA (fun x1243 => (hlo_54_1 s1236 (1 : Int32) fs1236))))))) (mh_fB (mh_Fr_tv fs1201 (fr_eX10_wrongs s1201 (1 : Int32) x1203 fs1201.2) (by decide +kernel)) (fun s1248 fs1248 => (mh_fA (fun x1250 => (mh_fA (fun x1255 => (mh_fB (mh_Fr_pI fs1248 (mh_sj 1 rfl)) (fun s1257 fs1257 => (mh_fA (fun x1267 => (hlo_54_1 s1257 (1 : Int32) fs1257)))))))))))))) (mh_fA (fun x1225 => (hlo_54_1 s1201 (0 : Int32) fs1201)))))))))))))))))))))))))))))))
theorem fr_eX10_law (s0 : mh_H) (p1 : Int32) (hp : mh_p3 s0) : mh_FrP S_eX10_law s0 (f_eX10_law s0 p1) := by
  have fs0 : mh_Fr S_eX10_law s0 s0 := ⟨mh_F_rf, hp⟩
  unfold f_eX10_law
  exact (mh_fA (fun y617 => (mh_fA (fun x619 => (mh_fI fs0 (mh_fA (fun x623 => (mh_fI fs0 (mh_fB (mh_Fr_pI fs0 (mh_sj 0 rfl)) (fun s626 fs626 => (mh_fB (mh_Fr_pI fs626 (mh_sj 1 rfl)) (fun s628 fs628 => (mh_fB (mh_Fr_pI fs628 (mh_sj 2 rfl)) (fun s630 fs630 => (mh_fB (mh_Fr_pI fs630 (mh_sj 3 rfl)) (fun s632 fs632 => (mh_fB (mh_Fr_pI fs632 (mh_sj 4 rfl)) (fun s634 fs634 => (mh_fB (mh_Fr_pI fs634 (mh_sj 5 rfl)) (fun s636 fs636 => (mh_fA (fun x1284 => (fr_l_eX10_law_54_1 s0 hp 806 s636 (1 : Int32) fs636)))))))))))))))))))))))
theorem fr_eX4_fail (s0 : mh_H) (p1 : Int32) (hp : mh_p3 s0) : mh_FrP S_eX4_fail s0 (f_eX4_fail s0 p1) := by
  have fs0 : mh_Fr S_eX4_fail s0 s0 := ⟨mh_F_rf, hp⟩
  unfold f_eX4_fail
  exact (mh_fA (fun x9 => (mh_fA (fun x11 => (mh_fA (fun x13 => (mh_fB (mh_Fr_pI fs0 (mh_sj 0 rfl)) (fun s15 fs15 => fs15))))))))
theorem fr_eX4_take (s0 : mh_H) (p1 : Int32) (hp : mh_p3 s0) : mh_FrP S_eX4_take s0 (f_eX4_take s0 p1) := by
  have fs0 : mh_Fr S_eX4_take s0 s0 := ⟨mh_F_rf, hp⟩
  unfold f_eX4_take
  exact (mh_fA (fun x18 => (mh_fA (fun x20 => (mh_fA (fun x22 => (mh_fI (mh_fA (fun x28 => (mh_fB (mh_Fr_pI fs0 (mh_sj 0 rfl)) (fun s30 fs30 => fs30)))) (mh_fC (mh_Fr_tl fs0 (fr_eX4_fail s0 (1 : Int32) fs0.2) (by decide +kernel)) (fun x34 s35 fs35 => fs35)))))))))

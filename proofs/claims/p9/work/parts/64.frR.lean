def mh_FrR (rc : mh_Rc) : Prop := (∀ (s : mh_H) (x : Int32), mh_p3 s → mh_FrP S_eX4_rd s (rc.1 s x)) ∧ (∀ (s : mh_H) (x : Int32), mh_p3 s → mh_FrP S_eX4_rd s (rc.2.1 s x)) ∧ (∀ (s : mh_H) (x : Int32), mh_p3 s → mh_FrP S_eX4_rd s (rc.2.2 s x))
theorem fr_l_eX4_readNumber_4_1 (s0 : mh_H) (hp : mh_p3 s0) : ∀ (n : Nat) (s464 : mh_H) (x462 : Int32) (x463 : Int32), mh_Fr S_eX4_readNumber s0 s464 → mh_FrP S_eX4_readNumber s0 (l_eX4_readNumber_4_1 n s464 x462 x463) := by
  have fs0 : mh_Fr S_eX4_readNumber s0 s0 := ⟨mh_F_rf, hp⟩
  intro n
  induction n with
  | zero => intro s464 x462 x463 fs464; exact fs464
  | succ n ih =>
    intro s464 x462 x463 fs464
    have hlo_4_1 := ih
    rw [l_eX4_readNumber_4_1_s]
    unfold ls_eX4_readNumber_4_1
    exact (mh_fA (fun x502 => (mh_fA (fun x504 => (mh_fI (mh_fA (fun x525 => (mh_fA (fun x528 => (mh_fI (mh_fK (fs464.2.2.2) (fun k533 hk533 => (mh_fB (mh_Fr_tv fs464 (fr_eX1_put s464 k533 hk533 (13 : Int32) fs464.2) (by rcases hk533 with rfl | rfl <;> decide +kernel)) (fun s535 fs535 => (mh_fK (fs535.2.2.2) (fun k540 hk540 => (mh_fB (mh_Fr_tv fs535 (fr_eX1_put s535 k540 hk540 x463 fs535.2) (by rcases hk540 with rfl | rfl <;> decide +kernel)) (fun s542 fs542 => fs542)))))))) (mh_fI (mh_fA (fun x547 => (mh_fA (fun x549 => (mh_fA (fun x552 => (mh_fA (fun x554 => (mh_fA (fun x558 => (mh_fB (mh_Fr_pI fs464 (mh_sj 0 rfl)) (fun s560 fs560 => (mh_fA (fun x562 => (hlo_4_1 s560 x562 x554 fs560))))))))))))))) (mh_fC (mh_Fr_tl fs464 (fr_eX4_fail s464 (2 : Int32) fs464.2) (by decide +kernel)) (fun x566 s567 fs567 => fs567)))))))) (mh_fK (fs464.2.2.2) (fun k512 hk512 => (mh_fB (mh_Fr_tv fs464 (fr_eX1_put s464 k512 hk512 (13 : Int32) fs464.2) (by rcases hk512 with rfl | rfl <;> decide +kernel)) (fun s514 fs514 => (mh_fK (fs514.2.2.2) (fun k519 hk519 => (mh_fB (mh_Fr_tv fs514 (fr_eX1_put s514 k519 hk519 x463 fs514.2) (by rcases hk519 with rfl | rfl <;> decide +kernel)) (fun s521 fs521 => fs521)))))))))))))
theorem fr_eX4_readNumber (s0 : mh_H) (hp : mh_p3 s0) : mh_FrP S_eX4_readNumber s0 (f_eX4_readNumber s0) := by
  have fs0 : mh_Fr S_eX4_readNumber s0 s0 := ⟨mh_F_rf, hp⟩
  unfold f_eX4_readNumber
  exact (mh_fA (fun x280 => (mh_fA (fun x282 => (fr_l_eX4_readNumber_4_1 s0 hp 6 s0 (0 : Int32) (0 : Int32) fs0)))))
theorem fr_eX4_readFactor (rc : mh_Rc) (hrc : mh_FrR rc) (s0 : mh_H) (p1 : Int32) (hp : mh_p3 s0) : mh_FrP S_eX4_rd s0 (f_eX4_readFactor rc s0 p1) := by
  have fs0 : mh_Fr S_eX4_rd s0 s0 := ⟨mh_F_rf, hp⟩
  unfold f_eX4_readFactor
  exact (mh_fA (fun x80 => (mh_fA (fun x82 => (mh_fA (fun x84 => (mh_fI (mh_fI (mh_fA (fun x153 => (mh_fB (mh_Fr_pI fs0 (mh_sj 0 rfl)) (fun s155 fs155 => (mh_fA (fun x157 => (mh_fC (mh_Fr_tl fs155 (hrc.1 s155 x157 fs155.2) (by decide +kernel)) (fun x161 s162 fs162 => (mh_fA (fun x165 => (mh_fI fs162 (mh_fC (mh_Fr_tl fs162 (fr_eX4_take s162 (93 : Int32) fs162.2) (by decide +kernel)) (fun x168 s169 fs169 => (mh_fA (fun x172 => (mh_fI fs169 fs169)))))))))))))))) (mh_fC (mh_Fr_tl fs0 (fr_eX4_fail s0 (5 : Int32) fs0.2) (by decide +kernel)) (fun x175 s176 fs176 => fs176))) (mh_fA (fun x88 => (mh_fI (mh_fI (mh_fC (mh_Fr_tl fs0 (fr_eX4_fail s0 (1 : Int32) fs0.2) (by decide +kernel)) (fun x139 s140 fs140 => fs140)) (mh_fA (fun x93 => (mh_fA (fun x95 => (mh_fI (mh_fC (mh_Fr_tl fs0 (fr_eX4_fail s0 (1 : Int32) fs0.2) (by decide +kernel)) (fun x133 s134 fs134 => fs134)) (mh_fA (fun x101 => (mh_fB (mh_Fr_pI fs0 (mh_sj 0 rfl)) (fun s103 fs103 => (mh_fK (fs103.2.2.2) (fun k106 hk106 => (mh_fB (mh_Fr_tv fs103 (fr_eX1_put s103 k106 hk106 x95 fs103.2) (by rcases hk106 with rfl | rfl <;> decide +kernel)) (fun s110 fs110 => (mh_fK (fs110.2.2.2) (fun k115 hk115 => (mh_fA (fun x117 => (mh_fI (mh_fI (mh_fB (mh_Fr_pI fs110 (mh_isL_s (o := 0) hk115 (mh_sj 6 rfl) (mh_sj 7 rfl))) (fun s129 fs129 => fs129)) (mh_fB (mh_Fr_pI fs110 (mh_isL_s (o := 0) hk115 (mh_sj 6 rfl) (mh_sj 7 rfl))) (fun s125 fs125 => fs125))) (mh_fB (mh_Fr_pI fs110 (mh_isL_s (o := 0) hk115 (mh_sj 6 rfl) (mh_sj 7 rfl))) (fun s120 fs120 => fs120))))))))))))))))))))) (mh_fC (mh_Fr_tl fs0 (fr_eX4_readNumber s0 fs0.2) (by decide +kernel)) (fun x144 s145 fs145 => (mh_fA (fun x148 => fs145))))))))))))))
theorem fr_l_eX4_readTerm_10_1 (s0 : mh_H) (hp : mh_p3 s0) (rc : mh_Rc) (p1 : Int32) (hrc : mh_FrR rc) : ∀ (n : Nat) (s340 : mh_H), mh_Fr S_eX4_rd s0 s340 → mh_FrP S_eX4_rd s0 (l_eX4_readTerm_10_1 rc p1 n s340) := by
  have fs0 : mh_Fr S_eX4_rd s0 s0 := ⟨mh_F_rf, hp⟩
  intro n
  induction n with
  | zero => intro s340 fs340; exact fs340
  | succ n ih =>
    intro s340 fs340
    have hlo_10_1 := ih
    rw [l_eX4_readTerm_10_1_s]
    unfold ls_eX4_readTerm_10_1
    exact (mh_fA (fun x423 => (mh_fA (fun x425 => (mh_fI (mh_fA (fun x432 => (mh_fI (mh_fA (fun x436 => (mh_fA (fun x441 => (mh_fB (mh_Fr_pI fs340 (mh_sj 0 rfl)) (fun s443 fs443 => (mh_fC (mh_Fr_tl fs443 (fr_eX4_readFactor rc hrc s443 p1 fs443.2) (by decide +kernel)) (fun x447 s448 fs448 => (mh_fA (fun x451 => (mh_fI fs448 (mh_fK (fs448.2.2.2) (fun k455 hk455 => (mh_fB (mh_Fr_tv fs448 (fr_eX1_put s448 k455 hk455 x436 fs448.2) (by rcases hk455 with rfl | rfl <;> decide +kernel)) (fun s457 fs457 => (hlo_10_1 s457 fs457)))))))))))))))) (mh_fA (fun x461 => (mh_fI (mh_fA (fun x465 => (mh_fA (fun x470 => (mh_fB (mh_Fr_pI fs340 (mh_sj 0 rfl)) (fun s472 fs472 => (mh_fC (mh_Fr_tl fs472 (fr_eX4_readFactor rc hrc s472 p1 fs472.2) (by decide +kernel)) (fun x476 s477 fs477 => (mh_fA (fun x480 => (mh_fI fs477 (mh_fK (fs477.2.2.2) (fun k484 hk484 => (mh_fB (mh_Fr_tv fs477 (fr_eX1_put s477 k484 hk484 x465 fs477.2) (by rcases hk484 with rfl | rfl <;> decide +kernel)) (fun s486 fs486 => (hlo_10_1 s486 fs486)))))))))))))))) (mh_fA (fun x490 => (mh_fI (mh_fA (fun x494 => (mh_fA (fun x499 => (mh_fB (mh_Fr_pI fs340 (mh_sj 0 rfl)) (fun s501 fs501 => (mh_fC (mh_Fr_tl fs501 (fr_eX4_readFactor rc hrc s501 p1 fs501.2) (by decide +kernel)) (fun x505 s506 fs506 => (mh_fA (fun x509 => (mh_fI fs506 (mh_fK (fs506.2.2.2) (fun k513 hk513 => (mh_fB (mh_Fr_tv fs506 (fr_eX1_put s506 k513 hk513 x494 fs506.2) (by rcases hk513 with rfl | rfl <;> decide +kernel)) (fun s515 fs515 => (hlo_10_1 s515 fs515)))))))))))))))) fs340))))))))) fs340)))))
theorem fr_eX4_readTerm (rc : mh_Rc) (hrc : mh_FrR rc) (s0 : mh_H) (p1 : Int32) (hp : mh_p3 s0) : mh_FrP S_eX4_rd s0 (f_eX4_readTerm rc s0 p1) := by
  have fs0 : mh_Fr S_eX4_rd s0 s0 := ⟨mh_F_rf, hp⟩
  unfold f_eX4_readTerm
  exact (mh_fA (fun x252 => (mh_fA (fun x254 => (mh_fC (mh_Fr_tl fs0 (fr_eX4_readFactor rc hrc s0 p1 fs0.2) (by decide +kernel)) (fun x256 s257 fs257 => (mh_fA (fun x260 => (mh_fI fs257 (fr_l_eX4_readTerm_10_1 s0 hp rc p1 hrc 222 s257 fs257))))))))))
theorem fr_l_eX4_readSum_10_1 (s0 : mh_H) (hp : mh_p3 s0) (rc : mh_Rc) (p1 : Int32) (hrc : mh_FrR rc) : ∀ (n : Nat) (s244 : mh_H), mh_Fr S_eX4_rd s0 s244 → mh_FrP S_eX4_rd s0 (l_eX4_readSum_10_1 rc p1 n s244) := by
  have fs0 : mh_Fr S_eX4_rd s0 s0 := ⟨mh_F_rf, hp⟩
  intro n
  induction n with
  | zero => intro s244 fs244; exact fs244
  | succ n ih =>
    intro s244 fs244
    have hlo_10_1 := ih
    rw [l_eX4_readSum_10_1_s]
    unfold ls_eX4_readSum_10_1
    exact (mh_fA (fun x303 => (mh_fA (fun x305 => (mh_fI (mh_fA (fun x312 => (mh_fI (mh_fA (fun x316 => (mh_fA (fun x321 => (mh_fB (mh_Fr_pI fs244 (mh_sj 0 rfl)) (fun s323 fs323 => (mh_fC (mh_Fr_tl fs323 (fr_eX4_readTerm rc hrc s323 p1 fs323.2) (by decide +kernel)) (fun x327 s328 fs328 => (mh_fA (fun x331 => (mh_fI fs328 (mh_fK (fs328.2.2.2) (fun k335 hk335 => (mh_fB (mh_Fr_tv fs328 (fr_eX1_put s328 k335 hk335 x316 fs328.2) (by rcases hk335 with rfl | rfl <;> decide +kernel)) (fun s337 fs337 => (hlo_10_1 s337 fs337)))))))))))))))) (mh_fA (fun x341 => (mh_fI (mh_fA (fun x345 => (mh_fA (fun x350 => (mh_fB (mh_Fr_pI fs244 (mh_sj 0 rfl)) (fun s352 fs352 => (mh_fC (mh_Fr_tl fs352 (fr_eX4_readTerm rc hrc s352 p1 fs352.2) (by decide +kernel)) (fun x356 s357 fs357 => (mh_fA (fun x360 => (mh_fI fs357 (mh_fK (fs357.2.2.2) (fun k364 hk364 => (mh_fB (mh_Fr_tv fs357 (fr_eX1_put s357 k364 hk364 x345 fs357.2) (by rcases hk364 with rfl | rfl <;> decide +kernel)) (fun s366 fs366 => (hlo_10_1 s366 fs366)))))))))))))))) fs244)))))) fs244)))))
theorem fr_eX4_readSum (rc : mh_Rc) (hrc : mh_FrR rc) (s0 : mh_H) (p1 : Int32) (hp : mh_p3 s0) : mh_FrP S_eX4_rd s0 (f_eX4_readSum rc s0 p1) := by
  have fs0 : mh_Fr S_eX4_rd s0 s0 := ⟨mh_F_rf, hp⟩
  unfold f_eX4_readSum
  exact (mh_fA (fun x180 => (mh_fA (fun x182 => (mh_fC (mh_Fr_tl fs0 (fr_eX4_readTerm rc hrc s0 p1 fs0.2) (by decide +kernel)) (fun x184 s185 fs185 => (mh_fA (fun x188 => (mh_fI fs185 (fr_l_eX4_readSum_10_1 s0 hp rc p1 hrc 222 s185 fs185))))))))))
theorem fr_eX4_readCompared (rc : mh_Rc) (hrc : mh_FrR rc) (s0 : mh_H) (p1 : Int32) (hp : mh_p3 s0) : mh_FrP S_eX4_rd s0 (f_eX4_readCompared rc s0 p1) := by
  have fs0 : mh_Fr S_eX4_rd s0 s0 := ⟨mh_F_rf, hp⟩
  unfold f_eX4_readCompared
  exact (mh_fA (fun x65 => (mh_fA (fun x67 => (mh_fA (fun x69 => (mh_fI (mh_fA (fun x75 => (mh_fB (mh_Fr_pI fs0 (mh_sj 0 rfl)) (fun s77 fs77 => (mh_fC (mh_Fr_tl fs77 (fr_eX4_readSum rc hrc s77 p1 fs77.2) (by decide +kernel)) (fun x81 s82 fs82 => (mh_fA (fun x85 => (mh_fI fs82 (mh_fK (fs82.2.2.2) (fun k89 hk89 => (mh_fB (mh_Fr_tv fs82 (fr_eX1_put s82 k89 hk89 x69 fs82.2) (by rcases hk89 with rfl | rfl <;> decide +kernel)) (fun s91 fs91 => fs91))))))))))))) (mh_fI (mh_fA (fun x98 => (mh_fB (mh_Fr_pI fs0 (mh_sj 0 rfl)) (fun s100 fs100 => (mh_fC (mh_Fr_tl fs100 (fr_eX4_readSum rc hrc s100 p1 fs100.2) (by decide +kernel)) (fun x104 s105 fs105 => (mh_fA (fun x108 => (mh_fI fs105 (mh_fK (fs105.2.2.2) (fun k112 hk112 => (mh_fB (mh_Fr_tv fs105 (fr_eX1_put s105 k112 hk112 x69 fs105.2) (by rcases hk112 with rfl | rfl <;> decide +kernel)) (fun s114 fs114 => fs114))))))))))))) (mh_fI (mh_fA (fun x121 => (mh_fB (mh_Fr_pI fs0 (mh_sj 0 rfl)) (fun s123 fs123 => (mh_fC (mh_Fr_tl fs123 (fr_eX4_readSum rc hrc s123 p1 fs123.2) (by decide +kernel)) (fun x127 s128 fs128 => (mh_fA (fun x131 => (mh_fI fs128 (mh_fK (fs128.2.2.2) (fun k135 hk135 => (mh_fB (mh_Fr_tv fs128 (fr_eX1_put s128 k135 hk135 x69 fs128.2) (by rcases hk135 with rfl | rfl <;> decide +kernel)) (fun s137 fs137 => fs137))))))))))))) (mh_fC (mh_Fr_tl fs0 (fr_eX4_fail s0 (1 : Int32) fs0.2) (by decide +kernel)) (fun x141 s142 fs142 => fs142)))))))))))
theorem fr_eX4_readPiece (rc : mh_Rc) (hrc : mh_FrR rc) (s0 : mh_H) (p1 : Int32) (hp : mh_p3 s0) : mh_FrP S_eX4_rd s0 (f_eX4_readPiece rc s0 p1) := by
  have fs0 : mh_Fr S_eX4_rd s0 s0 := ⟨mh_F_rf, hp⟩
  unfold f_eX4_readPiece
  exact (mh_fA (fun x71 => (mh_fA (fun x73 => (mh_fA (fun x75 => (mh_fI (mh_fI (mh_fA (fun x82 => (mh_fB (mh_Fr_pI fs0 (mh_sj 0 rfl)) (fun s84 fs84 => (mh_fA (fun x87 => (mh_fC (mh_Fr_tl fs84 (hrc.2.2 s84 x87 fs84.2) (by decide +kernel)) (fun x91 s92 fs92 => (mh_fA (fun x95 => (mh_fI fs92 (mh_fK (fs92.2.2.2) (fun k99 hk99 => (mh_fB (mh_Fr_tv fs92 (fr_eX1_put s92 k99 hk99 (33 : Int32) fs92.2) (by rcases hk99 with rfl | rfl <;> decide +kernel)) (fun s101 fs101 => fs101))))))))))))))) (mh_fC (mh_Fr_tl fs0 (fr_eX4_fail s0 (5 : Int32) fs0.2) (by decide +kernel)) (fun x105 s106 fs106 => fs106))) (mh_fI (mh_fI (mh_fA (fun x114 => (mh_fB (mh_Fr_pI fs0 (mh_sj 0 rfl)) (fun s116 fs116 => (mh_fA (fun x119 => (mh_fC (mh_Fr_tl fs116 (hrc.2.1 s116 x119 fs116.2) (by decide +kernel)) (fun x123 s124 fs124 => (mh_fA (fun x127 => (mh_fI fs124 (mh_fC (mh_Fr_tl fs124 (fr_eX4_take s124 (41 : Int32) fs124.2) (by decide +kernel)) (fun x130 s131 fs131 => (mh_fA (fun x134 => (mh_fI fs131 fs131)))))))))))))))) (mh_fC (mh_Fr_tl fs0 (fr_eX4_fail s0 (5 : Int32) fs0.2) (by decide +kernel)) (fun x137 s138 fs138 => fs138))) (mh_fC (mh_Fr_tl fs0 (fr_eX4_readSum rc hrc s0 p1 fs0.2) (by decide +kernel)) (fun x142 s143 fs143 => (mh_fA (fun x146 => (mh_fI fs143 (mh_fC (mh_Fr_tl fs143 (fr_eX4_readCompared rc hrc s143 p1 fs143.2) (by decide +kernel)) (fun x149 s150 fs150 => (mh_fA (fun x153 => (mh_fI fs150 fs150))))))))))))))))))
theorem fr_l_eX4_readPart_10_1 (s0 : mh_H) (hp : mh_p3 s0) (rc : mh_Rc) (p1 : Int32) (hrc : mh_FrR rc) : ∀ (n : Nat) (s156 : mh_H), mh_Fr S_eX4_rd s0 s156 → mh_FrP S_eX4_rd s0 (l_eX4_readPart_10_1 rc p1 n s156) := by
  have fs0 : mh_Fr S_eX4_rd s0 s0 := ⟨mh_F_rf, hp⟩
  intro n
  induction n with
  | zero => intro s156 fs156; exact fs156
  | succ n ih =>
    intro s156 fs156
    have hlo_10_1 := ih
    rw [l_eX4_readPart_10_1_s]
    unfold ls_eX4_readPart_10_1
    exact (mh_fA (fun x193 => (mh_fA (fun x195 => (mh_fI (mh_fA (fun x202 => (mh_fI (mh_fA (fun x208 => (mh_fB (mh_Fr_pI fs156 (mh_sj 0 rfl)) (fun s210 fs210 => (mh_fK (fs210.2.2.2) (fun k213 hk213 => (mh_fC (mh_Fr_tl fs210 (fr_eX1_putJump s210 k213 hk213 (38 : Int32) fs210.2) (by rcases hk213 with rfl | rfl <;> decide +kernel)) (fun x216 s217 fs217 => (mh_fC (mh_Fr_tl fs217 (fr_eX4_readPiece rc hrc s217 p1 fs217.2) (by decide +kernel)) (fun x221 s222 fs222 => (mh_fA (fun x225 => (mh_fI fs222 (mh_fK (fs222.2.2.2) (fun k229 hk229 => (mh_fB (mh_Fr_tv fs222 (fr_eX1_land s222 k229 hk229 x216 fs222.2) (by rcases hk229 with rfl | rfl <;> decide +kernel)) (fun s231 fs231 => (hlo_10_1 s231 fs231)))))))))))))))))) fs156))) fs156)))))
theorem fr_eX4_readPart (rc : mh_Rc) (hrc : mh_FrR rc) (s0 : mh_H) (p1 : Int32) (hp : mh_p3 s0) : mh_FrP S_eX4_rd s0 (f_eX4_readPart rc s0 p1) := by
  have fs0 : mh_Fr S_eX4_rd s0 s0 := ⟨mh_F_rf, hp⟩
  unfold f_eX4_readPart
  exact (mh_fA (fun x114 => (mh_fA (fun x116 => (mh_fC (mh_Fr_tl fs0 (fr_eX4_readPiece rc hrc s0 p1 fs0.2) (by decide +kernel)) (fun x118 s119 fs119 => (mh_fA (fun x122 => (mh_fI fs119 (fr_l_eX4_readPart_10_1 s0 hp rc p1 hrc 222 s119 fs119))))))))))
theorem fr_l_eX4_readChoice_10_1 (s0 : mh_H) (hp : mh_p3 s0) (rc : mh_Rc) (p1 : Int32) (hrc : mh_FrR rc) : ∀ (n : Nat) (s156 : mh_H), mh_Fr S_eX4_rd s0 s156 → mh_FrP S_eX4_rd s0 (l_eX4_readChoice_10_1 rc p1 n s156) := by
  have fs0 : mh_Fr S_eX4_rd s0 s0 := ⟨mh_F_rf, hp⟩
  intro n
  induction n with
  | zero => intro s156 fs156; exact fs156
  | succ n ih =>
    intro s156 fs156
    have hlo_10_1 := ih
    rw [l_eX4_readChoice_10_1_s]
    unfold ls_eX4_readChoice_10_1
    exact (mh_fA (fun x193 => (mh_fA (fun x195 => (mh_fI (mh_fA (fun x202 => (mh_fI (mh_fA (fun x208 => (mh_fB (mh_Fr_pI fs156 (mh_sj 0 rfl)) (fun s210 fs210 => (mh_fK (fs210.2.2.2) (fun k213 hk213 => (mh_fC (mh_Fr_tl fs210 (fr_eX1_putJump s210 k213 hk213 (124 : Int32) fs210.2) (by rcases hk213 with rfl | rfl <;> decide +kernel)) (fun x216 s217 fs217 => (mh_fC (mh_Fr_tl fs217 (fr_eX4_readPart rc hrc s217 p1 fs217.2) (by decide +kernel)) (fun x221 s222 fs222 => (mh_fA (fun x225 => (mh_fI fs222 (mh_fK (fs222.2.2.2) (fun k229 hk229 => (mh_fB (mh_Fr_tv fs222 (fr_eX1_land s222 k229 hk229 x216 fs222.2) (by rcases hk229 with rfl | rfl <;> decide +kernel)) (fun s231 fs231 => (hlo_10_1 s231 fs231)))))))))))))))))) fs156))) fs156)))))
theorem fr_eX4_readChoice (rc : mh_Rc) (hrc : mh_FrR rc) (s0 : mh_H) (p1 : Int32) (hp : mh_p3 s0) : mh_FrP S_eX4_rd s0 (f_eX4_readChoice rc s0 p1) := by
  have fs0 : mh_Fr S_eX4_rd s0 s0 := ⟨mh_F_rf, hp⟩
  unfold f_eX4_readChoice
  exact (mh_fA (fun x114 => (mh_fA (fun x116 => (mh_fC (mh_Fr_tl fs0 (fr_eX4_readPart rc hrc s0 p1 fs0.2) (by decide +kernel)) (fun x118 s119 fs119 => (mh_fA (fun x122 => (mh_fI fs119 (fr_l_eX4_readChoice_10_1 s0 hp rc p1 hrc 222 s119 fs119))))))))))
theorem mh_FrN (n : Nat) : mh_FrR (mh_rcN n) := by
  induction n with
  | zero => exact ⟨fun s _ h => ⟨mh_F_rf, h⟩, fun s _ h => ⟨mh_F_rf, h⟩, fun s _ h => ⟨mh_F_rf, h⟩⟩
  | succ n ih =>
    rw [show mh_rcN (n + 1) = (f_eX4_readSum (mh_rcN n), f_eX4_readChoice (mh_rcN n), f_eX4_readPiece (mh_rcN n)) from rfl]
    have a1 : ∀ (s : mh_H) (x : Int32), mh_p3 s → mh_FrP S_eX4_rd s (f_eX4_readSum (mh_rcN n) s x) := fun s x h => fr_eX4_readSum (mh_rcN n) ih s x h
    have a2 : ∀ (s : mh_H) (x : Int32), mh_p3 s → mh_FrP S_eX4_rd s (f_eX4_readChoice (mh_rcN n) s x) := fun s x h => fr_eX4_readChoice (mh_rcN n) ih s x h
    have a3 : ∀ (s : mh_H) (x : Int32), mh_p3 s → mh_FrP S_eX4_rd s (f_eX4_readPiece (mh_rcN n) s x) := fun s x h => fr_eX4_readPiece (mh_rcN n) ih s x h
    generalize f_eX4_readSum (mh_rcN n) = g1 at a1 ⊢
    generalize f_eX4_readChoice (mh_rcN n) = g2 at a2 ⊢
    generalize f_eX4_readPiece (mh_rcN n) = g3 at a3 ⊢
    exact ⟨a1, a2, a3⟩
theorem fr_eX4_readClause (s0 : mh_H) (hp : mh_p3 s0) : mh_FrP S_eX4_readClause s0 (f_eX4_readClause s0) := by
  have fs0 : mh_Fr S_eX4_readClause s0 s0 := ⟨mh_F_rf, hp⟩
  unfold f_eX4_readClause
  exact (mh_fA (fun x72 => (mh_fA (fun x74 => (mh_fA (fun x76 => (mh_fI (mh_fC (mh_Fr_tl fs0 (fr_eX4_fail s0 (1 : Int32) fs0.2) (by decide +kernel)) (fun x80 s81 fs81 => fs81)) (mh_fA (fun x85 => (mh_fA (fun x87 => (mh_fI (mh_fC (mh_Fr_tl fs0 (fr_eX4_fail s0 (1 : Int32) fs0.2) (by decide +kernel)) (fun x152 s153 fs153 => fs153)) (mh_fK (fs0.2.2.2) (fun k92 hk92 => (mh_fA (fun x93 => (mh_fI (mh_fA (fun x98 => (mh_fB (mh_Fr_pI fs0 (mh_sj 1 rfl)) (fun s100 fs100 => (mh_fK (fs100.2.2.2) (fun k103 hk103 => (mh_fA (fun x104 => (mh_fC (mh_Fr_tl fs100 ((mh_FrN 7).1 s100 (0 : Int32) fs100.2) (by decide +kernel)) (fun x108 s109 fs109 => (mh_fA (fun x112 => (mh_fI fs109 (mh_fK (fs109.2.2.2) (fun k116 hk116 => (mh_fA (fun x117 => (mh_fC (mh_Fr_tl fs109 (fr_eX4_take s109 (40 : Int32) fs109.2) (by decide +kernel)) (fun x119 s120 fs120 => (mh_fA (fun x123 => (mh_fI fs120 (mh_fC (mh_Fr_tl fs120 ((mh_FrN 6).2.1 s120 (1 : Int32) fs120.2) (by decide +kernel)) (fun x126 s127 fs127 => (mh_fA (fun x130 => (mh_fI fs127 (mh_fC (mh_Fr_tl fs127 (fr_eX4_take s127 (41 : Int32) fs127.2) (by decide +kernel)) (fun x133 s134 fs134 => (mh_fA (fun x137 => (mh_fI fs134 (mh_fK (fs134.2.2.2) (fun k141 hk141 => (mh_fB (mh_Fr_tv fs134 (fr_eX1_addClause s134 k141 hk141 x76 x104 x117 fs134.2) (by rcases hk141 with rfl | rfl <;> decide +kernel)) (fun s143 fs143 => fs143)))))))))))))))))))))))))))))))))))) (mh_fC (mh_Fr_tl fs0 (fr_eX4_fail s0 (4 : Int32) fs0.2) (by decide +kernel)) (fun x147 s148 fs148 => fs148)))))))))))))))))))
theorem fr_l_eX4_read_34_1 (s0 : mh_H) (kl : Nat) (hkl : mh_isL kl) (hp : mh_p3 s0) : ∀ (n : Nat) (s284 : mh_H) (x283 : Int32), mh_Fr (S_eX4_read kl) s0 s284 → mh_FrP (S_eX4_read kl) s0 (l_eX4_read_34_1 kl n s284 x283) := by
  have fs0 : mh_Fr (S_eX4_read kl) s0 s0 := ⟨mh_F_rf, hp⟩
  intro n
  induction n with
  | zero => intro s284 x283 fs284; exact fs284
  | succ n ih =>
    intro s284 x283 fs284
    have hlo_34_1 := ih
    rw [l_eX4_read_34_1_s]
    unfold ls_eX4_read_34_1
    exact (mh_fI (mh_fA (fun x304 => fs284)) (mh_fC (mh_Fr_tl fs284 (fr_eX4_readClause s284 fs284.2) (by rcases hkl with rfl | rfl <;> decide +kernel)) (fun x306 s307 fs307 => (mh_fI (mh_fA (fun x325 => fs307)) (mh_fA (fun x310 => (mh_fA (fun x312 => (mh_fI (mh_fC (mh_Fr_tl fs307 (fr_eX4_take s307 (59 : Int32) fs307.2) (by rcases hkl with rfl | rfl <;> decide +kernel)) (fun x315 s316 fs316 => (mh_fI (mh_fA (fun x321 => fs316)) (mh_fA (fun x319 => (hlo_34_1 s316 x319 fs316)))))) (mh_fA (fun x323 => fs307)))))))))))
theorem fr_eX4_read (s0 : mh_H) (kl : Nat) (hkl : mh_isL kl) (p1 : Int32) (hp : mh_p3 s0) : mh_FrP (S_eX4_read kl) s0 (f_eX4_read s0 kl p1) := by
  have fs0 : mh_Fr (S_eX4_read kl) s0 s0 := ⟨mh_F_rf, hp⟩
  unfold f_eX4_read
  exact (mh_fB (mh_Fr_pR fs0 (mh_sj 0 rfl) hkl) (fun s164 fs164 => (mh_fA (fun x166 => (mh_fB (mh_Fr_pI fs164 (mh_sj 1 rfl)) (fun s168 fs168 => (mh_fB (mh_Fr_pI fs168 (mh_sj 2 rfl)) (fun s170 fs170 => (mh_fB (mh_Fr_pI fs170 (mh_sj 3 rfl)) (fun s172 fs172 => (mh_fB (mh_Fr_tv fs172 (fr_eX1_clear s172 kl hkl fs172.2) (by rcases hkl with rfl | rfl <;> decide +kernel)) (fun s175 fs175 => (fr_l_eX4_read_34_1 s0 kl hkl hp 16 s175 (0 : Int32) fs175)))))))))))))
theorem fr_eX9_law (s0 : mh_H) (p1 : Int32) (hp : mh_p3 s0) : mh_FrP S_eX9_law s0 (f_eX9_law s0 p1) := by
  have fs0 : mh_Fr S_eX9_law s0 s0 := ⟨mh_F_rf, hp⟩
  unfold f_eX9_law
  exact (mh_fI fs0 (mh_fI fs0 (mh_fA (fun x24 => (mh_fI fs0 (mh_fK (fs0.2.2.1) (fun k28 hk28 => (mh_fC (mh_Fr_tl fs0 (fr_eX4_read s0 k28 hk28 p1 fs0.2) (by rcases hk28 with rfl | rfl <;> decide +kernel)) (fun x29 s30 fs30 => (mh_fB (mh_Fr_pI fs30 (mh_sj 22 rfl)) (fun s32 fs32 => (mh_fI (mh_fK (fs32.2.1) (fun k36 hk36 => (mh_fK (fs32.2.2.1) (fun k38 hk38 => (mh_fB (mh_Fr_pR fs32 (mh_sj 23 rfl) hk38) (fun s39 fs39 => (mh_fB (mh_Fr_pR fs39 (mh_sj 24 rfl) hk36) (fun s41 fs41 => fs41)))))))) fs32))))))))))))

def S_lw1 : List (Nat × Nat) := [(57, 23), (57, 23), (57, 24), (57, 25), (57, 26), (57, 27), (70, 9999), (71, 9999), (57, 29), (57, 28), (57, 31), (76, 9999), (74, 9999), (75, 9999), (72, 9999), (73, 9999), (57, 30), (64, 9999), (65, 9999), (66, 9999), (67, 9999), (68, 9999), (69, 9999), (57, 10)]
theorem fq_l_eX10_law_206_3 (s0 : mh_H) (hp : mh_p3 s0) (x761 : Int32) (x763 : Int32) : ∀ (n : Nat) (s1119 : mh_H) (x1118 : Int32), mh_Fr S_lw1 s0 s1119 → mh_FrP S_lw1 s0 (l_eX10_law_206_3 x761 x763 n s1119 x1118) := by
  have fs0 : mh_Fr S_lw1 s0 s0 := ⟨mh_F_rf, hp⟩
  intro n
  induction n with
  | zero => intro s1119 x1118 fs1119; exact fs1119
  | succ n ih =>
    intro s1119 x1118 fs1119
    have hlo_206_3 := ih
    rw [l_eX10_law_206_3_s]
    unfold ls_eX10_law_206_3
    exact (mh_fI (mh_fA (fun x1149 => (mh_fB (mh_Fr_pI fs1119 (mh_si 21 rfl)) (fun s1151 fs1151 => (mh_fA (fun x1153 => (mh_fB (mh_Fr_pI fs1151 (mh_si 22 rfl)) (fun s1155 fs1155 => (mh_fA (fun x1157 => (hlo_206_3 s1155 x1157 fs1155))))))))))) (mh_fB (mh_Fr_pI fs1119 (mh_sj 23 rfl)) (fun s1144 fs1144 => fs1144)))
theorem fq_l_eX10_law_142_2 (s0 : mh_H) (hp : mh_p3 s0) (x761 : Int32) (x763 : Int32) : ∀ (n : Nat) (s868 : mh_H) (x867 : Int32), mh_Fr S_lw1 s0 s868 → mh_FrP S_lw1 s0 (l_eX10_law_142_2 x761 x763 n s868 x867) := by
  have fs0 : mh_Fr S_lw1 s0 s0 := ⟨mh_F_rf, hp⟩
  intro n
  induction n with
  | zero => intro s868 x867 fs868; exact fs868
  | succ n ih =>
    intro s868 x867 fs868
    have hlo_142_2 := ih
    rw [l_eX10_law_142_2_s]
    unfold ls_eX10_law_142_2
    exact (mh_fI (mh_fA (fun x1163 => (mh_fB (mh_Fr_pI fs868 (mh_si 17 rfl)) (fun s1165 fs1165 => (mh_fA (fun x1167 => (mh_fB (mh_Fr_pI fs1165 (mh_si 18 rfl)) (fun s1169 fs1169 => (mh_fA (fun x1171 => (mh_fB (mh_Fr_pI fs1169 (mh_si 19 rfl)) (fun s1173 fs1173 => (mh_fA (fun x1175 => (mh_fB (mh_Fr_pI fs1173 (mh_si 20 rfl)) (fun s1177 fs1177 => (mh_fA (fun x1179 => (hlo_142_2 s1177 x1179 fs1177))))))))))))))))))) (fq_l_eX10_law_206_3 s0 hp x761 x763 201 s868 (0 : Int32) fs868))
theorem fq_l_eX10_law_54_1 (s0 : mh_H) (hp : mh_p3 s0) : ∀ (n : Nat) (s691 : mh_H) (x690 : Int32), mh_Fr S_lw1 s0 s691 → mh_FrP S_lw1 s0 (l_eX10_law_54_1 n s691 x690) := by
  have fs0 : mh_Fr S_lw1 s0 s0 := ⟨mh_F_rf, hp⟩
  intro n
  induction n with
  | zero => intro s691 x690 fs691; exact fs691
  | succ n ih =>
    intro s691 x690 fs691
    have hlo_54_1 := ih
    rw [l_eX10_law_54_1_s]
    unfold ls_eX10_law_54_1
    exact (mh_fA (fun x755 => (mh_fA (fun x757 => (mh_fA (fun x759 => (mh_fA (fun x761 => (mh_fA (fun x763 => (mh_fI (mh_fI fs691 (fq_l_eX10_law_142_2 s0 hp x761 x763 15 s691 (0 : Int32) fs691)) (mh_fA (fun x1191 => (mh_fI fs691 (mh_fB (mh_Fr_tv fs691 (fr_eX10_clause s691 fs691.2) (by decide +kernel)) (fun s1201 fs1201 => (mh_fA (fun x1203 => (mh_fA (fun x1206 => (mh_fA (fun x1208 => (mh_fA (fun x1210 => (mh_fA (fun x1212 => (mh_fI (mh_fA (fun x1217 => (hlo_54_1 s1201 (0 : Int32) fs1201))) (mh_fI (mh_fA (fun x1228 => (mh_fI (mh_fA (fun x1234 => (mh_fB (mh_Fr_pI fs1201 (mh_sj 1 rfl)) (fun s1236 fs1236 => (mh_fA (fun x1243 => (hlo_54_1 s1236 (1 : Int32) fs1236))))))) (mh_fB (mh_Fr_tv fs1201 (fr_eX10_wrongs s1201 (1 : Int32) x1203 fs1201.2) (by decide +kernel)) (fun s1248 fs1248 => (mh_fA (fun x1250 => (mh_fA (fun x1255 => (mh_fB (mh_Fr_pI fs1248 (mh_sj 1 rfl)) (fun s1257 fs1257 => (mh_fA (fun x1267 => (hlo_54_1 s1257 (1 : Int32) fs1257)))))))))))))) (mh_fA (fun x1225 => (hlo_54_1 s1201 (0 : Int32) fs1201)))))))))))))))))))))))))))))))

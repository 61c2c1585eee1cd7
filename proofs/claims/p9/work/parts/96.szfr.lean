def S_so1 : List (Nat × Nat) := [(96, 9999), (96, 9999), (96, 9999), (96, 9999), (96, 9999), (96, 9999), (96, 9999), (96, 9999), (96, 9999), (96, 9999), (96, 9999), (96, 9999), (96, 9999), (96, 9999), (96, 9999), (96, 9999), (96, 9999), (96, 9999), (96, 9999), (96, 9999), (96, 9999), (96, 9999), (96, 9999), (96, 9999), (96, 9999)]
theorem fs_j_eX10_soonest_258_4 (s0 : mh_H) (hp : mh_p3 s0) (lo_112_3 : mh_H → Int32 → Int32 × mh_H) (s18632 : mh_H) (x17877 : Int32) (hlo_112_3 : ∀ (s17878 : mh_H) (x17877 : Int32), mh_Fr S_so1 s0 s17878 → mh_FrP S_so1 s0 (lo_112_3 s17878 x17877)) (fs18632 : mh_Fr S_so1 s0 s18632) : mh_FrP S_so1 s0 (j_eX10_soonest_258_4 lo_112_3 s18632 x17877) := by
  have fs0 : mh_Fr S_so1 s0 s0 := ⟨mh_F_rf, hp⟩
  unfold j_eX10_soonest_258_4
  exact (mh_fA (fun x18635 => (hlo_112_3 s18632 x18635 fs18632)))
theorem fs_j_eX10_soonest_252_7 (s0 : mh_H) (hp : mh_p3 s0) (lo_156_6 : mh_H → Int32 → Int32 × mh_H) (s19358 : mh_H) (x19289 : Int32) (hlo_156_6 : ∀ (s19290 : mh_H) (x19289 : Int32), mh_Fr S_so1 s0 s19290 → mh_FrP S_so1 s0 (lo_156_6 s19290 x19289)) (fs19358 : mh_Fr S_so1 s0 s19358) : mh_FrP S_so1 s0 (j_eX10_soonest_252_7 lo_156_6 s19358 x19289) := by
  have fs0 : mh_Fr S_so1 s0 s0 := ⟨mh_F_rf, hp⟩
  unfold j_eX10_soonest_252_7
  exact (mh_fA (fun x19361 => (hlo_156_6 s19358 x19361 fs19358)))
theorem fs_j_eX10_soonest_221_8 (s0 : mh_H) (hp : mh_p3 s0) (lo_156_6 : mh_H → Int32 → Int32 × mh_H) (s19379 : mh_H) (x14079 : Int32) (x17877 : Int32) (x19289 : Int32) (hlo_156_6 : ∀ (s19290 : mh_H) (x19289 : Int32), mh_Fr S_so1 s0 s19290 → mh_FrP S_so1 s0 (lo_156_6 s19290 x19289)) (fs19379 : mh_Fr S_so1 s0 s19379) : mh_FrP S_so1 s0 (j_eX10_soonest_221_8 lo_156_6 s19379 x14079 x17877 x19289) := by
  have fs0 : mh_Fr S_so1 s0 s0 := ⟨mh_F_rf, hp⟩
  unfold j_eX10_soonest_221_8
  exact (mh_fA (fun x19391 => (mh_fI (mh_fA (fun x19394 => (mh_fA (fun x19396 => (mh_fB (mh_Fr_tv fs19379 (fr_eX10_arrives s19379 x19394 x19396 fs19379.2) (by decide +kernel)) (fun s19400 fs19400 => (fs_j_eX10_soonest_252_7 s0 hp lo_156_6 s19400 x19289 hlo_156_6 fs19400))))))) (fs_j_eX10_soonest_252_7 s0 hp lo_156_6 s19379 x19289 hlo_156_6 fs19379))))
theorem fs_l_eX10_soonest_156_6 (s0 : mh_H) (hp : mh_p3 s0) (lo_112_3 : mh_H → Int32 → Int32 × mh_H) (x14079 : Int32) (x17877 : Int32) (hlo_112_3 : ∀ (s17878 : mh_H) (x17877 : Int32), mh_Fr S_so1 s0 s17878 → mh_FrP S_so1 s0 (lo_112_3 s17878 x17877)) : ∀ (n : Nat) (s19290 : mh_H) (x19289 : Int32), mh_Fr S_so1 s0 s19290 → mh_FrP S_so1 s0 (l_eX10_soonest_156_6 lo_112_3 x14079 x17877 n s19290 x19289) := by
  have fs0 : mh_Fr S_so1 s0 s0 := ⟨mh_F_rf, hp⟩
  intro n
  induction n with
  | zero => intro s19290 x19289 fs19290; exact fs19290
  | succ n ih =>
    intro s19290 x19289 fs19290
    have hlo_156_6 := ih
    rw [l_eX10_soonest_156_6_s]
    unfold ls_eX10_soonest_156_6
    exact (mh_fI (mh_fA (fun x19328 => (mh_fI (fs_j_eX10_soonest_252_7 s0 hp (l_eX10_soonest_156_6 lo_112_3 x14079 x17877 n) s19290 x19289 hlo_156_6 fs19290) (mh_fA (fun x19364 => (mh_fI (fs_j_eX10_soonest_252_7 s0 hp (l_eX10_soonest_156_6 lo_112_3 x14079 x17877 n) s19290 x19289 hlo_156_6 fs19290) (mh_fA (fun x19368 => (mh_fI (mh_fA (fun x19403 => (mh_fA (fun x19405 => (mh_fB (mh_Fr_tv fs19290 (fr_eX10_arrives s19290 x19403 x19405 fs19290.2) (by decide +kernel)) (fun s19409 fs19409 => (fs_j_eX10_soonest_221_8 s0 hp (l_eX10_soonest_156_6 lo_112_3 x14079 x17877 n) s19409 x14079 x17877 x19289 hlo_156_6 fs19409))))))) (fs_j_eX10_soonest_221_8 s0 hp (l_eX10_soonest_156_6 lo_112_3 x14079 x17877 n) s19290 x14079 x17877 x19289 hlo_156_6 fs19290)))))))))) (fs_j_eX10_soonest_258_4 s0 hp lo_112_3 s19290 x17877 hlo_112_3 fs19290))
theorem fs_j_eX10_soonest_153_5 (s0 : mh_H) (hp : mh_p3 s0) (lo_112_3 : mh_H → Int32 → Int32 × mh_H) (s18644 : mh_H) (x14079 : Int32) (x17877 : Int32) (hlo_112_3 : ∀ (s17878 : mh_H) (x17877 : Int32), mh_Fr S_so1 s0 s17878 → mh_FrP S_so1 s0 (lo_112_3 s17878 x17877)) (fs18644 : mh_Fr S_so1 s0 s18644) : mh_FrP S_so1 s0 (j_eX10_soonest_153_5 lo_112_3 s18644 x14079 x17877) := by
  have fs0 : mh_Fr S_so1 s0 s0 := ⟨mh_F_rf, hp⟩
  unfold j_eX10_soonest_153_5
  exact (fs_l_eX10_soonest_156_6 s0 hp lo_112_3 x14079 x17877 hlo_112_3 21 s18644 (0 : Int32) fs18644)
theorem fs_l_eX10_soonest_112_3 (s0 : mh_H) (hp : mh_p3 s0) (lo_83_2 : mh_H → Int32 → Int32 × mh_H) (p4 : Int32) (x14079 : Int32) (x16360 : Int32) (hlo_83_2 : ∀ (s14080 : mh_H) (x14079 : Int32), mh_Fr S_so1 s0 s14080 → mh_FrP S_so1 s0 (lo_83_2 s14080 x14079)) : ∀ (n : Nat) (s17878 : mh_H) (x17877 : Int32), mh_Fr S_so1 s0 s17878 → mh_FrP S_so1 s0 (l_eX10_soonest_112_3 lo_83_2 p4 x14079 x16360 n s17878 x17877) := by
  have fs0 : mh_Fr S_so1 s0 s0 := ⟨mh_F_rf, hp⟩
  intro n
  induction n with
  | zero => intro s17878 x17877 fs17878; exact fs17878
  | succ n ih =>
    intro s17878 x17877 fs17878
    have hlo_112_3 := ih
    rw [l_eX10_soonest_112_3_s]
    unfold ls_eX10_soonest_112_3
    exact (mh_fI (mh_fA (fun x18262 => (mh_fA (fun x18264 => (mh_fI (fs_j_eX10_soonest_258_4 s0 hp (l_eX10_soonest_112_3 lo_83_2 p4 x14079 x16360 n) s17878 x17877 hlo_112_3 fs17878) (mh_fI (mh_fA (fun x19412 => (mh_fB (mh_Fr_tv fs17878 (fr_eX10_arrives s17878 x17877 x19412 fs17878.2) (by decide +kernel)) (fun s19415 fs19415 => (fs_j_eX10_soonest_153_5 s0 hp (l_eX10_soonest_112_3 lo_83_2 p4 x14079 x16360 n) s19415 x14079 x17877 hlo_112_3 fs19415))))) (fs_j_eX10_soonest_153_5 s0 hp (l_eX10_soonest_112_3 lo_83_2 p4 x14079 x16360 n) s17878 x14079 x17877 hlo_112_3 fs17878))))))) (mh_fA (fun x18258 => (hlo_83_2 s17878 x18258 fs17878))))
theorem fs_l_eX10_soonest_83_2 (s0 : mh_H) (hp : mh_p3 s0) (p2 : Int32) (p4 : Int32) : ∀ (n : Nat) (s14080 : mh_H) (x14079 : Int32), mh_Fr S_so1 s0 s14080 → mh_FrP S_so1 s0 (l_eX10_soonest_83_2 p2 p4 n s14080 x14079) := by
  have fs0 : mh_Fr S_so1 s0 s0 := ⟨mh_F_rf, hp⟩
  intro n
  induction n with
  | zero => intro s14080 x14079 fs14080; exact fs14080
  | succ n ih =>
    intro s14080 x14079 fs14080
    have hlo_83_2 := ih
    rw [l_eX10_soonest_83_2_s]
    unfold ls_eX10_soonest_83_2
    exact (mh_fI fs14080 (mh_fA (fun x16360 => (mh_fA (fun x16362 => (mh_fA (fun x16364 => (mh_fI (fs_l_eX10_soonest_112_3 s0 hp (l_eX10_soonest_83_2 p2 p4 n) p4 x14079 x16360 hlo_83_2 11 s14080 (0 : Int32) fs14080) fs14080))))))))
theorem fs_l_eX10_soonest_46_1 (s0 : mh_H) (hp : mh_p3 s0) (p1 : Int32) (p2 : Int32) (p3 : Int32) (p4 : Int32) : ∀ (n : Nat) (s9510 : mh_H) (x9509 : Int32), mh_Fr S_so1 s0 s9510 → mh_FrP S_so1 s0 (l_eX10_soonest_46_1 p1 p2 p3 p4 n s9510 x9509) := by
  have fs0 : mh_Fr S_so1 s0 s0 := ⟨mh_F_rf, hp⟩
  intro n
  induction n with
  | zero => intro s9510 x9509 fs9510; exact fs9510
  | succ n ih =>
    intro s9510 x9509 fs9510
    have hlo_46_1 := ih
    rw [l_eX10_soonest_46_1_s]
    unfold ls_eX10_soonest_46_1
    exact (mh_fI (mh_fB (mh_Fr_pI fs9510 (mh_si 24 rfl)) (fun s19417 fs19417 => (mh_fA (fun x19419 => (hlo_46_1 s19417 x19419 fs19417))))) (mh_fA (fun x9519 => (mh_fA (fun x9521 => (mh_fB (mh_Fr_pI fs9510 (mh_si 24 rfl)) (fun s9523 fs9523 => (fs_l_eX10_soonest_83_2 s0 hp p2 p4 302 s9523 p3 fs9523))))))))

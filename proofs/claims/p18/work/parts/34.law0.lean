/-! THE CLAIM OUT OF ONE WALK OF THE LAW'S BODY. Your part is whole_start (and what it stands on); all else here is the same for every law, but numbers. -/
def R_law : String := "MistHandsLaw"
def lw_P (b : Addr) (xs : List Int32) (args : Array Value) (s : State) : Prop := args = #[.ref b] ∧ s.IntsAt b xs ∧ xs.length ≤ 3072 ∧ (Jvm.Cond.and given_1 narrow_1).before args s = true
def lw_Q (_ : Array Value) (s : State) (o : Outcome) (t : State) : Prop := o = .returned (some (.int 1)) ∧ Framed s o t [] 600000 7302250
def lw_Z (below : List Frame) (a : Array Value) (s : State) : State → Prop := fun t => ∃ o, t.status = .running ∧ Ended t below o ∧ lw_Q a s o t
/-- the law's own end, with 1 on the stack, nothing written that was there before, its room as the claim has it -/
theorem lw_ret {p : Program} {l : Launch} {e : Env} {s : State} {m : MethodId} {below : List Frame} {meth : Method} {c : Code} {b : Nat} (hx : p.tables.exec = Jvm.exec) (hb : c.code = code) (hr : meth.sig.returnType = ret) (hlocks : meth.locks = false) {pc : Nat} {H : Heap} {ls : Array Slot} (hdg : decode code pc = .ok (.ireturn, 1)) : W p l e room_1 s m #[Value.ref b] below meth c H [] 600000 7302250 (lw_Z below #[Value.ref b] s) (F0 m pc ls [.int 1]) := by
  intro T hT X
  obtain ⟨fs, hret, hrun, hended, hW, hframe⟩ := X.leave (v := some (.int 1)) (hlocks := hlocks) (fun h => by rw [hr] at h; cases h)
  have hmeth' : T.vm.method? m = some meth := X.method'
  refine ⟨T.setFrames fs, ?_, .returned (some (.int 1)), hrun, hended, rfl, ⟨_, rfl⟩, hW, hframe⟩
  jvm_step X.here [X.here.top, hx, hb, hdg, hmeth', hr, ret, narrow_b1]
  (try refine ⟨rfl, ?_⟩); (try refine ⟨rfl, ?_⟩)
  first | (intro acts; rw [hret _ acts rfl rfl rfl]) | rw [hret _ _ rfl rfl rfl]
  exact Steps.refl _
/-- what holds at the law's entry: the machine, the code, the tables' words (any of lw_tbl by 'hts w (by decide +kernel)'), the script of L ints xs at the cell b, what the Statement gives of the start (any of its parts by flat_of_before) -/
def lw_At (p : Program) (s : State) (m : MethodId) (meth : Method) (c : Code) (b L : Nat) (xs : Nat → Int32) : Prop :=
  p.tables.exec = Jvm.exec ∧ c.code = code ∧ meth.sig.returnType = ret ∧ c.maxLocals = 4 ∧ s.vm.findClass R_law = some m.cls ∧ (∀ w ∈ lw_tbl, w.before #[Value.ref b] s = true) ∧ va_X b L xs s s.heap ∧ b < s.heap.size ∧ meth.locks = false ∧ (Jvm.Cond.and given_1 narrow_1).before #[Value.ref b] s = true
theorem lx_base {args : Array Value} {s : State} (hts : ∀ w ∈ lw_tbl, w.before args s = true) : ∀ w ∈ mh_base, w.before args s = true := fun w hw => hts w (List.mem_filter.mp hw).1
theorem lx_arr {args : Array Value} {s : State} {ty : FieldType} (h : (Cond.arrayClass ty).before args s = true) : ∃ cA : ClassId, ArrOfT s cA ty ∧ s.vm.findClass ("[" ++ ty.toString) = some cA := by
  obtain ⟨cA, k, comp, h1, h2, h3⟩ := Cond.arrayClass_spec h
  exact ⟨cA, fun N z => ⟨(fun k h => by cases h), k, h2, comp, h3⟩, h1⟩
theorem lx_i0 : Cond.instantiable "MistHands$Flow" 2 ∈ mh_base := mh_b (List.mem_append_right _ (List.mem_of_getElem? (i := 78) (by decide +kernel))) (by decide +kernel)
theorem lx_i1 : Cond.instantiable "MistHands$Law" 11 ∈ mh_base := mh_b (List.mem_append_right _ (List.mem_of_getElem? (i := 197) (by decide +kernel))) (by decide +kernel)
theorem lx_i2 : Cond.instantiable "MistHands$Lid" 1 ∈ mh_base := mh_b (List.mem_append_right _ (List.mem_of_getElem? (i := 171) (by decide +kernel))) (by decide +kernel)
theorem lx_i3 : Cond.instantiable "MistHands$Nights" 6 ∈ mh_base := mh_b (List.mem_append_right _ (List.mem_of_getElem? (i := 140) (by decide +kernel))) (by decide +kernel)
theorem lx_i4 : Cond.instantiable "MistHands$Reader" 5 ∈ mh_base := mh_b (List.mem_append_right _ (List.mem_of_getElem? (i := 254) (by decide +kernel))) (by decide +kernel)
theorem lx_i5 : Cond.instantiable "MistHands$Roads" 6 ∈ mh_base := mh_b (List.mem_append_right _ (List.mem_of_getElem? (i := 110) (by decide +kernel))) (by decide +kernel)
theorem lx_i6 : Cond.instantiable "MistHands$Sight" 3 ∈ mh_base := mh_b (List.mem_append_right _ (List.mem_of_getElem? (i := 91) (by decide +kernel))) (by decide +kernel)
theorem lx_i7 : Cond.instantiable "MistHands$Tape" 2 ∈ mh_base := mh_b (List.mem_append_right _ (List.mem_of_getElem? (i := 182) (by decide +kernel))) (by decide +kernel)
theorem lx_i8 : Cond.instantiable "MistHands$Valley" 8 ∈ mh_base := mh_b (List.mem_append_right _ (List.mem_of_getElem? (i := 29) (by decide +kernel))) (by decide +kernel)
theorem lx_i9 : Cond.instantiable "MistHands" 14 ∈ mh_base := mh_b (List.mem_append_right _ (List.mem_of_getElem? (i := 21) (by decide +kernel))) (by decide +kernel)
theorem lx_i10 : Cond.instantiable "MistHandsModel" 67 ∈ mh_base := mh_b (List.mem_append_right _ (List.mem_of_getElem? (i := 821) (by decide +kernel))) (by decide +kernel)
theorem lx_K {args : Array Value} {s : State} (hb : ∀ w ∈ mh_base, w.before args s = true) : ∃ (D : Nat → ClassId) (I : Nat → Nat → Nat) (R : Nat → ClassId), va_K (D, I) vwCl [(R 0, .int), (R 1, .long), (R 2, .byte), (R 3, .boolean)] s := by
  obtain ⟨c0, j0, k0⟩ := u_known (ws := mh_base) hb cF_0.2.1 (hb _ lx_i0)
  obtain ⟨c1, j1, k1⟩ := u_known (ws := mh_base) hb cF_1.2.1 (hb _ lx_i1)
  obtain ⟨c2, j2, k2⟩ := u_known (ws := mh_base) hb cF_2.2.1 (hb _ lx_i2)
  obtain ⟨c3, j3, k3⟩ := u_known (ws := mh_base) hb cF_3.2.1 (hb _ lx_i3)
  obtain ⟨c4, j4, k4⟩ := u_known (ws := mh_base) hb cF_4.2.1 (hb _ lx_i4)
  obtain ⟨c5, j5, k5⟩ := u_known (ws := mh_base) hb cF_5.2.1 (hb _ lx_i5)
  obtain ⟨c6, j6, k6⟩ := u_known (ws := mh_base) hb cF_6.2.1 (hb _ lx_i6)
  obtain ⟨c7, j7, k7⟩ := u_known (ws := mh_base) hb cF_7.2.1 (hb _ lx_i7)
  obtain ⟨c8, j8, k8⟩ := u_known (ws := mh_base) hb cF_8.2.1 (hb _ lx_i8)
  obtain ⟨c9, j9, k9⟩ := u_known (ws := mh_base) hb cF_9.2.1 (hb _ lx_i9)
  obtain ⟨c10, j10, k10⟩ := u_known (ws := mh_base) hb cF_10.2.1 (hb _ lx_i10)
  obtain ⟨r0, y0, z0⟩ := lx_arr (hb _ ac_0)
  obtain ⟨r1, y1, z1⟩ := lx_arr (hb _ ac_1)
  obtain ⟨r2, y2, z2⟩ := lx_arr (hb _ ac_2)
  obtain ⟨r3, y3, z3⟩ := lx_arr (hb _ ac_3)
  refine ⟨fun c => [c0, c1, c2, c3, c4, c5, c6, c7, c8, c9, c10].getD c c0, fun c => [j0, j1, j2, j3, j4, j5, j6, j7, j8, j9, j10].getD c j0, fun t => [r0, r1, r2, r3].getD t r0, fun c q h => ?_, fun k q h => ?_⟩
  · match c, h with
    | 0, h => obtain rfl := Option.some.inj (cF_0.1.symm.trans h); exact k0
    | 1, h => obtain rfl := Option.some.inj (cF_1.1.symm.trans h); exact k1
    | 2, h => obtain rfl := Option.some.inj (cF_2.1.symm.trans h); exact k2
    | 3, h => obtain rfl := Option.some.inj (cF_3.1.symm.trans h); exact k3
    | 4, h => obtain rfl := Option.some.inj (cF_4.1.symm.trans h); exact k4
    | 5, h => obtain rfl := Option.some.inj (cF_5.1.symm.trans h); exact k5
    | 6, h => obtain rfl := Option.some.inj (cF_6.1.symm.trans h); exact k6
    | 7, h => obtain rfl := Option.some.inj (cF_7.1.symm.trans h); exact k7
    | 8, h => obtain rfl := Option.some.inj (cF_8.1.symm.trans h); exact k8
    | 9, h => obtain rfl := Option.some.inj (cF_9.1.symm.trans h); exact k9
    | 10, h => obtain rfl := Option.some.inj (cF_10.1.symm.trans h); exact k10
    | c + 11, h => exact nomatch (show (none : Option vw_C) = some q from h)
  · match k, h with
    | 0, h => obtain rfl := Option.some.inj h; exact ⟨y0, z0⟩
    | 1, h => obtain rfl := Option.some.inj h; exact ⟨y1, z1⟩
    | 2, h => obtain rfl := Option.some.inj h; exact ⟨y2, z2⟩
    | 3, h => obtain rfl := Option.some.inj h; exact ⟨y3, z3⟩
    | k + 4, h => exact nomatch (show (none : Option (ClassId × FieldType)) = some q from h)
theorem lx_N : mh_nst.all (fun w => w.onTables) = true := by decide +kernel
theorem lx_nst {args : Array Value} {s : State} (hts : ∀ w ∈ lw_tbl, w.before args s = true) : ∀ w ∈ mh_nst, va_Nw w s := fun w hw => va_Nw.of (List.all_eq_true.mp lx_N w hw) (hts w (List.mem_filter.mp hw).1)
def lx_tm (i : Nat) : Term := if i = 0 then .string "MistHands$Law" 27 else .string "MistHands$Reader" 58
def lx_fl : List Cond := flatC (Jvm.Cond.and given_1 narrow_1)
theorem lx_m1 : ∀ i, i < 2 → Cond.exactly (lx_tm i) "java/lang/String" ∈ lx_fl ∧ Cond.eq (.field (lx_tm i) "java/lang/String" "coder" "B") (.int 0) ∈ lx_fl ∧ Cond.arrayOf (.field (lx_tm i) "java/lang/String" "value" "[B") .byte ∈ lx_fl ∧ Cond.eq (.length (.field (lx_tm i) "java/lang/String" "value" "[B")) (.int (Int32.ofNat (mh_sl.getD i 0))) ∈ lx_fl := by decide +kernel
theorem lx_m2 : ∀ i, i < 2 → ∀ j, j < mh_sl.getD i 0 → Cond.eq (.elem (.field (lx_tm i) "java/lang/String" "value" "[B") (.int (Int32.ofNat j))) (.int ((mh_sb.getD i []).getD j 0)) ∈ lx_fl := by decide +kernel
theorem lx_m3 : Cond.not (Cond.eq (lx_tm 0) (lx_tm 1)) ∈ lx_fl := by decide +kernel
theorem lx_m4 : Cond.eq (.string "MistHands$Law" 27) (.string "MistHands$Reader" 110) ∈ lx_fl := by decide +kernel
theorem lx_m5 : Cond.eq (.static "java/lang/String" "COMPACT_STRINGS" "Z") (.int 1) ∈ lx_fl := by decide +kernel
theorem lx_m6 : Cond.laysStatic "java/lang/String" "COMPACT_STRINGS" "Z" ∈ lw_tbl ∧ Cond.initialized "java/lang/String" ∈ lw_tbl ∧ Cond.stringRef "MistHands$Law" 27 "hktvcwxyndijl" ∈ lw_tbl ∧ Cond.stringRef "MistHands$Reader" 58 "cwsmyf" ∈ lw_tbl ∧ Cond.stringRef "MistHands$Reader" 110 "hktvcwxyndijl" ∈ lw_tbl := by decide +kernel
theorem lx_eqr {args : Array Value} {s : State} {a b : Term} {x : Nat} (h : (Cond.eq a b).before args s = true) (ha : a.eval args s none [] s = some (.ref x)) : b.eval args s none [] s = some (.ref x) := by
  simp only [Cond.before, Cond.holds, Cond.value, ha] at h
  cases hb : b.eval args s none [] s with
  | none => simp [hb] at h
  | some y => cases y <;> simp [hb] at h ⊢ <;> exact h.symm
/-- THE ENTRY: what the tables and the premises give -/
theorem lx_entry {p : Program} {s : State} {m : MethodId} {meth : Method} {c : Code} {b L : Nat} {xs : Nat → Int32} (C0 : lw_At p s m meth c b L xs) : ∃ G : mh_G, mn_Am G s ∧ mh_Sg G (fun q => s.heap.size ≤ q) s s.heap := by
  obtain ⟨-, -, -, -, -, hts, -, -, -, hgv⟩ := C0
  have hb := lx_base hts
  have hfl : ∀ w ∈ lx_fl, w.before #[Value.ref b] s = true := flat_of_before _ hgv
  have hA : ∀ a : Nat, a < s.heap.size → ¬ (s.heap.size ≤ a) := fun a h g => Nat.lt_irrefl _ (Nat.lt_of_lt_of_le h g)
  obtain ⟨D, I, R, hK⟩ := lx_K hb
  obtain ⟨aK, aV, hS, hev⟩ := vk_Sof (N := 2) (tm := lx_tm) (len := mh_sl) (byt := mh_sb) (A := fun q => s.heap.size ≤ q) (args := #[Value.ref b]) (s := s) (by decide) (fun i hi => hfl _ (lx_m1 i hi).1) (fun i hi => hfl _ (lx_m1 i hi).2.1) (fun i hi => hfl _ (lx_m1 i hi).2.2.1) (fun i hi => hfl _ (lx_m1 i hi).2.2.2) (fun i hi j hj => hfl _ (lx_m2 i hi j hj))
    (fun i j hi hj hij => by
      rcases (show (i = 0 ∧ j = 1) ∨ (i = 1 ∧ j = 0) by omega) with ⟨rfl, rfl⟩ | ⟨rfl, rfl⟩
      · exact Or.inl (hfl _ lx_m3)
      · exact Or.inr (hfl _ lx_m3)) hA
  have e0 : (Term.string "MistHands$Law" 27).eval #[Value.ref b] s none [] s = some (.ref (aK 0)) := hev 0 (by decide)
  have e1 : (Term.string "MistHands$Reader" 58).eval #[Value.ref b] s none [] s = some (.ref (aK 1)) := hev 1 (by decide)
  have e2 := lx_eqr (hfl _ lx_m4) e0
  refine ⟨(D, I, R, fun k => if k < 1010 then aK (k - 1000) else aV (k - 1010)), ⟨hK, lx_nst hts⟩, ?_, va_Zof (hts _ lx_m6.1) (hts _ lx_m6.2.1) (va_eqi (hfl _ lx_m5)) hA, vk_R.of (hts _ lx_m6.2.2.2.1) e1, vk_R.of (hts _ lx_m6.2.2.2.2) e2, vk_R.of (hts _ lx_m6.2.2.1) e0⟩
  refine ⟨fun i hi => ?_, fun i j hi hj h => ?_⟩
  · rcases (show i = 0 ∨ i = 1 by omega) with rfl | rfl
    · exact hS.1 0 (by decide)
    · exact hS.1 1 (by decide)
  · rcases (show i = 0 ∨ i = 1 by omega) with rfl | rfl <;> rcases (show j = 0 ∨ j = 1 by omega) with rfl | rfl
    · rfl
    · exact hS.2 0 1 (by decide) (by decide) h
    · exact hS.2 1 0 (by decide) (by decide) h
    · rfl

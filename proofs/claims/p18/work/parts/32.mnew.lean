/-- what stands of the tables while objects are made -/
def mn_Am (G : mh_G) (U : State) : Prop := va_K (G.1, G.2.1) vwCl (mh_ty G) U ∧ (∀ w ∈ mh_nst, va_Nw w U)
theorem mn_Am.warm {G : mh_G} {s U : State} (h : mn_Am G s) (hW : s.WarmedH U.vm) : mn_Am G U := ⟨va_K.moved hW.alike h.1, fun w hw => mh_Nw (List.mem_filter.mp hw).2 hW (h.2 w hw)⟩
theorem mn_Am.call {G : mh_G} {U : State} (h : mn_Am G U) (g : JFrame) (mk : MethodId) (a : Array Value) : mn_Am G (U.calling g mk a) :=
  ⟨va_K.moved (u := U) (U := U.calling g mk a) (Vm.Alike.refl U.vm) h.1, fun w hw => va_Nw.same (u := U) (U := U.calling g mk a) (mh_Nt (List.mem_filter.mp hw).2) rfl (h.2 w hw)⟩
abbrev mn_X : Type := Launch × Room × (Nat → Prop) × (State → Array Value → List Frame → State → Prop)
def mn_Ok (G : mh_G) (X : mn_X) (μ : mh_Mt) (p : Program) (s : State) (m : MethodId) (args : Array Value) (meth : Method) (c : Code) : Prop :=
  p.tables.exec = Jvm.exec ∧ c.code = μ.2.1 ∧ c.maxLocals = μ.2.2.1 ∧ s.vm.findClass μ.1.cls = some m.cls ∧ (∀ w ∈ mh_base, w.before args s = true) ∧ mn_Am G s ∧ meth.sig.returnType = μ.2.2.2 ∧ meth.locks = false ∧ (∀ q, s.heap.size ≤ q → X.2.2.1 q) ∧ mh_Sg G X.2.2.1 s s.heap ∧ meth.name = μ.1.name
/-- the walk while objects are made: the world is a list of cells -/
def mn_W (G : mh_G) (X : mn_X) (μ : mh_Mt) (cells slots pc : Nat) (lv : List (Nat × Value)) (st : List Value) (ws : va_W) : Prop :=
  ∀ (p : Program) (e : Env) (s : State) (m : MethodId) (args : Array Value) (below : List Frame) (meth : Method) (c : Code), mn_Ok G X μ p s m args meth c →
    ∀ (H : Heap) (locs : List Loc) (ls : Array Slot), lv_has ls μ.2.2.1 lv → va_P (G.1, G.2.1) vwCl ws H → va_D X.2.2.1 ws → va_S X.2.2.1 s.heap H locs →
      W p X.1 e X.2.1 s m args below meth c H locs cells slots (X.2.2.2 s args below) (F0 m pc ls st)
def mn_Pc (G : mh_G) (av : List Value) (ws : va_W) (sz : Nat) : Array Value → State → Prop := va_Pc av (fun U => U.heap.size = sz ∧ va_P (G.1, G.2.1) vwCl ws U.heap ∧ mn_Am G U ∧ va_D (fun _ => True) ws ∧ mh_Sg G (va_A ws sz) U U.heap)
def mn_Q (G : mh_G) (F : va_W → Prop) (A : Nat → Prop) : Array Value → State → Outcome → State → Prop := va_Qv F (fun w t => va_P (G.1, G.2.1) vwCl w t.heap ∧ va_D A w) A
/-- A CONSTRUCTOR'S CONTRACT -/
def mn_M (l : Launch) (G : mh_G) (fr mc ms : Nat) (μ : mh_Mt) (av : List Value) (ws : va_W) (F : va_W → Prop) : Prop :=
  ∀ sz : Nat, Met l μ.1 (.code μ.1 μ.2.1 μ.2.2.1 μ.2.2.2 :: mh_base) { frames := fr, cells := mc, slots := ms, locals := 40 * fr } (mn_Pc G av ws sz) (mn_Q G F (va_A ws sz)) mc ms (va_A ws sz)
abbrev mn_XM (l : Launch) (G : mh_G) (fr mc ms : Nat) (ws : va_W) (sz : Nat) (F : va_W → Prop) : mn_X := (l, { frames := fr, cells := mc, slots := ms, locals := 40 * fr }, va_A ws sz, fun s args below => MQ below (mn_Q G F (va_A ws sz)) args s mc ms (va_A ws sz))
theorem mn_enterQ {l : Launch} {G : mh_G} {fr mc ms : Nat} {μ : mh_Mt} {av : List Value} {ws : va_W} {sz : Nat} {Qc : Array Value → State → Outcome → State → Prop} (hy : plainName μ.1.cls = true) {lv : List (Nat × Value)} (hlv : lv_args 0 av = lv) (hn : (lg_sl av).length ≤ μ.2.2.1)
    (h : mn_W G (l, { frames := fr, cells := mc, slots := ms, locals := 40 * fr }, va_A ws sz, fun s args below => MQ below Qc args s mc ms (va_A ws sz)) μ 0 0 0 lv [] ws) : Met l μ.1 (.code μ.1 μ.2.1 μ.2.2.1 μ.2.2.2 :: mh_base) { frames := fr, cells := mc, slots := ms, locals := 40 * fr } (mn_Pc G av ws sz) Qc mc ms (va_A ws sz) := by
  refine Met.ofW (cc := μ.2.1) (maxL := μ.2.2.1) (ret := μ.2.2.2) hy rfl ?_
  intro p e s m args below meth c s₁ B hml hv
  obtain ⟨rfl, hsz, hP, hAm, hD0, hSg⟩ := hv
  have hts := atoms_spec (ws := .code μ.1 μ.2.1 μ.2.2.1 μ.2.2.2 :: mh_base) B.pre
  have hl := lv_entry av (n := μ.2.2.1) hn
  rw [hlv] at hl
  rw [lg_entry_eq]
  exact h p e s m av.toArray below meth c ⟨B.exec, B.bytes, hml, findClass_of_methodNamed B.named, fun w hw => hts w (List.mem_cons_of_mem _ hw), hAm, B.returns, B.notSynchronized, fun q hq => Or.inr (by rw [← hsz]; exact hq), hSg, (name_of_methodNamed B.named B.method).1⟩ s.heap [] _ hl hP hD0.self va_S.rf
theorem mn_enter {l : Launch} {G : mh_G} {fr mc ms : Nat} {μ : mh_Mt} {av : List Value} {ws : va_W} {F : va_W → Prop} (hy : plainName μ.1.cls = true) {lv : List (Nat × Value)} (hlv : lv_args 0 av = lv) (hn : (lg_sl av).length ≤ μ.2.2.1)
    (h : ∀ sz : Nat, mn_W G (mn_XM l G fr mc ms ws sz F) μ 0 0 0 lv [] ws) : mn_M l G fr mc ms μ av ws F := fun sz => mn_enterQ hy hlv hn (h sz)
section MN
variable {G : mh_G} {X : mn_X} {μ : mh_Mt} {cells slots pc : Nat} {lv : List (Nat × Value)} {st : List Value} {ws : va_W}
theorem mn_aload_n (q : Nat) (hq : pc + 1 = q) {k : Fin 4} {i : Nat} {x : Nat} (j : Nat) (hd : decode μ.2.1 pc = .ok (.aload_n k, 1)) (hi : (k : Nat) = i) (hj : lv[j]? = some (i, .ref x)) (kk : mn_W G X μ cells slots q lv (.ref x :: st) ws) : mn_W G X μ cells slots pc lv st ws := by
  subst hq
  intro p e s m args below meth c ok H locs ls hl hP hD hS
  exact lv_aload_n ok.1 ok.2.1 hd hi (lv_at hl j hj) (kk p e s m args below meth c ok H locs ls hl hP hD hS)
theorem mn_iconst (q : Nat) (hq : pc + 1 = q) {n : Int} {v : Int32} (hd : decode μ.2.1 pc = .ok (.iconst n, 1)) (hv : Int32.ofInt n = v) (kk : mn_W G X μ cells slots q lv (.int v :: st) ws) : mn_W G X μ cells slots pc lv st ws := by
  subst hq
  intro p e s m args below meth c ok H locs ls hl hP hD hS
  exact lv_iconst ok.1 ok.2.1 hd hv (kk p e s m args below meth c ok H locs ls hl hP hD hS)
theorem mn_bipush (q : Nat) (hq : pc + 2 = q) {n : Int} {v : Int32} (hd : decode μ.2.1 pc = .ok (.bipush n, 2)) (hv : (Int8.ofInt n).toInt32 = v) (kk : mn_W G X μ cells slots q lv (.int v :: st) ws) : mn_W G X μ cells slots pc lv st ws := by
  subst hq
  intro p e s m args below meth c ok H locs ls hl hP hD hS
  exact lv_bipush ok.1 ok.2.1 hd hv (kk p e s m args below meth c ok H locs ls hl hP hD hS)
theorem mn_sipush (q : Nat) (hq : pc + 3 = q) {n : Int} {v : Int32} (hd : decode μ.2.1 pc = .ok (.sipush n, 3)) (hv : (Int16.ofInt n).toInt32 = v) (kk : mn_W G X μ cells slots q lv (.int v :: st) ws) : mn_W G X μ cells slots pc lv st ws := by
  subst hq
  intro p e s m args below meth c ok H locs ls hl hP hD hS
  exact lv_sipush ok.1 ok.2.1 hd hv (kk p e s m args below meth c ok H locs ls hl hP hD hS)
theorem mn_dup (q : Nat) (hq : pc + 1 = q) {v : Value} (hd : decode μ.2.1 pc = .ok (.dup, 1)) (hv : v.category = 1) (kk : mn_W G X μ cells slots q lv (v :: v :: st) ws) : mn_W G X μ cells slots pc lv (v :: st) ws := by
  subst hq
  intro p e s m args below meth c ok H locs ls hl hP hD hS
  exact lv_dup ok.1 ok.2.1 hd hv (kk p e s m args below meth c ok H locs ls hl hP hD hS)
theorem mn_obj {ix a : Nat} (q : Nat) (hq : pc + 3 = q) (hd : decode μ.2.1 pc = .ok (.invokespecial ix, 3)) (hk : Cond.methodLink μ.1.cls ix Lib.objectInit ∈ mh_base) (h1 : Cond.instanceMethod Lib.objectInit ∈ mh_base) (h2 : Cond.code Lib.objectInit ⟨#[0xb1]⟩ 1 none ∈ mh_base) (hR : 1 ≤ X.2.1.frames ∧ (st.map fun v => v.category).sum + 12 ≤ X.2.1.locals) (kk : mn_W G X μ cells slots q lv st ws) : mn_W G X μ cells slots pc lv (.ref a :: st) ws := by
  subst hq
  intro p e s m args below meth c ok H locs ls hl hP hD hS
  refine W.objInit ok.1 ok.2.1 ok.2.2.2.1 (ok.2.2.2.2.1 _ hk) (ok.2.2.2.2.1 _ h1) (ok.2.2.2.2.1 _ h2) rfl (by rw [ok.2.2.1]; exact hl.1) rfl hd hR.1 (by have := hR.2; show 2 * 0 + _ + 12 ≤ _; omega) ?_
  exact kk p e s m args below meth c ok H locs ls hl hP hD hS
theorem mn_new {ix ci N : Nat} {C : String} {T : u_T} {fs : List Value} (ty : Nat → FieldType) (q : Nat) (hq : pc + 3 = q) (hd : decode μ.2.1 pc = .ok (.new ix, 3)) (hc : mh_cF ci C T N) (hty : ∀ k, k < N → parseFieldDescriptor (T k).2.2.1 = some (ty k)) (h1 : Cond.classLink μ.1.cls ix C ∈ mh_base) (h2 : Cond.instantiable C N ∈ mh_base) (h3 : Cond.initialized C ∈ mh_base) (hfs : ∀ j, j < N → defaultValue (ty j) = vp_V fs j) (hR : cells + 1 ≤ X.2.1.cells ∧ slots + N ≤ X.2.1.slots)
    (kk : ∀ a : Nat, mn_W G X μ (cells + 1) (slots + N) q lv (.ref a :: st) (ws ++ [(a, .inr (ci, fs))])) : mn_W G X μ cells slots pc lv st ws := by
  subst hq
  intro p e s m args below meth c ok H locs ls hl hP hD hS
  exact va_new ok.1 ok.2.1 ok.2.2.2.2.1 hc.2.1 ty hty ok.2.2.2.1 (ok.2.2.2.2.1 _ h1) (ok.2.2.2.2.1 _ h2) (ok.2.2.2.2.1 _ h3) ok.2.2.2.2.2.1.1 hP hD hS ok.2.2.2.2.2.2.2.2.1 hc.1 hfs hR.1 hR.2 hd (fun a H1 hP1 hD1 hS1 => kk a p e s m args below meth c ok H1 locs ls hl hP1 hD1 hS1)
theorem mn_newa {N t : Nat} {n : Int32} {atype : ArrayType} {ty : FieldType} {a0 : vp_A} (q : Nat) (hq : pc + 2 = q) (hd : decode μ.2.1 pc = .ok (.newarray atype, 2)) (hty : newarray.typeOf atype = ty) (ht : (mh_ty G)[t]? = some (G.2.2.1 t, ty)) (hw : Cond.arrayClass ty ∈ mh_base) (hra : ∀ (U : State) (c1 c2 : ClassId), va_RA U c1 ty → va_RA U c2 ty → c1 = c2) (ha : ∀ cA : ClassId, vp_cell cA a0 = arrV cA N (fun _ => defaultValue ty)) (hn : ¬ n < 0) (hN : n.toNatClampNeg = N) (hby : N * componentBytes ty ≤ 536870912) (hR : cells + 1 ≤ X.2.1.cells ∧ slots + N ≤ X.2.1.slots)
    (kk : ∀ a : Nat, mn_W G X μ (cells + 1) (slots + N) q lv (.ref a :: st) (ws ++ [(a, .inl (G.2.2.1 t, a0))])) : mn_W G X μ cells slots pc lv (.int n :: st) ws := by
  subst hq
  intro p e s m args below meth c ok H locs ls hl hP hD hS
  refine va_newa ok.1 ok.2.1 (by rw [hty]; exact ok.2.2.2.2.1 _ hw) hty ok.2.2.2.2.2.1.1 hP hD hS ok.2.2.2.2.2.2.2.2.1 ha hn hN hby hR.1 hR.2 hd (fun a cA H1 hK1 hP1 hD1 hS1 => ?_)
  have e1 := (hK1.2 4 (cA, ty) rfl).2
  have e2 := (ok.2.2.2.2.2.1.1.2 t _ ht).2
  have e3 := hra s cA (G.2.2.1 t) e1 e2
  subst e3
  exact kk a p e s m args below meth c ok H1 locs ls hl hP1 hD1 hS1
theorem mn_put {ix ci N j a : Nat} {C : String} {T : u_T} {fs : List Value} {ty : FieldType} {v : Value} (k : Nat) (ws' : va_W) (q : Nat) (hq : pc + 3 = q) (hd : decode μ.2.1 pc = .ok (.putfield ix, 3)) (hc : mh_cF ci C T N) (he : ws[k]? = some (a, .inr (ci, fs))) (hj : j < N) (hlk : Cond.fieldLink μ.1.cls ix (T j).1 (T j).2.1 (T j).2.2.1 ∈ mh_base) (hfin : (T j).2.2.2 = false ∨ ((T j).2.2.2 = true ∧ μ.1.name = "<init>" ∧ (T j).1 = μ.1.cls)) (hty : parseFieldDescriptor (T j).2.2.1 = some ty) (hn : narrow ty v = v) (hf : fits ty v = true) (hl0 : j < fs.length) (hws : ws.set k (a, .inr (ci, fs.set j v)) = ws')
    (kk : mn_W G X μ cells slots q lv st ws') : mn_W G X μ cells slots pc lv (v :: .ref a :: st) ws := by
  subst hq
  subst hws
  intro p e s m args below meth c ok H locs ls hl hP hD hS
  obtain ⟨ty0, hty0⟩ := hc.2.2.1
  rcases hfin with hfin | ⟨hfin, h1, h2⟩
  · exact va_put ok.1 ok.2.1 ok.2.2.2.2.1 hc.2.1 ty0 hty0 hc.2.2.2 ok.2.2.2.1 ok.2.2.2.2.2.1.1 hP hD hS k he hc.1 j hj (ok.2.2.2.2.1 _ hlk) (fun _ h => h) hfin hty hn hf hl0 hd (fun H1 locs1 hP1 hD1 hS1 => kk p e s m args below meth c ok H1 locs1 ls hl hP1 hD1 hS1)
  · exact va_putF ok.1 ok.2.1 ok.2.2.2.2.1 hc.2.1 ty0 hty0 hc.2.2.2 ok.2.2.2.1 ok.2.2.2.2.2.1.1 hP hD hS k he hc.1 j hj (ok.2.2.2.2.1 _ hlk) (fun _ h => h) hfin (by rw [ok.2.2.2.2.2.2.2.2.2.2, h1]) h2 hty hn hf hl0 hd (fun H1 locs1 hP1 hD1 hS1 => kk p e s m args below meth c ok H1 locs1 ls hl hP1 hD1 hS1)
theorem mn_get {ix ci j t a : Nat} {fs : List Value} {v : Value} (k : Nat) (q : Nat) (hq : pc + 3 = q) (hd : decode μ.2.1 pc = .ok (.getfield ix, 3)) (hg : mh_gF μ.1.cls ix ci j t) (he : ws[k]? = some (a, .inr (ci, fs))) (hv : fs[j]? = some v) (kk : mn_W G X μ cells slots q lv (v :: st) ws) : mn_W G X μ cells slots pc lv (.ref a :: st) ws := by
  subst hq
  intro p e s m args below meth c ok H locs ls hl hP hD hS
  obtain ⟨C, T, N, hc, hj, hci, ht, hlk⟩ := hg
  rcases hlk with hlk | ⟨host, hlk⟩
  · exact va_get ok.1 ok.2.1 ok.2.2.2.2.1 hc.2.1 ok.2.2.2.1 ok.2.2.2.2.2.1.1 hP k he hc.1 j hj (ok.2.2.2.2.1 _ hlk) (fun _ h => h) hv hd (kk p e s m args below meth c ok H locs ls hl hP hD hS)
  · exact va_getN ok.1 ok.2.1 ok.2.2.2.2.1 hc.2.1 ok.2.2.2.1 ok.2.2.2.2.2.1.1 hP k he hc.1 j hj (va_Nw.use rfl (ok.2.2.2.2.2.1.2 _ hlk)) (fun _ h => h) hv hd (kk p e s m args below meth c ok H locs ls hl hP hD hS)
theorem mn_blind {av : List Value} {w0 : va_W} {sz : Nat} : FrameBlind (mn_Pc G av w0 sz) := fun a U g mk h => ⟨h.1, h.2.1, h.2.2.1, h.2.2.2.1.call g mk a, h.2.2.2.2.1, h.2.2.2.2.2.call g mk a⟩
theorem mn_app_l {wr : va_W} {x : Nat × va_E} : (List.range wr.length).map (fun i => (wr ++ [x])[i]?) = wr.map some := by
  apply List.ext_getElem?
  intro i
  rw [List.getElem?_map, List.getElem?_map]
  rcases Nat.lt_or_ge i wr.length with h | h
  · rw [List.getElem?_range h]
    show some ((wr ++ [x])[i]?) = _
    rw [List.getElem?_append_left h, List.getElem?_eq_getElem h]
    rfl
  · rw [List.getElem?_eq_none (by simpa using h), List.getElem?_eq_none h]
    rfl
theorem mn_nd : ∀ l : List Nat, l.Nodup → va_nd l = true
  | [], _ => rfl
  | a :: l, h => by
    have h1 := List.nodup_cons.mp h
    show (decide (a ∉ l) && va_nd l) = true
    rw [mn_nd l h1.2, decide_eq_true h1.1]
    rfl
theorem mn_nd_range (n : Nat) : va_nd (List.range n) = true := mn_nd _ List.nodup_range
theorem mn_call {ix n fr mc ms a : Nat} {host : String} {ν : mh_Mt} {e0 : va_E} {F : va_W → Prop} (wr : va_W) (As rest : List Value) (q : Nat) (hq : pc + 3 = q) (hd : decode μ.2.1 pc = .ok (.invokespecial ix, 3)) (hk : Cond.methodLink μ.1.cls ix ν.1 ∈ mh_base ∨ Cond.methodLinkNest μ.1.cls ix ν.1 host ∈ mh_nst) (hc : mh_cd ν n) (hr : ν.2.2.2 = none) (hnm : ν.1.name = "<init>") (hi : Cond.instanceMethod ν.1 ∈ mh_base) (hws : ws = wr ++ [(a, e0)])
    (hM : mn_M X.1 G fr mc ms ν (.ref a :: As) [(a, e0)] F) (hn : As.length = n) (hst : As.reverse ++ .ref a :: rest = st) (hro : (rest.map fun v => v.category).sum ≤ 8) (hR : fr + 1 ≤ X.2.1.frames ∧ 8 + (ν.2.2.1 + 11) + 40 * fr ≤ X.2.1.locals ∧ cells + mc ≤ X.2.1.cells ∧ slots + ms ≤ X.2.1.slots)
    (kk : ∀ w : va_W, F w → mn_W G X μ (cells + mc) (slots + ms) q lv rest (wr ++ w)) : mn_W G X μ cells slots pc lv st ws := by
  subst hq
  subst hws
  intro p e s m args below meth c ok H locs ls hl hP hD hS
  have hG : GoodIn mh_base (.code ν.1 ν.2.1 ν.2.2.1 ν.2.2.2 :: mh_base) := fun w h => by
    rcases List.mem_cons.mp h with rfl | h
    · exact mh_good hc.2.1
    · exact mh_good h
  have hC : [wr.length].map (fun i => (wr ++ [(a, e0)])[i]?) = [(a, e0)].map some := by simp
  have hPc := hP.sub (ws' := [(a, e0)]) [wr.length] (by simp)
  have hFc := va_free (wc := [(a, e0)]) hD hS ok.2.2.2.2.2.2.2.2.1 [wr.length] hC
  have hSg : ∀ U : State, U.heap = H → s.WarmedH U.vm → mh_Sg G (va_A [(a, e0)] H.size) U U.heap := fun U hU hW => by
    rw [hU]
    exact ok.2.2.2.2.2.2.2.2.2.1.to hS hFc hW
  have hpre : PreS s H (mn_Pc G (.ref a :: As) [(a, e0)] H.size) (.ref a :: As) := ⟨mn_blind, fun U hU hW => ⟨rfl, by rw [hU], by rw [hU]; exact hPc, ok.2.2.2.2.2.1.warm hW, ⟨fun i j p1 q1 h1 h2 _ => by
    have a1 : i < 1 := (List.getElem?_eq_some_iff.mp h1).1
    have a2 : j < 1 := (List.getElem?_eq_some_iff.mp h2).1
    omega, fun _ _ _ => trivial⟩, hSg U hU hW⟩⟩
  have hfix : CallFix p m c μ.2.1 μ.2.2.1 s args mh_base μ.1.cls := ⟨ok.1, ok.2.1, ok.2.2.1, ok.2.2.2.1, ok.2.2.2.2.1⟩
  have hrun : va_Run p X.1 e X.2.1 s m args below meth c H locs cells slots mc ms (F0 m pc ls st) rest (mn_Q G F (va_A [(a, e0)] H.size) (Value.ref a :: As).toArray) (va_A [(a, e0)] H.size) := by
    rcases hk with hk | hk
    · exact va_runI hfix (hM H.size) ⟨callB_of (bytes := ν.2.1) (maxL := ν.2.2.1) (ret := none) (ws' := mh_base) n ok.2.2.2.2.1 hG (by rw [hr]) rfl rfl (ok.2.2.2.2.1 _ hc.1) (ok.2.2.2.2.1 _ hk) hc.2.2.1 ⟨hR.1, hR.2.1⟩, hnm, ok.2.2.2.2.1 _ hi⟩ hpre rfl hn hl.1 hst.symm (lv_room hro) hd hR.2.2
    · exact va_runIN hfix (hM H.size) ⟨va_cnB (bytes := ν.2.1) (maxL := ν.2.2.1) (ret := none) (ws' := mh_base) n ok.2.2.2.2.1 hG (by rw [hr]) rfl rfl (ok.2.2.2.2.2.1.2 _ hk) (ok.2.2.2.2.1 _ hc.1) hc.2.2.1 ⟨hR.1, hR.2.1⟩, hnm, ok.2.2.2.2.1 _ hi⟩ hpre rfl hn hl.1 hst.symm (lv_room hro) hd hR.2.2
  refine va_callv hrun hS (fun q _ h => hFc q h) hFc (fun u t H1 locs1 ht hvm hw hB hz1 hk1 hS1 => ?_)
  obtain ⟨hP1, hD1⟩ := hB
  rw [ht] at hP1
  obtain ⟨hP2, hD2⟩ := va_join (wr := wr) (w1 := u) hP hD [wr.length] (List.range wr.length) hC mn_app_l (mn_nd_range _) (fun i hi => by
    have := List.mem_range.mp hi
    simp; omega) hk1 hFc hP1 hD1
  exact kk u hw p e s m args below meth c ok H1 locs1 ls hl hP2 hD2 hS1
theorem mn_goto {off : Int} (q : Nat) (hq : pc + 3 = q) (tg : Nat) (hd : decode μ.2.1 pc = .ok (.goto off, 3)) (ht : (pc : Int) + off = (tg : Int)) (kk : mn_W G X μ cells slots tg lv st ws) : mn_W G X μ cells slots pc lv st ws := by
  intro p e s m args below meth c ok H locs ls hl hP hD hS
  exact lv_goto ok.1 ok.2.1 hd ht (kk p e s m args below meth c ok H locs ls hl hP hD hS)
theorem mn_ldcS {ix k : Nat} {tx : String} (q : Nat) (hq : pc + 2 = q) (hd : decode μ.2.1 pc = .ok (.ldc ix, 2)) (hz : ∀ (A : Nat → Prop) (U : State) (H : Heap), mh_Sg G A U H → vk_R μ.1.cls ix tx (G.2.2.2 k) U) (kk : mn_W G X μ cells slots q lv (.ref (G.2.2.2 k) :: st) ws) : mn_W G X μ cells slots pc lv st ws := by
  subst hq
  intro p e s m args below meth c ok H locs ls hl hP hD hS
  exact va_ldcS ok.1 ok.2.1 ok.2.2.2.1 (hz _ _ _ ok.2.2.2.2.2.2.2.2.2.1) hd (kk p e s m args below meth c ok H locs ls hl hP hD hS)
theorem mn_cs {ix : Nat} (q : Nat) (hq : pc + 3 = q) (hd : decode μ.2.1 pc = .ok (.getstatic ix, 3)) (hk : Cond.fieldLink μ.1.cls ix "java/lang/String" "COMPACT_STRINGS" "Z" ∈ mh_base) (kk : mn_W G X μ cells slots q lv (.int 1 :: st) ws) : mn_W G X μ cells slots pc lv st ws := by
  subst hq
  intro p e s m args below meth c ok H locs ls hl hP hD hS
  exact va_gets ok.1 ok.2.1 ok.2.2.2.2.2.2.2.2.2.1.2.1 hS ok.2.2.2.1 (ok.2.2.2.2.1 _ hk) (fun _ h => h) hd (kk p e s m args below meth c ok H locs ls hl hP hD hS)
theorem mn_strv {ix i : Nat} (hi : i < 2) (q : Nat) (hq : pc + 3 = q) (hd : decode μ.2.1 pc = .ok (.getfield ix, 3)) (hk : Cond.fieldLink μ.1.cls ix "java/lang/String" "value" "[B" ∈ mh_base) (kk : mn_W G X μ cells slots q lv (.ref (G.2.2.2 (1010 + i)) :: st) ws) : mn_W G X μ cells slots pc lv (.ref (G.2.2.2 (1000 + i)) :: st) ws := by
  subst hq
  intro p e s m args below meth c ok H locs ls hl hP hD hS
  exact vk_getf ok.1 ok.2.1 (ok.2.2.2.2.2.2.2.2.2.1.1.1 i hi).2.2.1 hS ok.2.2.2.1 (ok.2.2.2.2.1 _ hk) (fun _ h => h) hd (kk p e s m args below meth c ok H locs ls hl hP hD hS)
theorem mn_strc {ix i : Nat} (hi : i < 2) (q : Nat) (hq : pc + 3 = q) (hd : decode μ.2.1 pc = .ok (.getfield ix, 3)) (hk : Cond.fieldLink μ.1.cls ix "java/lang/String" "coder" "B" ∈ mh_base) (kk : mn_W G X μ cells slots q lv (.int 0 :: st) ws) : mn_W G X μ cells slots pc lv (.ref (G.2.2.2 (1000 + i)) :: st) ws := by
  subst hq
  intro p e s m args below meth c ok H locs ls hl hP hD hS
  exact vk_getf ok.1 ok.2.1 (ok.2.2.2.2.2.2.2.2.2.1.1.1 i hi).2.1 hS ok.2.2.2.1 (ok.2.2.2.2.1 _ hk) (fun _ h => h) hd (kk p e s m args below meth c ok H locs ls hl hP hD hS)
theorem mn_strl {i : Nat} (hi : i < 2) (q : Nat) (hq : pc + 1 = q) {v : Int32} (hd : decode μ.2.1 pc = .ok (.arraylength, 1)) (hv : Int32.ofNat (mh_sl.getD i 0) = v) (kk : mn_W G X μ cells slots q lv (.int v :: st) ws) : mn_W G X μ cells slots pc lv (.ref (G.2.2.2 (1010 + i)) :: st) ws := by
  subst hq
  intro p e s m args below meth c ok H locs ls hl hP hD hS
  exact va_tlen ok.1 ok.2.1 (ok.2.2.2.2.2.2.2.2.2.1.1.1 i hi).2.2.2 hS hv hd (kk p e s m args below meth c ok H locs ls hl hP hD hS)
theorem mn_if_eq1 {off : Int} (q : Nat) (hq : pc + 3 = q) {x : Int32} (hx : ¬ x = 0) (tg : Nat) (hd : decode μ.2.1 pc = .ok (.ifCond .eq off, 3)) (ht : (pc : Int) + off = (tg : Int)) (kk : mn_W G X μ cells slots q lv st ws) : mn_W G X μ cells slots pc lv (.int x :: st) ws := by
  subst hq
  intro p e s m args below meth c ok H locs ls hl hP hD hS
  exact lv_if_eq ok.1 ok.2.1 hd ht (fun h => absurd h hx) (fun _ => kk p e s m args below meth c ok H locs ls hl hP hD hS)
theorem mn_ishr {x y : Int32} (q : Nat) (hq : pc + 1 = q) (hd : decode μ.2.1 pc = .ok (.ishr, 1)) (kk : mn_W G X μ cells slots q lv (.int (x >>> (y &&& 31)) :: st) ws) : mn_W G X μ cells slots pc lv (.int y :: .int x :: st) ws := by
  subst hq
  intro p e s m args below meth c ok H locs ls hl hP hD hS
  exact lv_ishr ok.1 ok.2.1 hd (kk p e s m args below meth c ok H locs ls hl hP hD hS)
/-- a method of a String constant that makes nothing -/
def mn_Qi (G : mh_G) (P : Int32 → Prop) (A : Nat → Prop) : Array Value → State → Outcome → State → Prop := va_Qi (fun r (w : va_W) => P r ∧ w = []) (fun w t => va_P (G.1, G.2.1) vwCl w t.heap ∧ va_D A w) A
def mn_Mi (l : Launch) (G : mh_G) (fr : Nat) (μ : mh_Mt) (av : List Value) (P : Int32 → Prop) : Prop := ∀ sz : Nat, Met l μ.1 (.code μ.1 μ.2.1 μ.2.2.1 μ.2.2.2 :: mh_base) { frames := fr, cells := 0, slots := 0, locals := 40 * fr } (mn_Pc G av [] sz) (mn_Qi G P (va_A [] sz)) 0 0 (va_A [] sz)
theorem mn_callK {ix n fr i : Nat} {ν : mh_Mt} {P : Int32 → Prop} (hi2 : i < 2) (As rest : List Value) (q : Nat) (hq : pc + 3 = q) (hd : decode μ.2.1 pc = .ok (.invokevirtual ix, 3)) (hk : Cond.methodLink μ.1.cls ix ν.1 ∈ mh_base) (hc : mh_cd ν n) (hi : mh_iM ν) (hcl : ν.1.cls = "java/lang/String")
    (hM : mn_Mi X.1 G fr ν (.ref (G.2.2.2 (1000 + i)) :: As) P) (hn : As.length = n) (hst : As.reverse ++ .ref (G.2.2.2 (1000 + i)) :: rest = st) (hro : (rest.map fun v => v.category).sum ≤ 8) (hR : fr + 1 ≤ X.2.1.frames ∧ 8 + (ν.2.2.1 + 11) + 40 * fr ≤ X.2.1.locals ∧ cells ≤ X.2.1.cells ∧ slots ≤ X.2.1.slots)
    (kk : ∀ z : Int32, P z → mn_W G X μ cells slots q lv (.int z :: rest) ws) : mn_W G X μ cells slots pc lv st ws := by
  subst hq
  intro p e s m args below meth c ok H locs ls hl hP hD hS
  have hG : GoodIn mh_base (.code ν.1 ν.2.1 ν.2.2.1 ν.2.2.2 :: mh_base) := fun w h => by
    rcases List.mem_cons.mp h with rfl | h
    · exact mh_good hc.2.1
    · exact mh_good h
  have hrec := vk_recv ok.2.2.2.2.2.2.2.2.2.1.1 hi2 hS
  rw [← hcl] at hrec
  have hPc := hP.sub (ws' := []) [] rfl
  have hFc := va_free (wc := []) hD hS ok.2.2.2.2.2.2.2.2.1 [] rfl
  have hpre : PreV s H ν.1.cls (G.2.2.2 (1000 + i)) (mn_Pc G (.ref (G.2.2.2 (1000 + i)) :: As) [] H.size) As := ⟨mn_blind, hrec, fun U hU hW => ⟨rfl, by rw [hU], by rw [hU]; exact hPc, ok.2.2.2.2.2.1.warm hW, ⟨fun i j p1 q1 h1 => (by cases h1), fun _ _ _ => trivial⟩, by rw [hU]; exact ok.2.2.2.2.2.2.2.2.2.1.to hS hFc hW⟩⟩
  have hfix : CallFix p m c μ.2.1 μ.2.2.1 s args mh_base μ.1.cls := ⟨ok.1, ok.2.1, ok.2.2.1, ok.2.2.2.1, ok.2.2.2.2.1⟩
  have hrun : va_Run p X.1 e X.2.1 s m args below meth c H locs cells slots 0 0 (F0 m pc ls st) rest (mn_Qi G P (va_A [] H.size) (Value.ref (G.2.2.2 (1000 + i)) :: As).toArray) (va_A [] H.size) :=
    va_runV hfix (hM H.size) ⟨callB_of n ok.2.2.2.2.1 hG rfl rfl rfl (ok.2.2.2.2.1 _ hc.1) (ok.2.2.2.2.1 _ hk) hc.2.2.1 ⟨hR.1, hR.2.1⟩, ok.2.2.2.2.1 _ hi.1, ok.2.2.2.2.1 _ hi.2⟩ hpre rfl hn hl.1 hst.symm (lv_room hro) hd hR.2.2
  refine va_calli hrun hS (fun q _ h => hFc q h) hFc (fun r u t H1 locs1 ht hvm hw hB hz1 hk1 hS1 => ?_)
  obtain ⟨hP1, hD1⟩ := hB
  rw [ht] at hP1
  obtain ⟨hw1, rfl⟩ := hw
  have hR9 : (List.range ws.length).map (fun i => ws[i]?) = ws.map some := by
    have h9 := mn_app_l (wr := ws) (x := (0, .inr (0, [])))
    rw [← h9]
    apply List.map_congr_left
    intro i hi
    rw [List.getElem?_append_left (List.mem_range.mp hi)]
  obtain ⟨hP2, hD2⟩ := va_join (wr := ws) (w1 := []) hP hD [] (List.range ws.length) rfl hR9 (mn_nd_range _) (fun i _ => List.not_mem_nil) hk1 hFc hP1 hD1
  rw [List.append_nil] at hP2 hD2
  exact kk r hw1 p e s m args below meth c ok H1 locs1 ls hl hP2 hD2 hS1
end MN
theorem mn_iret {l : Launch} {G : mh_G} {fr sz : Nat} {P : Int32 → Prop} {μ : mh_Mt} {pc : Nat} {lv : List (Nat × Value)} {v : Int32} {ty : FieldType} (hd : decode μ.2.1 pc = .ok (.ireturn, 1)) (hr : μ.2.2.2 = some ty) (hv : narrow ty (.int v) = .int v) (hP9 : P v) : mn_W G (l, { frames := fr, cells := 0, slots := 0, locals := 40 * fr }, va_A [] sz, fun s args below => MQ below (mn_Qi G P (va_A [] sz)) args s 0 0 (va_A [] sz)) μ 0 0 pc lv [.int v] [] := by
  intro p e s m args below meth c ok H locs ls hl hP hD hS
  exact W.zret ok.1 ok.2.1 (by rw [ok.2.2.2.2.2.2.1, hr]) hv (fun t ht hW => ⟨⟨v, [], rfl, ⟨hP9, rfl⟩, by rw [ht]; exact hP, hD⟩, hS.F ht⟩) hS.2.2 hd ok.2.2.2.2.2.2.2.1
theorem mn_ret {l : Launch} {G : mh_G} {fr mc ms : Nat} {w0 : va_W} {sz : Nat} {F : va_W → Prop} {μ : mh_Mt} {cells slots pc : Nat} {lv : List (Nat × Value)} {ws : va_W} (hd : decode μ.2.1 pc = .ok (.return_, 1)) (hr : μ.2.2.2 = none) (hF : F ws) (h1 : cells ≤ mc) (h2 : slots ≤ ms) : mn_W G (mn_XM l G fr mc ms w0 sz F) μ cells slots pc lv [] ws := by
  intro p e s m args below meth c ok H locs ls hl hP hD hS
  refine W.widen (k := mc) (n := ms) h1 h2 ?_
  exact W.vret ok.1 ok.2.1 (by rw [ok.2.2.2.2.2.2.1, hr]) (fun t ht hW => ⟨⟨ws, rfl, hF, by rw [ht]; exact hP, hD⟩, hS.F ht⟩) hS.2.2 hd ok.2.2.2.2.2.2.2.1
theorem n_coder (l : Launch) (G : mh_G) (fr i : Nat) (hi : i < 2) : mn_Mi l G fr mM_J0_coder_7d493 [.ref (G.2.2.2 (1000 + i))] (fun z => z = 0) := by
  intro sz
  refine mn_enterQ (lv := [(0, .ref (G.2.2.2 (1000 + i)))]) (by decide) rfl (Nat.le_of_ble_eq_true rfl) ?_
  refine mn_cs 3 rfl dJ0_coder_7d493_0 sf_38 ?_
  refine mn_if_eq1 6 rfl (by decide) 13 dJ0_coder_7d493_3 (by decide) ?_
  refine mn_aload_n 7 rfl 0 dJ0_coder_7d493_6 rfl rfl ?_
  refine mn_strc hi 10 rfl dJ0_coder_7d493_7 sf_15 ?_
  refine mn_goto 13 rfl 14 dJ0_coder_7d493_10 (by decide) ?_
  exact mn_iret dJ0_coder_7d493_14 rfl rfl rfl
theorem mlb_J0_335 : Cond.methodLink RJ0 335 mM_J0_coder_7d493.1 ∈ mh_base := mh_b (List.mem_append_right _ (List.mem_of_getElem? (i := 207) (by decide +kernel))) (by decide +kernel)
theorem n_length (l : Launch) (G : mh_G) (fr : Nat) : mn_Mi l G (fr + 1) mM_J0_length_8abf5 [.ref (G.2.2.2 1000)] (fun z => z = 13) := by
  intro sz
  refine mn_enterQ (lv := [(0, .ref (G.2.2.2 1000))]) (by decide) rfl (Nat.le_of_ble_eq_true rfl) ?_
  refine mn_aload_n 1 rfl 0 dJ0_length_8abf5_0 rfl rfl ?_
  refine mn_strv (i := 0) (by decide) 4 rfl dJ0_length_8abf5_1 sf_9 ?_
  refine mn_strl (i := 0) (by decide) 5 rfl dJ0_length_8abf5_4 rfl ?_
  refine mn_aload_n 6 rfl 0 dJ0_length_8abf5_5 rfl rfl ?_
  refine mn_callK (i := 0) (fr := fr) (by decide) [] [.int (Int32.ofNat (mh_sl.getD 0 0))] 9 rfl dJ0_length_8abf5_6 mlb_J0_335 mc_J0_coder_7d493 mk_J0_coder_7d493 rfl (n_coder l G fr 0 (by decide)) rfl rfl (Nat.le_of_ble_eq_true rfl) ⟨Nat.le_refl _, by show 8 + (1 + 11) + 40 * fr ≤ 40 * (fr + 1); omega, Nat.le_refl _, Nat.le_refl _⟩ (fun z hz => ?_)
  subst hz
  refine mn_ishr 10 rfl dJ0_length_8abf5_9 ?_
  exact mn_iret dJ0_length_8abf5_10 rfl rfl (by decide)
theorem mn_raI : ∀ (U : State) (c1 c2 : ClassId), va_RA U c1 .int → va_RA U c2 .int → c1 = c2 := fun U c1 c2 h1 h2 => Option.some.inj (Eq.trans (Eq.symm h1) h2)
theorem mn_raJ : ∀ (U : State) (c1 c2 : ClassId), va_RA U c1 .long → va_RA U c2 .long → c1 = c2 := fun U c1 c2 h1 h2 => Option.some.inj (Eq.trans (Eq.symm h1) h2)
theorem mn_raB : ∀ (U : State) (c1 c2 : ClassId), va_RA U c1 .byte → va_RA U c2 .byte → c1 = c2 := fun U c1 c2 h1 h2 => Option.some.inj (Eq.trans (Eq.symm h1) h2)
theorem mn_raZ : ∀ (U : State) (c1 c2 : ClassId), va_RA U c1 .boolean → va_RA U c2 .boolean → c1 = c2 := fun U c1 c2 h1 h2 => Option.some.inj (Eq.trans (Eq.symm h1) h2)

abbrev lx_lv (G : mh_G) (b : Nat) (i : Int32) : List (Nat × Value) := [(3, .int i), (2, .ref (G.2.2.2 57)), (1, .ref (G.2.2.2 0)), (0, .ref b)]
theorem lx_void {p : Program} {l : Launch} {e : Env} {R : Room} {s : State} {m : MethodId} {args : Array Value} {below : List Frame} {meth : Method} {c : Code} {H : Heap} {locs : List Loc} {cells slots : Nat} {g : JFrame} {b L : Nat} {xs : Nat → Int32} {n0 : Nat} (h : ¬ lx_SC b L xs n0 s args) : W p l e R s m args below meth c H locs cells slots (lx_Qz b L xs n0 s args below) g := fun T _ _ => ⟨T.setTop g, Steps.refl _, fun g => absurd g h⟩
theorem lx_alen {l : Launch} {nm : String} {G : mh_G} {b L : Nat} {xs : Nat → Int32} {n0 cells slots : Nat} {pc : Nat} {lv : List (Nat × Value)} {st : List Value} {σ : mh_H} (q : Nat) (hq : pc + 1 = q) (hd : decode cL_law pc = .ok (.arraylength, 1)) (kk : mh_W G (lx_X l b L xs n0 cells slots) (mM_L nm) q lv (.int (Int32.ofNat L) :: st) σ) : mh_W G (lx_X l b L xs n0 cells slots) (mM_L nm) pc lv (.ref b :: st) σ := by
  subst hq
  intro p e s m args below meth c ok H locs ls hl hw hs
  by_cases hS : lx_SC b L xs n0 s args
  · exact va_slen ok.1 ok.2.1 hS.2.2.1 (by rw [hS.2.1]; exact hS.2.2.2) (fun h => Nat.lt_irrefl _ (Nat.lt_of_lt_of_le hS.2.2.2 h)) hs hd (kk p e s m args below meth c ok H locs ls hl hw hs)
  · exact lx_void hS
theorem lx_ld {l : Launch} {nm : String} {G : mh_G} {b L : Nat} {xs : Nat → Int32} {n0 cells slots : Nat} {pc : Nat} {lv : List (Nat × Value)} {st : List Value} {σ : mh_H} {j : Int32} (q : Nat) (hq : pc + 1 = q) (n : Nat) (hd : decode cL_law pc = .ok (.iaload, 1)) (hj : j.toInt = (n : Int)) (hn : n < L) (kk : mh_W G (lx_X l b L xs n0 cells slots) (mM_L nm) q lv (.int (xs n) :: st) σ) : mh_W G (lx_X l b L xs n0 cells slots) (mM_L nm) pc lv (.int j :: .ref b :: st) σ := by
  subst hq
  intro p e s m args below meth c ok H locs ls hl hw hs
  have he : j.toNatClampNeg = n := by show j.toInt.toNat = n; omega
  by_cases hS : lx_SC b L xs n0 s args
  · exact va_sld ok.1 ok.2.1 hS.2.2.1 (by rw [hS.2.1]; exact hS.2.2.2) (fun h => Nat.lt_irrefl _ (Nat.lt_of_lt_of_le hS.2.2.2 h)) hs (vp_in_iff.mpr ⟨by omega, by omega⟩) hd (by rw [he]; exact kk p e s m args below meth c ok H locs ls hl hw hs)
  · exact lx_void hS
theorem lx_arg {l : Launch} {nm : String} {G : mh_G} {b L : Nat} {xs : Nat → Int32} {n0 cells slots : Nat} {k : Nat} {i : Int32} {σ : mh_H} {st : List Value} (hi : i.toInt = 6 * (k : Int)) (hk : 6 * k + 6 ≤ L) (hL : L ≤ 3072) (c : Nat) (v : Int32) (hv : v.toInt = (c : Int)) (hc : c ≤ 5) {pc : Nat} (q : Nat) (hq : pc + 1 + 1 + 1 + 1 + 1 = q) {n : Int} (hn : Int32.ofInt n = v) (d0 : decode cL_law pc = .ok (.aload_n 0, 1)) (d1 : decode cL_law (pc + 1) = .ok (.iload_n 3, 1)) (d2 : decode cL_law (pc + 1 + 1) = .ok (.iconst n, 1)) (d3 : decode cL_law (pc + 1 + 1 + 1) = .ok (.iadd, 1)) (d4 : decode cL_law (pc + 1 + 1 + 1 + 1) = .ok (.iaload, 1))
    (kk : mh_W G (lx_X l b L xs n0 cells slots) (mM_L nm) q (lx_lv G b i) (.int (xs (6 * k + c)) :: st) σ) : mh_W G (lx_X l b L xs n0 cells slots) (mM_L nm) pc (lx_lv G b i) st σ := by
  refine mw_aload_n _ rfl 3 d0 rfl rfl ?_
  refine mw_iload_n _ rfl 0 d1 rfl rfl ?_
  refine mw_iconst (v := v) _ rfl d2 hn ?_
  refine mw_iadd _ rfl 0 4000 (a := 0) (b := 3072) (c := 0) (e := 5) d3 ⟨by omega, by omega⟩ ⟨by omega, by omega⟩ (by decide) (fun z hz _ => ?_)
  refine lx_ld _ hq (6 * k + c) d4 (by omega) (by omega) kk
theorem lx_ret {l : Launch} {nm : String} {G : mh_G} {b L : Nat} {xs : Nat → Int32} {n0 : Nat} {lv : List (Nat × Value)} {σ : mh_H} {pc : Nat} (hd : decode cL_law pc = .ok (.ireturn, 1)) : mh_W G (lx_X l b L xs n0 103 13380) (mM_L nm) pc lv [.int 1] σ := by
  intro p e s m args below meth c ok H locs ls hl hw hs
  by_cases hS : lx_SC b L xs n0 s args
  · obtain ⟨rfl, h0, -, -⟩ := hS
    refine va_forget (fun q hq => by rw [h0]; exact hs.2.2 q hq) (W.widen (k := 600000) (n := 7302250) (Nat.le_of_ble_eq_true rfl) (Nat.le_of_ble_eq_true rfl) ?_)
    intro T hT X
    obtain ⟨t, a1, a2⟩ := lw_ret (ls := ls) ok.1 ok.2.1 ok.2.2.2.2.2.2.1 ok.2.2.2.2.2.2.2.1 hd T hT X
    exact ⟨t, a1, fun _ => a2⟩
  · exact lx_void hS
set_option maxRecDepth 100000 in
set_option maxHeartbeats 4000000 in
theorem lx_c164 {l : Launch} {nm : String} {G : mh_G} {b L : Nat} {xs : Nat → Int32} {n0 cells slots : Nat} (hL : L ≤ 3072) {k : Nat} {i : Int32} {σ : mh_H} (hi : i.toInt = 6 * (k : Int)) (hk : 6 * k + 6 ≤ L) (hI : mh_I (60 * (k : Int)) (60 * (k : Int)) σ) (hT : rl_N σ) (hR : cells ≤ 103) (kk : ∀ σ2 : mh_H, mh_I (60 * ((k : Int) + 1)) (60 * ((k : Int) + 1)) σ2 → rl_N σ2 → mh_W G (lx_X l b L xs n0 cells slots) (mM_L nm) 1301 (lx_lv G b i) [] σ2) : mh_W G (lx_X l b L xs n0 cells slots) (mM_L nm) 164 (lx_lv G b i) [] σ := by
  refine mw_aload_n 165 rfl 2 dL_law_164 rfl rfl ?_
  refine lx_arg hi hk hL 1 1 rfl (by decide) 170 rfl (by decide) dL_law_165 dL_law_166 dL_law_167 dL_law_168 dL_law_169 ?_
  refine lx_arg hi hk hL 2 2 rfl (by decide) 175 rfl (by decide) dL_law_170 dL_law_171 dL_law_172 dL_law_173 dL_law_174 ?_
  refine lx_arg hi hk hL 3 3 rfl (by decide) 180 rfl (by decide) dL_law_175 dL_law_176 dL_law_177 dL_law_178 dL_law_179 ?_
  refine lx_arg hi hk hL 4 4 rfl (by decide) 185 rfl (by decide) dL_law_180 dL_law_181 dL_law_182 dL_law_183 dL_law_184 ?_
  refine mw_callVi [.int (xs (6 * k + 1)), .int (xs (6 * k + 2)), .int (xs (6 * k + 3)), .int (xs (6 * k + 4))] [] 188 rfl dL_law_185 ml_L_13 mc_X9_ground mk_X9_ground rfl rfl (by decide) (w_X9_ground l G 0 (B := 60 * (k : Int)) (D := 60 * (k : Int)) ⟨by omega, by omega⟩ hI (xs (6 * k + 1)) (xs (6 * k + 2)) (xs (6 * k + 3)) (xs (6 * k + 4))) rfl rfl (Nat.le_of_ble_eq_true rfl) ⟨Nat.le_of_ble_eq_true rfl, Nat.le_of_ble_eq_true rfl⟩ (fun z0 s0 y0 => ?_)
  obtain ⟨-, hI0, hF0⟩ := y0
  have hT4 := rl_N_keep hF0 (by decide +kernel) hT
  refine mw_pop 189 rfl dL_law_188 rfl ?_
  refine mw_aload_n 190 rfl 1 dL_law_189 rfl rfl ?_
  refine lx_arg hi hk hL 1 1 rfl (by decide) 195 rfl (by decide) dL_law_190 dL_law_191 dL_law_192 dL_law_193 dL_law_194 ?_
  refine lx_arg hi hk hL 2 2 rfl (by decide) 200 rfl (by decide) dL_law_195 dL_law_196 dL_law_197 dL_law_198 dL_law_199 ?_
  refine lx_arg hi hk hL 3 3 rfl (by decide) 205 rfl (by decide) dL_law_200 dL_law_201 dL_law_202 dL_law_203 dL_law_204 ?_
  refine lx_arg hi hk hL 4 4 rfl (by decide) 210 rfl (by decide) dL_law_205 dL_law_206 dL_law_207 dL_law_208 dL_law_209 ?_
  refine mw_callVi [.int (xs (6 * k + 1)), .int (xs (6 * k + 2)), .int (xs (6 * k + 3)), .int (xs (6 * k + 4))] [] 213 rfl dL_law_210 ml_L_17 mc_X10_ground mk_X10_ground rfl rfl (by decide) (w_X10_ground l G 0 (B := 60 * (k : Int)) (D := 60 * (k : Int)) ⟨by omega, by omega⟩ hI0 (xs (6 * k + 1)) (xs (6 * k + 2)) (xs (6 * k + 3)) (xs (6 * k + 4))) rfl rfl (Nat.le_of_ble_eq_true rfl) ⟨Nat.le_of_ble_eq_true rfl, Nat.le_of_ble_eq_true rfl⟩ (fun z1 s1 y1 => ?_)
  obtain ⟨-, hI1, hF1⟩ := y1
  have hT5 := rl_N_keep hF1 (by decide +kernel) hT4
  refine mw_pop 214 rfl dL_law_213 rfl ?_
  refine mw_goto 217 rfl 1301 dL_law_214 (by decide) ?_
  exact kk _ (mh_I_mono hI1 (by omega) (by omega)) hT5
set_option maxRecDepth 100000 in
set_option maxHeartbeats 4000000 in
theorem lx_c217 {l : Launch} {nm : String} {G : mh_G} {b L : Nat} {xs : Nat → Int32} {n0 cells slots : Nat} (hL : L ≤ 3072) {k : Nat} {i : Int32} {σ : mh_H} (hi : i.toInt = 6 * (k : Int)) (hk : 6 * k + 6 ≤ L) (hI : mh_I (60 * (k : Int)) (60 * (k : Int)) σ) (hT : rl_N σ) (hR : cells ≤ 103) (kk : ∀ σ2 : mh_H, mh_I (60 * ((k : Int) + 1)) (60 * ((k : Int) + 1)) σ2 → rl_N σ2 → mh_W G (lx_X l b L xs n0 cells slots) (mM_L nm) 1301 (lx_lv G b i) [] σ2) : mh_W G (lx_X l b L xs n0 cells slots) (mM_L nm) 217 (lx_lv G b i) [] σ := by
  refine mw_aload_n 218 rfl 2 dL_law_217 rfl rfl ?_
  refine lx_arg hi hk hL 1 1 rfl (by decide) 223 rfl (by decide) dL_law_218 dL_law_219 dL_law_220 dL_law_221 dL_law_222 ?_
  refine lx_arg hi hk hL 2 2 rfl (by decide) 228 rfl (by decide) dL_law_223 dL_law_224 dL_law_225 dL_law_226 dL_law_227 ?_
  refine lx_arg hi hk hL 3 3 rfl (by decide) 233 rfl (by decide) dL_law_228 dL_law_229 dL_law_230 dL_law_231 dL_law_232 ?_
  refine lx_arg hi hk hL 4 4 rfl (by decide) 238 rfl (by decide) dL_law_233 dL_law_234 dL_law_235 dL_law_236 dL_law_237 ?_
  refine mw_callVi [.int (xs (6 * k + 1)), .int (xs (6 * k + 2)), .int (xs (6 * k + 3)), .int (xs (6 * k + 4))] [] 241 rfl dL_law_238 ml_L_18 mc_X9_air mk_X9_air rfl rfl (by decide) (w_X9_air l G 0 (B := 60 * (k : Int)) (D := 60 * (k : Int)) ⟨by omega, by omega⟩ hI (xs (6 * k + 1)) (xs (6 * k + 2)) (xs (6 * k + 3)) (xs (6 * k + 4))) rfl rfl (Nat.le_of_ble_eq_true rfl) ⟨Nat.le_of_ble_eq_true rfl, Nat.le_of_ble_eq_true rfl⟩ (fun z0 s0 y0 => ?_)
  obtain ⟨-, hI0, hF0⟩ := y0
  have hT4 := rl_N_keep hF0 (by decide +kernel) hT
  refine mw_pop 242 rfl dL_law_241 rfl ?_
  refine mw_aload_n 243 rfl 1 dL_law_242 rfl rfl ?_
  refine lx_arg hi hk hL 1 1 rfl (by decide) 248 rfl (by decide) dL_law_243 dL_law_244 dL_law_245 dL_law_246 dL_law_247 ?_
  refine lx_arg hi hk hL 2 2 rfl (by decide) 253 rfl (by decide) dL_law_248 dL_law_249 dL_law_250 dL_law_251 dL_law_252 ?_
  refine lx_arg hi hk hL 3 3 rfl (by decide) 258 rfl (by decide) dL_law_253 dL_law_254 dL_law_255 dL_law_256 dL_law_257 ?_
  refine lx_arg hi hk hL 4 4 rfl (by decide) 263 rfl (by decide) dL_law_258 dL_law_259 dL_law_260 dL_law_261 dL_law_262 ?_
  refine mw_callVi [.int (xs (6 * k + 1)), .int (xs (6 * k + 2)), .int (xs (6 * k + 3)), .int (xs (6 * k + 4))] [] 266 rfl dL_law_263 ml_L_21 mc_X10_air mk_X10_air rfl rfl (by decide) (w_X10_air l G 0 (B := 60 * (k : Int)) (D := 60 * (k : Int)) ⟨by omega, by omega⟩ hI0 (xs (6 * k + 1)) (xs (6 * k + 2)) (xs (6 * k + 3)) (xs (6 * k + 4))) rfl rfl (Nat.le_of_ble_eq_true rfl) ⟨Nat.le_of_ble_eq_true rfl, Nat.le_of_ble_eq_true rfl⟩ (fun z1 s1 y1 => ?_)
  obtain ⟨-, hI1, hF1⟩ := y1
  have hT5 := rl_N_keep hF1 (by decide +kernel) hT4
  refine mw_pop 267 rfl dL_law_266 rfl ?_
  refine mw_goto 270 rfl 1301 dL_law_267 (by decide) ?_
  exact kk _ (mh_I_mono hI1 (by omega) (by omega)) hT5
set_option maxRecDepth 100000 in
set_option maxHeartbeats 4000000 in
theorem lx_c270 {l : Launch} {nm : String} {G : mh_G} {b L : Nat} {xs : Nat → Int32} {n0 cells slots : Nat} (hL : L ≤ 3072) {k : Nat} {i : Int32} {σ : mh_H} (hi : i.toInt = 6 * (k : Int)) (hk : 6 * k + 6 ≤ L) (hI : mh_I (60 * (k : Int)) (60 * (k : Int)) σ) (hT : rl_N σ) (hR : cells ≤ 103) (kk : ∀ σ2 : mh_H, mh_I (60 * ((k : Int) + 1)) (60 * ((k : Int) + 1)) σ2 → rl_N σ2 → mh_W G (lx_X l b L xs n0 cells slots) (mM_L nm) 1301 (lx_lv G b i) [] σ2) : mh_W G (lx_X l b L xs n0 cells slots) (mM_L nm) 270 (lx_lv G b i) [] σ := by
  refine mw_aload_n 271 rfl 2 dL_law_270 rfl rfl ?_
  refine lx_arg hi hk hL 1 1 rfl (by decide) 276 rfl (by decide) dL_law_271 dL_law_272 dL_law_273 dL_law_274 dL_law_275 ?_
  refine lx_arg hi hk hL 2 2 rfl (by decide) 281 rfl (by decide) dL_law_276 dL_law_277 dL_law_278 dL_law_279 dL_law_280 ?_
  refine mw_callVi [.int (xs (6 * k + 1)), .int (xs (6 * k + 2))] [] 284 rfl dL_law_281 ml_L_22 mc_X9_wind mk_X9_wind rfl rfl (by decide) (w_X9_wind l G 0 (B := 60 * (k : Int)) (D := 60 * (k : Int)) ⟨by omega, by omega⟩ hI (xs (6 * k + 1)) (xs (6 * k + 2))) rfl rfl (Nat.le_of_ble_eq_true rfl) ⟨Nat.le_of_ble_eq_true rfl, Nat.le_of_ble_eq_true rfl⟩ (fun z0 s0 y0 => ?_)
  obtain ⟨-, hI0, hF0⟩ := y0
  have hT4 := rl_N_keep hF0 (by decide +kernel) hT
  refine mw_pop 285 rfl dL_law_284 rfl ?_
  refine mw_aload_n 286 rfl 1 dL_law_285 rfl rfl ?_
  refine lx_arg hi hk hL 1 1 rfl (by decide) 291 rfl (by decide) dL_law_286 dL_law_287 dL_law_288 dL_law_289 dL_law_290 ?_
  refine lx_arg hi hk hL 2 2 rfl (by decide) 296 rfl (by decide) dL_law_291 dL_law_292 dL_law_293 dL_law_294 dL_law_295 ?_
  refine mw_callVi [.int (xs (6 * k + 1)), .int (xs (6 * k + 2))] [] 299 rfl dL_law_296 ml_L_26 mc_X10_wind mk_X10_wind rfl rfl (by decide) (w_X10_wind l G 0 (B := 60 * (k : Int)) (D := 60 * (k : Int)) ⟨by omega, by omega⟩ hI0 (xs (6 * k + 1)) (xs (6 * k + 2))) rfl rfl (Nat.le_of_ble_eq_true rfl) ⟨Nat.le_of_ble_eq_true rfl, Nat.le_of_ble_eq_true rfl⟩ (fun z1 s1 y1 => ?_)
  obtain ⟨-, hI1, hF1⟩ := y1
  have hT5 := rl_N_keep hF1 (by decide +kernel) hT4
  refine mw_pop 300 rfl dL_law_299 rfl ?_
  refine mw_goto 303 rfl 1301 dL_law_300 (by decide) ?_
  exact kk _ (mh_I_mono hI1 (by omega) (by omega)) hT5
set_option maxRecDepth 100000 in
set_option maxHeartbeats 4000000 in
theorem lx_c303 {l : Launch} {nm : String} {G : mh_G} {b L : Nat} {xs : Nat → Int32} {n0 cells slots : Nat} (hL : L ≤ 3072) {k : Nat} {i : Int32} {σ : mh_H} (hi : i.toInt = 6 * (k : Int)) (hk : 6 * k + 6 ≤ L) (hI : mh_I (60 * (k : Int)) (60 * (k : Int)) σ) (hT : rl_N σ) (hR : cells ≤ 103) (kk : ∀ σ2 : mh_H, mh_I (60 * ((k : Int) + 1)) (60 * ((k : Int) + 1)) σ2 → rl_N σ2 → mh_W G (lx_X l b L xs n0 cells slots) (mM_L nm) 1301 (lx_lv G b i) [] σ2) : mh_W G (lx_X l b L xs n0 cells slots) (mM_L nm) 303 (lx_lv G b i) [] σ := by
  refine mw_aload_n 304 rfl 2 dL_law_303 rfl rfl ?_
  refine lx_arg hi hk hL 1 1 rfl (by decide) 309 rfl (by decide) dL_law_304 dL_law_305 dL_law_306 dL_law_307 dL_law_308 ?_
  refine lx_arg hi hk hL 2 2 rfl (by decide) 314 rfl (by decide) dL_law_309 dL_law_310 dL_law_311 dL_law_312 dL_law_313 ?_
  refine lx_arg hi hk hL 3 3 rfl (by decide) 319 rfl (by decide) dL_law_314 dL_law_315 dL_law_316 dL_law_317 dL_law_318 ?_
  refine lx_arg hi hk hL 4 4 rfl (by decide) 324 rfl (by decide) dL_law_319 dL_law_320 dL_law_321 dL_law_322 dL_law_323 ?_
  refine lx_arg hi hk hL 5 5 rfl (by decide) 329 rfl (by decide) dL_law_324 dL_law_325 dL_law_326 dL_law_327 dL_law_328 ?_
  refine mw_callVi [.int (xs (6 * k + 1)), .int (xs (6 * k + 2)), .int (xs (6 * k + 3)), .int (xs (6 * k + 4)), .int (xs (6 * k + 5))] [] 332 rfl dL_law_329 ml_L_27 mc_X9_feed mk_X9_feed rfl rfl (by decide) (w_X9_feed l G 0 (B := 60 * (k : Int)) (D := 60 * (k : Int)) ⟨by omega, by omega⟩ hI (xs (6 * k + 1)) (xs (6 * k + 2)) (xs (6 * k + 3)) (xs (6 * k + 4)) (xs (6 * k + 5))) rfl rfl (Nat.le_of_ble_eq_true rfl) ⟨Nat.le_of_ble_eq_true rfl, Nat.le_of_ble_eq_true rfl⟩ (fun z0 s0 y0 => ?_)
  obtain ⟨-, hI0, hF0⟩ := y0
  have hT4 := rl_N_keep hF0 (by decide +kernel) hT
  refine mw_pop 333 rfl dL_law_332 rfl ?_
  refine mw_aload_n 334 rfl 1 dL_law_333 rfl rfl ?_
  refine lx_arg hi hk hL 1 1 rfl (by decide) 339 rfl (by decide) dL_law_334 dL_law_335 dL_law_336 dL_law_337 dL_law_338 ?_
  refine lx_arg hi hk hL 2 2 rfl (by decide) 344 rfl (by decide) dL_law_339 dL_law_340 dL_law_341 dL_law_342 dL_law_343 ?_
  refine lx_arg hi hk hL 3 3 rfl (by decide) 349 rfl (by decide) dL_law_344 dL_law_345 dL_law_346 dL_law_347 dL_law_348 ?_
  refine lx_arg hi hk hL 4 4 rfl (by decide) 354 rfl (by decide) dL_law_349 dL_law_350 dL_law_351 dL_law_352 dL_law_353 ?_
  refine lx_arg hi hk hL 5 5 rfl (by decide) 359 rfl (by decide) dL_law_354 dL_law_355 dL_law_356 dL_law_357 dL_law_358 ?_
  refine mw_callVi [.int (xs (6 * k + 1)), .int (xs (6 * k + 2)), .int (xs (6 * k + 3)), .int (xs (6 * k + 4)), .int (xs (6 * k + 5))] [] 362 rfl dL_law_359 ml_L_31 mc_X10_feed mk_X10_feed rfl rfl (by decide) (w_X10_feed l G 0 (B := 60 * (k : Int)) (D := 60 * (k : Int)) ⟨by omega, by omega⟩ hI0 (xs (6 * k + 1)) (xs (6 * k + 2)) (xs (6 * k + 3)) (xs (6 * k + 4)) (xs (6 * k + 5))) rfl rfl (Nat.le_of_ble_eq_true rfl) ⟨Nat.le_of_ble_eq_true rfl, Nat.le_of_ble_eq_true rfl⟩ (fun z1 s1 y1 => ?_)
  obtain ⟨-, hI1, hF1⟩ := y1
  have hT5 := rl_N_keep hF1 (by decide +kernel) hT4
  refine mw_pop 363 rfl dL_law_362 rfl ?_
  refine mw_goto 366 rfl 1301 dL_law_363 (by decide) ?_
  exact kk _ (mh_I_mono hI1 (by omega) (by omega)) hT5
set_option maxRecDepth 100000 in
set_option maxHeartbeats 4000000 in
theorem lx_c366 {l : Launch} {nm : String} {G : mh_G} {b L : Nat} {xs : Nat → Int32} {n0 cells slots : Nat} (hL : L ≤ 3072) {k : Nat} {i : Int32} {σ : mh_H} (hi : i.toInt = 6 * (k : Int)) (hk : 6 * k + 6 ≤ L) (hI : mh_I (60 * (k : Int)) (60 * (k : Int)) σ) (hT : rl_N σ) (hR : cells ≤ 103) (kk : ∀ σ2 : mh_H, mh_I (60 * ((k : Int) + 1)) (60 * ((k : Int) + 1)) σ2 → rl_N σ2 → mh_W G (lx_X l b L xs n0 cells slots) (mM_L nm) 1301 (lx_lv G b i) [] σ2) : mh_W G (lx_X l b L xs n0 cells slots) (mM_L nm) 366 (lx_lv G b i) [] σ := by
  refine mw_aload_n 367 rfl 2 dL_law_366 rfl rfl ?_
  refine lx_arg hi hk hL 1 1 rfl (by decide) 372 rfl (by decide) dL_law_367 dL_law_368 dL_law_369 dL_law_370 dL_law_371 ?_
  refine mw_callVi [.int (xs (6 * k + 1))] [] 375 rfl dL_law_372 ml_L_32 mc_X9_law mk_X9_law rfl rfl (by decide) (w_X9_law l G 0 (B := 60 * (k : Int)) (D := 60 * (k : Int)) ⟨by omega, by omega⟩ hI (xs (6 * k + 1))) rfl rfl (Nat.le_of_ble_eq_true rfl) ⟨Nat.le_of_ble_eq_true rfl, Nat.le_of_ble_eq_true rfl⟩ (fun z0 s0 y0 => ?_)
  obtain ⟨-, hI0, hF0⟩ := y0
  have hT4 := rl_N_keep hF0 (by decide +kernel) hT
  refine mw_pop 376 rfl dL_law_375 rfl ?_
  refine mw_aload_n 377 rfl 1 dL_law_376 rfl rfl ?_
  refine lx_arg hi hk hL 1 1 rfl (by decide) 382 rfl (by decide) dL_law_377 dL_law_378 dL_law_379 dL_law_380 dL_law_381 ?_
  refine mw_callVi [.int (xs (6 * k + 1))] [] 385 rfl dL_law_382 ml_L_36 mc_X10_law mk_X10_law rfl rfl (by decide) (w_X10_law l G 0 (B := 60 * (k : Int)) (D := 60 * (k : Int)) ⟨by omega, by omega⟩ hI0 (xs (6 * k + 1))) rfl rfl (Nat.le_of_ble_eq_true rfl) ⟨Nat.le_of_ble_eq_true rfl, Nat.le_of_ble_eq_true rfl⟩ (fun z1 s1 y1 => ?_)
  obtain ⟨-, hI1, hF1⟩ := y1
  have hT5 := rl_N_keep hF1 (by decide +kernel) hT4
  refine mw_pop 386 rfl dL_law_385 rfl ?_
  refine mw_goto 389 rfl 1301 dL_law_386 (by decide) ?_
  exact kk _ (mh_I_mono hI1 (by omega) (by omega)) hT5
set_option maxRecDepth 100000 in
set_option maxHeartbeats 4000000 in
theorem lx_c389 {l : Launch} {nm : String} {G : mh_G} {b L : Nat} {xs : Nat → Int32} {n0 cells slots : Nat} (hL : L ≤ 3072) {k : Nat} {i : Int32} {σ : mh_H} (hi : i.toInt = 6 * (k : Int)) (hk : 6 * k + 6 ≤ L) (hI : mh_I (60 * (k : Int)) (60 * (k : Int)) σ) (hT : rl_N σ) (hR : cells ≤ 103) (kk : ∀ σ2 : mh_H, mh_I (60 * ((k : Int) + 1)) (60 * ((k : Int) + 1)) σ2 → rl_N σ2 → mh_W G (lx_X l b L xs n0 cells slots) (mM_L nm) 1301 (lx_lv G b i) [] σ2) : mh_W G (lx_X l b L xs n0 cells slots) (mM_L nm) 389 (lx_lv G b i) [] σ := by
  refine mw_aload_n 390 rfl 2 dL_law_389 rfl rfl ?_
  refine lx_arg hi hk hL 1 1 rfl (by decide) 395 rfl (by decide) dL_law_390 dL_law_391 dL_law_392 dL_law_393 dL_law_394 ?_
  refine mw_callVi [.int (xs (6 * k + 1))] [] 398 rfl dL_law_395 ml_L_37 mc_X9_steps mk_X9_steps rfl rfl (by decide) (w_X9_steps l G 0 (B := 60 * (k : Int)) (D := 60 * (k : Int)) ⟨by omega, by omega⟩ hI (xs (6 * k + 1))) rfl rfl (Nat.le_of_ble_eq_true rfl) ⟨Nat.le_of_ble_eq_true rfl, Nat.le_of_ble_eq_true rfl⟩ (fun z0 s0 y0 => ?_)
  obtain ⟨-, hI0, hF0⟩ := y0
  have hT4 := rl_N_keep hF0 (by decide +kernel) hT
  refine mw_pop 399 rfl dL_law_398 rfl ?_
  refine mw_aload_n 400 rfl 1 dL_law_399 rfl rfl ?_
  refine lx_arg hi hk hL 1 1 rfl (by decide) 405 rfl (by decide) dL_law_400 dL_law_401 dL_law_402 dL_law_403 dL_law_404 ?_
  refine mw_callVi [.int (xs (6 * k + 1))] [] 408 rfl dL_law_405 ml_L_40 mc_X10_steps mk_X10_steps rfl rfl (by decide) (w_X10_steps l G 0 (B := 60 * (k : Int)) (D := 60 * (k : Int)) ⟨by omega, by omega⟩ hI0 (xs (6 * k + 1))) rfl rfl (Nat.le_of_ble_eq_true rfl) ⟨Nat.le_of_ble_eq_true rfl, Nat.le_of_ble_eq_true rfl⟩ (fun z1 s1 y1 => ?_)
  obtain ⟨-, hI1, hF1⟩ := y1
  have hT5 := rl_N_keep hF1 (by decide +kernel) hT4
  refine mw_pop 409 rfl dL_law_408 rfl ?_
  refine mw_goto 412 rfl 1301 dL_law_409 (by decide) ?_
  exact kk _ (mh_I_mono hI1 (by omega) (by omega)) hT5
set_option maxRecDepth 100000 in
set_option maxHeartbeats 4000000 in
theorem lx_c412 {l : Launch} {nm : String} {G : mh_G} {b L : Nat} {xs : Nat → Int32} {n0 cells slots : Nat} (hL : L ≤ 3072) {k : Nat} {i : Int32} {σ : mh_H} (hi : i.toInt = 6 * (k : Int)) (hk : 6 * k + 6 ≤ L) (hI : mh_I (60 * (k : Int)) (60 * (k : Int)) σ) (hT : rl_N σ) (hR : cells ≤ 103) (kk : ∀ σ2 : mh_H, mh_I (60 * ((k : Int) + 1)) (60 * ((k : Int) + 1)) σ2 → rl_N σ2 → mh_W G (lx_X l b L xs n0 cells slots) (mM_L nm) 1301 (lx_lv G b i) [] σ2) : mh_W G (lx_X l b L xs n0 cells slots) (mM_L nm) 412 (lx_lv G b i) [] σ := by
  refine mw_aload_n 413 rfl 2 dL_law_412 rfl rfl ?_
  refine lx_arg hi hk hL 1 1 rfl (by decide) 418 rfl (by decide) dL_law_413 dL_law_414 dL_law_415 dL_law_416 dL_law_417 ?_
  refine lx_arg hi hk hL 2 2 rfl (by decide) 423 rfl (by decide) dL_law_418 dL_law_419 dL_law_420 dL_law_421 dL_law_422 ?_
  refine lx_arg hi hk hL 3 3 rfl (by decide) 428 rfl (by decide) dL_law_423 dL_law_424 dL_law_425 dL_law_426 dL_law_427 ?_
  refine mw_callVi [.int (xs (6 * k + 1)), .int (xs (6 * k + 2)), .int (xs (6 * k + 3))] [] 431 rfl dL_law_428 ml_L_41 mc_X9_cell mk_X9_cell rfl rfl (by decide) (w_X9_cell l G 0 (B := 60 * (k : Int)) (D := 60 * (k : Int)) ⟨by omega, by omega⟩ hI (xs (6 * k + 1)) (xs (6 * k + 2)) (xs (6 * k + 3))) rfl rfl (Nat.le_of_ble_eq_true rfl) ⟨Nat.le_of_ble_eq_true rfl, Nat.le_of_ble_eq_true rfl⟩ (fun z0 s0 y0 => ?_)
  obtain ⟨-, hI0, hF0⟩ := y0
  have hT4 := rl_N_keep hF0 (by decide +kernel) hT
  refine mw_pop 432 rfl dL_law_431 rfl ?_
  refine mw_aload_n 433 rfl 1 dL_law_432 rfl rfl ?_
  refine lx_arg hi hk hL 1 1 rfl (by decide) 438 rfl (by decide) dL_law_433 dL_law_434 dL_law_435 dL_law_436 dL_law_437 ?_
  refine lx_arg hi hk hL 2 2 rfl (by decide) 443 rfl (by decide) dL_law_438 dL_law_439 dL_law_440 dL_law_441 dL_law_442 ?_
  refine lx_arg hi hk hL 3 3 rfl (by decide) 448 rfl (by decide) dL_law_443 dL_law_444 dL_law_445 dL_law_446 dL_law_447 ?_
  refine mw_callVi [.int (xs (6 * k + 1)), .int (xs (6 * k + 2)), .int (xs (6 * k + 3))] [] 451 rfl dL_law_448 ml_L_45 mc_X10_cell mk_X10_cell rfl rfl (by decide) (w_X10_cell l G 0 (B := 60 * (k : Int)) (D := 60 * (k : Int)) ⟨by omega, by omega⟩ hI0 (xs (6 * k + 1)) (xs (6 * k + 2)) (xs (6 * k + 3))) rfl rfl (Nat.le_of_ble_eq_true rfl) ⟨Nat.le_of_ble_eq_true rfl, Nat.le_of_ble_eq_true rfl⟩ (fun z1 s1 y1 => ?_)
  obtain ⟨-, hI1, hF1⟩ := y1
  have hT5 := rl_N_keep hF1 (by decide +kernel) hT4
  refine mw_pop 452 rfl dL_law_451 rfl ?_
  refine mw_goto 455 rfl 1301 dL_law_452 (by decide) ?_
  exact kk _ (mh_I_mono hI1 (by omega) (by omega)) hT5
set_option maxRecDepth 100000 in
set_option maxHeartbeats 4000000 in
theorem lx_c455 {l : Launch} {nm : String} {G : mh_G} {b L : Nat} {xs : Nat → Int32} {n0 cells slots : Nat} (hL : L ≤ 3072) {k : Nat} {i : Int32} {σ : mh_H} (hi : i.toInt = 6 * (k : Int)) (hk : 6 * k + 6 ≤ L) (hI : mh_I (60 * (k : Int)) (60 * (k : Int)) σ) (hT : rl_N σ) (hR : cells ≤ 103) (kk : ∀ σ2 : mh_H, mh_I (60 * ((k : Int) + 1)) (60 * ((k : Int) + 1)) σ2 → rl_N σ2 → mh_W G (lx_X l b L xs n0 cells slots) (mM_L nm) 1301 (lx_lv G b i) [] σ2) : mh_W G (lx_X l b L xs n0 cells slots) (mM_L nm) 455 (lx_lv G b i) [] σ := by
  refine mw_aload_n 456 rfl 2 dL_law_455 rfl rfl ?_
  refine lx_arg hi hk hL 1 1 rfl (by decide) 461 rfl (by decide) dL_law_456 dL_law_457 dL_law_458 dL_law_459 dL_law_460 ?_
  refine mw_callVi [.int (xs (6 * k + 1))] [] 464 rfl dL_law_461 ml_L_46 mc_X9_sums mk_X9_sums rfl rfl (by decide) (w_X9_sums l G 0 (B := 60 * (k : Int)) (D := 60 * (k : Int)) ⟨by omega, by omega⟩ hI (xs (6 * k + 1))) rfl rfl (Nat.le_of_ble_eq_true rfl) ⟨Nat.le_of_ble_eq_true rfl, Nat.le_of_ble_eq_true rfl⟩ (fun z0 s0 y0 => ?_)
  obtain ⟨-, hI0, hF0⟩ := y0
  have hT4 := rl_N_keep hF0 (by decide +kernel) hT
  refine mw_pop 465 rfl dL_law_464 rfl ?_
  refine mw_aload_n 466 rfl 1 dL_law_465 rfl rfl ?_
  refine lx_arg hi hk hL 1 1 rfl (by decide) 471 rfl (by decide) dL_law_466 dL_law_467 dL_law_468 dL_law_469 dL_law_470 ?_
  refine mw_callVi [.int (xs (6 * k + 1))] [] 474 rfl dL_law_471 ml_L_49 mc_X10_sums mk_X10_sums rfl rfl (by decide) (w_X10_sums l G 0 (B := 60 * (k : Int)) (D := 60 * (k : Int)) ⟨by omega, by omega⟩ hI0 (xs (6 * k + 1))) rfl rfl (Nat.le_of_ble_eq_true rfl) ⟨Nat.le_of_ble_eq_true rfl, Nat.le_of_ble_eq_true rfl⟩ (fun z1 s1 y1 => ?_)
  obtain ⟨-, hI1, hF1⟩ := y1
  have hT5 := rl_N_keep hF1 (by decide +kernel) hT4
  refine mw_pop 475 rfl dL_law_474 rfl ?_
  refine mw_goto 478 rfl 1301 dL_law_475 (by decide) ?_
  exact kk _ (mh_I_mono hI1 (by omega) (by omega)) hT5
set_option maxRecDepth 100000 in
set_option maxHeartbeats 4000000 in
theorem lx_c478 {l : Launch} {nm : String} {G : mh_G} {b L : Nat} {xs : Nat → Int32} {n0 cells slots : Nat} (hL : L ≤ 3072) {k : Nat} {i : Int32} {σ : mh_H} (hi : i.toInt = 6 * (k : Int)) (hk : 6 * k + 6 ≤ L) (hI : mh_I (60 * (k : Int)) (60 * (k : Int)) σ) (hT : rl_N σ) (hR : cells ≤ 103) (kk : ∀ σ2 : mh_H, mh_I (60 * ((k : Int) + 1)) (60 * ((k : Int) + 1)) σ2 → rl_N σ2 → mh_W G (lx_X l b L xs n0 cells slots) (mM_L nm) 1301 (lx_lv G b i) [] σ2) : mh_W G (lx_X l b L xs n0 cells slots) (mM_L nm) 478 (lx_lv G b i) [] σ := by
  refine mw_aload_n 479 rfl 2 dL_law_478 rfl rfl ?_
  refine lx_arg hi hk hL 1 1 rfl (by decide) 484 rfl (by decide) dL_law_479 dL_law_480 dL_law_481 dL_law_482 dL_law_483 ?_
  refine lx_arg hi hk hL 2 2 rfl (by decide) 489 rfl (by decide) dL_law_484 dL_law_485 dL_law_486 dL_law_487 dL_law_488 ?_
  refine mw_callVi [.int (xs (6 * k + 1)), .int (xs (6 * k + 2))] [] 492 rfl dL_law_489 ml_L_50 mc_X9_night mk_X9_night rfl rfl (by decide) (w_X9_night l G 0 (B := 60 * (k : Int)) (D := 60 * (k : Int)) ⟨by omega, by omega⟩ hI (xs (6 * k + 1)) (xs (6 * k + 2))) rfl rfl (Nat.le_of_ble_eq_true rfl) ⟨Nat.le_of_ble_eq_true rfl, Nat.le_of_ble_eq_true rfl⟩ (fun z0 s0 y0 => ?_)
  obtain ⟨-, hI0, hF0⟩ := y0
  have hT4 := rl_N_keep hF0 (by decide +kernel) hT
  refine mw_pop 493 rfl dL_law_492 rfl ?_
  refine mw_aload_n 494 rfl 1 dL_law_493 rfl rfl ?_
  refine lx_arg hi hk hL 1 1 rfl (by decide) 499 rfl (by decide) dL_law_494 dL_law_495 dL_law_496 dL_law_497 dL_law_498 ?_
  refine lx_arg hi hk hL 2 2 rfl (by decide) 504 rfl (by decide) dL_law_499 dL_law_500 dL_law_501 dL_law_502 dL_law_503 ?_
  refine mw_callVi [.int (xs (6 * k + 1)), .int (xs (6 * k + 2))] [] 507 rfl dL_law_504 ml_L_54 mc_X10_night mk_X10_night rfl rfl (by decide) (w_X10_night l G 0 (B := 60 * (k : Int)) (D := 60 * (k : Int)) ⟨by omega, by omega⟩ hI0 (xs (6 * k + 1)) (xs (6 * k + 2))) rfl rfl (Nat.le_of_ble_eq_true rfl) ⟨Nat.le_of_ble_eq_true rfl, Nat.le_of_ble_eq_true rfl⟩ (fun z1 s1 y1 => ?_)
  obtain ⟨-, hI1, hF1⟩ := y1
  have hT5 := rl_N_keep hF1 (by decide +kernel) hT4
  refine mw_pop 508 rfl dL_law_507 rfl ?_
  refine mw_goto 511 rfl 1301 dL_law_508 (by decide) ?_
  exact kk _ (mh_I_mono hI1 (by omega) (by omega)) hT5
set_option maxRecDepth 100000 in
set_option maxHeartbeats 4000000 in
theorem lx_c511 {l : Launch} {nm : String} {G : mh_G} {b L : Nat} {xs : Nat → Int32} {n0 cells slots : Nat} (hL : L ≤ 3072) {k : Nat} {i : Int32} {σ : mh_H} (hi : i.toInt = 6 * (k : Int)) (hk : 6 * k + 6 ≤ L) (hI : mh_I (60 * (k : Int)) (60 * (k : Int)) σ) (hT : rl_N σ) (hR : cells ≤ 103) (kk : ∀ σ2 : mh_H, mh_I (60 * ((k : Int) + 1)) (60 * ((k : Int) + 1)) σ2 → rl_N σ2 → mh_W G (lx_X l b L xs n0 cells slots) (mM_L nm) 1301 (lx_lv G b i) [] σ2) : mh_W G (lx_X l b L xs n0 cells slots) (mM_L nm) 511 (lx_lv G b i) [] σ := by
  refine mw_aload_n 512 rfl 2 dL_law_511 rfl rfl ?_
  refine lx_arg hi hk hL 1 1 rfl (by decide) 517 rfl (by decide) dL_law_512 dL_law_513 dL_law_514 dL_law_515 dL_law_516 ?_
  refine lx_arg hi hk hL 2 2 rfl (by decide) 522 rfl (by decide) dL_law_517 dL_law_518 dL_law_519 dL_law_520 dL_law_521 ?_
  refine lx_arg hi hk hL 3 3 rfl (by decide) 527 rfl (by decide) dL_law_522 dL_law_523 dL_law_524 dL_law_525 dL_law_526 ?_
  refine lx_arg hi hk hL 4 4 rfl (by decide) 532 rfl (by decide) dL_law_527 dL_law_528 dL_law_529 dL_law_530 dL_law_531 ?_
  refine mw_callVi [.int (xs (6 * k + 1)), .int (xs (6 * k + 2)), .int (xs (6 * k + 3)), .int (xs (6 * k + 4))] [] 535 rfl dL_law_532 ml_L_55 mc_X9_sun mk_X9_sun rfl rfl (by decide) (w_X9_sun l G 0 (B := 60 * (k : Int)) (D := 60 * (k : Int)) ⟨by omega, by omega⟩ hI (xs (6 * k + 1)) (xs (6 * k + 2)) (xs (6 * k + 3)) (xs (6 * k + 4))) rfl rfl (Nat.le_of_ble_eq_true rfl) ⟨Nat.le_of_ble_eq_true rfl, Nat.le_of_ble_eq_true rfl⟩ (fun z0 s0 y0 => ?_)
  obtain ⟨-, hI0, hF0⟩ := y0
  have hT4 := rl_N_keep hF0 (by decide +kernel) hT
  refine mw_pop 536 rfl dL_law_535 rfl ?_
  refine mw_aload_n 537 rfl 1 dL_law_536 rfl rfl ?_
  refine lx_arg hi hk hL 1 1 rfl (by decide) 542 rfl (by decide) dL_law_537 dL_law_538 dL_law_539 dL_law_540 dL_law_541 ?_
  refine lx_arg hi hk hL 2 2 rfl (by decide) 547 rfl (by decide) dL_law_542 dL_law_543 dL_law_544 dL_law_545 dL_law_546 ?_
  refine lx_arg hi hk hL 3 3 rfl (by decide) 552 rfl (by decide) dL_law_547 dL_law_548 dL_law_549 dL_law_550 dL_law_551 ?_
  refine lx_arg hi hk hL 4 4 rfl (by decide) 557 rfl (by decide) dL_law_552 dL_law_553 dL_law_554 dL_law_555 dL_law_556 ?_
  refine mw_callVi [.int (xs (6 * k + 1)), .int (xs (6 * k + 2)), .int (xs (6 * k + 3)), .int (xs (6 * k + 4))] [] 560 rfl dL_law_557 ml_L_59 mc_X10_sun mk_X10_sun rfl rfl (by decide) (w_X10_sun l G 0 (B := 60 * (k : Int)) (D := 60 * (k : Int)) ⟨by omega, by omega⟩ hI0 (xs (6 * k + 1)) (xs (6 * k + 2)) (xs (6 * k + 3)) (xs (6 * k + 4))) rfl rfl (Nat.le_of_ble_eq_true rfl) ⟨Nat.le_of_ble_eq_true rfl, Nat.le_of_ble_eq_true rfl⟩ (fun z1 s1 y1 => ?_)
  obtain ⟨-, hI1, hF1⟩ := y1
  have hT5 := rl_N_keep hF1 (by decide +kernel) hT4
  refine mw_pop 561 rfl dL_law_560 rfl ?_
  refine mw_goto 564 rfl 1301 dL_law_561 (by decide) ?_
  exact kk _ (mh_I_mono hI1 (by omega) (by omega)) hT5
set_option maxRecDepth 100000 in
set_option maxHeartbeats 4000000 in
theorem lx_c564 {l : Launch} {nm : String} {G : mh_G} {b L : Nat} {xs : Nat → Int32} {n0 cells slots : Nat} (hL : L ≤ 3072) {k : Nat} {i : Int32} {σ : mh_H} (hi : i.toInt = 6 * (k : Int)) (hk : 6 * k + 6 ≤ L) (hI : mh_I (60 * (k : Int)) (60 * (k : Int)) σ) (hT : rl_N σ) (hR : cells ≤ 103) (kk : ∀ σ2 : mh_H, mh_I (60 * ((k : Int) + 1)) (60 * ((k : Int) + 1)) σ2 → rl_N σ2 → mh_W G (lx_X l b L xs n0 cells slots) (mM_L nm) 1301 (lx_lv G b i) [] σ2) : mh_W G (lx_X l b L xs n0 cells slots) (mM_L nm) 564 (lx_lv G b i) [] σ := by
  refine mw_aload_n 565 rfl 2 dL_law_564 rfl rfl ?_
  refine lx_arg hi hk hL 1 1 rfl (by decide) 570 rfl (by decide) dL_law_565 dL_law_566 dL_law_567 dL_law_568 dL_law_569 ?_
  refine lx_arg hi hk hL 2 2 rfl (by decide) 575 rfl (by decide) dL_law_570 dL_law_571 dL_law_572 dL_law_573 dL_law_574 ?_
  refine mw_callVi [.int (xs (6 * k + 1)), .int (xs (6 * k + 2))] [] 578 rfl dL_law_575 ml_L_60 mc_X9_band mk_X9_band rfl rfl (by decide) (w_X9_band l G 0 (B := 60 * (k : Int)) (D := 60 * (k : Int)) ⟨by omega, by omega⟩ hI (xs (6 * k + 1)) (xs (6 * k + 2))) rfl rfl (Nat.le_of_ble_eq_true rfl) ⟨Nat.le_of_ble_eq_true rfl, Nat.le_of_ble_eq_true rfl⟩ (fun z0 s0 y0 => ?_)
  obtain ⟨-, hI0, hF0⟩ := y0
  have hT4 := rl_N_keep hF0 (by decide +kernel) hT
  refine mw_pop 579 rfl dL_law_578 rfl ?_
  refine mw_aload_n 580 rfl 1 dL_law_579 rfl rfl ?_
  refine lx_arg hi hk hL 1 1 rfl (by decide) 585 rfl (by decide) dL_law_580 dL_law_581 dL_law_582 dL_law_583 dL_law_584 ?_
  refine lx_arg hi hk hL 2 2 rfl (by decide) 590 rfl (by decide) dL_law_585 dL_law_586 dL_law_587 dL_law_588 dL_law_589 ?_
  refine mw_callVi [.int (xs (6 * k + 1)), .int (xs (6 * k + 2))] [] 593 rfl dL_law_590 ml_L_63 mc_X10_band mk_X10_band rfl rfl (by decide) (w_X10_band l G 0 (B := 60 * (k : Int)) (D := 60 * (k : Int)) ⟨by omega, by omega⟩ hI0 (xs (6 * k + 1)) (xs (6 * k + 2))) rfl rfl (Nat.le_of_ble_eq_true rfl) ⟨Nat.le_of_ble_eq_true rfl, Nat.le_of_ble_eq_true rfl⟩ (fun z1 s1 y1 => ?_)
  obtain ⟨-, hI1, hF1⟩ := y1
  have hT5 := rl_N_keep hF1 (by decide +kernel) hT4
  refine mw_pop 594 rfl dL_law_593 rfl ?_
  refine mw_goto 597 rfl 1301 dL_law_594 (by decide) ?_
  exact kk _ (mh_I_mono hI1 (by omega) (by omega)) hT5
set_option maxRecDepth 100000 in
set_option maxHeartbeats 4000000 in
theorem lx_c597 {l : Launch} {nm : String} {G : mh_G} {b L : Nat} {xs : Nat → Int32} {n0 cells slots : Nat} (hL : L ≤ 3072) {k : Nat} {i : Int32} {σ : mh_H} (hi : i.toInt = 6 * (k : Int)) (hk : 6 * k + 6 ≤ L) (hI : mh_I (60 * (k : Int)) (60 * (k : Int)) σ) (hT : rl_N σ) (hR : cells ≤ 103) (kk : ∀ σ2 : mh_H, mh_I (60 * ((k : Int) + 1)) (60 * ((k : Int) + 1)) σ2 → rl_N σ2 → mh_W G (lx_X l b L xs n0 cells slots) (mM_L nm) 1301 (lx_lv G b i) [] σ2) : mh_W G (lx_X l b L xs n0 cells slots) (mM_L nm) 597 (lx_lv G b i) [] σ := by
  refine mw_aload_n 598 rfl 2 dL_law_597 rfl rfl ?_
  refine lx_arg hi hk hL 1 1 rfl (by decide) 603 rfl (by decide) dL_law_598 dL_law_599 dL_law_600 dL_law_601 dL_law_602 ?_
  refine lx_arg hi hk hL 2 2 rfl (by decide) 608 rfl (by decide) dL_law_603 dL_law_604 dL_law_605 dL_law_606 dL_law_607 ?_
  refine lx_arg hi hk hL 3 3 rfl (by decide) 613 rfl (by decide) dL_law_608 dL_law_609 dL_law_610 dL_law_611 dL_law_612 ?_
  refine lx_arg hi hk hL 4 4 rfl (by decide) 618 rfl (by decide) dL_law_613 dL_law_614 dL_law_615 dL_law_616 dL_law_617 ?_
  refine mw_callVi [.int (xs (6 * k + 1)), .int (xs (6 * k + 2)), .int (xs (6 * k + 3)), .int (xs (6 * k + 4))] [] 621 rfl dL_law_618 ml_L_64 mc_X9_works mk_X9_works rfl rfl (by decide) (w_X9_works l G 0 (B := 60 * (k : Int)) (D := 60 * (k : Int)) ⟨by omega, by omega⟩ hI (xs (6 * k + 1)) (xs (6 * k + 2)) (xs (6 * k + 3)) (xs (6 * k + 4))) rfl rfl (Nat.le_of_ble_eq_true rfl) ⟨Nat.le_of_ble_eq_true rfl, Nat.le_of_ble_eq_true rfl⟩ (fun z0 s0 y0 => ?_)
  obtain ⟨-, hI0, hF0⟩ := y0
  have hT4 := rl_N_keep hF0 (by decide +kernel) hT
  refine mw_pop 622 rfl dL_law_621 rfl ?_
  refine mw_aload_n 623 rfl 1 dL_law_622 rfl rfl ?_
  refine lx_arg hi hk hL 1 1 rfl (by decide) 628 rfl (by decide) dL_law_623 dL_law_624 dL_law_625 dL_law_626 dL_law_627 ?_
  refine lx_arg hi hk hL 2 2 rfl (by decide) 633 rfl (by decide) dL_law_628 dL_law_629 dL_law_630 dL_law_631 dL_law_632 ?_
  refine lx_arg hi hk hL 3 3 rfl (by decide) 638 rfl (by decide) dL_law_633 dL_law_634 dL_law_635 dL_law_636 dL_law_637 ?_
  refine lx_arg hi hk hL 4 4 rfl (by decide) 643 rfl (by decide) dL_law_638 dL_law_639 dL_law_640 dL_law_641 dL_law_642 ?_
  refine mw_callVi [.int (xs (6 * k + 1)), .int (xs (6 * k + 2)), .int (xs (6 * k + 3)), .int (xs (6 * k + 4))] [] 646 rfl dL_law_643 ml_L_67 mc_X10_works mk_X10_works rfl rfl (by decide) (w_X10_works l G 0 (B := 60 * (k : Int)) (D := 60 * (k : Int)) ⟨by omega, by omega⟩ hI0 (xs (6 * k + 1)) (xs (6 * k + 2)) (xs (6 * k + 3)) (xs (6 * k + 4))) rfl rfl (Nat.le_of_ble_eq_true rfl) ⟨Nat.le_of_ble_eq_true rfl, Nat.le_of_ble_eq_true rfl⟩ (fun z1 s1 y1 => ?_)
  obtain ⟨-, hI1, hF1⟩ := y1
  have hT5 := rl_N_keep hF1 (by decide +kernel) hT4
  refine mw_pop 647 rfl dL_law_646 rfl ?_
  refine mw_goto 650 rfl 1301 dL_law_647 (by decide) ?_
  exact kk _ (mh_I_mono hI1 (by omega) (by omega)) hT5
set_option maxRecDepth 100000 in
set_option maxHeartbeats 4000000 in
theorem lx_c650 {l : Launch} {nm : String} {G : mh_G} {b L : Nat} {xs : Nat → Int32} {n0 cells slots : Nat} (hL : L ≤ 3072) {k : Nat} {i : Int32} {σ : mh_H} (hi : i.toInt = 6 * (k : Int)) (hk : 6 * k + 6 ≤ L) (hI : mh_I (60 * (k : Int)) (60 * (k : Int)) σ) (hT : rl_N σ) (hR : cells ≤ 103) (kk : ∀ σ2 : mh_H, mh_I (60 * ((k : Int) + 1)) (60 * ((k : Int) + 1)) σ2 → rl_N σ2 → mh_W G (lx_X l b L xs n0 cells slots) (mM_L nm) 1301 (lx_lv G b i) [] σ2) : mh_W G (lx_X l b L xs n0 cells slots) (mM_L nm) 650 (lx_lv G b i) [] σ := by
  refine mw_aload_n 651 rfl 2 dL_law_650 rfl rfl ?_
  refine lx_arg hi hk hL 1 1 rfl (by decide) 656 rfl (by decide) dL_law_651 dL_law_652 dL_law_653 dL_law_654 dL_law_655 ?_
  refine lx_arg hi hk hL 2 2 rfl (by decide) 661 rfl (by decide) dL_law_656 dL_law_657 dL_law_658 dL_law_659 dL_law_660 ?_
  refine lx_arg hi hk hL 3 3 rfl (by decide) 666 rfl (by decide) dL_law_661 dL_law_662 dL_law_663 dL_law_664 dL_law_665 ?_
  refine mw_callVi [.int (xs (6 * k + 1)), .int (xs (6 * k + 2)), .int (xs (6 * k + 3))] [] 669 rfl dL_law_666 ml_L_68 mc_X9_dam mk_X9_dam rfl rfl (by decide) (w_X9_dam l G 0 (B := 60 * (k : Int)) (D := 60 * (k : Int)) ⟨by omega, by omega⟩ hI (xs (6 * k + 1)) (xs (6 * k + 2)) (xs (6 * k + 3))) rfl rfl (Nat.le_of_ble_eq_true rfl) ⟨Nat.le_of_ble_eq_true rfl, Nat.le_of_ble_eq_true rfl⟩ (fun z0 s0 y0 => ?_)
  obtain ⟨-, hI0, hF0⟩ := y0
  have hT4 := rl_N_keep hF0 (by decide +kernel) hT
  refine mw_pop 670 rfl dL_law_669 rfl ?_
  refine mw_aload_n 671 rfl 1 dL_law_670 rfl rfl ?_
  refine lx_arg hi hk hL 1 1 rfl (by decide) 676 rfl (by decide) dL_law_671 dL_law_672 dL_law_673 dL_law_674 dL_law_675 ?_
  refine lx_arg hi hk hL 2 2 rfl (by decide) 681 rfl (by decide) dL_law_676 dL_law_677 dL_law_678 dL_law_679 dL_law_680 ?_
  refine lx_arg hi hk hL 3 3 rfl (by decide) 686 rfl (by decide) dL_law_681 dL_law_682 dL_law_683 dL_law_684 dL_law_685 ?_
  refine mw_callVi [.int (xs (6 * k + 1)), .int (xs (6 * k + 2)), .int (xs (6 * k + 3))] [] 689 rfl dL_law_686 ml_L_71 mc_X10_dam mk_X10_dam rfl rfl (by decide) (w_X10_dam l G 0 (B := 60 * (k : Int)) (D := 60 * (k : Int)) ⟨by omega, by omega⟩ hI0 (xs (6 * k + 1)) (xs (6 * k + 2)) (xs (6 * k + 3))) rfl rfl (Nat.le_of_ble_eq_true rfl) ⟨Nat.le_of_ble_eq_true rfl, Nat.le_of_ble_eq_true rfl⟩ (fun z1 s1 y1 => ?_)
  obtain ⟨-, hI1, hF1⟩ := y1
  have hT5 := rl_N_keep hF1 (by decide +kernel) hT4
  refine mw_pop 690 rfl dL_law_689 rfl ?_
  refine mw_goto 693 rfl 1301 dL_law_690 (by decide) ?_
  exact kk _ (mh_I_mono hI1 (by omega) (by omega)) hT5
set_option maxRecDepth 100000 in
set_option maxHeartbeats 4000000 in
theorem lx_c693 {l : Launch} {nm : String} {G : mh_G} {b L : Nat} {xs : Nat → Int32} {n0 cells slots : Nat} (hL : L ≤ 3072) {k : Nat} {i : Int32} {σ : mh_H} (hi : i.toInt = 6 * (k : Int)) (hk : 6 * k + 6 ≤ L) (hI : mh_I (60 * (k : Int)) (60 * (k : Int)) σ) (hT : rl_N σ) (hR : cells ≤ 103) (kk : ∀ σ2 : mh_H, mh_I (60 * ((k : Int) + 1)) (60 * ((k : Int) + 1)) σ2 → rl_N σ2 → mh_W G (lx_X l b L xs n0 cells slots) (mM_L nm) 1301 (lx_lv G b i) [] σ2) : mh_W G (lx_X l b L xs n0 cells slots) (mM_L nm) 693 (lx_lv G b i) [] σ := by
  refine mw_aload_n 694 rfl 2 dL_law_693 rfl rfl ?_
  refine lx_arg hi hk hL 1 1 rfl (by decide) 699 rfl (by decide) dL_law_694 dL_law_695 dL_law_696 dL_law_697 dL_law_698 ?_
  refine lx_arg hi hk hL 2 2 rfl (by decide) 704 rfl (by decide) dL_law_699 dL_law_700 dL_law_701 dL_law_702 dL_law_703 ?_
  refine lx_arg hi hk hL 3 3 rfl (by decide) 709 rfl (by decide) dL_law_704 dL_law_705 dL_law_706 dL_law_707 dL_law_708 ?_
  refine lx_arg hi hk hL 4 4 rfl (by decide) 714 rfl (by decide) dL_law_709 dL_law_710 dL_law_711 dL_law_712 dL_law_713 ?_
  refine lx_arg hi hk hL 5 5 rfl (by decide) 719 rfl (by decide) dL_law_714 dL_law_715 dL_law_716 dL_law_717 dL_law_718 ?_
  refine mw_callVi [.int (xs (6 * k + 1)), .int (xs (6 * k + 2)), .int (xs (6 * k + 3)), .int (xs (6 * k + 4)), .int (xs (6 * k + 5))] [] 722 rfl dL_law_719 ml_L_72 mc_X9_road mk_X9_road rfl rfl (by decide) (w_X9_road l G 0 (B := 60 * (k : Int)) (D := 60 * (k : Int)) ⟨by omega, by omega⟩ hI (xs (6 * k + 1)) (xs (6 * k + 2)) (xs (6 * k + 3)) (xs (6 * k + 4)) (xs (6 * k + 5))) rfl rfl (Nat.le_of_ble_eq_true rfl) ⟨Nat.le_of_ble_eq_true rfl, Nat.le_of_ble_eq_true rfl⟩ (fun z0 s0 y0 => ?_)
  obtain ⟨-, hI0, hF0⟩ := y0
  have hT4 := rl_N_keep hF0 (by decide +kernel) hT
  refine mw_pop 723 rfl dL_law_722 rfl ?_
  refine mw_aload_n 724 rfl 1 dL_law_723 rfl rfl ?_
  refine lx_arg hi hk hL 1 1 rfl (by decide) 729 rfl (by decide) dL_law_724 dL_law_725 dL_law_726 dL_law_727 dL_law_728 ?_
  refine lx_arg hi hk hL 2 2 rfl (by decide) 734 rfl (by decide) dL_law_729 dL_law_730 dL_law_731 dL_law_732 dL_law_733 ?_
  refine lx_arg hi hk hL 3 3 rfl (by decide) 739 rfl (by decide) dL_law_734 dL_law_735 dL_law_736 dL_law_737 dL_law_738 ?_
  refine lx_arg hi hk hL 4 4 rfl (by decide) 744 rfl (by decide) dL_law_739 dL_law_740 dL_law_741 dL_law_742 dL_law_743 ?_
  refine lx_arg hi hk hL 5 5 rfl (by decide) 749 rfl (by decide) dL_law_744 dL_law_745 dL_law_746 dL_law_747 dL_law_748 ?_
  refine mw_callVi [.int (xs (6 * k + 1)), .int (xs (6 * k + 2)), .int (xs (6 * k + 3)), .int (xs (6 * k + 4)), .int (xs (6 * k + 5))] [] 752 rfl dL_law_749 ml_L_76 mc_X10_road mk_X10_road rfl rfl (by decide) (w_X10_road l G 0 (B := 60 * (k : Int)) (D := 60 * (k : Int)) ⟨by omega, by omega⟩ hI0 (xs (6 * k + 1)) (xs (6 * k + 2)) (xs (6 * k + 3)) (xs (6 * k + 4)) (xs (6 * k + 5))) rfl rfl (Nat.le_of_ble_eq_true rfl) ⟨Nat.le_of_ble_eq_true rfl, Nat.le_of_ble_eq_true rfl⟩ (fun z1 s1 y1 => ?_)
  obtain ⟨-, hI1, hF1⟩ := y1
  have hT5 := rl_N_keep hF1 (by decide +kernel) hT4
  refine mw_pop 753 rfl dL_law_752 rfl ?_
  refine mw_goto 756 rfl 1301 dL_law_753 (by decide) ?_
  exact kk _ (mh_I_mono hI1 (by omega) (by omega)) hT5
set_option maxRecDepth 100000 in
set_option maxHeartbeats 4000000 in
theorem lx_c756 {l : Launch} {nm : String} {G : mh_G} {b L : Nat} {xs : Nat → Int32} {n0 cells slots : Nat} (hL : L ≤ 3072) {k : Nat} {i : Int32} {σ : mh_H} (hi : i.toInt = 6 * (k : Int)) (hk : 6 * k + 6 ≤ L) (hI : mh_I (60 * (k : Int)) (60 * (k : Int)) σ) (hT : rl_N σ) (hR : cells ≤ 103) (kk : ∀ σ2 : mh_H, mh_I (60 * ((k : Int) + 1)) (60 * ((k : Int) + 1)) σ2 → rl_N σ2 → mh_W G (lx_X l b L xs n0 cells slots) (mM_L nm) 1301 (lx_lv G b i) [] σ2) : mh_W G (lx_X l b L xs n0 cells slots) (mM_L nm) 756 (lx_lv G b i) [] σ := by
  refine mw_aload_n 757 rfl 2 dL_law_756 rfl rfl ?_
  refine lx_arg hi hk hL 1 1 rfl (by decide) 762 rfl (by decide) dL_law_757 dL_law_758 dL_law_759 dL_law_760 dL_law_761 ?_
  refine lx_arg hi hk hL 2 2 rfl (by decide) 767 rfl (by decide) dL_law_762 dL_law_763 dL_law_764 dL_law_765 dL_law_766 ?_
  refine lx_arg hi hk hL 3 3 rfl (by decide) 772 rfl (by decide) dL_law_767 dL_law_768 dL_law_769 dL_law_770 dL_law_771 ?_
  refine lx_arg hi hk hL 4 4 rfl (by decide) 777 rfl (by decide) dL_law_772 dL_law_773 dL_law_774 dL_law_775 dL_law_776 ?_
  refine mw_callVi [.int (xs (6 * k + 1)), .int (xs (6 * k + 2)), .int (xs (6 * k + 3)), .int (xs (6 * k + 4))] [] 780 rfl dL_law_777 ml_L_77 mc_X9_soonest mk_X9_soonest rfl rfl (by decide) (w_X9_soonest l G 0 (B := 60 * (k : Int)) (D := 60 * (k : Int)) ⟨by omega, by omega⟩ hI (xs (6 * k + 1)) (xs (6 * k + 2)) (xs (6 * k + 3)) (xs (6 * k + 4))) rfl rfl (Nat.le_of_ble_eq_true rfl) ⟨Nat.le_of_ble_eq_true rfl, Nat.le_of_ble_eq_true rfl⟩ (fun z0 s0 y0 => ?_)
  obtain ⟨-, hI0, hF0⟩ := y0
  have hT4 := rl_N_keep hF0 (by decide +kernel) hT
  refine mw_pop 781 rfl dL_law_780 rfl ?_
  refine mw_aload_n 782 rfl 1 dL_law_781 rfl rfl ?_
  refine lx_arg hi hk hL 1 1 rfl (by decide) 787 rfl (by decide) dL_law_782 dL_law_783 dL_law_784 dL_law_785 dL_law_786 ?_
  refine lx_arg hi hk hL 2 2 rfl (by decide) 792 rfl (by decide) dL_law_787 dL_law_788 dL_law_789 dL_law_790 dL_law_791 ?_
  refine lx_arg hi hk hL 3 3 rfl (by decide) 797 rfl (by decide) dL_law_792 dL_law_793 dL_law_794 dL_law_795 dL_law_796 ?_
  refine lx_arg hi hk hL 4 4 rfl (by decide) 802 rfl (by decide) dL_law_797 dL_law_798 dL_law_799 dL_law_800 dL_law_801 ?_
  refine mw_callVi [.int (xs (6 * k + 1)), .int (xs (6 * k + 2)), .int (xs (6 * k + 3)), .int (xs (6 * k + 4))] [] 805 rfl dL_law_802 ml_L_80 mc_X10_soonest mk_X10_soonest rfl rfl (by decide) (w_X10_soonest l G 0 (B := 60 * (k : Int)) (D := 60 * (k : Int)) ⟨by omega, by omega⟩ hI0 (xs (6 * k + 1)) (xs (6 * k + 2)) (xs (6 * k + 3)) (xs (6 * k + 4))) rfl rfl (Nat.le_of_ble_eq_true rfl) ⟨Nat.le_of_ble_eq_true rfl, Nat.le_of_ble_eq_true rfl⟩ (fun z1 s1 y1 => ?_)
  obtain ⟨-, hI1, hF1⟩ := y1
  have hT5 := rl_N_keep hF1 (by decide +kernel) hT4
  refine mw_pop 806 rfl dL_law_805 rfl ?_
  refine mw_goto 809 rfl 1301 dL_law_806 (by decide) ?_
  exact kk _ (mh_I_mono hI1 (by omega) (by omega)) hT5
set_option maxRecDepth 100000 in
set_option maxHeartbeats 4000000 in
theorem lx_c809 {l : Launch} {nm : String} {G : mh_G} {b L : Nat} {xs : Nat → Int32} {n0 cells slots : Nat} (hL : L ≤ 3072) {k : Nat} {i : Int32} {σ : mh_H} (hi : i.toInt = 6 * (k : Int)) (hk : 6 * k + 6 ≤ L) (hI : mh_I (60 * (k : Int)) (60 * (k : Int)) σ) (hT : rl_N σ) (hR : cells ≤ 103) (kk : ∀ σ2 : mh_H, mh_I (60 * ((k : Int) + 1)) (60 * ((k : Int) + 1)) σ2 → rl_N σ2 → mh_W G (lx_X l b L xs n0 cells slots) (mM_L nm) 1301 (lx_lv G b i) [] σ2) : mh_W G (lx_X l b L xs n0 cells slots) (mM_L nm) 809 (lx_lv G b i) [] σ := by
  refine mw_aload_n 810 rfl 2 dL_law_809 rfl rfl ?_
  refine lx_arg hi hk hL 1 1 rfl (by decide) 815 rfl (by decide) dL_law_810 dL_law_811 dL_law_812 dL_law_813 dL_law_814 ?_
  refine mw_callVi [.int (xs (6 * k + 1))] [] 818 rfl dL_law_815 ml_L_81 mc_X9_edge mk_X9_edge rfl rfl (by decide) (w_X9_edge l G 0 (B := 60 * (k : Int)) (D := 60 * (k : Int)) ⟨by omega, by omega⟩ hI (xs (6 * k + 1))) rfl rfl (Nat.le_of_ble_eq_true rfl) ⟨Nat.le_of_ble_eq_true rfl, Nat.le_of_ble_eq_true rfl⟩ (fun z0 s0 y0 => ?_)
  obtain ⟨-, hI0, hF0⟩ := y0
  have hT4 := rl_N_keep hF0 (by decide +kernel) hT
  refine mw_pop 819 rfl dL_law_818 rfl ?_
  refine mw_aload_n 820 rfl 1 dL_law_819 rfl rfl ?_
  refine lx_arg hi hk hL 1 1 rfl (by decide) 825 rfl (by decide) dL_law_820 dL_law_821 dL_law_822 dL_law_823 dL_law_824 ?_
  refine mw_callVi [.int (xs (6 * k + 1))] [] 828 rfl dL_law_825 ml_L_84 mc_X10_edge mk_X10_edge rfl rfl (by decide) (w_X10_edge l G 0 (B := 60 * (k : Int)) (D := 60 * (k : Int)) ⟨by omega, by omega⟩ hI0 (xs (6 * k + 1))) rfl rfl (Nat.le_of_ble_eq_true rfl) ⟨Nat.le_of_ble_eq_true rfl, Nat.le_of_ble_eq_true rfl⟩ (fun z1 s1 y1 => ?_)
  obtain ⟨-, hI1, hF1⟩ := y1
  have hT5 := rl_N_keep hF1 (by decide +kernel) hT4
  refine mw_pop 829 rfl dL_law_828 rfl ?_
  refine mw_goto 832 rfl 1301 dL_law_829 (by decide) ?_
  exact kk _ (mh_I_mono hI1 (by omega) (by omega)) hT5
set_option maxRecDepth 100000 in
set_option maxHeartbeats 4000000 in
theorem lx_c832 {l : Launch} {nm : String} {G : mh_G} {b L : Nat} {xs : Nat → Int32} {n0 cells slots : Nat} (hL : L ≤ 3072) {k : Nat} {i : Int32} {σ : mh_H} (hi : i.toInt = 6 * (k : Int)) (hk : 6 * k + 6 ≤ L) (hI : mh_I (60 * (k : Int)) (60 * (k : Int)) σ) (hT : rl_N σ) (hR : cells ≤ 103) (kk : ∀ σ2 : mh_H, mh_I (60 * ((k : Int) + 1)) (60 * ((k : Int) + 1)) σ2 → rl_N σ2 → mh_W G (lx_X l b L xs n0 cells slots) (mM_L nm) 1301 (lx_lv G b i) [] σ2) : mh_W G (lx_X l b L xs n0 cells slots) (mM_L nm) 832 (lx_lv G b i) [] σ := by
  refine mw_aload_n 833 rfl 2 dL_law_832 rfl rfl ?_
  refine lx_arg hi hk hL 1 1 rfl (by decide) 838 rfl (by decide) dL_law_833 dL_law_834 dL_law_835 dL_law_836 dL_law_837 ?_
  refine lx_arg hi hk hL 2 2 rfl (by decide) 843 rfl (by decide) dL_law_838 dL_law_839 dL_law_840 dL_law_841 dL_law_842 ?_
  refine lx_arg hi hk hL 3 3 rfl (by decide) 848 rfl (by decide) dL_law_843 dL_law_844 dL_law_845 dL_law_846 dL_law_847 ?_
  refine lx_arg hi hk hL 4 4 rfl (by decide) 853 rfl (by decide) dL_law_848 dL_law_849 dL_law_850 dL_law_851 dL_law_852 ?_
  refine lx_arg hi hk hL 5 5 rfl (by decide) 858 rfl (by decide) dL_law_853 dL_law_854 dL_law_855 dL_law_856 dL_law_857 ?_
  refine mw_callVi [.int (xs (6 * k + 1)), .int (xs (6 * k + 2)), .int (xs (6 * k + 3)), .int (xs (6 * k + 4)), .int (xs (6 * k + 5))] [] 861 rfl dL_law_858 ml_L_85 mc_X9_was mk_X9_was rfl rfl (by decide) (w_eX9_was l G 0 (B := 60 * (k : Int)) (D := 60 * (k : Int)) ⟨by omega, by omega⟩ hI (xs (6 * k + 1)) (xs (6 * k + 2)) (xs (6 * k + 3)) (xs (6 * k + 4)) (xs (6 * k + 5))) rfl rfl (Nat.le_of_ble_eq_true rfl) ⟨Nat.le_of_ble_eq_true rfl, Nat.le_of_ble_eq_true rfl⟩ (fun z0 s0 y0 => ?_)
  obtain ⟨-, E0, hI0, hF0⟩ := y0
  refine mw_aload_n 862 rfl 1 dL_law_861 rfl rfl ?_
  refine lx_arg hi hk hL 1 1 rfl (by decide) 867 rfl (by decide) dL_law_862 dL_law_863 dL_law_864 dL_law_865 dL_law_866 ?_
  refine lx_arg hi hk hL 2 2 rfl (by decide) 872 rfl (by decide) dL_law_867 dL_law_868 dL_law_869 dL_law_870 dL_law_871 ?_
  refine lx_arg hi hk hL 3 3 rfl (by decide) 877 rfl (by decide) dL_law_872 dL_law_873 dL_law_874 dL_law_875 dL_law_876 ?_
  refine lx_arg hi hk hL 4 4 rfl (by decide) 882 rfl (by decide) dL_law_877 dL_law_878 dL_law_879 dL_law_880 dL_law_881 ?_
  refine lx_arg hi hk hL 5 5 rfl (by decide) 887 rfl (by decide) dL_law_882 dL_law_883 dL_law_884 dL_law_885 dL_law_886 ?_
  refine mw_callVi [.int (xs (6 * k + 1)), .int (xs (6 * k + 2)), .int (xs (6 * k + 3)), .int (xs (6 * k + 4)), .int (xs (6 * k + 5))] [.int z0] 890 rfl dL_law_887 ml_L_88 mc_X10_was mk_X10_was rfl rfl (by decide) (w_eX10_was l G 0 (B := 60 * (k : Int)) (D := 60 * (k : Int)) ⟨by omega, by omega⟩ hI0 (xs (6 * k + 1)) (xs (6 * k + 2)) (xs (6 * k + 3)) (xs (6 * k + 4)) (xs (6 * k + 5))) rfl rfl (Nat.le_of_ble_eq_true rfl) ⟨Nat.le_of_ble_eq_true rfl, Nat.le_of_ble_eq_true rfl⟩ (fun z1 s1 y1 => ?_)
  obtain ⟨-, E1, hI1, hF1⟩ := y1
  have hz := was_N hT E0 E1
  refine mw_icmp_eq 893 rfl 1301 dL_law_890 (by decide) (fun _ => ?_) (fun hne => ?_)
  · exact kk _ (mh_I_mono hI1 (by omega) (by omega)) hz.2
  · exact absurd (congrArg Int32.toInt hz.1) hne
set_option maxRecDepth 100000 in
set_option maxHeartbeats 4000000 in
theorem lx_c895 {l : Launch} {nm : String} {G : mh_G} {b L : Nat} {xs : Nat → Int32} {n0 cells slots : Nat} (hL : L ≤ 3072) {k : Nat} {i : Int32} {σ : mh_H} (hi : i.toInt = 6 * (k : Int)) (hk : 6 * k + 6 ≤ L) (hI : mh_I (60 * (k : Int)) (60 * (k : Int)) σ) (hT : rl_N σ) (hR : cells ≤ 103) (kk : ∀ σ2 : mh_H, mh_I (60 * ((k : Int) + 1)) (60 * ((k : Int) + 1)) σ2 → rl_N σ2 → mh_W G (lx_X l b L xs n0 cells slots) (mM_L nm) 1301 (lx_lv G b i) [] σ2) : mh_W G (lx_X l b L xs n0 cells slots) (mM_L nm) 895 (lx_lv G b i) [] σ := by
  refine mw_aload_n 896 rfl 2 dL_law_895 rfl rfl ?_
  refine lx_arg hi hk hL 1 1 rfl (by decide) 901 rfl (by decide) dL_law_896 dL_law_897 dL_law_898 dL_law_899 dL_law_900 ?_
  refine lx_arg hi hk hL 2 2 rfl (by decide) 906 rfl (by decide) dL_law_901 dL_law_902 dL_law_903 dL_law_904 dL_law_905 ?_
  refine lx_arg hi hk hL 3 3 rfl (by decide) 911 rfl (by decide) dL_law_906 dL_law_907 dL_law_908 dL_law_909 dL_law_910 ?_
  refine lx_arg hi hk hL 4 4 rfl (by decide) 916 rfl (by decide) dL_law_911 dL_law_912 dL_law_913 dL_law_914 dL_law_915 ?_
  refine mw_callVi [.int (xs (6 * k + 1)), .int (xs (6 * k + 2)), .int (xs (6 * k + 3)), .int (xs (6 * k + 4))] [] 919 rfl dL_law_916 ml_L_89 mc_X9_line mk_X9_line rfl rfl (by decide) (w_X9_line l G 0 (B := 60 * (k : Int)) (D := 60 * (k : Int)) ⟨by omega, by omega⟩ hI (xs (6 * k + 1)) (xs (6 * k + 2)) (xs (6 * k + 3)) (xs (6 * k + 4))) rfl rfl (Nat.le_of_ble_eq_true rfl) ⟨Nat.le_of_ble_eq_true rfl, Nat.le_of_ble_eq_true rfl⟩ (fun z0 s0 y0 => ?_)
  obtain ⟨-, rfl⟩ := y0
  refine mw_pop 920 rfl dL_law_919 rfl ?_
  refine mw_aload_n 921 rfl 1 dL_law_920 rfl rfl ?_
  refine lx_arg hi hk hL 1 1 rfl (by decide) 926 rfl (by decide) dL_law_921 dL_law_922 dL_law_923 dL_law_924 dL_law_925 ?_
  refine lx_arg hi hk hL 2 2 rfl (by decide) 931 rfl (by decide) dL_law_926 dL_law_927 dL_law_928 dL_law_929 dL_law_930 ?_
  refine lx_arg hi hk hL 3 3 rfl (by decide) 936 rfl (by decide) dL_law_931 dL_law_932 dL_law_933 dL_law_934 dL_law_935 ?_
  refine lx_arg hi hk hL 4 4 rfl (by decide) 941 rfl (by decide) dL_law_936 dL_law_937 dL_law_938 dL_law_939 dL_law_940 ?_
  refine mw_callVi [.int (xs (6 * k + 1)), .int (xs (6 * k + 2)), .int (xs (6 * k + 3)), .int (xs (6 * k + 4))] [] 944 rfl dL_law_941 ml_L_92 mc_X10_line mk_X10_line rfl rfl (by decide) (w_X10_line l G 0 (B := 60 * (k : Int)) (D := 60 * (k : Int)) ⟨by omega, by omega⟩ hI (xs (6 * k + 1)) (xs (6 * k + 2)) (xs (6 * k + 3)) (xs (6 * k + 4))) rfl rfl (Nat.le_of_ble_eq_true rfl) ⟨Nat.le_of_ble_eq_true rfl, Nat.le_of_ble_eq_true rfl⟩ (fun z1 s1 y1 => ?_)
  obtain ⟨-, rfl⟩ := y1
  refine mw_pop 945 rfl dL_law_944 rfl ?_
  refine mw_goto 948 rfl 1301 dL_law_945 (by decide) ?_
  exact kk _ (mh_I_mono hI (by omega) (by omega)) hT
set_option maxRecDepth 100000 in
set_option maxHeartbeats 4000000 in
theorem lx_c948 {l : Launch} {nm : String} {G : mh_G} {b L : Nat} {xs : Nat → Int32} {n0 cells slots : Nat} (hL : L ≤ 3072) {k : Nat} {i : Int32} {σ : mh_H} (hi : i.toInt = 6 * (k : Int)) (hk : 6 * k + 6 ≤ L) (hI : mh_I (60 * (k : Int)) (60 * (k : Int)) σ) (hT : rl_N σ) (hR : cells ≤ 103) (kk : ∀ σ2 : mh_H, mh_I (60 * ((k : Int) + 1)) (60 * ((k : Int) + 1)) σ2 → rl_N σ2 → mh_W G (lx_X l b L xs n0 cells slots) (mM_L nm) 1301 (lx_lv G b i) [] σ2) : mh_W G (lx_X l b L xs n0 cells slots) (mM_L nm) 948 (lx_lv G b i) [] σ := by
  refine mw_aload_n 949 rfl 2 dL_law_948 rfl rfl ?_
  refine lx_arg hi hk hL 1 1 rfl (by decide) 954 rfl (by decide) dL_law_949 dL_law_950 dL_law_951 dL_law_952 dL_law_953 ?_
  refine lx_arg hi hk hL 2 2 rfl (by decide) 959 rfl (by decide) dL_law_954 dL_law_955 dL_law_956 dL_law_957 dL_law_958 ?_
  refine mw_callVi [.int (xs (6 * k + 1)), .int (xs (6 * k + 2))] [] 962 rfl dL_law_959 ml_L_93 mc_X9_tells mk_X9_tells rfl rfl (by decide) (w_X9_tells l G 0 (B := 60 * (k : Int)) (D := 60 * (k : Int)) ⟨by omega, by omega⟩ hI (xs (6 * k + 1)) (xs (6 * k + 2))) rfl rfl (Nat.le_of_ble_eq_true rfl) ⟨Nat.le_of_ble_eq_true rfl, Nat.le_of_ble_eq_true rfl⟩ (fun z0 s0 y0 => ?_)
  obtain ⟨-, rfl⟩ := y0
  refine mw_pop 963 rfl dL_law_962 rfl ?_
  refine mw_aload_n 964 rfl 1 dL_law_963 rfl rfl ?_
  refine lx_arg hi hk hL 1 1 rfl (by decide) 969 rfl (by decide) dL_law_964 dL_law_965 dL_law_966 dL_law_967 dL_law_968 ?_
  refine lx_arg hi hk hL 2 2 rfl (by decide) 974 rfl (by decide) dL_law_969 dL_law_970 dL_law_971 dL_law_972 dL_law_973 ?_
  refine mw_callVi [.int (xs (6 * k + 1)), .int (xs (6 * k + 2))] [] 977 rfl dL_law_974 ml_L_96 mc_X10_tells mk_X10_tells rfl rfl (by decide) (w_X10_tells l G 0 (B := 60 * (k : Int)) (D := 60 * (k : Int)) ⟨by omega, by omega⟩ hI (xs (6 * k + 1)) (xs (6 * k + 2))) rfl rfl (Nat.le_of_ble_eq_true rfl) ⟨Nat.le_of_ble_eq_true rfl, Nat.le_of_ble_eq_true rfl⟩ (fun z1 s1 y1 => ?_)
  obtain ⟨-, rfl⟩ := y1
  refine mw_pop 978 rfl dL_law_977 rfl ?_
  refine mw_goto 981 rfl 1301 dL_law_978 (by decide) ?_
  exact kk _ (mh_I_mono hI (by omega) (by omega)) hT
set_option maxRecDepth 100000 in
set_option maxHeartbeats 4000000 in
theorem lx_c981 {l : Launch} {nm : String} {G : mh_G} {b L : Nat} {xs : Nat → Int32} {n0 cells slots : Nat} (hL : L ≤ 3072) {k : Nat} {i : Int32} {σ : mh_H} (hi : i.toInt = 6 * (k : Int)) (hk : 6 * k + 6 ≤ L) (hI : mh_I (60 * (k : Int)) (60 * (k : Int)) σ) (hT : rl_N σ) (hR : cells ≤ 103) (kk : ∀ σ2 : mh_H, mh_I (60 * ((k : Int) + 1)) (60 * ((k : Int) + 1)) σ2 → rl_N σ2 → mh_W G (lx_X l b L xs n0 cells slots) (mM_L nm) 1301 (lx_lv G b i) [] σ2) : mh_W G (lx_X l b L xs n0 cells slots) (mM_L nm) 981 (lx_lv G b i) [] σ := by
  refine mw_aload_n 982 rfl 2 dL_law_981 rfl rfl ?_
  refine lx_arg hi hk hL 1 1 rfl (by decide) 987 rfl (by decide) dL_law_982 dL_law_983 dL_law_984 dL_law_985 dL_law_986 ?_
  refine lx_arg hi hk hL 2 2 rfl (by decide) 992 rfl (by decide) dL_law_987 dL_law_988 dL_law_989 dL_law_990 dL_law_991 ?_
  refine mw_callVi [.int (xs (6 * k + 1)), .int (xs (6 * k + 2))] [] 995 rfl dL_law_992 ml_L_97 mc_X9_held mk_X9_held rfl rfl (by decide) (w_X9_held l G 0 (B := 60 * (k : Int)) (D := 60 * (k : Int)) ⟨by omega, by omega⟩ hI (xs (6 * k + 1)) (xs (6 * k + 2))) rfl rfl (Nat.le_of_ble_eq_true rfl) ⟨Nat.le_of_ble_eq_true rfl, Nat.le_of_ble_eq_true rfl⟩ (fun z0 s0 y0 => ?_)
  obtain ⟨-, hI0, hF0⟩ := y0
  have hT4 := rl_N_keep hF0 (by decide +kernel) hT
  refine mw_pop 996 rfl dL_law_995 rfl ?_
  refine mw_aload_n 997 rfl 1 dL_law_996 rfl rfl ?_
  refine lx_arg hi hk hL 1 1 rfl (by decide) 1002 rfl (by decide) dL_law_997 dL_law_998 dL_law_999 dL_law_1000 dL_law_1001 ?_
  refine lx_arg hi hk hL 2 2 rfl (by decide) 1007 rfl (by decide) dL_law_1002 dL_law_1003 dL_law_1004 dL_law_1005 dL_law_1006 ?_
  refine mw_callVi [.int (xs (6 * k + 1)), .int (xs (6 * k + 2))] [] 1010 rfl dL_law_1007 ml_L_100 mc_X10_held mk_X10_held rfl rfl (by decide) (w_X10_held l G 0 (B := 60 * (k : Int)) (D := 60 * (k : Int)) ⟨by omega, by omega⟩ hI0 (xs (6 * k + 1)) (xs (6 * k + 2))) rfl rfl (Nat.le_of_ble_eq_true rfl) ⟨Nat.le_of_ble_eq_true rfl, Nat.le_of_ble_eq_true rfl⟩ (fun z1 s1 y1 => ?_)
  obtain ⟨-, hI1, hF1⟩ := y1
  have hT5 := rl_N_keep hF1 (by decide +kernel) hT4
  refine mw_pop 1011 rfl dL_law_1010 rfl ?_
  refine mw_goto 1014 rfl 1301 dL_law_1011 (by decide) ?_
  exact kk _ (mh_I_mono hI1 (by omega) (by omega)) hT5
set_option maxRecDepth 100000 in
set_option maxHeartbeats 4000000 in
theorem lx_c1014 {l : Launch} {nm : String} {G : mh_G} {b L : Nat} {xs : Nat → Int32} {n0 cells slots : Nat} (hL : L ≤ 3072) {k : Nat} {i : Int32} {σ : mh_H} (hi : i.toInt = 6 * (k : Int)) (hk : 6 * k + 6 ≤ L) (hI : mh_I (60 * (k : Int)) (60 * (k : Int)) σ) (hT : rl_N σ) (hR : cells ≤ 103) (kk : ∀ σ2 : mh_H, mh_I (60 * ((k : Int) + 1)) (60 * ((k : Int) + 1)) σ2 → rl_N σ2 → mh_W G (lx_X l b L xs n0 cells slots) (mM_L nm) 1301 (lx_lv G b i) [] σ2) : mh_W G (lx_X l b L xs n0 cells slots) (mM_L nm) 1014 (lx_lv G b i) [] σ := by
  refine mw_aload_n 1015 rfl 2 dL_law_1014 rfl rfl ?_
  refine lx_arg hi hk hL 1 1 rfl (by decide) 1020 rfl (by decide) dL_law_1015 dL_law_1016 dL_law_1017 dL_law_1018 dL_law_1019 ?_
  refine lx_arg hi hk hL 2 2 rfl (by decide) 1025 rfl (by decide) dL_law_1020 dL_law_1021 dL_law_1022 dL_law_1023 dL_law_1024 ?_
  refine lx_arg hi hk hL 3 3 rfl (by decide) 1030 rfl (by decide) dL_law_1025 dL_law_1026 dL_law_1027 dL_law_1028 dL_law_1029 ?_
  refine lx_arg hi hk hL 4 4 rfl (by decide) 1035 rfl (by decide) dL_law_1030 dL_law_1031 dL_law_1032 dL_law_1033 dL_law_1034 ?_
  refine lx_arg hi hk hL 5 5 rfl (by decide) 1040 rfl (by decide) dL_law_1035 dL_law_1036 dL_law_1037 dL_law_1038 dL_law_1039 ?_
  refine mw_callVi [.int (xs (6 * k + 1)), .int (xs (6 * k + 2)), .int (xs (6 * k + 3)), .int (xs (6 * k + 4)), .int (xs (6 * k + 5))] [] 1043 rfl dL_law_1040 ml_L_101 mc_X9_odds mk_X9_odds rfl rfl (by decide) (w_X9_odds l G 0 (B := 60 * (k : Int)) (D := 60 * (k : Int)) ⟨by omega, by omega⟩ hI (xs (6 * k + 1)) (xs (6 * k + 2)) (xs (6 * k + 3)) (xs (6 * k + 4)) (xs (6 * k + 5))) rfl rfl (Nat.le_of_ble_eq_true rfl) ⟨Nat.le_of_ble_eq_true rfl, Nat.le_of_ble_eq_true rfl⟩ (fun z0 s0 y0 => ?_)
  obtain ⟨-, rfl⟩ := y0
  refine mw_pop 1044 rfl dL_law_1043 rfl ?_
  refine mw_aload_n 1045 rfl 1 dL_law_1044 rfl rfl ?_
  refine lx_arg hi hk hL 1 1 rfl (by decide) 1050 rfl (by decide) dL_law_1045 dL_law_1046 dL_law_1047 dL_law_1048 dL_law_1049 ?_
  refine lx_arg hi hk hL 2 2 rfl (by decide) 1055 rfl (by decide) dL_law_1050 dL_law_1051 dL_law_1052 dL_law_1053 dL_law_1054 ?_
  refine lx_arg hi hk hL 3 3 rfl (by decide) 1060 rfl (by decide) dL_law_1055 dL_law_1056 dL_law_1057 dL_law_1058 dL_law_1059 ?_
  refine lx_arg hi hk hL 4 4 rfl (by decide) 1065 rfl (by decide) dL_law_1060 dL_law_1061 dL_law_1062 dL_law_1063 dL_law_1064 ?_
  refine lx_arg hi hk hL 5 5 rfl (by decide) 1070 rfl (by decide) dL_law_1065 dL_law_1066 dL_law_1067 dL_law_1068 dL_law_1069 ?_
  refine mw_callVi [.int (xs (6 * k + 1)), .int (xs (6 * k + 2)), .int (xs (6 * k + 3)), .int (xs (6 * k + 4)), .int (xs (6 * k + 5))] [] 1073 rfl dL_law_1070 ml_L_104 mc_X10_odds mk_X10_odds rfl rfl (by decide) (w_X10_odds l G 0 (B := 60 * (k : Int)) (D := 60 * (k : Int)) ⟨by omega, by omega⟩ hI (xs (6 * k + 1)) (xs (6 * k + 2)) (xs (6 * k + 3)) (xs (6 * k + 4)) (xs (6 * k + 5))) rfl rfl (Nat.le_of_ble_eq_true rfl) ⟨Nat.le_of_ble_eq_true rfl, Nat.le_of_ble_eq_true rfl⟩ (fun z1 s1 y1 => ?_)
  obtain ⟨-, rfl⟩ := y1
  refine mw_pop 1074 rfl dL_law_1073 rfl ?_
  refine mw_goto 1077 rfl 1301 dL_law_1074 (by decide) ?_
  exact kk _ (mh_I_mono hI (by omega) (by omega)) hT
set_option maxRecDepth 100000 in
set_option maxHeartbeats 4000000 in
theorem lx_c1077 {l : Launch} {nm : String} {G : mh_G} {b L : Nat} {xs : Nat → Int32} {n0 cells slots : Nat} (hL : L ≤ 3072) {k : Nat} {i : Int32} {σ : mh_H} (hi : i.toInt = 6 * (k : Int)) (hk : 6 * k + 6 ≤ L) (hI : mh_I (60 * (k : Int)) (60 * (k : Int)) σ) (hT : rl_N σ) (hR : cells ≤ 103) (kk : ∀ σ2 : mh_H, mh_I (60 * ((k : Int) + 1)) (60 * ((k : Int) + 1)) σ2 → rl_N σ2 → mh_W G (lx_X l b L xs n0 cells slots) (mM_L nm) 1301 (lx_lv G b i) [] σ2) : mh_W G (lx_X l b L xs n0 cells slots) (mM_L nm) 1077 (lx_lv G b i) [] σ := by
  refine mw_aload_n 1078 rfl 2 dL_law_1077 rfl rfl ?_
  refine lx_arg hi hk hL 1 1 rfl (by decide) 1083 rfl (by decide) dL_law_1078 dL_law_1079 dL_law_1080 dL_law_1081 dL_law_1082 ?_
  refine lx_arg hi hk hL 2 2 rfl (by decide) 1088 rfl (by decide) dL_law_1083 dL_law_1084 dL_law_1085 dL_law_1086 dL_law_1087 ?_
  refine lx_arg hi hk hL 3 3 rfl (by decide) 1093 rfl (by decide) dL_law_1088 dL_law_1089 dL_law_1090 dL_law_1091 dL_law_1092 ?_
  refine mw_callVi [.int (xs (6 * k + 1)), .int (xs (6 * k + 2)), .int (xs (6 * k + 3))] [] 1096 rfl dL_law_1093 ml_L_105 mc_X9_when mk_X9_when rfl rfl (by decide) (w_X9_when l G 0 (B := 60 * (k : Int)) (D := 60 * (k : Int)) ⟨by omega, by omega⟩ hI (xs (6 * k + 1)) (xs (6 * k + 2)) (xs (6 * k + 3))) rfl rfl (Nat.le_of_ble_eq_true rfl) ⟨Nat.le_of_ble_eq_true rfl, Nat.le_of_ble_eq_true rfl⟩ (fun z0 s0 y0 => ?_)
  obtain ⟨-, rfl⟩ := y0
  refine mw_pop 1097 rfl dL_law_1096 rfl ?_
  refine mw_aload_n 1098 rfl 1 dL_law_1097 rfl rfl ?_
  refine lx_arg hi hk hL 1 1 rfl (by decide) 1103 rfl (by decide) dL_law_1098 dL_law_1099 dL_law_1100 dL_law_1101 dL_law_1102 ?_
  refine lx_arg hi hk hL 2 2 rfl (by decide) 1108 rfl (by decide) dL_law_1103 dL_law_1104 dL_law_1105 dL_law_1106 dL_law_1107 ?_
  refine lx_arg hi hk hL 3 3 rfl (by decide) 1113 rfl (by decide) dL_law_1108 dL_law_1109 dL_law_1110 dL_law_1111 dL_law_1112 ?_
  refine mw_callVi [.int (xs (6 * k + 1)), .int (xs (6 * k + 2)), .int (xs (6 * k + 3))] [] 1116 rfl dL_law_1113 ml_L_108 mc_X10_when mk_X10_when rfl rfl (by decide) (w_X10_when l G 0 (B := 60 * (k : Int)) (D := 60 * (k : Int)) ⟨by omega, by omega⟩ hI (xs (6 * k + 1)) (xs (6 * k + 2)) (xs (6 * k + 3))) rfl rfl (Nat.le_of_ble_eq_true rfl) ⟨Nat.le_of_ble_eq_true rfl, Nat.le_of_ble_eq_true rfl⟩ (fun z1 s1 y1 => ?_)
  obtain ⟨-, rfl⟩ := y1
  refine mw_pop 1117 rfl dL_law_1116 rfl ?_
  refine mw_goto 1120 rfl 1301 dL_law_1117 (by decide) ?_
  exact kk _ (mh_I_mono hI (by omega) (by omega)) hT
set_option maxRecDepth 100000 in
set_option maxHeartbeats 4000000 in
theorem lx_c1120 {l : Launch} {nm : String} {G : mh_G} {b L : Nat} {xs : Nat → Int32} {n0 cells slots : Nat} (hL : L ≤ 3072) {k : Nat} {i : Int32} {σ : mh_H} (hi : i.toInt = 6 * (k : Int)) (hk : 6 * k + 6 ≤ L) (hI : mh_I (60 * (k : Int)) (60 * (k : Int)) σ) (hT : rl_N σ) (hR : cells ≤ 103) (kk : ∀ σ2 : mh_H, mh_I (60 * ((k : Int) + 1)) (60 * ((k : Int) + 1)) σ2 → rl_N σ2 → mh_W G (lx_X l b L xs n0 cells slots) (mM_L nm) 1301 (lx_lv G b i) [] σ2) : mh_W G (lx_X l b L xs n0 cells slots) (mM_L nm) 1120 (lx_lv G b i) [] σ := by
  refine mw_aload_n 1121 rfl 2 dL_law_1120 rfl rfl ?_
  refine lx_arg hi hk hL 1 1 rfl (by decide) 1126 rfl (by decide) dL_law_1121 dL_law_1122 dL_law_1123 dL_law_1124 dL_law_1125 ?_
  refine lx_arg hi hk hL 2 2 rfl (by decide) 1131 rfl (by decide) dL_law_1126 dL_law_1127 dL_law_1128 dL_law_1129 dL_law_1130 ?_
  refine lx_arg hi hk hL 3 3 rfl (by decide) 1136 rfl (by decide) dL_law_1131 dL_law_1132 dL_law_1133 dL_law_1134 dL_law_1135 ?_
  refine lx_arg hi hk hL 4 4 rfl (by decide) 1141 rfl (by decide) dL_law_1136 dL_law_1137 dL_law_1138 dL_law_1139 dL_law_1140 ?_
  refine mw_callVl [.int (xs (6 * k + 1)), .int (xs (6 * k + 2)), .int (xs (6 * k + 3)), .int (xs (6 * k + 4))] [] 1144 rfl dL_law_1141 ml_L_109 mc_X9_lid mk_X9_lid rfl rfl (by decide) (w_X9_lid l G 0 (B := 60 * (k : Int)) (D := 60 * (k : Int)) ⟨by omega, by omega⟩ hI (xs (6 * k + 1)) (xs (6 * k + 2)) (xs (6 * k + 3)) (xs (6 * k + 4))) rfl rfl (Nat.le_of_ble_eq_true rfl) ⟨Nat.le_of_ble_eq_true rfl, Nat.le_of_ble_eq_true rfl⟩ (fun z0 s0 y0 => ?_)
  obtain ⟨hI0, hF0⟩ := y0
  have hT4 := rl_N_keep hF0 (by decide +kernel) hT
  refine mw_pop2 1145 rfl dL_law_1144 rfl ?_
  refine mw_aload_n 1146 rfl 1 dL_law_1145 rfl rfl ?_
  refine lx_arg hi hk hL 1 1 rfl (by decide) 1151 rfl (by decide) dL_law_1146 dL_law_1147 dL_law_1148 dL_law_1149 dL_law_1150 ?_
  refine lx_arg hi hk hL 2 2 rfl (by decide) 1156 rfl (by decide) dL_law_1151 dL_law_1152 dL_law_1153 dL_law_1154 dL_law_1155 ?_
  refine lx_arg hi hk hL 3 3 rfl (by decide) 1161 rfl (by decide) dL_law_1156 dL_law_1157 dL_law_1158 dL_law_1159 dL_law_1160 ?_
  refine lx_arg hi hk hL 4 4 rfl (by decide) 1166 rfl (by decide) dL_law_1161 dL_law_1162 dL_law_1163 dL_law_1164 dL_law_1165 ?_
  refine mw_callVl [.int (xs (6 * k + 1)), .int (xs (6 * k + 2)), .int (xs (6 * k + 3)), .int (xs (6 * k + 4))] [] 1169 rfl dL_law_1166 ml_L_113 mc_X10_lid mk_X10_lid rfl rfl (by decide) (w_X10_lid l G 0 (B := 60 * (k : Int)) (D := 60 * (k : Int)) ⟨by omega, by omega⟩ hI0 (xs (6 * k + 1)) (xs (6 * k + 2)) (xs (6 * k + 3)) (xs (6 * k + 4))) rfl rfl (Nat.le_of_ble_eq_true rfl) ⟨Nat.le_of_ble_eq_true rfl, Nat.le_of_ble_eq_true rfl⟩ (fun z1 s1 y1 => ?_)
  obtain ⟨hI1, hF1⟩ := y1
  have hT5 := rl_N_keep hF1 (by decide +kernel) hT4
  refine mw_pop2 1170 rfl dL_law_1169 rfl ?_
  refine mw_goto 1173 rfl 1301 dL_law_1170 (by decide) ?_
  exact kk _ (mh_I_mono hI1 (by omega) (by omega)) hT5
set_option maxRecDepth 100000 in
set_option maxHeartbeats 4000000 in
theorem lx_c1173 {l : Launch} {nm : String} {G : mh_G} {b L : Nat} {xs : Nat → Int32} {n0 cells slots : Nat} (hL : L ≤ 3072) {k : Nat} {i : Int32} {σ : mh_H} (hi : i.toInt = 6 * (k : Int)) (hk : 6 * k + 6 ≤ L) (hI : mh_I (60 * (k : Int)) (60 * (k : Int)) σ) (hT : rl_N σ) (hR : cells ≤ 103) (kk : ∀ σ2 : mh_H, mh_I (60 * ((k : Int) + 1)) (60 * ((k : Int) + 1)) σ2 → rl_N σ2 → mh_W G (lx_X l b L xs n0 cells slots) (mM_L nm) 1301 (lx_lv G b i) [] σ2) : mh_W G (lx_X l b L xs n0 cells slots) (mM_L nm) 1173 (lx_lv G b i) [] σ := by
  refine mw_aload_n 1174 rfl 2 dL_law_1173 rfl rfl ?_
  refine lx_arg hi hk hL 1 1 rfl (by decide) 1179 rfl (by decide) dL_law_1174 dL_law_1175 dL_law_1176 dL_law_1177 dL_law_1178 ?_
  refine mw_callVi [.int (xs (6 * k + 1))] [] 1182 rfl dL_law_1179 ml_L_114 mc_X9_seed mk_X9_seed rfl rfl (by decide) (w_X9_seed l G 0 (B := 60 * (k : Int)) (D := 60 * (k : Int)) ⟨by omega, by omega⟩ hI (xs (6 * k + 1))) rfl rfl (Nat.le_of_ble_eq_true rfl) ⟨Nat.le_of_ble_eq_true rfl, Nat.le_of_ble_eq_true rfl⟩ (fun z0 s0 y0 => ?_)
  obtain ⟨-, hI0, hF0⟩ := y0
  have hT4 := rl_N_keep hF0 (by decide +kernel) hT
  refine mw_pop 1183 rfl dL_law_1182 rfl ?_
  refine mw_aload_n 1184 rfl 1 dL_law_1183 rfl rfl ?_
  refine lx_arg hi hk hL 1 1 rfl (by decide) 1189 rfl (by decide) dL_law_1184 dL_law_1185 dL_law_1186 dL_law_1187 dL_law_1188 ?_
  refine mw_callVi [.int (xs (6 * k + 1))] [] 1192 rfl dL_law_1189 ml_L_118 mc_X10_seed mk_X10_seed rfl rfl (by decide) (w_X10_seed l G 0 (B := 60 * (k : Int)) (D := 60 * (k : Int)) ⟨by omega, by omega⟩ hI0 (xs (6 * k + 1))) rfl rfl (Nat.le_of_ble_eq_true rfl) ⟨Nat.le_of_ble_eq_true rfl, Nat.le_of_ble_eq_true rfl⟩ (fun z1 s1 y1 => ?_)
  obtain ⟨-, hI1, hF1⟩ := y1
  have hT5 := rl_N_keep hF1 (by decide +kernel) hT4
  refine mw_pop 1193 rfl dL_law_1192 rfl ?_
  refine mw_goto 1196 rfl 1301 dL_law_1193 (by decide) ?_
  exact kk _ (mh_I_mono hI1 (by omega) (by omega)) hT5
set_option maxRecDepth 100000 in
set_option maxHeartbeats 4000000 in
theorem lx_c1196 {l : Launch} {nm : String} {G : mh_G} {b L : Nat} {xs : Nat → Int32} {n0 cells slots : Nat} (hL : L ≤ 3072) {k : Nat} {i : Int32} {σ : mh_H} (hi : i.toInt = 6 * (k : Int)) (hk : 6 * k + 6 ≤ L) (hI : mh_I (60 * (k : Int)) (60 * (k : Int)) σ) (hT : rl_N σ) (hR : cells ≤ 103) (kk : ∀ σ2 : mh_H, mh_I (60 * ((k : Int) + 1)) (60 * ((k : Int) + 1)) σ2 → rl_N σ2 → mh_W G (lx_X l b L xs n0 cells slots) (mM_L nm) 1301 (lx_lv G b i) [] σ2) : mh_W G (lx_X l b L xs n0 cells slots) (mM_L nm) 1196 (lx_lv G b i) [] σ := by
  refine mw_aload_n 1197 rfl 2 dL_law_1196 rfl rfl ?_
  refine lx_arg hi hk hL 1 1 rfl (by decide) 1202 rfl (by decide) dL_law_1197 dL_law_1198 dL_law_1199 dL_law_1200 dL_law_1201 ?_
  refine mw_callVi [.int (xs (6 * k + 1))] [] 1205 rfl dL_law_1202 ml_L_119 mc_X9_draw mk_X9_draw rfl rfl (by decide) (w_X9_draw l G 0 (B := 60 * (k : Int)) (D := 60 * (k : Int)) ⟨by omega, by omega⟩ hI (xs (6 * k + 1))) rfl rfl (Nat.le_of_ble_eq_true rfl) ⟨Nat.le_of_ble_eq_true rfl, Nat.le_of_ble_eq_true rfl⟩ (fun z0 s0 y0 => ?_)
  obtain ⟨-, hI0, hF0⟩ := y0
  have hT4 := rl_N_keep hF0 (by decide +kernel) hT
  refine mw_pop 1206 rfl dL_law_1205 rfl ?_
  refine mw_aload_n 1207 rfl 1 dL_law_1206 rfl rfl ?_
  refine lx_arg hi hk hL 1 1 rfl (by decide) 1212 rfl (by decide) dL_law_1207 dL_law_1208 dL_law_1209 dL_law_1210 dL_law_1211 ?_
  refine mw_callVi [.int (xs (6 * k + 1))] [] 1215 rfl dL_law_1212 ml_L_122 mc_X10_draw mk_X10_draw rfl rfl (by decide) (w_X10_draw l G 0 (B := 60 * (k : Int)) (D := 60 * (k : Int)) ⟨by omega, by omega⟩ hI0 (xs (6 * k + 1))) rfl rfl (Nat.le_of_ble_eq_true rfl) ⟨Nat.le_of_ble_eq_true rfl, Nat.le_of_ble_eq_true rfl⟩ (fun z1 s1 y1 => ?_)
  obtain ⟨-, hI1, hF1⟩ := y1
  have hT5 := rl_N_keep hF1 (by decide +kernel) hT4
  refine mw_pop 1216 rfl dL_law_1215 rfl ?_
  refine mw_goto 1219 rfl 1301 dL_law_1216 (by decide) ?_
  exact kk _ (mh_I_mono hI1 (by omega) (by omega)) hT5
set_option maxRecDepth 100000 in
set_option maxHeartbeats 4000000 in
theorem lx_c1219 {l : Launch} {nm : String} {G : mh_G} {b L : Nat} {xs : Nat → Int32} {n0 cells slots : Nat} (hL : L ≤ 3072) {k : Nat} {i : Int32} {σ : mh_H} (hi : i.toInt = 6 * (k : Int)) (hk : 6 * k + 6 ≤ L) (hI : mh_I (60 * (k : Int)) (60 * (k : Int)) σ) (hT : rl_N σ) (hR : cells ≤ 103) (kk : ∀ σ2 : mh_H, mh_I (60 * ((k : Int) + 1)) (60 * ((k : Int) + 1)) σ2 → rl_N σ2 → mh_W G (lx_X l b L xs n0 cells slots) (mM_L nm) 1301 (lx_lv G b i) [] σ2) : mh_W G (lx_X l b L xs n0 cells slots) (mM_L nm) 1219 (lx_lv G b i) [] σ := by
  refine mw_aload_n 1220 rfl 2 dL_law_1219 rfl rfl ?_
  refine mw_callVi [] [] 1223 rfl dL_law_1220 ml_L_123 mc_X9_keep mk_X9_keep rfl rfl (by decide) (w_X9_keep l G 0 (B := 60 * (k : Int)) (D := 60 * (k : Int)) ⟨by omega, by omega⟩ hI) rfl rfl (Nat.le_of_ble_eq_true rfl) ⟨Nat.le_of_ble_eq_true rfl, Nat.le_of_ble_eq_true rfl⟩ (fun z0 s0 y0 => ?_)
  obtain ⟨-, hI0, hF0⟩ := y0
  have hT4 := rl_N_keep hF0 (by decide +kernel) hT
  refine mw_pop 1224 rfl dL_law_1223 rfl ?_
  refine mw_aload_n 1225 rfl 1 dL_law_1224 rfl rfl ?_
  refine mw_callVi [] [] 1228 rfl dL_law_1225 ml_L_127 mc_X10_keep mk_X10_keep rfl rfl (by decide) (w_X10_keep l G 0 (B := 60 * (k : Int)) (D := 60 * (k : Int)) ⟨by omega, by omega⟩ hI0) rfl rfl (Nat.le_of_ble_eq_true rfl) ⟨Nat.le_of_ble_eq_true rfl, Nat.le_of_ble_eq_true rfl⟩ (fun z1 s1 y1 => ?_)
  obtain ⟨-, hI1, hF1⟩ := y1
  have hT5 := rl_N_keep hF1 (by decide +kernel) hT4
  refine mw_pop 1229 rfl dL_law_1228 rfl ?_
  refine mw_goto 1232 rfl 1301 dL_law_1229 (by decide) ?_
  exact kk _ (mh_I_mono hI1 (by omega) (by omega)) hT5
set_option maxRecDepth 100000 in
set_option maxHeartbeats 4000000 in
theorem lx_c1232 {l : Launch} {nm : String} {G : mh_G} {b L : Nat} {xs : Nat → Int32} {n0 cells slots : Nat} (hL : L ≤ 3072) {k : Nat} {i : Int32} {σ : mh_H} (hi : i.toInt = 6 * (k : Int)) (hk : 6 * k + 6 ≤ L) (hI : mh_I (60 * (k : Int)) (60 * (k : Int)) σ) (hT : rl_N σ) (hR : cells ≤ 103) (kk : ∀ σ2 : mh_H, mh_I (60 * ((k : Int) + 1)) (60 * ((k : Int) + 1)) σ2 → rl_N σ2 → mh_W G (lx_X l b L xs n0 cells slots) (mM_L nm) 1301 (lx_lv G b i) [] σ2) : mh_W G (lx_X l b L xs n0 cells slots) (mM_L nm) 1232 (lx_lv G b i) [] σ := by
  refine mw_aload_n 1233 rfl 2 dL_law_1232 rfl rfl ?_
  refine mw_callVi [] [] 1236 rfl dL_law_1233 ml_L_128 mc_X9_undo mk_X9_undo rfl rfl (by decide) (w_X9_undo l G 0 (B := 60 * (k : Int)) (D := 60 * (k : Int)) ⟨by omega, by omega⟩ hI) rfl rfl (Nat.le_of_ble_eq_true rfl) ⟨Nat.le_of_ble_eq_true rfl, Nat.le_of_ble_eq_true rfl⟩ (fun z0 s0 y0 => ?_)
  obtain ⟨-, hI0, hF0⟩ := y0
  have hT4 := rl_N_keep hF0 (by decide +kernel) hT
  refine mw_pop 1237 rfl dL_law_1236 rfl ?_
  refine mw_aload_n 1238 rfl 1 dL_law_1237 rfl rfl ?_
  refine mw_callVi [] [] 1241 rfl dL_law_1238 ml_L_132 mc_X10_undo mk_X10_undo rfl rfl (by decide) (w_X10_undo l G 0 (B := 60 * (k : Int)) (D := 60 * (k : Int)) ⟨by omega, by omega⟩ hI0) rfl rfl (Nat.le_of_ble_eq_true rfl) ⟨Nat.le_of_ble_eq_true rfl, Nat.le_of_ble_eq_true rfl⟩ (fun z1 s1 y1 => ?_)
  obtain ⟨-, hI1, hF1⟩ := y1
  have hT5 := rl_N_keep hF1 (by decide +kernel) hT4
  refine mw_pop 1242 rfl dL_law_1241 rfl ?_
  refine mw_goto 1245 rfl 1301 dL_law_1242 (by decide) ?_
  exact kk _ (mh_I_mono hI1 (by omega) (by omega)) hT5
set_option maxRecDepth 100000 in
set_option maxHeartbeats 4000000 in
theorem lx_c1245 {l : Launch} {nm : String} {G : mh_G} {b L : Nat} {xs : Nat → Int32} {n0 cells slots : Nat} (hL : L ≤ 3072) {k : Nat} {i : Int32} {σ : mh_H} (hi : i.toInt = 6 * (k : Int)) (hk : 6 * k + 6 ≤ L) (hI : mh_I (60 * (k : Int)) (60 * (k : Int)) σ) (hT : rl_N σ) (hR : cells ≤ 103) (kk : ∀ σ2 : mh_H, mh_I (60 * ((k : Int) + 1)) (60 * ((k : Int) + 1)) σ2 → rl_N σ2 → mh_W G (lx_X l b L xs n0 cells slots) (mM_L nm) 1301 (lx_lv G b i) [] σ2) : mh_W G (lx_X l b L xs n0 cells slots) (mM_L nm) 1245 (lx_lv G b i) [] σ := by
  refine mw_aload_n 1246 rfl 2 dL_law_1245 rfl rfl ?_
  refine lx_arg hi hk hL 1 1 rfl (by decide) 1251 rfl (by decide) dL_law_1246 dL_law_1247 dL_law_1248 dL_law_1249 dL_law_1250 ?_
  refine lx_arg hi hk hL 2 2 rfl (by decide) 1256 rfl (by decide) dL_law_1251 dL_law_1252 dL_law_1253 dL_law_1254 dL_law_1255 ?_
  refine mw_callVi [.int (xs (6 * k + 1)), .int (xs (6 * k + 2))] [] 1259 rfl dL_law_1256 ml_L_133 mc_X9_check mk_X9_check rfl rfl (by decide) (w_X9_check l G 0 (B := 60 * (k : Int)) (D := 60 * (k : Int)) ⟨by omega, by omega⟩ hI (xs (6 * k + 1)) (xs (6 * k + 2))) rfl rfl (Nat.le_of_ble_eq_true rfl) ⟨Nat.le_of_ble_eq_true rfl, Nat.le_of_ble_eq_true rfl⟩ (fun z0 s0 y0 => ?_)
  obtain ⟨-, hI0, hF0⟩ := y0
  have hT4 := rl_N_keep hF0 (by decide +kernel) hT
  refine mw_pop 1260 rfl dL_law_1259 rfl ?_
  refine mw_aload_n 1261 rfl 1 dL_law_1260 rfl rfl ?_
  refine lx_arg hi hk hL 1 1 rfl (by decide) 1266 rfl (by decide) dL_law_1261 dL_law_1262 dL_law_1263 dL_law_1264 dL_law_1265 ?_
  refine lx_arg hi hk hL 2 2 rfl (by decide) 1271 rfl (by decide) dL_law_1266 dL_law_1267 dL_law_1268 dL_law_1269 dL_law_1270 ?_
  refine mw_callVi [.int (xs (6 * k + 1)), .int (xs (6 * k + 2))] [] 1274 rfl dL_law_1271 ml_L_136 mc_X10_check mk_X10_check rfl rfl (by decide) (w_X10_check l G 0 (B := 60 * (k : Int)) (D := 60 * (k : Int)) ⟨by omega, by omega⟩ hI0 (xs (6 * k + 1)) (xs (6 * k + 2))) rfl rfl (Nat.le_of_ble_eq_true rfl) ⟨Nat.le_of_ble_eq_true rfl, Nat.le_of_ble_eq_true rfl⟩ (fun z1 s1 y1 => ?_)
  obtain ⟨-, hI1, hF1⟩ := y1
  have hT5 := rl_N_keep hF1 (by decide +kernel) hT4
  refine mw_pop 1275 rfl dL_law_1274 rfl ?_
  refine mw_goto 1278 rfl 1301 dL_law_1275 (by decide) ?_
  exact kk _ (mh_I_mono hI1 (by omega) (by omega)) hT5
set_option maxRecDepth 100000 in
set_option maxHeartbeats 4000000 in
theorem lx_c1278 {l : Launch} {nm : String} {G : mh_G} {b L : Nat} {xs : Nat → Int32} {n0 cells slots : Nat} (hL : L ≤ 3072) {k : Nat} {i : Int32} {σ : mh_H} (hi : i.toInt = 6 * (k : Int)) (hk : 6 * k + 6 ≤ L) (hI : mh_I (60 * (k : Int)) (60 * (k : Int)) σ) (hT : rl_N σ) (hR : cells ≤ 103) (kk : ∀ σ2 : mh_H, mh_I (60 * ((k : Int) + 1)) (60 * ((k : Int) + 1)) σ2 → rl_N σ2 → mh_W G (lx_X l b L xs n0 cells slots) (mM_L nm) 1301 (lx_lv G b i) [] σ2) : mh_W G (lx_X l b L xs n0 cells slots) (mM_L nm) 1278 (lx_lv G b i) [] σ := by
  refine mw_aload_n 1279 rfl 2 dL_law_1278 rfl rfl ?_
  refine lx_arg hi hk hL 1 1 rfl (by decide) 1284 rfl (by decide) dL_law_1279 dL_law_1280 dL_law_1281 dL_law_1282 dL_law_1283 ?_
  refine mw_callVi [.int (xs (6 * k + 1))] [] 1287 rfl dL_law_1284 ml_L_137 mc_X9_count mk_X9_count rfl rfl (by decide) (w_X9_count l G 0 (B := 60 * (k : Int)) (D := 60 * (k : Int)) ⟨by omega, by omega⟩ hI (xs (6 * k + 1))) rfl rfl (Nat.le_of_ble_eq_true rfl) ⟨Nat.le_of_ble_eq_true rfl, Nat.le_of_ble_eq_true rfl⟩ (fun z0 s0 y0 => ?_)
  obtain ⟨-, rfl⟩ := y0
  refine mw_pop 1288 rfl dL_law_1287 rfl ?_
  refine mw_aload_n 1289 rfl 1 dL_law_1288 rfl rfl ?_
  refine lx_arg hi hk hL 1 1 rfl (by decide) 1294 rfl (by decide) dL_law_1289 dL_law_1290 dL_law_1291 dL_law_1292 dL_law_1293 ?_
  refine mw_callVi [.int (xs (6 * k + 1))] [] 1297 rfl dL_law_1294 ml_L_140 mc_X10_count mk_X10_count rfl rfl (by decide) (w_X10_count l G 0 (B := 60 * (k : Int)) (D := 60 * (k : Int)) ⟨by omega, by omega⟩ hI (xs (6 * k + 1))) rfl rfl (Nat.le_of_ble_eq_true rfl) ⟨Nat.le_of_ble_eq_true rfl, Nat.le_of_ble_eq_true rfl⟩ (fun z1 s1 y1 => ?_)
  obtain ⟨-, rfl⟩ := y1
  refine mw_pop 1298 rfl dL_law_1297 rfl ?_
  refine mw_goto 1301 rfl 1301 dL_law_1298 (by decide) ?_
  exact kk _ (mh_I_mono hI (by omega) (by omega)) hT
set_option maxRecDepth 100000 in
set_option maxHeartbeats 4000000 in
theorem lx_loop {l : Launch} {nm : String} {G : mh_G} {b L : Nat} {xs : Nat → Int32} {n0 : Nat} (hL : L ≤ 3072) (f : Nat) : ∀ (k : Nat) (i : Int32) (σ : mh_H), i.toInt = 6 * (k : Int) → 6 * k ≤ L → L < 6 * (k + f) → mh_I (60 * (k : Int)) (60 * (k : Int)) σ → rl_N σ → mh_W G (lx_X l b L xs n0 103 13380) (mM_L nm) 18 (lx_lv G b i) [] σ := by
  induction f with
  | zero => intro k i σ hi h1 h2; exfalso; omega
  | succ f ih =>
    intro k i σ hi h1 h2 hI hT
    have hLi : (Int32.ofNat L).toInt = (L : Int) := Int32.toInt_ofNat_of_lt (by omega)
    refine mw_iload_n 19 rfl 0 dL_law_18 rfl rfl ?_
    refine mw_aload_n 20 rfl 3 dL_law_19 rfl rfl ?_
    refine lx_alen 21 rfl dL_law_20 ?_
    refine mw_bipush (v := 6) 23 rfl dL_law_21 (by decide) ?_
    refine mw_isub 24 rfl (-6) 3066 (a := 0) (b := 3072) (c := 6) (e := 6) dL_law_23 ⟨by omega, by omega⟩ ⟨by decide, by decide⟩ (by decide) (fun z hz _ => ?_)
    have h6 : (6 : Int32).toInt = 6 := rfl
    refine mw_icmp_gt 27 rfl 1307 dL_law_24 (by decide) (fun hc => ?_) (fun hc => ?_)
    · refine mw_iconst (v := 1) 1308 rfl dL_law_1307 (by decide) ?_
      exact lx_ret dL_law_1308
    · have hk : 6 * k + 6 ≤ L := by omega
      have hnx : ∀ σ2 : mh_H, mh_I (60 * ((k : Int) + 1)) (60 * ((k : Int) + 1)) σ2 → rl_N σ2 → mh_W G (lx_X l b L xs n0 103 13380) (mM_L nm) 1301 (lx_lv G b i) [] σ2 := fun σ2 h2I h2T => by
        refine mw_iincR (k := 0) 6 3078 (a := 0) (b := 3072) 1304 rfl (fun z => lx_lv G b z) dL_law_1301 rfl (Nat.le_of_ble_eq_true rfl) (fun z => rfl) ⟨by omega, by omega⟩ (by decide) (by decide) (fun z hz _ => ?_)
        refine mw_goto 1307 rfl 18 dL_law_1304 (by decide) ?_
        have e : ((k + 1 : Nat) : Int) = (k : Int) + 1 := by omega
        exact ih (k + 1) z σ2 (by omega) (by omega) (by omega) (by rw [e]; exact h2I) h2T
      refine mw_aload_n 28 rfl 3 dL_law_27 rfl rfl ?_
      refine mw_iload_n 29 rfl 0 dL_law_28 rfl rfl ?_
      refine lx_ld 30 rfl (6 * k) dL_law_29 (by omega) (by omega) ?_
      refine mw_bipush (v := 31) 32 rfl dL_law_30 (by decide) ?_
      refine mw_iand_u 33 rfl dL_law_32 (fun w hw => ?_)
      have hw2 : mh_r w 0 31 := by rw [hw]; exact mh_and31
      rcases (show w.toInt = 0 ∨ w.toInt = 1 ∨ w.toInt = 2 ∨ w.toInt = 3 ∨ w.toInt = 4 ∨ w.toInt = 5 ∨ w.toInt = 6 ∨ w.toInt = 7 ∨ w.toInt = 8 ∨ w.toInt = 9 ∨ w.toInt = 10 ∨ w.toInt = 11 ∨ w.toInt = 12 ∨ w.toInt = 13 ∨ w.toInt = 14 ∨ w.toInt = 15 ∨ w.toInt = 16 ∨ w.toInt = 17 ∨ w.toInt = 18 ∨ w.toInt = 19 ∨ w.toInt = 20 ∨ w.toInt = 21 ∨ w.toInt = 22 ∨ w.toInt = 23 ∨ w.toInt = 24 ∨ w.toInt = 25 ∨ w.toInt = 26 ∨ w.toInt = 27 ∨ w.toInt = 28 ∨ 28 < w.toInt by have := hw2.1; have := hw2.2; omega) with hv | hv | hv | hv | hv | hv | hv | hv | hv | hv | hv | hv | hv | hv | hv | hv | hv | hv | hv | hv | hv | hv | hv | hv | hv | hv | hv | hv | hv | hv
      · exact mw_tabIn 164 dL_law_33 (by rw [hv]; decide) (by rw [hv]; decide) (by rw [hv]; rfl) (by decide) (lx_c164 hL hi hk hI hT (Nat.le_refl _) hnx)
      · exact mw_tabIn 217 dL_law_33 (by rw [hv]; decide) (by rw [hv]; decide) (by rw [hv]; rfl) (by decide) (lx_c217 hL hi hk hI hT (Nat.le_refl _) hnx)
      · exact mw_tabIn 270 dL_law_33 (by rw [hv]; decide) (by rw [hv]; decide) (by rw [hv]; rfl) (by decide) (lx_c270 hL hi hk hI hT (Nat.le_refl _) hnx)
      · exact mw_tabIn 303 dL_law_33 (by rw [hv]; decide) (by rw [hv]; decide) (by rw [hv]; rfl) (by decide) (lx_c303 hL hi hk hI hT (Nat.le_refl _) hnx)
      · exact mw_tabIn 366 dL_law_33 (by rw [hv]; decide) (by rw [hv]; decide) (by rw [hv]; rfl) (by decide) (lx_c366 hL hi hk hI hT (Nat.le_refl _) hnx)
      · exact mw_tabIn 389 dL_law_33 (by rw [hv]; decide) (by rw [hv]; decide) (by rw [hv]; rfl) (by decide) (lx_c389 hL hi hk hI hT (Nat.le_refl _) hnx)
      · exact mw_tabIn 412 dL_law_33 (by rw [hv]; decide) (by rw [hv]; decide) (by rw [hv]; rfl) (by decide) (lx_c412 hL hi hk hI hT (Nat.le_refl _) hnx)
      · exact mw_tabIn 455 dL_law_33 (by rw [hv]; decide) (by rw [hv]; decide) (by rw [hv]; rfl) (by decide) (lx_c455 hL hi hk hI hT (Nat.le_refl _) hnx)
      · exact mw_tabIn 478 dL_law_33 (by rw [hv]; decide) (by rw [hv]; decide) (by rw [hv]; rfl) (by decide) (lx_c478 hL hi hk hI hT (Nat.le_refl _) hnx)
      · exact mw_tabIn 511 dL_law_33 (by rw [hv]; decide) (by rw [hv]; decide) (by rw [hv]; rfl) (by decide) (lx_c511 hL hi hk hI hT (Nat.le_refl _) hnx)
      · exact mw_tabIn 564 dL_law_33 (by rw [hv]; decide) (by rw [hv]; decide) (by rw [hv]; rfl) (by decide) (lx_c564 hL hi hk hI hT (Nat.le_refl _) hnx)
      · exact mw_tabIn 597 dL_law_33 (by rw [hv]; decide) (by rw [hv]; decide) (by rw [hv]; rfl) (by decide) (lx_c597 hL hi hk hI hT (Nat.le_refl _) hnx)
      · exact mw_tabIn 650 dL_law_33 (by rw [hv]; decide) (by rw [hv]; decide) (by rw [hv]; rfl) (by decide) (lx_c650 hL hi hk hI hT (Nat.le_refl _) hnx)
      · exact mw_tabIn 693 dL_law_33 (by rw [hv]; decide) (by rw [hv]; decide) (by rw [hv]; rfl) (by decide) (lx_c693 hL hi hk hI hT (Nat.le_refl _) hnx)
      · exact mw_tabIn 756 dL_law_33 (by rw [hv]; decide) (by rw [hv]; decide) (by rw [hv]; rfl) (by decide) (lx_c756 hL hi hk hI hT (Nat.le_refl _) hnx)
      · exact mw_tabIn 809 dL_law_33 (by rw [hv]; decide) (by rw [hv]; decide) (by rw [hv]; rfl) (by decide) (lx_c809 hL hi hk hI hT (Nat.le_refl _) hnx)
      · exact mw_tabIn 832 dL_law_33 (by rw [hv]; decide) (by rw [hv]; decide) (by rw [hv]; rfl) (by decide) (lx_c832 hL hi hk hI hT (Nat.le_refl _) hnx)
      · exact mw_tabIn 895 dL_law_33 (by rw [hv]; decide) (by rw [hv]; decide) (by rw [hv]; rfl) (by decide) (lx_c895 hL hi hk hI hT (Nat.le_refl _) hnx)
      · exact mw_tabIn 948 dL_law_33 (by rw [hv]; decide) (by rw [hv]; decide) (by rw [hv]; rfl) (by decide) (lx_c948 hL hi hk hI hT (Nat.le_refl _) hnx)
      · exact mw_tabIn 981 dL_law_33 (by rw [hv]; decide) (by rw [hv]; decide) (by rw [hv]; rfl) (by decide) (lx_c981 hL hi hk hI hT (Nat.le_refl _) hnx)
      · exact mw_tabIn 1014 dL_law_33 (by rw [hv]; decide) (by rw [hv]; decide) (by rw [hv]; rfl) (by decide) (lx_c1014 hL hi hk hI hT (Nat.le_refl _) hnx)
      · exact mw_tabIn 1077 dL_law_33 (by rw [hv]; decide) (by rw [hv]; decide) (by rw [hv]; rfl) (by decide) (lx_c1077 hL hi hk hI hT (Nat.le_refl _) hnx)
      · exact mw_tabIn 1120 dL_law_33 (by rw [hv]; decide) (by rw [hv]; decide) (by rw [hv]; rfl) (by decide) (lx_c1120 hL hi hk hI hT (Nat.le_refl _) hnx)
      · exact mw_tabIn 1173 dL_law_33 (by rw [hv]; decide) (by rw [hv]; decide) (by rw [hv]; rfl) (by decide) (lx_c1173 hL hi hk hI hT (Nat.le_refl _) hnx)
      · exact mw_tabIn 1196 dL_law_33 (by rw [hv]; decide) (by rw [hv]; decide) (by rw [hv]; rfl) (by decide) (lx_c1196 hL hi hk hI hT (Nat.le_refl _) hnx)
      · exact mw_tabIn 1219 dL_law_33 (by rw [hv]; decide) (by rw [hv]; decide) (by rw [hv]; rfl) (by decide) (lx_c1219 hL hi hk hI hT (Nat.le_refl _) hnx)
      · exact mw_tabIn 1232 dL_law_33 (by rw [hv]; decide) (by rw [hv]; decide) (by rw [hv]; rfl) (by decide) (lx_c1232 hL hi hk hI hT (Nat.le_refl _) hnx)
      · exact mw_tabIn 1245 dL_law_33 (by rw [hv]; decide) (by rw [hv]; decide) (by rw [hv]; rfl) (by decide) (lx_c1245 hL hi hk hI hT (Nat.le_refl _) hnx)
      · exact mw_tabIn 1278 dL_law_33 (by rw [hv]; decide) (by rw [hv]; decide) (by rw [hv]; rfl) (by decide) (lx_c1278 hL hi hk hI hT (Nat.le_refl _) hnx)
      · exact mw_tabOut 1301 dL_law_33 (Or.inr hv) (by decide) (hnx _ (mh_I_mono hI (by omega) (by omega)) hT)

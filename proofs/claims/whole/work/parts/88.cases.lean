/-! ===== the law's cases ===== -/
/-- what holds all along the law: the machine, its tables, where its two objects and its script lie -/
def lwC (p : Program) (R : Room) (s : State) (m : MethodId) (args : Array Value) (c : Code) (cells slots : Nat) (D : va_G) (cI cR : ClassId) (ad : Nat → Nat) (om : Nat) (am : Nat → Nat) (v : EN) (A : Nat → Prop) (b L : Nat) (xs : Nat → Int32) : Prop :=
  p.tables.exec = Jvm.exec ∧ c.code = cL_law ∧ c.maxLocals = 4 ∧ s.vm.findClass RL = some m.cls ∧ (∀ w ∈ Cond.initialized RX3 :: W0, w.before args s = true) ∧ brK D cI cR s ∧ lwI ad om am A ∧ eE v A s s.heap ∧ nE s ∧ va_X b L xs s s.heap ∧ b < s.heap.size ∧ ¬ A b ∧ 12 ≤ R.frames ∧ 428 ≤ R.locals ∧ cells ≤ R.cells ∧ slots ≤ R.slots ∧ L ≤ 2048
/-- the law's locals -/
def lwV (ad : Nat → Nat) (om b i : Nat) (ls : Array Slot) : Prop := lv_has ls 4 [(0, .ref b), (1, .ref (ad 300)), (2, .ref om), (3, .int (nI i))]
/-- from where a case ends the law goes on -/
def lwNx (p : Program) (l : Launch) (e : Env) (R : Room) (s : State) (m : MethodId) (args : Array Value) (below : List Frame) (meth : Method) (c : Code) (cells slots : Nat) (Q : State → Prop) (D : va_G) (cI cR : ClassId) (ad : Nat → Nat) (om : Nat) (am : Nat → Nat) (A : Nat → Prop) (b i : Nat) (pc : Nat) : Prop :=
  ∀ (ρ : Nat → Nat → Nat → Int32) (sp kp : Nat) (τ μ : Nat → Nat → Int32) (hh : Int64) (H : Heap) (locs : List Loc) (ls : Array Slot), lwH D cI cR ad om am ρ sp kp τ μ hh H → IV ρ sp kp τ μ → va_S A s.heap H locs → lwV ad om b i ls → W p l e R s m args below meth c H locs cells slots Q (F0 m pc ls [])
section LCS
variable {p : Program} {l : Launch} {e : Env} {R : Room} {s : State} {m : MethodId} {args : Array Value} {below : List Frame} {meth : Method} {c : Code} {H : Heap} {locs : List Loc} {cells slots : Nat} {Q : State → Prop} {ls : Array Slot} {b L i : Nat} {xs : Nat → Int32} {D : va_G} {cI cR : ClassId} {ad : Nat → Nat} {om : Nat} {am : Nat → Nat} {v : EN} {ρ : Nat → Nat → Nat → Int32} {sp kp : Nat} {τ μ : Nat → Nat → Int32} {hh : Int64} {A : Nat → Prop}
theorem lv_lcmp0 {cc : ByteArray} {pc : Nat} {rest : List Value} (hexec : p.tables.exec = Jvm.exec) (hb : c.code = cc) {x : Int64} (hdg : decode cc pc = .ok (.lcmp, 1))
    (k : W p l e R s m args below meth c H locs cells slots Q (F0 m (pc + 1) ls (.int 0 :: rest))) : W p l e R s m args below meth c H locs cells slots Q (F0 m pc ls (.long x :: .long x :: rest)) := by
  intro T hT X
  obtain ⟨t, a, b⟩ := k T hT X
  refine ⟨t, ?_, b⟩
  have h1 : ¬ x < x := Int64.lt_irrefl
  jvm_step X.here [X.here.top, hexec, hb, hdg, h1]
  exact a
theorem lwNx_go {pc : Nat} (kk : lwNx p l e R s m args below meth c cells slots Q D cI cR ad om am A b i pc) (hL : lwH D cI cR ad om am ρ sp kp τ μ hh H) (hIV : IV ρ sp kp τ μ) (hS : va_S A s.heap H locs) (hl : lwV ad om b i ls) : W p l e R s m args below meth c H locs cells slots Q (F0 m pc ls []) := kk ρ sp kp τ μ hh H locs ls hL hIV hS hl
/-- the last step of a case: the answers are the same, so the law goes on -/
theorem lw_eq {pc : Nat} {off : Int} {x y : Int32} (hx : p.tables.exec = Jvm.exec) (hb : c.code = cL_law) (hxy : y = x) (d : decode cL_law pc = .ok (.if_icmp .eq off, 3)) (ht : (pc : Int) + off = ((1036 : Nat) : Int))
    (kk : W p l e R s m args below meth c H locs cells slots Q (F0 m 1036 ls [])) : W p l e R s m args below meth c H locs cells slots Q (F0 m pc ls [.int y, .int x]) :=
  lv_icmp_eq (tgt := 1036) hx hb d ht (fun _ => kk) (fun q => absurd (by first | exact hxy | exact hxy.symm) q)
set_option maxRecDepth 100000 in
theorem lw_case_0 (C : lwC p R s m args c cells slots D cI cR ad om am v A b L xs) (hi : i + 3 < L) (hL : lwH D cI cR ad om am ρ sp kp τ μ hh H) (hIV : IV ρ sp kp τ μ) (hS : va_S A s.heap H locs) (hl : lwV ad om b i ls)
    (kk : lwNx p l e R s m args below meth c cells slots Q D cI cR ad om am A b i 1036) : W p l e R s m args below meth c H locs cells slots Q (F0 m 172 ls []) := by
  obtain ⟨hx, hb, hml, hown, hts, hK, hI, hE, hN, hX, hbl, hAb, hF, hLo, hc, hs, hL2⟩ := C
  obtain ⟨hokm, hok, hokx, hsp, hkp, hrl⟩ := IV_ok hIV
  refine lv_aload_n hx hb dL_law_172 rfl (lv_at hl 1 rfl) ?_
  refine lv_aload_n hx hb dL_law_173 rfl (lv_at hl 0 rfl) ?_
  refine lv_iload_n hx hb dL_law_174 rfl (lv_at hl 3 rfl) ?_
  refine lv_iconst (v := nI 1) hx hb dL_law_175 (by decide) ?_
  refine lw_arg 1 hx hb hX hbl hAb hS (by omega) hL2 rfl dL_law_176 dL_law_177 ?_
  refine lv_aload_n hx hb dL_law_178 rfl (lv_at hl 0 rfl) ?_
  refine lv_iload_n hx hb dL_law_179 rfl (lv_at hl 3 rfl) ?_
  refine lv_iconst (v := nI 2) hx hb dL_law_180 (by decide) ?_
  refine lw_arg 2 hx hb hX hbl hAb hS (by omega) hL2 rfl dL_law_181 dL_law_182 ?_
  refine lw_brQ (As := [.int (xs (i + 1)), .int (xs (i + 2))]) (rest := []) hx hb hml hown hts hK hL hI hS hE (c_X3_addTitle l D cI cR ad v ρ sp kp τ (xs (i + 1)) (xs (i + 2)) hsp hkp hok) (kV_X3_addTitle hts ml_L_13 ⟨Nat.le_trans (Nat.le_of_ble_eq_true rfl) hF, Nat.le_trans (Nat.le_of_ble_eq_true rfl) hLo⟩) rfl hl.1 rfl (Nat.le_of_ble_eq_true rfl) dL_law_183 hc hs (fun H locs hL hS => ?_)
  refine lv_aload_n hx hb dL_law_186 rfl (lv_at hl 2 rfl) ?_
  refine lv_aload_n hx hb dL_law_187 rfl (lv_at hl 0 rfl) ?_
  refine lv_iload_n hx hb dL_law_188 rfl (lv_at hl 3 rfl) ?_
  refine lv_iconst (v := nI 1) hx hb dL_law_189 (by decide) ?_
  refine lw_arg 1 hx hb hX hbl hAb hS (by omega) hL2 rfl dL_law_190 dL_law_191 ?_
  refine lv_aload_n hx hb dL_law_192 rfl (lv_at hl 0 rfl) ?_
  refine lv_iload_n hx hb dL_law_193 rfl (lv_at hl 3 rfl) ?_
  refine lv_iconst (v := nI 2) hx hb dL_law_194 (by decide) ?_
  refine lw_arg 2 hx hb hX hbl hAb hS (by omega) hL2 rfl dL_law_195 dL_law_196 ?_
  refine lw_moQ (As := [.int (xs (i + 1)), .int (xs (i + 2))]) (rest := [.int ((m_X2_putTitle (ρ 0) (xs (i + 1)) (xs (i + 2))).1)]) hx hb hml hown hts hK hL hI hS (c_X4_addTitle l D cI om am μ hh (xs (i + 1)) (xs (i + 2)) hokm) (kV_X4_addTitle hts ml_L_17 ⟨Nat.le_trans (Nat.le_of_ble_eq_true rfl) hF, Nat.le_trans (Nat.le_of_ble_eq_true rfl) hLo⟩) rfl hl.1 rfl (Nat.le_of_ble_eq_true rfl) dL_law_197 hc hs (fun H locs hL hS => ?_)
  have hf := IV_rec hIV (r_addTitle hrl hokm (xs (i + 1)) (xs (i + 2)))
  refine lw_eq hx hb hf.1 dL_law_200 (by decide) ?_
  with_reducible exact lwNx_go kk hL hf.2 hS hl
set_option maxRecDepth 100000 in
theorem lw_case_1 (C : lwC p R s m args c cells slots D cI cR ad om am v A b L xs) (hi : i + 3 < L) (hL : lwH D cI cR ad om am ρ sp kp τ μ hh H) (hIV : IV ρ sp kp τ μ) (hS : va_S A s.heap H locs) (hl : lwV ad om b i ls)
    (kk : lwNx p l e R s m args below meth c cells slots Q D cI cR ad om am A b i 1036) : W p l e R s m args below meth c H locs cells slots Q (F0 m 205 ls []) := by
  obtain ⟨hx, hb, hml, hown, hts, hK, hI, hE, hN, hX, hbl, hAb, hF, hLo, hc, hs, hL2⟩ := C
  obtain ⟨hokm, hok, hokx, hsp, hkp, hrl⟩ := IV_ok hIV
  refine lv_aload_n hx hb dL_law_205 rfl (lv_at hl 1 rfl) ?_
  refine lv_aload_n hx hb dL_law_206 rfl (lv_at hl 0 rfl) ?_
  refine lv_iload_n hx hb dL_law_207 rfl (lv_at hl 3 rfl) ?_
  refine lv_iconst (v := nI 1) hx hb dL_law_208 (by decide) ?_
  refine lw_arg 1 hx hb hX hbl hAb hS (by omega) hL2 rfl dL_law_209 dL_law_210 ?_
  refine lv_aload_n hx hb dL_law_211 rfl (lv_at hl 0 rfl) ?_
  refine lv_iload_n hx hb dL_law_212 rfl (lv_at hl 3 rfl) ?_
  refine lv_iconst (v := nI 2) hx hb dL_law_213 (by decide) ?_
  refine lw_arg 2 hx hb hX hbl hAb hS (by omega) hL2 rfl dL_law_214 dL_law_215 ?_
  refine lw_brQ (As := [.int (xs (i + 1)), .int (xs (i + 2))]) (rest := []) hx hb hml hown hts hK hL hI hS hE (c_X3_setPrice l D cI cR ad v ρ sp kp τ (xs (i + 1)) (xs (i + 2)) hsp hkp hok) (kV_X3_setPrice hts ml_L_18 ⟨Nat.le_trans (Nat.le_of_ble_eq_true rfl) hF, Nat.le_trans (Nat.le_of_ble_eq_true rfl) hLo⟩) rfl hl.1 rfl (Nat.le_of_ble_eq_true rfl) dL_law_216 hc hs (fun H locs hL hS => ?_)
  refine lv_aload_n hx hb dL_law_219 rfl (lv_at hl 2 rfl) ?_
  refine lv_aload_n hx hb dL_law_220 rfl (lv_at hl 0 rfl) ?_
  refine lv_iload_n hx hb dL_law_221 rfl (lv_at hl 3 rfl) ?_
  refine lv_iconst (v := nI 1) hx hb dL_law_222 (by decide) ?_
  refine lw_arg 1 hx hb hX hbl hAb hS (by omega) hL2 rfl dL_law_223 dL_law_224 ?_
  refine lv_aload_n hx hb dL_law_225 rfl (lv_at hl 0 rfl) ?_
  refine lv_iload_n hx hb dL_law_226 rfl (lv_at hl 3 rfl) ?_
  refine lv_iconst (v := nI 2) hx hb dL_law_227 (by decide) ?_
  refine lw_arg 2 hx hb hX hbl hAb hS (by omega) hL2 rfl dL_law_228 dL_law_229 ?_
  refine lw_moQ (As := [.int (xs (i + 1)), .int (xs (i + 2))]) (rest := [.int ((m_X2_changePrice (ρ 0) (xs (i + 1)) (xs (i + 2))).1)]) hx hb hml hown hts hK hL hI hS (c_X4_setPrice l D cI om am μ hh (xs (i + 1)) (xs (i + 2)) hokm) (kV_X4_setPrice hts ml_L_21 ⟨Nat.le_trans (Nat.le_of_ble_eq_true rfl) hF, Nat.le_trans (Nat.le_of_ble_eq_true rfl) hLo⟩) rfl hl.1 rfl (Nat.le_of_ble_eq_true rfl) dL_law_230 hc hs (fun H locs hL hS => ?_)
  have hf := IV_rec hIV (r_setPrice hrl hokm (xs (i + 1)) (xs (i + 2)))
  refine lw_eq hx hb hf.1 dL_law_233 (by decide) ?_
  with_reducible exact lwNx_go kk hL hf.2 hS hl
set_option maxRecDepth 100000 in
theorem lw_case_2 (C : lwC p R s m args c cells slots D cI cR ad om am v A b L xs) (hi : i + 3 < L) (hL : lwH D cI cR ad om am ρ sp kp τ μ hh H) (hIV : IV ρ sp kp τ μ) (hS : va_S A s.heap H locs) (hl : lwV ad om b i ls)
    (kk : lwNx p l e R s m args below meth c cells slots Q D cI cR ad om am A b i 1036) : W p l e R s m args below meth c H locs cells slots Q (F0 m 238 ls []) := by
  obtain ⟨hx, hb, hml, hown, hts, hK, hI, hE, hN, hX, hbl, hAb, hF, hLo, hc, hs, hL2⟩ := C
  obtain ⟨hokm, hok, hokx, hsp, hkp, hrl⟩ := IV_ok hIV
  refine lv_aload_n hx hb dL_law_238 rfl (lv_at hl 1 rfl) ?_
  refine lv_aload_n hx hb dL_law_239 rfl (lv_at hl 0 rfl) ?_
  refine lv_iload_n hx hb dL_law_240 rfl (lv_at hl 3 rfl) ?_
  refine lv_iconst (v := nI 1) hx hb dL_law_241 (by decide) ?_
  refine lw_arg 1 hx hb hX hbl hAb hS (by omega) hL2 rfl dL_law_242 dL_law_243 ?_
  refine lw_brQ (As := [.int (xs (i + 1))]) (rest := []) hx hb hml hown hts hK hL hI hS hE (c_X3_newEdition l D cI cR ad v ρ sp kp τ (xs (i + 1)) hsp hkp hok) (kV_X3_newEdition hts ml_L_22 ⟨Nat.le_trans (Nat.le_of_ble_eq_true rfl) hF, Nat.le_trans (Nat.le_of_ble_eq_true rfl) hLo⟩) rfl hl.1 rfl (Nat.le_of_ble_eq_true rfl) dL_law_244 hc hs (fun H locs hL hS => ?_)
  refine lv_aload_n hx hb dL_law_247 rfl (lv_at hl 2 rfl) ?_
  refine lv_aload_n hx hb dL_law_248 rfl (lv_at hl 0 rfl) ?_
  refine lv_iload_n hx hb dL_law_249 rfl (lv_at hl 3 rfl) ?_
  refine lv_iconst (v := nI 1) hx hb dL_law_250 (by decide) ?_
  refine lw_arg 1 hx hb hX hbl hAb hS (by omega) hL2 rfl dL_law_251 dL_law_252 ?_
  refine lw_moQ (As := [.int (xs (i + 1))]) (rest := [.int ((m_X2_advanceEdition (ρ 0) (xs (i + 1))).1)]) hx hb hml hown hts hK hL hI hS (c_X4_newEdition l D cI om am μ hh (xs (i + 1)) hokm) (kV_X4_newEdition hts ml_L_26 ⟨Nat.le_trans (Nat.le_of_ble_eq_true rfl) hF, Nat.le_trans (Nat.le_of_ble_eq_true rfl) hLo⟩) rfl hl.1 rfl (Nat.le_of_ble_eq_true rfl) dL_law_253 hc hs (fun H locs hL hS => ?_)
  have hf := IV_rec hIV (r_newEdition hrl hokm (xs (i + 1)))
  refine lw_eq hx hb hf.1 dL_law_256 (by decide) ?_
  with_reducible exact lwNx_go kk hL hf.2 hS hl
set_option maxRecDepth 100000 in
theorem lw_case_3 (C : lwC p R s m args c cells slots D cI cR ad om am v A b L xs) (hi : i + 3 < L) (hL : lwH D cI cR ad om am ρ sp kp τ μ hh H) (hIV : IV ρ sp kp τ μ) (hS : va_S A s.heap H locs) (hl : lwV ad om b i ls)
    (kk : lwNx p l e R s m args below meth c cells slots Q D cI cR ad om am A b i 1036) : W p l e R s m args below meth c H locs cells slots Q (F0 m 261 ls []) := by
  obtain ⟨hx, hb, hml, hown, hts, hK, hI, hE, hN, hX, hbl, hAb, hF, hLo, hc, hs, hL2⟩ := C
  obtain ⟨hokm, hok, hokx, hsp, hkp, hrl⟩ := IV_ok hIV
  refine lv_aload_n hx hb dL_law_261 rfl (lv_at hl 1 rfl) ?_
  refine lv_aload_n hx hb dL_law_262 rfl (lv_at hl 0 rfl) ?_
  refine lv_iload_n hx hb dL_law_263 rfl (lv_at hl 3 rfl) ?_
  refine lv_iconst (v := nI 1) hx hb dL_law_264 (by decide) ?_
  refine lw_arg 1 hx hb hX hbl hAb hS (by omega) hL2 rfl dL_law_265 dL_law_266 ?_
  refine lv_aload_n hx hb dL_law_267 rfl (lv_at hl 0 rfl) ?_
  refine lv_iload_n hx hb dL_law_268 rfl (lv_at hl 3 rfl) ?_
  refine lv_iconst (v := nI 2) hx hb dL_law_269 (by decide) ?_
  refine lw_arg 2 hx hb hX hbl hAb hS (by omega) hL2 rfl dL_law_270 dL_law_271 ?_
  refine lv_aload_n hx hb dL_law_272 rfl (lv_at hl 0 rfl) ?_
  refine lv_iload_n hx hb dL_law_273 rfl (lv_at hl 3 rfl) ?_
  refine lv_iconst (v := nI 3) hx hb dL_law_274 (by decide) ?_
  refine lw_arg 3 hx hb hX hbl hAb hS (by omega) hL2 rfl dL_law_275 dL_law_276 ?_
  refine lw_brQ (As := [.int (xs (i + 1)), .int (xs (i + 2)), .int (xs (i + 3))]) (rest := []) hx hb hml hown hts hK hL hI hS hE (c_X3_addCourse l D cI cR ad v ρ sp kp τ (xs (i + 1)) (xs (i + 2)) (xs (i + 3)) hsp hkp hok) (kV_X3_addCourse hts ml_L_27 ⟨Nat.le_trans (Nat.le_of_ble_eq_true rfl) hF, Nat.le_trans (Nat.le_of_ble_eq_true rfl) hLo⟩) rfl hl.1 rfl (Nat.le_of_ble_eq_true rfl) dL_law_277 hc hs (fun H locs hL hS => ?_)
  refine lv_aload_n hx hb dL_law_280 rfl (lv_at hl 2 rfl) ?_
  refine lv_aload_n hx hb dL_law_281 rfl (lv_at hl 0 rfl) ?_
  refine lv_iload_n hx hb dL_law_282 rfl (lv_at hl 3 rfl) ?_
  refine lv_iconst (v := nI 1) hx hb dL_law_283 (by decide) ?_
  refine lw_arg 1 hx hb hX hbl hAb hS (by omega) hL2 rfl dL_law_284 dL_law_285 ?_
  refine lv_aload_n hx hb dL_law_286 rfl (lv_at hl 0 rfl) ?_
  refine lv_iload_n hx hb dL_law_287 rfl (lv_at hl 3 rfl) ?_
  refine lv_iconst (v := nI 2) hx hb dL_law_288 (by decide) ?_
  refine lw_arg 2 hx hb hX hbl hAb hS (by omega) hL2 rfl dL_law_289 dL_law_290 ?_
  refine lv_aload_n hx hb dL_law_291 rfl (lv_at hl 0 rfl) ?_
  refine lv_iload_n hx hb dL_law_292 rfl (lv_at hl 3 rfl) ?_
  refine lv_iconst (v := nI 3) hx hb dL_law_293 (by decide) ?_
  refine lw_arg 3 hx hb hX hbl hAb hS (by omega) hL2 rfl dL_law_294 dL_law_295 ?_
  refine lw_moQ (As := [.int (xs (i + 1)), .int (xs (i + 2)), .int (xs (i + 3))]) (rest := [.int ((m_X2_putCourse (ρ 0) (xs (i + 1)) (xs (i + 2)) (xs (i + 3))).1)]) hx hb hml hown hts hK hL hI hS (c_X4_addCourse l D cI om am μ hh (xs (i + 1)) (xs (i + 2)) (xs (i + 3)) hokm) (kV_X4_addCourse hts ml_L_31 ⟨Nat.le_trans (Nat.le_of_ble_eq_true rfl) hF, Nat.le_trans (Nat.le_of_ble_eq_true rfl) hLo⟩) rfl hl.1 rfl (Nat.le_of_ble_eq_true rfl) dL_law_296 hc hs (fun H locs hL hS => ?_)
  have hf := IV_rec hIV (r_addCourse hrl hokm (xs (i + 1)) (xs (i + 2)) (xs (i + 3)))
  refine lw_eq hx hb hf.1 dL_law_299 (by decide) ?_
  with_reducible exact lwNx_go kk hL hf.2 hS hl
set_option maxRecDepth 100000 in
theorem lw_case_4 (C : lwC p R s m args c cells slots D cI cR ad om am v A b L xs) (hi : i + 3 < L) (hL : lwH D cI cR ad om am ρ sp kp τ μ hh H) (hIV : IV ρ sp kp τ μ) (hS : va_S A s.heap H locs) (hl : lwV ad om b i ls)
    (kk : lwNx p l e R s m args below meth c cells slots Q D cI cR ad om am A b i 1036) : W p l e R s m args below meth c H locs cells slots Q (F0 m 304 ls []) := by
  obtain ⟨hx, hb, hml, hown, hts, hK, hI, hE, hN, hX, hbl, hAb, hF, hLo, hc, hs, hL2⟩ := C
  obtain ⟨hokm, hok, hokx, hsp, hkp, hrl⟩ := IV_ok hIV
  refine lv_aload_n hx hb dL_law_304 rfl (lv_at hl 1 rfl) ?_
  refine lv_aload_n hx hb dL_law_305 rfl (lv_at hl 0 rfl) ?_
  refine lv_iload_n hx hb dL_law_306 rfl (lv_at hl 3 rfl) ?_
  refine lv_iconst (v := nI 1) hx hb dL_law_307 (by decide) ?_
  refine lw_arg 1 hx hb hX hbl hAb hS (by omega) hL2 rfl dL_law_308 dL_law_309 ?_
  refine lv_aload_n hx hb dL_law_310 rfl (lv_at hl 0 rfl) ?_
  refine lv_iload_n hx hb dL_law_311 rfl (lv_at hl 3 rfl) ?_
  refine lv_iconst (v := nI 2) hx hb dL_law_312 (by decide) ?_
  refine lw_arg 2 hx hb hX hbl hAb hS (by omega) hL2 rfl dL_law_313 dL_law_314 ?_
  refine lv_aload_n hx hb dL_law_315 rfl (lv_at hl 0 rfl) ?_
  refine lv_iload_n hx hb dL_law_316 rfl (lv_at hl 3 rfl) ?_
  refine lv_iconst (v := nI 3) hx hb dL_law_317 (by decide) ?_
  refine lw_arg 3 hx hb hX hbl hAb hS (by omega) hL2 rfl dL_law_318 dL_law_319 ?_
  refine lw_brQ (As := [.int (xs (i + 1)), .int (xs (i + 2)), .int (xs (i + 3))]) (rest := []) hx hb hml hown hts hK hL hI hS hE (c_X3_setCourse l D cI cR ad v ρ sp kp τ (xs (i + 1)) (xs (i + 2)) (xs (i + 3)) hsp hkp hok) (kV_X3_setCourse hts ml_L_32 ⟨Nat.le_trans (Nat.le_of_ble_eq_true rfl) hF, Nat.le_trans (Nat.le_of_ble_eq_true rfl) hLo⟩) rfl hl.1 rfl (Nat.le_of_ble_eq_true rfl) dL_law_320 hc hs (fun H locs hL hS => ?_)
  refine lv_aload_n hx hb dL_law_323 rfl (lv_at hl 2 rfl) ?_
  refine lv_aload_n hx hb dL_law_324 rfl (lv_at hl 0 rfl) ?_
  refine lv_iload_n hx hb dL_law_325 rfl (lv_at hl 3 rfl) ?_
  refine lv_iconst (v := nI 1) hx hb dL_law_326 (by decide) ?_
  refine lw_arg 1 hx hb hX hbl hAb hS (by omega) hL2 rfl dL_law_327 dL_law_328 ?_
  refine lv_aload_n hx hb dL_law_329 rfl (lv_at hl 0 rfl) ?_
  refine lv_iload_n hx hb dL_law_330 rfl (lv_at hl 3 rfl) ?_
  refine lv_iconst (v := nI 2) hx hb dL_law_331 (by decide) ?_
  refine lw_arg 2 hx hb hX hbl hAb hS (by omega) hL2 rfl dL_law_332 dL_law_333 ?_
  refine lv_aload_n hx hb dL_law_334 rfl (lv_at hl 0 rfl) ?_
  refine lv_iload_n hx hb dL_law_335 rfl (lv_at hl 3 rfl) ?_
  refine lv_iconst (v := nI 3) hx hb dL_law_336 (by decide) ?_
  refine lw_arg 3 hx hb hX hbl hAb hS (by omega) hL2 rfl dL_law_337 dL_law_338 ?_
  refine lw_moQ (As := [.int (xs (i + 1)), .int (xs (i + 2)), .int (xs (i + 3))]) (rest := [.int ((m_X2_changeCourse (ρ 0) (xs (i + 1)) (xs (i + 2)) (xs (i + 3))).1)]) hx hb hml hown hts hK hL hI hS (c_X4_setCourse l D cI om am μ hh (xs (i + 1)) (xs (i + 2)) (xs (i + 3)) hokm) (kV_X4_setCourse hts ml_L_35 ⟨Nat.le_trans (Nat.le_of_ble_eq_true rfl) hF, Nat.le_trans (Nat.le_of_ble_eq_true rfl) hLo⟩) rfl hl.1 rfl (Nat.le_of_ble_eq_true rfl) dL_law_339 hc hs (fun H locs hL hS => ?_)
  have hf := IV_rec hIV (r_setCourse hrl hokm (xs (i + 1)) (xs (i + 2)) (xs (i + 3)))
  refine lw_eq hx hb hf.1 dL_law_342 (by decide) ?_
  with_reducible exact lwNx_go kk hL hf.2 hS hl
set_option maxRecDepth 100000 in
theorem lw_case_5 (C : lwC p R s m args c cells slots D cI cR ad om am v A b L xs) (hi : i + 3 < L) (hL : lwH D cI cR ad om am ρ sp kp τ μ hh H) (hIV : IV ρ sp kp τ μ) (hS : va_S A s.heap H locs) (hl : lwV ad om b i ls)
    (kk : lwNx p l e R s m args below meth c cells slots Q D cI cR ad om am A b i 1036) : W p l e R s m args below meth c H locs cells slots Q (F0 m 347 ls []) := by
  obtain ⟨hx, hb, hml, hown, hts, hK, hI, hE, hN, hX, hbl, hAb, hF, hLo, hc, hs, hL2⟩ := C
  obtain ⟨hokm, hok, hokx, hsp, hkp, hrl⟩ := IV_ok hIV
  refine lv_aload_n hx hb dL_law_347 rfl (lv_at hl 1 rfl) ?_
  refine lv_aload_n hx hb dL_law_348 rfl (lv_at hl 0 rfl) ?_
  refine lv_iload_n hx hb dL_law_349 rfl (lv_at hl 3 rfl) ?_
  refine lv_iconst (v := nI 1) hx hb dL_law_350 (by decide) ?_
  refine lw_arg 1 hx hb hX hbl hAb hS (by omega) hL2 rfl dL_law_351 dL_law_352 ?_
  refine lv_aload_n hx hb dL_law_353 rfl (lv_at hl 0 rfl) ?_
  refine lv_iload_n hx hb dL_law_354 rfl (lv_at hl 3 rfl) ?_
  refine lv_iconst (v := nI 2) hx hb dL_law_355 (by decide) ?_
  refine lw_arg 2 hx hb hX hbl hAb hS (by omega) hL2 rfl dL_law_356 dL_law_357 ?_
  refine lw_brQ (As := [.int (xs (i + 1)), .int (xs (i + 2))]) (rest := []) hx hb hml hown hts hK hL hI hS hE (c_X3_set l D cI cR ad v ρ sp kp τ (xs (i + 1)) (xs (i + 2)) hsp hkp hok) (kV_X3_set hts ml_L_36 ⟨Nat.le_trans (Nat.le_of_ble_eq_true rfl) hF, Nat.le_trans (Nat.le_of_ble_eq_true rfl) hLo⟩) rfl hl.1 rfl (Nat.le_of_ble_eq_true rfl) dL_law_358 hc hs (fun H locs hL hS => ?_)
  refine lv_aload_n hx hb dL_law_361 rfl (lv_at hl 2 rfl) ?_
  refine lv_aload_n hx hb dL_law_362 rfl (lv_at hl 0 rfl) ?_
  refine lv_iload_n hx hb dL_law_363 rfl (lv_at hl 3 rfl) ?_
  refine lv_iconst (v := nI 1) hx hb dL_law_364 (by decide) ?_
  refine lw_arg 1 hx hb hX hbl hAb hS (by omega) hL2 rfl dL_law_365 dL_law_366 ?_
  refine lv_aload_n hx hb dL_law_367 rfl (lv_at hl 0 rfl) ?_
  refine lv_iload_n hx hb dL_law_368 rfl (lv_at hl 3 rfl) ?_
  refine lv_iconst (v := nI 2) hx hb dL_law_369 (by decide) ?_
  refine lw_arg 2 hx hb hX hbl hAb hS (by omega) hL2 rfl dL_law_370 dL_law_371 ?_
  refine lw_moQ (As := [.int (xs (i + 1)), .int (xs (i + 2))]) (rest := [.int ((m_X2_changeSetting (ρ 0) (xs (i + 1)) (xs (i + 2))).1)]) hx hb hml hown hts hK hL hI hS (c_X4_set l D cI om am μ hh (xs (i + 1)) (xs (i + 2)) hokm) (kV_X4_set hts ml_L_39 ⟨Nat.le_trans (Nat.le_of_ble_eq_true rfl) hF, Nat.le_trans (Nat.le_of_ble_eq_true rfl) hLo⟩) rfl hl.1 rfl (Nat.le_of_ble_eq_true rfl) dL_law_372 hc hs (fun H locs hL hS => ?_)
  have hf := IV_rec hIV (r_set hrl hokm hIV.1.2.2.2.2.2.2.1 hIV.1.2.2.2.2.2.2.2 (xs (i + 1)) (xs (i + 2)))
  refine lw_eq hx hb hf.1 dL_law_375 (by decide) ?_
  with_reducible exact lwNx_go kk hL hf.2 hS hl
set_option maxRecDepth 100000 in
theorem lw_case_6 (C : lwC p R s m args c cells slots D cI cR ad om am v A b L xs) (hi : i + 3 < L) (hL : lwH D cI cR ad om am ρ sp kp τ μ hh H) (hIV : IV ρ sp kp τ μ) (hS : va_S A s.heap H locs) (hl : lwV ad om b i ls)
    (kk : lwNx p l e R s m args below meth c cells slots Q D cI cR ad om am A b i 1036) : W p l e R s m args below meth c H locs cells slots Q (F0 m 380 ls []) := by
  obtain ⟨hx, hb, hml, hown, hts, hK, hI, hE, hN, hX, hbl, hAb, hF, hLo, hc, hs, hL2⟩ := C
  obtain ⟨hokm, hok, hokx, hsp, hkp, hrl⟩ := IV_ok hIV
  refine lv_aload_n hx hb dL_law_380 rfl (lv_at hl 1 rfl) ?_
  refine lv_aload_n hx hb dL_law_381 rfl (lv_at hl 0 rfl) ?_
  refine lv_iload_n hx hb dL_law_382 rfl (lv_at hl 3 rfl) ?_
  refine lv_iconst (v := nI 1) hx hb dL_law_383 (by decide) ?_
  refine lw_arg 1 hx hb hX hbl hAb hS (by omega) hL2 rfl dL_law_384 dL_law_385 ?_
  refine lw_brS (As := [.int (xs (i + 1))]) (rest := []) hx hb hml hown hts hK hL hI hS hE (c_X3_count l D cI cR ad v ρ sp kp τ (xs (i + 1)) hok) (kV_X3_count hts ml_L_40 ⟨Nat.le_trans (Nat.le_of_ble_eq_true rfl) hF, Nat.le_trans (Nat.le_of_ble_eq_true rfl) hLo⟩) rfl hl.1 rfl (Nat.le_of_ble_eq_true rfl) dL_law_386 hc hs ?_
  refine lv_aload_n hx hb dL_law_389 rfl (lv_at hl 2 rfl) ?_
  refine lv_aload_n hx hb dL_law_390 rfl (lv_at hl 0 rfl) ?_
  refine lv_iload_n hx hb dL_law_391 rfl (lv_at hl 3 rfl) ?_
  refine lv_iconst (v := nI 1) hx hb dL_law_392 (by decide) ?_
  refine lw_arg 1 hx hb hX hbl hAb hS (by omega) hL2 rfl dL_law_393 dL_law_394 ?_
  refine lw_moS (As := [.int (xs (i + 1))]) (rest := [.int (f_X2_numberOf (ρ 0) (xs (i + 1)))]) hx hb hml hown hts hK hL (c_X4_count l D cI om am μ hh (xs (i + 1)) hokm) (kV_X4_count hts ml_L_43 ⟨Nat.le_trans (Nat.le_of_ble_eq_true rfl) hF, Nat.le_trans (Nat.le_of_ble_eq_true rfl) hLo⟩) rfl hl.1 rfl (Nat.le_of_ble_eq_true rfl) dL_law_395 hc hs ?_
  refine lw_eq hx hb (q_count hrl (xs (i + 1))) dL_law_398 (by decide) ?_
  with_reducible exact lwNx_go kk hL hIV hS hl
set_option maxRecDepth 100000 in
theorem lw_case_7 (C : lwC p R s m args c cells slots D cI cR ad om am v A b L xs) (hi : i + 3 < L) (hL : lwH D cI cR ad om am ρ sp kp τ μ hh H) (hIV : IV ρ sp kp τ μ) (hS : va_S A s.heap H locs) (hl : lwV ad om b i ls)
    (kk : lwNx p l e R s m args below meth c cells slots Q D cI cR ad om am A b i 1036) : W p l e R s m args below meth c H locs cells slots Q (F0 m 403 ls []) := by
  obtain ⟨hx, hb, hml, hown, hts, hK, hI, hE, hN, hX, hbl, hAb, hF, hLo, hc, hs, hL2⟩ := C
  obtain ⟨hokm, hok, hokx, hsp, hkp, hrl⟩ := IV_ok hIV
  refine lv_aload_n hx hb dL_law_403 rfl (lv_at hl 1 rfl) ?_
  refine lv_aload_n hx hb dL_law_404 rfl (lv_at hl 0 rfl) ?_
  refine lv_iload_n hx hb dL_law_405 rfl (lv_at hl 3 rfl) ?_
  refine lv_iconst (v := nI 1) hx hb dL_law_406 (by decide) ?_
  refine lw_arg 1 hx hb hX hbl hAb hS (by omega) hL2 rfl dL_law_407 dL_law_408 ?_
  refine lv_aload_n hx hb dL_law_409 rfl (lv_at hl 0 rfl) ?_
  refine lv_iload_n hx hb dL_law_410 rfl (lv_at hl 3 rfl) ?_
  refine lv_iconst (v := nI 2) hx hb dL_law_411 (by decide) ?_
  refine lw_arg 2 hx hb hX hbl hAb hS (by omega) hL2 rfl dL_law_412 dL_law_413 ?_
  refine lw_brS (As := [.int (xs (i + 1)), .int (xs (i + 2))]) (rest := []) hx hb hml hown hts hK hL hI hS hE (c_X3_title l D cI cR ad v ρ sp kp τ (xs (i + 1)) (xs (i + 2)) hok) (kV_X3_title hts ml_L_44 ⟨Nat.le_trans (Nat.le_of_ble_eq_true rfl) hF, Nat.le_trans (Nat.le_of_ble_eq_true rfl) hLo⟩) rfl hl.1 rfl (Nat.le_of_ble_eq_true rfl) dL_law_414 hc hs ?_
  refine lv_aload_n hx hb dL_law_417 rfl (lv_at hl 2 rfl) ?_
  refine lv_aload_n hx hb dL_law_418 rfl (lv_at hl 0 rfl) ?_
  refine lv_iload_n hx hb dL_law_419 rfl (lv_at hl 3 rfl) ?_
  refine lv_iconst (v := nI 1) hx hb dL_law_420 (by decide) ?_
  refine lw_arg 1 hx hb hX hbl hAb hS (by omega) hL2 rfl dL_law_421 dL_law_422 ?_
  refine lv_aload_n hx hb dL_law_423 rfl (lv_at hl 0 rfl) ?_
  refine lv_iload_n hx hb dL_law_424 rfl (lv_at hl 3 rfl) ?_
  refine lv_iconst (v := nI 2) hx hb dL_law_425 (by decide) ?_
  refine lw_arg 2 hx hb hX hbl hAb hS (by omega) hL2 rfl dL_law_426 dL_law_427 ?_
  refine lw_moS (As := [.int (xs (i + 1)), .int (xs (i + 2))]) (rest := [.int (f_X2_titleProperty (ρ 0) (xs (i + 1)) (xs (i + 2)))]) hx hb hml hown hts hK hL (c_X4_title l D cI om am μ hh (xs (i + 1)) (xs (i + 2)) hokm) (kV_X4_title hts ml_L_47 ⟨Nat.le_trans (Nat.le_of_ble_eq_true rfl) hF, Nat.le_trans (Nat.le_of_ble_eq_true rfl) hLo⟩) rfl hl.1 rfl (Nat.le_of_ble_eq_true rfl) dL_law_428 hc hs ?_
  refine lw_eq hx hb (q_title hrl (xs (i + 1)) (xs (i + 2))) dL_law_431 (by decide) ?_
  with_reducible exact lwNx_go kk hL hIV hS hl
set_option maxRecDepth 100000 in
theorem lw_case_8 (C : lwC p R s m args c cells slots D cI cR ad om am v A b L xs) (hi : i + 3 < L) (hL : lwH D cI cR ad om am ρ sp kp τ μ hh H) (hIV : IV ρ sp kp τ μ) (hS : va_S A s.heap H locs) (hl : lwV ad om b i ls)
    (kk : lwNx p l e R s m args below meth c cells slots Q D cI cR ad om am A b i 1036) : W p l e R s m args below meth c H locs cells slots Q (F0 m 436 ls []) := by
  obtain ⟨hx, hb, hml, hown, hts, hK, hI, hE, hN, hX, hbl, hAb, hF, hLo, hc, hs, hL2⟩ := C
  obtain ⟨hokm, hok, hokx, hsp, hkp, hrl⟩ := IV_ok hIV
  refine lv_aload_n hx hb dL_law_436 rfl (lv_at hl 1 rfl) ?_
  refine lv_aload_n hx hb dL_law_437 rfl (lv_at hl 0 rfl) ?_
  refine lv_iload_n hx hb dL_law_438 rfl (lv_at hl 3 rfl) ?_
  refine lv_iconst (v := nI 1) hx hb dL_law_439 (by decide) ?_
  refine lw_arg 1 hx hb hX hbl hAb hS (by omega) hL2 rfl dL_law_440 dL_law_441 ?_
  refine lv_aload_n hx hb dL_law_442 rfl (lv_at hl 0 rfl) ?_
  refine lv_iload_n hx hb dL_law_443 rfl (lv_at hl 3 rfl) ?_
  refine lv_iconst (v := nI 2) hx hb dL_law_444 (by decide) ?_
  refine lw_arg 2 hx hb hX hbl hAb hS (by omega) hL2 rfl dL_law_445 dL_law_446 ?_
  refine lw_brS (As := [.int (xs (i + 1)), .int (xs (i + 2))]) (rest := []) hx hb hml hown hts hK hL hI hS hE (c_X3_course l D cI cR ad v ρ sp kp τ (xs (i + 1)) (xs (i + 2)) hok) (kV_X3_course hts ml_L_48 ⟨Nat.le_trans (Nat.le_of_ble_eq_true rfl) hF, Nat.le_trans (Nat.le_of_ble_eq_true rfl) hLo⟩) rfl hl.1 rfl (Nat.le_of_ble_eq_true rfl) dL_law_447 hc hs ?_
  refine lv_aload_n hx hb dL_law_450 rfl (lv_at hl 2 rfl) ?_
  refine lv_aload_n hx hb dL_law_451 rfl (lv_at hl 0 rfl) ?_
  refine lv_iload_n hx hb dL_law_452 rfl (lv_at hl 3 rfl) ?_
  refine lv_iconst (v := nI 1) hx hb dL_law_453 (by decide) ?_
  refine lw_arg 1 hx hb hX hbl hAb hS (by omega) hL2 rfl dL_law_454 dL_law_455 ?_
  refine lv_aload_n hx hb dL_law_456 rfl (lv_at hl 0 rfl) ?_
  refine lv_iload_n hx hb dL_law_457 rfl (lv_at hl 3 rfl) ?_
  refine lv_iconst (v := nI 2) hx hb dL_law_458 (by decide) ?_
  refine lw_arg 2 hx hb hX hbl hAb hS (by omega) hL2 rfl dL_law_459 dL_law_460 ?_
  refine lw_moS (As := [.int (xs (i + 1)), .int (xs (i + 2))]) (rest := [.int (f_X2_courseProperty (ρ 0) (xs (i + 1)) (xs (i + 2)))]) hx hb hml hown hts hK hL (c_X4_course l D cI om am μ hh (xs (i + 1)) (xs (i + 2)) hokm) (kV_X4_course hts ml_L_51 ⟨Nat.le_trans (Nat.le_of_ble_eq_true rfl) hF, Nat.le_trans (Nat.le_of_ble_eq_true rfl) hLo⟩) rfl hl.1 rfl (Nat.le_of_ble_eq_true rfl) dL_law_461 hc hs ?_
  refine lw_eq hx hb (q_course hrl (xs (i + 1)) (xs (i + 2))) dL_law_464 (by decide) ?_
  with_reducible exact lwNx_go kk hL hIV hS hl
set_option maxRecDepth 100000 in
theorem lw_case_9 (C : lwC p R s m args c cells slots D cI cR ad om am v A b L xs) (hi : i + 3 < L) (hL : lwH D cI cR ad om am ρ sp kp τ μ hh H) (hIV : IV ρ sp kp τ μ) (hS : va_S A s.heap H locs) (hl : lwV ad om b i ls)
    (kk : lwNx p l e R s m args below meth c cells slots Q D cI cR ad om am A b i 1036) : W p l e R s m args below meth c H locs cells slots Q (F0 m 469 ls []) := by
  obtain ⟨hx, hb, hml, hown, hts, hK, hI, hE, hN, hX, hbl, hAb, hF, hLo, hc, hs, hL2⟩ := C
  obtain ⟨hokm, hok, hokx, hsp, hkp, hrl⟩ := IV_ok hIV
  refine lv_aload_n hx hb dL_law_469 rfl (lv_at hl 1 rfl) ?_
  refine lv_aload_n hx hb dL_law_470 rfl (lv_at hl 0 rfl) ?_
  refine lv_iload_n hx hb dL_law_471 rfl (lv_at hl 3 rfl) ?_
  refine lv_iconst (v := nI 1) hx hb dL_law_472 (by decide) ?_
  refine lw_arg 1 hx hb hX hbl hAb hS (by omega) hL2 rfl dL_law_473 dL_law_474 ?_
  refine lv_aload_n hx hb dL_law_475 rfl (lv_at hl 0 rfl) ?_
  refine lv_iload_n hx hb dL_law_476 rfl (lv_at hl 3 rfl) ?_
  refine lv_iconst (v := nI 2) hx hb dL_law_477 (by decide) ?_
  refine lw_arg 2 hx hb hX hbl hAb hS (by omega) hL2 rfl dL_law_478 dL_law_479 ?_
  refine lw_brS (As := [.int (xs (i + 1)), .int (xs (i + 2))]) (rest := []) hx hb hml hown hts hK hL hI hS hE (c_X3_copy l D cI cR ad v ρ sp kp τ (xs (i + 1)) (xs (i + 2)) hok) (kV_X3_copy hts ml_L_52 ⟨Nat.le_trans (Nat.le_of_ble_eq_true rfl) hF, Nat.le_trans (Nat.le_of_ble_eq_true rfl) hLo⟩) rfl hl.1 rfl (Nat.le_of_ble_eq_true rfl) dL_law_480 hc hs ?_
  refine lv_aload_n hx hb dL_law_483 rfl (lv_at hl 2 rfl) ?_
  refine lv_aload_n hx hb dL_law_484 rfl (lv_at hl 0 rfl) ?_
  refine lv_iload_n hx hb dL_law_485 rfl (lv_at hl 3 rfl) ?_
  refine lv_iconst (v := nI 1) hx hb dL_law_486 (by decide) ?_
  refine lw_arg 1 hx hb hX hbl hAb hS (by omega) hL2 rfl dL_law_487 dL_law_488 ?_
  refine lv_aload_n hx hb dL_law_489 rfl (lv_at hl 0 rfl) ?_
  refine lv_iload_n hx hb dL_law_490 rfl (lv_at hl 3 rfl) ?_
  refine lv_iconst (v := nI 2) hx hb dL_law_491 (by decide) ?_
  refine lw_arg 2 hx hb hX hbl hAb hS (by omega) hL2 rfl dL_law_492 dL_law_493 ?_
  refine lw_moS (As := [.int (xs (i + 1)), .int (xs (i + 2))]) (rest := [.int (f_X2_copyProperty (ρ 0) (xs (i + 1)) (xs (i + 2)))]) hx hb hml hown hts hK hL (c_X4_copy l D cI om am μ hh (xs (i + 1)) (xs (i + 2)) hokm) (kV_X4_copy hts ml_L_55 ⟨Nat.le_trans (Nat.le_of_ble_eq_true rfl) hF, Nat.le_trans (Nat.le_of_ble_eq_true rfl) hLo⟩) rfl hl.1 rfl (Nat.le_of_ble_eq_true rfl) dL_law_494 hc hs ?_
  refine lw_eq hx hb (q_copy hrl (xs (i + 1)) (xs (i + 2))) dL_law_497 (by decide) ?_
  with_reducible exact lwNx_go kk hL hIV hS hl
set_option maxRecDepth 100000 in
theorem lw_case_10 (C : lwC p R s m args c cells slots D cI cR ad om am v A b L xs) (hi : i + 3 < L) (hL : lwH D cI cR ad om am ρ sp kp τ μ hh H) (hIV : IV ρ sp kp τ μ) (hS : va_S A s.heap H locs) (hl : lwV ad om b i ls)
    (kk : lwNx p l e R s m args below meth c cells slots Q D cI cR ad om am A b i 1036) : W p l e R s m args below meth c H locs cells slots Q (F0 m 502 ls []) := by
  obtain ⟨hx, hb, hml, hown, hts, hK, hI, hE, hN, hX, hbl, hAb, hF, hLo, hc, hs, hL2⟩ := C
  obtain ⟨hokm, hok, hokx, hsp, hkp, hrl⟩ := IV_ok hIV
  refine lv_aload_n hx hb dL_law_502 rfl (lv_at hl 1 rfl) ?_
  refine lv_aload_n hx hb dL_law_503 rfl (lv_at hl 0 rfl) ?_
  refine lv_iload_n hx hb dL_law_504 rfl (lv_at hl 3 rfl) ?_
  refine lv_iconst (v := nI 1) hx hb dL_law_505 (by decide) ?_
  refine lw_arg 1 hx hb hX hbl hAb hS (by omega) hL2 rfl dL_law_506 dL_law_507 ?_
  refine lw_brS (As := [.int (xs (i + 1))]) (rest := []) hx hb hml hown hts hK hL hI hS hE (c_X3_book l D cI cR ad v ρ sp kp τ (xs (i + 1))) (kV_X3_book hts ml_L_56 ⟨Nat.le_trans (Nat.le_of_ble_eq_true rfl) hF, Nat.le_trans (Nat.le_of_ble_eq_true rfl) hLo⟩) rfl hl.1 rfl (Nat.le_of_ble_eq_true rfl) dL_law_508 hc hs ?_
  refine lv_aload_n hx hb dL_law_511 rfl (lv_at hl 2 rfl) ?_
  refine lv_aload_n hx hb dL_law_512 rfl (lv_at hl 0 rfl) ?_
  refine lv_iload_n hx hb dL_law_513 rfl (lv_at hl 3 rfl) ?_
  refine lv_iconst (v := nI 1) hx hb dL_law_514 (by decide) ?_
  refine lw_arg 1 hx hb hX hbl hAb hS (by omega) hL2 rfl dL_law_515 dL_law_516 ?_
  refine lw_moS (As := [.int (xs (i + 1))]) (rest := [.int (f_X2_sumOf (ρ 0) (xs (i + 1)))]) hx hb hml hown hts hK hL (c_X4_book l D cI om am μ hh (xs (i + 1))) (kV_X4_book hts ml_L_59 ⟨Nat.le_trans (Nat.le_of_ble_eq_true rfl) hF, Nat.le_trans (Nat.le_of_ble_eq_true rfl) hLo⟩) rfl hl.1 rfl (Nat.le_of_ble_eq_true rfl) dL_law_517 hc hs ?_
  refine lw_eq hx hb (q_book hrl (xs (i + 1))) dL_law_520 (by decide) ?_
  with_reducible exact lwNx_go kk hL hIV hS hl
set_option maxRecDepth 100000 in
theorem lw_case_11 (C : lwC p R s m args c cells slots D cI cR ad om am v A b L xs) (hi : i + 3 < L) (hL : lwH D cI cR ad om am ρ sp kp τ μ hh H) (hIV : IV ρ sp kp τ μ) (hS : va_S A s.heap H locs) (hl : lwV ad om b i ls)
    (kk : lwNx p l e R s m args below meth c cells slots Q D cI cR ad om am A b i 1036) : W p l e R s m args below meth c H locs cells slots Q (F0 m 525 ls []) := by
  obtain ⟨hx, hb, hml, hown, hts, hK, hI, hE, hN, hX, hbl, hAb, hF, hLo, hc, hs, hL2⟩ := C
  obtain ⟨hokm, hok, hokx, hsp, hkp, hrl⟩ := IV_ok hIV
  refine lv_aload_n hx hb dL_law_525 rfl (lv_at hl 1 rfl) ?_
  refine lv_aload_n hx hb dL_law_526 rfl (lv_at hl 0 rfl) ?_
  refine lv_iload_n hx hb dL_law_527 rfl (lv_at hl 3 rfl) ?_
  refine lv_iconst (v := nI 1) hx hb dL_law_528 (by decide) ?_
  refine lw_arg 1 hx hb hX hbl hAb hS (by omega) hL2 rfl dL_law_529 dL_law_530 ?_
  refine lv_aload_n hx hb dL_law_531 rfl (lv_at hl 0 rfl) ?_
  refine lv_iload_n hx hb dL_law_532 rfl (lv_at hl 3 rfl) ?_
  refine lv_iconst (v := nI 2) hx hb dL_law_533 (by decide) ?_
  refine lw_arg 2 hx hb hX hbl hAb hS (by omega) hL2 rfl dL_law_534 dL_law_535 ?_
  refine lw_brQ (As := [.int (xs (i + 1)), .int (xs (i + 2))]) (rest := []) hx hb hml hown hts hK hL hI hS hE (c_X3_buy l D cI cR ad v ρ sp kp τ (xs (i + 1)) (xs (i + 2)) hsp hkp hok) (kV_X3_buy hts ml_L_60 ⟨Nat.le_trans (Nat.le_of_ble_eq_true rfl) hF, Nat.le_trans (Nat.le_of_ble_eq_true rfl) hLo⟩) rfl hl.1 rfl (Nat.le_of_ble_eq_true rfl) dL_law_536 hc hs (fun H locs hL hS => ?_)
  refine lv_aload_n hx hb dL_law_539 rfl (lv_at hl 2 rfl) ?_
  refine lv_aload_n hx hb dL_law_540 rfl (lv_at hl 0 rfl) ?_
  refine lv_iload_n hx hb dL_law_541 rfl (lv_at hl 3 rfl) ?_
  refine lv_iconst (v := nI 1) hx hb dL_law_542 (by decide) ?_
  refine lw_arg 1 hx hb hX hbl hAb hS (by omega) hL2 rfl dL_law_543 dL_law_544 ?_
  refine lv_aload_n hx hb dL_law_545 rfl (lv_at hl 0 rfl) ?_
  refine lv_iload_n hx hb dL_law_546 rfl (lv_at hl 3 rfl) ?_
  refine lv_iconst (v := nI 2) hx hb dL_law_547 (by decide) ?_
  refine lw_arg 2 hx hb hX hbl hAb hS (by omega) hL2 rfl dL_law_548 dL_law_549 ?_
  refine lw_moQ (As := [.int (xs (i + 1)), .int (xs (i + 2))]) (rest := [.int ((m_X2_buyNew (ρ 0) (xs (i + 1)) (xs (i + 2))).1)]) hx hb hml hown hts hK hL hI hS (c_X4_buy l D cI om am μ hh (xs (i + 1)) (xs (i + 2)) hokm) (kV_X4_buy hts ml_L_63 ⟨Nat.le_trans (Nat.le_of_ble_eq_true rfl) hF, Nat.le_trans (Nat.le_of_ble_eq_true rfl) hLo⟩) rfl hl.1 rfl (Nat.le_of_ble_eq_true rfl) dL_law_550 hc hs (fun H locs hL hS => ?_)
  have hf := IV_rec hIV (r_buy hrl hokm (xs (i + 1)) (xs (i + 2)))
  refine lw_eq hx hb hf.1 dL_law_553 (by decide) ?_
  with_reducible exact lwNx_go kk hL hf.2 hS hl
set_option maxRecDepth 100000 in
theorem lw_case_12 (C : lwC p R s m args c cells slots D cI cR ad om am v A b L xs) (hi : i + 3 < L) (hL : lwH D cI cR ad om am ρ sp kp τ μ hh H) (hIV : IV ρ sp kp τ μ) (hS : va_S A s.heap H locs) (hl : lwV ad om b i ls)
    (kk : lwNx p l e R s m args below meth c cells slots Q D cI cR ad om am A b i 1036) : W p l e R s m args below meth c H locs cells slots Q (F0 m 558 ls []) := by
  obtain ⟨hx, hb, hml, hown, hts, hK, hI, hE, hN, hX, hbl, hAb, hF, hLo, hc, hs, hL2⟩ := C
  obtain ⟨hokm, hok, hokx, hsp, hkp, hrl⟩ := IV_ok hIV
  refine lv_aload_n hx hb dL_law_558 rfl (lv_at hl 1 rfl) ?_
  refine lv_aload_n hx hb dL_law_559 rfl (lv_at hl 0 rfl) ?_
  refine lv_iload_n hx hb dL_law_560 rfl (lv_at hl 3 rfl) ?_
  refine lv_iconst (v := nI 1) hx hb dL_law_561 (by decide) ?_
  refine lw_arg 1 hx hb hX hbl hAb hS (by omega) hL2 rfl dL_law_562 dL_law_563 ?_
  refine lv_aload_n hx hb dL_law_564 rfl (lv_at hl 0 rfl) ?_
  refine lv_iload_n hx hb dL_law_565 rfl (lv_at hl 3 rfl) ?_
  refine lv_iconst (v := nI 2) hx hb dL_law_566 (by decide) ?_
  refine lw_arg 2 hx hb hX hbl hAb hS (by omega) hL2 rfl dL_law_567 dL_law_568 ?_
  refine lv_aload_n hx hb dL_law_569 rfl (lv_at hl 0 rfl) ?_
  refine lv_iload_n hx hb dL_law_570 rfl (lv_at hl 3 rfl) ?_
  refine lv_iconst (v := nI 3) hx hb dL_law_571 (by decide) ?_
  refine lw_arg 3 hx hb hX hbl hAb hS (by omega) hL2 rfl dL_law_572 dL_law_573 ?_
  refine lw_brS (As := [.int (xs (i + 1)), .int (xs (i + 2)), .int (xs (i + 3))]) (rest := []) hx hb hml hown hts hK hL hI hS hE (c_X3_offer l D cI cR ad v ρ sp kp τ (xs (i + 1)) (xs (i + 2)) (xs (i + 3)) hok) (kV_X3_offer hts ml_L_64 ⟨Nat.le_trans (Nat.le_of_ble_eq_true rfl) hF, Nat.le_trans (Nat.le_of_ble_eq_true rfl) hLo⟩) rfl hl.1 rfl (Nat.le_of_ble_eq_true rfl) dL_law_574 hc hs ?_
  refine lv_aload_n hx hb dL_law_577 rfl (lv_at hl 2 rfl) ?_
  refine lv_aload_n hx hb dL_law_578 rfl (lv_at hl 0 rfl) ?_
  refine lv_iload_n hx hb dL_law_579 rfl (lv_at hl 3 rfl) ?_
  refine lv_iconst (v := nI 1) hx hb dL_law_580 (by decide) ?_
  refine lw_arg 1 hx hb hX hbl hAb hS (by omega) hL2 rfl dL_law_581 dL_law_582 ?_
  refine lv_aload_n hx hb dL_law_583 rfl (lv_at hl 0 rfl) ?_
  refine lv_iload_n hx hb dL_law_584 rfl (lv_at hl 3 rfl) ?_
  refine lv_iconst (v := nI 2) hx hb dL_law_585 (by decide) ?_
  refine lw_arg 2 hx hb hX hbl hAb hS (by omega) hL2 rfl dL_law_586 dL_law_587 ?_
  refine lv_aload_n hx hb dL_law_588 rfl (lv_at hl 0 rfl) ?_
  refine lv_iload_n hx hb dL_law_589 rfl (lv_at hl 3 rfl) ?_
  refine lv_iconst (v := nI 3) hx hb dL_law_590 (by decide) ?_
  refine lw_arg 3 hx hb hX hbl hAb hS (by omega) hL2 rfl dL_law_591 dL_law_592 ?_
  refine lw_moS (As := [.int (xs (i + 1)), .int (xs (i + 2)), .int (xs (i + 3))]) (rest := [.int (f_X2_offerFor (ρ 0) (xs (i + 1)) (xs (i + 2)) (xs (i + 3)))]) hx hb hml hown hts hK hL (c_X4_offer l D cI om am μ hh (xs (i + 1)) (xs (i + 2)) (xs (i + 3)) hokm) (kV_X4_offer hts ml_L_67 ⟨Nat.le_trans (Nat.le_of_ble_eq_true rfl) hF, Nat.le_trans (Nat.le_of_ble_eq_true rfl) hLo⟩) rfl hl.1 rfl (Nat.le_of_ble_eq_true rfl) dL_law_593 hc hs ?_
  refine lw_eq hx hb (q_offer hrl (xs (i + 1)) (xs (i + 2)) (xs (i + 3))) dL_law_596 (by decide) ?_
  with_reducible exact lwNx_go kk hL hIV hS hl
set_option maxRecDepth 100000 in
theorem lw_case_13 (C : lwC p R s m args c cells slots D cI cR ad om am v A b L xs) (hi : i + 3 < L) (hL : lwH D cI cR ad om am ρ sp kp τ μ hh H) (hIV : IV ρ sp kp τ μ) (hS : va_S A s.heap H locs) (hl : lwV ad om b i ls)
    (kk : lwNx p l e R s m args below meth c cells slots Q D cI cR ad om am A b i 1036) : W p l e R s m args below meth c H locs cells slots Q (F0 m 601 ls []) := by
  obtain ⟨hx, hb, hml, hown, hts, hK, hI, hE, hN, hX, hbl, hAb, hF, hLo, hc, hs, hL2⟩ := C
  obtain ⟨hokm, hok, hokx, hsp, hkp, hrl⟩ := IV_ok hIV
  refine lv_aload_n hx hb dL_law_601 rfl (lv_at hl 1 rfl) ?_
  refine lv_aload_n hx hb dL_law_602 rfl (lv_at hl 0 rfl) ?_
  refine lv_iload_n hx hb dL_law_603 rfl (lv_at hl 3 rfl) ?_
  refine lv_iconst (v := nI 1) hx hb dL_law_604 (by decide) ?_
  refine lw_arg 1 hx hb hX hbl hAb hS (by omega) hL2 rfl dL_law_605 dL_law_606 ?_
  refine lv_aload_n hx hb dL_law_607 rfl (lv_at hl 0 rfl) ?_
  refine lv_iload_n hx hb dL_law_608 rfl (lv_at hl 3 rfl) ?_
  refine lv_iconst (v := nI 2) hx hb dL_law_609 (by decide) ?_
  refine lw_arg 2 hx hb hX hbl hAb hS (by omega) hL2 rfl dL_law_610 dL_law_611 ?_
  refine lv_aload_n hx hb dL_law_612 rfl (lv_at hl 0 rfl) ?_
  refine lv_iload_n hx hb dL_law_613 rfl (lv_at hl 3 rfl) ?_
  refine lv_iconst (v := nI 3) hx hb dL_law_614 (by decide) ?_
  refine lw_arg 3 hx hb hX hbl hAb hS (by omega) hL2 rfl dL_law_615 dL_law_616 ?_
  refine lw_brQ (As := [.int (xs (i + 1)), .int (xs (i + 2)), .int (xs (i + 3))]) (rest := []) hx hb hml hown hts hK hL hI hS hE (c_X3_buyBack l D cI cR ad v ρ sp kp τ (xs (i + 1)) (xs (i + 2)) (xs (i + 3)) hsp hkp hok) (kV_X3_buyBack hts ml_L_68 ⟨Nat.le_trans (Nat.le_of_ble_eq_true rfl) hF, Nat.le_trans (Nat.le_of_ble_eq_true rfl) hLo⟩) rfl hl.1 rfl (Nat.le_of_ble_eq_true rfl) dL_law_617 hc hs (fun H locs hL hS => ?_)
  refine lv_aload_n hx hb dL_law_620 rfl (lv_at hl 2 rfl) ?_
  refine lv_aload_n hx hb dL_law_621 rfl (lv_at hl 0 rfl) ?_
  refine lv_iload_n hx hb dL_law_622 rfl (lv_at hl 3 rfl) ?_
  refine lv_iconst (v := nI 1) hx hb dL_law_623 (by decide) ?_
  refine lw_arg 1 hx hb hX hbl hAb hS (by omega) hL2 rfl dL_law_624 dL_law_625 ?_
  refine lv_aload_n hx hb dL_law_626 rfl (lv_at hl 0 rfl) ?_
  refine lv_iload_n hx hb dL_law_627 rfl (lv_at hl 3 rfl) ?_
  refine lv_iconst (v := nI 2) hx hb dL_law_628 (by decide) ?_
  refine lw_arg 2 hx hb hX hbl hAb hS (by omega) hL2 rfl dL_law_629 dL_law_630 ?_
  refine lv_aload_n hx hb dL_law_631 rfl (lv_at hl 0 rfl) ?_
  refine lv_iload_n hx hb dL_law_632 rfl (lv_at hl 3 rfl) ?_
  refine lv_iconst (v := nI 3) hx hb dL_law_633 (by decide) ?_
  refine lw_arg 3 hx hb hX hbl hAb hS (by omega) hL2 rfl dL_law_634 dL_law_635 ?_
  refine lw_moQ (As := [.int (xs (i + 1)), .int (xs (i + 2)), .int (xs (i + 3))]) (rest := [.int ((m_X2_buyUsed (ρ 0) (xs (i + 1)) (xs (i + 2)) (xs (i + 3))).1)]) hx hb hml hown hts hK hL hI hS (c_X4_buyBack l D cI om am μ hh (xs (i + 1)) (xs (i + 2)) (xs (i + 3)) hokm) (kV_X4_buyBack hts ml_L_71 ⟨Nat.le_trans (Nat.le_of_ble_eq_true rfl) hF, Nat.le_trans (Nat.le_of_ble_eq_true rfl) hLo⟩) rfl hl.1 rfl (Nat.le_of_ble_eq_true rfl) dL_law_636 hc hs (fun H locs hL hS => ?_)
  have hf := IV_rec hIV (r_buyBack hrl hokm (xs (i + 1)) (xs (i + 2)) (xs (i + 3)))
  refine lw_eq hx hb hf.1 dL_law_639 (by decide) ?_
  with_reducible exact lwNx_go kk hL hf.2 hS hl
set_option maxRecDepth 100000 in
theorem lw_case_14 (C : lwC p R s m args c cells slots D cI cR ad om am v A b L xs) (hi : i + 3 < L) (hL : lwH D cI cR ad om am ρ sp kp τ μ hh H) (hIV : IV ρ sp kp τ μ) (hS : va_S A s.heap H locs) (hl : lwV ad om b i ls)
    (kk : lwNx p l e R s m args below meth c cells slots Q D cI cR ad om am A b i 1036) : W p l e R s m args below meth c H locs cells slots Q (F0 m 644 ls []) := by
  obtain ⟨hx, hb, hml, hown, hts, hK, hI, hE, hN, hX, hbl, hAb, hF, hLo, hc, hs, hL2⟩ := C
  obtain ⟨hokm, hok, hokx, hsp, hkp, hrl⟩ := IV_ok hIV
  refine lv_aload_n hx hb dL_law_644 rfl (lv_at hl 1 rfl) ?_
  refine lv_aload_n hx hb dL_law_645 rfl (lv_at hl 0 rfl) ?_
  refine lv_iload_n hx hb dL_law_646 rfl (lv_at hl 3 rfl) ?_
  refine lv_iconst (v := nI 1) hx hb dL_law_647 (by decide) ?_
  refine lw_arg 1 hx hb hX hbl hAb hS (by omega) hL2 rfl dL_law_648 dL_law_649 ?_
  refine lw_brQ (As := [.int (xs (i + 1))]) (rest := []) hx hb hml hown hts hK hL hI hS hE (c_X3_sell l D cI cR ad v ρ sp kp τ (xs (i + 1)) hsp hkp hok) (kV_X3_sell hts ml_L_72 ⟨Nat.le_trans (Nat.le_of_ble_eq_true rfl) hF, Nat.le_trans (Nat.le_of_ble_eq_true rfl) hLo⟩) rfl hl.1 rfl (Nat.le_of_ble_eq_true rfl) dL_law_650 hc hs (fun H locs hL hS => ?_)
  refine lv_aload_n hx hb dL_law_653 rfl (lv_at hl 2 rfl) ?_
  refine lv_aload_n hx hb dL_law_654 rfl (lv_at hl 0 rfl) ?_
  refine lv_iload_n hx hb dL_law_655 rfl (lv_at hl 3 rfl) ?_
  refine lv_iconst (v := nI 1) hx hb dL_law_656 (by decide) ?_
  refine lw_arg 1 hx hb hX hbl hAb hS (by omega) hL2 rfl dL_law_657 dL_law_658 ?_
  refine lw_moQ (As := [.int (xs (i + 1))]) (rest := [.int ((m_X2_sellCopy (ρ 0) (xs (i + 1))).1)]) hx hb hml hown hts hK hL hI hS (c_X4_sell l D cI om am μ hh (xs (i + 1)) hokm) (kV_X4_sell hts ml_L_75 ⟨Nat.le_trans (Nat.le_of_ble_eq_true rfl) hF, Nat.le_trans (Nat.le_of_ble_eq_true rfl) hLo⟩) rfl hl.1 rfl (Nat.le_of_ble_eq_true rfl) dL_law_659 hc hs (fun H locs hL hS => ?_)
  have hf := IV_rec hIV (r_sell hrl hokm (xs (i + 1)))
  refine lw_eq hx hb hf.1 dL_law_662 (by decide) ?_
  with_reducible exact lwNx_go kk hL hf.2 hS hl
set_option maxRecDepth 100000 in
theorem lw_case_15 (C : lwC p R s m args c cells slots D cI cR ad om am v A b L xs) (hi : i + 3 < L) (hL : lwH D cI cR ad om am ρ sp kp τ μ hh H) (hIV : IV ρ sp kp τ μ) (hS : va_S A s.heap H locs) (hl : lwV ad om b i ls)
    (kk : lwNx p l e R s m args below meth c cells slots Q D cI cR ad om am A b i 1036) : W p l e R s m args below meth c H locs cells slots Q (F0 m 667 ls []) := by
  obtain ⟨hx, hb, hml, hown, hts, hK, hI, hE, hN, hX, hbl, hAb, hF, hLo, hc, hs, hL2⟩ := C
  obtain ⟨hokm, hok, hokx, hsp, hkp, hrl⟩ := IV_ok hIV
  refine lv_aload_n hx hb dL_law_667 rfl (lv_at hl 1 rfl) ?_
  refine lv_aload_n hx hb dL_law_668 rfl (lv_at hl 0 rfl) ?_
  refine lv_iload_n hx hb dL_law_669 rfl (lv_at hl 3 rfl) ?_
  refine lv_iconst (v := nI 1) hx hb dL_law_670 (by decide) ?_
  refine lw_arg 1 hx hb hX hbl hAb hS (by omega) hL2 rfl dL_law_671 dL_law_672 ?_
  refine lv_aload_n hx hb dL_law_673 rfl (lv_at hl 0 rfl) ?_
  refine lv_iload_n hx hb dL_law_674 rfl (lv_at hl 3 rfl) ?_
  refine lv_iconst (v := nI 2) hx hb dL_law_675 (by decide) ?_
  refine lw_arg 2 hx hb hX hbl hAb hS (by omega) hL2 rfl dL_law_676 dL_law_677 ?_
  refine lw_brQ (As := [.int (xs (i + 1)), .int (xs (i + 2))]) (rest := []) hx hb hml hown hts hK hL hI hS hE (c_X3_rent l D cI cR ad v ρ sp kp τ (xs (i + 1)) (xs (i + 2)) hsp hkp hok) (kV_X3_rent hts ml_L_76 ⟨Nat.le_trans (Nat.le_of_ble_eq_true rfl) hF, Nat.le_trans (Nat.le_of_ble_eq_true rfl) hLo⟩) rfl hl.1 rfl (Nat.le_of_ble_eq_true rfl) dL_law_678 hc hs (fun H locs hL hS => ?_)
  refine lv_aload_n hx hb dL_law_681 rfl (lv_at hl 2 rfl) ?_
  refine lv_aload_n hx hb dL_law_682 rfl (lv_at hl 0 rfl) ?_
  refine lv_iload_n hx hb dL_law_683 rfl (lv_at hl 3 rfl) ?_
  refine lv_iconst (v := nI 1) hx hb dL_law_684 (by decide) ?_
  refine lw_arg 1 hx hb hX hbl hAb hS (by omega) hL2 rfl dL_law_685 dL_law_686 ?_
  refine lv_aload_n hx hb dL_law_687 rfl (lv_at hl 0 rfl) ?_
  refine lv_iload_n hx hb dL_law_688 rfl (lv_at hl 3 rfl) ?_
  refine lv_iconst (v := nI 2) hx hb dL_law_689 (by decide) ?_
  refine lw_arg 2 hx hb hX hbl hAb hS (by omega) hL2 rfl dL_law_690 dL_law_691 ?_
  refine lw_moQ (As := [.int (xs (i + 1)), .int (xs (i + 2))]) (rest := [.int ((m_X2_rentCopy (ρ 0) (xs (i + 1)) (xs (i + 2))).1)]) hx hb hml hown hts hK hL hI hS (c_X4_rent l D cI om am μ hh (xs (i + 1)) (xs (i + 2)) hokm) (kV_X4_rent hts ml_L_79 ⟨Nat.le_trans (Nat.le_of_ble_eq_true rfl) hF, Nat.le_trans (Nat.le_of_ble_eq_true rfl) hLo⟩) rfl hl.1 rfl (Nat.le_of_ble_eq_true rfl) dL_law_692 hc hs (fun H locs hL hS => ?_)
  have hf := IV_rec hIV (r_rent hrl hokm (xs (i + 1)) (xs (i + 2)))
  refine lw_eq hx hb hf.1 dL_law_695 (by decide) ?_
  with_reducible exact lwNx_go kk hL hf.2 hS hl
set_option maxRecDepth 100000 in
theorem lw_case_16 (C : lwC p R s m args c cells slots D cI cR ad om am v A b L xs) (hi : i + 3 < L) (hL : lwH D cI cR ad om am ρ sp kp τ μ hh H) (hIV : IV ρ sp kp τ μ) (hS : va_S A s.heap H locs) (hl : lwV ad om b i ls)
    (kk : lwNx p l e R s m args below meth c cells slots Q D cI cR ad om am A b i 1036) : W p l e R s m args below meth c H locs cells slots Q (F0 m 700 ls []) := by
  obtain ⟨hx, hb, hml, hown, hts, hK, hI, hE, hN, hX, hbl, hAb, hF, hLo, hc, hs, hL2⟩ := C
  obtain ⟨hokm, hok, hokx, hsp, hkp, hrl⟩ := IV_ok hIV
  refine lv_aload_n hx hb dL_law_700 rfl (lv_at hl 1 rfl) ?_
  refine lv_aload_n hx hb dL_law_701 rfl (lv_at hl 0 rfl) ?_
  refine lv_iload_n hx hb dL_law_702 rfl (lv_at hl 3 rfl) ?_
  refine lv_iconst (v := nI 1) hx hb dL_law_703 (by decide) ?_
  refine lw_arg 1 hx hb hX hbl hAb hS (by omega) hL2 rfl dL_law_704 dL_law_705 ?_
  refine lw_brS (As := [.int (xs (i + 1))]) (rest := []) hx hb hml hown hts hK hL hI hS hE (c_X3_next l D cI cR ad v ρ sp kp τ (xs (i + 1)) hok) (kV_X3_next hts ml_L_80 ⟨Nat.le_trans (Nat.le_of_ble_eq_true rfl) hF, Nat.le_trans (Nat.le_of_ble_eq_true rfl) hLo⟩) rfl hl.1 rfl (Nat.le_of_ble_eq_true rfl) dL_law_706 hc hs ?_
  refine lv_aload_n hx hb dL_law_709 rfl (lv_at hl 2 rfl) ?_
  refine lv_aload_n hx hb dL_law_710 rfl (lv_at hl 0 rfl) ?_
  refine lv_iload_n hx hb dL_law_711 rfl (lv_at hl 3 rfl) ?_
  refine lv_iconst (v := nI 1) hx hb dL_law_712 (by decide) ?_
  refine lw_arg 1 hx hb hX hbl hAb hS (by omega) hL2 rfl dL_law_713 dL_law_714 ?_
  refine lw_moS (As := [.int (xs (i + 1))]) (rest := [.int (f_X2_nextCopy (ρ 0) (xs (i + 1)))]) hx hb hml hown hts hK hL (c_X4_next l D cI om am μ hh (xs (i + 1)) hokm) (kV_X4_next hts ml_L_83 ⟨Nat.le_trans (Nat.le_of_ble_eq_true rfl) hF, Nat.le_trans (Nat.le_of_ble_eq_true rfl) hLo⟩) rfl hl.1 rfl (Nat.le_of_ble_eq_true rfl) dL_law_715 hc hs ?_
  refine lw_eq hx hb (q_next hrl (xs (i + 1))) dL_law_718 (by decide) ?_
  with_reducible exact lwNx_go kk hL hIV hS hl
set_option maxRecDepth 100000 in
theorem lw_case_17 (C : lwC p R s m args c cells slots D cI cR ad om am v A b L xs) (hi : i + 3 < L) (hL : lwH D cI cR ad om am ρ sp kp τ μ hh H) (hIV : IV ρ sp kp τ μ) (hS : va_S A s.heap H locs) (hl : lwV ad om b i ls)
    (kk : lwNx p l e R s m args below meth c cells slots Q D cI cR ad om am A b i 1036) : W p l e R s m args below meth c H locs cells slots Q (F0 m 723 ls []) := by
  obtain ⟨hx, hb, hml, hown, hts, hK, hI, hE, hN, hX, hbl, hAb, hF, hLo, hc, hs, hL2⟩ := C
  obtain ⟨hokm, hok, hokx, hsp, hkp, hrl⟩ := IV_ok hIV
  refine lv_aload_n hx hb dL_law_723 rfl (lv_at hl 1 rfl) ?_
  refine lv_aload_n hx hb dL_law_724 rfl (lv_at hl 0 rfl) ?_
  refine lv_iload_n hx hb dL_law_725 rfl (lv_at hl 3 rfl) ?_
  refine lv_iconst (v := nI 1) hx hb dL_law_726 (by decide) ?_
  refine lw_arg 1 hx hb hX hbl hAb hS (by omega) hL2 rfl dL_law_727 dL_law_728 ?_
  refine lv_aload_n hx hb dL_law_729 rfl (lv_at hl 0 rfl) ?_
  refine lv_iload_n hx hb dL_law_730 rfl (lv_at hl 3 rfl) ?_
  refine lv_iconst (v := nI 2) hx hb dL_law_731 (by decide) ?_
  refine lw_arg 2 hx hb hX hbl hAb hS (by omega) hL2 rfl dL_law_732 dL_law_733 ?_
  refine lw_brQ (As := [.int (xs (i + 1)), .int (xs (i + 2))]) (rest := []) hx hb hml hown hts hK hL hI hS hE (c_X3_giveBack l D cI cR ad v ρ sp kp τ (xs (i + 1)) (xs (i + 2)) hsp hkp hok) (kV_X3_giveBack hts ml_L_84 ⟨Nat.le_trans (Nat.le_of_ble_eq_true rfl) hF, Nat.le_trans (Nat.le_of_ble_eq_true rfl) hLo⟩) rfl hl.1 rfl (Nat.le_of_ble_eq_true rfl) dL_law_734 hc hs (fun H locs hL hS => ?_)
  refine lv_aload_n hx hb dL_law_737 rfl (lv_at hl 2 rfl) ?_
  refine lv_aload_n hx hb dL_law_738 rfl (lv_at hl 0 rfl) ?_
  refine lv_iload_n hx hb dL_law_739 rfl (lv_at hl 3 rfl) ?_
  refine lv_iconst (v := nI 1) hx hb dL_law_740 (by decide) ?_
  refine lw_arg 1 hx hb hX hbl hAb hS (by omega) hL2 rfl dL_law_741 dL_law_742 ?_
  refine lv_aload_n hx hb dL_law_743 rfl (lv_at hl 0 rfl) ?_
  refine lv_iload_n hx hb dL_law_744 rfl (lv_at hl 3 rfl) ?_
  refine lv_iconst (v := nI 2) hx hb dL_law_745 (by decide) ?_
  refine lw_arg 2 hx hb hX hbl hAb hS (by omega) hL2 rfl dL_law_746 dL_law_747 ?_
  refine lw_moQ (As := [.int (xs (i + 1)), .int (xs (i + 2))]) (rest := [.int ((m_X2_takeBack (ρ 0) (xs (i + 1)) (xs (i + 2))).1)]) hx hb hml hown hts hK hL hI hS (c_X4_giveBack l D cI om am μ hh (xs (i + 1)) (xs (i + 2)) hokm) (kV_X4_giveBack hts ml_L_87 ⟨Nat.le_trans (Nat.le_of_ble_eq_true rfl) hF, Nat.le_trans (Nat.le_of_ble_eq_true rfl) hLo⟩) rfl hl.1 rfl (Nat.le_of_ble_eq_true rfl) dL_law_748 hc hs (fun H locs hL hS => ?_)
  have hf := IV_rec hIV (r_give hrl hokm (xs (i + 1)) (xs (i + 2)))
  refine lw_eq hx hb hf.1 dL_law_751 (by decide) ?_
  with_reducible exact lwNx_go kk hL hf.2 hS hl
set_option maxRecDepth 100000 in
theorem lw_case_18 (C : lwC p R s m args c cells slots D cI cR ad om am v A b L xs) (hi : i + 3 < L) (hL : lwH D cI cR ad om am ρ sp kp τ μ hh H) (hIV : IV ρ sp kp τ μ) (hS : va_S A s.heap H locs) (hl : lwV ad om b i ls)
    (kk : lwNx p l e R s m args below meth c cells slots Q D cI cR ad om am A b i 1036) : W p l e R s m args below meth c H locs cells slots Q (F0 m 756 ls []) := by
  obtain ⟨hx, hb, hml, hown, hts, hK, hI, hE, hN, hX, hbl, hAb, hF, hLo, hc, hs, hL2⟩ := C
  obtain ⟨hokm, hok, hokx, hsp, hkp, hrl⟩ := IV_ok hIV
  refine lv_aload_n hx hb dL_law_756 rfl (lv_at hl 1 rfl) ?_
  refine lv_aload_n hx hb dL_law_757 rfl (lv_at hl 0 rfl) ?_
  refine lv_iload_n hx hb dL_law_758 rfl (lv_at hl 3 rfl) ?_
  refine lv_iconst (v := nI 1) hx hb dL_law_759 (by decide) ?_
  refine lw_arg 1 hx hb hX hbl hAb hS (by omega) hL2 rfl dL_law_760 dL_law_761 ?_
  refine lv_aload_n hx hb dL_law_762 rfl (lv_at hl 0 rfl) ?_
  refine lv_iload_n hx hb dL_law_763 rfl (lv_at hl 3 rfl) ?_
  refine lv_iconst (v := nI 2) hx hb dL_law_764 (by decide) ?_
  refine lw_arg 2 hx hb hX hbl hAb hS (by omega) hL2 rfl dL_law_765 dL_law_766 ?_
  refine lv_aload_n hx hb dL_law_767 rfl (lv_at hl 0 rfl) ?_
  refine lv_iload_n hx hb dL_law_768 rfl (lv_at hl 3 rfl) ?_
  refine lv_iconst (v := nI 3) hx hb dL_law_769 (by decide) ?_
  refine lw_arg 3 hx hb hX hbl hAb hS (by omega) hL2 rfl dL_law_770 dL_law_771 ?_
  refine lw_brS (As := [.int (xs (i + 1)), .int (xs (i + 2)), .int (xs (i + 3))]) (rest := []) hx hb hml hown hts hK hL hI hS hE (c_X3_charge l D cI cR ad v ρ sp kp τ (xs (i + 1)) (xs (i + 2)) (xs (i + 3)) hok) (kV_X3_charge hts ml_L_88 ⟨Nat.le_trans (Nat.le_of_ble_eq_true rfl) hF, Nat.le_trans (Nat.le_of_ble_eq_true rfl) hLo⟩) rfl hl.1 rfl (Nat.le_of_ble_eq_true rfl) dL_law_772 hc hs ?_
  refine lv_aload_n hx hb dL_law_775 rfl (lv_at hl 2 rfl) ?_
  refine lv_aload_n hx hb dL_law_776 rfl (lv_at hl 0 rfl) ?_
  refine lv_iload_n hx hb dL_law_777 rfl (lv_at hl 3 rfl) ?_
  refine lv_iconst (v := nI 1) hx hb dL_law_778 (by decide) ?_
  refine lw_arg 1 hx hb hX hbl hAb hS (by omega) hL2 rfl dL_law_779 dL_law_780 ?_
  refine lv_aload_n hx hb dL_law_781 rfl (lv_at hl 0 rfl) ?_
  refine lv_iload_n hx hb dL_law_782 rfl (lv_at hl 3 rfl) ?_
  refine lv_iconst (v := nI 2) hx hb dL_law_783 (by decide) ?_
  refine lw_arg 2 hx hb hX hbl hAb hS (by omega) hL2 rfl dL_law_784 dL_law_785 ?_
  refine lv_aload_n hx hb dL_law_786 rfl (lv_at hl 0 rfl) ?_
  refine lv_iload_n hx hb dL_law_787 rfl (lv_at hl 3 rfl) ?_
  refine lv_iconst (v := nI 3) hx hb dL_law_788 (by decide) ?_
  refine lw_arg 3 hx hb hX hbl hAb hS (by omega) hL2 rfl dL_law_789 dL_law_790 ?_
  refine lw_moS (As := [.int (xs (i + 1)), .int (xs (i + 2)), .int (xs (i + 3))]) (rest := [.int (f_X2_chargeFor (ρ 0) (xs (i + 1)) (xs (i + 2)) (xs (i + 3)))]) hx hb hml hown hts hK hL (c_X4_charge l D cI om am μ hh (xs (i + 1)) (xs (i + 2)) (xs (i + 3)) hokm) (kV_X4_charge hts ml_L_91 ⟨Nat.le_trans (Nat.le_of_ble_eq_true rfl) hF, Nat.le_trans (Nat.le_of_ble_eq_true rfl) hLo⟩) rfl hl.1 rfl (Nat.le_of_ble_eq_true rfl) dL_law_791 hc hs ?_
  refine lw_eq hx hb (q_charge hrl (xs (i + 1)) (xs (i + 2)) (xs (i + 3))) dL_law_794 (by decide) ?_
  with_reducible exact lwNx_go kk hL hIV hS hl
set_option maxRecDepth 100000 in
theorem lw_case_19 (C : lwC p R s m args c cells slots D cI cR ad om am v A b L xs) (hi : i + 3 < L) (hL : lwH D cI cR ad om am ρ sp kp τ μ hh H) (hIV : IV ρ sp kp τ μ) (hS : va_S A s.heap H locs) (hl : lwV ad om b i ls)
    (kk : lwNx p l e R s m args below meth c cells slots Q D cI cR ad om am A b i 1036) : W p l e R s m args below meth c H locs cells slots Q (F0 m 799 ls []) := by
  obtain ⟨hx, hb, hml, hown, hts, hK, hI, hE, hN, hX, hbl, hAb, hF, hLo, hc, hs, hL2⟩ := C
  obtain ⟨hokm, hok, hokx, hsp, hkp, hrl⟩ := IV_ok hIV
  refine lv_aload_n hx hb dL_law_799 rfl (lv_at hl 1 rfl) ?_
  refine lv_aload_n hx hb dL_law_800 rfl (lv_at hl 0 rfl) ?_
  refine lv_iload_n hx hb dL_law_801 rfl (lv_at hl 3 rfl) ?_
  refine lv_iconst (v := nI 1) hx hb dL_law_802 (by decide) ?_
  refine lw_arg 1 hx hb hX hbl hAb hS (by omega) hL2 rfl dL_law_803 dL_law_804 ?_
  refine lw_brQ (As := [.int (xs (i + 1))]) (rest := []) hx hb hml hown hts hK hL hI hS hE (c_X3_pass l D cI cR ad v ρ sp kp τ (xs (i + 1)) hsp hkp hok) (kV_X3_pass hts ml_L_92 ⟨Nat.le_trans (Nat.le_of_ble_eq_true rfl) hF, Nat.le_trans (Nat.le_of_ble_eq_true rfl) hLo⟩) rfl hl.1 rfl (Nat.le_of_ble_eq_true rfl) dL_law_805 hc hs (fun H locs hL hS => ?_)
  refine lv_aload_n hx hb dL_law_808 rfl (lv_at hl 2 rfl) ?_
  refine lv_aload_n hx hb dL_law_809 rfl (lv_at hl 0 rfl) ?_
  refine lv_iload_n hx hb dL_law_810 rfl (lv_at hl 3 rfl) ?_
  refine lv_iconst (v := nI 1) hx hb dL_law_811 (by decide) ?_
  refine lw_arg 1 hx hb hX hbl hAb hS (by omega) hL2 rfl dL_law_812 dL_law_813 ?_
  refine lw_moQ (As := [.int (xs (i + 1))]) (rest := [.int ((m_X2_passDays (ρ 0) (xs (i + 1))).1)]) hx hb hml hown hts hK hL hI hS (c_X4_pass l D cI om am μ hh (xs (i + 1)) hokm) (kV_X4_pass hts ml_L_95 ⟨Nat.le_trans (Nat.le_of_ble_eq_true rfl) hF, Nat.le_trans (Nat.le_of_ble_eq_true rfl) hLo⟩) rfl hl.1 rfl (Nat.le_of_ble_eq_true rfl) dL_law_814 hc hs (fun H locs hL hS => ?_)
  have hf := IV_rec hIV (r_pass hrl hokm (xs (i + 1)))
  refine lw_eq hx hb hf.1 dL_law_817 (by decide) ?_
  with_reducible exact lwNx_go kk hL hf.2 hS hl
set_option maxRecDepth 100000 in
theorem lw_case_20 (C : lwC p R s m args c cells slots D cI cR ad om am v A b L xs) (hi : i + 3 < L) (hL : lwH D cI cR ad om am ρ sp kp τ μ hh H) (hIV : IV ρ sp kp τ μ) (hS : va_S A s.heap H locs) (hl : lwV ad om b i ls)
    (kk : lwNx p l e R s m args below meth c cells slots Q D cI cR ad om am A b i 1036) : W p l e R s m args below meth c H locs cells slots Q (F0 m 822 ls []) := by
  obtain ⟨hx, hb, hml, hown, hts, hK, hI, hE, hN, hX, hbl, hAb, hF, hLo, hc, hs, hL2⟩ := C
  obtain ⟨hokm, hok, hokx, hsp, hkp, hrl⟩ := IV_ok hIV
  refine lv_aload_n hx hb dL_law_822 rfl (lv_at hl 1 rfl) ?_
  refine lv_aload_n hx hb dL_law_823 rfl (lv_at hl 0 rfl) ?_
  refine lv_iload_n hx hb dL_law_824 rfl (lv_at hl 3 rfl) ?_
  refine lv_iconst (v := nI 1) hx hb dL_law_825 (by decide) ?_
  refine lw_arg 1 hx hb hX hbl hAb hS (by omega) hL2 rfl dL_law_826 dL_law_827 ?_
  refine lv_aload_n hx hb dL_law_828 rfl (lv_at hl 0 rfl) ?_
  refine lv_iload_n hx hb dL_law_829 rfl (lv_at hl 3 rfl) ?_
  refine lv_iconst (v := nI 2) hx hb dL_law_830 (by decide) ?_
  refine lw_arg 2 hx hb hX hbl hAb hS (by omega) hL2 rfl dL_law_831 dL_law_832 ?_
  refine lw_brQ (As := [.int (xs (i + 1)), .int (xs (i + 2))]) (rest := []) hx hb hml hown hts hK hL hI hS hE (c_X3_shelf l D cI cR ad v ρ sp kp τ (xs (i + 1)) (xs (i + 2)) hsp hkp hok) (kV_X3_shelf hts ml_L_96 ⟨Nat.le_trans (Nat.le_of_ble_eq_true rfl) hF, Nat.le_trans (Nat.le_of_ble_eq_true rfl) hLo⟩) rfl hl.1 rfl (Nat.le_of_ble_eq_true rfl) dL_law_833 hc hs (fun H locs hL hS => ?_)
  refine lv_aload_n hx hb dL_law_836 rfl (lv_at hl 2 rfl) ?_
  refine lv_aload_n hx hb dL_law_837 rfl (lv_at hl 0 rfl) ?_
  refine lv_iload_n hx hb dL_law_838 rfl (lv_at hl 3 rfl) ?_
  refine lv_iconst (v := nI 1) hx hb dL_law_839 (by decide) ?_
  refine lw_arg 1 hx hb hX hbl hAb hS (by omega) hL2 rfl dL_law_840 dL_law_841 ?_
  refine lv_aload_n hx hb dL_law_842 rfl (lv_at hl 0 rfl) ?_
  refine lv_iload_n hx hb dL_law_843 rfl (lv_at hl 3 rfl) ?_
  refine lv_iconst (v := nI 2) hx hb dL_law_844 (by decide) ?_
  refine lw_arg 2 hx hb hX hbl hAb hS (by omega) hL2 rfl dL_law_845 dL_law_846 ?_
  refine lw_moQ (As := [.int (xs (i + 1)), .int (xs (i + 2))]) (rest := [.int ((m_X2_countShelf (ρ 0) (xs (i + 1)) (xs (i + 2))).1)]) hx hb hml hown hts hK hL hI hS (c_X4_shelf l D cI om am μ hh (xs (i + 1)) (xs (i + 2)) hokm) (kV_X4_shelf hts ml_L_99 ⟨Nat.le_trans (Nat.le_of_ble_eq_true rfl) hF, Nat.le_trans (Nat.le_of_ble_eq_true rfl) hLo⟩) rfl hl.1 rfl (Nat.le_of_ble_eq_true rfl) dL_law_847 hc hs (fun H locs hL hS => ?_)
  have hf := IV_rec hIV (r_shelf hrl hokm (xs (i + 1)) (xs (i + 2)))
  refine lw_eq hx hb hf.1 dL_law_850 (by decide) ?_
  with_reducible exact lwNx_go kk hL hf.2 hS hl
set_option maxRecDepth 100000 in
theorem lw_case_21 (C : lwC p R s m args c cells slots D cI cR ad om am v A b L xs) (hi : i + 3 < L) (hL : lwH D cI cR ad om am ρ sp kp τ μ hh H) (hIV : IV ρ sp kp τ μ) (hS : va_S A s.heap H locs) (hl : lwV ad om b i ls)
    (kk : lwNx p l e R s m args below meth c cells slots Q D cI cR ad om am A b i 1036) : W p l e R s m args below meth c H locs cells slots Q (F0 m 855 ls []) := by
  obtain ⟨hx, hb, hml, hown, hts, hK, hI, hE, hN, hX, hbl, hAb, hF, hLo, hc, hs, hL2⟩ := C
  obtain ⟨hokm, hok, hokx, hsp, hkp, hrl⟩ := IV_ok hIV
  refine lv_aload_n hx hb dL_law_855 rfl (lv_at hl 1 rfl) ?_
  refine lv_aload_n hx hb dL_law_856 rfl (lv_at hl 0 rfl) ?_
  refine lv_iload_n hx hb dL_law_857 rfl (lv_at hl 3 rfl) ?_
  refine lv_iconst (v := nI 1) hx hb dL_law_858 (by decide) ?_
  refine lw_arg 1 hx hb hX hbl hAb hS (by omega) hL2 rfl dL_law_859 dL_law_860 ?_
  refine lv_aload_n hx hb dL_law_861 rfl (lv_at hl 0 rfl) ?_
  refine lv_iload_n hx hb dL_law_862 rfl (lv_at hl 3 rfl) ?_
  refine lv_iconst (v := nI 2) hx hb dL_law_863 (by decide) ?_
  refine lw_arg 2 hx hb hX hbl hAb hS (by omega) hL2 rfl dL_law_864 dL_law_865 ?_
  refine lw_brS (As := [.int (xs (i + 1)), .int (xs (i + 2))]) (rest := []) hx hb hml hown hts hK hL hI hS hE (c_X3_customer l D cI cR ad v ρ sp kp τ (xs (i + 1)) (xs (i + 2)) hok) (kV_X3_customer hts ml_L_100 ⟨Nat.le_trans (Nat.le_of_ble_eq_true rfl) hF, Nat.le_trans (Nat.le_of_ble_eq_true rfl) hLo⟩) rfl hl.1 rfl (Nat.le_of_ble_eq_true rfl) dL_law_866 hc hs ?_
  refine lv_aload_n hx hb dL_law_869 rfl (lv_at hl 2 rfl) ?_
  refine lv_aload_n hx hb dL_law_870 rfl (lv_at hl 0 rfl) ?_
  refine lv_iload_n hx hb dL_law_871 rfl (lv_at hl 3 rfl) ?_
  refine lv_iconst (v := nI 1) hx hb dL_law_872 (by decide) ?_
  refine lw_arg 1 hx hb hX hbl hAb hS (by omega) hL2 rfl dL_law_873 dL_law_874 ?_
  refine lv_aload_n hx hb dL_law_875 rfl (lv_at hl 0 rfl) ?_
  refine lv_iload_n hx hb dL_law_876 rfl (lv_at hl 3 rfl) ?_
  refine lv_iconst (v := nI 2) hx hb dL_law_877 (by decide) ?_
  refine lw_arg 2 hx hb hX hbl hAb hS (by omega) hL2 rfl dL_law_878 dL_law_879 ?_
  refine lw_moS (As := [.int (xs (i + 1)), .int (xs (i + 2))]) (rest := [.int (f_X2_customerNumber (ρ 0) (xs (i + 1)) (xs (i + 2)))]) hx hb hml hown hts hK hL (c_X4_customer l D cI om am μ hh (xs (i + 1)) (xs (i + 2)) hokm) (kV_X4_customer hts ml_L_103 ⟨Nat.le_trans (Nat.le_of_ble_eq_true rfl) hF, Nat.le_trans (Nat.le_of_ble_eq_true rfl) hLo⟩) rfl hl.1 rfl (Nat.le_of_ble_eq_true rfl) dL_law_880 hc hs ?_
  refine lw_eq hx hb (q_customer hrl (xs (i + 1)) (xs (i + 2))) dL_law_883 (by decide) ?_
  with_reducible exact lwNx_go kk hL hIV hS hl
set_option maxRecDepth 100000 in
theorem lw_case_22 (C : lwC p R s m args c cells slots D cI cR ad om am v A b L xs) (hi : i + 3 < L) (hL : lwH D cI cR ad om am ρ sp kp τ μ hh H) (hIV : IV ρ sp kp τ μ) (hS : va_S A s.heap H locs) (hl : lwV ad om b i ls)
    (kk : lwNx p l e R s m args below meth c cells slots Q D cI cR ad om am A b i 1036) : W p l e R s m args below meth c H locs cells slots Q (F0 m 888 ls []) := by
  obtain ⟨hx, hb, hml, hown, hts, hK, hI, hE, hN, hX, hbl, hAb, hF, hLo, hc, hs, hL2⟩ := C
  obtain ⟨hokm, hok, hokx, hsp, hkp, hrl⟩ := IV_ok hIV
  refine lv_aload_n hx hb dL_law_888 rfl (lv_at hl 1 rfl) ?_
  refine lv_aload_n hx hb dL_law_889 rfl (lv_at hl 0 rfl) ?_
  refine lv_iload_n hx hb dL_law_890 rfl (lv_at hl 3 rfl) ?_
  refine lv_iconst (v := nI 1) hx hb dL_law_891 (by decide) ?_
  refine lw_arg 1 hx hb hX hbl hAb hS (by omega) hL2 rfl dL_law_892 dL_law_893 ?_
  refine lw_brS (As := [.int (xs (i + 1))]) (rest := []) hx hb hml hown hts hK hL hI hS hE (c_X3_lostIn l D cI cR ad v ρ sp kp τ (xs (i + 1)) hok) (kV_X3_lostIn hts ml_L_104 ⟨Nat.le_trans (Nat.le_of_ble_eq_true rfl) hF, Nat.le_trans (Nat.le_of_ble_eq_true rfl) hLo⟩) rfl hl.1 rfl (Nat.le_of_ble_eq_true rfl) dL_law_894 hc hs ?_
  refine lv_aload_n hx hb dL_law_897 rfl (lv_at hl 2 rfl) ?_
  refine lv_aload_n hx hb dL_law_898 rfl (lv_at hl 0 rfl) ?_
  refine lv_iload_n hx hb dL_law_899 rfl (lv_at hl 3 rfl) ?_
  refine lv_iconst (v := nI 1) hx hb dL_law_900 (by decide) ?_
  refine lw_arg 1 hx hb hX hbl hAb hS (by omega) hL2 rfl dL_law_901 dL_law_902 ?_
  refine lw_moS (As := [.int (xs (i + 1))]) (rest := [.int (f_X2_lostAfter (ρ 0) (xs (i + 1)))]) hx hb hml hown hts hK hL (c_X4_lostIn l D cI om am μ hh (xs (i + 1)) hokm) (kV_X4_lostIn hts ml_L_107 ⟨Nat.le_trans (Nat.le_of_ble_eq_true rfl) hF, Nat.le_trans (Nat.le_of_ble_eq_true rfl) hLo⟩) rfl hl.1 rfl (Nat.le_of_ble_eq_true rfl) dL_law_903 hc hs ?_
  refine lw_eq hx hb (q_lost hrl (xs (i + 1))) dL_law_906 (by decide) ?_
  with_reducible exact lwNx_go kk hL hIV hS hl
set_option maxRecDepth 100000 in
theorem lw_case_23 (C : lwC p R s m args c cells slots D cI cR ad om am v A b L xs) (hi : i + 3 < L) (hL : lwH D cI cR ad om am ρ sp kp τ μ hh H) (hIV : IV ρ sp kp τ μ) (hS : va_S A s.heap H locs) (hl : lwV ad om b i ls)
    (kk : lwNx p l e R s m args below meth c cells slots Q D cI cR ad om am A b i 1036) : W p l e R s m args below meth c H locs cells slots Q (F0 m 911 ls []) := by
  obtain ⟨hx, hb, hml, hown, hts, hK, hI, hE, hN, hX, hbl, hAb, hF, hLo, hc, hs, hL2⟩ := C
  obtain ⟨hokm, hok, hokx, hsp, hkp, hrl⟩ := IV_ok hIV
  refine lv_aload_n hx hb dL_law_911 rfl (lv_at hl 1 rfl) ?_
  refine lv_aload_n hx hb dL_law_912 rfl (lv_at hl 0 rfl) ?_
  refine lv_iload_n hx hb dL_law_913 rfl (lv_at hl 3 rfl) ?_
  refine lv_iconst (v := nI 1) hx hb dL_law_914 (by decide) ?_
  refine lw_arg 1 hx hb hX hbl hAb hS (by omega) hL2 rfl dL_law_915 dL_law_916 ?_
  refine lw_brS (As := [.int (xs (i + 1))]) (rest := []) hx hb hml hown hts hK hL hI hS hE (c_X3_agingOf l D cI cR ad v ρ sp kp τ (xs (i + 1)) hok) (kV_X3_agingOf hts ml_L_108 ⟨Nat.le_trans (Nat.le_of_ble_eq_true rfl) hF, Nat.le_trans (Nat.le_of_ble_eq_true rfl) hLo⟩) rfl hl.1 rfl (Nat.le_of_ble_eq_true rfl) dL_law_917 hc hs ?_
  refine lv_aload_n hx hb dL_law_920 rfl (lv_at hl 2 rfl) ?_
  refine lv_aload_n hx hb dL_law_921 rfl (lv_at hl 0 rfl) ?_
  refine lv_iload_n hx hb dL_law_922 rfl (lv_at hl 3 rfl) ?_
  refine lv_iconst (v := nI 1) hx hb dL_law_923 (by decide) ?_
  refine lw_arg 1 hx hb hX hbl hAb hS (by omega) hL2 rfl dL_law_924 dL_law_925 ?_
  refine lw_moQ (As := [.int (xs (i + 1))]) (rest := [.int (f_X2_agingBy (ρ 0) (xs (i + 1)))]) hx hb hml hown hts hK hL hI hS (c_X4_agingOf l D cI om am μ hh (xs (i + 1)) hokm) (kV_X4_agingOf hts ml_L_111 ⟨Nat.le_trans (Nat.le_of_ble_eq_true rfl) hF, Nat.le_trans (Nat.le_of_ble_eq_true rfl) hLo⟩) rfl hl.1 rfl (Nat.le_of_ble_eq_true rfl) dL_law_926 hc hs (fun H locs hL hS => ?_)
  rw [q_aging hrl] at hL ⊢
  refine lw_eq hx hb rfl dL_law_929 (by decide) ?_
  with_reducible exact lwNx_go kk hL hIV hS hl
set_option maxRecDepth 100000 in
theorem lw_case_24 (C : lwC p R s m args c cells slots D cI cR ad om am v A b L xs) (hi : i + 3 < L) (hL : lwH D cI cR ad om am ρ sp kp τ μ hh H) (hIV : IV ρ sp kp τ μ) (hS : va_S A s.heap H locs) (hl : lwV ad om b i ls)
    (kk : lwNx p l e R s m args below meth c cells slots Q D cI cR ad om am A b i 1036) : W p l e R s m args below meth c H locs cells slots Q (F0 m 934 ls []) := by
  obtain ⟨hx, hb, hml, hown, hts, hK, hI, hE, hN, hX, hbl, hAb, hF, hLo, hc, hs, hL2⟩ := C
  obtain ⟨hokm, hok, hokx, hsp, hkp, hrl⟩ := IV_ok hIV
  refine lv_aload_n hx hb dL_law_934 rfl (lv_at hl 1 rfl) ?_
  refine lw_brS (As := []) (rest := []) hx hb hml hown hts hK hL hI hS hE (c_X3_served l D cI cR ad v ρ sp kp τ  hok) (kV_X3_served hts ml_L_112 ⟨Nat.le_trans (Nat.le_of_ble_eq_true rfl) hF, Nat.le_trans (Nat.le_of_ble_eq_true rfl) hLo⟩) rfl hl.1 rfl (Nat.le_of_ble_eq_true rfl) dL_law_935 hc hs ?_
  refine lv_aload_n hx hb dL_law_938 rfl (lv_at hl 2 rfl) ?_
  refine lw_moS (As := []) (rest := [.int (f_X2_servedStudents (ρ 0) )]) hx hb hml hown hts hK hL (c_X4_served l D cI om am μ hh  hokm) (kV_X4_served hts ml_L_116 ⟨Nat.le_trans (Nat.le_of_ble_eq_true rfl) hF, Nat.le_trans (Nat.le_of_ble_eq_true rfl) hLo⟩) rfl hl.1 rfl (Nat.le_of_ble_eq_true rfl) dL_law_939 hc hs ?_
  refine lw_eq hx hb (q_served hrl ) dL_law_942 (by decide) ?_
  with_reducible exact lwNx_go kk hL hIV hS hl
set_option maxRecDepth 100000 in
theorem lw_case_25 (C : lwC p R s m args c cells slots D cI cR ad om am v A b L xs) (hi : i + 3 < L) (hL : lwH D cI cR ad om am ρ sp kp τ μ hh H) (hIV : IV ρ sp kp τ μ) (hS : va_S A s.heap H locs) (hl : lwV ad om b i ls)
    (kk : lwNx p l e R s m args below meth c cells slots Q D cI cR ad om am A b i 1036) : W p l e R s m args below meth c H locs cells slots Q (F0 m 947 ls []) := by
  obtain ⟨hx, hb, hml, hown, hts, hK, hI, hE, hN, hX, hbl, hAb, hF, hLo, hc, hs, hL2⟩ := C
  obtain ⟨hokm, hok, hokx, hsp, hkp, hrl⟩ := IV_ok hIV
  refine lv_aload_n hx hb dL_law_947 rfl (lv_at hl 1 rfl) ?_
  refine lw_brQ (As := []) (rest := []) hx hb hml hown hts hK hL hI hS hE (c_X3_undo l D cI cR ad v ρ sp kp τ hsp hkp) (kV_X3_undo hts ml_L_117 ⟨Nat.le_trans (Nat.le_of_ble_eq_true rfl) hF, Nat.le_trans (Nat.le_of_ble_eq_true rfl) hLo⟩) rfl hl.1 rfl (Nat.le_of_ble_eq_true rfl) dL_law_948 hc hs (fun H locs hL hS => ?_)
  refine lv_aload_n hx hb dL_law_951 rfl (lv_at hl 2 rfl) ?_
  refine lw_moQ (As := []) (rest := [.int (rs_v kp)]) hx hb hml hown hts hK hL hI hS (c_X4_undo l D cI om am μ hh  hokm) (kV_X4_undo hts ml_L_120 ⟨Nat.le_trans (Nat.le_of_ble_eq_true rfl) hF, Nat.le_trans (Nat.le_of_ble_eq_true rfl) hLo⟩) rfl hl.1 rfl (Nat.le_of_ble_eq_true rfl) dL_law_952 hc hs (fun H locs hL hS => ?_)
  have hf := IV_undo hIV
  refine lw_eq hx hb hf.1 dL_law_955 (by decide) ?_
  with_reducible exact lwNx_go kk hL hf.2 hS hl
set_option maxRecDepth 100000 in
theorem lw_case_26 (C : lwC p R s m args c cells slots D cI cR ad om am v A b L xs) (hi : i + 3 < L) (hL : lwH D cI cR ad om am ρ sp kp τ μ hh H) (hIV : IV ρ sp kp τ μ) (hS : va_S A s.heap H locs) (hl : lwV ad om b i ls)
    (kk : lwNx p l e R s m args below meth c cells slots Q D cI cR ad om am A b i 1036) : W p l e R s m args below meth c H locs cells slots Q (F0 m 960 ls []) := by
  obtain ⟨hx, hb, hml, hown, hts, hK, hI, hE, hN, hX, hbl, hAb, hF, hLo, hc, hs, hL2⟩ := C
  obtain ⟨hokm, hok, hokx, hsp, hkp, hrl⟩ := IV_ok hIV
  refine lv_aload_n hx hb dL_law_960 rfl (lv_at hl 1 rfl) ?_
  refine lv_aload_n hx hb dL_law_961 rfl (lv_at hl 0 rfl) ?_
  refine lv_iload_n hx hb dL_law_962 rfl (lv_at hl 3 rfl) ?_
  refine lv_iconst (v := nI 1) hx hb dL_law_963 (by decide) ?_
  refine lw_arg 1 hx hb hX hbl hAb hS (by omega) hL2 rfl dL_law_964 dL_law_965 ?_
  refine lw_brQ (As := [.int (xs (i + 1))]) (rest := []) hx hb hml hown hts hK hL hI hS hE (c_X3_type l D cI cR ad v ρ sp kp τ (xs (i + 1)) hokx) (kV_X3_type hts ml_L_121 ⟨Nat.le_trans (Nat.le_of_ble_eq_true rfl) hF, Nat.le_trans (Nat.le_of_ble_eq_true rfl) hLo⟩) rfl hl.1 rfl (Nat.le_of_ble_eq_true rfl) dL_law_966 hc hs (fun H locs hL hS => ?_)
  refine lv_aload_n hx hb dL_law_969 rfl (lv_at hl 2 rfl) ?_
  refine lv_aload_n hx hb dL_law_970 rfl (lv_at hl 0 rfl) ?_
  refine lv_iload_n hx hb dL_law_971 rfl (lv_at hl 3 rfl) ?_
  refine lv_iconst (v := nI 1) hx hb dL_law_972 (by decide) ?_
  refine lw_arg 1 hx hb hX hbl hAb hS (by omega) hL2 rfl dL_law_973 dL_law_974 ?_
  refine lw_moQ (As := [.int (xs (i + 1))]) (rest := [.int ((m_X1_append τ (xs (i + 1))).1)]) hx hb hml hown hts hK hL hI hS (c_X4_type l D cI om am μ hh (xs (i + 1)) 105 hIV.2.2) (kV_X4_type hts ml_L_124 ⟨Nat.le_trans (Nat.le_of_ble_eq_true rfl) hF, Nat.le_trans (Nat.le_of_ble_eq_true rfl) hLo⟩) rfl hl.1 rfl (Nat.le_of_ble_eq_true rfl) dL_law_975 hc hs (fun H locs hL hS => ?_)
  have hf := IV_type hIV (xs (i + 1))
  refine lw_eq hx hb hf.1 dL_law_978 (by decide) ?_
  with_reducible exact lwNx_go kk hL hf.2 hS hl
set_option maxRecDepth 100000 in
theorem lw_case_27 (C : lwC p R s m args c cells slots D cI cR ad om am v A b L xs) (hi : i + 3 < L) (hL : lwH D cI cR ad om am ρ sp kp τ μ hh H) (hIV : IV ρ sp kp τ μ) (hS : va_S A s.heap H locs) (hl : lwV ad om b i ls)
    (kk : lwNx p l e R s m args below meth c cells slots Q D cI cR ad om am A b i 1036) : W p l e R s m args below meth c H locs cells slots Q (F0 m 983 ls []) := by
  obtain ⟨hx, hb, hml, hown, hts, hK, hI, hE, hN, hX, hbl, hAb, hF, hLo, hc, hs, hL2⟩ := C
  obtain ⟨hokm, hok, hokx, hsp, hkp, hrl⟩ := IV_ok hIV
  refine lv_aload_n hx hb dL_law_983 rfl (lv_at hl 1 rfl) ?_
  refine lw_brQ (As := []) (rest := []) hx hb hml hown hts hK hL hI hS hE (c_X3_clearText l D cI cR ad v ρ sp kp τ  hokx) (kV_X3_clearText hts ml_L_125 ⟨Nat.le_trans (Nat.le_of_ble_eq_true rfl) hF, Nat.le_trans (Nat.le_of_ble_eq_true rfl) hLo⟩) rfl hl.1 rfl (Nat.le_of_ble_eq_true rfl) dL_law_984 hc hs (fun H locs hL hS => ?_)
  refine lv_aload_n hx hb dL_law_987 rfl (lv_at hl 2 rfl) ?_
  refine lw_moQ (As := []) (rest := [.int ((m_X1_empty τ).1)]) hx hb hml hown hts hK hL hI hS (c_X4_clearText l D cI om am μ hh) (kV_X4_clearText hts ml_L_128 ⟨Nat.le_trans (Nat.le_of_ble_eq_true rfl) hF, Nat.le_trans (Nat.le_of_ble_eq_true rfl) hLo⟩) rfl hl.1 rfl (Nat.le_of_ble_eq_true rfl) dL_law_988 hc hs (fun H locs hL hS => ?_)
  have hf := IV_clear hIV
  refine lw_eq hx hb hf.1 dL_law_991 (by decide) ?_
  with_reducible exact lwNx_go kk hL hf.2 hS hl
set_option maxRecDepth 100000 in
theorem lw_case_28 (C : lwC p R s m args c cells slots D cI cR ad om am v A b L xs) (hi : i + 3 < L) (hL : lwH D cI cR ad om am ρ sp kp τ μ hh H) (hIV : IV ρ sp kp τ μ) (hS : va_S A s.heap H locs) (hl : lwV ad om b i ls)
    (kk : lwNx p l e R s m args below meth c cells slots Q D cI cR ad om am A b i 1036) : W p l e R s m args below meth c H locs cells slots Q (F0 m 996 ls []) := by
  obtain ⟨hx, hb, hml, hown, hts, hK, hI, hE, hN, hX, hbl, hAb, hF, hLo, hc, hs, hL2⟩ := C
  obtain ⟨hokm, hok, hokx, hsp, hkp, hrl⟩ := IV_ok hIV
  refine lv_aload_n hx hb dL_law_996 rfl (lv_at hl 1 rfl) ?_
  refine lw_brQ (As := []) (rest := []) hx hb hml hown hts hK hL hI hS hE (c_X3_textFault l D cI cR ad v ρ sp kp τ  hokx) (kV_X3_textFault hts ml_L_129 ⟨Nat.le_trans (Nat.le_of_ble_eq_true rfl) hF, Nat.le_trans (Nat.le_of_ble_eq_true rfl) hLo⟩) rfl hl.1 rfl (Nat.le_of_ble_eq_true rfl) dL_law_997 hc hs (fun H locs hL hS => ?_)
  refine lv_aload_n hx hb dL_law_1000 rfl (lv_at hl 2 rfl) ?_
  refine lw_moQ (As := []) (rest := [.int ((m_X1_faultOf τ).1)]) hx hb hml hown hts hK hL hI hS (c_X4_textFault l D cI om am μ hh hokm hIV.2.2.1) (kV_X4_textFault hts ml_L_132 ⟨Nat.le_trans (Nat.le_of_ble_eq_true rfl) hF, Nat.le_trans (Nat.le_of_ble_eq_true rfl) hLo⟩) rfl hl.1 rfl (Nat.le_of_ble_eq_true rfl) dL_law_1001 hc hs (fun H locs hL hS => ?_)
  have hf := IV_fault hIV
  refine lw_eq hx hb hf.1 dL_law_1004 (by decide) ?_
  with_reducible exact lwNx_go kk hL hf.2 hS hl
set_option maxRecDepth 100000 in
theorem lw_case_29 (C : lwC p R s m args c cells slots D cI cR ad om am v A b L xs) (hi : i + 3 < L) (hL : lwH D cI cR ad om am ρ sp kp τ μ hh H) (hIV : IV ρ sp kp τ μ) (hS : va_S A s.heap H locs) (hl : lwV ad om b i ls)
    (kk : lwNx p l e R s m args below meth c cells slots Q D cI cR ad om am A b i 1036) : W p l e R s m args below meth c H locs cells slots Q (F0 m 1009 ls []) := by
  obtain ⟨hx, hb, hml, hown, hts, hK, hI, hE, hN, hX, hbl, hAb, hF, hLo, hc, hs, hL2⟩ := C
  obtain ⟨hokm, hok, hokx, hsp, hkp, hrl⟩ := IV_ok hIV
  refine lv_aload_n hx hb dL_law_1009 rfl (lv_at hl 1 rfl) ?_
  refine lw_brQ (As := []) (rest := []) hx hb hml hown hts hK hL hI hS hE (c_X3_orders l D cI cR ad v ρ sp kp τ hsp hkp hok hokx) (kV_X3_orders hts ml_L_133 ⟨Nat.le_trans (Nat.le_of_ble_eq_true rfl) hF, Nat.le_trans (Nat.le_of_ble_eq_true rfl) hLo⟩) rfl hl.1 rfl (Nat.le_of_ble_eq_true rfl) dL_law_1010 hc hs (fun H locs hL hS => ?_)
  refine lv_aload_n hx hb dL_law_1013 rfl (lv_at hl 2 rfl) ?_
  refine lw_moQ (As := []) (rest := [.int (or_v (ρ 0) τ)]) hx hb hml hown hts hK hL hI hS (c_X4_orders l D cI om am μ hh hokm hIV.2.2.1) (kV_X4_orders hts ml_L_136 ⟨Nat.le_trans (Nat.le_of_ble_eq_true rfl) hF, Nat.le_trans (Nat.le_of_ble_eq_true rfl) hLo⟩) rfl hl.1 rfl (Nat.le_of_ble_eq_true rfl) dL_law_1014 hc hs (fun H locs hL hS => ?_)
  have hf := IV_orders hIV
  refine lw_eq hx hb hf.1 dL_law_1017 (by decide) ?_
  with_reducible exact lwNx_go kk hL hf.2 hS hl
set_option maxRecDepth 100000 in
theorem lw_case_30 (C : lwC p R s m args c cells slots D cI cR ad om am v A b L xs) (hi : i + 3 < L) (hL : lwH D cI cR ad om am ρ sp kp τ μ hh H) (hIV : IV ρ sp kp τ μ) (hS : va_S A s.heap H locs) (hl : lwV ad om b i ls)
    (kk : lwNx p l e R s m args below meth c cells slots Q D cI cR ad om am A b i 1036) : W p l e R s m args below meth c H locs cells slots Q (F0 m 1022 ls []) := by
  obtain ⟨hx, hb, hml, hown, hts, hK, hI, hE, hN, hX, hbl, hAb, hF, hLo, hc, hs, hL2⟩ := C
  obtain ⟨hokm, hok, hokx, hsp, hkp, hrl⟩ := IV_ok hIV
  refine lv_aload_n hx hb dL_law_1022 rfl (lv_at hl 1 rfl) ?_
  refine lw_brL (As := []) (rest := []) hx hb hml hown hts hK hL hI hS hN (c_X3_digest l D cI cR ad ρ sp kp τ hok) (kV_X3_digest hts ml_L_137 ⟨Nat.le_trans (Nat.le_of_ble_eq_true rfl) hF, Nat.le_trans (Nat.le_of_ble_eq_true rfl) hLo⟩) rfl hl.1 rfl (Nat.le_of_ble_eq_true rfl) dL_law_1023 hc hs ?_
  refine lv_aload_n hx hb dL_law_1026 rfl (lv_at hl 2 rfl) ?_
  refine lw_moL (As := []) (rest := [.long (sD_6 (ρ 0))]) hx hb hml hown hts hK hL hI hS (c_X4_digest l D cI om am μ hh  hokm) (kV_X4_digest hts ml_L_141 ⟨Nat.le_trans (Nat.le_of_ble_eq_true rfl) hF, Nat.le_trans (Nat.le_of_ble_eq_true rfl) hLo⟩) rfl hl.1 rfl (Nat.le_of_ble_eq_true rfl) dL_law_1027 hc hs (fun H locs hL hS => ?_)
  rw [q_digest hrl]
  refine lv_lcmp0 hx hb dL_law_1030 ?_
  refine lv_if_eq (tgt := 1036) hx hb dL_law_1031 (by decide) (fun _ => ?_) (fun q => absurd rfl q)
  with_reducible exact lwNx_go kk hL hIV hS hl
end LCS

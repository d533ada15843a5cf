/-! ===== BookRental over the composite world ===== -/
abbrev EN : Type := (Nat → Nat) × (Nat → Nat) × Nat × Nat
def eE (v : EN) (A : Nat → Prop) (U : State) (H : Heap) : Prop := sE v.1 v.2.1 A U H ∧ gE v.2.2.1 v.2.2.2 A U H
theorem eE_kept {v : EN} {A : Nat → Prop} {U : State} {H H1 : Heap} (h : eE v A U H) (hq : ∀ a : Nat, a < H.size → ¬ A a → H1[a]? = H[a]?) : eE v A U H1 := ⟨sE_kept h.1 hq, gE_kept h.2 hq⟩
theorem eE_narrow {v : EN} {A B : Nat → Prop} {U : State} {H : Heap} (h : eE v A U H) (hAB : ∀ q, B q → A q) : eE v B U H := ⟨sE_narrow h.1 hAB, gE_narrow h.2 hAB⟩
theorem eE_into {v : EN} {A : Nat → Prop} {s U : State} {H : Heap} {locs : List Loc} (h : eE v A s s.heap) (hS : va_S A s.heap H locs) (hU : U.heap = H) (hW : s.WarmedH U.vm) : eE v A U U.heap := ⟨sE_into h.1 hS hU hW, gE_into h.2 hS hU hW⟩
theorem eE_same {v : EN} {A : Nat → Prop} {u U : State} {H : Heap} (hv : U.vm = u.vm) (h : eE v A u H) : eE v A U H := ⟨sE_same hv h.1, gE_same hv h.2⟩
def brX (D : va_G) (cI cR : ClassId) (ad : Nat → Nat) (v : EN) (ρ : Nat → Nat → Nat → Int32) (sp kp : Nat) (τ : Nat → Nat → Int32) (U : State) : Prop := brP D cI cR ad ρ sp kp τ U ∧ eE v (brA ad) U U.heap
theorem brX_blind {av : List Value} {D : va_G} {cI cR : ClassId} {ad : Nat → Nat} {v : EN} {ρ : Nat → Nat → Nat → Int32} {sp kp : Nat} {τ : Nat → Nat → Int32} : FrameBlind (va_Pc av (brX D cI cR ad v ρ sp kp τ)) := fun b U g mk q => ⟨q.1, (br_blind (av := av) b U g mk ⟨q.1, q.2.1⟩).2, eE_same (u := U) (U := U.calling g mk b) rfl q.2.2⟩
def rcρ (ρ : Nat → Nat → Nat → Int32) (sp : Nat) (w : Nat → Nat → Int32) : Nat → Nat → Nat → Int32 := va_up (va_up ρ (sp + 1) (cpS (ρ 0) (ρ (sp + 1)))) 0 w
theorem rc_0 {ρ : Nat → Nat → Nat → Int32} {sp : Nat} : (va_up ρ (sp + 1) (cpS (ρ 0) (ρ (sp + 1)))) 0 = ρ 0 := va_up_ne ρ _ (by omega)
section X3
variable {p : Program} {l : Launch} {e : Env} {R : Room} {s : State} {m : MethodId} {args : Array Value} {below : List Frame} {meth : Method} {c : Code} {H : Heap} {locs : List Loc} {cells slots : Nat} {Q : State → Prop} {cc : ByteArray} {maxL nL : Nat} {ret : Option FieldType} {own : String} {c0 : Cond} {pc : Nat} {ls : Array Slot} {rest st0 : List Value} {D : va_G} {cI cR : ClassId} {ad : Nat → Nat} {v : EN} {ρ : Nat → Nat → Nat → Int32} {sp kp : Nat} {τ : Nat → Nat → Int32}
theorem gE_blindM {av : List Value} {D : va_G} {cI : ClassId} {o : Nat} {a : Nat → Nat} {σ : Nat → Nat → Int32} {tL tH : Nat} {A : Nat → Prop} : FrameBlind (va_Pc av (fun U => shM D cI o a σ U ∧ gE tL tH A U U.heap)) := fun b U g mk q => ⟨q.1, (sh_blindM (av := av) b U g mk ⟨q.1, q.2.1⟩).2, gE_same (u := U) (U := U.calling g mk b) rfl q.2.2⟩
theorem br_callSE {y : MethodName} {bytes : ByteArray} {mL n index : Nat} {rt : Option FieldType} {ws : List Cond} {rm : Room} {As : List Value} {w : Int32 × (Nat → Nat → Int32)} {tL tH : Nat} (hx : p.tables.exec = Jvm.exec) (hb : c.code = cc) (hml : c.maxLocals = nL) (hown : s.vm.findClass own = some m.cls) (hts : ∀ w ∈ c0 :: W0, w.before args s = true) (hK : brK D cI cR s) (hB : brH D cI cR ad ρ sp kp τ H) (hI : brI ad) (hS : va_S (brA ad) s.heap H locs) (hG : gE tL tH (brA ad) s s.heap) (i : Nat) (hi : i < 7)
    (hM : Met l y ws rm (va_Pc (.ref (so ad i) :: As) (fun U => shM D cI (so ad i) (sr ad i) (ρ i) U ∧ gE tL tH (shA (so ad i) (sr ad i)) U U.heap)) (shQ D cI (so ad i) (sr ad i) w) 0 0 (shA (so ad i) (sr ad i))) (cw : CallW R s args own RX2 index y bytes mL rt ws rm 0 0 n)
    (hn : As.length = n) (hsize : ls.size = nL) (hst : st0 = As.reverse ++ .ref (so ad i) :: rest) (hW : (rest.map fun v => v.category).sum ≤ 8) (d : decode cc pc = .ok (.invokevirtual index, 3)) (hc : cells ≤ R.cells) (hs : slots ≤ R.slots)
    (kk : ∀ (H1 : Heap) (locs1 : List Loc), brH D cI cR ad (va_up ρ i w.2) sp kp τ H1 → va_S (brA ad) s.heap H1 locs1 → W p l e R s m args below meth c H1 locs1 cells slots Q (F0 m (pc + 3) ls (.int w.1 :: rest))) : W p l e R s m args below meth c H locs cells slots Q (F0 m pc ls st0) := by
  refine br_step (va_runV (As := As) (rest := rest) ⟨hx, hb, hml, hown, hts⟩ hM cw ⟨gE_blindM, va_recv (ci := 2) (q0 := 0) (brK_1 hK) (hB.1 i hi) rfl rfl, fun U hU hW => ⟨rfl, ⟨⟨by rw [hU]; exact hB.1 i hi, va_K.moved hW.alike (brK_1 hK)⟩, br_D hI hi⟩, gE_narrow (gE_into hG hS hU hW) (fun q h => br_sh hi h)⟩⟩ (g := F0 m pc ls st0) rfl hn hsize hst (lv_room hW) d ⟨hc, hs⟩) hS (fun q h => br_sh hi h) (fun v t st₀ H1 locs1 h0 ht hq mk => ?_)
  obtain ⟨hv, hp, hF⟩ := hq
  cases hv
  refine ⟨br_F hF (fun q h => br_sh hi h), fun hS1 => kk H1 locs1 (br_updS hB hI hi (by rw [← ht]; exact hp.1) (fun q h1 h2 => by rw [← ht, hF.2 q (by rw [h0]; exact h1) h2, h0])) hS1⟩
theorem br_callTE {y : MethodName} {bytes : ByteArray} {mL n index : Nat} {rt : Option FieldType} {ws : List Cond} {rm : Room} {As : List Value} {w : Int32 × (Nat → Nat → Int32)} {adK adV : Nat → Nat} (hx : p.tables.exec = Jvm.exec) (hb : c.code = cc) (hml : c.maxLocals = nL) (hown : s.vm.findClass own = some m.cls) (hts : ∀ w ∈ c0 :: W0, w.before args s = true) (hK : brK D cI cR s) (hB : brH D cI cR ad ρ sp kp τ H) (hI : brI ad) (hS : va_S (brA ad) s.heap H locs) (hE : sE adK adV (brA ad) s s.heap)
    (hM : Met l y ws rm (va_Pc (.ref (ad 210) :: As) (fun U => txM D cI (ad 210) (tr ad) τ U ∧ sE adK adV (txA (ad 210) (tr ad)) U U.heap)) (txQ D cI (ad 210) (tr ad) w) 0 0 (txA (ad 210) (tr ad))) (cw : CallW R s args own RX1 index y bytes mL rt ws rm 0 0 n)
    (hn : As.length = n) (hsize : ls.size = nL) (hst : st0 = As.reverse ++ .ref (ad 210) :: rest) (hW : (rest.map fun v => v.category).sum ≤ 8) (d : decode cc pc = .ok (.invokevirtual index, 3)) (hc : cells ≤ R.cells) (hs : slots ≤ R.slots)
    (kk : ∀ (H1 : Heap) (locs1 : List Loc), brH D cI cR ad ρ sp kp w.2 H1 → va_S (brA ad) s.heap H1 locs1 → W p l e R s m args below meth c H1 locs1 cells slots Q (F0 m (pc + 3) ls (.int w.1 :: rest))) : W p l e R s m args below meth c H locs cells slots Q (F0 m pc ls st0) := by
  refine br_step (va_runV (As := As) (rest := rest) ⟨hx, hb, hml, hown, hts⟩ hM cw ⟨tx_blindME, va_recv (ci := 1) (q0 := 0) (brK_1 hK) hB.2.2.1 rfl rfl, fun U hU hW => ⟨rfl, ⟨⟨by rw [hU]; exact hB.2.2.1, va_K.moved hW.alike (brK_1 hK)⟩, tx_D hI⟩, sE_narrow (sE_into hE hS hU hW) (fun q h => tx_in h)⟩⟩ (g := F0 m pc ls st0) rfl hn hsize hst (lv_room hW) d ⟨hc, hs⟩) hS (fun q h => tx_in h) (fun v t st₀ H1 locs1 h0 ht hq mk => ?_)
  obtain ⟨hv, hp, hF⟩ := hq
  cases hv
  refine ⟨br_F hF (fun q h => tx_in h), fun hS1 => kk H1 locs1 (br_updT hB hI (by rw [← ht]; exact hp.1) (fun q h1 h2 => by rw [← ht, hF.2 q (by rw [h0]; exact h1) h2, h0])) hS1⟩
end X3

abbrev rm_X3_count : Room := { frames := 2, cells := 0, slots := 0, locals := 44 }
set_option maxRecDepth 100000 in
theorem c_X3_count (l : Launch) (D : va_G) (cI cR : ClassId) (ad : Nat → Nat) (v : EN) (ρ : Nat → Nat → Nat → Int32) (sp kp : Nat) (τ : Nat → Nat → Int32) (x : Int32) (hok : okS (ρ 0)) :
    Met l yX3_count (Cond.code yX3_count cX3_count 2 (some .int) :: W0) rm_X3_count (va_Pc [.ref (ad 300), .int x] (brX D cI cR ad v ρ sp kp τ)) (vp_Si (fun r => r = f_X2_numberOf (ρ 0) x)) 0 0 (fun _ => False) := by
  refine st_gen (cc := cX3_count) (maxL := 2) (ret := some .int) (own := RX3) (by decide) rfl (Nat.le_of_ble_eq_true rfl) ?_
  intro p e s m below meth c ls C hPre hl
  obtain ⟨hx, hb, hr, hml, hown, hts, hlk⟩ := C
  obtain ⟨⟨hB, hK, hI⟩, hE⟩ := hPre
  have hS : va_S (brA ad) s.heap s.heap [] := va_S.rf
  have hl : lv_has ls 2 [(0, .ref (ad 300)), (1, .int x)] := hl
  refine lv_aload_n hx hb dX3_count_0 rfl (lv_at hl 0 rfl) ?_
  refine br_g0 hx hb hts hown hK hB dX3_count_1 ?_
  refine lv_iload_n hx hb dX3_count_4 rfl (lv_at hl 1 rfl) ?_
  refine sh_call (rest := []) hx hb hml hown hts (brK_1 hK) (hB.1 0 (by decide)) (c_X2_numberOf l D cI _ _ (ρ 0) x hok) (kV_X2_numberOf hts ml_X3_58 ⟨(Nat.le_of_ble_eq_true rfl), (Nat.le_of_ble_eq_true rfl)⟩) rfl hl.1 rfl (Nat.le_of_ble_eq_true rfl) dX3_count_5 (Nat.zero_le _) (Nat.zero_le _) ?_
  exact fin_i hx hb hr hlk rfl dX3_count_8

theorem kV_X3_count {R : Room} {s : State} {args : Array Value} {own : String} {idx : Nat} {c0 : Cond} (hts : ∀ w ∈ c0 :: W0, w.before args s = true) (hl : Cond.methodLink own idx yX3_count ∈ W0) (hR : rm_X3_count.frames + 1 ≤ R.frames ∧ 8 + (2 + 11) + rm_X3_count.locals ≤ R.locals) : CallW R s args own RX3 idx yX3_count cX3_count 2 (some .int) (Cond.code yX3_count cX3_count 2 (some .int) :: W0) rm_X3_count 0 0 1 := cwV 1 hts (gdV hl mi_yX3_count ms_yX3_count mini_X3 mc_yX3_count) rfl rfl rfl (by decide +kernel) hR
abbrev rm_X3_title : Room := { frames := 4, cells := 0, slots := 0, locals := 92 }
set_option maxRecDepth 100000 in
theorem c_X3_title (l : Launch) (D : va_G) (cI cR : ClassId) (ad : Nat → Nat) (v : EN) (ρ : Nat → Nat → Nat → Int32) (sp kp : Nat) (τ : Nat → Nat → Int32) (x : Int32) (y : Int32) (hok : okS (ρ 0)) :
    Met l yX3_title (Cond.code yX3_title cX3_title 3 (some .int) :: W0) rm_X3_title (va_Pc [.ref (ad 300), .int x, .int y] (brX D cI cR ad v ρ sp kp τ)) (vp_Si (fun r => r = f_X2_titleProperty (ρ 0) x y)) 0 0 (fun _ => False) := by
  refine st_gen (cc := cX3_title) (maxL := 3) (ret := some .int) (own := RX3) (by decide) rfl (Nat.le_of_ble_eq_true rfl) ?_
  intro p e s m below meth c ls C hPre hl
  obtain ⟨hx, hb, hr, hml, hown, hts, hlk⟩ := C
  obtain ⟨⟨hB, hK, hI⟩, hE⟩ := hPre
  have hS : va_S (brA ad) s.heap s.heap [] := va_S.rf
  have hl : lv_has ls 3 [(0, .ref (ad 300)), (1, .int x), (2, .int y)] := hl
  refine lv_aload_n hx hb dX3_title_0 rfl (lv_at hl 0 rfl) ?_
  refine br_g0 hx hb hts hown hK hB dX3_title_1 ?_
  refine lv_iload_n hx hb dX3_title_4 rfl (lv_at hl 1 rfl) ?_
  refine lv_iload_n hx hb dX3_title_5 rfl (lv_at hl 2 rfl) ?_
  refine sh_call (rest := []) hx hb hml hown hts (brK_1 hK) (hB.1 0 (by decide)) (c_X2_titleProperty l D cI _ _ (ρ 0) x y hok) (kV_X2_titleProperty hts ml_X3_61 ⟨(Nat.le_of_ble_eq_true rfl), (Nat.le_of_ble_eq_true rfl)⟩) rfl hl.1 rfl (Nat.le_of_ble_eq_true rfl) dX3_title_6 (Nat.zero_le _) (Nat.zero_le _) ?_
  exact fin_i hx hb hr hlk rfl dX3_title_9

theorem kV_X3_title {R : Room} {s : State} {args : Array Value} {own : String} {idx : Nat} {c0 : Cond} (hts : ∀ w ∈ c0 :: W0, w.before args s = true) (hl : Cond.methodLink own idx yX3_title ∈ W0) (hR : rm_X3_title.frames + 1 ≤ R.frames ∧ 8 + (3 + 11) + rm_X3_title.locals ≤ R.locals) : CallW R s args own RX3 idx yX3_title cX3_title 3 (some .int) (Cond.code yX3_title cX3_title 3 (some .int) :: W0) rm_X3_title 0 0 2 := cwV 2 hts (gdV hl mi_yX3_title ms_yX3_title mini_X3 mc_yX3_title) rfl rfl rfl (by decide +kernel) hR
abbrev rm_X3_course : Room := { frames := 4, cells := 0, slots := 0, locals := 90 }
set_option maxRecDepth 100000 in
theorem c_X3_course (l : Launch) (D : va_G) (cI cR : ClassId) (ad : Nat → Nat) (v : EN) (ρ : Nat → Nat → Nat → Int32) (sp kp : Nat) (τ : Nat → Nat → Int32) (x : Int32) (y : Int32) (hok : okS (ρ 0)) :
    Met l yX3_course (Cond.code yX3_course cX3_course 3 (some .int) :: W0) rm_X3_course (va_Pc [.ref (ad 300), .int x, .int y] (brX D cI cR ad v ρ sp kp τ)) (vp_Si (fun r => r = f_X2_courseProperty (ρ 0) x y)) 0 0 (fun _ => False) := by
  refine st_gen (cc := cX3_course) (maxL := 3) (ret := some .int) (own := RX3) (by decide) rfl (Nat.le_of_ble_eq_true rfl) ?_
  intro p e s m below meth c ls C hPre hl
  obtain ⟨hx, hb, hr, hml, hown, hts, hlk⟩ := C
  obtain ⟨⟨hB, hK, hI⟩, hE⟩ := hPre
  have hS : va_S (brA ad) s.heap s.heap [] := va_S.rf
  have hl : lv_has ls 3 [(0, .ref (ad 300)), (1, .int x), (2, .int y)] := hl
  refine lv_aload_n hx hb dX3_course_0 rfl (lv_at hl 0 rfl) ?_
  refine br_g0 hx hb hts hown hK hB dX3_course_1 ?_
  refine lv_iload_n hx hb dX3_course_4 rfl (lv_at hl 1 rfl) ?_
  refine lv_iload_n hx hb dX3_course_5 rfl (lv_at hl 2 rfl) ?_
  refine sh_call (rest := []) hx hb hml hown hts (brK_1 hK) (hB.1 0 (by decide)) (c_X2_courseProperty l D cI _ _ (ρ 0) x y hok) (kV_X2_courseProperty hts ml_X3_64 ⟨(Nat.le_of_ble_eq_true rfl), (Nat.le_of_ble_eq_true rfl)⟩) rfl hl.1 rfl (Nat.le_of_ble_eq_true rfl) dX3_course_6 (Nat.zero_le _) (Nat.zero_le _) ?_
  exact fin_i hx hb hr hlk rfl dX3_course_9

theorem kV_X3_course {R : Room} {s : State} {args : Array Value} {own : String} {idx : Nat} {c0 : Cond} (hts : ∀ w ∈ c0 :: W0, w.before args s = true) (hl : Cond.methodLink own idx yX3_course ∈ W0) (hR : rm_X3_course.frames + 1 ≤ R.frames ∧ 8 + (3 + 11) + rm_X3_course.locals ≤ R.locals) : CallW R s args own RX3 idx yX3_course cX3_course 3 (some .int) (Cond.code yX3_course cX3_course 3 (some .int) :: W0) rm_X3_course 0 0 2 := cwV 2 hts (gdV hl mi_yX3_course ms_yX3_course mini_X3 mc_yX3_course) rfl rfl rfl (by decide +kernel) hR
abbrev rm_X3_copy : Room := { frames := 5, cells := 0, slots := 0, locals := 114 }
set_option maxRecDepth 100000 in
theorem c_X3_copy (l : Launch) (D : va_G) (cI cR : ClassId) (ad : Nat → Nat) (v : EN) (ρ : Nat → Nat → Nat → Int32) (sp kp : Nat) (τ : Nat → Nat → Int32) (x : Int32) (y : Int32) (hok : okS (ρ 0)) :
    Met l yX3_copy (Cond.code yX3_copy cX3_copy 3 (some .int) :: W0) rm_X3_copy (va_Pc [.ref (ad 300), .int x, .int y] (brX D cI cR ad v ρ sp kp τ)) (vp_Si (fun r => r = f_X2_copyProperty (ρ 0) x y)) 0 0 (fun _ => False) := by
  refine st_gen (cc := cX3_copy) (maxL := 3) (ret := some .int) (own := RX3) (by decide) rfl (Nat.le_of_ble_eq_true rfl) ?_
  intro p e s m below meth c ls C hPre hl
  obtain ⟨hx, hb, hr, hml, hown, hts, hlk⟩ := C
  obtain ⟨⟨hB, hK, hI⟩, hE⟩ := hPre
  have hS : va_S (brA ad) s.heap s.heap [] := va_S.rf
  have hl : lv_has ls 3 [(0, .ref (ad 300)), (1, .int x), (2, .int y)] := hl
  refine lv_aload_n hx hb dX3_copy_0 rfl (lv_at hl 0 rfl) ?_
  refine br_g0 hx hb hts hown hK hB dX3_copy_1 ?_
  refine lv_iload_n hx hb dX3_copy_4 rfl (lv_at hl 1 rfl) ?_
  refine lv_iload_n hx hb dX3_copy_5 rfl (lv_at hl 2 rfl) ?_
  refine sh_call (rest := []) hx hb hml hown hts (brK_1 hK) (hB.1 0 (by decide)) (c_X2_copyProperty l D cI _ _ (ρ 0) x y hok) (kV_X2_copyProperty hts ml_X3_67 ⟨(Nat.le_of_ble_eq_true rfl), (Nat.le_of_ble_eq_true rfl)⟩) rfl hl.1 rfl (Nat.le_of_ble_eq_true rfl) dX3_copy_6 (Nat.zero_le _) (Nat.zero_le _) ?_
  exact fin_i hx hb hr hlk rfl dX3_copy_9

theorem kV_X3_copy {R : Room} {s : State} {args : Array Value} {own : String} {idx : Nat} {c0 : Cond} (hts : ∀ w ∈ c0 :: W0, w.before args s = true) (hl : Cond.methodLink own idx yX3_copy ∈ W0) (hR : rm_X3_copy.frames + 1 ≤ R.frames ∧ 8 + (3 + 11) + rm_X3_copy.locals ≤ R.locals) : CallW R s args own RX3 idx yX3_copy cX3_copy 3 (some .int) (Cond.code yX3_copy cX3_copy 3 (some .int) :: W0) rm_X3_copy 0 0 2 := cwV 2 hts (gdV hl mi_yX3_copy ms_yX3_copy mini_X3 mc_yX3_copy) rfl rfl rfl (by decide +kernel) hR
abbrev rm_X3_book : Room := { frames := 2, cells := 0, slots := 0, locals := 44 }
set_option maxRecDepth 100000 in
theorem c_X3_book (l : Launch) (D : va_G) (cI cR : ClassId) (ad : Nat → Nat) (v : EN) (ρ : Nat → Nat → Nat → Int32) (sp kp : Nat) (τ : Nat → Nat → Int32) (x : Int32) :
    Met l yX3_book (Cond.code yX3_book cX3_book 2 (some .int) :: W0) rm_X3_book (va_Pc [.ref (ad 300), .int x] (brX D cI cR ad v ρ sp kp τ)) (vp_Si (fun r => r = f_X2_sumOf (ρ 0) x)) 0 0 (fun _ => False) := by
  refine st_gen (cc := cX3_book) (maxL := 2) (ret := some .int) (own := RX3) (by decide) rfl (Nat.le_of_ble_eq_true rfl) ?_
  intro p e s m below meth c ls C hPre hl
  obtain ⟨hx, hb, hr, hml, hown, hts, hlk⟩ := C
  obtain ⟨⟨hB, hK, hI⟩, hE⟩ := hPre
  have hS : va_S (brA ad) s.heap s.heap [] := va_S.rf
  have hl : lv_has ls 2 [(0, .ref (ad 300)), (1, .int x)] := hl
  refine lv_aload_n hx hb dX3_book_0 rfl (lv_at hl 0 rfl) ?_
  refine br_g0 hx hb hts hown hK hB dX3_book_1 ?_
  refine lv_iload_n hx hb dX3_book_4 rfl (lv_at hl 1 rfl) ?_
  refine sh_call (rest := []) hx hb hml hown hts (brK_1 hK) (hB.1 0 (by decide)) (c_X2_sumOf l D cI _ _ (ρ 0) x) (kV_X2_sumOf hts ml_X3_70 ⟨(Nat.le_of_ble_eq_true rfl), (Nat.le_of_ble_eq_true rfl)⟩) rfl hl.1 rfl (Nat.le_of_ble_eq_true rfl) dX3_book_5 (Nat.zero_le _) (Nat.zero_le _) ?_
  exact fin_i hx hb hr hlk rfl dX3_book_8

theorem kV_X3_book {R : Room} {s : State} {args : Array Value} {own : String} {idx : Nat} {c0 : Cond} (hts : ∀ w ∈ c0 :: W0, w.before args s = true) (hl : Cond.methodLink own idx yX3_book ∈ W0) (hR : rm_X3_book.frames + 1 ≤ R.frames ∧ 8 + (2 + 11) + rm_X3_book.locals ≤ R.locals) : CallW R s args own RX3 idx yX3_book cX3_book 2 (some .int) (Cond.code yX3_book cX3_book 2 (some .int) :: W0) rm_X3_book 0 0 1 := cwV 1 hts (gdV hl mi_yX3_book ms_yX3_book mini_X3 mc_yX3_book) rfl rfl rfl (by decide +kernel) hR
abbrev rm_X3_offer : Room := { frames := 4, cells := 0, slots := 0, locals := 94 }
set_option maxRecDepth 100000 in
theorem c_X3_offer (l : Launch) (D : va_G) (cI cR : ClassId) (ad : Nat → Nat) (v : EN) (ρ : Nat → Nat → Nat → Int32) (sp kp : Nat) (τ : Nat → Nat → Int32) (x : Int32) (y : Int32) (z : Int32) (hok : okS (ρ 0)) :
    Met l yX3_offer (Cond.code yX3_offer cX3_offer 4 (some .int) :: W0) rm_X3_offer (va_Pc [.ref (ad 300), .int x, .int y, .int z] (brX D cI cR ad v ρ sp kp τ)) (vp_Si (fun r => r = f_X2_offerFor (ρ 0) x y z)) 0 0 (fun _ => False) := by
  refine st_gen (cc := cX3_offer) (maxL := 4) (ret := some .int) (own := RX3) (by decide) rfl (Nat.le_of_ble_eq_true rfl) ?_
  intro p e s m below meth c ls C hPre hl
  obtain ⟨hx, hb, hr, hml, hown, hts, hlk⟩ := C
  obtain ⟨⟨hB, hK, hI⟩, hE⟩ := hPre
  have hS : va_S (brA ad) s.heap s.heap [] := va_S.rf
  have hl : lv_has ls 4 [(0, .ref (ad 300)), (1, .int x), (2, .int y), (3, .int z)] := hl
  refine lv_aload_n hx hb dX3_offer_0 rfl (lv_at hl 0 rfl) ?_
  refine br_g0 hx hb hts hown hK hB dX3_offer_1 ?_
  refine lv_iload_n hx hb dX3_offer_4 rfl (lv_at hl 1 rfl) ?_
  refine lv_iload_n hx hb dX3_offer_5 rfl (lv_at hl 2 rfl) ?_
  refine lv_iload_n hx hb dX3_offer_6 rfl (lv_at hl 3 rfl) ?_
  refine sh_call (rest := []) hx hb hml hown hts (brK_1 hK) (hB.1 0 (by decide)) (c_X2_offerFor l D cI _ _ (ρ 0) x y z hok) (kV_X2_offerFor hts ml_X3_76 ⟨(Nat.le_of_ble_eq_true rfl), (Nat.le_of_ble_eq_true rfl)⟩) rfl hl.1 rfl (Nat.le_of_ble_eq_true rfl) dX3_offer_7 (Nat.zero_le _) (Nat.zero_le _) ?_
  exact fin_i hx hb hr hlk rfl dX3_offer_10

theorem kV_X3_offer {R : Room} {s : State} {args : Array Value} {own : String} {idx : Nat} {c0 : Cond} (hts : ∀ w ∈ c0 :: W0, w.before args s = true) (hl : Cond.methodLink own idx yX3_offer ∈ W0) (hR : rm_X3_offer.frames + 1 ≤ R.frames ∧ 8 + (4 + 11) + rm_X3_offer.locals ≤ R.locals) : CallW R s args own RX3 idx yX3_offer cX3_offer 4 (some .int) (Cond.code yX3_offer cX3_offer 4 (some .int) :: W0) rm_X3_offer 0 0 3 := cwV 3 hts (gdV hl mi_yX3_offer ms_yX3_offer mini_X3 mc_yX3_offer) rfl rfl rfl (by decide +kernel) hR
abbrev rm_X3_next : Room := { frames := 4, cells := 0, slots := 0, locals := 89 }
set_option maxRecDepth 100000 in
theorem c_X3_next (l : Launch) (D : va_G) (cI cR : ClassId) (ad : Nat → Nat) (v : EN) (ρ : Nat → Nat → Nat → Int32) (sp kp : Nat) (τ : Nat → Nat → Int32) (x : Int32) (hok : okS (ρ 0)) :
    Met l yX3_next (Cond.code yX3_next cX3_next 2 (some .int) :: W0) rm_X3_next (va_Pc [.ref (ad 300), .int x] (brX D cI cR ad v ρ sp kp τ)) (vp_Si (fun r => r = f_X2_nextCopy (ρ 0) x)) 0 0 (fun _ => False) := by
  refine st_gen (cc := cX3_next) (maxL := 2) (ret := some .int) (own := RX3) (by decide) rfl (Nat.le_of_ble_eq_true rfl) ?_
  intro p e s m below meth c ls C hPre hl
  obtain ⟨hx, hb, hr, hml, hown, hts, hlk⟩ := C
  obtain ⟨⟨hB, hK, hI⟩, hE⟩ := hPre
  have hS : va_S (brA ad) s.heap s.heap [] := va_S.rf
  have hl : lv_has ls 2 [(0, .ref (ad 300)), (1, .int x)] := hl
  refine lv_aload_n hx hb dX3_next_0 rfl (lv_at hl 0 rfl) ?_
  refine br_g0 hx hb hts hown hK hB dX3_next_1 ?_
  refine lv_iload_n hx hb dX3_next_4 rfl (lv_at hl 1 rfl) ?_
  refine sh_call (rest := []) hx hb hml hown hts (brK_1 hK) (hB.1 0 (by decide)) (c_X2_nextCopy l D cI _ _ (ρ 0) x hok) (kV_X2_nextCopy hts ml_X3_88 ⟨(Nat.le_of_ble_eq_true rfl), (Nat.le_of_ble_eq_true rfl)⟩) rfl hl.1 rfl (Nat.le_of_ble_eq_true rfl) dX3_next_5 (Nat.zero_le _) (Nat.zero_le _) ?_
  exact fin_i hx hb hr hlk rfl dX3_next_8

theorem kV_X3_next {R : Room} {s : State} {args : Array Value} {own : String} {idx : Nat} {c0 : Cond} (hts : ∀ w ∈ c0 :: W0, w.before args s = true) (hl : Cond.methodLink own idx yX3_next ∈ W0) (hR : rm_X3_next.frames + 1 ≤ R.frames ∧ 8 + (2 + 11) + rm_X3_next.locals ≤ R.locals) : CallW R s args own RX3 idx yX3_next cX3_next 2 (some .int) (Cond.code yX3_next cX3_next 2 (some .int) :: W0) rm_X3_next 0 0 1 := cwV 1 hts (gdV hl mi_yX3_next ms_yX3_next mini_X3 mc_yX3_next) rfl rfl rfl (by decide +kernel) hR
abbrev rm_X3_charge : Room := { frames := 5, cells := 0, slots := 0, locals := 118 }
set_option maxRecDepth 100000 in
theorem c_X3_charge (l : Launch) (D : va_G) (cI cR : ClassId) (ad : Nat → Nat) (v : EN) (ρ : Nat → Nat → Nat → Int32) (sp kp : Nat) (τ : Nat → Nat → Int32) (x : Int32) (y : Int32) (z : Int32) (hok : okS (ρ 0)) :
    Met l yX3_charge (Cond.code yX3_charge cX3_charge 4 (some .int) :: W0) rm_X3_charge (va_Pc [.ref (ad 300), .int x, .int y, .int z] (brX D cI cR ad v ρ sp kp τ)) (vp_Si (fun r => r = f_X2_chargeFor (ρ 0) x y z)) 0 0 (fun _ => False) := by
  refine st_gen (cc := cX3_charge) (maxL := 4) (ret := some .int) (own := RX3) (by decide) rfl (Nat.le_of_ble_eq_true rfl) ?_
  intro p e s m below meth c ls C hPre hl
  obtain ⟨hx, hb, hr, hml, hown, hts, hlk⟩ := C
  obtain ⟨⟨hB, hK, hI⟩, hE⟩ := hPre
  have hS : va_S (brA ad) s.heap s.heap [] := va_S.rf
  have hl : lv_has ls 4 [(0, .ref (ad 300)), (1, .int x), (2, .int y), (3, .int z)] := hl
  refine lv_aload_n hx hb dX3_charge_0 rfl (lv_at hl 0 rfl) ?_
  refine br_g0 hx hb hts hown hK hB dX3_charge_1 ?_
  refine lv_iload_n hx hb dX3_charge_4 rfl (lv_at hl 1 rfl) ?_
  refine lv_iload_n hx hb dX3_charge_5 rfl (lv_at hl 2 rfl) ?_
  refine lv_iload_n hx hb dX3_charge_6 rfl (lv_at hl 3 rfl) ?_
  refine sh_call (rest := []) hx hb hml hown hts (brK_1 hK) (hB.1 0 (by decide)) (c_X2_chargeFor l D cI _ _ (ρ 0) x y z hok) (kV_X2_chargeFor hts ml_X3_94 ⟨(Nat.le_of_ble_eq_true rfl), (Nat.le_of_ble_eq_true rfl)⟩) rfl hl.1 rfl (Nat.le_of_ble_eq_true rfl) dX3_charge_7 (Nat.zero_le _) (Nat.zero_le _) ?_
  exact fin_i hx hb hr hlk rfl dX3_charge_10

theorem kV_X3_charge {R : Room} {s : State} {args : Array Value} {own : String} {idx : Nat} {c0 : Cond} (hts : ∀ w ∈ c0 :: W0, w.before args s = true) (hl : Cond.methodLink own idx yX3_charge ∈ W0) (hR : rm_X3_charge.frames + 1 ≤ R.frames ∧ 8 + (4 + 11) + rm_X3_charge.locals ≤ R.locals) : CallW R s args own RX3 idx yX3_charge cX3_charge 4 (some .int) (Cond.code yX3_charge cX3_charge 4 (some .int) :: W0) rm_X3_charge 0 0 3 := cwV 3 hts (gdV hl mi_yX3_charge ms_yX3_charge mini_X3 mc_yX3_charge) rfl rfl rfl (by decide +kernel) hR
abbrev rm_X3_customer : Room := { frames := 4, cells := 0, slots := 0, locals := 87 }
set_option maxRecDepth 100000 in
theorem c_X3_customer (l : Launch) (D : va_G) (cI cR : ClassId) (ad : Nat → Nat) (v : EN) (ρ : Nat → Nat → Nat → Int32) (sp kp : Nat) (τ : Nat → Nat → Int32) (x : Int32) (y : Int32) (hok : okS (ρ 0)) :
    Met l yX3_customer (Cond.code yX3_customer cX3_customer 3 (some .int) :: W0) rm_X3_customer (va_Pc [.ref (ad 300), .int x, .int y] (brX D cI cR ad v ρ sp kp τ)) (vp_Si (fun r => r = f_X2_customerNumber (ρ 0) x y)) 0 0 (fun _ => False) := by
  refine st_gen (cc := cX3_customer) (maxL := 3) (ret := some .int) (own := RX3) (by decide) rfl (Nat.le_of_ble_eq_true rfl) ?_
  intro p e s m below meth c ls C hPre hl
  obtain ⟨hx, hb, hr, hml, hown, hts, hlk⟩ := C
  obtain ⟨⟨hB, hK, hI⟩, hE⟩ := hPre
  have hS : va_S (brA ad) s.heap s.heap [] := va_S.rf
  have hl : lv_has ls 3 [(0, .ref (ad 300)), (1, .int x), (2, .int y)] := hl
  refine lv_aload_n hx hb dX3_customer_0 rfl (lv_at hl 0 rfl) ?_
  refine br_g0 hx hb hts hown hK hB dX3_customer_1 ?_
  refine lv_iload_n hx hb dX3_customer_4 rfl (lv_at hl 1 rfl) ?_
  refine lv_iload_n hx hb dX3_customer_5 rfl (lv_at hl 2 rfl) ?_
  refine sh_call (rest := []) hx hb hml hown hts (brK_1 hK) (hB.1 0 (by decide)) (c_X2_customerNumber l D cI _ _ (ρ 0) x y hok) (kV_X2_customerNumber hts ml_X3_103 ⟨(Nat.le_of_ble_eq_true rfl), (Nat.le_of_ble_eq_true rfl)⟩) rfl hl.1 rfl (Nat.le_of_ble_eq_true rfl) dX3_customer_6 (Nat.zero_le _) (Nat.zero_le _) ?_
  exact fin_i hx hb hr hlk rfl dX3_customer_9

theorem kV_X3_customer {R : Room} {s : State} {args : Array Value} {own : String} {idx : Nat} {c0 : Cond} (hts : ∀ w ∈ c0 :: W0, w.before args s = true) (hl : Cond.methodLink own idx yX3_customer ∈ W0) (hR : rm_X3_customer.frames + 1 ≤ R.frames ∧ 8 + (3 + 11) + rm_X3_customer.locals ≤ R.locals) : CallW R s args own RX3 idx yX3_customer cX3_customer 3 (some .int) (Cond.code yX3_customer cX3_customer 3 (some .int) :: W0) rm_X3_customer 0 0 2 := cwV 2 hts (gdV hl mi_yX3_customer ms_yX3_customer mini_X3 mc_yX3_customer) rfl rfl rfl (by decide +kernel) hR
abbrev rm_X3_lostIn : Room := { frames := 2, cells := 0, slots := 0, locals := 45 }
set_option maxRecDepth 100000 in
theorem c_X3_lostIn (l : Launch) (D : va_G) (cI cR : ClassId) (ad : Nat → Nat) (v : EN) (ρ : Nat → Nat → Nat → Int32) (sp kp : Nat) (τ : Nat → Nat → Int32) (x : Int32) (hok : okS (ρ 0)) :
    Met l yX3_lostIn (Cond.code yX3_lostIn cX3_lostIn 2 (some .int) :: W0) rm_X3_lostIn (va_Pc [.ref (ad 300), .int x] (brX D cI cR ad v ρ sp kp τ)) (vp_Si (fun r => r = f_X2_lostAfter (ρ 0) x)) 0 0 (fun _ => False) := by
  refine st_gen (cc := cX3_lostIn) (maxL := 2) (ret := some .int) (own := RX3) (by decide) rfl (Nat.le_of_ble_eq_true rfl) ?_
  intro p e s m below meth c ls C hPre hl
  obtain ⟨hx, hb, hr, hml, hown, hts, hlk⟩ := C
  obtain ⟨⟨hB, hK, hI⟩, hE⟩ := hPre
  have hS : va_S (brA ad) s.heap s.heap [] := va_S.rf
  have hl : lv_has ls 2 [(0, .ref (ad 300)), (1, .int x)] := hl
  refine lv_aload_n hx hb dX3_lostIn_0 rfl (lv_at hl 0 rfl) ?_
  refine br_g0 hx hb hts hown hK hB dX3_lostIn_1 ?_
  refine lv_iload_n hx hb dX3_lostIn_4 rfl (lv_at hl 1 rfl) ?_
  refine sh_call (rest := []) hx hb hml hown hts (brK_1 hK) (hB.1 0 (by decide)) (c_X2_lostAfter l D cI _ _ (ρ 0) x hok) (kV_X2_lostAfter hts ml_X3_106 ⟨(Nat.le_of_ble_eq_true rfl), (Nat.le_of_ble_eq_true rfl)⟩) rfl hl.1 rfl (Nat.le_of_ble_eq_true rfl) dX3_lostIn_5 (Nat.zero_le _) (Nat.zero_le _) ?_
  exact fin_i hx hb hr hlk rfl dX3_lostIn_8

theorem kV_X3_lostIn {R : Room} {s : State} {args : Array Value} {own : String} {idx : Nat} {c0 : Cond} (hts : ∀ w ∈ c0 :: W0, w.before args s = true) (hl : Cond.methodLink own idx yX3_lostIn ∈ W0) (hR : rm_X3_lostIn.frames + 1 ≤ R.frames ∧ 8 + (2 + 11) + rm_X3_lostIn.locals ≤ R.locals) : CallW R s args own RX3 idx yX3_lostIn cX3_lostIn 2 (some .int) (Cond.code yX3_lostIn cX3_lostIn 2 (some .int) :: W0) rm_X3_lostIn 0 0 1 := cwV 1 hts (gdV hl mi_yX3_lostIn ms_yX3_lostIn mini_X3 mc_yX3_lostIn) rfl rfl rfl (by decide +kernel) hR
abbrev rm_X3_agingOf : Room := { frames := 4, cells := 0, slots := 0, locals := 95 }
set_option maxRecDepth 100000 in
theorem c_X3_agingOf (l : Launch) (D : va_G) (cI cR : ClassId) (ad : Nat → Nat) (v : EN) (ρ : Nat → Nat → Nat → Int32) (sp kp : Nat) (τ : Nat → Nat → Int32) (x : Int32) (hok : okS (ρ 0)) :
    Met l yX3_agingOf (Cond.code yX3_agingOf cX3_agingOf 2 (some .int) :: W0) rm_X3_agingOf (va_Pc [.ref (ad 300), .int x] (brX D cI cR ad v ρ sp kp τ)) (vp_Si (fun r => r = f_X2_agingBy (ρ 0) x)) 0 0 (fun _ => False) := by
  refine st_gen (cc := cX3_agingOf) (maxL := 2) (ret := some .int) (own := RX3) (by decide) rfl (Nat.le_of_ble_eq_true rfl) ?_
  intro p e s m below meth c ls C hPre hl
  obtain ⟨hx, hb, hr, hml, hown, hts, hlk⟩ := C
  obtain ⟨⟨hB, hK, hI⟩, hE⟩ := hPre
  have hS : va_S (brA ad) s.heap s.heap [] := va_S.rf
  have hl : lv_has ls 2 [(0, .ref (ad 300)), (1, .int x)] := hl
  refine lv_aload_n hx hb dX3_agingOf_0 rfl (lv_at hl 0 rfl) ?_
  refine br_g0 hx hb hts hown hK hB dX3_agingOf_1 ?_
  refine lv_iload_n hx hb dX3_agingOf_4 rfl (lv_at hl 1 rfl) ?_
  refine sh_call (rest := []) hx hb hml hown hts (brK_1 hK) (hB.1 0 (by decide)) (c_X2_agingBy l D cI _ _ (ρ 0) x hok) (kV_X2_agingBy hts ml_X3_109 ⟨(Nat.le_of_ble_eq_true rfl), (Nat.le_of_ble_eq_true rfl)⟩) rfl hl.1 rfl (Nat.le_of_ble_eq_true rfl) dX3_agingOf_5 (Nat.zero_le _) (Nat.zero_le _) ?_
  exact fin_i hx hb hr hlk rfl dX3_agingOf_8

theorem kV_X3_agingOf {R : Room} {s : State} {args : Array Value} {own : String} {idx : Nat} {c0 : Cond} (hts : ∀ w ∈ c0 :: W0, w.before args s = true) (hl : Cond.methodLink own idx yX3_agingOf ∈ W0) (hR : rm_X3_agingOf.frames + 1 ≤ R.frames ∧ 8 + (2 + 11) + rm_X3_agingOf.locals ≤ R.locals) : CallW R s args own RX3 idx yX3_agingOf cX3_agingOf 2 (some .int) (Cond.code yX3_agingOf cX3_agingOf 2 (some .int) :: W0) rm_X3_agingOf 0 0 1 := cwV 1 hts (gdV hl mi_yX3_agingOf ms_yX3_agingOf mini_X3 mc_yX3_agingOf) rfl rfl rfl (by decide +kernel) hR
abbrev rm_X3_served : Room := { frames := 3, cells := 0, slots := 0, locals := 71 }
set_option maxRecDepth 100000 in
theorem c_X3_served (l : Launch) (D : va_G) (cI cR : ClassId) (ad : Nat → Nat) (v : EN) (ρ : Nat → Nat → Nat → Int32) (sp kp : Nat) (τ : Nat → Nat → Int32) (hok : okS (ρ 0)) :
    Met l yX3_served (Cond.code yX3_served cX3_served 1 (some .int) :: W0) rm_X3_served (va_Pc [.ref (ad 300)] (brX D cI cR ad v ρ sp kp τ)) (vp_Si (fun r => r = f_X2_servedStudents (ρ 0))) 0 0 (fun _ => False) := by
  refine st_gen (cc := cX3_served) (maxL := 1) (ret := some .int) (own := RX3) (by decide) rfl (Nat.le_of_ble_eq_true rfl) ?_
  intro p e s m below meth c ls C hPre hl
  obtain ⟨hx, hb, hr, hml, hown, hts, hlk⟩ := C
  obtain ⟨⟨hB, hK, hI⟩, hE⟩ := hPre
  have hS : va_S (brA ad) s.heap s.heap [] := va_S.rf
  have hl : lv_has ls 1 [(0, .ref (ad 300))] := hl
  refine lv_aload_n hx hb dX3_served_0 rfl (lv_at hl 0 rfl) ?_
  refine br_g0 hx hb hts hown hK hB dX3_served_1 ?_
  refine sh_call (rest := []) hx hb hml hown hts (brK_1 hK) (hB.1 0 (by decide)) (c_X2_servedStudents l D cI _ _ (ρ 0) hok) (kV_X2_servedStudents hts ml_X3_112 ⟨(Nat.le_of_ble_eq_true rfl), (Nat.le_of_ble_eq_true rfl)⟩) rfl hl.1 rfl (Nat.le_of_ble_eq_true rfl) dX3_served_4 (Nat.zero_le _) (Nat.zero_le _) ?_
  exact fin_i hx hb hr hlk rfl dX3_served_7

theorem kV_X3_served {R : Room} {s : State} {args : Array Value} {own : String} {idx : Nat} {c0 : Cond} (hts : ∀ w ∈ c0 :: W0, w.before args s = true) (hl : Cond.methodLink own idx yX3_served ∈ W0) (hR : rm_X3_served.frames + 1 ≤ R.frames ∧ 8 + (1 + 11) + rm_X3_served.locals ≤ R.locals) : CallW R s args own RX3 idx yX3_served cX3_served 1 (some .int) (Cond.code yX3_served cX3_served 1 (some .int) :: W0) rm_X3_served 0 0 0 := cwV 0 hts (gdV hl mi_yX3_served ms_yX3_served mini_X3 mc_yX3_served) rfl rfl rfl (by decide +kernel) hR
def rc_addTitle (ρ : Nat → Nat → Nat → Int32) (sp : Nat) (x : Int32) (y : Int32) : Nat → Nat → Nat → Int32 := rcρ ρ sp (m_X2_putTitle (ρ 0) x y).2
abbrev rm_X3_addTitle : Room := { frames := 4, cells := 0, slots := 0, locals := 163 }
set_option maxRecDepth 100000 in
theorem c_X3_addTitle (l : Launch) (D : va_G) (cI cR : ClassId) (ad : Nat → Nat) (v : EN) (ρ : Nat → Nat → Nat → Int32) (sp kp : Nat) (τ : Nat → Nat → Int32) (x : Int32) (y : Int32) (hsp : sp < 6) (hkp : kp ≤ 5) (hok : okS (ρ 0)) :
    Met l yX3_addTitle (Cond.code yX3_addTitle cX3_addTitle 3 (some .int) :: W0) rm_X3_addTitle (va_Pc [.ref (ad 300), .int x, .int y] (brX D cI cR ad v ρ sp kp τ)) (brQ D cI cR ad (m_X2_putTitle (ρ 0) x y).1 (rcρ ρ sp (m_X2_putTitle (ρ 0) x y).2) (st_sp (m_X2_putTitle (ρ 0) x y).1 sp) (st_kp (m_X2_putTitle (ρ 0) x y).1 kp) τ) 0 0 (brA ad) := by
  refine st_gen (cc := cX3_addTitle) (maxL := 3) (ret := some .int) (own := RX3) (by decide) rfl (Nat.le_of_ble_eq_true rfl) ?_
  intro p e s m below meth c ls C hPre hl
  obtain ⟨hx, hb, hr, hml, hown, hts, hlk⟩ := C
  obtain ⟨⟨hB, hK, hI⟩, hE⟩ := hPre
  have hS : va_S (brA ad) s.heap s.heap [] := va_S.rf
  have hl : lv_has ls 3 [(0, .ref (ad 300)), (1, .int x), (2, .int y)] := hl
  refine lv_aload_n hx hb dX3_addTitle_0 rfl (lv_at hl 0 rfl) ?_
  refine br_g1 hx hb hts hown hK hB dX3_addTitle_1 ?_
  refine lv_aload_n hx hb dX3_addTitle_4 rfl (lv_at hl 0 rfl) ?_
  refine br_g0 hx hb hts hown hK hB dX3_addTitle_5 ?_
  refine br_callV (rest := []) hx hb hml hown hts hK hB hI hS (hi_recv hK hB) (c_X0_prepare l D cI cR ad ρ sp kp τ hsp) (kV_X0_prepare hts ml_X3_30 ⟨(Nat.le_of_ble_eq_true rfl), (Nat.le_of_ble_eq_true rfl)⟩) rfl hl.1 rfl (Nat.le_of_ble_eq_true rfl) dX3_addTitle_8 (Nat.zero_le _) (Nat.zero_le _) (fun H locs hB hS => ?_)
  refine lv_aload_n hx hb dX3_addTitle_11 rfl (lv_at hl 0 rfl) ?_
  refine br_g1 hx hb hts hown hK hB dX3_addTitle_12 ?_
  refine lv_aload_n hx hb dX3_addTitle_15 rfl (lv_at hl 0 rfl) ?_
  refine br_g0 hx hb hts hown hK hB dX3_addTitle_16 ?_
  refine lv_iload_n hx hb dX3_addTitle_19 rfl (lv_at hl 1 rfl) ?_
  refine lv_iload_n hx hb dX3_addTitle_20 rfl (lv_at hl 2 rfl) ?_
  refine br_callS (w := m_X2_putTitle (ρ 0) x y) (rest := [.ref (ad 200)]) hx hb hml hown hts hK hB hI hS 0 (by decide) (by rw [rc_0]; exact c_X2_putTitle l D cI _ _ (ρ 0) x y hok) (kV_X2_putTitle hts ml_X3_34 ⟨(Nat.le_of_ble_eq_true rfl), (Nat.le_of_ble_eq_true rfl)⟩) rfl hl.1 rfl (Nat.le_of_ble_eq_true rfl) dX3_addTitle_21 (Nat.zero_le _) (Nat.zero_le _) (fun H locs hB hS => ?_)
  refine br_callQ (rest := []) hx hb hml hown hts hK hB hI hS (hi_recv hK hB) (c_X0_settle l D cI cR ad _ sp kp τ _ hsp hkp) (kV_X0_settle hts ml_X3_38 ⟨(Nat.le_of_ble_eq_true rfl), (Nat.le_of_ble_eq_true rfl)⟩) rfl hl.1 rfl (Nat.le_of_ble_eq_true rfl) dX3_addTitle_24 (Nat.zero_le _) (Nat.zero_le _) (fun H locs hB hS => ?_)
  exact br_fin hx hb hr hlk hB hS rfl rfl rfl rfl rfl dX3_addTitle_27

theorem kV_X3_addTitle {R : Room} {s : State} {args : Array Value} {own : String} {idx : Nat} {c0 : Cond} (hts : ∀ w ∈ c0 :: W0, w.before args s = true) (hl : Cond.methodLink own idx yX3_addTitle ∈ W0) (hR : rm_X3_addTitle.frames + 1 ≤ R.frames ∧ 8 + (3 + 11) + rm_X3_addTitle.locals ≤ R.locals) : CallW R s args own RX3 idx yX3_addTitle cX3_addTitle 3 (some .int) (Cond.code yX3_addTitle cX3_addTitle 3 (some .int) :: W0) rm_X3_addTitle 0 0 2 := cwV 2 hts (gdV hl mi_yX3_addTitle ms_yX3_addTitle mini_X3 mc_yX3_addTitle) rfl rfl rfl (by decide +kernel) hR
def rc_setPrice (ρ : Nat → Nat → Nat → Int32) (sp : Nat) (x : Int32) (y : Int32) : Nat → Nat → Nat → Int32 := rcρ ρ sp (m_X2_changePrice (ρ 0) x y).2
abbrev rm_X3_setPrice : Room := { frames := 4, cells := 0, slots := 0, locals := 163 }
set_option maxRecDepth 100000 in
theorem c_X3_setPrice (l : Launch) (D : va_G) (cI cR : ClassId) (ad : Nat → Nat) (v : EN) (ρ : Nat → Nat → Nat → Int32) (sp kp : Nat) (τ : Nat → Nat → Int32) (x : Int32) (y : Int32) (hsp : sp < 6) (hkp : kp ≤ 5) (hok : okS (ρ 0)) :
    Met l yX3_setPrice (Cond.code yX3_setPrice cX3_setPrice 3 (some .int) :: W0) rm_X3_setPrice (va_Pc [.ref (ad 300), .int x, .int y] (brX D cI cR ad v ρ sp kp τ)) (brQ D cI cR ad (m_X2_changePrice (ρ 0) x y).1 (rcρ ρ sp (m_X2_changePrice (ρ 0) x y).2) (st_sp (m_X2_changePrice (ρ 0) x y).1 sp) (st_kp (m_X2_changePrice (ρ 0) x y).1 kp) τ) 0 0 (brA ad) := by
  refine st_gen (cc := cX3_setPrice) (maxL := 3) (ret := some .int) (own := RX3) (by decide) rfl (Nat.le_of_ble_eq_true rfl) ?_
  intro p e s m below meth c ls C hPre hl
  obtain ⟨hx, hb, hr, hml, hown, hts, hlk⟩ := C
  obtain ⟨⟨hB, hK, hI⟩, hE⟩ := hPre
  have hS : va_S (brA ad) s.heap s.heap [] := va_S.rf
  have hl : lv_has ls 3 [(0, .ref (ad 300)), (1, .int x), (2, .int y)] := hl
  refine lv_aload_n hx hb dX3_setPrice_0 rfl (lv_at hl 0 rfl) ?_
  refine br_g1 hx hb hts hown hK hB dX3_setPrice_1 ?_
  refine lv_aload_n hx hb dX3_setPrice_4 rfl (lv_at hl 0 rfl) ?_
  refine br_g0 hx hb hts hown hK hB dX3_setPrice_5 ?_
  refine br_callV (rest := []) hx hb hml hown hts hK hB hI hS (hi_recv hK hB) (c_X0_prepare l D cI cR ad ρ sp kp τ hsp) (kV_X0_prepare hts ml_X3_30 ⟨(Nat.le_of_ble_eq_true rfl), (Nat.le_of_ble_eq_true rfl)⟩) rfl hl.1 rfl (Nat.le_of_ble_eq_true rfl) dX3_setPrice_8 (Nat.zero_le _) (Nat.zero_le _) (fun H locs hB hS => ?_)
  refine lv_aload_n hx hb dX3_setPrice_11 rfl (lv_at hl 0 rfl) ?_
  refine br_g1 hx hb hts hown hK hB dX3_setPrice_12 ?_
  refine lv_aload_n hx hb dX3_setPrice_15 rfl (lv_at hl 0 rfl) ?_
  refine br_g0 hx hb hts hown hK hB dX3_setPrice_16 ?_
  refine lv_iload_n hx hb dX3_setPrice_19 rfl (lv_at hl 1 rfl) ?_
  refine lv_iload_n hx hb dX3_setPrice_20 rfl (lv_at hl 2 rfl) ?_
  refine br_callS (w := m_X2_changePrice (ρ 0) x y) (rest := [.ref (ad 200)]) hx hb hml hown hts hK hB hI hS 0 (by decide) (by rw [rc_0]; exact c_X2_changePrice l D cI _ _ (ρ 0) x y hok) (kV_X2_changePrice hts ml_X3_42 ⟨(Nat.le_of_ble_eq_true rfl), (Nat.le_of_ble_eq_true rfl)⟩) rfl hl.1 rfl (Nat.le_of_ble_eq_true rfl) dX3_setPrice_21 (Nat.zero_le _) (Nat.zero_le _) (fun H locs hB hS => ?_)
  refine br_callQ (rest := []) hx hb hml hown hts hK hB hI hS (hi_recv hK hB) (c_X0_settle l D cI cR ad _ sp kp τ _ hsp hkp) (kV_X0_settle hts ml_X3_38 ⟨(Nat.le_of_ble_eq_true rfl), (Nat.le_of_ble_eq_true rfl)⟩) rfl hl.1 rfl (Nat.le_of_ble_eq_true rfl) dX3_setPrice_24 (Nat.zero_le _) (Nat.zero_le _) (fun H locs hB hS => ?_)
  exact br_fin hx hb hr hlk hB hS rfl rfl rfl rfl rfl dX3_setPrice_27

theorem kV_X3_setPrice {R : Room} {s : State} {args : Array Value} {own : String} {idx : Nat} {c0 : Cond} (hts : ∀ w ∈ c0 :: W0, w.before args s = true) (hl : Cond.methodLink own idx yX3_setPrice ∈ W0) (hR : rm_X3_setPrice.frames + 1 ≤ R.frames ∧ 8 + (3 + 11) + rm_X3_setPrice.locals ≤ R.locals) : CallW R s args own RX3 idx yX3_setPrice cX3_setPrice 3 (some .int) (Cond.code yX3_setPrice cX3_setPrice 3 (some .int) :: W0) rm_X3_setPrice 0 0 2 := cwV 2 hts (gdV hl mi_yX3_setPrice ms_yX3_setPrice mini_X3 mc_yX3_setPrice) rfl rfl rfl (by decide +kernel) hR
def rc_newEdition (ρ : Nat → Nat → Nat → Int32) (sp : Nat) (x : Int32) : Nat → Nat → Nat → Int32 := rcρ ρ sp (m_X2_advanceEdition (ρ 0) x).2
abbrev rm_X3_newEdition : Room := { frames := 4, cells := 0, slots := 0, locals := 163 }
set_option maxRecDepth 100000 in
theorem c_X3_newEdition (l : Launch) (D : va_G) (cI cR : ClassId) (ad : Nat → Nat) (v : EN) (ρ : Nat → Nat → Nat → Int32) (sp kp : Nat) (τ : Nat → Nat → Int32) (x : Int32) (hsp : sp < 6) (hkp : kp ≤ 5) (hok : okS (ρ 0)) :
    Met l yX3_newEdition (Cond.code yX3_newEdition cX3_newEdition 2 (some .int) :: W0) rm_X3_newEdition (va_Pc [.ref (ad 300), .int x] (brX D cI cR ad v ρ sp kp τ)) (brQ D cI cR ad (m_X2_advanceEdition (ρ 0) x).1 (rcρ ρ sp (m_X2_advanceEdition (ρ 0) x).2) (st_sp (m_X2_advanceEdition (ρ 0) x).1 sp) (st_kp (m_X2_advanceEdition (ρ 0) x).1 kp) τ) 0 0 (brA ad) := by
  refine st_gen (cc := cX3_newEdition) (maxL := 2) (ret := some .int) (own := RX3) (by decide) rfl (Nat.le_of_ble_eq_true rfl) ?_
  intro p e s m below meth c ls C hPre hl
  obtain ⟨hx, hb, hr, hml, hown, hts, hlk⟩ := C
  obtain ⟨⟨hB, hK, hI⟩, hE⟩ := hPre
  have hS : va_S (brA ad) s.heap s.heap [] := va_S.rf
  have hl : lv_has ls 2 [(0, .ref (ad 300)), (1, .int x)] := hl
  refine lv_aload_n hx hb dX3_newEdition_0 rfl (lv_at hl 0 rfl) ?_
  refine br_g1 hx hb hts hown hK hB dX3_newEdition_1 ?_
  refine lv_aload_n hx hb dX3_newEdition_4 rfl (lv_at hl 0 rfl) ?_
  refine br_g0 hx hb hts hown hK hB dX3_newEdition_5 ?_
  refine br_callV (rest := []) hx hb hml hown hts hK hB hI hS (hi_recv hK hB) (c_X0_prepare l D cI cR ad ρ sp kp τ hsp) (kV_X0_prepare hts ml_X3_30 ⟨(Nat.le_of_ble_eq_true rfl), (Nat.le_of_ble_eq_true rfl)⟩) rfl hl.1 rfl (Nat.le_of_ble_eq_true rfl) dX3_newEdition_8 (Nat.zero_le _) (Nat.zero_le _) (fun H locs hB hS => ?_)
  refine lv_aload_n hx hb dX3_newEdition_11 rfl (lv_at hl 0 rfl) ?_
  refine br_g1 hx hb hts hown hK hB dX3_newEdition_12 ?_
  refine lv_aload_n hx hb dX3_newEdition_15 rfl (lv_at hl 0 rfl) ?_
  refine br_g0 hx hb hts hown hK hB dX3_newEdition_16 ?_
  refine lv_iload_n hx hb dX3_newEdition_19 rfl (lv_at hl 1 rfl) ?_
  refine br_callS (w := m_X2_advanceEdition (ρ 0) x) (rest := [.ref (ad 200)]) hx hb hml hown hts hK hB hI hS 0 (by decide) (by rw [rc_0]; exact c_X2_advanceEdition l D cI _ _ (ρ 0) x hok) (kV_X2_advanceEdition hts ml_X3_45 ⟨(Nat.le_of_ble_eq_true rfl), (Nat.le_of_ble_eq_true rfl)⟩) rfl hl.1 rfl (Nat.le_of_ble_eq_true rfl) dX3_newEdition_20 (Nat.zero_le _) (Nat.zero_le _) (fun H locs hB hS => ?_)
  refine br_callQ (rest := []) hx hb hml hown hts hK hB hI hS (hi_recv hK hB) (c_X0_settle l D cI cR ad _ sp kp τ _ hsp hkp) (kV_X0_settle hts ml_X3_38 ⟨(Nat.le_of_ble_eq_true rfl), (Nat.le_of_ble_eq_true rfl)⟩) rfl hl.1 rfl (Nat.le_of_ble_eq_true rfl) dX3_newEdition_23 (Nat.zero_le _) (Nat.zero_le _) (fun H locs hB hS => ?_)
  exact br_fin hx hb hr hlk hB hS rfl rfl rfl rfl rfl dX3_newEdition_26

theorem kV_X3_newEdition {R : Room} {s : State} {args : Array Value} {own : String} {idx : Nat} {c0 : Cond} (hts : ∀ w ∈ c0 :: W0, w.before args s = true) (hl : Cond.methodLink own idx yX3_newEdition ∈ W0) (hR : rm_X3_newEdition.frames + 1 ≤ R.frames ∧ 8 + (2 + 11) + rm_X3_newEdition.locals ≤ R.locals) : CallW R s args own RX3 idx yX3_newEdition cX3_newEdition 2 (some .int) (Cond.code yX3_newEdition cX3_newEdition 2 (some .int) :: W0) rm_X3_newEdition 0 0 1 := cwV 1 hts (gdV hl mi_yX3_newEdition ms_yX3_newEdition mini_X3 mc_yX3_newEdition) rfl rfl rfl (by decide +kernel) hR
def rc_addCourse (ρ : Nat → Nat → Nat → Int32) (sp : Nat) (x : Int32) (y : Int32) (z : Int32) : Nat → Nat → Nat → Int32 := rcρ ρ sp (m_X2_putCourse (ρ 0) x y z).2
abbrev rm_X3_addCourse : Room := { frames := 4, cells := 0, slots := 0, locals := 163 }
set_option maxRecDepth 100000 in
theorem c_X3_addCourse (l : Launch) (D : va_G) (cI cR : ClassId) (ad : Nat → Nat) (v : EN) (ρ : Nat → Nat → Nat → Int32) (sp kp : Nat) (τ : Nat → Nat → Int32) (x : Int32) (y : Int32) (z : Int32) (hsp : sp < 6) (hkp : kp ≤ 5) (hok : okS (ρ 0)) :
    Met l yX3_addCourse (Cond.code yX3_addCourse cX3_addCourse 4 (some .int) :: W0) rm_X3_addCourse (va_Pc [.ref (ad 300), .int x, .int y, .int z] (brX D cI cR ad v ρ sp kp τ)) (brQ D cI cR ad (m_X2_putCourse (ρ 0) x y z).1 (rcρ ρ sp (m_X2_putCourse (ρ 0) x y z).2) (st_sp (m_X2_putCourse (ρ 0) x y z).1 sp) (st_kp (m_X2_putCourse (ρ 0) x y z).1 kp) τ) 0 0 (brA ad) := by
  refine st_gen (cc := cX3_addCourse) (maxL := 4) (ret := some .int) (own := RX3) (by decide) rfl (Nat.le_of_ble_eq_true rfl) ?_
  intro p e s m below meth c ls C hPre hl
  obtain ⟨hx, hb, hr, hml, hown, hts, hlk⟩ := C
  obtain ⟨⟨hB, hK, hI⟩, hE⟩ := hPre
  have hS : va_S (brA ad) s.heap s.heap [] := va_S.rf
  have hl : lv_has ls 4 [(0, .ref (ad 300)), (1, .int x), (2, .int y), (3, .int z)] := hl
  refine lv_aload_n hx hb dX3_addCourse_0 rfl (lv_at hl 0 rfl) ?_
  refine br_g1 hx hb hts hown hK hB dX3_addCourse_1 ?_
  refine lv_aload_n hx hb dX3_addCourse_4 rfl (lv_at hl 0 rfl) ?_
  refine br_g0 hx hb hts hown hK hB dX3_addCourse_5 ?_
  refine br_callV (rest := []) hx hb hml hown hts hK hB hI hS (hi_recv hK hB) (c_X0_prepare l D cI cR ad ρ sp kp τ hsp) (kV_X0_prepare hts ml_X3_30 ⟨(Nat.le_of_ble_eq_true rfl), (Nat.le_of_ble_eq_true rfl)⟩) rfl hl.1 rfl (Nat.le_of_ble_eq_true rfl) dX3_addCourse_8 (Nat.zero_le _) (Nat.zero_le _) (fun H locs hB hS => ?_)
  refine lv_aload_n hx hb dX3_addCourse_11 rfl (lv_at hl 0 rfl) ?_
  refine br_g1 hx hb hts hown hK hB dX3_addCourse_12 ?_
  refine lv_aload_n hx hb dX3_addCourse_15 rfl (lv_at hl 0 rfl) ?_
  refine br_g0 hx hb hts hown hK hB dX3_addCourse_16 ?_
  refine lv_iload_n hx hb dX3_addCourse_19 rfl (lv_at hl 1 rfl) ?_
  refine lv_iload_n hx hb dX3_addCourse_20 rfl (lv_at hl 2 rfl) ?_
  refine lv_iload_n hx hb dX3_addCourse_21 rfl (lv_at hl 3 rfl) ?_
  refine br_callS (w := m_X2_putCourse (ρ 0) x y z) (rest := [.ref (ad 200)]) hx hb hml hown hts hK hB hI hS 0 (by decide) (by rw [rc_0]; exact c_X2_putCourse l D cI _ _ (ρ 0) x y z hok) (kV_X2_putCourse hts ml_X3_48 ⟨(Nat.le_of_ble_eq_true rfl), (Nat.le_of_ble_eq_true rfl)⟩) rfl hl.1 rfl (Nat.le_of_ble_eq_true rfl) dX3_addCourse_22 (Nat.zero_le _) (Nat.zero_le _) (fun H locs hB hS => ?_)
  refine br_callQ (rest := []) hx hb hml hown hts hK hB hI hS (hi_recv hK hB) (c_X0_settle l D cI cR ad _ sp kp τ _ hsp hkp) (kV_X0_settle hts ml_X3_38 ⟨(Nat.le_of_ble_eq_true rfl), (Nat.le_of_ble_eq_true rfl)⟩) rfl hl.1 rfl (Nat.le_of_ble_eq_true rfl) dX3_addCourse_25 (Nat.zero_le _) (Nat.zero_le _) (fun H locs hB hS => ?_)
  exact br_fin hx hb hr hlk hB hS rfl rfl rfl rfl rfl dX3_addCourse_28

theorem kV_X3_addCourse {R : Room} {s : State} {args : Array Value} {own : String} {idx : Nat} {c0 : Cond} (hts : ∀ w ∈ c0 :: W0, w.before args s = true) (hl : Cond.methodLink own idx yX3_addCourse ∈ W0) (hR : rm_X3_addCourse.frames + 1 ≤ R.frames ∧ 8 + (4 + 11) + rm_X3_addCourse.locals ≤ R.locals) : CallW R s args own RX3 idx yX3_addCourse cX3_addCourse 4 (some .int) (Cond.code yX3_addCourse cX3_addCourse 4 (some .int) :: W0) rm_X3_addCourse 0 0 3 := cwV 3 hts (gdV hl mi_yX3_addCourse ms_yX3_addCourse mini_X3 mc_yX3_addCourse) rfl rfl rfl (by decide +kernel) hR
def rc_setCourse (ρ : Nat → Nat → Nat → Int32) (sp : Nat) (x : Int32) (y : Int32) (z : Int32) : Nat → Nat → Nat → Int32 := rcρ ρ sp (m_X2_changeCourse (ρ 0) x y z).2
abbrev rm_X3_setCourse : Room := { frames := 4, cells := 0, slots := 0, locals := 163 }
set_option maxRecDepth 100000 in
theorem c_X3_setCourse (l : Launch) (D : va_G) (cI cR : ClassId) (ad : Nat → Nat) (v : EN) (ρ : Nat → Nat → Nat → Int32) (sp kp : Nat) (τ : Nat → Nat → Int32) (x : Int32) (y : Int32) (z : Int32) (hsp : sp < 6) (hkp : kp ≤ 5) (hok : okS (ρ 0)) :
    Met l yX3_setCourse (Cond.code yX3_setCourse cX3_setCourse 4 (some .int) :: W0) rm_X3_setCourse (va_Pc [.ref (ad 300), .int x, .int y, .int z] (brX D cI cR ad v ρ sp kp τ)) (brQ D cI cR ad (m_X2_changeCourse (ρ 0) x y z).1 (rcρ ρ sp (m_X2_changeCourse (ρ 0) x y z).2) (st_sp (m_X2_changeCourse (ρ 0) x y z).1 sp) (st_kp (m_X2_changeCourse (ρ 0) x y z).1 kp) τ) 0 0 (brA ad) := by
  refine st_gen (cc := cX3_setCourse) (maxL := 4) (ret := some .int) (own := RX3) (by decide) rfl (Nat.le_of_ble_eq_true rfl) ?_
  intro p e s m below meth c ls C hPre hl
  obtain ⟨hx, hb, hr, hml, hown, hts, hlk⟩ := C
  obtain ⟨⟨hB, hK, hI⟩, hE⟩ := hPre
  have hS : va_S (brA ad) s.heap s.heap [] := va_S.rf
  have hl : lv_has ls 4 [(0, .ref (ad 300)), (1, .int x), (2, .int y), (3, .int z)] := hl
  refine lv_aload_n hx hb dX3_setCourse_0 rfl (lv_at hl 0 rfl) ?_
  refine br_g1 hx hb hts hown hK hB dX3_setCourse_1 ?_
  refine lv_aload_n hx hb dX3_setCourse_4 rfl (lv_at hl 0 rfl) ?_
  refine br_g0 hx hb hts hown hK hB dX3_setCourse_5 ?_
  refine br_callV (rest := []) hx hb hml hown hts hK hB hI hS (hi_recv hK hB) (c_X0_prepare l D cI cR ad ρ sp kp τ hsp) (kV_X0_prepare hts ml_X3_30 ⟨(Nat.le_of_ble_eq_true rfl), (Nat.le_of_ble_eq_true rfl)⟩) rfl hl.1 rfl (Nat.le_of_ble_eq_true rfl) dX3_setCourse_8 (Nat.zero_le _) (Nat.zero_le _) (fun H locs hB hS => ?_)
  refine lv_aload_n hx hb dX3_setCourse_11 rfl (lv_at hl 0 rfl) ?_
  refine br_g1 hx hb hts hown hK hB dX3_setCourse_12 ?_
  refine lv_aload_n hx hb dX3_setCourse_15 rfl (lv_at hl 0 rfl) ?_
  refine br_g0 hx hb hts hown hK hB dX3_setCourse_16 ?_
  refine lv_iload_n hx hb dX3_setCourse_19 rfl (lv_at hl 1 rfl) ?_
  refine lv_iload_n hx hb dX3_setCourse_20 rfl (lv_at hl 2 rfl) ?_
  refine lv_iload_n hx hb dX3_setCourse_21 rfl (lv_at hl 3 rfl) ?_
  refine br_callS (w := m_X2_changeCourse (ρ 0) x y z) (rest := [.ref (ad 200)]) hx hb hml hown hts hK hB hI hS 0 (by decide) (by rw [rc_0]; exact c_X2_changeCourse l D cI _ _ (ρ 0) x y z hok) (kV_X2_changeCourse hts ml_X3_52 ⟨(Nat.le_of_ble_eq_true rfl), (Nat.le_of_ble_eq_true rfl)⟩) rfl hl.1 rfl (Nat.le_of_ble_eq_true rfl) dX3_setCourse_22 (Nat.zero_le _) (Nat.zero_le _) (fun H locs hB hS => ?_)
  refine br_callQ (rest := []) hx hb hml hown hts hK hB hI hS (hi_recv hK hB) (c_X0_settle l D cI cR ad _ sp kp τ _ hsp hkp) (kV_X0_settle hts ml_X3_38 ⟨(Nat.le_of_ble_eq_true rfl), (Nat.le_of_ble_eq_true rfl)⟩) rfl hl.1 rfl (Nat.le_of_ble_eq_true rfl) dX3_setCourse_25 (Nat.zero_le _) (Nat.zero_le _) (fun H locs hB hS => ?_)
  exact br_fin hx hb hr hlk hB hS rfl rfl rfl rfl rfl dX3_setCourse_28

theorem kV_X3_setCourse {R : Room} {s : State} {args : Array Value} {own : String} {idx : Nat} {c0 : Cond} (hts : ∀ w ∈ c0 :: W0, w.before args s = true) (hl : Cond.methodLink own idx yX3_setCourse ∈ W0) (hR : rm_X3_setCourse.frames + 1 ≤ R.frames ∧ 8 + (4 + 11) + rm_X3_setCourse.locals ≤ R.locals) : CallW R s args own RX3 idx yX3_setCourse cX3_setCourse 4 (some .int) (Cond.code yX3_setCourse cX3_setCourse 4 (some .int) :: W0) rm_X3_setCourse 0 0 3 := cwV 3 hts (gdV hl mi_yX3_setCourse ms_yX3_setCourse mini_X3 mc_yX3_setCourse) rfl rfl rfl (by decide +kernel) hR
def rc_set (ρ : Nat → Nat → Nat → Int32) (sp : Nat) (x : Int32) (y : Int32) : Nat → Nat → Nat → Int32 := rcρ ρ sp (m_X2_changeSetting (ρ 0) x y).2
abbrev rm_X3_set : Room := { frames := 4, cells := 0, slots := 0, locals := 163 }
set_option maxRecDepth 100000 in
theorem c_X3_set (l : Launch) (D : va_G) (cI cR : ClassId) (ad : Nat → Nat) (v : EN) (ρ : Nat → Nat → Nat → Int32) (sp kp : Nat) (τ : Nat → Nat → Int32) (x : Int32) (y : Int32) (hsp : sp < 6) (hkp : kp ≤ 5) (hok : okS (ρ 0)) :
    Met l yX3_set (Cond.code yX3_set cX3_set 3 (some .int) :: W0) rm_X3_set (va_Pc [.ref (ad 300), .int x, .int y] (brX D cI cR ad v ρ sp kp τ)) (brQ D cI cR ad (m_X2_changeSetting (ρ 0) x y).1 (rcρ ρ sp (m_X2_changeSetting (ρ 0) x y).2) (st_sp (m_X2_changeSetting (ρ 0) x y).1 sp) (st_kp (m_X2_changeSetting (ρ 0) x y).1 kp) τ) 0 0 (brA ad) := by
  refine st_gen (cc := cX3_set) (maxL := 3) (ret := some .int) (own := RX3) (by decide) rfl (Nat.le_of_ble_eq_true rfl) ?_
  intro p e s m below meth c ls C hPre hl
  obtain ⟨hx, hb, hr, hml, hown, hts, hlk⟩ := C
  obtain ⟨⟨hB, hK, hI⟩, hE⟩ := hPre
  have hS : va_S (brA ad) s.heap s.heap [] := va_S.rf
  have hl : lv_has ls 3 [(0, .ref (ad 300)), (1, .int x), (2, .int y)] := hl
  refine lv_aload_n hx hb dX3_set_0 rfl (lv_at hl 0 rfl) ?_
  refine br_g1 hx hb hts hown hK hB dX3_set_1 ?_
  refine lv_aload_n hx hb dX3_set_4 rfl (lv_at hl 0 rfl) ?_
  refine br_g0 hx hb hts hown hK hB dX3_set_5 ?_
  refine br_callV (rest := []) hx hb hml hown hts hK hB hI hS (hi_recv hK hB) (c_X0_prepare l D cI cR ad ρ sp kp τ hsp) (kV_X0_prepare hts ml_X3_30 ⟨(Nat.le_of_ble_eq_true rfl), (Nat.le_of_ble_eq_true rfl)⟩) rfl hl.1 rfl (Nat.le_of_ble_eq_true rfl) dX3_set_8 (Nat.zero_le _) (Nat.zero_le _) (fun H locs hB hS => ?_)
  refine lv_aload_n hx hb dX3_set_11 rfl (lv_at hl 0 rfl) ?_
  refine br_g1 hx hb hts hown hK hB dX3_set_12 ?_
  refine lv_aload_n hx hb dX3_set_15 rfl (lv_at hl 0 rfl) ?_
  refine br_g0 hx hb hts hown hK hB dX3_set_16 ?_
  refine lv_iload_n hx hb dX3_set_19 rfl (lv_at hl 1 rfl) ?_
  refine lv_iload_n hx hb dX3_set_20 rfl (lv_at hl 2 rfl) ?_
  refine br_callSE (w := m_X2_changeSetting (ρ 0) x y) (rest := [.ref (ad 200)]) hx hb hml hown hts hK hB hI hS hE.2 0 (by decide) (by rw [rc_0]; exact c_X2_changeSetting l D cI _ _ (ρ 0) v.2.2.1 v.2.2.2 x y hok) (kV_X2_changeSetting hts ml_X3_55 ⟨(Nat.le_of_ble_eq_true rfl), (Nat.le_of_ble_eq_true rfl)⟩) rfl hl.1 rfl (Nat.le_of_ble_eq_true rfl) dX3_set_21 (Nat.zero_le _) (Nat.zero_le _) (fun H locs hB hS => ?_)
  refine br_callQ (rest := []) hx hb hml hown hts hK hB hI hS (hi_recv hK hB) (c_X0_settle l D cI cR ad _ sp kp τ _ hsp hkp) (kV_X0_settle hts ml_X3_38 ⟨(Nat.le_of_ble_eq_true rfl), (Nat.le_of_ble_eq_true rfl)⟩) rfl hl.1 rfl (Nat.le_of_ble_eq_true rfl) dX3_set_24 (Nat.zero_le _) (Nat.zero_le _) (fun H locs hB hS => ?_)
  exact br_fin hx hb hr hlk hB hS rfl rfl rfl rfl rfl dX3_set_27

theorem kV_X3_set {R : Room} {s : State} {args : Array Value} {own : String} {idx : Nat} {c0 : Cond} (hts : ∀ w ∈ c0 :: W0, w.before args s = true) (hl : Cond.methodLink own idx yX3_set ∈ W0) (hR : rm_X3_set.frames + 1 ≤ R.frames ∧ 8 + (3 + 11) + rm_X3_set.locals ≤ R.locals) : CallW R s args own RX3 idx yX3_set cX3_set 3 (some .int) (Cond.code yX3_set cX3_set 3 (some .int) :: W0) rm_X3_set 0 0 2 := cwV 2 hts (gdV hl mi_yX3_set ms_yX3_set mini_X3 mc_yX3_set) rfl rfl rfl (by decide +kernel) hR
def rc_buy (ρ : Nat → Nat → Nat → Int32) (sp : Nat) (x : Int32) (y : Int32) : Nat → Nat → Nat → Int32 := rcρ ρ sp (m_X2_buyNew (ρ 0) x y).2
abbrev rm_X3_buy : Room := { frames := 4, cells := 0, slots := 0, locals := 163 }
set_option maxRecDepth 100000 in
theorem c_X3_buy (l : Launch) (D : va_G) (cI cR : ClassId) (ad : Nat → Nat) (v : EN) (ρ : Nat → Nat → Nat → Int32) (sp kp : Nat) (τ : Nat → Nat → Int32) (x : Int32) (y : Int32) (hsp : sp < 6) (hkp : kp ≤ 5) (hok : okS (ρ 0)) :
    Met l yX3_buy (Cond.code yX3_buy cX3_buy 3 (some .int) :: W0) rm_X3_buy (va_Pc [.ref (ad 300), .int x, .int y] (brX D cI cR ad v ρ sp kp τ)) (brQ D cI cR ad (m_X2_buyNew (ρ 0) x y).1 (rcρ ρ sp (m_X2_buyNew (ρ 0) x y).2) (st_sp (m_X2_buyNew (ρ 0) x y).1 sp) (st_kp (m_X2_buyNew (ρ 0) x y).1 kp) τ) 0 0 (brA ad) := by
  refine st_gen (cc := cX3_buy) (maxL := 3) (ret := some .int) (own := RX3) (by decide) rfl (Nat.le_of_ble_eq_true rfl) ?_
  intro p e s m below meth c ls C hPre hl
  obtain ⟨hx, hb, hr, hml, hown, hts, hlk⟩ := C
  obtain ⟨⟨hB, hK, hI⟩, hE⟩ := hPre
  have hS : va_S (brA ad) s.heap s.heap [] := va_S.rf
  have hl : lv_has ls 3 [(0, .ref (ad 300)), (1, .int x), (2, .int y)] := hl
  refine lv_aload_n hx hb dX3_buy_0 rfl (lv_at hl 0 rfl) ?_
  refine br_g1 hx hb hts hown hK hB dX3_buy_1 ?_
  refine lv_aload_n hx hb dX3_buy_4 rfl (lv_at hl 0 rfl) ?_
  refine br_g0 hx hb hts hown hK hB dX3_buy_5 ?_
  refine br_callV (rest := []) hx hb hml hown hts hK hB hI hS (hi_recv hK hB) (c_X0_prepare l D cI cR ad ρ sp kp τ hsp) (kV_X0_prepare hts ml_X3_30 ⟨(Nat.le_of_ble_eq_true rfl), (Nat.le_of_ble_eq_true rfl)⟩) rfl hl.1 rfl (Nat.le_of_ble_eq_true rfl) dX3_buy_8 (Nat.zero_le _) (Nat.zero_le _) (fun H locs hB hS => ?_)
  refine lv_aload_n hx hb dX3_buy_11 rfl (lv_at hl 0 rfl) ?_
  refine br_g1 hx hb hts hown hK hB dX3_buy_12 ?_
  refine lv_aload_n hx hb dX3_buy_15 rfl (lv_at hl 0 rfl) ?_
  refine br_g0 hx hb hts hown hK hB dX3_buy_16 ?_
  refine lv_iload_n hx hb dX3_buy_19 rfl (lv_at hl 1 rfl) ?_
  refine lv_iload_n hx hb dX3_buy_20 rfl (lv_at hl 2 rfl) ?_
  refine br_callS (w := m_X2_buyNew (ρ 0) x y) (rest := [.ref (ad 200)]) hx hb hml hown hts hK hB hI hS 0 (by decide) (by rw [rc_0]; exact c_X2_buyNew l D cI _ _ (ρ 0) x y hok) (kV_X2_buyNew hts ml_X3_73 ⟨(Nat.le_of_ble_eq_true rfl), (Nat.le_of_ble_eq_true rfl)⟩) rfl hl.1 rfl (Nat.le_of_ble_eq_true rfl) dX3_buy_21 (Nat.zero_le _) (Nat.zero_le _) (fun H locs hB hS => ?_)
  refine br_callQ (rest := []) hx hb hml hown hts hK hB hI hS (hi_recv hK hB) (c_X0_settle l D cI cR ad _ sp kp τ _ hsp hkp) (kV_X0_settle hts ml_X3_38 ⟨(Nat.le_of_ble_eq_true rfl), (Nat.le_of_ble_eq_true rfl)⟩) rfl hl.1 rfl (Nat.le_of_ble_eq_true rfl) dX3_buy_24 (Nat.zero_le _) (Nat.zero_le _) (fun H locs hB hS => ?_)
  exact br_fin hx hb hr hlk hB hS rfl rfl rfl rfl rfl dX3_buy_27

theorem kV_X3_buy {R : Room} {s : State} {args : Array Value} {own : String} {idx : Nat} {c0 : Cond} (hts : ∀ w ∈ c0 :: W0, w.before args s = true) (hl : Cond.methodLink own idx yX3_buy ∈ W0) (hR : rm_X3_buy.frames + 1 ≤ R.frames ∧ 8 + (3 + 11) + rm_X3_buy.locals ≤ R.locals) : CallW R s args own RX3 idx yX3_buy cX3_buy 3 (some .int) (Cond.code yX3_buy cX3_buy 3 (some .int) :: W0) rm_X3_buy 0 0 2 := cwV 2 hts (gdV hl mi_yX3_buy ms_yX3_buy mini_X3 mc_yX3_buy) rfl rfl rfl (by decide +kernel) hR
def rc_buyBack (ρ : Nat → Nat → Nat → Int32) (sp : Nat) (x : Int32) (y : Int32) (z : Int32) : Nat → Nat → Nat → Int32 := rcρ ρ sp (m_X2_buyUsed (ρ 0) x y z).2
abbrev rm_X3_buyBack : Room := { frames := 5, cells := 0, slots := 0, locals := 163 }
set_option maxRecDepth 100000 in
theorem c_X3_buyBack (l : Launch) (D : va_G) (cI cR : ClassId) (ad : Nat → Nat) (v : EN) (ρ : Nat → Nat → Nat → Int32) (sp kp : Nat) (τ : Nat → Nat → Int32) (x : Int32) (y : Int32) (z : Int32) (hsp : sp < 6) (hkp : kp ≤ 5) (hok : okS (ρ 0)) :
    Met l yX3_buyBack (Cond.code yX3_buyBack cX3_buyBack 4 (some .int) :: W0) rm_X3_buyBack (va_Pc [.ref (ad 300), .int x, .int y, .int z] (brX D cI cR ad v ρ sp kp τ)) (brQ D cI cR ad (m_X2_buyUsed (ρ 0) x y z).1 (rcρ ρ sp (m_X2_buyUsed (ρ 0) x y z).2) (st_sp (m_X2_buyUsed (ρ 0) x y z).1 sp) (st_kp (m_X2_buyUsed (ρ 0) x y z).1 kp) τ) 0 0 (brA ad) := by
  refine st_gen (cc := cX3_buyBack) (maxL := 4) (ret := some .int) (own := RX3) (by decide) rfl (Nat.le_of_ble_eq_true rfl) ?_
  intro p e s m below meth c ls C hPre hl
  obtain ⟨hx, hb, hr, hml, hown, hts, hlk⟩ := C
  obtain ⟨⟨hB, hK, hI⟩, hE⟩ := hPre
  have hS : va_S (brA ad) s.heap s.heap [] := va_S.rf
  have hl : lv_has ls 4 [(0, .ref (ad 300)), (1, .int x), (2, .int y), (3, .int z)] := hl
  refine lv_aload_n hx hb dX3_buyBack_0 rfl (lv_at hl 0 rfl) ?_
  refine br_g1 hx hb hts hown hK hB dX3_buyBack_1 ?_
  refine lv_aload_n hx hb dX3_buyBack_4 rfl (lv_at hl 0 rfl) ?_
  refine br_g0 hx hb hts hown hK hB dX3_buyBack_5 ?_
  refine br_callV (rest := []) hx hb hml hown hts hK hB hI hS (hi_recv hK hB) (c_X0_prepare l D cI cR ad ρ sp kp τ hsp) (kV_X0_prepare hts ml_X3_30 ⟨(Nat.le_of_ble_eq_true rfl), (Nat.le_of_ble_eq_true rfl)⟩) rfl hl.1 rfl (Nat.le_of_ble_eq_true rfl) dX3_buyBack_8 (Nat.zero_le _) (Nat.zero_le _) (fun H locs hB hS => ?_)
  refine lv_aload_n hx hb dX3_buyBack_11 rfl (lv_at hl 0 rfl) ?_
  refine br_g1 hx hb hts hown hK hB dX3_buyBack_12 ?_
  refine lv_aload_n hx hb dX3_buyBack_15 rfl (lv_at hl 0 rfl) ?_
  refine br_g0 hx hb hts hown hK hB dX3_buyBack_16 ?_
  refine lv_iload_n hx hb dX3_buyBack_19 rfl (lv_at hl 1 rfl) ?_
  refine lv_iload_n hx hb dX3_buyBack_20 rfl (lv_at hl 2 rfl) ?_
  refine lv_iload_n hx hb dX3_buyBack_21 rfl (lv_at hl 3 rfl) ?_
  refine br_callS (w := m_X2_buyUsed (ρ 0) x y z) (rest := [.ref (ad 200)]) hx hb hml hown hts hK hB hI hS 0 (by decide) (by rw [rc_0]; exact c_X2_buyUsed l D cI _ _ (ρ 0) x y z hok) (kV_X2_buyUsed hts ml_X3_79 ⟨(Nat.le_of_ble_eq_true rfl), (Nat.le_of_ble_eq_true rfl)⟩) rfl hl.1 rfl (Nat.le_of_ble_eq_true rfl) dX3_buyBack_22 (Nat.zero_le _) (Nat.zero_le _) (fun H locs hB hS => ?_)
  refine br_callQ (rest := []) hx hb hml hown hts hK hB hI hS (hi_recv hK hB) (c_X0_settle l D cI cR ad _ sp kp τ _ hsp hkp) (kV_X0_settle hts ml_X3_38 ⟨(Nat.le_of_ble_eq_true rfl), (Nat.le_of_ble_eq_true rfl)⟩) rfl hl.1 rfl (Nat.le_of_ble_eq_true rfl) dX3_buyBack_25 (Nat.zero_le _) (Nat.zero_le _) (fun H locs hB hS => ?_)
  exact br_fin hx hb hr hlk hB hS rfl rfl rfl rfl rfl dX3_buyBack_28

theorem kV_X3_buyBack {R : Room} {s : State} {args : Array Value} {own : String} {idx : Nat} {c0 : Cond} (hts : ∀ w ∈ c0 :: W0, w.before args s = true) (hl : Cond.methodLink own idx yX3_buyBack ∈ W0) (hR : rm_X3_buyBack.frames + 1 ≤ R.frames ∧ 8 + (4 + 11) + rm_X3_buyBack.locals ≤ R.locals) : CallW R s args own RX3 idx yX3_buyBack cX3_buyBack 4 (some .int) (Cond.code yX3_buyBack cX3_buyBack 4 (some .int) :: W0) rm_X3_buyBack 0 0 3 := cwV 3 hts (gdV hl mi_yX3_buyBack ms_yX3_buyBack mini_X3 mc_yX3_buyBack) rfl rfl rfl (by decide +kernel) hR
def rc_sell (ρ : Nat → Nat → Nat → Int32) (sp : Nat) (x : Int32) : Nat → Nat → Nat → Int32 := rcρ ρ sp (m_X2_sellCopy (ρ 0) x).2
abbrev rm_X3_sell : Room := { frames := 5, cells := 0, slots := 0, locals := 163 }
set_option maxRecDepth 100000 in
theorem c_X3_sell (l : Launch) (D : va_G) (cI cR : ClassId) (ad : Nat → Nat) (v : EN) (ρ : Nat → Nat → Nat → Int32) (sp kp : Nat) (τ : Nat → Nat → Int32) (x : Int32) (hsp : sp < 6) (hkp : kp ≤ 5) (hok : okS (ρ 0)) :
    Met l yX3_sell (Cond.code yX3_sell cX3_sell 2 (some .int) :: W0) rm_X3_sell (va_Pc [.ref (ad 300), .int x] (brX D cI cR ad v ρ sp kp τ)) (brQ D cI cR ad (m_X2_sellCopy (ρ 0) x).1 (rcρ ρ sp (m_X2_sellCopy (ρ 0) x).2) (st_sp (m_X2_sellCopy (ρ 0) x).1 sp) (st_kp (m_X2_sellCopy (ρ 0) x).1 kp) τ) 0 0 (brA ad) := by
  refine st_gen (cc := cX3_sell) (maxL := 2) (ret := some .int) (own := RX3) (by decide) rfl (Nat.le_of_ble_eq_true rfl) ?_
  intro p e s m below meth c ls C hPre hl
  obtain ⟨hx, hb, hr, hml, hown, hts, hlk⟩ := C
  obtain ⟨⟨hB, hK, hI⟩, hE⟩ := hPre
  have hS : va_S (brA ad) s.heap s.heap [] := va_S.rf
  have hl : lv_has ls 2 [(0, .ref (ad 300)), (1, .int x)] := hl
  refine lv_aload_n hx hb dX3_sell_0 rfl (lv_at hl 0 rfl) ?_
  refine br_g1 hx hb hts hown hK hB dX3_sell_1 ?_
  refine lv_aload_n hx hb dX3_sell_4 rfl (lv_at hl 0 rfl) ?_
  refine br_g0 hx hb hts hown hK hB dX3_sell_5 ?_
  refine br_callV (rest := []) hx hb hml hown hts hK hB hI hS (hi_recv hK hB) (c_X0_prepare l D cI cR ad ρ sp kp τ hsp) (kV_X0_prepare hts ml_X3_30 ⟨(Nat.le_of_ble_eq_true rfl), (Nat.le_of_ble_eq_true rfl)⟩) rfl hl.1 rfl (Nat.le_of_ble_eq_true rfl) dX3_sell_8 (Nat.zero_le _) (Nat.zero_le _) (fun H locs hB hS => ?_)
  refine lv_aload_n hx hb dX3_sell_11 rfl (lv_at hl 0 rfl) ?_
  refine br_g1 hx hb hts hown hK hB dX3_sell_12 ?_
  refine lv_aload_n hx hb dX3_sell_15 rfl (lv_at hl 0 rfl) ?_
  refine br_g0 hx hb hts hown hK hB dX3_sell_16 ?_
  refine lv_iload_n hx hb dX3_sell_19 rfl (lv_at hl 1 rfl) ?_
  refine br_callS (w := m_X2_sellCopy (ρ 0) x) (rest := [.ref (ad 200)]) hx hb hml hown hts hK hB hI hS 0 (by decide) (by rw [rc_0]; exact c_X2_sellCopy l D cI _ _ (ρ 0) x hok) (kV_X2_sellCopy hts ml_X3_82 ⟨(Nat.le_of_ble_eq_true rfl), (Nat.le_of_ble_eq_true rfl)⟩) rfl hl.1 rfl (Nat.le_of_ble_eq_true rfl) dX3_sell_20 (Nat.zero_le _) (Nat.zero_le _) (fun H locs hB hS => ?_)
  refine br_callQ (rest := []) hx hb hml hown hts hK hB hI hS (hi_recv hK hB) (c_X0_settle l D cI cR ad _ sp kp τ _ hsp hkp) (kV_X0_settle hts ml_X3_38 ⟨(Nat.le_of_ble_eq_true rfl), (Nat.le_of_ble_eq_true rfl)⟩) rfl hl.1 rfl (Nat.le_of_ble_eq_true rfl) dX3_sell_23 (Nat.zero_le _) (Nat.zero_le _) (fun H locs hB hS => ?_)
  exact br_fin hx hb hr hlk hB hS rfl rfl rfl rfl rfl dX3_sell_26

theorem kV_X3_sell {R : Room} {s : State} {args : Array Value} {own : String} {idx : Nat} {c0 : Cond} (hts : ∀ w ∈ c0 :: W0, w.before args s = true) (hl : Cond.methodLink own idx yX3_sell ∈ W0) (hR : rm_X3_sell.frames + 1 ≤ R.frames ∧ 8 + (2 + 11) + rm_X3_sell.locals ≤ R.locals) : CallW R s args own RX3 idx yX3_sell cX3_sell 2 (some .int) (Cond.code yX3_sell cX3_sell 2 (some .int) :: W0) rm_X3_sell 0 0 1 := cwV 1 hts (gdV hl mi_yX3_sell ms_yX3_sell mini_X3 mc_yX3_sell) rfl rfl rfl (by decide +kernel) hR
def rc_rent (ρ : Nat → Nat → Nat → Int32) (sp : Nat) (x : Int32) (y : Int32) : Nat → Nat → Nat → Int32 := rcρ ρ sp (m_X2_rentCopy (ρ 0) x y).2
abbrev rm_X3_rent : Room := { frames := 5, cells := 0, slots := 0, locals := 163 }
set_option maxRecDepth 100000 in
theorem c_X3_rent (l : Launch) (D : va_G) (cI cR : ClassId) (ad : Nat → Nat) (v : EN) (ρ : Nat → Nat → Nat → Int32) (sp kp : Nat) (τ : Nat → Nat → Int32) (x : Int32) (y : Int32) (hsp : sp < 6) (hkp : kp ≤ 5) (hok : okS (ρ 0)) :
    Met l yX3_rent (Cond.code yX3_rent cX3_rent 3 (some .int) :: W0) rm_X3_rent (va_Pc [.ref (ad 300), .int x, .int y] (brX D cI cR ad v ρ sp kp τ)) (brQ D cI cR ad (m_X2_rentCopy (ρ 0) x y).1 (rcρ ρ sp (m_X2_rentCopy (ρ 0) x y).2) (st_sp (m_X2_rentCopy (ρ 0) x y).1 sp) (st_kp (m_X2_rentCopy (ρ 0) x y).1 kp) τ) 0 0 (brA ad) := by
  refine st_gen (cc := cX3_rent) (maxL := 3) (ret := some .int) (own := RX3) (by decide) rfl (Nat.le_of_ble_eq_true rfl) ?_
  intro p e s m below meth c ls C hPre hl
  obtain ⟨hx, hb, hr, hml, hown, hts, hlk⟩ := C
  obtain ⟨⟨hB, hK, hI⟩, hE⟩ := hPre
  have hS : va_S (brA ad) s.heap s.heap [] := va_S.rf
  have hl : lv_has ls 3 [(0, .ref (ad 300)), (1, .int x), (2, .int y)] := hl
  refine lv_aload_n hx hb dX3_rent_0 rfl (lv_at hl 0 rfl) ?_
  refine br_g1 hx hb hts hown hK hB dX3_rent_1 ?_
  refine lv_aload_n hx hb dX3_rent_4 rfl (lv_at hl 0 rfl) ?_
  refine br_g0 hx hb hts hown hK hB dX3_rent_5 ?_
  refine br_callV (rest := []) hx hb hml hown hts hK hB hI hS (hi_recv hK hB) (c_X0_prepare l D cI cR ad ρ sp kp τ hsp) (kV_X0_prepare hts ml_X3_30 ⟨(Nat.le_of_ble_eq_true rfl), (Nat.le_of_ble_eq_true rfl)⟩) rfl hl.1 rfl (Nat.le_of_ble_eq_true rfl) dX3_rent_8 (Nat.zero_le _) (Nat.zero_le _) (fun H locs hB hS => ?_)
  refine lv_aload_n hx hb dX3_rent_11 rfl (lv_at hl 0 rfl) ?_
  refine br_g1 hx hb hts hown hK hB dX3_rent_12 ?_
  refine lv_aload_n hx hb dX3_rent_15 rfl (lv_at hl 0 rfl) ?_
  refine br_g0 hx hb hts hown hK hB dX3_rent_16 ?_
  refine lv_iload_n hx hb dX3_rent_19 rfl (lv_at hl 1 rfl) ?_
  refine lv_iload_n hx hb dX3_rent_20 rfl (lv_at hl 2 rfl) ?_
  refine br_callS (w := m_X2_rentCopy (ρ 0) x y) (rest := [.ref (ad 200)]) hx hb hml hown hts hK hB hI hS 0 (by decide) (by rw [rc_0]; exact c_X2_rentCopy l D cI _ _ (ρ 0) x y hok) (kV_X2_rentCopy hts ml_X3_85 ⟨(Nat.le_of_ble_eq_true rfl), (Nat.le_of_ble_eq_true rfl)⟩) rfl hl.1 rfl (Nat.le_of_ble_eq_true rfl) dX3_rent_21 (Nat.zero_le _) (Nat.zero_le _) (fun H locs hB hS => ?_)
  refine br_callQ (rest := []) hx hb hml hown hts hK hB hI hS (hi_recv hK hB) (c_X0_settle l D cI cR ad _ sp kp τ _ hsp hkp) (kV_X0_settle hts ml_X3_38 ⟨(Nat.le_of_ble_eq_true rfl), (Nat.le_of_ble_eq_true rfl)⟩) rfl hl.1 rfl (Nat.le_of_ble_eq_true rfl) dX3_rent_24 (Nat.zero_le _) (Nat.zero_le _) (fun H locs hB hS => ?_)
  exact br_fin hx hb hr hlk hB hS rfl rfl rfl rfl rfl dX3_rent_27

theorem kV_X3_rent {R : Room} {s : State} {args : Array Value} {own : String} {idx : Nat} {c0 : Cond} (hts : ∀ w ∈ c0 :: W0, w.before args s = true) (hl : Cond.methodLink own idx yX3_rent ∈ W0) (hR : rm_X3_rent.frames + 1 ≤ R.frames ∧ 8 + (3 + 11) + rm_X3_rent.locals ≤ R.locals) : CallW R s args own RX3 idx yX3_rent cX3_rent 3 (some .int) (Cond.code yX3_rent cX3_rent 3 (some .int) :: W0) rm_X3_rent 0 0 2 := cwV 2 hts (gdV hl mi_yX3_rent ms_yX3_rent mini_X3 mc_yX3_rent) rfl rfl rfl (by decide +kernel) hR
def rc_giveBack (ρ : Nat → Nat → Nat → Int32) (sp : Nat) (x : Int32) (y : Int32) : Nat → Nat → Nat → Int32 := rcρ ρ sp (m_X2_takeBack (ρ 0) x y).2
abbrev rm_X3_giveBack : Room := { frames := 5, cells := 0, slots := 0, locals := 163 }
set_option maxRecDepth 100000 in
theorem c_X3_giveBack (l : Launch) (D : va_G) (cI cR : ClassId) (ad : Nat → Nat) (v : EN) (ρ : Nat → Nat → Nat → Int32) (sp kp : Nat) (τ : Nat → Nat → Int32) (x : Int32) (y : Int32) (hsp : sp < 6) (hkp : kp ≤ 5) (hok : okS (ρ 0)) :
    Met l yX3_giveBack (Cond.code yX3_giveBack cX3_giveBack 3 (some .int) :: W0) rm_X3_giveBack (va_Pc [.ref (ad 300), .int x, .int y] (brX D cI cR ad v ρ sp kp τ)) (brQ D cI cR ad (m_X2_takeBack (ρ 0) x y).1 (rcρ ρ sp (m_X2_takeBack (ρ 0) x y).2) (st_sp (m_X2_takeBack (ρ 0) x y).1 sp) (st_kp (m_X2_takeBack (ρ 0) x y).1 kp) τ) 0 0 (brA ad) := by
  refine st_gen (cc := cX3_giveBack) (maxL := 3) (ret := some .int) (own := RX3) (by decide) rfl (Nat.le_of_ble_eq_true rfl) ?_
  intro p e s m below meth c ls C hPre hl
  obtain ⟨hx, hb, hr, hml, hown, hts, hlk⟩ := C
  obtain ⟨⟨hB, hK, hI⟩, hE⟩ := hPre
  have hS : va_S (brA ad) s.heap s.heap [] := va_S.rf
  have hl : lv_has ls 3 [(0, .ref (ad 300)), (1, .int x), (2, .int y)] := hl
  refine lv_aload_n hx hb dX3_giveBack_0 rfl (lv_at hl 0 rfl) ?_
  refine br_g1 hx hb hts hown hK hB dX3_giveBack_1 ?_
  refine lv_aload_n hx hb dX3_giveBack_4 rfl (lv_at hl 0 rfl) ?_
  refine br_g0 hx hb hts hown hK hB dX3_giveBack_5 ?_
  refine br_callV (rest := []) hx hb hml hown hts hK hB hI hS (hi_recv hK hB) (c_X0_prepare l D cI cR ad ρ sp kp τ hsp) (kV_X0_prepare hts ml_X3_30 ⟨(Nat.le_of_ble_eq_true rfl), (Nat.le_of_ble_eq_true rfl)⟩) rfl hl.1 rfl (Nat.le_of_ble_eq_true rfl) dX3_giveBack_8 (Nat.zero_le _) (Nat.zero_le _) (fun H locs hB hS => ?_)
  refine lv_aload_n hx hb dX3_giveBack_11 rfl (lv_at hl 0 rfl) ?_
  refine br_g1 hx hb hts hown hK hB dX3_giveBack_12 ?_
  refine lv_aload_n hx hb dX3_giveBack_15 rfl (lv_at hl 0 rfl) ?_
  refine br_g0 hx hb hts hown hK hB dX3_giveBack_16 ?_
  refine lv_iload_n hx hb dX3_giveBack_19 rfl (lv_at hl 1 rfl) ?_
  refine lv_iload_n hx hb dX3_giveBack_20 rfl (lv_at hl 2 rfl) ?_
  refine br_callS (w := m_X2_takeBack (ρ 0) x y) (rest := [.ref (ad 200)]) hx hb hml hown hts hK hB hI hS 0 (by decide) (by rw [rc_0]; exact c_X2_takeBack l D cI _ _ (ρ 0) x y hok) (kV_X2_takeBack hts ml_X3_91 ⟨(Nat.le_of_ble_eq_true rfl), (Nat.le_of_ble_eq_true rfl)⟩) rfl hl.1 rfl (Nat.le_of_ble_eq_true rfl) dX3_giveBack_21 (Nat.zero_le _) (Nat.zero_le _) (fun H locs hB hS => ?_)
  refine br_callQ (rest := []) hx hb hml hown hts hK hB hI hS (hi_recv hK hB) (c_X0_settle l D cI cR ad _ sp kp τ _ hsp hkp) (kV_X0_settle hts ml_X3_38 ⟨(Nat.le_of_ble_eq_true rfl), (Nat.le_of_ble_eq_true rfl)⟩) rfl hl.1 rfl (Nat.le_of_ble_eq_true rfl) dX3_giveBack_24 (Nat.zero_le _) (Nat.zero_le _) (fun H locs hB hS => ?_)
  exact br_fin hx hb hr hlk hB hS rfl rfl rfl rfl rfl dX3_giveBack_27

theorem kV_X3_giveBack {R : Room} {s : State} {args : Array Value} {own : String} {idx : Nat} {c0 : Cond} (hts : ∀ w ∈ c0 :: W0, w.before args s = true) (hl : Cond.methodLink own idx yX3_giveBack ∈ W0) (hR : rm_X3_giveBack.frames + 1 ≤ R.frames ∧ 8 + (3 + 11) + rm_X3_giveBack.locals ≤ R.locals) : CallW R s args own RX3 idx yX3_giveBack cX3_giveBack 3 (some .int) (Cond.code yX3_giveBack cX3_giveBack 3 (some .int) :: W0) rm_X3_giveBack 0 0 2 := cwV 2 hts (gdV hl mi_yX3_giveBack ms_yX3_giveBack mini_X3 mc_yX3_giveBack) rfl rfl rfl (by decide +kernel) hR
def rc_pass (ρ : Nat → Nat → Nat → Int32) (sp : Nat) (x : Int32) : Nat → Nat → Nat → Int32 := rcρ ρ sp (m_X2_passDays (ρ 0) x).2
abbrev rm_X3_pass : Room := { frames := 4, cells := 0, slots := 0, locals := 163 }
set_option maxRecDepth 100000 in
theorem c_X3_pass (l : Launch) (D : va_G) (cI cR : ClassId) (ad : Nat → Nat) (v : EN) (ρ : Nat → Nat → Nat → Int32) (sp kp : Nat) (τ : Nat → Nat → Int32) (x : Int32) (hsp : sp < 6) (hkp : kp ≤ 5) (hok : okS (ρ 0)) :
    Met l yX3_pass (Cond.code yX3_pass cX3_pass 2 (some .int) :: W0) rm_X3_pass (va_Pc [.ref (ad 300), .int x] (brX D cI cR ad v ρ sp kp τ)) (brQ D cI cR ad (m_X2_passDays (ρ 0) x).1 (rcρ ρ sp (m_X2_passDays (ρ 0) x).2) (st_sp (m_X2_passDays (ρ 0) x).1 sp) (st_kp (m_X2_passDays (ρ 0) x).1 kp) τ) 0 0 (brA ad) := by
  refine st_gen (cc := cX3_pass) (maxL := 2) (ret := some .int) (own := RX3) (by decide) rfl (Nat.le_of_ble_eq_true rfl) ?_
  intro p e s m below meth c ls C hPre hl
  obtain ⟨hx, hb, hr, hml, hown, hts, hlk⟩ := C
  obtain ⟨⟨hB, hK, hI⟩, hE⟩ := hPre
  have hS : va_S (brA ad) s.heap s.heap [] := va_S.rf
  have hl : lv_has ls 2 [(0, .ref (ad 300)), (1, .int x)] := hl
  refine lv_aload_n hx hb dX3_pass_0 rfl (lv_at hl 0 rfl) ?_
  refine br_g1 hx hb hts hown hK hB dX3_pass_1 ?_
  refine lv_aload_n hx hb dX3_pass_4 rfl (lv_at hl 0 rfl) ?_
  refine br_g0 hx hb hts hown hK hB dX3_pass_5 ?_
  refine br_callV (rest := []) hx hb hml hown hts hK hB hI hS (hi_recv hK hB) (c_X0_prepare l D cI cR ad ρ sp kp τ hsp) (kV_X0_prepare hts ml_X3_30 ⟨(Nat.le_of_ble_eq_true rfl), (Nat.le_of_ble_eq_true rfl)⟩) rfl hl.1 rfl (Nat.le_of_ble_eq_true rfl) dX3_pass_8 (Nat.zero_le _) (Nat.zero_le _) (fun H locs hB hS => ?_)
  refine lv_aload_n hx hb dX3_pass_11 rfl (lv_at hl 0 rfl) ?_
  refine br_g1 hx hb hts hown hK hB dX3_pass_12 ?_
  refine lv_aload_n hx hb dX3_pass_15 rfl (lv_at hl 0 rfl) ?_
  refine br_g0 hx hb hts hown hK hB dX3_pass_16 ?_
  refine lv_iload_n hx hb dX3_pass_19 rfl (lv_at hl 1 rfl) ?_
  refine br_callS (w := m_X2_passDays (ρ 0) x) (rest := [.ref (ad 200)]) hx hb hml hown hts hK hB hI hS 0 (by decide) (by rw [rc_0]; exact c_X2_passDays l D cI _ _ (ρ 0) x hok) (kV_X2_passDays hts ml_X3_97 ⟨(Nat.le_of_ble_eq_true rfl), (Nat.le_of_ble_eq_true rfl)⟩) rfl hl.1 rfl (Nat.le_of_ble_eq_true rfl) dX3_pass_20 (Nat.zero_le _) (Nat.zero_le _) (fun H locs hB hS => ?_)
  refine br_callQ (rest := []) hx hb hml hown hts hK hB hI hS (hi_recv hK hB) (c_X0_settle l D cI cR ad _ sp kp τ _ hsp hkp) (kV_X0_settle hts ml_X3_38 ⟨(Nat.le_of_ble_eq_true rfl), (Nat.le_of_ble_eq_true rfl)⟩) rfl hl.1 rfl (Nat.le_of_ble_eq_true rfl) dX3_pass_23 (Nat.zero_le _) (Nat.zero_le _) (fun H locs hB hS => ?_)
  exact br_fin hx hb hr hlk hB hS rfl rfl rfl rfl rfl dX3_pass_26

theorem kV_X3_pass {R : Room} {s : State} {args : Array Value} {own : String} {idx : Nat} {c0 : Cond} (hts : ∀ w ∈ c0 :: W0, w.before args s = true) (hl : Cond.methodLink own idx yX3_pass ∈ W0) (hR : rm_X3_pass.frames + 1 ≤ R.frames ∧ 8 + (2 + 11) + rm_X3_pass.locals ≤ R.locals) : CallW R s args own RX3 idx yX3_pass cX3_pass 2 (some .int) (Cond.code yX3_pass cX3_pass 2 (some .int) :: W0) rm_X3_pass 0 0 1 := cwV 1 hts (gdV hl mi_yX3_pass ms_yX3_pass mini_X3 mc_yX3_pass) rfl rfl rfl (by decide +kernel) hR
def rc_shelf (ρ : Nat → Nat → Nat → Int32) (sp : Nat) (x : Int32) (y : Int32) : Nat → Nat → Nat → Int32 := rcρ ρ sp (m_X2_countShelf (ρ 0) x y).2
abbrev rm_X3_shelf : Room := { frames := 4, cells := 0, slots := 0, locals := 163 }
set_option maxRecDepth 100000 in
theorem c_X3_shelf (l : Launch) (D : va_G) (cI cR : ClassId) (ad : Nat → Nat) (v : EN) (ρ : Nat → Nat → Nat → Int32) (sp kp : Nat) (τ : Nat → Nat → Int32) (x : Int32) (y : Int32) (hsp : sp < 6) (hkp : kp ≤ 5) (hok : okS (ρ 0)) :
    Met l yX3_shelf (Cond.code yX3_shelf cX3_shelf 3 (some .int) :: W0) rm_X3_shelf (va_Pc [.ref (ad 300), .int x, .int y] (brX D cI cR ad v ρ sp kp τ)) (brQ D cI cR ad (m_X2_countShelf (ρ 0) x y).1 (rcρ ρ sp (m_X2_countShelf (ρ 0) x y).2) (st_sp (m_X2_countShelf (ρ 0) x y).1 sp) (st_kp (m_X2_countShelf (ρ 0) x y).1 kp) τ) 0 0 (brA ad) := by
  refine st_gen (cc := cX3_shelf) (maxL := 3) (ret := some .int) (own := RX3) (by decide) rfl (Nat.le_of_ble_eq_true rfl) ?_
  intro p e s m below meth c ls C hPre hl
  obtain ⟨hx, hb, hr, hml, hown, hts, hlk⟩ := C
  obtain ⟨⟨hB, hK, hI⟩, hE⟩ := hPre
  have hS : va_S (brA ad) s.heap s.heap [] := va_S.rf
  have hl : lv_has ls 3 [(0, .ref (ad 300)), (1, .int x), (2, .int y)] := hl
  refine lv_aload_n hx hb dX3_shelf_0 rfl (lv_at hl 0 rfl) ?_
  refine br_g1 hx hb hts hown hK hB dX3_shelf_1 ?_
  refine lv_aload_n hx hb dX3_shelf_4 rfl (lv_at hl 0 rfl) ?_
  refine br_g0 hx hb hts hown hK hB dX3_shelf_5 ?_
  refine br_callV (rest := []) hx hb hml hown hts hK hB hI hS (hi_recv hK hB) (c_X0_prepare l D cI cR ad ρ sp kp τ hsp) (kV_X0_prepare hts ml_X3_30 ⟨(Nat.le_of_ble_eq_true rfl), (Nat.le_of_ble_eq_true rfl)⟩) rfl hl.1 rfl (Nat.le_of_ble_eq_true rfl) dX3_shelf_8 (Nat.zero_le _) (Nat.zero_le _) (fun H locs hB hS => ?_)
  refine lv_aload_n hx hb dX3_shelf_11 rfl (lv_at hl 0 rfl) ?_
  refine br_g1 hx hb hts hown hK hB dX3_shelf_12 ?_
  refine lv_aload_n hx hb dX3_shelf_15 rfl (lv_at hl 0 rfl) ?_
  refine br_g0 hx hb hts hown hK hB dX3_shelf_16 ?_
  refine lv_iload_n hx hb dX3_shelf_19 rfl (lv_at hl 1 rfl) ?_
  refine lv_iload_n hx hb dX3_shelf_20 rfl (lv_at hl 2 rfl) ?_
  refine br_callS (w := m_X2_countShelf (ρ 0) x y) (rest := [.ref (ad 200)]) hx hb hml hown hts hK hB hI hS 0 (by decide) (by rw [rc_0]; exact c_X2_countShelf l D cI _ _ (ρ 0) x y hok) (kV_X2_countShelf hts ml_X3_100 ⟨(Nat.le_of_ble_eq_true rfl), (Nat.le_of_ble_eq_true rfl)⟩) rfl hl.1 rfl (Nat.le_of_ble_eq_true rfl) dX3_shelf_21 (Nat.zero_le _) (Nat.zero_le _) (fun H locs hB hS => ?_)
  refine br_callQ (rest := []) hx hb hml hown hts hK hB hI hS (hi_recv hK hB) (c_X0_settle l D cI cR ad _ sp kp τ _ hsp hkp) (kV_X0_settle hts ml_X3_38 ⟨(Nat.le_of_ble_eq_true rfl), (Nat.le_of_ble_eq_true rfl)⟩) rfl hl.1 rfl (Nat.le_of_ble_eq_true rfl) dX3_shelf_24 (Nat.zero_le _) (Nat.zero_le _) (fun H locs hB hS => ?_)
  exact br_fin hx hb hr hlk hB hS rfl rfl rfl rfl rfl dX3_shelf_27

theorem kV_X3_shelf {R : Room} {s : State} {args : Array Value} {own : String} {idx : Nat} {c0 : Cond} (hts : ∀ w ∈ c0 :: W0, w.before args s = true) (hl : Cond.methodLink own idx yX3_shelf ∈ W0) (hR : rm_X3_shelf.frames + 1 ≤ R.frames ∧ 8 + (3 + 11) + rm_X3_shelf.locals ≤ R.locals) : CallW R s args own RX3 idx yX3_shelf cX3_shelf 3 (some .int) (Cond.code yX3_shelf cX3_shelf 3 (some .int) :: W0) rm_X3_shelf 0 0 2 := cwV 2 hts (gdV hl mi_yX3_shelf ms_yX3_shelf mini_X3 mc_yX3_shelf) rfl rfl rfl (by decide +kernel) hR
abbrev rm_X3_undo : Room := { frames := 4, cells := 0, slots := 0, locals := 163 }
set_option maxRecDepth 100000 in
theorem c_X3_undo (l : Launch) (D : va_G) (cI cR : ClassId) (ad : Nat → Nat) (v : EN) (ρ : Nat → Nat → Nat → Int32) (sp kp : Nat) (τ : Nat → Nat → Int32) (hsp : sp < 6) (hkp : kp ≤ 5) :
    Met l yX3_undo (Cond.code yX3_undo cX3_undo 1 (some .int) :: W0) rm_X3_undo (va_Pc [.ref (ad 300)] (brX D cI cR ad v ρ sp kp τ)) (brQ D cI cR ad (rs_v kp) (rs_ρ ρ sp kp) (rs_sp sp kp) (kp - 1) τ) 0 0 (brA ad) := by
  refine st_gen (cc := cX3_undo) (maxL := 1) (ret := some .int) (own := RX3) (by decide) rfl (Nat.le_of_ble_eq_true rfl) ?_
  intro p e s m below meth c ls C hPre hl
  obtain ⟨hx, hb, hr, hml, hown, hts, hlk⟩ := C
  obtain ⟨⟨hB, hK, hI⟩, hE⟩ := hPre
  have hS : va_S (brA ad) s.heap s.heap [] := va_S.rf
  have hl : lv_has ls 1 [(0, .ref (ad 300))] := hl
  refine lv_aload_n hx hb dX3_undo_0 rfl (lv_at hl 0 rfl) ?_
  refine br_g1 hx hb hts hown hK hB dX3_undo_1 ?_
  refine lv_aload_n hx hb dX3_undo_4 rfl (lv_at hl 0 rfl) ?_
  refine br_g0 hx hb hts hown hK hB dX3_undo_5 ?_
  refine br_callQ (rest := []) hx hb hml hown hts hK hB hI hS (hi_recv hK hB) (c_X0_restore l D cI cR ad ρ sp kp τ hsp hkp) (kV_X0_restore hts ml_X3_116 ⟨(Nat.le_of_ble_eq_true rfl), (Nat.le_of_ble_eq_true rfl)⟩) rfl hl.1 rfl (Nat.le_of_ble_eq_true rfl) dX3_undo_8 (Nat.zero_le _) (Nat.zero_le _) (fun H locs hB hS => ?_)
  exact br_fin hx hb hr hlk hB hS rfl rfl rfl rfl rfl dX3_undo_11

theorem kV_X3_undo {R : Room} {s : State} {args : Array Value} {own : String} {idx : Nat} {c0 : Cond} (hts : ∀ w ∈ c0 :: W0, w.before args s = true) (hl : Cond.methodLink own idx yX3_undo ∈ W0) (hR : rm_X3_undo.frames + 1 ≤ R.frames ∧ 8 + (1 + 11) + rm_X3_undo.locals ≤ R.locals) : CallW R s args own RX3 idx yX3_undo cX3_undo 1 (some .int) (Cond.code yX3_undo cX3_undo 1 (some .int) :: W0) rm_X3_undo 0 0 0 := cwV 0 hts (gdV hl mi_yX3_undo ms_yX3_undo mini_X3 mc_yX3_undo) rfl rfl rfl (by decide +kernel) hR
def m_X3_carryOut (σ τ : Nat → Nat → Int32) : Int32 × (Nat → Nat → Int32) := (if τ 4 0 = 0 then m_X2_rentCopy σ (τ 5 0) (τ 6 0) else (if τ 4 0 = 1 then m_X2_takeBack σ (τ 5 0) (τ 6 0) else (if τ 4 0 = 2 then m_X2_buyNew σ (τ 5 0) (τ 6 0) else (if τ 4 0 = 3 then m_X2_sellCopy σ (τ 5 0) else m_X2_passDays σ (τ 5 0)))))
abbrev rm_X3_carryOut : Room := { frames := 5, cells := 0, slots := 0, locals := 117 }
set_option maxRecDepth 100000 in
theorem c_X3_carryOut (l : Launch) (D : va_G) (cI cR : ClassId) (ad : Nat → Nat) (v : EN) (ρ : Nat → Nat → Nat → Int32) (sp kp : Nat) (τ : Nat → Nat → Int32) (hok : okS (ρ 0)) :
    Met l yX3_carryOut (Cond.code yX3_carryOut cX3_carryOut 1 (some .int) :: W0) rm_X3_carryOut (va_Pc [.ref (ad 300)] (brX D cI cR ad v ρ sp kp τ)) (brQ D cI cR ad (m_X3_carryOut (ρ 0) τ).1 (va_up ρ 0 (m_X3_carryOut (ρ 0) τ).2) sp kp τ) 0 0 (brA ad) := by
  refine st_gen (cc := cX3_carryOut) (maxL := 1) (ret := some .int) (own := RX3) (by decide) rfl (Nat.le_of_ble_eq_true rfl) ?_
  intro p e s m below meth c ls C hPre hl
  obtain ⟨hx, hb, hr, hml, hown, hts, hlk⟩ := C
  obtain ⟨⟨hB, hK, hI⟩, hE⟩ := hPre
  have hS : va_S (brA ad) s.heap s.heap [] := va_S.rf
  have hl : lv_has ls 1 [(0, .ref (ad 300))] := hl
  refine lv_aload_n hx hb dX3_carryOut_0 rfl (lv_at hl 0 rfl) ?_
  refine br_g2 hx hb hts hown hK hB dX3_carryOut_1 ?_
  refine tx_call (rest := []) hx hb hml hown hts (brK_1 hK) hB.2.2.1 (c_X1_word l D cI _ _ τ) (kV_X1_word hts ml_X3_156 ⟨(Nat.le_of_ble_eq_true rfl), (Nat.le_of_ble_eq_true rfl)⟩) rfl hl.1 rfl (Nat.le_of_ble_eq_true rfl) dX3_carryOut_4 (Nat.zero_le _) (Nat.zero_le _) ?_
  by_cases t0 : τ 4 0 = 0
  · refine lv_sw_in (k := 0) (tgt := 36) hx hb dX3_carryOut_7 t0 (by decide) (by decide) rfl (by decide) ?_
    refine lv_aload_n hx hb dX3_carryOut_36 rfl (lv_at hl 0 rfl) ?_
    refine br_g0 hx hb hts hown hK hB dX3_carryOut_37 ?_
    refine lv_aload_n hx hb dX3_carryOut_40 rfl (lv_at hl 0 rfl) ?_
    refine br_g2 hx hb hts hown hK hB dX3_carryOut_41 ?_
    refine tx_call (rest := [.ref (so ad 0)]) hx hb hml hown hts (brK_1 hK) hB.2.2.1 (c_X1_first l D cI _ _ τ) (kV_X1_first hts ml_X3_159 ⟨(Nat.le_of_ble_eq_true rfl), (Nat.le_of_ble_eq_true rfl)⟩) rfl hl.1 rfl (Nat.le_of_ble_eq_true rfl) dX3_carryOut_44 (Nat.zero_le _) (Nat.zero_le _) ?_
    refine lv_aload_n hx hb dX3_carryOut_47 rfl (lv_at hl 0 rfl) ?_
    refine br_g2 hx hb hts hown hK hB dX3_carryOut_48 ?_
    refine tx_call (rest := [.int (f_X1_first τ), .ref (so ad 0)]) hx hb hml hown hts (brK_1 hK) hB.2.2.1 (c_X1_second l D cI _ _ τ) (kV_X1_second hts ml_X3_162 ⟨(Nat.le_of_ble_eq_true rfl), (Nat.le_of_ble_eq_true rfl)⟩) rfl hl.1 rfl (Nat.le_of_ble_eq_true rfl) dX3_carryOut_51 (Nat.zero_le _) (Nat.zero_le _) ?_
    refine br_callS (rest := []) hx hb hml hown hts hK hB hI hS 0 (by decide) (c_X2_rentCopy l D cI _ _ (ρ 0) (τ 5 0) (τ 6 0) hok) (kV_X2_rentCopy hts ml_X3_85 ⟨(Nat.le_of_ble_eq_true rfl), (Nat.le_of_ble_eq_true rfl)⟩) rfl hl.1 rfl (Nat.le_of_ble_eq_true rfl) dX3_carryOut_54 (Nat.zero_le _) (Nat.zero_le _) (fun H locs hB hS => ?_)
    have ee := (show m_X2_rentCopy (ρ 0) (τ 5 0) (τ 6 0) = m_X3_carryOut (ρ 0) τ by unfold m_X3_carryOut; rw [if_pos t0])
    exact br_fin hx hb hr hlk hB hS (congrArg (fun z => z.1) ee) (congrArg (fun z => va_up ρ 0 z.2) ee) rfl rfl rfl dX3_carryOut_57
  by_cases t1 : τ 4 0 = 1
  · refine lv_sw_in (k := 1) (tgt := 58) hx hb dX3_carryOut_7 t1 (by decide) (by decide) rfl (by decide) ?_
    refine lv_aload_n hx hb dX3_carryOut_58 rfl (lv_at hl 0 rfl) ?_
    refine br_g0 hx hb hts hown hK hB dX3_carryOut_59 ?_
    refine lv_aload_n hx hb dX3_carryOut_62 rfl (lv_at hl 0 rfl) ?_
    refine br_g2 hx hb hts hown hK hB dX3_carryOut_63 ?_
    refine tx_call (rest := [.ref (so ad 0)]) hx hb hml hown hts (brK_1 hK) hB.2.2.1 (c_X1_first l D cI _ _ τ) (kV_X1_first hts ml_X3_159 ⟨(Nat.le_of_ble_eq_true rfl), (Nat.le_of_ble_eq_true rfl)⟩) rfl hl.1 rfl (Nat.le_of_ble_eq_true rfl) dX3_carryOut_66 (Nat.zero_le _) (Nat.zero_le _) ?_
    refine lv_aload_n hx hb dX3_carryOut_69 rfl (lv_at hl 0 rfl) ?_
    refine br_g2 hx hb hts hown hK hB dX3_carryOut_70 ?_
    refine tx_call (rest := [.int (f_X1_first τ), .ref (so ad 0)]) hx hb hml hown hts (brK_1 hK) hB.2.2.1 (c_X1_second l D cI _ _ τ) (kV_X1_second hts ml_X3_162 ⟨(Nat.le_of_ble_eq_true rfl), (Nat.le_of_ble_eq_true rfl)⟩) rfl hl.1 rfl (Nat.le_of_ble_eq_true rfl) dX3_carryOut_73 (Nat.zero_le _) (Nat.zero_le _) ?_
    refine br_callS (rest := []) hx hb hml hown hts hK hB hI hS 0 (by decide) (c_X2_takeBack l D cI _ _ (ρ 0) (τ 5 0) (τ 6 0) hok) (kV_X2_takeBack hts ml_X3_91 ⟨(Nat.le_of_ble_eq_true rfl), (Nat.le_of_ble_eq_true rfl)⟩) rfl hl.1 rfl (Nat.le_of_ble_eq_true rfl) dX3_carryOut_76 (Nat.zero_le _) (Nat.zero_le _) (fun H locs hB hS => ?_)
    have ee := (show m_X2_takeBack (ρ 0) (τ 5 0) (τ 6 0) = m_X3_carryOut (ρ 0) τ by unfold m_X3_carryOut; rw [if_neg t0]; rw [if_pos t1])
    exact br_fin hx hb hr hlk hB hS (congrArg (fun z => z.1) ee) (congrArg (fun z => va_up ρ 0 z.2) ee) rfl rfl rfl dX3_carryOut_79
  by_cases t2 : τ 4 0 = 2
  · refine lv_sw_in (k := 2) (tgt := 80) hx hb dX3_carryOut_7 t2 (by decide) (by decide) rfl (by decide) ?_
    refine lv_aload_n hx hb dX3_carryOut_80 rfl (lv_at hl 0 rfl) ?_
    refine br_g0 hx hb hts hown hK hB dX3_carryOut_81 ?_
    refine lv_aload_n hx hb dX3_carryOut_84 rfl (lv_at hl 0 rfl) ?_
    refine br_g2 hx hb hts hown hK hB dX3_carryOut_85 ?_
    refine tx_call (rest := [.ref (so ad 0)]) hx hb hml hown hts (brK_1 hK) hB.2.2.1 (c_X1_first l D cI _ _ τ) (kV_X1_first hts ml_X3_159 ⟨(Nat.le_of_ble_eq_true rfl), (Nat.le_of_ble_eq_true rfl)⟩) rfl hl.1 rfl (Nat.le_of_ble_eq_true rfl) dX3_carryOut_88 (Nat.zero_le _) (Nat.zero_le _) ?_
    refine lv_aload_n hx hb dX3_carryOut_91 rfl (lv_at hl 0 rfl) ?_
    refine br_g2 hx hb hts hown hK hB dX3_carryOut_92 ?_
    refine tx_call (rest := [.int (f_X1_first τ), .ref (so ad 0)]) hx hb hml hown hts (brK_1 hK) hB.2.2.1 (c_X1_second l D cI _ _ τ) (kV_X1_second hts ml_X3_162 ⟨(Nat.le_of_ble_eq_true rfl), (Nat.le_of_ble_eq_true rfl)⟩) rfl hl.1 rfl (Nat.le_of_ble_eq_true rfl) dX3_carryOut_95 (Nat.zero_le _) (Nat.zero_le _) ?_
    refine br_callS (rest := []) hx hb hml hown hts hK hB hI hS 0 (by decide) (c_X2_buyNew l D cI _ _ (ρ 0) (τ 5 0) (τ 6 0) hok) (kV_X2_buyNew hts ml_X3_73 ⟨(Nat.le_of_ble_eq_true rfl), (Nat.le_of_ble_eq_true rfl)⟩) rfl hl.1 rfl (Nat.le_of_ble_eq_true rfl) dX3_carryOut_98 (Nat.zero_le _) (Nat.zero_le _) (fun H locs hB hS => ?_)
    have ee := (show m_X2_buyNew (ρ 0) (τ 5 0) (τ 6 0) = m_X3_carryOut (ρ 0) τ by unfold m_X3_carryOut; rw [if_neg t0]; rw [if_neg t1]; rw [if_pos t2])
    exact br_fin hx hb hr hlk hB hS (congrArg (fun z => z.1) ee) (congrArg (fun z => va_up ρ 0 z.2) ee) rfl rfl rfl dX3_carryOut_101
  by_cases t3 : τ 4 0 = 3
  · refine lv_sw_in (k := 3) (tgt := 102) hx hb dX3_carryOut_7 t3 (by decide) (by decide) rfl (by decide) ?_
    refine lv_aload_n hx hb dX3_carryOut_102 rfl (lv_at hl 0 rfl) ?_
    refine br_g0 hx hb hts hown hK hB dX3_carryOut_103 ?_
    refine lv_aload_n hx hb dX3_carryOut_106 rfl (lv_at hl 0 rfl) ?_
    refine br_g2 hx hb hts hown hK hB dX3_carryOut_107 ?_
    refine tx_call (rest := [.ref (so ad 0)]) hx hb hml hown hts (brK_1 hK) hB.2.2.1 (c_X1_first l D cI _ _ τ) (kV_X1_first hts ml_X3_159 ⟨(Nat.le_of_ble_eq_true rfl), (Nat.le_of_ble_eq_true rfl)⟩) rfl hl.1 rfl (Nat.le_of_ble_eq_true rfl) dX3_carryOut_110 (Nat.zero_le _) (Nat.zero_le _) ?_
    refine br_callS (rest := []) hx hb hml hown hts hK hB hI hS 0 (by decide) (c_X2_sellCopy l D cI _ _ (ρ 0) (τ 5 0) hok) (kV_X2_sellCopy hts ml_X3_82 ⟨(Nat.le_of_ble_eq_true rfl), (Nat.le_of_ble_eq_true rfl)⟩) rfl hl.1 rfl (Nat.le_of_ble_eq_true rfl) dX3_carryOut_113 (Nat.zero_le _) (Nat.zero_le _) (fun H locs hB hS => ?_)
    have ee := (show m_X2_sellCopy (ρ 0) (τ 5 0) = m_X3_carryOut (ρ 0) τ by unfold m_X3_carryOut; rw [if_neg t0]; rw [if_neg t1]; rw [if_neg t2]; rw [if_pos t3])
    exact br_fin hx hb hr hlk hB hS (congrArg (fun z => z.1) ee) (congrArg (fun z => va_up ρ 0 z.2) ee) rfl rfl rfl dX3_carryOut_116
  have u0 : (τ 4 0).toInt ≠ 0 := ne_toInt t0
  have u1 : (τ 4 0).toInt ≠ 1 := ne_toInt t1
  have u2 : (τ 4 0).toInt ≠ 2 := ne_toInt t2
  have u3 : (τ 4 0).toInt ≠ 3 := ne_toInt t3
  refine lv_tableOut (tgt := 117) hx hb dX3_carryOut_7 (by show (τ 4 0).toInt < 0 ∨ 3 < (τ 4 0).toInt; omega) (by decide) ?_
  refine lv_aload_n hx hb dX3_carryOut_117 rfl (lv_at hl 0 rfl) ?_
  refine br_g0 hx hb hts hown hK hB dX3_carryOut_118 ?_
  refine lv_aload_n hx hb dX3_carryOut_121 rfl (lv_at hl 0 rfl) ?_
  refine br_g2 hx hb hts hown hK hB dX3_carryOut_122 ?_
  refine tx_call (rest := [.ref (so ad 0)]) hx hb hml hown hts (brK_1 hK) hB.2.2.1 (c_X1_first l D cI _ _ τ) (kV_X1_first hts ml_X3_159 ⟨(Nat.le_of_ble_eq_true rfl), (Nat.le_of_ble_eq_true rfl)⟩) rfl hl.1 rfl (Nat.le_of_ble_eq_true rfl) dX3_carryOut_125 (Nat.zero_le _) (Nat.zero_le _) ?_
  refine br_callS (rest := []) hx hb hml hown hts hK hB hI hS 0 (by decide) (c_X2_passDays l D cI _ _ (ρ 0) (τ 5 0) hok) (kV_X2_passDays hts ml_X3_97 ⟨(Nat.le_of_ble_eq_true rfl), (Nat.le_of_ble_eq_true rfl)⟩) rfl hl.1 rfl (Nat.le_of_ble_eq_true rfl) dX3_carryOut_128 (Nat.zero_le _) (Nat.zero_le _) (fun H locs hB hS => ?_)
  have ee := (show m_X2_passDays (ρ 0) (τ 5 0) = m_X3_carryOut (ρ 0) τ by unfold m_X3_carryOut; rw [if_neg t0, if_neg t1, if_neg t2, if_neg t3])
  exact br_fin hx hb hr hlk hB hS (congrArg (fun z => z.1) ee) (congrArg (fun z => va_up ρ 0 z.2) ee) rfl rfl rfl dX3_carryOut_131

theorem kV_X3_carryOut {R : Room} {s : State} {args : Array Value} {own : String} {idx : Nat} {c0 : Cond} (hts : ∀ w ∈ c0 :: W0, w.before args s = true) (hl : Cond.methodLink own idx yX3_carryOut ∈ W0) (hR : rm_X3_carryOut.frames + 1 ≤ R.frames ∧ 8 + (1 + 11) + rm_X3_carryOut.locals ≤ R.locals) : CallW R s args own RX3 idx yX3_carryOut cX3_carryOut 1 (some .int) (Cond.code yX3_carryOut cX3_carryOut 1 (some .int) :: W0) rm_X3_carryOut 0 0 0 := cwV 0 hts (gdV hl mi_yX3_carryOut ms_yX3_carryOut mini_X3 mc_yX3_carryOut) rfl rfl rfl (by decide +kernel) hR

/-! ===== the law's changes, isGivingTold, cell ===== -/
def lPC (D : va_G) (cI cR : ClassId) (ad : Nat → Nat) (σ : ST) (w : Int32 × ST) : Array Value → State → Outcome → State → Prop := fun _ st oc t => oc = .returned (some (.int w.1)) ∧ (lB D cI cR ad w.2 t.heap ∧ (¬ w.1 < 0 → lU D cI cR ad w.2 σ t.heap)) ∧ va_F (brA ad) st t
def lPG (D : va_G) (cI cR : ClassId) (ad : Nat → Nat) (σ : ST) : Array Value → State → Outcome → State → Prop := fun _ st oc t => oc = .returned (some (.int 1)) ∧ lB D cI cR ad σ t.heap ∧ va_F (brA ad) st t
section LCC
variable {p : Program} {l : Launch} {e : Env} {R : Room} {s : State} {m : MethodId} {args : Array Value} {below : List Frame} {meth : Method} {c : Code} {H : Heap} {locs : List Loc} {cells slots : Nat} {Q : State → Prop} {cc : ByteArray} {nL : Nat} {own : String} {c0 : Cond} {pc : Nat} {ls : Array Slot} {rest st0 : List Value} {D : va_G} {cI cR : ClassId} {ad : Nat → Nat} {v : EN} {σ σ0 : ST} {A : Nat → Prop} {g : JFrame}
theorem lc_fin {w w' : Int32 × ST} (hx : p.tables.exec = Jvm.exec) (hb : c.code = cc) (hr : meth.sig.returnType = some .int) (hlk : meth.locks = false) (hB : lB D cI cR ad w.2 H) (hU : ¬ w.1 < 0 → lU D cI cR ad w.2 σ H) (hS : va_S (brA ad) s.heap H locs) (h : w = w') (d : decode cc pc = .ok (.ireturn, 1)) :
    W p l e R s m args below meth c H locs 0 0 (MQ below (lPC D cI cR ad σ w') args s 0 0 (brA ad)) (F0 m pc ls [.int w.1]) := by
  subst h
  exact W.iret hx hb hr (fun t ht hW => ⟨rfl, ⟨by rw [ht]; exact hB, fun h => by rw [ht]; exact hU h⟩, hS.F ht⟩) hS.2.2 d hlk
theorem lz_C {y : MethodName} {bytes : ByteArray} {mL index : Nat} {rt : Option FieldType} {ws : List Cond} {rm : Room} {x : Int32} {w : Int32 × ST} (hx : p.tables.exec = Jvm.exec) (hb : c.code = cc) (hml : c.maxLocals = nL) (hown : s.vm.findClass own = some m.cls) (hts : ∀ w ∈ c0 :: W0, w.before args s = true) (hK : brK D cI cR s) (hI : brI ad) (hB : lB D cI cR ad σ H) (hE : lE v ad s H) (hbA : ∀ q, brA ad q → A q) (hS : va_S A s.heap H locs)
    (hM : Met l y ws rm (va_Pc [.ref (ad 300), .int x] (lX D cI cR ad v σ)) (lPC D cI cR ad σ w) 0 0 (brA ad)) (cw : CallB R s args own index y bytes mL rt ws rm 0 0 2 ∧ (Cond.static y).before args s = true)
    (hsize : ls.size = nL) (hst : st0 = .int x :: .ref (ad 300) :: rest) (hW : (rest.map fun v => v.category).sum ≤ 8) (d : decode cc pc = .ok (.invokestatic index, 3)) (hc : cells ≤ R.cells) (hs : slots ≤ R.slots)
    (kk : ∀ (H1 : Heap) (locs1 : List Loc), lB D cI cR ad w.2 H1 → (¬ w.1 < 0 → lU D cI cR ad w.2 σ H1) → va_S A s.heap H1 locs1 → W p l e R s m args below meth c H1 locs1 cells slots Q (F0 m (pc + 3) ls (.int w.1 :: rest))) : W p l e R s m args below meth c H locs cells slots Q (F0 m pc ls st0) := by
  refine lb_run (A := A) (B := fun H1 => lB D cI cR ad w.2 H1 ∧ (¬ w.1 < 0 → lU D cI cR ad w.2 σ H1)) (va_runS (As := [.ref (ad 300), .int x]) (rest := rest) ⟨hx, hb, hml, hown, hts⟩ hM cw ⟨lX_blind, fun U hU hW => ⟨rfl, ⟨by rw [hU]; exact hB, va_K.moved hW.alike hK, hI⟩, hE U hU hW⟩⟩ rfl rfl hsize hst (lv_room hW) d ⟨hc, hs⟩) hbA hS (fun v1 st₀ t h0 hq => ?_) (fun H1 locs1 hB hS => kk H1 locs1 hB.1 hB.2 hS)
  obtain ⟨hv, hp, hF⟩ := hq
  cases hv
  exact ⟨rfl, hF.mono hbA, hp⟩
theorem lz_G {y : MethodName} {bytes : ByteArray} {mL index : Nat} {rt : Option FieldType} {ws : List Cond} {rm : Room} {x z : Int32} (hx : p.tables.exec = Jvm.exec) (hb : c.code = cc) (hml : c.maxLocals = nL) (hown : s.vm.findClass own = some m.cls) (hts : ∀ w ∈ c0 :: W0, w.before args s = true) (hK : brK D cI cR s) (hI : brI ad) (hB : lB D cI cR ad σ H) (hE : lE v ad s H) (hbA : ∀ q, brA ad q → A q) (hS : va_S A s.heap H locs)
    (hM : Met l y ws rm (va_Pc [.ref (ad 300), .int x, .int z] (lX D cI cR ad v σ)) (lPG D cI cR ad σ) 1 13 (brA ad)) (cw : CallB R s args own index y bytes mL rt ws rm 1 13 3 ∧ (Cond.static y).before args s = true)
    (hsize : ls.size = nL) (hst : st0 = .int z :: .int x :: .ref (ad 300) :: rest) (hW : (rest.map fun v => v.category).sum ≤ 8) (d : decode cc pc = .ok (.invokestatic index, 3)) (hc : cells + 1 ≤ R.cells) (hs : slots + 13 ≤ R.slots)
    (kk : ∀ (H1 : Heap) (locs1 : List Loc), lB D cI cR ad σ H1 → va_S A s.heap H1 locs1 → W p l e R s m args below meth c H1 locs1 (cells + 1) (slots + 13) Q (F0 m (pc + 3) ls (.int 1 :: rest))) : W p l e R s m args below meth c H locs cells slots Q (F0 m pc ls st0) := by
  refine lb_run (A := A) (B := fun H1 => lB D cI cR ad σ H1) (va_runS (As := [.ref (ad 300), .int x, .int z]) (rest := rest) ⟨hx, hb, hml, hown, hts⟩ hM cw ⟨lX_blind, fun U hU hW => ⟨rfl, ⟨by rw [hU]; exact hB, va_K.moved hW.alike hK, hI⟩, hE U hU hW⟩⟩ rfl rfl hsize hst (lv_room hW) d ⟨hc, hs⟩) hbA hS (fun v1 st₀ t h0 hq => ?_) kk
  obtain ⟨hv, hp, hF⟩ := hq
  cases hv
  exact ⟨rfl, hF.mono hbA, hp⟩
theorem cl_Sx {a : Array Value} (hr : va_Run p l e R s m args below meth c H locs cells slots 0 0 (F0 m pc ls st0) rest (vp_Si (fun _ => True) a) (fun _ => False))
    (kk : ∀ v : Int32, W p l e R s m args below meth c H locs cells slots Q (F0 m (pc + 3) ls (.int v :: rest))) : W p l e R s m args below meth c H locs cells slots Q (F0 m pc ls st0) := by
  intro T hT X
  obtain ⟨v1, st₀, t, T', L, h0, X', hL, e1, e2, ⟨r, hv, hp, hh⟩, st⟩ := hr T hT X
  cases hv
  have hLn : L = [] := by
    cases L with
    | nil => rfl
    | cons q L => exact (hL q List.mem_cons_self).elim
  subst hLn
  rw [List.append_nil] at X'
  obtain ⟨t2, a1, b1⟩ := kk r T' (e1.trans (hh.trans h0)) X'
  exact ⟨t2, st t2 a1, b1⟩
theorem cell_blind {av : List Value} {b L : Nat} {xs : Nat → Int32} : FrameBlind (va_Pc av (fun U => va_X b L xs U U.heap)) := fun b U g mk q => ⟨q.1, va_X.moved (u := U) (U := U.calling g mk b) (Vm.Alike.refl U.vm) q.2⟩
end LCC
abbrev rm_L_cell : Room := { frames := 0, cells := 0, slots := 0, locals := 0 }
set_option maxRecDepth 100000 in
theorem c_L_cell (l : Launch) (b L : Nat) (xs : Nat → Int32) (n : Nat) (hL : L ≤ 260) (hn : n ≤ 1000) :
    Met l yL_cell (Cond.code yL_cell cL_cell 2 (some .int) :: W0) rm_L_cell (va_Pc [.ref b, .int (nI n)] (fun U => va_X b L xs U U.heap)) (vp_Si (fun _ => True)) 0 0 (fun _ => False) := by
  refine st_gen (cc := cL_cell) (maxL := 2) (ret := some .int) (own := RL) (by decide) rfl (Nat.le_of_ble_eq_true rfl) ?_
  intro p e s m below meth c ls C hX hl
  obtain ⟨hx, hb, hr, hml, hown, hts, hlk⟩ := C
  have hbl : b < s.heap.size := by
    obtain ⟨scr, h1, _⟩ := hX
    exact (Array.getElem?_eq_some_iff.mp h1).1
  have hl : lv_has ls 2 [(0, .ref b), (1, .int (nI n))] := hl
  refine lv_iload_n hx hb dL_cell_0 rfl (lv_at hl 1 rfl) ?_
  refine lv_aload_n hx hb dL_cell_1 rfl (lv_at hl 0 rfl) ?_
  refine va_slen (A := fun _ => False) hx hb hX hbl (fun z => z) va_S.rf dL_cell_2 ?_
  refine lv_icmp_geN n L hx hb rfl rfl (by omega) (by omega) (tgt := 12) dL_cell_3 (by decide) (fun c1 => ?_) (fun c1 => ?_)
  · refine lv_sipush (v := 7919) hx hb dL_cell_12 (by decide) ?_
    refine lv_iload_n hx hb dL_cell_15 rfl (lv_at hl 1 rfl) ?_
    refine lv_iconst (v := 3) hx hb dL_cell_16 (by decide) ?_
    refine lv_iadd hx hb dL_cell_17 ?_
    refine lv_imul hx hb dL_cell_18 ?_
    refine lv_iload_n hx hb dL_cell_19 rfl (lv_at hl 1 rfl) ?_
    refine lv_bipush (v := 11) hx hb dL_cell_20 (by decide) ?_
    refine lv_iadd hx hb dL_cell_22 ?_
    refine lv_imul hx hb dL_cell_23 ?_
    exact W.iret hx hb hr (fun t ht _ => ⟨_, rfl, trivial, ht⟩) (fun q hq => absurd hq List.not_mem_nil) dL_cell_24 hlk
  refine lv_aload_n hx hb dL_cell_6 rfl (lv_at hl 0 rfl) ?_
  refine lv_iload_n hx hb dL_cell_7 rfl (lv_at hl 1 rfl) ?_
  refine va_sld (A := fun _ => False) hx hb hX hbl (fun z => z) va_S.rf (i := nI n) (vp_in_nI (Nat.lt_of_not_le c1) (by omega)) dL_cell_8 ?_
  refine lv_goto (tgt := 24) hx hb dL_cell_9 (by decide) ?_
  exact W.iret hx hb hr (fun t ht _ => ⟨_, rfl, trivial, ht⟩) (fun q hq => absurd hq List.not_mem_nil) dL_cell_24 hlk
theorem kS_L_cell {R : Room} {s : State} {args : Array Value} {own : String} {idx : Nat} {c0 : Cond} (hts : ∀ w ∈ c0 :: W0, w.before args s = true) (hl : Cond.methodLink own idx yL_cell ∈ W0) (hR : rm_L_cell.frames + 1 ≤ R.frames ∧ 8 + (2 + 11) + rm_L_cell.locals ≤ R.locals) : CallB R s args own idx yL_cell cL_cell 2 (some .int) (Cond.code yL_cell cL_cell 2 (some .int) :: W0) rm_L_cell 0 0 2 ∧ (Cond.static yL_cell).before args s = true := va_cwS 2 hts (gdS hl mst_yL_cell mini_L mc_yL_cell) rfl rfl rfl (by decide +kernel) hR
section LCD
variable {p : Program} {l : Launch} {e : Env} {R : Room} {s : State} {m : MethodId} {args : Array Value} {below : List Frame} {meth : Method} {c : Code} {H : Heap} {locs : List Loc} {cells slots : Nat} {Q : State → Prop} {cc : ByteArray} {nL : Nat} {own : String} {c0 : Cond} {pc : Nat} {ls : Array Slot} {rest st0 : List Value} {A : Nat → Prop}
theorem lz_cell {b L n index : Nat} {xs : Nat → Int32} (hx : p.tables.exec = Jvm.exec) (hb : c.code = cc) (hml : c.maxLocals = nL) (hown : s.vm.findClass own = some m.cls) (hts : ∀ w ∈ c0 :: W0, w.before args s = true) (hX : va_X b L xs s s.heap) (hbl : b < s.heap.size) (hbA : ¬ A b) (hS : va_S A s.heap H locs) (hL : L ≤ 260) (hn : n ≤ 1000) (hl : Cond.methodLink own index yL_cell ∈ W0) (hR : rm_L_cell.frames + 1 ≤ R.frames ∧ 8 + (2 + 11) + rm_L_cell.locals ≤ R.locals)
    (hsize : ls.size = nL) (hst : st0 = .int (nI n) :: .ref b :: rest) (hW : (rest.map fun v => v.category).sum ≤ 8) (d : decode cc pc = .ok (.invokestatic index, 3)) (hc : cells ≤ R.cells) (hs : slots ≤ R.slots)
    (kk : ∀ v : Int32, W p l e R s m args below meth c H locs cells slots Q (F0 m (pc + 3) ls (.int v :: rest))) : W p l e R s m args below meth c H locs cells slots Q (F0 m pc ls st0) :=
  cl_Sx (va_runS (As := [.ref b, .int (nI n)]) (rest := rest) ⟨hx, hb, hml, hown, hts⟩ (c_L_cell l b L xs n hL hn) (kS_L_cell hts hl hR) ⟨cell_blind, fun U hU hW => ⟨rfl, show va_X b L xs U U.heap by rw [hU]; exact (hX.kept (hS.2.1 b hbl hbA)).moved hW.alike⟩⟩ rfl rfl hsize hst (lv_room hW) d ⟨hc, hs⟩) kk
end LCD

def m_L_changes (σ : ST) (z : Int32) : Int32 × ST := (if (f_L_low z 18) = 0 then (m_X2_putTitle σ (100 + (f_L_low (z >>> ((4 : Int32) &&& 31)) 9000)) (1 + (f_L_low (z >>> ((17 : Int32) &&& 31)) 30))) else (if (f_L_low z 18) = 1 then (m_X2_putCourse σ (f_L_low (z >>> ((4 : Int32) &&& 31)) ((f_X2_numberOf σ 0) + 1)) (1 + (f_L_low (z >>> ((7 : Int32) &&& 31)) 12)) (f_L_low (z >>> ((11 : Int32) &&& 31)) 30)) else (if (f_L_low z 18) = 2 then (m_X2_changeCourse σ (f_L_low (z >>> ((4 : Int32) &&& 31)) ((f_X2_numberOf σ 2) + 1)) (1 + (f_L_low (z >>> ((7 : Int32) &&& 31)) 12)) (f_L_low (z >>> ((11 : Int32) &&& 31)) 30)) else (if (f_L_low z 18) = 3 then (if ((z >>> ((7 : Int32) &&& 31)) &&& 1) = 0 then (m_X2_advanceEdition σ (f_L_low (z >>> ((4 : Int32) &&& 31)) ((f_X2_numberOf σ 0) + 1))) else (m_X2_changePrice σ (f_L_low (z >>> ((4 : Int32) &&& 31)) ((f_X2_numberOf σ 0) + 1)) (100 + (f_L_low (z >>> ((8 : Int32) &&& 31)) 9000)))) else (if (f_L_low z 18) = 4 then (m_X2_changeSetting σ ((z >>> ((4 : Int32) &&& 31)) &&& 3) (if ((z >>> ((4 : Int32) &&& 31)) &&& 3) = 0 then (10 + (f_L_low (z >>> ((6 : Int32) &&& 31)) 60)) else (if ((z >>> ((4 : Int32) &&& 31)) &&& 3) = 2 then (1 + (f_L_low (z >>> ((6 : Int32) &&& 31)) 60)) else (f_L_low (z >>> ((6 : Int32) &&& 31)) 51)))) else (if (f_L_low z 18) = 5 then (m_X2_buyNew σ (f_L_low (z >>> ((4 : Int32) &&& 31)) ((f_X2_numberOf σ 0) + 1)) (1 + (f_L_low (z >>> ((7 : Int32) &&& 31)) 5))) else (if (f_L_low z 18) = 6 then (m_X2_buyNew σ (f_L_low (z >>> ((4 : Int32) &&& 31)) ((f_X2_numberOf σ 0) + 1)) (1 + (f_L_low (z >>> ((7 : Int32) &&& 31)) 5))) else (if (f_L_low z 18) = 7 then (m_X2_buyUsed σ (f_L_low (z >>> ((4 : Int32) &&& 31)) ((f_X2_numberOf σ 0) + 1)) (1 + (f_L_low (z >>> ((7 : Int32) &&& 31)) 12)) (f_L_low (z >>> ((11 : Int32) &&& 31)) 5)) else (if (f_L_low z 18) = 8 then (m_X2_sellCopy σ (f_L_low (z >>> ((4 : Int32) &&& 31)) ((f_X2_numberOf σ 1) + 1))) else (if (f_L_low z 18) = 9 then (m_X2_rentCopy σ (f_L_low (z >>> ((8 : Int32) &&& 31)) 8) (f_L_low (z >>> ((4 : Int32) &&& 31)) ((f_X2_numberOf σ 2) + 1))) else (if (f_L_low z 18) = 10 then (m_X2_rentCopy σ (f_L_low (z >>> ((8 : Int32) &&& 31)) 8) (f_L_low (z >>> ((4 : Int32) &&& 31)) ((f_X2_numberOf σ 2) + 1))) else (if (f_L_low z 18) = 11 then (m_X2_rentCopy σ (f_L_low (z >>> ((8 : Int32) &&& 31)) 8) (f_L_low (z >>> ((4 : Int32) &&& 31)) ((f_X2_numberOf σ 2) + 1))) else (if (f_L_low z 18) = 12 then (m_X2_rentCopy σ (f_L_low (z >>> ((8 : Int32) &&& 31)) 8) (f_L_low (z >>> ((4 : Int32) &&& 31)) ((f_X2_numberOf σ 2) + 1))) else (if (f_L_low z 18) = 13 then (m_X2_takeBack σ (f_L_low (z >>> ((4 : Int32) &&& 31)) ((f_X2_numberOf σ 1) + 1)) (f_L_low (z >>> ((10 : Int32) &&& 31)) 5)) else (if (f_L_low z 18) = 14 then (m_X2_passDays σ (1 + (f_L_low (z >>> ((4 : Int32) &&& 31)) 40))) else (if (f_L_low z 18) = 15 then (m_X2_passDays σ (1 + (f_L_low (z >>> ((4 : Int32) &&& 31)) 40))) else (m_X2_countShelf σ (f_L_low (z >>> ((4 : Int32) &&& 31)) ((f_X2_numberOf σ 0) + 1)) (f_L_low (z >>> ((7 : Int32) &&& 31)) 6))))))))))))))))))
abbrev rm_L_changes : Room := { frames := 6, cells := 0, slots := 0, locals := 186 }
set_option maxRecDepth 100000 in
theorem c_L_changes (l : Launch) (D : va_G) (cI cR : ClassId) (ad : Nat → Nat) (v : EN) (σ : ST) (z : Int32) (hok : okS σ) :
    Met l yL_changes (Cond.code yL_changes cL_changes 6 (some .int) :: W0) rm_L_changes (va_Pc [.ref (ad 300), .int z] (lX D cI cR ad v σ)) (lPC D cI cR ad σ (m_L_changes σ z)) 0 0 (brA ad) := by
  refine st_gen (cc := cL_changes) (maxL := 6) (ret := some .int) (own := RL) (by decide) rfl (Nat.le_of_ble_eq_true rfl) ?_
  intro p e s m below meth c ls C hPre hl
  obtain ⟨hx, hb, hr, hml, hown, hts, hlk⟩ := C
  obtain ⟨⟨hB, hK, hI⟩, hE, hN⟩ := hPre
  have hbA : ∀ q, brA ad q → brA ad q := fun q h => h
  have hS : va_S (brA ad) s.heap s.heap [] := va_S.rf
  have hEH : lE v ad s s.heap := lE_of hE hN hbA hS
  obtain ⟨hT6, hC6, hN6⟩ := okS_b hok
  have hl : lv_has ls 6 [(0, .ref (ad 300)), (1, .int z)] := hl
  refine lv_iload_n hx hb dL_changes_0 rfl (lv_at hl 1 rfl) ?_
  refine lv_iconst (v := 4) hx hb dL_changes_1 (by decide) ?_
  refine lv_ishr hx hb dL_changes_2 ?_
  refine lv_aload_n hx hb dL_changes_3 rfl (lv_at hl 0 rfl) ?_
  refine lv_iconst (v := 0) hx hb dL_changes_4 (by decide) ?_
  refine lb_P (As := [.int 0]) (rest := [.int (z >>> ((4 : Int32) &&& 31))]) hx hb hml hown hts hK hI hB hEH (cl_count l 0 hok) (kV_X3_count hts ml_L_8 ⟨(Nat.le_of_ble_eq_true rfl), (Nat.le_of_ble_eq_true rfl)⟩) rfl hl.1 rfl (Nat.le_of_ble_eq_true rfl) dL_changes_5 (Nat.le_of_ble_eq_true rfl) (Nat.le_of_ble_eq_true rfl) ?_
  refine lv_iconst (v := 1) hx hb dL_changes_8 (by decide) ?_
  refine lv_iadd hx hb dL_changes_9 ?_
  refine cl_S (As := [.int (z >>> ((4 : Int32) &&& 31)), .int ((f_X2_numberOf σ 0) + 1)]) (rest := []) hx hb hml hown hts (c_L_low l (z >>> ((4 : Int32) &&& 31)) ((f_X2_numberOf σ 0) + 1) (cnt1_ne hok (by decide))) (kS_L_low hts ml_L_58 ⟨(Nat.le_of_ble_eq_true rfl), (Nat.le_of_ble_eq_true rfl)⟩) rfl hl.1 rfl (Nat.le_of_ble_eq_true rfl) dL_changes_10 (Nat.le_of_ble_eq_true rfl) (Nat.le_of_ble_eq_true rfl) ?_
  refine lv_istore_n (lv' := [(2, .int ((f_L_low (z >>> ((4 : Int32) &&& 31)) ((f_X2_numberOf σ 0) + 1)))), (0, .ref ((ad 300))), (1, .int (z))]) hx hb dL_changes_13 rfl hl (by decide) rfl (fun ls hl => ?_)
  refine lv_iload_n hx hb dL_changes_14 rfl (lv_at hl 2 rfl) ?_
  refine lv_iconst (v := 4) hx hb dL_changes_15 (by decide) ?_
  refine lv_ishr hx hb dL_changes_16 ?_
  refine lv_aload_n hx hb dL_changes_17 rfl (lv_at hl 1 rfl) ?_
  refine lv_iconst (v := 1) hx hb dL_changes_18 (by decide) ?_
  refine lb_P (As := [.int 1]) (rest := [.int (z >>> ((4 : Int32) &&& 31))]) hx hb hml hown hts hK hI hB hEH (cl_count l 1 hok) (kV_X3_count hts ml_L_8 ⟨(Nat.le_of_ble_eq_true rfl), (Nat.le_of_ble_eq_true rfl)⟩) rfl hl.1 rfl (Nat.le_of_ble_eq_true rfl) dL_changes_19 (Nat.le_of_ble_eq_true rfl) (Nat.le_of_ble_eq_true rfl) ?_
  refine lv_iconst (v := 1) hx hb dL_changes_22 (by decide) ?_
  refine lv_iadd hx hb dL_changes_23 ?_
  refine cl_S (As := [.int (z >>> ((4 : Int32) &&& 31)), .int ((f_X2_numberOf σ 1) + 1)]) (rest := []) hx hb hml hown hts (c_L_low l (z >>> ((4 : Int32) &&& 31)) ((f_X2_numberOf σ 1) + 1) (cnt1_ne hok (by decide))) (kS_L_low hts ml_L_58 ⟨(Nat.le_of_ble_eq_true rfl), (Nat.le_of_ble_eq_true rfl)⟩) rfl hl.1 rfl (Nat.le_of_ble_eq_true rfl) dL_changes_24 (Nat.le_of_ble_eq_true rfl) (Nat.le_of_ble_eq_true rfl) ?_
  refine lv_istore_n (lv' := [(3, .int ((f_L_low (z >>> ((4 : Int32) &&& 31)) ((f_X2_numberOf σ 1) + 1)))), (2, .int ((f_L_low (z >>> ((4 : Int32) &&& 31)) ((f_X2_numberOf σ 0) + 1)))), (0, .ref ((ad 300))), (1, .int (z))]) hx hb dL_changes_27 rfl hl (by decide) rfl (fun ls hl => ?_)
  refine lv_iload_n hx hb dL_changes_28 rfl (lv_at hl 3 rfl) ?_
  refine lv_iconst (v := 4) hx hb dL_changes_29 (by decide) ?_
  refine lv_ishr hx hb dL_changes_30 ?_
  refine lv_aload_n hx hb dL_changes_31 rfl (lv_at hl 2 rfl) ?_
  refine lv_iconst (v := 2) hx hb dL_changes_32 (by decide) ?_
  refine lb_P (As := [.int 2]) (rest := [.int (z >>> ((4 : Int32) &&& 31))]) hx hb hml hown hts hK hI hB hEH (cl_count l 2 hok) (kV_X3_count hts ml_L_8 ⟨(Nat.le_of_ble_eq_true rfl), (Nat.le_of_ble_eq_true rfl)⟩) rfl hl.1 rfl (Nat.le_of_ble_eq_true rfl) dL_changes_33 (Nat.le_of_ble_eq_true rfl) (Nat.le_of_ble_eq_true rfl) ?_
  refine lv_iconst (v := 1) hx hb dL_changes_36 (by decide) ?_
  refine lv_iadd hx hb dL_changes_37 ?_
  refine cl_S (As := [.int (z >>> ((4 : Int32) &&& 31)), .int ((f_X2_numberOf σ 2) + 1)]) (rest := []) hx hb hml hown hts (c_L_low l (z >>> ((4 : Int32) &&& 31)) ((f_X2_numberOf σ 2) + 1) (cnt1_ne hok (by decide))) (kS_L_low hts ml_L_58 ⟨(Nat.le_of_ble_eq_true rfl), (Nat.le_of_ble_eq_true rfl)⟩) rfl hl.1 rfl (Nat.le_of_ble_eq_true rfl) dL_changes_38 (Nat.le_of_ble_eq_true rfl) (Nat.le_of_ble_eq_true rfl) ?_
  refine lv_istore (lv' := [(4, .int ((f_L_low (z >>> ((4 : Int32) &&& 31)) ((f_X2_numberOf σ 2) + 1)))), (3, .int ((f_L_low (z >>> ((4 : Int32) &&& 31)) ((f_X2_numberOf σ 1) + 1)))), (2, .int ((f_L_low (z >>> ((4 : Int32) &&& 31)) ((f_X2_numberOf σ 0) + 1)))), (0, .ref ((ad 300))), (1, .int (z))]) hx hb dL_changes_41 hl (by decide) rfl (fun ls hl => ?_)
  refine lv_iload_n hx hb dL_changes_43 rfl (lv_at hl 4 rfl) ?_
  refine lv_bipush (v := 18) hx hb dL_changes_44 (by decide) ?_
  refine cl_S (As := [.int z, .int 18]) (rest := []) hx hb hml hown hts (c_L_low l z 18 (by decide)) (kS_L_low hts ml_L_58 ⟨(Nat.le_of_ble_eq_true rfl), (Nat.le_of_ble_eq_true rfl)⟩) rfl hl.1 rfl (Nat.le_of_ble_eq_true rfl) dL_changes_46 (Nat.le_of_ble_eq_true rfl) (Nat.le_of_ble_eq_true rfl) ?_
  by_cases c_49_0 : (f_L_low z 18) = 0
  · refine lv_sw_in (k := 0) (tgt := 128) hx hb dL_changes_49 c_49_0 (by decide) (by decide) rfl (by decide) ?_
    refine lv_aload_n hx hb dL_changes_128 rfl (lv_at hl 3 rfl) ?_
    refine lv_bipush (v := 100) hx hb dL_changes_129 (by decide) ?_
    refine lv_iload_n hx hb dL_changes_131 rfl (lv_at hl 4 rfl) ?_
    refine lv_iconst (v := 4) hx hb dL_changes_132 (by decide) ?_
    refine lv_ishr hx hb dL_changes_133 ?_
    refine lv_sipush (v := 9000) hx hb dL_changes_134 (by decide) ?_
    refine cl_S (As := [.int (z >>> ((4 : Int32) &&& 31)), .int 9000]) (rest := [.int (100), .ref ((ad 300))]) hx hb hml hown hts (c_L_low l (z >>> ((4 : Int32) &&& 31)) 9000 (by decide)) (kS_L_low hts ml_L_58 ⟨(Nat.le_of_ble_eq_true rfl), (Nat.le_of_ble_eq_true rfl)⟩) rfl hl.1 rfl (Nat.le_of_ble_eq_true rfl) dL_changes_137 (Nat.le_of_ble_eq_true rfl) (Nat.le_of_ble_eq_true rfl) ?_
    refine lv_iadd hx hb dL_changes_140 ?_
    refine lv_iconst (v := 1) hx hb dL_changes_141 (by decide) ?_
    refine lv_iload_n hx hb dL_changes_142 rfl (lv_at hl 4 rfl) ?_
    refine lv_bipush (v := 17) hx hb dL_changes_143 (by decide) ?_
    refine lv_ishr hx hb dL_changes_145 ?_
    refine lv_bipush (v := 30) hx hb dL_changes_146 (by decide) ?_
    refine cl_S (As := [.int (z >>> ((17 : Int32) &&& 31)), .int 30]) (rest := [.int (1), .int (100 + (f_L_low (z >>> ((4 : Int32) &&& 31)) 9000)), .ref ((ad 300))]) hx hb hml hown hts (c_L_low l (z >>> ((17 : Int32) &&& 31)) 30 (by decide)) (kS_L_low hts ml_L_58 ⟨(Nat.le_of_ble_eq_true rfl), (Nat.le_of_ble_eq_true rfl)⟩) rfl hl.1 rfl (Nat.le_of_ble_eq_true rfl) dL_changes_148 (Nat.le_of_ble_eq_true rfl) (Nat.le_of_ble_eq_true rfl) ?_
    refine lv_iadd hx hb dL_changes_151 ?_
    refine lb_Q (As := [.int (100 + (f_L_low (z >>> ((4 : Int32) &&& 31)) 9000)), .int (1 + (f_L_low (z >>> ((17 : Int32) &&& 31)) 30))]) (w := (m_X2_putTitle σ (100 + (f_L_low (z >>> ((4 : Int32) &&& 31)) 9000)) (1 + (f_L_low (z >>> ((17 : Int32) &&& 31)) 30)))) (rest := []) hx hb hml hown hts hK hI hB hEH hbA hS (cm_addTitle l (100 + (f_L_low (z >>> ((4 : Int32) &&& 31)) 9000)) (1 + (f_L_low (z >>> ((17 : Int32) &&& 31)) 30)) hok) (kV_X3_addTitle hts ml_L_61 ⟨(Nat.le_of_ble_eq_true rfl), (Nat.le_of_ble_eq_true rfl)⟩) rfl hl.1 rfl (Nat.le_of_ble_eq_true rfl) dL_changes_152 (Nat.le_of_ble_eq_true rfl) (Nat.le_of_ble_eq_true rfl) (fun H locs hB hU hS => ?_)
    have hok1 : okS (m_X2_putTitle σ (100 + (f_L_low (z >>> ((4 : Int32) &&& 31)) 9000)) (1 + (f_L_low (z >>> ((17 : Int32) &&& 31)) 30))).2 := ok_addTitle hok (100 + (f_L_low (z >>> ((4 : Int32) &&& 31)) 9000)) (1 + (f_L_low (z >>> ((17 : Int32) &&& 31)) 30))
    obtain ⟨_, _, _⟩ := okS_b hok1
    have hEH : lE v ad s H := lE_of hE hN hbA hS
    exact lc_fin (w := (m_X2_putTitle σ (100 + (f_L_low (z >>> ((4 : Int32) &&& 31)) 9000)) (1 + (f_L_low (z >>> ((17 : Int32) &&& 31)) 30)))) hx hb hr hlk hB hU hS ((br_p c_49_0 rfl) : (m_X2_putTitle σ (100 + (f_L_low (z >>> ((4 : Int32) &&& 31)) 9000)) (1 + (f_L_low (z >>> ((17 : Int32) &&& 31)) 30))) = m_L_changes σ z) dL_changes_155
  by_cases c_49_1 : (f_L_low z 18) = 1
  · refine lv_sw_in (k := 1) (tgt := 156) hx hb dL_changes_49 c_49_1 (by decide) (by decide) rfl (by decide) ?_
    refine lv_aload_n hx hb dL_changes_156 rfl (lv_at hl 3 rfl) ?_
    refine lv_iload_n hx hb dL_changes_157 rfl (lv_at hl 2 rfl) ?_
    refine lv_iconst (v := 1) hx hb dL_changes_158 (by decide) ?_
    refine lv_iload_n hx hb dL_changes_159 rfl (lv_at hl 4 rfl) ?_
    refine lv_bipush (v := 7) hx hb dL_changes_160 (by decide) ?_
    refine lv_ishr hx hb dL_changes_162 ?_
    refine lv_bipush (v := 12) hx hb dL_changes_163 (by decide) ?_
    refine cl_S (As := [.int (z >>> ((7 : Int32) &&& 31)), .int 12]) (rest := [.int (1), .int ((f_L_low (z >>> ((4 : Int32) &&& 31)) ((f_X2_numberOf σ 0) + 1))), .ref ((ad 300))]) hx hb hml hown hts (c_L_low l (z >>> ((7 : Int32) &&& 31)) 12 (by decide)) (kS_L_low hts ml_L_58 ⟨(Nat.le_of_ble_eq_true rfl), (Nat.le_of_ble_eq_true rfl)⟩) rfl hl.1 rfl (Nat.le_of_ble_eq_true rfl) dL_changes_165 (Nat.le_of_ble_eq_true rfl) (Nat.le_of_ble_eq_true rfl) ?_
    refine lv_iadd hx hb dL_changes_168 ?_
    refine lv_iload_n hx hb dL_changes_169 rfl (lv_at hl 4 rfl) ?_
    refine lv_bipush (v := 11) hx hb dL_changes_170 (by decide) ?_
    refine lv_ishr hx hb dL_changes_172 ?_
    refine lv_bipush (v := 30) hx hb dL_changes_173 (by decide) ?_
    refine cl_S (As := [.int (z >>> ((11 : Int32) &&& 31)), .int 30]) (rest := [.int (1 + (f_L_low (z >>> ((7 : Int32) &&& 31)) 12)), .int ((f_L_low (z >>> ((4 : Int32) &&& 31)) ((f_X2_numberOf σ 0) + 1))), .ref ((ad 300))]) hx hb hml hown hts (c_L_low l (z >>> ((11 : Int32) &&& 31)) 30 (by decide)) (kS_L_low hts ml_L_58 ⟨(Nat.le_of_ble_eq_true rfl), (Nat.le_of_ble_eq_true rfl)⟩) rfl hl.1 rfl (Nat.le_of_ble_eq_true rfl) dL_changes_175 (Nat.le_of_ble_eq_true rfl) (Nat.le_of_ble_eq_true rfl) ?_
    refine lb_Q (As := [.int (f_L_low (z >>> ((4 : Int32) &&& 31)) ((f_X2_numberOf σ 0) + 1)), .int (1 + (f_L_low (z >>> ((7 : Int32) &&& 31)) 12)), .int (f_L_low (z >>> ((11 : Int32) &&& 31)) 30)]) (w := (m_X2_putCourse σ (f_L_low (z >>> ((4 : Int32) &&& 31)) ((f_X2_numberOf σ 0) + 1)) (1 + (f_L_low (z >>> ((7 : Int32) &&& 31)) 12)) (f_L_low (z >>> ((11 : Int32) &&& 31)) 30))) (rest := []) hx hb hml hown hts hK hI hB hEH hbA hS (cm_addCourse l (f_L_low (z >>> ((4 : Int32) &&& 31)) ((f_X2_numberOf σ 0) + 1)) (1 + (f_L_low (z >>> ((7 : Int32) &&& 31)) 12)) (f_L_low (z >>> ((11 : Int32) &&& 31)) 30) hok) (kV_X3_addCourse hts ml_L_64 ⟨(Nat.le_of_ble_eq_true rfl), (Nat.le_of_ble_eq_true rfl)⟩) rfl hl.1 rfl (Nat.le_of_ble_eq_true rfl) dL_changes_178 (Nat.le_of_ble_eq_true rfl) (Nat.le_of_ble_eq_true rfl) (fun H locs hB hU hS => ?_)
    have hok2 : okS (m_X2_putCourse σ (f_L_low (z >>> ((4 : Int32) &&& 31)) ((f_X2_numberOf σ 0) + 1)) (1 + (f_L_low (z >>> ((7 : Int32) &&& 31)) 12)) (f_L_low (z >>> ((11 : Int32) &&& 31)) 30)).2 := ok_addCourse hok (f_L_low (z >>> ((4 : Int32) &&& 31)) ((f_X2_numberOf σ 0) + 1)) (1 + (f_L_low (z >>> ((7 : Int32) &&& 31)) 12)) (f_L_low (z >>> ((11 : Int32) &&& 31)) 30)
    obtain ⟨_, _, _⟩ := okS_b hok2
    have hEH : lE v ad s H := lE_of hE hN hbA hS
    exact lc_fin (w := (m_X2_putCourse σ (f_L_low (z >>> ((4 : Int32) &&& 31)) ((f_X2_numberOf σ 0) + 1)) (1 + (f_L_low (z >>> ((7 : Int32) &&& 31)) 12)) (f_L_low (z >>> ((11 : Int32) &&& 31)) 30))) hx hb hr hlk hB hU hS ((br_n c_49_0 (br_p c_49_1 rfl)) : (m_X2_putCourse σ (f_L_low (z >>> ((4 : Int32) &&& 31)) ((f_X2_numberOf σ 0) + 1)) (1 + (f_L_low (z >>> ((7 : Int32) &&& 31)) 12)) (f_L_low (z >>> ((11 : Int32) &&& 31)) 30)) = m_L_changes σ z) dL_changes_181
  by_cases c_49_2 : (f_L_low z 18) = 2
  · refine lv_sw_in (k := 2) (tgt := 182) hx hb dL_changes_49 c_49_2 (by decide) (by decide) rfl (by decide) ?_
    refine lv_aload_n hx hb dL_changes_182 rfl (lv_at hl 3 rfl) ?_
    refine lv_iload hx hb dL_changes_183 (lv_at hl 0 rfl) ?_
    refine lv_iconst (v := 1) hx hb dL_changes_185 (by decide) ?_
    refine lv_iload_n hx hb dL_changes_186 rfl (lv_at hl 4 rfl) ?_
    refine lv_bipush (v := 7) hx hb dL_changes_187 (by decide) ?_
    refine lv_ishr hx hb dL_changes_189 ?_
    refine lv_bipush (v := 12) hx hb dL_changes_190 (by decide) ?_
    refine cl_S (As := [.int (z >>> ((7 : Int32) &&& 31)), .int 12]) (rest := [.int (1), .int ((f_L_low (z >>> ((4 : Int32) &&& 31)) ((f_X2_numberOf σ 2) + 1))), .ref ((ad 300))]) hx hb hml hown hts (c_L_low l (z >>> ((7 : Int32) &&& 31)) 12 (by decide)) (kS_L_low hts ml_L_58 ⟨(Nat.le_of_ble_eq_true rfl), (Nat.le_of_ble_eq_true rfl)⟩) rfl hl.1 rfl (Nat.le_of_ble_eq_true rfl) dL_changes_192 (Nat.le_of_ble_eq_true rfl) (Nat.le_of_ble_eq_true rfl) ?_
    refine lv_iadd hx hb dL_changes_195 ?_
    refine lv_iload_n hx hb dL_changes_196 rfl (lv_at hl 4 rfl) ?_
    refine lv_bipush (v := 11) hx hb dL_changes_197 (by decide) ?_
    refine lv_ishr hx hb dL_changes_199 ?_
    refine lv_bipush (v := 30) hx hb dL_changes_200 (by decide) ?_
    refine cl_S (As := [.int (z >>> ((11 : Int32) &&& 31)), .int 30]) (rest := [.int (1 + (f_L_low (z >>> ((7 : Int32) &&& 31)) 12)), .int ((f_L_low (z >>> ((4 : Int32) &&& 31)) ((f_X2_numberOf σ 2) + 1))), .ref ((ad 300))]) hx hb hml hown hts (c_L_low l (z >>> ((11 : Int32) &&& 31)) 30 (by decide)) (kS_L_low hts ml_L_58 ⟨(Nat.le_of_ble_eq_true rfl), (Nat.le_of_ble_eq_true rfl)⟩) rfl hl.1 rfl (Nat.le_of_ble_eq_true rfl) dL_changes_202 (Nat.le_of_ble_eq_true rfl) (Nat.le_of_ble_eq_true rfl) ?_
    refine lb_Q (As := [.int (f_L_low (z >>> ((4 : Int32) &&& 31)) ((f_X2_numberOf σ 2) + 1)), .int (1 + (f_L_low (z >>> ((7 : Int32) &&& 31)) 12)), .int (f_L_low (z >>> ((11 : Int32) &&& 31)) 30)]) (w := (m_X2_changeCourse σ (f_L_low (z >>> ((4 : Int32) &&& 31)) ((f_X2_numberOf σ 2) + 1)) (1 + (f_L_low (z >>> ((7 : Int32) &&& 31)) 12)) (f_L_low (z >>> ((11 : Int32) &&& 31)) 30))) (rest := []) hx hb hml hown hts hK hI hB hEH hbA hS (cm_setCourse l (f_L_low (z >>> ((4 : Int32) &&& 31)) ((f_X2_numberOf σ 2) + 1)) (1 + (f_L_low (z >>> ((7 : Int32) &&& 31)) 12)) (f_L_low (z >>> ((11 : Int32) &&& 31)) 30) hok) (kV_X3_setCourse hts ml_L_67 ⟨(Nat.le_of_ble_eq_true rfl), (Nat.le_of_ble_eq_true rfl)⟩) rfl hl.1 rfl (Nat.le_of_ble_eq_true rfl) dL_changes_205 (Nat.le_of_ble_eq_true rfl) (Nat.le_of_ble_eq_true rfl) (fun H locs hB hU hS => ?_)
    have hok3 : okS (m_X2_changeCourse σ (f_L_low (z >>> ((4 : Int32) &&& 31)) ((f_X2_numberOf σ 2) + 1)) (1 + (f_L_low (z >>> ((7 : Int32) &&& 31)) 12)) (f_L_low (z >>> ((11 : Int32) &&& 31)) 30)).2 := ok_setCourse hok (f_L_low (z >>> ((4 : Int32) &&& 31)) ((f_X2_numberOf σ 2) + 1)) (1 + (f_L_low (z >>> ((7 : Int32) &&& 31)) 12)) (f_L_low (z >>> ((11 : Int32) &&& 31)) 30)
    obtain ⟨_, _, _⟩ := okS_b hok3
    have hEH : lE v ad s H := lE_of hE hN hbA hS
    exact lc_fin (w := (m_X2_changeCourse σ (f_L_low (z >>> ((4 : Int32) &&& 31)) ((f_X2_numberOf σ 2) + 1)) (1 + (f_L_low (z >>> ((7 : Int32) &&& 31)) 12)) (f_L_low (z >>> ((11 : Int32) &&& 31)) 30))) hx hb hr hlk hB hU hS ((br_n c_49_0 (br_n c_49_1 (br_p c_49_2 rfl))) : (m_X2_changeCourse σ (f_L_low (z >>> ((4 : Int32) &&& 31)) ((f_X2_numberOf σ 2) + 1)) (1 + (f_L_low (z >>> ((7 : Int32) &&& 31)) 12)) (f_L_low (z >>> ((11 : Int32) &&& 31)) 30)) = m_L_changes σ z) dL_changes_208
  by_cases c_49_3 : (f_L_low z 18) = 3
  · refine lv_sw_in (k := 3) (tgt := 209) hx hb dL_changes_49 c_49_3 (by decide) (by decide) rfl (by decide) ?_
    refine lv_iload_n hx hb dL_changes_209 rfl (lv_at hl 4 rfl) ?_
    refine lv_bipush (v := 7) hx hb dL_changes_210 (by decide) ?_
    refine lv_ishr hx hb dL_changes_212 ?_
    refine lv_iconst (v := 1) hx hb dL_changes_213 (by decide) ?_
    refine lv_iand hx hb dL_changes_214 ?_
    refine lv_if_ne (tgt := 226) hx hb dL_changes_215 (by decide) (fun c_215 => ?_) (fun c_215 => ?_)
    · refine lv_aload_n hx hb dL_changes_226 rfl (lv_at hl 3 rfl) ?_
      refine lv_iload_n hx hb dL_changes_227 rfl (lv_at hl 2 rfl) ?_
      refine lv_bipush (v := 100) hx hb dL_changes_228 (by decide) ?_
      refine lv_iload_n hx hb dL_changes_230 rfl (lv_at hl 4 rfl) ?_
      refine lv_bipush (v := 8) hx hb dL_changes_231 (by decide) ?_
      refine lv_ishr hx hb dL_changes_233 ?_
      refine lv_sipush (v := 9000) hx hb dL_changes_234 (by decide) ?_
      refine cl_S (As := [.int (z >>> ((8 : Int32) &&& 31)), .int 9000]) (rest := [.int (100), .int ((f_L_low (z >>> ((4 : Int32) &&& 31)) ((f_X2_numberOf σ 0) + 1))), .ref ((ad 300))]) hx hb hml hown hts (c_L_low l (z >>> ((8 : Int32) &&& 31)) 9000 (by decide)) (kS_L_low hts ml_L_58 ⟨(Nat.le_of_ble_eq_true rfl), (Nat.le_of_ble_eq_true rfl)⟩) rfl hl.1 rfl (Nat.le_of_ble_eq_true rfl) dL_changes_237 (Nat.le_of_ble_eq_true rfl) (Nat.le_of_ble_eq_true rfl) ?_
      refine lv_iadd hx hb dL_changes_240 ?_
      refine lb_Q (As := [.int (f_L_low (z >>> ((4 : Int32) &&& 31)) ((f_X2_numberOf σ 0) + 1)), .int (100 + (f_L_low (z >>> ((8 : Int32) &&& 31)) 9000))]) (w := (m_X2_changePrice σ (f_L_low (z >>> ((4 : Int32) &&& 31)) ((f_X2_numberOf σ 0) + 1)) (100 + (f_L_low (z >>> ((8 : Int32) &&& 31)) 9000)))) (rest := []) hx hb hml hown hts hK hI hB hEH hbA hS (cm_setPrice l (f_L_low (z >>> ((4 : Int32) &&& 31)) ((f_X2_numberOf σ 0) + 1)) (100 + (f_L_low (z >>> ((8 : Int32) &&& 31)) 9000)) hok) (kV_X3_setPrice hts ml_L_73 ⟨(Nat.le_of_ble_eq_true rfl), (Nat.le_of_ble_eq_true rfl)⟩) rfl hl.1 rfl (Nat.le_of_ble_eq_true rfl) dL_changes_241 (Nat.le_of_ble_eq_true rfl) (Nat.le_of_ble_eq_true rfl) (fun H locs hB hU hS => ?_)
      have hok4 : okS (m_X2_changePrice σ (f_L_low (z >>> ((4 : Int32) &&& 31)) ((f_X2_numberOf σ 0) + 1)) (100 + (f_L_low (z >>> ((8 : Int32) &&& 31)) 9000))).2 := ok_setPrice hok (f_L_low (z >>> ((4 : Int32) &&& 31)) ((f_X2_numberOf σ 0) + 1)) (100 + (f_L_low (z >>> ((8 : Int32) &&& 31)) 9000))
      obtain ⟨_, _, _⟩ := okS_b hok4
      have hEH : lE v ad s H := lE_of hE hN hbA hS
      exact lc_fin (w := (m_X2_changePrice σ (f_L_low (z >>> ((4 : Int32) &&& 31)) ((f_X2_numberOf σ 0) + 1)) (100 + (f_L_low (z >>> ((8 : Int32) &&& 31)) 9000)))) hx hb hr hlk hB hU hS ((br_n c_49_0 (br_n c_49_1 (br_n c_49_2 (br_p c_49_3 (br_n c_215 rfl))))) : (m_X2_changePrice σ (f_L_low (z >>> ((4 : Int32) &&& 31)) ((f_X2_numberOf σ 0) + 1)) (100 + (f_L_low (z >>> ((8 : Int32) &&& 31)) 9000))) = m_L_changes σ z) dL_changes_244
    refine lv_aload_n hx hb dL_changes_218 rfl (lv_at hl 3 rfl) ?_
    refine lv_iload_n hx hb dL_changes_219 rfl (lv_at hl 2 rfl) ?_
    refine lb_Q (As := [.int (f_L_low (z >>> ((4 : Int32) &&& 31)) ((f_X2_numberOf σ 0) + 1))]) (w := (m_X2_advanceEdition σ (f_L_low (z >>> ((4 : Int32) &&& 31)) ((f_X2_numberOf σ 0) + 1)))) (rest := []) hx hb hml hown hts hK hI hB hEH hbA hS (cm_newEdition l (f_L_low (z >>> ((4 : Int32) &&& 31)) ((f_X2_numberOf σ 0) + 1)) hok) (kV_X3_newEdition hts ml_L_70 ⟨(Nat.le_of_ble_eq_true rfl), (Nat.le_of_ble_eq_true rfl)⟩) rfl hl.1 rfl (Nat.le_of_ble_eq_true rfl) dL_changes_220 (Nat.le_of_ble_eq_true rfl) (Nat.le_of_ble_eq_true rfl) (fun H locs hB hU hS => ?_)
    have hok5 : okS (m_X2_advanceEdition σ (f_L_low (z >>> ((4 : Int32) &&& 31)) ((f_X2_numberOf σ 0) + 1))).2 := ok_newEdition hok (f_L_low (z >>> ((4 : Int32) &&& 31)) ((f_X2_numberOf σ 0) + 1))
    obtain ⟨_, _, _⟩ := okS_b hok5
    have hEH : lE v ad s H := lE_of hE hN hbA hS
    refine lv_goto (tgt := 244) hx hb dL_changes_223 (by decide) ?_
    exact lc_fin (w := (m_X2_advanceEdition σ (f_L_low (z >>> ((4 : Int32) &&& 31)) ((f_X2_numberOf σ 0) + 1)))) hx hb hr hlk hB hU hS ((br_n c_49_0 (br_n c_49_1 (br_n c_49_2 (br_p c_49_3 (br_p c_215 rfl))))) : (m_X2_advanceEdition σ (f_L_low (z >>> ((4 : Int32) &&& 31)) ((f_X2_numberOf σ 0) + 1))) = m_L_changes σ z) dL_changes_244
  by_cases c_49_4 : (f_L_low z 18) = 4
  · refine lv_sw_in (k := 4) (tgt := 245) hx hb dL_changes_49 c_49_4 (by decide) (by decide) rfl (by decide) ?_
    refine lv_iload_n hx hb dL_changes_245 rfl (lv_at hl 4 rfl) ?_
    refine lv_iconst (v := 4) hx hb dL_changes_246 (by decide) ?_
    refine lv_ishr hx hb dL_changes_247 ?_
    refine lv_iconst (v := 3) hx hb dL_changes_248 (by decide) ?_
    refine lv_iand hx hb dL_changes_249 ?_
    refine lv_istore (lv' := [(5, .int ((z >>> ((4 : Int32) &&& 31)) &&& 3)), (4, .int ((f_L_low (z >>> ((4 : Int32) &&& 31)) ((f_X2_numberOf σ 2) + 1)))), (3, .int ((f_L_low (z >>> ((4 : Int32) &&& 31)) ((f_X2_numberOf σ 1) + 1)))), (2, .int ((f_L_low (z >>> ((4 : Int32) &&& 31)) ((f_X2_numberOf σ 0) + 1)))), (0, .ref ((ad 300))), (1, .int (z))]) hx hb dL_changes_250 hl (by decide) rfl (fun ls hl => ?_)
    refine lv_aload_n hx hb dL_changes_252 rfl (lv_at hl 4 rfl) ?_
    refine lv_iload hx hb dL_changes_253 (lv_at hl 0 rfl) ?_
    refine lv_iload hx hb dL_changes_255 (lv_at hl 0 rfl) ?_
    refine bj 304 (rest := [.int ((z >>> ((4 : Int32) &&& 31)) &&& 3), .ref ((ad 300))]) (v := (if ((z >>> ((4 : Int32) &&& 31)) &&& 3) = 0 then (10 + (f_L_low (z >>> ((6 : Int32) &&& 31)) 60)) else (if ((z >>> ((4 : Int32) &&& 31)) &&& 3) = 2 then (1 + (f_L_low (z >>> ((6 : Int32) &&& 31)) 60)) else (f_L_low (z >>> ((6 : Int32) &&& 31)) 51)))) (fun x6 hx6 => ?_) (fun J6 => ?_)
    · subst hx6
      refine lb_Q (As := [.int ((z >>> ((4 : Int32) &&& 31)) &&& 3), .int (if ((z >>> ((4 : Int32) &&& 31)) &&& 3) = 0 then (10 + (f_L_low (z >>> ((6 : Int32) &&& 31)) 60)) else (if ((z >>> ((4 : Int32) &&& 31)) &&& 3) = 2 then (1 + (f_L_low (z >>> ((6 : Int32) &&& 31)) 60)) else (f_L_low (z >>> ((6 : Int32) &&& 31)) 51)))]) (w := (m_X2_changeSetting σ ((z >>> ((4 : Int32) &&& 31)) &&& 3) (if ((z >>> ((4 : Int32) &&& 31)) &&& 3) = 0 then (10 + (f_L_low (z >>> ((6 : Int32) &&& 31)) 60)) else (if ((z >>> ((4 : Int32) &&& 31)) &&& 3) = 2 then (1 + (f_L_low (z >>> ((6 : Int32) &&& 31)) 60)) else (f_L_low (z >>> ((6 : Int32) &&& 31)) 51))))) (rest := []) hx hb hml hown hts hK hI hB hEH hbA hS (cm_set l ((z >>> ((4 : Int32) &&& 31)) &&& 3) (if ((z >>> ((4 : Int32) &&& 31)) &&& 3) = 0 then (10 + (f_L_low (z >>> ((6 : Int32) &&& 31)) 60)) else (if ((z >>> ((4 : Int32) &&& 31)) &&& 3) = 2 then (1 + (f_L_low (z >>> ((6 : Int32) &&& 31)) 60)) else (f_L_low (z >>> ((6 : Int32) &&& 31)) 51))) hok) (kV_X3_set hts ml_L_76 ⟨(Nat.le_of_ble_eq_true rfl), (Nat.le_of_ble_eq_true rfl)⟩) rfl hl.1 rfl (Nat.le_of_ble_eq_true rfl) dL_changes_304 (Nat.le_of_ble_eq_true rfl) (Nat.le_of_ble_eq_true rfl) (fun H locs hB hU hS => ?_)
      have hok7 : okS (m_X2_changeSetting σ ((z >>> ((4 : Int32) &&& 31)) &&& 3) (if ((z >>> ((4 : Int32) &&& 31)) &&& 3) = 0 then (10 + (f_L_low (z >>> ((6 : Int32) &&& 31)) 60)) else (if ((z >>> ((4 : Int32) &&& 31)) &&& 3) = 2 then (1 + (f_L_low (z >>> ((6 : Int32) &&& 31)) 60)) else (f_L_low (z >>> ((6 : Int32) &&& 31)) 51)))).2 := ok_set hok ((z >>> ((4 : Int32) &&& 31)) &&& 3) (if ((z >>> ((4 : Int32) &&& 31)) &&& 3) = 0 then (10 + (f_L_low (z >>> ((6 : Int32) &&& 31)) 60)) else (if ((z >>> ((4 : Int32) &&& 31)) &&& 3) = 2 then (1 + (f_L_low (z >>> ((6 : Int32) &&& 31)) 60)) else (f_L_low (z >>> ((6 : Int32) &&& 31)) 51)))
      obtain ⟨_, _, _⟩ := okS_b hok7
      have hEH : lE v ad s H := lE_of hE hN hbA hS
      exact lc_fin (w := (m_X2_changeSetting σ ((z >>> ((4 : Int32) &&& 31)) &&& 3) (if ((z >>> ((4 : Int32) &&& 31)) &&& 3) = 0 then (10 + (f_L_low (z >>> ((6 : Int32) &&& 31)) 60)) else (if ((z >>> ((4 : Int32) &&& 31)) &&& 3) = 2 then (1 + (f_L_low (z >>> ((6 : Int32) &&& 31)) 60)) else (f_L_low (z >>> ((6 : Int32) &&& 31)) 51))))) hx hb hr hlk hB hU hS ((br_n c_49_0 (br_n c_49_1 (br_n c_49_2 (br_n c_49_3 (br_p c_49_4 rfl))))) : (m_X2_changeSetting σ ((z >>> ((4 : Int32) &&& 31)) &&& 3) (if ((z >>> ((4 : Int32) &&& 31)) &&& 3) = 0 then (10 + (f_L_low (z >>> ((6 : Int32) &&& 31)) 60)) else (if ((z >>> ((4 : Int32) &&& 31)) &&& 3) = 2 then (1 + (f_L_low (z >>> ((6 : Int32) &&& 31)) 60)) else (f_L_low (z >>> ((6 : Int32) &&& 31)) 51)))) = m_L_changes σ z) dL_changes_307
    refine lv_if_ne (tgt := 275) hx hb dL_changes_257 (by decide) (fun c_257 => ?_) (fun c_257 => ?_)
    · refine lv_iload hx hb dL_changes_275 (lv_at hl 0 rfl) ?_
      refine lv_iconst (v := 2) hx hb dL_changes_277 (by decide) ?_
      refine lv_icmp_ne (tgt := 295) hx hb dL_changes_278 (by decide) (fun c_278 => ?_) (fun c_278 => ?_)
      · refine lv_iload_n hx hb dL_changes_295 rfl (lv_at hl 5 rfl) ?_
        refine lv_bipush (v := 6) hx hb dL_changes_296 (by decide) ?_
        refine lv_ishr hx hb dL_changes_298 ?_
        refine lv_bipush (v := 51) hx hb dL_changes_299 (by decide) ?_
        refine cl_S (As := [.int (z >>> ((6 : Int32) &&& 31)), .int 51]) (rest := [.int ((z >>> ((4 : Int32) &&& 31)) &&& 3), .ref ((ad 300))]) hx hb hml hown hts (c_L_low l (z >>> ((6 : Int32) &&& 31)) 51 (by decide)) (kS_L_low hts ml_L_58 ⟨(Nat.le_of_ble_eq_true rfl), (Nat.le_of_ble_eq_true rfl)⟩) rfl hl.1 rfl (Nat.le_of_ble_eq_true rfl) dL_changes_301 (Nat.le_of_ble_eq_true rfl) (Nat.le_of_ble_eq_true rfl) ?_
        exact J6 _ (br_n c_257 (br_n c_278 rfl))
      refine lv_iconst (v := 1) hx hb dL_changes_281 (by decide) ?_
      refine lv_iload_n hx hb dL_changes_282 rfl (lv_at hl 5 rfl) ?_
      refine lv_bipush (v := 6) hx hb dL_changes_283 (by decide) ?_
      refine lv_ishr hx hb dL_changes_285 ?_
      refine lv_bipush (v := 60) hx hb dL_changes_286 (by decide) ?_
      refine cl_S (As := [.int (z >>> ((6 : Int32) &&& 31)), .int 60]) (rest := [.int (1), .int ((z >>> ((4 : Int32) &&& 31)) &&& 3), .ref ((ad 300))]) hx hb hml hown hts (c_L_low l (z >>> ((6 : Int32) &&& 31)) 60 (by decide)) (kS_L_low hts ml_L_58 ⟨(Nat.le_of_ble_eq_true rfl), (Nat.le_of_ble_eq_true rfl)⟩) rfl hl.1 rfl (Nat.le_of_ble_eq_true rfl) dL_changes_288 (Nat.le_of_ble_eq_true rfl) (Nat.le_of_ble_eq_true rfl) ?_
      refine lv_iadd hx hb dL_changes_291 ?_
      refine lv_goto (tgt := 304) hx hb dL_changes_292 (by decide) ?_
      exact J6 _ (br_n c_257 (br_p c_278 rfl))
    refine lv_bipush (v := 10) hx hb dL_changes_260 (by decide) ?_
    refine lv_iload_n hx hb dL_changes_262 rfl (lv_at hl 5 rfl) ?_
    refine lv_bipush (v := 6) hx hb dL_changes_263 (by decide) ?_
    refine lv_ishr hx hb dL_changes_265 ?_
    refine lv_bipush (v := 60) hx hb dL_changes_266 (by decide) ?_
    refine cl_S (As := [.int (z >>> ((6 : Int32) &&& 31)), .int 60]) (rest := [.int (10), .int ((z >>> ((4 : Int32) &&& 31)) &&& 3), .ref ((ad 300))]) hx hb hml hown hts (c_L_low l (z >>> ((6 : Int32) &&& 31)) 60 (by decide)) (kS_L_low hts ml_L_58 ⟨(Nat.le_of_ble_eq_true rfl), (Nat.le_of_ble_eq_true rfl)⟩) rfl hl.1 rfl (Nat.le_of_ble_eq_true rfl) dL_changes_268 (Nat.le_of_ble_eq_true rfl) (Nat.le_of_ble_eq_true rfl) ?_
    refine lv_iadd hx hb dL_changes_271 ?_
    refine lv_goto (tgt := 304) hx hb dL_changes_272 (by decide) ?_
    exact J6 _ (br_p c_257 rfl)
  by_cases c_49_5 : (f_L_low z 18) = 5
  · refine lv_sw_in (k := 5) (tgt := 308) hx hb dL_changes_49 c_49_5 (by decide) (by decide) rfl (by decide) ?_
    refine lv_aload_n hx hb dL_changes_308 rfl (lv_at hl 3 rfl) ?_
    refine lv_iload_n hx hb dL_changes_309 rfl (lv_at hl 2 rfl) ?_
    refine lv_iconst (v := 1) hx hb dL_changes_310 (by decide) ?_
    refine lv_iload_n hx hb dL_changes_311 rfl (lv_at hl 4 rfl) ?_
    refine lv_bipush (v := 7) hx hb dL_changes_312 (by decide) ?_
    refine lv_ishr hx hb dL_changes_314 ?_
    refine lv_iconst (v := 5) hx hb dL_changes_315 (by decide) ?_
    refine cl_S (As := [.int (z >>> ((7 : Int32) &&& 31)), .int 5]) (rest := [.int (1), .int ((f_L_low (z >>> ((4 : Int32) &&& 31)) ((f_X2_numberOf σ 0) + 1))), .ref ((ad 300))]) hx hb hml hown hts (c_L_low l (z >>> ((7 : Int32) &&& 31)) 5 (by decide)) (kS_L_low hts ml_L_58 ⟨(Nat.le_of_ble_eq_true rfl), (Nat.le_of_ble_eq_true rfl)⟩) rfl hl.1 rfl (Nat.le_of_ble_eq_true rfl) dL_changes_316 (Nat.le_of_ble_eq_true rfl) (Nat.le_of_ble_eq_true rfl) ?_
    refine lv_iadd hx hb dL_changes_319 ?_
    refine lb_Q (As := [.int (f_L_low (z >>> ((4 : Int32) &&& 31)) ((f_X2_numberOf σ 0) + 1)), .int (1 + (f_L_low (z >>> ((7 : Int32) &&& 31)) 5))]) (w := (m_X2_buyNew σ (f_L_low (z >>> ((4 : Int32) &&& 31)) ((f_X2_numberOf σ 0) + 1)) (1 + (f_L_low (z >>> ((7 : Int32) &&& 31)) 5)))) (rest := []) hx hb hml hown hts hK hI hB hEH hbA hS (cm_buy l (f_L_low (z >>> ((4 : Int32) &&& 31)) ((f_X2_numberOf σ 0) + 1)) (1 + (f_L_low (z >>> ((7 : Int32) &&& 31)) 5)) hok) (kV_X3_buy hts ml_L_79 ⟨(Nat.le_of_ble_eq_true rfl), (Nat.le_of_ble_eq_true rfl)⟩) rfl hl.1 rfl (Nat.le_of_ble_eq_true rfl) dL_changes_320 (Nat.le_of_ble_eq_true rfl) (Nat.le_of_ble_eq_true rfl) (fun H locs hB hU hS => ?_)
    have hok8 : okS (m_X2_buyNew σ (f_L_low (z >>> ((4 : Int32) &&& 31)) ((f_X2_numberOf σ 0) + 1)) (1 + (f_L_low (z >>> ((7 : Int32) &&& 31)) 5))).2 := ok_buy hok (f_L_low (z >>> ((4 : Int32) &&& 31)) ((f_X2_numberOf σ 0) + 1)) (1 + (f_L_low (z >>> ((7 : Int32) &&& 31)) 5))
    obtain ⟨_, _, _⟩ := okS_b hok8
    have hEH : lE v ad s H := lE_of hE hN hbA hS
    exact lc_fin (w := (m_X2_buyNew σ (f_L_low (z >>> ((4 : Int32) &&& 31)) ((f_X2_numberOf σ 0) + 1)) (1 + (f_L_low (z >>> ((7 : Int32) &&& 31)) 5)))) hx hb hr hlk hB hU hS ((br_n c_49_0 (br_n c_49_1 (br_n c_49_2 (br_n c_49_3 (br_n c_49_4 (br_p c_49_5 rfl)))))) : (m_X2_buyNew σ (f_L_low (z >>> ((4 : Int32) &&& 31)) ((f_X2_numberOf σ 0) + 1)) (1 + (f_L_low (z >>> ((7 : Int32) &&& 31)) 5))) = m_L_changes σ z) dL_changes_323
  by_cases c_49_6 : (f_L_low z 18) = 6
  · refine lv_sw_in (k := 6) (tgt := 308) hx hb dL_changes_49 c_49_6 (by decide) (by decide) rfl (by decide) ?_
    refine lv_aload_n hx hb dL_changes_308 rfl (lv_at hl 3 rfl) ?_
    refine lv_iload_n hx hb dL_changes_309 rfl (lv_at hl 2 rfl) ?_
    refine lv_iconst (v := 1) hx hb dL_changes_310 (by decide) ?_
    refine lv_iload_n hx hb dL_changes_311 rfl (lv_at hl 4 rfl) ?_
    refine lv_bipush (v := 7) hx hb dL_changes_312 (by decide) ?_
    refine lv_ishr hx hb dL_changes_314 ?_
    refine lv_iconst (v := 5) hx hb dL_changes_315 (by decide) ?_
    refine cl_S (As := [.int (z >>> ((7 : Int32) &&& 31)), .int 5]) (rest := [.int (1), .int ((f_L_low (z >>> ((4 : Int32) &&& 31)) ((f_X2_numberOf σ 0) + 1))), .ref ((ad 300))]) hx hb hml hown hts (c_L_low l (z >>> ((7 : Int32) &&& 31)) 5 (by decide)) (kS_L_low hts ml_L_58 ⟨(Nat.le_of_ble_eq_true rfl), (Nat.le_of_ble_eq_true rfl)⟩) rfl hl.1 rfl (Nat.le_of_ble_eq_true rfl) dL_changes_316 (Nat.le_of_ble_eq_true rfl) (Nat.le_of_ble_eq_true rfl) ?_
    refine lv_iadd hx hb dL_changes_319 ?_
    refine lb_Q (As := [.int (f_L_low (z >>> ((4 : Int32) &&& 31)) ((f_X2_numberOf σ 0) + 1)), .int (1 + (f_L_low (z >>> ((7 : Int32) &&& 31)) 5))]) (w := (m_X2_buyNew σ (f_L_low (z >>> ((4 : Int32) &&& 31)) ((f_X2_numberOf σ 0) + 1)) (1 + (f_L_low (z >>> ((7 : Int32) &&& 31)) 5)))) (rest := []) hx hb hml hown hts hK hI hB hEH hbA hS (cm_buy l (f_L_low (z >>> ((4 : Int32) &&& 31)) ((f_X2_numberOf σ 0) + 1)) (1 + (f_L_low (z >>> ((7 : Int32) &&& 31)) 5)) hok) (kV_X3_buy hts ml_L_79 ⟨(Nat.le_of_ble_eq_true rfl), (Nat.le_of_ble_eq_true rfl)⟩) rfl hl.1 rfl (Nat.le_of_ble_eq_true rfl) dL_changes_320 (Nat.le_of_ble_eq_true rfl) (Nat.le_of_ble_eq_true rfl) (fun H locs hB hU hS => ?_)
    have hok9 : okS (m_X2_buyNew σ (f_L_low (z >>> ((4 : Int32) &&& 31)) ((f_X2_numberOf σ 0) + 1)) (1 + (f_L_low (z >>> ((7 : Int32) &&& 31)) 5))).2 := ok_buy hok (f_L_low (z >>> ((4 : Int32) &&& 31)) ((f_X2_numberOf σ 0) + 1)) (1 + (f_L_low (z >>> ((7 : Int32) &&& 31)) 5))
    obtain ⟨_, _, _⟩ := okS_b hok9
    have hEH : lE v ad s H := lE_of hE hN hbA hS
    exact lc_fin (w := (m_X2_buyNew σ (f_L_low (z >>> ((4 : Int32) &&& 31)) ((f_X2_numberOf σ 0) + 1)) (1 + (f_L_low (z >>> ((7 : Int32) &&& 31)) 5)))) hx hb hr hlk hB hU hS ((br_n c_49_0 (br_n c_49_1 (br_n c_49_2 (br_n c_49_3 (br_n c_49_4 (br_n c_49_5 (br_p c_49_6 rfl))))))) : (m_X2_buyNew σ (f_L_low (z >>> ((4 : Int32) &&& 31)) ((f_X2_numberOf σ 0) + 1)) (1 + (f_L_low (z >>> ((7 : Int32) &&& 31)) 5))) = m_L_changes σ z) dL_changes_323
  by_cases c_49_7 : (f_L_low z 18) = 7
  · refine lv_sw_in (k := 7) (tgt := 324) hx hb dL_changes_49 c_49_7 (by decide) (by decide) rfl (by decide) ?_
    refine lv_aload_n hx hb dL_changes_324 rfl (lv_at hl 3 rfl) ?_
    refine lv_iload_n hx hb dL_changes_325 rfl (lv_at hl 2 rfl) ?_
    refine lv_iconst (v := 1) hx hb dL_changes_326 (by decide) ?_
    refine lv_iload_n hx hb dL_changes_327 rfl (lv_at hl 4 rfl) ?_
    refine lv_bipush (v := 7) hx hb dL_changes_328 (by decide) ?_
    refine lv_ishr hx hb dL_changes_330 ?_
    refine lv_bipush (v := 12) hx hb dL_changes_331 (by decide) ?_
    refine cl_S (As := [.int (z >>> ((7 : Int32) &&& 31)), .int 12]) (rest := [.int (1), .int ((f_L_low (z >>> ((4 : Int32) &&& 31)) ((f_X2_numberOf σ 0) + 1))), .ref ((ad 300))]) hx hb hml hown hts (c_L_low l (z >>> ((7 : Int32) &&& 31)) 12 (by decide)) (kS_L_low hts ml_L_58 ⟨(Nat.le_of_ble_eq_true rfl), (Nat.le_of_ble_eq_true rfl)⟩) rfl hl.1 rfl (Nat.le_of_ble_eq_true rfl) dL_changes_333 (Nat.le_of_ble_eq_true rfl) (Nat.le_of_ble_eq_true rfl) ?_
    refine lv_iadd hx hb dL_changes_336 ?_
    refine lv_iload_n hx hb dL_changes_337 rfl (lv_at hl 4 rfl) ?_
    refine lv_bipush (v := 11) hx hb dL_changes_338 (by decide) ?_
    refine lv_ishr hx hb dL_changes_340 ?_
    refine lv_iconst (v := 5) hx hb dL_changes_341 (by decide) ?_
    refine cl_S (As := [.int (z >>> ((11 : Int32) &&& 31)), .int 5]) (rest := [.int (1 + (f_L_low (z >>> ((7 : Int32) &&& 31)) 12)), .int ((f_L_low (z >>> ((4 : Int32) &&& 31)) ((f_X2_numberOf σ 0) + 1))), .ref ((ad 300))]) hx hb hml hown hts (c_L_low l (z >>> ((11 : Int32) &&& 31)) 5 (by decide)) (kS_L_low hts ml_L_58 ⟨(Nat.le_of_ble_eq_true rfl), (Nat.le_of_ble_eq_true rfl)⟩) rfl hl.1 rfl (Nat.le_of_ble_eq_true rfl) dL_changes_342 (Nat.le_of_ble_eq_true rfl) (Nat.le_of_ble_eq_true rfl) ?_
    refine lb_Q (As := [.int (f_L_low (z >>> ((4 : Int32) &&& 31)) ((f_X2_numberOf σ 0) + 1)), .int (1 + (f_L_low (z >>> ((7 : Int32) &&& 31)) 12)), .int (f_L_low (z >>> ((11 : Int32) &&& 31)) 5)]) (w := (m_X2_buyUsed σ (f_L_low (z >>> ((4 : Int32) &&& 31)) ((f_X2_numberOf σ 0) + 1)) (1 + (f_L_low (z >>> ((7 : Int32) &&& 31)) 12)) (f_L_low (z >>> ((11 : Int32) &&& 31)) 5))) (rest := []) hx hb hml hown hts hK hI hB hEH hbA hS (cm_buyBack l (f_L_low (z >>> ((4 : Int32) &&& 31)) ((f_X2_numberOf σ 0) + 1)) (1 + (f_L_low (z >>> ((7 : Int32) &&& 31)) 12)) (f_L_low (z >>> ((11 : Int32) &&& 31)) 5) hok) (kV_X3_buyBack hts ml_L_82 ⟨(Nat.le_of_ble_eq_true rfl), (Nat.le_of_ble_eq_true rfl)⟩) rfl hl.1 rfl (Nat.le_of_ble_eq_true rfl) dL_changes_345 (Nat.le_of_ble_eq_true rfl) (Nat.le_of_ble_eq_true rfl) (fun H locs hB hU hS => ?_)
    have hok10 : okS (m_X2_buyUsed σ (f_L_low (z >>> ((4 : Int32) &&& 31)) ((f_X2_numberOf σ 0) + 1)) (1 + (f_L_low (z >>> ((7 : Int32) &&& 31)) 12)) (f_L_low (z >>> ((11 : Int32) &&& 31)) 5)).2 := ok_buyBack hok (f_L_low (z >>> ((4 : Int32) &&& 31)) ((f_X2_numberOf σ 0) + 1)) (1 + (f_L_low (z >>> ((7 : Int32) &&& 31)) 12)) (f_L_low (z >>> ((11 : Int32) &&& 31)) 5)
    obtain ⟨_, _, _⟩ := okS_b hok10
    have hEH : lE v ad s H := lE_of hE hN hbA hS
    exact lc_fin (w := (m_X2_buyUsed σ (f_L_low (z >>> ((4 : Int32) &&& 31)) ((f_X2_numberOf σ 0) + 1)) (1 + (f_L_low (z >>> ((7 : Int32) &&& 31)) 12)) (f_L_low (z >>> ((11 : Int32) &&& 31)) 5))) hx hb hr hlk hB hU hS ((br_n c_49_0 (br_n c_49_1 (br_n c_49_2 (br_n c_49_3 (br_n c_49_4 (br_n c_49_5 (br_n c_49_6 (br_p c_49_7 rfl)))))))) : (m_X2_buyUsed σ (f_L_low (z >>> ((4 : Int32) &&& 31)) ((f_X2_numberOf σ 0) + 1)) (1 + (f_L_low (z >>> ((7 : Int32) &&& 31)) 12)) (f_L_low (z >>> ((11 : Int32) &&& 31)) 5)) = m_L_changes σ z) dL_changes_348
  by_cases c_49_8 : (f_L_low z 18) = 8
  · refine lv_sw_in (k := 8) (tgt := 349) hx hb dL_changes_49 c_49_8 (by decide) (by decide) rfl (by decide) ?_
    refine lv_aload_n hx hb dL_changes_349 rfl (lv_at hl 3 rfl) ?_
    refine lv_iload_n hx hb dL_changes_350 rfl (lv_at hl 1 rfl) ?_
    refine lb_Q (As := [.int (f_L_low (z >>> ((4 : Int32) &&& 31)) ((f_X2_numberOf σ 1) + 1))]) (w := (m_X2_sellCopy σ (f_L_low (z >>> ((4 : Int32) &&& 31)) ((f_X2_numberOf σ 1) + 1)))) (rest := []) hx hb hml hown hts hK hI hB hEH hbA hS (cm_sell l (f_L_low (z >>> ((4 : Int32) &&& 31)) ((f_X2_numberOf σ 1) + 1)) hok) (kV_X3_sell hts ml_L_85 ⟨(Nat.le_of_ble_eq_true rfl), (Nat.le_of_ble_eq_true rfl)⟩) rfl hl.1 rfl (Nat.le_of_ble_eq_true rfl) dL_changes_351 (Nat.le_of_ble_eq_true rfl) (Nat.le_of_ble_eq_true rfl) (fun H locs hB hU hS => ?_)
    have hok11 : okS (m_X2_sellCopy σ (f_L_low (z >>> ((4 : Int32) &&& 31)) ((f_X2_numberOf σ 1) + 1))).2 := ok_sell hok (f_L_low (z >>> ((4 : Int32) &&& 31)) ((f_X2_numberOf σ 1) + 1))
    obtain ⟨_, _, _⟩ := okS_b hok11
    have hEH : lE v ad s H := lE_of hE hN hbA hS
    exact lc_fin (w := (m_X2_sellCopy σ (f_L_low (z >>> ((4 : Int32) &&& 31)) ((f_X2_numberOf σ 1) + 1)))) hx hb hr hlk hB hU hS ((br_n c_49_0 (br_n c_49_1 (br_n c_49_2 (br_n c_49_3 (br_n c_49_4 (br_n c_49_5 (br_n c_49_6 (br_n c_49_7 (br_p c_49_8 rfl))))))))) : (m_X2_sellCopy σ (f_L_low (z >>> ((4 : Int32) &&& 31)) ((f_X2_numberOf σ 1) + 1))) = m_L_changes σ z) dL_changes_354
  by_cases c_49_9 : (f_L_low z 18) = 9
  · refine lv_sw_in (k := 9) (tgt := 355) hx hb dL_changes_49 c_49_9 (by decide) (by decide) rfl (by decide) ?_
    refine lv_aload_n hx hb dL_changes_355 rfl (lv_at hl 3 rfl) ?_
    refine lv_iload_n hx hb dL_changes_356 rfl (lv_at hl 4 rfl) ?_
    refine lv_bipush (v := 8) hx hb dL_changes_357 (by decide) ?_
    refine lv_ishr hx hb dL_changes_359 ?_
    refine lv_bipush (v := 8) hx hb dL_changes_360 (by decide) ?_
    refine cl_S (As := [.int (z >>> ((8 : Int32) &&& 31)), .int 8]) (rest := [.ref ((ad 300))]) hx hb hml hown hts (c_L_low l (z >>> ((8 : Int32) &&& 31)) 8 (by decide)) (kS_L_low hts ml_L_58 ⟨(Nat.le_of_ble_eq_true rfl), (Nat.le_of_ble_eq_true rfl)⟩) rfl hl.1 rfl (Nat.le_of_ble_eq_true rfl) dL_changes_362 (Nat.le_of_ble_eq_true rfl) (Nat.le_of_ble_eq_true rfl) ?_
    refine lv_iload hx hb dL_changes_365 (lv_at hl 0 rfl) ?_
    refine lb_Q (As := [.int (f_L_low (z >>> ((8 : Int32) &&& 31)) 8), .int (f_L_low (z >>> ((4 : Int32) &&& 31)) ((f_X2_numberOf σ 2) + 1))]) (w := (m_X2_rentCopy σ (f_L_low (z >>> ((8 : Int32) &&& 31)) 8) (f_L_low (z >>> ((4 : Int32) &&& 31)) ((f_X2_numberOf σ 2) + 1)))) (rest := []) hx hb hml hown hts hK hI hB hEH hbA hS (cm_rent l (f_L_low (z >>> ((8 : Int32) &&& 31)) 8) (f_L_low (z >>> ((4 : Int32) &&& 31)) ((f_X2_numberOf σ 2) + 1)) hok) (kV_X3_rent hts ml_L_88 ⟨(Nat.le_of_ble_eq_true rfl), (Nat.le_of_ble_eq_true rfl)⟩) rfl hl.1 rfl (Nat.le_of_ble_eq_true rfl) dL_changes_367 (Nat.le_of_ble_eq_true rfl) (Nat.le_of_ble_eq_true rfl) (fun H locs hB hU hS => ?_)
    have hok12 : okS (m_X2_rentCopy σ (f_L_low (z >>> ((8 : Int32) &&& 31)) 8) (f_L_low (z >>> ((4 : Int32) &&& 31)) ((f_X2_numberOf σ 2) + 1))).2 := ok_rent hok (f_L_low (z >>> ((8 : Int32) &&& 31)) 8) (f_L_low (z >>> ((4 : Int32) &&& 31)) ((f_X2_numberOf σ 2) + 1))
    obtain ⟨_, _, _⟩ := okS_b hok12
    have hEH : lE v ad s H := lE_of hE hN hbA hS
    exact lc_fin (w := (m_X2_rentCopy σ (f_L_low (z >>> ((8 : Int32) &&& 31)) 8) (f_L_low (z >>> ((4 : Int32) &&& 31)) ((f_X2_numberOf σ 2) + 1)))) hx hb hr hlk hB hU hS ((br_n c_49_0 (br_n c_49_1 (br_n c_49_2 (br_n c_49_3 (br_n c_49_4 (br_n c_49_5 (br_n c_49_6 (br_n c_49_7 (br_n c_49_8 (br_p c_49_9 rfl)))))))))) : (m_X2_rentCopy σ (f_L_low (z >>> ((8 : Int32) &&& 31)) 8) (f_L_low (z >>> ((4 : Int32) &&& 31)) ((f_X2_numberOf σ 2) + 1))) = m_L_changes σ z) dL_changes_370
  by_cases c_49_10 : (f_L_low z 18) = 10
  · refine lv_sw_in (k := 10) (tgt := 355) hx hb dL_changes_49 c_49_10 (by decide) (by decide) rfl (by decide) ?_
    refine lv_aload_n hx hb dL_changes_355 rfl (lv_at hl 3 rfl) ?_
    refine lv_iload_n hx hb dL_changes_356 rfl (lv_at hl 4 rfl) ?_
    refine lv_bipush (v := 8) hx hb dL_changes_357 (by decide) ?_
    refine lv_ishr hx hb dL_changes_359 ?_
    refine lv_bipush (v := 8) hx hb dL_changes_360 (by decide) ?_
    refine cl_S (As := [.int (z >>> ((8 : Int32) &&& 31)), .int 8]) (rest := [.ref ((ad 300))]) hx hb hml hown hts (c_L_low l (z >>> ((8 : Int32) &&& 31)) 8 (by decide)) (kS_L_low hts ml_L_58 ⟨(Nat.le_of_ble_eq_true rfl), (Nat.le_of_ble_eq_true rfl)⟩) rfl hl.1 rfl (Nat.le_of_ble_eq_true rfl) dL_changes_362 (Nat.le_of_ble_eq_true rfl) (Nat.le_of_ble_eq_true rfl) ?_
    refine lv_iload hx hb dL_changes_365 (lv_at hl 0 rfl) ?_
    refine lb_Q (As := [.int (f_L_low (z >>> ((8 : Int32) &&& 31)) 8), .int (f_L_low (z >>> ((4 : Int32) &&& 31)) ((f_X2_numberOf σ 2) + 1))]) (w := (m_X2_rentCopy σ (f_L_low (z >>> ((8 : Int32) &&& 31)) 8) (f_L_low (z >>> ((4 : Int32) &&& 31)) ((f_X2_numberOf σ 2) + 1)))) (rest := []) hx hb hml hown hts hK hI hB hEH hbA hS (cm_rent l (f_L_low (z >>> ((8 : Int32) &&& 31)) 8) (f_L_low (z >>> ((4 : Int32) &&& 31)) ((f_X2_numberOf σ 2) + 1)) hok) (kV_X3_rent hts ml_L_88 ⟨(Nat.le_of_ble_eq_true rfl), (Nat.le_of_ble_eq_true rfl)⟩) rfl hl.1 rfl (Nat.le_of_ble_eq_true rfl) dL_changes_367 (Nat.le_of_ble_eq_true rfl) (Nat.le_of_ble_eq_true rfl) (fun H locs hB hU hS => ?_)
    have hok13 : okS (m_X2_rentCopy σ (f_L_low (z >>> ((8 : Int32) &&& 31)) 8) (f_L_low (z >>> ((4 : Int32) &&& 31)) ((f_X2_numberOf σ 2) + 1))).2 := ok_rent hok (f_L_low (z >>> ((8 : Int32) &&& 31)) 8) (f_L_low (z >>> ((4 : Int32) &&& 31)) ((f_X2_numberOf σ 2) + 1))
    obtain ⟨_, _, _⟩ := okS_b hok13
    have hEH : lE v ad s H := lE_of hE hN hbA hS
    exact lc_fin (w := (m_X2_rentCopy σ (f_L_low (z >>> ((8 : Int32) &&& 31)) 8) (f_L_low (z >>> ((4 : Int32) &&& 31)) ((f_X2_numberOf σ 2) + 1)))) hx hb hr hlk hB hU hS ((br_n c_49_0 (br_n c_49_1 (br_n c_49_2 (br_n c_49_3 (br_n c_49_4 (br_n c_49_5 (br_n c_49_6 (br_n c_49_7 (br_n c_49_8 (br_n c_49_9 (br_p c_49_10 rfl))))))))))) : (m_X2_rentCopy σ (f_L_low (z >>> ((8 : Int32) &&& 31)) 8) (f_L_low (z >>> ((4 : Int32) &&& 31)) ((f_X2_numberOf σ 2) + 1))) = m_L_changes σ z) dL_changes_370
  by_cases c_49_11 : (f_L_low z 18) = 11
  · refine lv_sw_in (k := 11) (tgt := 355) hx hb dL_changes_49 c_49_11 (by decide) (by decide) rfl (by decide) ?_
    refine lv_aload_n hx hb dL_changes_355 rfl (lv_at hl 3 rfl) ?_
    refine lv_iload_n hx hb dL_changes_356 rfl (lv_at hl 4 rfl) ?_
    refine lv_bipush (v := 8) hx hb dL_changes_357 (by decide) ?_
    refine lv_ishr hx hb dL_changes_359 ?_
    refine lv_bipush (v := 8) hx hb dL_changes_360 (by decide) ?_
    refine cl_S (As := [.int (z >>> ((8 : Int32) &&& 31)), .int 8]) (rest := [.ref ((ad 300))]) hx hb hml hown hts (c_L_low l (z >>> ((8 : Int32) &&& 31)) 8 (by decide)) (kS_L_low hts ml_L_58 ⟨(Nat.le_of_ble_eq_true rfl), (Nat.le_of_ble_eq_true rfl)⟩) rfl hl.1 rfl (Nat.le_of_ble_eq_true rfl) dL_changes_362 (Nat.le_of_ble_eq_true rfl) (Nat.le_of_ble_eq_true rfl) ?_
    refine lv_iload hx hb dL_changes_365 (lv_at hl 0 rfl) ?_
    refine lb_Q (As := [.int (f_L_low (z >>> ((8 : Int32) &&& 31)) 8), .int (f_L_low (z >>> ((4 : Int32) &&& 31)) ((f_X2_numberOf σ 2) + 1))]) (w := (m_X2_rentCopy σ (f_L_low (z >>> ((8 : Int32) &&& 31)) 8) (f_L_low (z >>> ((4 : Int32) &&& 31)) ((f_X2_numberOf σ 2) + 1)))) (rest := []) hx hb hml hown hts hK hI hB hEH hbA hS (cm_rent l (f_L_low (z >>> ((8 : Int32) &&& 31)) 8) (f_L_low (z >>> ((4 : Int32) &&& 31)) ((f_X2_numberOf σ 2) + 1)) hok) (kV_X3_rent hts ml_L_88 ⟨(Nat.le_of_ble_eq_true rfl), (Nat.le_of_ble_eq_true rfl)⟩) rfl hl.1 rfl (Nat.le_of_ble_eq_true rfl) dL_changes_367 (Nat.le_of_ble_eq_true rfl) (Nat.le_of_ble_eq_true rfl) (fun H locs hB hU hS => ?_)
    have hok14 : okS (m_X2_rentCopy σ (f_L_low (z >>> ((8 : Int32) &&& 31)) 8) (f_L_low (z >>> ((4 : Int32) &&& 31)) ((f_X2_numberOf σ 2) + 1))).2 := ok_rent hok (f_L_low (z >>> ((8 : Int32) &&& 31)) 8) (f_L_low (z >>> ((4 : Int32) &&& 31)) ((f_X2_numberOf σ 2) + 1))
    obtain ⟨_, _, _⟩ := okS_b hok14
    have hEH : lE v ad s H := lE_of hE hN hbA hS
    exact lc_fin (w := (m_X2_rentCopy σ (f_L_low (z >>> ((8 : Int32) &&& 31)) 8) (f_L_low (z >>> ((4 : Int32) &&& 31)) ((f_X2_numberOf σ 2) + 1)))) hx hb hr hlk hB hU hS ((br_n c_49_0 (br_n c_49_1 (br_n c_49_2 (br_n c_49_3 (br_n c_49_4 (br_n c_49_5 (br_n c_49_6 (br_n c_49_7 (br_n c_49_8 (br_n c_49_9 (br_n c_49_10 (br_p c_49_11 rfl)))))))))))) : (m_X2_rentCopy σ (f_L_low (z >>> ((8 : Int32) &&& 31)) 8) (f_L_low (z >>> ((4 : Int32) &&& 31)) ((f_X2_numberOf σ 2) + 1))) = m_L_changes σ z) dL_changes_370
  by_cases c_49_12 : (f_L_low z 18) = 12
  · refine lv_sw_in (k := 12) (tgt := 355) hx hb dL_changes_49 c_49_12 (by decide) (by decide) rfl (by decide) ?_
    refine lv_aload_n hx hb dL_changes_355 rfl (lv_at hl 3 rfl) ?_
    refine lv_iload_n hx hb dL_changes_356 rfl (lv_at hl 4 rfl) ?_
    refine lv_bipush (v := 8) hx hb dL_changes_357 (by decide) ?_
    refine lv_ishr hx hb dL_changes_359 ?_
    refine lv_bipush (v := 8) hx hb dL_changes_360 (by decide) ?_
    refine cl_S (As := [.int (z >>> ((8 : Int32) &&& 31)), .int 8]) (rest := [.ref ((ad 300))]) hx hb hml hown hts (c_L_low l (z >>> ((8 : Int32) &&& 31)) 8 (by decide)) (kS_L_low hts ml_L_58 ⟨(Nat.le_of_ble_eq_true rfl), (Nat.le_of_ble_eq_true rfl)⟩) rfl hl.1 rfl (Nat.le_of_ble_eq_true rfl) dL_changes_362 (Nat.le_of_ble_eq_true rfl) (Nat.le_of_ble_eq_true rfl) ?_
    refine lv_iload hx hb dL_changes_365 (lv_at hl 0 rfl) ?_
    refine lb_Q (As := [.int (f_L_low (z >>> ((8 : Int32) &&& 31)) 8), .int (f_L_low (z >>> ((4 : Int32) &&& 31)) ((f_X2_numberOf σ 2) + 1))]) (w := (m_X2_rentCopy σ (f_L_low (z >>> ((8 : Int32) &&& 31)) 8) (f_L_low (z >>> ((4 : Int32) &&& 31)) ((f_X2_numberOf σ 2) + 1)))) (rest := []) hx hb hml hown hts hK hI hB hEH hbA hS (cm_rent l (f_L_low (z >>> ((8 : Int32) &&& 31)) 8) (f_L_low (z >>> ((4 : Int32) &&& 31)) ((f_X2_numberOf σ 2) + 1)) hok) (kV_X3_rent hts ml_L_88 ⟨(Nat.le_of_ble_eq_true rfl), (Nat.le_of_ble_eq_true rfl)⟩) rfl hl.1 rfl (Nat.le_of_ble_eq_true rfl) dL_changes_367 (Nat.le_of_ble_eq_true rfl) (Nat.le_of_ble_eq_true rfl) (fun H locs hB hU hS => ?_)
    have hok15 : okS (m_X2_rentCopy σ (f_L_low (z >>> ((8 : Int32) &&& 31)) 8) (f_L_low (z >>> ((4 : Int32) &&& 31)) ((f_X2_numberOf σ 2) + 1))).2 := ok_rent hok (f_L_low (z >>> ((8 : Int32) &&& 31)) 8) (f_L_low (z >>> ((4 : Int32) &&& 31)) ((f_X2_numberOf σ 2) + 1))
    obtain ⟨_, _, _⟩ := okS_b hok15
    have hEH : lE v ad s H := lE_of hE hN hbA hS
    exact lc_fin (w := (m_X2_rentCopy σ (f_L_low (z >>> ((8 : Int32) &&& 31)) 8) (f_L_low (z >>> ((4 : Int32) &&& 31)) ((f_X2_numberOf σ 2) + 1)))) hx hb hr hlk hB hU hS ((br_n c_49_0 (br_n c_49_1 (br_n c_49_2 (br_n c_49_3 (br_n c_49_4 (br_n c_49_5 (br_n c_49_6 (br_n c_49_7 (br_n c_49_8 (br_n c_49_9 (br_n c_49_10 (br_n c_49_11 (br_p c_49_12 rfl))))))))))))) : (m_X2_rentCopy σ (f_L_low (z >>> ((8 : Int32) &&& 31)) 8) (f_L_low (z >>> ((4 : Int32) &&& 31)) ((f_X2_numberOf σ 2) + 1))) = m_L_changes σ z) dL_changes_370
  by_cases c_49_13 : (f_L_low z 18) = 13
  · refine lv_sw_in (k := 13) (tgt := 371) hx hb dL_changes_49 c_49_13 (by decide) (by decide) rfl (by decide) ?_
    refine lv_aload_n hx hb dL_changes_371 rfl (lv_at hl 3 rfl) ?_
    refine lv_iload_n hx hb dL_changes_372 rfl (lv_at hl 1 rfl) ?_
    refine lv_iload_n hx hb dL_changes_373 rfl (lv_at hl 4 rfl) ?_
    refine lv_bipush (v := 10) hx hb dL_changes_374 (by decide) ?_
    refine lv_ishr hx hb dL_changes_376 ?_
    refine lv_iconst (v := 5) hx hb dL_changes_377 (by decide) ?_
    refine cl_S (As := [.int (z >>> ((10 : Int32) &&& 31)), .int 5]) (rest := [.int ((f_L_low (z >>> ((4 : Int32) &&& 31)) ((f_X2_numberOf σ 1) + 1))), .ref ((ad 300))]) hx hb hml hown hts (c_L_low l (z >>> ((10 : Int32) &&& 31)) 5 (by decide)) (kS_L_low hts ml_L_58 ⟨(Nat.le_of_ble_eq_true rfl), (Nat.le_of_ble_eq_true rfl)⟩) rfl hl.1 rfl (Nat.le_of_ble_eq_true rfl) dL_changes_378 (Nat.le_of_ble_eq_true rfl) (Nat.le_of_ble_eq_true rfl) ?_
    refine lb_Q (As := [.int (f_L_low (z >>> ((4 : Int32) &&& 31)) ((f_X2_numberOf σ 1) + 1)), .int (f_L_low (z >>> ((10 : Int32) &&& 31)) 5)]) (w := (m_X2_takeBack σ (f_L_low (z >>> ((4 : Int32) &&& 31)) ((f_X2_numberOf σ 1) + 1)) (f_L_low (z >>> ((10 : Int32) &&& 31)) 5))) (rest := []) hx hb hml hown hts hK hI hB hEH hbA hS (cm_giveBack l (f_L_low (z >>> ((4 : Int32) &&& 31)) ((f_X2_numberOf σ 1) + 1)) (f_L_low (z >>> ((10 : Int32) &&& 31)) 5) hok) (kV_X3_giveBack hts ml_L_46 ⟨(Nat.le_of_ble_eq_true rfl), (Nat.le_of_ble_eq_true rfl)⟩) rfl hl.1 rfl (Nat.le_of_ble_eq_true rfl) dL_changes_381 (Nat.le_of_ble_eq_true rfl) (Nat.le_of_ble_eq_true rfl) (fun H locs hB hU hS => ?_)
    have hok16 : okS (m_X2_takeBack σ (f_L_low (z >>> ((4 : Int32) &&& 31)) ((f_X2_numberOf σ 1) + 1)) (f_L_low (z >>> ((10 : Int32) &&& 31)) 5)).2 := ok_giveBack hok (f_L_low (z >>> ((4 : Int32) &&& 31)) ((f_X2_numberOf σ 1) + 1)) (f_L_low (z >>> ((10 : Int32) &&& 31)) 5)
    obtain ⟨_, _, _⟩ := okS_b hok16
    have hEH : lE v ad s H := lE_of hE hN hbA hS
    exact lc_fin (w := (m_X2_takeBack σ (f_L_low (z >>> ((4 : Int32) &&& 31)) ((f_X2_numberOf σ 1) + 1)) (f_L_low (z >>> ((10 : Int32) &&& 31)) 5))) hx hb hr hlk hB hU hS ((br_n c_49_0 (br_n c_49_1 (br_n c_49_2 (br_n c_49_3 (br_n c_49_4 (br_n c_49_5 (br_n c_49_6 (br_n c_49_7 (br_n c_49_8 (br_n c_49_9 (br_n c_49_10 (br_n c_49_11 (br_n c_49_12 (br_p c_49_13 rfl)))))))))))))) : (m_X2_takeBack σ (f_L_low (z >>> ((4 : Int32) &&& 31)) ((f_X2_numberOf σ 1) + 1)) (f_L_low (z >>> ((10 : Int32) &&& 31)) 5)) = m_L_changes σ z) dL_changes_384
  by_cases c_49_14 : (f_L_low z 18) = 14
  · refine lv_sw_in (k := 14) (tgt := 385) hx hb dL_changes_49 c_49_14 (by decide) (by decide) rfl (by decide) ?_
    refine lv_aload_n hx hb dL_changes_385 rfl (lv_at hl 3 rfl) ?_
    refine lv_iconst (v := 1) hx hb dL_changes_386 (by decide) ?_
    refine lv_iload_n hx hb dL_changes_387 rfl (lv_at hl 4 rfl) ?_
    refine lv_iconst (v := 4) hx hb dL_changes_388 (by decide) ?_
    refine lv_ishr hx hb dL_changes_389 ?_
    refine lv_bipush (v := 40) hx hb dL_changes_390 (by decide) ?_
    refine cl_S (As := [.int (z >>> ((4 : Int32) &&& 31)), .int 40]) (rest := [.int (1), .ref ((ad 300))]) hx hb hml hown hts (c_L_low l (z >>> ((4 : Int32) &&& 31)) 40 (by decide)) (kS_L_low hts ml_L_58 ⟨(Nat.le_of_ble_eq_true rfl), (Nat.le_of_ble_eq_true rfl)⟩) rfl hl.1 rfl (Nat.le_of_ble_eq_true rfl) dL_changes_392 (Nat.le_of_ble_eq_true rfl) (Nat.le_of_ble_eq_true rfl) ?_
    refine lv_iadd hx hb dL_changes_395 ?_
    refine lb_Q (As := [.int (1 + (f_L_low (z >>> ((4 : Int32) &&& 31)) 40))]) (w := (m_X2_passDays σ (1 + (f_L_low (z >>> ((4 : Int32) &&& 31)) 40)))) (rest := []) hx hb hml hown hts hK hI hB hEH hbA hS (cm_pass l (1 + (f_L_low (z >>> ((4 : Int32) &&& 31)) 40)) hok) (kV_X3_pass hts ml_L_91 ⟨(Nat.le_of_ble_eq_true rfl), (Nat.le_of_ble_eq_true rfl)⟩) rfl hl.1 rfl (Nat.le_of_ble_eq_true rfl) dL_changes_396 (Nat.le_of_ble_eq_true rfl) (Nat.le_of_ble_eq_true rfl) (fun H locs hB hU hS => ?_)
    have hok17 : okS (m_X2_passDays σ (1 + (f_L_low (z >>> ((4 : Int32) &&& 31)) 40))).2 := ok_pass hok (1 + (f_L_low (z >>> ((4 : Int32) &&& 31)) 40))
    obtain ⟨_, _, _⟩ := okS_b hok17
    have hEH : lE v ad s H := lE_of hE hN hbA hS
    exact lc_fin (w := (m_X2_passDays σ (1 + (f_L_low (z >>> ((4 : Int32) &&& 31)) 40)))) hx hb hr hlk hB hU hS ((br_n c_49_0 (br_n c_49_1 (br_n c_49_2 (br_n c_49_3 (br_n c_49_4 (br_n c_49_5 (br_n c_49_6 (br_n c_49_7 (br_n c_49_8 (br_n c_49_9 (br_n c_49_10 (br_n c_49_11 (br_n c_49_12 (br_n c_49_13 (br_p c_49_14 rfl))))))))))))))) : (m_X2_passDays σ (1 + (f_L_low (z >>> ((4 : Int32) &&& 31)) 40))) = m_L_changes σ z) dL_changes_399
  by_cases c_49_15 : (f_L_low z 18) = 15
  · refine lv_sw_in (k := 15) (tgt := 385) hx hb dL_changes_49 c_49_15 (by decide) (by decide) rfl (by decide) ?_
    refine lv_aload_n hx hb dL_changes_385 rfl (lv_at hl 3 rfl) ?_
    refine lv_iconst (v := 1) hx hb dL_changes_386 (by decide) ?_
    refine lv_iload_n hx hb dL_changes_387 rfl (lv_at hl 4 rfl) ?_
    refine lv_iconst (v := 4) hx hb dL_changes_388 (by decide) ?_
    refine lv_ishr hx hb dL_changes_389 ?_
    refine lv_bipush (v := 40) hx hb dL_changes_390 (by decide) ?_
    refine cl_S (As := [.int (z >>> ((4 : Int32) &&& 31)), .int 40]) (rest := [.int (1), .ref ((ad 300))]) hx hb hml hown hts (c_L_low l (z >>> ((4 : Int32) &&& 31)) 40 (by decide)) (kS_L_low hts ml_L_58 ⟨(Nat.le_of_ble_eq_true rfl), (Nat.le_of_ble_eq_true rfl)⟩) rfl hl.1 rfl (Nat.le_of_ble_eq_true rfl) dL_changes_392 (Nat.le_of_ble_eq_true rfl) (Nat.le_of_ble_eq_true rfl) ?_
    refine lv_iadd hx hb dL_changes_395 ?_
    refine lb_Q (As := [.int (1 + (f_L_low (z >>> ((4 : Int32) &&& 31)) 40))]) (w := (m_X2_passDays σ (1 + (f_L_low (z >>> ((4 : Int32) &&& 31)) 40)))) (rest := []) hx hb hml hown hts hK hI hB hEH hbA hS (cm_pass l (1 + (f_L_low (z >>> ((4 : Int32) &&& 31)) 40)) hok) (kV_X3_pass hts ml_L_91 ⟨(Nat.le_of_ble_eq_true rfl), (Nat.le_of_ble_eq_true rfl)⟩) rfl hl.1 rfl (Nat.le_of_ble_eq_true rfl) dL_changes_396 (Nat.le_of_ble_eq_true rfl) (Nat.le_of_ble_eq_true rfl) (fun H locs hB hU hS => ?_)
    have hok18 : okS (m_X2_passDays σ (1 + (f_L_low (z >>> ((4 : Int32) &&& 31)) 40))).2 := ok_pass hok (1 + (f_L_low (z >>> ((4 : Int32) &&& 31)) 40))
    obtain ⟨_, _, _⟩ := okS_b hok18
    have hEH : lE v ad s H := lE_of hE hN hbA hS
    exact lc_fin (w := (m_X2_passDays σ (1 + (f_L_low (z >>> ((4 : Int32) &&& 31)) 40)))) hx hb hr hlk hB hU hS ((br_n c_49_0 (br_n c_49_1 (br_n c_49_2 (br_n c_49_3 (br_n c_49_4 (br_n c_49_5 (br_n c_49_6 (br_n c_49_7 (br_n c_49_8 (br_n c_49_9 (br_n c_49_10 (br_n c_49_11 (br_n c_49_12 (br_n c_49_13 (br_n c_49_14 (br_p c_49_15 rfl)))))))))))))))) : (m_X2_passDays σ (1 + (f_L_low (z >>> ((4 : Int32) &&& 31)) 40))) = m_L_changes σ z) dL_changes_399
  have tc_49_0 : (f_L_low z 18).toInt ≠ 0 := ne_toInt c_49_0
  have tc_49_1 : (f_L_low z 18).toInt ≠ 1 := ne_toInt c_49_1
  have tc_49_2 : (f_L_low z 18).toInt ≠ 2 := ne_toInt c_49_2
  have tc_49_3 : (f_L_low z 18).toInt ≠ 3 := ne_toInt c_49_3
  have tc_49_4 : (f_L_low z 18).toInt ≠ 4 := ne_toInt c_49_4
  have tc_49_5 : (f_L_low z 18).toInt ≠ 5 := ne_toInt c_49_5
  have tc_49_6 : (f_L_low z 18).toInt ≠ 6 := ne_toInt c_49_6
  have tc_49_7 : (f_L_low z 18).toInt ≠ 7 := ne_toInt c_49_7
  have tc_49_8 : (f_L_low z 18).toInt ≠ 8 := ne_toInt c_49_8
  have tc_49_9 : (f_L_low z 18).toInt ≠ 9 := ne_toInt c_49_9
  have tc_49_10 : (f_L_low z 18).toInt ≠ 10 := ne_toInt c_49_10
  have tc_49_11 : (f_L_low z 18).toInt ≠ 11 := ne_toInt c_49_11
  have tc_49_12 : (f_L_low z 18).toInt ≠ 12 := ne_toInt c_49_12
  have tc_49_13 : (f_L_low z 18).toInt ≠ 13 := ne_toInt c_49_13
  have tc_49_14 : (f_L_low z 18).toInt ≠ 14 := ne_toInt c_49_14
  have tc_49_15 : (f_L_low z 18).toInt ≠ 15 := ne_toInt c_49_15
  refine lv_tableOut (tgt := 400) hx hb dL_changes_49 (by omega) (by decide) ?_
  refine lv_aload_n hx hb dL_changes_400 rfl (lv_at hl 3 rfl) ?_
  refine lv_iload_n hx hb dL_changes_401 rfl (lv_at hl 2 rfl) ?_
  refine lv_iload_n hx hb dL_changes_402 rfl (lv_at hl 4 rfl) ?_
  refine lv_bipush (v := 7) hx hb dL_changes_403 (by decide) ?_
  refine lv_ishr hx hb dL_changes_405 ?_
  refine lv_bipush (v := 6) hx hb dL_changes_406 (by decide) ?_
  refine cl_S (As := [.int (z >>> ((7 : Int32) &&& 31)), .int 6]) (rest := [.int ((f_L_low (z >>> ((4 : Int32) &&& 31)) ((f_X2_numberOf σ 0) + 1))), .ref ((ad 300))]) hx hb hml hown hts (c_L_low l (z >>> ((7 : Int32) &&& 31)) 6 (by decide)) (kS_L_low hts ml_L_58 ⟨(Nat.le_of_ble_eq_true rfl), (Nat.le_of_ble_eq_true rfl)⟩) rfl hl.1 rfl (Nat.le_of_ble_eq_true rfl) dL_changes_408 (Nat.le_of_ble_eq_true rfl) (Nat.le_of_ble_eq_true rfl) ?_
  refine lb_Q (As := [.int (f_L_low (z >>> ((4 : Int32) &&& 31)) ((f_X2_numberOf σ 0) + 1)), .int (f_L_low (z >>> ((7 : Int32) &&& 31)) 6)]) (w := (m_X2_countShelf σ (f_L_low (z >>> ((4 : Int32) &&& 31)) ((f_X2_numberOf σ 0) + 1)) (f_L_low (z >>> ((7 : Int32) &&& 31)) 6))) (rest := []) hx hb hml hown hts hK hI hB hEH hbA hS (cm_shelf l (f_L_low (z >>> ((4 : Int32) &&& 31)) ((f_X2_numberOf σ 0) + 1)) (f_L_low (z >>> ((7 : Int32) &&& 31)) 6) hok) (kV_X3_shelf hts ml_L_94 ⟨(Nat.le_of_ble_eq_true rfl), (Nat.le_of_ble_eq_true rfl)⟩) rfl hl.1 rfl (Nat.le_of_ble_eq_true rfl) dL_changes_411 (Nat.le_of_ble_eq_true rfl) (Nat.le_of_ble_eq_true rfl) (fun H locs hB hU hS => ?_)
  have hok19 : okS (m_X2_countShelf σ (f_L_low (z >>> ((4 : Int32) &&& 31)) ((f_X2_numberOf σ 0) + 1)) (f_L_low (z >>> ((7 : Int32) &&& 31)) 6)).2 := ok_shelf hok (f_L_low (z >>> ((4 : Int32) &&& 31)) ((f_X2_numberOf σ 0) + 1)) (f_L_low (z >>> ((7 : Int32) &&& 31)) 6)
  obtain ⟨_, _, _⟩ := okS_b hok19
  have hEH : lE v ad s H := lE_of hE hN hbA hS
  exact lc_fin (w := (m_X2_countShelf σ (f_L_low (z >>> ((4 : Int32) &&& 31)) ((f_X2_numberOf σ 0) + 1)) (f_L_low (z >>> ((7 : Int32) &&& 31)) 6))) hx hb hr hlk hB hU hS ((br_n c_49_0 (br_n c_49_1 (br_n c_49_2 (br_n c_49_3 (br_n c_49_4 (br_n c_49_5 (br_n c_49_6 (br_n c_49_7 (br_n c_49_8 (br_n c_49_9 (br_n c_49_10 (br_n c_49_11 (br_n c_49_12 (br_n c_49_13 (br_n c_49_14 (br_n c_49_15 rfl)))))))))))))))) : (m_X2_countShelf σ (f_L_low (z >>> ((4 : Int32) &&& 31)) ((f_X2_numberOf σ 0) + 1)) (f_L_low (z >>> ((7 : Int32) &&& 31)) 6)) = m_L_changes σ z) dL_changes_414
theorem kS_L_changes {R : Room} {s : State} {args : Array Value} {own : String} {idx : Nat} {c0 : Cond} (hts : ∀ w ∈ c0 :: W0, w.before args s = true) (hl : Cond.methodLink own idx yL_changes ∈ W0) (hR : rm_L_changes.frames + 1 ≤ R.frames ∧ 8 + (6 + 11) + rm_L_changes.locals ≤ R.locals) : CallB R s args own idx yL_changes cL_changes 6 (some .int) (Cond.code yL_changes cL_changes 6 (some .int) :: W0) rm_L_changes 0 0 2 ∧ (Cond.static yL_changes).before args s = true := va_cwS 2 hts (gdS hl mst_yL_changes mini_L mc_yL_changes) rfl rfl rfl (by decide +kernel) hR
def F_isGivingTold (σ : ST) (xc xd : Int32) : Prop := ((0 ≤ (f_X2_chargeFor σ xc xd 2)) → (((f_X2_chargeFor σ xc xd 0) + (f_X2_chargeFor σ xc xd 1)) = (f_X2_chargeFor σ xc xd 2))) ∧
  ((0 ≤ (f_X2_chargeFor σ xc xd 2)) → (((m_X2_takeBack σ xc xd).1) = (f_X2_chargeFor σ xc xd 2))) ∧
  ((0 ≤ (f_X2_chargeFor σ xc xd 2)) → ((f_X2_customerNumber ((m_X2_takeBack σ xc xd).2) (f_X2_copyProperty σ xc 4) 2) = ((f_X2_customerNumber σ (f_X2_copyProperty σ xc 4) 2) + (f_X2_chargeFor σ xc xd 2)))) ∧
  ((0 ≤ (f_X2_chargeFor σ xc xd 2)) → ((f_X2_sumOf ((m_X2_takeBack σ xc xd).2) 1) = ((f_X2_sumOf σ 1) + (f_X2_chargeFor σ xc xd 0)))) ∧
  ((0 ≤ (f_X2_chargeFor σ xc xd 2)) → (((f_X2_sumOf ((m_X2_takeBack σ xc xd).2) 2) + (f_X2_sumOf ((m_X2_takeBack σ xc xd).2) 3)) = (((f_X2_sumOf σ 2) + (f_X2_sumOf σ 3)) + (f_X2_chargeFor σ xc xd 1)))) ∧
  ((0 ≤ (f_X2_chargeFor σ xc xd 2)) → ((f_X2_copyProperty ((m_X2_takeBack σ xc xd).2) xc 3) = (if ((f_X2_copyProperty σ xc 2) + xd) ≤ 4 then 0 else 3))) ∧
  ((0 ≤ (f_X2_chargeFor σ xc xd 2)) → ((f_X2_copyProperty ((m_X2_takeBack σ xc xd).2) xc 2) = (if ((f_X2_copyProperty σ xc 2) + xd) ≤ 4 then ((f_X2_copyProperty σ xc 2) + xd) else (f_X2_copyProperty σ xc 2)))) ∧
  ((0 ≤ (f_X2_chargeFor σ xc xd 2)) → (F_isSound ((m_X2_takeBack σ xc xd).2))) ∧
  ((0 ≤ (f_X2_chargeFor σ xc xd 2)) → (¬ (m_X2_takeBack σ xc xd).1 < 0)) ∧
  ((¬ 0 ≤ (f_X2_chargeFor σ xc xd 2)) → (((m_X2_takeBack σ xc xd).1) = (f_X2_chargeFor σ xc xd 2))) ∧
  ((¬ 0 ≤ (f_X2_chargeFor σ xc xd 2)) → ((lg_cmp (sD_6 ((m_X2_takeBack σ xc xd).2)) (sD_6 σ)) = 0)) ∧
  ((¬ 0 ≤ (f_X2_chargeFor σ xc xd 2)) → ((m_X2_takeBack σ xc xd).2 = σ))
abbrev rm_L_isGivingTold : Room := { frames := 7, cells := 1, slots := 13, locals := 185 }
set_option maxRecDepth 100000 in
theorem c_L_isGivingTold (l : Launch) (D : va_G) (cI cR : ClassId) (ad : Nat → Nat) (v : EN) (σ : ST) (xc xd : Int32) (hok : okS σ) (hF : F_isGivingTold σ xc xd) :
    Met l yL_isGivingTold (Cond.code yL_isGivingTold cL_isGivingTold 15 (some .boolean) :: W0) rm_L_isGivingTold (va_Pc [.ref (ad 300), .int xc, .int xd] (lX D cI cR ad v σ)) (lPG D cI cR ad σ) 1 13 (brA ad) := by
  obtain ⟨hF_1, hF_2, hF_3, hF_4, hF_5, hF_6, hF_7, hF_8, hF_9, hF_10, hF_11, hF_12⟩ := hF
  refine st_gen (cc := cL_isGivingTold) (maxL := 15) (ret := some .boolean) (own := RL) (by decide) rfl (Nat.le_of_ble_eq_true rfl) ?_
  intro p e s m below meth c ls C hPre hl
  obtain ⟨hx, hb, hr, hml, hown, hts, hlk⟩ := C
  obtain ⟨⟨hB, hK, hI⟩, hE, hN⟩ := hPre
  have hbA : ∀ q, brA ad q → brA ad q := fun q h => h
  have hS : va_S (brA ad) s.heap s.heap [] := va_S.rf
  have hEH : lE v ad s s.heap := lE_of hE hN hbA hS
  obtain ⟨hT6, hC6, hN6⟩ := okS_b hok
  have hl : lv_has ls 15 [(0, .ref (ad 300)), (1, .int xc), (2, .int xd)] := hl
  refine lv_aload_n hx hb dL_isGivingTold_0 rfl (lv_at hl 0 rfl) ?_
  refine lb_L (As := []) (rest := []) hx hb hml hown hts hK hI hB hEH (cl_digest l hok) (kV_X3_digest hts ml_L_38 ⟨(Nat.le_of_ble_eq_true rfl), (Nat.le_of_ble_eq_true rfl)⟩) rfl hl.1 rfl (Nat.le_of_ble_eq_true rfl) dL_isGivingTold_1 (Nat.le_of_ble_eq_true rfl) (Nat.le_of_ble_eq_true rfl) ?_
  refine lv_lstore_n (lv' := [(3, .long (sD_6 σ)), (0, .ref ((ad 300))), (1, .int (xc)), (2, .int (xd))]) hx hb dL_isGivingTold_4 rfl hl (by decide) rfl (fun ls hl => ?_)
  refine lv_aload_n hx hb dL_isGivingTold_5 rfl (lv_at hl 1 rfl) ?_
  refine lv_iload_n hx hb dL_isGivingTold_6 rfl (lv_at hl 2 rfl) ?_
  refine lv_iload_n hx hb dL_isGivingTold_7 rfl (lv_at hl 3 rfl) ?_
  refine lv_iconst (v := 2) hx hb dL_isGivingTold_8 (by decide) ?_
  refine lb_P (As := [.int xc, .int xd, .int 2]) (rest := []) hx hb hml hown hts hK hI hB hEH (cl_charge l xc xd 2 hok) (kV_X3_charge hts ml_L_42 ⟨(Nat.le_of_ble_eq_true rfl), (Nat.le_of_ble_eq_true rfl)⟩) rfl hl.1 rfl (Nat.le_of_ble_eq_true rfl) dL_isGivingTold_9 (Nat.le_of_ble_eq_true rfl) (Nat.le_of_ble_eq_true rfl) ?_
  refine lv_istore (lv' := [(5, .int ((f_X2_chargeFor σ xc xd 2))), (3, .long (sD_6 σ)), (0, .ref ((ad 300))), (1, .int (xc)), (2, .int (xd))]) hx hb dL_isGivingTold_12 hl (by decide) rfl (fun ls hl => ?_)
  refine lv_iload hx hb dL_isGivingTold_14 (lv_at hl 0 rfl) ?_
  refine lv_if_ge (tgt := 45) hx hb dL_isGivingTold_16 (by decide) (fun c_16 => ?_) (fun c_16 => ?_)
  · refine lv_aload_n hx hb dL_isGivingTold_45 rfl (lv_at hl 2 rfl) ?_
    refine lv_iload_n hx hb dL_isGivingTold_46 rfl (lv_at hl 3 rfl) ?_
    refine lv_iconst (v := 4) hx hb dL_isGivingTold_47 (by decide) ?_
    refine lb_P (As := [.int xc, .int 4]) (rest := []) hx hb hml hown hts hK hI hB hEH (cl_copy l xc 4 hok) (kV_X3_copy hts ml_L_14 ⟨(Nat.le_of_ble_eq_true rfl), (Nat.le_of_ble_eq_true rfl)⟩) rfl hl.1 rfl (Nat.le_of_ble_eq_true rfl) dL_isGivingTold_48 (Nat.le_of_ble_eq_true rfl) (Nat.le_of_ble_eq_true rfl) ?_
    refine lv_istore (lv' := [(6, .int ((f_X2_copyProperty σ xc 4))), (5, .int ((f_X2_chargeFor σ xc xd 2))), (3, .long (sD_6 σ)), (0, .ref ((ad 300))), (1, .int (xc)), (2, .int (xd))]) hx hb dL_isGivingTold_51 hl (by decide) rfl (fun ls hl => ?_)
    refine lv_aload_n hx hb dL_isGivingTold_53 rfl (lv_at hl 3 rfl) ?_
    refine lv_iload hx hb dL_isGivingTold_54 (lv_at hl 0 rfl) ?_
    refine lv_iconst (v := 2) hx hb dL_isGivingTold_56 (by decide) ?_
    refine lb_P (As := [.int (f_X2_copyProperty σ xc 4), .int 2]) (rest := []) hx hb hml hown hts hK hI hB hEH (cl_customer l (f_X2_copyProperty σ xc 4) 2 hok) (kV_X3_customer hts ml_L_21 ⟨(Nat.le_of_ble_eq_true rfl), (Nat.le_of_ble_eq_true rfl)⟩) rfl hl.1 rfl (Nat.le_of_ble_eq_true rfl) dL_isGivingTold_57 (Nat.le_of_ble_eq_true rfl) (Nat.le_of_ble_eq_true rfl) ?_
    refine lv_istore (lv' := [(7, .int ((f_X2_customerNumber σ (f_X2_copyProperty σ xc 4) 2))), (6, .int ((f_X2_copyProperty σ xc 4))), (5, .int ((f_X2_chargeFor σ xc xd 2))), (3, .long (sD_6 σ)), (0, .ref ((ad 300))), (1, .int (xc)), (2, .int (xd))]) hx hb dL_isGivingTold_60 hl (by decide) rfl (fun ls hl => ?_)
    refine lv_aload_n hx hb dL_isGivingTold_62 rfl (lv_at hl 4 rfl) ?_
    refine lv_iload_n hx hb dL_isGivingTold_63 rfl (lv_at hl 5 rfl) ?_
    refine lv_iload_n hx hb dL_isGivingTold_64 rfl (lv_at hl 6 rfl) ?_
    refine lv_iconst (v := 0) hx hb dL_isGivingTold_65 (by decide) ?_
    refine lb_P (As := [.int xc, .int xd, .int 0]) (rest := []) hx hb hml hown hts hK hI hB hEH (cl_charge l xc xd 0 hok) (kV_X3_charge hts ml_L_42 ⟨(Nat.le_of_ble_eq_true rfl), (Nat.le_of_ble_eq_true rfl)⟩) rfl hl.1 rfl (Nat.le_of_ble_eq_true rfl) dL_isGivingTold_66 (Nat.le_of_ble_eq_true rfl) (Nat.le_of_ble_eq_true rfl) ?_
    refine lv_istore (lv' := [(8, .int ((f_X2_chargeFor σ xc xd 0))), (7, .int ((f_X2_customerNumber σ (f_X2_copyProperty σ xc 4) 2))), (6, .int ((f_X2_copyProperty σ xc 4))), (5, .int ((f_X2_chargeFor σ xc xd 2))), (3, .long (sD_6 σ)), (0, .ref ((ad 300))), (1, .int (xc)), (2, .int (xd))]) hx hb dL_isGivingTold_69 hl (by decide) rfl (fun ls hl => ?_)
    refine lv_aload_n hx hb dL_isGivingTold_71 rfl (lv_at hl 5 rfl) ?_
    refine lv_iload_n hx hb dL_isGivingTold_72 rfl (lv_at hl 6 rfl) ?_
    refine lv_iload_n hx hb dL_isGivingTold_73 rfl (lv_at hl 7 rfl) ?_
    refine lv_iconst (v := 1) hx hb dL_isGivingTold_74 (by decide) ?_
    refine lb_P (As := [.int xc, .int xd, .int 1]) (rest := []) hx hb hml hown hts hK hI hB hEH (cl_charge l xc xd 1 hok) (kV_X3_charge hts ml_L_42 ⟨(Nat.le_of_ble_eq_true rfl), (Nat.le_of_ble_eq_true rfl)⟩) rfl hl.1 rfl (Nat.le_of_ble_eq_true rfl) dL_isGivingTold_75 (Nat.le_of_ble_eq_true rfl) (Nat.le_of_ble_eq_true rfl) ?_
    refine lv_istore (lv' := [(9, .int ((f_X2_chargeFor σ xc xd 1))), (8, .int ((f_X2_chargeFor σ xc xd 0))), (7, .int ((f_X2_customerNumber σ (f_X2_copyProperty σ xc 4) 2))), (6, .int ((f_X2_copyProperty σ xc 4))), (5, .int ((f_X2_chargeFor σ xc xd 2))), (3, .long (sD_6 σ)), (0, .ref ((ad 300))), (1, .int (xc)), (2, .int (xd))]) hx hb dL_isGivingTold_78 hl (by decide) rfl (fun ls hl => ?_)
    refine lv_aload_n hx hb dL_isGivingTold_80 rfl (lv_at hl 6 rfl) ?_
    refine lv_iload_n hx hb dL_isGivingTold_81 rfl (lv_at hl 7 rfl) ?_
    refine lv_iconst (v := 2) hx hb dL_isGivingTold_82 (by decide) ?_
    refine lb_P (As := [.int xc, .int 2]) (rest := []) hx hb hml hown hts hK hI hB hEH (cl_copy l xc 2 hok) (kV_X3_copy hts ml_L_14 ⟨(Nat.le_of_ble_eq_true rfl), (Nat.le_of_ble_eq_true rfl)⟩) rfl hl.1 rfl (Nat.le_of_ble_eq_true rfl) dL_isGivingTold_83 (Nat.le_of_ble_eq_true rfl) (Nat.le_of_ble_eq_true rfl) ?_
    refine lv_istore (lv' := [(10, .int ((f_X2_copyProperty σ xc 2))), (9, .int ((f_X2_chargeFor σ xc xd 1))), (8, .int ((f_X2_chargeFor σ xc xd 0))), (7, .int ((f_X2_customerNumber σ (f_X2_copyProperty σ xc 4) 2))), (6, .int ((f_X2_copyProperty σ xc 4))), (5, .int ((f_X2_chargeFor σ xc xd 2))), (3, .long (sD_6 σ)), (0, .ref ((ad 300))), (1, .int (xc)), (2, .int (xd))]) hx hb dL_isGivingTold_86 hl (by decide) rfl (fun ls hl => ?_)
    refine lv_aload_n hx hb dL_isGivingTold_88 rfl (lv_at hl 7 rfl) ?_
    refine lv_iconst (v := 1) hx hb dL_isGivingTold_89 (by decide) ?_
    refine lb_P (As := [.int 1]) (rest := []) hx hb hml hown hts hK hI hB hEH (cl_book l 1) (kV_X3_book hts ml_L_30 ⟨(Nat.le_of_ble_eq_true rfl), (Nat.le_of_ble_eq_true rfl)⟩) rfl hl.1 rfl (Nat.le_of_ble_eq_true rfl) dL_isGivingTold_90 (Nat.le_of_ble_eq_true rfl) (Nat.le_of_ble_eq_true rfl) ?_
    refine lv_istore (lv' := [(11, .int ((f_X2_sumOf σ 1))), (10, .int ((f_X2_copyProperty σ xc 2))), (9, .int ((f_X2_chargeFor σ xc xd 1))), (8, .int ((f_X2_chargeFor σ xc xd 0))), (7, .int ((f_X2_customerNumber σ (f_X2_copyProperty σ xc 4) 2))), (6, .int ((f_X2_copyProperty σ xc 4))), (5, .int ((f_X2_chargeFor σ xc xd 2))), (3, .long (sD_6 σ)), (0, .ref ((ad 300))), (1, .int (xc)), (2, .int (xd))]) hx hb dL_isGivingTold_93 hl (by decide) rfl (fun ls hl => ?_)
    refine lv_aload_n hx hb dL_isGivingTold_95 rfl (lv_at hl 8 rfl) ?_
    refine lv_iconst (v := 2) hx hb dL_isGivingTold_96 (by decide) ?_
    refine lb_P (As := [.int 2]) (rest := []) hx hb hml hown hts hK hI hB hEH (cl_book l 2) (kV_X3_book hts ml_L_30 ⟨(Nat.le_of_ble_eq_true rfl), (Nat.le_of_ble_eq_true rfl)⟩) rfl hl.1 rfl (Nat.le_of_ble_eq_true rfl) dL_isGivingTold_97 (Nat.le_of_ble_eq_true rfl) (Nat.le_of_ble_eq_true rfl) ?_
    refine lv_aload_n hx hb dL_isGivingTold_100 rfl (lv_at hl 8 rfl) ?_
    refine lv_iconst (v := 3) hx hb dL_isGivingTold_101 (by decide) ?_
    refine lb_P (As := [.int 3]) (rest := [.int ((f_X2_sumOf σ 2))]) hx hb hml hown hts hK hI hB hEH (cl_book l 3) (kV_X3_book hts ml_L_30 ⟨(Nat.le_of_ble_eq_true rfl), (Nat.le_of_ble_eq_true rfl)⟩) rfl hl.1 rfl (Nat.le_of_ble_eq_true rfl) dL_isGivingTold_102 (Nat.le_of_ble_eq_true rfl) (Nat.le_of_ble_eq_true rfl) ?_
    refine lv_iadd hx hb dL_isGivingTold_105 ?_
    refine lv_istore (lv' := [(12, .int ((f_X2_sumOf σ 2) + (f_X2_sumOf σ 3))), (11, .int ((f_X2_sumOf σ 1))), (10, .int ((f_X2_copyProperty σ xc 2))), (9, .int ((f_X2_chargeFor σ xc xd 1))), (8, .int ((f_X2_chargeFor σ xc xd 0))), (7, .int ((f_X2_customerNumber σ (f_X2_copyProperty σ xc 4) 2))), (6, .int ((f_X2_copyProperty σ xc 4))), (5, .int ((f_X2_chargeFor σ xc xd 2))), (3, .long (sD_6 σ)), (0, .ref ((ad 300))), (1, .int (xc)), (2, .int (xd))]) hx hb dL_isGivingTold_106 hl (by decide) rfl (fun ls hl => ?_)
    refine lv_iload hx hb dL_isGivingTold_108 (lv_at hl 4 rfl) ?_
    refine lv_iload hx hb dL_isGivingTold_110 (lv_at hl 3 rfl) ?_
    refine lv_iadd hx hb dL_isGivingTold_112 ?_
    refine lv_iload hx hb dL_isGivingTold_113 (lv_at hl 7 rfl) ?_
    refine lv_icmp_ne (tgt := 180) hx hb dL_isGivingTold_115 (by decide) (fun q => absurd (hF_1 c_16) q) (fun c_115 => ?_)
    refine lv_aload_n hx hb dL_isGivingTold_118 rfl (lv_at hl 9 rfl) ?_
    refine lv_iload_n hx hb dL_isGivingTold_119 rfl (lv_at hl 10 rfl) ?_
    refine lv_iload_n hx hb dL_isGivingTold_120 rfl (lv_at hl 11 rfl) ?_
    refine lb_Q (As := [.int xc, .int xd]) (w := (m_X2_takeBack σ xc xd)) (rest := []) hx hb hml hown hts hK hI hB hEH hbA hS (cm_giveBack l xc xd hok) (kV_X3_giveBack hts ml_L_46 ⟨(Nat.le_of_ble_eq_true rfl), (Nat.le_of_ble_eq_true rfl)⟩) rfl hl.1 rfl (Nat.le_of_ble_eq_true rfl) dL_isGivingTold_121 (Nat.le_of_ble_eq_true rfl) (Nat.le_of_ble_eq_true rfl) (fun H locs hB hU hS => ?_)
    have hok1 : okS (m_X2_takeBack σ xc xd).2 := ok_giveBack hok xc xd
    obtain ⟨_, _, _⟩ := okS_b hok1
    have hEH : lE v ad s H := lE_of hE hN hbA hS
    refine lv_iload hx hb dL_isGivingTold_124 (lv_at hl 7 rfl) ?_
    refine lv_icmp_ne (tgt := 180) hx hb dL_isGivingTold_126 (by decide) (fun q => absurd (hF_2 c_16) q) (fun c_126 => ?_)
    refine lv_aload_n hx hb dL_isGivingTold_129 rfl (lv_at hl 9 rfl) ?_
    refine lv_iload hx hb dL_isGivingTold_130 (lv_at hl 6 rfl) ?_
    refine lv_iconst (v := 2) hx hb dL_isGivingTold_132 (by decide) ?_
    refine lb_P (As := [.int (f_X2_copyProperty σ xc 4), .int 2]) (rest := []) hx hb hml hown hts hK hI hB hEH (cl_customer l (f_X2_copyProperty σ xc 4) 2 hok1) (kV_X3_customer hts ml_L_21 ⟨(Nat.le_of_ble_eq_true rfl), (Nat.le_of_ble_eq_true rfl)⟩) rfl hl.1 rfl (Nat.le_of_ble_eq_true rfl) dL_isGivingTold_133 (Nat.le_of_ble_eq_true rfl) (Nat.le_of_ble_eq_true rfl) ?_
    refine lv_iload hx hb dL_isGivingTold_136 (lv_at hl 5 rfl) ?_
    refine lv_iload hx hb dL_isGivingTold_138 (lv_at hl 7 rfl) ?_
    refine lv_iadd hx hb dL_isGivingTold_140 ?_
    refine lv_icmp_ne (tgt := 180) hx hb dL_isGivingTold_141 (by decide) (fun q => absurd (hF_3 c_16) q) (fun c_141 => ?_)
    refine lv_aload_n hx hb dL_isGivingTold_144 rfl (lv_at hl 9 rfl) ?_
    refine lv_iconst (v := 1) hx hb dL_isGivingTold_145 (by decide) ?_
    refine lb_P (As := [.int 1]) (rest := []) hx hb hml hown hts hK hI hB hEH (cl_book l 1) (kV_X3_book hts ml_L_30 ⟨(Nat.le_of_ble_eq_true rfl), (Nat.le_of_ble_eq_true rfl)⟩) rfl hl.1 rfl (Nat.le_of_ble_eq_true rfl) dL_isGivingTold_146 (Nat.le_of_ble_eq_true rfl) (Nat.le_of_ble_eq_true rfl) ?_
    refine lv_iload hx hb dL_isGivingTold_149 (lv_at hl 1 rfl) ?_
    refine lv_iload hx hb dL_isGivingTold_151 (lv_at hl 4 rfl) ?_
    refine lv_iadd hx hb dL_isGivingTold_153 ?_
    refine lv_icmp_ne (tgt := 180) hx hb dL_isGivingTold_154 (by decide) (fun q => absurd (hF_4 c_16) q) (fun c_154 => ?_)
    refine lv_aload_n hx hb dL_isGivingTold_157 rfl (lv_at hl 9 rfl) ?_
    refine lv_iconst (v := 2) hx hb dL_isGivingTold_158 (by decide) ?_
    refine lb_P (As := [.int 2]) (rest := []) hx hb hml hown hts hK hI hB hEH (cl_book l 2) (kV_X3_book hts ml_L_30 ⟨(Nat.le_of_ble_eq_true rfl), (Nat.le_of_ble_eq_true rfl)⟩) rfl hl.1 rfl (Nat.le_of_ble_eq_true rfl) dL_isGivingTold_159 (Nat.le_of_ble_eq_true rfl) (Nat.le_of_ble_eq_true rfl) ?_
    refine lv_aload_n hx hb dL_isGivingTold_162 rfl (lv_at hl 9 rfl) ?_
    refine lv_iconst (v := 3) hx hb dL_isGivingTold_163 (by decide) ?_
    refine lb_P (As := [.int 3]) (rest := [.int ((f_X2_sumOf ((m_X2_takeBack σ xc xd).2) 2))]) hx hb hml hown hts hK hI hB hEH (cl_book l 3) (kV_X3_book hts ml_L_30 ⟨(Nat.le_of_ble_eq_true rfl), (Nat.le_of_ble_eq_true rfl)⟩) rfl hl.1 rfl (Nat.le_of_ble_eq_true rfl) dL_isGivingTold_164 (Nat.le_of_ble_eq_true rfl) (Nat.le_of_ble_eq_true rfl) ?_
    refine lv_iadd hx hb dL_isGivingTold_167 ?_
    refine lv_iload hx hb dL_isGivingTold_168 (lv_at hl 0 rfl) ?_
    refine lv_iload hx hb dL_isGivingTold_170 (lv_at hl 3 rfl) ?_
    refine lv_iadd hx hb dL_isGivingTold_172 ?_
    refine lv_icmp_ne (tgt := 180) hx hb dL_isGivingTold_173 (by decide) (fun q => absurd (hF_5 c_16) q) (fun c_173 => ?_)
    refine lv_iconst (v := 1) hx hb dL_isGivingTold_176 (by decide) ?_
    refine lv_goto (tgt := 181) hx hb dL_isGivingTold_177 (by decide) ?_
    refine lv_istore (lv' := [(13, .int (1)), (12, .int ((f_X2_sumOf σ 2) + (f_X2_sumOf σ 3))), (11, .int ((f_X2_sumOf σ 1))), (10, .int ((f_X2_copyProperty σ xc 2))), (9, .int ((f_X2_chargeFor σ xc xd 1))), (8, .int ((f_X2_chargeFor σ xc xd 0))), (7, .int ((f_X2_customerNumber σ (f_X2_copyProperty σ xc 4) 2))), (6, .int ((f_X2_copyProperty σ xc 4))), (5, .int ((f_X2_chargeFor σ xc xd 2))), (3, .long (sD_6 σ)), (0, .ref ((ad 300))), (1, .int (xc)), (2, .int (xd))]) hx hb dL_isGivingTold_181 hl (by decide) rfl (fun ls hl => ?_)
    refine lv_iload hx hb dL_isGivingTold_183 (lv_at hl 3 rfl) ?_
    refine lv_iload_n hx hb dL_isGivingTold_185 rfl (lv_at hl 12 rfl) ?_
    refine lv_iadd hx hb dL_isGivingTold_186 ?_
    refine lv_iconst (v := 4) hx hb dL_isGivingTold_187 (by decide) ?_
    refine bj 196 (rest := []) (v := (if ((f_X2_copyProperty σ xc 2) + xd) ≤ 4 then 0 else 1)) (fun x2 hx2 => ?_) (fun J2 => ?_)
    · subst hx2
      refine lv_istore (lv' := [(14, .int ((if ((f_X2_copyProperty σ xc 2) + xd) ≤ 4 then 0 else 1))), (13, .int (1)), (12, .int ((f_X2_sumOf σ 2) + (f_X2_sumOf σ 3))), (11, .int ((f_X2_sumOf σ 1))), (10, .int ((f_X2_copyProperty σ xc 2))), (9, .int ((f_X2_chargeFor σ xc xd 1))), (8, .int ((f_X2_chargeFor σ xc xd 0))), (7, .int ((f_X2_customerNumber σ (f_X2_copyProperty σ xc 4) 2))), (6, .int ((f_X2_copyProperty σ xc 4))), (5, .int ((f_X2_chargeFor σ xc xd 2))), (3, .long (sD_6 σ)), (0, .ref ((ad 300))), (1, .int (xc)), (2, .int (xd))]) hx hb dL_isGivingTold_196 hl (by decide) rfl (fun ls hl => ?_)
      refine lv_iload hx hb dL_isGivingTold_198 (lv_at hl 1 rfl) ?_
      refine lv_if_eq (tgt := 272) hx hb dL_isGivingTold_200 (by decide) (fun q => absurd q (by decide)) (fun _ => ?_)
      refine lv_aload_n hx hb dL_isGivingTold_203 rfl (lv_at hl 11 rfl) ?_
      refine lv_iload_n hx hb dL_isGivingTold_204 rfl (lv_at hl 12 rfl) ?_
      refine lv_iconst (v := 3) hx hb dL_isGivingTold_205 (by decide) ?_
      refine lb_P (As := [.int xc, .int 3]) (rest := []) hx hb hml hown hts hK hI hB hEH (cl_copy l xc 3 hok1) (kV_X3_copy hts ml_L_14 ⟨(Nat.le_of_ble_eq_true rfl), (Nat.le_of_ble_eq_true rfl)⟩) rfl hl.1 rfl (Nat.le_of_ble_eq_true rfl) dL_isGivingTold_206 (Nat.le_of_ble_eq_true rfl) (Nat.le_of_ble_eq_true rfl) ?_
      refine lv_iload hx hb dL_isGivingTold_209 (lv_at hl 0 rfl) ?_
      refine bj 219 (rest := [.int ((f_X2_copyProperty ((m_X2_takeBack σ xc xd).2) xc 3))]) (v := (if ((f_X2_copyProperty σ xc 2) + xd) ≤ 4 then 0 else 3)) (fun x3 hx3 => ?_) (fun J3 => ?_)
      · subst hx3
        refine lv_icmp_ne (tgt := 272) hx hb dL_isGivingTold_219 (by decide) (fun q => absurd (hF_6 c_16) q) (fun c_219 => ?_)
        refine lv_aload_n hx hb dL_isGivingTold_222 rfl (lv_at hl 11 rfl) ?_
        refine lv_iload_n hx hb dL_isGivingTold_223 rfl (lv_at hl 12 rfl) ?_
        refine lv_iconst (v := 2) hx hb dL_isGivingTold_224 (by decide) ?_
        refine lb_P (As := [.int xc, .int 2]) (rest := []) hx hb hml hown hts hK hI hB hEH (cl_copy l xc 2 hok1) (kV_X3_copy hts ml_L_14 ⟨(Nat.le_of_ble_eq_true rfl), (Nat.le_of_ble_eq_true rfl)⟩) rfl hl.1 rfl (Nat.le_of_ble_eq_true rfl) dL_isGivingTold_225 (Nat.le_of_ble_eq_true rfl) (Nat.le_of_ble_eq_true rfl) ?_
        refine lv_iload hx hb dL_isGivingTold_228 (lv_at hl 0 rfl) ?_
        refine bj 242 (rest := [.int ((f_X2_copyProperty ((m_X2_takeBack σ xc xd).2) xc 2))]) (v := (if ((f_X2_copyProperty σ xc 2) + xd) ≤ 4 then ((f_X2_copyProperty σ xc 2) + xd) else (f_X2_copyProperty σ xc 2))) (fun x4 hx4 => ?_) (fun J4 => ?_)
        · subst hx4
          refine lv_icmp_ne (tgt := 272) hx hb dL_isGivingTold_242 (by decide) (fun q => absurd (hF_7 c_16) q) (fun c_242 => ?_)
          refine lv_aload_n hx hb dL_isGivingTold_245 rfl (lv_at hl 11 rfl) ?_
          refine lz_S (rest := []) hx hb hml hown hts hK hI hB hEH hS (c_L_isSound l D cI cR ad v _ hok1 (hF_8 c_16)) (kS_L_isSound hts ml_L_49 ⟨(Nat.le_of_ble_eq_true rfl), (Nat.le_of_ble_eq_true rfl)⟩) hl.1 rfl (Nat.le_of_ble_eq_true rfl) dL_isGivingTold_246 (Nat.le_of_ble_eq_true rfl) (Nat.le_of_ble_eq_true rfl) (fun H locs hsz hsm hS => ?_)
          have hB := hB.keep hI hsm
          have hU := fun h => (hU h).keep hI hsm
          have hEH : lE v ad s H := lE_of hE hN hbA hS
          refine lv_if_eq (tgt := 272) hx hb dL_isGivingTold_249 (by decide) (fun q => absurd q (by decide)) (fun _ => ?_)
          refine lv_aload_n hx hb dL_isGivingTold_252 rfl (lv_at hl 11 rfl) ?_
          refine lb_U (rest := []) hx hb hml hown hts hK hI (hU (hF_9 c_16)) hEH hbA hS (kV_X3_undo hts ml_L_55 ⟨(Nat.le_of_ble_eq_true rfl), (Nat.le_of_ble_eq_true rfl)⟩) hl.1 rfl (Nat.le_of_ble_eq_true rfl) dL_isGivingTold_253 (Nat.le_of_ble_eq_true rfl) (Nat.le_of_ble_eq_true rfl) (fun H locs r5 hr5 hB hS => ?_)
          have hEH : lE v ad s H := lE_of hE hN hbA hS
          refine lv_if_lt (tgt := 272) hx hb dL_isGivingTold_256 (by decide) (fun q => absurd q hr5) (fun _ => ?_)
          refine lv_aload_n hx hb dL_isGivingTold_259 rfl (lv_at hl 11 rfl) ?_
          refine lb_L (As := []) (rest := []) hx hb hml hown hts hK hI hB hEH (cl_digest l hok) (kV_X3_digest hts ml_L_38 ⟨(Nat.le_of_ble_eq_true rfl), (Nat.le_of_ble_eq_true rfl)⟩) rfl hl.1 rfl (Nat.le_of_ble_eq_true rfl) dL_isGivingTold_260 (Nat.le_of_ble_eq_true rfl) (Nat.le_of_ble_eq_true rfl) ?_
          refine lv_lload_n hx hb dL_isGivingTold_263 rfl (lv_at hl 10 rfl) ?_
          refine W.lcmp hx hb dL_isGivingTold_264 ?_
          refine lv_if_ne (tgt := 272) hx hb dL_isGivingTold_265 (by decide) (fun q => absurd (lg_self _) q) (fun _ => ?_)
          refine lv_iconst (v := 1) hx hb dL_isGivingTold_268 (by decide) ?_
          refine lv_goto (tgt := 273) hx hb dL_isGivingTold_269 (by decide) ?_
          exact W.zret hx hb hr (nar_z (Or.inr rfl)) (fun t ht hW => ⟨rfl, by rw [ht]; exact hB, hS.F ht⟩) hS.2.2 dL_isGivingTold_273 hlk
        refine lv_if_eq (tgt := 238) hx hb dL_isGivingTold_230 (by decide) (fun q => ?_) (fun q => ?_)
        · have c_230 := b01_z q
          refine lv_iload hx hb dL_isGivingTold_238 (lv_at hl 4 rfl) ?_
          refine lv_iload_n hx hb dL_isGivingTold_240 rfl (lv_at hl 13 rfl) ?_
          refine lv_iadd hx hb dL_isGivingTold_241 ?_
          exact J4 _ (br_p c_230 rfl)
        have c_230 := b01_n q
        refine lv_iload hx hb dL_isGivingTold_233 (lv_at hl 4 rfl) ?_
        refine lv_goto (tgt := 242) hx hb dL_isGivingTold_235 (by decide) ?_
        exact J4 _ (br_n c_230 rfl)
      refine lv_if_eq (tgt := 218) hx hb dL_isGivingTold_211 (by decide) (fun q => ?_) (fun q => ?_)
      · have c_211 := b01_z q
        refine lv_iconst (v := 0) hx hb dL_isGivingTold_218 (by decide) ?_
        exact J3 _ (br_p c_211 rfl)
      have c_211 := b01_n q
      refine lv_iconst (v := 3) hx hb dL_isGivingTold_214 (by decide) ?_
      refine lv_goto (tgt := 219) hx hb dL_isGivingTold_215 (by decide) ?_
      exact J3 _ (br_n c_211 rfl)
    refine lv_icmp_le (tgt := 195) hx hb dL_isGivingTold_188 (by decide) (fun c_188 => ?_) (fun c_188 => ?_)
    · refine lv_iconst (v := 0) hx hb dL_isGivingTold_195 (by decide) ?_
      exact J2 _ (br_p c_188 rfl)
    refine lv_iconst (v := 1) hx hb dL_isGivingTold_191 (by decide) ?_
    refine lv_goto (tgt := 196) hx hb dL_isGivingTold_192 (by decide) ?_
    exact J2 _ (br_n c_188 rfl)
  refine lv_aload_n hx hb dL_isGivingTold_19 rfl (lv_at hl 2 rfl) ?_
  refine lv_iload_n hx hb dL_isGivingTold_20 rfl (lv_at hl 3 rfl) ?_
  refine lv_iload_n hx hb dL_isGivingTold_21 rfl (lv_at hl 4 rfl) ?_
  refine lb_Q (As := [.int xc, .int xd]) (w := (m_X2_takeBack σ xc xd)) (rest := []) hx hb hml hown hts hK hI hB hEH hbA hS (cm_giveBack l xc xd hok) (kV_X3_giveBack hts ml_L_46 ⟨(Nat.le_of_ble_eq_true rfl), (Nat.le_of_ble_eq_true rfl)⟩) rfl hl.1 rfl (Nat.le_of_ble_eq_true rfl) dL_isGivingTold_22 (Nat.le_of_ble_eq_true rfl) (Nat.le_of_ble_eq_true rfl) (fun H locs hB hU hS => ?_)
  have hok6 : okS (m_X2_takeBack σ xc xd).2 := ok_giveBack hok xc xd
  obtain ⟨_, _, _⟩ := okS_b hok6
  have hEH : lE v ad s H := lE_of hE hN hbA hS
  refine lv_iload hx hb dL_isGivingTold_25 (lv_at hl 0 rfl) ?_
  refine lv_icmp_ne (tgt := 43) hx hb dL_isGivingTold_27 (by decide) (fun q => absurd (hF_10 c_16) q) (fun c_27 => ?_)
  refine lv_aload_n hx hb dL_isGivingTold_30 rfl (lv_at hl 2 rfl) ?_
  refine lb_L (As := []) (rest := []) hx hb hml hown hts hK hI hB hEH (cl_digest l hok6) (kV_X3_digest hts ml_L_38 ⟨(Nat.le_of_ble_eq_true rfl), (Nat.le_of_ble_eq_true rfl)⟩) rfl hl.1 rfl (Nat.le_of_ble_eq_true rfl) dL_isGivingTold_31 (Nat.le_of_ble_eq_true rfl) (Nat.le_of_ble_eq_true rfl) ?_
  refine lv_lload_n hx hb dL_isGivingTold_34 rfl (lv_at hl 1 rfl) ?_
  refine W.lcmp hx hb dL_isGivingTold_35 ?_
  refine lv_if_ne (tgt := 43) hx hb dL_isGivingTold_36 (by decide) (fun q => absurd (hF_11 c_16) q) (fun c_36 => ?_)
  have hB : lB D cI cR ad σ H := by rw [← (show (m_X2_takeBack σ xc xd).2 = σ from (hF_12 c_16))]; exact hB
  refine lv_iconst (v := 1) hx hb dL_isGivingTold_39 (by decide) ?_
  refine lv_goto (tgt := 44) hx hb dL_isGivingTold_40 (by decide) ?_
  refine W.widen (k := 1) (n := 13) (by decide) (by decide) ?_
  exact W.zret hx hb hr (nar_z (Or.inr rfl)) (fun t ht hW => ⟨rfl, by rw [ht]; exact hB, hS.F ht⟩) hS.2.2 dL_isGivingTold_44 hlk
theorem kS_L_isGivingTold {R : Room} {s : State} {args : Array Value} {own : String} {idx : Nat} {c0 : Cond} (hts : ∀ w ∈ c0 :: W0, w.before args s = true) (hl : Cond.methodLink own idx yL_isGivingTold ∈ W0) (hR : rm_L_isGivingTold.frames + 1 ≤ R.frames ∧ 8 + (15 + 11) + rm_L_isGivingTold.locals ≤ R.locals) : CallB R s args own idx yL_isGivingTold cL_isGivingTold 15 (some .boolean) (Cond.code yL_isGivingTold cL_isGivingTold 15 (some .boolean) :: W0) rm_L_isGivingTold 1 13 3 ∧ (Cond.static yL_isGivingTold).before args s = true := va_cwS 3 hts (gdS hl mst_yL_isGivingTold mini_L mc_yL_isGivingTold) rfl rfl rfl (by decide +kernel) hR

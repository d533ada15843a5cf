/-! ===== the law starts: it makes its BookRental ===== -/
theorem sh0_at {f i : Nat} (hf : f ≠ 4) : sh0 f i = 0 := by unfold sh0; rw [if_neg hf]
theorem sh0_ok : okS sh0 := by
  have t0 : tn (0 : Int32) = 0 := by decide
  have n : ∀ f : Nat, f ≠ 4 → tn (sh0 f 0) = 0 := fun f hf => by rw [sh0_at hf]; exact t0
  have n1 : nT sh0 = 0 := n 1 (by decide)
  have n2 : nC sh0 = 0 := n 2 (by decide)
  have n3 : nN sh0 = 0 := n 3 (by decide)
  unfold okS
  rw [n1, n2, n3]
  exact ⟨⟨sh0_at (by decide), by decide⟩, ⟨sh0_at (by decide), by decide⟩, ⟨sh0_at (by decide), by decide⟩, fun k hk => absurd hk (Nat.not_lt_zero _), fun k hk => absurd hk (Nat.not_lt_zero _)⟩
theorem tx0_okX : okX tx0 := by
  have e : xl tx0 = 0 := by
    show tn (0 : Int32) = 0
    decide
  unfold okX
  rw [e]
  exact ⟨rfl, by decide⟩
theorem tx0_fault : ¬ (m_X1_faultOf tx0).1 = (-1) := by decide +kernel
theorem or0_v : or_v sh0 tx0 = (-4) := by unfold or_v; rw [if_neg tx0_fault]
theorem or0_ρ {ρ : Nat → ST} {sp : Nat} : or_ρ ρ sp tx0 = ρ := by unfold or_ρ; rw [if_neg tx0_fault]
section LST
variable {p : Program} {l : Launch} {e : Env} {R : Room} {s : State} {m : MethodId} {args : Array Value} {below : List Frame} {meth : Method} {c : Code} {H : Heap} {locs : List Loc} {cells slots : Nat} {Q : State → Prop} {cc : ByteArray} {nL : Nat} {own : String} {c0 : Cond} {pc : Nat} {ls : Array Slot} {rest st0 : List Value} {D : va_G} {cI cR : ClassId} {ad : Nat → Nat} {v : EN} {A : Nat → Prop}
theorem lb_BQ {y : MethodName} {bytes : ByteArray} {mL n index : Nat} {rt : Option FieldType} {ws : List Cond} {rm : Room} {As : List Value} {w : Int32} {ρ ρ' : Nat → ST} {sp sp' kp kp' : Nat} {τ τ' : ST} (hx : p.tables.exec = Jvm.exec) (hb : c.code = cc) (hml : c.maxLocals = nL) (hown : s.vm.findClass own = some m.cls) (hts : ∀ w ∈ c0 :: W0, w.before args s = true) (hK : brK D cI cR s) (hI : brI ad) (hB : brH D cI cR ad ρ sp kp τ H) (hE : lE v ad s H) (hbA : ∀ q, brA ad q → A q) (hS : va_S A s.heap H locs)
    (hM : Met l y ws rm (va_Pc (.ref (ad 300) :: As) (brX D cI cR ad v ρ sp kp τ)) (brQ D cI cR ad w ρ' sp' kp' τ') 0 0 (brA ad)) (cw : CallW R s args own RX3 index y bytes mL rt ws rm 0 0 n)
    (hn : As.length = n) (hsize : ls.size = nL) (hst : st0 = As.reverse ++ .ref (ad 300) :: rest) (hW : (rest.map fun v => v.category).sum ≤ 8) (d : decode cc pc = .ok (.invokevirtual index, 3)) (hc : cells ≤ R.cells) (hs : slots ≤ R.slots)
    (kk : ∀ (H1 : Heap) (locs1 : List Loc), brH D cI cR ad ρ' sp' kp' τ' H1 → va_S A s.heap H1 locs1 → W p l e R s m args below meth c H1 locs1 cells slots Q (F0 m (pc + 3) ls (.int w :: rest))) : W p l e R s m args below meth c H locs cells slots Q (F0 m pc ls st0) := by
  refine lb_run (A := A) (B := fun H1 => brH D cI cR ad ρ' sp' kp' τ' H1) (va_runV (As := As) (rest := rest) ⟨hx, hb, hml, hown, hts⟩ hM cw ⟨brX_blind, br_recv hK hB, fun U hU hW => ⟨rfl, ⟨by rw [hU]; exact hB, va_K.moved hW.alike hK, hI⟩, (hE U hU hW).1⟩⟩ rfl hn hsize hst (lv_room hW) d ⟨hc, hs⟩) hbA hS (fun v1 st₀ t _ hq => ?_) kk
  obtain ⟨hv, hp, hF⟩ := hq
  cases hv
  exact ⟨rfl, hF.mono hbA, hp⟩
set_option maxRecDepth 100000 in
theorem law_start {b : Nat} (hx : p.tables.exec = Jvm.exec) (hb : c.code = cL_law) (hml : c.maxLocals = 16) (hown : s.vm.findClass RL = some m.cls) (h0 : ∀ w ∈ lw_tbl, w.before args s = true) (hl : lv_has ls 16 [(0, .ref b)])
    (hR3 : rm_X3_init.frames + 1 ≤ R.frames ∧ 8 + (1 + 11) + rm_X3_init.locals ≤ R.locals) (hc : 110 ≤ R.cells) (hs : 3108 ≤ R.slots)
    (kk : ∀ (D : va_G) (cI cR : ClassId) (ad : Nat → Nat) (H : Heap) (locs : List Loc), brK D cI cR s → brH D cI cR ad (fun _ => sh0) 0 0 tx0 H → brI ad → (∀ q, brA ad q → s.heap.size ≤ q) → va_S (fun q => s.heap.size ≤ q) s.heap H locs → ∀ ls, lv_has ls 16 [(1, .ref (ad 300)), (0, .ref b)] → W p l e R s m args below meth c H locs 110 3108 Q (F0 m 8 ls [])) :
    W p l e R s m args below meth c s.heap [] 0 0 Q (F0 m 0 ls []) := by
  have hw : ∀ w ∈ W0, w.before args s = true := fun w hw => h0 w (W0_in w hw)
  have hts : ∀ w ∈ Cond.initialized RX3 :: W0, w.before args s = true := fun w h => by
    rcases List.mem_cons.mp h with rfl | h
    · exact hw _ mini_X3
    · exact hw w h
  obtain ⟨D, cI, cR, hK⟩ := env_K h0
  have hAO := env_AO h0
  have z1 : rm_X3_init.cells = 109 := rfl
  have z2 : rm_X3_init.slots = 3105 := rfl
  have hA : ∀ q : Nat, s.heap.size ≤ q → s.heap.size ≤ q := fun q h => h
  have hS : va_S (fun q => s.heap.size ≤ q) s.heap s.heap [] := va_S.rf
  have hP : va_P D vwCl [] s.heap := fun k q hk => by cases hk
  have hD : va_D (fun q => s.heap.size ≤ q) [] := ⟨fun i j a b hi => (by cases hi), fun k q hk => (by cases hk)⟩
  refine va_new (ci := 3) (fs := [.null, .null, .null]) (C := RX3) (T := TX3) (N := 3) hx hb hts (fun w h => List.mem_cons_of_mem _ (inX3 w h)) tyX3 tyX3_ok hown (hw _ mcl_L_9) (hw _ min_X3) (hw _ mini_X3) hK hP hD hS hA rfl fsX3 (by omega) (by omega) dL_law_0 (fun q H hP hD hS => ?_)
  refine lv_dup hx hb dL_law_3 rfl ?_
  refine iniCall (ws := []) (br0W cI cR q) (rest := [.ref q]) hx hb hml hown hts (c_X3_init l D cI cR q H.size) (cwI 0 hts (gdI mc_yX3_init) rfl rfl rfl (hw _ mini_X3) (hw _ ml_L_97) (hw _ mi_yX3_init) rfl (by decide +kernel) hR3) ⟨ini_blindQ, fun U hU hW => ⟨rfl, by rw [hU], by rw [hU]; exact hP, va_K.moved hW.alike hK, va_AO.moved hW.alike hAO⟩⟩ hP hD hS hA hl.1 (Nat.le_of_ble_eq_true rfl) dL_law_4 (by omega) (by omega) (fun x H locs hP hD hS => ?_)
  refine lv_astore_n (lv' := [(1, .ref q), (0, .ref b)]) hx hb dL_law_7 rfl hl (by decide) rfl (fun ls hl => ?_)
  refine W.widen (k := 110) (n := 3108) (by omega) (by omega) ?_
  exact kk D cI cR (ad0 q x) H locs hK (ad0_H hP) (ad0_I hD) (ad0_A hD) hS ls hl
end LST

def g_L_law_552 (σ : ST) : Nat → (Nat) → (Int32) → Int32
  | 0, k2, xd => xd
  | fu_552 + 1, k2, xd => (if nN σ ≤ k2 then xd else g_L_law_552 σ fu_552 (k2 + 1) (xd - (if (f_X2_copyProperty σ (nI k2) 3) = 2 then 0 else (if (f_X2_copyProperty σ (nI k2) 3) = 3 then 0 else (f_X2_copyProperty σ (nI k2) 6)))))
def g_L_law_457 (σ : ST) : Nat → (Nat) → (Int32) → Int32
  | 0, k1, xw => xw
  | fu_457 + 1, k1, xw => (if nN σ ≤ k1 then xw else g_L_law_457 σ fu_457 (k1 + 1) (xw + (if (f_X2_copyProperty σ (nI k1) 3) = 2 then 0 else (if (f_X2_copyProperty σ (nI k1) 3) = 3 then 0 else (f_X2_copyProperty σ (nI k1) 6)))))

theorem ok_changes {σ : ST} (h : okS σ) (z : Int32) : okS (m_L_changes σ z).2 := by
  unfold m_L_changes
  exact ite_ind (fun z : MS => okS z.2) (fun _ => ok_addTitle h _ _) (fun _ => ite_ind (fun z : MS => okS z.2) (fun _ => ok_addCourse h _ _ _) (fun _ => ite_ind (fun z : MS => okS z.2) (fun _ => ok_setCourse h _ _ _) (fun _ => ite_ind (fun z : MS => okS z.2) (fun _ => ite_ind (fun z : MS => okS z.2) (fun _ => ok_newEdition h _) (fun _ => ok_setPrice h _ _)) (fun _ => ite_ind (fun z : MS => okS z.2) (fun _ => ok_set h _ _) (fun _ => ite_ind (fun z : MS => okS z.2) (fun _ => ok_buy h _ _) (fun _ => ite_ind (fun z : MS => okS z.2) (fun _ => ok_buy h _ _) (fun _ => ite_ind (fun z : MS => okS z.2) (fun _ => ok_buyBack h _ _ _) (fun _ => ite_ind (fun z : MS => okS z.2) (fun _ => ok_sell h _) (fun _ => ite_ind (fun z : MS => okS z.2) (fun _ => ok_rent h _ _) (fun _ => ite_ind (fun z : MS => okS z.2) (fun _ => ok_rent h _ _) (fun _ => ite_ind (fun z : MS => okS z.2) (fun _ => ok_rent h _ _) (fun _ => ite_ind (fun z : MS => okS z.2) (fun _ => ok_rent h _ _) (fun _ => ite_ind (fun z : MS => okS z.2) (fun _ => ok_giveBack h _ _) (fun _ => ite_ind (fun z : MS => okS z.2) (fun _ => ok_pass h _) (fun _ => ite_ind (fun z : MS => okS z.2) (fun _ => ok_pass h _) (fun _ => ok_shelf h _ _))))))))))))))))
def F_law (I1 I2 : Nat → ST → Prop) : Prop := ((f_X2_servedStudents sh0) = 0) ∧
  ((f_X2_sumOf sh0 7) = 100000000) ∧
  (((m_X2_rentCopy sh0 0 0).1) = (-2)) ∧
  ((m_X2_rentCopy sh0 0 0).2 = sh0) ∧
  ((f_X2_copyProperty sh0 0 0) = (-2)) ∧
  (∀ (y1 : Int32) , (∃ nt : Nat, 1 + (f_L_low y1 3) = nI nt ∧ 1 ≤ nt ∧ nt ≤ 3)) ∧
  (∀ (y1 : Int32) (ti : Nat) (σ2 : ST) , (26 ≤ ti) → (I2 ti σ2) → (((m_X2_passDays σ2 (1 + (f_L_low (y1 >>> ((4 : Int32) &&& 31)) 200))).1) = (f_X2_lostAfter σ2 (1 + (f_L_low (y1 >>> ((4 : Int32) &&& 31)) 200))))) ∧
  (∀ (y1 : Int32) (ti : Nat) (σ2 : ST) , (26 ≤ ti) → (I2 ti σ2) → ((f_X2_numberOf ((m_X2_passDays σ2 (1 + (f_L_low (y1 >>> ((4 : Int32) &&& 31)) 200))).2) 7) = ((f_X2_numberOf σ2 7) + (f_X2_lostAfter σ2 (1 + (f_L_low (y1 >>> ((4 : Int32) &&& 31)) 200)))))) ∧
  (∀ (y1 : Int32) (ti : Nat) (σ2 : ST) , (26 ≤ ti) → (I2 ti σ2) → (F_isSound ((m_X2_passDays σ2 (1 + (f_L_low (y1 >>> ((4 : Int32) &&& 31)) 200))).2))) ∧
  (∀ (y1 : Int32) (ti : Nat) (σ2 : ST) , (26 ≤ ti) → (I2 ti σ2) → (¬ (m_X2_passDays σ2 (1 + (f_L_low (y1 >>> ((4 : Int32) &&& 31)) 200))).1 < 0)) ∧
  (∀ (ti : Nat) (σ2 : ST) , (26 ≤ ti) → (I2 ti σ2) → (((m_X2_putTitle σ2 99 1).1) = (-3))) ∧
  (∀ (ti : Nat) (σ2 : ST) , (26 ≤ ti) → (I2 ti σ2) → ((m_X2_putTitle σ2 99 1).2 = σ2)) ∧
  (∀ (ti : Nat) (σ2 : ST) , (26 ≤ ti) → (I2 ti σ2) → (((m_X2_changePrice σ2 6 100).1) = (-2))) ∧
  (∀ (ti : Nat) (σ2 : ST) , (26 ≤ ti) → (I2 ti σ2) → ((m_X2_changePrice σ2 6 100).2 = σ2)) ∧
  (∀ (ti : Nat) (σ2 : ST) , (26 ≤ ti) → (I2 ti σ2) → (((m_X2_putCourse σ2 6 1 1).1) = (-2))) ∧
  (∀ (ti : Nat) (σ2 : ST) , (26 ≤ ti) → (I2 ti σ2) → ((m_X2_putCourse σ2 6 1 1).2 = σ2)) ∧
  (∀ (ti : Nat) (σ2 : ST) , (26 ≤ ti) → (I2 ti σ2) → (((m_X2_putCourse σ2 0 31 1).1) = (-3))) ∧
  (∀ (ti : Nat) (σ2 : ST) , (26 ≤ ti) → (I2 ti σ2) → ((m_X2_putCourse σ2 0 31 1).2 = σ2)) ∧
  (∀ (ti : Nat) (σ2 : ST) , (26 ≤ ti) → (I2 ti σ2) → (((m_X2_changeSetting σ2 4 0).1) = (-2))) ∧
  (∀ (ti : Nat) (σ2 : ST) , (26 ≤ ti) → (I2 ti σ2) → ((m_X2_changeSetting σ2 4 0).2 = σ2)) ∧
  (∀ (ti : Nat) (σ2 : ST) , (26 ≤ ti) → (I2 ti σ2) → (((m_X2_changeSetting σ2 0 9).1) = (-3))) ∧
  (∀ (ti : Nat) (σ2 : ST) , (26 ≤ ti) → (I2 ti σ2) → ((m_X2_changeSetting σ2 0 9).2 = σ2)) ∧
  (∀ (ti : Nat) (σ2 : ST) , (26 ≤ ti) → (I2 ti σ2) → (((m_X2_buyNew σ2 0 21).1) = (-3))) ∧
  (∀ (ti : Nat) (σ2 : ST) , (26 ≤ ti) → (I2 ti σ2) → ((m_X2_buyNew σ2 0 21).2 = σ2)) ∧
  (∀ (ti : Nat) (σ2 : ST) , (26 ≤ ti) → (I2 ti σ2) → ((f_X2_offerFor σ2 0 0 0) = (-3))) ∧
  (∀ (ti : Nat) (σ2 : ST) , (26 ≤ ti) → (I2 ti σ2) → (((m_X2_sellCopy σ2 60).1) = (-2))) ∧
  (∀ (ti : Nat) (σ2 : ST) , (26 ≤ ti) → (I2 ti σ2) → ((m_X2_sellCopy σ2 60).2 = σ2)) ∧
  (∀ (ti : Nat) (σ2 : ST) , (26 ≤ ti) → (I2 ti σ2) → (((m_X2_rentCopy σ2 8 0).1) = (-2))) ∧
  (∀ (ti : Nat) (σ2 : ST) , (26 ≤ ti) → (I2 ti σ2) → ((m_X2_rentCopy σ2 8 0).2 = σ2)) ∧
  (∀ (ti : Nat) (σ2 : ST) , (26 ≤ ti) → (I2 ti σ2) → ((f_X2_nextCopy σ2 6) = (-2))) ∧
  (∀ (ti : Nat) (σ2 : ST) , (26 ≤ ti) → (I2 ti σ2) → ((f_X2_chargeFor σ2 60 0 0) = (-2))) ∧
  (∀ (ti : Nat) (σ2 : ST) , (26 ≤ ti) → (I2 ti σ2) → (((m_X2_passDays σ2 401).1) = (-3))) ∧
  (∀ (ti : Nat) (σ2 : ST) , (26 ≤ ti) → (I2 ti σ2) → ((m_X2_passDays σ2 401).2 = σ2)) ∧
  (∀ (ti : Nat) (σ2 : ST) , (26 ≤ ti) → (I2 ti σ2) → (((m_X2_countShelf σ2 0 61).1) = (-3))) ∧
  (∀ (ti : Nat) (σ2 : ST) , (26 ≤ ti) → (I2 ti σ2) → ((m_X2_countShelf σ2 0 61).2 = σ2)) ∧
  (∀ (ti : Nat) (σ2 : ST) , (26 ≤ ti) → (I2 ti σ2) → ((f_X2_customerNumber σ2 8 0) = (-2))) ∧
  (∀ (ti : Nat) (σ2 : ST) , (26 ≤ ti) → (I2 ti σ2) → ((f_X2_lostAfter σ2 0) = (-3))) ∧
  (∀ (ti : Nat) (σ2 : ST) , (26 ≤ ti) → (I2 ti σ2) → ((f_X2_sumOf σ2 8) = (-3))) ∧
  (∀ (ti : Nat) (σ2 : ST) (cj : Nat) , (26 ≤ ti) → (I2 ti σ2) → (¬ nC σ2 ≤ cj) → (((m_X2_rentCopy σ2 3 (nI cj)).1) < 0) → (((m_X2_rentCopy σ2 3 (nI cj)).1) = (-4))) ∧
  (∀ (ti : Nat) (σ2 : ST) (cj : Nat) , (26 ≤ ti) → (I2 ti σ2) → (¬ nC σ2 ≤ cj) → (((m_X2_rentCopy σ2 3 (nI cj)).1) < 0) → ((m_X2_rentCopy σ2 3 (nI cj)).2 = σ2)) ∧
  (∀ (ti : Nat) (σ2 : ST) (cj : Nat) , (26 ≤ ti) → (I2 ti σ2) → (¬ nC σ2 ≤ cj) → (¬ ((m_X2_rentCopy σ2 3 (nI cj)).1) < 0) → (((m_X2_rentCopy σ2 3 (nI cj)).1) = (f_X2_nextCopy σ2 (nI cj)))) ∧
  (∀ (ti : Nat) (σ2 : ST) (cj : Nat) , (26 ≤ ti) → (I2 ti σ2) → (¬ nC σ2 ≤ cj) → (¬ ((m_X2_rentCopy σ2 3 (nI cj)).1) < 0) → ((f_X2_customerNumber ((m_X2_rentCopy σ2 3 (nI cj)).2) 3 2) = ((f_X2_customerNumber σ2 3 2) + (if 0 ≤ (f_X2_nextCopy σ2 (nI cj)) then (f_X2_copyProperty σ2 (f_X2_nextCopy σ2 (nI cj)) 7) else 0)))) ∧
  (∀ (ti : Nat) (σ2 : ST) (cj : Nat) , (26 ≤ ti) → (I2 ti σ2) → (¬ nC σ2 ≤ cj) → (¬ ((m_X2_rentCopy σ2 3 (nI cj)).1) < 0) → ((f_X2_copyProperty ((m_X2_rentCopy σ2 3 (nI cj)).2) ((m_X2_rentCopy σ2 3 (nI cj)).1) 4) = 3)) ∧
  (∀ (ti : Nat) (σ2 : ST) (cj : Nat) , (26 ≤ ti) → (I2 ti σ2) → (¬ nC σ2 ≤ cj) → (¬ ((m_X2_rentCopy σ2 3 (nI cj)).1) < 0) → ((f_X2_copyProperty ((m_X2_rentCopy σ2 3 (nI cj)).2) ((m_X2_rentCopy σ2 3 (nI cj)).1) 5) = ((f_X2_numberOf ((m_X2_rentCopy σ2 3 (nI cj)).2) 3) + (f_X2_numberOf ((m_X2_rentCopy σ2 3 (nI cj)).2) 10)))) ∧
  (∀ (ti : Nat) (σ2 : ST) (tj : Nat) , (26 ≤ ti) → (I2 ti σ2) → (¬ nT σ2 ≤ tj) → (¬ (f_X2_agingBy σ2 (nI tj)) = (-5)) → (¬ (f_X2_agingBy σ2 (nI tj)) < 0)) ∧
  (∀ (ti : Nat) (σ2 : ST) (tj : Nat) , (26 ≤ ti) → (I2 ti σ2) → (¬ nT σ2 ≤ tj) → (¬ (f_X2_agingBy σ2 (nI tj)) = (-5)) → (2 ≤ ((m_X2_advanceEdition σ2 (nI tj)).1))) ∧
  (∀ (ti : Nat) (σ2 : ST) (tj : Nat) , (26 ≤ ti) → (I2 ti σ2) → (¬ nT σ2 ≤ tj) → (¬ (f_X2_agingBy σ2 (nI tj)) = (-5)) → ((g_L_law_552 ((m_X2_advanceEdition σ2 (nI tj)).2) (nN ((m_X2_advanceEdition σ2 (nI tj)).2) + 1) 0 (g_L_law_457 σ2 (nN σ2 + 1) 0 0)) = (f_X2_agingBy σ2 (nI tj)))) ∧
  (∀ (ti : Nat) (σ2 : ST) (tj : Nat) , (26 ≤ ti) → (I2 ti σ2) → (¬ nT σ2 ≤ tj) → (¬ (f_X2_agingBy σ2 (nI tj)) = (-5)) → (¬ (m_X2_advanceEdition σ2 (nI tj)).1 < 0)) ∧
  (∀ (y1 : Int32) (ti : Nat) (σ2 : ST) (tj : Nat) , (26 ≤ ti) → (I2 ti σ2) → (¬ nT σ2 ≤ tj) → (¬ (f_X2_agingBy σ2 (nI tj)) = (-5)) → (¬ (f_X2_offerFor σ2 (nI tj) (1 + (f_L_low (y1 >>> ((8 : Int32) &&& 31)) 12)) 1) = 0) → (¬ (f_X2_numberOf σ2 1) = 60) → (((m_X2_buyUsed σ2 (nI tj) (1 + (f_L_low (y1 >>> ((8 : Int32) &&& 31)) 12)) 1).1) = (f_X2_numberOf σ2 1))) ∧
  (∀ (y1 : Int32) (ti : Nat) (σ2 : ST) (tj : Nat) , (26 ≤ ti) → (I2 ti σ2) → (¬ nT σ2 ≤ tj) → (¬ (f_X2_agingBy σ2 (nI tj)) = (-5)) → (¬ (f_X2_offerFor σ2 (nI tj) (1 + (f_L_low (y1 >>> ((8 : Int32) &&& 31)) 12)) 1) = 0) → (¬ (f_X2_numberOf σ2 1) = 60) → (¬ (((f_X2_copyProperty ((m_X2_buyUsed σ2 (nI tj) (1 + (f_L_low (y1 >>> ((8 : Int32) &&& 31)) 12)) 1).2) (f_X2_numberOf σ2 1) 6) * 40) / 100) < (f_X2_offerFor σ2 (nI tj) (1 + (f_L_low (y1 >>> ((8 : Int32) &&& 31)) 12)) 1))) ∧
  (∀ (y1 : Int32) (ti : Nat) (σ2 : ST) (tj : Nat) , (26 ≤ ti) → (I2 ti σ2) → (¬ nT σ2 ≤ tj) → (¬ (f_X2_agingBy σ2 (nI tj)) = (-5)) → (¬ (f_X2_offerFor σ2 (nI tj) (1 + (f_L_low (y1 >>> ((8 : Int32) &&& 31)) 12)) 1) = 0) → (¬ (f_X2_numberOf σ2 1) = 60) → ((f_X2_copyProperty ((m_X2_buyUsed σ2 (nI tj) (1 + (f_L_low (y1 >>> ((8 : Int32) &&& 31)) 12)) 1).2) (f_X2_numberOf σ2 1) 9) = 1)) ∧
  (∀ (y1 : Int32) (ti : Nat) (σ2 : ST) (tj : Nat) , (26 ≤ ti) → (I2 ti σ2) → (¬ nT σ2 ≤ tj) → (¬ (f_X2_agingBy σ2 (nI tj)) = (-5)) → (¬ (f_X2_offerFor σ2 (nI tj) (1 + (f_L_low (y1 >>> ((8 : Int32) &&& 31)) 12)) 1) = 0) → (¬ (f_X2_numberOf σ2 1) = 60) → (¬ (m_X2_buyUsed σ2 (nI tj) (1 + (f_L_low (y1 >>> ((8 : Int32) &&& 31)) 12)) 1).1 < 0)) ∧
  (∀ (y1 : Int32) (ti : Nat) (σ2 : ST) (tj : Nat) , (26 ≤ ti) → (I2 ti σ2) → (¬ nT σ2 ≤ tj) → (¬ (f_X2_agingBy σ2 (nI tj)) = (-5)) → (¬ (f_X2_offerFor σ2 (nI tj) (1 + (f_L_low (y1 >>> ((8 : Int32) &&& 31)) 12)) 1) = 0) → (¬ (f_X2_numberOf σ2 1) = 60) → (¬ (f_X2_offerFor σ2 (nI tj) (1 + (f_L_low (y1 >>> ((8 : Int32) &&& 31)) 12)) 1) < (f_X2_offerFor σ2 (nI tj) (1 + (f_L_low (y1 >>> ((8 : Int32) &&& 31)) 12)) 4))) ∧
  (∀ (y1 : Int32) (ti : Nat) (σ2 : ST) (tj : Nat) , (26 ≤ ti) → (I2 ti σ2) → (¬ nT σ2 ≤ tj) → (¬ (f_X2_agingBy σ2 (nI tj)) = (-5)) → (¬ (f_X2_offerFor σ2 (nI tj) (1 + (f_L_low (y1 >>> ((8 : Int32) &&& 31)) 12)) 1) = 0) → ((f_X2_numberOf σ2 1) = 60) → (((m_X2_buyUsed σ2 (nI tj) (1 + (f_L_low (y1 >>> ((8 : Int32) &&& 31)) 12)) 1).1) = (-5))) ∧
  (∀ (y1 : Int32) (ti : Nat) (σ2 : ST) (tj : Nat) , (26 ≤ ti) → (I2 ti σ2) → (¬ nT σ2 ≤ tj) → (¬ (f_X2_agingBy σ2 (nI tj)) = (-5)) → (¬ (f_X2_offerFor σ2 (nI tj) (1 + (f_L_low (y1 >>> ((8 : Int32) &&& 31)) 12)) 1) = 0) → ((f_X2_numberOf σ2 1) = 60) → ((m_X2_buyUsed σ2 (nI tj) (1 + (f_L_low (y1 >>> ((8 : Int32) &&& 31)) 12)) 1).2 = σ2)) ∧
  (∀ (y1 : Int32) (ti : Nat) (σ2 : ST) (tj : Nat) , (26 ≤ ti) → (I2 ti σ2) → (¬ nT σ2 ≤ tj) → (¬ (f_X2_agingBy σ2 (nI tj)) = (-5)) → (¬ (f_X2_offerFor σ2 (nI tj) (1 + (f_L_low (y1 >>> ((8 : Int32) &&& 31)) 12)) 1) = 0) → ((f_X2_numberOf σ2 1) = 60) → (¬ (f_X2_offerFor σ2 (nI tj) (1 + (f_L_low (y1 >>> ((8 : Int32) &&& 31)) 12)) 1) < (f_X2_offerFor σ2 (nI tj) (1 + (f_L_low (y1 >>> ((8 : Int32) &&& 31)) 12)) 4))) ∧
  (∀ (y1 : Int32) (ti : Nat) (σ2 : ST) (tj : Nat) , (26 ≤ ti) → (I2 ti σ2) → (¬ nT σ2 ≤ tj) → (¬ (f_X2_agingBy σ2 (nI tj)) = (-5)) → ((f_X2_offerFor σ2 (nI tj) (1 + (f_L_low (y1 >>> ((8 : Int32) &&& 31)) 12)) 1) = 0) → (((m_X2_buyUsed σ2 (nI tj) (1 + (f_L_low (y1 >>> ((8 : Int32) &&& 31)) 12)) 1).1) = (-4))) ∧
  (∀ (y1 : Int32) (ti : Nat) (σ2 : ST) (tj : Nat) , (26 ≤ ti) → (I2 ti σ2) → (¬ nT σ2 ≤ tj) → (¬ (f_X2_agingBy σ2 (nI tj)) = (-5)) → ((f_X2_offerFor σ2 (nI tj) (1 + (f_L_low (y1 >>> ((8 : Int32) &&& 31)) 12)) 1) = 0) → ((m_X2_buyUsed σ2 (nI tj) (1 + (f_L_low (y1 >>> ((8 : Int32) &&& 31)) 12)) 1).2 = σ2)) ∧
  (∀ (y1 : Int32) (ti : Nat) (σ2 : ST) (tj : Nat) , (26 ≤ ti) → (I2 ti σ2) → (¬ nT σ2 ≤ tj) → (¬ (f_X2_agingBy σ2 (nI tj)) = (-5)) → ((f_X2_offerFor σ2 (nI tj) (1 + (f_L_low (y1 >>> ((8 : Int32) &&& 31)) 12)) 1) = 0) → (¬ (f_X2_offerFor σ2 (nI tj) (1 + (f_L_low (y1 >>> ((8 : Int32) &&& 31)) 12)) 1) < (f_X2_offerFor σ2 (nI tj) (1 + (f_L_low (y1 >>> ((8 : Int32) &&& 31)) 12)) 4))) ∧
  (∀ (ti : Nat) (σ2 : ST) (tj : Nat) , (26 ≤ ti) → (I2 ti σ2) → (¬ nT σ2 ≤ tj) → ((f_X2_agingBy σ2 (nI tj)) = (-5)) → (((m_X2_advanceEdition σ2 (nI tj)).1) = (-5))) ∧
  (∀ (ti : Nat) (σ2 : ST) (tj : Nat) , (26 ≤ ti) → (I2 ti σ2) → (¬ nT σ2 ≤ tj) → ((f_X2_agingBy σ2 (nI tj)) = (-5)) → ((m_X2_advanceEdition σ2 (nI tj)).2 = σ2)) ∧
  (∀ (y1 : Int32) (ti : Nat) (σ2 : ST) (tj : Nat) , (26 ≤ ti) → (I2 ti σ2) → (¬ nT σ2 ≤ tj) → ((f_X2_agingBy σ2 (nI tj)) = (-5)) → (¬ (f_X2_offerFor σ2 (nI tj) (1 + (f_L_low (y1 >>> ((8 : Int32) &&& 31)) 12)) 1) = 0) → (¬ (f_X2_numberOf σ2 1) = 60) → (((m_X2_buyUsed σ2 (nI tj) (1 + (f_L_low (y1 >>> ((8 : Int32) &&& 31)) 12)) 1).1) = (f_X2_numberOf σ2 1))) ∧
  (∀ (y1 : Int32) (ti : Nat) (σ2 : ST) (tj : Nat) , (26 ≤ ti) → (I2 ti σ2) → (¬ nT σ2 ≤ tj) → ((f_X2_agingBy σ2 (nI tj)) = (-5)) → (¬ (f_X2_offerFor σ2 (nI tj) (1 + (f_L_low (y1 >>> ((8 : Int32) &&& 31)) 12)) 1) = 0) → (¬ (f_X2_numberOf σ2 1) = 60) → (¬ (((f_X2_copyProperty ((m_X2_buyUsed σ2 (nI tj) (1 + (f_L_low (y1 >>> ((8 : Int32) &&& 31)) 12)) 1).2) (f_X2_numberOf σ2 1) 6) * 40) / 100) < (f_X2_offerFor σ2 (nI tj) (1 + (f_L_low (y1 >>> ((8 : Int32) &&& 31)) 12)) 1))) ∧
  (∀ (y1 : Int32) (ti : Nat) (σ2 : ST) (tj : Nat) , (26 ≤ ti) → (I2 ti σ2) → (¬ nT σ2 ≤ tj) → ((f_X2_agingBy σ2 (nI tj)) = (-5)) → (¬ (f_X2_offerFor σ2 (nI tj) (1 + (f_L_low (y1 >>> ((8 : Int32) &&& 31)) 12)) 1) = 0) → (¬ (f_X2_numberOf σ2 1) = 60) → ((f_X2_copyProperty ((m_X2_buyUsed σ2 (nI tj) (1 + (f_L_low (y1 >>> ((8 : Int32) &&& 31)) 12)) 1).2) (f_X2_numberOf σ2 1) 9) = 1)) ∧
  (∀ (y1 : Int32) (ti : Nat) (σ2 : ST) (tj : Nat) , (26 ≤ ti) → (I2 ti σ2) → (¬ nT σ2 ≤ tj) → ((f_X2_agingBy σ2 (nI tj)) = (-5)) → (¬ (f_X2_offerFor σ2 (nI tj) (1 + (f_L_low (y1 >>> ((8 : Int32) &&& 31)) 12)) 1) = 0) → (¬ (f_X2_numberOf σ2 1) = 60) → (¬ (m_X2_buyUsed σ2 (nI tj) (1 + (f_L_low (y1 >>> ((8 : Int32) &&& 31)) 12)) 1).1 < 0)) ∧
  (∀ (y1 : Int32) (ti : Nat) (σ2 : ST) (tj : Nat) , (26 ≤ ti) → (I2 ti σ2) → (¬ nT σ2 ≤ tj) → ((f_X2_agingBy σ2 (nI tj)) = (-5)) → (¬ (f_X2_offerFor σ2 (nI tj) (1 + (f_L_low (y1 >>> ((8 : Int32) &&& 31)) 12)) 1) = 0) → (¬ (f_X2_numberOf σ2 1) = 60) → (¬ (f_X2_offerFor σ2 (nI tj) (1 + (f_L_low (y1 >>> ((8 : Int32) &&& 31)) 12)) 1) < (f_X2_offerFor σ2 (nI tj) (1 + (f_L_low (y1 >>> ((8 : Int32) &&& 31)) 12)) 4))) ∧
  (∀ (y1 : Int32) (ti : Nat) (σ2 : ST) (tj : Nat) , (26 ≤ ti) → (I2 ti σ2) → (¬ nT σ2 ≤ tj) → ((f_X2_agingBy σ2 (nI tj)) = (-5)) → (¬ (f_X2_offerFor σ2 (nI tj) (1 + (f_L_low (y1 >>> ((8 : Int32) &&& 31)) 12)) 1) = 0) → ((f_X2_numberOf σ2 1) = 60) → (((m_X2_buyUsed σ2 (nI tj) (1 + (f_L_low (y1 >>> ((8 : Int32) &&& 31)) 12)) 1).1) = (-5))) ∧
  (∀ (y1 : Int32) (ti : Nat) (σ2 : ST) (tj : Nat) , (26 ≤ ti) → (I2 ti σ2) → (¬ nT σ2 ≤ tj) → ((f_X2_agingBy σ2 (nI tj)) = (-5)) → (¬ (f_X2_offerFor σ2 (nI tj) (1 + (f_L_low (y1 >>> ((8 : Int32) &&& 31)) 12)) 1) = 0) → ((f_X2_numberOf σ2 1) = 60) → ((m_X2_buyUsed σ2 (nI tj) (1 + (f_L_low (y1 >>> ((8 : Int32) &&& 31)) 12)) 1).2 = σ2)) ∧
  (∀ (y1 : Int32) (ti : Nat) (σ2 : ST) (tj : Nat) , (26 ≤ ti) → (I2 ti σ2) → (¬ nT σ2 ≤ tj) → ((f_X2_agingBy σ2 (nI tj)) = (-5)) → (¬ (f_X2_offerFor σ2 (nI tj) (1 + (f_L_low (y1 >>> ((8 : Int32) &&& 31)) 12)) 1) = 0) → ((f_X2_numberOf σ2 1) = 60) → (¬ (f_X2_offerFor σ2 (nI tj) (1 + (f_L_low (y1 >>> ((8 : Int32) &&& 31)) 12)) 1) < (f_X2_offerFor σ2 (nI tj) (1 + (f_L_low (y1 >>> ((8 : Int32) &&& 31)) 12)) 4))) ∧
  (∀ (y1 : Int32) (ti : Nat) (σ2 : ST) (tj : Nat) , (26 ≤ ti) → (I2 ti σ2) → (¬ nT σ2 ≤ tj) → ((f_X2_agingBy σ2 (nI tj)) = (-5)) → ((f_X2_offerFor σ2 (nI tj) (1 + (f_L_low (y1 >>> ((8 : Int32) &&& 31)) 12)) 1) = 0) → (((m_X2_buyUsed σ2 (nI tj) (1 + (f_L_low (y1 >>> ((8 : Int32) &&& 31)) 12)) 1).1) = (-4))) ∧
  (∀ (y1 : Int32) (ti : Nat) (σ2 : ST) (tj : Nat) , (26 ≤ ti) → (I2 ti σ2) → (¬ nT σ2 ≤ tj) → ((f_X2_agingBy σ2 (nI tj)) = (-5)) → ((f_X2_offerFor σ2 (nI tj) (1 + (f_L_low (y1 >>> ((8 : Int32) &&& 31)) 12)) 1) = 0) → ((m_X2_buyUsed σ2 (nI tj) (1 + (f_L_low (y1 >>> ((8 : Int32) &&& 31)) 12)) 1).2 = σ2)) ∧
  (∀ (y1 : Int32) (ti : Nat) (σ2 : ST) (tj : Nat) , (26 ≤ ti) → (I2 ti σ2) → (¬ nT σ2 ≤ tj) → ((f_X2_agingBy σ2 (nI tj)) = (-5)) → ((f_X2_offerFor σ2 (nI tj) (1 + (f_L_low (y1 >>> ((8 : Int32) &&& 31)) 12)) 1) = 0) → (¬ (f_X2_offerFor σ2 (nI tj) (1 + (f_L_low (y1 >>> ((8 : Int32) &&& 31)) 12)) 1) < (f_X2_offerFor σ2 (nI tj) (1 + (f_L_low (y1 >>> ((8 : Int32) &&& 31)) 12)) 4))) ∧
  (∀ (ti : Nat) (σ2 : ST) (y29 : Int32) , (I2 ti σ2) → (¬ 26 ≤ ti) → (¬ 0 ≤ ((m_L_changes σ2 y29).1)) → ((lg_cmp (sD_6 ((m_L_changes σ2 y29).2)) (sD_6 σ2)) = 0)) ∧
  (∀ (ti : Nat) (σ2 : ST) (y29 : Int32) , (I2 ti σ2) → (¬ 26 ≤ ti) → (F_isSound ((m_L_changes σ2 y29).2))) ∧
  (∀ (ti : Nat) (σ2 : ST) (y29 : Int32) , (I2 ti σ2) → (¬ 26 ≤ ti) → (((m_L_changes σ2 y29).1) < 0) → (¬ ((nI ti) - (nI ti) / 3 * 3) = 2) → (I2 (ti + 1) ((m_L_changes σ2 y29).2))) ∧
  (∀ (ti : Nat) (σ2 : ST) (y29 : Int32) , (I2 ti σ2) → (¬ 26 ≤ ti) → (((m_L_changes σ2 y29).1) < 0) → (((nI ti) - (nI ti) / 3 * 3) = 2) → (F_isGivingTold ((m_L_changes σ2 y29).2) (f_L_low (y29 >>> ((5 : Int32) &&& 31)) ((f_X2_numberOf ((m_L_changes σ2 y29).2) 1) + 1)) (f_L_low (y29 >>> ((11 : Int32) &&& 31)) 5))) ∧
  (∀ (ti : Nat) (σ2 : ST) (y29 : Int32) , (I2 ti σ2) → (¬ 26 ≤ ti) → (((m_L_changes σ2 y29).1) < 0) → (((nI ti) - (nI ti) / 3 * 3) = 2) → (I2 (ti + 1) ((m_L_changes σ2 y29).2))) ∧
  (∀ (ti : Nat) (σ2 : ST) (y29 : Int32) , (I2 ti σ2) → (¬ 26 ≤ ti) → (¬ ((m_L_changes σ2 y29).1) < 0) → (¬ ((y29 >>> ((27 : Int32) &&& 31)) &&& 3) = 0) → (¬ ((nI ti) - (nI ti) / 3 * 3) = 2) → (I2 (ti + 1) ((m_L_changes σ2 y29).2))) ∧
  (∀ (ti : Nat) (σ2 : ST) (y29 : Int32) , (I2 ti σ2) → (¬ 26 ≤ ti) → (¬ ((m_L_changes σ2 y29).1) < 0) → (¬ ((y29 >>> ((27 : Int32) &&& 31)) &&& 3) = 0) → (((nI ti) - (nI ti) / 3 * 3) = 2) → (F_isGivingTold ((m_L_changes σ2 y29).2) (f_L_low (y29 >>> ((5 : Int32) &&& 31)) ((f_X2_numberOf ((m_L_changes σ2 y29).2) 1) + 1)) (f_L_low (y29 >>> ((11 : Int32) &&& 31)) 5))) ∧
  (∀ (ti : Nat) (σ2 : ST) (y29 : Int32) , (I2 ti σ2) → (¬ 26 ≤ ti) → (¬ ((m_L_changes σ2 y29).1) < 0) → (¬ ((y29 >>> ((27 : Int32) &&& 31)) &&& 3) = 0) → (((nI ti) - (nI ti) / 3 * 3) = 2) → (I2 (ti + 1) ((m_L_changes σ2 y29).2))) ∧
  (∀ (ti : Nat) (σ2 : ST) (y29 : Int32) , (I2 ti σ2) → (¬ 26 ≤ ti) → (¬ ((m_L_changes σ2 y29).1) < 0) → (((y29 >>> ((27 : Int32) &&& 31)) &&& 3) = 0) → (¬ ((nI ti) - (nI ti) / 3 * 3) = 2) → (I2 (ti + 1) σ2)) ∧
  (∀ (ti : Nat) (σ2 : ST) (y29 : Int32) , (I2 ti σ2) → (¬ 26 ≤ ti) → (¬ ((m_L_changes σ2 y29).1) < 0) → (((y29 >>> ((27 : Int32) &&& 31)) &&& 3) = 0) → (((nI ti) - (nI ti) / 3 * 3) = 2) → (F_isGivingTold σ2 (f_L_low (y29 >>> ((5 : Int32) &&& 31)) ((f_X2_numberOf σ2 1) + 1)) (f_L_low (y29 >>> ((11 : Int32) &&& 31)) 5))) ∧
  (∀ (ti : Nat) (σ2 : ST) (y29 : Int32) , (I2 ti σ2) → (¬ 26 ≤ ti) → (¬ ((m_L_changes σ2 y29).1) < 0) → (((y29 >>> ((27 : Int32) &&& 31)) &&& 3) = 0) → (((nI ti) - (nI ti) / 3 * 3) = 2) → (I2 (ti + 1) σ2)) ∧
  (∀ (nt : Nat) (tt : Nat) (σ1 : ST) , (1 ≤ nt) → (nt ≤ 3) → (nt ≤ tt) → (I1 tt σ1) → (I2 0 σ1)) ∧
  (∀ (nt : Nat) (tt : Nat) (σ1 : ST) (y33 : Int32) , (I1 tt σ1) → (1 ≤ nt) → (nt ≤ 3) → (¬ nt ≤ tt) → (((m_X2_putTitle σ1 (500 + (f_L_low y33 5000)) (3 + (f_L_low (y33 >>> ((13 : Int32) &&& 31)) 8))).1) = (nI tt))) ∧
  (∀ (nt : Nat) (tt : Nat) (σ1 : ST) (y33 : Int32) , (I1 tt σ1) → (1 ≤ nt) → (nt ≤ 3) → (¬ nt ≤ tt) → (((m_X2_putCourse ((m_X2_putTitle σ1 (500 + (f_L_low y33 5000)) (3 + (f_L_low (y33 >>> ((13 : Int32) &&& 31)) 8))).2) (nI tt) (1 + (f_L_low (y33 >>> ((17 : Int32) &&& 31)) 6)) (f_L_low (y33 >>> ((20 : Int32) &&& 31)) 20)).1) = (nI tt))) ∧
  (∀ (nt : Nat) (tt : Nat) (σ1 : ST) (y33 : Int32) , (I1 tt σ1) → (1 ≤ nt) → (nt ≤ 3) → (¬ nt ≤ tt) → (0 ≤ ((m_X2_buyNew ((m_X2_putCourse ((m_X2_putTitle σ1 (500 + (f_L_low y33 5000)) (3 + (f_L_low (y33 >>> ((13 : Int32) &&& 31)) 8))).2) (nI tt) (1 + (f_L_low (y33 >>> ((17 : Int32) &&& 31)) 6)) (f_L_low (y33 >>> ((20 : Int32) &&& 31)) 20)).2) (nI tt) (1 + (f_L_low (y33 >>> ((25 : Int32) &&& 31)) 6))).1))) ∧
  (∀ (nt : Nat) (tt : Nat) (σ1 : ST) (y33 : Int32) , (I1 tt σ1) → (1 ≤ nt) → (nt ≤ 3) → (¬ nt ≤ tt) → (I1 (tt + 1) ((m_X2_buyNew ((m_X2_putCourse ((m_X2_putTitle σ1 (500 + (f_L_low y33 5000)) (3 + (f_L_low (y33 >>> ((13 : Int32) &&& 31)) 8))).2) (nI tt) (1 + (f_L_low (y33 >>> ((17 : Int32) &&& 31)) 6)) (f_L_low (y33 >>> ((20 : Int32) &&& 31)) 20)).2) (nI tt) (1 + (f_L_low (y33 >>> ((25 : Int32) &&& 31)) 6))).2))) ∧
  (∀ (nt : Nat) , (1 ≤ nt) → (nt ≤ 3) → (I1 0 sh0))
section LAW
variable {p : Program} {l : Launch} {e : Env} {s : State} {m : MethodId} {args : Array Value} {below : List Frame} {meth : Method} {c : Code} {H : Heap} {locs : List Loc} {Q : State → Prop} {ls : Array Slot} {D : va_G} {cI cR : ClassId} {ad : Nat → Nat} {v : EN} {b L : Nat} {xs : Nat → Int32}
set_option maxRecDepth 100000 in
theorem w_law {I1 I2 : Nat → ST → Prop} (hF : F_law I1 I2) (hI1 : ∀ t σ, I1 t σ → okS σ) (hI2 : ∀ t σ, I2 t σ → okS σ) (hx : p.tables.exec = Jvm.exec) (hb : c.code = cL_law) (hml : c.maxLocals = 16) (hown : s.vm.findClass RL = some m.cls) (hts : ∀ w ∈ Cond.initialized RX3 :: W0, w.before args s = true) (hX : va_X b L xs s s.heap) (hbl : b < s.heap.size) (hL : L ≤ 260) (hK : brK D cI cR s) (hI : brI ad) (hE : eE v (fun q => s.heap.size ≤ q) s s.heap) (hN : nE s)
    (hB0 : brH D cI cR ad (fun _ => sh0) 0 0 tx0 H) (hbA : ∀ q, brA ad q → s.heap.size ≤ q) (hS : va_S (fun q => s.heap.size ≤ q) s.heap H locs) (hl : lv_has ls 16 [(1, .ref (ad 300)), (0, .ref b)])
    (kend : ∀ (H : Heap) (locs : List Loc) (ls : Array Slot) (cells slots : Nat), va_S (fun q => s.heap.size ≤ q) s.heap H locs → cells ≤ 600000 → slots ≤ 7302250 → W p l e room_1 s m args below meth c H locs cells slots Q (F0 m 1162 ls [.int 1])) :
    W p l e room_1 s m args below meth c H locs 110 3108 Q (F0 m 8 ls []) := by
  obtain ⟨hF_1, hF_2, hF_3, hF_4, hF_5, hF_6, hF_7, hF_8, hF_9, hF_10, hF_11, hF_12, hF_13, hF_14, hF_15, hF_16, hF_17, hF_18, hF_19, hF_20, hF_21, hF_22, hF_23, hF_24, hF_25, hF_26, hF_27, hF_28, hF_29, hF_30, hF_31, hF_32, hF_33, hF_34, hF_35, hF_36, hF_37, hF_38, hF_39, hF_40, hF_41, hF_42, hF_43, hF_44, hF_45, hF_46, hF_47, hF_48, hF_49, hF_50, hF_51, hF_52, hF_53, hF_54, hF_55, hF_56, hF_57, hF_58, hF_59, hF_60, hF_61, hF_62, hF_63, hF_64, hF_65, hF_66, hF_67, hF_68, hF_69, hF_70, hF_71, hF_72, hF_73, hF_74, hF_75, hF_76, hF_77, hF_78, hF_79, hF_80, hF_81, hF_82, hF_83, hF_84, hF_85, hF_86, hF_87, hF_88, hF_89⟩ := hF
  have hbX : ¬ s.heap.size ≤ b := Nat.not_le.mpr hbl
  refine lv_aload_n hx hb dL_law_8 rfl (lv_at hl 1 rfl) ?_
  refine lv_iconst (v := 0) hx hb dL_law_9 (by decide) ?_
  refine lz_cell (n := 0) (rest := []) hx hb hml hown hts hX hbl hbX hS hL (by omega) ml_L_98 ⟨(Nat.le_of_ble_eq_true rfl), (Nat.le_of_ble_eq_true rfl)⟩ hl.1 rfl (Nat.le_of_ble_eq_true rfl) dL_law_10 (by show _ ≤ 600000; omega) (by show _ ≤ 7302250; omega) (fun y1 => ?_)
  refine lv_istore_n (lv' := [(2, .int y1), (1, .ref (ad 300)), (0, .ref b)]) hx hb dL_law_13 rfl hl (by decide) rfl (fun ls hl => ?_)
  have hEH : lE v ad s H := lE_of hE hN hbA hS
  refine lv_aload_n hx hb dL_law_14 rfl (lv_at hl 1 rfl) ?_
  refine lb_BQ (As := []) (rest := []) hx hb hml hown hts hK hI hB0 hEH hbA hS (c_X3_undo l D cI cR ad v _ 0 0 tx0 (by decide) (by decide)) (kV_X3_undo hts ml_L_55 ⟨(Nat.le_of_ble_eq_true rfl), (Nat.le_of_ble_eq_true rfl)⟩) rfl hl.1 rfl (Nat.le_of_ble_eq_true rfl) dL_law_15 (by show _ ≤ 600000; omega) (by show _ ≤ 7302250; omega) (fun H locs hB0 hS => ?_)
  have hB0 : brH D cI cR ad (fun _ => sh0) 0 0 tx0 H := hB0
  have hEH : lE v ad s H := lE_of hE hN hbA hS
  refine lv_bipush (v := (-4)) hx hb dL_law_18 (by decide) ?_
  refine lv_icmp_ne (tgt := 72) hx hb dL_law_20 (by decide) (fun q => absurd rfl q) (fun _ => ?_)
  refine lv_aload_n hx hb dL_law_23 rfl (lv_at hl 1 rfl) ?_
  refine lb_BQ (As := []) (rest := []) hx hb hml hown hts hK hI hB0 hEH hbA hS (c_X3_orders l D cI cR ad v _ 0 0 tx0 (by decide) (by decide) sh0_ok tx0_okX) (kV_X3_orders hts ml_L_102 ⟨(Nat.le_of_ble_eq_true rfl), (Nat.le_of_ble_eq_true rfl)⟩) rfl hl.1 rfl (Nat.le_of_ble_eq_true rfl) dL_law_24 (by show _ ≤ 600000; omega) (by show _ ≤ 7302250; omega) (fun H locs hB0 hS => ?_)
  rw [or0_ρ, if_neg tx0_fault, if_neg tx0_fault] at hB0
  have hEH : lE v ad s H := lE_of hE hN hbA hS
  have hB : lB D cI cR ad sh0 H := ⟨_, 0, 0, _, ⟨by decide, by decide⟩, rfl, hB0⟩
  refine lv_bipush (v := (-4)) hx hb dL_law_27 (by decide) ?_
  refine lv_icmp_ne (tgt := 72) hx hb dL_law_29 (by decide) (fun q => absurd or0_v q) (fun _ => ?_)
  refine lv_aload_n hx hb dL_law_32 rfl (lv_at hl 1 rfl) ?_
  refine lb_P (As := []) (rest := []) hx hb hml hown hts hK hI hB hEH (cl_served l sh0_ok) (kV_X3_served hts ml_L_34 ⟨(Nat.le_of_ble_eq_true rfl), (Nat.le_of_ble_eq_true rfl)⟩) rfl hl.1 rfl (Nat.le_of_ble_eq_true rfl) dL_law_33 (by show _ ≤ 600000; omega) (by show _ ≤ 7302250; omega) ?_
  refine lv_if_ne (tgt := 72) hx hb dL_law_36 (by decide) (fun q => absurd (hF_1) q) (fun c_36 => ?_)
  refine lv_aload_n hx hb dL_law_39 rfl (lv_at hl 1 rfl) ?_
  refine lv_bipush (v := 7) hx hb dL_law_40 (by decide) ?_
  refine lb_P (As := [.int 7]) (rest := []) hx hb hml hown hts hK hI hB hEH (cl_book l 7) (kV_X3_book hts ml_L_30 ⟨(Nat.le_of_ble_eq_true rfl), (Nat.le_of_ble_eq_true rfl)⟩) rfl hl.1 rfl (Nat.le_of_ble_eq_true rfl) dL_law_42 (by show _ ≤ 600000; omega) (by show _ ≤ 7302250; omega) ?_
  refine lv_ldc (v := 100000000) hx hb hown (hts _ (List.mem_cons_of_mem _ mk_L_33)) dL_law_45 ?_
  refine lv_icmp_ne (tgt := 72) hx hb dL_law_47 (by decide) (fun q => absurd (hF_2) q) (fun c_47 => ?_)
  refine lv_aload_n hx hb dL_law_50 rfl (lv_at hl 1 rfl) ?_
  refine lv_iconst (v := 0) hx hb dL_law_51 (by decide) ?_
  refine lv_iconst (v := 0) hx hb dL_law_52 (by decide) ?_
  refine lb_Q (As := [.int 0, .int 0]) (w := (m_X2_rentCopy sh0 0 0)) (rest := []) hx hb hml hown hts hK hI hB hEH hbA hS (cm_rent l 0 0 sh0_ok) (kV_X3_rent hts ml_L_88 ⟨(Nat.le_of_ble_eq_true rfl), (Nat.le_of_ble_eq_true rfl)⟩) rfl hl.1 rfl (Nat.le_of_ble_eq_true rfl) dL_law_53 (by show _ ≤ 600000; omega) (by show _ ≤ 7302250; omega) (fun H locs hB hU hS => ?_)
  have hok2 : okS (m_X2_rentCopy sh0 0 0).2 := ok_rent sh0_ok 0 0
  obtain ⟨_, _, _⟩ := okS_b hok2
  have hEH : lE v ad s H := lE_of hE hN hbA hS
  refine lv_bipush (v := (-2)) hx hb dL_law_56 (by decide) ?_
  refine lv_icmp_ne (tgt := 72) hx hb dL_law_58 (by decide) (fun q => absurd (hF_3) q) (fun c_58 => ?_)
  have hB : lB D cI cR ad sh0 H := by rw [← (show (m_X2_rentCopy sh0 0 0).2 = sh0 from (hF_4))]; exact hB
  refine lv_aload_n hx hb dL_law_61 rfl (lv_at hl 1 rfl) ?_
  refine lv_iconst (v := 0) hx hb dL_law_62 (by decide) ?_
  refine lv_iconst (v := 0) hx hb dL_law_63 (by decide) ?_
  refine lb_P (As := [.int 0, .int 0]) (rest := []) hx hb hml hown hts hK hI hB hEH (cl_copy l 0 0 sh0_ok) (kV_X3_copy hts ml_L_14 ⟨(Nat.le_of_ble_eq_true rfl), (Nat.le_of_ble_eq_true rfl)⟩) rfl hl.1 rfl (Nat.le_of_ble_eq_true rfl) dL_law_64 (by show _ ≤ 600000; omega) (by show _ ≤ 7302250; omega) ?_
  refine lv_bipush (v := (-2)) hx hb dL_law_67 (by decide) ?_
  refine lv_icmp_eq (tgt := 74) hx hb dL_law_69 (by decide) (fun c_69 => ?_) (fun q => absurd (hF_5) q)
  refine lv_iconst (v := 1) hx hb dL_law_74 (by decide) ?_
  refine lv_iload_n hx hb dL_law_75 rfl (lv_at hl 0 rfl) ?_
  refine lv_iconst (v := 3) hx hb dL_law_76 (by decide) ?_
  refine cl_S (As := [.int y1, .int 3]) (rest := [.int (1)]) hx hb hml hown hts (c_L_low l y1 3 (by decide)) (kS_L_low hts ml_L_58 ⟨(Nat.le_of_ble_eq_true rfl), (Nat.le_of_ble_eq_true rfl)⟩) rfl hl.1 rfl (Nat.le_of_ble_eq_true rfl) dL_law_77 (by show _ ≤ 600000; omega) (by show _ ≤ 7302250; omega) ?_
  refine lv_iadd hx hb dL_law_80 ?_
  refine lv_istore_n (lv' := [(3, .int (1 + (f_L_low y1 3))), (2, .int (y1)), (1, .ref ((ad 300))), (0, .ref (b))]) hx hb dL_law_81 rfl hl (by decide) rfl (fun ls hl => ?_)
  obtain ⟨nt, hnt, hnt1, hnt3⟩ := (hF_6 y1)
  rw [hnt] at hl
  refine lv_iconst (v := 0) hx hb dL_law_82 (by decide) ?_
  refine lv_istore (lv' := [(4, .int (0)), (3, .int (nI nt)), (2, .int (y1)), (1, .ref ((ad 300))), (0, .ref (b))]) hx hb dL_law_83 hl (by decide) rfl (fun ls hl => ?_)
  have L_85 : ∀ (fu : Nat) (tt : Nat) (σ1 : ST), nt - tt < fu → (I1 tt σ1) → (tt ≤ nt) → ∀ (H : Heap) (locs : List Loc), lB D cI cR ad σ1 H → va_S (fun q => s.heap.size ≤ q) s.heap H locs → ∀ ls, lv_has ls 16 [(3, .int (nI nt)), (2, .int (y1)), (1, .ref ((ad 300))), (0, .ref (b)), (4, .int (nI tt))] → W p l e room_1 s m args below meth c H locs 110 3108 Q (F0 m 85 ls []) := by
    intro fu_85
    induction fu_85 with
    | zero => intro tt σ1 hm; exact absurd hm (Nat.not_lt_zero _)
    | succ fu_85 ih_85 =>
      intro tt σ1 hm hv hbt H locs hB hS ls hl
      have hEH : lE v ad s H := lE_of hE hN hbA hS
      have hok := hI1 _ _ hv
      obtain ⟨hT6, hC6, hN6⟩ := okS_b hok
      refine lv_iload hx hb dL_law_85 (lv_at hl 4 rfl) ?_
      refine lv_iload_n hx hb dL_law_87 rfl (lv_at hl 0 rfl) ?_
      refine lv_icmp_geN (tt) (nt) hx hb rfl rfl (by omega) (by omega) (tgt := 196) dL_law_88 (by decide) (fun c_88 => ?_) (fun c_88 => ?_)
      · refine lv_iconst (v := 0) hx hb dL_law_196 (by decide) ?_
        refine lv_istore (lv' := [(4, .int (0)), (3, .int (nI nt)), (2, .int (y1)), (1, .ref ((ad 300))), (0, .ref (b))]) hx hb dL_law_197 hl (by decide) rfl (fun ls hl => ?_)
        have L_199 : ∀ (fu : Nat) (ti : Nat) (σ2 : ST), 26 - ti < fu → (I2 ti σ2) → (ti ≤ 26) → ∀ (H : Heap) (locs : List Loc), lB D cI cR ad σ2 H → va_S (fun q => s.heap.size ≤ q) s.heap H locs → ∀ ls, lv_has ls 16 [(2, .int (y1)), (1, .ref ((ad 300))), (0, .ref (b)), (4, .int (nI ti))] → W p l e room_1 s m args below meth c H locs (110 + 2 * ti) (3108 + 26 * ti) Q (F0 m 199 ls []) := by
          intro fu_199
          induction fu_199 with
          | zero => intro ti σ2 hm; exact absurd hm (Nat.not_lt_zero _)
          | succ fu_199 ih_199 =>
            intro ti σ2 hm hw hbi H locs hB hS ls hl
            have hEH : lE v ad s H := lE_of hE hN hbA hS
            have hok := hI2 _ _ hw
            obtain ⟨hT6, hC6, hN6⟩ := okS_b hok
            refine lv_iload hx hb dL_law_199 (lv_at hl 3 rfl) ?_
            refine lv_bipush (v := 26) hx hb dL_law_201 (by decide) ?_
            refine lv_icmp_geN (ti) (26) hx hb rfl rfl (by omega) (by omega) (tgt := 334) dL_law_203 (by decide) (fun c_203 => ?_) (fun c_203 => ?_)
            · refine lv_aload_n hx hb dL_law_334 rfl (lv_at hl 1 rfl) ?_
              refine lb_L (As := []) (rest := []) hx hb hml hown hts hK hI hB hEH (cl_digest l hok) (kV_X3_digest hts ml_L_38 ⟨(Nat.le_of_ble_eq_true rfl), (Nat.le_of_ble_eq_true rfl)⟩) rfl hl.1 rfl (Nat.le_of_ble_eq_true rfl) dL_law_335 (by show _ ≤ 600000; omega) (by show _ ≤ 7302250; omega) ?_
              refine lv_lstore (lv' := [(4, .long (sD_6 σ2)), (2, .int (y1)), (1, .ref ((ad 300))), (0, .ref (b))]) hx hb dL_law_338 hl (by decide) rfl (fun ls hl => ?_)
              refine lv_iconst (v := 1) hx hb dL_law_340 (by decide) ?_
              refine lv_iload_n hx hb dL_law_341 rfl (lv_at hl 1 rfl) ?_
              refine lv_iconst (v := 4) hx hb dL_law_342 (by decide) ?_
              refine lv_ishr hx hb dL_law_343 ?_
              refine lv_sipush (v := 200) hx hb dL_law_344 (by decide) ?_
              refine cl_S (As := [.int (y1 >>> ((4 : Int32) &&& 31)), .int 200]) (rest := [.int (1)]) hx hb hml hown hts (c_L_low l (y1 >>> ((4 : Int32) &&& 31)) 200 (by decide)) (kS_L_low hts ml_L_58 ⟨(Nat.le_of_ble_eq_true rfl), (Nat.le_of_ble_eq_true rfl)⟩) rfl hl.1 rfl (Nat.le_of_ble_eq_true rfl) dL_law_347 (by show _ ≤ 600000; omega) (by show _ ≤ 7302250; omega) ?_
              refine lv_iadd hx hb dL_law_350 ?_
              refine lv_istore (lv' := [(6, .int (1 + (f_L_low (y1 >>> ((4 : Int32) &&& 31)) 200))), (4, .long (sD_6 σ2)), (2, .int (y1)), (1, .ref ((ad 300))), (0, .ref (b))]) hx hb dL_law_351 hl (by decide) rfl (fun ls hl => ?_)
              refine lv_aload_n hx hb dL_law_353 rfl (lv_at hl 3 rfl) ?_
              refine lv_iload hx hb dL_law_354 (lv_at hl 0 rfl) ?_
              refine lb_P (As := [.int (1 + (f_L_low (y1 >>> ((4 : Int32) &&& 31)) 200))]) (rest := []) hx hb hml hown hts hK hI hB hEH (cl_lostIn l (1 + (f_L_low (y1 >>> ((4 : Int32) &&& 31)) 200)) hok) (kV_X3_lostIn hts ml_L_113 ⟨(Nat.le_of_ble_eq_true rfl), (Nat.le_of_ble_eq_true rfl)⟩) rfl hl.1 rfl (Nat.le_of_ble_eq_true rfl) dL_law_356 (by show _ ≤ 600000; omega) (by show _ ≤ 7302250; omega) ?_
              refine lv_istore (lv' := [(7, .int ((f_X2_lostAfter σ2 (1 + (f_L_low (y1 >>> ((4 : Int32) &&& 31)) 200))))), (6, .int (1 + (f_L_low (y1 >>> ((4 : Int32) &&& 31)) 200))), (4, .long (sD_6 σ2)), (2, .int (y1)), (1, .ref ((ad 300))), (0, .ref (b))]) hx hb dL_law_359 hl (by decide) rfl (fun ls hl => ?_)
              refine lv_aload_n hx hb dL_law_361 rfl (lv_at hl 4 rfl) ?_
              refine lv_bipush (v := 7) hx hb dL_law_362 (by decide) ?_
              refine lb_P (As := [.int 7]) (rest := []) hx hb hml hown hts hK hI hB hEH (cl_count l 7 hok) (kV_X3_count hts ml_L_8 ⟨(Nat.le_of_ble_eq_true rfl), (Nat.le_of_ble_eq_true rfl)⟩) rfl hl.1 rfl (Nat.le_of_ble_eq_true rfl) dL_law_364 (by show _ ≤ 600000; omega) (by show _ ≤ 7302250; omega) ?_
              refine lv_istore (lv' := [(8, .int ((f_X2_numberOf σ2 7))), (7, .int ((f_X2_lostAfter σ2 (1 + (f_L_low (y1 >>> ((4 : Int32) &&& 31)) 200))))), (6, .int (1 + (f_L_low (y1 >>> ((4 : Int32) &&& 31)) 200))), (4, .long (sD_6 σ2)), (2, .int (y1)), (1, .ref ((ad 300))), (0, .ref (b))]) hx hb dL_law_367 hl (by decide) rfl (fun ls hl => ?_)
              refine lv_aload_n hx hb dL_law_369 rfl (lv_at hl 5 rfl) ?_
              refine lb_L (As := []) (rest := []) hx hb hml hown hts hK hI hB hEH (cl_digest l hok) (kV_X3_digest hts ml_L_38 ⟨(Nat.le_of_ble_eq_true rfl), (Nat.le_of_ble_eq_true rfl)⟩) rfl hl.1 rfl (Nat.le_of_ble_eq_true rfl) dL_law_370 (by show _ ≤ 600000; omega) (by show _ ≤ 7302250; omega) ?_
              refine lv_lload hx hb dL_law_373 (lv_at hl 3 rfl) ?_
              refine W.lcmp hx hb dL_law_375 ?_
              refine lv_if_ne (tgt := 428) hx hb dL_law_376 (by decide) (fun q => absurd (lg_self _) q) (fun _ => ?_)
              refine lv_aload_n hx hb dL_law_379 rfl (lv_at hl 5 rfl) ?_
              refine lv_iload hx hb dL_law_380 (lv_at hl 2 rfl) ?_
              refine lb_Q (As := [.int (1 + (f_L_low (y1 >>> ((4 : Int32) &&& 31)) 200))]) (w := (m_X2_passDays σ2 (1 + (f_L_low (y1 >>> ((4 : Int32) &&& 31)) 200)))) (rest := []) hx hb hml hown hts hK hI hB hEH hbA hS (cm_pass l (1 + (f_L_low (y1 >>> ((4 : Int32) &&& 31)) 200)) hok) (kV_X3_pass hts ml_L_91 ⟨(Nat.le_of_ble_eq_true rfl), (Nat.le_of_ble_eq_true rfl)⟩) rfl hl.1 rfl (Nat.le_of_ble_eq_true rfl) dL_law_382 (by show _ ≤ 600000; omega) (by show _ ≤ 7302250; omega) (fun H locs hB hU hS => ?_)
              have hok3 : okS (m_X2_passDays σ2 (1 + (f_L_low (y1 >>> ((4 : Int32) &&& 31)) 200))).2 := ok_pass hok (1 + (f_L_low (y1 >>> ((4 : Int32) &&& 31)) 200))
              obtain ⟨_, _, _⟩ := okS_b hok3
              have hEH : lE v ad s H := lE_of hE hN hbA hS
              refine lv_iload hx hb dL_law_385 (lv_at hl 1 rfl) ?_
              refine lv_icmp_ne (tgt := 428) hx hb dL_law_387 (by decide) (fun q => absurd (hF_7 y1 ti σ2 c_203 hw) q) (fun c_387 => ?_)
              refine lv_aload_n hx hb dL_law_390 rfl (lv_at hl 5 rfl) ?_
              refine lv_bipush (v := 7) hx hb dL_law_391 (by decide) ?_
              refine lb_P (As := [.int 7]) (rest := []) hx hb hml hown hts hK hI hB hEH (cl_count l 7 hok3) (kV_X3_count hts ml_L_8 ⟨(Nat.le_of_ble_eq_true rfl), (Nat.le_of_ble_eq_true rfl)⟩) rfl hl.1 rfl (Nat.le_of_ble_eq_true rfl) dL_law_393 (by show _ ≤ 600000; omega) (by show _ ≤ 7302250; omega) ?_
              refine lv_iload hx hb dL_law_396 (lv_at hl 0 rfl) ?_
              refine lv_iload hx hb dL_law_398 (lv_at hl 1 rfl) ?_
              refine lv_iadd hx hb dL_law_400 ?_
              refine lv_icmp_ne (tgt := 428) hx hb dL_law_401 (by decide) (fun q => absurd (hF_8 y1 ti σ2 c_203 hw) q) (fun c_401 => ?_)
              refine lv_aload_n hx hb dL_law_404 rfl (lv_at hl 5 rfl) ?_
              refine lz_S (rest := []) hx hb hml hown hts hK hI hB hEH hS (c_L_isSound l D cI cR ad v _ hok3 (hF_9 y1 ti σ2 c_203 hw)) (kS_L_isSound hts ml_L_49 ⟨(Nat.le_of_ble_eq_true rfl), (Nat.le_of_ble_eq_true rfl)⟩) hl.1 rfl (Nat.le_of_ble_eq_true rfl) dL_law_405 (by show _ ≤ 600000; omega) (by show _ ≤ 7302250; omega) (fun H locs hsz hsm hS => ?_)
              have hB := hB.keep hI hsm
              have hU := fun h => (hU h).keep hI hsm
              have hEH : lE v ad s H := lE_of hE hN hbA hS
              refine lv_if_eq (tgt := 428) hx hb dL_law_408 (by decide) (fun q => absurd q (by decide)) (fun _ => ?_)
              refine lv_aload_n hx hb dL_law_411 rfl (lv_at hl 5 rfl) ?_
              refine lb_U (rest := []) hx hb hml hown hts hK hI (hU (hF_10 y1 ti σ2 c_203 hw)) hEH hbA hS (kV_X3_undo hts ml_L_55 ⟨(Nat.le_of_ble_eq_true rfl), (Nat.le_of_ble_eq_true rfl)⟩) hl.1 rfl (Nat.le_of_ble_eq_true rfl) dL_law_412 (by show _ ≤ 600000; omega) (by show _ ≤ 7302250; omega) (fun H locs r4 hr4 hB hS => ?_)
              have hEH : lE v ad s H := lE_of hE hN hbA hS
              refine lv_if_lt (tgt := 428) hx hb dL_law_415 (by decide) (fun q => absurd q hr4) (fun _ => ?_)
              refine lv_aload_n hx hb dL_law_418 rfl (lv_at hl 5 rfl) ?_
              refine lb_L (As := []) (rest := []) hx hb hml hown hts hK hI hB hEH (cl_digest l hok) (kV_X3_digest hts ml_L_38 ⟨(Nat.le_of_ble_eq_true rfl), (Nat.le_of_ble_eq_true rfl)⟩) rfl hl.1 rfl (Nat.le_of_ble_eq_true rfl) dL_law_419 (by show _ ≤ 600000; omega) (by show _ ≤ 7302250; omega) ?_
              refine lv_lload hx hb dL_law_422 (lv_at hl 3 rfl) ?_
              refine W.lcmp hx hb dL_law_424 ?_
              refine lv_if_eq (tgt := 430) hx hb dL_law_425 (by decide) (fun _ => ?_) (fun q => absurd (lg_self _) q)
              refine lv_iconst (v := 0) hx hb dL_law_430 (by decide) ?_
              refine lv_istore (lv' := [(9, .int (0)), (8, .int ((f_X2_numberOf σ2 7))), (7, .int ((f_X2_lostAfter σ2 (1 + (f_L_low (y1 >>> ((4 : Int32) &&& 31)) 200))))), (6, .int (1 + (f_L_low (y1 >>> ((4 : Int32) &&& 31)) 200))), (4, .long (sD_6 σ2)), (2, .int (y1)), (1, .ref ((ad 300))), (0, .ref (b))]) hx hb dL_law_431 hl (by decide) rfl (fun ls hl => ?_)
              have L_433 : ∀ (fu : Nat) (tj : Nat), nT σ2 - tj < fu → (tj ≤ nT σ2) → ∀ (H : Heap) (locs : List Loc), lB D cI cR ad σ2 H → va_S (fun q => s.heap.size ≤ q) s.heap H locs → ∀ ls, lv_has ls 16 [(4, .long (sD_6 σ2)), (2, .int (y1)), (1, .ref ((ad 300))), (0, .ref (b)), (9, .int (nI tj))] → W p l e room_1 s m args below meth c H locs (110 + 2 * ti + 1) (3108 + 26 * ti + 13) Q (F0 m 433 ls []) := by
                intro fu_433
                induction fu_433 with
                | zero => intro tj hm; exact absurd hm (Nat.not_lt_zero _)
                | succ fu_433 ih_433 =>
                  intro tj hm hbj H locs hB hS ls hl
                  have hEH : lE v ad s H := lE_of hE hN hbA hS
                  refine lv_iload hx hb dL_law_433 (lv_at hl 4 rfl) ?_
                  refine lv_aload_n hx hb dL_law_435 rfl (lv_at hl 2 rfl) ?_
                  refine lv_iconst (v := 0) hx hb dL_law_436 (by decide) ?_
                  refine lb_P (As := [.int 0]) (rest := [.int (nI tj)]) hx hb hml hown hts hK hI hB hEH (cl_count l 0 hok) (kV_X3_count hts ml_L_8 ⟨(Nat.le_of_ble_eq_true rfl), (Nat.le_of_ble_eq_true rfl)⟩) rfl hl.1 rfl (Nat.le_of_ble_eq_true rfl) dL_law_437 (by show _ ≤ 600000; omega) (by show _ ≤ 7302250; omega) ?_
                  refine lv_icmp_geN (tj) (nT σ2) hx hb rfl (num_0 hok) (by omega) (by omega) (tgt := 792) dL_law_440 (by decide) (fun c_440 => ?_) (fun c_440 => ?_)
                  · refine lv_iconst (v := 0) hx hb dL_law_792 (by decide) ?_
                    refine lv_istore (lv' := [(9, .int (0)), (4, .long (sD_6 σ2)), (2, .int (y1)), (1, .ref ((ad 300))), (0, .ref (b))]) hx hb dL_law_793 hl (by decide) rfl (fun ls hl => ?_)
                    have L_795 : ∀ (fu : Nat) (cj : Nat), nC σ2 - cj < fu → (cj ≤ nC σ2) → ∀ (H : Heap) (locs : List Loc), lB D cI cR ad σ2 H → va_S (fun q => s.heap.size ≤ q) s.heap H locs → ∀ ls, lv_has ls 16 [(4, .long (sD_6 σ2)), (2, .int (y1)), (1, .ref ((ad 300))), (0, .ref (b)), (9, .int (nI cj))] → W p l e room_1 s m args below meth c H locs (110 + 2 * ti + 1) (3108 + 26 * ti + 13) Q (F0 m 795 ls []) := by
                      intro fu_795
                      induction fu_795 with
                      | zero => intro cj hm; exact absurd hm (Nat.not_lt_zero _)
                      | succ fu_795 ih_795 =>
                        intro cj hm hbc H locs hB hS ls hl
                        have hEH : lE v ad s H := lE_of hE hN hbA hS
                        refine lv_iload hx hb dL_law_795 (lv_at hl 4 rfl) ?_
                        refine lv_aload_n hx hb dL_law_797 rfl (lv_at hl 2 rfl) ?_
                        refine lv_iconst (v := 2) hx hb dL_law_798 (by decide) ?_
                        refine lb_P (As := [.int 2]) (rest := [.int (nI cj)]) hx hb hml hown hts hK hI hB hEH (cl_count l 2 hok) (kV_X3_count hts ml_L_8 ⟨(Nat.le_of_ble_eq_true rfl), (Nat.le_of_ble_eq_true rfl)⟩) rfl hl.1 rfl (Nat.le_of_ble_eq_true rfl) dL_law_799 (by show _ ≤ 600000; omega) (by show _ ≤ 7302250; omega) ?_
                        refine lv_icmp_geN (cj) (nC σ2) hx hb rfl (num_2 hok) (by omega) (by omega) (tgt := 945) dL_law_802 (by decide) (fun c_802 => ?_) (fun c_802 => ?_)
                        · refine lv_aload_n hx hb dL_law_945 rfl (lv_at hl 2 rfl) ?_
                          refine lv_bipush (v := 99) hx hb dL_law_946 (by decide) ?_
                          refine lv_iconst (v := 1) hx hb dL_law_948 (by decide) ?_
                          refine lb_Q (As := [.int 99, .int 1]) (w := (m_X2_putTitle σ2 99 1)) (rest := []) hx hb hml hown hts hK hI hB hEH hbA hS (cm_addTitle l 99 1 hok) (kV_X3_addTitle hts ml_L_61 ⟨(Nat.le_of_ble_eq_true rfl), (Nat.le_of_ble_eq_true rfl)⟩) rfl hl.1 rfl (Nat.le_of_ble_eq_true rfl) dL_law_949 (by show _ ≤ 600000; omega) (by show _ ≤ 7302250; omega) (fun H locs hB hU hS => ?_)
                          have hok5 : okS (m_X2_putTitle σ2 99 1).2 := ok_addTitle hok 99 1
                          obtain ⟨_, _, _⟩ := okS_b hok5
                          have hEH : lE v ad s H := lE_of hE hN hbA hS
                          refine lv_bipush (v := (-3)) hx hb dL_law_952 (by decide) ?_
                          refine lv_icmp_ne (tgt := 1161) hx hb dL_law_954 (by decide) (fun q => absurd (hF_11 ti σ2 c_203 hw) q) (fun c_954 => ?_)
                          have hB : lB D cI cR ad σ2 H := by rw [← (show (m_X2_putTitle σ2 99 1).2 = σ2 from (hF_12 ti σ2 c_203 hw))]; exact hB
                          refine lv_aload_n hx hb dL_law_957 rfl (lv_at hl 2 rfl) ?_
                          refine lv_bipush (v := 6) hx hb dL_law_958 (by decide) ?_
                          refine lv_bipush (v := 100) hx hb dL_law_960 (by decide) ?_
                          refine lb_Q (As := [.int 6, .int 100]) (w := (m_X2_changePrice σ2 6 100)) (rest := []) hx hb hml hown hts hK hI hB hEH hbA hS (cm_setPrice l 6 100 hok) (kV_X3_setPrice hts ml_L_73 ⟨(Nat.le_of_ble_eq_true rfl), (Nat.le_of_ble_eq_true rfl)⟩) rfl hl.1 rfl (Nat.le_of_ble_eq_true rfl) dL_law_962 (by show _ ≤ 600000; omega) (by show _ ≤ 7302250; omega) (fun H locs hB hU hS => ?_)
                          have hok6 : okS (m_X2_changePrice σ2 6 100).2 := ok_setPrice hok 6 100
                          obtain ⟨_, _, _⟩ := okS_b hok6
                          have hEH : lE v ad s H := lE_of hE hN hbA hS
                          refine lv_bipush (v := (-2)) hx hb dL_law_965 (by decide) ?_
                          refine lv_icmp_ne (tgt := 1161) hx hb dL_law_967 (by decide) (fun q => absurd (hF_13 ti σ2 c_203 hw) q) (fun c_967 => ?_)
                          have hB : lB D cI cR ad σ2 H := by rw [← (show (m_X2_changePrice σ2 6 100).2 = σ2 from (hF_14 ti σ2 c_203 hw))]; exact hB
                          refine lv_aload_n hx hb dL_law_970 rfl (lv_at hl 2 rfl) ?_
                          refine lv_bipush (v := 6) hx hb dL_law_971 (by decide) ?_
                          refine lv_iconst (v := 1) hx hb dL_law_973 (by decide) ?_
                          refine lv_iconst (v := 1) hx hb dL_law_974 (by decide) ?_
                          refine lb_Q (As := [.int 6, .int 1, .int 1]) (w := (m_X2_putCourse σ2 6 1 1)) (rest := []) hx hb hml hown hts hK hI hB hEH hbA hS (cm_addCourse l 6 1 1 hok) (kV_X3_addCourse hts ml_L_64 ⟨(Nat.le_of_ble_eq_true rfl), (Nat.le_of_ble_eq_true rfl)⟩) rfl hl.1 rfl (Nat.le_of_ble_eq_true rfl) dL_law_975 (by show _ ≤ 600000; omega) (by show _ ≤ 7302250; omega) (fun H locs hB hU hS => ?_)
                          have hok7 : okS (m_X2_putCourse σ2 6 1 1).2 := ok_addCourse hok 6 1 1
                          obtain ⟨_, _, _⟩ := okS_b hok7
                          have hEH : lE v ad s H := lE_of hE hN hbA hS
                          refine lv_bipush (v := (-2)) hx hb dL_law_978 (by decide) ?_
                          refine lv_icmp_ne (tgt := 1161) hx hb dL_law_980 (by decide) (fun q => absurd (hF_15 ti σ2 c_203 hw) q) (fun c_980 => ?_)
                          have hB : lB D cI cR ad σ2 H := by rw [← (show (m_X2_putCourse σ2 6 1 1).2 = σ2 from (hF_16 ti σ2 c_203 hw))]; exact hB
                          refine lv_aload_n hx hb dL_law_983 rfl (lv_at hl 2 rfl) ?_
                          refine lv_iconst (v := 0) hx hb dL_law_984 (by decide) ?_
                          refine lv_bipush (v := 31) hx hb dL_law_985 (by decide) ?_
                          refine lv_iconst (v := 1) hx hb dL_law_987 (by decide) ?_
                          refine lb_Q (As := [.int 0, .int 31, .int 1]) (w := (m_X2_putCourse σ2 0 31 1)) (rest := []) hx hb hml hown hts hK hI hB hEH hbA hS (cm_addCourse l 0 31 1 hok) (kV_X3_addCourse hts ml_L_64 ⟨(Nat.le_of_ble_eq_true rfl), (Nat.le_of_ble_eq_true rfl)⟩) rfl hl.1 rfl (Nat.le_of_ble_eq_true rfl) dL_law_988 (by show _ ≤ 600000; omega) (by show _ ≤ 7302250; omega) (fun H locs hB hU hS => ?_)
                          have hok8 : okS (m_X2_putCourse σ2 0 31 1).2 := ok_addCourse hok 0 31 1
                          obtain ⟨_, _, _⟩ := okS_b hok8
                          have hEH : lE v ad s H := lE_of hE hN hbA hS
                          refine lv_bipush (v := (-3)) hx hb dL_law_991 (by decide) ?_
                          refine lv_icmp_ne (tgt := 1161) hx hb dL_law_993 (by decide) (fun q => absurd (hF_17 ti σ2 c_203 hw) q) (fun c_993 => ?_)
                          have hB : lB D cI cR ad σ2 H := by rw [← (show (m_X2_putCourse σ2 0 31 1).2 = σ2 from (hF_18 ti σ2 c_203 hw))]; exact hB
                          refine lv_aload_n hx hb dL_law_996 rfl (lv_at hl 2 rfl) ?_
                          refine lv_iconst (v := 4) hx hb dL_law_997 (by decide) ?_
                          refine lv_iconst (v := 0) hx hb dL_law_998 (by decide) ?_
                          refine lb_Q (As := [.int 4, .int 0]) (w := (m_X2_changeSetting σ2 4 0)) (rest := []) hx hb hml hown hts hK hI hB hEH hbA hS (cm_set l 4 0 hok) (kV_X3_set hts ml_L_76 ⟨(Nat.le_of_ble_eq_true rfl), (Nat.le_of_ble_eq_true rfl)⟩) rfl hl.1 rfl (Nat.le_of_ble_eq_true rfl) dL_law_999 (by show _ ≤ 600000; omega) (by show _ ≤ 7302250; omega) (fun H locs hB hU hS => ?_)
                          have hok9 : okS (m_X2_changeSetting σ2 4 0).2 := ok_set hok 4 0
                          obtain ⟨_, _, _⟩ := okS_b hok9
                          have hEH : lE v ad s H := lE_of hE hN hbA hS
                          refine lv_bipush (v := (-2)) hx hb dL_law_1002 (by decide) ?_
                          refine lv_icmp_ne (tgt := 1161) hx hb dL_law_1004 (by decide) (fun q => absurd (hF_19 ti σ2 c_203 hw) q) (fun c_1004 => ?_)
                          have hB : lB D cI cR ad σ2 H := by rw [← (show (m_X2_changeSetting σ2 4 0).2 = σ2 from (hF_20 ti σ2 c_203 hw))]; exact hB
                          refine lv_aload_n hx hb dL_law_1007 rfl (lv_at hl 2 rfl) ?_
                          refine lv_iconst (v := 0) hx hb dL_law_1008 (by decide) ?_
                          refine lv_bipush (v := 9) hx hb dL_law_1009 (by decide) ?_
                          refine lb_Q (As := [.int 0, .int 9]) (w := (m_X2_changeSetting σ2 0 9)) (rest := []) hx hb hml hown hts hK hI hB hEH hbA hS (cm_set l 0 9 hok) (kV_X3_set hts ml_L_76 ⟨(Nat.le_of_ble_eq_true rfl), (Nat.le_of_ble_eq_true rfl)⟩) rfl hl.1 rfl (Nat.le_of_ble_eq_true rfl) dL_law_1011 (by show _ ≤ 600000; omega) (by show _ ≤ 7302250; omega) (fun H locs hB hU hS => ?_)
                          have hok10 : okS (m_X2_changeSetting σ2 0 9).2 := ok_set hok 0 9
                          obtain ⟨_, _, _⟩ := okS_b hok10
                          have hEH : lE v ad s H := lE_of hE hN hbA hS
                          refine lv_bipush (v := (-3)) hx hb dL_law_1014 (by decide) ?_
                          refine lv_icmp_ne (tgt := 1161) hx hb dL_law_1016 (by decide) (fun q => absurd (hF_21 ti σ2 c_203 hw) q) (fun c_1016 => ?_)
                          have hB : lB D cI cR ad σ2 H := by rw [← (show (m_X2_changeSetting σ2 0 9).2 = σ2 from (hF_22 ti σ2 c_203 hw))]; exact hB
                          refine lv_aload_n hx hb dL_law_1019 rfl (lv_at hl 2 rfl) ?_
                          refine lv_iconst (v := 0) hx hb dL_law_1020 (by decide) ?_
                          refine lv_bipush (v := 21) hx hb dL_law_1021 (by decide) ?_
                          refine lb_Q (As := [.int 0, .int 21]) (w := (m_X2_buyNew σ2 0 21)) (rest := []) hx hb hml hown hts hK hI hB hEH hbA hS (cm_buy l 0 21 hok) (kV_X3_buy hts ml_L_79 ⟨(Nat.le_of_ble_eq_true rfl), (Nat.le_of_ble_eq_true rfl)⟩) rfl hl.1 rfl (Nat.le_of_ble_eq_true rfl) dL_law_1023 (by show _ ≤ 600000; omega) (by show _ ≤ 7302250; omega) (fun H locs hB hU hS => ?_)
                          have hok11 : okS (m_X2_buyNew σ2 0 21).2 := ok_buy hok 0 21
                          obtain ⟨_, _, _⟩ := okS_b hok11
                          have hEH : lE v ad s H := lE_of hE hN hbA hS
                          refine lv_bipush (v := (-3)) hx hb dL_law_1026 (by decide) ?_
                          refine lv_icmp_ne (tgt := 1161) hx hb dL_law_1028 (by decide) (fun q => absurd (hF_23 ti σ2 c_203 hw) q) (fun c_1028 => ?_)
                          have hB : lB D cI cR ad σ2 H := by rw [← (show (m_X2_buyNew σ2 0 21).2 = σ2 from (hF_24 ti σ2 c_203 hw))]; exact hB
                          refine lv_aload_n hx hb dL_law_1031 rfl (lv_at hl 2 rfl) ?_
                          refine lv_iconst (v := 0) hx hb dL_law_1032 (by decide) ?_
                          refine lv_iconst (v := 0) hx hb dL_law_1033 (by decide) ?_
                          refine lv_iconst (v := 0) hx hb dL_law_1034 (by decide) ?_
                          refine lb_P (As := [.int 0, .int 0, .int 0]) (rest := []) hx hb hml hown hts hK hI hB hEH (cl_offer l 0 0 0 hok) (kV_X3_offer hts ml_L_119 ⟨(Nat.le_of_ble_eq_true rfl), (Nat.le_of_ble_eq_true rfl)⟩) rfl hl.1 rfl (Nat.le_of_ble_eq_true rfl) dL_law_1035 (by show _ ≤ 600000; omega) (by show _ ≤ 7302250; omega) ?_
                          refine lv_bipush (v := (-3)) hx hb dL_law_1038 (by decide) ?_
                          refine lv_icmp_ne (tgt := 1161) hx hb dL_law_1040 (by decide) (fun q => absurd (hF_25 ti σ2 c_203 hw) q) (fun c_1040 => ?_)
                          refine lv_aload_n hx hb dL_law_1043 rfl (lv_at hl 2 rfl) ?_
                          refine lv_bipush (v := 60) hx hb dL_law_1044 (by decide) ?_
                          refine lb_Q (As := [.int 60]) (w := (m_X2_sellCopy σ2 60)) (rest := []) hx hb hml hown hts hK hI hB hEH hbA hS (cm_sell l 60 hok) (kV_X3_sell hts ml_L_85 ⟨(Nat.le_of_ble_eq_true rfl), (Nat.le_of_ble_eq_true rfl)⟩) rfl hl.1 rfl (Nat.le_of_ble_eq_true rfl) dL_law_1046 (by show _ ≤ 600000; omega) (by show _ ≤ 7302250; omega) (fun H locs hB hU hS => ?_)
                          have hok12 : okS (m_X2_sellCopy σ2 60).2 := ok_sell hok 60
                          obtain ⟨_, _, _⟩ := okS_b hok12
                          have hEH : lE v ad s H := lE_of hE hN hbA hS
                          refine lv_bipush (v := (-2)) hx hb dL_law_1049 (by decide) ?_
                          refine lv_icmp_ne (tgt := 1161) hx hb dL_law_1051 (by decide) (fun q => absurd (hF_26 ti σ2 c_203 hw) q) (fun c_1051 => ?_)
                          have hB : lB D cI cR ad σ2 H := by rw [← (show (m_X2_sellCopy σ2 60).2 = σ2 from (hF_27 ti σ2 c_203 hw))]; exact hB
                          refine lv_aload_n hx hb dL_law_1054 rfl (lv_at hl 2 rfl) ?_
                          refine lv_bipush (v := 8) hx hb dL_law_1055 (by decide) ?_
                          refine lv_iconst (v := 0) hx hb dL_law_1057 (by decide) ?_
                          refine lb_Q (As := [.int 8, .int 0]) (w := (m_X2_rentCopy σ2 8 0)) (rest := []) hx hb hml hown hts hK hI hB hEH hbA hS (cm_rent l 8 0 hok) (kV_X3_rent hts ml_L_88 ⟨(Nat.le_of_ble_eq_true rfl), (Nat.le_of_ble_eq_true rfl)⟩) rfl hl.1 rfl (Nat.le_of_ble_eq_true rfl) dL_law_1058 (by show _ ≤ 600000; omega) (by show _ ≤ 7302250; omega) (fun H locs hB hU hS => ?_)
                          have hok13 : okS (m_X2_rentCopy σ2 8 0).2 := ok_rent hok 8 0
                          obtain ⟨_, _, _⟩ := okS_b hok13
                          have hEH : lE v ad s H := lE_of hE hN hbA hS
                          refine lv_bipush (v := (-2)) hx hb dL_law_1061 (by decide) ?_
                          refine lv_icmp_ne (tgt := 1161) hx hb dL_law_1063 (by decide) (fun q => absurd (hF_28 ti σ2 c_203 hw) q) (fun c_1063 => ?_)
                          have hB : lB D cI cR ad σ2 H := by rw [← (show (m_X2_rentCopy σ2 8 0).2 = σ2 from (hF_29 ti σ2 c_203 hw))]; exact hB
                          refine lv_aload_n hx hb dL_law_1066 rfl (lv_at hl 2 rfl) ?_
                          refine lv_bipush (v := 6) hx hb dL_law_1067 (by decide) ?_
                          refine lb_P (As := [.int 6]) (rest := []) hx hb hml hown hts hK hI hB hEH (cl_next l 6 hok) (kV_X3_next hts ml_L_27 ⟨(Nat.le_of_ble_eq_true rfl), (Nat.le_of_ble_eq_true rfl)⟩) rfl hl.1 rfl (Nat.le_of_ble_eq_true rfl) dL_law_1069 (by show _ ≤ 600000; omega) (by show _ ≤ 7302250; omega) ?_
                          refine lv_bipush (v := (-2)) hx hb dL_law_1072 (by decide) ?_
                          refine lv_icmp_ne (tgt := 1161) hx hb dL_law_1074 (by decide) (fun q => absurd (hF_30 ti σ2 c_203 hw) q) (fun c_1074 => ?_)
                          refine lv_aload_n hx hb dL_law_1077 rfl (lv_at hl 2 rfl) ?_
                          refine lv_bipush (v := 60) hx hb dL_law_1078 (by decide) ?_
                          refine lv_iconst (v := 0) hx hb dL_law_1080 (by decide) ?_
                          refine lv_iconst (v := 0) hx hb dL_law_1081 (by decide) ?_
                          refine lb_P (As := [.int 60, .int 0, .int 0]) (rest := []) hx hb hml hown hts hK hI hB hEH (cl_charge l 60 0 0 hok) (kV_X3_charge hts ml_L_42 ⟨(Nat.le_of_ble_eq_true rfl), (Nat.le_of_ble_eq_true rfl)⟩) rfl hl.1 rfl (Nat.le_of_ble_eq_true rfl) dL_law_1082 (by show _ ≤ 600000; omega) (by show _ ≤ 7302250; omega) ?_
                          refine lv_bipush (v := (-2)) hx hb dL_law_1085 (by decide) ?_
                          refine lv_icmp_ne (tgt := 1161) hx hb dL_law_1087 (by decide) (fun q => absurd (hF_31 ti σ2 c_203 hw) q) (fun c_1087 => ?_)
                          refine lv_aload_n hx hb dL_law_1090 rfl (lv_at hl 2 rfl) ?_
                          refine lv_sipush (v := 401) hx hb dL_law_1091 (by decide) ?_
                          refine lb_Q (As := [.int 401]) (w := (m_X2_passDays σ2 401)) (rest := []) hx hb hml hown hts hK hI hB hEH hbA hS (cm_pass l 401 hok) (kV_X3_pass hts ml_L_91 ⟨(Nat.le_of_ble_eq_true rfl), (Nat.le_of_ble_eq_true rfl)⟩) rfl hl.1 rfl (Nat.le_of_ble_eq_true rfl) dL_law_1094 (by show _ ≤ 600000; omega) (by show _ ≤ 7302250; omega) (fun H locs hB hU hS => ?_)
                          have hok14 : okS (m_X2_passDays σ2 401).2 := ok_pass hok 401
                          obtain ⟨_, _, _⟩ := okS_b hok14
                          have hEH : lE v ad s H := lE_of hE hN hbA hS
                          refine lv_bipush (v := (-3)) hx hb dL_law_1097 (by decide) ?_
                          refine lv_icmp_ne (tgt := 1161) hx hb dL_law_1099 (by decide) (fun q => absurd (hF_32 ti σ2 c_203 hw) q) (fun c_1099 => ?_)
                          have hB : lB D cI cR ad σ2 H := by rw [← (show (m_X2_passDays σ2 401).2 = σ2 from (hF_33 ti σ2 c_203 hw))]; exact hB
                          refine lv_aload_n hx hb dL_law_1102 rfl (lv_at hl 2 rfl) ?_
                          refine lv_iconst (v := 0) hx hb dL_law_1103 (by decide) ?_
                          refine lv_bipush (v := 61) hx hb dL_law_1104 (by decide) ?_
                          refine lb_Q (As := [.int 0, .int 61]) (w := (m_X2_countShelf σ2 0 61)) (rest := []) hx hb hml hown hts hK hI hB hEH hbA hS (cm_shelf l 0 61 hok) (kV_X3_shelf hts ml_L_94 ⟨(Nat.le_of_ble_eq_true rfl), (Nat.le_of_ble_eq_true rfl)⟩) rfl hl.1 rfl (Nat.le_of_ble_eq_true rfl) dL_law_1106 (by show _ ≤ 600000; omega) (by show _ ≤ 7302250; omega) (fun H locs hB hU hS => ?_)
                          have hok15 : okS (m_X2_countShelf σ2 0 61).2 := ok_shelf hok 0 61
                          obtain ⟨_, _, _⟩ := okS_b hok15
                          have hEH : lE v ad s H := lE_of hE hN hbA hS
                          refine lv_bipush (v := (-3)) hx hb dL_law_1109 (by decide) ?_
                          refine lv_icmp_ne (tgt := 1161) hx hb dL_law_1111 (by decide) (fun q => absurd (hF_34 ti σ2 c_203 hw) q) (fun c_1111 => ?_)
                          have hB : lB D cI cR ad σ2 H := by rw [← (show (m_X2_countShelf σ2 0 61).2 = σ2 from (hF_35 ti σ2 c_203 hw))]; exact hB
                          refine lv_aload_n hx hb dL_law_1114 rfl (lv_at hl 2 rfl) ?_
                          refine lv_bipush (v := 8) hx hb dL_law_1115 (by decide) ?_
                          refine lv_iconst (v := 0) hx hb dL_law_1117 (by decide) ?_
                          refine lb_P (As := [.int 8, .int 0]) (rest := []) hx hb hml hown hts hK hI hB hEH (cl_customer l 8 0 hok) (kV_X3_customer hts ml_L_21 ⟨(Nat.le_of_ble_eq_true rfl), (Nat.le_of_ble_eq_true rfl)⟩) rfl hl.1 rfl (Nat.le_of_ble_eq_true rfl) dL_law_1118 (by show _ ≤ 600000; omega) (by show _ ≤ 7302250; omega) ?_
                          refine lv_bipush (v := (-2)) hx hb dL_law_1121 (by decide) ?_
                          refine lv_icmp_ne (tgt := 1161) hx hb dL_law_1123 (by decide) (fun q => absurd (hF_36 ti σ2 c_203 hw) q) (fun c_1123 => ?_)
                          refine lv_aload_n hx hb dL_law_1126 rfl (lv_at hl 2 rfl) ?_
                          refine lv_iconst (v := 0) hx hb dL_law_1127 (by decide) ?_
                          refine lb_P (As := [.int 0]) (rest := []) hx hb hml hown hts hK hI hB hEH (cl_lostIn l 0 hok) (kV_X3_lostIn hts ml_L_113 ⟨(Nat.le_of_ble_eq_true rfl), (Nat.le_of_ble_eq_true rfl)⟩) rfl hl.1 rfl (Nat.le_of_ble_eq_true rfl) dL_law_1128 (by show _ ≤ 600000; omega) (by show _ ≤ 7302250; omega) ?_
                          refine lv_bipush (v := (-3)) hx hb dL_law_1131 (by decide) ?_
                          refine lv_icmp_ne (tgt := 1161) hx hb dL_law_1133 (by decide) (fun q => absurd (hF_37 ti σ2 c_203 hw) q) (fun c_1133 => ?_)
                          refine lv_aload_n hx hb dL_law_1136 rfl (lv_at hl 2 rfl) ?_
                          refine lv_bipush (v := 8) hx hb dL_law_1137 (by decide) ?_
                          refine lb_P (As := [.int 8]) (rest := []) hx hb hml hown hts hK hI hB hEH (cl_book l 8) (kV_X3_book hts ml_L_30 ⟨(Nat.le_of_ble_eq_true rfl), (Nat.le_of_ble_eq_true rfl)⟩) rfl hl.1 rfl (Nat.le_of_ble_eq_true rfl) dL_law_1139 (by show _ ≤ 600000; omega) (by show _ ≤ 7302250; omega) ?_
                          refine lv_bipush (v := (-3)) hx hb dL_law_1142 (by decide) ?_
                          refine lv_icmp_ne (tgt := 1161) hx hb dL_law_1144 (by decide) (fun q => absurd (hF_38 ti σ2 c_203 hw) q) (fun c_1144 => ?_)
                          refine lv_aload_n hx hb dL_law_1147 rfl (lv_at hl 2 rfl) ?_
                          refine lb_L (As := []) (rest := []) hx hb hml hown hts hK hI hB hEH (cl_digest l hok) (kV_X3_digest hts ml_L_38 ⟨(Nat.le_of_ble_eq_true rfl), (Nat.le_of_ble_eq_true rfl)⟩) rfl hl.1 rfl (Nat.le_of_ble_eq_true rfl) dL_law_1148 (by show _ ≤ 600000; omega) (by show _ ≤ 7302250; omega) ?_
                          refine lv_lload hx hb dL_law_1151 (lv_at hl 0 rfl) ?_
                          refine W.lcmp hx hb dL_law_1153 ?_
                          refine lv_if_ne (tgt := 1161) hx hb dL_law_1154 (by decide) (fun q => absurd (lg_self _) q) (fun _ => ?_)
                          refine lv_iconst (v := 1) hx hb dL_law_1157 (by decide) ?_
                          refine lv_goto (tgt := 1162) hx hb dL_law_1158 (by decide) ?_
                          exact kend H locs ls _ _ hS (by omega) (by omega)
                        refine lv_aload_n hx hb dL_law_805 rfl (lv_at hl 2 rfl) ?_
                        refine lv_iload hx hb dL_law_806 (lv_at hl 4 rfl) ?_
                        refine lb_P (As := [.int (nI cj)]) (rest := []) hx hb hml hown hts hK hI hB hEH (cl_next l (nI cj) hok) (kV_X3_next hts ml_L_27 ⟨(Nat.le_of_ble_eq_true rfl), (Nat.le_of_ble_eq_true rfl)⟩) rfl hl.1 rfl (Nat.le_of_ble_eq_true rfl) dL_law_808 (by show _ ≤ 600000; omega) (by show _ ≤ 7302250; omega) ?_
                        refine lv_istore (lv' := [(10, .int ((f_X2_nextCopy σ2 (nI cj)))), (4, .long (sD_6 σ2)), (2, .int (y1)), (1, .ref ((ad 300))), (0, .ref (b)), (9, .int (nI cj))]) hx hb dL_law_811 hl (by decide) rfl (fun ls hl => ?_)
                        refine lv_iload hx hb dL_law_813 (lv_at hl 0 rfl) ?_
                        refine bj 830 (rest := []) (v := (if 0 ≤ (f_X2_nextCopy σ2 (nI cj)) then (f_X2_copyProperty σ2 (f_X2_nextCopy σ2 (nI cj)) 7) else 0)) (fun x16 hx16 => ?_) (fun J16 => ?_)
                        · subst hx16
                          refine lv_istore (lv' := [(11, .int ((if 0 ≤ (f_X2_nextCopy σ2 (nI cj)) then (f_X2_copyProperty σ2 (f_X2_nextCopy σ2 (nI cj)) 7) else 0))), (10, .int ((f_X2_nextCopy σ2 (nI cj)))), (4, .long (sD_6 σ2)), (2, .int (y1)), (1, .ref ((ad 300))), (0, .ref (b)), (9, .int (nI cj))]) hx hb dL_law_830 hl (by decide) rfl (fun ls hl => ?_)
                          refine lv_aload_n hx hb dL_law_832 rfl (lv_at hl 4 rfl) ?_
                          refine lv_iconst (v := 3) hx hb dL_law_833 (by decide) ?_
                          refine lv_iconst (v := 2) hx hb dL_law_834 (by decide) ?_
                          refine lb_P (As := [.int 3, .int 2]) (rest := []) hx hb hml hown hts hK hI hB hEH (cl_customer l 3 2 hok) (kV_X3_customer hts ml_L_21 ⟨(Nat.le_of_ble_eq_true rfl), (Nat.le_of_ble_eq_true rfl)⟩) rfl hl.1 rfl (Nat.le_of_ble_eq_true rfl) dL_law_835 (by show _ ≤ 600000; omega) (by show _ ≤ 7302250; omega) ?_
                          refine lv_istore (lv' := [(12, .int ((f_X2_customerNumber σ2 3 2))), (11, .int ((if 0 ≤ (f_X2_nextCopy σ2 (nI cj)) then (f_X2_copyProperty σ2 (f_X2_nextCopy σ2 (nI cj)) 7) else 0))), (10, .int ((f_X2_nextCopy σ2 (nI cj)))), (4, .long (sD_6 σ2)), (2, .int (y1)), (1, .ref ((ad 300))), (0, .ref (b)), (9, .int (nI cj))]) hx hb dL_law_838 hl (by decide) rfl (fun ls hl => ?_)
                          refine lv_aload_n hx hb dL_law_840 rfl (lv_at hl 5 rfl) ?_
                          refine lv_iconst (v := 3) hx hb dL_law_841 (by decide) ?_
                          refine lv_iload hx hb dL_law_842 (lv_at hl 7 rfl) ?_
                          refine lb_Q (As := [.int 3, .int (nI cj)]) (w := (m_X2_rentCopy σ2 3 (nI cj))) (rest := []) hx hb hml hown hts hK hI hB hEH hbA hS (cm_rent l 3 (nI cj) hok) (kV_X3_rent hts ml_L_88 ⟨(Nat.le_of_ble_eq_true rfl), (Nat.le_of_ble_eq_true rfl)⟩) rfl hl.1 rfl (Nat.le_of_ble_eq_true rfl) dL_law_844 (by show _ ≤ 600000; omega) (by show _ ≤ 7302250; omega) (fun H locs hB hU hS => ?_)
                          have hok17 : okS (m_X2_rentCopy σ2 3 (nI cj)).2 := ok_rent hok 3 (nI cj)
                          obtain ⟨_, _, _⟩ := okS_b hok17
                          have hEH : lE v ad s H := lE_of hE hN hbA hS
                          refine lv_istore (lv' := [(13, .int ((m_X2_rentCopy σ2 3 (nI cj)).1)), (12, .int ((f_X2_customerNumber σ2 3 2))), (11, .int ((if 0 ≤ (f_X2_nextCopy σ2 (nI cj)) then (f_X2_copyProperty σ2 (f_X2_nextCopy σ2 (nI cj)) 7) else 0))), (10, .int ((f_X2_nextCopy σ2 (nI cj)))), (4, .long (sD_6 σ2)), (2, .int (y1)), (1, .ref ((ad 300))), (0, .ref (b)), (9, .int (nI cj))]) hx hb dL_law_847 hl (by decide) rfl (fun ls hl => ?_)
                          refine lv_iload hx hb dL_law_849 (lv_at hl 0 rfl) ?_
                          refine lv_if_lt (tgt := 918) hx hb dL_law_851 (by decide) (fun c_851 => ?_) (fun c_851 => ?_)
                          · refine lv_iload hx hb dL_law_918 (lv_at hl 0 rfl) ?_
                            refine lv_bipush (v := (-4)) hx hb dL_law_920 (by decide) ?_
                            refine lv_icmp_eq (tgt := 927) hx hb dL_law_922 (by decide) (fun c_922 => ?_) (fun q => absurd (hF_39 ti σ2 cj c_203 hw c_802 c_851) q)
                            have hB : lB D cI cR ad σ2 H := by rw [← (show (m_X2_rentCopy σ2 3 (nI cj)).2 = σ2 from (hF_40 ti σ2 cj c_203 hw c_802 c_851))]; exact hB
                            refine lv_aload_n hx hb dL_law_927 rfl (lv_at hl 6 rfl) ?_
                            refine lb_L (As := []) (rest := []) hx hb hml hown hts hK hI hB hEH (cl_digest l hok) (kV_X3_digest hts ml_L_38 ⟨(Nat.le_of_ble_eq_true rfl), (Nat.le_of_ble_eq_true rfl)⟩) rfl hl.1 rfl (Nat.le_of_ble_eq_true rfl) dL_law_928 (by show _ ≤ 600000; omega) (by show _ ≤ 7302250; omega) ?_
                            refine lv_lload hx hb dL_law_931 (lv_at hl 4 rfl) ?_
                            refine W.lcmp hx hb dL_law_933 ?_
                            refine lv_if_eq (tgt := 939) hx hb dL_law_934 (by decide) (fun _ => ?_) (fun q => absurd (lg_self _) q)
                            refine lv_iinc (v := nI (cj + 1)) (lv' := [(9, .int (nI (cj + 1))), (13, .int ((m_X2_rentCopy σ2 3 (nI cj)).1)), (12, .int ((f_X2_customerNumber σ2 3 2))), (11, .int ((if 0 ≤ (f_X2_nextCopy σ2 (nI cj)) then (f_X2_copyProperty σ2 (f_X2_nextCopy σ2 (nI cj)) 7) else 0))), (10, .int ((f_X2_nextCopy σ2 (nI cj)))), (4, .long (sD_6 σ2)), (2, .int (y1)), (1, .ref ((ad 300))), (0, .ref (b))]) hx hb dL_law_939 hl (k := 8) rfl (nI_c1 _) (by decide) rfl (fun ls hl => ?_)
                            refine lv_goto (tgt := 795) hx hb dL_law_942 (by decide) ?_
                            exact ih_795 (cj + 1) (by omega) (by omega) _ _ hB hS ls (lv_sub hl [5, 6, 7, 8, 0] rfl)
                          refine lv_iload hx hb dL_law_854 (lv_at hl 0 rfl) ?_
                          refine lv_iload hx hb dL_law_856 (lv_at hl 3 rfl) ?_
                          refine lv_icmp_ne (tgt := 925) hx hb dL_law_858 (by decide) (fun q => absurd (hF_41 ti σ2 cj c_203 hw c_802 c_851) q) (fun c_858 => ?_)
                          refine lv_aload_n hx hb dL_law_861 rfl (lv_at hl 6 rfl) ?_
                          refine lv_iconst (v := 3) hx hb dL_law_862 (by decide) ?_
                          refine lv_iconst (v := 2) hx hb dL_law_863 (by decide) ?_
                          refine lb_P (As := [.int 3, .int 2]) (rest := []) hx hb hml hown hts hK hI hB hEH (cl_customer l 3 2 hok17) (kV_X3_customer hts ml_L_21 ⟨(Nat.le_of_ble_eq_true rfl), (Nat.le_of_ble_eq_true rfl)⟩) rfl hl.1 rfl (Nat.le_of_ble_eq_true rfl) dL_law_864 (by show _ ≤ 600000; omega) (by show _ ≤ 7302250; omega) ?_
                          refine lv_iload hx hb dL_law_867 (lv_at hl 1 rfl) ?_
                          refine lv_iload hx hb dL_law_869 (lv_at hl 2 rfl) ?_
                          refine lv_iadd hx hb dL_law_871 ?_
                          refine lv_icmp_ne (tgt := 925) hx hb dL_law_872 (by decide) (fun q => absurd (hF_42 ti σ2 cj c_203 hw c_802 c_851) q) (fun c_872 => ?_)
                          refine lv_aload_n hx hb dL_law_875 rfl (lv_at hl 6 rfl) ?_
                          refine lv_iload hx hb dL_law_876 (lv_at hl 0 rfl) ?_
                          refine lv_iconst (v := 4) hx hb dL_law_878 (by decide) ?_
                          refine lb_P (As := [.int ((m_X2_rentCopy σ2 3 (nI cj)).1), .int 4]) (rest := []) hx hb hml hown hts hK hI hB hEH (cl_copy l ((m_X2_rentCopy σ2 3 (nI cj)).1) 4 hok17) (kV_X3_copy hts ml_L_14 ⟨(Nat.le_of_ble_eq_true rfl), (Nat.le_of_ble_eq_true rfl)⟩) rfl hl.1 rfl (Nat.le_of_ble_eq_true rfl) dL_law_879 (by show _ ≤ 600000; omega) (by show _ ≤ 7302250; omega) ?_
                          refine lv_iconst (v := 3) hx hb dL_law_882 (by decide) ?_
                          refine lv_icmp_ne (tgt := 925) hx hb dL_law_883 (by decide) (fun q => absurd (hF_43 ti σ2 cj c_203 hw c_802 c_851) q) (fun c_883 => ?_)
                          refine lv_aload_n hx hb dL_law_886 rfl (lv_at hl 6 rfl) ?_
                          refine lv_iload hx hb dL_law_887 (lv_at hl 0 rfl) ?_
                          refine lv_iconst (v := 5) hx hb dL_law_889 (by decide) ?_
                          refine lb_P (As := [.int ((m_X2_rentCopy σ2 3 (nI cj)).1), .int 5]) (rest := []) hx hb hml hown hts hK hI hB hEH (cl_copy l ((m_X2_rentCopy σ2 3 (nI cj)).1) 5 hok17) (kV_X3_copy hts ml_L_14 ⟨(Nat.le_of_ble_eq_true rfl), (Nat.le_of_ble_eq_true rfl)⟩) rfl hl.1 rfl (Nat.le_of_ble_eq_true rfl) dL_law_890 (by show _ ≤ 600000; omega) (by show _ ≤ 7302250; omega) ?_
                          refine lv_aload_n hx hb dL_law_893 rfl (lv_at hl 6 rfl) ?_
                          refine lv_iconst (v := 3) hx hb dL_law_894 (by decide) ?_
                          refine lb_P (As := [.int 3]) (rest := [.int ((f_X2_copyProperty ((m_X2_rentCopy σ2 3 (nI cj)).2) ((m_X2_rentCopy σ2 3 (nI cj)).1) 5))]) hx hb hml hown hts hK hI hB hEH (cl_count l 3 hok17) (kV_X3_count hts ml_L_8 ⟨(Nat.le_of_ble_eq_true rfl), (Nat.le_of_ble_eq_true rfl)⟩) rfl hl.1 rfl (Nat.le_of_ble_eq_true rfl) dL_law_895 (by show _ ≤ 600000; omega) (by show _ ≤ 7302250; omega) ?_
                          refine lv_aload_n hx hb dL_law_898 rfl (lv_at hl 6 rfl) ?_
                          refine lv_bipush (v := 10) hx hb dL_law_899 (by decide) ?_
                          refine lb_P (As := [.int 10]) (rest := [.int ((f_X2_numberOf ((m_X2_rentCopy σ2 3 (nI cj)).2) 3)), .int ((f_X2_copyProperty ((m_X2_rentCopy σ2 3 (nI cj)).2) ((m_X2_rentCopy σ2 3 (nI cj)).1) 5))]) hx hb hml hown hts hK hI hB hEH (cl_count l 10 hok17) (kV_X3_count hts ml_L_8 ⟨(Nat.le_of_ble_eq_true rfl), (Nat.le_of_ble_eq_true rfl)⟩) rfl hl.1 rfl (Nat.le_of_ble_eq_true rfl) dL_law_901 (by show _ ≤ 600000; omega) (by show _ ≤ 7302250; omega) ?_
                          refine lv_iadd hx hb dL_law_904 ?_
                          refine lv_icmp_ne (tgt := 925) hx hb dL_law_905 (by decide) (fun q => absurd (hF_44 ti σ2 cj c_203 hw c_802 c_851) q) (fun c_905 => ?_)
                          refine lv_aload_n hx hb dL_law_908 rfl (lv_at hl 6 rfl) ?_
                          refine lb_U (rest := []) hx hb hml hown hts hK hI (hU c_851) hEH hbA hS (kV_X3_undo hts ml_L_55 ⟨(Nat.le_of_ble_eq_true rfl), (Nat.le_of_ble_eq_true rfl)⟩) hl.1 rfl (Nat.le_of_ble_eq_true rfl) dL_law_909 (by show _ ≤ 600000; omega) (by show _ ≤ 7302250; omega) (fun H locs r18 hr18 hB hS => ?_)
                          have hEH : lE v ad s H := lE_of hE hN hbA hS
                          refine lv_if_ge (tgt := 927) hx hb dL_law_912 (by decide) (fun _ => ?_) (fun q => absurd (Int32.not_lt.mp hr18) q)
                          refine lv_aload_n hx hb dL_law_927 rfl (lv_at hl 6 rfl) ?_
                          refine lb_L (As := []) (rest := []) hx hb hml hown hts hK hI hB hEH (cl_digest l hok) (kV_X3_digest hts ml_L_38 ⟨(Nat.le_of_ble_eq_true rfl), (Nat.le_of_ble_eq_true rfl)⟩) rfl hl.1 rfl (Nat.le_of_ble_eq_true rfl) dL_law_928 (by show _ ≤ 600000; omega) (by show _ ≤ 7302250; omega) ?_
                          refine lv_lload hx hb dL_law_931 (lv_at hl 4 rfl) ?_
                          refine W.lcmp hx hb dL_law_933 ?_
                          refine lv_if_eq (tgt := 939) hx hb dL_law_934 (by decide) (fun _ => ?_) (fun q => absurd (lg_self _) q)
                          refine lv_iinc (v := nI (cj + 1)) (lv' := [(9, .int (nI (cj + 1))), (13, .int ((m_X2_rentCopy σ2 3 (nI cj)).1)), (12, .int ((f_X2_customerNumber σ2 3 2))), (11, .int ((if 0 ≤ (f_X2_nextCopy σ2 (nI cj)) then (f_X2_copyProperty σ2 (f_X2_nextCopy σ2 (nI cj)) 7) else 0))), (10, .int ((f_X2_nextCopy σ2 (nI cj)))), (4, .long (sD_6 σ2)), (2, .int (y1)), (1, .ref ((ad 300))), (0, .ref (b))]) hx hb dL_law_939 hl (k := 8) rfl (nI_c1 _) (by decide) rfl (fun ls hl => ?_)
                          refine lv_goto (tgt := 795) hx hb dL_law_942 (by decide) ?_
                          exact ih_795 (cj + 1) (by omega) (by omega) _ _ hB hS ls (lv_sub hl [5, 6, 7, 8, 0] rfl)
                        refine lv_if_ge (tgt := 822) hx hb dL_law_815 (by decide) (fun c_815 => ?_) (fun c_815 => ?_)
                        · refine lv_aload_n hx hb dL_law_822 rfl (lv_at hl 3 rfl) ?_
                          refine lv_iload hx hb dL_law_823 (lv_at hl 0 rfl) ?_
                          refine lv_bipush (v := 7) hx hb dL_law_825 (by decide) ?_
                          refine lb_P (As := [.int (f_X2_nextCopy σ2 (nI cj)), .int 7]) (rest := []) hx hb hml hown hts hK hI hB hEH (cl_copy l (f_X2_nextCopy σ2 (nI cj)) 7 hok) (kV_X3_copy hts ml_L_14 ⟨(Nat.le_of_ble_eq_true rfl), (Nat.le_of_ble_eq_true rfl)⟩) rfl hl.1 rfl (Nat.le_of_ble_eq_true rfl) dL_law_827 (by show _ ≤ 600000; omega) (by show _ ≤ 7302250; omega) ?_
                          exact J16 _ (br_p c_815 rfl)
                        refine lv_iconst (v := 0) hx hb dL_law_818 (by decide) ?_
                        refine lv_goto (tgt := 830) hx hb dL_law_819 (by decide) ?_
                        exact J16 _ (br_n c_815 rfl)
                    exact L_795 (nC σ2 + 1) 0 (by omega) (by omega) _ _ hB hS ls (lv_sub hl [1, 2, 3, 4, 0] rfl)
                  refine lv_aload_n hx hb dL_law_443 rfl (lv_at hl 2 rfl) ?_
                  refine lv_iload hx hb dL_law_444 (lv_at hl 4 rfl) ?_
                  refine lb_P (As := [.int (nI tj)]) (rest := []) hx hb hml hown hts hK hI hB hEH (cl_agingOf l (nI tj) hok) (kV_X3_agingOf hts ml_L_116 ⟨(Nat.le_of_ble_eq_true rfl), (Nat.le_of_ble_eq_true rfl)⟩) rfl hl.1 rfl (Nat.le_of_ble_eq_true rfl) dL_law_446 (by show _ ≤ 600000; omega) (by show _ ≤ 7302250; omega) ?_
                  refine lv_istore (lv' := [(10, .int ((f_X2_agingBy σ2 (nI tj)))), (4, .long (sD_6 σ2)), (2, .int (y1)), (1, .ref ((ad 300))), (0, .ref (b)), (9, .int (nI tj))]) hx hb dL_law_449 hl (by decide) rfl (fun ls hl => ?_)
                  refine lv_iconst (v := 0) hx hb dL_law_451 (by decide) ?_
                  refine lv_istore (lv' := [(11, .int (0)), (10, .int ((f_X2_agingBy σ2 (nI tj)))), (4, .long (sD_6 σ2)), (2, .int (y1)), (1, .ref ((ad 300))), (0, .ref (b)), (9, .int (nI tj))]) hx hb dL_law_452 hl (by decide) rfl (fun ls hl => ?_)
                  refine lv_iconst (v := 0) hx hb dL_law_454 (by decide) ?_
                  refine lv_istore (lv' := [(12, .int (0)), (11, .int (0)), (10, .int ((f_X2_agingBy σ2 (nI tj)))), (4, .long (sD_6 σ2)), (2, .int (y1)), (1, .ref ((ad 300))), (0, .ref (b)), (9, .int (nI tj))]) hx hb dL_law_455 hl (by decide) rfl (fun ls hl => ?_)
                  have L_457 : ∀ (fu : Nat) (k1 : Nat) (xw : Int32), nN σ2 - k1 < fu → (k1 ≤ nN σ2) → g_L_law_457 σ2 fu k1 xw = g_L_law_457 σ2 (nN σ2 + 1) 0 0 → ∀ ls, lv_has ls 16 [(10, .int ((f_X2_agingBy σ2 (nI tj)))), (4, .long (sD_6 σ2)), (2, .int (y1)), (1, .ref ((ad 300))), (0, .ref (b)), (9, .int (nI tj)), (12, .int (nI k1)), (11, .int (xw))] → W p l e room_1 s m args below meth c H locs (110 + 2 * ti + 1) (3108 + 26 * ti + 13) Q (F0 m 457 ls []) := by
                    intro fu_457
                    induction fu_457 with
                    | zero => intro k1 xw hm; exact absurd hm (Nat.not_lt_zero _)
                    | succ fu_457 ih_457 =>
                      intro k1 xw hm hb1 hg_457 ls hl
                      refine lv_iload hx hb dL_law_457 (lv_at hl 6 rfl) ?_
                      refine lv_aload_n hx hb dL_law_459 rfl (lv_at hl 3 rfl) ?_
                      refine lv_iconst (v := 1) hx hb dL_law_460 (by decide) ?_
                      refine lb_P (As := [.int 1]) (rest := [.int (nI k1)]) hx hb hml hown hts hK hI hB hEH (cl_count l 1 hok) (kV_X3_count hts ml_L_8 ⟨(Nat.le_of_ble_eq_true rfl), (Nat.le_of_ble_eq_true rfl)⟩) rfl hl.1 rfl (Nat.le_of_ble_eq_true rfl) dL_law_461 (by show _ ≤ 600000; omega) (by show _ ≤ 7302250; omega) ?_
                      refine lv_icmp_geN (k1) (nN σ2) hx hb rfl (num_1 hok) (by omega) (by omega) (tgt := 511) dL_law_464 (by decide) (fun c_464 => ?_) (fun c_464 => ?_)
                      · have ex_xw : xw = g_L_law_457 σ2 (nN σ2 + 1) 0 0 := ((br_p c_464 rfl) : xw = g_L_law_457 σ2 (fu_457 + 1) k1 xw).trans hg_457
                        subst ex_xw
                        refine lv_iload hx hb dL_law_511 (lv_at hl 0 rfl) ?_
                        refine lv_bipush (v := (-5)) hx hb dL_law_513 (by decide) ?_
                        refine lv_icmp_ne (tgt := 532) hx hb dL_law_515 (by decide) (fun c_515 => ?_) (fun c_515 => ?_)
                        · refine lv_iload hx hb dL_law_532 (lv_at hl 0 rfl) ?_
                          refine lv_if_lt (tgt := 547) hx hb dL_law_534 (by decide) (fun q => absurd q (hF_45 ti σ2 tj c_203 hw c_440 c_515)) (fun c_534 => ?_)
                          refine lv_aload_n hx hb dL_law_537 rfl (lv_at hl 3 rfl) ?_
                          refine lv_iload hx hb dL_law_538 (lv_at hl 5 rfl) ?_
                          refine lb_Q (As := [.int (nI tj)]) (w := (m_X2_advanceEdition σ2 (nI tj))) (rest := []) hx hb hml hown hts hK hI hB hEH hbA hS (cm_newEdition l (nI tj) hok) (kV_X3_newEdition hts ml_L_70 ⟨(Nat.le_of_ble_eq_true rfl), (Nat.le_of_ble_eq_true rfl)⟩) rfl hl.1 rfl (Nat.le_of_ble_eq_true rfl) dL_law_540 (by show _ ≤ 600000; omega) (by show _ ≤ 7302250; omega) (fun H locs hB hU hS => ?_)
                          have hok19 : okS (m_X2_advanceEdition σ2 (nI tj)).2 := ok_newEdition hok (nI tj)
                          obtain ⟨_, _, _⟩ := okS_b hok19
                          have hEH : lE v ad s H := lE_of hE hN hbA hS
                          refine lv_iconst (v := 2) hx hb dL_law_543 (by decide) ?_
                          refine lv_icmp_ge (tgt := 549) hx hb dL_law_544 (by decide) (fun c_544 => ?_) (fun q => absurd (hF_46 ti σ2 tj c_203 hw c_440 c_515) q)
                          refine lv_iconst (v := 0) hx hb dL_law_549 (by decide) ?_
                          refine lv_istore (lv' := [(12, .int (0)), (10, .int ((f_X2_agingBy σ2 (nI tj)))), (4, .long (sD_6 σ2)), (2, .int (y1)), (1, .ref ((ad 300))), (0, .ref (b)), (9, .int (nI tj)), (11, .int ((g_L_law_457 σ2 (nN σ2 + 1) 0 0)))]) hx hb dL_law_550 hl (by decide) rfl (fun ls hl => ?_)
                          have L_552 : ∀ (fu : Nat) (k2 : Nat) (xd : Int32), nN ((m_X2_advanceEdition σ2 (nI tj)).2) - k2 < fu → (k2 ≤ nN ((m_X2_advanceEdition σ2 (nI tj)).2)) → g_L_law_552 ((m_X2_advanceEdition σ2 (nI tj)).2) fu k2 xd = g_L_law_552 ((m_X2_advanceEdition σ2 (nI tj)).2) (nN ((m_X2_advanceEdition σ2 (nI tj)).2) + 1) 0 (g_L_law_457 σ2 (nN σ2 + 1) 0 0) → ∀ ls, lv_has ls 16 [(10, .int ((f_X2_agingBy σ2 (nI tj)))), (4, .long (sD_6 σ2)), (2, .int (y1)), (1, .ref ((ad 300))), (0, .ref (b)), (9, .int (nI tj)), (12, .int (nI k2)), (11, .int (xd))] → W p l e room_1 s m args below meth c H locs (110 + 2 * ti + 1) (3108 + 26 * ti + 13) Q (F0 m 552 ls []) := by
                            intro fu_552
                            induction fu_552 with
                            | zero => intro k2 xd hm; exact absurd hm (Nat.not_lt_zero _)
                            | succ fu_552 ih_552 =>
                              intro k2 xd hm hb2 hg_552 ls hl
                              refine lv_iload hx hb dL_law_552 (lv_at hl 6 rfl) ?_
                              refine lv_aload_n hx hb dL_law_554 rfl (lv_at hl 3 rfl) ?_
                              refine lv_iconst (v := 1) hx hb dL_law_555 (by decide) ?_
                              refine lb_P (As := [.int 1]) (rest := [.int (nI k2)]) hx hb hml hown hts hK hI hB hEH (cl_count l 1 hok19) (kV_X3_count hts ml_L_8 ⟨(Nat.le_of_ble_eq_true rfl), (Nat.le_of_ble_eq_true rfl)⟩) rfl hl.1 rfl (Nat.le_of_ble_eq_true rfl) dL_law_556 (by show _ ≤ 600000; omega) (by show _ ≤ 7302250; omega) ?_
                              refine lv_icmp_geN (k2) (nN ((m_X2_advanceEdition σ2 (nI tj)).2)) hx hb rfl (num_1 hok19) (by omega) (by omega) (tgt := 606) dL_law_559 (by decide) (fun c_559 => ?_) (fun c_559 => ?_)
                              · have ex_xd : xd = g_L_law_552 ((m_X2_advanceEdition σ2 (nI tj)).2) (nN ((m_X2_advanceEdition σ2 (nI tj)).2) + 1) 0 (g_L_law_457 σ2 (nN σ2 + 1) 0 0) := ((br_p c_559 rfl) : xd = g_L_law_552 ((m_X2_advanceEdition σ2 (nI tj)).2) (fu_552 + 1) k2 xd).trans hg_552
                                subst ex_xd
                                refine lv_iload hx hb dL_law_606 (lv_at hl 0 rfl) ?_
                                refine lv_bipush (v := (-5)) hx hb dL_law_608 (by decide) ?_
                                refine lv_icmp_eq (tgt := 627) hx hb dL_law_610 (by decide) (fun q => absurd q c_515) (fun _ => ?_)
                                refine lv_iload hx hb dL_law_613 (lv_at hl 7 rfl) ?_
                                refine lv_iload hx hb dL_law_615 (lv_at hl 0 rfl) ?_
                                refine lv_icmp_ne (tgt := 637) hx hb dL_law_617 (by decide) (fun q => absurd (hF_47 ti σ2 tj c_203 hw c_440 c_515) q) (fun c_617 => ?_)
                                refine lv_aload_n hx hb dL_law_620 rfl (lv_at hl 3 rfl) ?_
                                refine lb_U (rest := []) hx hb hml hown hts hK hI (hU (hF_48 ti σ2 tj c_203 hw c_440 c_515)) hEH hbA hS (kV_X3_undo hts ml_L_55 ⟨(Nat.le_of_ble_eq_true rfl), (Nat.le_of_ble_eq_true rfl)⟩) hl.1 rfl (Nat.le_of_ble_eq_true rfl) dL_law_621 (by show _ ≤ 600000; omega) (by show _ ≤ 7302250; omega) (fun H locs r20 hr20 hB hS => ?_)
                                have hEH : lE v ad s H := lE_of hE hN hbA hS
                                refine lv_if_lt (tgt := 637) hx hb dL_law_624 (by decide) (fun q => absurd q hr20) (fun _ => ?_)
                                refine lv_aload_n hx hb dL_law_627 rfl (lv_at hl 3 rfl) ?_
                                refine lb_L (As := []) (rest := []) hx hb hml hown hts hK hI hB hEH (cl_digest l hok) (kV_X3_digest hts ml_L_38 ⟨(Nat.le_of_ble_eq_true rfl), (Nat.le_of_ble_eq_true rfl)⟩) rfl hl.1 rfl (Nat.le_of_ble_eq_true rfl) dL_law_628 (by show _ ≤ 600000; omega) (by show _ ≤ 7302250; omega) ?_
                                refine lv_lload hx hb dL_law_631 (lv_at hl 1 rfl) ?_
                                refine W.lcmp hx hb dL_law_633 ?_
                                refine lv_if_eq (tgt := 639) hx hb dL_law_634 (by decide) (fun _ => ?_) (fun q => absurd (lg_self _) q)
                                refine lv_iconst (v := 1) hx hb dL_law_639 (by decide) ?_
                                refine lv_iload_n hx hb dL_law_640 rfl (lv_at hl 2 rfl) ?_
                                refine lv_bipush (v := 8) hx hb dL_law_641 (by decide) ?_
                                refine lv_ishr hx hb dL_law_643 ?_
                                refine lv_bipush (v := 12) hx hb dL_law_644 (by decide) ?_
                                refine cl_S (As := [.int (y1 >>> ((8 : Int32) &&& 31)), .int 12]) (rest := [.int (1)]) hx hb hml hown hts (c_L_low l (y1 >>> ((8 : Int32) &&& 31)) 12 (by decide)) (kS_L_low hts ml_L_58 ⟨(Nat.le_of_ble_eq_true rfl), (Nat.le_of_ble_eq_true rfl)⟩) rfl hl.1 rfl (Nat.le_of_ble_eq_true rfl) dL_law_646 (by show _ ≤ 600000; omega) (by show _ ≤ 7302250; omega) ?_
                                refine lv_iadd hx hb dL_law_649 ?_
                                refine lv_istore (lv' := [(12, .int (1 + (f_L_low (y1 >>> ((8 : Int32) &&& 31)) 12))), (10, .int ((f_X2_agingBy σ2 (nI tj)))), (4, .long (sD_6 σ2)), (2, .int (y1)), (1, .ref ((ad 300))), (0, .ref (b)), (9, .int (nI tj)), (11, .int ((g_L_law_552 ((m_X2_advanceEdition σ2 (nI tj)).2) (nN ((m_X2_advanceEdition σ2 (nI tj)).2) + 1) 0 (g_L_law_457 σ2 (nN σ2 + 1) 0 0))))]) hx hb dL_law_650 hl (by decide) rfl (fun ls hl => ?_)
                                refine lv_aload_n hx hb dL_law_652 rfl (lv_at hl 4 rfl) ?_
                                refine lv_iload hx hb dL_law_653 (lv_at hl 6 rfl) ?_
                                refine lv_iload hx hb dL_law_655 (lv_at hl 0 rfl) ?_
                                refine lv_iconst (v := 1) hx hb dL_law_657 (by decide) ?_
                                refine lb_P (As := [.int (nI tj), .int (1 + (f_L_low (y1 >>> ((8 : Int32) &&& 31)) 12)), .int 1]) (rest := []) hx hb hml hown hts hK hI hB hEH (cl_offer l (nI tj) (1 + (f_L_low (y1 >>> ((8 : Int32) &&& 31)) 12)) 1 hok) (kV_X3_offer hts ml_L_119 ⟨(Nat.le_of_ble_eq_true rfl), (Nat.le_of_ble_eq_true rfl)⟩) rfl hl.1 rfl (Nat.le_of_ble_eq_true rfl) dL_law_658 (by show _ ≤ 600000; omega) (by show _ ≤ 7302250; omega) ?_
                                refine lv_istore (lv' := [(13, .int ((f_X2_offerFor σ2 (nI tj) (1 + (f_L_low (y1 >>> ((8 : Int32) &&& 31)) 12)) 1))), (12, .int (1 + (f_L_low (y1 >>> ((8 : Int32) &&& 31)) 12))), (10, .int ((f_X2_agingBy σ2 (nI tj)))), (4, .long (sD_6 σ2)), (2, .int (y1)), (1, .ref ((ad 300))), (0, .ref (b)), (9, .int (nI tj)), (11, .int ((g_L_law_552 ((m_X2_advanceEdition σ2 (nI tj)).2) (nN ((m_X2_advanceEdition σ2 (nI tj)).2) + 1) 0 (g_L_law_457 σ2 (nN σ2 + 1) 0 0))))]) hx hb dL_law_661 hl (by decide) rfl (fun ls hl => ?_)
                                refine lv_aload_n hx hb dL_law_663 rfl (lv_at hl 5 rfl) ?_
                                refine lv_iconst (v := 1) hx hb dL_law_664 (by decide) ?_
                                refine lb_P (As := [.int 1]) (rest := []) hx hb hml hown hts hK hI hB hEH (cl_count l 1 hok) (kV_X3_count hts ml_L_8 ⟨(Nat.le_of_ble_eq_true rfl), (Nat.le_of_ble_eq_true rfl)⟩) rfl hl.1 rfl (Nat.le_of_ble_eq_true rfl) dL_law_665 (by show _ ≤ 600000; omega) (by show _ ≤ 7302250; omega) ?_
                                refine lv_istore (lv' := [(14, .int ((f_X2_numberOf σ2 1))), (13, .int ((f_X2_offerFor σ2 (nI tj) (1 + (f_L_low (y1 >>> ((8 : Int32) &&& 31)) 12)) 1))), (12, .int (1 + (f_L_low (y1 >>> ((8 : Int32) &&& 31)) 12))), (10, .int ((f_X2_agingBy σ2 (nI tj)))), (4, .long (sD_6 σ2)), (2, .int (y1)), (1, .ref ((ad 300))), (0, .ref (b)), (9, .int (nI tj)), (11, .int ((g_L_law_552 ((m_X2_advanceEdition σ2 (nI tj)).2) (nN ((m_X2_advanceEdition σ2 (nI tj)).2) + 1) 0 (g_L_law_457 σ2 (nN σ2 + 1) 0 0))))]) hx hb dL_law_668 hl (by decide) rfl (fun ls hl => ?_)
                                refine lv_aload_n hx hb dL_law_670 rfl (lv_at hl 6 rfl) ?_
                                refine lv_iload hx hb dL_law_671 (lv_at hl 8 rfl) ?_
                                refine lv_iload hx hb dL_law_673 (lv_at hl 2 rfl) ?_
                                refine lv_iconst (v := 1) hx hb dL_law_675 (by decide) ?_
                                refine lb_Q (As := [.int (nI tj), .int (1 + (f_L_low (y1 >>> ((8 : Int32) &&& 31)) 12)), .int 1]) (w := (m_X2_buyUsed σ2 (nI tj) (1 + (f_L_low (y1 >>> ((8 : Int32) &&& 31)) 12)) 1)) (rest := []) hx hb hml hown hts hK hI hB hEH hbA hS (cm_buyBack l (nI tj) (1 + (f_L_low (y1 >>> ((8 : Int32) &&& 31)) 12)) 1 hok) (kV_X3_buyBack hts ml_L_82 ⟨(Nat.le_of_ble_eq_true rfl), (Nat.le_of_ble_eq_true rfl)⟩) rfl hl.1 rfl (Nat.le_of_ble_eq_true rfl) dL_law_676 (by show _ ≤ 600000; omega) (by show _ ≤ 7302250; omega) (fun H locs hB hU hS => ?_)
                                have hok21 : okS (m_X2_buyUsed σ2 (nI tj) (1 + (f_L_low (y1 >>> ((8 : Int32) &&& 31)) 12)) 1).2 := ok_buyBack hok (nI tj) (1 + (f_L_low (y1 >>> ((8 : Int32) &&& 31)) 12)) 1
                                obtain ⟨_, _, _⟩ := okS_b hok21
                                have hEH : lE v ad s H := lE_of hE hN hbA hS
                                refine lv_istore (lv' := [(15, .int ((m_X2_buyUsed σ2 (nI tj) (1 + (f_L_low (y1 >>> ((8 : Int32) &&& 31)) 12)) 1).1)), (14, .int ((f_X2_numberOf σ2 1))), (13, .int ((f_X2_offerFor σ2 (nI tj) (1 + (f_L_low (y1 >>> ((8 : Int32) &&& 31)) 12)) 1))), (12, .int (1 + (f_L_low (y1 >>> ((8 : Int32) &&& 31)) 12))), (10, .int ((f_X2_agingBy σ2 (nI tj)))), (4, .long (sD_6 σ2)), (2, .int (y1)), (1, .ref ((ad 300))), (0, .ref (b)), (9, .int (nI tj)), (11, .int ((g_L_law_552 ((m_X2_advanceEdition σ2 (nI tj)).2) (nN ((m_X2_advanceEdition σ2 (nI tj)).2) + 1) 0 (g_L_law_457 σ2 (nN σ2 + 1) 0 0))))]) hx hb dL_law_679 hl (by decide) rfl (fun ls hl => ?_)
                                refine lv_iload hx hb dL_law_681 (lv_at hl 2 rfl) ?_
                                refine lv_if_ne (tgt := 696) hx hb dL_law_683 (by decide) (fun c_683 => ?_) (fun c_683 => ?_)
                                · refine lv_iload hx hb dL_law_696 (lv_at hl 1 rfl) ?_
                                  refine lv_bipush (v := 60) hx hb dL_law_698 (by decide) ?_
                                  refine lv_icmp_ne (tgt := 713) hx hb dL_law_700 (by decide) (fun c_700 => ?_) (fun c_700 => ?_)
                                  · refine lv_iload hx hb dL_law_713 (lv_at hl 0 rfl) ?_
                                    refine lv_iload hx hb dL_law_715 (lv_at hl 1 rfl) ?_
                                    refine lv_icmp_ne (tgt := 758) hx hb dL_law_717 (by decide) (fun q => absurd (hF_49 y1 ti σ2 tj c_203 hw c_440 c_515 c_683 c_700) q) (fun c_717 => ?_)
                                    refine lv_aload_n hx hb dL_law_720 rfl (lv_at hl 7 rfl) ?_
                                    refine lv_iload hx hb dL_law_721 (lv_at hl 1 rfl) ?_
                                    refine lv_bipush (v := 6) hx hb dL_law_723 (by decide) ?_
                                    refine lb_P (As := [.int (f_X2_numberOf σ2 1), .int 6]) (rest := []) hx hb hml hown hts hK hI hB hEH (cl_copy l (f_X2_numberOf σ2 1) 6 hok21) (kV_X3_copy hts ml_L_14 ⟨(Nat.le_of_ble_eq_true rfl), (Nat.le_of_ble_eq_true rfl)⟩) rfl hl.1 rfl (Nat.le_of_ble_eq_true rfl) dL_law_725 (by show _ ≤ 600000; omega) (by show _ ≤ 7302250; omega) ?_
                                    refine lv_bipush (v := 40) hx hb dL_law_728 (by decide) ?_
                                    refine lv_imul hx hb dL_law_730 ?_
                                    refine lv_bipush (v := 100) hx hb dL_law_731 (by decide) ?_
                                    refine lv_idiv hx hb dL_law_733 (by decide) ?_
                                    refine lv_iload hx hb dL_law_734 (lv_at hl 2 rfl) ?_
                                    refine lv_icmp_lt (tgt := 758) hx hb dL_law_736 (by decide) (fun q => absurd q (hF_50 y1 ti σ2 tj c_203 hw c_440 c_515 c_683 c_700)) (fun c_736 => ?_)
                                    refine lv_aload_n hx hb dL_law_739 rfl (lv_at hl 7 rfl) ?_
                                    refine lv_iload hx hb dL_law_740 (lv_at hl 1 rfl) ?_
                                    refine lv_bipush (v := 9) hx hb dL_law_742 (by decide) ?_
                                    refine lb_P (As := [.int (f_X2_numberOf σ2 1), .int 9]) (rest := []) hx hb hml hown hts hK hI hB hEH (cl_copy l (f_X2_numberOf σ2 1) 9 hok21) (kV_X3_copy hts ml_L_14 ⟨(Nat.le_of_ble_eq_true rfl), (Nat.le_of_ble_eq_true rfl)⟩) rfl hl.1 rfl (Nat.le_of_ble_eq_true rfl) dL_law_744 (by show _ ≤ 600000; omega) (by show _ ≤ 7302250; omega) ?_
                                    refine lv_iconst (v := 1) hx hb dL_law_747 (by decide) ?_
                                    refine lv_icmp_ne (tgt := 758) hx hb dL_law_748 (by decide) (fun q => absurd (hF_51 y1 ti σ2 tj c_203 hw c_440 c_515 c_683 c_700) q) (fun c_748 => ?_)
                                    refine lv_aload_n hx hb dL_law_751 rfl (lv_at hl 7 rfl) ?_
                                    refine lb_U (rest := []) hx hb hml hown hts hK hI (hU (hF_52 y1 ti σ2 tj c_203 hw c_440 c_515 c_683 c_700)) hEH hbA hS (kV_X3_undo hts ml_L_55 ⟨(Nat.le_of_ble_eq_true rfl), (Nat.le_of_ble_eq_true rfl)⟩) hl.1 rfl (Nat.le_of_ble_eq_true rfl) dL_law_752 (by show _ ≤ 600000; omega) (by show _ ≤ 7302250; omega) (fun H locs r22 hr22 hB hS => ?_)
                                    have hEH : lE v ad s H := lE_of hE hN hbA hS
                                    refine lv_if_ge (tgt := 760) hx hb dL_law_755 (by decide) (fun _ => ?_) (fun q => absurd (Int32.not_lt.mp hr22) q)
                                    refine lv_aload_n hx hb dL_law_760 rfl (lv_at hl 7 rfl) ?_
                                    refine lv_iload hx hb dL_law_761 (lv_at hl 9 rfl) ?_
                                    refine lv_iload hx hb dL_law_763 (lv_at hl 3 rfl) ?_
                                    refine lv_iconst (v := 4) hx hb dL_law_765 (by decide) ?_
                                    refine lb_P (As := [.int (nI tj), .int (1 + (f_L_low (y1 >>> ((8 : Int32) &&& 31)) 12)), .int 4]) (rest := []) hx hb hml hown hts hK hI hB hEH (cl_offer l (nI tj) (1 + (f_L_low (y1 >>> ((8 : Int32) &&& 31)) 12)) 4 hok) (kV_X3_offer hts ml_L_119 ⟨(Nat.le_of_ble_eq_true rfl), (Nat.le_of_ble_eq_true rfl)⟩) rfl hl.1 rfl (Nat.le_of_ble_eq_true rfl) dL_law_766 (by show _ ≤ 600000; omega) (by show _ ≤ 7302250; omega) ?_
                                    refine lv_iload hx hb dL_law_769 (lv_at hl 2 rfl) ?_
                                    refine lv_icmp_gt (tgt := 784) hx hb dL_law_771 (by decide) (fun q => absurd q (hF_53 y1 ti σ2 tj c_203 hw c_440 c_515 c_683 c_700)) (fun c_771 => ?_)
                                    refine lv_aload_n hx hb dL_law_774 rfl (lv_at hl 7 rfl) ?_
                                    refine lb_L (As := []) (rest := []) hx hb hml hown hts hK hI hB hEH (cl_digest l hok) (kV_X3_digest hts ml_L_38 ⟨(Nat.le_of_ble_eq_true rfl), (Nat.le_of_ble_eq_true rfl)⟩) rfl hl.1 rfl (Nat.le_of_ble_eq_true rfl) dL_law_775 (by show _ ≤ 600000; omega) (by show _ ≤ 7302250; omega) ?_
                                    refine lv_lload hx hb dL_law_778 (lv_at hl 5 rfl) ?_
                                    refine W.lcmp hx hb dL_law_780 ?_
                                    refine lv_if_eq (tgt := 786) hx hb dL_law_781 (by decide) (fun _ => ?_) (fun q => absurd (lg_self _) q)
                                    refine lv_iinc (v := nI (tj + 1)) (lv' := [(9, .int (nI (tj + 1))), (15, .int ((m_X2_buyUsed σ2 (nI tj) (1 + (f_L_low (y1 >>> ((8 : Int32) &&& 31)) 12)) 1).1)), (14, .int ((f_X2_numberOf σ2 1))), (13, .int ((f_X2_offerFor σ2 (nI tj) (1 + (f_L_low (y1 >>> ((8 : Int32) &&& 31)) 12)) 1))), (12, .int (1 + (f_L_low (y1 >>> ((8 : Int32) &&& 31)) 12))), (10, .int ((f_X2_agingBy σ2 (nI tj)))), (4, .long (sD_6 σ2)), (2, .int (y1)), (1, .ref ((ad 300))), (0, .ref (b)), (11, .int ((g_L_law_552 ((m_X2_advanceEdition σ2 (nI tj)).2) (nN ((m_X2_advanceEdition σ2 (nI tj)).2) + 1) 0 (g_L_law_457 σ2 (nN σ2 + 1) 0 0))))]) hx hb dL_law_786 hl (k := 9) rfl (nI_c1 _) (by decide) rfl (fun ls hl => ?_)
                                    refine lv_goto (tgt := 433) hx hb dL_law_789 (by decide) ?_
                                    exact ih_433 (tj + 1) (by omega) (by omega) _ _ hB hS ls (lv_sub hl [6, 7, 8, 9, 0] rfl)
                                  refine lv_iload hx hb dL_law_703 (lv_at hl 0 rfl) ?_
                                  refine lv_bipush (v := (-5)) hx hb dL_law_705 (by decide) ?_
                                  refine lv_icmp_eq (tgt := 760) hx hb dL_law_707 (by decide) (fun c_707 => ?_) (fun q => absurd (hF_54 y1 ti σ2 tj c_203 hw c_440 c_515 c_683 c_700) q)
                                  have hB : lB D cI cR ad σ2 H := by rw [← (show (m_X2_buyUsed σ2 (nI tj) (1 + (f_L_low (y1 >>> ((8 : Int32) &&& 31)) 12)) 1).2 = σ2 from (hF_55 y1 ti σ2 tj c_203 hw c_440 c_515 c_683 c_700))]; exact hB
                                  refine lv_aload_n hx hb dL_law_760 rfl (lv_at hl 7 rfl) ?_
                                  refine lv_iload hx hb dL_law_761 (lv_at hl 9 rfl) ?_
                                  refine lv_iload hx hb dL_law_763 (lv_at hl 3 rfl) ?_
                                  refine lv_iconst (v := 4) hx hb dL_law_765 (by decide) ?_
                                  refine lb_P (As := [.int (nI tj), .int (1 + (f_L_low (y1 >>> ((8 : Int32) &&& 31)) 12)), .int 4]) (rest := []) hx hb hml hown hts hK hI hB hEH (cl_offer l (nI tj) (1 + (f_L_low (y1 >>> ((8 : Int32) &&& 31)) 12)) 4 hok) (kV_X3_offer hts ml_L_119 ⟨(Nat.le_of_ble_eq_true rfl), (Nat.le_of_ble_eq_true rfl)⟩) rfl hl.1 rfl (Nat.le_of_ble_eq_true rfl) dL_law_766 (by show _ ≤ 600000; omega) (by show _ ≤ 7302250; omega) ?_
                                  refine lv_iload hx hb dL_law_769 (lv_at hl 2 rfl) ?_
                                  refine lv_icmp_gt (tgt := 784) hx hb dL_law_771 (by decide) (fun q => absurd q (hF_56 y1 ti σ2 tj c_203 hw c_440 c_515 c_683 c_700)) (fun c_771 => ?_)
                                  refine lv_aload_n hx hb dL_law_774 rfl (lv_at hl 7 rfl) ?_
                                  refine lb_L (As := []) (rest := []) hx hb hml hown hts hK hI hB hEH (cl_digest l hok) (kV_X3_digest hts ml_L_38 ⟨(Nat.le_of_ble_eq_true rfl), (Nat.le_of_ble_eq_true rfl)⟩) rfl hl.1 rfl (Nat.le_of_ble_eq_true rfl) dL_law_775 (by show _ ≤ 600000; omega) (by show _ ≤ 7302250; omega) ?_
                                  refine lv_lload hx hb dL_law_778 (lv_at hl 5 rfl) ?_
                                  refine W.lcmp hx hb dL_law_780 ?_
                                  refine lv_if_eq (tgt := 786) hx hb dL_law_781 (by decide) (fun _ => ?_) (fun q => absurd (lg_self _) q)
                                  refine lv_iinc (v := nI (tj + 1)) (lv' := [(9, .int (nI (tj + 1))), (15, .int ((m_X2_buyUsed σ2 (nI tj) (1 + (f_L_low (y1 >>> ((8 : Int32) &&& 31)) 12)) 1).1)), (14, .int ((f_X2_numberOf σ2 1))), (13, .int ((f_X2_offerFor σ2 (nI tj) (1 + (f_L_low (y1 >>> ((8 : Int32) &&& 31)) 12)) 1))), (12, .int (1 + (f_L_low (y1 >>> ((8 : Int32) &&& 31)) 12))), (10, .int ((f_X2_agingBy σ2 (nI tj)))), (4, .long (sD_6 σ2)), (2, .int (y1)), (1, .ref ((ad 300))), (0, .ref (b)), (11, .int ((g_L_law_552 ((m_X2_advanceEdition σ2 (nI tj)).2) (nN ((m_X2_advanceEdition σ2 (nI tj)).2) + 1) 0 (g_L_law_457 σ2 (nN σ2 + 1) 0 0))))]) hx hb dL_law_786 hl (k := 9) rfl (nI_c1 _) (by decide) rfl (fun ls hl => ?_)
                                  refine lv_goto (tgt := 433) hx hb dL_law_789 (by decide) ?_
                                  exact ih_433 (tj + 1) (by omega) (by omega) _ _ hB hS ls (lv_sub hl [6, 7, 8, 9, 0] rfl)
                                refine lv_iload hx hb dL_law_686 (lv_at hl 0 rfl) ?_
                                refine lv_bipush (v := (-4)) hx hb dL_law_688 (by decide) ?_
                                refine lv_icmp_eq (tgt := 760) hx hb dL_law_690 (by decide) (fun c_690 => ?_) (fun q => absurd (hF_57 y1 ti σ2 tj c_203 hw c_440 c_515 c_683) q)
                                have hB : lB D cI cR ad σ2 H := by rw [← (show (m_X2_buyUsed σ2 (nI tj) (1 + (f_L_low (y1 >>> ((8 : Int32) &&& 31)) 12)) 1).2 = σ2 from (hF_58 y1 ti σ2 tj c_203 hw c_440 c_515 c_683))]; exact hB
                                refine lv_aload_n hx hb dL_law_760 rfl (lv_at hl 7 rfl) ?_
                                refine lv_iload hx hb dL_law_761 (lv_at hl 9 rfl) ?_
                                refine lv_iload hx hb dL_law_763 (lv_at hl 3 rfl) ?_
                                refine lv_iconst (v := 4) hx hb dL_law_765 (by decide) ?_
                                refine lb_P (As := [.int (nI tj), .int (1 + (f_L_low (y1 >>> ((8 : Int32) &&& 31)) 12)), .int 4]) (rest := []) hx hb hml hown hts hK hI hB hEH (cl_offer l (nI tj) (1 + (f_L_low (y1 >>> ((8 : Int32) &&& 31)) 12)) 4 hok) (kV_X3_offer hts ml_L_119 ⟨(Nat.le_of_ble_eq_true rfl), (Nat.le_of_ble_eq_true rfl)⟩) rfl hl.1 rfl (Nat.le_of_ble_eq_true rfl) dL_law_766 (by show _ ≤ 600000; omega) (by show _ ≤ 7302250; omega) ?_
                                refine lv_iload hx hb dL_law_769 (lv_at hl 2 rfl) ?_
                                refine lv_icmp_gt (tgt := 784) hx hb dL_law_771 (by decide) (fun q => absurd q (hF_59 y1 ti σ2 tj c_203 hw c_440 c_515 c_683)) (fun c_771 => ?_)
                                refine lv_aload_n hx hb dL_law_774 rfl (lv_at hl 7 rfl) ?_
                                refine lb_L (As := []) (rest := []) hx hb hml hown hts hK hI hB hEH (cl_digest l hok) (kV_X3_digest hts ml_L_38 ⟨(Nat.le_of_ble_eq_true rfl), (Nat.le_of_ble_eq_true rfl)⟩) rfl hl.1 rfl (Nat.le_of_ble_eq_true rfl) dL_law_775 (by show _ ≤ 600000; omega) (by show _ ≤ 7302250; omega) ?_
                                refine lv_lload hx hb dL_law_778 (lv_at hl 5 rfl) ?_
                                refine W.lcmp hx hb dL_law_780 ?_
                                refine lv_if_eq (tgt := 786) hx hb dL_law_781 (by decide) (fun _ => ?_) (fun q => absurd (lg_self _) q)
                                refine lv_iinc (v := nI (tj + 1)) (lv' := [(9, .int (nI (tj + 1))), (15, .int ((m_X2_buyUsed σ2 (nI tj) (1 + (f_L_low (y1 >>> ((8 : Int32) &&& 31)) 12)) 1).1)), (14, .int ((f_X2_numberOf σ2 1))), (13, .int ((f_X2_offerFor σ2 (nI tj) (1 + (f_L_low (y1 >>> ((8 : Int32) &&& 31)) 12)) 1))), (12, .int (1 + (f_L_low (y1 >>> ((8 : Int32) &&& 31)) 12))), (10, .int ((f_X2_agingBy σ2 (nI tj)))), (4, .long (sD_6 σ2)), (2, .int (y1)), (1, .ref ((ad 300))), (0, .ref (b)), (11, .int ((g_L_law_552 ((m_X2_advanceEdition σ2 (nI tj)).2) (nN ((m_X2_advanceEdition σ2 (nI tj)).2) + 1) 0 (g_L_law_457 σ2 (nN σ2 + 1) 0 0))))]) hx hb dL_law_786 hl (k := 9) rfl (nI_c1 _) (by decide) rfl (fun ls hl => ?_)
                                refine lv_goto (tgt := 433) hx hb dL_law_789 (by decide) ?_
                                exact ih_433 (tj + 1) (by omega) (by omega) _ _ hB hS ls (lv_sub hl [6, 7, 8, 9, 0] rfl)
                              refine lv_aload_n hx hb dL_law_562 rfl (lv_at hl 3 rfl) ?_
                              refine lv_iload hx hb dL_law_563 (lv_at hl 6 rfl) ?_
                              refine lv_iconst (v := 3) hx hb dL_law_565 (by decide) ?_
                              refine lb_P (As := [.int (nI k2), .int 3]) (rest := []) hx hb hml hown hts hK hI hB hEH (cl_copy l (nI k2) 3 hok19) (kV_X3_copy hts ml_L_14 ⟨(Nat.le_of_ble_eq_true rfl), (Nat.le_of_ble_eq_true rfl)⟩) rfl hl.1 rfl (Nat.le_of_ble_eq_true rfl) dL_law_566 (by show _ ≤ 600000; omega) (by show _ ≤ 7302250; omega) ?_
                              refine lv_istore (lv' := [(13, .int ((f_X2_copyProperty ((m_X2_advanceEdition σ2 (nI tj)).2) (nI k2) 3))), (10, .int ((f_X2_agingBy σ2 (nI tj)))), (4, .long (sD_6 σ2)), (2, .int (y1)), (1, .ref ((ad 300))), (0, .ref (b)), (9, .int (nI tj)), (12, .int (nI k2)), (11, .int (xd))]) hx hb dL_law_569 hl (by decide) rfl (fun ls hl => ?_)
                              refine lv_iload hx hb dL_law_571 (lv_at hl 8 rfl) ?_
                              refine lv_iload hx hb dL_law_573 (lv_at hl 0 rfl) ?_
                              refine lv_iconst (v := 2) hx hb dL_law_575 (by decide) ?_
                              refine bj 597 (rest := [.int (xd)]) (v := (if (f_X2_copyProperty ((m_X2_advanceEdition σ2 (nI tj)).2) (nI k2) 3) = 2 then 0 else (if (f_X2_copyProperty ((m_X2_advanceEdition σ2 (nI tj)).2) (nI k2) 3) = 3 then 0 else (f_X2_copyProperty ((m_X2_advanceEdition σ2 (nI tj)).2) (nI k2) 6)))) (fun x23 hx23 => ?_) (fun J23 => ?_)
                              · subst hx23
                                refine lv_isub hx hb dL_law_597 ?_
                                refine lv_istore (lv' := [(11, .int (xd - (if (f_X2_copyProperty ((m_X2_advanceEdition σ2 (nI tj)).2) (nI k2) 3) = 2 then 0 else (if (f_X2_copyProperty ((m_X2_advanceEdition σ2 (nI tj)).2) (nI k2) 3) = 3 then 0 else (f_X2_copyProperty ((m_X2_advanceEdition σ2 (nI tj)).2) (nI k2) 6))))), (13, .int ((f_X2_copyProperty ((m_X2_advanceEdition σ2 (nI tj)).2) (nI k2) 3))), (10, .int ((f_X2_agingBy σ2 (nI tj)))), (4, .long (sD_6 σ2)), (2, .int (y1)), (1, .ref ((ad 300))), (0, .ref (b)), (9, .int (nI tj)), (12, .int (nI k2))]) hx hb dL_law_598 hl (by decide) rfl (fun ls hl => ?_)
                                refine lv_iinc (v := nI (k2 + 1)) (lv' := [(12, .int (nI (k2 + 1))), (11, .int (xd - (if (f_X2_copyProperty ((m_X2_advanceEdition σ2 (nI tj)).2) (nI k2) 3) = 2 then 0 else (if (f_X2_copyProperty ((m_X2_advanceEdition σ2 (nI tj)).2) (nI k2) 3) = 3 then 0 else (f_X2_copyProperty ((m_X2_advanceEdition σ2 (nI tj)).2) (nI k2) 6))))), (13, .int ((f_X2_copyProperty ((m_X2_advanceEdition σ2 (nI tj)).2) (nI k2) 3))), (10, .int ((f_X2_agingBy σ2 (nI tj)))), (4, .long (sD_6 σ2)), (2, .int (y1)), (1, .ref ((ad 300))), (0, .ref (b)), (9, .int (nI tj))]) hx hb dL_law_600 hl (k := 8) rfl (nI_c1 _) (by decide) rfl (fun ls hl => ?_)
                                refine lv_goto (tgt := 552) hx hb dL_law_603 (by decide) ?_
                                exact ih_552 (k2 + 1) (xd - (if (f_X2_copyProperty ((m_X2_advanceEdition σ2 (nI tj)).2) (nI k2) 3) = 2 then 0 else (if (f_X2_copyProperty ((m_X2_advanceEdition σ2 (nI tj)).2) (nI k2) 3) = 3 then 0 else (f_X2_copyProperty ((m_X2_advanceEdition σ2 (nI tj)).2) (nI k2) 6)))) (by omega) (by omega) (((br_n c_559 rfl) : g_L_law_552 ((m_X2_advanceEdition σ2 (nI tj)).2) fu_552 (k2 + 1) (xd - (if (f_X2_copyProperty ((m_X2_advanceEdition σ2 (nI tj)).2) (nI k2) 3) = 2 then 0 else (if (f_X2_copyProperty ((m_X2_advanceEdition σ2 (nI tj)).2) (nI k2) 3) = 3 then 0 else (f_X2_copyProperty ((m_X2_advanceEdition σ2 (nI tj)).2) (nI k2) 6)))) = g_L_law_552 ((m_X2_advanceEdition σ2 (nI tj)).2) (fu_552 + 1) k2 xd).trans hg_552) ls (lv_sub hl [3, 4, 5, 6, 7, 8, 0, 1] rfl)
                              refine lv_icmp_eq (tgt := 596) hx hb dL_law_576 (by decide) (fun c_576 => ?_) (fun c_576 => ?_)
                              · refine lv_iconst (v := 0) hx hb dL_law_596 (by decide) ?_
                                exact J23 _ (br_p c_576 rfl)
                              refine lv_iload hx hb dL_law_579 (lv_at hl 0 rfl) ?_
                              refine lv_iconst (v := 3) hx hb dL_law_581 (by decide) ?_
                              refine lv_icmp_eq (tgt := 596) hx hb dL_law_582 (by decide) (fun c_582 => ?_) (fun c_582 => ?_)
                              · refine lv_iconst (v := 0) hx hb dL_law_596 (by decide) ?_
                                exact J23 _ (br_n c_576 (br_p c_582 rfl))
                              refine lv_aload_n hx hb dL_law_585 rfl (lv_at hl 4 rfl) ?_
                              refine lv_iload hx hb dL_law_586 (lv_at hl 7 rfl) ?_
                              refine lv_bipush (v := 6) hx hb dL_law_588 (by decide) ?_
                              refine lb_P (As := [.int (nI k2), .int 6]) (rest := [.int (xd)]) hx hb hml hown hts hK hI hB hEH (cl_copy l (nI k2) 6 hok19) (kV_X3_copy hts ml_L_14 ⟨(Nat.le_of_ble_eq_true rfl), (Nat.le_of_ble_eq_true rfl)⟩) rfl hl.1 rfl (Nat.le_of_ble_eq_true rfl) dL_law_590 (by show _ ≤ 600000; omega) (by show _ ≤ 7302250; omega) ?_
                              refine lv_goto (tgt := 597) hx hb dL_law_593 (by decide) ?_
                              exact J23 _ (br_n c_576 (br_n c_582 rfl))
                          exact L_552 (nN ((m_X2_advanceEdition σ2 (nI tj)).2) + 1) 0 (g_L_law_457 σ2 (nN σ2 + 1) 0 0) (by omega) (by omega) rfl ls (lv_sub hl [1, 2, 3, 4, 5, 6, 0, 7] rfl)
                        refine lv_aload_n hx hb dL_law_518 rfl (lv_at hl 3 rfl) ?_
                        refine lv_iload hx hb dL_law_519 (lv_at hl 5 rfl) ?_
                        refine lb_Q (As := [.int (nI tj)]) (w := (m_X2_advanceEdition σ2 (nI tj))) (rest := []) hx hb hml hown hts hK hI hB hEH hbA hS (cm_newEdition l (nI tj) hok) (kV_X3_newEdition hts ml_L_70 ⟨(Nat.le_of_ble_eq_true rfl), (Nat.le_of_ble_eq_true rfl)⟩) rfl hl.1 rfl (Nat.le_of_ble_eq_true rfl) dL_law_521 (by show _ ≤ 600000; omega) (by show _ ≤ 7302250; omega) (fun H locs hB hU hS => ?_)
                        have hok24 : okS (m_X2_advanceEdition σ2 (nI tj)).2 := ok_newEdition hok (nI tj)
                        obtain ⟨_, _, _⟩ := okS_b hok24
                        have hEH : lE v ad s H := lE_of hE hN hbA hS
                        refine lv_bipush (v := (-5)) hx hb dL_law_524 (by decide) ?_
                        refine lv_icmp_eq (tgt := 549) hx hb dL_law_526 (by decide) (fun c_526 => ?_) (fun q => absurd (hF_60 ti σ2 tj c_203 hw c_440 c_515) q)
                        have hB : lB D cI cR ad σ2 H := by rw [← (show (m_X2_advanceEdition σ2 (nI tj)).2 = σ2 from (hF_61 ti σ2 tj c_203 hw c_440 c_515))]; exact hB
                        refine lv_iconst (v := 0) hx hb dL_law_549 (by decide) ?_
                        refine lv_istore (lv' := [(12, .int (0)), (10, .int ((f_X2_agingBy σ2 (nI tj)))), (4, .long (sD_6 σ2)), (2, .int (y1)), (1, .ref ((ad 300))), (0, .ref (b)), (9, .int (nI tj)), (11, .int ((g_L_law_457 σ2 (nN σ2 + 1) 0 0)))]) hx hb dL_law_550 hl (by decide) rfl (fun ls hl => ?_)
                        have L_552 : ∀ (fu : Nat) (k2 : Nat) (xd : Int32), nN σ2 - k2 < fu → (k2 ≤ nN σ2) → g_L_law_552 σ2 fu k2 xd = g_L_law_552 σ2 (nN σ2 + 1) 0 (g_L_law_457 σ2 (nN σ2 + 1) 0 0) → ∀ ls, lv_has ls 16 [(10, .int ((f_X2_agingBy σ2 (nI tj)))), (4, .long (sD_6 σ2)), (2, .int (y1)), (1, .ref ((ad 300))), (0, .ref (b)), (9, .int (nI tj)), (12, .int (nI k2)), (11, .int (xd))] → W p l e room_1 s m args below meth c H locs (110 + 2 * ti + 1) (3108 + 26 * ti + 13) Q (F0 m 552 ls []) := by
                          intro fu_552
                          induction fu_552 with
                          | zero => intro k2 xd hm; exact absurd hm (Nat.not_lt_zero _)
                          | succ fu_552 ih_552 =>
                            intro k2 xd hm hb2 hg_552 ls hl
                            refine lv_iload hx hb dL_law_552 (lv_at hl 6 rfl) ?_
                            refine lv_aload_n hx hb dL_law_554 rfl (lv_at hl 3 rfl) ?_
                            refine lv_iconst (v := 1) hx hb dL_law_555 (by decide) ?_
                            refine lb_P (As := [.int 1]) (rest := [.int (nI k2)]) hx hb hml hown hts hK hI hB hEH (cl_count l 1 hok) (kV_X3_count hts ml_L_8 ⟨(Nat.le_of_ble_eq_true rfl), (Nat.le_of_ble_eq_true rfl)⟩) rfl hl.1 rfl (Nat.le_of_ble_eq_true rfl) dL_law_556 (by show _ ≤ 600000; omega) (by show _ ≤ 7302250; omega) ?_
                            refine lv_icmp_geN (k2) (nN σ2) hx hb rfl (num_1 hok) (by omega) (by omega) (tgt := 606) dL_law_559 (by decide) (fun c_559 => ?_) (fun c_559 => ?_)
                            · have ex_xd : xd = g_L_law_552 σ2 (nN σ2 + 1) 0 (g_L_law_457 σ2 (nN σ2 + 1) 0 0) := ((br_p c_559 rfl) : xd = g_L_law_552 σ2 (fu_552 + 1) k2 xd).trans hg_552
                              subst ex_xd
                              refine lv_iload hx hb dL_law_606 (lv_at hl 0 rfl) ?_
                              refine lv_bipush (v := (-5)) hx hb dL_law_608 (by decide) ?_
                              refine lv_icmp_eq (tgt := 627) hx hb dL_law_610 (by decide) (fun _ => ?_) (fun q => absurd c_515 q)
                              refine lv_aload_n hx hb dL_law_627 rfl (lv_at hl 3 rfl) ?_
                              refine lb_L (As := []) (rest := []) hx hb hml hown hts hK hI hB hEH (cl_digest l hok) (kV_X3_digest hts ml_L_38 ⟨(Nat.le_of_ble_eq_true rfl), (Nat.le_of_ble_eq_true rfl)⟩) rfl hl.1 rfl (Nat.le_of_ble_eq_true rfl) dL_law_628 (by show _ ≤ 600000; omega) (by show _ ≤ 7302250; omega) ?_
                              refine lv_lload hx hb dL_law_631 (lv_at hl 1 rfl) ?_
                              refine W.lcmp hx hb dL_law_633 ?_
                              refine lv_if_eq (tgt := 639) hx hb dL_law_634 (by decide) (fun _ => ?_) (fun q => absurd (lg_self _) q)
                              refine lv_iconst (v := 1) hx hb dL_law_639 (by decide) ?_
                              refine lv_iload_n hx hb dL_law_640 rfl (lv_at hl 2 rfl) ?_
                              refine lv_bipush (v := 8) hx hb dL_law_641 (by decide) ?_
                              refine lv_ishr hx hb dL_law_643 ?_
                              refine lv_bipush (v := 12) hx hb dL_law_644 (by decide) ?_
                              refine cl_S (As := [.int (y1 >>> ((8 : Int32) &&& 31)), .int 12]) (rest := [.int (1)]) hx hb hml hown hts (c_L_low l (y1 >>> ((8 : Int32) &&& 31)) 12 (by decide)) (kS_L_low hts ml_L_58 ⟨(Nat.le_of_ble_eq_true rfl), (Nat.le_of_ble_eq_true rfl)⟩) rfl hl.1 rfl (Nat.le_of_ble_eq_true rfl) dL_law_646 (by show _ ≤ 600000; omega) (by show _ ≤ 7302250; omega) ?_
                              refine lv_iadd hx hb dL_law_649 ?_
                              refine lv_istore (lv' := [(12, .int (1 + (f_L_low (y1 >>> ((8 : Int32) &&& 31)) 12))), (10, .int ((f_X2_agingBy σ2 (nI tj)))), (4, .long (sD_6 σ2)), (2, .int (y1)), (1, .ref ((ad 300))), (0, .ref (b)), (9, .int (nI tj)), (11, .int ((g_L_law_552 σ2 (nN σ2 + 1) 0 (g_L_law_457 σ2 (nN σ2 + 1) 0 0))))]) hx hb dL_law_650 hl (by decide) rfl (fun ls hl => ?_)
                              refine lv_aload_n hx hb dL_law_652 rfl (lv_at hl 4 rfl) ?_
                              refine lv_iload hx hb dL_law_653 (lv_at hl 6 rfl) ?_
                              refine lv_iload hx hb dL_law_655 (lv_at hl 0 rfl) ?_
                              refine lv_iconst (v := 1) hx hb dL_law_657 (by decide) ?_
                              refine lb_P (As := [.int (nI tj), .int (1 + (f_L_low (y1 >>> ((8 : Int32) &&& 31)) 12)), .int 1]) (rest := []) hx hb hml hown hts hK hI hB hEH (cl_offer l (nI tj) (1 + (f_L_low (y1 >>> ((8 : Int32) &&& 31)) 12)) 1 hok) (kV_X3_offer hts ml_L_119 ⟨(Nat.le_of_ble_eq_true rfl), (Nat.le_of_ble_eq_true rfl)⟩) rfl hl.1 rfl (Nat.le_of_ble_eq_true rfl) dL_law_658 (by show _ ≤ 600000; omega) (by show _ ≤ 7302250; omega) ?_
                              refine lv_istore (lv' := [(13, .int ((f_X2_offerFor σ2 (nI tj) (1 + (f_L_low (y1 >>> ((8 : Int32) &&& 31)) 12)) 1))), (12, .int (1 + (f_L_low (y1 >>> ((8 : Int32) &&& 31)) 12))), (10, .int ((f_X2_agingBy σ2 (nI tj)))), (4, .long (sD_6 σ2)), (2, .int (y1)), (1, .ref ((ad 300))), (0, .ref (b)), (9, .int (nI tj)), (11, .int ((g_L_law_552 σ2 (nN σ2 + 1) 0 (g_L_law_457 σ2 (nN σ2 + 1) 0 0))))]) hx hb dL_law_661 hl (by decide) rfl (fun ls hl => ?_)
                              refine lv_aload_n hx hb dL_law_663 rfl (lv_at hl 5 rfl) ?_
                              refine lv_iconst (v := 1) hx hb dL_law_664 (by decide) ?_
                              refine lb_P (As := [.int 1]) (rest := []) hx hb hml hown hts hK hI hB hEH (cl_count l 1 hok) (kV_X3_count hts ml_L_8 ⟨(Nat.le_of_ble_eq_true rfl), (Nat.le_of_ble_eq_true rfl)⟩) rfl hl.1 rfl (Nat.le_of_ble_eq_true rfl) dL_law_665 (by show _ ≤ 600000; omega) (by show _ ≤ 7302250; omega) ?_
                              refine lv_istore (lv' := [(14, .int ((f_X2_numberOf σ2 1))), (13, .int ((f_X2_offerFor σ2 (nI tj) (1 + (f_L_low (y1 >>> ((8 : Int32) &&& 31)) 12)) 1))), (12, .int (1 + (f_L_low (y1 >>> ((8 : Int32) &&& 31)) 12))), (10, .int ((f_X2_agingBy σ2 (nI tj)))), (4, .long (sD_6 σ2)), (2, .int (y1)), (1, .ref ((ad 300))), (0, .ref (b)), (9, .int (nI tj)), (11, .int ((g_L_law_552 σ2 (nN σ2 + 1) 0 (g_L_law_457 σ2 (nN σ2 + 1) 0 0))))]) hx hb dL_law_668 hl (by decide) rfl (fun ls hl => ?_)
                              refine lv_aload_n hx hb dL_law_670 rfl (lv_at hl 6 rfl) ?_
                              refine lv_iload hx hb dL_law_671 (lv_at hl 8 rfl) ?_
                              refine lv_iload hx hb dL_law_673 (lv_at hl 2 rfl) ?_
                              refine lv_iconst (v := 1) hx hb dL_law_675 (by decide) ?_
                              refine lb_Q (As := [.int (nI tj), .int (1 + (f_L_low (y1 >>> ((8 : Int32) &&& 31)) 12)), .int 1]) (w := (m_X2_buyUsed σ2 (nI tj) (1 + (f_L_low (y1 >>> ((8 : Int32) &&& 31)) 12)) 1)) (rest := []) hx hb hml hown hts hK hI hB hEH hbA hS (cm_buyBack l (nI tj) (1 + (f_L_low (y1 >>> ((8 : Int32) &&& 31)) 12)) 1 hok) (kV_X3_buyBack hts ml_L_82 ⟨(Nat.le_of_ble_eq_true rfl), (Nat.le_of_ble_eq_true rfl)⟩) rfl hl.1 rfl (Nat.le_of_ble_eq_true rfl) dL_law_676 (by show _ ≤ 600000; omega) (by show _ ≤ 7302250; omega) (fun H locs hB hU hS => ?_)
                              have hok25 : okS (m_X2_buyUsed σ2 (nI tj) (1 + (f_L_low (y1 >>> ((8 : Int32) &&& 31)) 12)) 1).2 := ok_buyBack hok (nI tj) (1 + (f_L_low (y1 >>> ((8 : Int32) &&& 31)) 12)) 1
                              obtain ⟨_, _, _⟩ := okS_b hok25
                              have hEH : lE v ad s H := lE_of hE hN hbA hS
                              refine lv_istore (lv' := [(15, .int ((m_X2_buyUsed σ2 (nI tj) (1 + (f_L_low (y1 >>> ((8 : Int32) &&& 31)) 12)) 1).1)), (14, .int ((f_X2_numberOf σ2 1))), (13, .int ((f_X2_offerFor σ2 (nI tj) (1 + (f_L_low (y1 >>> ((8 : Int32) &&& 31)) 12)) 1))), (12, .int (1 + (f_L_low (y1 >>> ((8 : Int32) &&& 31)) 12))), (10, .int ((f_X2_agingBy σ2 (nI tj)))), (4, .long (sD_6 σ2)), (2, .int (y1)), (1, .ref ((ad 300))), (0, .ref (b)), (9, .int (nI tj)), (11, .int ((g_L_law_552 σ2 (nN σ2 + 1) 0 (g_L_law_457 σ2 (nN σ2 + 1) 0 0))))]) hx hb dL_law_679 hl (by decide) rfl (fun ls hl => ?_)
                              refine lv_iload hx hb dL_law_681 (lv_at hl 2 rfl) ?_
                              refine lv_if_ne (tgt := 696) hx hb dL_law_683 (by decide) (fun c_683 => ?_) (fun c_683 => ?_)
                              · refine lv_iload hx hb dL_law_696 (lv_at hl 1 rfl) ?_
                                refine lv_bipush (v := 60) hx hb dL_law_698 (by decide) ?_
                                refine lv_icmp_ne (tgt := 713) hx hb dL_law_700 (by decide) (fun c_700 => ?_) (fun c_700 => ?_)
                                · refine lv_iload hx hb dL_law_713 (lv_at hl 0 rfl) ?_
                                  refine lv_iload hx hb dL_law_715 (lv_at hl 1 rfl) ?_
                                  refine lv_icmp_ne (tgt := 758) hx hb dL_law_717 (by decide) (fun q => absurd (hF_62 y1 ti σ2 tj c_203 hw c_440 c_515 c_683 c_700) q) (fun c_717 => ?_)
                                  refine lv_aload_n hx hb dL_law_720 rfl (lv_at hl 7 rfl) ?_
                                  refine lv_iload hx hb dL_law_721 (lv_at hl 1 rfl) ?_
                                  refine lv_bipush (v := 6) hx hb dL_law_723 (by decide) ?_
                                  refine lb_P (As := [.int (f_X2_numberOf σ2 1), .int 6]) (rest := []) hx hb hml hown hts hK hI hB hEH (cl_copy l (f_X2_numberOf σ2 1) 6 hok25) (kV_X3_copy hts ml_L_14 ⟨(Nat.le_of_ble_eq_true rfl), (Nat.le_of_ble_eq_true rfl)⟩) rfl hl.1 rfl (Nat.le_of_ble_eq_true rfl) dL_law_725 (by show _ ≤ 600000; omega) (by show _ ≤ 7302250; omega) ?_
                                  refine lv_bipush (v := 40) hx hb dL_law_728 (by decide) ?_
                                  refine lv_imul hx hb dL_law_730 ?_
                                  refine lv_bipush (v := 100) hx hb dL_law_731 (by decide) ?_
                                  refine lv_idiv hx hb dL_law_733 (by decide) ?_
                                  refine lv_iload hx hb dL_law_734 (lv_at hl 2 rfl) ?_
                                  refine lv_icmp_lt (tgt := 758) hx hb dL_law_736 (by decide) (fun q => absurd q (hF_63 y1 ti σ2 tj c_203 hw c_440 c_515 c_683 c_700)) (fun c_736 => ?_)
                                  refine lv_aload_n hx hb dL_law_739 rfl (lv_at hl 7 rfl) ?_
                                  refine lv_iload hx hb dL_law_740 (lv_at hl 1 rfl) ?_
                                  refine lv_bipush (v := 9) hx hb dL_law_742 (by decide) ?_
                                  refine lb_P (As := [.int (f_X2_numberOf σ2 1), .int 9]) (rest := []) hx hb hml hown hts hK hI hB hEH (cl_copy l (f_X2_numberOf σ2 1) 9 hok25) (kV_X3_copy hts ml_L_14 ⟨(Nat.le_of_ble_eq_true rfl), (Nat.le_of_ble_eq_true rfl)⟩) rfl hl.1 rfl (Nat.le_of_ble_eq_true rfl) dL_law_744 (by show _ ≤ 600000; omega) (by show _ ≤ 7302250; omega) ?_
                                  refine lv_iconst (v := 1) hx hb dL_law_747 (by decide) ?_
                                  refine lv_icmp_ne (tgt := 758) hx hb dL_law_748 (by decide) (fun q => absurd (hF_64 y1 ti σ2 tj c_203 hw c_440 c_515 c_683 c_700) q) (fun c_748 => ?_)
                                  refine lv_aload_n hx hb dL_law_751 rfl (lv_at hl 7 rfl) ?_
                                  refine lb_U (rest := []) hx hb hml hown hts hK hI (hU (hF_65 y1 ti σ2 tj c_203 hw c_440 c_515 c_683 c_700)) hEH hbA hS (kV_X3_undo hts ml_L_55 ⟨(Nat.le_of_ble_eq_true rfl), (Nat.le_of_ble_eq_true rfl)⟩) hl.1 rfl (Nat.le_of_ble_eq_true rfl) dL_law_752 (by show _ ≤ 600000; omega) (by show _ ≤ 7302250; omega) (fun H locs r26 hr26 hB hS => ?_)
                                  have hEH : lE v ad s H := lE_of hE hN hbA hS
                                  refine lv_if_ge (tgt := 760) hx hb dL_law_755 (by decide) (fun _ => ?_) (fun q => absurd (Int32.not_lt.mp hr26) q)
                                  refine lv_aload_n hx hb dL_law_760 rfl (lv_at hl 7 rfl) ?_
                                  refine lv_iload hx hb dL_law_761 (lv_at hl 9 rfl) ?_
                                  refine lv_iload hx hb dL_law_763 (lv_at hl 3 rfl) ?_
                                  refine lv_iconst (v := 4) hx hb dL_law_765 (by decide) ?_
                                  refine lb_P (As := [.int (nI tj), .int (1 + (f_L_low (y1 >>> ((8 : Int32) &&& 31)) 12)), .int 4]) (rest := []) hx hb hml hown hts hK hI hB hEH (cl_offer l (nI tj) (1 + (f_L_low (y1 >>> ((8 : Int32) &&& 31)) 12)) 4 hok) (kV_X3_offer hts ml_L_119 ⟨(Nat.le_of_ble_eq_true rfl), (Nat.le_of_ble_eq_true rfl)⟩) rfl hl.1 rfl (Nat.le_of_ble_eq_true rfl) dL_law_766 (by show _ ≤ 600000; omega) (by show _ ≤ 7302250; omega) ?_
                                  refine lv_iload hx hb dL_law_769 (lv_at hl 2 rfl) ?_
                                  refine lv_icmp_gt (tgt := 784) hx hb dL_law_771 (by decide) (fun q => absurd q (hF_66 y1 ti σ2 tj c_203 hw c_440 c_515 c_683 c_700)) (fun c_771 => ?_)
                                  refine lv_aload_n hx hb dL_law_774 rfl (lv_at hl 7 rfl) ?_
                                  refine lb_L (As := []) (rest := []) hx hb hml hown hts hK hI hB hEH (cl_digest l hok) (kV_X3_digest hts ml_L_38 ⟨(Nat.le_of_ble_eq_true rfl), (Nat.le_of_ble_eq_true rfl)⟩) rfl hl.1 rfl (Nat.le_of_ble_eq_true rfl) dL_law_775 (by show _ ≤ 600000; omega) (by show _ ≤ 7302250; omega) ?_
                                  refine lv_lload hx hb dL_law_778 (lv_at hl 5 rfl) ?_
                                  refine W.lcmp hx hb dL_law_780 ?_
                                  refine lv_if_eq (tgt := 786) hx hb dL_law_781 (by decide) (fun _ => ?_) (fun q => absurd (lg_self _) q)
                                  refine lv_iinc (v := nI (tj + 1)) (lv' := [(9, .int (nI (tj + 1))), (15, .int ((m_X2_buyUsed σ2 (nI tj) (1 + (f_L_low (y1 >>> ((8 : Int32) &&& 31)) 12)) 1).1)), (14, .int ((f_X2_numberOf σ2 1))), (13, .int ((f_X2_offerFor σ2 (nI tj) (1 + (f_L_low (y1 >>> ((8 : Int32) &&& 31)) 12)) 1))), (12, .int (1 + (f_L_low (y1 >>> ((8 : Int32) &&& 31)) 12))), (10, .int ((f_X2_agingBy σ2 (nI tj)))), (4, .long (sD_6 σ2)), (2, .int (y1)), (1, .ref ((ad 300))), (0, .ref (b)), (11, .int ((g_L_law_552 σ2 (nN σ2 + 1) 0 (g_L_law_457 σ2 (nN σ2 + 1) 0 0))))]) hx hb dL_law_786 hl (k := 9) rfl (nI_c1 _) (by decide) rfl (fun ls hl => ?_)
                                  refine lv_goto (tgt := 433) hx hb dL_law_789 (by decide) ?_
                                  exact ih_433 (tj + 1) (by omega) (by omega) _ _ hB hS ls (lv_sub hl [6, 7, 8, 9, 0] rfl)
                                refine lv_iload hx hb dL_law_703 (lv_at hl 0 rfl) ?_
                                refine lv_bipush (v := (-5)) hx hb dL_law_705 (by decide) ?_
                                refine lv_icmp_eq (tgt := 760) hx hb dL_law_707 (by decide) (fun c_707 => ?_) (fun q => absurd (hF_67 y1 ti σ2 tj c_203 hw c_440 c_515 c_683 c_700) q)
                                have hB : lB D cI cR ad σ2 H := by rw [← (show (m_X2_buyUsed σ2 (nI tj) (1 + (f_L_low (y1 >>> ((8 : Int32) &&& 31)) 12)) 1).2 = σ2 from (hF_68 y1 ti σ2 tj c_203 hw c_440 c_515 c_683 c_700))]; exact hB
                                refine lv_aload_n hx hb dL_law_760 rfl (lv_at hl 7 rfl) ?_
                                refine lv_iload hx hb dL_law_761 (lv_at hl 9 rfl) ?_
                                refine lv_iload hx hb dL_law_763 (lv_at hl 3 rfl) ?_
                                refine lv_iconst (v := 4) hx hb dL_law_765 (by decide) ?_
                                refine lb_P (As := [.int (nI tj), .int (1 + (f_L_low (y1 >>> ((8 : Int32) &&& 31)) 12)), .int 4]) (rest := []) hx hb hml hown hts hK hI hB hEH (cl_offer l (nI tj) (1 + (f_L_low (y1 >>> ((8 : Int32) &&& 31)) 12)) 4 hok) (kV_X3_offer hts ml_L_119 ⟨(Nat.le_of_ble_eq_true rfl), (Nat.le_of_ble_eq_true rfl)⟩) rfl hl.1 rfl (Nat.le_of_ble_eq_true rfl) dL_law_766 (by show _ ≤ 600000; omega) (by show _ ≤ 7302250; omega) ?_
                                refine lv_iload hx hb dL_law_769 (lv_at hl 2 rfl) ?_
                                refine lv_icmp_gt (tgt := 784) hx hb dL_law_771 (by decide) (fun q => absurd q (hF_69 y1 ti σ2 tj c_203 hw c_440 c_515 c_683 c_700)) (fun c_771 => ?_)
                                refine lv_aload_n hx hb dL_law_774 rfl (lv_at hl 7 rfl) ?_
                                refine lb_L (As := []) (rest := []) hx hb hml hown hts hK hI hB hEH (cl_digest l hok) (kV_X3_digest hts ml_L_38 ⟨(Nat.le_of_ble_eq_true rfl), (Nat.le_of_ble_eq_true rfl)⟩) rfl hl.1 rfl (Nat.le_of_ble_eq_true rfl) dL_law_775 (by show _ ≤ 600000; omega) (by show _ ≤ 7302250; omega) ?_
                                refine lv_lload hx hb dL_law_778 (lv_at hl 5 rfl) ?_
                                refine W.lcmp hx hb dL_law_780 ?_
                                refine lv_if_eq (tgt := 786) hx hb dL_law_781 (by decide) (fun _ => ?_) (fun q => absurd (lg_self _) q)
                                refine lv_iinc (v := nI (tj + 1)) (lv' := [(9, .int (nI (tj + 1))), (15, .int ((m_X2_buyUsed σ2 (nI tj) (1 + (f_L_low (y1 >>> ((8 : Int32) &&& 31)) 12)) 1).1)), (14, .int ((f_X2_numberOf σ2 1))), (13, .int ((f_X2_offerFor σ2 (nI tj) (1 + (f_L_low (y1 >>> ((8 : Int32) &&& 31)) 12)) 1))), (12, .int (1 + (f_L_low (y1 >>> ((8 : Int32) &&& 31)) 12))), (10, .int ((f_X2_agingBy σ2 (nI tj)))), (4, .long (sD_6 σ2)), (2, .int (y1)), (1, .ref ((ad 300))), (0, .ref (b)), (11, .int ((g_L_law_552 σ2 (nN σ2 + 1) 0 (g_L_law_457 σ2 (nN σ2 + 1) 0 0))))]) hx hb dL_law_786 hl (k := 9) rfl (nI_c1 _) (by decide) rfl (fun ls hl => ?_)
                                refine lv_goto (tgt := 433) hx hb dL_law_789 (by decide) ?_
                                exact ih_433 (tj + 1) (by omega) (by omega) _ _ hB hS ls (lv_sub hl [6, 7, 8, 9, 0] rfl)
                              refine lv_iload hx hb dL_law_686 (lv_at hl 0 rfl) ?_
                              refine lv_bipush (v := (-4)) hx hb dL_law_688 (by decide) ?_
                              refine lv_icmp_eq (tgt := 760) hx hb dL_law_690 (by decide) (fun c_690 => ?_) (fun q => absurd (hF_70 y1 ti σ2 tj c_203 hw c_440 c_515 c_683) q)
                              have hB : lB D cI cR ad σ2 H := by rw [← (show (m_X2_buyUsed σ2 (nI tj) (1 + (f_L_low (y1 >>> ((8 : Int32) &&& 31)) 12)) 1).2 = σ2 from (hF_71 y1 ti σ2 tj c_203 hw c_440 c_515 c_683))]; exact hB
                              refine lv_aload_n hx hb dL_law_760 rfl (lv_at hl 7 rfl) ?_
                              refine lv_iload hx hb dL_law_761 (lv_at hl 9 rfl) ?_
                              refine lv_iload hx hb dL_law_763 (lv_at hl 3 rfl) ?_
                              refine lv_iconst (v := 4) hx hb dL_law_765 (by decide) ?_
                              refine lb_P (As := [.int (nI tj), .int (1 + (f_L_low (y1 >>> ((8 : Int32) &&& 31)) 12)), .int 4]) (rest := []) hx hb hml hown hts hK hI hB hEH (cl_offer l (nI tj) (1 + (f_L_low (y1 >>> ((8 : Int32) &&& 31)) 12)) 4 hok) (kV_X3_offer hts ml_L_119 ⟨(Nat.le_of_ble_eq_true rfl), (Nat.le_of_ble_eq_true rfl)⟩) rfl hl.1 rfl (Nat.le_of_ble_eq_true rfl) dL_law_766 (by show _ ≤ 600000; omega) (by show _ ≤ 7302250; omega) ?_
                              refine lv_iload hx hb dL_law_769 (lv_at hl 2 rfl) ?_
                              refine lv_icmp_gt (tgt := 784) hx hb dL_law_771 (by decide) (fun q => absurd q (hF_72 y1 ti σ2 tj c_203 hw c_440 c_515 c_683)) (fun c_771 => ?_)
                              refine lv_aload_n hx hb dL_law_774 rfl (lv_at hl 7 rfl) ?_
                              refine lb_L (As := []) (rest := []) hx hb hml hown hts hK hI hB hEH (cl_digest l hok) (kV_X3_digest hts ml_L_38 ⟨(Nat.le_of_ble_eq_true rfl), (Nat.le_of_ble_eq_true rfl)⟩) rfl hl.1 rfl (Nat.le_of_ble_eq_true rfl) dL_law_775 (by show _ ≤ 600000; omega) (by show _ ≤ 7302250; omega) ?_
                              refine lv_lload hx hb dL_law_778 (lv_at hl 5 rfl) ?_
                              refine W.lcmp hx hb dL_law_780 ?_
                              refine lv_if_eq (tgt := 786) hx hb dL_law_781 (by decide) (fun _ => ?_) (fun q => absurd (lg_self _) q)
                              refine lv_iinc (v := nI (tj + 1)) (lv' := [(9, .int (nI (tj + 1))), (15, .int ((m_X2_buyUsed σ2 (nI tj) (1 + (f_L_low (y1 >>> ((8 : Int32) &&& 31)) 12)) 1).1)), (14, .int ((f_X2_numberOf σ2 1))), (13, .int ((f_X2_offerFor σ2 (nI tj) (1 + (f_L_low (y1 >>> ((8 : Int32) &&& 31)) 12)) 1))), (12, .int (1 + (f_L_low (y1 >>> ((8 : Int32) &&& 31)) 12))), (10, .int ((f_X2_agingBy σ2 (nI tj)))), (4, .long (sD_6 σ2)), (2, .int (y1)), (1, .ref ((ad 300))), (0, .ref (b)), (11, .int ((g_L_law_552 σ2 (nN σ2 + 1) 0 (g_L_law_457 σ2 (nN σ2 + 1) 0 0))))]) hx hb dL_law_786 hl (k := 9) rfl (nI_c1 _) (by decide) rfl (fun ls hl => ?_)
                              refine lv_goto (tgt := 433) hx hb dL_law_789 (by decide) ?_
                              exact ih_433 (tj + 1) (by omega) (by omega) _ _ hB hS ls (lv_sub hl [6, 7, 8, 9, 0] rfl)
                            refine lv_aload_n hx hb dL_law_562 rfl (lv_at hl 3 rfl) ?_
                            refine lv_iload hx hb dL_law_563 (lv_at hl 6 rfl) ?_
                            refine lv_iconst (v := 3) hx hb dL_law_565 (by decide) ?_
                            refine lb_P (As := [.int (nI k2), .int 3]) (rest := []) hx hb hml hown hts hK hI hB hEH (cl_copy l (nI k2) 3 hok) (kV_X3_copy hts ml_L_14 ⟨(Nat.le_of_ble_eq_true rfl), (Nat.le_of_ble_eq_true rfl)⟩) rfl hl.1 rfl (Nat.le_of_ble_eq_true rfl) dL_law_566 (by show _ ≤ 600000; omega) (by show _ ≤ 7302250; omega) ?_
                            refine lv_istore (lv' := [(13, .int ((f_X2_copyProperty σ2 (nI k2) 3))), (10, .int ((f_X2_agingBy σ2 (nI tj)))), (4, .long (sD_6 σ2)), (2, .int (y1)), (1, .ref ((ad 300))), (0, .ref (b)), (9, .int (nI tj)), (12, .int (nI k2)), (11, .int (xd))]) hx hb dL_law_569 hl (by decide) rfl (fun ls hl => ?_)
                            refine lv_iload hx hb dL_law_571 (lv_at hl 8 rfl) ?_
                            refine lv_iload hx hb dL_law_573 (lv_at hl 0 rfl) ?_
                            refine lv_iconst (v := 2) hx hb dL_law_575 (by decide) ?_
                            refine bj 597 (rest := [.int (xd)]) (v := (if (f_X2_copyProperty σ2 (nI k2) 3) = 2 then 0 else (if (f_X2_copyProperty σ2 (nI k2) 3) = 3 then 0 else (f_X2_copyProperty σ2 (nI k2) 6)))) (fun x27 hx27 => ?_) (fun J27 => ?_)
                            · subst hx27
                              refine lv_isub hx hb dL_law_597 ?_
                              refine lv_istore (lv' := [(11, .int (xd - (if (f_X2_copyProperty σ2 (nI k2) 3) = 2 then 0 else (if (f_X2_copyProperty σ2 (nI k2) 3) = 3 then 0 else (f_X2_copyProperty σ2 (nI k2) 6))))), (13, .int ((f_X2_copyProperty σ2 (nI k2) 3))), (10, .int ((f_X2_agingBy σ2 (nI tj)))), (4, .long (sD_6 σ2)), (2, .int (y1)), (1, .ref ((ad 300))), (0, .ref (b)), (9, .int (nI tj)), (12, .int (nI k2))]) hx hb dL_law_598 hl (by decide) rfl (fun ls hl => ?_)
                              refine lv_iinc (v := nI (k2 + 1)) (lv' := [(12, .int (nI (k2 + 1))), (11, .int (xd - (if (f_X2_copyProperty σ2 (nI k2) 3) = 2 then 0 else (if (f_X2_copyProperty σ2 (nI k2) 3) = 3 then 0 else (f_X2_copyProperty σ2 (nI k2) 6))))), (13, .int ((f_X2_copyProperty σ2 (nI k2) 3))), (10, .int ((f_X2_agingBy σ2 (nI tj)))), (4, .long (sD_6 σ2)), (2, .int (y1)), (1, .ref ((ad 300))), (0, .ref (b)), (9, .int (nI tj))]) hx hb dL_law_600 hl (k := 8) rfl (nI_c1 _) (by decide) rfl (fun ls hl => ?_)
                              refine lv_goto (tgt := 552) hx hb dL_law_603 (by decide) ?_
                              exact ih_552 (k2 + 1) (xd - (if (f_X2_copyProperty σ2 (nI k2) 3) = 2 then 0 else (if (f_X2_copyProperty σ2 (nI k2) 3) = 3 then 0 else (f_X2_copyProperty σ2 (nI k2) 6)))) (by omega) (by omega) (((br_n c_559 rfl) : g_L_law_552 σ2 fu_552 (k2 + 1) (xd - (if (f_X2_copyProperty σ2 (nI k2) 3) = 2 then 0 else (if (f_X2_copyProperty σ2 (nI k2) 3) = 3 then 0 else (f_X2_copyProperty σ2 (nI k2) 6)))) = g_L_law_552 σ2 (fu_552 + 1) k2 xd).trans hg_552) ls (lv_sub hl [3, 4, 5, 6, 7, 8, 0, 1] rfl)
                            refine lv_icmp_eq (tgt := 596) hx hb dL_law_576 (by decide) (fun c_576 => ?_) (fun c_576 => ?_)
                            · refine lv_iconst (v := 0) hx hb dL_law_596 (by decide) ?_
                              exact J27 _ (br_p c_576 rfl)
                            refine lv_iload hx hb dL_law_579 (lv_at hl 0 rfl) ?_
                            refine lv_iconst (v := 3) hx hb dL_law_581 (by decide) ?_
                            refine lv_icmp_eq (tgt := 596) hx hb dL_law_582 (by decide) (fun c_582 => ?_) (fun c_582 => ?_)
                            · refine lv_iconst (v := 0) hx hb dL_law_596 (by decide) ?_
                              exact J27 _ (br_n c_576 (br_p c_582 rfl))
                            refine lv_aload_n hx hb dL_law_585 rfl (lv_at hl 4 rfl) ?_
                            refine lv_iload hx hb dL_law_586 (lv_at hl 7 rfl) ?_
                            refine lv_bipush (v := 6) hx hb dL_law_588 (by decide) ?_
                            refine lb_P (As := [.int (nI k2), .int 6]) (rest := [.int (xd)]) hx hb hml hown hts hK hI hB hEH (cl_copy l (nI k2) 6 hok) (kV_X3_copy hts ml_L_14 ⟨(Nat.le_of_ble_eq_true rfl), (Nat.le_of_ble_eq_true rfl)⟩) rfl hl.1 rfl (Nat.le_of_ble_eq_true rfl) dL_law_590 (by show _ ≤ 600000; omega) (by show _ ≤ 7302250; omega) ?_
                            refine lv_goto (tgt := 597) hx hb dL_law_593 (by decide) ?_
                            exact J27 _ (br_n c_576 (br_n c_582 rfl))
                        exact L_552 (nN σ2 + 1) 0 (g_L_law_457 σ2 (nN σ2 + 1) 0 0) (by omega) (by omega) rfl ls (lv_sub hl [1, 2, 3, 4, 5, 6, 0, 7] rfl)
                      refine lv_aload_n hx hb dL_law_467 rfl (lv_at hl 3 rfl) ?_
                      refine lv_iload hx hb dL_law_468 (lv_at hl 6 rfl) ?_
                      refine lv_iconst (v := 3) hx hb dL_law_470 (by decide) ?_
                      refine lb_P (As := [.int (nI k1), .int 3]) (rest := []) hx hb hml hown hts hK hI hB hEH (cl_copy l (nI k1) 3 hok) (kV_X3_copy hts ml_L_14 ⟨(Nat.le_of_ble_eq_true rfl), (Nat.le_of_ble_eq_true rfl)⟩) rfl hl.1 rfl (Nat.le_of_ble_eq_true rfl) dL_law_471 (by show _ ≤ 600000; omega) (by show _ ≤ 7302250; omega) ?_
                      refine lv_istore (lv' := [(13, .int ((f_X2_copyProperty σ2 (nI k1) 3))), (10, .int ((f_X2_agingBy σ2 (nI tj)))), (4, .long (sD_6 σ2)), (2, .int (y1)), (1, .ref ((ad 300))), (0, .ref (b)), (9, .int (nI tj)), (12, .int (nI k1)), (11, .int (xw))]) hx hb dL_law_474 hl (by decide) rfl (fun ls hl => ?_)
                      refine lv_iload hx hb dL_law_476 (lv_at hl 8 rfl) ?_
                      refine lv_iload hx hb dL_law_478 (lv_at hl 0 rfl) ?_
                      refine lv_iconst (v := 2) hx hb dL_law_480 (by decide) ?_
                      refine bj 502 (rest := [.int (xw)]) (v := (if (f_X2_copyProperty σ2 (nI k1) 3) = 2 then 0 else (if (f_X2_copyProperty σ2 (nI k1) 3) = 3 then 0 else (f_X2_copyProperty σ2 (nI k1) 6)))) (fun x28 hx28 => ?_) (fun J28 => ?_)
                      · subst hx28
                        refine lv_iadd hx hb dL_law_502 ?_
                        refine lv_istore (lv' := [(11, .int (xw + (if (f_X2_copyProperty σ2 (nI k1) 3) = 2 then 0 else (if (f_X2_copyProperty σ2 (nI k1) 3) = 3 then 0 else (f_X2_copyProperty σ2 (nI k1) 6))))), (13, .int ((f_X2_copyProperty σ2 (nI k1) 3))), (10, .int ((f_X2_agingBy σ2 (nI tj)))), (4, .long (sD_6 σ2)), (2, .int (y1)), (1, .ref ((ad 300))), (0, .ref (b)), (9, .int (nI tj)), (12, .int (nI k1))]) hx hb dL_law_503 hl (by decide) rfl (fun ls hl => ?_)
                        refine lv_iinc (v := nI (k1 + 1)) (lv' := [(12, .int (nI (k1 + 1))), (11, .int (xw + (if (f_X2_copyProperty σ2 (nI k1) 3) = 2 then 0 else (if (f_X2_copyProperty σ2 (nI k1) 3) = 3 then 0 else (f_X2_copyProperty σ2 (nI k1) 6))))), (13, .int ((f_X2_copyProperty σ2 (nI k1) 3))), (10, .int ((f_X2_agingBy σ2 (nI tj)))), (4, .long (sD_6 σ2)), (2, .int (y1)), (1, .ref ((ad 300))), (0, .ref (b)), (9, .int (nI tj))]) hx hb dL_law_505 hl (k := 8) rfl (nI_c1 _) (by decide) rfl (fun ls hl => ?_)
                        refine lv_goto (tgt := 457) hx hb dL_law_508 (by decide) ?_
                        exact ih_457 (k1 + 1) (xw + (if (f_X2_copyProperty σ2 (nI k1) 3) = 2 then 0 else (if (f_X2_copyProperty σ2 (nI k1) 3) = 3 then 0 else (f_X2_copyProperty σ2 (nI k1) 6)))) (by omega) (by omega) (((br_n c_464 rfl) : g_L_law_457 σ2 fu_457 (k1 + 1) (xw + (if (f_X2_copyProperty σ2 (nI k1) 3) = 2 then 0 else (if (f_X2_copyProperty σ2 (nI k1) 3) = 3 then 0 else (f_X2_copyProperty σ2 (nI k1) 6)))) = g_L_law_457 σ2 (fu_457 + 1) k1 xw).trans hg_457) ls (lv_sub hl [3, 4, 5, 6, 7, 8, 0, 1] rfl)
                      refine lv_icmp_eq (tgt := 501) hx hb dL_law_481 (by decide) (fun c_481 => ?_) (fun c_481 => ?_)
                      · refine lv_iconst (v := 0) hx hb dL_law_501 (by decide) ?_
                        exact J28 _ (br_p c_481 rfl)
                      refine lv_iload hx hb dL_law_484 (lv_at hl 0 rfl) ?_
                      refine lv_iconst (v := 3) hx hb dL_law_486 (by decide) ?_
                      refine lv_icmp_eq (tgt := 501) hx hb dL_law_487 (by decide) (fun c_487 => ?_) (fun c_487 => ?_)
                      · refine lv_iconst (v := 0) hx hb dL_law_501 (by decide) ?_
                        exact J28 _ (br_n c_481 (br_p c_487 rfl))
                      refine lv_aload_n hx hb dL_law_490 rfl (lv_at hl 4 rfl) ?_
                      refine lv_iload hx hb dL_law_491 (lv_at hl 7 rfl) ?_
                      refine lv_bipush (v := 6) hx hb dL_law_493 (by decide) ?_
                      refine lb_P (As := [.int (nI k1), .int 6]) (rest := [.int (xw)]) hx hb hml hown hts hK hI hB hEH (cl_copy l (nI k1) 6 hok) (kV_X3_copy hts ml_L_14 ⟨(Nat.le_of_ble_eq_true rfl), (Nat.le_of_ble_eq_true rfl)⟩) rfl hl.1 rfl (Nat.le_of_ble_eq_true rfl) dL_law_495 (by show _ ≤ 600000; omega) (by show _ ≤ 7302250; omega) ?_
                      refine lv_goto (tgt := 502) hx hb dL_law_498 (by decide) ?_
                      exact J28 _ (br_n c_481 (br_n c_487 rfl))
                  exact L_457 (nN σ2 + 1) 0 0 (by omega) (by omega) rfl ls (lv_sub hl [2, 3, 4, 5, 6, 7, 0, 1] rfl)
              exact L_433 (nT σ2 + 1) 0 (by omega) (by omega) _ _ hB hS ls (lv_sub hl [4, 5, 6, 7, 0] rfl)
            refine lv_aload_n hx hb dL_law_206 rfl (lv_at hl 2 rfl) ?_
            refine lv_iconst (v := 4) hx hb dL_law_207 (by decide) ?_
            refine lv_iload hx hb dL_law_208 (lv_at hl 3 rfl) ?_
            refine lv_iaddN (x := 4) (y := ti) hx hb rfl rfl dL_law_210 ?_
            refine lz_cell (n := (4 + ti)) (rest := []) hx hb hml hown hts hX hbl hbX hS hL (by omega) ml_L_98 ⟨(Nat.le_of_ble_eq_true rfl), (Nat.le_of_ble_eq_true rfl)⟩ hl.1 rfl (Nat.le_of_ble_eq_true rfl) dL_law_211 (by show _ ≤ 600000; omega) (by show _ ≤ 7302250; omega) (fun y29 => ?_)
            refine lv_istore (lv' := [(5, .int (y29)), (2, .int (y1)), (1, .ref ((ad 300))), (0, .ref (b)), (4, .int (nI ti))]) hx hb dL_law_214 hl (by decide) rfl (fun ls hl => ?_)
            refine lv_aload_n hx hb dL_law_216 rfl (lv_at hl 2 rfl) ?_
            refine lb_L (As := []) (rest := []) hx hb hml hown hts hK hI hB hEH (cl_digest l hok) (kV_X3_digest hts ml_L_38 ⟨(Nat.le_of_ble_eq_true rfl), (Nat.le_of_ble_eq_true rfl)⟩) rfl hl.1 rfl (Nat.le_of_ble_eq_true rfl) dL_law_217 (by show _ ≤ 600000; omega) (by show _ ≤ 7302250; omega) ?_
            refine lv_lstore (lv' := [(6, .long (sD_6 σ2)), (5, .int (y29)), (2, .int (y1)), (1, .ref ((ad 300))), (0, .ref (b)), (4, .int (nI ti))]) hx hb dL_law_220 hl (by decide) rfl (fun ls hl => ?_)
            refine lv_aload_n hx hb dL_law_222 rfl (lv_at hl 3 rfl) ?_
            refine lv_iload hx hb dL_law_223 (lv_at hl 1 rfl) ?_
            refine lz_C (w := (m_L_changes σ2 y29)) (rest := []) hx hb hml hown hts hK hI hB hEH hbA hS (c_L_changes l D cI cR ad v _ y29 hok) (kS_L_changes hts ml_L_105 ⟨(Nat.le_of_ble_eq_true rfl), (Nat.le_of_ble_eq_true rfl)⟩) hl.1 rfl (Nat.le_of_ble_eq_true rfl) dL_law_225 (by show _ ≤ 600000; omega) (by show _ ≤ 7302250; omega) (fun H locs hB hU hS => ?_)
            have hok30 : okS (m_L_changes σ2 y29).2 := ok_changes hok y29
            obtain ⟨_, _, _⟩ := okS_b hok30
            have hEH : lE v ad s H := lE_of hE hN hbA hS
            refine lv_istore (lv' := [(8, .int ((m_L_changes σ2 y29).1)), (6, .long (sD_6 σ2)), (5, .int (y29)), (2, .int (y1)), (1, .ref ((ad 300))), (0, .ref (b)), (4, .int (nI ti))]) hx hb dL_law_228 hl (by decide) rfl (fun ls hl => ?_)
            refine lv_iload hx hb dL_law_230 (lv_at hl 0 rfl) ?_
            refine bj0 245 (rest := []) ?_ (fun J31 => ?_)
            · refine lv_aload_n hx hb dL_law_245 rfl (lv_at hl 4 rfl) ?_
              refine lz_S (rest := []) hx hb hml hown hts hK hI hB hEH hS (c_L_isSound l D cI cR ad v _ hok30 (hF_74 ti σ2 y29 hw c_203)) (kS_L_isSound hts ml_L_49 ⟨(Nat.le_of_ble_eq_true rfl), (Nat.le_of_ble_eq_true rfl)⟩) hl.1 rfl (Nat.le_of_ble_eq_true rfl) dL_law_246 (by show _ ≤ 600000; omega) (by show _ ≤ 7302250; omega) (fun H locs hsz hsm hS => ?_)
              have hB := hB.keep hI hsm
              have hU := fun h => (hU h).keep hI hsm
              have hEH : lE v ad s H := lE_of hE hN hbA hS
              refine lv_if_ne (tgt := 254) hx hb dL_law_249 (by decide) (fun _ => ?_) (fun q => absurd q (by decide))
              refine lv_iload hx hb dL_law_254 (lv_at hl 0 rfl) ?_
              refine lv_if_lt (tgt := 288) hx hb dL_law_256 (by decide) (fun c_256 => ?_) (fun c_256 => ?_)
              · refine lv_iload hx hb dL_law_288 (lv_at hl 6 rfl) ?_
                refine lv_iconst (v := 3) hx hb dL_law_290 (by decide) ?_
                refine lv_irem hx hb dL_law_291 (by decide) ?_
                refine lv_iconst (v := 2) hx hb dL_law_292 (by decide) ?_
                refine lv_icmp_ne (tgt := 328) hx hb dL_law_293 (by decide) (fun c_293 => ?_) (fun c_293 => ?_)
                · refine lv_iinc (v := nI (ti + 1)) (lv' := [(4, .int (nI (ti + 1))), (8, .int ((m_L_changes σ2 y29).1)), (6, .long (sD_6 σ2)), (5, .int (y29)), (2, .int (y1)), (1, .ref ((ad 300))), (0, .ref (b))]) hx hb dL_law_328 hl (k := 6) rfl (nI_c1 _) (by decide) rfl (fun ls hl => ?_)
                  refine lv_goto (tgt := 199) hx hb dL_law_331 (by decide) ?_
                  refine W.widen (k := 110 + 2 * (ti + 1)) (n := 3108 + 26 * (ti + 1)) (by omega) (by omega) ?_
                  exact ih_199 (ti + 1) ((m_L_changes σ2 y29).2) (by omega) (hF_75 ti σ2 y29 hw c_203 c_256 c_293) (by omega) _ _ hB hS ls (lv_sub hl [4, 5, 6, 0] rfl)
                refine lv_aload_n hx hb dL_law_296 rfl (lv_at hl 4 rfl) ?_
                refine lv_iload hx hb dL_law_297 (lv_at hl 2 rfl) ?_
                refine lv_iconst (v := 5) hx hb dL_law_299 (by decide) ?_
                refine lv_ishr hx hb dL_law_300 ?_
                refine lv_aload_n hx hb dL_law_301 rfl (lv_at hl 4 rfl) ?_
                refine lv_iconst (v := 1) hx hb dL_law_302 (by decide) ?_
                refine lb_P (As := [.int 1]) (rest := [.int (y29 >>> ((5 : Int32) &&& 31)), .ref ((ad 300))]) hx hb hml hown hts hK hI hB hEH (cl_count l 1 hok30) (kV_X3_count hts ml_L_8 ⟨(Nat.le_of_ble_eq_true rfl), (Nat.le_of_ble_eq_true rfl)⟩) rfl hl.1 rfl (Nat.le_of_ble_eq_true rfl) dL_law_303 (by show _ ≤ 600000; omega) (by show _ ≤ 7302250; omega) ?_
                refine lv_iconst (v := 1) hx hb dL_law_306 (by decide) ?_
                refine lv_iadd hx hb dL_law_307 ?_
                refine cl_S (As := [.int (y29 >>> ((5 : Int32) &&& 31)), .int ((f_X2_numberOf ((m_L_changes σ2 y29).2) 1) + 1)]) (rest := [.ref ((ad 300))]) hx hb hml hown hts (c_L_low l (y29 >>> ((5 : Int32) &&& 31)) ((f_X2_numberOf ((m_L_changes σ2 y29).2) 1) + 1) (cnt1_ne hok30 (by decide))) (kS_L_low hts ml_L_58 ⟨(Nat.le_of_ble_eq_true rfl), (Nat.le_of_ble_eq_true rfl)⟩) rfl hl.1 rfl (Nat.le_of_ble_eq_true rfl) dL_law_308 (by show _ ≤ 600000; omega) (by show _ ≤ 7302250; omega) ?_
                refine lv_iload hx hb dL_law_311 (lv_at hl 2 rfl) ?_
                refine lv_bipush (v := 11) hx hb dL_law_313 (by decide) ?_
                refine lv_ishr hx hb dL_law_315 ?_
                refine lv_iconst (v := 5) hx hb dL_law_316 (by decide) ?_
                refine cl_S (As := [.int (y29 >>> ((11 : Int32) &&& 31)), .int 5]) (rest := [.int ((f_L_low (y29 >>> ((5 : Int32) &&& 31)) ((f_X2_numberOf ((m_L_changes σ2 y29).2) 1) + 1))), .ref ((ad 300))]) hx hb hml hown hts (c_L_low l (y29 >>> ((11 : Int32) &&& 31)) 5 (by decide)) (kS_L_low hts ml_L_58 ⟨(Nat.le_of_ble_eq_true rfl), (Nat.le_of_ble_eq_true rfl)⟩) rfl hl.1 rfl (Nat.le_of_ble_eq_true rfl) dL_law_317 (by show _ ≤ 600000; omega) (by show _ ≤ 7302250; omega) ?_
                refine lz_G (rest := []) hx hb hml hown hts hK hI hB hEH hbA hS (c_L_isGivingTold l D cI cR ad v _ (f_L_low (y29 >>> ((5 : Int32) &&& 31)) ((f_X2_numberOf ((m_L_changes σ2 y29).2) 1) + 1)) (f_L_low (y29 >>> ((11 : Int32) &&& 31)) 5) hok30 (hF_76 ti σ2 y29 hw c_203 c_256 c_293)) (kS_L_isGivingTold hts ml_L_109 ⟨(Nat.le_of_ble_eq_true rfl), (Nat.le_of_ble_eq_true rfl)⟩) hl.1 rfl (Nat.le_of_ble_eq_true rfl) dL_law_320 (by show _ ≤ 600000; omega) (by show _ ≤ 7302250; omega) (fun H locs hB hS => ?_)
                have hEH : lE v ad s H := lE_of hE hN hbA hS
                refine lv_if_ne (tgt := 328) hx hb dL_law_323 (by decide) (fun _ => ?_) (fun q => absurd q (by decide))
                refine lv_iinc (v := nI (ti + 1)) (lv' := [(4, .int (nI (ti + 1))), (8, .int ((m_L_changes σ2 y29).1)), (6, .long (sD_6 σ2)), (5, .int (y29)), (2, .int (y1)), (1, .ref ((ad 300))), (0, .ref (b))]) hx hb dL_law_328 hl (k := 6) rfl (nI_c1 _) (by decide) rfl (fun ls hl => ?_)
                refine lv_goto (tgt := 199) hx hb dL_law_331 (by decide) ?_
                refine W.widen (k := 110 + 2 * (ti + 1)) (n := 3108 + 26 * (ti + 1)) (by omega) (by omega) ?_
                exact ih_199 (ti + 1) ((m_L_changes σ2 y29).2) (by omega) (hF_77 ti σ2 y29 hw c_203 c_256 c_293) (by omega) _ _ hB hS ls (lv_sub hl [4, 5, 6, 0] rfl)
              refine lv_iload hx hb dL_law_259 (lv_at hl 2 rfl) ?_
              refine lv_bipush (v := 27) hx hb dL_law_261 (by decide) ?_
              refine lv_ishr hx hb dL_law_263 ?_
              refine lv_iconst (v := 3) hx hb dL_law_264 (by decide) ?_
              refine lv_iand hx hb dL_law_265 ?_
              refine lv_if_ne (tgt := 288) hx hb dL_law_266 (by decide) (fun c_266 => ?_) (fun c_266 => ?_)
              · refine lv_iload hx hb dL_law_288 (lv_at hl 6 rfl) ?_
                refine lv_iconst (v := 3) hx hb dL_law_290 (by decide) ?_
                refine lv_irem hx hb dL_law_291 (by decide) ?_
                refine lv_iconst (v := 2) hx hb dL_law_292 (by decide) ?_
                refine lv_icmp_ne (tgt := 328) hx hb dL_law_293 (by decide) (fun c_293 => ?_) (fun c_293 => ?_)
                · refine lv_iinc (v := nI (ti + 1)) (lv' := [(4, .int (nI (ti + 1))), (8, .int ((m_L_changes σ2 y29).1)), (6, .long (sD_6 σ2)), (5, .int (y29)), (2, .int (y1)), (1, .ref ((ad 300))), (0, .ref (b))]) hx hb dL_law_328 hl (k := 6) rfl (nI_c1 _) (by decide) rfl (fun ls hl => ?_)
                  refine lv_goto (tgt := 199) hx hb dL_law_331 (by decide) ?_
                  refine W.widen (k := 110 + 2 * (ti + 1)) (n := 3108 + 26 * (ti + 1)) (by omega) (by omega) ?_
                  exact ih_199 (ti + 1) ((m_L_changes σ2 y29).2) (by omega) (hF_78 ti σ2 y29 hw c_203 c_256 c_266 c_293) (by omega) _ _ hB hS ls (lv_sub hl [4, 5, 6, 0] rfl)
                refine lv_aload_n hx hb dL_law_296 rfl (lv_at hl 4 rfl) ?_
                refine lv_iload hx hb dL_law_297 (lv_at hl 2 rfl) ?_
                refine lv_iconst (v := 5) hx hb dL_law_299 (by decide) ?_
                refine lv_ishr hx hb dL_law_300 ?_
                refine lv_aload_n hx hb dL_law_301 rfl (lv_at hl 4 rfl) ?_
                refine lv_iconst (v := 1) hx hb dL_law_302 (by decide) ?_
                refine lb_P (As := [.int 1]) (rest := [.int (y29 >>> ((5 : Int32) &&& 31)), .ref ((ad 300))]) hx hb hml hown hts hK hI hB hEH (cl_count l 1 hok30) (kV_X3_count hts ml_L_8 ⟨(Nat.le_of_ble_eq_true rfl), (Nat.le_of_ble_eq_true rfl)⟩) rfl hl.1 rfl (Nat.le_of_ble_eq_true rfl) dL_law_303 (by show _ ≤ 600000; omega) (by show _ ≤ 7302250; omega) ?_
                refine lv_iconst (v := 1) hx hb dL_law_306 (by decide) ?_
                refine lv_iadd hx hb dL_law_307 ?_
                refine cl_S (As := [.int (y29 >>> ((5 : Int32) &&& 31)), .int ((f_X2_numberOf ((m_L_changes σ2 y29).2) 1) + 1)]) (rest := [.ref ((ad 300))]) hx hb hml hown hts (c_L_low l (y29 >>> ((5 : Int32) &&& 31)) ((f_X2_numberOf ((m_L_changes σ2 y29).2) 1) + 1) (cnt1_ne hok30 (by decide))) (kS_L_low hts ml_L_58 ⟨(Nat.le_of_ble_eq_true rfl), (Nat.le_of_ble_eq_true rfl)⟩) rfl hl.1 rfl (Nat.le_of_ble_eq_true rfl) dL_law_308 (by show _ ≤ 600000; omega) (by show _ ≤ 7302250; omega) ?_
                refine lv_iload hx hb dL_law_311 (lv_at hl 2 rfl) ?_
                refine lv_bipush (v := 11) hx hb dL_law_313 (by decide) ?_
                refine lv_ishr hx hb dL_law_315 ?_
                refine lv_iconst (v := 5) hx hb dL_law_316 (by decide) ?_
                refine cl_S (As := [.int (y29 >>> ((11 : Int32) &&& 31)), .int 5]) (rest := [.int ((f_L_low (y29 >>> ((5 : Int32) &&& 31)) ((f_X2_numberOf ((m_L_changes σ2 y29).2) 1) + 1))), .ref ((ad 300))]) hx hb hml hown hts (c_L_low l (y29 >>> ((11 : Int32) &&& 31)) 5 (by decide)) (kS_L_low hts ml_L_58 ⟨(Nat.le_of_ble_eq_true rfl), (Nat.le_of_ble_eq_true rfl)⟩) rfl hl.1 rfl (Nat.le_of_ble_eq_true rfl) dL_law_317 (by show _ ≤ 600000; omega) (by show _ ≤ 7302250; omega) ?_
                refine lz_G (rest := []) hx hb hml hown hts hK hI hB hEH hbA hS (c_L_isGivingTold l D cI cR ad v _ (f_L_low (y29 >>> ((5 : Int32) &&& 31)) ((f_X2_numberOf ((m_L_changes σ2 y29).2) 1) + 1)) (f_L_low (y29 >>> ((11 : Int32) &&& 31)) 5) hok30 (hF_79 ti σ2 y29 hw c_203 c_256 c_266 c_293)) (kS_L_isGivingTold hts ml_L_109 ⟨(Nat.le_of_ble_eq_true rfl), (Nat.le_of_ble_eq_true rfl)⟩) hl.1 rfl (Nat.le_of_ble_eq_true rfl) dL_law_320 (by show _ ≤ 600000; omega) (by show _ ≤ 7302250; omega) (fun H locs hB hS => ?_)
                have hEH : lE v ad s H := lE_of hE hN hbA hS
                refine lv_if_ne (tgt := 328) hx hb dL_law_323 (by decide) (fun _ => ?_) (fun q => absurd q (by decide))
                refine lv_iinc (v := nI (ti + 1)) (lv' := [(4, .int (nI (ti + 1))), (8, .int ((m_L_changes σ2 y29).1)), (6, .long (sD_6 σ2)), (5, .int (y29)), (2, .int (y1)), (1, .ref ((ad 300))), (0, .ref (b))]) hx hb dL_law_328 hl (k := 6) rfl (nI_c1 _) (by decide) rfl (fun ls hl => ?_)
                refine lv_goto (tgt := 199) hx hb dL_law_331 (by decide) ?_
                refine W.widen (k := 110 + 2 * (ti + 1)) (n := 3108 + 26 * (ti + 1)) (by omega) (by omega) ?_
                exact ih_199 (ti + 1) ((m_L_changes σ2 y29).2) (by omega) (hF_80 ti σ2 y29 hw c_203 c_256 c_266 c_293) (by omega) _ _ hB hS ls (lv_sub hl [4, 5, 6, 0] rfl)
              refine lv_aload_n hx hb dL_law_269 rfl (lv_at hl 4 rfl) ?_
              refine lb_U (rest := []) hx hb hml hown hts hK hI (hU c_256) hEH hbA hS (kV_X3_undo hts ml_L_55 ⟨(Nat.le_of_ble_eq_true rfl), (Nat.le_of_ble_eq_true rfl)⟩) hl.1 rfl (Nat.le_of_ble_eq_true rfl) dL_law_270 (by show _ ≤ 600000; omega) (by show _ ≤ 7302250; omega) (fun H locs r32 hr32 hB hS => ?_)
              have hEH : lE v ad s H := lE_of hE hN hbA hS
              refine lv_if_lt (tgt := 286) hx hb dL_law_273 (by decide) (fun q => absurd q hr32) (fun _ => ?_)
              refine lv_aload_n hx hb dL_law_276 rfl (lv_at hl 4 rfl) ?_
              refine lb_L (As := []) (rest := []) hx hb hml hown hts hK hI hB hEH (cl_digest l hok) (kV_X3_digest hts ml_L_38 ⟨(Nat.le_of_ble_eq_true rfl), (Nat.le_of_ble_eq_true rfl)⟩) rfl hl.1 rfl (Nat.le_of_ble_eq_true rfl) dL_law_277 (by show _ ≤ 600000; omega) (by show _ ≤ 7302250; omega) ?_
              refine lv_lload hx hb dL_law_280 (lv_at hl 1 rfl) ?_
              refine W.lcmp hx hb dL_law_282 ?_
              refine lv_if_eq (tgt := 288) hx hb dL_law_283 (by decide) (fun _ => ?_) (fun q => absurd (lg_self _) q)
              refine lv_iload hx hb dL_law_288 (lv_at hl 6 rfl) ?_
              refine lv_iconst (v := 3) hx hb dL_law_290 (by decide) ?_
              refine lv_irem hx hb dL_law_291 (by decide) ?_
              refine lv_iconst (v := 2) hx hb dL_law_292 (by decide) ?_
              refine lv_icmp_ne (tgt := 328) hx hb dL_law_293 (by decide) (fun c_293 => ?_) (fun c_293 => ?_)
              · refine lv_iinc (v := nI (ti + 1)) (lv' := [(4, .int (nI (ti + 1))), (8, .int ((m_L_changes σ2 y29).1)), (6, .long (sD_6 σ2)), (5, .int (y29)), (2, .int (y1)), (1, .ref ((ad 300))), (0, .ref (b))]) hx hb dL_law_328 hl (k := 6) rfl (nI_c1 _) (by decide) rfl (fun ls hl => ?_)
                refine lv_goto (tgt := 199) hx hb dL_law_331 (by decide) ?_
                refine W.widen (k := 110 + 2 * (ti + 1)) (n := 3108 + 26 * (ti + 1)) (by omega) (by omega) ?_
                exact ih_199 (ti + 1) σ2 (by omega) (hF_81 ti σ2 y29 hw c_203 c_256 c_266 c_293) (by omega) _ _ hB hS ls (lv_sub hl [4, 5, 6, 0] rfl)
              refine lv_aload_n hx hb dL_law_296 rfl (lv_at hl 4 rfl) ?_
              refine lv_iload hx hb dL_law_297 (lv_at hl 2 rfl) ?_
              refine lv_iconst (v := 5) hx hb dL_law_299 (by decide) ?_
              refine lv_ishr hx hb dL_law_300 ?_
              refine lv_aload_n hx hb dL_law_301 rfl (lv_at hl 4 rfl) ?_
              refine lv_iconst (v := 1) hx hb dL_law_302 (by decide) ?_
              refine lb_P (As := [.int 1]) (rest := [.int (y29 >>> ((5 : Int32) &&& 31)), .ref ((ad 300))]) hx hb hml hown hts hK hI hB hEH (cl_count l 1 hok) (kV_X3_count hts ml_L_8 ⟨(Nat.le_of_ble_eq_true rfl), (Nat.le_of_ble_eq_true rfl)⟩) rfl hl.1 rfl (Nat.le_of_ble_eq_true rfl) dL_law_303 (by show _ ≤ 600000; omega) (by show _ ≤ 7302250; omega) ?_
              refine lv_iconst (v := 1) hx hb dL_law_306 (by decide) ?_
              refine lv_iadd hx hb dL_law_307 ?_
              refine cl_S (As := [.int (y29 >>> ((5 : Int32) &&& 31)), .int ((f_X2_numberOf σ2 1) + 1)]) (rest := [.ref ((ad 300))]) hx hb hml hown hts (c_L_low l (y29 >>> ((5 : Int32) &&& 31)) ((f_X2_numberOf σ2 1) + 1) (cnt1_ne hok (by decide))) (kS_L_low hts ml_L_58 ⟨(Nat.le_of_ble_eq_true rfl), (Nat.le_of_ble_eq_true rfl)⟩) rfl hl.1 rfl (Nat.le_of_ble_eq_true rfl) dL_law_308 (by show _ ≤ 600000; omega) (by show _ ≤ 7302250; omega) ?_
              refine lv_iload hx hb dL_law_311 (lv_at hl 2 rfl) ?_
              refine lv_bipush (v := 11) hx hb dL_law_313 (by decide) ?_
              refine lv_ishr hx hb dL_law_315 ?_
              refine lv_iconst (v := 5) hx hb dL_law_316 (by decide) ?_
              refine cl_S (As := [.int (y29 >>> ((11 : Int32) &&& 31)), .int 5]) (rest := [.int ((f_L_low (y29 >>> ((5 : Int32) &&& 31)) ((f_X2_numberOf σ2 1) + 1))), .ref ((ad 300))]) hx hb hml hown hts (c_L_low l (y29 >>> ((11 : Int32) &&& 31)) 5 (by decide)) (kS_L_low hts ml_L_58 ⟨(Nat.le_of_ble_eq_true rfl), (Nat.le_of_ble_eq_true rfl)⟩) rfl hl.1 rfl (Nat.le_of_ble_eq_true rfl) dL_law_317 (by show _ ≤ 600000; omega) (by show _ ≤ 7302250; omega) ?_
              refine lz_G (rest := []) hx hb hml hown hts hK hI hB hEH hbA hS (c_L_isGivingTold l D cI cR ad v _ (f_L_low (y29 >>> ((5 : Int32) &&& 31)) ((f_X2_numberOf σ2 1) + 1)) (f_L_low (y29 >>> ((11 : Int32) &&& 31)) 5) hok (hF_82 ti σ2 y29 hw c_203 c_256 c_266 c_293)) (kS_L_isGivingTold hts ml_L_109 ⟨(Nat.le_of_ble_eq_true rfl), (Nat.le_of_ble_eq_true rfl)⟩) hl.1 rfl (Nat.le_of_ble_eq_true rfl) dL_law_320 (by show _ ≤ 600000; omega) (by show _ ≤ 7302250; omega) (fun H locs hB hS => ?_)
              have hEH : lE v ad s H := lE_of hE hN hbA hS
              refine lv_if_ne (tgt := 328) hx hb dL_law_323 (by decide) (fun _ => ?_) (fun q => absurd q (by decide))
              refine lv_iinc (v := nI (ti + 1)) (lv' := [(4, .int (nI (ti + 1))), (8, .int ((m_L_changes σ2 y29).1)), (6, .long (sD_6 σ2)), (5, .int (y29)), (2, .int (y1)), (1, .ref ((ad 300))), (0, .ref (b))]) hx hb dL_law_328 hl (k := 6) rfl (nI_c1 _) (by decide) rfl (fun ls hl => ?_)
              refine lv_goto (tgt := 199) hx hb dL_law_331 (by decide) ?_
              refine W.widen (k := 110 + 2 * (ti + 1)) (n := 3108 + 26 * (ti + 1)) (by omega) (by omega) ?_
              exact ih_199 (ti + 1) σ2 (by omega) (hF_83 ti σ2 y29 hw c_203 c_256 c_266 c_293) (by omega) _ _ hB hS ls (lv_sub hl [4, 5, 6, 0] rfl)
            refine lv_if_ge (tgt := 245) hx hb dL_law_232 (by decide) (fun c_232 => ?_) (fun c_232 => ?_)
            · exact J31
            refine lv_aload_n hx hb dL_law_235 rfl (lv_at hl 4 rfl) ?_
            refine lb_L (As := []) (rest := []) hx hb hml hown hts hK hI hB hEH (cl_digest l hok30) (kV_X3_digest hts ml_L_38 ⟨(Nat.le_of_ble_eq_true rfl), (Nat.le_of_ble_eq_true rfl)⟩) rfl hl.1 rfl (Nat.le_of_ble_eq_true rfl) dL_law_236 (by show _ ≤ 600000; omega) (by show _ ≤ 7302250; omega) ?_
            refine lv_lload hx hb dL_law_239 (lv_at hl 1 rfl) ?_
            refine W.lcmp hx hb dL_law_241 ?_
            refine lv_if_ne (tgt := 252) hx hb dL_law_242 (by decide) (fun q => absurd (hF_73 ti σ2 y29 hw c_203 c_232) q) (fun c_242 => ?_)
            exact J31
        exact L_199 27 0 σ1 (by omega) (hF_84 nt tt σ1 hnt1 hnt3 c_88 hv) (by omega) _ _ hB hS ls (lv_sub hl [2, 3, 4, 0] rfl)
      refine lv_aload_n hx hb dL_law_91 rfl (lv_at hl 3 rfl) ?_
      refine lv_iconst (v := 1) hx hb dL_law_92 (by decide) ?_
      refine lv_iload hx hb dL_law_93 (lv_at hl 4 rfl) ?_
      refine lv_iaddN (x := 1) (y := tt) hx hb rfl rfl dL_law_95 ?_
      refine lz_cell (n := (1 + tt)) (rest := []) hx hb hml hown hts hX hbl hbX hS hL (by omega) ml_L_98 ⟨(Nat.le_of_ble_eq_true rfl), (Nat.le_of_ble_eq_true rfl)⟩ hl.1 rfl (Nat.le_of_ble_eq_true rfl) dL_law_96 (by show _ ≤ 600000; omega) (by show _ ≤ 7302250; omega) (fun y33 => ?_)
      refine lv_istore (lv' := [(5, .int (y33)), (3, .int (nI nt)), (2, .int (y1)), (1, .ref ((ad 300))), (0, .ref (b)), (4, .int (nI tt))]) hx hb dL_law_99 hl (by decide) rfl (fun ls hl => ?_)
      refine lv_aload_n hx hb dL_law_101 rfl (lv_at hl 3 rfl) ?_
      refine lv_sipush (v := 500) hx hb dL_law_102 (by decide) ?_
      refine lv_iload hx hb dL_law_105 (lv_at hl 0 rfl) ?_
      refine lv_sipush (v := 5000) hx hb dL_law_107 (by decide) ?_
      refine cl_S (As := [.int y33, .int 5000]) (rest := [.int (500), .ref ((ad 300))]) hx hb hml hown hts (c_L_low l y33 5000 (by decide)) (kS_L_low hts ml_L_58 ⟨(Nat.le_of_ble_eq_true rfl), (Nat.le_of_ble_eq_true rfl)⟩) rfl hl.1 rfl (Nat.le_of_ble_eq_true rfl) dL_law_110 (by show _ ≤ 600000; omega) (by show _ ≤ 7302250; omega) ?_
      refine lv_iadd hx hb dL_law_113 ?_
      refine lv_iconst (v := 3) hx hb dL_law_114 (by decide) ?_
      refine lv_iload hx hb dL_law_115 (lv_at hl 0 rfl) ?_
      refine lv_bipush (v := 13) hx hb dL_law_117 (by decide) ?_
      refine lv_ishr hx hb dL_law_119 ?_
      refine lv_bipush (v := 8) hx hb dL_law_120 (by decide) ?_
      refine cl_S (As := [.int (y33 >>> ((13 : Int32) &&& 31)), .int 8]) (rest := [.int (3), .int (500 + (f_L_low y33 5000)), .ref ((ad 300))]) hx hb hml hown hts (c_L_low l (y33 >>> ((13 : Int32) &&& 31)) 8 (by decide)) (kS_L_low hts ml_L_58 ⟨(Nat.le_of_ble_eq_true rfl), (Nat.le_of_ble_eq_true rfl)⟩) rfl hl.1 rfl (Nat.le_of_ble_eq_true rfl) dL_law_122 (by show _ ≤ 600000; omega) (by show _ ≤ 7302250; omega) ?_
      refine lv_iadd hx hb dL_law_125 ?_
      refine lb_Q (As := [.int (500 + (f_L_low y33 5000)), .int (3 + (f_L_low (y33 >>> ((13 : Int32) &&& 31)) 8))]) (w := (m_X2_putTitle σ1 (500 + (f_L_low y33 5000)) (3 + (f_L_low (y33 >>> ((13 : Int32) &&& 31)) 8)))) (rest := []) hx hb hml hown hts hK hI hB hEH hbA hS (cm_addTitle l (500 + (f_L_low y33 5000)) (3 + (f_L_low (y33 >>> ((13 : Int32) &&& 31)) 8)) hok) (kV_X3_addTitle hts ml_L_61 ⟨(Nat.le_of_ble_eq_true rfl), (Nat.le_of_ble_eq_true rfl)⟩) rfl hl.1 rfl (Nat.le_of_ble_eq_true rfl) dL_law_126 (by show _ ≤ 600000; omega) (by show _ ≤ 7302250; omega) (fun H locs hB hU hS => ?_)
      have hok34 : okS (m_X2_putTitle σ1 (500 + (f_L_low y33 5000)) (3 + (f_L_low (y33 >>> ((13 : Int32) &&& 31)) 8))).2 := ok_addTitle hok (500 + (f_L_low y33 5000)) (3 + (f_L_low (y33 >>> ((13 : Int32) &&& 31)) 8))
      obtain ⟨_, _, _⟩ := okS_b hok34
      have hEH : lE v ad s H := lE_of hE hN hbA hS
      refine lv_iload hx hb dL_law_129 (lv_at hl 5 rfl) ?_
      refine lv_icmp_ne (tgt := 188) hx hb dL_law_131 (by decide) (fun q => absurd (hF_85 nt tt σ1 y33 hv hnt1 hnt3 c_88) q) (fun c_131 => ?_)
      refine lv_aload_n hx hb dL_law_134 rfl (lv_at hl 3 rfl) ?_
      refine lv_iload hx hb dL_law_135 (lv_at hl 5 rfl) ?_
      refine lv_iconst (v := 1) hx hb dL_law_137 (by decide) ?_
      refine lv_iload hx hb dL_law_138 (lv_at hl 0 rfl) ?_
      refine lv_bipush (v := 17) hx hb dL_law_140 (by decide) ?_
      refine lv_ishr hx hb dL_law_142 ?_
      refine lv_bipush (v := 6) hx hb dL_law_143 (by decide) ?_
      refine cl_S (As := [.int (y33 >>> ((17 : Int32) &&& 31)), .int 6]) (rest := [.int (1), .int (nI tt), .ref ((ad 300))]) hx hb hml hown hts (c_L_low l (y33 >>> ((17 : Int32) &&& 31)) 6 (by decide)) (kS_L_low hts ml_L_58 ⟨(Nat.le_of_ble_eq_true rfl), (Nat.le_of_ble_eq_true rfl)⟩) rfl hl.1 rfl (Nat.le_of_ble_eq_true rfl) dL_law_145 (by show _ ≤ 600000; omega) (by show _ ≤ 7302250; omega) ?_
      refine lv_iadd hx hb dL_law_148 ?_
      refine lv_iload hx hb dL_law_149 (lv_at hl 0 rfl) ?_
      refine lv_bipush (v := 20) hx hb dL_law_151 (by decide) ?_
      refine lv_ishr hx hb dL_law_153 ?_
      refine lv_bipush (v := 20) hx hb dL_law_154 (by decide) ?_
      refine cl_S (As := [.int (y33 >>> ((20 : Int32) &&& 31)), .int 20]) (rest := [.int (1 + (f_L_low (y33 >>> ((17 : Int32) &&& 31)) 6)), .int (nI tt), .ref ((ad 300))]) hx hb hml hown hts (c_L_low l (y33 >>> ((20 : Int32) &&& 31)) 20 (by decide)) (kS_L_low hts ml_L_58 ⟨(Nat.le_of_ble_eq_true rfl), (Nat.le_of_ble_eq_true rfl)⟩) rfl hl.1 rfl (Nat.le_of_ble_eq_true rfl) dL_law_156 (by show _ ≤ 600000; omega) (by show _ ≤ 7302250; omega) ?_
      refine lb_Q (As := [.int (nI tt), .int (1 + (f_L_low (y33 >>> ((17 : Int32) &&& 31)) 6)), .int (f_L_low (y33 >>> ((20 : Int32) &&& 31)) 20)]) (w := (m_X2_putCourse ((m_X2_putTitle σ1 (500 + (f_L_low y33 5000)) (3 + (f_L_low (y33 >>> ((13 : Int32) &&& 31)) 8))).2) (nI tt) (1 + (f_L_low (y33 >>> ((17 : Int32) &&& 31)) 6)) (f_L_low (y33 >>> ((20 : Int32) &&& 31)) 20))) (rest := []) hx hb hml hown hts hK hI hB hEH hbA hS (cm_addCourse l (nI tt) (1 + (f_L_low (y33 >>> ((17 : Int32) &&& 31)) 6)) (f_L_low (y33 >>> ((20 : Int32) &&& 31)) 20) hok34) (kV_X3_addCourse hts ml_L_64 ⟨(Nat.le_of_ble_eq_true rfl), (Nat.le_of_ble_eq_true rfl)⟩) rfl hl.1 rfl (Nat.le_of_ble_eq_true rfl) dL_law_159 (by show _ ≤ 600000; omega) (by show _ ≤ 7302250; omega) (fun H locs hB hU hS => ?_)
      have hok35 : okS (m_X2_putCourse ((m_X2_putTitle σ1 (500 + (f_L_low y33 5000)) (3 + (f_L_low (y33 >>> ((13 : Int32) &&& 31)) 8))).2) (nI tt) (1 + (f_L_low (y33 >>> ((17 : Int32) &&& 31)) 6)) (f_L_low (y33 >>> ((20 : Int32) &&& 31)) 20)).2 := ok_addCourse hok34 (nI tt) (1 + (f_L_low (y33 >>> ((17 : Int32) &&& 31)) 6)) (f_L_low (y33 >>> ((20 : Int32) &&& 31)) 20)
      obtain ⟨_, _, _⟩ := okS_b hok35
      have hEH : lE v ad s H := lE_of hE hN hbA hS
      refine lv_iload hx hb dL_law_162 (lv_at hl 5 rfl) ?_
      refine lv_icmp_ne (tgt := 188) hx hb dL_law_164 (by decide) (fun q => absurd (hF_86 nt tt σ1 y33 hv hnt1 hnt3 c_88) q) (fun c_164 => ?_)
      refine lv_aload_n hx hb dL_law_167 rfl (lv_at hl 3 rfl) ?_
      refine lv_iload hx hb dL_law_168 (lv_at hl 5 rfl) ?_
      refine lv_iconst (v := 1) hx hb dL_law_170 (by decide) ?_
      refine lv_iload hx hb dL_law_171 (lv_at hl 0 rfl) ?_
      refine lv_bipush (v := 25) hx hb dL_law_173 (by decide) ?_
      refine lv_ishr hx hb dL_law_175 ?_
      refine lv_bipush (v := 6) hx hb dL_law_176 (by decide) ?_
      refine cl_S (As := [.int (y33 >>> ((25 : Int32) &&& 31)), .int 6]) (rest := [.int (1), .int (nI tt), .ref ((ad 300))]) hx hb hml hown hts (c_L_low l (y33 >>> ((25 : Int32) &&& 31)) 6 (by decide)) (kS_L_low hts ml_L_58 ⟨(Nat.le_of_ble_eq_true rfl), (Nat.le_of_ble_eq_true rfl)⟩) rfl hl.1 rfl (Nat.le_of_ble_eq_true rfl) dL_law_178 (by show _ ≤ 600000; omega) (by show _ ≤ 7302250; omega) ?_
      refine lv_iadd hx hb dL_law_181 ?_
      refine lb_Q (As := [.int (nI tt), .int (1 + (f_L_low (y33 >>> ((25 : Int32) &&& 31)) 6))]) (w := (m_X2_buyNew ((m_X2_putCourse ((m_X2_putTitle σ1 (500 + (f_L_low y33 5000)) (3 + (f_L_low (y33 >>> ((13 : Int32) &&& 31)) 8))).2) (nI tt) (1 + (f_L_low (y33 >>> ((17 : Int32) &&& 31)) 6)) (f_L_low (y33 >>> ((20 : Int32) &&& 31)) 20)).2) (nI tt) (1 + (f_L_low (y33 >>> ((25 : Int32) &&& 31)) 6)))) (rest := []) hx hb hml hown hts hK hI hB hEH hbA hS (cm_buy l (nI tt) (1 + (f_L_low (y33 >>> ((25 : Int32) &&& 31)) 6)) hok35) (kV_X3_buy hts ml_L_79 ⟨(Nat.le_of_ble_eq_true rfl), (Nat.le_of_ble_eq_true rfl)⟩) rfl hl.1 rfl (Nat.le_of_ble_eq_true rfl) dL_law_182 (by show _ ≤ 600000; omega) (by show _ ≤ 7302250; omega) (fun H locs hB hU hS => ?_)
      have hok36 : okS (m_X2_buyNew ((m_X2_putCourse ((m_X2_putTitle σ1 (500 + (f_L_low y33 5000)) (3 + (f_L_low (y33 >>> ((13 : Int32) &&& 31)) 8))).2) (nI tt) (1 + (f_L_low (y33 >>> ((17 : Int32) &&& 31)) 6)) (f_L_low (y33 >>> ((20 : Int32) &&& 31)) 20)).2) (nI tt) (1 + (f_L_low (y33 >>> ((25 : Int32) &&& 31)) 6))).2 := ok_buy hok35 (nI tt) (1 + (f_L_low (y33 >>> ((25 : Int32) &&& 31)) 6))
      obtain ⟨_, _, _⟩ := okS_b hok36
      have hEH : lE v ad s H := lE_of hE hN hbA hS
      refine lv_if_ge (tgt := 190) hx hb dL_law_185 (by decide) (fun c_185 => ?_) (fun q => absurd (hF_87 nt tt σ1 y33 hv hnt1 hnt3 c_88) q)
      refine lv_iinc (v := nI (tt + 1)) (lv' := [(4, .int (nI (tt + 1))), (5, .int (y33)), (3, .int (nI nt)), (2, .int (y1)), (1, .ref ((ad 300))), (0, .ref (b))]) hx hb dL_law_190 hl (k := 5) rfl (nI_c1 _) (by decide) rfl (fun ls hl => ?_)
      refine lv_goto (tgt := 85) hx hb dL_law_193 (by decide) ?_
      exact ih_85 (tt + 1) ((m_X2_buyNew ((m_X2_putCourse ((m_X2_putTitle σ1 (500 + (f_L_low y33 5000)) (3 + (f_L_low (y33 >>> ((13 : Int32) &&& 31)) 8))).2) (nI tt) (1 + (f_L_low (y33 >>> ((17 : Int32) &&& 31)) 6)) (f_L_low (y33 >>> ((20 : Int32) &&& 31)) 20)).2) (nI tt) (1 + (f_L_low (y33 >>> ((25 : Int32) &&& 31)) 6))).2) (by omega) (hF_88 nt tt σ1 y33 hv hnt1 hnt3 c_88) (by omega) _ _ hB hS ls (lv_sub hl [2, 3, 4, 5, 0] rfl)
  exact L_85 (nt + 1) 0 sh0 (by omega) (hF_89 nt hnt1 hnt3) (by omega) _ _ hB hS ls (lv_sub hl [1, 2, 3, 4, 0] rfl)
end LAW

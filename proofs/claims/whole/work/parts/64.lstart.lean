/-! ===== the law starts ===== -/
section LST
variable {p : Program} {l : Launch} {e : Env} {R : Room} {s : State} {m : MethodId} {args : Array Value} {below : List Frame} {meth : Method} {c : Code} {Q : State → Prop} {ls : Array Slot} {b : Nat}
set_option maxRecDepth 100000 in
theorem law_start (hx : p.tables.exec = Jvm.exec) (hb : c.code = cL_law) (hml : c.maxLocals = 4) (hown : s.vm.findClass RL = some m.cls) (h0 : ∀ w ∈ lw_tbl, w.before args s = true) (hl : lv_has ls 4 [(0, .ref b)])
    (hR3 : rm_X3_init.frames + 1 ≤ R.frames ∧ 8 + (1 + 11) + rm_X3_init.locals ≤ R.locals) (hR4 : rm_X4_init.frames + 1 ≤ R.frames ∧ 8 + (1 + 11) + rm_X4_init.locals ≤ R.locals) (hc : 0 + 1 + rm_X3_init.cells + 1 + rm_X4_init.cells ≤ R.cells) (hs : 0 + 3 + rm_X3_init.slots + 11 + rm_X4_init.slots ≤ R.slots)
    (kk : ∀ (D : va_G) (cI cR : ClassId) (ad : Nat → Nat) (om : Nat) (am : Nat → Nat) (H : Heap) (locs : List Loc), brK D cI cR s → lwH D cI cR ad om am (fun _ => sh0) 0 0 tx0 mo0 0 H → lwI ad om am (fun q => s.heap.size ≤ q) → va_S (fun q => s.heap.size ≤ q) s.heap H locs → ∀ ls, lv_has ls 4 [(0, .ref b), (1, .ref (ad 300)), (2, .ref om), (3, .int (nI 0))] → W p l e R s m args below meth c H locs (0 + 1 + rm_X3_init.cells + 1 + rm_X4_init.cells) (0 + 3 + rm_X3_init.slots + 11 + rm_X4_init.slots) Q (F0 m 18 ls [])) :
    W p l e R s m args below meth c s.heap [] 0 0 Q (F0 m 0 ls []) := by
  have hw : ∀ w ∈ W0, w.before args s = true := fun w hw => h0 w (W0_in w hw)
  have hts : ∀ w ∈ Cond.initialized RX3 :: W0, w.before args s = true := fun w h => by
    rcases List.mem_cons.mp h with rfl | h
    · exact hw _ mini_X3
    · exact hw w h
  obtain ⟨D, cI, cR, hK⟩ := env_K h0
  have hAO := env_AO h0
  have z1 : rm_X3_init.cells = 109 := rfl
  have z2 : rm_X3_init.slots = 3105 := rfl
  have z3 : rm_X4_init.cells = 4 := rfl
  have z4 : rm_X4_init.slots = 2999 := rfl
  rw [z1, z3] at hc
  rw [z2, z4] at hs
  have hA : ∀ q : Nat, s.heap.size ≤ q → s.heap.size ≤ q := fun q h => h
  have hS : va_S (fun q => s.heap.size ≤ q) s.heap s.heap [] := va_S.rf
  have hP : va_P D vwCl [] s.heap := fun k q hk => by cases hk
  have hD : va_D (fun q => s.heap.size ≤ q) [] := ⟨fun i j a b hi => (by cases hi), fun k q hk => (by cases hk)⟩
  refine va_new (ci := 3) (fs := [.null, .null, .null]) (C := RX3) (T := TX3) (N := 3) hx hb hts (fun w h => List.mem_cons_of_mem _ (inX3 w h)) tyX3 tyX3_ok hown (hw _ mcl_L_7) (hw _ min_X3) (hw _ mini_X3) hK hP hD hS hA rfl fsX3 (by omega) (by omega) dL_law_0 (fun q H hP hD hS => ?_)
  refine lv_dup hx hb dL_law_3 rfl ?_
  refine iniCall (ws := []) (br0W cI cR q) (rest := [.ref q]) hx hb hml hown hts (c_X3_init l D cI cR q H.size) (cwI 0 hts (gdI mc_yX3_init) rfl rfl rfl (hw _ mini_X3) (hw _ ml_L_9) (hw _ mi_yX3_init) rfl (by decide +kernel) hR3) ⟨ini_blindQ, fun U hU hW => ⟨rfl, by rw [hU], by rw [hU]; exact hP, va_K.moved hW.alike hK, va_AO.moved hW.alike hAO⟩⟩ hP hD hS hA hl.1 (Nat.le_of_ble_eq_true rfl) dL_law_4 (by omega) (by omega) (fun x H locs hP hD hS => ?_)
  refine lv_astore_n (lv' := [(1, .ref q), (0, .ref b)]) hx hb dL_law_7 rfl hl (by decide) rfl (fun ls hl => ?_)
  refine va_new (ci := 4) (fs := in_X4) (C := RX4) (T := TX4) (N := 11) hx hb hts (fun w h => List.mem_cons_of_mem _ (inX4 w h)) tyX4 tyX4_ok hown (hw _ mcl_L_10) (hw _ min_X4) (hw _ mini_X4) hK hP hD hS hA rfl fsX4 (by omega) (by omega) dL_law_8 (fun om H hP hD hS => ?_)
  refine lv_dup hx hb dL_law_11 rfl ?_
  refine iniCall (fun a => moW cI om a mo0 0) (rest := [.ref om]) hx hb hml hown hts (c_X4_init l D cI om H.size [(cR, .object RX2)]) (cwI 0 hts (gdI mc_yX4_init) rfl rfl rfl (hw _ mini_X4) (hw _ ml_L_12) (hw _ mi_yX4_init) rfl (by decide +kernel) hR4) ⟨ini_blind, fun U hU hW => ⟨rfl, by rw [hU], by rw [hU]; exact one_P hP, va_K.moved hW.alike hK⟩⟩ hP hD hS hA hl.1 (Nat.le_of_ble_eq_true rfl) dL_law_12 (by omega) (by omega) (fun am H locs hP hD hS => ?_)
  refine lv_astore_n (lv' := [(2, .ref om), (1, .ref q), (0, .ref b)]) hx hb dL_law_15 rfl hl (by decide) rfl (fun ls hl => ?_)
  refine lv_iconst (v := 0) hx hb dL_law_16 (by decide) ?_
  refine lv_istore_n (lv' := [(3, .int (nI 0)), (2, .ref om), (1, .ref q), (0, .ref b)]) hx hb dL_law_17 rfl hl (by decide) rfl (fun ls hl => ?_)
  obtain ⟨w1, w2⟩ := lw_world hP hD
  exact kk D cI cR (ad0 q x) om am H locs hK w1 w2 hS ls (lv_sub hl [3, 2, 1, 0] rfl)
end LST

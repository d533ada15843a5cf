def sLowL : List Int32 := [10, 0, 1, 0]
def sHighL : List Int32 := [200, 200, 60, 50]
def sLow (k : Nat) : Int32 := sLowL.getD k 0
def sHigh (k : Nat) : Int32 := sHighL.getD k 0
def gE (tL tH : Nat) (A : Nat → Prop) (U : State) (H : Heap) : Prop :=
  va_Z "BookRental$Shop" "SETTING_LOW" "[I" (.ref tL) A U H ∧ va_T .int tL 4 (fun j => .int (sLow j)) A U H ∧ va_Z "BookRental$Shop" "SETTING_HIGH" "[I" (.ref tH) A U H ∧ va_T .int tH 4 (fun j => .int (sHigh j)) A U H
theorem gE_kept {tL tH : Nat} {A : Nat → Prop} {U : State} {H H1 : Heap} (h : gE tL tH A U H) (hq : ∀ a : Nat, a < H.size → ¬ A a → H1[a]? = H[a]?) : gE tL tH A U H1 := ⟨h.1.kept hq, h.2.1.kept hq, h.2.2.1.kept hq, h.2.2.2.kept hq⟩
theorem gE_narrow {tL tH : Nat} {A B : Nat → Prop} {U : State} {H : Heap} (h : gE tL tH A U H) (hAB : ∀ q, B q → A q) : gE tL tH B U H := ⟨h.1.narrow hAB, h.2.1.narrow hAB, h.2.2.1.narrow hAB, h.2.2.2.narrow hAB⟩
theorem gE_moved {tL tH : Nat} {A : Nat → Prop} {u U : State} {H : Heap} (hvm : u.vm.Alike U.vm) (h : gE tL tH A u H) : gE tL tH A U H := ⟨h.1.moved hvm, h.2.1.moved hvm, h.2.2.1.moved hvm, h.2.2.2.moved hvm⟩
theorem gE_into {tL tH : Nat} {A : Nat → Prop} {s U : State} {H : Heap} {locs : List Loc} (h : gE tL tH A s s.heap) (hS : va_S A s.heap H locs) (hU : U.heap = H) (hW : s.WarmedH U.vm) : gE tL tH A U U.heap := by
  rw [hU]; exact gE_moved hW.alike (gE_kept h hS.2.1)
theorem gE_same {tL tH : Nat} {A : Nat → Prop} {u U : State} {H : Heap} (hv : U.vm = u.vm) (h : gE tL tH A u H) : gE tL tH A U H := gE_moved (by rw [hv]; exact Vm.Alike.refl _) h
theorem nI_clampX {x : Int32} {n : Nat} (h : x = nI n) (hn : n < 2 ^ 31) : x.toNatClampNeg = n := by rw [h]; exact nI_clamp hn
theorem vp_inX {x : Int32} {n N : Nat} (h : x = nI n) (hn : n < N) (hN : N < 2 ^ 31) : vp_in x N := by rw [h]; exact vp_in_nI hn (by omega)

/-! X2.changeSetting -/
def m_X2_changeSetting (σ : Nat → Nat → Int32) (x : Int32) (y : Int32) : Int32 × (Nat → Nat → Int32) := (if (f_X2_isBetween x 0 3) = 0 then ((-2), σ) else (if (f_X2_isBetween y (sLow (tn x)) (sHigh (tn x))) = 0 then ((-3), σ) else (σ 4 (tn x), (shU σ 4 (tn x) y))))
abbrev rm_X2_changeSetting : Room := { frames := 1, cells := 0, slots := 0, locals := 22 }
set_option maxRecDepth 100000 in
theorem c_X2_changeSetting (l : Launch) (D : va_G) (cI : ClassId) (o : Nat) (a : Nat → Nat) (σ : Nat → Nat → Int32) (tL tH : Nat) (x : Int32) (y : Int32) (hok : okS σ) :
    Met l yX2_changeSetting (Cond.code yX2_changeSetting cX2_changeSetting 4 (some .int) :: W0) rm_X2_changeSetting (va_Pc [.ref o, .int x, .int y] (fun U => shM D cI o a σ U ∧ gE tL tH (shA o a) U U.heap)) (shQ D cI o a (m_X2_changeSetting σ x y)) 0 0 (shA o a) := by
  refine st_gen (cc := cX2_changeSetting) (maxL := 4) (ret := some .int) (own := RX2) (by decide) rfl (Nat.le_of_ble_eq_true rfl) ?_
  intro p e s m below meth c ls C hPre hl
  obtain ⟨hx, hb, hr, hml, hown, hts, hlk⟩ := C
  obtain ⟨hPre, hE⟩ := hPre
  obtain ⟨⟨hP, hK⟩, hD⟩ := hPre
  have hS : va_S (shA o a) s.heap s.heap [] := va_S.rf
  have hl : lv_has ls 4 [(0, .ref (o)), (1, .int (x)), (2, .int (y))] := hl
  obtain ⟨hT6, hC6, hN6⟩ := okS_b hok
  refine lv_iload_n hx hb dX2_changeSetting_0 rfl (lv_at hl 1 rfl) ?_
  refine lv_iconst (v := 0) hx hb dX2_changeSetting_1 (by decide) ?_
  refine lv_iconst (v := 3) hx hb dX2_changeSetting_2 (by decide) ?_
  refine cl_S (rest := []) hx hb hml hown hts (c_X2_isBetween l x 0 3) (kS_X2_isBetween hts ml_X2_93 ⟨(Nat.le_of_ble_eq_true rfl), (Nat.le_of_ble_eq_true rfl)⟩) rfl hl.1 rfl (Nat.le_of_ble_eq_true rfl) dX2_changeSetting_3 (Nat.zero_le _) (Nat.zero_le _) ?_
  refine lv_if_ne (tgt := 12) hx hb dX2_changeSetting_6 (by decide) (fun c_6 => ?_) (fun c_6 => ?_)
  · have v_6 := btwN 3 c_6 (by decide) rfl (by decide)
    have vb_6 := v_6.1
    refine lv_iload_n hx hb dX2_changeSetting_12 rfl (lv_at hl 2 rfl) ?_
    refine va_gets hx hb hE.1 hS hown (hts _ (List.mem_cons_of_mem _ mf_X2_100)) (fun _ h => h) dX2_changeSetting_13 ?_
    refine lv_iload_n hx hb dX2_changeSetting_16 rfl (lv_at hl 1 rfl) ?_
    refine va_ti hx hb hE.2.1 hS (vp_inX v_6.2 (by omega) (by decide)) (v := .int (sLow (tn x))) (congrArg (fun j => Value.int (sLow j)) (nI_clampX v_6.2 (by omega))) dX2_changeSetting_17 ?_
    refine va_gets hx hb hE.2.2.1 hS hown (hts _ (List.mem_cons_of_mem _ mf_X2_103)) (fun _ h => h) dX2_changeSetting_18 ?_
    refine lv_iload_n hx hb dX2_changeSetting_21 rfl (lv_at hl 1 rfl) ?_
    refine va_ti hx hb hE.2.2.2 hS (vp_inX v_6.2 (by omega) (by decide)) (v := .int (sHigh (tn x))) (congrArg (fun j => Value.int (sHigh j)) (nI_clampX v_6.2 (by omega))) dX2_changeSetting_22 ?_
    refine cl_S (rest := []) hx hb hml hown hts (c_X2_isBetween l y (sLow (tn x)) (sHigh (tn x))) (kS_X2_isBetween hts ml_X2_93 ⟨(Nat.le_of_ble_eq_true rfl), (Nat.le_of_ble_eq_true rfl)⟩) rfl hl.1 rfl (Nat.le_of_ble_eq_true rfl) dX2_changeSetting_23 (Nat.zero_le _) (Nat.zero_le _) ?_
    refine lv_if_ne (tgt := 32) hx hb dX2_changeSetting_26 (by decide) (fun c_26 => ?_) (fun c_26 => ?_)
    · refine lv_aload_n hx hb dX2_changeSetting_32 rfl (lv_at hl 0 rfl) ?_
      refine sh_g4 hx hb hts hown hK hP dX2_changeSetting_33 ?_
      refine lv_iload_n hx hb dX2_changeSetting_36 rfl (lv_at hl 1 rfl) ?_
      refine sh_r4 hx hb hK hP (tn x) v_6.2 (by omega) (v := σ 4 (tn x)) rfl dX2_changeSetting_37 ?_
      refine lv_istore_n (lv' := [(3, .int (σ 4 (tn x))), (0, .ref (o)), (1, .int (x)), (2, .int (y))]) hx hb dX2_changeSetting_38 rfl hl (by decide) rfl (fun ls hl => ?_)
      refine lv_aload_n hx hb dX2_changeSetting_39 rfl (lv_at hl 1 rfl) ?_
      refine sh_g4 hx hb hts hown hK hP dX2_changeSetting_40 ?_
      refine lv_iload_n hx hb dX2_changeSetting_43 rfl (lv_at hl 2 rfl) ?_
      refine lv_iload_n hx hb dX2_changeSetting_44 rfl (lv_at hl 3 rfl) ?_
      refine sh_w4 hx hb hK hP hD hS (tn x) v_6.2 (by omega) dX2_changeSetting_45 (fun H locs hP hS => ?_)
      refine lv_iload_n hx hb dX2_changeSetting_46 rfl (lv_at hl 0 rfl) ?_
      exact sh_finM hx hb hr hlk hK hP hS (br_n c_6 (br_n c_26 rfl)) dX2_changeSetting_47
    refine lv_bipush (v := (-3)) hx hb dX2_changeSetting_29 (by decide) ?_
    exact sh_finM hx hb hr hlk hK hP hS (br_n c_6 (br_p c_26 rfl)) dX2_changeSetting_31
  refine lv_bipush (v := (-2)) hx hb dX2_changeSetting_9 (by decide) ?_
  exact sh_finM hx hb hr hlk hK hP hS (br_p c_6 rfl) dX2_changeSetting_11
theorem kV_X2_changeSetting {R : Room} {s : State} {args : Array Value} {own : String} {idx : Nat} {c0 : Cond} (hts : ∀ w ∈ c0 :: W0, w.before args s = true) (hl : Cond.methodLink own idx yX2_changeSetting ∈ W0) (hR : rm_X2_changeSetting.frames + 1 ≤ R.frames ∧ 8 + (4 + 11) + rm_X2_changeSetting.locals ≤ R.locals) : CallW R s args own RX2 idx yX2_changeSetting cX2_changeSetting 4 (some .int) (Cond.code yX2_changeSetting cX2_changeSetting 4 (some .int) :: W0) rm_X2_changeSetting 0 0 2 := cwV 2 hts (gdV hl mi_yX2_changeSetting ms_yX2_changeSetting mini_X2 mc_yX2_changeSetting) rfl rfl rfl (by decide +kernel) hR

/-! ===== the law goes round ===== -/
section LLP
variable {p : Program} {l : Launch} {e : Env} {R : Room} {s : State} {m : MethodId} {args : Array Value} {below : List Frame} {meth : Method} {c : Code} {H : Heap} {locs : List Loc} {cells slots : Nat} {Q : State → Prop} {ls : Array Slot} {b L i : Nat} {xs : Nat → Int32} {D : va_G} {cI cR : ClassId} {ad : Nat → Nat} {om : Nat} {am : Nat → Nat} {v : EN} {ρ : Nat → Nat → Nat → Int32} {sp kp : Nat} {τ μ : Nat → Nat → Int32} {hh : Int64} {A : Nat → Prop}
theorem lw_more {L i : Nat} (hL : L ≤ 2048) (hi : i ≤ 2048) : (nI L - 4 < nI i) = (L < i + 4) := by
  have e4 : (4 : Int32).toInt = 4 := by decide
  have eL : (nI L).toInt = L := nI_toInt (by omega)
  have ei : (nI i).toInt = i := nI_toInt (by omega)
  have s := i_sub (a := nI L) (b := 4) (by omega) (by omega) (by omega) (by omega)
  rw [Int32.lt_iff_toInt_lt, s, eL, ei, e4]
  exact propext ⟨fun q => by omega, fun q => by omega⟩
set_option maxRecDepth 100000 in
theorem lw_switch {x : Int32} (C : lwC p R s m args c cells slots D cI cR ad om am v A b L xs) (hi : i + 3 < L) (hL : lwH D cI cR ad om am ρ sp kp τ μ hh H) (hIV : IV ρ sp kp τ μ) (hS : va_S A s.heap H locs) (hl : lwV ad om b i ls)
    (kk : lwNx p l e R s m args below meth c cells slots Q D cI cR ad om am A b i 1036) : W p l e R s m args below meth c H locs cells slots Q (F0 m 32 ls [.int (x &&& 31)]) := by
  obtain ⟨j, hj, ej⟩ := pk_andE x (m := 31) 5 (by decide)
  have hx := C.1
  have hb := C.2.1
  rw [ej]
  match j, hj with
  | 0, _ => exact lv_sw_in (k := 0) (tgt := 172) hx hb dL_law_32 (by decide) (by decide) (by decide) rfl (by decide) (lw_case_0 C hi hL hIV hS hl kk)
  | 1, _ => exact lv_sw_in (k := 1) (tgt := 205) hx hb dL_law_32 (by decide) (by decide) (by decide) rfl (by decide) (lw_case_1 C hi hL hIV hS hl kk)
  | 2, _ => exact lv_sw_in (k := 2) (tgt := 238) hx hb dL_law_32 (by decide) (by decide) (by decide) rfl (by decide) (lw_case_2 C hi hL hIV hS hl kk)
  | 3, _ => exact lv_sw_in (k := 3) (tgt := 261) hx hb dL_law_32 (by decide) (by decide) (by decide) rfl (by decide) (lw_case_3 C hi hL hIV hS hl kk)
  | 4, _ => exact lv_sw_in (k := 4) (tgt := 304) hx hb dL_law_32 (by decide) (by decide) (by decide) rfl (by decide) (lw_case_4 C hi hL hIV hS hl kk)
  | 5, _ => exact lv_sw_in (k := 5) (tgt := 347) hx hb dL_law_32 (by decide) (by decide) (by decide) rfl (by decide) (lw_case_5 C hi hL hIV hS hl kk)
  | 6, _ => exact lv_sw_in (k := 6) (tgt := 380) hx hb dL_law_32 (by decide) (by decide) (by decide) rfl (by decide) (lw_case_6 C hi hL hIV hS hl kk)
  | 7, _ => exact lv_sw_in (k := 7) (tgt := 403) hx hb dL_law_32 (by decide) (by decide) (by decide) rfl (by decide) (lw_case_7 C hi hL hIV hS hl kk)
  | 8, _ => exact lv_sw_in (k := 8) (tgt := 436) hx hb dL_law_32 (by decide) (by decide) (by decide) rfl (by decide) (lw_case_8 C hi hL hIV hS hl kk)
  | 9, _ => exact lv_sw_in (k := 9) (tgt := 469) hx hb dL_law_32 (by decide) (by decide) (by decide) rfl (by decide) (lw_case_9 C hi hL hIV hS hl kk)
  | 10, _ => exact lv_sw_in (k := 10) (tgt := 502) hx hb dL_law_32 (by decide) (by decide) (by decide) rfl (by decide) (lw_case_10 C hi hL hIV hS hl kk)
  | 11, _ => exact lv_sw_in (k := 11) (tgt := 525) hx hb dL_law_32 (by decide) (by decide) (by decide) rfl (by decide) (lw_case_11 C hi hL hIV hS hl kk)
  | 12, _ => exact lv_sw_in (k := 12) (tgt := 558) hx hb dL_law_32 (by decide) (by decide) (by decide) rfl (by decide) (lw_case_12 C hi hL hIV hS hl kk)
  | 13, _ => exact lv_sw_in (k := 13) (tgt := 601) hx hb dL_law_32 (by decide) (by decide) (by decide) rfl (by decide) (lw_case_13 C hi hL hIV hS hl kk)
  | 14, _ => exact lv_sw_in (k := 14) (tgt := 644) hx hb dL_law_32 (by decide) (by decide) (by decide) rfl (by decide) (lw_case_14 C hi hL hIV hS hl kk)
  | 15, _ => exact lv_sw_in (k := 15) (tgt := 667) hx hb dL_law_32 (by decide) (by decide) (by decide) rfl (by decide) (lw_case_15 C hi hL hIV hS hl kk)
  | 16, _ => exact lv_sw_in (k := 16) (tgt := 700) hx hb dL_law_32 (by decide) (by decide) (by decide) rfl (by decide) (lw_case_16 C hi hL hIV hS hl kk)
  | 17, _ => exact lv_sw_in (k := 17) (tgt := 723) hx hb dL_law_32 (by decide) (by decide) (by decide) rfl (by decide) (lw_case_17 C hi hL hIV hS hl kk)
  | 18, _ => exact lv_sw_in (k := 18) (tgt := 756) hx hb dL_law_32 (by decide) (by decide) (by decide) rfl (by decide) (lw_case_18 C hi hL hIV hS hl kk)
  | 19, _ => exact lv_sw_in (k := 19) (tgt := 799) hx hb dL_law_32 (by decide) (by decide) (by decide) rfl (by decide) (lw_case_19 C hi hL hIV hS hl kk)
  | 20, _ => exact lv_sw_in (k := 20) (tgt := 822) hx hb dL_law_32 (by decide) (by decide) (by decide) rfl (by decide) (lw_case_20 C hi hL hIV hS hl kk)
  | 21, _ => exact lv_sw_in (k := 21) (tgt := 855) hx hb dL_law_32 (by decide) (by decide) (by decide) rfl (by decide) (lw_case_21 C hi hL hIV hS hl kk)
  | 22, _ => exact lv_sw_in (k := 22) (tgt := 888) hx hb dL_law_32 (by decide) (by decide) (by decide) rfl (by decide) (lw_case_22 C hi hL hIV hS hl kk)
  | 23, _ => exact lv_sw_in (k := 23) (tgt := 911) hx hb dL_law_32 (by decide) (by decide) (by decide) rfl (by decide) (lw_case_23 C hi hL hIV hS hl kk)
  | 24, _ => exact lv_sw_in (k := 24) (tgt := 934) hx hb dL_law_32 (by decide) (by decide) (by decide) rfl (by decide) (lw_case_24 C hi hL hIV hS hl kk)
  | 25, _ => exact lv_sw_in (k := 25) (tgt := 947) hx hb dL_law_32 (by decide) (by decide) (by decide) rfl (by decide) (lw_case_25 C hi hL hIV hS hl kk)
  | 26, _ => exact lv_sw_in (k := 26) (tgt := 960) hx hb dL_law_32 (by decide) (by decide) (by decide) rfl (by decide) (lw_case_26 C hi hL hIV hS hl kk)
  | 27, _ => exact lv_sw_in (k := 27) (tgt := 983) hx hb dL_law_32 (by decide) (by decide) (by decide) rfl (by decide) (lw_case_27 C hi hL hIV hS hl kk)
  | 28, _ => exact lv_sw_in (k := 28) (tgt := 996) hx hb dL_law_32 (by decide) (by decide) (by decide) rfl (by decide) (lw_case_28 C hi hL hIV hS hl kk)
  | 29, _ => exact lv_sw_in (k := 29) (tgt := 1009) hx hb dL_law_32 (by decide) (by decide) (by decide) rfl (by decide) (lw_case_29 C hi hL hIV hS hl kk)
  | 30, _ => exact lv_sw_in (k := 30) (tgt := 1022) hx hb dL_law_32 (by decide) (by decide) (by decide) rfl (by decide) (lw_case_30 C hi hL hIV hS hl kk)
  | 31, _ => exact lv_tableOut (tgt := 1036) hx hb dL_law_32 (Or.inr (by decide)) (by decide) (lwNx_go kk hL hIV hS hl)
  | j + 32, q => exact absurd q (by omega)
set_option maxRecDepth 100000 in
theorem lw_round (C : lwC p R s m args c cells slots D cI cR ad om am v A b L xs) (ke : ∀ (H : Heap) (locs : List Loc) (ls : Array Slot), va_S A s.heap H locs → W p l e R s m args below meth c H locs cells slots Q (F0 m 1042 ls [])) : ∀ (n i : Nat), L - i < n → i ≤ L → lwNx p l e R s m args below meth c cells slots Q D cI cR ad om am A b i 18 := by
  have hx := C.1
  have hb := C.2.1
  have C2 := C
  obtain ⟨-, -, -, -, -, -, -, -, -, hX, hbl, hAb, -, -, -, -, hL2⟩ := C2
  intro n
  induction n with
  | zero => intro i q; omega
  | succ n ih =>
    intro i q hiL ρ sp kp τ μ hh H locs ls hL hIV hS hl
    refine lv_iload_n hx hb dL_law_18 rfl (lv_at hl 3 rfl) ?_
    refine lv_aload_n hx hb dL_law_19 rfl (lv_at hl 0 rfl) ?_
    refine va_slen hx hb hX hbl hAb hS dL_law_20 ?_
    refine lv_iconst (v := 4) hx hb dL_law_21 (by decide) ?_
    refine lv_isub hx hb dL_law_22 ?_
    refine lv_icmp_gt (tgt := 1042) hx hb dL_law_23 (by decide) (fun _ => ke H locs ls hS) (fun c1 => ?_)
    have c1 : ¬ nI L - 4 < nI i := c1
    rw [lw_more hL2 (by omega)] at c1
    refine lv_aload_n hx hb dL_law_26 rfl (lv_at hl 0 rfl) ?_
    refine lv_iload_n hx hb dL_law_27 rfl (lv_at hl 3 rfl) ?_
    refine va_sld hx hb hX hbl hAb hS (i := nI i) (vp_in_nI (show i < L by omega) (by omega)) dL_law_28 ?_
    rw [nI_clamp (by omega)]
    refine lv_bipush (v := 31) hx hb dL_law_29 (by decide) ?_
    refine lv_iand hx hb dL_law_31 ?_
    refine lw_switch C (by omega) hL hIV hS hl ?_
    intro ρ sp kp τ μ hh H locs ls hL hIV hS hl
    refine lv_iinc (lv' := [(3, .int (nI (i + 4))), (0, .ref b), (1, .ref (ad 300)), (2, .ref om)]) hx hb dL_law_1036 hl (k := 3) rfl (nI_add i 4) (by decide) rfl (fun ls hl => ?_)
    refine lv_goto (tgt := 18) hx hb dL_law_1039 (by decide) ?_
    exact ih (i + 4) (by omega) (by omega) ρ sp kp τ μ hh H locs ls hL hIV hS (lv_sub hl [1, 2, 3, 0] rfl)
end LLP

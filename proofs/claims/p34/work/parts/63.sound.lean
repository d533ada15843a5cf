def g_L_isSound_698 (σ : ST) : Nat → (Nat) → (Int32) → Int32
  | 0, bk, x4 => x4
  | fu_698 + 1, bk, x4 => (if 5 ≤ bk then x4 else g_L_isSound_698 σ fu_698 (bk + 1) (x4 + (f_X2_sumOf σ (nI bk))))
def g_L_isSound_466 (σ : ST) (ti : Nat) : Nat → (Nat) → (Int32) → Int32
  | 0, co, x5 => x5
  | fu_466 + 1, co, x5 => (if nC σ ≤ co then x5 else (if (f_X2_nextCopy σ (nI co)) < 0 then g_L_isSound_466 σ ti fu_466 (co + 1) (x5 + (if (f_X2_courseProperty σ (nI co) 0) = (nI ti) then (f_X2_courseProperty σ (nI co) 2) else 0)) else g_L_isSound_466 σ ti fu_466 (co + 1) (x5 + (if (f_X2_courseProperty σ (nI co) 0) = (nI ti) then (f_X2_courseProperty σ (nI co) 2) else 0))))
def g_L_isSound_450 (σ : ST) : Nat → (Nat) → (Int32) → Int32
  | 0, ti, x3 => x3
  | fu_450 + 1, ti, x3 => (if nT σ ≤ ti then x3 else g_L_isSound_450 σ fu_450 (ti + 1) (x3 + (f_X2_titleProperty σ (nI ti) 5)))
def g_L_isSound_385 (σ : ST) : Nat → (Nat) → (Int32) → Int32
  | 0, cu, x2 => x2
  | fu_385 + 1, cu, x2 => (if 8 ≤ cu then x2 else g_L_isSound_385 σ fu_385 (cu + 1) (x2 + (f_X2_customerNumber σ (nI cu) 2)))
def g_L_isSound_7 (σ : ST) : Nat → (Nat) → (Nat → Int32) → (Nat → Int32)
  | 0, ci, ω => ω
  | fu_7 + 1, ci, ω => (if nN σ ≤ ci then ω else (if (f_X2_copyProperty σ (nI ci) 3) = 1 then g_L_isSound_7 σ fu_7 (ci + 1) (upd (upd ω (stt σ ci) ((ω (stt σ ci)) + 1)) (5 + (rOf σ ci)) (((upd ω (stt σ ci) ((ω (stt σ ci)) + 1)) (5 + (rOf σ ci))) + 1)) else g_L_isSound_7 σ fu_7 (ci + 1) (upd ω (stt σ ci) ((ω (stt σ ci)) + 1))))
def F_isSound (σ : ST) : Prop := ((f_X2_numberOf σ 9) = ((((g_L_isSound_7 σ (nN σ + 1) 0 (fun _ => 0)) 0) + ((g_L_isSound_7 σ (nN σ + 1) 0 (fun _ => 0)) 1)) + ((g_L_isSound_7 σ (nN σ + 1) 0 (fun _ => 0)) 4))) ∧
  (((((((g_L_isSound_7 σ (nN σ + 1) 0 (fun _ => 0)) 0) + ((g_L_isSound_7 σ (nN σ + 1) 0 (fun _ => 0)) 1)) + ((g_L_isSound_7 σ (nN σ + 1) 0 (fun _ => 0)) 2)) + ((g_L_isSound_7 σ (nN σ + 1) 0 (fun _ => 0)) 3)) + ((g_L_isSound_7 σ (nN σ + 1) 0 (fun _ => 0)) 4)) = (f_X2_numberOf σ 1)) ∧
  ((g_L_isSound_450 σ (nT σ + 1) 0 0) = (f_X2_numberOf σ 1)) ∧
  ((g_L_isSound_385 σ 9 0 0) = ((((f_X2_sumOf σ 0) + (f_X2_sumOf σ 1)) + (f_X2_sumOf σ 2)) + (f_X2_sumOf σ 3))) ∧
  ((f_X2_sumOf σ 7) = (((100000000 + (g_L_isSound_698 σ 6 0 0)) - (f_X2_sumOf σ 5)) - (f_X2_sumOf σ 6))) ∧
  (¬ (f_X2_numberOf σ 4) < (f_X2_servedStudents σ)) ∧
  (∀ (ti : Nat) , (¬ nT σ ≤ ti) → ((f_X2_titleProperty σ (nI ti) 2) = (g_L_isSound_466 σ ti (nC σ + 1) 0 0))) ∧
  (∀ (ti : Nat) , (¬ nT σ ≤ ti) → ((f_X2_titleProperty σ (nI ti) 4) = (if (g_L_isSound_466 σ ti (nC σ + 1) 0 0) ≤ (f_X2_titleProperty σ (nI ti) 3) then 0 else ((g_L_isSound_466 σ ti (nC σ + 1) 0 0) - (f_X2_titleProperty σ (nI ti) 3))))) ∧
  (∀ (ti : Nat) , (¬ nT σ ≤ ti) → (¬ (f_X2_titleProperty σ (nI ti) 5) < (f_X2_titleProperty σ (nI ti) 3))) ∧
  (∀ (ti : Nat) , (¬ nT σ ≤ ti) → ((f_X2_titleProperty σ (nI ti) 6) ≤ (f_X2_titleProperty σ (nI ti) 5))) ∧
  (∀ (ti : Nat) (co : Nat) , (¬ nT σ ≤ ti) → (¬ nC σ ≤ co) → (((if (f_X2_nextCopy σ (nI co)) < 0 then 0 else 1) : Int32) = (if (f_X2_courseProperty σ (nI co) 3) ≤ 0 then 0 else 1))) ∧
  (∀ (ti : Nat) (co : Nat) , (¬ nT σ ≤ ti) → (¬ nC σ ≤ co) → (¬ (f_X2_nextCopy σ (nI co)) < 0) → ((f_X2_copyProperty σ (f_X2_nextCopy σ (nI co)) 3) = 0)) ∧
  (∀ (ti : Nat) (co : Nat) , (¬ nT σ ≤ ti) → (¬ nC σ ≤ co) → (¬ (f_X2_nextCopy σ (nI co)) < 0) → ((f_X2_copyProperty σ (f_X2_nextCopy σ (nI co)) 0) = (f_X2_courseProperty σ (nI co) 0))) ∧
  (∀ (ti : Nat) (co : Nat) , (¬ nT σ ≤ ti) → (¬ nC σ ≤ co) → (¬ (f_X2_nextCopy σ (nI co)) < 0) → ((f_X2_courseProperty σ (nI co) 1) ≤ (f_X2_copyProperty σ (f_X2_nextCopy σ (nI co)) 1))) ∧
  (∀ (cu : Nat) , (¬ 8 ≤ cu) → ((f_X2_customerNumber σ (nI cu) 0) = ((g_L_isSound_7 σ (nN σ + 1) 0 (fun _ => 0)) (5 + cu)))) ∧
  (∀ (cu : Nat) , (¬ 8 ≤ cu) → (¬ 4 < ((g_L_isSound_7 σ (nN σ + 1) 0 (fun _ => 0)) (5 + cu)))) ∧
  (∀ (cu : Nat) , (¬ 8 ≤ cu) → ((f_X2_customerNumber σ (nI cu) 1) ≤ ((g_L_isSound_7 σ (nN σ + 1) 0 (fun _ => 0)) (5 + cu)))) ∧
  (∀ (su : Nat) , (¬ 5 ≤ su) → ((f_X2_numberOf σ (nI (4 + su))) = ((g_L_isSound_7 σ (nN σ + 1) 0 (fun _ => 0)) su))) ∧
  (∀ (ci : Nat) , (¬ nN σ ≤ ci) → (f_X2_copyProperty σ (nI ci) 3 = nI (stt σ ci) ∧ stt σ ci < 5)) ∧
  (∀ (ci : Nat) , (¬ nN σ ≤ ci) → (((if (f_X2_copyProperty σ (nI ci) 3) = 1 then 1 else 0) : Int32) = (if (f_X2_copyProperty σ (nI ci) 4) < 0 then 0 else 1))) ∧
  (∀ (ci : Nat) , (¬ nN σ ≤ ci) → (((if (f_X2_copyProperty σ (nI ci) 3) = 1 then 1 else 0) : Int32) = (if (f_X2_copyProperty σ (nI ci) 5) < 0 then 0 else 1))) ∧
  (∀ (ci : Nat) , (¬ nN σ ≤ ci) → (¬ (f_X2_copyProperty σ (nI ci) 6) < 0)) ∧
  (∀ (ci : Nat) , (¬ nN σ ≤ ci) → (¬ (f_X2_titleProperty σ (f_X2_copyProperty σ (nI ci) 0) 0) < (f_X2_copyProperty σ (nI ci) 6))) ∧
  (∀ (ci : Nat) , (¬ nN σ ≤ ci) → ((f_X2_copyProperty σ (nI ci) 7) = (((f_X2_copyProperty σ (nI ci) 6) * 30) / 100))) ∧
  (∀ (ci : Nat) , (¬ nN σ ≤ ci) → ((f_X2_copyProperty σ (nI ci) 8) = (((f_X2_copyProperty σ (nI ci) 6) * 75) / 100))) ∧
  (∀ (ci : Nat) , (¬ nN σ ≤ ci) → ((f_X2_copyProperty σ (nI ci) 10) = (if (f_X2_copyProperty σ (nI ci) 3) = 1 then (if (f_X2_numberOf σ 3) ≤ (f_X2_copyProperty σ (nI ci) 5) then 0 else ((f_X2_numberOf σ 3) - (f_X2_copyProperty σ (nI ci) 5))) else 0))) ∧
  (∀ (ci : Nat) (kj : Nat) , (¬ nN σ ≤ ci) → (¬ (f_X2_copyProperty σ (nI ci) 3) = 1) → (¬ nN σ ≤ kj) → ((f_X2_copyProperty σ (nI kj) 0) = (f_X2_copyProperty σ (nI ci) 0)) → (¬ (f_X2_copyProperty σ (nI ci) 1) < (f_X2_copyProperty σ (nI kj) 1)) → (¬ (f_X2_copyProperty σ (nI kj) 2) < (f_X2_copyProperty σ (nI ci) 2)) → ((f_X2_copyProperty σ (nI kj) 6) ≤ (f_X2_copyProperty σ (nI ci) 6))) ∧
  (∀ (ci : Nat) , (¬ nN σ ≤ ci) → ((f_X2_copyProperty σ (nI ci) 3) = 1) → (f_X2_copyProperty σ (nI ci) 4 = nI (rOf σ ci) ∧ rOf σ ci < 8)) ∧
  (∀ (ci : Nat) (kj : Nat) , (¬ nN σ ≤ ci) → ((f_X2_copyProperty σ (nI ci) 3) = 1) → (¬ nN σ ≤ kj) → ((f_X2_copyProperty σ (nI kj) 0) = (f_X2_copyProperty σ (nI ci) 0)) → (¬ (f_X2_copyProperty σ (nI ci) 1) < (f_X2_copyProperty σ (nI kj) 1)) → (¬ (f_X2_copyProperty σ (nI kj) 2) < (f_X2_copyProperty σ (nI ci) 2)) → ((f_X2_copyProperty σ (nI kj) 6) ≤ (f_X2_copyProperty σ (nI ci) 6)))
abbrev rm_L_isSound : Room := { frames := 6, cells := 1, slots := 13, locals := 136 }
set_option maxRecDepth 100000 in
theorem c_L_isSound (l : Launch) (D : va_G) (cI cR : ClassId) (ad : Nat → Nat) (v : EN) (σ : ST) (hok : okS σ) (hF : F_isSound σ) :
    Met l yL_isSound (Cond.code yL_isSound cL_isSound 8 (some .boolean) :: W0) rm_L_isSound (va_Pc [.ref (ad 300)] (lX D cI cR ad v σ)) lP1 1 13 (fun _ => False) := by
  obtain ⟨hF_1, hF_2, hF_3, hF_4, hF_5, hF_6, hF_7, hF_8, hF_9, hF_10, hF_11, hF_12, hF_13, hF_14, hF_15, hF_16, hF_17, hF_18, hF_19, hF_20, hF_21, hF_22, hF_23, hF_24, hF_25, hF_26, hF_27, hF_28, hF_29⟩ := hF
  refine st_gen (cc := cL_isSound) (maxL := 8) (ret := some .boolean) (own := RL) (by decide) rfl (Nat.le_of_ble_eq_true rfl) ?_
  intro p e s m below meth c ls C hPre hl
  obtain ⟨hx, hb, hr, hml, hown, hts, hlk⟩ := C
  obtain ⟨⟨hB0, hK, hI⟩, hE, hN⟩ := hPre
  have hKa : va_K D vwCl ((cI, .int) :: [(cR, .object RX2)]) s := hK
  have hl : lv_has ls 8 [(0, .ref (ad 300))] := hl
  obtain ⟨hT6, hC6, hN6⟩ := okS_b hok
  refine lv_bipush (v := 13) hx hb dL_isSound_0 (by decide) ?_
  refine newI (ws := []) (A := fun q => s.heap.size ≤ q) hx hb hts hKa (fun k q hk => by cases hk) ⟨fun i j a b hi => (by cases hi), fun k q hk => (by cases hk)⟩ va_S.rf (fun q h => h) 13 rfl (by decide) (Nat.le_of_ble_eq_true rfl) (Nat.le_of_ble_eq_true rfl) dL_isSound_2 (fun q0 H hP hD hS => ?_)
  have hP : va_P D vwCl [(q0, .inl (cI, 13, .inl (fun _ => 0)))] H := hP
  have hD : va_D (fun q => s.heap.size ≤ q) [(q0, .inl (cI, 13, .inl (fun _ => 0)))] := hD
  have hB : lB D cI cR ad σ H := hB0.keep hI (fun q h => hS.2.1 q h (Nat.not_le.mpr h))
  have hEH : lE v ad s H := lE_new hE hN hS.1 (fun q h => hS.2.1 q h (Nat.not_le.mpr h))
  refine lv_astore_n (lv' := [(1, .ref (q0)), (0, .ref ((ad 300)))]) hx hb dL_isSound_4 rfl hl (by decide) rfl (fun ls hl => ?_)
  refine lv_iconst (v := 0) hx hb dL_isSound_5 (by decide) ?_
  refine lv_istore_n (lv' := [(2, .int (0)), (1, .ref (q0)), (0, .ref ((ad 300)))]) hx hb dL_isSound_6 rfl hl (by decide) rfl (fun ls hl => ?_)
  have L_7 : ∀ (fu : Nat) (ci : Nat) (ω : Nat → Int32), nN σ - ci < fu → (ci ≤ nN σ) → g_L_isSound_7 σ fu ci ω = g_L_isSound_7 σ (nN σ + 1) 0 (fun _ => 0) → ∀ (H : Heap) (locs : List Loc), va_P D vwCl [(q0, .inl (cI, 13, .inl ω))] H → va_D (fun q => s.heap.size ≤ q) [(q0, .inl (cI, 13, .inl ω))] → va_S (fun q => s.heap.size ≤ q) s.heap H locs → ∀ ls, lv_has ls 8 [(1, .ref (q0)), (0, .ref ((ad 300))), (2, .int (nI ci))] → W p l e rm_L_isSound s m ([.ref (ad 300)] : List Value).toArray below meth c H locs (0 + 1) (0 + 13) (MQ below lP1 ([.ref (ad 300)] : List Value).toArray s 1 13 (fun _ => False)) (F0 m 7 ls []) := by
    intro fu_7
    induction fu_7 with
    | zero => intro ci ω hm; exact absurd hm (Nat.not_lt_zero _)
    | succ fu_7 ih_7 =>
      intro ci ω hm hbn hg_7 H locs hP hD hS ls hl
      have hB : lB D cI cR ad σ H := hB0.keep hI (fun q h => hS.2.1 q h (Nat.not_le.mpr h))
      have hEH : lE v ad s H := lE_new hE hN hS.1 (fun q h => hS.2.1 q h (Nat.not_le.mpr h))
      refine lv_iload_n hx hb dL_isSound_7 rfl (lv_at hl 2 rfl) ?_
      refine lv_aload_n hx hb dL_isSound_8 rfl (lv_at hl 1 rfl) ?_
      refine lv_iconst (v := 1) hx hb dL_isSound_9 (by decide) ?_
      refine lb_P (As := [.int 1]) (rest := [.int (nI ci)]) hx hb hml hown hts hK hI hB hEH (cl_count l 1 hok) (kV_X3_count hts ml_L_8 ⟨(Nat.le_of_ble_eq_true rfl), (Nat.le_of_ble_eq_true rfl)⟩) rfl hl.1 rfl (Nat.le_of_ble_eq_true rfl) dL_isSound_10 (Nat.le_of_ble_eq_true rfl) (Nat.le_of_ble_eq_true rfl) ?_
      refine lv_icmp_geN (ci) (nN σ) hx hb rfl (num_1 hok) (by omega) (by omega) (tgt := 304) dL_isSound_13 (by decide) (fun c_13 => ?_) (fun c_13 => ?_)
      · have ex_ω : ω = g_L_isSound_7 σ (nN σ + 1) 0 (fun _ => 0) := ((br_p c_13 rfl) : ω = g_L_isSound_7 σ (fu_7 + 1) ci ω).trans hg_7
        subst ex_ω
        refine lv_iconst (v := 0) hx hb dL_isSound_304 (by decide) ?_
        refine lv_istore_n (lv' := [(2, .int (0)), (1, .ref (q0)), (0, .ref ((ad 300)))]) hx hb dL_isSound_305 rfl hl (by decide) rfl (fun ls hl => ?_)
        have L_306 : ∀ (fu : Nat) (su : Nat), 5 - su < fu → (su ≤ 5) → ∀ ls, lv_has ls 8 [(1, .ref (q0)), (0, .ref ((ad 300))), (2, .int (nI su))] → W p l e rm_L_isSound s m ([.ref (ad 300)] : List Value).toArray below meth c H locs (0 + 1) (0 + 13) (MQ below lP1 ([.ref (ad 300)] : List Value).toArray s 1 13 (fun _ => False)) (F0 m 306 ls []) := by
          intro fu_306
          induction fu_306 with
          | zero => intro su hm; exact absurd hm (Nat.not_lt_zero _)
          | succ fu_306 ih_306 =>
            intro su hm hbs ls hl
            refine lv_iload_n hx hb dL_isSound_306 rfl (lv_at hl 2 rfl) ?_
            refine lv_iconst (v := 5) hx hb dL_isSound_307 (by decide) ?_
            refine lv_icmp_geN (su) (5) hx hb rfl rfl (by omega) (by omega) (tgt := 332) dL_isSound_308 (by decide) (fun c_308 => ?_) (fun c_308 => ?_)
            · refine lv_aload_n hx hb dL_isSound_332 rfl (lv_at hl 1 rfl) ?_
              refine lv_bipush (v := 9) hx hb dL_isSound_333 (by decide) ?_
              refine lb_P (As := [.int 9]) (rest := []) hx hb hml hown hts hK hI hB hEH (cl_count l 9 hok) (kV_X3_count hts ml_L_8 ⟨(Nat.le_of_ble_eq_true rfl), (Nat.le_of_ble_eq_true rfl)⟩) rfl hl.1 rfl (Nat.le_of_ble_eq_true rfl) dL_isSound_335 (Nat.le_of_ble_eq_true rfl) (Nat.le_of_ble_eq_true rfl) ?_
              refine lv_aload_n hx hb dL_isSound_338 rfl (lv_at hl 0 rfl) ?_
              refine lv_iconst (v := 0) hx hb dL_isSound_339 (by decide) ?_
              refine ar_ld hx hb hK hP (0) rfl (by omega) (v := (g_L_isSound_7 σ (nN σ + 1) 0 (fun _ => 0)) 0) rfl dL_isSound_340 ?_
              refine lv_aload_n hx hb dL_isSound_341 rfl (lv_at hl 0 rfl) ?_
              refine lv_iconst (v := 1) hx hb dL_isSound_342 (by decide) ?_
              refine ar_ld hx hb hK hP (1) rfl (by omega) (v := (g_L_isSound_7 σ (nN σ + 1) 0 (fun _ => 0)) 1) rfl dL_isSound_343 ?_
              refine lv_iadd hx hb dL_isSound_344 ?_
              refine lv_aload_n hx hb dL_isSound_345 rfl (lv_at hl 0 rfl) ?_
              refine lv_iconst (v := 4) hx hb dL_isSound_346 (by decide) ?_
              refine ar_ld hx hb hK hP (4) rfl (by omega) (v := (g_L_isSound_7 σ (nN σ + 1) 0 (fun _ => 0)) 4) rfl dL_isSound_347 ?_
              refine lv_iadd hx hb dL_isSound_348 ?_
              refine lv_icmp_ne (tgt := 379) hx hb dL_isSound_349 (by decide) (fun q => absurd (hF_1) q) (fun c_349 => ?_)
              refine lv_aload_n hx hb dL_isSound_352 rfl (lv_at hl 0 rfl) ?_
              refine lv_iconst (v := 0) hx hb dL_isSound_353 (by decide) ?_
              refine ar_ld hx hb hK hP (0) rfl (by omega) (v := (g_L_isSound_7 σ (nN σ + 1) 0 (fun _ => 0)) 0) rfl dL_isSound_354 ?_
              refine lv_aload_n hx hb dL_isSound_355 rfl (lv_at hl 0 rfl) ?_
              refine lv_iconst (v := 1) hx hb dL_isSound_356 (by decide) ?_
              refine ar_ld hx hb hK hP (1) rfl (by omega) (v := (g_L_isSound_7 σ (nN σ + 1) 0 (fun _ => 0)) 1) rfl dL_isSound_357 ?_
              refine lv_iadd hx hb dL_isSound_358 ?_
              refine lv_aload_n hx hb dL_isSound_359 rfl (lv_at hl 0 rfl) ?_
              refine lv_iconst (v := 2) hx hb dL_isSound_360 (by decide) ?_
              refine ar_ld hx hb hK hP (2) rfl (by omega) (v := (g_L_isSound_7 σ (nN σ + 1) 0 (fun _ => 0)) 2) rfl dL_isSound_361 ?_
              refine lv_iadd hx hb dL_isSound_362 ?_
              refine lv_aload_n hx hb dL_isSound_363 rfl (lv_at hl 0 rfl) ?_
              refine lv_iconst (v := 3) hx hb dL_isSound_364 (by decide) ?_
              refine ar_ld hx hb hK hP (3) rfl (by omega) (v := (g_L_isSound_7 σ (nN σ + 1) 0 (fun _ => 0)) 3) rfl dL_isSound_365 ?_
              refine lv_iadd hx hb dL_isSound_366 ?_
              refine lv_aload_n hx hb dL_isSound_367 rfl (lv_at hl 0 rfl) ?_
              refine lv_iconst (v := 4) hx hb dL_isSound_368 (by decide) ?_
              refine ar_ld hx hb hK hP (4) rfl (by omega) (v := (g_L_isSound_7 σ (nN σ + 1) 0 (fun _ => 0)) 4) rfl dL_isSound_369 ?_
              refine lv_iadd hx hb dL_isSound_370 ?_
              refine lv_aload_n hx hb dL_isSound_371 rfl (lv_at hl 1 rfl) ?_
              refine lv_iconst (v := 1) hx hb dL_isSound_372 (by decide) ?_
              refine lb_P (As := [.int 1]) (rest := [.int ((((((g_L_isSound_7 σ (nN σ + 1) 0 (fun _ => 0)) 0) + ((g_L_isSound_7 σ (nN σ + 1) 0 (fun _ => 0)) 1)) + ((g_L_isSound_7 σ (nN σ + 1) 0 (fun _ => 0)) 2)) + ((g_L_isSound_7 σ (nN σ + 1) 0 (fun _ => 0)) 3)) + ((g_L_isSound_7 σ (nN σ + 1) 0 (fun _ => 0)) 4))]) hx hb hml hown hts hK hI hB hEH (cl_count l 1 hok) (kV_X3_count hts ml_L_8 ⟨(Nat.le_of_ble_eq_true rfl), (Nat.le_of_ble_eq_true rfl)⟩) rfl hl.1 rfl (Nat.le_of_ble_eq_true rfl) dL_isSound_373 (Nat.le_of_ble_eq_true rfl) (Nat.le_of_ble_eq_true rfl) ?_
              refine lv_icmp_eq (tgt := 381) hx hb dL_isSound_376 (by decide) (fun c_376 => ?_) (fun q => absurd (hF_2) q)
              refine lv_iconst (v := 0) hx hb dL_isSound_381 (by decide) ?_
              refine lv_istore_n (lv' := [(2, .int (0)), (1, .ref (q0)), (0, .ref ((ad 300)))]) hx hb dL_isSound_382 rfl hl (by decide) rfl (fun ls hl => ?_)
              refine lv_iconst (v := 0) hx hb dL_isSound_383 (by decide) ?_
              refine lv_istore_n (lv' := [(3, .int (0)), (2, .int (0)), (1, .ref (q0)), (0, .ref ((ad 300)))]) hx hb dL_isSound_384 rfl hl (by decide) rfl (fun ls hl => ?_)
              have L_385 : ∀ (fu : Nat) (cu : Nat) (x2 : Int32), 8 - cu < fu → (cu ≤ 8) → g_L_isSound_385 σ fu cu x2 = g_L_isSound_385 σ 9 0 0 → ∀ ls, lv_has ls 8 [(1, .ref (q0)), (0, .ref ((ad 300))), (3, .int (nI cu)), (2, .int (x2))] → W p l e rm_L_isSound s m ([.ref (ad 300)] : List Value).toArray below meth c H locs (0 + 1) (0 + 13) (MQ below lP1 ([.ref (ad 300)] : List Value).toArray s 1 13 (fun _ => False)) (F0 m 385 ls []) := by
                intro fu_385
                induction fu_385 with
                | zero => intro cu x2 hm; exact absurd hm (Nat.not_lt_zero _)
                | succ fu_385 ih_385 =>
                  intro cu x2 hm hbc hg_385 ls hl
                  refine lv_iload_n hx hb dL_isSound_385 rfl (lv_at hl 2 rfl) ?_
                  refine lv_bipush (v := 8) hx hb dL_isSound_386 (by decide) ?_
                  refine lv_icmp_geN (cu) (8) hx hb rfl rfl (by omega) (by omega) (tgt := 445) dL_isSound_388 (by decide) (fun c_388 => ?_) (fun c_388 => ?_)
                  · have ex_x2 : x2 = g_L_isSound_385 σ 9 0 0 := ((br_p c_388 rfl) : x2 = g_L_isSound_385 σ (fu_385 + 1) cu x2).trans hg_385
                    subst ex_x2
                    refine lv_iconst (v := 0) hx hb dL_isSound_445 (by decide) ?_
                    refine lv_istore_n (lv' := [(3, .int (0)), (1, .ref (q0)), (0, .ref ((ad 300))), (2, .int ((g_L_isSound_385 σ 9 0 0)))]) hx hb dL_isSound_446 rfl hl (by decide) rfl (fun ls hl => ?_)
                    refine lv_iconst (v := 0) hx hb dL_isSound_447 (by decide) ?_
                    refine lv_istore (lv' := [(4, .int (0)), (3, .int (0)), (1, .ref (q0)), (0, .ref ((ad 300))), (2, .int ((g_L_isSound_385 σ 9 0 0)))]) hx hb dL_isSound_448 hl (by decide) rfl (fun ls hl => ?_)
                    have L_450 : ∀ (fu : Nat) (ti : Nat) (x3 : Int32), nT σ - ti < fu → (ti ≤ nT σ) → g_L_isSound_450 σ fu ti x3 = g_L_isSound_450 σ (nT σ + 1) 0 0 → ∀ ls, lv_has ls 8 [(1, .ref (q0)), (0, .ref ((ad 300))), (2, .int ((g_L_isSound_385 σ 9 0 0))), (4, .int (nI ti)), (3, .int (x3))] → W p l e rm_L_isSound s m ([.ref (ad 300)] : List Value).toArray below meth c H locs (0 + 1) (0 + 13) (MQ below lP1 ([.ref (ad 300)] : List Value).toArray s 1 13 (fun _ => False)) (F0 m 450 ls []) := by
                      intro fu_450
                      induction fu_450 with
                      | zero => intro ti x3 hm; exact absurd hm (Nat.not_lt_zero _)
                      | succ fu_450 ih_450 =>
                        intro ti x3 hm hbt hg_450 ls hl
                        refine lv_iload hx hb dL_isSound_450 (lv_at hl 3 rfl) ?_
                        refine lv_aload_n hx hb dL_isSound_452 rfl (lv_at hl 1 rfl) ?_
                        refine lv_iconst (v := 0) hx hb dL_isSound_453 (by decide) ?_
                        refine lb_P (As := [.int 0]) (rest := [.int (nI ti)]) hx hb hml hown hts hK hI hB hEH (cl_count l 0 hok) (kV_X3_count hts ml_L_8 ⟨(Nat.le_of_ble_eq_true rfl), (Nat.le_of_ble_eq_true rfl)⟩) rfl hl.1 rfl (Nat.le_of_ble_eq_true rfl) dL_isSound_454 (Nat.le_of_ble_eq_true rfl) (Nat.le_of_ble_eq_true rfl) ?_
                        refine lv_icmp_geN (ti) (nT σ) hx hb rfl (num_0 hok) (by omega) (by omega) (tgt := 692) dL_isSound_457 (by decide) (fun c_457 => ?_) (fun c_457 => ?_)
                        · have ex_x3 : x3 = g_L_isSound_450 σ (nT σ + 1) 0 0 := ((br_p c_457 rfl) : x3 = g_L_isSound_450 σ (fu_450 + 1) ti x3).trans hg_450
                          subst ex_x3
                          refine lv_iconst (v := 0) hx hb dL_isSound_692 (by decide) ?_
                          refine lv_istore (lv' := [(4, .int (0)), (1, .ref (q0)), (0, .ref ((ad 300))), (2, .int ((g_L_isSound_385 σ 9 0 0))), (3, .int ((g_L_isSound_450 σ (nT σ + 1) 0 0)))]) hx hb dL_isSound_693 hl (by decide) rfl (fun ls hl => ?_)
                          refine lv_iconst (v := 0) hx hb dL_isSound_695 (by decide) ?_
                          refine lv_istore (lv' := [(5, .int (0)), (4, .int (0)), (1, .ref (q0)), (0, .ref ((ad 300))), (2, .int ((g_L_isSound_385 σ 9 0 0))), (3, .int ((g_L_isSound_450 σ (nT σ + 1) 0 0)))]) hx hb dL_isSound_696 hl (by decide) rfl (fun ls hl => ?_)
                          have L_698 : ∀ (fu : Nat) (bk : Nat) (x4 : Int32), 5 - bk < fu → (bk ≤ 5) → g_L_isSound_698 σ fu bk x4 = g_L_isSound_698 σ 6 0 0 → ∀ ls, lv_has ls 8 [(1, .ref (q0)), (0, .ref ((ad 300))), (2, .int ((g_L_isSound_385 σ 9 0 0))), (3, .int ((g_L_isSound_450 σ (nT σ + 1) 0 0))), (5, .int (nI bk)), (4, .int (x4))] → W p l e rm_L_isSound s m ([.ref (ad 300)] : List Value).toArray below meth c H locs (0 + 1) (0 + 13) (MQ below lP1 ([.ref (ad 300)] : List Value).toArray s 1 13 (fun _ => False)) (F0 m 698 ls []) := by
                            intro fu_698
                            induction fu_698 with
                            | zero => intro bk x4 hm; exact absurd hm (Nat.not_lt_zero _)
                            | succ fu_698 ih_698 =>
                              intro bk x4 hm hbb hg_698 ls hl
                              refine lv_iload hx hb dL_isSound_698 (lv_at hl 4 rfl) ?_
                              refine lv_iconst (v := 5) hx hb dL_isSound_700 (by decide) ?_
                              refine lv_icmp_geN (bk) (5) hx hb rfl rfl (by omega) (by omega) (tgt := 721) dL_isSound_701 (by decide) (fun c_701 => ?_) (fun c_701 => ?_)
                              · have ex_x4 : x4 = g_L_isSound_698 σ 6 0 0 := ((br_p c_701 rfl) : x4 = g_L_isSound_698 σ (fu_698 + 1) bk x4).trans hg_698
                                subst ex_x4
                                refine lv_iload_n hx hb dL_isSound_721 rfl (lv_at hl 3 rfl) ?_
                                refine lv_aload_n hx hb dL_isSound_722 rfl (lv_at hl 1 rfl) ?_
                                refine lv_iconst (v := 1) hx hb dL_isSound_723 (by decide) ?_
                                refine lb_P (As := [.int 1]) (rest := [.int ((g_L_isSound_450 σ (nT σ + 1) 0 0))]) hx hb hml hown hts hK hI hB hEH (cl_count l 1 hok) (kV_X3_count hts ml_L_8 ⟨(Nat.le_of_ble_eq_true rfl), (Nat.le_of_ble_eq_true rfl)⟩) rfl hl.1 rfl (Nat.le_of_ble_eq_true rfl) dL_isSound_724 (Nat.le_of_ble_eq_true rfl) (Nat.le_of_ble_eq_true rfl) ?_
                                refine lv_icmp_ne (tgt := 800) hx hb dL_isSound_727 (by decide) (fun q => absurd (hF_3) q) (fun c_727 => ?_)
                                refine lv_iload_n hx hb dL_isSound_730 rfl (lv_at hl 2 rfl) ?_
                                refine lv_aload_n hx hb dL_isSound_731 rfl (lv_at hl 1 rfl) ?_
                                refine lv_iconst (v := 0) hx hb dL_isSound_732 (by decide) ?_
                                refine lb_P (As := [.int 0]) (rest := [.int ((g_L_isSound_385 σ 9 0 0))]) hx hb hml hown hts hK hI hB hEH (cl_book l 0) (kV_X3_book hts ml_L_30 ⟨(Nat.le_of_ble_eq_true rfl), (Nat.le_of_ble_eq_true rfl)⟩) rfl hl.1 rfl (Nat.le_of_ble_eq_true rfl) dL_isSound_733 (Nat.le_of_ble_eq_true rfl) (Nat.le_of_ble_eq_true rfl) ?_
                                refine lv_aload_n hx hb dL_isSound_736 rfl (lv_at hl 1 rfl) ?_
                                refine lv_iconst (v := 1) hx hb dL_isSound_737 (by decide) ?_
                                refine lb_P (As := [.int 1]) (rest := [.int ((f_X2_sumOf σ 0)), .int ((g_L_isSound_385 σ 9 0 0))]) hx hb hml hown hts hK hI hB hEH (cl_book l 1) (kV_X3_book hts ml_L_30 ⟨(Nat.le_of_ble_eq_true rfl), (Nat.le_of_ble_eq_true rfl)⟩) rfl hl.1 rfl (Nat.le_of_ble_eq_true rfl) dL_isSound_738 (Nat.le_of_ble_eq_true rfl) (Nat.le_of_ble_eq_true rfl) ?_
                                refine lv_iadd hx hb dL_isSound_741 ?_
                                refine lv_aload_n hx hb dL_isSound_742 rfl (lv_at hl 1 rfl) ?_
                                refine lv_iconst (v := 2) hx hb dL_isSound_743 (by decide) ?_
                                refine lb_P (As := [.int 2]) (rest := [.int ((f_X2_sumOf σ 0) + (f_X2_sumOf σ 1)), .int ((g_L_isSound_385 σ 9 0 0))]) hx hb hml hown hts hK hI hB hEH (cl_book l 2) (kV_X3_book hts ml_L_30 ⟨(Nat.le_of_ble_eq_true rfl), (Nat.le_of_ble_eq_true rfl)⟩) rfl hl.1 rfl (Nat.le_of_ble_eq_true rfl) dL_isSound_744 (Nat.le_of_ble_eq_true rfl) (Nat.le_of_ble_eq_true rfl) ?_
                                refine lv_iadd hx hb dL_isSound_747 ?_
                                refine lv_aload_n hx hb dL_isSound_748 rfl (lv_at hl 1 rfl) ?_
                                refine lv_iconst (v := 3) hx hb dL_isSound_749 (by decide) ?_
                                refine lb_P (As := [.int 3]) (rest := [.int (((f_X2_sumOf σ 0) + (f_X2_sumOf σ 1)) + (f_X2_sumOf σ 2)), .int ((g_L_isSound_385 σ 9 0 0))]) hx hb hml hown hts hK hI hB hEH (cl_book l 3) (kV_X3_book hts ml_L_30 ⟨(Nat.le_of_ble_eq_true rfl), (Nat.le_of_ble_eq_true rfl)⟩) rfl hl.1 rfl (Nat.le_of_ble_eq_true rfl) dL_isSound_750 (Nat.le_of_ble_eq_true rfl) (Nat.le_of_ble_eq_true rfl) ?_
                                refine lv_iadd hx hb dL_isSound_753 ?_
                                refine lv_icmp_ne (tgt := 800) hx hb dL_isSound_754 (by decide) (fun q => absurd (hF_4) q) (fun c_754 => ?_)
                                refine lv_aload_n hx hb dL_isSound_757 rfl (lv_at hl 1 rfl) ?_
                                refine lv_bipush (v := 7) hx hb dL_isSound_758 (by decide) ?_
                                refine lb_P (As := [.int 7]) (rest := []) hx hb hml hown hts hK hI hB hEH (cl_book l 7) (kV_X3_book hts ml_L_30 ⟨(Nat.le_of_ble_eq_true rfl), (Nat.le_of_ble_eq_true rfl)⟩) rfl hl.1 rfl (Nat.le_of_ble_eq_true rfl) dL_isSound_760 (Nat.le_of_ble_eq_true rfl) (Nat.le_of_ble_eq_true rfl) ?_
                                refine lv_ldc (v := 100000000) hx hb hown (hts _ (List.mem_cons_of_mem _ mk_L_33)) dL_isSound_763 ?_
                                refine lv_iload hx hb dL_isSound_765 (lv_at hl 5 rfl) ?_
                                refine lv_iadd hx hb dL_isSound_767 ?_
                                refine lv_aload_n hx hb dL_isSound_768 rfl (lv_at hl 1 rfl) ?_
                                refine lv_iconst (v := 5) hx hb dL_isSound_769 (by decide) ?_
                                refine lb_P (As := [.int 5]) (rest := [.int (100000000 + (g_L_isSound_698 σ 6 0 0)), .int ((f_X2_sumOf σ 7))]) hx hb hml hown hts hK hI hB hEH (cl_book l 5) (kV_X3_book hts ml_L_30 ⟨(Nat.le_of_ble_eq_true rfl), (Nat.le_of_ble_eq_true rfl)⟩) rfl hl.1 rfl (Nat.le_of_ble_eq_true rfl) dL_isSound_770 (Nat.le_of_ble_eq_true rfl) (Nat.le_of_ble_eq_true rfl) ?_
                                refine lv_isub hx hb dL_isSound_773 ?_
                                refine lv_aload_n hx hb dL_isSound_774 rfl (lv_at hl 1 rfl) ?_
                                refine lv_bipush (v := 6) hx hb dL_isSound_775 (by decide) ?_
                                refine lb_P (As := [.int 6]) (rest := [.int ((100000000 + (g_L_isSound_698 σ 6 0 0)) - (f_X2_sumOf σ 5)), .int ((f_X2_sumOf σ 7))]) hx hb hml hown hts hK hI hB hEH (cl_book l 6) (kV_X3_book hts ml_L_30 ⟨(Nat.le_of_ble_eq_true rfl), (Nat.le_of_ble_eq_true rfl)⟩) rfl hl.1 rfl (Nat.le_of_ble_eq_true rfl) dL_isSound_777 (Nat.le_of_ble_eq_true rfl) (Nat.le_of_ble_eq_true rfl) ?_
                                refine lv_isub hx hb dL_isSound_780 ?_
                                refine lv_icmp_ne (tgt := 800) hx hb dL_isSound_781 (by decide) (fun q => absurd (hF_5) q) (fun c_781 => ?_)
                                refine lv_aload_n hx hb dL_isSound_784 rfl (lv_at hl 1 rfl) ?_
                                refine lb_P (As := []) (rest := []) hx hb hml hown hts hK hI hB hEH (cl_served l hok) (kV_X3_served hts ml_L_34 ⟨(Nat.le_of_ble_eq_true rfl), (Nat.le_of_ble_eq_true rfl)⟩) rfl hl.1 rfl (Nat.le_of_ble_eq_true rfl) dL_isSound_785 (Nat.le_of_ble_eq_true rfl) (Nat.le_of_ble_eq_true rfl) ?_
                                refine lv_aload_n hx hb dL_isSound_788 rfl (lv_at hl 1 rfl) ?_
                                refine lv_iconst (v := 4) hx hb dL_isSound_789 (by decide) ?_
                                refine lb_P (As := [.int 4]) (rest := [.int ((f_X2_servedStudents σ))]) hx hb hml hown hts hK hI hB hEH (cl_count l 4 hok) (kV_X3_count hts ml_L_8 ⟨(Nat.le_of_ble_eq_true rfl), (Nat.le_of_ble_eq_true rfl)⟩) rfl hl.1 rfl (Nat.le_of_ble_eq_true rfl) dL_isSound_790 (Nat.le_of_ble_eq_true rfl) (Nat.le_of_ble_eq_true rfl) ?_
                                refine lv_icmp_gt (tgt := 800) hx hb dL_isSound_793 (by decide) (fun q => absurd q (hF_6)) (fun c_793 => ?_)
                                refine lv_iconst (v := 1) hx hb dL_isSound_796 (by decide) ?_
                                refine lv_goto (tgt := 801) hx hb dL_isSound_797 (by decide) ?_
                                refine va_forget hS.2.2 ?_
                                exact W.zret hx hb hr (nar_z (Or.inr rfl)) (fun t ht hW => ⟨rfl, ⟨by rw [ht]; exact hS.1, fun q h1 _ => by rw [ht]; exact hS.2.1 q h1 (Nat.not_le.mpr h1)⟩⟩) (fun q hq => absurd hq List.not_mem_nil) dL_isSound_801 hlk
                              refine lv_iload hx hb dL_isSound_704 (lv_at hl 5 rfl) ?_
                              refine lv_aload_n hx hb dL_isSound_706 rfl (lv_at hl 1 rfl) ?_
                              refine lv_iload hx hb dL_isSound_707 (lv_at hl 4 rfl) ?_
                              refine lb_P (As := [.int (nI bk)]) (rest := [.int (x4)]) hx hb hml hown hts hK hI hB hEH (cl_book l (nI bk)) (kV_X3_book hts ml_L_30 ⟨(Nat.le_of_ble_eq_true rfl), (Nat.le_of_ble_eq_true rfl)⟩) rfl hl.1 rfl (Nat.le_of_ble_eq_true rfl) dL_isSound_709 (Nat.le_of_ble_eq_true rfl) (Nat.le_of_ble_eq_true rfl) ?_
                              refine lv_iadd hx hb dL_isSound_712 ?_
                              refine lv_istore (lv' := [(4, .int (x4 + (f_X2_sumOf σ (nI bk)))), (1, .ref (q0)), (0, .ref ((ad 300))), (2, .int ((g_L_isSound_385 σ 9 0 0))), (3, .int ((g_L_isSound_450 σ (nT σ + 1) 0 0))), (5, .int (nI bk))]) hx hb dL_isSound_713 hl (by decide) rfl (fun ls hl => ?_)
                              refine lv_iinc (v := nI (bk + 1)) (lv' := [(5, .int (nI (bk + 1))), (4, .int (x4 + (f_X2_sumOf σ (nI bk)))), (1, .ref (q0)), (0, .ref ((ad 300))), (2, .int ((g_L_isSound_385 σ 9 0 0))), (3, .int ((g_L_isSound_450 σ (nT σ + 1) 0 0)))]) hx hb dL_isSound_715 hl (k := 5) rfl (nI_c1 _) (by decide) rfl (fun ls hl => ?_)
                              refine lv_goto (tgt := 698) hx hb dL_isSound_718 (by decide) ?_
                              exact ih_698 (bk + 1) (x4 + (f_X2_sumOf σ (nI bk))) (by omega) (by omega) (((br_n c_701 rfl) : g_L_isSound_698 σ fu_698 (bk + 1) (x4 + (f_X2_sumOf σ (nI bk))) = g_L_isSound_698 σ (fu_698 + 1) bk x4).trans hg_698) ls (lv_sub hl [2, 3, 4, 5, 0, 1] rfl)
                          exact L_698 6 0 0 (by omega) (by omega) rfl ls (lv_sub hl [2, 3, 4, 5, 0, 1] rfl)
                        refine lv_iconst (v := 0) hx hb dL_isSound_460 (by decide) ?_
                        refine lv_istore (lv' := [(5, .int (0)), (1, .ref (q0)), (0, .ref ((ad 300))), (2, .int ((g_L_isSound_385 σ 9 0 0))), (4, .int (nI ti)), (3, .int (x3))]) hx hb dL_isSound_461 hl (by decide) rfl (fun ls hl => ?_)
                        refine lv_iconst (v := 0) hx hb dL_isSound_463 (by decide) ?_
                        refine lv_istore (lv' := [(6, .int (0)), (5, .int (0)), (1, .ref (q0)), (0, .ref ((ad 300))), (2, .int ((g_L_isSound_385 σ 9 0 0))), (4, .int (nI ti)), (3, .int (x3))]) hx hb dL_isSound_464 hl (by decide) rfl (fun ls hl => ?_)
                        have L_466 : ∀ (fu : Nat) (co : Nat) (x5 : Int32), nC σ - co < fu → (co ≤ nC σ) → g_L_isSound_466 σ ti fu co x5 = g_L_isSound_466 σ ti (nC σ + 1) 0 0 → ∀ ls, lv_has ls 8 [(1, .ref (q0)), (0, .ref ((ad 300))), (2, .int ((g_L_isSound_385 σ 9 0 0))), (4, .int (nI ti)), (3, .int (x3)), (6, .int (nI co)), (5, .int (x5))] → W p l e rm_L_isSound s m ([.ref (ad 300)] : List Value).toArray below meth c H locs (0 + 1) (0 + 13) (MQ below lP1 ([.ref (ad 300)] : List Value).toArray s 1 13 (fun _ => False)) (F0 m 466 ls []) := by
                          intro fu_466
                          induction fu_466 with
                          | zero => intro co x5 hm; exact absurd hm (Nat.not_lt_zero _)
                          | succ fu_466 ih_466 =>
                            intro co x5 hm hbo hg_466 ls hl
                            refine lv_iload hx hb dL_isSound_466 (lv_at hl 5 rfl) ?_
                            refine lv_aload_n hx hb dL_isSound_468 rfl (lv_at hl 1 rfl) ?_
                            refine lv_iconst (v := 2) hx hb dL_isSound_469 (by decide) ?_
                            refine lb_P (As := [.int 2]) (rest := [.int (nI co)]) hx hb hml hown hts hK hI hB hEH (cl_count l 2 hok) (kV_X3_count hts ml_L_8 ⟨(Nat.le_of_ble_eq_true rfl), (Nat.le_of_ble_eq_true rfl)⟩) rfl hl.1 rfl (Nat.le_of_ble_eq_true rfl) dL_isSound_470 (Nat.le_of_ble_eq_true rfl) (Nat.le_of_ble_eq_true rfl) ?_
                            refine lv_icmp_geN (co) (nC σ) hx hb rfl (num_2 hok) (by omega) (by omega) (tgt := 597) dL_isSound_473 (by decide) (fun c_473 => ?_) (fun c_473 => ?_)
                            · have ex_x5 : x5 = g_L_isSound_466 σ ti (nC σ + 1) 0 0 := ((br_p c_473 rfl) : x5 = g_L_isSound_466 σ ti (fu_466 + 1) co x5).trans hg_466
                              subst ex_x5
                              refine lv_aload_n hx hb dL_isSound_597 rfl (lv_at hl 1 rfl) ?_
                              refine lv_iload hx hb dL_isSound_598 (lv_at hl 3 rfl) ?_
                              refine lv_iconst (v := 3) hx hb dL_isSound_600 (by decide) ?_
                              refine lb_P (As := [.int (nI ti), .int 3]) (rest := []) hx hb hml hown hts hK hI hB hEH (cl_title l (nI ti) 3 hok) (kV_X3_title hts ml_L_18 ⟨(Nat.le_of_ble_eq_true rfl), (Nat.le_of_ble_eq_true rfl)⟩) rfl hl.1 rfl (Nat.le_of_ble_eq_true rfl) dL_isSound_601 (Nat.le_of_ble_eq_true rfl) (Nat.le_of_ble_eq_true rfl) ?_
                              refine lv_istore (lv' := [(6, .int ((f_X2_titleProperty σ (nI ti) 3))), (1, .ref (q0)), (0, .ref ((ad 300))), (2, .int ((g_L_isSound_385 σ 9 0 0))), (4, .int (nI ti)), (3, .int (x3)), (5, .int ((g_L_isSound_466 σ ti (nC σ + 1) 0 0)))]) hx hb dL_isSound_604 hl (by decide) rfl (fun ls hl => ?_)
                              refine lv_iload_n hx hb dL_isSound_606 rfl (lv_at hl 5 rfl) ?_
                              refine lv_aload_n hx hb dL_isSound_607 rfl (lv_at hl 2 rfl) ?_
                              refine lv_iload hx hb dL_isSound_608 (lv_at hl 4 rfl) ?_
                              refine lv_iconst (v := 5) hx hb dL_isSound_610 (by decide) ?_
                              refine lb_P (As := [.int (nI ti), .int 5]) (rest := [.int (x3)]) hx hb hml hown hts hK hI hB hEH (cl_title l (nI ti) 5 hok) (kV_X3_title hts ml_L_18 ⟨(Nat.le_of_ble_eq_true rfl), (Nat.le_of_ble_eq_true rfl)⟩) rfl hl.1 rfl (Nat.le_of_ble_eq_true rfl) dL_isSound_611 (Nat.le_of_ble_eq_true rfl) (Nat.le_of_ble_eq_true rfl) ?_
                              refine lv_iadd hx hb dL_isSound_614 ?_
                              refine lv_istore_n (lv' := [(3, .int (x3 + (f_X2_titleProperty σ (nI ti) 5))), (6, .int ((f_X2_titleProperty σ (nI ti) 3))), (1, .ref (q0)), (0, .ref ((ad 300))), (2, .int ((g_L_isSound_385 σ 9 0 0))), (4, .int (nI ti)), (5, .int ((g_L_isSound_466 σ ti (nC σ + 1) 0 0)))]) hx hb dL_isSound_615 rfl hl (by decide) rfl (fun ls hl => ?_)
                              refine lv_aload_n hx hb dL_isSound_616 rfl (lv_at hl 3 rfl) ?_
                              refine lv_iload hx hb dL_isSound_617 (lv_at hl 5 rfl) ?_
                              refine lv_iconst (v := 2) hx hb dL_isSound_619 (by decide) ?_
                              refine lb_P (As := [.int (nI ti), .int 2]) (rest := []) hx hb hml hown hts hK hI hB hEH (cl_title l (nI ti) 2 hok) (kV_X3_title hts ml_L_18 ⟨(Nat.le_of_ble_eq_true rfl), (Nat.le_of_ble_eq_true rfl)⟩) rfl hl.1 rfl (Nat.le_of_ble_eq_true rfl) dL_isSound_620 (Nat.le_of_ble_eq_true rfl) (Nat.le_of_ble_eq_true rfl) ?_
                              refine lv_iload hx hb dL_isSound_623 (lv_at hl 6 rfl) ?_
                              refine lv_icmp_ne (tgt := 684) hx hb dL_isSound_625 (by decide) (fun q => absurd (hF_7 ti c_457) q) (fun c_625 => ?_)
                              refine lv_aload_n hx hb dL_isSound_628 rfl (lv_at hl 3 rfl) ?_
                              refine lv_iload hx hb dL_isSound_629 (lv_at hl 5 rfl) ?_
                              refine lv_iconst (v := 4) hx hb dL_isSound_631 (by decide) ?_
                              refine lb_P (As := [.int (nI ti), .int 4]) (rest := []) hx hb hml hown hts hK hI hB hEH (cl_title l (nI ti) 4 hok) (kV_X3_title hts ml_L_18 ⟨(Nat.le_of_ble_eq_true rfl), (Nat.le_of_ble_eq_true rfl)⟩) rfl hl.1 rfl (Nat.le_of_ble_eq_true rfl) dL_isSound_632 (Nat.le_of_ble_eq_true rfl) (Nat.le_of_ble_eq_true rfl) ?_
                              refine lv_iload hx hb dL_isSound_635 (lv_at hl 6 rfl) ?_
                              refine lv_iload hx hb dL_isSound_637 (lv_at hl 1 rfl) ?_
                              refine bj 651 (rest := [.int ((f_X2_titleProperty σ (nI ti) 4))]) (v := (if (g_L_isSound_466 σ ti (nC σ + 1) 0 0) ≤ (f_X2_titleProperty σ (nI ti) 3) then 0 else ((g_L_isSound_466 σ ti (nC σ + 1) 0 0) - (f_X2_titleProperty σ (nI ti) 3)))) (fun x1 hx1 => ?_) (fun J1 => ?_)
                              · subst hx1
                                refine lv_icmp_ne (tgt := 684) hx hb dL_isSound_651 (by decide) (fun q => absurd (hF_8 ti c_457) q) (fun c_651 => ?_)
                                refine lv_iload hx hb dL_isSound_654 (lv_at hl 1 rfl) ?_
                                refine lv_aload_n hx hb dL_isSound_656 rfl (lv_at hl 3 rfl) ?_
                                refine lv_iload hx hb dL_isSound_657 (lv_at hl 5 rfl) ?_
                                refine lv_iconst (v := 5) hx hb dL_isSound_659 (by decide) ?_
                                refine lb_P (As := [.int (nI ti), .int 5]) (rest := [.int ((f_X2_titleProperty σ (nI ti) 3))]) hx hb hml hown hts hK hI hB hEH (cl_title l (nI ti) 5 hok) (kV_X3_title hts ml_L_18 ⟨(Nat.le_of_ble_eq_true rfl), (Nat.le_of_ble_eq_true rfl)⟩) rfl hl.1 rfl (Nat.le_of_ble_eq_true rfl) dL_isSound_660 (Nat.le_of_ble_eq_true rfl) (Nat.le_of_ble_eq_true rfl) ?_
                                refine lv_icmp_gt (tgt := 684) hx hb dL_isSound_663 (by decide) (fun q => absurd q (hF_9 ti c_457)) (fun c_663 => ?_)
                                refine lv_aload_n hx hb dL_isSound_666 rfl (lv_at hl 3 rfl) ?_
                                refine lv_iload hx hb dL_isSound_667 (lv_at hl 5 rfl) ?_
                                refine lv_bipush (v := 6) hx hb dL_isSound_669 (by decide) ?_
                                refine lb_P (As := [.int (nI ti), .int 6]) (rest := []) hx hb hml hown hts hK hI hB hEH (cl_title l (nI ti) 6 hok) (kV_X3_title hts ml_L_18 ⟨(Nat.le_of_ble_eq_true rfl), (Nat.le_of_ble_eq_true rfl)⟩) rfl hl.1 rfl (Nat.le_of_ble_eq_true rfl) dL_isSound_671 (Nat.le_of_ble_eq_true rfl) (Nat.le_of_ble_eq_true rfl) ?_
                                refine lv_aload_n hx hb dL_isSound_674 rfl (lv_at hl 3 rfl) ?_
                                refine lv_iload hx hb dL_isSound_675 (lv_at hl 5 rfl) ?_
                                refine lv_iconst (v := 5) hx hb dL_isSound_677 (by decide) ?_
                                refine lb_P (As := [.int (nI ti), .int 5]) (rest := [.int ((f_X2_titleProperty σ (nI ti) 6))]) hx hb hml hown hts hK hI hB hEH (cl_title l (nI ti) 5 hok) (kV_X3_title hts ml_L_18 ⟨(Nat.le_of_ble_eq_true rfl), (Nat.le_of_ble_eq_true rfl)⟩) rfl hl.1 rfl (Nat.le_of_ble_eq_true rfl) dL_isSound_678 (Nat.le_of_ble_eq_true rfl) (Nat.le_of_ble_eq_true rfl) ?_
                                refine lv_icmp_le (tgt := 686) hx hb dL_isSound_681 (by decide) (fun c_681 => ?_) (fun q => absurd (hF_10 ti c_457) q)
                                refine lv_iinc (v := nI (ti + 1)) (lv' := [(4, .int (nI (ti + 1))), (3, .int (x3 + (f_X2_titleProperty σ (nI ti) 5))), (6, .int ((f_X2_titleProperty σ (nI ti) 3))), (1, .ref (q0)), (0, .ref ((ad 300))), (2, .int ((g_L_isSound_385 σ 9 0 0))), (5, .int ((g_L_isSound_466 σ ti (nC σ + 1) 0 0)))]) hx hb dL_isSound_686 hl (k := 5) rfl (nI_c1 _) (by decide) rfl (fun ls hl => ?_)
                                refine lv_goto (tgt := 450) hx hb dL_isSound_689 (by decide) ?_
                                exact ih_450 (ti + 1) (x3 + (f_X2_titleProperty σ (nI ti) 5)) (by omega) (by omega) (((br_n c_457 rfl) : g_L_isSound_450 σ fu_450 (ti + 1) (x3 + (f_X2_titleProperty σ (nI ti) 5)) = g_L_isSound_450 σ (fu_450 + 1) ti x3).trans hg_450) ls (lv_sub hl [3, 4, 5, 0, 1] rfl)
                              refine lv_icmp_le (tgt := 650) hx hb dL_isSound_639 (by decide) (fun c_639 => ?_) (fun c_639 => ?_)
                              · refine lv_iconst (v := 0) hx hb dL_isSound_650 (by decide) ?_
                                exact J1 _ (br_p c_639 rfl)
                              refine lv_iload hx hb dL_isSound_642 (lv_at hl 6 rfl) ?_
                              refine lv_iload hx hb dL_isSound_644 (lv_at hl 1 rfl) ?_
                              refine lv_isub hx hb dL_isSound_646 ?_
                              refine lv_goto (tgt := 651) hx hb dL_isSound_647 (by decide) ?_
                              exact J1 _ (br_n c_639 rfl)
                            refine lv_iload hx hb dL_isSound_476 (lv_at hl 6 rfl) ?_
                            refine lv_aload_n hx hb dL_isSound_478 rfl (lv_at hl 1 rfl) ?_
                            refine lv_iload hx hb dL_isSound_479 (lv_at hl 5 rfl) ?_
                            refine lv_iconst (v := 0) hx hb dL_isSound_481 (by decide) ?_
                            refine lb_P (As := [.int (nI co), .int 0]) (rest := [.int (x5)]) hx hb hml hown hts hK hI hB hEH (cl_course l (nI co) 0 hok) (kV_X3_course hts ml_L_24 ⟨(Nat.le_of_ble_eq_true rfl), (Nat.le_of_ble_eq_true rfl)⟩) rfl hl.1 rfl (Nat.le_of_ble_eq_true rfl) dL_isSound_482 (Nat.le_of_ble_eq_true rfl) (Nat.le_of_ble_eq_true rfl) ?_
                            refine lv_iload hx hb dL_isSound_485 (lv_at hl 3 rfl) ?_
                            refine bj 501 (rest := [.int (x5)]) (v := (if (f_X2_courseProperty σ (nI co) 0) = (nI ti) then (f_X2_courseProperty σ (nI co) 2) else 0)) (fun x2 hx2 => ?_) (fun J2 => ?_)
                            · subst hx2
                              refine lv_iadd hx hb dL_isSound_501 ?_
                              refine lv_istore (lv' := [(5, .int (x5 + (if (f_X2_courseProperty σ (nI co) 0) = (nI ti) then (f_X2_courseProperty σ (nI co) 2) else 0))), (1, .ref (q0)), (0, .ref ((ad 300))), (2, .int ((g_L_isSound_385 σ 9 0 0))), (4, .int (nI ti)), (3, .int (x3)), (6, .int (nI co))]) hx hb dL_isSound_502 hl (by decide) rfl (fun ls hl => ?_)
                              refine lv_aload_n hx hb dL_isSound_504 rfl (lv_at hl 2 rfl) ?_
                              refine lv_iload hx hb dL_isSound_505 (lv_at hl 6 rfl) ?_
                              refine lb_P (As := [.int (nI co)]) (rest := []) hx hb hml hown hts hK hI hB hEH (cl_next l (nI co) hok) (kV_X3_next hts ml_L_27 ⟨(Nat.le_of_ble_eq_true rfl), (Nat.le_of_ble_eq_true rfl)⟩) rfl hl.1 rfl (Nat.le_of_ble_eq_true rfl) dL_isSound_507 (Nat.le_of_ble_eq_true rfl) (Nat.le_of_ble_eq_true rfl) ?_
                              refine lv_istore (lv' := [(7, .int ((f_X2_nextCopy σ (nI co)))), (5, .int (x5 + (if (f_X2_courseProperty σ (nI co) 0) = (nI ti) then (f_X2_courseProperty σ (nI co) 2) else 0))), (1, .ref (q0)), (0, .ref ((ad 300))), (2, .int ((g_L_isSound_385 σ 9 0 0))), (4, .int (nI ti)), (3, .int (x3)), (6, .int (nI co))]) hx hb dL_isSound_510 hl (by decide) rfl (fun ls hl => ?_)
                              refine lv_iload hx hb dL_isSound_512 (lv_at hl 0 rfl) ?_
                              refine bj 522 (rest := []) (v := (if (f_X2_nextCopy σ (nI co)) < 0 then 0 else 1)) (fun x3 hx3 => ?_) (fun J3 => ?_)
                              · subst hx3
                                refine lv_aload_n hx hb dL_isSound_522 rfl (lv_at hl 3 rfl) ?_
                                refine lv_iload hx hb dL_isSound_523 (lv_at hl 7 rfl) ?_
                                refine lv_iconst (v := 3) hx hb dL_isSound_525 (by decide) ?_
                                refine lb_P (As := [.int (nI co), .int 3]) (rest := [.int ((if (f_X2_nextCopy σ (nI co)) < 0 then 0 else 1))]) hx hb hml hown hts hK hI hB hEH (cl_course l (nI co) 3 hok) (kV_X3_course hts ml_L_24 ⟨(Nat.le_of_ble_eq_true rfl), (Nat.le_of_ble_eq_true rfl)⟩) rfl hl.1 rfl (Nat.le_of_ble_eq_true rfl) dL_isSound_526 (Nat.le_of_ble_eq_true rfl) (Nat.le_of_ble_eq_true rfl) ?_
                                refine bj 537 (rest := [.int ((if (f_X2_nextCopy σ (nI co)) < 0 then 0 else 1))]) (v := (if (f_X2_courseProperty σ (nI co) 3) ≤ 0 then 0 else 1)) (fun x4 hx4 => ?_) (fun J4 => ?_)
                                · subst hx4
                                  refine lv_icmp_ne (tgt := 589) hx hb dL_isSound_537 (by decide) (fun q => absurd (hF_11 ti co c_457 c_473) q) (fun c_537 => ?_)
                                  refine lv_iload hx hb dL_isSound_540 (lv_at hl 0 rfl) ?_
                                  refine lv_if_lt (tgt := 591) hx hb dL_isSound_542 (by decide) (fun c_542 => ?_) (fun c_542 => ?_)
                                  · refine lv_iinc (v := nI (co + 1)) (lv' := [(6, .int (nI (co + 1))), (7, .int ((f_X2_nextCopy σ (nI co)))), (5, .int (x5 + (if (f_X2_courseProperty σ (nI co) 0) = (nI ti) then (f_X2_courseProperty σ (nI co) 2) else 0))), (1, .ref (q0)), (0, .ref ((ad 300))), (2, .int ((g_L_isSound_385 σ 9 0 0))), (4, .int (nI ti)), (3, .int (x3))]) hx hb dL_isSound_591 hl (k := 7) rfl (nI_c1 _) (by decide) rfl (fun ls hl => ?_)
                                    refine lv_goto (tgt := 466) hx hb dL_isSound_594 (by decide) ?_
                                    exact ih_466 (co + 1) (x5 + (if (f_X2_courseProperty σ (nI co) 0) = (nI ti) then (f_X2_courseProperty σ (nI co) 2) else 0)) (by omega) (by omega) (((br_n c_473 (br_p c_542 rfl)) : g_L_isSound_466 σ ti fu_466 (co + 1) (x5 + (if (f_X2_courseProperty σ (nI co) 0) = (nI ti) then (f_X2_courseProperty σ (nI co) 2) else 0)) = g_L_isSound_466 σ ti (fu_466 + 1) co x5).trans hg_466) ls (lv_sub hl [3, 4, 5, 6, 7, 0, 2] rfl)
                                  refine lv_aload_n hx hb dL_isSound_545 rfl (lv_at hl 3 rfl) ?_
                                  refine lv_iload hx hb dL_isSound_546 (lv_at hl 0 rfl) ?_
                                  refine lv_iconst (v := 3) hx hb dL_isSound_548 (by decide) ?_
                                  refine lb_P (As := [.int (f_X2_nextCopy σ (nI co)), .int 3]) (rest := []) hx hb hml hown hts hK hI hB hEH (cl_copy l (f_X2_nextCopy σ (nI co)) 3 hok) (kV_X3_copy hts ml_L_14 ⟨(Nat.le_of_ble_eq_true rfl), (Nat.le_of_ble_eq_true rfl)⟩) rfl hl.1 rfl (Nat.le_of_ble_eq_true rfl) dL_isSound_549 (Nat.le_of_ble_eq_true rfl) (Nat.le_of_ble_eq_true rfl) ?_
                                  refine lv_if_ne (tgt := 589) hx hb dL_isSound_552 (by decide) (fun q => absurd (hF_12 ti co c_457 c_473 c_542) q) (fun c_552 => ?_)
                                  refine lv_aload_n hx hb dL_isSound_555 rfl (lv_at hl 3 rfl) ?_
                                  refine lv_iload hx hb dL_isSound_556 (lv_at hl 0 rfl) ?_
                                  refine lv_iconst (v := 0) hx hb dL_isSound_558 (by decide) ?_
                                  refine lb_P (As := [.int (f_X2_nextCopy σ (nI co)), .int 0]) (rest := []) hx hb hml hown hts hK hI hB hEH (cl_copy l (f_X2_nextCopy σ (nI co)) 0 hok) (kV_X3_copy hts ml_L_14 ⟨(Nat.le_of_ble_eq_true rfl), (Nat.le_of_ble_eq_true rfl)⟩) rfl hl.1 rfl (Nat.le_of_ble_eq_true rfl) dL_isSound_559 (Nat.le_of_ble_eq_true rfl) (Nat.le_of_ble_eq_true rfl) ?_
                                  refine lv_aload_n hx hb dL_isSound_562 rfl (lv_at hl 3 rfl) ?_
                                  refine lv_iload hx hb dL_isSound_563 (lv_at hl 7 rfl) ?_
                                  refine lv_iconst (v := 0) hx hb dL_isSound_565 (by decide) ?_
                                  refine lb_P (As := [.int (nI co), .int 0]) (rest := [.int ((f_X2_copyProperty σ (f_X2_nextCopy σ (nI co)) 0))]) hx hb hml hown hts hK hI hB hEH (cl_course l (nI co) 0 hok) (kV_X3_course hts ml_L_24 ⟨(Nat.le_of_ble_eq_true rfl), (Nat.le_of_ble_eq_true rfl)⟩) rfl hl.1 rfl (Nat.le_of_ble_eq_true rfl) dL_isSound_566 (Nat.le_of_ble_eq_true rfl) (Nat.le_of_ble_eq_true rfl) ?_
                                  refine lv_icmp_ne (tgt := 589) hx hb dL_isSound_569 (by decide) (fun q => absurd (hF_13 ti co c_457 c_473 c_542) q) (fun c_569 => ?_)
                                  refine lv_aload_n hx hb dL_isSound_572 rfl (lv_at hl 3 rfl) ?_
                                  refine lv_iload hx hb dL_isSound_573 (lv_at hl 0 rfl) ?_
                                  refine lv_iconst (v := 1) hx hb dL_isSound_575 (by decide) ?_
                                  refine lb_P (As := [.int (f_X2_nextCopy σ (nI co)), .int 1]) (rest := []) hx hb hml hown hts hK hI hB hEH (cl_copy l (f_X2_nextCopy σ (nI co)) 1 hok) (kV_X3_copy hts ml_L_14 ⟨(Nat.le_of_ble_eq_true rfl), (Nat.le_of_ble_eq_true rfl)⟩) rfl hl.1 rfl (Nat.le_of_ble_eq_true rfl) dL_isSound_576 (Nat.le_of_ble_eq_true rfl) (Nat.le_of_ble_eq_true rfl) ?_
                                  refine lv_aload_n hx hb dL_isSound_579 rfl (lv_at hl 3 rfl) ?_
                                  refine lv_iload hx hb dL_isSound_580 (lv_at hl 7 rfl) ?_
                                  refine lv_iconst (v := 1) hx hb dL_isSound_582 (by decide) ?_
                                  refine lb_P (As := [.int (nI co), .int 1]) (rest := [.int ((f_X2_copyProperty σ (f_X2_nextCopy σ (nI co)) 1))]) hx hb hml hown hts hK hI hB hEH (cl_course l (nI co) 1 hok) (kV_X3_course hts ml_L_24 ⟨(Nat.le_of_ble_eq_true rfl), (Nat.le_of_ble_eq_true rfl)⟩) rfl hl.1 rfl (Nat.le_of_ble_eq_true rfl) dL_isSound_583 (Nat.le_of_ble_eq_true rfl) (Nat.le_of_ble_eq_true rfl) ?_
                                  refine lv_icmp_ge (tgt := 591) hx hb dL_isSound_586 (by decide) (fun c_586 => ?_) (fun q => absurd (hF_14 ti co c_457 c_473 c_542) q)
                                  refine lv_iinc (v := nI (co + 1)) (lv' := [(6, .int (nI (co + 1))), (7, .int ((f_X2_nextCopy σ (nI co)))), (5, .int (x5 + (if (f_X2_courseProperty σ (nI co) 0) = (nI ti) then (f_X2_courseProperty σ (nI co) 2) else 0))), (1, .ref (q0)), (0, .ref ((ad 300))), (2, .int ((g_L_isSound_385 σ 9 0 0))), (4, .int (nI ti)), (3, .int (x3))]) hx hb dL_isSound_591 hl (k := 7) rfl (nI_c1 _) (by decide) rfl (fun ls hl => ?_)
                                  refine lv_goto (tgt := 466) hx hb dL_isSound_594 (by decide) ?_
                                  exact ih_466 (co + 1) (x5 + (if (f_X2_courseProperty σ (nI co) 0) = (nI ti) then (f_X2_courseProperty σ (nI co) 2) else 0)) (by omega) (by omega) (((br_n c_473 (br_n c_542 rfl)) : g_L_isSound_466 σ ti fu_466 (co + 1) (x5 + (if (f_X2_courseProperty σ (nI co) 0) = (nI ti) then (f_X2_courseProperty σ (nI co) 2) else 0)) = g_L_isSound_466 σ ti (fu_466 + 1) co x5).trans hg_466) ls (lv_sub hl [3, 4, 5, 6, 7, 0, 2] rfl)
                                refine lv_if_le (tgt := 536) hx hb dL_isSound_529 (by decide) (fun c_529 => ?_) (fun c_529 => ?_)
                                · refine lv_iconst (v := 0) hx hb dL_isSound_536 (by decide) ?_
                                  exact J4 _ (br_p c_529 rfl)
                                refine lv_iconst (v := 1) hx hb dL_isSound_532 (by decide) ?_
                                refine lv_goto (tgt := 537) hx hb dL_isSound_533 (by decide) ?_
                                exact J4 _ (br_n c_529 rfl)
                              refine lv_if_lt (tgt := 521) hx hb dL_isSound_514 (by decide) (fun c_514 => ?_) (fun c_514 => ?_)
                              · refine lv_iconst (v := 0) hx hb dL_isSound_521 (by decide) ?_
                                exact J3 _ (br_p c_514 rfl)
                              refine lv_iconst (v := 1) hx hb dL_isSound_517 (by decide) ?_
                              refine lv_goto (tgt := 522) hx hb dL_isSound_518 (by decide) ?_
                              exact J3 _ (br_n c_514 rfl)
                            refine lv_icmp_ne (tgt := 500) hx hb dL_isSound_487 (by decide) (fun c_487 => ?_) (fun c_487 => ?_)
                            · refine lv_iconst (v := 0) hx hb dL_isSound_500 (by decide) ?_
                              exact J2 _ (br_n c_487 rfl)
                            refine lv_aload_n hx hb dL_isSound_490 rfl (lv_at hl 1 rfl) ?_
                            refine lv_iload hx hb dL_isSound_491 (lv_at hl 5 rfl) ?_
                            refine lv_iconst (v := 2) hx hb dL_isSound_493 (by decide) ?_
                            refine lb_P (As := [.int (nI co), .int 2]) (rest := [.int (x5)]) hx hb hml hown hts hK hI hB hEH (cl_course l (nI co) 2 hok) (kV_X3_course hts ml_L_24 ⟨(Nat.le_of_ble_eq_true rfl), (Nat.le_of_ble_eq_true rfl)⟩) rfl hl.1 rfl (Nat.le_of_ble_eq_true rfl) dL_isSound_494 (Nat.le_of_ble_eq_true rfl) (Nat.le_of_ble_eq_true rfl) ?_
                            refine lv_goto (tgt := 501) hx hb dL_isSound_497 (by decide) ?_
                            exact J2 _ (br_p c_487 rfl)
                        exact L_466 (nC σ + 1) 0 0 (by omega) (by omega) rfl ls (lv_sub hl [2, 3, 4, 5, 6, 0, 1] rfl)
                    exact L_450 (nT σ + 1) 0 0 (by omega) (by omega) rfl ls (lv_sub hl [2, 3, 4, 0, 1] rfl)
                  refine lv_iload_n hx hb dL_isSound_391 rfl (lv_at hl 3 rfl) ?_
                  refine lv_aload_n hx hb dL_isSound_392 rfl (lv_at hl 1 rfl) ?_
                  refine lv_iload_n hx hb dL_isSound_393 rfl (lv_at hl 2 rfl) ?_
                  refine lv_iconst (v := 2) hx hb dL_isSound_394 (by decide) ?_
                  refine lb_P (As := [.int (nI cu), .int 2]) (rest := [.int (x2)]) hx hb hml hown hts hK hI hB hEH (cl_customer l (nI cu) 2 hok) (kV_X3_customer hts ml_L_21 ⟨(Nat.le_of_ble_eq_true rfl), (Nat.le_of_ble_eq_true rfl)⟩) rfl hl.1 rfl (Nat.le_of_ble_eq_true rfl) dL_isSound_395 (Nat.le_of_ble_eq_true rfl) (Nat.le_of_ble_eq_true rfl) ?_
                  refine lv_iadd hx hb dL_isSound_398 ?_
                  refine lv_istore_n (lv' := [(2, .int (x2 + (f_X2_customerNumber σ (nI cu) 2))), (1, .ref (q0)), (0, .ref ((ad 300))), (3, .int (nI cu))]) hx hb dL_isSound_399 rfl hl (by decide) rfl (fun ls hl => ?_)
                  refine lv_aload_n hx hb dL_isSound_400 rfl (lv_at hl 2 rfl) ?_
                  refine lv_iload_n hx hb dL_isSound_401 rfl (lv_at hl 3 rfl) ?_
                  refine lv_iconst (v := 0) hx hb dL_isSound_402 (by decide) ?_
                  refine lb_P (As := [.int (nI cu), .int 0]) (rest := []) hx hb hml hown hts hK hI hB hEH (cl_customer l (nI cu) 0 hok) (kV_X3_customer hts ml_L_21 ⟨(Nat.le_of_ble_eq_true rfl), (Nat.le_of_ble_eq_true rfl)⟩) rfl hl.1 rfl (Nat.le_of_ble_eq_true rfl) dL_isSound_403 (Nat.le_of_ble_eq_true rfl) (Nat.le_of_ble_eq_true rfl) ?_
                  refine lv_aload_n hx hb dL_isSound_406 rfl (lv_at hl 1 rfl) ?_
                  refine lv_iconst (v := 5) hx hb dL_isSound_407 (by decide) ?_
                  refine lv_iload_n hx hb dL_isSound_408 rfl (lv_at hl 3 rfl) ?_
                  refine lv_iaddN (x := 5) (y := cu) hx hb rfl rfl dL_isSound_409 ?_
                  refine ar_ld hx hb hK hP ((5 + cu)) rfl (by omega) (v := (g_L_isSound_7 σ (nN σ + 1) 0 (fun _ => 0)) (5 + cu)) rfl dL_isSound_410 ?_
                  refine lv_icmp_ne (tgt := 437) hx hb dL_isSound_411 (by decide) (fun q => absurd (hF_15 cu c_388) q) (fun c_411 => ?_)
                  refine lv_aload_n hx hb dL_isSound_414 rfl (lv_at hl 1 rfl) ?_
                  refine lv_iconst (v := 5) hx hb dL_isSound_415 (by decide) ?_
                  refine lv_iload_n hx hb dL_isSound_416 rfl (lv_at hl 3 rfl) ?_
                  refine lv_iaddN (x := 5) (y := cu) hx hb rfl rfl dL_isSound_417 ?_
                  refine ar_ld hx hb hK hP ((5 + cu)) rfl (by omega) (v := (g_L_isSound_7 σ (nN σ + 1) 0 (fun _ => 0)) (5 + cu)) rfl dL_isSound_418 ?_
                  refine lv_iconst (v := 4) hx hb dL_isSound_419 (by decide) ?_
                  refine lv_icmp_gt (tgt := 437) hx hb dL_isSound_420 (by decide) (fun q => absurd q (hF_16 cu c_388)) (fun c_420 => ?_)
                  refine lv_aload_n hx hb dL_isSound_423 rfl (lv_at hl 2 rfl) ?_
                  refine lv_iload_n hx hb dL_isSound_424 rfl (lv_at hl 3 rfl) ?_
                  refine lv_iconst (v := 1) hx hb dL_isSound_425 (by decide) ?_
                  refine lb_P (As := [.int (nI cu), .int 1]) (rest := []) hx hb hml hown hts hK hI hB hEH (cl_customer l (nI cu) 1 hok) (kV_X3_customer hts ml_L_21 ⟨(Nat.le_of_ble_eq_true rfl), (Nat.le_of_ble_eq_true rfl)⟩) rfl hl.1 rfl (Nat.le_of_ble_eq_true rfl) dL_isSound_426 (Nat.le_of_ble_eq_true rfl) (Nat.le_of_ble_eq_true rfl) ?_
                  refine lv_aload_n hx hb dL_isSound_429 rfl (lv_at hl 1 rfl) ?_
                  refine lv_iconst (v := 5) hx hb dL_isSound_430 (by decide) ?_
                  refine lv_iload_n hx hb dL_isSound_431 rfl (lv_at hl 3 rfl) ?_
                  refine lv_iaddN (x := 5) (y := cu) hx hb rfl rfl dL_isSound_432 ?_
                  refine ar_ld hx hb hK hP ((5 + cu)) rfl (by omega) (v := (g_L_isSound_7 σ (nN σ + 1) 0 (fun _ => 0)) (5 + cu)) rfl dL_isSound_433 ?_
                  refine lv_icmp_le (tgt := 439) hx hb dL_isSound_434 (by decide) (fun c_434 => ?_) (fun q => absurd (hF_17 cu c_388) q)
                  refine lv_iinc (v := nI (cu + 1)) (lv' := [(3, .int (nI (cu + 1))), (2, .int (x2 + (f_X2_customerNumber σ (nI cu) 2))), (1, .ref (q0)), (0, .ref ((ad 300)))]) hx hb dL_isSound_439 hl (k := 3) rfl (nI_c1 _) (by decide) rfl (fun ls hl => ?_)
                  refine lv_goto (tgt := 385) hx hb dL_isSound_442 (by decide) ?_
                  exact ih_385 (cu + 1) (x2 + (f_X2_customerNumber σ (nI cu) 2)) (by omega) (by omega) (((br_n c_388 rfl) : g_L_isSound_385 σ fu_385 (cu + 1) (x2 + (f_X2_customerNumber σ (nI cu) 2)) = g_L_isSound_385 σ (fu_385 + 1) cu x2).trans hg_385) ls (lv_sub hl [2, 3, 0, 1] rfl)
              exact L_385 9 0 0 (by omega) (by omega) rfl ls (lv_sub hl [2, 3, 0, 1] rfl)
            refine lv_aload_n hx hb dL_isSound_311 rfl (lv_at hl 1 rfl) ?_
            refine lv_iconst (v := 4) hx hb dL_isSound_312 (by decide) ?_
            refine lv_iload_n hx hb dL_isSound_313 rfl (lv_at hl 2 rfl) ?_
            refine lv_iaddN (x := 4) (y := su) hx hb rfl rfl dL_isSound_314 ?_
            refine lb_P (As := [.int (nI (4 + su))]) (rest := []) hx hb hml hown hts hK hI hB hEH (cl_count l (nI (4 + su)) hok) (kV_X3_count hts ml_L_8 ⟨(Nat.le_of_ble_eq_true rfl), (Nat.le_of_ble_eq_true rfl)⟩) rfl hl.1 rfl (Nat.le_of_ble_eq_true rfl) dL_isSound_315 (Nat.le_of_ble_eq_true rfl) (Nat.le_of_ble_eq_true rfl) ?_
            refine lv_aload_n hx hb dL_isSound_318 rfl (lv_at hl 0 rfl) ?_
            refine lv_iload_n hx hb dL_isSound_319 rfl (lv_at hl 2 rfl) ?_
            refine ar_ld hx hb hK hP (su) rfl (by omega) (v := (g_L_isSound_7 σ (nN σ + 1) 0 (fun _ => 0)) su) rfl dL_isSound_320 ?_
            refine lv_icmp_eq (tgt := 326) hx hb dL_isSound_321 (by decide) (fun c_321 => ?_) (fun q => absurd (hF_18 su c_308) q)
            refine lv_iinc (v := nI (su + 1)) (lv' := [(2, .int (nI (su + 1))), (1, .ref (q0)), (0, .ref ((ad 300)))]) hx hb dL_isSound_326 hl (k := 2) rfl (nI_c1 _) (by decide) rfl (fun ls hl => ?_)
            refine lv_goto (tgt := 306) hx hb dL_isSound_329 (by decide) ?_
            exact ih_306 (su + 1) (by omega) (by omega) ls (lv_sub hl [1, 2, 0] rfl)
        exact L_306 6 0 (by omega) (by omega) ls (lv_sub hl [1, 2, 0] rfl)
      refine lv_aload_n hx hb dL_isSound_16 rfl (lv_at hl 1 rfl) ?_
      refine lv_iload_n hx hb dL_isSound_17 rfl (lv_at hl 2 rfl) ?_
      refine lv_iconst (v := 3) hx hb dL_isSound_18 (by decide) ?_
      refine lb_P (As := [.int (nI ci), .int 3]) (rest := []) hx hb hml hown hts hK hI hB hEH (cl_copy l (nI ci) 3 hok) (kV_X3_copy hts ml_L_14 ⟨(Nat.le_of_ble_eq_true rfl), (Nat.le_of_ble_eq_true rfl)⟩) rfl hl.1 rfl (Nat.le_of_ble_eq_true rfl) dL_isSound_19 (Nat.le_of_ble_eq_true rfl) (Nat.le_of_ble_eq_true rfl) ?_
      refine lv_istore_n (lv' := [(3, .int ((f_X2_copyProperty σ (nI ci) 3))), (1, .ref (q0)), (0, .ref ((ad 300))), (2, .int (nI ci))]) hx hb dL_isSound_22 rfl hl (by decide) rfl (fun ls hl => ?_)
      have hst := (hF_19 ci c_13)
      have hst2 := hst.2
      refine lv_aload_n hx hb dL_isSound_23 rfl (lv_at hl 1 rfl) ?_
      refine lv_iload_n hx hb dL_isSound_24 rfl (lv_at hl 0 rfl) ?_
      refine lv_dup2_11 hx hb dL_isSound_25 rfl rfl ?_
      refine ar_ld hx hb hK hP (stt σ ci) hst.1 (by omega) (v := ω (stt σ ci)) rfl dL_isSound_26 ?_
      refine lv_iconst (v := 1) hx hb dL_isSound_27 (by decide) ?_
      refine lv_iadd hx hb dL_isSound_28 ?_
      refine iniW hx hb hKa hP hD hS 0 rfl (stt σ ci) hst.1 (by omega) (by decide) dL_isSound_29 (fun H locs hP hD hS => ?_)
      have hP : va_P D vwCl [(q0, .inl (cI, 13, .inl (upd ω (stt σ ci) ((ω (stt σ ci)) + 1))))] H := hP
      have hD : va_D (fun q => s.heap.size ≤ q) [(q0, .inl (cI, 13, .inl (upd ω (stt σ ci) ((ω (stt σ ci)) + 1))))] := hD
      have hB : lB D cI cR ad σ H := hB0.keep hI (fun q h => hS.2.1 q h (Nat.not_le.mpr h))
      have hEH : lE v ad s H := lE_new hE hN hS.1 (fun q h => hS.2.1 q h (Nat.not_le.mpr h))
      refine lv_aload_n hx hb dL_isSound_30 rfl (lv_at hl 2 rfl) ?_
      refine lv_iload_n hx hb dL_isSound_31 rfl (lv_at hl 3 rfl) ?_
      refine lv_bipush (v := 6) hx hb dL_isSound_32 (by decide) ?_
      refine lb_P (As := [.int (nI ci), .int 6]) (rest := []) hx hb hml hown hts hK hI hB hEH (cl_copy l (nI ci) 6 hok) (kV_X3_copy hts ml_L_14 ⟨(Nat.le_of_ble_eq_true rfl), (Nat.le_of_ble_eq_true rfl)⟩) rfl hl.1 rfl (Nat.le_of_ble_eq_true rfl) dL_isSound_34 (Nat.le_of_ble_eq_true rfl) (Nat.le_of_ble_eq_true rfl) ?_
      refine lv_istore (lv' := [(4, .int ((f_X2_copyProperty σ (nI ci) 6))), (3, .int ((f_X2_copyProperty σ (nI ci) 3))), (1, .ref (q0)), (0, .ref ((ad 300))), (2, .int (nI ci))]) hx hb dL_isSound_37 hl (by decide) rfl (fun ls hl => ?_)
      refine lv_iload_n hx hb dL_isSound_39 rfl (lv_at hl 1 rfl) ?_
      refine lv_iconst (v := 1) hx hb dL_isSound_40 (by decide) ?_
      refine bj 49 (rest := []) (v := (if (f_X2_copyProperty σ (nI ci) 3) = 1 then 1 else 0)) (fun x5 hx5 => ?_) (fun J5 => ?_)
      · subst hx5
        refine lv_istore (lv' := [(5, .int ((if (f_X2_copyProperty σ (nI ci) 3) = 1 then 1 else 0))), (4, .int ((f_X2_copyProperty σ (nI ci) 6))), (3, .int ((f_X2_copyProperty σ (nI ci) 3))), (1, .ref (q0)), (0, .ref ((ad 300))), (2, .int (nI ci))]) hx hb dL_isSound_49 hl (by decide) rfl (fun ls hl => ?_)
        refine lv_iload hx hb dL_isSound_51 (lv_at hl 0 rfl) ?_
        refine bj 86 (rest := []) (v := (if (f_X2_copyProperty σ (nI ci) 3) = 1 then (if (f_X2_numberOf σ 3) ≤ (f_X2_copyProperty σ (nI ci) 5) then 0 else ((f_X2_numberOf σ 3) - (f_X2_copyProperty σ (nI ci) 5))) else 0)) (fun x6 hx6 => ?_) (fun J6 => ?_)
        · subst hx6
          refine lv_istore (lv' := [(6, .int ((if (f_X2_copyProperty σ (nI ci) 3) = 1 then (if (f_X2_numberOf σ 3) ≤ (f_X2_copyProperty σ (nI ci) 5) then 0 else ((f_X2_numberOf σ 3) - (f_X2_copyProperty σ (nI ci) 5))) else 0))), (5, .int ((if (f_X2_copyProperty σ (nI ci) 3) = 1 then 1 else 0))), (4, .int ((f_X2_copyProperty σ (nI ci) 6))), (3, .int ((f_X2_copyProperty σ (nI ci) 3))), (1, .ref (q0)), (0, .ref ((ad 300))), (2, .int (nI ci))]) hx hb dL_isSound_86 hl (by decide) rfl (fun ls hl => ?_)
          refine lv_iload hx hb dL_isSound_88 (lv_at hl 1 rfl) ?_
          refine lv_aload_n hx hb dL_isSound_90 rfl (lv_at hl 5 rfl) ?_
          refine lv_iload_n hx hb dL_isSound_91 rfl (lv_at hl 6 rfl) ?_
          refine lv_iconst (v := 4) hx hb dL_isSound_92 (by decide) ?_
          refine lb_P (As := [.int (nI ci), .int 4]) (rest := [.int ((if (f_X2_copyProperty σ (nI ci) 3) = 1 then 1 else 0))]) hx hb hml hown hts hK hI hB hEH (cl_copy l (nI ci) 4 hok) (kV_X3_copy hts ml_L_14 ⟨(Nat.le_of_ble_eq_true rfl), (Nat.le_of_ble_eq_true rfl)⟩) rfl hl.1 rfl (Nat.le_of_ble_eq_true rfl) dL_isSound_93 (Nat.le_of_ble_eq_true rfl) (Nat.le_of_ble_eq_true rfl) ?_
          refine bj 104 (rest := [.int ((if (f_X2_copyProperty σ (nI ci) 3) = 1 then 1 else 0))]) (v := (if (f_X2_copyProperty σ (nI ci) 4) < 0 then 0 else 1)) (fun x7 hx7 => ?_) (fun J7 => ?_)
          · subst hx7
            refine lv_icmp_ne (tgt := 195) hx hb dL_isSound_104 (by decide) (fun q => absurd (hF_20 ci c_13) q) (fun c_104 => ?_)
            refine lv_iload hx hb dL_isSound_107 (lv_at hl 1 rfl) ?_
            refine lv_aload_n hx hb dL_isSound_109 rfl (lv_at hl 5 rfl) ?_
            refine lv_iload_n hx hb dL_isSound_110 rfl (lv_at hl 6 rfl) ?_
            refine lv_iconst (v := 5) hx hb dL_isSound_111 (by decide) ?_
            refine lb_P (As := [.int (nI ci), .int 5]) (rest := [.int ((if (f_X2_copyProperty σ (nI ci) 3) = 1 then 1 else 0))]) hx hb hml hown hts hK hI hB hEH (cl_copy l (nI ci) 5 hok) (kV_X3_copy hts ml_L_14 ⟨(Nat.le_of_ble_eq_true rfl), (Nat.le_of_ble_eq_true rfl)⟩) rfl hl.1 rfl (Nat.le_of_ble_eq_true rfl) dL_isSound_112 (Nat.le_of_ble_eq_true rfl) (Nat.le_of_ble_eq_true rfl) ?_
            refine bj 123 (rest := [.int ((if (f_X2_copyProperty σ (nI ci) 3) = 1 then 1 else 0))]) (v := (if (f_X2_copyProperty σ (nI ci) 5) < 0 then 0 else 1)) (fun x8 hx8 => ?_) (fun J8 => ?_)
            · subst hx8
              refine lv_icmp_ne (tgt := 195) hx hb dL_isSound_123 (by decide) (fun q => absurd (hF_21 ci c_13) q) (fun c_123 => ?_)
              refine lv_iload hx hb dL_isSound_126 (lv_at hl 2 rfl) ?_
              refine lv_if_lt (tgt := 195) hx hb dL_isSound_128 (by decide) (fun q => absurd q (hF_22 ci c_13)) (fun c_128 => ?_)
              refine lv_iload hx hb dL_isSound_131 (lv_at hl 2 rfl) ?_
              refine lv_aload_n hx hb dL_isSound_133 rfl (lv_at hl 5 rfl) ?_
              refine lv_aload_n hx hb dL_isSound_134 rfl (lv_at hl 5 rfl) ?_
              refine lv_iload_n hx hb dL_isSound_135 rfl (lv_at hl 6 rfl) ?_
              refine lv_iconst (v := 0) hx hb dL_isSound_136 (by decide) ?_
              refine lb_P (As := [.int (nI ci), .int 0]) (rest := [.ref ((ad 300)), .int ((f_X2_copyProperty σ (nI ci) 6))]) hx hb hml hown hts hK hI hB hEH (cl_copy l (nI ci) 0 hok) (kV_X3_copy hts ml_L_14 ⟨(Nat.le_of_ble_eq_true rfl), (Nat.le_of_ble_eq_true rfl)⟩) rfl hl.1 rfl (Nat.le_of_ble_eq_true rfl) dL_isSound_137 (Nat.le_of_ble_eq_true rfl) (Nat.le_of_ble_eq_true rfl) ?_
              refine lv_iconst (v := 0) hx hb dL_isSound_140 (by decide) ?_
              refine lb_P (As := [.int (f_X2_copyProperty σ (nI ci) 0), .int 0]) (rest := [.int ((f_X2_copyProperty σ (nI ci) 6))]) hx hb hml hown hts hK hI hB hEH (cl_title l (f_X2_copyProperty σ (nI ci) 0) 0 hok) (kV_X3_title hts ml_L_18 ⟨(Nat.le_of_ble_eq_true rfl), (Nat.le_of_ble_eq_true rfl)⟩) rfl hl.1 rfl (Nat.le_of_ble_eq_true rfl) dL_isSound_141 (Nat.le_of_ble_eq_true rfl) (Nat.le_of_ble_eq_true rfl) ?_
              refine lv_icmp_gt (tgt := 195) hx hb dL_isSound_144 (by decide) (fun q => absurd q (hF_23 ci c_13)) (fun c_144 => ?_)
              refine lv_aload_n hx hb dL_isSound_147 rfl (lv_at hl 5 rfl) ?_
              refine lv_iload_n hx hb dL_isSound_148 rfl (lv_at hl 6 rfl) ?_
              refine lv_bipush (v := 7) hx hb dL_isSound_149 (by decide) ?_
              refine lb_P (As := [.int (nI ci), .int 7]) (rest := []) hx hb hml hown hts hK hI hB hEH (cl_copy l (nI ci) 7 hok) (kV_X3_copy hts ml_L_14 ⟨(Nat.le_of_ble_eq_true rfl), (Nat.le_of_ble_eq_true rfl)⟩) rfl hl.1 rfl (Nat.le_of_ble_eq_true rfl) dL_isSound_151 (Nat.le_of_ble_eq_true rfl) (Nat.le_of_ble_eq_true rfl) ?_
              refine lv_iload hx hb dL_isSound_154 (lv_at hl 2 rfl) ?_
              refine lv_bipush (v := 30) hx hb dL_isSound_156 (by decide) ?_
              refine lv_imul hx hb dL_isSound_158 ?_
              refine lv_bipush (v := 100) hx hb dL_isSound_159 (by decide) ?_
              refine lv_idiv hx hb dL_isSound_161 (by decide) ?_
              refine lv_icmp_ne (tgt := 195) hx hb dL_isSound_162 (by decide) (fun q => absurd (hF_24 ci c_13) q) (fun c_162 => ?_)
              refine lv_aload_n hx hb dL_isSound_165 rfl (lv_at hl 5 rfl) ?_
              refine lv_iload_n hx hb dL_isSound_166 rfl (lv_at hl 6 rfl) ?_
              refine lv_bipush (v := 8) hx hb dL_isSound_167 (by decide) ?_
              refine lb_P (As := [.int (nI ci), .int 8]) (rest := []) hx hb hml hown hts hK hI hB hEH (cl_copy l (nI ci) 8 hok) (kV_X3_copy hts ml_L_14 ⟨(Nat.le_of_ble_eq_true rfl), (Nat.le_of_ble_eq_true rfl)⟩) rfl hl.1 rfl (Nat.le_of_ble_eq_true rfl) dL_isSound_169 (Nat.le_of_ble_eq_true rfl) (Nat.le_of_ble_eq_true rfl) ?_
              refine lv_iload hx hb dL_isSound_172 (lv_at hl 2 rfl) ?_
              refine lv_bipush (v := 75) hx hb dL_isSound_174 (by decide) ?_
              refine lv_imul hx hb dL_isSound_176 ?_
              refine lv_bipush (v := 100) hx hb dL_isSound_177 (by decide) ?_
              refine lv_idiv hx hb dL_isSound_179 (by decide) ?_
              refine lv_icmp_ne (tgt := 195) hx hb dL_isSound_180 (by decide) (fun q => absurd (hF_25 ci c_13) q) (fun c_180 => ?_)
              refine lv_aload_n hx hb dL_isSound_183 rfl (lv_at hl 5 rfl) ?_
              refine lv_iload_n hx hb dL_isSound_184 rfl (lv_at hl 6 rfl) ?_
              refine lv_bipush (v := 10) hx hb dL_isSound_185 (by decide) ?_
              refine lb_P (As := [.int (nI ci), .int 10]) (rest := []) hx hb hml hown hts hK hI hB hEH (cl_copy l (nI ci) 10 hok) (kV_X3_copy hts ml_L_14 ⟨(Nat.le_of_ble_eq_true rfl), (Nat.le_of_ble_eq_true rfl)⟩) rfl hl.1 rfl (Nat.le_of_ble_eq_true rfl) dL_isSound_187 (Nat.le_of_ble_eq_true rfl) (Nat.le_of_ble_eq_true rfl) ?_
              refine lv_iload hx hb dL_isSound_190 (lv_at hl 0 rfl) ?_
              refine lv_icmp_eq (tgt := 197) hx hb dL_isSound_192 (by decide) (fun c_192 => ?_) (fun q => absurd (hF_26 ci c_13) q)
              refine lv_iload hx hb dL_isSound_197 (lv_at hl 1 rfl) ?_
              refine lv_if_eq (tgt := 216) hx hb dL_isSound_199 (by decide) (fun q => ?_) (fun q => ?_)
              · have c_199 := b10_z q
                refine lv_iconst (v := 0) hx hb dL_isSound_216 (by decide) ?_
                refine lv_istore (lv' := [(7, .int (0)), (6, .int ((if (f_X2_copyProperty σ (nI ci) 3) = 1 then (if (f_X2_numberOf σ 3) ≤ (f_X2_copyProperty σ (nI ci) 5) then 0 else ((f_X2_numberOf σ 3) - (f_X2_copyProperty σ (nI ci) 5))) else 0))), (5, .int ((if (f_X2_copyProperty σ (nI ci) 3) = 1 then 1 else 0))), (4, .int ((f_X2_copyProperty σ (nI ci) 6))), (3, .int ((f_X2_copyProperty σ (nI ci) 3))), (1, .ref (q0)), (0, .ref ((ad 300))), (2, .int (nI ci))]) hx hb dL_isSound_217 hl (by decide) rfl (fun ls hl => ?_)
                have L_219 : ∀ (fu : Nat) (kj : Nat), nN σ - kj < fu → (kj ≤ nN σ) → ∀ ls, lv_has ls 8 [(6, .int ((if (f_X2_copyProperty σ (nI ci) 3) = 1 then (if (f_X2_numberOf σ 3) ≤ (f_X2_copyProperty σ (nI ci) 5) then 0 else ((f_X2_numberOf σ 3) - (f_X2_copyProperty σ (nI ci) 5))) else 0))), (5, .int ((if (f_X2_copyProperty σ (nI ci) 3) = 1 then 1 else 0))), (4, .int ((f_X2_copyProperty σ (nI ci) 6))), (3, .int ((f_X2_copyProperty σ (nI ci) 3))), (1, .ref (q0)), (0, .ref ((ad 300))), (2, .int (nI ci)), (7, .int (nI kj))] → W p l e rm_L_isSound s m ([.ref (ad 300)] : List Value).toArray below meth c H locs (0 + 1) (0 + 13) (MQ below lP1 ([.ref (ad 300)] : List Value).toArray s 1 13 (fun _ => False)) (F0 m 219 ls []) := by
                  intro fu_219
                  induction fu_219 with
                  | zero => intro kj hm; exact absurd hm (Nat.not_lt_zero _)
                  | succ fu_219 ih_219 =>
                    intro kj hm hbk ls hl
                    refine lv_iload hx hb dL_isSound_219 (lv_at hl 7 rfl) ?_
                    refine lv_aload_n hx hb dL_isSound_221 rfl (lv_at hl 5 rfl) ?_
                    refine lv_iconst (v := 1) hx hb dL_isSound_222 (by decide) ?_
                    refine lb_P (As := [.int 1]) (rest := [.int (nI kj)]) hx hb hml hown hts hK hI hB hEH (cl_count l 1 hok) (kV_X3_count hts ml_L_8 ⟨(Nat.le_of_ble_eq_true rfl), (Nat.le_of_ble_eq_true rfl)⟩) rfl hl.1 rfl (Nat.le_of_ble_eq_true rfl) dL_isSound_223 (Nat.le_of_ble_eq_true rfl) (Nat.le_of_ble_eq_true rfl) ?_
                    refine lv_icmp_geN (kj) (nN σ) hx hb rfl (num_1 hok) (by omega) (by omega) (tgt := 298) dL_isSound_226 (by decide) (fun c_226 => ?_) (fun c_226 => ?_)
                    · refine lv_iinc (v := nI (ci + 1)) (lv' := [(2, .int (nI (ci + 1))), (6, .int ((if (f_X2_copyProperty σ (nI ci) 3) = 1 then (if (f_X2_numberOf σ 3) ≤ (f_X2_copyProperty σ (nI ci) 5) then 0 else ((f_X2_numberOf σ 3) - (f_X2_copyProperty σ (nI ci) 5))) else 0))), (5, .int ((if (f_X2_copyProperty σ (nI ci) 3) = 1 then 1 else 0))), (4, .int ((f_X2_copyProperty σ (nI ci) 6))), (3, .int ((f_X2_copyProperty σ (nI ci) 3))), (1, .ref (q0)), (0, .ref ((ad 300))), (7, .int (nI kj))]) hx hb dL_isSound_298 hl (k := 6) rfl (nI_c1 _) (by decide) rfl (fun ls hl => ?_)
                      refine lv_goto (tgt := 7) hx hb dL_isSound_301 (by decide) ?_
                      exact ih_7 (ci + 1) (upd ω (stt σ ci) ((ω (stt σ ci)) + 1)) (by omega) (by omega) (((br_n c_13 (br_n c_199 rfl)) : g_L_isSound_7 σ fu_7 (ci + 1) (upd ω (stt σ ci) ((ω (stt σ ci)) + 1)) = g_L_isSound_7 σ (fu_7 + 1) ci ω).trans hg_7) _ _ hP hD hS ls (lv_sub hl [5, 6, 0] rfl)
                    refine lv_aload_n hx hb dL_isSound_229 rfl (lv_at hl 5 rfl) ?_
                    refine lv_iload hx hb dL_isSound_230 (lv_at hl 7 rfl) ?_
                    refine lv_iconst (v := 0) hx hb dL_isSound_232 (by decide) ?_
                    refine lb_P (As := [.int (nI kj), .int 0]) (rest := []) hx hb hml hown hts hK hI hB hEH (cl_copy l (nI kj) 0 hok) (kV_X3_copy hts ml_L_14 ⟨(Nat.le_of_ble_eq_true rfl), (Nat.le_of_ble_eq_true rfl)⟩) rfl hl.1 rfl (Nat.le_of_ble_eq_true rfl) dL_isSound_233 (Nat.le_of_ble_eq_true rfl) (Nat.le_of_ble_eq_true rfl) ?_
                    refine lv_aload_n hx hb dL_isSound_236 rfl (lv_at hl 5 rfl) ?_
                    refine lv_iload_n hx hb dL_isSound_237 rfl (lv_at hl 6 rfl) ?_
                    refine lv_iconst (v := 0) hx hb dL_isSound_238 (by decide) ?_
                    refine lb_P (As := [.int (nI ci), .int 0]) (rest := [.int ((f_X2_copyProperty σ (nI kj) 0))]) hx hb hml hown hts hK hI hB hEH (cl_copy l (nI ci) 0 hok) (kV_X3_copy hts ml_L_14 ⟨(Nat.le_of_ble_eq_true rfl), (Nat.le_of_ble_eq_true rfl)⟩) rfl hl.1 rfl (Nat.le_of_ble_eq_true rfl) dL_isSound_239 (Nat.le_of_ble_eq_true rfl) (Nat.le_of_ble_eq_true rfl) ?_
                    refine lv_icmp_ne (tgt := 292) hx hb dL_isSound_242 (by decide) (fun c_242 => ?_) (fun c_242 => ?_)
                    · refine lv_iinc (v := nI (kj + 1)) (lv' := [(7, .int (nI (kj + 1))), (6, .int ((if (f_X2_copyProperty σ (nI ci) 3) = 1 then (if (f_X2_numberOf σ 3) ≤ (f_X2_copyProperty σ (nI ci) 5) then 0 else ((f_X2_numberOf σ 3) - (f_X2_copyProperty σ (nI ci) 5))) else 0))), (5, .int ((if (f_X2_copyProperty σ (nI ci) 3) = 1 then 1 else 0))), (4, .int ((f_X2_copyProperty σ (nI ci) 6))), (3, .int ((f_X2_copyProperty σ (nI ci) 3))), (1, .ref (q0)), (0, .ref ((ad 300))), (2, .int (nI ci))]) hx hb dL_isSound_292 hl (k := 7) rfl (nI_c1 _) (by decide) rfl (fun ls hl => ?_)
                      refine lv_goto (tgt := 219) hx hb dL_isSound_295 (by decide) ?_
                      exact ih_219 (kj + 1) (by omega) (by omega) ls (lv_sub hl [1, 2, 3, 4, 5, 6, 7, 0] rfl)
                    refine lv_aload_n hx hb dL_isSound_245 rfl (lv_at hl 5 rfl) ?_
                    refine lv_iload hx hb dL_isSound_246 (lv_at hl 7 rfl) ?_
                    refine lv_iconst (v := 1) hx hb dL_isSound_248 (by decide) ?_
                    refine lb_P (As := [.int (nI kj), .int 1]) (rest := []) hx hb hml hown hts hK hI hB hEH (cl_copy l (nI kj) 1 hok) (kV_X3_copy hts ml_L_14 ⟨(Nat.le_of_ble_eq_true rfl), (Nat.le_of_ble_eq_true rfl)⟩) rfl hl.1 rfl (Nat.le_of_ble_eq_true rfl) dL_isSound_249 (Nat.le_of_ble_eq_true rfl) (Nat.le_of_ble_eq_true rfl) ?_
                    refine lv_aload_n hx hb dL_isSound_252 rfl (lv_at hl 5 rfl) ?_
                    refine lv_iload_n hx hb dL_isSound_253 rfl (lv_at hl 6 rfl) ?_
                    refine lv_iconst (v := 1) hx hb dL_isSound_254 (by decide) ?_
                    refine lb_P (As := [.int (nI ci), .int 1]) (rest := [.int ((f_X2_copyProperty σ (nI kj) 1))]) hx hb hml hown hts hK hI hB hEH (cl_copy l (nI ci) 1 hok) (kV_X3_copy hts ml_L_14 ⟨(Nat.le_of_ble_eq_true rfl), (Nat.le_of_ble_eq_true rfl)⟩) rfl hl.1 rfl (Nat.le_of_ble_eq_true rfl) dL_isSound_255 (Nat.le_of_ble_eq_true rfl) (Nat.le_of_ble_eq_true rfl) ?_
                    refine lv_icmp_gt (tgt := 292) hx hb dL_isSound_258 (by decide) (fun c_258 => ?_) (fun c_258 => ?_)
                    · refine lv_iinc (v := nI (kj + 1)) (lv' := [(7, .int (nI (kj + 1))), (6, .int ((if (f_X2_copyProperty σ (nI ci) 3) = 1 then (if (f_X2_numberOf σ 3) ≤ (f_X2_copyProperty σ (nI ci) 5) then 0 else ((f_X2_numberOf σ 3) - (f_X2_copyProperty σ (nI ci) 5))) else 0))), (5, .int ((if (f_X2_copyProperty σ (nI ci) 3) = 1 then 1 else 0))), (4, .int ((f_X2_copyProperty σ (nI ci) 6))), (3, .int ((f_X2_copyProperty σ (nI ci) 3))), (1, .ref (q0)), (0, .ref ((ad 300))), (2, .int (nI ci))]) hx hb dL_isSound_292 hl (k := 7) rfl (nI_c1 _) (by decide) rfl (fun ls hl => ?_)
                      refine lv_goto (tgt := 219) hx hb dL_isSound_295 (by decide) ?_
                      exact ih_219 (kj + 1) (by omega) (by omega) ls (lv_sub hl [1, 2, 3, 4, 5, 6, 7, 0] rfl)
                    refine lv_aload_n hx hb dL_isSound_261 rfl (lv_at hl 5 rfl) ?_
                    refine lv_iload hx hb dL_isSound_262 (lv_at hl 7 rfl) ?_
                    refine lv_iconst (v := 2) hx hb dL_isSound_264 (by decide) ?_
                    refine lb_P (As := [.int (nI kj), .int 2]) (rest := []) hx hb hml hown hts hK hI hB hEH (cl_copy l (nI kj) 2 hok) (kV_X3_copy hts ml_L_14 ⟨(Nat.le_of_ble_eq_true rfl), (Nat.le_of_ble_eq_true rfl)⟩) rfl hl.1 rfl (Nat.le_of_ble_eq_true rfl) dL_isSound_265 (Nat.le_of_ble_eq_true rfl) (Nat.le_of_ble_eq_true rfl) ?_
                    refine lv_aload_n hx hb dL_isSound_268 rfl (lv_at hl 5 rfl) ?_
                    refine lv_iload_n hx hb dL_isSound_269 rfl (lv_at hl 6 rfl) ?_
                    refine lv_iconst (v := 2) hx hb dL_isSound_270 (by decide) ?_
                    refine lb_P (As := [.int (nI ci), .int 2]) (rest := [.int ((f_X2_copyProperty σ (nI kj) 2))]) hx hb hml hown hts hK hI hB hEH (cl_copy l (nI ci) 2 hok) (kV_X3_copy hts ml_L_14 ⟨(Nat.le_of_ble_eq_true rfl), (Nat.le_of_ble_eq_true rfl)⟩) rfl hl.1 rfl (Nat.le_of_ble_eq_true rfl) dL_isSound_271 (Nat.le_of_ble_eq_true rfl) (Nat.le_of_ble_eq_true rfl) ?_
                    refine lv_icmp_lt (tgt := 292) hx hb dL_isSound_274 (by decide) (fun c_274 => ?_) (fun c_274 => ?_)
                    · refine lv_iinc (v := nI (kj + 1)) (lv' := [(7, .int (nI (kj + 1))), (6, .int ((if (f_X2_copyProperty σ (nI ci) 3) = 1 then (if (f_X2_numberOf σ 3) ≤ (f_X2_copyProperty σ (nI ci) 5) then 0 else ((f_X2_numberOf σ 3) - (f_X2_copyProperty σ (nI ci) 5))) else 0))), (5, .int ((if (f_X2_copyProperty σ (nI ci) 3) = 1 then 1 else 0))), (4, .int ((f_X2_copyProperty σ (nI ci) 6))), (3, .int ((f_X2_copyProperty σ (nI ci) 3))), (1, .ref (q0)), (0, .ref ((ad 300))), (2, .int (nI ci))]) hx hb dL_isSound_292 hl (k := 7) rfl (nI_c1 _) (by decide) rfl (fun ls hl => ?_)
                      refine lv_goto (tgt := 219) hx hb dL_isSound_295 (by decide) ?_
                      exact ih_219 (kj + 1) (by omega) (by omega) ls (lv_sub hl [1, 2, 3, 4, 5, 6, 7, 0] rfl)
                    refine lv_aload_n hx hb dL_isSound_277 rfl (lv_at hl 5 rfl) ?_
                    refine lv_iload hx hb dL_isSound_278 (lv_at hl 7 rfl) ?_
                    refine lv_bipush (v := 6) hx hb dL_isSound_280 (by decide) ?_
                    refine lb_P (As := [.int (nI kj), .int 6]) (rest := []) hx hb hml hown hts hK hI hB hEH (cl_copy l (nI kj) 6 hok) (kV_X3_copy hts ml_L_14 ⟨(Nat.le_of_ble_eq_true rfl), (Nat.le_of_ble_eq_true rfl)⟩) rfl hl.1 rfl (Nat.le_of_ble_eq_true rfl) dL_isSound_282 (Nat.le_of_ble_eq_true rfl) (Nat.le_of_ble_eq_true rfl) ?_
                    refine lv_iload hx hb dL_isSound_285 (lv_at hl 2 rfl) ?_
                    refine lv_icmp_le (tgt := 292) hx hb dL_isSound_287 (by decide) (fun c_287 => ?_) (fun q => absurd (hF_27 ci kj c_13 c_199 c_226 c_242 c_258 c_274) q)
                    refine lv_iinc (v := nI (kj + 1)) (lv' := [(7, .int (nI (kj + 1))), (6, .int ((if (f_X2_copyProperty σ (nI ci) 3) = 1 then (if (f_X2_numberOf σ 3) ≤ (f_X2_copyProperty σ (nI ci) 5) then 0 else ((f_X2_numberOf σ 3) - (f_X2_copyProperty σ (nI ci) 5))) else 0))), (5, .int ((if (f_X2_copyProperty σ (nI ci) 3) = 1 then 1 else 0))), (4, .int ((f_X2_copyProperty σ (nI ci) 6))), (3, .int ((f_X2_copyProperty σ (nI ci) 3))), (1, .ref (q0)), (0, .ref ((ad 300))), (2, .int (nI ci))]) hx hb dL_isSound_292 hl (k := 7) rfl (nI_c1 _) (by decide) rfl (fun ls hl => ?_)
                    refine lv_goto (tgt := 219) hx hb dL_isSound_295 (by decide) ?_
                    exact ih_219 (kj + 1) (by omega) (by omega) ls (lv_sub hl [1, 2, 3, 4, 5, 6, 7, 0] rfl)
                exact L_219 (nN σ + 1) 0 (by omega) (by omega) ls (lv_sub hl [1, 2, 3, 4, 5, 6, 7, 0] rfl)
              have c_199 := b10_n q
              have hrn := (hF_28 ci c_13 c_199)
              have hrn2 := hrn.2
              refine lv_aload_n hx hb dL_isSound_202 rfl (lv_at hl 4 rfl) ?_
              refine lv_iconst (v := 5) hx hb dL_isSound_203 (by decide) ?_
              refine lv_aload_n hx hb dL_isSound_204 rfl (lv_at hl 5 rfl) ?_
              refine lv_iload_n hx hb dL_isSound_205 rfl (lv_at hl 6 rfl) ?_
              refine lv_iconst (v := 4) hx hb dL_isSound_206 (by decide) ?_
              refine lb_P (As := [.int (nI ci), .int 4]) (rest := [.int (5), .ref (q0)]) hx hb hml hown hts hK hI hB hEH (cl_copy l (nI ci) 4 hok) (kV_X3_copy hts ml_L_14 ⟨(Nat.le_of_ble_eq_true rfl), (Nat.le_of_ble_eq_true rfl)⟩) rfl hl.1 rfl (Nat.le_of_ble_eq_true rfl) dL_isSound_207 (Nat.le_of_ble_eq_true rfl) (Nat.le_of_ble_eq_true rfl) ?_
              refine lv_iaddN (x := 5) (y := rOf σ ci) hx hb rfl hrn.1 dL_isSound_210 ?_
              refine lv_dup2_11 hx hb dL_isSound_211 rfl rfl ?_
              refine ar_ld hx hb hK hP ((5 + (rOf σ ci))) rfl (by omega) (v := (upd ω (stt σ ci) ((ω (stt σ ci)) + 1)) (5 + (rOf σ ci))) rfl dL_isSound_212 ?_
              refine lv_iconst (v := 1) hx hb dL_isSound_213 (by decide) ?_
              refine lv_iadd hx hb dL_isSound_214 ?_
              refine iniW hx hb hKa hP hD hS 0 rfl ((5 + (rOf σ ci))) rfl (by omega) (by decide) dL_isSound_215 (fun H locs hP hD hS => ?_)
              have hP : va_P D vwCl [(q0, .inl (cI, 13, .inl (upd (upd ω (stt σ ci) ((ω (stt σ ci)) + 1)) (5 + (rOf σ ci)) (((upd ω (stt σ ci) ((ω (stt σ ci)) + 1)) (5 + (rOf σ ci))) + 1))))] H := hP
              have hD : va_D (fun q => s.heap.size ≤ q) [(q0, .inl (cI, 13, .inl (upd (upd ω (stt σ ci) ((ω (stt σ ci)) + 1)) (5 + (rOf σ ci)) (((upd ω (stt σ ci) ((ω (stt σ ci)) + 1)) (5 + (rOf σ ci))) + 1))))] := hD
              have hB : lB D cI cR ad σ H := hB0.keep hI (fun q h => hS.2.1 q h (Nat.not_le.mpr h))
              have hEH : lE v ad s H := lE_new hE hN hS.1 (fun q h => hS.2.1 q h (Nat.not_le.mpr h))
              refine lv_iconst (v := 0) hx hb dL_isSound_216 (by decide) ?_
              refine lv_istore (lv' := [(7, .int (0)), (6, .int ((if (f_X2_copyProperty σ (nI ci) 3) = 1 then (if (f_X2_numberOf σ 3) ≤ (f_X2_copyProperty σ (nI ci) 5) then 0 else ((f_X2_numberOf σ 3) - (f_X2_copyProperty σ (nI ci) 5))) else 0))), (5, .int ((if (f_X2_copyProperty σ (nI ci) 3) = 1 then 1 else 0))), (4, .int ((f_X2_copyProperty σ (nI ci) 6))), (3, .int ((f_X2_copyProperty σ (nI ci) 3))), (1, .ref (q0)), (0, .ref ((ad 300))), (2, .int (nI ci))]) hx hb dL_isSound_217 hl (by decide) rfl (fun ls hl => ?_)
              have L_219 : ∀ (fu : Nat) (kj : Nat), nN σ - kj < fu → (kj ≤ nN σ) → ∀ ls, lv_has ls 8 [(6, .int ((if (f_X2_copyProperty σ (nI ci) 3) = 1 then (if (f_X2_numberOf σ 3) ≤ (f_X2_copyProperty σ (nI ci) 5) then 0 else ((f_X2_numberOf σ 3) - (f_X2_copyProperty σ (nI ci) 5))) else 0))), (5, .int ((if (f_X2_copyProperty σ (nI ci) 3) = 1 then 1 else 0))), (4, .int ((f_X2_copyProperty σ (nI ci) 6))), (3, .int ((f_X2_copyProperty σ (nI ci) 3))), (1, .ref (q0)), (0, .ref ((ad 300))), (2, .int (nI ci)), (7, .int (nI kj))] → W p l e rm_L_isSound s m ([.ref (ad 300)] : List Value).toArray below meth c H locs (0 + 1) (0 + 13) (MQ below lP1 ([.ref (ad 300)] : List Value).toArray s 1 13 (fun _ => False)) (F0 m 219 ls []) := by
                intro fu_219
                induction fu_219 with
                | zero => intro kj hm; exact absurd hm (Nat.not_lt_zero _)
                | succ fu_219 ih_219 =>
                  intro kj hm hbk ls hl
                  refine lv_iload hx hb dL_isSound_219 (lv_at hl 7 rfl) ?_
                  refine lv_aload_n hx hb dL_isSound_221 rfl (lv_at hl 5 rfl) ?_
                  refine lv_iconst (v := 1) hx hb dL_isSound_222 (by decide) ?_
                  refine lb_P (As := [.int 1]) (rest := [.int (nI kj)]) hx hb hml hown hts hK hI hB hEH (cl_count l 1 hok) (kV_X3_count hts ml_L_8 ⟨(Nat.le_of_ble_eq_true rfl), (Nat.le_of_ble_eq_true rfl)⟩) rfl hl.1 rfl (Nat.le_of_ble_eq_true rfl) dL_isSound_223 (Nat.le_of_ble_eq_true rfl) (Nat.le_of_ble_eq_true rfl) ?_
                  refine lv_icmp_geN (kj) (nN σ) hx hb rfl (num_1 hok) (by omega) (by omega) (tgt := 298) dL_isSound_226 (by decide) (fun c_226 => ?_) (fun c_226 => ?_)
                  · refine lv_iinc (v := nI (ci + 1)) (lv' := [(2, .int (nI (ci + 1))), (6, .int ((if (f_X2_copyProperty σ (nI ci) 3) = 1 then (if (f_X2_numberOf σ 3) ≤ (f_X2_copyProperty σ (nI ci) 5) then 0 else ((f_X2_numberOf σ 3) - (f_X2_copyProperty σ (nI ci) 5))) else 0))), (5, .int ((if (f_X2_copyProperty σ (nI ci) 3) = 1 then 1 else 0))), (4, .int ((f_X2_copyProperty σ (nI ci) 6))), (3, .int ((f_X2_copyProperty σ (nI ci) 3))), (1, .ref (q0)), (0, .ref ((ad 300))), (7, .int (nI kj))]) hx hb dL_isSound_298 hl (k := 6) rfl (nI_c1 _) (by decide) rfl (fun ls hl => ?_)
                    refine lv_goto (tgt := 7) hx hb dL_isSound_301 (by decide) ?_
                    exact ih_7 (ci + 1) (upd (upd ω (stt σ ci) ((ω (stt σ ci)) + 1)) (5 + (rOf σ ci)) (((upd ω (stt σ ci) ((ω (stt σ ci)) + 1)) (5 + (rOf σ ci))) + 1)) (by omega) (by omega) (((br_n c_13 (br_p c_199 rfl)) : g_L_isSound_7 σ fu_7 (ci + 1) (upd (upd ω (stt σ ci) ((ω (stt σ ci)) + 1)) (5 + (rOf σ ci)) (((upd ω (stt σ ci) ((ω (stt σ ci)) + 1)) (5 + (rOf σ ci))) + 1)) = g_L_isSound_7 σ (fu_7 + 1) ci ω).trans hg_7) _ _ hP hD hS ls (lv_sub hl [5, 6, 0] rfl)
                  refine lv_aload_n hx hb dL_isSound_229 rfl (lv_at hl 5 rfl) ?_
                  refine lv_iload hx hb dL_isSound_230 (lv_at hl 7 rfl) ?_
                  refine lv_iconst (v := 0) hx hb dL_isSound_232 (by decide) ?_
                  refine lb_P (As := [.int (nI kj), .int 0]) (rest := []) hx hb hml hown hts hK hI hB hEH (cl_copy l (nI kj) 0 hok) (kV_X3_copy hts ml_L_14 ⟨(Nat.le_of_ble_eq_true rfl), (Nat.le_of_ble_eq_true rfl)⟩) rfl hl.1 rfl (Nat.le_of_ble_eq_true rfl) dL_isSound_233 (Nat.le_of_ble_eq_true rfl) (Nat.le_of_ble_eq_true rfl) ?_
                  refine lv_aload_n hx hb dL_isSound_236 rfl (lv_at hl 5 rfl) ?_
                  refine lv_iload_n hx hb dL_isSound_237 rfl (lv_at hl 6 rfl) ?_
                  refine lv_iconst (v := 0) hx hb dL_isSound_238 (by decide) ?_
                  refine lb_P (As := [.int (nI ci), .int 0]) (rest := [.int ((f_X2_copyProperty σ (nI kj) 0))]) hx hb hml hown hts hK hI hB hEH (cl_copy l (nI ci) 0 hok) (kV_X3_copy hts ml_L_14 ⟨(Nat.le_of_ble_eq_true rfl), (Nat.le_of_ble_eq_true rfl)⟩) rfl hl.1 rfl (Nat.le_of_ble_eq_true rfl) dL_isSound_239 (Nat.le_of_ble_eq_true rfl) (Nat.le_of_ble_eq_true rfl) ?_
                  refine lv_icmp_ne (tgt := 292) hx hb dL_isSound_242 (by decide) (fun c_242 => ?_) (fun c_242 => ?_)
                  · refine lv_iinc (v := nI (kj + 1)) (lv' := [(7, .int (nI (kj + 1))), (6, .int ((if (f_X2_copyProperty σ (nI ci) 3) = 1 then (if (f_X2_numberOf σ 3) ≤ (f_X2_copyProperty σ (nI ci) 5) then 0 else ((f_X2_numberOf σ 3) - (f_X2_copyProperty σ (nI ci) 5))) else 0))), (5, .int ((if (f_X2_copyProperty σ (nI ci) 3) = 1 then 1 else 0))), (4, .int ((f_X2_copyProperty σ (nI ci) 6))), (3, .int ((f_X2_copyProperty σ (nI ci) 3))), (1, .ref (q0)), (0, .ref ((ad 300))), (2, .int (nI ci))]) hx hb dL_isSound_292 hl (k := 7) rfl (nI_c1 _) (by decide) rfl (fun ls hl => ?_)
                    refine lv_goto (tgt := 219) hx hb dL_isSound_295 (by decide) ?_
                    exact ih_219 (kj + 1) (by omega) (by omega) ls (lv_sub hl [1, 2, 3, 4, 5, 6, 7, 0] rfl)
                  refine lv_aload_n hx hb dL_isSound_245 rfl (lv_at hl 5 rfl) ?_
                  refine lv_iload hx hb dL_isSound_246 (lv_at hl 7 rfl) ?_
                  refine lv_iconst (v := 1) hx hb dL_isSound_248 (by decide) ?_
                  refine lb_P (As := [.int (nI kj), .int 1]) (rest := []) hx hb hml hown hts hK hI hB hEH (cl_copy l (nI kj) 1 hok) (kV_X3_copy hts ml_L_14 ⟨(Nat.le_of_ble_eq_true rfl), (Nat.le_of_ble_eq_true rfl)⟩) rfl hl.1 rfl (Nat.le_of_ble_eq_true rfl) dL_isSound_249 (Nat.le_of_ble_eq_true rfl) (Nat.le_of_ble_eq_true rfl) ?_
                  refine lv_aload_n hx hb dL_isSound_252 rfl (lv_at hl 5 rfl) ?_
                  refine lv_iload_n hx hb dL_isSound_253 rfl (lv_at hl 6 rfl) ?_
                  refine lv_iconst (v := 1) hx hb dL_isSound_254 (by decide) ?_
                  refine lb_P (As := [.int (nI ci), .int 1]) (rest := [.int ((f_X2_copyProperty σ (nI kj) 1))]) hx hb hml hown hts hK hI hB hEH (cl_copy l (nI ci) 1 hok) (kV_X3_copy hts ml_L_14 ⟨(Nat.le_of_ble_eq_true rfl), (Nat.le_of_ble_eq_true rfl)⟩) rfl hl.1 rfl (Nat.le_of_ble_eq_true rfl) dL_isSound_255 (Nat.le_of_ble_eq_true rfl) (Nat.le_of_ble_eq_true rfl) ?_
                  refine lv_icmp_gt (tgt := 292) hx hb dL_isSound_258 (by decide) (fun c_258 => ?_) (fun c_258 => ?_)
                  · refine lv_iinc (v := nI (kj + 1)) (lv' := [(7, .int (nI (kj + 1))), (6, .int ((if (f_X2_copyProperty σ (nI ci) 3) = 1 then (if (f_X2_numberOf σ 3) ≤ (f_X2_copyProperty σ (nI ci) 5) then 0 else ((f_X2_numberOf σ 3) - (f_X2_copyProperty σ (nI ci) 5))) else 0))), (5, .int ((if (f_X2_copyProperty σ (nI ci) 3) = 1 then 1 else 0))), (4, .int ((f_X2_copyProperty σ (nI ci) 6))), (3, .int ((f_X2_copyProperty σ (nI ci) 3))), (1, .ref (q0)), (0, .ref ((ad 300))), (2, .int (nI ci))]) hx hb dL_isSound_292 hl (k := 7) rfl (nI_c1 _) (by decide) rfl (fun ls hl => ?_)
                    refine lv_goto (tgt := 219) hx hb dL_isSound_295 (by decide) ?_
                    exact ih_219 (kj + 1) (by omega) (by omega) ls (lv_sub hl [1, 2, 3, 4, 5, 6, 7, 0] rfl)
                  refine lv_aload_n hx hb dL_isSound_261 rfl (lv_at hl 5 rfl) ?_
                  refine lv_iload hx hb dL_isSound_262 (lv_at hl 7 rfl) ?_
                  refine lv_iconst (v := 2) hx hb dL_isSound_264 (by decide) ?_
                  refine lb_P (As := [.int (nI kj), .int 2]) (rest := []) hx hb hml hown hts hK hI hB hEH (cl_copy l (nI kj) 2 hok) (kV_X3_copy hts ml_L_14 ⟨(Nat.le_of_ble_eq_true rfl), (Nat.le_of_ble_eq_true rfl)⟩) rfl hl.1 rfl (Nat.le_of_ble_eq_true rfl) dL_isSound_265 (Nat.le_of_ble_eq_true rfl) (Nat.le_of_ble_eq_true rfl) ?_
                  refine lv_aload_n hx hb dL_isSound_268 rfl (lv_at hl 5 rfl) ?_
                  refine lv_iload_n hx hb dL_isSound_269 rfl (lv_at hl 6 rfl) ?_
                  refine lv_iconst (v := 2) hx hb dL_isSound_270 (by decide) ?_
                  refine lb_P (As := [.int (nI ci), .int 2]) (rest := [.int ((f_X2_copyProperty σ (nI kj) 2))]) hx hb hml hown hts hK hI hB hEH (cl_copy l (nI ci) 2 hok) (kV_X3_copy hts ml_L_14 ⟨(Nat.le_of_ble_eq_true rfl), (Nat.le_of_ble_eq_true rfl)⟩) rfl hl.1 rfl (Nat.le_of_ble_eq_true rfl) dL_isSound_271 (Nat.le_of_ble_eq_true rfl) (Nat.le_of_ble_eq_true rfl) ?_
                  refine lv_icmp_lt (tgt := 292) hx hb dL_isSound_274 (by decide) (fun c_274 => ?_) (fun c_274 => ?_)
                  · refine lv_iinc (v := nI (kj + 1)) (lv' := [(7, .int (nI (kj + 1))), (6, .int ((if (f_X2_copyProperty σ (nI ci) 3) = 1 then (if (f_X2_numberOf σ 3) ≤ (f_X2_copyProperty σ (nI ci) 5) then 0 else ((f_X2_numberOf σ 3) - (f_X2_copyProperty σ (nI ci) 5))) else 0))), (5, .int ((if (f_X2_copyProperty σ (nI ci) 3) = 1 then 1 else 0))), (4, .int ((f_X2_copyProperty σ (nI ci) 6))), (3, .int ((f_X2_copyProperty σ (nI ci) 3))), (1, .ref (q0)), (0, .ref ((ad 300))), (2, .int (nI ci))]) hx hb dL_isSound_292 hl (k := 7) rfl (nI_c1 _) (by decide) rfl (fun ls hl => ?_)
                    refine lv_goto (tgt := 219) hx hb dL_isSound_295 (by decide) ?_
                    exact ih_219 (kj + 1) (by omega) (by omega) ls (lv_sub hl [1, 2, 3, 4, 5, 6, 7, 0] rfl)
                  refine lv_aload_n hx hb dL_isSound_277 rfl (lv_at hl 5 rfl) ?_
                  refine lv_iload hx hb dL_isSound_278 (lv_at hl 7 rfl) ?_
                  refine lv_bipush (v := 6) hx hb dL_isSound_280 (by decide) ?_
                  refine lb_P (As := [.int (nI kj), .int 6]) (rest := []) hx hb hml hown hts hK hI hB hEH (cl_copy l (nI kj) 6 hok) (kV_X3_copy hts ml_L_14 ⟨(Nat.le_of_ble_eq_true rfl), (Nat.le_of_ble_eq_true rfl)⟩) rfl hl.1 rfl (Nat.le_of_ble_eq_true rfl) dL_isSound_282 (Nat.le_of_ble_eq_true rfl) (Nat.le_of_ble_eq_true rfl) ?_
                  refine lv_iload hx hb dL_isSound_285 (lv_at hl 2 rfl) ?_
                  refine lv_icmp_le (tgt := 292) hx hb dL_isSound_287 (by decide) (fun c_287 => ?_) (fun q => absurd (hF_29 ci kj c_13 c_199 c_226 c_242 c_258 c_274) q)
                  refine lv_iinc (v := nI (kj + 1)) (lv' := [(7, .int (nI (kj + 1))), (6, .int ((if (f_X2_copyProperty σ (nI ci) 3) = 1 then (if (f_X2_numberOf σ 3) ≤ (f_X2_copyProperty σ (nI ci) 5) then 0 else ((f_X2_numberOf σ 3) - (f_X2_copyProperty σ (nI ci) 5))) else 0))), (5, .int ((if (f_X2_copyProperty σ (nI ci) 3) = 1 then 1 else 0))), (4, .int ((f_X2_copyProperty σ (nI ci) 6))), (3, .int ((f_X2_copyProperty σ (nI ci) 3))), (1, .ref (q0)), (0, .ref ((ad 300))), (2, .int (nI ci))]) hx hb dL_isSound_292 hl (k := 7) rfl (nI_c1 _) (by decide) rfl (fun ls hl => ?_)
                  refine lv_goto (tgt := 219) hx hb dL_isSound_295 (by decide) ?_
                  exact ih_219 (kj + 1) (by omega) (by omega) ls (lv_sub hl [1, 2, 3, 4, 5, 6, 7, 0] rfl)
              exact L_219 (nN σ + 1) 0 (by omega) (by omega) ls (lv_sub hl [1, 2, 3, 4, 5, 6, 7, 0] rfl)
            refine lv_if_lt (tgt := 122) hx hb dL_isSound_115 (by decide) (fun c_115 => ?_) (fun c_115 => ?_)
            · refine lv_iconst (v := 0) hx hb dL_isSound_122 (by decide) ?_
              exact J8 _ (br_p c_115 rfl)
            refine lv_iconst (v := 1) hx hb dL_isSound_118 (by decide) ?_
            refine lv_goto (tgt := 123) hx hb dL_isSound_119 (by decide) ?_
            exact J8 _ (br_n c_115 rfl)
          refine lv_if_lt (tgt := 103) hx hb dL_isSound_96 (by decide) (fun c_96 => ?_) (fun c_96 => ?_)
          · refine lv_iconst (v := 0) hx hb dL_isSound_103 (by decide) ?_
            exact J7 _ (br_p c_96 rfl)
          refine lv_iconst (v := 1) hx hb dL_isSound_99 (by decide) ?_
          refine lv_goto (tgt := 104) hx hb dL_isSound_100 (by decide) ?_
          exact J7 _ (br_n c_96 rfl)
        refine lv_if_eq (tgt := 85) hx hb dL_isSound_53 (by decide) (fun q => ?_) (fun q => ?_)
        · have c_53 := b10_z q
          refine lv_iconst (v := 0) hx hb dL_isSound_85 (by decide) ?_
          exact J6 _ (br_n c_53 rfl)
        have c_53 := b10_n q
        refine lv_aload_n hx hb dL_isSound_56 rfl (lv_at hl 4 rfl) ?_
        refine lv_iconst (v := 3) hx hb dL_isSound_57 (by decide) ?_
        refine lb_P (As := [.int 3]) (rest := []) hx hb hml hown hts hK hI hB hEH (cl_count l 3 hok) (kV_X3_count hts ml_L_8 ⟨(Nat.le_of_ble_eq_true rfl), (Nat.le_of_ble_eq_true rfl)⟩) rfl hl.1 rfl (Nat.le_of_ble_eq_true rfl) dL_isSound_58 (Nat.le_of_ble_eq_true rfl) (Nat.le_of_ble_eq_true rfl) ?_
        refine lv_aload_n hx hb dL_isSound_61 rfl (lv_at hl 4 rfl) ?_
        refine lv_iload_n hx hb dL_isSound_62 rfl (lv_at hl 5 rfl) ?_
        refine lv_iconst (v := 5) hx hb dL_isSound_63 (by decide) ?_
        refine lb_P (As := [.int (nI ci), .int 5]) (rest := [.int ((f_X2_numberOf σ 3))]) hx hb hml hown hts hK hI hB hEH (cl_copy l (nI ci) 5 hok) (kV_X3_copy hts ml_L_14 ⟨(Nat.le_of_ble_eq_true rfl), (Nat.le_of_ble_eq_true rfl)⟩) rfl hl.1 rfl (Nat.le_of_ble_eq_true rfl) dL_isSound_64 (Nat.le_of_ble_eq_true rfl) (Nat.le_of_ble_eq_true rfl) ?_
        refine lv_icmp_le (tgt := 85) hx hb dL_isSound_67 (by decide) (fun c_67 => ?_) (fun c_67 => ?_)
        · refine lv_iconst (v := 0) hx hb dL_isSound_85 (by decide) ?_
          exact J6 _ (br_p c_53 (br_p c_67 rfl))
        refine lv_aload_n hx hb dL_isSound_70 rfl (lv_at hl 4 rfl) ?_
        refine lv_iconst (v := 3) hx hb dL_isSound_71 (by decide) ?_
        refine lb_P (As := [.int 3]) (rest := []) hx hb hml hown hts hK hI hB hEH (cl_count l 3 hok) (kV_X3_count hts ml_L_8 ⟨(Nat.le_of_ble_eq_true rfl), (Nat.le_of_ble_eq_true rfl)⟩) rfl hl.1 rfl (Nat.le_of_ble_eq_true rfl) dL_isSound_72 (Nat.le_of_ble_eq_true rfl) (Nat.le_of_ble_eq_true rfl) ?_
        refine lv_aload_n hx hb dL_isSound_75 rfl (lv_at hl 4 rfl) ?_
        refine lv_iload_n hx hb dL_isSound_76 rfl (lv_at hl 5 rfl) ?_
        refine lv_iconst (v := 5) hx hb dL_isSound_77 (by decide) ?_
        refine lb_P (As := [.int (nI ci), .int 5]) (rest := [.int ((f_X2_numberOf σ 3))]) hx hb hml hown hts hK hI hB hEH (cl_copy l (nI ci) 5 hok) (kV_X3_copy hts ml_L_14 ⟨(Nat.le_of_ble_eq_true rfl), (Nat.le_of_ble_eq_true rfl)⟩) rfl hl.1 rfl (Nat.le_of_ble_eq_true rfl) dL_isSound_78 (Nat.le_of_ble_eq_true rfl) (Nat.le_of_ble_eq_true rfl) ?_
        refine lv_isub hx hb dL_isSound_81 ?_
        refine lv_goto (tgt := 86) hx hb dL_isSound_82 (by decide) ?_
        exact J6 _ (br_p c_53 (br_n c_67 rfl))
      refine lv_icmp_ne (tgt := 48) hx hb dL_isSound_41 (by decide) (fun c_41 => ?_) (fun c_41 => ?_)
      · refine lv_iconst (v := 0) hx hb dL_isSound_48 (by decide) ?_
        exact J5 _ (br_n c_41 rfl)
      refine lv_iconst (v := 1) hx hb dL_isSound_44 (by decide) ?_
      refine lv_goto (tgt := 49) hx hb dL_isSound_45 (by decide) ?_
      exact J5 _ (br_p c_41 rfl)
  exact L_7 (nN σ + 1) 0 (fun _ => 0) (by omega) (by omega) rfl _ _ hP hD hS ls (lv_sub hl [1, 2, 0] rfl)
theorem kS_L_isSound {R : Room} {s : State} {args : Array Value} {own : String} {idx : Nat} {c0 : Cond} (hts : ∀ w ∈ c0 :: W0, w.before args s = true) (hl : Cond.methodLink own idx yL_isSound ∈ W0) (hR : rm_L_isSound.frames + 1 ≤ R.frames ∧ 8 + (8 + 11) + rm_L_isSound.locals ≤ R.locals) : CallB R s args own idx yL_isSound cL_isSound 8 (some .boolean) (Cond.code yL_isSound cL_isSound 8 (some .boolean) :: W0) rm_L_isSound 1 13 1 ∧ (Cond.static yL_isSound).before args s = true := va_cwS 1 hts (gdS hl mst_yL_isSound mini_L mc_yL_isSound) rfl rfl rfl (by decide +kernel) hR

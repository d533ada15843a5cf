/-! ===== what the start gives ===== -/
theorem env_D {s : State} {args : Array Value} (h : ∀ w ∈ W0, w.before args s = true) : ∃ D : va_G, ∀ (c : Nat) (q : vw_C), vwCl[c]? = some q → u_Kn s q.1 q.2.1 q.2.2 (D.1 c) (D.2 c) := by
  obtain ⟨c0, i0, k0⟩ := u_known h inX0 (h _ min_X0)
  obtain ⟨c1, i1, k1⟩ := u_known h inX1 (h _ min_X1)
  obtain ⟨c2, i2, k2⟩ := u_known h inX2 (h _ min_X2)
  obtain ⟨c3, i3, k3⟩ := u_known h inX3 (h _ min_X3)
  refine ⟨(fun c => if c = 0 then c0 else if c = 1 then c1 else if c = 2 then c2 else c3, fun c => if c = 0 then i0 else if c = 1 then i1 else if c = 2 then i2 else i3), fun c q hc => ?_⟩
  match c, hc with
  | 0, hc => cases hc; exact k0
  | 1, hc => cases hc; exact k1
  | 2, hc => cases hc; exact k2
  | 3, hc => cases hc; exact k3
  | c + 4, hc => cases hc
theorem env_I {s : State} {args : Array Value} (h : ∀ w ∈ W0, w.before args s = true) : ∃ cI : ClassId, ArrOfT s cI .int ∧ va_RA s cI .int := by
  obtain ⟨c, k, comp, h1, h2, h3⟩ := Cond.arrayClass_spec (h _ mac_int)
  exact ⟨c, fun n z => ⟨fun k h => (by cases h), k, h2, comp, h3⟩, h1⟩
theorem env_AO {s : State} {args : Array Value} (h0 : ∀ w ∈ lw_tbl, w.before args s = true) : va_AO RX2 s := va_AO.of (A := args) (h0 _ (List.mem_of_getElem? (i := 133) (by decide +kernel)))
theorem env_N {s : State} {args : Array Value} (h0 : ∀ w ∈ lw_tbl, w.before args s = true) : nE s := ⟨va_tabs rfl rfl (h0 _ (List.mem_of_getElem? (i := 69) (by decide +kernel))), va_tabs rfl rfl (h0 _ (List.mem_of_getElem? (i := 71) (by decide +kernel))), va_tabs rfl rfl (h0 _ (List.mem_of_getElem? (i := 73) (by decide +kernel)))⟩
theorem env_low {s : State} {args : Array Value} {A : Nat → Prop} (h0 : ∀ w ∈ lw_tbl, w.before args s = true) (hg : (Jvm.Cond.and given_1 narrow_1).before args s = true) (hA : ∀ a : Nat, a < s.heap.size → ¬ A a) : ∃ t : Nat, va_Z "BookRental$Shop" "SETTING_LOW" "[I" (.ref t) A s s.heap ∧ va_T .int t 4 (fun j => .int (sLow j)) A s s.heap := by
  have hs := flat_of_before _ hg
  obtain ⟨t, e, hT⟩ := va_Tof (args := args) (tm := .static "BookRental$Shop" "SETTING_LOW" "[I") (ty := .int) (N := 4) (f := fun j => .int (sLow j)) (by decide) (hs _ (by decide +kernel)) (va_eqt (z := 4) (hs _ (by decide +kernel))) (fun j hj => by
    rcases (show j = 0 ∨ j = 1 ∨ j = 2 ∨ j = 3 by omega) with rfl | rfl | rfl | rfl
    · exact va_eqt (z := 10) (hs (.eq (.elem (.static "BookRental$Shop" "SETTING_LOW" "[I") (.int 0)) (.int 10)) (by decide +kernel))
    · exact va_eqt (z := 0) (hs (.eq (.elem (.static "BookRental$Shop" "SETTING_LOW" "[I") (.int 1)) (.int 0)) (by decide +kernel))
    · exact va_eqt (z := 1) (hs (.eq (.elem (.static "BookRental$Shop" "SETTING_LOW" "[I") (.int 2)) (.int 1)) (by decide +kernel))
    · exact va_eqt (z := 0) (hs (.eq (.elem (.static "BookRental$Shop" "SETTING_LOW" "[I") (.int 3)) (.int 0)) (by decide +kernel))) hA
  exact ⟨t, va_Zof (args := args) (h0 _ (List.mem_of_getElem? (i := 259) (by decide +kernel))) (h0 _ (W0_in _ mini_X2)) e hA, hT⟩
theorem env_high {s : State} {args : Array Value} {A : Nat → Prop} (h0 : ∀ w ∈ lw_tbl, w.before args s = true) (hg : (Jvm.Cond.and given_1 narrow_1).before args s = true) (hA : ∀ a : Nat, a < s.heap.size → ¬ A a) : ∃ t : Nat, va_Z "BookRental$Shop" "SETTING_HIGH" "[I" (.ref t) A s s.heap ∧ va_T .int t 4 (fun j => .int (sHigh j)) A s s.heap := by
  have hs := flat_of_before _ hg
  obtain ⟨t, e, hT⟩ := va_Tof (args := args) (tm := .static "BookRental$Shop" "SETTING_HIGH" "[I") (ty := .int) (N := 4) (f := fun j => .int (sHigh j)) (by decide) (hs _ (by decide +kernel)) (va_eqt (z := 4) (hs _ (by decide +kernel))) (fun j hj => by
    rcases (show j = 0 ∨ j = 1 ∨ j = 2 ∨ j = 3 by omega) with rfl | rfl | rfl | rfl
    · exact va_eqt (z := 200) (hs (.eq (.elem (.static "BookRental$Shop" "SETTING_HIGH" "[I") (.int 0)) (.int 200)) (by decide +kernel))
    · exact va_eqt (z := 200) (hs (.eq (.elem (.static "BookRental$Shop" "SETTING_HIGH" "[I") (.int 1)) (.int 200)) (by decide +kernel))
    · exact va_eqt (z := 60) (hs (.eq (.elem (.static "BookRental$Shop" "SETTING_HIGH" "[I") (.int 2)) (.int 60)) (by decide +kernel))
    · exact va_eqt (z := 50) (hs (.eq (.elem (.static "BookRental$Shop" "SETTING_HIGH" "[I") (.int 3)) (.int 50)) (by decide +kernel))) hA
  exact ⟨t, va_Zof (args := args) (h0 _ (List.mem_of_getElem? (i := 261) (by decide +kernel))) (h0 _ (W0_in _ mini_X2)) e hA, hT⟩
theorem env_G {s : State} {args : Array Value} {A : Nat → Prop} (h0 : ∀ w ∈ lw_tbl, w.before args s = true) (hg : (Jvm.Cond.and given_1 narrow_1).before args s = true) (hA : ∀ a : Nat, a < s.heap.size → ¬ A a) : ∃ tL tH : Nat, gE tL tH A s s.heap := by
  obtain ⟨t1, a1, b1⟩ := env_low h0 hg hA
  obtain ⟨t2, a2, b2⟩ := env_high h0 hg hA
  exact ⟨t1, t2, a1, b1, a2, b2⟩
theorem env_ref {s : State} {args : Array Value} {t : Term} (h : (Cond.isRef t).before args s = true) : t.eval args s none [] s = some .null ∨ ∃ a : Nat, t.eval args s none [] s = some (.ref a) := by
  cases hv : t.eval args s none [] s with
  | none => simp [Cond.before, Cond.holds, Cond.value, hv] at h
  | some v => cases v <;> first | exact Or.inl rfl | exact Or.inr ⟨_, rfl⟩ | simp [Cond.before, Cond.holds, Cond.value, hv] at h
theorem env_S {s : State} {args : Array Value} {A : Nat → Prop} (h0 : ∀ w ∈ lw_tbl, w.before args s = true) (hg : (Jvm.Cond.and given_1 narrow_1).before args s = true) (hA : ∀ a : Nat, a < s.heap.size → ¬ A a) : ∃ adK adV : Nat → Nat, sE adK adV A s s.heap := by
  have hs := flat_of_before _ hg
  have hex : ∀ i : Nat, i < 5 → (Cond.exactly (.string "BookRental$OrderText" (sIx.getD i 0)) "java/lang/String").before args s = true := by
    intro i hi
    rcases (show i = 0 ∨ i = 1 ∨ i = 2 ∨ i = 3 ∨ i = 4 by omega) with rfl | rfl | rfl | rfl | rfl
    · exact hs (.exactly (.string "BookRental$OrderText" 61) "java/lang/String") (by decide +kernel)
    · exact hs (.exactly (.string "BookRental$OrderText" 67) "java/lang/String") (by decide +kernel)
    · exact hs (.exactly (.string "BookRental$OrderText" 69) "java/lang/String") (by decide +kernel)
    · exact hs (.exactly (.string "BookRental$OrderText" 71) "java/lang/String") (by decide +kernel)
    · exact hs (.exactly (.string "BookRental$OrderText" 73) "java/lang/String") (by decide +kernel)
  have hco : ∀ i : Nat, i < 5 → (Cond.eq (.field (.string "BookRental$OrderText" (sIx.getD i 0)) "java/lang/String" "coder" "B") (.int 0)).before args s = true := by
    intro i hi
    rcases (show i = 0 ∨ i = 1 ∨ i = 2 ∨ i = 3 ∨ i = 4 by omega) with rfl | rfl | rfl | rfl | rfl
    · exact hs (.eq (.field (.string "BookRental$OrderText" 61) "java/lang/String" "coder" "B") (.int 0)) (by decide +kernel)
    · exact hs (.eq (.field (.string "BookRental$OrderText" 67) "java/lang/String" "coder" "B") (.int 0)) (by decide +kernel)
    · exact hs (.eq (.field (.string "BookRental$OrderText" 69) "java/lang/String" "coder" "B") (.int 0)) (by decide +kernel)
    · exact hs (.eq (.field (.string "BookRental$OrderText" 71) "java/lang/String" "coder" "B") (.int 0)) (by decide +kernel)
    · exact hs (.eq (.field (.string "BookRental$OrderText" 73) "java/lang/String" "coder" "B") (.int 0)) (by decide +kernel)
  have har : ∀ i : Nat, i < 5 → (Cond.arrayOf (.field (.string "BookRental$OrderText" (sIx.getD i 0)) "java/lang/String" "value" "[B") .byte).before args s = true := by
    intro i hi
    rcases (show i = 0 ∨ i = 1 ∨ i = 2 ∨ i = 3 ∨ i = 4 by omega) with rfl | rfl | rfl | rfl | rfl
    · exact hs (.arrayOf (.field (.string "BookRental$OrderText" 61) "java/lang/String" "value" "[B") .byte) (by decide +kernel)
    · exact hs (.arrayOf (.field (.string "BookRental$OrderText" 67) "java/lang/String" "value" "[B") .byte) (by decide +kernel)
    · exact hs (.arrayOf (.field (.string "BookRental$OrderText" 69) "java/lang/String" "value" "[B") .byte) (by decide +kernel)
    · exact hs (.arrayOf (.field (.string "BookRental$OrderText" 71) "java/lang/String" "value" "[B") .byte) (by decide +kernel)
    · exact hs (.arrayOf (.field (.string "BookRental$OrderText" 73) "java/lang/String" "value" "[B") .byte) (by decide +kernel)
  have hle : ∀ i : Nat, i < 5 → (Cond.eq (.length (.field (.string "BookRental$OrderText" (sIx.getD i 0)) "java/lang/String" "value" "[B")) (.int (Int32.ofNat (sLen.getD i 0)))).before args s = true := by
    intro i hi
    rcases (show i = 0 ∨ i = 1 ∨ i = 2 ∨ i = 3 ∨ i = 4 by omega) with rfl | rfl | rfl | rfl | rfl
    · exact hs (.eq (.length (.field (.string "BookRental$OrderText" 61) "java/lang/String" "value" "[B")) (.int 4)) (by decide +kernel)
    · exact hs (.eq (.length (.field (.string "BookRental$OrderText" 67) "java/lang/String" "value" "[B")) (.int 4)) (by decide +kernel)
    · exact hs (.eq (.length (.field (.string "BookRental$OrderText" 69) "java/lang/String" "value" "[B")) (.int 3)) (by decide +kernel)
    · exact hs (.eq (.length (.field (.string "BookRental$OrderText" 71) "java/lang/String" "value" "[B")) (.int 4)) (by decide +kernel)
    · exact hs (.eq (.length (.field (.string "BookRental$OrderText" 73) "java/lang/String" "value" "[B")) (.int 4)) (by decide +kernel)
  have hel : ∀ i : Nat, i < 5 → ∀ j : Nat, j < sLen.getD i 0 → (Cond.eq (.elem (.field (.string "BookRental$OrderText" (sIx.getD i 0)) "java/lang/String" "value" "[B") (.int (Int32.ofNat j))) (.int ((sByt.getD i []).getD j 0))).before args s = true := by
    intro i hi j hj
    rcases (show i = 0 ∨ i = 1 ∨ i = 2 ∨ i = 3 ∨ i = 4 by omega) with rfl | rfl | rfl | rfl | rfl
    · rcases (show j = 0 ∨ j = 1 ∨ j = 2 ∨ j = 3 by have : j < 4 := hj; omega) with rfl | rfl | rfl | rfl
      · exact hs (.eq (.elem (.field (.string "BookRental$OrderText" 61) "java/lang/String" "value" "[B") (.int 0)) (.int 114)) (by decide +kernel)
      · exact hs (.eq (.elem (.field (.string "BookRental$OrderText" 61) "java/lang/String" "value" "[B") (.int 1)) (.int 101)) (by decide +kernel)
      · exact hs (.eq (.elem (.field (.string "BookRental$OrderText" 61) "java/lang/String" "value" "[B") (.int 2)) (.int 110)) (by decide +kernel)
      · exact hs (.eq (.elem (.field (.string "BookRental$OrderText" 61) "java/lang/String" "value" "[B") (.int 3)) (.int 116)) (by decide +kernel)
    · rcases (show j = 0 ∨ j = 1 ∨ j = 2 ∨ j = 3 by have : j < 4 := hj; omega) with rfl | rfl | rfl | rfl
      · exact hs (.eq (.elem (.field (.string "BookRental$OrderText" 67) "java/lang/String" "value" "[B") (.int 0)) (.int 98)) (by decide +kernel)
      · exact hs (.eq (.elem (.field (.string "BookRental$OrderText" 67) "java/lang/String" "value" "[B") (.int 1)) (.int 97)) (by decide +kernel)
      · exact hs (.eq (.elem (.field (.string "BookRental$OrderText" 67) "java/lang/String" "value" "[B") (.int 2)) (.int 99)) (by decide +kernel)
      · exact hs (.eq (.elem (.field (.string "BookRental$OrderText" 67) "java/lang/String" "value" "[B") (.int 3)) (.int 107)) (by decide +kernel)
    · rcases (show j = 0 ∨ j = 1 ∨ j = 2 by have : j < 3 := hj; omega) with rfl | rfl | rfl
      · exact hs (.eq (.elem (.field (.string "BookRental$OrderText" 69) "java/lang/String" "value" "[B") (.int 0)) (.int 98)) (by decide +kernel)
      · exact hs (.eq (.elem (.field (.string "BookRental$OrderText" 69) "java/lang/String" "value" "[B") (.int 1)) (.int 117)) (by decide +kernel)
      · exact hs (.eq (.elem (.field (.string "BookRental$OrderText" 69) "java/lang/String" "value" "[B") (.int 2)) (.int 121)) (by decide +kernel)
    · rcases (show j = 0 ∨ j = 1 ∨ j = 2 ∨ j = 3 by have : j < 4 := hj; omega) with rfl | rfl | rfl | rfl
      · exact hs (.eq (.elem (.field (.string "BookRental$OrderText" 71) "java/lang/String" "value" "[B") (.int 0)) (.int 115)) (by decide +kernel)
      · exact hs (.eq (.elem (.field (.string "BookRental$OrderText" 71) "java/lang/String" "value" "[B") (.int 1)) (.int 101)) (by decide +kernel)
      · exact hs (.eq (.elem (.field (.string "BookRental$OrderText" 71) "java/lang/String" "value" "[B") (.int 2)) (.int 108)) (by decide +kernel)
      · exact hs (.eq (.elem (.field (.string "BookRental$OrderText" 71) "java/lang/String" "value" "[B") (.int 3)) (.int 108)) (by decide +kernel)
    · rcases (show j = 0 ∨ j = 1 ∨ j = 2 ∨ j = 3 by have : j < 4 := hj; omega) with rfl | rfl | rfl | rfl
      · exact hs (.eq (.elem (.field (.string "BookRental$OrderText" 73) "java/lang/String" "value" "[B") (.int 0)) (.int 119)) (by decide +kernel)
      · exact hs (.eq (.elem (.field (.string "BookRental$OrderText" 73) "java/lang/String" "value" "[B") (.int 1)) (.int 97)) (by decide +kernel)
      · exact hs (.eq (.elem (.field (.string "BookRental$OrderText" 73) "java/lang/String" "value" "[B") (.int 2)) (.int 105)) (by decide +kernel)
      · exact hs (.eq (.elem (.field (.string "BookRental$OrderText" 73) "java/lang/String" "value" "[B") (.int 3)) (.int 116)) (by decide +kernel)
  have hne : ∀ i j : Nat, i < 5 → j < 5 → i ≠ j → (Cond.not (Cond.eq (.string "BookRental$OrderText" (sIx.getD i 0)) (.string "BookRental$OrderText" (sIx.getD j 0)))).before args s = true ∨ (Cond.not (Cond.eq (.string "BookRental$OrderText" (sIx.getD j 0)) (.string "BookRental$OrderText" (sIx.getD i 0)))).before args s = true := by
    intro i j hi hj hij
    rcases (show i = 0 ∨ i = 1 ∨ i = 2 ∨ i = 3 ∨ i = 4 by omega) with rfl | rfl | rfl | rfl | rfl
    · rcases (show j = 0 ∨ j = 1 ∨ j = 2 ∨ j = 3 ∨ j = 4 by omega) with rfl | rfl | rfl | rfl | rfl
      · exact absurd rfl hij
      · exact Or.inl (hs (.not (.eq (.string "BookRental$OrderText" 61) (.string "BookRental$OrderText" 67))) (by decide +kernel))
      · exact Or.inl (hs (.not (.eq (.string "BookRental$OrderText" 61) (.string "BookRental$OrderText" 69))) (by decide +kernel))
      · exact Or.inl (hs (.not (.eq (.string "BookRental$OrderText" 61) (.string "BookRental$OrderText" 71))) (by decide +kernel))
      · exact Or.inl (hs (.not (.eq (.string "BookRental$OrderText" 61) (.string "BookRental$OrderText" 73))) (by decide +kernel))
    · rcases (show j = 0 ∨ j = 1 ∨ j = 2 ∨ j = 3 ∨ j = 4 by omega) with rfl | rfl | rfl | rfl | rfl
      · exact Or.inr (hs (.not (.eq (.string "BookRental$OrderText" 61) (.string "BookRental$OrderText" 67))) (by decide +kernel))
      · exact absurd rfl hij
      · exact Or.inl (hs (.not (.eq (.string "BookRental$OrderText" 67) (.string "BookRental$OrderText" 69))) (by decide +kernel))
      · exact Or.inl (hs (.not (.eq (.string "BookRental$OrderText" 67) (.string "BookRental$OrderText" 71))) (by decide +kernel))
      · exact Or.inl (hs (.not (.eq (.string "BookRental$OrderText" 67) (.string "BookRental$OrderText" 73))) (by decide +kernel))
    · rcases (show j = 0 ∨ j = 1 ∨ j = 2 ∨ j = 3 ∨ j = 4 by omega) with rfl | rfl | rfl | rfl | rfl
      · exact Or.inr (hs (.not (.eq (.string "BookRental$OrderText" 61) (.string "BookRental$OrderText" 69))) (by decide +kernel))
      · exact Or.inr (hs (.not (.eq (.string "BookRental$OrderText" 67) (.string "BookRental$OrderText" 69))) (by decide +kernel))
      · exact absurd rfl hij
      · exact Or.inl (hs (.not (.eq (.string "BookRental$OrderText" 69) (.string "BookRental$OrderText" 71))) (by decide +kernel))
      · exact Or.inl (hs (.not (.eq (.string "BookRental$OrderText" 69) (.string "BookRental$OrderText" 73))) (by decide +kernel))
    · rcases (show j = 0 ∨ j = 1 ∨ j = 2 ∨ j = 3 ∨ j = 4 by omega) with rfl | rfl | rfl | rfl | rfl
      · exact Or.inr (hs (.not (.eq (.string "BookRental$OrderText" 61) (.string "BookRental$OrderText" 71))) (by decide +kernel))
      · exact Or.inr (hs (.not (.eq (.string "BookRental$OrderText" 67) (.string "BookRental$OrderText" 71))) (by decide +kernel))
      · exact Or.inr (hs (.not (.eq (.string "BookRental$OrderText" 69) (.string "BookRental$OrderText" 71))) (by decide +kernel))
      · exact absurd rfl hij
      · exact Or.inl (hs (.not (.eq (.string "BookRental$OrderText" 71) (.string "BookRental$OrderText" 73))) (by decide +kernel))
    · rcases (show j = 0 ∨ j = 1 ∨ j = 2 ∨ j = 3 ∨ j = 4 by omega) with rfl | rfl | rfl | rfl | rfl
      · exact Or.inr (hs (.not (.eq (.string "BookRental$OrderText" 61) (.string "BookRental$OrderText" 73))) (by decide +kernel))
      · exact Or.inr (hs (.not (.eq (.string "BookRental$OrderText" 67) (.string "BookRental$OrderText" 73))) (by decide +kernel))
      · exact Or.inr (hs (.not (.eq (.string "BookRental$OrderText" 69) (.string "BookRental$OrderText" 73))) (by decide +kernel))
      · exact Or.inr (hs (.not (.eq (.string "BookRental$OrderText" 71) (.string "BookRental$OrderText" 73))) (by decide +kernel))
      · exact absurd rfl hij
  obtain ⟨adK, adV, h1, h2⟩ := vk_Sof (args := args) (N := 5) (tm := fun i => .string "BookRental$OrderText" (sIx.getD i 0)) (len := sLen) (byt := sByt) (fun i _ => by have := sLen_le i; omega) hex hco har hle hel hne hA
  have ht := env_ref (hs (.isRef (.static "jdk/internal/util/Preconditions" "SIOOBE_FORMATTER" "Ljava/util/function/BiFunction;")) (by decide +kernel))
  refine ⟨adK, adV, h1, va_Zof (args := args) (h0 _ (List.mem_of_getElem? (i := 576) (by decide +kernel))) (h0 _ (W0_in _ mini_J0)) (va_eqt (z := 1) (hs (.eq (.static "java/lang/String" "COMPACT_STRINGS" "Z") (.int 1)) (by decide +kernel))) hA, ht.imp (fun q => va_Zof (args := args) (h0 _ (List.mem_of_getElem? (i := 592) (by decide +kernel))) (h0 _ (W0_in _ mini_J3)) q hA) (fun ⟨t, q⟩ => ⟨t, va_Zof (args := args) (h0 _ (List.mem_of_getElem? (i := 592) (by decide +kernel))) (h0 _ (W0_in _ mini_J3)) q hA⟩), fun i hi => ?_⟩
  have h3 := h2 i hi
  rcases (show i = 0 ∨ i = 1 ∨ i = 2 ∨ i = 3 ∨ i = 4 by omega) with rfl | rfl | rfl | rfl | rfl
  · exact vk_R.of (A := args) (h0 _ (List.mem_of_getElem? (i := 562) (by decide +kernel))) h3
  · exact vk_R.of (A := args) (h0 _ (List.mem_of_getElem? (i := 615) (by decide +kernel))) h3
  · exact vk_R.of (A := args) (h0 _ (List.mem_of_getElem? (i := 616) (by decide +kernel))) h3
  · exact vk_R.of (A := args) (h0 _ (List.mem_of_getElem? (i := 617) (by decide +kernel))) h3
  · exact vk_R.of (A := args) (h0 _ (List.mem_of_getElem? (i := 618) (by decide +kernel))) h3
theorem env_R {s : State} {args : Array Value} (h0 : ∀ w ∈ lw_tbl, w.before args s = true) : ∃ cR : ClassId, ArrOfT s cR (.object RX2) ∧ va_RA s cR (.object RX2) := by
  obtain ⟨comp, c, k, h1, _, h3, h4, h5⟩ := Cond.arrayOver_spec (va_AO.use (A := args) (env_AO h0))
  exact ⟨c, fun n z => ⟨(fun k h => by cases h), k, h3, comp, h4⟩, k, comp, h3, h4, h1, h5⟩
theorem env_K {s : State} {args : Array Value} (h0 : ∀ w ∈ lw_tbl, w.before args s = true) : ∃ (D : va_G) (cI cR : ClassId), va_K D vwCl (kR cI cR) s := by
  have h : ∀ w ∈ W0, w.before args s = true := fun w hw => h0 w (W0_in w hw)
  obtain ⟨D, hD⟩ := env_D h
  obtain ⟨cI, i1, i2⟩ := env_I h
  obtain ⟨cR, r1, r2⟩ := env_R h0
  refine ⟨D, cI, cR, hD, fun k q hk => ?_⟩
  match k, hk with
  | 0, hk => cases hk; exact ⟨i1, i2⟩
  | 1, hk => cases hk; exact ⟨r1, r2⟩
  | k + 2, hk => cases hk
